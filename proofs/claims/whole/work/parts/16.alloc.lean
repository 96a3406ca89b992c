/-! making cells -/
theorem va_RA_inj {U : State} {c c' : ClassId} {ty : FieldType} (h1 : va_RA U c ty) (h2 : va_RA U c' ty) : c = c' := by
  cases ty with
  | object C =>
    obtain ⟨_, _, _, _, _, h1⟩ := h1
    obtain ⟨_, _, _, _, _, h2⟩ := h2
    exact Option.some.inj (h1.symm.trans h2)
  | _ => exact Option.some.inj (Eq.trans (Eq.symm h1) h2)
def NL (own : String) (index ci N : Nat) (fs : List Value) : Prop := ∃ (C : String) (T : u_T) (ty0 : Nat → FieldType), CLS[ci]? = some (C, T, N) ∧ (∀ w ∈ u_ws C T N, w ∈ GW) ∧ (∀ j, j < N → parseFieldDescriptor (T j).2.2.1 = some (ty0 j)) ∧ Cond.classLink own index C ∈ GW ∧ Cond.instantiable C N ∈ GW ∧ Cond.initialized C ∈ GW ∧ ∀ j, j < N → defaultValue (ty0 j) = vp_V fs j
def FLF (own : String) (index ci k : Nat) (ty : FieldType) : Prop := ∃ (C : String) (T : u_T) (N : Nat) (ty0 : Nat → FieldType), CLS[ci]? = some (C, T, N) ∧ k < N ∧ (∀ w ∈ u_ws C T N, w ∈ GW) ∧ (∀ j, j < N → parseFieldDescriptor (T j).2.2.1 = some (ty0 j)) ∧ (∀ a, a < N → ∀ b, b < N → a ≠ b → (T a).2.1 ≠ (T b).2.1) ∧ ty0 k = ty ∧ (T k).2.2.2 = true ∧ (T k).1 = own ∧ Cond.fieldLink own index (T k).1 (T k).2.1 (T k).2.2.1 ∈ GW
def PWO (E : EN) (wc : va_W) (sz : Nat) (U : State) : Prop := PW E wc sz U ∧ va_AO "NightInn$Night" U
theorem PWO.blind (av : List Value) (E : EN) (wc : va_W) (sz : Nat) : FrameBlind (va_Pc av (PWO E wc sz)) := by
  intro a U g mk q
  have h1 := PW.blind av E wc sz a U g mk ⟨q.1, q.2.1⟩
  exact ⟨h1.1, h1.2, va_AO.moved (u := U) (U := U.calling g mk a) (Vm.Alike.refl U.vm) q.2.2⟩
def CTo (l : Launch) (E : EN) (y : MethodName) (b : ByteArray) (maxL : Nat) (fr mc ms lc : Nat) (av : List Value) (wc : va_W) (Pw : va_W → Prop) : Prop :=
  ∀ sz, Met l y (.code y b maxL none :: GW) { frames := fr, cells := mc, slots := ms, locals := lc } (va_Pc av (PWO E wc sz)) (Qn E (va_A wc sz) Pw) mc ms (va_A wc sz)
theorem ct_bodyO {l : Launch} {E : EN} {y : MethodName} {b : ByteArray} {maxL : Nat} {ret : Option FieldType} {rm : Room} {mc ms : Nat} {av : List Value} {wc : va_W} {sz : Nat} {Qc : Array Value → State → Outcome → State → Prop} (hy : plainName y.cls = true) (ha : (lg_sl av).length ≤ maxL)
    (body : ∀ (p : Program) (e : Env) (s : State) (m : MethodId) (args : Array Value) (below : List Frame) (meth : Method) (c : Code) (A : Nat → Prop) (ls : Array Slot), va_A wc sz = A → CX p s m args meth c b y.cls maxL E A → meth.sig.returnType = ret → (y.name = "<init>" → meth.name = "<init>") → va_P E.1 CLS wc s.heap → va_D A wc → va_S A s.heap s.heap [] → lv_has ls maxL (lv_args 0 av) → va_AO "NightInn$Night" s →
      W p l e rm s m args below meth c s.heap [] 0 0 (MQ below Qc args s mc ms A) (F0 m 0 ls [])) :
    Met l y (.code y b maxL ret :: GW) rm (va_Pc av (PWO E wc sz)) Qc mc ms (va_A wc sz) := by
  refine Met.ofW (cc := b) (maxL := maxL) (ret := ret) hy rfl ?_
  intro p e s m args below meth c s₁ B hml hv
  obtain ⟨rfl, ⟨hsz, hP, hK, hN, hD0, hX⟩, hO⟩ := hv
  have hts := atoms_spec (ws := .code y b maxL ret :: GW) B.pre
  have hl := lv_entry av (n := maxL) ha
  rw [lg_entry_eq]
  subst hsz
  exact body p e s m av.toArray below meth c _ _ rfl ⟨B.exec, B.bytes, hml, findClass_of_methodNamed B.named, fun w hw => hts w (List.mem_cons_of_mem _ hw), hK, hN, hX, fun q h => Or.inr h, B.notSynchronized⟩ B.returns (fun h => by
    first
      | (have h1 := (name_of_methodNamed B.named B.method).1; exact h1.trans h)
      | (rw [(name_of_methodNamed B.named B.method).1]; exact h)) hP hD0.self va_S.rf hl hO
section AL
variable {p : Program} {l : Launch} {e : Env} {R : Room} {s : State} {m : MethodId} {args : Array Value} {below : List Frame} {meth : Method} {c : Code} {H : Heap} {locs : List Loc} {cells slots : Nat} {Q : State → Prop}
variable {cc : ByteArray} {own : String} {nL : Nat} {E : EN} {A : Nat → Prop} {pc : Nat} {ls : Array Slot} {rest : List Value} {ws ws' : va_W}
theorem r_objI (C : CX p s m args meth c cc own nL E A) {index a : Nat} (f : Cond.methodLink own index Lib.objectInit ∈ GW) (h1 : Cond.instanceMethod Lib.objectInit ∈ GW) (h2 : Cond.code Lib.objectInit ⟨#[0xb1]⟩ 1 none ∈ GW) (hsz : ls.size = nL) (hR1 : 1 ≤ R.frames) (hR2 : 2 * 0 + (rest.map fun v => v.category).sum + 12 ≤ R.locals) (hdg : decode cc pc = .ok (.invokespecial index, 3))
    (kk : W p l e R s m args below meth c H locs cells slots Q (F0 m (pc + 3) ls rest)) : W p l e R s m args below meth c H locs cells slots Q (F0 m pc ls (.ref a :: rest)) := by
  refine W.objInit C.1 C.2.1 C.2.2.2.1 (C.2.2.2.2.1 _ f) (C.2.2.2.2.1 _ h1) (C.2.2.2.2.1 _ h2) rfl (by rw [C.2.2.1]; exact hsz) rfl hdg hR1 hR2 ?_
  exact W.eq (g2 := F0 m (pc + 3) ls rest) rfl kk
theorem r_newa (C : CX p s m args meth c cc own nL E A) (hP : va_P E.1 CLS ws H) (hD : va_D A ws) (hS : va_S A s.heap H locs) {atype : ArrayType} (t0 : Nat) {cE : ClassId} {ty : FieldType} (ht : (TYS E)[t0]? = some (cE, ty)) (harr : Cond.arrayClass (newarray.typeOf atype) ∈ GW) (hty : newarray.typeOf atype = ty) {n : Int32} {N' : Nat} {a0 : vp_A} (ha : ∀ cA : ClassId, vp_cell cA a0 = arrV cA N' (fun _ => defaultValue ty)) (hn : ¬ n < 0) (hN : n.toNatClampNeg = N') (hbytes : N' * componentBytes ty ≤ 536870912) (hcells : cells + 1 ≤ R.cells) (hslots : slots + N' ≤ R.slots) (hw : ∀ q : Nat, ws ++ [(q, .inl (cE, a0))] = (fun q : Nat => ws ++ [(q, .inl (cE, a0))]) q) (hdg : decode cc pc = .ok (.newarray atype, 2))
    (kk : ∀ (q : Nat) (H1 : Heap), va_P E.1 CLS (ws ++ [(q, .inl (cE, a0))]) H1 → va_D A (ws ++ [(q, .inl (cE, a0))]) → va_S A s.heap H1 locs → W p l e R s m args below meth c H1 locs (cells + 1) (slots + N') Q (F0 m (pc + 2) ls (.ref q :: rest))) : W p l e R s m args below meth c H locs cells slots Q (F0 m pc ls (.int n :: rest)) := by
  obtain ⟨hx, hb, hml, hown, hG, hK, hN0, hX, hA, hlk⟩ := C
  refine va_newa (D := E.1) hx hb (hG _ harr) hty hK hP hD hS hA ha hn hN hbytes hcells hslots hdg (fun q cA H1 hK1 hP1 hD1 hS1 => ?_)
  have e : cA = cE := va_RA_inj (hK1.2 5 (cA, ty) rfl).2 (hK.2 t0 _ ht).2
  subst e
  exact kk q H1 hP1 hD1 hS1
theorem r_newq (C : CX p s m args meth c cc own nL E A) (hP : va_P E.1 CLS ws H) (hD : va_D A ws) (hS : va_S A s.heap H locs) {index : Nat} (h1 : Cond.classLink own index "NightInn$Night" ∈ GW) (hover : va_AO "NightInn$Night" s) {n : Int32} {N' : Nat} (hn : ¬ n < 0) (hN : n.toNatClampNeg = N') (hbytes : N' * 4 ≤ 536870912) (hcells : cells + 1 ≤ R.cells) (hslots : slots + N' ≤ R.slots) (hdg : decode cc pc = .ok (.anewarray index, 3))
    (kk : ∀ (q : Nat) (H1 : Heap), va_P E.1 CLS (ws ++ [(q, aQ E N' (fun _ => none))]) H1 → va_D A (ws ++ [(q, aQ E N' (fun _ => none))]) → va_S A s.heap H1 locs → W p l e R s m args below meth c H1 locs (cells + 1) (slots + N') Q (F0 m (pc + 3) ls (.ref q :: rest))) : W p l e R s m args below meth c H locs cells slots Q (F0 m pc ls (.int n :: rest)) := by
  obtain ⟨hx, hb, hml, hown, hG, hK, hN0, hX, hA, hlk⟩ := C
  refine va_newq (D := E.1) hx hb hown (hG _ h1) hover hK hP hD hS hA hn hN hbytes hcells hslots hdg (fun q cA H1 hK1 hP1 hD1 hS1 => ?_)
  have e : cA = E.2.1.2.2.2.2 := va_RA_inj (hK1.2 5 (cA, .object "NightInn$Night") rfl).2 (hK.2 4 _ rfl).2
  subst e
  exact kk q H1 hP1 hD1 hS1
theorem r_new (C : CX p s m args meth c cc own nL E A) (hP : va_P E.1 CLS ws H) (hD : va_D A ws) (hS : va_S A s.heap H locs) {index ci N : Nat} {fs : List Value} (f : NL own index ci N fs) (hcells : cells + 1 ≤ R.cells) (hslots : slots + N ≤ R.slots) (hdg : decode cc pc = .ok (.new index, 3))
    (kk : ∀ (q : Nat) (H1 : Heap), va_P E.1 CLS (ws ++ [(q, .inr (ci, fs))]) H1 → va_D A (ws ++ [(q, .inr (ci, fs))]) → va_S A s.heap H1 locs → W p l e R s m args below meth c H1 locs (cells + 1) (slots + N) Q (F0 m (pc + 3) ls (.ref q :: rest))) : W p l e R s m args below meth c H locs cells slots Q (F0 m pc ls rest) := by
  obtain ⟨Cn, T, ty0, h1, h2, h3, h4, h5, h6, h7⟩ := f
  obtain ⟨hx, hb, hml, hown, hG, hK, hN0, hX, hA, hlk⟩ := C
  exact va_new (D := E.1) hx hb hG h2 ty0 h3 hown (hG _ h4) (hG _ h5) (hG _ h6) hK hP hD hS hA h1 h7 hcells hslots hdg kk
theorem r_putF (C : CX p s m args meth c cc own nL E A) {a ci : Nat} {fs : List Value} {v : Value} {index k : Nat} {ty : FieldType} (hin : meth.name = "<init>") (hP : va_P E.1 CLS ws H) (hD : va_D A ws) (hS : va_S A s.heap H locs) (q0 : Nat) (he : ws[q0]? = some (a, .inr (ci, fs))) (f : FLF own index ci k ty) (hn : narrow ty v = v) (hfit : fits ty v = true) (hl : k < fs.length) (hw : ws.set q0 (a, .inr (ci, fs.set k v)) = ws') (hdg : decode cc pc = .ok (.putfield index, 3))
    (kk : ∀ (H1 : Heap) (locs1 : List Loc), va_P E.1 CLS ws' H1 → va_D A ws' → va_S A s.heap H1 locs1 → W p l e R s m args below meth c H1 locs1 cells slots Q (F0 m (pc + 3) ls rest)) : W p l e R s m args below meth c H locs cells slots Q (F0 m pc ls (v :: .ref a :: rest)) := by
  subst hw
  obtain ⟨Cn, T, N, ty0, h1, h2, h3, h4, h5, h6, h7, h8, h9⟩ := f
  obtain ⟨hx, hb, hml, hown, hG, hK, hN, hX, hA, hlk⟩ := C
  subst h6
  exact va_putF (D := E.1) hx hb hG h3 ty0 h4 h5 hown hK hP hD hS q0 he h1 k h2 (hG _ h9) (fun _ h => h) h7 hin h8 (h4 k h2) hn hfit hl hdg kk
theorem r_ast3 (C : CX p s m args meth c cc own nL E A) {a n v : Nat} {f : Nat → Option Nat} {i : Int32} {vs : List Value} (hP : va_P E.1 CLS ws H) (hD : va_D A ws) (hS : va_S A s.heap H locs) (q0 qk : Nat) (ha : ws[q0]? = some (a, aQ E n f)) (hv : ws[qk]? = some (v, .inr (4, vs))) (hin : vp_in i n) (hw : ws.set q0 (a, aQ E n (va_up f i.toNatClampNeg (some v))) = ws') (hdg : decode cc pc = .ok (.aastore, 1))
    (kk : ∀ (H1 : Heap) (locs1 : List Loc), va_P E.1 CLS ws' H1 → va_D A ws' → va_S A s.heap H1 locs1 → W p l e R s m args below meth c H1 locs1 cells slots Q (F0 m (pc + 1) ls rest)) : W p l e R s m args below meth c H locs cells slots Q (F0 m pc ls (.ref v :: .int i :: .ref a :: rest)) := by
  subst hw
  exact va_astq (D := E.1) C.1 C.2.1 C.2.2.2.2.2.1 hP hD hS q0 4 qk 4 (r := (RX4, TX4, 14)) ha rfl hv rfl hin hdg kk
theorem r_dalI (C : CX p s m args meth c cc own nL E A) {y : MethodName} {b : ByteArray} {maxL fr mc ms lc index n h : Nat} {As st : List Value} {wc wr : va_W} {Pw : va_W → Prop} (hM : CTn l E y b maxL fr mc ms lc (.ref h :: As) wc Pw) (hm : MLI own index y b maxL n) (hR : fr + 1 ≤ R.frames ∧ 8 + (maxL + 11) + lc ≤ R.locals) (hP : va_P E.1 CLS ws H) (hD : va_D A ws) (hS : va_S A s.heap H locs) (isC isR : List Nat) (hC : isC.map (fun i => ws[i]?) = wc.map some) (hnd : va_nd isC = true) (hR2 : isR.map (fun i => ws[i]?) = wr.map some) (hnr : va_nd isR = true) (hdis : ∀ i ∈ isR, i ∉ isC) (hn : As.length = n) (hsz : ls.size = nL) (hst : st = As.reverse ++ .ref h :: rest) (hcat : (rest.map fun v => v.category).sum ≤ 8) (hcl : cells + mc ≤ R.cells ∧ slots + ms ≤ R.slots) (hdg : decode cc pc = .ok (.invokespecial index, 3))
    (kk : ∀ (w1 : va_W), Pw w1 → ∀ (H1 : Heap) (locs1 : List Loc), va_P E.1 CLS (wr ++ w1) H1 → va_D A (wr ++ w1) → va_S A s.heap H1 locs1 → W p l e R s m args below meth c H1 locs1 (cells + mc) (slots + ms) Q (F0 m (pc + 3) ls rest)) : W p l e R s m args below meth c H locs cells slots Q (F0 m pc ls st) := by
  have hpw := pw_of C hP hD hS isC hC hnd
  have hFc := va_free (wc := wc) hD hS C.2.2.2.2.2.2.2.2.1 isC hC
  have S : CallFix p m c cc nL s args GW own := ⟨C.1, C.2.1, C.2.2.1, C.2.2.2.1, C.2.2.2.2.1⟩
  obtain ⟨⟨g1, g2, g3, g4⟩, gi, gd⟩ := hm
  have hrun : va_Run p l e R s m args below meth c H locs cells slots mc ms (F0 m pc ls st) rest (Qn E (va_A wc H.size) Pw (Value.ref h :: As).toArray) (va_A wc H.size) := by
    rcases g1 with g1 | ⟨host, g1⟩
    · exact va_runI (As := As) (rest := rest) (g := F0 m pc ls st) S (hM H.size) ⟨cb_of C rfl rfl g1 g3 g4 gd hR, gi, C.2.2.2.2.1 _ g2⟩ ⟨PW.blind _ _ _ _, fun U hU hW => ⟨rfl, hpw U hU hW⟩⟩ rfl hn hsz hst (lv_room hcat) hdg hcl
    · exact va_runIN (As := As) (rest := rest) (g := F0 m pc ls st) S (hM H.size) ⟨cn_of C rfl rfl g1 g3 g4 gd hR, gi, C.2.2.2.2.1 _ g2⟩ ⟨PW.blind _ _ _ _, fun U hU hW => ⟨rfl, hpw U hU hW⟩⟩ rfl hn hsz hst (lv_room hcat) hdg hcl
  refine va_callv hrun hS (fun q _ h => hFc q h) hFc (fun u t H1 locs1 ht hvm hw1 hB hz1 hk1 hS1 => ?_)
  obtain ⟨hP1, hD1⟩ := hB
  rw [ht] at hP1
  obtain ⟨hP2, hD2⟩ := va_join hP hD isC isR hC hR2 hnr hdis hk1 hFc hP1 hD1
  exact kk u hw1 H1 locs1 hP2 hD2 hS1
theorem r_dalO (C : CX p s m args meth c cc own nL E A) {y : MethodName} {b : ByteArray} {maxL fr mc ms lc index n h : Nat} {As st : List Value} {wc wr : va_W} {Pw : va_W → Prop} (hO : va_AO "NightInn$Night" s) (hM : CTo l E y b maxL fr mc ms lc (.ref h :: As) wc Pw) (hm : MLI own index y b maxL n) (hR : fr + 1 ≤ R.frames ∧ 8 + (maxL + 11) + lc ≤ R.locals) (hP : va_P E.1 CLS ws H) (hD : va_D A ws) (hS : va_S A s.heap H locs) (isC isR : List Nat) (hC : isC.map (fun i => ws[i]?) = wc.map some) (hnd : va_nd isC = true) (hR2 : isR.map (fun i => ws[i]?) = wr.map some) (hnr : va_nd isR = true) (hdis : ∀ i ∈ isR, i ∉ isC) (hn : As.length = n) (hsz : ls.size = nL) (hst : st = As.reverse ++ .ref h :: rest) (hcat : (rest.map fun v => v.category).sum ≤ 8) (hcl : cells + mc ≤ R.cells ∧ slots + ms ≤ R.slots) (hdg : decode cc pc = .ok (.invokespecial index, 3))
    (kk : ∀ (w1 : va_W), Pw w1 → ∀ (H1 : Heap) (locs1 : List Loc), va_P E.1 CLS (wr ++ w1) H1 → va_D A (wr ++ w1) → va_S A s.heap H1 locs1 → W p l e R s m args below meth c H1 locs1 (cells + mc) (slots + ms) Q (F0 m (pc + 3) ls rest)) : W p l e R s m args below meth c H locs cells slots Q (F0 m pc ls st) := by
  have hpw := pw_of C hP hD hS isC hC hnd
  have hFc := va_free (wc := wc) hD hS C.2.2.2.2.2.2.2.2.1 isC hC
  have S : CallFix p m c cc nL s args GW own := ⟨C.1, C.2.1, C.2.2.1, C.2.2.2.1, C.2.2.2.2.1⟩
  obtain ⟨⟨g1, g2, g3, g4⟩, gi, gd⟩ := hm
  have hrun : va_Run p l e R s m args below meth c H locs cells slots mc ms (F0 m pc ls st) rest (Qn E (va_A wc H.size) Pw (Value.ref h :: As).toArray) (va_A wc H.size) := by
    rcases g1 with g1 | ⟨host, g1⟩
    · exact va_runI (As := As) (rest := rest) (g := F0 m pc ls st) S (hM H.size) ⟨cb_of C rfl rfl g1 g3 g4 gd hR, gi, C.2.2.2.2.1 _ g2⟩ ⟨PWO.blind _ _ _ _, fun U hU hW => ⟨rfl, hpw U hU hW, va_AO.moved hW.alike hO⟩⟩ rfl hn hsz hst (lv_room hcat) hdg hcl
    · exact va_runIN (As := As) (rest := rest) (g := F0 m pc ls st) S (hM H.size) ⟨cn_of C rfl rfl g1 g3 g4 gd hR, gi, C.2.2.2.2.1 _ g2⟩ ⟨PWO.blind _ _ _ _, fun U hU hW => ⟨rfl, hpw U hU hW, va_AO.moved hW.alike hO⟩⟩ rfl hn hsz hst (lv_room hcat) hdg hcl
  refine va_callv hrun hS (fun q _ h => hFc q h) hFc (fun u t H1 locs1 ht hvm hw1 hB hz1 hk1 hS1 => ?_)
  obtain ⟨hP1, hD1⟩ := hB
  rw [ht] at hP1
  obtain ⟨hP2, hD2⟩ := va_join hP hD isC isR hC hR2 hnr hdis hk1 hFc hP1 hD1
  exact kk u hw1 H1 locs1 hP2 hD2 hS1
theorem r_nret (C : CX p s m args meth c cc own nL E A) {w1 : va_W} {Pw : va_W → Prop} (hr : meth.sig.returnType = none) (hw : Pw w1) (hP : va_P E.1 CLS w1 H) (hD : va_D A w1) (hS : va_S A s.heap H locs) (hdg : decode cc pc = .ok (.return_, 1)) :
    W p l e R s m args below meth c H locs cells slots (MQ below (Qn E A Pw) args s cells slots A) (F0 m pc ls []) :=
  W.vret C.1 C.2.1 hr (fun t ht hW => ⟨⟨w1, rfl, hw, by rw [← ht] at hP; exact hP, hD⟩, hS.F ht⟩) hS.2.2 hdg C.2.2.2.2.2.2.2.2.2
end AL
