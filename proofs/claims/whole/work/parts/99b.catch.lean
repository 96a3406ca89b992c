/-! led in the law: what is thrown is caught -/
section
variable {p : Program} {l : Launch} {e : Env} {R : Room} {s : State} {m : MethodId} {args : Array Value} {below : List Frame} {meth : Method} {c : Code} {H : Heap} {locs : List Loc} {cells slots : Nat} {Q : State → Prop}
variable {cc : ByteArray} {own : String} {nL : Nat} {E : EN} {A : Nat → Prop} {pc : Nat} {ls : Array Slot} {rest : List Value} {ws ws' : va_W}
theorem caught1 {T : State} (X : Stand p l e R s m args below meth c T locs cells slots) (a : Addr) {g : JFrame} (hg : g.method = m) {name : String} (hown : s.vm.findClass own = some m.cls) {x : ExceptionTableEntry} (hx1 : c.exceptionTable.toList = [x]) (hcov : covers x g.pc = true) (h0 : x.catchType ≠ 0) (hlink : (Cond.classLink own x.catchType name).before args s = true) {cT : ClassId} {cell : Cell} (hcT : s.vm.findClass name = some cT) (hcell : T.heap[a]? = some cell) (hobj : cell.vm.isStatics = false) (hfit : s.vm.assignable cell.cls cT = true) :
    ∃ vm', Stand p l e R s m args below meth c (T.setVm vm') locs cells slots ∧ ∀ target, Steps p.tables e below ((T.setVm vm').setTop { g with pc := x.handlerPc, stack := [.ref a] }) target → Steps p.tables e below ((T.setTop g).pushFrame (.throwing a)) target := by
  have hpl : e.platform.magicAccessors = ({} : Platform).magicAccessors := by rw [X.admits.platform]
  obtain ⟨c', hc', hcl⟩ := Cond.classLink_spec hown hlink e.platform hpl
  cases hcT.symm.trans hc'
  obtain ⟨dk, _, _, kt, hd, _, _, _, _, hkt, _, hopen⟩ := hcl.here
  have hW' : s.WarmedH (T.vm.noted m.cls x.catchType (.cls cT)) := X.warmed.noted hd hopen (State.rightAt_cls hcl)
  have hal := X.warmed.alike
  obtain ⟨kt', hkt', -⟩ := hal.2.2 _ _ hkt
  have hfit' : T.vm.assignable cell.cls cT = true := by rw [hal.assignable]; exact hfit
  refine ⟨_, X.noted hW', fun target hrest => ?_⟩
  subst hg
  have hM : T.vm.method? g.method = some meth := X.method'
  have hnot : ∀ k, cell.vm ≠ .statics k := fun k h => by rw [h] at hobj; cases hobj
  obtain ⟨kc, hkc⟩ := Vm.classAt_of_assignable hfit' ⟨kt', hkt'⟩
  have hal2 : T.vm.Alike (T.vm.noted g.method.cls x.catchType (.cls cT)) := (Vm.Alike.refl T.vm).noted _ _ _
  obtain ⟨k1, hk1, -⟩ := hal2.2.2 _ _ hkc
  obtain ⟨k2, hk2, -⟩ := hal2.2.2 _ _ hkt'
  have hfit2 : (T.vm.noted g.method.cls x.catchType (.cls cT)).assignable cell.cls cT = true := by rw [hal2.assignable]; exact hfit'
  have hcov2 : (decide (x.startPc ≤ g.pc) && decide (g.pc < x.endPc)) = true := hcov
  have hvm : ((T.setTop g).pushFrame (.throwing a)).vm = T.vm := Stand.throwing_vm T g a
  have hhp : ((T.setTop g).pushFrame (.throwing a)).heap = T.heap := Stand.throwing_heap T g a
  have hfind : ∀ (Q : Handler → Pre) (E : CtlPost) (d : Bool) (acts : List Action), wp (findHandler g a) Q E e d acts ((T.setTop g).pushFrame (.throwing a)) ↔ Q (.found x.handlerPc) d acts (((T.setTop g).pushFrame (.throwing a)).setVm (T.vm.noted g.method.cls x.catchType (.cls cT))) := by
    intro Q E d acts
    rw [Jvm.W.findHandler_eq (meth := meth) (code := c) (by rw [hvm]; exact hM) X.code, hx1]
    have hcl1 : ((T.setTop g).pushFrame (.throwing a)).vm.ClassLinks e.platform g.method.cls x.catchType cT := by rw [hvm]; exact X.warmed.classLinks hcl
    obtain ⟨ha, ht⟩ := (resolveClass_links e.toSetting hcl1).op (op := VmOp.resolveClass g.method.cls x.catchType) rfl
    rw [hvm] at ha ht
    simp [findHandler.go, hcov2, h0, ha, ht, hhp, hvm, hcell, hnot, hk1, hk2, hfit2, VmOp.dirties, VmOp.acts]
  have h : At T g.method c below := X.here
  obtain ⟨hgo, hw⟩ := h.throwing a
  refine Steps.head hgo hw ?_
  have hst : ∀ r, (stepThrowing e ((T.setTop g).pushFrame (.throwing a)) a (.java g :: r)).Is ((((T.setTop g).pushFrame (.throwing a)).setVm (T.vm.noted g.method.cls x.catchType (.cls cT))).setFrames (.java { g with pc := x.handlerPc, stack := [.ref a] } :: r)) [] := by
    intro r
    simp only [stepThrowing, searchFrame, vmDo]
    generalize hr : Sem.go _ e false [] ((T.setTop g).pushFrame (.throwing a)) = res
    obtain ⟨as, rfl, ha⟩ := Sem.eq_ok_of hr (a := Handler.found x.handlerPc) (s' := ((T.setTop g).pushFrame (.throwing a)).setVm (T.vm.noted g.method.cls x.catchType (.cls cT))) (acts' := []) (by simp [hfind _ _ _ _])
    exact ⟨rfl, ha⟩
  rw [stepThread_throwing (frames_entered h.top _), (hst _).1]
  obtain ⟨g0, hg0⟩ := Option.isSome_iff_exists.mp h.top
  obtain ⟨r, hr⟩ := State.topJava?_eq_some.mp hg0
  have hr2 : (T.setVm (T.vm.noted g.method.cls x.catchType (.cls cT))).frames = .java g0 :: r := hr
  rw [State.setTop_of_frames _ hr2] at hrest
  have key : ∀ (u : State) (F G : List Frame) (v : Vm), ((u.setFrames F).setVm v).setFrames G = (u.setVm v).setFrames G := fun u F G v => by
    rw [show (u.setFrames F).setVm v = (u.setVm v).setFrames F from rfl, State.setFrames_setFrames]
  rw [hr, List.tail_cons, State.pushFrame, key, State.setTop_of_frames _ hr, key]
  exact hrest
/-- a call that throws, the exception caught in the caller's own frame -/
theorem r_throwV (C : CX p s m args meth c cc own nL E A) {y : MethodName} {b : ByteArray} {maxL fr mc ms lc index n h : Nat} {ret : FieldType} {Cn : String} {As st : List Value} {wc : va_W} (hM : CTt l E y b maxL ret fr mc ms lc (.ref h :: As) wc) (hm : MLV own index Cn y b maxL (some ret) n) (hR : fr + 1 ≤ R.frames ∧ 8 + (maxL + 11) + lc ≤ R.locals) (hTh : THR A s s.heap) (hP : va_P E.1 CLS ws H) (hD : va_D A ws) (hS : va_S A s.heap H locs) (q0 : Nat) {ci : Nat} {cq : vw_C} {fs : List Value} (hci : CLS[ci]? = some cq) (hcn : cq.1 = Cn) (hq0 : ws[q0]? = some (h, .inr (ci, fs))) (isC idx : List Nat) (nw : Nat) (hC : isC.map (fun i => ws[i]?) = wc.map some) (hnd : va_nd isC = true) (hix : upI nw isC = idx) (hnw : ws.length = nw) (hw : idx.map (fun i => (ws ++ wc)[i]?) = ws.map some) (hn : As.length = n) (hsz : ls.size = nL) (hst : st = As.reverse ++ .ref h :: rest) (hcat : (rest.map fun v => v.category).sum ≤ 8) (hcl : cells + mc ≤ R.cells ∧ slots + ms ≤ R.slots) (hdg : decode cc pc = .ok (.invokevirtual index, 3)) {x : ExceptionTableEntry} (hx1 : c.exceptionTable.toList = [x]) (hcov : covers x pc = true) (h0 : x.catchType ≠ 0) (hlk : Cond.classLink own x.catchType "java/util/NoSuchElementException" ∈ GW)
    (kk : ∀ (a : Nat) (H1 : Heap) (locs1 : List Loc), va_P E.1 CLS ws H1 → va_D A ws → va_S A s.heap H1 locs1 → W p l e R s m args below meth c H1 locs1 (cells + mc) (slots + ms) Q (F0 m x.handlerPc ls [.ref a])) : W p l e R s m args below meth c H locs cells slots Q (F0 m pc ls st) := by
  have hpw := pw_of C hP hD hS isC hC hnd
  have hA := C.2.2.2.2.2.2.2.2.1
  have hFc := va_free (wc := wc) hD hS hA isC hC
  have hG := C.2.2.2.2.1
  obtain ⟨⟨g1, g2, g3, g4, g5⟩, gd⟩ := hm
  obtain ⟨hrc, hrs, hfr, hlo, hws, hcw, hcodeS, hini, hy, hlen, hlink⟩ := cb_of (R := R) (mc := mc) (ms := ms) (rm := { frames := fr, cells := mc, slots := ms, locals := lc }) C rfl rfl g1 g4 g5 gd hR
  have hrv := va_recv (D := E.1) C.2.2.2.2.2.1 hP hci hq0
  rw [hcn] at hrv
  obtain ⟨cellB, hcB, hoB, hclB⟩ := hrv
  intro T hT X
  obtain ⟨mk, methM, hnamed, hmethM, hstM, habM⟩ := Cond.instanceMethod_spec (hG _ g2)
  obtain ⟨methM', cM, hmethM', -, -, -, -, -, -, hsigM⟩ := Cond.code_spec hnamed hcodeS
  cases hmethM.symm.trans hmethM'
  obtain ⟨c2, r2, m2, q1, q2, q3, q4, kP, hkP, hkPi⟩ := Cond.selects_spec (hG _ g3)
  cases hclB.symm.trans q1
  cases (State.methodFound?_of_named hnamed hy).symm.trans q2
  cases hnamed.symm.trans q3
  have hselP : selectMethod e.platform s.vm cellB.cls mk = .method mk := by rw [Launch.admits_selectMethod X.admits]; exact q4
  obtain ⟨vm1, X1, hstep1⟩ := X.invokevirtual C.1 C.2.2.2.1 hlink hnamed hmethM hstM hkP hkPi hy (a := h) (cell := cellB) (by rw [hT]; exact hcB) (fun z hz => by rw [hz] at hoB; cases hoB) hselP hmethM habM hkP hkPi (g := F0 m pc ls st) rfl (argsL := As) (rest := rest) (hn.trans (hlen _ hsigM)) hst (by rw [C.2.1]; exact hdg)
  have hU : At (T.setVm vm1) (F0 m pc ls rest).method c below := X1.here
  have hnU : (T.setVm vm1).methodNamed? y = some mk := X1.named hnamed
  have hbef : ∀ w ∈ (Cond.code y b maxL (some ret) :: GW), w.before (Value.ref h :: As).toArray (T.setVm vm1) = true := fun w hw => hws w hw _ _ X1.warmed
  obtain ⟨methY, cY, hmY, hcY, -, hlY, -, -, -, -⟩ := Cond.code_spec hnU (hbef _ hcw)
  obtain ⟨kY, hkY, -⟩ := className_of_methodNamed hnU
  have hinitY : kY.init = .initialized := Cond.initialized_spec (findClass_of_methodNamed hnU) hkY (hbef _ (List.mem_cons_of_mem _ g4))
  have hdg2 : decode c.code (F0 m pc ls rest).pc = .ok (.invokevirtual index, 3) := by rw [C.2.1]; exact hdg
  have hmr : 2 * (F0 m pc ls rest).monitorRoom + ((F0 m pc ls rest).stack.map fun v => v.category).sum ≤ 8 := lv_room hcat
  have happ : (headSpec (Cond.code y b maxL (some ret) :: GW) { frames := fr, cells := mc, slots := ms, locals := lc }).appliesLoose y e.platform ((T.setVm vm1).calling (F0 m pc ls rest) mk (Value.ref h :: As).toArray) = true :=
    Spec.appliesLoose_calling (g := F0 m pc ls rest) hU hdg2 hnU hkY hinitY
      (X1.room_calling (g := F0 m pc ls rest) (R' := { frames := fr, cells := mc, slots := ms, locals := lc }) (hsz.trans C.2.2.1.symm) hmY hcY hR.1 (by rw [hlY]; have := hR.2; omega) hcl.1 hcl.2) (atoms_intro hbef)
  obtain ⟨mid, hmid⟩ := hU.above
  have hfrm : ((T.setVm vm1).setTop (F0 m pc ls rest)).frames = (.java (F0 m pc ls rest) :: mid) ++ below := by rw [State.frames_setTop' _ hU.top, hmid]; rfl
  have hPT : PT E wc H.size (T.setVm vm1) := by
    refine ⟨hpw _ hT X1.warmed, ?_⟩
    have h1 := (hTh.kept (fun a h1 h2 => hS.2.1 a h1 h2)).narrow hFc
    rw [show (T.setVm vm1).heap = H from hT]
    exact h1.moved X1.warmed.alike
  obtain ⟨o, s2, hsteps, -, hend, hq⟩ := Steps.callFree (hM H.size) p X1.admits X1.cas X1.clock (acts := []) hfrm happ (PT.blind _ _ _ _ _ _ _ _ ⟨rfl, hPT⟩) trivial
  have hq2 : QTh E (va_A wc H.size) wc mc ms (Value.ref h :: As).toArray ((T.setVm vm1).calling (F0 m pc ls rest) mk (Value.ref h :: As).toArray) o s2 := hq
  obtain ⟨x2, ce, rfl, hwm, ⟨L, hsm, hL⟩, hF, hB, hce, hns, hfc⟩ := hq2
  rw [State.frames_setTop' _ hU.top, X1.tail] at hend
  obtain ⟨T2, X2, hW2, hsame2, ht2⟩ := X1.outOfThrown (g := F0 m pc ls rest) rfl hend hwm hsm
  have e1 : T2.heap = s2.heap := by rw [ht2]; exact (Stand.throwing_heap T2 _ x2).symm
  have hH : ((T.setVm vm1).calling (F0 m pc ls rest) mk (Value.ref h :: As).toArray).heap = H := hT
  obtain ⟨hle, hkp⟩ := hF
  rw [hH] at hle hkp
  obtain ⟨hP1, hD1⟩ := hB
  rw [← e1] at hP1 hle hkp hce
  obtain ⟨hP2, hD2⟩ := va_inpl2 (ws' := ws) hP hD isC hC rfl hix hnw hw hkp hP1
  have hfc2 : s.vm.findClass "java/util/NoSuchElementException" = some ce.cls := by
    have h1 : (T.setVm vm1).vm.findClass "java/util/NoSuchElementException" = some ce.cls := hfc
    rw [X1.warmed.alike.findClass] at h1
    exact h1
  obtain ⟨vm3, X3, hst3⟩ := caught1 X2 x2 (g := F0 m pc ls rest) rfl C.2.2.2.1 hx1 hcov h0 (hG _ hlk) hfc2 hce hns (Vm.assignable_self _ _)
  obtain ⟨t, a1, b1⟩ := kk x2 T2.heap (locs ++ L) hP2 hD2 ⟨Nat.le_trans hS.1 hle, fun q h1 h2 => (hkp q (Nat.lt_of_lt_of_le h1 hS.1) (fun z => h2 (hFc q z))).trans (hS.2.1 q h1 h2), fun q hq => (List.mem_append.mp hq).elim (fun h => hS.2.2 q h) (fun h => hFc _ (hL q h))⟩ (T2.setVm vm3) rfl X3
  exact ⟨t, hstep1 _ (fun acts => by rw [doInvoke_state]; exact hsteps.trans (by rw [ht2]; exact hst3 t a1)), b1⟩
/-- a static method with a handler of its own -/
def CTw (l : Launch) (E : EN) (y : MethodName) (b : ByteArray) (maxL : Nat) (ret : FieldType) (hh : List (Nat × Nat × Nat × Nat)) (fr mc ms lc : Nat) (av : List Value) (wc : va_W) (r : Int32) (w1 : va_W) : Prop :=
  ∀ sz, Met l y (.codeWith y b maxL (some ret) hh :: GW) { frames := fr, cells := mc, slots := ms, locals := lc } (va_Pc av (PT E wc sz)) (va_Qi (fun r' (_ : Unit) => r' = r) (fun _ t => BW E (va_A wc sz) w1 t) (va_A wc sz)) mc ms (va_A wc sz)
theorem r_dalSW (C : CX p s m args meth c cc own nL E A) {y : MethodName} {b : ByteArray} {maxL fr mc ms lc index : Nat} {ret : FieldType} {hh : List (Nat × Nat × Nat × Nat)} {r : Int32} {As st : List Value} {wc w1 : va_W} (hM : CTw l E y b maxL ret hh fr mc ms lc As wc r w1) (hTh : THR A s s.heap) (g1 : Cond.methodLink own index y ∈ GW) (g2 : Cond.static y ∈ GW) (g3 : Cond.initialized y.cls ∈ GW) (g4 : Cond.codeWith y b maxL (some ret) hh ∈ GW) (gd : y.cls ≠ "java/lang/invoke/MethodHandle" ∧ y.cls ≠ "java/lang/invoke/VarHandle" ∧ (parseMethodDescriptor y.desc).map (fun d => d.parameters.length) = some As.length) (hR : fr + 1 ≤ R.frames ∧ 8 + (maxL + 11) + lc ≤ R.locals) (hP : va_P E.1 CLS ws H) (hD : va_D A ws) (hS : va_S A s.heap H locs) (isC idx : List Nat) (nw : Nat) (hC : isC.map (fun i => ws[i]?) = wc.map some) (hnd : va_nd isC = true) (ha : w1.map (fun q => q.1) = wc.map (fun q => q.1)) (hix : upI nw isC = idx) (hnw : ws.length = nw) (hw : idx.map (fun i => (ws ++ w1)[i]?) = ws'.map some) (hsz : ls.size = nL) (hst : st = As.reverse ++ rest) (hcat : (rest.map fun v => v.category).sum ≤ 8) (hcl : cells + mc ≤ R.cells ∧ slots + ms ≤ R.slots) (hdg : decode cc pc = .ok (.invokestatic index, 3))
    (kk : ∀ (H1 : Heap) (locs1 : List Loc), va_P E.1 CLS ws' H1 → va_D A ws' → va_S A s.heap H1 locs1 → W p l e R s m args below meth c H1 locs1 (cells + mc) (slots + ms) Q (F0 m (pc + 3) ls (.int r :: rest))) : W p l e R s m args below meth c H locs cells slots Q (F0 m pc ls st) := by
  have hpw := pw_of C hP hD hS isC hC hnd
  have hFc := va_free (wc := wc) hD hS C.2.2.2.2.2.2.2.2.1 isC hC
  have hG := C.2.2.2.2.1
  have hws := pay_in hG (gw_good g4)
  have hrun : va_Run p l e R s m args below meth c H locs cells slots mc ms (F0 m pc ls st) rest (va_Qi (fun r' (_ : Unit) => r' = r) (fun _ t => BW E (va_A wc H.size) w1 t) (va_A wc H.size) As.toArray) (va_A wc H.size) := by
    have hK : Back l R p e below s args y 3 8 (PreOf R mc ms (va_Pc As (PT E wc H.size))) (PostOf (va_Qi (fun r' (_ : Unit) => r' = r) (fun _ t => BW E (va_A wc H.size) w1 t) (va_A wc H.size)) mc ms (va_A wc H.size)) := va_backW (hh := hh) (bytes := b) (maxL := maxL) (ret := some ret) (hM H.size) (PT.blind _ _ _ _) rfl rfl hR.1 hR.2 hws List.mem_cons_self (fun a' U hW => hws _ (List.mem_cons_of_mem _ g3) a' U hW)
    intro T hT X
    obtain ⟨mk, methM, cM, hnamed, hmethM, -, -, -, -, -, -, hsigM⟩ := Cond.codeWith_spec (hG _ g4)
    have hstatic : methM.isStatic = true := Cond.static_spec hnamed hmethM (hG _ g2)
    obtain ⟨kP, hkP, -⟩ := className_of_methodNamed hnamed
    have hinitP : kP.init = .initialized := Cond.initialized_spec (findClass_of_methodNamed hnamed) hkP (hG _ g3)
    have hlen : As.length = methM.sig.parameters.length := by
      have h := gd.2.2
      rw [hsigM] at h
      exact (Option.some.inj h).symm
    obtain ⟨vm1, X1, hstep1⟩ := X.invokestatic C.1 C.2.2.2.1 (hG _ g1) hnamed hmethM hstatic hkP hinitP ⟨gd.1, gd.2.1⟩ (g := F0 m pc ls st) rfl (argsL := As) (rest := rest) hlen hst (by rw [C.2.1]; exact hdg)
    have hPT : PT E wc H.size (T.setVm vm1) := by
      refine ⟨hpw _ hT X1.warmed, ?_⟩
      have h1 := (hTh.kept (fun a h1 h2 => hS.2.1 a h1 h2)).narrow hFc
      rw [show (T.setVm vm1).heap = H from hT]
      exact h1.moved X1.warmed.alike
    obtain ⟨v, ⟨U', l2, c2, s2⟩, X', ⟨g', mk', t, L, e1, e2, hq, h1, hL, h2, h3⟩, hsteps⟩ := hK m meth c ⟨T.setVm vm1, locs, cells, slots⟩ (F0 m pc ls rest) (.invokestatic index) mk As.toArray X1 rfl (hsz.trans C.2.2.1.symm) (by rw [C.2.1]; exact hdg) (lv_room hcat) (X1.named hnamed) ⟨hcl.1, hcl.2, rfl, hPT⟩
    dsimp only [Pt.U, Pt.locs, Pt.cells, Pt.slots] at X' e1 e2 h1 h2 h3 hsteps
    subst h1; subst h2; subst h3
    exact ⟨v, (T.setVm vm1).calling g' mk' As.toArray, t, U', L, hT, X', hL, e1, e2, hq, fun target h => hstep1 _ fun acts => by rw [doInvoke_state]; exact hsteps.trans h⟩
  refine va_calli hrun hS (fun q _ h => hFc q h) hFc (fun r0 u t H1 locs1 ht hvm hw1 hB hz1 hk1 hS1 => ?_)
  subst hw1
  obtain ⟨hP1, hD1⟩ := hB
  rw [ht] at hP1
  obtain ⟨hP2, hD2⟩ := va_inpl2 hP hD isC hC ha hix hnw hw hk1 hP1
  exact kk H1 locs1 hP2 hD2 hS1
end
