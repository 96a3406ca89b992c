def fnd : List Nat → Nat → Option Nat
  | [], _ => none
  | x :: l, k => if x = k then some 0 else (fnd l k).map (fun j => j + 1)
theorem fnd_some : ∀ {l : List Nat} {k j : Nat}, fnd l k = some j → l[j]? = some k
  | [], k, j, h => by cases h
  | x :: l, k, j, h => by
    unfold fnd at h
    by_cases hx : x = k
    · rw [if_pos hx] at h
      cases h
      simp [hx]
    · rw [if_neg hx] at h
      cases hl : fnd l k with
      | none => rw [hl] at h; cases h
      | some i =>
        rw [hl] at h
        cases h
        simpa using fnd_some hl
theorem fnd_none : ∀ {l : List Nat} {k : Nat}, fnd l k = none → ∀ j : Nat, l[j]? ≠ some k
  | [], k, _, j => by simp
  | x :: l, k, h, j => by
    unfold fnd at h
    by_cases hx : x = k
    · rw [if_pos hx] at h; cases h
    · rw [if_neg hx] at h
      cases hl : fnd l k with
      | some i => rw [hl] at h; cases h
      | none =>
        cases j with
        | zero => simpa using hx
        | succ j => simpa using fnd_none hl j
def upI (n : Nat) (isC : List Nat) : List Nat := (List.range n).map (fun k => match fnd isC k with
  | some j => n + j
  | none => k)
theorem va_inpl2 {A0 : Nat → Prop} {D : va_G} {cl : List vw_C} {ws wc w1 ws' : va_W} {H H1 : Heap} {idx : List Nat} {n : Nat} (hP : va_P D cl ws H) (hD : va_D A0 ws) (isC : List Nat) (hC : isC.map (fun i => ws[i]?) = wc.map some) (ha : w1.map (fun q => q.1) = wc.map (fun q => q.1)) (hix : upI n isC = idx) (hn : ws.length = n) (hw : idx.map (fun i => (ws ++ w1)[i]?) = ws'.map some)
    (hk : ∀ q : Nat, q < H.size → ¬ va_A wc H.size q → H1[q]? = H[q]?) (hP1 : va_P D cl w1 H1) : va_P D cl ws' H1 ∧ va_D A0 ws' := by
  subst hix
  subst hn
  have hlen : w1.length = wc.length := by
    have := congrArg List.length ha
    simpa using this
  have at' : ∀ (k : Nat) (q : Nat × va_E), wc[k]? = some q → ∃ i, isC[k]? = some i ∧ ws[i]? = some q := by
    intro k q hq
    have h1 : (isC.map (fun i => ws[i]?))[k]? = some (some q) := by rw [hC, List.getElem?_map, hq]; rfl
    rw [List.getElem?_map] at h1
    cases hi : isC[k]? with
    | none => rw [hi] at h1; cases h1
    | some i => rw [hi] at h1; exact ⟨i, rfl, Option.some.inj h1⟩
  have main : ∀ (k : Nat) (q : Nat × va_E), ws'[k]? = some q → (∃ j : Nat, isC[j]? = some k ∧ w1[j]? = some q) ∨ ((∀ j : Nat, isC[j]? ≠ some k) ∧ ws[k]? = some q) := by
    intro k q hq
    have h1 : ((upI ws.length isC).map (fun i => (ws ++ w1)[i]?))[k]? = some (some q) := by rw [hw, List.getElem?_map, hq]; rfl
    rw [List.getElem?_map] at h1
    unfold upI at h1
    rw [List.getElem?_map] at h1
    cases hr : (List.range ws.length)[k]? with
    | none => rw [hr] at h1; cases h1
    | some k0 =>
      rw [hr] at h1
      have hk0 : k < ws.length ∧ k0 = k := by
        have h2 := List.getElem?_eq_some_iff.mp hr
        obtain ⟨h3, h4⟩ := h2
        simp at h3 h4
        exact ⟨h3, h4.symm⟩
      obtain ⟨hkl, rfl⟩ := hk0
      cases hf : fnd isC k0 with
      | none =>
        simp only [hf, Option.map_some] at h1
        right
        refine ⟨fnd_none hf, ?_⟩
        have h2 := Option.some.inj h1
        rwa [List.getElem?_append_left hkl] at h2
      | some j =>
        simp only [hf, Option.map_some] at h1
        left
        refine ⟨j, fnd_some hf, ?_⟩
        have h2 := Option.some.inj h1
        rw [List.getElem?_append_right (by omega)] at h2
        simpa using h2
  have fst' : ∀ (k : Nat) (q : Nat × va_E), ws'[k]? = some q → ∃ q0, ws[k]? = some q0 ∧ q0.1 = q.1 := by
    intro k q hq
    rcases main k q hq with ⟨j, h1, h2⟩ | ⟨-, h2⟩
    · have hj : j < wc.length := by rw [← hlen]; exact (List.getElem?_eq_some_iff.mp h2).1
      obtain ⟨i, g1, g2⟩ := at' j wc[j] (List.getElem?_eq_getElem hj)
      have e2 : i = k := Option.some.inj (g1.symm.trans h1)
      subst e2
      refine ⟨wc[j], g2, ?_⟩
      have e4 : (w1.map (fun q => q.1))[j]? = (wc.map (fun q => q.1))[j]? := by rw [ha]
      rw [List.getElem?_map, List.getElem?_map, h2, List.getElem?_eq_getElem hj] at e4
      simpa using e4.symm
    · exact ⟨q, h2, rfl⟩
  refine ⟨fun k q hq => ?_, fun i j x y hx hy hxy => ?_, fun k q hq => ?_⟩
  · rcases main k q hq with ⟨j, h1, h2⟩ | ⟨h1, h2⟩
    · exact hP1 j q h2
    · refine (hP k q h2).kept (hk q.1 (hP k q h2).lt (fun h => ?_))
      rcases h with ⟨k2, e, h⟩ | h
      · obtain ⟨i, g1, g2⟩ := at' k2 (q.1, e) h
        have hik := hD.1 i k (q.1, e) q g2 h2 rfl
        subst hik
        exact h1 k2 g1
      · exact absurd (hP k q h2).lt (by omega)
  · obtain ⟨x0, g1, g2⟩ := fst' i x hx
    obtain ⟨y0, g3, g4⟩ := fst' j y hy
    exact hD.1 i j x0 y0 g1 g3 (by rw [g2, g4]; exact hxy)
  · obtain ⟨x0, g1, g2⟩ := fst' k q hq
    rw [← g2]
    exact hD.2 k x0 g1
section RW
variable {p : Program} {l : Launch} {e : Env} {R : Room} {s : State} {m : MethodId} {args : Array Value} {below : List Frame} {meth : Method} {c : Code} {H : Heap} {locs : List Loc} {cells slots : Nat} {Q : State → Prop}
variable {cc : ByteArray} {own : String} {nL : Nat} {E : EN} {A : Nat → Prop} {pc : Nat} {ls : Array Slot} {rest : List Value} {ws ws' : va_W}
theorem r_dalVi (C : CX p s m args meth c cc own nL E A) {y : MethodName} {b : ByteArray} {maxL fr lc index n h : Nat} {ret : FieldType} {r : Int32} {Cn : String} {As st : List Value} {wc w1 : va_W} (hM : CTi l E y b maxL ret fr lc (.ref h :: As) wc r w1) (hm : MLV own index Cn y b maxL (some ret) n) (hR : fr + 1 ≤ R.frames ∧ 8 + (maxL + 11) + lc ≤ R.locals) (hP : va_P E.1 CLS ws H) (hD : va_D A ws) (hS : va_S A s.heap H locs) (q0 : Nat) {ci : Nat} {cq : vw_C} {fs : List Value} (hci : CLS[ci]? = some cq) (hcn : cq.1 = Cn) (hq0 : ws[q0]? = some (h, .inr (ci, fs))) (isC idx : List Nat) (nw : Nat) (hC : isC.map (fun i => ws[i]?) = wc.map some) (hnd : va_nd isC = true) (ha : w1.map (fun q => q.1) = wc.map (fun q => q.1)) (hix : upI nw isC = idx) (hnw : ws.length = nw) (hw : idx.map (fun i => (ws ++ w1)[i]?) = ws'.map some) (hn : As.length = n) (hsz : ls.size = nL) (hst : st = As.reverse ++ .ref h :: rest) (hcat : (rest.map fun v => v.category).sum ≤ 8) (hcl : cells ≤ R.cells ∧ slots ≤ R.slots) (hdg : decode cc pc = .ok (.invokevirtual index, 3))
    (kk : ∀ (H1 : Heap) (locs1 : List Loc), va_P E.1 CLS ws' H1 → va_D A ws' → va_S A s.heap H1 locs1 → W p l e R s m args below meth c H1 locs1 cells slots Q (F0 m (pc + 3) ls (.int r :: rest))) : W p l e R s m args below meth c H locs cells slots Q (F0 m pc ls st) := by
  have hpw := pw_of C hP hD hS isC hC hnd
  have hFc := va_free (wc := wc) hD hS C.2.2.2.2.2.2.2.2.1 isC hC
  have S : CallFix p m c cc nL s args GW own := ⟨C.1, C.2.1, C.2.2.1, C.2.2.2.1, C.2.2.2.2.1⟩
  obtain ⟨⟨g1, g2, g3, g4, g5⟩, gd⟩ := hm
  have hrv := va_recv (D := E.1) C.2.2.2.2.2.1 hP hci hq0
  rw [hcn] at hrv
  have hrun := va_runV (e := e) (below := below) (meth := meth) (locs := locs) (cells := cells) (slots := slots) (As := As) (rest := rest) (g := F0 m pc ls st) S (hM H.size) ⟨cb_of C rfl rfl g1 g4 g5 gd hR, C.2.2.2.2.1 _ g2, C.2.2.2.2.1 _ g3⟩ ⟨PW.blind _ _ _ _, hrv, fun U hU hW => ⟨rfl, hpw U hU hW⟩⟩ rfl hn hsz hst (lv_room hcat) hdg hcl
  refine va_calli hrun hS (fun q _ h => hFc q h) hFc (fun r0 u t H1 locs1 ht hvm hw1 hB hz1 hk1 hS1 => ?_)
  subst hw1
  obtain ⟨hP1, hD1⟩ := hB
  rw [ht] at hP1
  obtain ⟨hP2, hD2⟩ := va_inpl2 hP hD isC hC ha hix hnw hw hk1 hP1
  exact kk H1 locs1 hP2 hD2 hS1
theorem r_dalVl (C : CX p s m args meth c cc own nL E A) {y : MethodName} {b : ByteArray} {maxL fr lc index n h : Nat} {r : Int64} {Cn : String} {As st : List Value} {wc w1 : va_W} (hM : CTl l E y b maxL fr lc (.ref h :: As) wc r w1) (hm : MLV own index Cn y b maxL (some .long) n) (hR : fr + 1 ≤ R.frames ∧ 8 + (maxL + 11) + lc ≤ R.locals) (hP : va_P E.1 CLS ws H) (hD : va_D A ws) (hS : va_S A s.heap H locs) (q0 : Nat) {ci : Nat} {cq : vw_C} {fs : List Value} (hci : CLS[ci]? = some cq) (hcn : cq.1 = Cn) (hq0 : ws[q0]? = some (h, .inr (ci, fs))) (isC idx : List Nat) (nw : Nat) (hC : isC.map (fun i => ws[i]?) = wc.map some) (hnd : va_nd isC = true) (ha : w1.map (fun q => q.1) = wc.map (fun q => q.1)) (hix : upI nw isC = idx) (hnw : ws.length = nw) (hw : idx.map (fun i => (ws ++ w1)[i]?) = ws'.map some) (hn : As.length = n) (hsz : ls.size = nL) (hst : st = As.reverse ++ .ref h :: rest) (hcat : (rest.map fun v => v.category).sum ≤ 8) (hcl : cells ≤ R.cells ∧ slots ≤ R.slots) (hdg : decode cc pc = .ok (.invokevirtual index, 3))
    (kk : ∀ (H1 : Heap) (locs1 : List Loc), va_P E.1 CLS ws' H1 → va_D A ws' → va_S A s.heap H1 locs1 → W p l e R s m args below meth c H1 locs1 cells slots Q (F0 m (pc + 3) ls (.long r :: rest))) : W p l e R s m args below meth c H locs cells slots Q (F0 m pc ls st) := by
  have hpw := pw_of C hP hD hS isC hC hnd
  have hFc := va_free (wc := wc) hD hS C.2.2.2.2.2.2.2.2.1 isC hC
  have S : CallFix p m c cc nL s args GW own := ⟨C.1, C.2.1, C.2.2.1, C.2.2.2.1, C.2.2.2.2.1⟩
  obtain ⟨⟨g1, g2, g3, g4, g5⟩, gd⟩ := hm
  have hrv := va_recv (D := E.1) C.2.2.2.2.2.1 hP hci hq0
  rw [hcn] at hrv
  have hrun := va_runV (e := e) (below := below) (meth := meth) (locs := locs) (cells := cells) (slots := slots) (As := As) (rest := rest) (g := F0 m pc ls st) S (hM H.size) ⟨cb_of C rfl rfl g1 g4 g5 gd hR, C.2.2.2.2.1 _ g2, C.2.2.2.2.1 _ g3⟩ ⟨PW.blind _ _ _ _, hrv, fun U hU hW => ⟨rfl, hpw U hU hW⟩⟩ rfl hn hsz hst (lv_room hcat) hdg hcl
  refine va_calll hrun hS (fun q _ h => hFc q h) hFc (fun r0 u t H1 locs1 ht hvm hw1 hB hz1 hk1 hS1 => ?_)
  subst hw1
  obtain ⟨hP1, hD1⟩ := hB
  rw [ht] at hP1
  obtain ⟨hP2, hD2⟩ := va_inpl2 hP hD isC hC ha hix hnw hw hk1 hP1
  exact kk H1 locs1 hP2 hD2 hS1
theorem r_dalVv (C : CX p s m args meth c cc own nL E A) {y : MethodName} {b : ByteArray} {maxL fr lc index n h : Nat} {Cn : String} {As st : List Value} {wc w1 : va_W} (hM : CTv l E y b maxL fr lc (.ref h :: As) wc w1) (hm : MLV own index Cn y b maxL none n) (hR : fr + 1 ≤ R.frames ∧ 8 + (maxL + 11) + lc ≤ R.locals) (hP : va_P E.1 CLS ws H) (hD : va_D A ws) (hS : va_S A s.heap H locs) (q0 : Nat) {ci : Nat} {cq : vw_C} {fs : List Value} (hci : CLS[ci]? = some cq) (hcn : cq.1 = Cn) (hq0 : ws[q0]? = some (h, .inr (ci, fs))) (isC idx : List Nat) (nw : Nat) (hC : isC.map (fun i => ws[i]?) = wc.map some) (hnd : va_nd isC = true) (ha : w1.map (fun q => q.1) = wc.map (fun q => q.1)) (hix : upI nw isC = idx) (hnw : ws.length = nw) (hw : idx.map (fun i => (ws ++ w1)[i]?) = ws'.map some) (hn : As.length = n) (hsz : ls.size = nL) (hst : st = As.reverse ++ .ref h :: rest) (hcat : (rest.map fun v => v.category).sum ≤ 8) (hcl : cells ≤ R.cells ∧ slots ≤ R.slots) (hdg : decode cc pc = .ok (.invokevirtual index, 3))
    (kk : ∀ (H1 : Heap) (locs1 : List Loc), va_P E.1 CLS ws' H1 → va_D A ws' → va_S A s.heap H1 locs1 → W p l e R s m args below meth c H1 locs1 cells slots Q (F0 m (pc + 3) ls rest)) : W p l e R s m args below meth c H locs cells slots Q (F0 m pc ls st) := by
  have hpw := pw_of C hP hD hS isC hC hnd
  have hFc := va_free (wc := wc) hD hS C.2.2.2.2.2.2.2.2.1 isC hC
  have S : CallFix p m c cc nL s args GW own := ⟨C.1, C.2.1, C.2.2.1, C.2.2.2.1, C.2.2.2.2.1⟩
  obtain ⟨⟨g1, g2, g3, g4, g5⟩, gd⟩ := hm
  have hrv := va_recv (D := E.1) C.2.2.2.2.2.1 hP hci hq0
  rw [hcn] at hrv
  have hrun := va_runV (e := e) (below := below) (meth := meth) (locs := locs) (cells := cells) (slots := slots) (As := As) (rest := rest) (g := F0 m pc ls st) S (hM H.size) ⟨cb_of C rfl rfl g1 g4 g5 gd hR, C.2.2.2.2.1 _ g2, C.2.2.2.2.1 _ g3⟩ ⟨PW.blind _ _ _ _, hrv, fun U hU hW => ⟨rfl, hpw U hU hW⟩⟩ rfl hn hsz hst (lv_room hcat) hdg hcl
  refine va_callv hrun hS (fun q _ h => hFc q h) hFc (fun u t H1 locs1 ht hvm hw1 hB hz1 hk1 hS1 => ?_)
  obtain ⟨hP1, hD1⟩ := hB
  rw [ht] at hP1
  obtain ⟨hP2, hD2⟩ := va_inpl2 hP hD isC hC ha hix hnw hw hk1 hP1
  exact kk H1 locs1 hP2 hD2 hS1
theorem r_dalSi (C : CX p s m args meth c cc own nL E A) {y : MethodName} {b : ByteArray} {maxL fr lc index n h : Nat} {ret : FieldType} {r : Int32} {Cn : String} {As st : List Value} {wc w1 : va_W} (hM : CTi l E y b maxL ret fr lc As wc r w1) (hm : MLS own index y b maxL (some ret) n) (hR : fr + 1 ≤ R.frames ∧ 8 + (maxL + 11) + lc ≤ R.locals) (hP : va_P E.1 CLS ws H) (hD : va_D A ws) (hS : va_S A s.heap H locs) (isC idx : List Nat) (nw : Nat) (hC : isC.map (fun i => ws[i]?) = wc.map some) (hnd : va_nd isC = true) (ha : w1.map (fun q => q.1) = wc.map (fun q => q.1)) (hix : upI nw isC = idx) (hnw : ws.length = nw) (hw : idx.map (fun i => (ws ++ w1)[i]?) = ws'.map some) (hn : As.length = n) (hsz : ls.size = nL) (hst : st = As.reverse ++ rest) (hcat : (rest.map fun v => v.category).sum ≤ 8) (hcl : cells ≤ R.cells ∧ slots ≤ R.slots) (hdg : decode cc pc = .ok (.invokestatic index, 3))
    (kk : ∀ (H1 : Heap) (locs1 : List Loc), va_P E.1 CLS ws' H1 → va_D A ws' → va_S A s.heap H1 locs1 → W p l e R s m args below meth c H1 locs1 cells slots Q (F0 m (pc + 3) ls (.int r :: rest))) : W p l e R s m args below meth c H locs cells slots Q (F0 m pc ls st) := by
  have hpw := pw_of C hP hD hS isC hC hnd
  have hFc := va_free (wc := wc) hD hS C.2.2.2.2.2.2.2.2.1 isC hC
  have S : CallFix p m c cc nL s args GW own := ⟨C.1, C.2.1, C.2.2.1, C.2.2.2.1, C.2.2.2.2.1⟩
  obtain ⟨⟨g1, g2, g3, g4⟩, gd⟩ := hm
  have hrun : va_Run p l e R s m args below meth c H locs cells slots 0 0 (F0 m pc ls st) rest (Qi E (va_A wc H.size) r w1 As.toArray) (va_A wc H.size) := by
    rcases g1 with g1 | ⟨host, g1⟩
    · exact va_runS (As := As) (rest := rest) (g := F0 m pc ls st) S (hM H.size) ⟨cb_of C rfl rfl g1 g3 g4 gd hR, C.2.2.2.2.1 _ g2⟩ ⟨PW.blind _ _ _ _, fun U hU hW => ⟨rfl, hpw U hU hW⟩⟩ rfl hn hsz hst (lv_room hcat) hdg hcl
    · exact va_runSN (As := As) (rest := rest) (g := F0 m pc ls st) S (hM H.size) ⟨cn_of C rfl rfl g1 g3 g4 gd hR, C.2.2.2.2.1 _ g2, trivial⟩ ⟨PW.blind _ _ _ _, fun U hU hW => ⟨rfl, hpw U hU hW⟩⟩ rfl hn hsz hst (lv_room hcat) hdg hcl
  refine va_calli hrun hS (fun q _ h => hFc q h) hFc (fun r0 u t H1 locs1 ht hvm hw1 hB hz1 hk1 hS1 => ?_)
  subst hw1
  obtain ⟨hP1, hD1⟩ := hB
  rw [ht] at hP1
  obtain ⟨hP2, hD2⟩ := va_inpl2 hP hD isC hC ha hix hnw hw hk1 hP1
  exact kk H1 locs1 hP2 hD2 hS1
theorem r_dalSl (C : CX p s m args meth c cc own nL E A) {y : MethodName} {b : ByteArray} {maxL fr lc index n h : Nat} {r : Int64} {Cn : String} {As st : List Value} {wc w1 : va_W} (hM : CTl l E y b maxL fr lc As wc r w1) (hm : MLS own index y b maxL (some .long) n) (hR : fr + 1 ≤ R.frames ∧ 8 + (maxL + 11) + lc ≤ R.locals) (hP : va_P E.1 CLS ws H) (hD : va_D A ws) (hS : va_S A s.heap H locs) (isC idx : List Nat) (nw : Nat) (hC : isC.map (fun i => ws[i]?) = wc.map some) (hnd : va_nd isC = true) (ha : w1.map (fun q => q.1) = wc.map (fun q => q.1)) (hix : upI nw isC = idx) (hnw : ws.length = nw) (hw : idx.map (fun i => (ws ++ w1)[i]?) = ws'.map some) (hn : As.length = n) (hsz : ls.size = nL) (hst : st = As.reverse ++ rest) (hcat : (rest.map fun v => v.category).sum ≤ 8) (hcl : cells ≤ R.cells ∧ slots ≤ R.slots) (hdg : decode cc pc = .ok (.invokestatic index, 3))
    (kk : ∀ (H1 : Heap) (locs1 : List Loc), va_P E.1 CLS ws' H1 → va_D A ws' → va_S A s.heap H1 locs1 → W p l e R s m args below meth c H1 locs1 cells slots Q (F0 m (pc + 3) ls (.long r :: rest))) : W p l e R s m args below meth c H locs cells slots Q (F0 m pc ls st) := by
  have hpw := pw_of C hP hD hS isC hC hnd
  have hFc := va_free (wc := wc) hD hS C.2.2.2.2.2.2.2.2.1 isC hC
  have S : CallFix p m c cc nL s args GW own := ⟨C.1, C.2.1, C.2.2.1, C.2.2.2.1, C.2.2.2.2.1⟩
  obtain ⟨⟨g1, g2, g3, g4⟩, gd⟩ := hm
  have hrun : va_Run p l e R s m args below meth c H locs cells slots 0 0 (F0 m pc ls st) rest (Ql E (va_A wc H.size) r w1 As.toArray) (va_A wc H.size) := by
    rcases g1 with g1 | ⟨host, g1⟩
    · exact va_runS (As := As) (rest := rest) (g := F0 m pc ls st) S (hM H.size) ⟨cb_of C rfl rfl g1 g3 g4 gd hR, C.2.2.2.2.1 _ g2⟩ ⟨PW.blind _ _ _ _, fun U hU hW => ⟨rfl, hpw U hU hW⟩⟩ rfl hn hsz hst (lv_room hcat) hdg hcl
    · exact va_runSN (As := As) (rest := rest) (g := F0 m pc ls st) S (hM H.size) ⟨cn_of C rfl rfl g1 g3 g4 gd hR, C.2.2.2.2.1 _ g2, trivial⟩ ⟨PW.blind _ _ _ _, fun U hU hW => ⟨rfl, hpw U hU hW⟩⟩ rfl hn hsz hst (lv_room hcat) hdg hcl
  refine va_calll hrun hS (fun q _ h => hFc q h) hFc (fun r0 u t H1 locs1 ht hvm hw1 hB hz1 hk1 hS1 => ?_)
  subst hw1
  obtain ⟨hP1, hD1⟩ := hB
  rw [ht] at hP1
  obtain ⟨hP2, hD2⟩ := va_inpl2 hP hD isC hC ha hix hnw hw hk1 hP1
  exact kk H1 locs1 hP2 hD2 hS1
theorem r_dalSv (C : CX p s m args meth c cc own nL E A) {y : MethodName} {b : ByteArray} {maxL fr lc index n h : Nat} {Cn : String} {As st : List Value} {wc w1 : va_W} (hM : CTv l E y b maxL fr lc As wc w1) (hm : MLS own index y b maxL none n) (hR : fr + 1 ≤ R.frames ∧ 8 + (maxL + 11) + lc ≤ R.locals) (hP : va_P E.1 CLS ws H) (hD : va_D A ws) (hS : va_S A s.heap H locs) (isC idx : List Nat) (nw : Nat) (hC : isC.map (fun i => ws[i]?) = wc.map some) (hnd : va_nd isC = true) (ha : w1.map (fun q => q.1) = wc.map (fun q => q.1)) (hix : upI nw isC = idx) (hnw : ws.length = nw) (hw : idx.map (fun i => (ws ++ w1)[i]?) = ws'.map some) (hn : As.length = n) (hsz : ls.size = nL) (hst : st = As.reverse ++ rest) (hcat : (rest.map fun v => v.category).sum ≤ 8) (hcl : cells ≤ R.cells ∧ slots ≤ R.slots) (hdg : decode cc pc = .ok (.invokestatic index, 3))
    (kk : ∀ (H1 : Heap) (locs1 : List Loc), va_P E.1 CLS ws' H1 → va_D A ws' → va_S A s.heap H1 locs1 → W p l e R s m args below meth c H1 locs1 cells slots Q (F0 m (pc + 3) ls rest)) : W p l e R s m args below meth c H locs cells slots Q (F0 m pc ls st) := by
  have hpw := pw_of C hP hD hS isC hC hnd
  have hFc := va_free (wc := wc) hD hS C.2.2.2.2.2.2.2.2.1 isC hC
  have S : CallFix p m c cc nL s args GW own := ⟨C.1, C.2.1, C.2.2.1, C.2.2.2.1, C.2.2.2.2.1⟩
  obtain ⟨⟨g1, g2, g3, g4⟩, gd⟩ := hm
  have hrun : va_Run p l e R s m args below meth c H locs cells slots 0 0 (F0 m pc ls st) rest (Qv E (va_A wc H.size) w1 As.toArray) (va_A wc H.size) := by
    rcases g1 with g1 | ⟨host, g1⟩
    · exact va_runS (As := As) (rest := rest) (g := F0 m pc ls st) S (hM H.size) ⟨cb_of C rfl rfl g1 g3 g4 gd hR, C.2.2.2.2.1 _ g2⟩ ⟨PW.blind _ _ _ _, fun U hU hW => ⟨rfl, hpw U hU hW⟩⟩ rfl hn hsz hst (lv_room hcat) hdg hcl
    · exact va_runSN (As := As) (rest := rest) (g := F0 m pc ls st) S (hM H.size) ⟨cn_of C rfl rfl g1 g3 g4 gd hR, C.2.2.2.2.1 _ g2, trivial⟩ ⟨PW.blind _ _ _ _, fun U hU hW => ⟨rfl, hpw U hU hW⟩⟩ rfl hn hsz hst (lv_room hcat) hdg hcl
  refine va_callv hrun hS (fun q _ h => hFc q h) hFc (fun u t H1 locs1 ht hvm hw1 hB hz1 hk1 hS1 => ?_)
  obtain ⟨hP1, hD1⟩ := hB
  rw [ht] at hP1
  obtain ⟨hP2, hD2⟩ := va_inpl2 hP hD isC hC ha hix hnw hw hk1 hP1
  exact kk H1 locs1 hP2 hD2 hS1
theorem r_dalCi (C : CX p s m args meth c cc own nL E A) {y : MethodName} {b : ByteArray} {maxL fr lc index n h : Nat} {ret : FieldType} {r : Int32} {Cn : String} {As st : List Value} {wc w1 : va_W} (hM : CTi l E y b maxL ret fr lc (.ref h :: As) wc r w1) (hm : MLV own index Cn y b maxL (some ret) n) (hR : fr + 1 ≤ R.frames ∧ 8 + (maxL + 11) + lc ≤ R.locals) (hP : va_P E.1 CLS ws H) (hD : va_D A ws) (hS : va_S A s.heap H locs) (hrv : ∃ cell : Cell, H[h]? = some cell ∧ cell.vm.isStatics = false ∧ s.vm.findClass Cn = some cell.cls) (isC idx : List Nat) (nw : Nat) (hC : isC.map (fun i => ws[i]?) = wc.map some) (hnd : va_nd isC = true) (ha : w1.map (fun q => q.1) = wc.map (fun q => q.1)) (hix : upI nw isC = idx) (hnw : ws.length = nw) (hw : idx.map (fun i => (ws ++ w1)[i]?) = ws'.map some) (hn : As.length = n) (hsz : ls.size = nL) (hst : st = As.reverse ++ .ref h :: rest) (hcat : (rest.map fun v => v.category).sum ≤ 8) (hcl : cells ≤ R.cells ∧ slots ≤ R.slots) (hdg : decode cc pc = .ok (.invokevirtual index, 3))
    (kk : ∀ (H1 : Heap) (locs1 : List Loc), va_P E.1 CLS ws' H1 → va_D A ws' → va_S A s.heap H1 locs1 → W p l e R s m args below meth c H1 locs1 cells slots Q (F0 m (pc + 3) ls (.int r :: rest))) : W p l e R s m args below meth c H locs cells slots Q (F0 m pc ls st) := by
  have hpw := pw_of C hP hD hS isC hC hnd
  have hFc := va_free (wc := wc) hD hS C.2.2.2.2.2.2.2.2.1 isC hC
  have S : CallFix p m c cc nL s args GW own := ⟨C.1, C.2.1, C.2.2.1, C.2.2.2.1, C.2.2.2.2.1⟩
  obtain ⟨⟨g1, g2, g3, g4, g5⟩, gd⟩ := hm
  have hrun := va_runV (e := e) (below := below) (meth := meth) (locs := locs) (cells := cells) (slots := slots) (As := As) (rest := rest) (g := F0 m pc ls st) S (hM H.size) ⟨cb_of C rfl rfl g1 g4 g5 gd hR, C.2.2.2.2.1 _ g2, C.2.2.2.2.1 _ g3⟩ ⟨PW.blind _ _ _ _, hrv, fun U hU hW => ⟨rfl, hpw U hU hW⟩⟩ rfl hn hsz hst (lv_room hcat) hdg hcl
  refine va_calli hrun hS (fun q _ h => hFc q h) hFc (fun r0 u t H1 locs1 ht hvm hw1 hB hz1 hk1 hS1 => ?_)
  subst hw1
  obtain ⟨hP1, hD1⟩ := hB
  rw [ht] at hP1
  obtain ⟨hP2, hD2⟩ := va_inpl2 hP hD isC hC ha hix hnw hw hk1 hP1
  exact kk H1 locs1 hP2 hD2 hS1
theorem r_dalCl (C : CX p s m args meth c cc own nL E A) {y : MethodName} {b : ByteArray} {maxL fr lc index n h : Nat} {r : Int64} {Cn : String} {As st : List Value} {wc w1 : va_W} (hM : CTl l E y b maxL fr lc (.ref h :: As) wc r w1) (hm : MLV own index Cn y b maxL (some .long) n) (hR : fr + 1 ≤ R.frames ∧ 8 + (maxL + 11) + lc ≤ R.locals) (hP : va_P E.1 CLS ws H) (hD : va_D A ws) (hS : va_S A s.heap H locs) (hrv : ∃ cell : Cell, H[h]? = some cell ∧ cell.vm.isStatics = false ∧ s.vm.findClass Cn = some cell.cls) (isC idx : List Nat) (nw : Nat) (hC : isC.map (fun i => ws[i]?) = wc.map some) (hnd : va_nd isC = true) (ha : w1.map (fun q => q.1) = wc.map (fun q => q.1)) (hix : upI nw isC = idx) (hnw : ws.length = nw) (hw : idx.map (fun i => (ws ++ w1)[i]?) = ws'.map some) (hn : As.length = n) (hsz : ls.size = nL) (hst : st = As.reverse ++ .ref h :: rest) (hcat : (rest.map fun v => v.category).sum ≤ 8) (hcl : cells ≤ R.cells ∧ slots ≤ R.slots) (hdg : decode cc pc = .ok (.invokevirtual index, 3))
    (kk : ∀ (H1 : Heap) (locs1 : List Loc), va_P E.1 CLS ws' H1 → va_D A ws' → va_S A s.heap H1 locs1 → W p l e R s m args below meth c H1 locs1 cells slots Q (F0 m (pc + 3) ls (.long r :: rest))) : W p l e R s m args below meth c H locs cells slots Q (F0 m pc ls st) := by
  have hpw := pw_of C hP hD hS isC hC hnd
  have hFc := va_free (wc := wc) hD hS C.2.2.2.2.2.2.2.2.1 isC hC
  have S : CallFix p m c cc nL s args GW own := ⟨C.1, C.2.1, C.2.2.1, C.2.2.2.1, C.2.2.2.2.1⟩
  obtain ⟨⟨g1, g2, g3, g4, g5⟩, gd⟩ := hm
  have hrun := va_runV (e := e) (below := below) (meth := meth) (locs := locs) (cells := cells) (slots := slots) (As := As) (rest := rest) (g := F0 m pc ls st) S (hM H.size) ⟨cb_of C rfl rfl g1 g4 g5 gd hR, C.2.2.2.2.1 _ g2, C.2.2.2.2.1 _ g3⟩ ⟨PW.blind _ _ _ _, hrv, fun U hU hW => ⟨rfl, hpw U hU hW⟩⟩ rfl hn hsz hst (lv_room hcat) hdg hcl
  refine va_calll hrun hS (fun q _ h => hFc q h) hFc (fun r0 u t H1 locs1 ht hvm hw1 hB hz1 hk1 hS1 => ?_)
  subst hw1
  obtain ⟨hP1, hD1⟩ := hB
  rw [ht] at hP1
  obtain ⟨hP2, hD2⟩ := va_inpl2 hP hD isC hC ha hix hnw hw hk1 hP1
  exact kk H1 locs1 hP2 hD2 hS1
theorem r_dalCv (C : CX p s m args meth c cc own nL E A) {y : MethodName} {b : ByteArray} {maxL fr lc index n h : Nat} {Cn : String} {As st : List Value} {wc w1 : va_W} (hM : CTv l E y b maxL fr lc (.ref h :: As) wc w1) (hm : MLV own index Cn y b maxL none n) (hR : fr + 1 ≤ R.frames ∧ 8 + (maxL + 11) + lc ≤ R.locals) (hP : va_P E.1 CLS ws H) (hD : va_D A ws) (hS : va_S A s.heap H locs) (hrv : ∃ cell : Cell, H[h]? = some cell ∧ cell.vm.isStatics = false ∧ s.vm.findClass Cn = some cell.cls) (isC idx : List Nat) (nw : Nat) (hC : isC.map (fun i => ws[i]?) = wc.map some) (hnd : va_nd isC = true) (ha : w1.map (fun q => q.1) = wc.map (fun q => q.1)) (hix : upI nw isC = idx) (hnw : ws.length = nw) (hw : idx.map (fun i => (ws ++ w1)[i]?) = ws'.map some) (hn : As.length = n) (hsz : ls.size = nL) (hst : st = As.reverse ++ .ref h :: rest) (hcat : (rest.map fun v => v.category).sum ≤ 8) (hcl : cells ≤ R.cells ∧ slots ≤ R.slots) (hdg : decode cc pc = .ok (.invokevirtual index, 3))
    (kk : ∀ (H1 : Heap) (locs1 : List Loc), va_P E.1 CLS ws' H1 → va_D A ws' → va_S A s.heap H1 locs1 → W p l e R s m args below meth c H1 locs1 cells slots Q (F0 m (pc + 3) ls rest)) : W p l e R s m args below meth c H locs cells slots Q (F0 m pc ls st) := by
  have hpw := pw_of C hP hD hS isC hC hnd
  have hFc := va_free (wc := wc) hD hS C.2.2.2.2.2.2.2.2.1 isC hC
  have S : CallFix p m c cc nL s args GW own := ⟨C.1, C.2.1, C.2.2.1, C.2.2.2.1, C.2.2.2.2.1⟩
  obtain ⟨⟨g1, g2, g3, g4, g5⟩, gd⟩ := hm
  have hrun := va_runV (e := e) (below := below) (meth := meth) (locs := locs) (cells := cells) (slots := slots) (As := As) (rest := rest) (g := F0 m pc ls st) S (hM H.size) ⟨cb_of C rfl rfl g1 g4 g5 gd hR, C.2.2.2.2.1 _ g2, C.2.2.2.2.1 _ g3⟩ ⟨PW.blind _ _ _ _, hrv, fun U hU hW => ⟨rfl, hpw U hU hW⟩⟩ rfl hn hsz hst (lv_room hcat) hdg hcl
  refine va_callv hrun hS (fun q _ h => hFc q h) hFc (fun u t H1 locs1 ht hvm hw1 hB hz1 hk1 hS1 => ?_)
  obtain ⟨hP1, hD1⟩ := hB
  rw [ht] at hP1
  obtain ⟨hP2, hD2⟩ := va_inpl2 hP hD isC hC ha hix hnw hw hk1 hP1
  exact kk H1 locs1 hP2 hD2 hS1
end RW
