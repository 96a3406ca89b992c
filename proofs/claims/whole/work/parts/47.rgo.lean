theorem c0_add (k : Nat) : (0 : Int32) + nI k = nI (0 + k) := nI_add 0 k
theorem c1_add (k : Nat) : (1 : Int32) + nI k = nI (1 + k) := nI_add 1 k
theorem c2_add (k : Nat) : (2 : Int32) + nI k = nI (2 + k) := nI_add 2 k
theorem c3_add (k : Nat) : (3 : Int32) + nI k = nI (3 + k) := nI_add 3 k
theorem c6_add (k : Nat) : (6 : Int32) + nI k = nI (6 + k) := nI_add 6 k
theorem c9_add (k : Nat) : (9 : Int32) + nI k = nI (9 + k) := nI_add 9 k
theorem c12_add (k : Nat) : (12 : Int32) + nI k = nI (12 + k) := nI_add 12 k
theorem c15_add (k : Nat) : (15 : Int32) + nI k = nI (15 + k) := nI_add 15 k
theorem c19_add (k : Nat) : (19 : Int32) + nI k = nI (19 + k) := nI_add 19 k
theorem c23_add (k : Nat) : (23 : Int32) + nI k = nI (23 + k) := nI_add 23 k
theorem c33_add (k : Nat) : (33 : Int32) + nI k = nI (33 + k) := nI_add 33 k
theorem c43_add (k : Nat) : (43 : Int32) + nI k = nI (43 + k) := nI_add 43 k
theorem mtK_none {I n : Tb} {p : Nat → Bool} {j : Nat} (h : ¬ fa_first p j < j) : mtK I n p j = n := by
  funext f i
  unfold mtK
  rw [if_neg]
  intro ⟨_, q2, q3⟩
  have := first_lt q2 q3
  omega
theorem mtK_last {I n : Tb} {s r j : Nat} (hs : s < j) (hp : aslp n r s = true) : set2 (mtK I n (fun q => decide (q ≠ s) && aslp n r q) j) 4 s (ms I n s) = mtK I n (aslp n r) j := by
  funext f i
  unfold set2 mtK
  by_cases c : f = 4 ∧ i = s
  · obtain ⟨rfl, rfl⟩ := c
    rw [if_pos ⟨rfl, rfl⟩, if_pos ⟨rfl, hs, hp⟩]
  · rw [if_neg c]
    show (if f = 4 ∧ i < j ∧ (decide (i ≠ s) && aslp n r i) = true then ms I n i else n f i) = _
    by_cases c2 : f = 4 ∧ i < j ∧ aslp n r i = true
    · have : i ≠ s := fun e => c ⟨c2.1, e⟩
      rw [if_pos c2, if_pos ⟨c2.1, c2.2.1, by simp [this, c2.2.2]⟩]
    · rw [if_neg c2, if_neg]
      intro ⟨q1, q2, q3⟩
      simp only [Bool.and_eq_true] at q3
      exact c2 ⟨q1, q2, q3.2⟩
theorem first_succ {p : Nat → Bool} {j : Nat} : fa_first p (j + 1) < j + 1 ↔ (fa_first p j < j ∨ p j = true) := by
  have hle := fa_first_le p j
  show (if fa_first p j < j then fa_first p j else if p j = true then j else j + 1) < j + 1 ↔ _
  by_cases c : fa_first p j < j
  · rw [if_pos c]; exact ⟨fun _ => Or.inl c, fun _ => by omega⟩
  · rw [if_neg c]
    by_cases c2 : p j = true
    · rw [if_pos c2]; exact ⟨fun _ => Or.inr c2, fun _ => by omega⟩
    · rw [if_neg c2]; exact ⟨fun q => by omega, fun q => by rcases q with q | q; exact absurd q c; exact absurd q c2⟩
/-- behind the door: who is there is met -/
theorem meetall_ok {N : Nat} {I n : Tb} {w isTold act what thn met : Nat → Int32} {s r : Nat} {fr : Nat → Int32} (hN : 64 < N) (hi : ib I) (hb : nb I n) (hs : s < I 0 4) (hr : r < I 0 0) (hsr : n 5 s = r) (hsa : n 7 s = 0) (hR : RS I isTold act what thn met) (h : RN I n w) :
    ∃ w', lp (BX12_goes_266 (nI (I 0 4)) (nI s) (nI r) N isTold met (un2 fun (x330_7 : Int32) (x330_w : Nat → Int32) => if x330_7 = 0 then (some (x330_w, fr)) else ((fX12_meets N (nI s) x330_w isTold met).bind (un1 fun (v_w_337 : Nat → Int32) => some (v_w_337, fr))))) N (0, 0, w) = some (w', fr) ∧ RN I (mta I n s r) w' := by
  have hS := hi.S
  have hRR := hi.R
  have hp : aslp n r s = true := decide_eq_true ⟨hsr, hsa⟩
  refine lp_go (X := fun o => ∃ w', o = some (w', fr) ∧ RN I (mta I n s r) w') (fun j q => ∃ w', q = (nI (if fa_first (fun q => decide (q ≠ s) && aslp n r q) j < j then 1 else 0), nI j, w') ∧ RN I (mtK I n (fun q => decide (q ≠ s) && aslp n r q) j) w') (I 0 4) (by omega) ⟨w, rfl, by rw [mtK_0]; exact h⟩ (fun j hj q hq => ?_) (fun q hq rec => ?_)
  · obtain ⟨w', rfl, hC⟩ := hq
    have h3 : ¬ I 0 4 ≤ j := by omega
    have hbj := hb.s hj
    have hbK := nb_mtK hi hb (fun q => decide (q ≠ s) && aslp n r q) j
    by_cases cj : j = s
    · subst cj
      have pf : (decide (j ≠ j) && aslp n r j) = false := by simp
      refine ⟨(nI (if fa_first (fun q => decide (q ≠ j) && aslp n r q) j < j then 1 else 0), nI (j + 1), w'), fun rec => ?_, w', ?_, ?_⟩
      · simp (disch := omega) only [BX12_goes_266, un3, un2, nI_leI, h3, if_false, jn, if_true, il, nI_add]
      · refine congrArg (fun z => (nI z, nI (j + 1), w')) ?_
        have := first_succ (p := fun q => decide (q ≠ j) && aslp n r q) (j := j)
        by_cases c : fa_first (fun q => decide (q ≠ j) && aslp n r q) j < j
        · rw [if_pos c, if_pos (this.mpr (Or.inl c))]
        · rw [if_neg c, if_neg (fun q => by rcases this.mp q with z | z; exact c z; exact absurd (pf.symm.trans z) (by simp))]
      · rw [mtK_no pf]; exact hC
    · have q7 : w' (9 + j) = nI (n 7 j) := by rw [hC.q7 hj, mtK_f (by omega)]
      have q5 : w' (0 + j) = nI (n 5 j) := by rw [hC.q5 hj, mtK_f (by omega)]
      by_cases ca : aslp n r j = true
      · have pt : (decide (j ≠ s) && aslp n r j) = true := by simp [cj, ca]
        have cab := of_decide_eq_true ca
        obtain ⟨w2, e2, C2⟩ := meets_ok (N := N) (s := j) hi hbK hj hR hC
        rw [mtK_ms (Or.inl (Nat.le_refl j))] at C2
        refine ⟨(nI 1, nI (j + 1), w2), fun rec => ?_, w2, ?_, ?_⟩
        · simp (disch := omega) only [BX12_goes_266, un3, un2, un1, nI_leI, h3, if_false, jn, il, nI_add, nI_eq, cj, gd_nI, nI_clamp, q7, q5, cab.1, cab.2, if_true, e2, bd_some]
          rw [if_neg (by omega)]
        · rw [if_pos (first_succ.mpr (Or.inr pt))]
        · rw [mtK_yes pt]; exact C2
      · have pf : (decide (j ≠ s) && aslp n r j) = false := by simp [ca]
        refine ⟨(nI (if fa_first (fun q => decide (q ≠ s) && aslp n r q) j < j then 1 else 0), nI (j + 1), w'), fun rec => ?_, w', ?_, ?_⟩
        · simp (disch := omega) only [BX12_goes_266, un3, un2, un1, nI_leI, h3, if_false, jn, il, nI_add, nI_eq, cj, gd_nI, nI_clamp, q7, q5]
          by_cases c7 : n 7 j = 1
          · rw [if_pos c7]
          · rw [if_neg c7, if_neg]
            intro c5
            exact ca (decide_eq_true ⟨c5, by omega⟩)
        · refine congrArg (fun z => (nI z, nI (j + 1), w')) ?_
          have := first_succ (p := fun q => decide (q ≠ s) && aslp n r q) (j := j)
          by_cases c : fa_first (fun q => decide (q ≠ s) && aslp n r q) j < j
          · rw [if_pos c, if_pos (this.mpr (Or.inl c))]
          · rw [if_neg c, if_neg (fun q => by rcases this.mp q with z | z; exact c z; exact absurd (pf.symm.trans z) (by simp))]
        · rw [mtK_no pf]; exact hC
  · obtain ⟨w', rfl, hC⟩ := hq
    have hbK := nb_mtK hi hb (fun q => decide (q ≠ s) && aslp n r q) (I 0 4)
    simp (disch := omega) only [BX12_goes_266, un3, nI_leI, Nat.le_refl, if_true]
    unfold mta
    by_cases c : fa_first (fun q => decide (q ≠ s) && aslp n r q) (I 0 4) < I 0 4
    · rw [if_pos c, if_pos c]
      obtain ⟨w2, e2, C2⟩ := meets_ok (N := N) (s := s) hi hbK hs hR hC
      rw [mtK_ms (Or.inr (by simp)), mtK_last hs hp] at C2
      simp (disch := omega) only [un2, un1, e2, bd_some]
      rw [if_neg (by decide)]
      exact ⟨w2, rfl, C2⟩
    · rw [if_neg c, if_neg c]
      rw [mtK_none c] at hC
      simp (disch := omega) only [un2]
      rw [if_pos (by decide)]
      exact ⟨w', rfl, hC⟩
def oI (o : Option Nat) : Int32 := match o with
  | none => -1
  | some b => nI b
theorem goes_ok {N : Nat} {I n : Tb} {w isTold act what thn met doorA doorB falls creak cold listens far : Nat → Int32} {s a : Nat} (fr : Nat → Int32) (hN : 64 < N) (hi : ib I) (hb : nb I n) (h0 : 0 < n 0 0) (hs : s < I 0 4) (ha : a < I 0 0) (hsa : n 7 s = 0) (hne : n 5 s ≠ a) (hR : RS I isTold act what thn met) (hH : RH I doorA doorB falls creak cold listens far) (h : RN I n w) :
    ∃ w' fr', fX12_goes N (nI s) (nI a) w (nI (I 0 0)) (nI (I 0 1)) (nI (I 0 4)) (nI (I 0 5)) doorA fr doorB falls creak listens far cold isTold met = some (w', fr') ∧ RN I (go I n s a) w' := by
  have hS := hi.S
  have hRR := hi.R
  have hD := hi.D
  have hT := hi.T
  have hnc := hi.cnt
  have hbs := hb.s hs
  obtain ⟨H1, H2, H3, H4, H5, H6, H7⟩ := id hH
  have hml : mk (fun d => decide (n 1 d = 2)) (I 0 1) < 2 ^ 31 := by
    have h1 := mk_lt (p := fun d => decide (n 1 d = 2)) (I 0 1)
    have h2 : 2 ^ (I 0 1) ≤ 2 ^ 10 := Nat.pow_le_pow_right (by decide) hD
    omega
  have hhas : ∀ k, k < I 0 1 → fX12_has N (nI (mk (fun d => decide (n 1 d = 2)) (I 0 1))) (nI k) = some (if lks I (n 0 1) k = true then 1 else 0) := fun k hk => by
    rw [has_ok hml (by omega), lk_same hb hk]
  have hme := measures_ok (N := N) (D := I 0 1) (R := I 0 0) (a := a) (o := I 3) (t := I 4) (lk := lks I (n 0 1)) hN hD hRR ha H1 H2 (fun k hk => ⟨(hi.door hk).1, (hi.door hk).2.1⟩) hhas fr
  unfold fX12_goes
  simp (disch := omega) only [c0_add, c6_add, c9_add, c15_add, c23_add, c33_add, gd_nI, nI_clamp, h.q5 hs]
  rw [lockedDoors_ok hN hi hb h, bd_some]
  dsimp only [un1]
  rw [hme, bd_some]
  dsimp only [un1]
  have hfr : ∀ r, r < I 0 0 → lf (bfsL (I 0 1) (I 3) (I 4) (lks I (n 0 1)) (I 0 0) (fun r => if r = a then 0 else 99)) fr r = nI (ds I (lks I (n 0 1)) a r) := fun r hr => by
    rw [lf_at (by omega), ds_bfs hi _ ha hr]
  generalize lf (bfsL (I 0 1) (I 3) (I 4) (lks I (n 0 1)) (I 0 0) (fun r => if r = a then 0 else 99)) fr = fr2 at hfr ⊢
  generalize hlk : nI (mk (fun d => decide (n 1 d = 2)) (I 0 1)) = lkm at hhas ⊢
  have hbt : ∀ r, r < I 0 0 → fX11_between N (nI (n 5 s)) (nI r) (nI (I 0 1)) doorA doorB = some (if dbt I (n 5 s) r < I 0 1 then nI (dbt I (n 5 s) r) else -1) := fun r hr => between_ok hN hD (by omega) (by omega) H1 H2 (ib_o8 hi)
  -- the choice
  have ch : ∀ K : Int32 → Option ((Nat → Int32) × (Nat → Int32)), lp (BX12_goes_28 (nI (I 0 0)) N lkm fr2 w (nI s) (nI (I 0 1)) doorA doorB K) N (-1, 0) = K (oI (bst (cnd I (lks I (n 0 1)) (n 5 s) a) (ds I (lks I (n 0 1)) a) (I 0 0))) := by
    intro K
    refine lp_for (fun j => (oI (bst (cnd I (lks I (n 0 1)) (n 5 s) a) (ds I (lks I (n 0 1)) a) j), nI j)) (I 0 0) N (by omega) (fun j hj rec => ?_) (fun rec => ?_)
    · have h3 : ¬ I 0 0 ≤ j := by omega
      have hd99 := ds_le hi (lks I (n 0 1)) ha hj
      have hbo := bst_ok (c := cnd I (lks I (n 0 1)) (n 5 s) a) (F := ds I (lks I (n 0 1)) a) j
      show _ = rec (oI (if cnd I (lks I (n 0 1)) (n 5 s) a j = true then (match bst (cnd I (lks I (n 0 1)) (n 5 s) a) (ds I (lks I (n 0 1)) a) j with
        | none => some j
        | some i => if ds I (lks I (n 0 1)) a j < ds I (lks I (n 0 1)) a i then some j else some i) else bst (cnd I (lks I (n 0 1)) (n 5 s) a) (ds I (lks I (n 0 1)) a) j), nI (j + 1))
      generalize hbj : bst (cnd I (lks I (n 0 1)) (n 5 s) a) (ds I (lks I (n 0 1)) a) j = bj at hbo ⊢
      simp (disch := omega) only [BX12_goes_28, un2, un1, un0, nI_leI, h3, if_false, if_true, jn, c0_add, c6_add, c9_add, c15_add, c23_add, c33_add, nI_clamp, h.q5 hs, nI_eq, hbt j hj, bd_some, gd_nI, hfr j hj, nI_1]
      by_cases c1 : j = n 5 s
      · have hc : cnd I (lks I (n 0 1)) (n 5 s) a j = false := by unfold cnd; simp [c1]
        rw [if_pos c1, hc, if_neg Bool.false_ne_true]
      · rw [if_neg c1]
        by_cases c2 : dbt I (n 5 s) j < I 0 1
        · rw [if_pos c2, if_neg (fun e => (nI_neg1 (by omega)).mp e), hhas _ c2, bd_some]
          dsimp only [un1]
          by_cases c3 : lks I (n 0 1) (dbt I (n 5 s) j) = true
          · have hc : cnd I (lks I (n 0 1)) (n 5 s) a j = false := by unfold cnd; simp [c3]
            rw [if_pos c3, if_neg (show ¬ (1 : Int32) = 0 by decide), hc, if_neg Bool.false_ne_true]
          · rw [if_neg c3, if_pos (show (0 : Int32) = 0 from rfl)]
            by_cases c4 : ds I (lks I (n 0 1)) a j = 99
            · have hc : cnd I (lks I (n 0 1)) (n 5 s) a j = false := by unfold cnd; simp [c4]
              rw [if_pos (show nI (ds I (lks I (n 0 1)) a j) = 99 by rw [c4]; rfl), hc, if_neg Bool.false_ne_true]
            · have hc : cnd I (lks I (n 0 1)) (n 5 s) a j = true := by unfold cnd; simp [c1, c2, c3, c4]
              rw [if_neg (show ¬ nI (ds I (lks I (n 0 1)) a j) = 99 from fun e => c4 ((nI_eq (by omega) (by omega)).mp (e.trans (il 99)))), hc, if_pos (show true = true from rfl)]
              cases bj with
              | none =>
                rw [if_pos (show oI none = -1 from rfl)]
                rfl
              | some i =>
                have hij : i < j := hbo.1
                have hd2 := ds_le hi (lks I (n 0 1)) ha (show i < I 0 0 by omega)
                refine Eq.trans (if_neg (show ¬ nI i = -1 from fun e => (nI_neg1 (by omega)).mp e)) ?_
                refine Eq.trans (gd_nI _ (show i < 8 by omega) (by omega)) ?_
                show _ = rec (oI (if ds I (lks I (n 0 1)) a j < ds I (lks I (n 0 1)) a i then some j else some i), nI (j + 1))
                by_cases c5 : ds I (lks I (n 0 1)) a j < ds I (lks I (n 0 1)) a i
                · rw [if_pos c5]
                  refine if_neg (show ¬ fr2 (nI i).toNatClampNeg ≤ nI (ds I (lks I (n 0 1)) a j) from ?_)
                  rw [nI_clamp (by omega), hfr i (by omega)]
                  exact fun e => absurd ((nI_leI (by omega) (by omega)).mp e) (by omega)
                · rw [if_neg c5]
                  refine if_pos (show fr2 (nI i).toNatClampNeg ≤ nI (ds I (lks I (n 0 1)) a j) from ?_)
                  rw [nI_clamp (by omega), hfr i (by omega)]
                  exact (nI_leI (by omega) (by omega)).mpr (by omega)
        · have hc : cnd I (lks I (n 0 1)) (n 5 s) a j = false := by unfold cnd; simp [c2]
          rw [if_neg c2, if_pos (show (-1 : Int32) = -1 from rfl), hc, if_neg Bool.false_ne_true]
    · simp (disch := omega) only [BX12_goes_28, un2, un1, nI_leI, Nat.le_refl, if_true]
  rw [ch, choice_ok hi (lks I (n 0 1)) hbs.2.2.1 ha hne]
  unfold go
  by_cases hx : nxt I n s a < I 0 0
  · rw [if_pos hx, if_pos (show fa_first (isT (ds I (lks I (n 0 1))) (n 5 s) a) (I 0 0) < I 0 0 from hx)]
    rw [show fa_first (isT (ds I (lks I (n 0 1))) (n 5 s) a) (I 0 0) = nxt I n s a from rfl]
    have hdd := nxt_door hi hb hs hx
    generalize hr : nxt I n s a = r at *
    dsimp only [oI]
    have hbr := hbt r hx
    rw [if_pos hdd.1] at hbr
    have hd1 := hdd.1
    have h6 := (hi.door hd1).2.2.2.2
    have hc2 := (hi.room hx).2
    generalize hdq : dbt I (n 5 s) r = d at *
    have C0 := h.how hnc hd1 (I 6 d)
    have C0b := C0.passed hnc hd1 (n 2 d + 1)
    have C1 : RN I (gon I n s r d) (upd (upd (upd w (23 + d) (nI (I 6 d))) (33 + d) (nI (n 2 d + 1))) (0 + s) (nI r)) := C0b.roomOf hnc hs r
    have v33 : (upd w (23 + d) (nI (I 6 d))) (33 + d) = nI (n 2 d) := by rw [C0.q2 hd1, set2_f (by omega)]
    have v6 : (upd (upd (upd w (23 + d) (nI (I 6 d))) (33 + d) (nI (n 2 d + 1))) (0 + s) (nI r)) (6 + s) = hI (n 6 s) := by
      rw [C1.q6 hs]
      unfold gon
      rw [set2_f (by omega), set2_f (by omega), set2_f (by omega)]
    have B1 : nb I (gon I n s r d) := ((hb.n1 (by omega) (by omega)).n2).n5 hx
    have B2 : nb I (goh n (gon I n s r d) s r) := by
      unfold goh
      split
      · exact B1
      · exact B1.n8 hx
    have z0 : goh n (gon I n s r d) s r 0 0 = n 0 0 := by
      unfold goh gon
      split
      · rw [set2_f (by omega), set2_f (by omega), set2_f (by omega)]
      · rw [set2_f (by omega), set2_f (by omega), set2_f (by omega), set2_f (by omega)]
    have main : ∀ w2, RN I (goh n (gon I n s r d) s r) w2 → ∃ w' fr', ((fX12_creaksIn N (nI r) (nI (I 0 5)) creak listens far w2).bind (un1 fun (v_w_233 : Nat → Int32) => if cold r = 0 then (lp (BX12_goes_266 (nI (I 0 4)) (nI s) (nI r) N isTold met (un2 fun (x330_7 : Int32) (x330_w : Nat → Int32) => if x330_7 = 0 then (some (x330_w, fr2)) else ((fX12_meets N (nI s) x330_w isTold met).bind (un1 fun (v_w_337 : Nat → Int32) => some (v_w_337, fr2))))) N (0, 0, v_w_233)) else (some (upd v_w_233 (9 + s) 1, fr2)))) = some (w', fr') ∧ RN I (goTo I n s r) w' := by
      intro w2 hw2
      obtain ⟨w3, e3, C3⟩ := creaksIn_ok (N := N) hN hi B2 (by omega) hx hH hw2
      have B3 := nb_crk B2 r (I 0 5) (Nat.le_refl _)
      rw [e3, bd_some]
      dsimp only [un1]
      rw [H5 r hx]
      unfold goTo
      rw [hdq]
      by_cases cc : I 2 r = 0
      · rw [if_pos cc, if_pos (by rw [cc]; rfl)]
        obtain ⟨w4, e4, C4⟩ := meetall_ok (N := N) (s := s) (r := r) (fr := fr2) hN hi B3 hs hx (by
          rw [crk_f (by omega)]
          unfold goh gon
          split
          · rw [set2_s]
          · rw [set2_f (by omega), set2_s]) (by
          rw [crk_f (by omega)]
          unfold goh gon
          split
          · rw [set2_f (by omega), set2_f (by omega), set2_f (by omega)]; exact hsa
          · rw [set2_f (by omega), set2_f (by omega), set2_f (by omega), set2_f (by omega)]; exact hsa) hR C3
        exact ⟨w4, fr2, e4, C4⟩
      · rw [if_neg cc, if_neg (fun e => cc ((nI_eq (by omega) (by omega)).mp (e.trans (il 0))))]
        exact ⟨_, fr2, rfl, C3.awake hnc hs 1⟩
    dsimp only [un1]
    rw [if_neg (fun e => (nI_neg1 (by omega)).mp e), hbr, bd_some]
    have hfal : ∀ f : Int32 × Int32 → Option ((Nat → Int32) × (Nat → Int32)), (if falls (nI d).toNatClampNeg = 0 then f (23 + nI d, 0) else f (23 + nI d, 1)) = f (nI (23 + d), nI (I 6 d)) := by
      intro f
      rw [nI_clamp (by omega), H3 d hd1]
      by_cases f6 : I 6 d = 0
      · rw [f6, if_pos (show nI 0 = 0 from rfl), c23_add]; rfl
      · have f1 : I 6 d = 1 := by omega
        rw [f1, if_neg (show ¬ nI 1 = 0 by decide), c23_add]; rfl
    dsimp only [jn, un1]
    rw [gd_nI _ (by omega) (by omega), hfal]
    dsimp only [un2]
    simp (disch := omega) only [c0_add, c6_add, c9_add, c15_add, c23_add, c33_add, gd_nI, nI_clamp, v33, nI_1, v6, hI_m2]
    by_cases q6 : n 6 s = 0
    · rw [if_pos q6]
      refine main _ ?_
      unfold goh
      rw [if_pos q6]
      exact C1
    · rw [if_neg q6, hI_p q6]
      simp (disch := omega) only [c0_add, c6_add, c9_add, c15_add, c23_add, c33_add, gd_nI, nI_clamp]
      refine main _ ?_
      unfold goh
      rw [if_neg q6]
      exact C1.thingIn hnc (show n 6 s - 1 < I 0 2 by omega) r
  · rw [if_neg hx, if_neg (show ¬ fa_first (isT (ds I (lks I (n 0 1))) (n 5 s) a) (I 0 0) < I 0 0 from hx)]
    dsimp only [oI, un1]
    rw [if_pos rfl]
    exact ⟨_, _, rfl, h⟩
