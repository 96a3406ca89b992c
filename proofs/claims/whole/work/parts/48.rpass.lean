theorem gd49 {ρ : Type} (K : Option ρ) : gd 49 51 K = K := gd_nI (k := 49) K (by omega) (by omega)
theorem holder_ok {N : Nat} {I n : Tb} {w : Nat → Int32} {t : Nat} (hN : 64 < N) (hi : ib I) (hb : nb I n) (ht : t < 4) (h : RN I n w) : fX12_holder N (nI t) (nI (I 0 4)) w = some (if hld I n t < I 0 4 then nI (hld I n t) else -2) := by
  have hS := hi.S
  have hT := hi.T
  unfold fX12_holder hld
  have key := lp_find (B := BX12_holder_2 (nI (I 0 4)) w (nI t)) (p := fun q => decide (n 6 q = t + 1)) (D := I 0 4) (N := N) (e := some (-2)) (f := fun i => some (nI i)) (by omega) (fun i hi2 rec => ?_) (fun rec => ?_)
  · refine Eq.trans key ?_
    split <;> rfl
  · have h3 : ¬ I 0 4 ≤ i := by omega
    have hbi := hb.s hi2
    simp (disch := omega) only [BX12_holder_2, un1, nI_leI, h3, if_false, c6_add, gd_nI, nI_clamp, h.q6 hi2, hI_eq, nI_1]
    by_cases c : n 6 i = t + 1
    · rw [if_pos c, if_pos (decide_eq_true c)]
    · rw [if_neg c, if_neg (fun q => c (of_decide_eq_true q))]
  · simp (disch := omega) only [BX12_holder_2, un1, nI_leI, Nat.le_refl, if_true]
theorem acts_ok {N : Nat} {I n : Tb} {w isTold av what thn' met doorA doorB falls creak cold listens far : Nat → Int32} {s : Nat} (fr : Nat → Int32) (hN : 64 < N) (hi : ib I) (hb : nb I n) (h0 : 0 < n 0 0) (hs : s < I 0 4) (hsa : n 7 s = 0) (hR : RS I isTold av what thn' met) (hH : RH I doorA doorB falls creak cold listens far) (h : RN I n w) :
    ∃ w' fr', fX12_acts N (nI s) w (nI (I 0 0)) (nI (I 0 1)) (nI (I 0 4)) (nI (I 0 5)) isTold av thn' what doorA doorB fr falls creak listens far cold met = some (w', fr') ∧ RN I (act I n s) w' := by
  have hS := hi.S
  have hRR := hi.R
  have hD := hi.D
  have hT := hi.T
  have hnc := hi.cnt
  have hbs := hb.s hs
  have hk := hb.k hi hs
  have hst := r_stateOf_ok (N := N) hi hs h
  unfold fX12_acts act
  rw [hst, bd_some]
  dsimp only [un1]
  obtain ⟨r1, r2⟩ := hR _ hk
  have ht1 := hi.told1 hk
  by_cases ct : I 9 (4 * n 3 s + n 4 s) = 1
  · obtain ⟨e1, e2, e3, e4⟩ := r2 ct
    obtain ⟨k1, k2, k3, k4, k5, k6⟩ := hi.told hk ct
    rw [if_pos (show n 7 s = 0 ∧ I 9 (4 * n 3 s + n 4 s) = 1 from ⟨hsa, ct⟩)]
    generalize 4 * n 3 s + n 4 s = k at *
    have TH : ∀ {m : Tb} {w'}, RN I m w' → RN I (thn I m s k) (upd w' (3 + s) (nI (I 12 k))) := fun hm => hm.stateOf hnc hs (I 12 k)
    simp (disch := omega) only [gd_nI, nI_clamp, r1, ct, e1, e2, e3, jn, un0, un1]
    rw [if_neg (show ¬ nI 1 = 0 by decide)]
    unfold dos
    by_cases a0 : I 10 k = 0
    · have kk := k5 (Or.inl a0)
      rw [a0, if_pos (show (0 : Nat) = 0 from rfl), hI_p (by omega)]
      rw [if_pos (show nI 0 = 0 from rfl), if_pos (show nI 0 = 0 from rfl)]
      simp (disch := omega) only [c0_add, c3_add, gd_nI, nI_clamp, h.q5 hs, nI_eq]
      by_cases c : n 5 s = I 11 k - 1
      · rw [if_pos c, if_pos c]
        exact ⟨_, _, rfl, TH h⟩
      · rw [if_neg c, if_neg c]
        obtain ⟨w2, fr2, e5, C5⟩ := goes_ok (N := N) fr hN hi hb h0 hs (show I 11 k - 1 < I 0 0 by omega) hsa c hR hH h
        rw [e5, bd_some]
        exact ⟨w2, fr2, rfl, C5⟩
    · rw [if_neg a0]
      rw [if_neg (show ¬ nI (I 10 k) = 0 from fun e => a0 ((nI_eq (by omega) (by omega)).mp (e.trans (il 0)))), if_neg (show ¬ nI (I 10 k) = 0 from fun e => a0 ((nI_eq (by omega) (by omega)).mp (e.trans (il 0))))]
      unfold fX12_does
      simp (disch := omega) only [c0_add, c3_add, c6_add, gd_nI, nI_clamp, h.q5 hs, h.q6 hs]
      by_cases a1 : I 10 k = 1
      · have kk := k6 (Or.inl a1)
        have hq8 := h.q8 (show I 11 k - 1 < I 0 2 by omega)
        have hbt := hb.t (show I 11 k - 1 < I 0 2 by omega)
        rw [a1, if_pos (show (1 : Nat) = 1 from rfl), hI_p (by omega), if_pos (show nI 1 = 1 from rfl), holder_ok hN hi hb (by omega) h]
        simp (disch := omega) only [c15_add, gd_nI, nI_clamp, hq8, nI_eq, bd_some, un1, hI_m2]
        by_cases c1 : n 8 (I 11 k - 1) = n 5 s
        · rw [if_pos c1]
          by_cases c3 : hld I n (I 11 k - 1) < I 0 4
          · rw [if_pos c3, if_neg (show ¬ nI (hld I n (I 11 k - 1)) = -2 from fun e => (nI_neg2 (by omega)).mp e), bd_some, if_neg (fun q => q.2.2 c3)]
            exact ⟨_, _, rfl, h⟩
          · rw [if_neg c3, if_pos (show (-2 : Int32) = -2 from rfl)]
            by_cases c2 : n 6 s = 0
            · rw [if_pos c2, if_pos ⟨c1, c2, c3⟩, bd_some]
              have C1 := h.handOf hnc hs (I 11 k)
              rw [hI_p (by omega)] at C1
              exact ⟨_, _, rfl, TH C1⟩
            · rw [if_neg c2, if_neg (fun q => c2 q.2.1), bd_some]
              exact ⟨_, _, rfl, h⟩
        · rw [if_neg c1, if_neg (fun q => c1 q.1), bd_some]
          exact ⟨_, _, rfl, h⟩
      · rw [if_neg a1]
        rw [if_neg (show ¬ nI (I 10 k) = 1 from fun e => a1 ((nI_eq (by omega) (by omega)).mp (e.trans (il 1))))]
        by_cases a2 : I 10 k = 2
        · rw [a2, if_pos (show (2 : Nat) = 2 from rfl), if_pos (show nI 2 = 2 from rfl)]
          dsimp only [jn, un1]
          simp (disch := omega) only [hI_m2]
          have C1 := h.handOf hnc hs 0
          by_cases c : n 6 s = 0
          · rw [if_pos c, if_pos c, zg_in _ (Or.inl rfl), bd_some]
            rw [set2_id c] at C1
            exact ⟨_, _, rfl, C1⟩
          · rw [if_neg c, if_neg c, zg_in _ (Or.inr rfl), bd_some]
            exact ⟨_, _, rfl, TH C1⟩
        · rw [if_neg a2]
          rw [if_neg (show ¬ nI (I 10 k) = 2 from fun e => a2 ((nI_eq (by omega) (by omega)).mp (e.trans (il 2))))]
          by_cases a3 : I 10 k = 3
          · have kk := k6 (Or.inr a3)
            have hq8 := h.q8 (show I 11 k - 1 < I 0 2 by omega)
            have hq9 := h.q9 (show I 11 k - 1 < I 0 2 by omega)
            have hbt := hb.t (show I 11 k - 1 < I 0 2 by omega)
            rw [a3, if_pos (show (3 : Nat) = 3 from rfl), hI_p (by omega), if_pos (show nI 3 = 3 from rfl)]
            simp (disch := omega) only [c15_add, c19_add, gd_nI, nI_clamp, hq8, hq9, nI_eq]
            by_cases c1 : n 8 (I 11 k - 1) = n 5 s
            · rw [if_pos c1]
              by_cases c2 : n 9 (I 11 k - 1) = 0
              · rw [if_pos (show nI (n 9 (I 11 k - 1)) = 0 by rw [c2]; rfl), if_neg (fun q => q.2 c2), bd_some]
                exact ⟨_, _, rfl, h⟩
              · rw [if_neg (show ¬ nI (n 9 (I 11 k - 1)) = 0 from fun e => c2 ((nI_eq (by omega) (by omega)).mp (e.trans (il 0)))), if_pos ⟨c1, c2⟩, bd_some]
                exact ⟨_, _, rfl, TH (h.full hnc (show I 11 k - 1 < I 0 2 by omega) 0)⟩
            · rw [if_neg c1, if_neg (fun q => c1 q.1), bd_some]
              exact ⟨_, _, rfl, h⟩
          · rw [if_neg a3]
            rw [if_neg (show ¬ nI (I 10 k) = 3 from fun e => a3 ((nI_eq (by omega) (by omega)).mp (e.trans (il 3))))]
            by_cases a4 : I 10 k = 4
            · rw [a4, if_pos (show (4 : Nat) = 4 from rfl), if_pos (show nI 4 = 4 from rfl), bd_some]
              exact ⟨_, _, rfl, TH h⟩
            · rw [if_neg a4]
              rw [if_neg (show ¬ nI (I 10 k) = 4 from fun e => a4 ((nI_eq (by omega) (by omega)).mp (e.trans (il 4))))]
              have a5 : I 10 k = 5 := by omega
              have kk := k5 (Or.inr a5)
              rw [hI_p (by omega)]
              have hbt : fX11_between N (nI (n 5 s)) (nI (I 11 k - 1)) (nI (I 0 1)) doorA doorB = some (if dbt I (n 5 s) (I 11 k - 1) < I 0 1 then nI (dbt I (n 5 s) (I 11 k - 1)) else -1) := between_ok hN hD (by omega) (by omega) hH.1 hH.2.1 (ib_o8 hi)
              dsimp only [jn, un1]
              simp (disch := omega) only [nI_eq, hbt, bd_some]
              by_cases c0 : n 5 s = I 11 k - 1
              · have cd : ¬ dbt I (n 5 s) (I 11 k - 1) < I 0 1 := fun q => by
                  have h1 := isB_iff.mp (fa_first_yes _ _ q)
                  have h2 := (hi.door q).2.2.1
                  have h3 : fa_first (isB (I 3) (I 4) (n 5 s) (I 11 k - 1)) (I 0 1) = dbt I (n 5 s) (I 11 k - 1) := rfl
                  rw [h3] at h1
                  omega
                rw [if_pos c0, if_pos trivial, if_neg (fun q => cd q.1), bd_some]
                exact ⟨_, _, rfl, h⟩
              · rw [if_neg c0]
                by_cases cd : dbt I (n 5 s) (I 11 k - 1) < I 0 1
                · have hbd := hb.d cd
                  rw [if_pos cd]
                  dsimp only [un1]
                  rw [if_neg (show ¬ nI (dbt I (n 5 s) (I 11 k - 1)) = -1 from fun e => (nI_neg1 (by omega)).mp e)]
                  simp (disch := omega) only [c23_add, gd_nI, nI_clamp, h.q1 cd]
                  by_cases cc : n 1 (dbt I (n 5 s) (I 11 k - 1)) = 0
                  · rw [if_pos (show nI (n 1 (dbt I (n 5 s) (I 11 k - 1))) = 0 by rw [cc]; rfl), if_pos ⟨cd, cc⟩, bd_some]
                    exact ⟨_, _, rfl, TH (h.how hnc cd 1)⟩
                  · rw [if_neg (show ¬ nI (n 1 (dbt I (n 5 s) (I 11 k - 1))) = 0 from fun e => cc ((nI_eq (by omega) (by omega)).mp (e.trans (il 0)))), if_neg (fun q => cc q.2), bd_some]
                    exact ⟨_, _, rfl, h⟩
                · rw [if_neg cd]
                  dsimp only [un1]
                  rw [if_pos (show (-1 : Int32) = -1 from rfl), if_neg (fun q => cd q.1), bd_some]
                  exact ⟨_, _, rfl, h⟩
  · have ct0 : I 9 (4 * n 3 s + n 4 s) = 0 := by omega
    rw [if_neg (show ¬ (n 7 s = 0 ∧ I 9 (4 * n 3 s + n 4 s) = 1) from fun q => ct q.2)]
    simp (disch := omega) only [gd_nI, nI_clamp, r1, ct0]
    rw [if_pos (show nI 0 = 0 from rfl)]
    exact ⟨_, _, rfl, h⟩
theorem passes_ok {N : Nat} {I n : Tb} {w isTold av what thn' met doorA doorB falls creak cold listens far : Nat → Int32} (fr : Nat → Int32) (hN : 64 < N) (hi : ib I) (hb : nb I n) (h0 : n 0 0 < 40) (hR : RS I isTold av what thn' met) (hH : RH I doorA doorB falls creak cold listens far) (h : RN I n w) :
    ∃ w' fr', fX12_passes N w (nI (I 0 0)) (nI (I 0 1)) (nI (I 0 4)) (nI (I 0 5)) isTold av thn' what doorA doorB fr falls creak listens far cold met = some (w', fr') ∧ RN I (mns I n (I 0 4)) w' := by
  have hS := hi.S
  have hnc := hi.cnt
  have e49 : (49 : Int32).toNatClampNeg = 49 := by decide
  unfold fX12_passes
  rw [gd49, gd49, e49, h.1, nI_1]
  refine lp_go (X := fun o => ∃ w' fr', o = some (w', fr') ∧ RN I (mns I n (I 0 4)) w') (fun j q => ∃ w' fr', q = (nI j, w', fr') ∧ RN I (mns I n j) w') (I 0 4) (by omega) ⟨_, fr, rfl, h.been hnc (n 0 0 + 1)⟩ (fun j hj q hq => ?_) (fun q hq rec => ?_)
  · obtain ⟨w', fr', rfl, hC⟩ := hq
    have h3 : ¬ I 0 4 ≤ j := by omega
    have hbj := nb_mns hi hb h0 j (by omega)
    have z0 := mns_00 (I := I) (n := n) j
    have hbs := hbj.s hj
    by_cases ca : mns I n j 7 j = 0
    · obtain ⟨w2, fr2, e2, C2⟩ := acts_ok (N := N) fr' hN hi hbj (by omega) hj ca hR hH hC
      refine ⟨(nI (j + 1), w2, fr2), fun rec => ?_, w2, fr2, rfl, C2⟩
      simp (disch := omega) only [BX12_passes_13, un3, un2, nI_leI, h3, if_false, c9_add, gd_nI, nI_clamp, hC.q7 hj, ca, jn, e2, bd_some, nI_1]
      rw [if_pos (show nI 0 = 0 from rfl)]
    · refine ⟨(nI (j + 1), w', fr'), fun rec => ?_, w', fr', rfl, ?_⟩
      · simp (disch := omega) only [BX12_passes_13, un3, un2, nI_leI, h3, if_false, c9_add, gd_nI, nI_clamp, hC.q7 hj, jn, nI_1]
        rw [if_neg (fun e => ca ((nI_eq (by omega) (by omega)).mp (e.trans (il 0))))]
      · show RN I (act I (mns I n j) j) w'
        unfold act
        rw [if_neg (fun q => ca q.1)]
        exact hC
  · obtain ⟨w', fr', rfl, hC⟩ := hq
    refine ⟨w', fr', ?_, hC⟩
    simp (disch := omega) only [BX12_passes_13, un3, nI_leI, Nat.le_refl, if_true]
theorem passAll_ok {N : Nat} {I n : Tb} {w isTold av what thn' met doorA doorB falls creak cold listens far : Nat → Int32} (m : Nat) (fr : Nat → Int32) (hN : 64 < N) (hi : ib I) (hb : nb I n) (hm : m ≤ 40) (h0 : n 0 0 ≤ I 0 6) (hR : RS I isTold av what thn' met) (hH : RH I doorA doorB falls creak cold listens far) (h : RN I n w) :
    ∃ w' fr', fX12_passAll N (nI m) w (nI (I 0 6)) (nI (I 0 0)) (nI (I 0 1)) (nI (I 0 4)) (nI (I 0 5)) isTold av thn' what doorA doorB fr falls creak listens far cold met = some (nI (min m (I 0 6 - n 0 0)), w', fr') ∧ RN I (pas I n (min m (I 0 6 - n 0 0))) w' := by
  have hM := hi.M
  have e49 : (49 : Int32).toNatClampNeg = 49 := by decide
  generalize hk : min m (I 0 6 - n 0 0) = k
  unfold fX12_passAll
  refine lp_go (X := fun o => ∃ w' fr', o = some (nI k, w', fr') ∧ RN I (pas I n k) w') (fun j q => ∃ w' fr', q = (nI j, w', fr') ∧ RN I (pas I n j) w') k (by omega) ⟨_, fr, rfl, h⟩ (fun j hj q hq => ?_) (fun q hq rec => ?_)
  · obtain ⟨w', fr', rfl, hC⟩ := hq
    have h3 : ¬ m ≤ j := by omega
    have z0 := pas_00 (I := I) (n := n) j
    have hbj := nb_pas hi hb j (by omega)
    have h4 : ¬ I 0 6 ≤ pas I n j 0 0 := by omega
    obtain ⟨w2, fr2, e2, C2⟩ := passes_ok (N := N) fr' hN hi hbj (by omega) hR hH hC
    refine ⟨(nI (j + 1), w2, fr2), fun rec => ?_, w2, fr2, rfl, C2⟩
    simp (disch := omega) only [BX12_passAll_2, un3, un2, nI_leI, h3, if_false, e49, hC.1, h4, e2, bd_some, nI_1]
    rw [gd49]
  · obtain ⟨w', fr', rfl, hC⟩ := hq
    refine ⟨w', fr', ?_, hC⟩
    have z0 := pas_00 (I := I) (n := n) k
    by_cases c : m ≤ k
    · simp (disch := omega) only [BX12_passAll_2, un3, nI_leI, c, if_true]
    · have h4 : I 0 6 ≤ pas I n k 0 0 := by omega
      simp (disch := omega) only [BX12_passAll_2, un3, nI_leI, c, if_false, e49, hC.1, h4, if_true]
      rw [gd49]
