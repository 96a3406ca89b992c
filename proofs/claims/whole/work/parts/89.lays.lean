/-! the way from every room to every other (reference) -/
theorem lays_ok {N : Nat} {I : Tb} {rA rB : Nat → Int32} (hN : 64 < N) (hi : ib I) (H1 : ∀ i, i < I 0 1 → rA i = nI (I 3 i)) (H2 : ∀ i, i < I 0 1 → rB i = nI (I 4 i)) (fr far : Nat → Int32) :
    ∃ fr' far', fX12_lays N (nI (I 0 0)) (nI (I 0 1)) rA fr rB far = some (fr', far') ∧ ∀ a b, a < I 0 0 → b < I 0 0 → far' (8 * a + b) = nI (ds I nolk a b) := by
  have hR := hi.R
  have hD := hi.D
  unfold fX12_lays
  refine lp_go (X := fun o => ∃ fr' far' : Nat → Int32, o = some (fr', far') ∧ ∀ a b, a < I 0 0 → b < I 0 0 → far' (8 * a + b) = nI (ds I nolk a b)) (fun j q => ∃ fr' far' : Nat → Int32, q = (nI j, fr', far') ∧ ∀ a b, a < j → b < I 0 0 → far' (8 * a + b) = nI (ds I nolk a b)) (I 0 0) (by omega) ⟨fr, far, rfl, fun a b h => by omega⟩ (fun j hj q hq => ?_) (fun q hq rec => ?_)
  · obtain ⟨fr', far', rfl, q1⟩ := hq
    have hme := measures_ok (N := N) (D := I 0 1) (R := I 0 0) (a := j) (o := I 3) (t := I 4) (lk := nolk) (p1 := nI 0) hN hD hR hj H1 H2 (fun k hk => ⟨(hi.door hk).1, (hi.door hk).2.1⟩) (fun k hk => by
      rw [has_ok (by omega) (by omega), Nat.zero_testBit]
      rfl) fr'
    have h3 : ¬ nI (I 0 0) ≤ nI j := fun q => absurd ((nI_leI (by omega) (by omega)).mp q) (by omega)
    generalize hg : lf (bfsL (I 0 1) (I 3) (I 4) nolk (I 0 0) (fun r => if r = j then 0 else 99)) fr' = g at hme
    have hin : ∀ K : (Nat → Int32) → Option ((Nat → Int32) × (Nat → Int32)), lp (BX12_lays_21 (nI j) g K) N (0, far') = K (va_cpy g far' 0 (8 * j) 8) := by
      intro K
      have h := lp_for (B := BX12_lays_21 (nI j) g K) (r := K (va_cpy g far' 0 (8 * j) 8)) (fun i => (nI i, va_cpy g far' 0 (8 * j) i)) 8 N (by omega) (fun i hi2 rec => ?_) (fun rec => ?_)
      · rw [cpy_0] at h
        exact h
      · have l1 : ¬ (8 : Int32) ≤ nI i := fun q => absurd ((nI_leI (a := 8) (by decide) (by omega)).mp q) (by omega)
        have e1 : (8 * nI j + nI i : Int32) = nI (8 * j + i) := by rw [show (8 : Int32) = nI 8 from rfl, pk_mul, nI_add]
        have u := cpy_s g far' 0 (8 * j) i
        rw [Nat.zero_add] at u
        simp (disch := omega) only [BX12_lays_21, un2, l1, if_false, gd_nI, e1, nI_clamp, nI_1, u]
      · have l1 : (8 : Int32) ≤ nI 8 := (nI_leI (a := 8) (by decide) (by decide)).mpr (Nat.le_refl _)
        simp only [BX12_lays_21, un2, l1, if_true]
    refine ⟨(nI (j + 1), g, va_cpy g far' 0 (8 * j) 8), fun rec => ?_, _, _, rfl, fun a b ha hb => ?_⟩
    · unfold BX12_lays_2
      dsimp only [un3]
      rw [if_neg h3, show (0 : Int32) = nI 0 from rfl, hme, bd_some]
      dsimp only [un1]
      rw [show nI 0 = (0 : Int32) from rfl, hin]
      dsimp only [un1]
      rw [nI_1]
    · by_cases e : a = j
      · subst e
        rw [cpy_in (by omega), Nat.zero_add, ← hg]
        unfold lf
        rw [if_pos (by omega), ds_bfs hi nolk hj hb]
      · rw [cpy_out (by omega)]
        exact q1 a b (by omega) hb
  · obtain ⟨fr', far', rfl, q1⟩ := hq
    have h3 : nI (I 0 0) ≤ nI (I 0 0) := (nI_leI (by omega) (by omega)).mpr (Nat.le_refl _)
    refine ⟨fr', far', ?_, q1⟩
    unfold BX12_lays_2
    dsimp only [un3]
    rw [if_pos h3]
