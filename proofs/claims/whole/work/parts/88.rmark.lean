/-! marks (reference) -/
theorem r_mark3 {N : Nat} (w kept : Nat → Int32) : fX12_mark N 3 w kept = some (-1, 0, 3, -1, 3, kept) := rfl
theorem r_mark {N M : Nat} (w kept : Nat → Int32) (hN : 64 < N) (hM : M < 3) : fX12_mark N (nI M) w kept = some (nI M, 0, 0, -1, nI (M + 1), va_cpy w kept 0 (51 * M) 51) := by
  have h3 : ¬ nI M = (3 : Int32) := fun e => by
    have := (nI_eq (by omega) (by decide)).mp (e.trans (il 3))
    omega
  have ev : (nI (M + 1) - 1 : Int32) = nI M := by
    rw [show (1 : Int32) = nI 1 from rfl, pk_sub (by omega), Nat.add_sub_cancel]
  unfold fX12_mark
  rw [if_neg h3]
  have h := lp_for (B := BX12_mark_34 N (nI M) w) (r := some (nI M, 0, 0, -1, nI (M + 1), va_cpy w kept 0 (51 * M) 51)) (fun j => (nI j, va_cpy w kept 0 (51 * M) j)) 51 N (by omega) (fun j hj rec => ?_) (fun rec => ?_)
  · rw [cpy_0] at h
    exact h
  · have l1 : ¬ (51 : Int32) ≤ nI j := fun q => absurd ((nI_leI (a := 51) (by decide) (by omega)).mp q) (by omega)
    have e1 : (51 * nI M + nI j : Int32) = nI (51 * M + j) := by rw [show (51 : Int32) = nI 51 from rfl, pk_mul, nI_add]
    have u := cpy_s w kept 0 (51 * M) j
    rw [Nat.zero_add] at u
    simp (disch := omega) only [BX12_mark_34, un2, l1, if_false, gd_nI, e1, nI_clamp, nI_1, u]
  · have l1 : (51 : Int32) ≤ nI 51 := (nI_leI (a := 51) (by decide) (by decide)).mpr (Nat.le_refl _)
    simp only [BX12_mark_34, un2, l1, if_true, fX12_good, bd_some, un3, nI_1, ev]
theorem r_back {N M j : Nat} (w kept : Nat → Int32) (hN : 64 < N) (hM : M ≤ 3) (hj : j < M) : fX12_back N (nI j) (nI M) kept w = some (1, 0, 0, -1, va_cpy kept w (51 * j) 0 51) := by
  unfold fX12_back
  rw [if_neg (fun q => (nI_lt0 (by omega)).mp q), if_pos ((nI_ltI (by omega) (by omega)).mpr hj)]
  have h := lp_for (B := BX12_back_32 N (nI j) kept) (r := some (1, 0, 0, -1, va_cpy kept w (51 * j) 0 51)) (fun i => (nI i, va_cpy kept w (51 * j) 0 i)) 51 N (by omega) (fun i hi rec => ?_) (fun rec => ?_)
  · rw [cpy_0] at h
    exact h
  · have l1 : ¬ (51 : Int32) ≤ nI i := fun q => absurd ((nI_leI (a := 51) (by decide) (by omega)).mp q) (by omega)
    have e1 : (51 * nI j + nI i : Int32) = nI (51 * j + i) := by rw [show (51 : Int32) = nI 51 from rfl, pk_mul, nI_add]
    have u := cpy_s kept w (51 * j) 0 i
    rw [Nat.zero_add] at u
    simp (disch := omega) only [BX12_back_32, un2, l1, if_false, gd_nI, e1, nI_clamp, nI_1, u]
  · have l1 : (51 : Int32) ≤ nI 51 := (nI_leI (a := 51) (by decide) (by decide)).mpr (Nat.le_refl _)
    simp only [BX12_back_32, un2, l1, if_true, fX12_granted, fX12_good, bd_some, un3, zg_1]
theorem r_backno {N M : Nat} {p : Int32} (w kept : Nat → Int32) (hM : M ≤ 3) (h : ¬ dinb p M = true) : fX12_back N p (nI M) kept w = some (0, 0, 1, -1, w) := by
  have hz : ((fX12_denied N 1).bind (un3 fun r_26 v_trouble_26 v_where_26 => zg r_26 (some (r_26, (0 : Int32), v_trouble_26, v_where_26, w)))) = some (0, 0, 1, -1, w) := by
    rw [show fX12_denied N 1 = some (0, 1, -1) from rfl, bd_some]
    dsimp only [un3]
    rw [zg_0]
  unfold fX12_back
  by_cases c : p < 0
  · rw [if_pos c, hz]
  · rw [if_neg c, if_neg, hz]
    intro q
    obtain ⟨j, hj, rfl⟩ := nI_of c
    exact h (by rw [dinb_nI hj (by omega)]; exact decide_eq_true ((nI_ltI hj (by omega)).mp q))
