def lf (F : Nat → Nat) (g : Nat → Int32) : Nat → Int32 := fun r => if r < 8 then nI (F r) else g r
theorem lf_at {F : Nat → Nat} {g : Nat → Int32} {r : Nat} (h : r < 8) : lf F g r = nI (F r) := if_pos h
theorem lf_upd {F : Nat → Nat} {g : Nat → Int32} {x y : Nat} (hx : x < 8) : upd (lf F g) x (nI y) = lf (fun r => if r = x then y else F r) g := by
  funext r
  unfold upd lf
  by_cases h : r = x
  · subst h
    simp [hx]
  · simp [h]
theorem bfs1_le {o t : Nat → Nat} {lk : Nat → Bool} {d k : Nat} {F : Nat → Nat} (hd : d < 99) (h : ∀ r, F r ≤ 99) (r : Nat) : bfs1 o t lk d k F r ≤ 99 := by
  unfold bfs1
  have := h r
  split
  · exact this
  · split
    · simp only []
      split
      · omega
      · exact this
    · split
      · simp only []
        split
        · omega
        · exact this
      · exact this
theorem bfsD_le {o t : Nat → Nat} {lk : Nat → Bool} {d : Nat} {F : Nat → Nat} (hd : d < 99) (h : ∀ r, F r ≤ 99) : ∀ k r, bfsD o t lk d k F r ≤ 99
  | 0, r => h r
  | k + 1, r => bfs1_le hd (bfsD_le hd h k) r
theorem bfsL_le {D : Nat} {o t : Nat → Nat} {lk : Nat → Bool} {F : Nat → Nat} (h : ∀ r, F r ≤ 99) : ∀ d, d < 99 → ∀ r, bfsL D o t lk d F r ≤ 99
  | 0, _, r => h r
  | d + 1, hd, r => bfsD_le (by omega) (bfsL_le h d (by omega)) D r
theorem meas_door {N D k d : Nat} {o t : Nat → Nat} {lk : Nat → Bool} {dA dB g : Nat → Int32} {F : Nat → Nat} {p1 : Int32} {K : (Nat → Int32) → Option (Nat → Int32)} {rec : Int32 × (Nat → Int32) → Option (Nat → Int32)} (hk : k < D) (hD : D ≤ 10) (hd : d < 9) (hA : dA k = nI (o k)) (hB : dB k = nI (t k)) (ho : o k < 8 ∧ t k < 8) (hF : ∀ r, F r ≤ 99) (hh : fX12_has N p1 (nI k) = some (if lk k = true then 1 else 0)) :
    BX12_measures_47 (nI D) N p1 dA dB (nI d) K rec (nI k, lf F g) = rec (nI (k + 1), lf (bfs1 o t lk d k F) g) := by
  have h1 : ¬ D ≤ k := by omega
  have b1 := hF (o k)
  have b2 := hF (t k)
  obtain ⟨ho1, ho2⟩ := ho
  unfold bfs1
  by_cases hl : lk k = true
  · simp (disch := omega) only [BX12_measures_47, un2, un1, nI_leI, h1, if_false, hh, bd_some, hl, if_true, jn, il, nI_eq, nI_add]
    simp
  · have hh0 : fX12_has N p1 (nI k) = some (nI 0) := by rw [hh, if_neg hl]; rfl
    rw [if_neg hl]
    simp (disch := omega) only [BX12_measures_47, un2, un1, un0, nI_leI, h1, if_false, hh0, bd_some, if_true, jn, il, nI_eq, nI_add, gd_nI, nI_clamp, hA, hB, lf_at ho1, lf_at ho2, lf_upd ho1, lf_upd ho2]
    by_cases c1 : F (o k) = d
    · by_cases c2 : F (t k) = 99
      · rw [if_pos c1, if_pos c2, if_pos (show F (o k) = d ∧ F (t k) = 99 from ⟨c1, c2⟩)]
      · rw [if_pos c1, if_neg c2, if_neg (show ¬ (F (o k) = d ∧ F (t k) = 99) from fun h => c2 h.2)]
        by_cases c3 : F (t k) = d
        · rw [if_pos c3, if_neg (show ¬ F (o k) = 99 by omega), if_neg (show ¬ (F (t k) = d ∧ F (o k) = 99) by omega)]
        · rw [if_neg c3, if_neg (show ¬ (F (t k) = d ∧ F (o k) = 99) from fun h => c3 h.1)]
    · rw [if_neg c1, if_neg (show ¬ (F (o k) = d ∧ F (t k) = 99) from fun h => c1 h.1)]
      by_cases c3 : F (t k) = d
      · rw [if_pos c3]
        by_cases c4 : F (o k) = 99
        · rw [if_pos c4, if_pos (show F (t k) = d ∧ F (o k) = 99 from ⟨c3, c4⟩)]
        · rw [if_neg c4, if_neg (show ¬ (F (t k) = d ∧ F (o k) = 99) from fun h => c4 h.2)]
      · rw [if_neg c3, if_neg (show ¬ (F (t k) = d ∧ F (o k) = 99) from fun h => c3 h.1)]
theorem measures_ok {N D R a : Nat} {o t : Nat → Nat} {lk : Nat → Bool} {dA dB : Nat → Int32} {p1 : Int32} (hN : 64 < N) (hD : D ≤ 10) (hR : R ≤ 8) (ha : a < R) (hA : ∀ k, k < D → dA k = nI (o k)) (hB : ∀ k, k < D → dB k = nI (t k)) (ho : ∀ k, k < D → o k < R ∧ t k < R) (hh : ∀ k, k < D → fX12_has N p1 (nI k) = some (if lk k = true then 1 else 0)) (f0 : Nat → Int32) :
    fX12_measures N (nI a) p1 (nI R) (nI D) dA f0 dB = some (lf (bfsL D o t lk R (fun r => if r = a then 0 else 99)) f0) := by
  unfold fX12_measures
  have i0 : ∀ K : (Nat → Int32) → Option (Nat → Int32), lp (BX12_measures_2 (nI a) K) N (0, f0) = K (lf (fun r => if r = a then 0 else 99) f0) := by
    intro K
    have e8 : lf (fun r => if r = a then 0 else 99) f0 = fa_fill (fun r => nI (if r = a then 0 else 99)) f0 8 := by
      funext r
      unfold lf fa_fill
      rfl
    rw [e8]
    refine lp_for (fun j => (nI j, fa_fill (fun r => nI (if r = a then 0 else 99)) f0 j)) 8 N (by omega) (fun j hj rec => ?_) (fun rec => ?_)
    · have h1 : ¬ 8 ≤ j := by omega
      have e := fa_fill_succ (fun r => nI (if r = a then 0 else 99)) f0 j
      by_cases c : j = a
      · subst c
        simp (disch := omega) only [BX12_measures_2, un2, il, nI_leI, h1, if_false, nI_eq, if_true, jn, gd_nI, nI_clamp, nI_add] at e ⊢
        rw [e]
      · simp (disch := omega) only [BX12_measures_2, un2, il, nI_leI, h1, if_false, nI_eq, c, jn, gd_nI, nI_clamp, nI_add] at e ⊢
        rw [e]
    · simp (disch := omega) only [BX12_measures_2, un2, il, nI_leI, Nat.le_refl, if_true]
  rw [i0]
  simp only [un1]
  have hF0 : ∀ r, (fun r => if r = a then 0 else 99) r ≤ 99 := by
    intro r
    show (if r = a then 0 else 99) ≤ 99
    split <;> omega
  refine lp_for (fun d => (nI d, lf (bfsL D o t lk d (fun r => if r = a then 0 else 99)) f0)) R N (by omega) (fun d hd rec => ?_) (fun rec => ?_)
  · have h1 : ¬ R ≤ d := by omega
    simp (disch := omega) only [BX12_measures_33, un2, nI_leI, h1, if_false]
    have hle := bfsL_le (D := D) (o := o) (t := t) (lk := lk) hF0 d (by omega)
    refine lp_for (fun k => (nI k, lf (bfsD o t lk d k (bfsL D o t lk d (fun r => if r = a then 0 else 99))) f0)) D N (by omega) (fun k hk rec2 => ?_) (fun rec2 => ?_)
    · have hoK := ho k hk
      exact meas_door hk hD (by omega) (hA k hk) (hB k hk) ⟨by omega, by omega⟩ (bfsD_le (by omega) hle k) (hh k hk)
    · simp (disch := omega) only [BX12_measures_47, un2, un1, nI_leI, Nat.le_refl, if_true, il, nI_add]
      rfl
  · simp (disch := omega) only [BX12_measures_33, un2, nI_leI, Nat.le_refl, if_true]
