/-- the first of the least: as the reference's loop keeps it -/
def bst (c : Nat → Bool) (F : Nat → Nat) : Nat → Option Nat
  | 0 => none
  | i + 1 => if c i = true then (match bst c F i with
    | none => some i
    | some j => if F i < F j then some i else some j) else bst c F i
theorem bst_ok {c : Nat → Bool} {F : Nat → Nat} : ∀ n, match bst c F n with
    | none => ∀ r, r < n → c r = false
    | some j => j < n ∧ c j = true ∧ (∀ r, r < n → c r = true → F j ≤ F r) ∧ ∀ r, r < j → c r = true → F j < F r
  | 0 => fun r hr => absurd hr (Nat.not_lt_zero r)
  | i + 1 => by
    have ih := bst_ok (c := c) (F := F) i
    unfold bst
    by_cases hc : c i = true
    · rw [if_pos hc]
      cases hb : bst c F i with
      | none =>
        rw [hb] at ih
        refine ⟨by omega, hc, fun r hr h => ?_, fun r hr h => ?_⟩
        · rcases Nat.lt_succ_iff_lt_or_eq.mp hr with g | g
          · rw [ih r g] at h; cases h
          · rw [g]; exact Nat.le_refl _
        · rw [ih r hr] at h; cases h
      | some j =>
        rw [hb] at ih
        obtain ⟨h1, h2, h3, h4⟩ := ih
        show match (if F i < F j then some i else some j) with
          | none => _
          | some j => _
        by_cases hlt : F i < F j
        · rw [if_pos hlt]
          refine ⟨by omega, hc, fun r hr h => ?_, fun r hr h => ?_⟩
          · rcases Nat.lt_succ_iff_lt_or_eq.mp hr with g | g
            · have := h3 r g h; omega
            · rw [g]; exact Nat.le_refl _
          · have := h3 r hr h; omega
        · rw [if_neg hlt]
          refine ⟨by omega, h2, fun r hr h => ?_, h4⟩
          rcases Nat.lt_succ_iff_lt_or_eq.mp hr with g | g
          · exact h3 r g h
          · rw [g]; omega
    · rw [if_neg hc]
      cases hb : bst c F i with
      | none =>
        rw [hb] at ih
        intro r hr
        rcases Nat.lt_succ_iff_lt_or_eq.mp hr with g | g
        · exact ih r g
        · rw [g]; simpa using hc
      | some j =>
        rw [hb] at ih
        obtain ⟨h1, h2, h3, h4⟩ := ih
        refine ⟨by omega, h2, fun r hr h => ?_, h4⟩
        rcases Nat.lt_succ_iff_lt_or_eq.mp hr with g | g
        · exact h3 r g h
        · rw [g] at h; exact absurd h hc
/-- the class's choice and the reference's are one: the neighbours by c, numbers F from the aim, M of the class -/
theorem choice_same {R a b : Nat} {c : Nat → Bool} {F : Nat → Nat} {M : Nat → Nat → Nat} (ha : a < R) (hb : b < R) (hab : a ≠ b) (hF : ∀ r, r < R → F r = M r b) (h99 : ∀ r, r < R → M r b < 99 → M r b < 98) (hc : ∀ r, r < R → (c r = true ↔ M a r = 1 ∧ F r ≠ 99)) (hle : ∀ x y, x < R → y < R → M x y ≤ 99)
    (htri : ∀ r, r < R → M a r = 1 → M a b ≤ M r b + 1) (hstep : M a b < 99 → ∃ r, r < R ∧ M a r = 1 ∧ M r b + 1 = M a b) :
    bst c F R = if fa_first (isT M a b) R < R then some (fa_first (isT M a b) R) else none := by
  have hok := bst_ok (c := c) (F := F) R
  have hT : ∀ r, isT M a b r = true ↔ (M a r = 1 ∧ M r b + 1 = M a b) := fun r => by unfold isT; exact decide_eq_true_iff
  rcases Nat.lt_or_ge (M a b) 99 with g | g
  · obtain ⟨r0, hr0, s1, s2⟩ := hstep g
    have hfirst : fa_first (isT M a b) R < R := by
      rcases Nat.lt_or_ge (fa_first (isT M a b) R) R with q | q
      · exact q
      · have h1 := fa_first_no (isT M a b) R r0 (by omega)
        rw [(hT r0).mpr ⟨s1, s2⟩] at h1; cases h1
    rw [if_pos hfirst]
    have hy := (hT _).mp (fa_first_yes (isT M a b) R hfirst)
    have hcy : ∀ r, r < R → M a r = 1 → M r b + 1 = M a b → c r = true := fun r hr q1 q2 => (hc r hr).mpr ⟨q1, by rw [hF r hr]; omega⟩
    cases hbs : bst c F R with
    | none =>
      rw [hbs] at hok
      have h1 := hok r0 hr0
      rw [hcy r0 hr0 s1 s2] at h1; cases h1
    | some j =>
      rw [hbs] at hok
      obtain ⟨h1, h2, h3, h4⟩ := hok
      have hcj := (hc j h1).mp h2
      have m1 := h3 r0 hr0 (hcy r0 hr0 s1 s2)
      have m2 := htri j h1 hcj.1
      rw [hF j h1, hF r0 hr0] at m1
      have hj : M j b + 1 = M a b := by omega
      refine congrArg some ?_
      rcases Nat.lt_or_ge j (fa_first (isT M a b) R) with q | q
      · have h5 := fa_first_no (isT M a b) R j q
        rw [(hT j).mpr ⟨hcj.1, hj⟩] at h5; cases h5
      · rcases Nat.lt_or_ge (fa_first (isT M a b) R) j with q2 | q2
        · have h6 := h4 _ q2 (hcy _ hfirst hy.1 hy.2)
          rw [hF j h1, hF _ hfirst] at h6
          omega
        · omega
  · have e99 : M a b = 99 := by have := hle a b ha hb; omega
    have hnot : ¬ fa_first (isT M a b) R < R := by
      intro q
      have hy := (hT _).mp (fa_first_yes (isT M a b) R q)
      have h1 := h99 _ q (by omega)
      omega
    rw [if_neg hnot]
    cases hbs : bst c F R with
    | none => rfl
    | some j =>
      rw [hbs] at hok
      obtain ⟨h1, h2, h3, h4⟩ := hok
      have hcj := (hc j h1).mp h2
      have m2 := htri j h1 hcj.1
      have m3 := hle j b h1 hb
      have m4 : M j b ≠ 99 := by rw [← hF j h1]; exact hcj.2
      have m5 := h99 j h1 (by omega)
      omega
