/-! masks of doors -/
theorem lgc0 (x y : Int64) : (lg_cmp x y = nI 0) ↔ x = y := by
  unfold lg_cmp
  by_cases h : x > y
  · rw [if_pos h]
    refine ⟨fun e => absurd e (by decide), fun e => ?_⟩
    subst e
    have h1 : x < x := h
    have h2 := (fa_lt64 x x).mp h1
    omega
  · rw [if_neg h]
    by_cases h2 : x = y
    · rw [if_pos h2]; exact ⟨fun _ => h2, fun _ => rfl⟩
    · rw [if_neg h2]; exact ⟨fun e => absurd e (by decide), fun e => absurd e h2⟩
theorem tb_div (m d : Nat) : m / 2 ^ d % 2 = if m.testBit d = true then 1 else 0 := by
  rw [Nat.testBit, Nat.shiftRight_eq_div_pow]
  have h := Nat.mod_two_eq_zero_or_one (m / 2 ^ d)
  rcases h with h | h
  · rw [h]
    have : (1 &&& m / 2 ^ d != 0) = false := by
      rw [Nat.and_comm, Nat.and_one_is_mod, h]; rfl
    rw [this]; rfl
  · rw [h]
    have : (1 &&& m / 2 ^ d != 0) = true := by
      rw [Nat.and_comm, Nat.and_one_is_mod, h]; rfl
    rw [this]; rfl
theorem bitSet_ok {N m d : Nat} (hm : m < 2 ^ 31) (hd : d < 64) : fX10_isBitSet N (nI m).toInt64 (nI d) = some (if m.testBit d = true then 1 else 0) := by
  unfold fX10_isBitSet
  rw [nI_l hm, wb_bit (by omega) hd, tb_div, il, il]
  by_cases h : m.testBit d = true
  · rw [if_pos h, if_pos h, if_neg (fun e => absurd ((lgc0 _ _).mp e) (by decide))]
  · rw [if_neg h, if_neg h, if_pos ((lgc0 (lN 0) 0).mpr rfl)]
theorem has_ok {N m d : Nat} (hm : m < 2 ^ 31) (hd : d < 32) : fX12_has N (nI m) (nI d) = some (if m.testBit d = true then 1 else 0) := by
  unfold fX12_has
  rw [il, il, il, pk_shrN hm (nI d &&& nI 31) d (s_l d hd), fa_and, Nat.and_one_is_mod, tb_div]
  by_cases h : m.testBit d = true
  · rw [if_pos h, if_pos h, if_pos rfl]
  · rw [if_neg h, if_neg h, if_neg (by decide)]
/-- the first k doors that p holds of, as bits -/
def mk (p : Nat → Bool) : Nat → Nat
  | 0 => 0
  | k + 1 => if p k = true then mk p k ||| 2 ^ k else mk p k
theorem mk_lt {p : Nat → Bool} : ∀ k, mk p k < 2 ^ k
  | 0 => Nat.one_pos
  | k + 1 => by
    have ih := mk_lt (p := p) k
    unfold mk
    have h2 : 2 ^ (k + 1) = 2 ^ k + 2 ^ k := by rw [Nat.pow_succ]; omega
    split
    · exact Nat.or_lt_two_pow (by omega) (by omega)
    · omega
theorem mk_bit {p : Nat → Bool} {i : Nat} : ∀ k, (mk p k).testBit i = (decide (i < k) && p i)
  | 0 => by simp [mk]
  | k + 1 => by
    have ih := mk_bit (p := p) (i := i) k
    unfold mk
    by_cases h : p k = true
    · rw [if_pos h, Nat.testBit_or, ih, Nat.testBit_two_pow]
      by_cases hik : k = i
      · subst hik; simp [h]
      · have : decide (i < k + 1) = decide (i < k) := by
          by_cases c : i < k
          · simp [c]; omega
          · simp [c]; omega
        rw [this]; simp [hik]
    · rw [if_neg h, ih]
      by_cases hik : i = k
      · subst hik
        have : p i = false := by simpa using h
        simp [this]
      · have : decide (i < k + 1) = decide (i < k) := by
          by_cases c : i < k
          · simp [c]; omega
          · simp [c]; omega
        rw [this]
theorem one_shl {d : Nat} (hd : d < 31) : (1 : Int32) <<< (nI d &&& nI 31) = nI (2 ^ d) := by
  have h := pk_shlN (n := 1) (nI d &&& nI 31) d (s_l d (by omega)) (by
    rw [Nat.one_mul]
    exact Nat.pow_lt_pow_right (by decide) (by omega))
  rw [Nat.one_mul] at h
  exact h
