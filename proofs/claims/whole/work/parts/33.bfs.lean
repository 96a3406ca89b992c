theorem wk_seq {adj : Nat → Nat → Prop} {a : Nat} : ∀ {n b : Nat}, wk adj n a b → ∃ f : Nat → Nat, f 0 = a ∧ f n = b ∧ ∀ i, i < n → adj (f i) (f (i + 1))
  | 0, b, h => ⟨fun _ => a, rfl, h, fun i hi => absurd hi (Nat.not_lt_zero i)⟩
  | n + 1, b, ⟨c, h1, h2⟩ => by
    obtain ⟨f, g1, g2, g3⟩ := wk_seq h1
    refine ⟨fun i => if i ≤ n then f i else b, ?_, ?_, fun i hi => ?_⟩
    · show (if 0 ≤ n then f 0 else b) = a
      rw [if_pos (Nat.zero_le n), g1]
    · show (if n + 1 ≤ n then f (n + 1) else b) = b
      rw [if_neg (by omega)]
    · show adj (if i ≤ n then f i else b) (if i + 1 ≤ n then f (i + 1) else b)
      by_cases h : i < n
      · rw [if_pos (by omega), if_pos (by omega)]
        exact g3 i h
      · have : i = n := by omega
        subst this
        rw [if_pos (Nat.le_refl _), if_neg (by omega), g2]
        exact h2
theorem seq_wk {adj : Nat → Nat → Prop} {f : Nat → Nat} {n : Nat} (h : ∀ i, i < n → adj (f i) (f (i + 1))) : ∀ k i, i + k ≤ n → wk adj k (f i) (f (i + k))
  | 0, i, _ => rfl
  | k + 1, i, hi => ⟨f (i + k), seq_wk h k i (by omega), h (i + k) (by omega)⟩
/-- a walk needs no more doors than there are other rooms -/
theorem wk_short {adj : Nat → Nat → Prop} {R : Nat} (hR : ∀ x y, adj x y → x < R ∧ y < R) {a b : Nat} (ha : a < R) : ∀ n, wk adj n a b → ∃ m, m < R ∧ m ≤ n ∧ wk adj m a b := by
  intro n
  induction n using Nat.strongRecOn with
  | ind n ih =>
    intro h
    rcases Nat.lt_or_ge n R with g | g
    · exact ⟨n, g, Nat.le_refl n, h⟩
    · obtain ⟨f, f0, fn, fs⟩ := wk_seq h
      have hb : ∀ i, i < n + 1 → f i < R := by
        intro i hi
        cases i with
        | zero => rw [f0]; exact ha
        | succ i => exact (hR _ _ (fs i (by omega))).2
      obtain ⟨i, j, hij, hj, e⟩ := fb_twice hb (by omega)
      have w1 := seq_wk fs i 0 (by omega)
      have w2 := seq_wk fs (n - j) j (by omega)
      rw [← e] at w2
      have w3 := wk_app w1 (by simpa using w2)
      rw [show j + (n - j) = n by omega, fn, f0] at w3
      obtain ⟨m, h1, h2, h3⟩ := ih (i + (n - j)) (by omega) w3
      exact ⟨m, h1, by omega, h3⟩
/-- doors that aren't shut out, as pairs of rooms -/
def adjD (D : Nat) (o t : Nat → Nat) (lk : Nat → Bool) (x y : Nat) : Prop := ∃ d, d < D ∧ lk d = false ∧ ((o d = x ∧ t d = y) ∨ (o d = y ∧ t d = x))
theorem adjD_sym {D : Nat} {o t : Nat → Nat} {lk : Nat → Bool} (x y : Nat) (h : adjD D o t lk x y) : adjD D o t lk y x := by
  obtain ⟨d, h1, h2, h3⟩ := h
  exact ⟨d, h1, h2, h3.symm⟩
theorem adjD_in {D R : Nat} {o t : Nat → Nat} {lk : Nat → Bool} (ho : ∀ d, d < D → o d < R ∧ t d < R) (x y : Nat) (h : adjD D o t lk x y) : x < R ∧ y < R := by
  obtain ⟨d, h1, h2, h3⟩ := h
  have := ho d h1
  rcases h3 with ⟨rfl, rfl⟩ | ⟨rfl, rfl⟩
  · exact this
  · exact ⟨this.2, this.1⟩
/-- what a room's number is behind the level d: exact up to d, or none yet -/
def bf (adj : Nat → Nat → Prop) (a d r k : Nat) : Prop := (k ≤ d ∧ wk adj k a r ∧ ∀ n, n < k → ¬ wk adj n a r) ∨ (k = 99 ∧ ∀ n, n ≤ d → ¬ wk adj n a r)
theorem bf_isD {adj : Nat → Nat → Prop} {R a r k : Nat} (hR : ∀ x y, adj x y → x < R ∧ y < R) (ha : a < R) (hR8 : R ≤ 8) (h : bf adj a R r k) : isD adj a r k := by
  rcases h with ⟨h1, h2, h3⟩ | ⟨rfl, h2⟩
  · refine ⟨by omega, fun _ => h2, fun n hn => ?_⟩
    rcases Nat.lt_or_ge n k with g | g
    · exact absurd hn (h3 n g)
    · exact g
  · refine ⟨Nat.le_refl _, fun h => absurd h (Nat.lt_irrefl _), fun n hn => ?_⟩
    obtain ⟨m, g1, g2, g3⟩ := wk_short hR ha n hn
    exact absurd g3 (h2 m (by omega))
