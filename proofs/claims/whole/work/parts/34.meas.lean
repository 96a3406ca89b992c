/-- the reference's levels: one door looked at -/
def bfs1 (o t : Nat → Nat) (lk : Nat → Bool) (d k : Nat) (F : Nat → Nat) : Nat → Nat :=
  if lk k = true then F else if F (o k) = d ∧ F (t k) = 99 then (fun r => if r = t k then d + 1 else F r) else if F (t k) = d ∧ F (o k) = 99 then (fun r => if r = o k then d + 1 else F r) else F
def bfsD (o t : Nat → Nat) (lk : Nat → Bool) (d : Nat) : Nat → (Nat → Nat) → (Nat → Nat)
  | 0, F => F
  | k + 1, F => bfs1 o t lk d k (bfsD o t lk d k F)
def bfsL (D : Nat) (o t : Nat → Nat) (lk : Nat → Bool) : Nat → (Nat → Nat) → (Nat → Nat)
  | 0, F => F
  | d + 1, F => bfsD o t lk d D (bfsL D o t lk d F)
/-- in the midst of the level d, k doors looked at -/
def bg (D : Nat) (o t : Nat → Nat) (lk : Nat → Bool) (a d k : Nat) (F : Nat → Nat) : Prop :=
  (∀ r, (F r ≤ d + 1 ∧ wk (adjD D o t lk) (F r) a r ∧ ∀ n, n < F r → ¬ wk (adjD D o t lk) n a r) ∨ (F r = 99 ∧ ∀ n, n ≤ d → ¬ wk (adjD D o t lk) n a r)) ∧ ∀ e, e < k → lk e = false → (F (o e) = d → F (t e) ≠ 99) ∧ (F (t e) = d → F (o e) ≠ 99)
theorem bg_step {D : Nat} {o t : Nat → Nat} {lk : Nat → Bool} {a d k : Nat} {F : Nat → Nat} (hd : d < 90) (hk : k < D) (h : bg D o t lk a d k F) : bg D o t lk a d (k + 1) (bfs1 o t lk d k F) := by
  obtain ⟨h1, h2⟩ := h
  unfold bfs1
  by_cases hl : lk k = true
  · rw [if_pos hl]
    refine ⟨h1, fun e he hle => ?_⟩
    rcases Nat.lt_succ_iff_lt_or_eq.mp he with g | g
    · exact h2 e g hle
    · rw [g, hl] at hle; cases hle
  · rw [if_neg hl]
    have hl' : lk k = false := by simpa using hl
    have new : ∀ x y, adjD D o t lk x y → F x = d → F y = 99 → (d + 1 ≤ d + 1 ∧ wk (adjD D o t lk) (d + 1) a y ∧ ∀ n, n < d + 1 → ¬ wk (adjD D o t lk) n a y) := by
      intro x y hxy hx hy
      refine ⟨Nat.le_refl _, ⟨x, ?_, hxy⟩, fun n hn => ?_⟩
      · rcases h1 x with ⟨_, g, _⟩ | ⟨g, _⟩
        · rw [hx] at g; exact g
        · omega
      · rcases h1 y with ⟨g, _, _⟩ | ⟨_, g⟩
        · omega
        · exact g n (by omega)
    have keep : ∀ (z : Nat), F z = 99 → ∀ e, e < k + 1 → lk e = false → e ≠ k → (((fun r => if r = z then d + 1 else F r) (o e) = d → (fun r => if r = z then d + 1 else F r) (t e) ≠ 99) ∧ ((fun r => if r = z then d + 1 else F r) (t e) = d → (fun r => if r = z then d + 1 else F r) (o e) ≠ 99)) := by
      intro z hz e he hle hne
      have g := h2 e (by omega) hle
      by_cases c1 : o e = z <;> by_cases c2 : t e = z <;> simp only [c1, c2, if_true, if_false] <;> (try rw [c1] at g) <;> (try rw [c2] at g) <;> constructor <;> intro q <;> first | omega | exact g.1 q | exact g.2 q
    by_cases c1 : F (o k) = d ∧ F (t k) = 99
    · rw [if_pos c1]
      refine ⟨fun r => ?_, fun e he hle => ?_⟩
      · by_cases hr : r = t k
        · simp only [hr, if_true]
          exact Or.inl (new (o k) (t k) ⟨k, hk, hl', Or.inl ⟨rfl, rfl⟩⟩ c1.1 c1.2)
        · simp only [hr, if_false]
          exact h1 r
      · by_cases hek : e = k
        · subst hek
          simp only [if_true]
          by_cases hot : o e = t e
          · rw [hot] at c1; omega
          · simp only [hot, if_false]
            constructor <;> intro q <;> omega
        · exact keep (t k) c1.2 e he hle hek
    · rw [if_neg c1]
      by_cases c2 : F (t k) = d ∧ F (o k) = 99
      · rw [if_pos c2]
        refine ⟨fun r => ?_, fun e he hle => ?_⟩
        · by_cases hr : r = o k
          · simp only [hr, if_true]
            exact Or.inl (new (t k) (o k) ⟨k, hk, hl', Or.inr ⟨rfl, rfl⟩⟩ c2.1 c2.2)
          · simp only [hr, if_false]
            exact h1 r
        · by_cases hek : e = k
          · subst hek
            simp only [if_true]
            by_cases hot : t e = o e
            · rw [hot] at c2; omega
            · simp only [hot, if_false]
              constructor <;> intro q <;> omega
          · exact keep (o k) c2.2 e he hle hek
      · rw [if_neg c2]
        refine ⟨h1, fun e he hle => ?_⟩
        rcases Nat.lt_succ_iff_lt_or_eq.mp he with g | g
        · exact h2 e g hle
        · subst g
          exact ⟨fun q1 q2 => c1 ⟨q1, q2⟩, fun q1 q2 => c2 ⟨q1, q2⟩⟩
theorem bg_all {D : Nat} {o t : Nat → Nat} {lk : Nat → Bool} {a d : Nat} {F : Nat → Nat} (hd : d < 90) (h : bg D o t lk a d 0 F) : ∀ k, k ≤ D → bg D o t lk a d k (bfsD o t lk d k F)
  | 0, _ => h
  | k + 1, hk => bg_step hd (by omega) (bg_all hd h k (by omega))
theorem bf_level {D : Nat} {o t : Nat → Nat} {lk : Nat → Bool} {a d : Nat} {F : Nat → Nat} (hd : d < 90) (h : ∀ r, bf (adjD D o t lk) a d r (F r)) : ∀ r, bf (adjD D o t lk) a (d + 1) r (bfsD o t lk d D F r) := by
  have h0 : bg D o t lk a d 0 F := ⟨fun r => by
    rcases h r with ⟨g1, g2, g3⟩ | ⟨g1, g2⟩
    · exact Or.inl ⟨by omega, g2, g3⟩
    · exact Or.inr ⟨g1, g2⟩, fun e he => absurd he (Nat.not_lt_zero e)⟩
  have h1 := bg_all hd h0 D (Nat.le_refl D)
  intro r
  obtain ⟨h2, h3⟩ := h1
  rcases h2 r with g | ⟨g1, g2⟩
  · exact Or.inl g
  · refine Or.inr ⟨g1, fun n hn hw => ?_⟩
    rcases Nat.lt_or_ge n (d + 1) with q | q
    · exact g2 n (by omega) hw
    · have e : n = d + 1 := by omega
      subst e
      obtain ⟨c, w1, e, he, hle, hor⟩ := hw
      have hc : bfsD o t lk d D F c = d := by
        rcases h2 c with ⟨q1, q2, q3⟩ | ⟨q1, q2⟩
        · rcases Nat.lt_or_ge (bfsD o t lk d D F c) d with z | z
          · have w5 : wk (adjD D o t lk) (bfsD o t lk d D F c + 1) a r := ⟨c, q2, e, he, hle, hor⟩
            exact absurd w5 (g2 (bfsD o t lk d D F c + 1) (by omega))
          · rcases Nat.lt_or_ge d (bfsD o t lk d D F c) with y | y
            · exact absurd w1 (q3 d y)
            · omega
        · exact absurd w1 (q2 d (Nat.le_refl d))
      have h4 := h3 e he hle
      rcases hor with ⟨rfl, rfl⟩ | ⟨rfl, rfl⟩
      · exact h4.1 hc g1
      · exact h4.2 hc g1
theorem bfs_ok {D R : Nat} {o t : Nat → Nat} {lk : Nat → Bool} {a : Nat} (ho : ∀ d, d < D → o d < R ∧ t d < R) (ha : a < R) (hR : R ≤ 8) (r : Nat) : isD (adjD D o t lk) a r (bfsL D o t lk R (fun r => if r = a then 0 else 99) r) := by
  have h : ∀ d, d ≤ 8 → ∀ r, bf (adjD D o t lk) a d r (bfsL D o t lk d (fun r => if r = a then 0 else 99) r) := by
    intro d
    induction d with
    | zero =>
      intro _ r
      show bf _ a 0 r (if r = a then 0 else 99)
      by_cases hr : r = a
      · rw [if_pos hr]
        exact Or.inl ⟨Nat.le_refl 0, hr.symm, fun n hn => absurd hn (Nat.not_lt_zero n)⟩
      · rw [if_neg hr]
        refine Or.inr ⟨rfl, fun n hn hw => hr ?_⟩
        have : n = 0 := by omega
        subst this
        exact (Eq.symm hw)
    | succ d ih => exact fun hd => bf_level (by omega) (ih (by omega))
  exact bf_isD (adjD_in ho) ha hR (h R hR r)
