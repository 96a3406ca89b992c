/-- a loop that looks for the first -/
theorem lp_find {ρ : Type} {B : (Int32 → Option ρ) → Int32 → Option ρ} {p : Nat → Bool} {D N : Nat} {e : Option ρ} {f : Nat → Option ρ} (hN : D < N) (h1 : ∀ i, i < D → ∀ rec, B rec (nI i) = if p i = true then f i else rec (nI (i + 1))) (h2 : ∀ rec, B rec (nI D) = e) : lp B N (nI 0) = if fa_first p D < D then f (fa_first p D) else e := by
  have hle := fa_first_le p D
  refine lp_to (fun i => nI i) (fa_first p D) (fun rec => ?_) (fa_first p D) 0 N (by omega) (by omega) (fun j _ hj rec => ?_)
  · by_cases c : fa_first p D < D
    · rw [if_pos c]
      show B rec (nI (fa_first p D)) = _
      rw [h1 _ c, if_pos (fa_first_yes p D c)]
    · rw [if_neg c]
      have : fa_first p D = D := by omega
      show B rec (nI (fa_first p D)) = _
      rw [this]
      exact h2 rec
  · have hp := fa_first_no p D j hj
    show B rec (nI j) = rec (nI (j + 1))
    rw [h1 j (by omega), hp]
    rfl
/-- the door between a and b -/
def isB (o t : Nat → Nat) (a b k : Nat) : Bool := decide ((o k = a ∧ t k = b) ∨ (o k = b ∧ t k = a))
theorem doorBetween_ok {N D a b : Nat} {o t : Nat → Nat} {h1 h2 : Nat → Int32} (hN : 64 < N) (hD : D ≤ 10) (ha : a < 8) (hb : b < 8) (hA : ∀ k, k < D → h1 k = nI (o k)) (hB : ∀ k, k < D → h2 k = nI (t k)) (ho : ∀ k, k < D → o k < 8 ∧ t k < 8) :
    fX1_doorBetween N (nI a) (nI b) (nI D) h1 h2 = some (if fa_first (isB o t a b) D < D then nI (fa_first (isB o t a b) D) else -2) := by
  unfold fX1_doorBetween
  have h := lp_find (B := BX1_doorBetween_2 (nI D) h1 (nI b) h2 (nI a)) (p := isB o t a b) (D := D) (N := N) (e := some (-2)) (f := fun i => some (nI i)) (by omega) (fun i hi rec => ?_) (fun rec => ?_)
  · refine Eq.trans h ?_
    split <;> rfl
  · have h3 : ¬ D ≤ i := by omega
    have hoi := ho i hi
    simp (disch := omega) only [BX1_doorBetween_2, un1, un0, nI_leI, h3, if_false, gd_nI, jn, hA i hi, hB i hi, nI_clamp, nI_eq, il, nI_add]
    unfold isB
    by_cases c1 : o i = a
    · by_cases c2 : t i = b
      · rw [if_pos c1, if_pos c2, if_pos (decide_eq_true (Or.inl ⟨c1, c2⟩))]
      · rw [if_pos c1, if_neg c2]
        by_cases c3 : o i = b
        · by_cases c4 : t i = a
          · rw [if_pos c3, if_pos c4, if_pos (decide_eq_true (Or.inr ⟨c3, c4⟩))]
          · rw [if_pos c3, if_neg c4, if_neg (fun h => by simp [c2, c4] at h)]
        · rw [if_neg c3, if_neg (fun h => by simp [c2, c3] at h)]
    · rw [if_neg c1]
      by_cases c3 : o i = b
      · by_cases c4 : t i = a
        · rw [if_pos c3, if_pos c4, if_pos (decide_eq_true (Or.inr ⟨c3, c4⟩))]
        · rw [if_pos c3, if_neg c4, if_neg (fun h => by simp [c1, c4] at h)]
      · rw [if_neg c3, if_neg (fun h => by simp [c1, c3] at h)]
  · simp (disch := omega) only [BX1_doorBetween_2, un1, nI_leI, Nat.le_refl, if_true]
theorem between_ok {N D a b : Nat} {o t : Nat → Nat} {h1 h2 : Nat → Int32} (hN : 64 < N) (hD : D ≤ 10) (ha : a < 8) (hb : b < 8) (hA : ∀ k, k < D → h1 k = nI (o k)) (hB : ∀ k, k < D → h2 k = nI (t k)) (ho : ∀ k, k < D → o k < 8 ∧ t k < 8) :
    fX11_between N (nI a) (nI b) (nI D) h1 h2 = some (if fa_first (isB o t a b) D < D then nI (fa_first (isB o t a b) D) else -1) := by
  unfold fX11_between
  have h := lp_find (B := BX11_between_2 (nI D) h1 (nI b) h2 (nI a)) (p := isB o t a b) (D := D) (N := N) (e := some (-1)) (f := fun i => some (nI i)) (by omega) (fun i hi rec => ?_) (fun rec => ?_)
  · refine Eq.trans h ?_
    split <;> rfl
  · have h3 : ¬ D ≤ i := by omega
    have hoi := ho i hi
    simp (disch := omega) only [BX11_between_2, un1, un0, nI_leI, h3, if_false, gd_nI, jn, hA i hi, hB i hi, nI_clamp, nI_eq, il, nI_add]
    unfold isB
    by_cases c1 : o i = a
    · by_cases c2 : t i = b
      · rw [if_pos c1, if_pos c2, if_pos (decide_eq_true (Or.inl ⟨c1, c2⟩))]
      · rw [if_pos c1, if_neg c2]
        by_cases c3 : o i = b
        · by_cases c4 : t i = a
          · rw [if_pos c3, if_pos c4, if_pos (decide_eq_true (Or.inr ⟨c3, c4⟩))]
          · rw [if_pos c3, if_neg c4, if_neg (fun h => by simp [c2, c4] at h)]
        · rw [if_neg c3, if_neg (fun h => by simp [c2, c3] at h)]
    · rw [if_neg c1]
      by_cases c3 : o i = b
      · by_cases c4 : t i = a
        · rw [if_pos c3, if_pos c4, if_pos (decide_eq_true (Or.inr ⟨c3, c4⟩))]
        · rw [if_pos c3, if_neg c4, if_neg (fun h => by simp [c1, c4] at h)]
      · rw [if_neg c3, if_neg (fun h => by simp [c1, c3] at h)]
  · simp (disch := omega) only [BX11_between_2, un1, nI_leI, Nat.le_refl, if_true]
/-- where one goes first: a room through an open way that is one door nearer -/
def isT (M : Nat → Nat → Nat) (a b k : Nat) : Bool := decide (M a k = 1 ∧ M k b + 1 = M a b)
theorem roomToward_ok {N R a b : Nat} {M : Nat → Nat → Nat} {g : Nat → Int32} (hN : 64 < N) (hR : R ≤ 8) (ha : a < R) (hb : b < R) (hM : ∀ x y, x < R → y < R → M x y ≤ 99) (hab : 0 < M a b) :
    fX8_roomToward N (nI a) (nI b) (nI R) (mf R M g) = some (if fa_first (isT M a b) R < R then nI (fa_first (isT M a b) R) else -1) := by
  unfold fX8_roomToward
  rw [doorsFrom_ok (by omega) (by omega), bd_some, mf_at ha hb hR]
  simp only [un1]
  have h := lp_find (B := BX8_roomToward_12 (nI R) N (nI a) (mf R M g) (nI b) (nI (M a b))) (p := isT M a b) (D := R) (N := N) (e := some (-1)) (f := fun i => some (nI i)) (by omega) (fun i hi rec => ?_) (fun rec => ?_)
  · refine Eq.trans h ?_
    split <;> rfl
  · have h3 : ¬ R ≤ i := by omega
    have b1 := hM a i ha hi
    have b2 := hM i b hi hb
    have b3 := hM a b ha hb
    simp (disch := omega) only [BX8_roomToward_12, un1, un0, nI_leI, h3, if_false, doorsFrom_ok, bd_some, mf_at ha hi hR, mf_at hi hb hR, jn, il, nI_eq, pk_sub, nI_add]
    unfold isT
    by_cases c1 : M a i = 1
    · by_cases c2 : M i b = M a b - 1
      · rw [if_pos c1, if_pos c2, if_pos (decide_eq_true ⟨c1, by omega⟩)]
      · rw [if_pos c1, if_neg c2, if_neg (fun h => by have := of_decide_eq_true h; omega)]
    · rw [if_neg c1, if_neg (fun h => by have := of_decide_eq_true h; omega)]
  · simp (disch := omega) only [BX8_roomToward_12, un1, nI_leI, Nat.le_refl, if_true]
