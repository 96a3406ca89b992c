/-! the fewest locks -/
def pop (m : Nat) : Nat := cnb (fun i => m.testBit i) 10
theorem bitCount_ok {N m : Nat} (hm : m < 1024) : fJ6_bitCount_0f7a4 N (nI m) = some (nI (pop m)) := by
  have h : ∀ m, m < 1024 → fJ6_bitCount_0f7a4 0 (nI m) = some (nI (pop m)) := by decide +kernel
  exact h m hm
theorem pop_step : ∀ m, m < 1024 → m ≠ 0 → pop (m &&& (m - 1)) + 1 = pop m := by decide +kernel
theorem pop_zero : ∀ m, m < 1024 → pop m = 0 → m = 0 := by decide +kernel
theorem pop_le (m : Nat) : pop m ≤ 10 := cnb_le 10
theorem pop_0 : pop 0 = 0 := by decide
theorem bits_ok {N m : Nat} (hN : 64 < N) (hm : m < 1024) : fX12_bits N (nI m) = some (nI (pop m)) := by
  have key : ∀ (k m n M : Nat), pop m = k → m < 1024 → k < M → lp BX12_bits_4 M (nI n, nI m) = some (nI (n + k)) := by
    intro k
    induction k with
    | zero =>
      intro m n M h1 h2 h3
      have e := pop_zero m h2 h1
      subst e
      cases M with
      | zero => omega
      | succ M =>
        show BX12_bits_4 _ _ = _
        simp only [BX12_bits_4, un2]
        rw [if_pos (show nI 0 = 0 from rfl)]
        rfl
    | succ k ih =>
      intro m n M h1 h2 h3
      have hne : m ≠ 0 := fun e => by rw [e, pop_0] at h1; omega
      have hs := pop_step m h2 hne
      cases M with
      | zero => omega
      | succ M =>
        show BX12_bits_4 (lp BX12_bits_4 M) _ = _
        simp only [BX12_bits_4, un2]
        rw [if_neg (show ¬ nI m = 0 from fun e => hne ((nI_eq (by omega) (by omega)).mp (e.trans (il 0)))), nI_1, show (1 : Int32) = nI 1 from rfl, pk_sub (by omega), fa_and, ih (m &&& (m - 1)) (n + 1) M (by omega) (Nat.lt_of_le_of_lt Nat.and_le_left h2) (by omega)]
        congr 2
        omega
  have := pop_le m
  have h := key (pop m) m 0 N rfl hm (by omega)
  rw [Nat.zero_add] at h
  exact h
/-! which rooms are reached -/
def eds (I : Tb) (d : Nat) : Nat := 2 ^ I 3 d ||| 2 ^ I 4 d
def rch1 (I : Tb) (lk : Nat → Bool) (m d : Nat) : Nat := if lk d = false ∧ m &&& eds I d ≠ 0 then m ||| eds I d else m
def rchD (I : Tb) (lk : Nat → Bool) (m : Nat) : Nat → Nat
  | 0 => m
  | k + 1 => rch1 I lk (rchD I lk m k) k
def rchR (I : Tb) (lk : Nat → Bool) (m : Nat) : Nat → Nat
  | 0 => m
  | r + 1 => rchD I lk (rchR I lk m r) (I 0 1)
theorem and_eds {I : Tb} {m d : Nat} : m &&& eds I d ≠ 0 ↔ (m.testBit (I 3 d) = true ∨ m.testBit (I 4 d) = true) := by
  unfold eds
  rw [Nat.and_or_distrib_left, Ne, Nat.or_eq_zero_iff, fb_bit_nat, fb_bit_nat]
  cases m.testBit (I 3 d) <;> cases m.testBit (I 4 d) <;> simp
theorem or_eds {I : Tb} {m d x : Nat} : (m ||| eds I d).testBit x = true ↔ (m.testBit x = true ∨ x = I 3 d ∨ x = I 4 d) := by
  unfold eds
  rw [Nat.testBit_or, Nat.testBit_or, Nat.testBit_two_pow, Nat.testBit_two_pow]
  simp only [Bool.or_eq_true, decide_eq_true_eq]
  constructor
  · intro h
    rcases h with h | h | h
    · exact Or.inl h
    · exact Or.inr (Or.inl h.symm)
    · exact Or.inr (Or.inr h.symm)
  · intro h
    rcases h with h | h | h
    · exact Or.inl h
    · exact Or.inr (Or.inl h.symm)
    · exact Or.inr (Or.inr h.symm)
theorem rch1_mono {I : Tb} {lk : Nat → Bool} {m d x : Nat} (h : m.testBit x = true) : (rch1 I lk m d).testBit x = true := by
  unfold rch1
  split
  · exact or_eds.mpr (Or.inl h)
  · exact h
theorem rchD_mono {I : Tb} {lk : Nat → Bool} {m x : Nat} (h : m.testBit x = true) : ∀ k, (rchD I lk m k).testBit x = true
  | 0 => h
  | k + 1 => rch1_mono (rchD_mono h k)
theorem rchD_mono2 {I : Tb} {lk : Nat → Bool} {m x j : Nat} (h : (rchD I lk m j).testBit x = true) : ∀ k, (rchD I lk m (j + k)).testBit x = true
  | 0 => h
  | k + 1 => rch1_mono (rchD_mono2 h k)
/-- every room that is reached has a walk from a bed -/
def rsnd (I : Tb) (lk : Nat → Bool) (m : Nat) : Prop := ∀ x, m.testBit x = true → ∃ s, s < I 0 4 ∧ ∃ n, wk (adjD (I 0 1) (I 3) (I 4) lk) n (I 14 s) x
theorem rsnd_1 {I : Tb} {lk : Nat → Bool} {m d : Nat} (hd : d < I 0 1) (h : rsnd I lk m) : rsnd I lk (rch1 I lk m d) := by
  unfold rch1
  split
  · rename_i q
    obtain ⟨q1, q2⟩ := q
    rw [and_eds] at q2
    intro x hx
    rw [or_eds] at hx
    have a1 : adjD (I 0 1) (I 3) (I 4) lk (I 3 d) (I 4 d) := ⟨d, hd, q1, Or.inl ⟨rfl, rfl⟩⟩
    have a2 := adjD_sym _ _ a1
    rcases hx with hx | hx | hx
    · exact h x hx
    · rcases q2 with q2 | q2
      · rw [hx]; exact h _ q2
      · obtain ⟨s, s1, n, w⟩ := h _ q2
        rw [hx]; exact ⟨s, s1, n + 1, _, w, a2⟩
    · rcases q2 with q2 | q2
      · obtain ⟨s, s1, n, w⟩ := h _ q2
        rw [hx]; exact ⟨s, s1, n + 1, _, w, a1⟩
      · rw [hx]; exact h _ q2
  · exact h
theorem rsnd_D {I : Tb} {lk : Nat → Bool} {m : Nat} (h : rsnd I lk m) : ∀ k, k ≤ I 0 1 → rsnd I lk (rchD I lk m k)
  | 0, _ => h
  | k + 1, hk => rsnd_1 (by omega) (rsnd_D h k (by omega))
theorem rsnd_R {I : Tb} {lk : Nat → Bool} {m : Nat} (h : rsnd I lk m) : ∀ r, rsnd I lk (rchR I lk m r)
  | 0 => h
  | r + 1 => rsnd_D (rsnd_R h r) _ (Nat.le_refl _)
theorem rcmp {I : Tb} {lk : Nat → Bool} {m : Nat} (h : ∀ s, s < I 0 4 → m.testBit (I 14 s) = true) : ∀ r s x n, s < I 0 4 → n ≤ r → wk (adjD (I 0 1) (I 3) (I 4) lk) n (I 14 s) x → (rchR I lk m r).testBit x = true
  | 0, s, x, n, hs, hn, hw => by
    have : n = 0 := by omega
    subst this
    have e : I 14 s = x := hw
    rw [← e]; exact h s hs
  | r + 1, s, x, n, hs, hn, hw => by
    rcases Nat.lt_or_ge n (r + 1) with q | q
    · exact rchD_mono (rcmp h r s x n hs (by omega) hw) _
    · have e : n = r + 1 := by omega
      subst e
      obtain ⟨c, w1, d, d1, d2, d3⟩ := hw
      have hc := rcmp h r s c r hs (Nat.le_refl r) w1
      have hc2 := rchD_mono (I := I) (lk := lk) hc d
      have h1 : (rchD I lk (rchR I lk m r) (d + 1)).testBit x = true := by
        show (rch1 I lk (rchD I lk (rchR I lk m r) d) d).testBit x = true
        unfold rch1
        rw [if_pos ⟨d2, and_eds.mpr (by rcases d3 with ⟨q1, q2⟩ | ⟨q1, q2⟩; exact Or.inl (by rw [q1]; exact hc2); exact Or.inr (by rw [q2]; exact hc2))⟩]
        exact or_eds.mpr (by rcases d3 with ⟨q1, q2⟩ | ⟨q1, q2⟩; exact Or.inr (Or.inr q2.symm); exact Or.inr (Or.inl q1.symm))
      have h2 := rchD_mono2 h1 (I 0 1 - (d + 1))
      rwa [show d + 1 + (I 0 1 - (d + 1)) = I 0 1 by omega] at h2
theorem eds_lt {I : Tb} (hi : ib I) {d : Nat} (hd : d < I 0 1) : eds I d < 2 ^ 8 := by
  have h := ib_o8 hi d hd
  exact Nat.or_lt_two_pow (Nat.pow_lt_pow_right (by decide) h.1) (Nat.pow_lt_pow_right (by decide) h.2)
theorem reachedFrom_ok {N l m : Nat} {I : Tb} {one other : Nat → Int32} (hN : 64 < N) (hi : ib I) (hl : l < 2 ^ 31) (H1 : ∀ i, i < I 0 1 → one i = nI (I 3 i)) (H2 : ∀ i, i < I 0 1 → other i = nI (I 4 i)) :
    fX1_reachedFrom N (nI m) (nI l) (nI (I 0 0)) (nI (I 0 1)) one other = some (nI (rchR I (fun d => l.testBit d) m (I 0 0))) := by
  have hD := hi.D
  have hR := hi.R
  unfold fX1_reachedFrom
  refine lp_for (fun r => (nI (rchR I (fun d => l.testBit d) m r), nI r)) (I 0 0) N (by omega) (fun r hr rec => ?_) (fun rec => ?_)
  · have h3 : ¬ I 0 0 ≤ r := by omega
    simp (disch := omega) only [BX1_reachedFrom_5, un2, nI_leI, h3, if_false]
    show _ = rec (nI (rchD I (fun d => l.testBit d) (rchR I (fun d => l.testBit d) m r) (I 0 1)), nI (r + 1))
    generalize rchR I (fun d => l.testBit d) m r = m1
    refine lp_for (fun d => (nI (rchD I (fun d => l.testBit d) m1 d), nI d)) (I 0 1) N (by omega) (fun d hd rec2 => ?_) (fun rec2 => ?_)
    · have h4 : ¬ I 0 1 ≤ d := by omega
      have ho := ib_o8 hi d hd
      have he := eds_lt hi hd
      have e1 : ((1 : Int32) <<< (nI (I 3 d) &&& 31)) ||| ((1 : Int32) <<< (nI (I 4 d) &&& 31)) = nI (eds I d) := by
        rw [show (1 : Int32) <<< (nI (I 3 d) &&& 31) = nI (2 ^ I 3 d) from one_shl (by omega), show (1 : Int32) <<< (nI (I 4 d) &&& 31) = nI (2 ^ I 4 d) from one_shl (by omega), fa_or]
        rfl
      show _ = rec2 (nI (rch1 I (fun d => l.testBit d) (rchD I (fun d => l.testBit d) m1 d) d), nI (d + 1))
      generalize rchD I (fun d => l.testBit d) m1 d = m2
      simp (disch := omega) only [BX1_reachedFrom_17, un2, nI_leI, h4, if_false, gd_nI, nI_clamp, H1 d hd, H2 d hd, e1, bitSet_ok hl (show d < 64 by omega), bd_some, un1, jn, fa_and, fa_or, nI_1]
      unfold rch1
      by_cases c1 : l.testBit d = true
      · rw [if_pos c1, if_neg (show ¬ (1 : Int32) = 0 by decide), if_neg (fun q => by have q1 : l.testBit d = false := q.1; rw [c1] at q1; cases q1)]
      · have c1' : l.testBit d = false := by simpa using c1
        rw [if_neg c1, if_pos (show (0 : Int32) = 0 from rfl)]
        have hlt : m2 &&& eds I d < 2 ^ 8 := Nat.lt_of_le_of_lt Nat.and_le_right he
        by_cases c2 : m2 &&& eds I d = 0
        · rw [if_pos (show nI (m2 &&& eds I d) = 0 by rw [c2]; rfl), if_neg (fun q => q.2 c2)]
        · rw [if_neg (show ¬ nI (m2 &&& eds I d) = 0 from fun e => c2 ((nI_eq (by omega) (by omega)).mp (e.trans (il 0)))), if_pos ⟨c1', c2⟩]
    · simp (disch := omega) only [BX1_reachedFrom_17, un2, un1, nI_leI, Nat.le_refl, if_true, nI_1]
  · simp (disch := omega) only [BX1_reachedFrom_5, un2, nI_leI, Nat.le_refl, if_true]
def bdm (I : Tb) : Nat → Nat
  | 0 => 0
  | j + 1 => bdm I j ||| 2 ^ I 14 j
theorem bdm_bit {I : Tb} {x : Nat} : ∀ j, (bdm I j).testBit x = true ↔ ∃ s, s < j ∧ I 14 s = x
  | 0 => by
    show (0 : Nat).testBit x = true ↔ _
    rw [Nat.zero_testBit]
    exact ⟨fun h => absurd h (by decide), fun ⟨s, h, _⟩ => absurd h (Nat.not_lt_zero s)⟩
  | j + 1 => by
    show (bdm I j ||| 2 ^ I 14 j).testBit x = true ↔ _
    rw [Nat.testBit_or, Nat.testBit_two_pow, Bool.or_eq_true, decide_eq_true_eq, bdm_bit j]
    constructor
    · intro h
      rcases h with ⟨s, h1, h2⟩ | h
      · exact ⟨s, by omega, h2⟩
      · exact ⟨j, by omega, h⟩
    · intro ⟨s, h1, h2⟩
      by_cases c : s = j
      · rw [c] at h2; exact Or.inr h2
      · exact Or.inl ⟨s, by omega, h2⟩
theorem bdm_lt {I : Tb} (hi : ib I) : ∀ j, j ≤ I 0 4 → bdm I j < 2 ^ 8
  | 0, _ => Nat.two_pow_pos 8
  | j + 1, hj => by
    have h1 := (hi.sleeper (s := j) (by omega)).1
    have h2 := hi.R
    exact Nat.or_lt_two_pow (bdm_lt hi j (by omega)) (Nat.pow_lt_pow_right (by decide) (by omega))
/-- the doors that are shut out: those told so, and the mask's -/
def lkm (I : Tb) (m d : Nat) : Bool := (mk (lks I 0) (I 0 1) ||| m).testBit d
def cutb (I : Tb) (r m : Nat) : Bool := decide (∀ s, s < I 0 4 → ds I (lkm I m) r (I 14 s) = 99)
theorem reach_cut {I : Tb} (hi : ib I) {r m : Nat} (hr : r < I 0 0) : (rchR I (lkm I m) (bdm I (I 0 4)) (I 0 0)).testBit r = true ↔ ¬ cutb I r m = true := by
  have hb : ∀ s, s < I 0 4 → I 14 s < I 0 0 := fun s hs => (hi.sleeper hs).1
  constructor
  · intro h q
    have q' := of_decide_eq_true q
    have hs := rsnd_R (I := I) (lk := lkm I m) (m := bdm I (I 0 4)) (fun x hx => by
      obtain ⟨s, s1, s2⟩ := (bdm_bit _).mp hx
      exact ⟨s, s1, 0, s2⟩) (I 0 0)
    obtain ⟨s, s1, n, w⟩ := hs r h
    obtain ⟨k, k1, k2, k3⟩ := wk_short (ib_in hi (lkm I m)) (hb s s1) n w
    have h1 := (ds_isD hi (lkm I m) hr (hb s s1)).2.2 k (wk_rev adjD_sym k3)
    have h2 := q' s s1
    have := hi.R
    omega
  · intro h
    have : ∃ s, s < I 0 4 ∧ ¬ ds I (lkm I m) r (I 14 s) = 99 := by
      by_cases e : ∃ s, s < I 0 4 ∧ ¬ ds I (lkm I m) r (I 14 s) = 99
      · exact e
      · exact absurd (decide_eq_true (fun s hs => by
          by_cases z : ds I (lkm I m) r (I 14 s) = 99
          · exact z
          · exact absurd ⟨s, hs, z⟩ e)) h
    obtain ⟨s, s1, s2⟩ := this
    have hD := ds_isD hi (lkm I m) hr (hb s s1)
    have hw := hD.2.1 (by have := hD.1; omega)
    obtain ⟨k, k1, k2, k3⟩ := wk_short (ib_in hi (lkm I m)) hr _ hw
    exact rcmp (fun s hs => (bdm_bit _).mpr ⟨s, hs, rfl⟩) (I 0 0) s r k s1 (by omega) (wk_rev adjD_sym k3)
