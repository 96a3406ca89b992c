theorem cut_iff {I : Tb} (hi : ib I) {r m : Nat} (hr : r < I 0 0) : cutb I r m = true ↔ ∀ s, s < I 0 4 → ∀ n, ¬ wk (adjD (I 0 1) (I 3) (I 4) (lkm I m)) n r (I 14 s) := by
  unfold cutb
  rw [decide_eq_true_iff]
  constructor
  · intro h s hs n hw
    have hb := (hi.sleeper hs).1
    obtain ⟨k, k1, k2, k3⟩ := wk_short (ib_in hi (lkm I m)) hr n hw
    have h1 := (ds_isD hi (lkm I m) hr hb).2.2 k k3
    have h2 := h s hs
    have := hi.R
    omega
  · intro h s hs
    have hD := ds_isD hi (lkm I m) hr (hi.sleeper hs).1
    rcases Nat.lt_or_ge (ds I (lkm I m) r (I 14 s)) 99 with q | q
    · exact absurd (hD.2.1 q) (h s hs _)
    · have := hD.1
      omega
theorem wk_map {adj adj' : Nat → Nat → Prop} (h : ∀ x y, adj x y → adj' x y) {a : Nat} : ∀ {n b : Nat}, wk adj n a b → wk adj' n a b
  | 0, _, hw => hw
  | _ + 1, _, ⟨c, h1, h2⟩ => ⟨c, wk_map h h1, h c _ h2⟩
theorem cut_mono {I : Tb} (hi : ib I) {r m m' : Nat} (hr : r < I 0 0) (hl : ∀ d, d < I 0 1 → lkm I m d = true → lkm I m' d = true) (h : cutb I r m = true) : cutb I r m' = true := by
  rw [cut_iff hi hr] at h ⊢
  intro s hs n hw
  refine h s hs n (wk_map (fun x y ⟨d, d1, d2, d3⟩ => ⟨d, d1, ?_, d3⟩) hw)
  cases q : lkm I m d with
  | false => rfl
  | true => rw [hl d d1 q] at d2; cases d2
theorem full_bit : ∀ D, D ≤ 10 → ∀ d, d < D → (2 ^ D - 1).testBit d = true := by decide +kernel
theorem pop_full : ∀ D, D ≤ 10 → ∀ m, m < 2 ^ D - 1 → pop m < pop (2 ^ D - 1) := by decide +kernel
theorem cut_full {I : Tb} (hi : ib I) {r : Nat} (hr : r < I 0 0) (hb : ¬ isBd I r = true) : cutb I r (2 ^ I 0 1 - 1) = true := by
  rw [cut_iff hi hr]
  intro s hs n hw
  have hno : ∀ x y, ¬ adjD (I 0 1) (I 3) (I 4) (lkm I (2 ^ I 0 1 - 1)) x y := by
    intro x y ⟨d, d1, d2, _⟩
    have h1 := full_bit (I 0 1) hi.D d d1
    unfold lkm at d2
    rw [Nat.testBit_or, h1, Bool.or_true] at d2
    cases d2
  cases n with
  | zero =>
    have e : r = I 14 s := hw
    exact hb (isBd_iff.mpr ⟨s, hs, e.symm⟩)
  | succ n =>
    obtain ⟨c, _, h2⟩ := hw
    exact hno _ _ h2
theorem cls_ok {I : Tb} {r : Nat} (hf : cutb I r (2 ^ I 0 1 - 1) = true) : ∀ k, cutb I r (cls I r k) = true ∧ (∀ m, m < k → cutb I r m = true → pop (cls I r k) ≤ pop m) ∧ (cls I r k = 2 ^ I 0 1 - 1 ∨ (cls I r k < k ∧ ∀ m, m < cls I r k → cutb I r m = true → pop (cls I r k) < pop m))
  | 0 => ⟨hf, fun m hm => absurd hm (Nat.not_lt_zero m), Or.inl rfl⟩
  | k + 1 => by
    obtain ⟨h1, h2, h3⟩ := cls_ok hf k
    have hx : cls I r (k + 1) = if pop k < pop (cls I r k) ∧ cutb I r k = true then k else cls I r k := rfl
    rw [hx]
    by_cases c : pop k < pop (cls I r k) ∧ cutb I r k = true
    · rw [if_pos c]
      refine ⟨c.2, fun m hm q => ?_, Or.inr ⟨by omega, fun m hm q => ?_⟩⟩
      · by_cases e : m = k
        · rw [e]; exact Nat.le_refl _
        · have := h2 m (by omega) q; omega
      · have := h2 m (by omega) q; omega
    · rw [if_neg c]
      refine ⟨h1, fun m hm q => ?_, ?_⟩
      · by_cases e : m = k
        · subst e
          rcases Nat.lt_or_ge (pop m) (pop (cls I r m)) with z | z
          · exact absurd ⟨z, q⟩ c
          · exact z
        · exact h2 m (by omega) q
      · rcases h3 with h3 | ⟨h3, h4⟩
        · exact Or.inl h3
        · exact Or.inr ⟨by omega, h4⟩
theorem cls_end {I : Tb} (hi : ib I) {r : Nat} (hf : cutb I r (2 ^ I 0 1 - 1) = true) : cutb I r (cls I r (2 ^ I 0 1)) = true ∧ (∀ m, m < 2 ^ I 0 1 → cutb I r m = true → pop (cls I r (2 ^ I 0 1)) ≤ pop m) ∧ ∀ m, m < cls I r (2 ^ I 0 1) → cutb I r m = true → pop (cls I r (2 ^ I 0 1)) < pop m := by
  obtain ⟨h1, h2, h3⟩ := cls_ok hf (2 ^ I 0 1)
  refine ⟨h1, h2, fun m hm q => ?_⟩
  rcases h3 with h3 | ⟨_, h4⟩
  · rw [h3] at hm h2 ⊢
    have a := pop_full (I 0 1) hi.D m hm
    have b := h2 m (by omega) q
    omega
  · exact h4 m hm q
theorem cnb_mono {p q : Nat → Bool} : ∀ n, (∀ i, i < n → p i = true → q i = true) → cnb p n ≤ cnb q n
  | 0, _ => Nat.le_refl 0
  | n + 1, h => by
    have ih := cnb_mono n (fun i hi => h i (by omega))
    have h1 := h n (by omega)
    unfold cnb
    by_cases c : p n = true
    · rw [if_pos c, if_pos (h1 c)]; omega
    · rw [if_neg c]; split <;> omega
theorem cnb_lt {p q : Nat → Bool} {k : Nat} : ∀ n, (∀ i, i < n → p i = true → q i = true) → k < n → p k = false → q k = true → cnb p n < cnb q n
  | 0, _, hk, _, _ => absurd hk (Nat.not_lt_zero k)
  | n + 1, h, hk, h1, h2 => by
    by_cases c : k = n
    · subst c
      have ih := cnb_mono k (fun i hi => h i (by omega))
      unfold cnb
      rw [h1, h2]
      simp
      omega
    · have ih := cnb_lt n (fun i hi => h i (by omega)) (by omega) h1 h2
      have hn := h n (by omega)
      unfold cnb
      by_cases c2 : p n = true
      · rw [if_pos c2, if_pos (hn c2)]; omega
      · rw [if_neg c2]; split <;> omega
theorem ne0_bit {x : Nat} (h : x ≠ 0) : ∃ i, x.testBit i = true := by
  by_cases c : ∃ i, x.testBit i = true
  · exact c
  · refine absurd (Nat.eq_of_testBit_eq fun i => ?_) h
    rw [Nat.zero_testBit]
    cases q : x.testBit i with
    | false => rfl
    | true => exact absurd ⟨i, q⟩ c
/-- a choice that locks what is locked already is not the least -/
theorem told_not {I : Tb} (hi : ib I) {r m : Nat} (hr : r < I 0 0) (hm : m < 2 ^ I 0 1) (hT : m &&& mk (lks I 0) (I 0 1) ≠ 0) (hc : cutb I r m = true) : ∃ m', m' < 2 ^ I 0 1 ∧ cutb I r m' = true ∧ pop m' < pop m := by
  have hD := hi.D
  refine ⟨mk (fun i => m.testBit i && !(mk (lks I 0) (I 0 1)).testBit i) (I 0 1), mk_lt _, cut_mono hi hr (fun d hd q => ?_) hc, ?_⟩
  · unfold lkm at q ⊢
    rw [Nat.testBit_or, Bool.or_eq_true] at q ⊢
    rcases q with q | q
    · exact Or.inl q
    · cases z : (mk (lks I 0) (I 0 1)).testBit d with
      | true => exact Or.inl rfl
      | false =>
        refine Or.inr ?_
        rw [mk_bit, z, q]
        simp [hd]
  · obtain ⟨k, hk⟩ := ne0_bit hT
    rw [Nat.testBit_and, Bool.and_eq_true] at hk
    have hk2 : k < I 0 1 := by
      have := hk.2
      rw [mk_bit, Bool.and_eq_true, decide_eq_true_eq] at this
      exact this.1
    refine cnb_lt (k := k) 10 (fun i hi2 q => ?_) (by omega) ?_ hk.1
    · rw [mk_bit, Bool.and_eq_true, Bool.and_eq_true] at q
      exact q.2.1
    · rw [mk_bit, hk.1, hk.2]
      simp
theorem safe_same {I : Tb} (hi : ib I) {r : Nat} (hr : r < I 0 0) (hb : ¬ isBd I r = true) : bst (qcut I r) pop (2 ^ I 0 1) = some (cls I r (2 ^ I 0 1)) := by
  have hf := cut_full hi hr hb
  obtain ⟨h1, h2, h3⟩ := cls_end hi hf
  have hlt := cls_lt hi r (2 ^ I 0 1) (Nat.le_refl _)
  generalize hcl : cls I r (2 ^ I 0 1) = c at h1 h2 h3 hlt ⊢
  have hq : qcut I r c = true := by
    unfold qcut
    rw [h1, Bool.and_true]
    refine decide_eq_true ?_
    rcases Nat.eq_zero_or_pos (c &&& mk (lks I 0) (I 0 1)) with z | z
    · exact z
    · obtain ⟨m', a1, a2, a3⟩ := told_not hi hr hlt (by omega) h1
      have := h2 m' a1 a2
      omega
  have hbo := bst_ok (c := qcut I r) (F := pop) (2 ^ I 0 1)
  have hcs : bst (qcut I r) pop (2 ^ I 0 1) = none ∨ ∃ j, bst (qcut I r) pop (2 ^ I 0 1) = some j := by
    cases bst (qcut I r) pop (2 ^ I 0 1) with
    | none => exact Or.inl rfl
    | some j => exact Or.inr ⟨j, rfl⟩
  rcases hcs with hb2 | ⟨j, hb2⟩
  · rw [hb2] at hbo
    have := hbo c hlt
    rw [hq] at this
    cases this
  · rw [hb2] at hbo ⊢
    obtain ⟨j1, j2, j3, j4⟩ := hbo
    have j2' : cutb I r j = true := by
      unfold qcut at j2
      rw [Bool.and_eq_true] at j2
      exact j2.2
    refine congrArg some ?_
    rcases Nat.lt_or_ge j c with q | q
    · have a := h3 j q j2'
      have b := j3 c hlt hq
      omega
    · rcases Nat.lt_or_ge c j with q2 | q2
      · have a := j4 c q2 hq
        have b := h2 j j1 j2'
        omega
      · omega
