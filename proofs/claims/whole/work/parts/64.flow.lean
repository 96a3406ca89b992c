/-! walks that share no door, as a flow -/
def fl (w : Nat → Nat) (d : Nat) : Int := if w d = 1 then 1 else if w d = 2 then -1 else 0
def netK (I : Tb) (w : Nat → Nat) (x k : Nat) : Int := fb_si (fun d => fl w d * ((if I 4 d = x then 1 else 0) - (if I 3 d = x then 1 else 0))) k
def net (I : Tb) (w : Nat → Nat) (x : Nat) : Int := netK I w x (I 0 1)
theorem si_pick (ch : Nat → Int) (b : Nat) : ∀ n, fb_si (fun x => ch x * (if b = x then 1 else 0)) n = if b < n then ch b else 0
  | 0 => by
    rw [if_neg (Nat.not_lt_zero b)]
    rfl
  | n + 1 => by
    rw [fb_si_succ, si_pick ch b n]
    by_cases c : b = n
    · subst c
      rw [if_neg (Nat.lt_irrefl b), if_pos rfl, if_pos (Nat.lt_succ_self b)]
      omega
    · rw [if_neg c]
      by_cases c2 : b < n
      · rw [if_pos c2, if_pos (by omega)]
        omega
      · rw [if_neg c2, if_neg (by omega)]
        omega
theorem net_sumK {I : Tb} (w : Nat → Nat) (ch : Nat → Int) (ho : ∀ d, d < I 0 1 → I 3 d < 8 ∧ I 4 d < 8) : ∀ k, k ≤ I 0 1 → fb_si (fun x => ch x * netK I w x k) 8 = fb_si (fun d => fl w d * (ch (I 4 d) - ch (I 3 d))) k
  | 0, _ => by
    have : (fun x => ch x * netK I w x 0) = fun x => 0 * ch x := by
      funext x
      show ch x * 0 = 0 * ch x
      omega
    rw [this, fb_si_mul]
    show 0 * _ = (0 : Int)
    omega
  | k + 1, hk => by
    have ih := net_sumK w ch ho k (by omega)
    have hok := ho k (by omega)
    have e : (fun x => ch x * netK I w x (k + 1)) = fun x => ch x * netK I w x k + (fl w k * (ch x * (if I 4 k = x then 1 else 0)) - fl w k * (ch x * (if I 3 k = x then 1 else 0))) := by
      funext x
      show ch x * (netK I w x k + fl w k * ((if I 4 k = x then 1 else 0) - (if I 3 k = x then 1 else 0))) = _
      generalize netK I w x k = z
      generalize fl w k = f
      by_cases c1 : I 4 k = x <;> by_cases c2 : I 3 k = x <;> simp only [c1, c2, if_true, if_false] <;> simp only [Int.mul_add, Int.mul_sub, Int.mul_one, Int.mul_zero, Int.sub_self, Int.sub_zero, Int.zero_sub, Int.add_zero, Int.mul_neg] <;> (try rw [Int.mul_comm (ch x) f]) <;> omega
    rw [e, fb_si_add, ih, fb_si_sub, fb_si_mul, fb_si_mul, si_pick, si_pick, if_pos hok.2, if_pos hok.1, fb_si_succ]
    rw [Int.mul_sub]
theorem net_sum {I : Tb} (hi : ib I) (w : Nat → Nat) (ch : Nat → Int) : fb_si (fun x => ch x * net I w x) 8 = fb_si (fun d => fl w d * (ch (I 4 d) - ch (I 3 d))) (I 0 1) := net_sumK w ch (ib_o8 hi) (I 0 1) (Nat.le_refl _)
/-- a flow of n from the beds to the room r -/
def FW2 (I : Tb) (r : Nat) (w : Nat → Nat) (n : Nat) : Prop := (∀ d, d < I 0 1 → w d ≤ 2 ∧ (I 5 d = 2 → w d = 0)) ∧ (∀ x, x < 8 → x ≠ r → isBd I x = false → net I w x = 0) ∧ net I w r = n
theorem FW2.side {I : Tb} {r n : Nat} {w : Nat → Nat} (h : FW2 I r w n) (ch : Nat → Int) (h1 : ch r = 1) (hr : r < 8) (h0 : ∀ x, x < 8 → isBd I x = true → ch x = 0) : fb_si (fun x => ch x * net I w x) 8 = n := by
  have e : fb_si (fun x => ch x * net I w x) 8 = fb_si (fun x => (fun _ => (n : Int)) x * (if r = x then 1 else 0)) 8 := by
    refine fb_si_cong fun x hx => ?_
    show ch x * net I w x = n * (if r = x then 1 else 0)
    by_cases c : r = x
    · subst c
      rw [h1, if_pos rfl, h.2.2]
      omega
    · rw [if_neg c]
      by_cases cb : isBd I x = true
      · rw [h0 x hx cb]
        omega
      · rw [h.2.1 x hx (fun q => c q.symm) (by simpa using cb)]
        omega
  rw [e, si_pick, if_pos hr]
theorem si_le {f g : Nat → Int} : ∀ n, (∀ k, k < n → f k ≤ g k) → fb_si f n ≤ fb_si g n
  | 0, _ => Int.le_refl _
  | n + 1, h => by
    have ih := si_le n (fun k hk => h k (by omega))
    have := h n (by omega)
    rw [fb_si_succ, fb_si_succ]
    omega
theorem si_cnb (p : Nat → Bool) : ∀ n, fb_si (fun d => if p d = true then 1 else 0) n = (cnb p n : Int)
  | 0 => rfl
  | n + 1 => by
    rw [fb_si_succ, si_cnb p n, show cnb p (n + 1) = cnb p n + (if p n = true then 1 else 0) from rfl]
    by_cases c : p n = true
    · rw [if_pos c, if_pos c]; omega
    · rw [if_neg c, if_neg c]; omega
theorem fl_cases {w : Nat → Nat} {d : Nat} (h : w d ≤ 2) : (w d = 0 ∧ fl w d = 0) ∨ (w d = 1 ∧ fl w d = 1) ∨ (w d = 2 ∧ fl w d = -1) := by
  unfold fl
  have : w d = 0 ∨ w d = 1 ∨ w d = 2 := by omega
  rcases this with e | e | e
  · exact Or.inl ⟨e, by rw [if_neg (by omega), if_neg (by omega)]⟩
  · exact Or.inr (Or.inl ⟨e, by rw [if_pos e]⟩)
  · exact Or.inr (Or.inr ⟨e, by rw [if_neg (by omega), if_pos e]⟩)
theorem cnb_ext {p : Nat → Bool} {n : Nat} (h : ∀ i, n ≤ i → p i = false) : ∀ k, cnb p (n + k) = cnb p n
  | 0 => rfl
  | k + 1 => by
    have ih := cnb_ext h k
    show cnb p (n + k) + (if p (n + k) = true then 1 else 0) = _
    rw [h (n + k) (by omega), ih]
    rfl
/-- no flow is more than what a cut has doors -/
theorem flow_le {I : Tb} (hi : ib I) {r n m : Nat} {w : Nat → Nat} (hr : r < I 0 0) (h : FW2 I r w n) (hc : cutb I r m = true) : n ≤ pop m := by
  have hR := hi.R
  have hD := hi.D
  rw [cut_iff hi hr] at hc
  have key : ∀ (X : Nat → Bool), (∀ x, X x = true ↔ ∃ k, wk (adjD (I 0 1) (I 3) (I 4) (lkm I m)) k r x) → n ≤ pop m := by
    intro X hX
    have s1 := h.side (fun x => if X x = true then 1 else 0) (by
      show (if X r = true then (1 : Int) else 0) = 1
      rw [if_pos ((hX r).mpr ⟨0, rfl⟩)]) (by omega) (fun x hx hb => by
      show (if X x = true then (1 : Int) else 0) = 0
      rw [if_neg]
      intro q
      obtain ⟨s, s1, s2⟩ := isBd_iff.mp hb
      obtain ⟨k, hk⟩ := (hX x).mp q
      exact hc s s1 k (by rw [s2]; exact hk))
    rw [net_sum hi] at s1
    have s2 : fb_si (fun d => fl w d * ((if X (I 4 d) = true then (1 : Int) else 0) - (if X (I 3 d) = true then 1 else 0))) (I 0 1) ≤ fb_si (fun d => if m.testBit d = true then 1 else 0) (I 0 1) := by
      refine si_le _ fun d hd => ?_
      obtain ⟨w2, wl⟩ := h.1 d hd
      show fl w d * ((if X (I 4 d) = true then (1 : Int) else 0) - (if X (I 3 d) = true then 1 else 0)) ≤ (if m.testBit d = true then 1 else 0)
      have hf := fl_cases w2
      by_cases cm : m.testBit d = true
      · rw [if_pos cm]
        rcases hf with ⟨_, e⟩ | ⟨_, e⟩ | ⟨_, e⟩ <;> rw [e] <;> by_cases c1 : X (I 4 d) = true <;> by_cases c2 : X (I 3 d) = true <;> simp [c1, c2]
      · rw [if_neg cm]
        by_cases cl : I 5 d = 2
        · rcases hf with ⟨_, e⟩ | ⟨q, _⟩ | ⟨q, _⟩
          · rw [e]; omega
          · have := wl cl; omega
          · have := wl cl; omega
        · have hadj : adjD (I 0 1) (I 3) (I 4) (lkm I m) (I 3 d) (I 4 d) := by
            refine ⟨d, hd, ?_, Or.inl ⟨rfl, rfl⟩⟩
            unfold lkm
            rw [Nat.testBit_or, mk_bit, lks0]
            simp [cl, cm]
          have heq : X (I 3 d) = true ↔ X (I 4 d) = true := by
            rw [hX, hX]
            constructor
            · intro ⟨k, hk⟩
              exact ⟨k + 1, _, hk, hadj⟩
            · intro ⟨k, hk⟩
              exact ⟨k + 1, _, hk, adjD_sym _ _ hadj⟩
          by_cases c1 : X (I 4 d) = true
          · rw [if_pos c1, if_pos (heq.mpr c1)]; omega
          · rw [if_neg c1, if_neg (fun q => c1 (heq.mp q))]; omega
    rw [s1, si_cnb] at s2
    have s3 : cnb (fun i => m.testBit i) (I 0 1) ≤ pop m := by
      unfold pop
      have : ∀ k, cnb (fun i => m.testBit i) (I 0 1) ≤ cnb (fun i => m.testBit i) (I 0 1 + k) := by
        intro k
        induction k with
        | zero => exact Nat.le_refl _
        | succ k ih =>
          show _ ≤ cnb (fun i => m.testBit i) (I 0 1 + k) + _
          omega
      have h1 := this (10 - I 0 1)
      rwa [show I 0 1 + (10 - I 0 1) = 10 by omega] at h1
    have s4 : (n : Int) ≤ (cnb (fun i => m.testBit i) (I 0 1) : Int) := s2
    omega
  -- the set of rooms that can be walked to, as a Bool
  refine key (fun x => decide (x = r) || decide (x < I 0 0 ∧ ds I (lkm I m) r x < 99)) fun x => ?_
  constructor
  · intro q
    rcases Bool.or_eq_true _ _ |>.mp q with q | q
    · exact ⟨0, (of_decide_eq_true q).symm⟩
    · have q' := of_decide_eq_true q
      exact ⟨_, (ds_isD hi (lkm I m) hr q'.1).2.1 q'.2⟩
  · intro ⟨k, hk⟩
    rw [Bool.or_eq_true]
    have hx := wk_in (ib_in hi (lkm I m)) hr hk
    obtain ⟨j, j1, j2, j3⟩ := wk_short (ib_in hi (lkm I m)) hr k hk
    refine Or.inr (decide_eq_true ⟨hx, ?_⟩)
    have := (ds_isD hi (lkm I m) hr hx).2.2 j j3
    omega
/-- where the search ends without the room: the flow is the cut -/
theorem flow_end {I : Tb} (hi : ib I) {r n : Nat} {w cm : Nat → Nat} (hr : r < I 0 0) (h : FW2 I r w n) (h0 : cm r = 0) (hb : ∀ x, x < 8 → isBd I x = true → cm x ≠ 0) (hcl : ∀ d, d < I 0 1 → I 5 d ≠ 2 → (cm (I 3 d) ≠ 0 → cm (I 4 d) = 0 → w d = 1) ∧ (cm (I 4 d) ≠ 0 → cm (I 3 d) = 0 → w d = 2)) : n = pop (cls I r (2 ^ I 0 1)) := by
  have hR := hi.R
  have hD := hi.D
  have hnb : ¬ isBd I r = true := fun q => hb r (by omega) q h0
  have hf := cut_full hi hr hnb
  obtain ⟨e1, e2, e3⟩ := cls_end hi hf
  have le1 := flow_le hi hr h e1
  have s1 := h.side (fun x => if cm x = 0 then 1 else 0) (by
    show (if cm r = 0 then (1 : Int) else 0) = 1
    rw [if_pos h0]) (by omega) (fun x hx hb2 => by
    show (if cm x = 0 then (1 : Int) else 0) = 0
    rw [if_neg (hb x hx hb2)])
  rw [net_sum hi] at s1
  have s2 : fb_si (fun d => fl w d * ((if cm (I 4 d) = 0 then (1 : Int) else 0) - (if cm (I 3 d) = 0 then 1 else 0))) (I 0 1) = fb_si (fun d => if (decide (I 5 d ≠ 2) && (decide (cm (I 3 d) = 0) != decide (cm (I 4 d) = 0))) = true then 1 else 0) (I 0 1) := by
    refine fb_si_cong fun d hd => ?_
    obtain ⟨w2, wl⟩ := h.1 d hd
    show fl w d * ((if cm (I 4 d) = 0 then (1 : Int) else 0) - (if cm (I 3 d) = 0 then 1 else 0)) = _
    have hff := fl_cases w2
    by_cases cl : I 5 d = 2
    · have w0 := wl cl
      rcases hff with ⟨_, e⟩ | ⟨q, _⟩ | ⟨q, _⟩
      · rw [e]; simp [cl]
      · omega
      · omega
    · obtain ⟨k1, k2⟩ := hcl d hd cl
      by_cases c3 : cm (I 3 d) = 0 <;> by_cases c4 : cm (I 4 d) = 0
      · simp [c3, c4]
      · have := k2 c4 c3
        rcases hff with ⟨q, _⟩ | ⟨q, _⟩ | ⟨_, e⟩
        · omega
        · omega
        · rw [e]; simp [c3, c4, cl]
      · have := k1 c3 c4
        rcases hff with ⟨q, _⟩ | ⟨_, e⟩ | ⟨q, _⟩
        · omega
        · rw [e]; simp [c3, c4, cl]
        · omega
      · simp [c3, c4]
  rw [s1, si_cnb] at s2
  have s3 : n = cnb (fun d => decide (I 5 d ≠ 2) && (decide (cm (I 3 d) = 0) != decide (cm (I 4 d) = 0))) (I 0 1) := by
    have s4 : (n : Int) = (cnb (fun d => decide (I 5 d ≠ 2) && (decide (cm (I 3 d) = 0) != decide (cm (I 4 d) = 0))) (I 0 1) : Int) := s2
    omega
  -- these doors are a cut
  generalize hp : (fun d => decide (I 5 d ≠ 2) && (decide (cm (I 3 d) = 0) != decide (cm (I 4 d) = 0))) = p at s3
  have hm := mk_lt (p := p) (I 0 1)
  have hpop : pop (mk p (I 0 1)) = n := by
    rw [s3]
    unfold pop
    have c1 : cnb (fun i => (mk p (I 0 1)).testBit i) (I 0 1) = cnb p (I 0 1) := by
      have h1 := cnb_mono (p := fun i => (mk p (I 0 1)).testBit i) (q := p) (I 0 1) (fun i hi2 q => by
        rw [mk_bit, Bool.and_eq_true] at q; exact q.2)
      have h2 := cnb_mono (p := p) (q := fun i => (mk p (I 0 1)).testBit i) (I 0 1) (fun i hi2 q => by
        rw [mk_bit, q]; simp [hi2])
      omega
    have c2 := cnb_ext (p := fun i => (mk p (I 0 1)).testBit i) (n := I 0 1) (fun i hi2 => by
      rw [mk_bit]
      simp
      omega) (10 - I 0 1)
    rw [show I 0 1 + (10 - I 0 1) = 10 by omega] at c2
    rw [c2, c1]
  have hcut : cutb I r (mk p (I 0 1)) = true := by
    rw [cut_iff hi hr]
    intro s hs k hw
    have stay : ∀ k x, wk (adjD (I 0 1) (I 3) (I 4) (lkm I (mk p (I 0 1)))) k r x → cm x = 0 := by
      intro k
      induction k with
      | zero =>
        intro x hx
        have e : r = x := hx
        rw [← e]; exact h0
      | succ k ih =>
        intro x hx
        obtain ⟨c, w1, d, d1, d2, d3⟩ := hx
        have hc := ih c w1
        unfold lkm at d2
        rw [Nat.testBit_or, Bool.or_eq_false_iff, mk_bit, mk_bit, lks0] at d2
        obtain ⟨d2a, d2b⟩ := d2
        have l5 : I 5 d ≠ 2 := fun e => by simp [d1, e] at d2a
        have pd : p d = false := by
          simp [d1] at d2b
          exact d2b
        rw [← hp] at pd
        simp [l5] at pd
        rcases d3 with ⟨q1, q2⟩ | ⟨q1, q2⟩
        · rw [q1, q2] at pd
          simpa [hc] using pd
        · rw [q1, q2] at pd
          simpa [hc] using pd
    have hz := stay k _ hw
    have hsb := (hi.sleeper hs).1
    exact hb (I 14 s) (by omega) (isBd_iff.mpr ⟨s, hs, rfl⟩) hz
  have := e2 _ hm hcut
  omega
