/-! tokens: the reference's; what both have in common -/
theorem byteAt_in {N n i : Nat} {b : Nat → Int32} (hn : n ≤ 900) (hi : i < n) : fX12_byteAt N (nI i) (nI n) b = some (b i &&& 255) := by
  have c : ¬ n ≤ i := by omega
  unfold fX12_byteAt
  simp (disch := omega) only [nI_leI, c, if_false, gd_nI, nI_clamp]
theorem byteAt_out {N n i : Nat} {b : Nat → Int32} (hn : n ≤ 900) (hi : n ≤ i) (hi2 : i ≤ 900) : fX12_byteAt N (nI i) (nI n) b = some (-1) := by
  unfold fX12_byteAt
  simp (disch := omega) only [nI_leI, hi, if_true]
theorem isL_m1 : isL (-1) = false := by decide
theorem isG_m1 : isG (-1) = false := by decide
def rww (b : Nat → Int32) (p : Nat) : Nat → Int64
  | 0 => 0
  | k + 1 => if 8 ≤ k then rww b p k else (32 * rww b p k) + (((b (p + k) - 97) + 1).toInt64)
def rvw (b : Nat → Int32) (p : Nat) : Nat → Int32
  | 0 => 0
  | k + 1 => if 3 ≤ k then rvw b p k else ((10 * rvw b p k) + b (p + k)) - 48
theorem r_adv_sp {N n a : Nat} {b : Nat → Int32} (K : Int32 → Option (Int32 × Int32 × Int32 × Int32 × Int32 × Int64)) (hN : 1000 < N) (hn : n ≤ 900) (ha : a ≤ n) (hb : ∀ i, isBy (b i)) : lp (BX12_goesOn_9 N (nI n) b K) N (nI a) = K (nI (tkP b n a)) := by
  have hA := scan_all (p := fun i => decide (b i ≠ 32)) ha
  unfold tkP
  generalize scan (fun i => decide (b i ≠ 32)) n a = e at hA ⊢
  obtain ⟨h1, h2, h3, h4⟩ := hA
  refine lp_to (fun j => nI j) e (fun rec => ?_) (e - a) a N (by omega) (by omega) (fun j hj1 hj2 rec => ?_)
  · show BX12_goesOn_9 N (nI n) b K rec (nI e) = _
    by_cases c : n ≤ e
    · simp only [BX12_goesOn_9, un1, byteAt_out hn c (show e ≤ 900 by omega), bd_some]
      rw [if_neg (show ¬ (-1 : Int32) = 32 by decide)]
    · have hy : ¬ b e = 32 := of_decide_eq_true (h4 (by omega))
      simp only [BX12_goesOn_9, un1, byteAt_in hn (show e < n by omega), bd_some]
      rw [if_neg (fun q => hy ((by_n (hb e)).1.mp q))]
  · have hno : b j = 32 := by have := h3 j hj1 hj2; simpa using this
    show BX12_goesOn_9 N (nI n) b K rec (nI j) = rec (nI (j + 1))
    simp only [BX12_goesOn_9, un1, byteAt_in hn (show j < n by omega), bd_some]
    rw [if_pos ((by_n (hb j)).1.mpr hno), nI_1]
theorem r_adv_lt {N n p : Nat} {b : Nat → Int32} (K : Int32 × Int32 × Int64 → Option (Int32 × Int32 × Int32 × Int32 × Int32 × Int64)) (hN : 1000 < N) (hn : n ≤ 900) (hp : p ≤ n) (hb : ∀ i, isBy (b i)) : lp (BX12_goesOn_89 N (nI n) b K) N (0, nI p, 0) = K (nI (tkL b n p), nI (p + tkL b n p), rww b p (tkL b n p)) := by
  obtain ⟨h1, h2, h3⟩ := tkL_all (b := b) hp
  refine lp_for (fun k => (nI k, nI (p + k), rww b p k)) (tkL b n p) N (by omega) (fun k hk rec => ?_) (fun rec => ?_)
  · have B := by_n (hb (p + k))
    have hL := h2 k hk
    simp only [BX12_goesOn_89, un3, un1, byteAt_in hn (show p + k < n by omega), bd_some, r_isLetter_ok, B.2.2.1, hL, if_true, i10, if_false, jn, (B.2.2.2.2.2.2.1 hL).1, nI_1]
    show _ = rec (nI (k + 1), nI (p + k + 1), if 8 ≤ k then rww b p k else (32 * rww b p k) + (((b (p + k) - 97) + 1).toInt64))
    by_cases c : 8 ≤ k
    · rw [if_pos c, if_pos (show (8 : Int32) ≤ nI k from (nI_leI (a := 8) (by omega) (by omega)).mpr c)]
    · rw [if_neg c, if_neg (show ¬ (8 : Int32) ≤ nI k from fun e => c ((nI_leI (a := 8) (by omega) (by omega)).mp e))]
  · by_cases c : n ≤ p + tkL b n p
    · simp only [BX12_goesOn_89, un3, un1, byteAt_out hn c (show p + tkL b n p ≤ 900 by omega), bd_some, r_isLetter_ok, isL_m1, Bool.false_eq_true, if_false, if_true]
    · have hf := h3 (by omega)
      have B := by_n (hb (p + tkL b n p))
      simp only [BX12_goesOn_89, un3, un1, byteAt_in hn (show p + tkL b n p < n by omega), bd_some, r_isLetter_ok, B.2.2.1, hf, Bool.false_eq_true, if_false, if_true]
theorem r_adv_dg {N n p : Nat} {b : Nat → Int32} (K : Int32 × Int32 × Int32 → Option (Int32 × Int32 × Int32 × Int32 × Int32 × Int64)) (hN : 1000 < N) (hn : n ≤ 900) (hp : p ≤ n) (hb : ∀ i, isBy (b i)) : lp (BX12_goesOn_178 N (nI n) b K) N (0, nI p, 0) = K (nI (tkG b n p), nI (p + tkG b n p), rvw b p (tkG b n p)) := by
  obtain ⟨h1, h2, h3⟩ := tkG_all (b := b) hp
  refine lp_for (fun k => (nI k, nI (p + k), rvw b p k)) (tkG b n p) N (by omega) (fun k hk rec => ?_) (fun rec => ?_)
  · have B := by_n (hb (p + k))
    have hL := h2 k hk
    simp only [BX12_goesOn_178, un3, un1, byteAt_in hn (show p + k < n by omega), bd_some, r_isDigit_ok, B.2.2.2.1, hL, if_true, i10, if_false, jn, (B.2.2.2.2.2.2.2 hL).1, nI_1]
    show _ = rec (nI (k + 1), nI (p + k + 1), if 3 ≤ k then rvw b p k else ((10 * rvw b p k) + b (p + k)) - 48)
    by_cases c : 3 ≤ k
    · rw [if_pos c, if_pos (show (3 : Int32) ≤ nI k from (nI_leI (a := 3) (by omega) (by omega)).mpr c)]
    · rw [if_neg c, if_neg (show ¬ (3 : Int32) ≤ nI k from fun e => c ((nI_leI (a := 3) (by omega) (by omega)).mp e))]
  · by_cases c : n ≤ p + tkG b n p
    · simp only [BX12_goesOn_178, un3, un1, byteAt_out hn c (show p + tkG b n p ≤ 900 by omega), bd_some, r_isDigit_ok, isG_m1, Bool.false_eq_true, if_false, if_true]
    · have hf := h3 (by omega)
      have B := by_n (hb (p + tkG b n p))
      simp only [BX12_goesOn_178, un3, un1, byteAt_in hn (show p + tkG b n p < n by omega), bd_some, r_isDigit_ok, B.2.2.2.1, hf, Bool.false_eq_true, if_false, if_true]
def radv (b : Nat → Int32) (n p : Nat) (rn : Int32) (rw' : Int64) : RTok :=
  if 0 < tkL b n p then (nI (p + tkL b n p), (if tkL b n p ≤ 8 then 2 else 0), nI p, 0, rn, rww b p (tkL b n p))
  else if 0 < tkG b n p then (nI (p + tkG b n p), (if tkG b n p ≤ 3 then 3 else 0), nI p, 0, rvw b p (tkG b n p), rw')
  else if p < n then (if b p = 59 ∨ b p = 44 then (nI (p + 1), 4, nI p, b p, rn, rw') else (nI p, 0, nI p, 0, rn, rw'))
  else (nI p, 1, nI p, 0, rn, rw')
theorem goesOn_ok {N n a : Nat} {b : Nat → Int32} {rs rp rg rn : Int32} {rw' : Int64} (hN : 1000 < N) (hn : n ≤ 900) (ha : a ≤ n) (hb : ∀ i, isBy (b i)) (hs : ¬ rs = 5) : fX12_goesOn N (nI n) (nI a) rs rp rg rn rw' b = some (radv b n (tkP b n a) rn rw') := by
  have hp : tkP b n a ≤ n := (scan_all (p := fun i => decide (b i ≠ 32)) ha).2.1
  unfold fX12_goesOn
  rw [if_neg hs, r_adv_sp _ hN hn ha hb]
  dsimp only [un1]
  generalize tkP b n a = p at hp ⊢
  obtain ⟨l1, l2, l3⟩ := tkL_all (b := b) hp
  obtain ⟨g1, g2, g3⟩ := tkG_all (b := b) hp
  unfold radv
  by_cases cn : p < n
  · have B := by_n (hb p)
    rw [byteAt_in hn cn, bd_some]
    dsimp only [un1]
    rw [if_neg B.2.1, r_isLetter_ok, B.2.2.1, bd_some]
    dsimp only [un1]
    by_cases cl : isL (b p) = true
    · have hl : 0 < tkL b n p := by
        rcases Nat.eq_zero_or_pos (tkL b n p) with q | q
        · rw [q] at l3
          have := l3 cn
          rw [show p + 0 = p from rfl, cl] at this
          cases this
        · exact q
      rw [if_pos cl, if_neg (show ¬ (1 : Int32) = 0 by decide), if_pos hl, r_adv_lt _ hN hn hp hb]
      dsimp only [un3]
      by_cases c8 : tkL b n p ≤ 8
      · rw [if_neg (show ¬ 8 < nI (tkL b n p) from fun e => absurd ((nI_ltI (by omega) (by omega)).mp (show nI 8 < nI (tkL b n p) from e)) (by omega)), if_pos c8]
      · rw [if_pos (show 8 < nI (tkL b n p) from (nI_ltI (a := 8) (by omega) (by omega)).mpr (by omega)), if_neg c8]
    · have hl : ¬ 0 < tkL b n p := fun q => cl (l2 0 q)
      rw [if_neg cl, if_pos (show (0 : Int32) = 0 from rfl), if_neg hl, r_isDigit_ok, B.2.2.2.1, bd_some]
      dsimp only [un1]
      by_cases cg : isG (b p) = true
      · have hg : 0 < tkG b n p := by
          rcases Nat.eq_zero_or_pos (tkG b n p) with q | q
          · rw [q] at g3
            have := g3 cn
            rw [show p + 0 = p from rfl, cg] at this
            cases this
          · exact q
        rw [if_pos cg, if_neg (show ¬ (1 : Int32) = 0 by decide), if_pos hg, r_adv_dg _ hN hn hp hb]
        dsimp only [un3]
        by_cases c3 : tkG b n p ≤ 3
        · rw [if_neg (show ¬ 3 < nI (tkG b n p) from fun e => absurd ((nI_ltI (by omega) (by omega)).mp (show nI 3 < nI (tkG b n p) from e)) (by omega)), if_pos c3]
        · rw [if_pos (show 3 < nI (tkG b n p) from (nI_ltI (a := 3) (by omega) (by omega)).mpr (by omega)), if_neg c3]
      · have hg : ¬ 0 < tkG b n p := fun q => cg (g2 0 q)
        rw [if_neg cg, if_pos (show (0 : Int32) = 0 from rfl), if_neg hg, if_pos cn]
        dsimp only [jn, un0]
        rw [nI_1]
        by_cases c59 : b p = 59
        · rw [if_pos (B.2.2.2.2.1.mpr c59), if_pos (Or.inl c59), B.2.2.2.2.1.mpr c59, c59]
        · rw [if_neg (fun q => c59 (B.2.2.2.2.1.mp q))]
          by_cases c44 : b p = 44
          · rw [if_pos (B.2.2.2.2.2.1.mpr c44), if_pos (Or.inr c44), B.2.2.2.2.2.1.mpr c44, c44]
          · rw [if_neg (fun q => c44 (B.2.2.2.2.2.1.mp q)), if_neg (fun q => by rcases q with q | q; exact c59 q; exact c44 q)]
  · rw [byteAt_out hn (by omega) (by omega), bd_some]
    dsimp only [un1]
    have hl : ¬ 0 < tkL b n p := by omega
    have hg : ¬ 0 < tkG b n p := by omega
    rw [if_pos (show (-1 : Int32) = -1 from rfl), if_neg hl, if_neg hg, if_neg cn]
theorem lNmul (a b : Nat) : lN a * lN b = lN (a * b) := (Int64.ofNat_mul a b).symm
theorem lNadd (a b : Nat) : lN a + lN b = lN (a + b) := (Int64.ofNat_add a b).symm
theorem word_same {b : Nat → Int32} {p L : Nat} (hb : ∀ i, isBy (b i)) (hl : ∀ k, k < L → isL (b (p + k)) = true) : ∀ k, k ≤ L → k ≤ 8 → ∃ c, c < 32 ^ k ∧ cdw b p k = lN c ∧ rww b p k = lN c
  | 0, _, _ => ⟨0, by decide, rfl, rfl⟩
  | k + 1, h1, h2 => by
    obtain ⟨c, c1, c2, c3⟩ := word_same hb hl k (by omega) (by omega)
    obtain ⟨-, -, x1, x2, x3⟩ := (by_n (hb (p + k))).2.2.2.2.2.2.1 (hl k (by omega))
    generalize hx : (b (p + k)).toNatClampNeg = x at x1 x2 x3
    have e1 : ((b (p + k) - 97) + 1).toInt64 = lN (x - 97 + 1) := by
      rw [x1, show (97 : Int32) = nI 97 from rfl, pk_sub x2, nI_1, nI_l (by omega)]
    have hp : 32 ^ (k + 1) = 32 * 32 ^ k := by rw [Nat.pow_succ]; omega
    have e2 : lN c <<< ((5 : Int32).toInt64 &&& 63) = lN (2 ^ 5 * c) := by
      have := wb_shl c (k := 5) (by omega)
      rw [Nat.mul_comm] at this
      exact this
    refine ⟨32 * c + (x - 97 + 1), by omega, ?_, ?_⟩
    · show (cdw b p k <<< ((5 : Int32).toInt64 &&& 63)) ||| (((b (p + k) - 97) + 1).toInt64) = _
      rw [c2, e1, e2, fb_or_sumL c (k := 5) (by omega)]
    · show (if 8 ≤ k then rww b p k else (32 * rww b p k) + (((b (p + k) - 97) + 1).toInt64)) = _
      rw [if_neg (by omega), c3, e1, show (32 : Int64) = lN 32 from rfl, lNmul, lNadd]
theorem value_same {b : Nat → Int32} {p L : Nat} (hb : ∀ i, isBy (b i)) (hl : ∀ k, k < L → isG (b (p + k)) = true) : ∀ k, k ≤ L → k ≤ 3 → ∃ v, v < 10 ^ k ∧ vlw b p k = nI v ∧ rvw b p k = nI v
  | 0, _, _ => ⟨0, by decide, rfl, rfl⟩
  | k + 1, h1, h2 => by
    obtain ⟨c, c1, c2, c3⟩ := value_same hb hl k (by omega) (by omega)
    obtain ⟨-, x1, x2, x3⟩ := (by_n (hb (p + k))).2.2.2.2.2.2.2 (hl k (by omega))
    generalize hx : (b (p + k)).toNatClampNeg = x at x1 x2 x3
    have hp : 10 ^ (k + 1) = 10 * 10 ^ k := by rw [Nat.pow_succ]; omega
    refine ⟨10 * c + x - 48, by omega, ?_, ?_⟩
    · show ((vlw b p k * 10) + b (p + k)) - 48 = _
      rw [c2, x1, show (10 : Int32) = nI 10 from rfl, show (48 : Int32) = nI 48 from rfl, pk_mul, nI_add, pk_sub (by omega), Nat.mul_comm c 10]
    · show (if 3 ≤ k then rvw b p k else ((10 * rvw b p k) + b (p + k)) - 48) = _
      rw [if_neg (by omega), c3, x1, show (10 : Int32) = nI 10 from rfl, show (48 : Int32) = nI 48 from rfl, pk_mul, nI_add, pk_sub (by omega)]
/-- one token, as both hold it; p its place -/
def TK (n p : Nat) (c : CTok) (r : RTok) : Prop :=
  p ≤ n ∧ c.2.1 = nI p ∧ r.2.2.1 = nI p ∧
  ((c.2.2.1 = 0 ∧ r.2.1 = 1 ∧ c.2.2.2.2.1 = 0) ∨ (c.2.2.1 = 5 ∧ r.2.1 = 0 ∧ c.2.2.2.2.1 = 0) ∨
    ∃ a, p < a ∧ a ≤ n ∧ c.1 = nI a ∧ r.1 = nI a ∧
      ((c.2.2.1 = 1 ∧ r.2.1 = 2 ∧ c.2.2.2.1 = r.2.2.2.2.2 ∧ c.2.2.2.2.1 = (if kpt c.2.2.2.1 = true then 0 else 1)) ∨
       (c.2.2.1 = 2 ∧ r.2.1 = 3 ∧ c.2.2.2.2.1 = 0 ∧ ∃ v, v < 1000 ∧ c.2.2.2.2.2 = nI v ∧ r.2.2.2.2.1 = nI v) ∨
       (c.2.2.1 = 3 ∧ r.2.1 = 4 ∧ c.2.2.2.2.1 = 0 ∧ r.2.2.2.1 = 59) ∨ (c.2.2.1 = 4 ∧ r.2.1 = 4 ∧ c.2.2.2.2.1 = 0 ∧ r.2.2.2.1 = 44)))
theorem TK_adv {n p : Nat} {b : Nat → Int32} (hb : ∀ i, isBy (b i)) (hp : p ≤ n) (rn : Int32) (rw' : Int64) : TK n p (adv b n p) (radv b n p rn rw') := by
  obtain ⟨l1, l2, l3⟩ := tkL_all (b := b) hp
  obtain ⟨g1, g2, g3⟩ := tkG_all (b := b) hp
  unfold adv radv
  by_cases cl : 0 < tkL b n p
  · rw [if_pos cl, if_pos cl]
    by_cases c8 : tkL b n p ≤ 8
    · rw [if_pos c8, if_pos c8]
      obtain ⟨c, h1, h2, h3⟩ := word_same hb l2 (tkL b n p) (Nat.le_refl _) c8
      refine ⟨hp, rfl, rfl, Or.inr (Or.inr ⟨p + tkL b n p, by omega, l1, rfl, rfl, Or.inl ⟨rfl, rfl, h2.trans h3.symm, ?_⟩⟩)⟩
      dsimp only
      by_cases ck : kpt (cdw b p (tkL b n p)) = true
      · rw [if_pos ck, if_neg (fun q => by rw [ck] at q; exact absurd q.2 (by decide))]
      · have ck' : kpt (cdw b p (tkL b n p)) = false := by simpa using ck
        rw [if_neg ck, if_pos ⟨c8, ck'⟩]
    · rw [if_neg c8, if_neg c8, if_neg (fun q => c8 q.1)]
      exact ⟨hp, rfl, rfl, Or.inr (Or.inl ⟨rfl, rfl, rfl⟩)⟩
  · rw [if_neg cl, if_neg cl]
    by_cases cg : 0 < tkG b n p
    · rw [if_pos cg, if_pos cg]
      by_cases c3 : tkG b n p ≤ 3
      · rw [if_pos c3, if_pos c3]
        obtain ⟨v, h1, h2, h3⟩ := value_same hb g2 (tkG b n p) (Nat.le_refl _) c3
        have h4 : 10 ^ (tkG b n p) ≤ 10 ^ 3 := Nat.pow_le_pow_right (by decide) c3
        exact ⟨hp, rfl, rfl, Or.inr (Or.inr ⟨p + tkG b n p, by omega, g1, rfl, rfl, Or.inr (Or.inl ⟨rfl, rfl, rfl, v, by omega, h2, h3⟩)⟩)⟩
      · rw [if_neg c3, if_neg c3]
        exact ⟨hp, rfl, rfl, Or.inr (Or.inl ⟨rfl, rfl, rfl⟩)⟩
    · rw [if_neg cg, if_neg cg]
      by_cases cn : p < n
      · rw [if_pos cn, if_pos cn]
        by_cases c59 : b p = 59
        · rw [if_pos c59, if_pos (Or.inl c59)]
          exact ⟨hp, rfl, rfl, Or.inr (Or.inr ⟨p + 1, by omega, by omega, rfl, rfl, Or.inr (Or.inr (Or.inl ⟨rfl, rfl, rfl, c59⟩))⟩)⟩
        · rw [if_neg c59]
          by_cases c44 : b p = 44
          · rw [if_pos c44, if_pos (Or.inr c44)]
            exact ⟨hp, rfl, rfl, Or.inr (Or.inr ⟨p + 1, by omega, by omega, rfl, rfl, Or.inr (Or.inr (Or.inr ⟨rfl, rfl, rfl, c44⟩))⟩)⟩
          · rw [if_neg c44, if_neg (fun q => by rcases q with q | q; exact c59 q; exact c44 q)]
            exact ⟨hp, rfl, rfl, Or.inr (Or.inl ⟨rfl, rfl, rfl⟩)⟩
      · rw [if_neg cn, if_neg cn]
        exact ⟨hp, rfl, rfl, Or.inl ⟨rfl, rfl, rfl⟩⟩
/-- what does not change while a text is read: its bytes, its length, the fuel -/
def TX (N n : Nat) (b : Nat → Int32) : Prop := 1000 < N ∧ n ≤ 900 ∧ ∀ i, isBy (b i)
theorem tok_next {N n a : Nat} {b : Nat → Int32} (h : TX N n b) (ha : a ≤ n) : ∃ p c, a ≤ p ∧ fX7_advance N (nI n) (nI a) b = some c ∧ ∀ rs rp rg rn rw', ¬ rs = 5 → ∃ r, fX12_goesOn N (nI n) (nI a) rs rp rg rn rw' b = some r ∧ TK n p c r := by
  obtain ⟨hN, hn, hb⟩ := h
  have hA := scan_all (p := fun i => decide (b i ≠ 32)) ha
  exact ⟨tkP b n a, adv b n (tkP b n a), hA.1, advance_ok hN hn ha, fun rs rp rg rn rw' hs => ⟨_, goesOn_ok hN hn ha hb hs, TK_adv hb hA.2.1 rn rw'⟩⟩
