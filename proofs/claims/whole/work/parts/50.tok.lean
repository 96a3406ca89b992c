/-! tokens: what both readers see next -/
theorem i10 : ((1 : Int32) = 0) ↔ False := by decide
def isL (x : Int32) : Bool := decide (¬ x < 97 ∧ ¬ 122 < x)
def isG (x : Int32) : Bool := decide (¬ x < 48 ∧ ¬ 57 < x)
theorem isLetter_ok {N : Nat} (x : Int32) : fX7_isLetter N x = some (if isL x = true then 1 else 0) := by
  unfold fX7_isLetter isL
  dsimp only [jn, un0]
  by_cases c1 : x < 97
  · rw [if_pos c1, if_neg (fun q => (of_decide_eq_true q).1 c1)]
  · by_cases c2 : 122 < x
    · rw [if_neg c1, if_pos c2, if_neg (fun q => (of_decide_eq_true q).2 c2)]
    · rw [if_neg c1, if_neg c2, if_pos (decide_eq_true ⟨c1, c2⟩)]
theorem r_isLetter_ok {N : Nat} (x : Int32) : fX12_isLetter N x = some (if isL x = true then 1 else 0) := isLetter_ok (N := N) x
theorem isDigit_ok {N : Nat} (x : Int32) : fX7_isDigit N x = some (if isG x = true then 1 else 0) := by
  unfold fX7_isDigit isG
  dsimp only [jn, un0]
  by_cases c1 : x < 48
  · rw [if_pos c1, if_neg (fun q => (of_decide_eq_true q).1 c1)]
  · by_cases c2 : 57 < x
    · rw [if_neg c1, if_pos c2, if_neg (fun q => (of_decide_eq_true q).2 c2)]
    · rw [if_neg c1, if_neg c2, if_pos (decide_eq_true ⟨c1, c2⟩)]
theorem r_isDigit_ok {N : Nat} (x : Int32) : fX12_isDigit N x = some (if isG x = true then 1 else 0) := isDigit_ok (N := N) x
def isBy (x : Int32) : Prop := x.toInt8.toInt32 = x
def byP (x : Int32) : Prop := (x &&& 255 = 32 ↔ x = 32) ∧ ¬ x &&& 255 = -1 ∧ isL (x &&& 255) = isL x ∧ isG (x &&& 255) = isG x ∧ (x &&& 255 = 59 ↔ x = 59) ∧ (x &&& 255 = 44 ↔ x = 44) ∧
  (isL x = true → x &&& 255 = x ∧ isG x = false ∧ x = nI x.toNatClampNeg ∧ 97 ≤ x.toNatClampNeg ∧ x.toNatClampNeg ≤ 122) ∧ (isG x = true → x &&& 255 = x ∧ x = nI x.toNatClampNeg ∧ 48 ≤ x.toNatClampNeg ∧ x.toNatClampNeg ≤ 57)
theorem by_all : ∀ n, n < 256 → byP (Int8.ofNat n).toInt32 := by
  unfold byP
  decide +kernel
theorem by_n {x : Int32} (h : isBy x) : byP x := by
  have h1 : (Int8.ofNat x.toInt8.toBitVec.toNat) = x.toInt8 := Int8.toBitVec_inj.mp (by show BitVec.ofNat 8 _ = _; simp)
  have h2 := by_all x.toInt8.toBitVec.toNat x.toInt8.toBitVec.isLt
  rw [h1] at h2
  have h3 : x.toInt8.toInt32 = x := h
  rw [h3] at h2
  exact h2
def scan (p : Nat → Bool) (n a : Nat) : Nat := a + fa_first (fun i => p (a + i)) (n - a)
theorem scan_all {p : Nat → Bool} {n a : Nat} (h : a ≤ n) : a ≤ scan p n a ∧ scan p n a ≤ n ∧ (∀ j, a ≤ j → j < scan p n a → p j = false) ∧ (scan p n a < n → p (scan p n a) = true) := by
  have h0 := fa_first_le (fun i => p (a + i)) (n - a)
  unfold scan
  refine ⟨by omega, by omega, fun j h1 h2 => ?_, fun h1 => ?_⟩
  · have h3 : p (a + (j - a)) = false := fa_first_no (fun i => p (a + i)) (n - a) (j - a) (by omega)
    rwa [show a + (j - a) = j by omega] at h3
  · exact fa_first_yes (fun i => p (a + i)) (n - a) (by omega)
def tkP (b : Nat → Int32) (n a : Nat) : Nat := scan (fun i => decide (b i ≠ 32)) n a
def tkL (b : Nat → Int32) (n p : Nat) : Nat := fa_first (fun i => !isL (b (p + i))) (n - p)
def tkG (b : Nat → Int32) (n p : Nat) : Nat := fa_first (fun i => !isG (b (p + i))) (n - p)
def cdw (b : Nat → Int32) (p : Nat) : Nat → Int64
  | 0 => 0
  | k + 1 => (cdw b p k <<< ((5 : Int32).toInt64 &&& 63)) ||| (((b (p + k) - 97) + 1).toInt64)
def vlw (b : Nat → Int32) (p : Nat) : Nat → Int32
  | 0 => 0
  | k + 1 => ((vlw b p k * 10) + b (p + k)) - 48
theorem tkL_all {b : Nat → Int32} {n p : Nat} (hp : p ≤ n) : p + tkL b n p ≤ n ∧ (∀ k, k < tkL b n p → isL (b (p + k)) = true) ∧ (p + tkL b n p < n → isL (b (p + tkL b n p)) = false) := by
  have h0 := fa_first_le (fun i => !isL (b (p + i))) (n - p)
  unfold tkL
  refine ⟨by omega, fun k hk => ?_, fun h1 => ?_⟩
  · have h3 : (!isL (b (p + k))) = false := fa_first_no (fun i => !isL (b (p + i))) (n - p) k hk
    simpa using h3
  · have h3 : (!isL (b (p + fa_first (fun i => !isL (b (p + i))) (n - p)))) = true := fa_first_yes (fun i => !isL (b (p + i))) (n - p) (by omega)
    simpa using h3
theorem tkG_all {b : Nat → Int32} {n p : Nat} (hp : p ≤ n) : p + tkG b n p ≤ n ∧ (∀ k, k < tkG b n p → isG (b (p + k)) = true) ∧ (p + tkG b n p < n → isG (b (p + tkG b n p)) = false) := by
  have h0 := fa_first_le (fun i => !isG (b (p + i))) (n - p)
  unfold tkG
  refine ⟨by omega, fun k hk => ?_, fun h1 => ?_⟩
  · have h3 : (!isG (b (p + k))) = false := fa_first_no (fun i => !isG (b (p + i))) (n - p) k hk
    simpa using h3
  · have h3 : (!isG (b (p + fa_first (fun i => !isG (b (p + i))) (n - p)))) = true := fa_first_yes (fun i => !isG (b (p + i))) (n - p) (by omega)
    simpa using h3
/-! the class's loops -/
theorem adv_sp {N n a : Nat} {b : Nat → Int32} (K : Int32 → Option (Int32 × Int32 × Int32 × Int64 × Int32 × Int32)) (hN : 1000 < N) (hn : n ≤ 900) (ha : a ≤ n) : lp (BX7_advance_0 (nI n) b K) N (nI a) = K (nI (tkP b n a)) := by
  have hA := scan_all (p := fun i => decide (b i ≠ 32)) ha
  unfold tkP
  generalize scan (fun i => decide (b i ≠ 32)) n a = e at hA ⊢
  obtain ⟨h1, h2, h3, h4⟩ := hA
  refine lp_to (fun j => nI j) e (fun rec => ?_) (e - a) a N (by omega) (by omega) (fun j hj1 hj2 rec => ?_)
  · show BX7_advance_0 (nI n) b K rec (nI e) = _
    by_cases c : n ≤ e
    · simp (disch := omega) only [BX7_advance_0, un1, nI_leI, c, if_true]
    · have hy : ¬ b e = 32 := of_decide_eq_true (h4 (by omega))
      simp (disch := omega) only [BX7_advance_0, un1, nI_leI, c, if_false, gd_nI, nI_clamp, hy]
  · have hno : b j = 32 := by have := h3 j hj1 hj2; simpa using this
    have c : ¬ n ≤ j := by omega
    show BX7_advance_0 (nI n) b K rec (nI j) = rec (nI (j + 1))
    simp (disch := omega) only [BX7_advance_0, un1, nI_leI, c, if_false, gd_nI, nI_clamp, hno, if_true, nI_1]
theorem adv_lt {N n p : Nat} {b : Nat → Int32} (K : Int32 × Int64 → Option (Int32 × Int32 × Int32 × Int64 × Int32 × Int32)) (hN : 1000 < N) (hn : n ≤ 900) (hp : p ≤ n) : lp (BX7_advance_51 (nI n) N b K) N (nI p, 0) = K (nI (p + tkL b n p), cdw b p (tkL b n p)) := by
  obtain ⟨h1, h2, h3⟩ := tkL_all (b := b) hp
  refine lp_for (fun k => (nI (p + k), cdw b p k)) (tkL b n p) N (by omega) (fun k hk rec => ?_) (fun rec => ?_)
  · have c : ¬ n ≤ p + k := by omega
    simp (disch := omega) only [BX7_advance_51, un2, un1, nI_leI, c, if_false, gd_nI, nI_clamp, isLetter_ok, h2 k hk, if_true, bd_some, i10, fX7_joined, nI_1]
    rfl
  · by_cases c : n ≤ p + tkL b n p
    · simp (disch := omega) only [BX7_advance_51, un2, un1, nI_leI, c, if_true]
    · have hf := h3 (by omega)
      simp (disch := omega) only [BX7_advance_51, un2, un1, nI_leI, c, if_false, gd_nI, nI_clamp, isLetter_ok, hf, bd_some, Bool.false_eq_true, if_true]
theorem adv_dg {N n p : Nat} {b : Nat → Int32} {x y : Int32} (K : Int32 × Int32 → Option (Int32 × Int32 × Int32 × Int64 × Int32 × Int32)) (hN : 1000 < N) (hn : n ≤ 900) (hp : p ≤ n) (hxy : x - y = 0) : lp (BX7_advance_125 x y (nI n) N b K) N (nI p, 0) = K (nI (p + tkG b n p), vlw b p (tkG b n p)) := by
  obtain ⟨h1, h2, h3⟩ := tkG_all (b := b) hp
  refine lp_for (fun k => (nI (p + k), vlw b p k)) (tkG b n p) N (by omega) (fun k hk rec => ?_) (fun rec => ?_)
  · have c : ¬ n ≤ p + k := by omega
    simp (disch := omega) only [BX7_advance_125, hxy, un2, un1, nI_leI, c, if_false, gd_nI, nI_clamp, isDigit_ok, h2 k hk, if_true, bd_some, i10, nI_1]
    rfl
  · by_cases c : n ≤ p + tkG b n p
    · simp (disch := omega) only [BX7_advance_125, hxy, un2, un1, nI_leI, c, if_true]
    · have hf := h3 (by omega)
      simp (disch := omega) only [BX7_advance_125, hxy, un2, un1, nI_leI, c, if_false, gd_nI, nI_clamp, isDigit_ok, hf, bd_some, Bool.false_eq_true, if_true]
theorem adv_nd {N : Nat} {n : Int32} {b : Nat → Int32} {x y : Int32} {s : Int32 × Int32} (K : Int32 × Int32 → Option (Int32 × Int32 × Int32 × Int64 × Int32 × Int32)) (hN : 0 < N) (hxy : ¬ x - y = 0) : lp (BX7_advance_125 x y n N b K) N s = K s := by
  cases N with
  | zero => omega
  | succ N =>
    show BX7_advance_125 _ _ _ _ _ _ _ _ = _
    simp only [BX7_advance_125, hxy, un2, if_false]
/-- words that can't be names -/
def kpt (c : Int64) : Bool := decide (fa_first (fun i => decide (wdc i = c)) 24 < 19)
theorem isKept_ok {N : Nat} (hN : 64 < N) (c : Int64) : fX9_isKept N c = some (if kpt c = true then 1 else 0) := by
  unfold fX9_isKept
  have key := lp_find (B := BX9_isKept_2 c) (p := fun i => decide (wdc i = c)) (D := 24) (N := N) (e := some 0) (f := fun i => some (wdk i)) (by omega) (fun i hi rec => ?_) (fun rec => ?_)
  · refine Eq.trans key ?_
    have hw : ∀ i, i < 24 → wdk i = (if i < 19 then 1 else 0) := by decide +kernel
    unfold kpt
    by_cases c1 : fa_first (fun i => decide (wdc i = c)) 24 < 24
    · rw [if_pos c1, hw _ c1]
      by_cases c2 : fa_first (fun i => decide (wdc i = c)) 24 < 19
      · rw [if_pos c2, if_pos (decide_eq_true c2)]
      · rw [if_neg c2, if_neg (fun q => c2 (of_decide_eq_true q))]
    · rw [if_neg c1, if_neg (fun q => absurd (of_decide_eq_true q) (by omega))]
  · have h3 : ¬ 24 ≤ i := by omega
    have hz : wdk i = 0 ∨ wdk i = 1 := by
      have : ∀ i, i < 24 → wdk i = 0 ∨ wdk i = 1 := by decide +kernel
      exact this i hi
    simp (disch := omega) only [BX9_isKept_2, un1, il, nI_leI, h3, if_false, gd_nI, nI_clamp, lgc0, nI_add]
    by_cases c1 : wdc i = c
    · rw [if_pos c1, if_pos (decide_eq_true c1), zg_in _ hz]
    · rw [if_neg c1, if_neg (fun q => c1 (of_decide_eq_true q))]
  · simp (disch := omega) only [BX9_isKept_2, un1, il, nI_leI, Nat.le_refl, if_true]
abbrev CTok : Type := Int32 × Int32 × Int32 × Int64 × Int32 × Int32
abbrev RTok : Type := Int32 × Int32 × Int32 × Int32 × Int32 × Int64
def adv (b : Nat → Int32) (n p : Nat) : CTok :=
  if 0 < tkL b n p then (nI (p + tkL b n p), nI p, (if tkL b n p ≤ 8 then 1 else 5), cdw b p (tkL b n p), (if tkL b n p ≤ 8 ∧ kpt (cdw b p (tkL b n p)) = false then 1 else 0), 0)
  else if 0 < tkG b n p then (nI (p + tkG b n p), nI p, (if tkG b n p ≤ 3 then 2 else 5), 0, 0, vlw b p (tkG b n p))
  else if p < n then (nI (p + 1), nI p, (if b p = 59 then 3 else if b p = 44 then 4 else 5), 0, 0, 0)
  else (nI p, nI p, 0, 0, 0, 0)
theorem advance_ok {N n a : Nat} {b : Nat → Int32} (hN : 1000 < N) (hn : n ≤ 900) (ha : a ≤ n) : fX7_advance N (nI n) (nI a) b = some (adv b n (tkP b n a)) := by
  have hp : tkP b n a ≤ n := (scan_all (p := fun i => decide (b i ≠ 32)) ha).2.1
  unfold fX7_advance
  rw [adv_sp _ hN hn ha]
  dsimp only [un1]
  generalize tkP b n a = p at hp ⊢
  obtain ⟨l1, l2, l3⟩ := tkL_all (b := b) hp
  obtain ⟨g1, g2, g3⟩ := tkG_all (b := b) hp
  rw [adv_lt _ hN hn hp]
  dsimp only [un2]
  have e1 : nI (p + tkL b n p) - nI p = nI (tkL b n p) := by rw [pk_sub (by omega)]; congr 1; omega
  unfold adv
  by_cases cl : 0 < tkL b n p
  · have hne : ¬ nI (p + tkL b n p) - nI p = 0 := by
      rw [e1]
      exact fun e => absurd ((nI_eq (by omega) (by omega)).mp (e.trans (il 0))) (by omega)
    rw [adv_nd _ (by omega) hne]
    dsimp only [un2, jn, un1, un0]
    have h0 : ¬ tkL b n p ≤ 0 := by omega
    rw [if_pos cl, e1]
    have q0 : ¬ nI (tkL b n p) ≤ 0 := fun e => h0 ((nI_leI (by omega) (by omega)).mp (show nI (tkL b n p) ≤ nI 0 from e))
    rw [if_neg q0]
    by_cases c8 : tkL b n p ≤ 8
    · have q8 : ¬ 8 < nI (tkL b n p) := fun e => absurd ((nI_ltI (by omega) (by omega)).mp (show nI 8 < nI (tkL b n p) from e)) (by omega)
      rw [if_neg q8, if_pos c8, if_pos (show (1 : Int32) = 1 from rfl), isKept_ok (by omega), bd_some]
      dsimp only [un1]
      by_cases ck : kpt (cdw b p (tkL b n p)) = true
      · rw [if_pos ck, if_neg (show ¬ (1 : Int32) = 0 by decide), if_neg (fun q => by rw [ck] at q; exact absurd q.2 (by decide))]
      · have ck' : kpt (cdw b p (tkL b n p)) = false := by simpa using ck
        rw [if_neg ck, if_pos (show (0 : Int32) = 0 from rfl), if_pos ⟨c8, ck'⟩]
    · have q8 : 8 < nI (tkL b n p) := (nI_ltI (a := 8) (by omega) (by omega)).mpr (by omega)
      rw [if_pos q8, if_neg c8, if_neg (show ¬ (5 : Int32) = 1 by decide), if_neg (fun q => c8 q.1)]
  · have z : tkL b n p = 0 := by omega
    rw [if_neg cl]
    rw [z] at e1 ⊢
    have ep : p + 0 = p := rfl
    rw [ep] at e1 ⊢
    rw [adv_dg _ hN hn hp e1]
    dsimp only [un2, jn, un1, un0]
    rw [e1]
    rw [if_pos (show nI 0 ≤ 0 by decide)]
    have e2 : nI (p + tkG b n p) - nI p - nI 0 = nI (tkG b n p) := by rw [pk_sub (by omega), pk_sub (by omega)]; congr 1; omega
    rw [e2]
    by_cases cg : 0 < tkG b n p
    · have q0 : ¬ nI (tkG b n p) ≤ 0 := fun e => absurd ((nI_leI (by omega) (by omega)).mp (show nI (tkG b n p) ≤ nI 0 from e)) (by omega)
      rw [if_pos cg, if_neg q0]
      by_cases c3 : tkG b n p ≤ 3
      · have q3 : ¬ 3 < nI (tkG b n p) := fun e => absurd ((nI_ltI (by omega) (by omega)).mp (show nI 3 < nI (tkG b n p) from e)) (by omega)
        rw [if_neg q3, if_pos c3, if_neg (show ¬ (2 : Int32) = 1 by decide)]
        rfl
      · have q3 : 3 < nI (tkG b n p) := (nI_ltI (a := 3) (by omega) (by omega)).mpr (by omega)
        rw [if_pos q3, if_neg c3, if_neg (show ¬ (5 : Int32) = 1 by decide)]
        rfl
    · have zg' : tkG b n p = 0 := by omega
      have q0 : nI (tkG b n p) ≤ 0 := by rw [zg']; decide
      rw [if_neg cg, if_pos q0, zg']
      unfold fX7_passSign
      have ep : p + 0 = p := rfl
      rw [ep]
      by_cases cn : p < n
      · simp (disch := omega) only [nI_ltI, cn, if_true, gd_nI, nI_clamp, nI_1]
        by_cases c59 : b p = 59
        · rw [if_pos c59, if_pos c59, bd_some]
          rfl
        · rw [if_neg c59, if_neg c59]
          by_cases c44 : b p = 44
          · rw [if_pos c44, if_pos c44, bd_some]
            rfl
          · rw [if_neg c44, if_neg c44, bd_some]
            rfl
      · simp (disch := omega) only [nI_ltI, cn, if_false, bd_some]
        rfl
