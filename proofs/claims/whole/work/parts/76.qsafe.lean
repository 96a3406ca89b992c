/-! numbers that are asked for; safe -/
def dinb (p : Int32) (n : Nat) : Bool := decide (¬ p < 0 ∧ ¬ nI n ≤ p)
theorem dinb_y {p : Int32} {n : Nat} (hn : n < 2 ^ 31) (h : dinb p n = true) : ∃ r, r < n ∧ p = nI r := by
  obtain ⟨h1, h2⟩ := of_decide_eq_true h
  obtain ⟨j, hj, rfl⟩ := nI_of h1
  exact ⟨j, by rw [nI_leI hn hj] at h2; omega, rfl⟩
theorem dinb_nI {r n : Nat} (hr : r < 2 ^ 31) (hn : n < 2 ^ 31) : dinb (nI r) n = decide (r < n) := decide_eq_decide.mpr (by
  constructor
  · intro ⟨_, h⟩
    rw [nI_leI hn hr] at h
    omega
  · intro h
    refine ⟨fun q => (nI_lt0 hr).mp q, fun q => ?_⟩
    have := (nI_leI hn hr).mp q
    omega)
theorem ifs_dinb (p : Int32) (n : Nat) : (if p < 0 then (some 0 : Option Int32) else if nI n ≤ p then some 0 else some 1) = some (bI (dinb p n)) := by
  unfold dinb
  by_cases c : p < 0
  · rw [if_pos c, decide_eq_false (fun q => q.1 c)]; rfl
  · rw [if_neg c]
    by_cases d : nI n ≤ p
    · rw [if_pos d, decide_eq_false (fun q => q.2 d)]; rfl
    · rw [if_neg d, decide_eq_true ⟨c, d⟩]; rfl
theorem c_below (N : Nat) (p : Int32) (n : Nat) : fX10_isBelow N p (nI n) = some (bI (dinb p n)) := ifs_dinb p n
theorem zg_bd (q : Bool) : (some (bI q) : Option Int32).bind (un1 fun r => zg r (some r)) = some (bI q) := by
  rw [bd_some]
  dsimp only [un1]
  rw [zg_b]
theorem c_isRoom (N : Nat) (p : Int32) (n : Nat) : fX10_isRoom N p (nI n) = some (bI (dinb p n)) := by
  unfold fX10_isRoom
  rw [c_below, zg_bd]
theorem c_isSleeper (N : Nat) (p : Int32) (n : Nat) : fX10_isSleeper N p (nI n) = some (bI (dinb p n)) := c_isRoom N p n
theorem c_isThing (N : Nat) (p : Int32) (n : Nat) : fX10_isThing N p (nI n) = some (bI (dinb p n)) := c_isRoom N p n
theorem c_isDoor (N : Nat) (p : Int32) (n : Nat) : fX10_isDoor N p (nI n) = some (bI (dinb p n)) := c_isRoom N p n
theorem c_isListener (N : Nat) (p : Int32) (n : Nat) : fX10_isListener N p (nI n) = some (bI (dinb p n)) := c_isRoom N p n
theorem c_isBook (N : Nat) (p : Int32) : fX10_isBook N p = some (bI (dinb p 2)) := c_isRoom N p 2
theorem c_areBooks (N : Nat) (p : Int32) : fX10_areBooks N p = some (bI (dinb p 4)) := c_isRoom N p 4
theorem r_isRoom (N : Nat) (p : Int32) (n : Nat) : fX12_isRoom N p (nI n) = some (bI (dinb p n)) := ifs_dinb p n
theorem r_isDream (N : Nat) (p : Int32) (n : Nat) : fX12_isDream N p (nI n) = some (bI (dinb p n)) := ifs_dinb p n
theorem r_isSleeper (N : Nat) (p : Int32) (n : Nat) : fX12_isSleeper N p (nI n) = some (bI (dinb p n)) := ifs_dinb p n
theorem r_isThing (N : Nat) (p : Int32) (n : Nat) : fX12_isThing N p (nI n) = some (bI (dinb p n)) := ifs_dinb p n
theorem r_isDoor (N : Nat) (p : Int32) (n : Nat) : fX12_isDoor N p (nI n) = some (bI (dinb p n)) := ifs_dinb p n
theorem r_isListener (N : Nat) (p : Int32) (n : Nat) : fX12_isListener N p (nI n) = some (bI (dinb p n)) := ifs_dinb p n
theorem r_in0 (N : Nat) (p : Int32) {n : Nat} (hn : n + 1 < 2 ^ 31) : fX12_in N p 0 (nI n) = some (bI (dinb p (n + 1))) := by
  rw [← ifs_dinb p (n + 1)]
  show (if p < 0 then _ else if nI n < p then _ else _) = _
  by_cases c : p < 0
  · rw [if_pos c, if_pos c]; rfl
  · rw [if_neg c, if_neg c]
    obtain ⟨j, hj, rfl⟩ := nI_of c
    by_cases d : n < j
    · rw [if_pos ((nI_ltI (by omega) hj).mpr d), if_pos ((nI_leI hn hj).mpr (by omega))]; rfl
    · rw [if_neg (fun q => d ((nI_ltI (by omega) hj).mp q)), if_neg (fun q => d (by have := (nI_leI hn hj).mp q; omega))]
theorem r_isBook (N : Nat) (p : Int32) : fX12_isBook N p = some (bI (dinb p 2)) := by
  unfold fX12_isBook
  rw [show (1 : Int32) = nI 1 from rfl, r_in0 N p (by omega), zg_bd]
theorem r_refBooks (N : Nat) (p : Int32) : fX12_refusesBooks N p = some (if dinb p 4 = true then 0 else 2) := by
  unfold fX12_refusesBooks
  rw [show (3 : Int32) = nI 3 from rfl, r_in0 N p (by omega), bd_some]
  dsimp only [un1]
  cases dinb p 4 <;> rfl
theorem c_isTold {N m : Nat} (h0 : 0 < m) (hm : m < 2 ^ 31) : fX10_isTold N (nI m) = some 1 := by
  unfold fX10_isTold
  rw [if_neg]
  intro q
  have := (nI_leI (b := 0) hm (by decide)).mp q
  omega
theorem c_isSetting {N : Nat} {I : Tb} (p : Int32) (hi : ib I) (h0 : 0 < I 0 6) : fX10_isSetting N p (nI (I 0 6)) (nI (I 0 1)) = some (bI (dinb p (1 + 2 * I 0 1))) := by
  have hM := hi.M
  unfold fX10_isSetting
  rw [c_isTold h0 (by omega), bd_some]
  dsimp only [un1, jn]
  rw [if_neg (by decide), c_sets, bd_some]
  dsimp only [un1]
  rw [c_below, bd_some]
  cases dinb p (1 + 2 * I 0 1) <;> rfl
theorem r_isSetting {N : Nat} {I : Tb} (p : Int32) : fX12_isSetting N p (nI (I 0 1)) = some (bI (dinb p (1 + 2 * I 0 1))) := by
  unfold fX12_isSetting
  rw [r_sets]
  exact ifs_dinb p (1 + 2 * I 0 1)
theorem net_0 {I : Tb} (x : Nat) : net I (fun _ => 0) x = 0 := by
  have : ∀ k, netK I (fun _ => 0) x k = 0 := by
    intro k
    induction k with
    | zero => rfl
    | succ k ih =>
      show netK I (fun _ => 0) x k + fl (fun _ => 0) k * _ = 0
      rw [ih, show fl (fun _ => 0) k = 0 from rfl, Int.zero_mul, Int.add_zero]
  exact this _
theorem FW2_0 (I : Tb) (r : Nat) : FW2 I r (fun _ => 0) 0 := ⟨fun _ _ => ⟨Nat.zero_le 2, fun _ => rfl⟩, fun x _ _ _ => net_0 x, net_0 r⟩
/-- the answer of safely(), safe() and walks() -/
def lyI (I : Tb) (r : Nat) : Int32 := if isBd I r = true then -2 else nI (cls I r (2 ^ I 0 1))
def sfI (I : Tb) (r : Nat) : Int32 := if isBd I r = true then -2 else nI (pop (cls I r (2 ^ I 0 1)))
theorem cls_1024 {I : Tb} (hi : ib I) (r : Nat) : cls I r (2 ^ I 0 1) < 1024 := by
  have h1 := cls_lt hi r (2 ^ I 0 1) (Nat.le_refl _)
  have h2 : 2 ^ I 0 1 ≤ 2 ^ 10 := two_le hi.D
  omega
theorem ly_neg {I : Tb} (hi : ib I) (r : Nat) : (0 ≤ lyI I r) ↔ ¬ isBd I r = true := by
  unfold lyI
  by_cases c : isBd I r = true
  · rw [if_pos c]
    exact ⟨fun q => absurd q (by decide), fun q => absurd c q⟩
  · rw [if_neg c]
    have := cls_1024 hi r
    exact ⟨fun _ => c, fun _ => (nI_leI (a := 0) (by omega) (by omega)).mpr (by omega)⟩
theorem c_safely {N : Nat} {I : Tb} {how one other bed : Nat → Int32} (p : Int32) (hN : 2000 < N) (hi : ib I) (hh : ∀ i, i < I 0 1 → how i = nI (I 5 i)) (H1 : ∀ i, i < I 0 1 → one i = nI (I 3 i)) (H2 : ∀ i, i < I 0 1 → other i = nI (I 4 i)) (hb : ∀ i, i < I 0 4 → bed i = nI (I 14 i)) :
    (¬ dinb p (I 0 0) = true ∧ fX10_safely N p (nI (I 0 4)) (nI (I 0 0)) (nI (I 0 1)) how one other bed = some (-1, 1)) ∨ ∃ r, r < I 0 0 ∧ p = nI r ∧ fX10_safely N p (nI (I 0 4)) (nI (I 0 0)) (nI (I 0 1)) how one other bed = some (lyI I r, 0) := by
  have hR := hi.R
  unfold fX10_safely
  rw [c_isRoom, bd_some]
  dsimp only [un1]
  by_cases c : dinb p (I 0 0) = true
  · obtain ⟨r, hr, rfl⟩ := dinb_y (by omega) c
    refine Or.inr ⟨r, hr, rfl, ?_⟩
    rw [c, if_neg (by decide), leastLocks_ok hN hi hr hh H1 H2 hb, bd_some]
    rfl
  · refine Or.inl ⟨c, ?_⟩
    rw [Bool.eq_false_iff.mpr c, if_pos (by decide)]
    rfl
theorem c_safe {N : Nat} {I : Tb} {how one other bed : Nat → Int32} (p : Int32) (hN : 2000 < N) (hi : ib I) (hh : ∀ i, i < I 0 1 → how i = nI (I 5 i)) (H1 : ∀ i, i < I 0 1 → one i = nI (I 3 i)) (H2 : ∀ i, i < I 0 1 → other i = nI (I 4 i)) (hb : ∀ i, i < I 0 4 → bed i = nI (I 14 i)) :
    (¬ dinb p (I 0 0) = true ∧ fX10_safe N p (nI (I 0 4)) (nI (I 0 0)) (nI (I 0 1)) how one other bed = some (-1, 1)) ∨ ∃ r, r < I 0 0 ∧ p = nI r ∧ fX10_safe N p (nI (I 0 4)) (nI (I 0 0)) (nI (I 0 1)) how one other bed = some (sfI I r, 0) := by
  have hR := hi.R
  unfold fX10_safe
  rcases c_safely p hN hi hh H1 H2 hb with ⟨h1, h2⟩ | ⟨r, hr, rfl, h2⟩
  · refine Or.inl ⟨h1, ?_⟩
    rw [h2, bd_some]
    dsimp only [un2]
    rw [if_neg (by decide)]
  · refine Or.inr ⟨r, hr, rfl, ?_⟩
    rw [h2, bd_some]
    dsimp only [un2]
    by_cases c : isBd I r = true
    · rw [if_neg (fun q => (ly_neg hi r).mp q c)]
      unfold lyI sfI
      rw [if_pos c, if_pos c]
    · rw [if_pos ((ly_neg hi r).mpr c)]
      unfold lyI sfI
      rw [if_neg c, if_neg c, bitCount_ok (cls_1024 hi r), bd_some]
      rfl
theorem r_safely {N : Nat} {I : Tb} {how rA rB bed : Nat → Int32} (p : Int32) (fr : Nat → Int32) (hN : 2000 < N) (hi : ib I) (hh : ∀ i, i < I 0 1 → how i = nI (I 5 i)) (H1 : ∀ i, i < I 0 1 → rA i = nI (I 3 i)) (H2 : ∀ i, i < I 0 1 → rB i = nI (I 4 i)) (hb : ∀ i, i < I 0 4 → bed i = nI (I 14 i)) :
    (¬ dinb p (I 0 0) = true → fX12_safely N p (nI (I 0 0)) (nI (I 0 1)) (nI (I 0 4)) bed how rA fr rB = some (-1, 0, 1, -1, fr) ∧ fX12_safe N p (nI (I 0 0)) (nI (I 0 1)) (nI (I 0 4)) bed how rA fr rB = some (-1, 0, 1, -1, fr)) ∧ ∀ r, r < I 0 0 → p = nI r → ∃ fr', fX12_safely N p (nI (I 0 0)) (nI (I 0 1)) (nI (I 0 4)) bed how rA fr rB = some (lyI I r, 0, 0, -1, fr') ∧ fX12_safe N p (nI (I 0 0)) (nI (I 0 1)) (nI (I 0 4)) bed how rA fr rB = some (sfI I r, 0, 0, -1, fr') := by
  have hR := hi.R
  refine ⟨fun c => ?_, fun r hr e => ?_⟩
  · unfold fX12_safely fX12_safe
    rw [r_isRoom, bd_some, bd_some, Bool.eq_false_iff.mpr c]
    exact ⟨rfl, rfl⟩
  · subst e
    obtain ⟨fr', h⟩ := safest_ok (N := N) hN hi hr hh H1 H2 hb fr
    have hv : (if isBd I r = true then -2 else oI (bst (qcut I r) pop (2 ^ I 0 1))) = lyI I r := by
      unfold lyI
      by_cases c : isBd I r = true
      · rw [if_pos c, if_pos c]
      · rw [if_neg c, if_neg c, safe_same hi hr c]
        rfl
    rw [hv] at h
    refine ⟨fr', ?_, ?_⟩
    · unfold fX12_safely
      rw [r_isRoom, bd_some, dinb_nI (by omega) (by omega), decide_eq_true hr]
      dsimp only [un1]
      rw [if_neg (by decide), h, bd_some]
      rfl
    · unfold fX12_safe
      rw [r_isRoom, bd_some, dinb_nI (by omega) (by omega), decide_eq_true hr]
      dsimp only [un1]
      rw [if_neg (by decide), h, bd_some]
      dsimp only [un2]
      unfold lyI sfI
      by_cases c : isBd I r = true
      · rw [if_pos c, if_pos c, if_pos rfl]
        rfl
      · have := cls_1024 hi r
        rw [if_neg c, if_neg c, if_neg (fun q => (nI_neg2 (by omega)).mp q), bits_ok (by omega) this, bd_some]
        rfl
theorem r_walks {N : Nat} {I : Tb} {how rA rB bed : Nat → Int32} (p : Int32) (came walked : Nat → Int32) (hN : 2000 < N) (hi : ib I) (hh : ∀ i, i < I 0 1 → how i = nI (I 5 i)) (H1 : ∀ i, i < I 0 1 → rA i = nI (I 3 i)) (H2 : ∀ i, i < I 0 1 → rB i = nI (I 4 i)) (hb : ∀ i, i < I 0 4 → bed i = nI (I 14 i)) :
    (¬ dinb p (I 0 0) = true → fX12_walks N p (nI (I 0 0)) (nI (I 0 1)) (nI (I 0 4)) bed came rB walked rA how = some (-1, 0, 1, -1, came, walked)) ∧ ∀ r, r < I 0 0 → p = nI r → ∃ came' walked', fX12_walks N p (nI (I 0 0)) (nI (I 0 1)) (nI (I 0 4)) bed came rB walked rA how = some (sfI I r, 0, 0, -1, came', walked') := by
  have hR := hi.R
  refine ⟨fun c => ?_, fun r hr e => ?_⟩
  · unfold fX12_walks
    rw [r_isRoom, bd_some, Bool.eq_false_iff.mpr c]
    rfl
  · subst e
    unfold fX12_walks
    rw [r_isRoom, bd_some, dinb_nI (by omega) (by omega), decide_eq_true hr]
    dsimp only [un1]
    rw [if_neg (by decide), r_isBed_ok (by omega) hi (by omega) hb, bd_some]
    dsimp only [un1]
    by_cases c : isBd I r = true
    · refine ⟨came, walked, ?_⟩
      unfold sfI
      rw [if_pos c, if_pos c, if_neg (by decide)]
      rfl
    · rw [if_neg c, if_pos rfl]
      have hcf := (cls_end hi (cut_full hi hr c)).1
      have a0 : ∀ K, lp (BX12_walks_36 K) N (0, walked) = K (fa_fill (fun _ => 0) walked 10) := by
        intro K
        refine lp_for (fun j => (nI j, fa_fill (fun _ => 0) walked j)) 10 N (by omega) (fun j hj rec => ?_) (fun rec => ?_)
        · have h1 : ¬ (10 : Int32) ≤ nI j := fun e => absurd ((nI_leI (a := 10) (by omega) (by omega)).mp e) (by omega)
          have u := fa_fill_succ (fun _ => (0 : Int32)) walked j
          simp (disch := omega) only [BX12_walks_36, un2, h1, if_false, gd_nI, nI_clamp, nI_1, u]
        · have h1 : (10 : Int32) ≤ nI 10 := (nI_leI (a := 10) (by omega) (by omega)).mpr (Nat.le_refl _)
          simp (disch := omega) only [BX12_walks_36, un2, h1, if_true]
      rw [a0]
      dsimp only [un1]
      have hpl := pop_le (cls I r (2 ^ I 0 1))
      have key : ∀ (k n M : Nat) (came walked : Nat → Int32) (w : Nat → Nat), n + k = pop (cls I r (2 ^ I 0 1)) → k < M → FW2 I r w n → (∀ d, d < 10 → walked d = nI (w d)) → ∃ came' walked', lp (BX12_walks_57 N (nI r) (nI (I 0 1)) (nI (I 0 4)) rB rA how bed) M (nI n, came, walked) = some (sfI I r, 0, 0, -1, came', walked') := by
        intro k
        induction k with
        | zero =>
          intro n M came walked w h1 h2 h3 h4
          cases M with
          | zero => omega
          | succ M =>
            rcases walksMore_ok (N := N) (came := came) (walked := walked) (by omega) hi hr c h3 h4 H1 H2 hh hb with ⟨came', e1, e2⟩ | ⟨came', w2, walked2, e1, e2, e3⟩
            · refine ⟨came', walked, ?_⟩
              show BX12_walks_57 _ _ _ _ _ _ _ _ _ _ = _
              unfold BX12_walks_57
              dsimp only [un3]
              rw [e1, bd_some]
              dsimp only [un3]
              rw [if_pos rfl, e2]
              unfold sfI
              rw [if_neg c]
              rfl
            · have := flow_le hi hr e2 hcf
              omega
        | succ k ih =>
          intro n M came walked w h1 h2 h3 h4
          cases M with
          | zero => omega
          | succ M =>
            rcases walksMore_ok (N := N) (came := came) (walked := walked) (by omega) hi hr c h3 h4 H1 H2 hh hb with ⟨came', e1, e2⟩ | ⟨came', w2, walked2, e1, e2, e3⟩
            · omega
            · obtain ⟨c3, w3, f1⟩ := ih (n + 1) M came' walked2 w2 (by omega) (by omega) e2 e1
              refine ⟨c3, w3, ?_⟩
              show BX12_walks_57 _ _ _ _ _ _ _ _ _ _ = _
              unfold BX12_walks_57
              dsimp only [un3]
              rw [e3, bd_some]
              dsimp only [un3]
              rw [if_neg (by decide), nI_1]
              exact f1
      obtain ⟨c3, w3, f1⟩ := key (pop (cls I r (2 ^ I 0 1))) 0 N came (fa_fill (fun _ => 0) walked 10) (fun _ => 0) (by omega) (by omega) (FW2_0 I r) (fun d hd => fa_fill_in hd)
      exact ⟨c3, w3, f1⟩
