/-! the readers' smallest steps, side by side -/
theorem TK.rs {n p : Nat} {c : CTok} {r : RTok} (h : TK n p c r) : ¬ r.2.1 = 5 := by
  obtain ⟨-, -, -, h⟩ := h
  rcases h with h | h | ⟨a, -, -, -, -, h | h | h | h⟩ <;> rw [h.2.1] <;> decide
theorem TK.w {n p : Nat} {c : CTok} {r : RTok} (h : TK n p c r) : (c.2.2.1 = 1 ∧ r.2.1 = 2 ∧ c.2.2.2.1 = r.2.2.2.2.2 ∧ c.2.2.2.2.1 = (if kpt c.2.2.2.1 = true then 0 else 1)) ∨ (¬ c.2.2.1 = 1 ∧ ¬ r.2.1 = 2 ∧ c.2.2.2.2.1 = 0) := by
  obtain ⟨-, -, -, h⟩ := h
  rcases h with h | h | ⟨a, -, -, -, -, h | h | h | h⟩
  · exact Or.inr ⟨by rw [h.1]; decide, by rw [h.2.1]; decide, h.2.2⟩
  · exact Or.inr ⟨by rw [h.1]; decide, by rw [h.2.1]; decide, h.2.2⟩
  · exact Or.inl h
  · exact Or.inr ⟨by rw [h.1]; decide, by rw [h.2.1]; decide, h.2.2.1⟩
  · exact Or.inr ⟨by rw [h.1]; decide, by rw [h.2.1]; decide, h.2.2.1⟩
  · exact Or.inr ⟨by rw [h.1]; decide, by rw [h.2.1]; decide, h.2.2.1⟩
theorem TK.adv {N n p : Nat} {b : Nat → Int32} {c : CTok} {r : RTok} (hX : TX N n b) (h : TK n p c r) (h0 : ¬ c.2.2.1 = 0) (h5 : ¬ c.2.2.1 = 5) : ∃ p' c' r', p < p' ∧ TK n p' c' r' ∧ fX7_advance N (nI n) c.1 b = some c' ∧ fX12_goesOn N (nI n) r.1 r.2.1 r.2.2.1 r.2.2.2.1 r.2.2.2.2.1 r.2.2.2.2.2 b = some r' := by
  have hs := h.rs
  obtain ⟨-, -, -, h⟩ := h
  rcases h with h | h | ⟨a, a1, a2, a3, a4, -⟩
  · exact absurd h.1 h0
  · exact absurd h.1 h5
  · obtain ⟨p', c', q1, q2, q3⟩ := tok_next hX a2
    obtain ⟨r', q4, q5⟩ := q3 r.2.1 r.2.2.1 r.2.2.2.1 r.2.2.2.2.1 r.2.2.2.2.2 hs
    exact ⟨p', c', r', by omega, q5, by rw [a3]; exact q2, by rw [a4]; exact q4⟩
theorem wordOf_ok {M : Nat} : ∀ k, k < 24 → fX12_wordOf (M + 20) k = some (wdc k) := by
  intro k hk
  match k, hk with
  | 0, _ => rfl
  | 1, _ => rfl
  | 2, _ => rfl
  | 3, _ => rfl
  | 4, _ => rfl
  | 5, _ => rfl
  | 6, _ => rfl
  | 7, _ => rfl
  | 8, _ => rfl
  | 9, _ => rfl
  | 10, _ => rfl
  | 11, _ => rfl
  | 12, _ => rfl
  | 13, _ => rfl
  | 14, _ => rfl
  | 15, _ => rfl
  | 16, _ => rfl
  | 17, _ => rfl
  | 18, _ => rfl
  | 19, _ => rfl
  | 20, _ => rfl
  | 21, _ => rfl
  | 22, _ => rfl
  | 23, _ => rfl
  | k + 24, h => omega
def isW (c : CTok) (k : Nat) : Bool := decide (c.2.2.1 = 1 ∧ c.2.2.2.1 = wdc k)
theorem lgc0' (x y : Int64) : (lg_cmp x y = 0) ↔ x = y := lgc0 x y
theorem isAt_ok {N : Nat} (c : CTok) (k : Nat) : fX7_isAt N k c.2.2.1 c.2.2.2.1 = some (if isW c k = true then 1 else 0) := by
  unfold fX7_isAt isW
  dsimp only [jn, un0]
  by_cases c1 : c.2.2.1 = 1
  · rw [if_pos c1]
    by_cases c2 : c.2.2.2.1 = wdc k
    · rw [if_pos ((lgc0' _ _).mpr c2), if_pos (decide_eq_true ⟨c1, c2⟩)]
    · rw [if_neg (fun q => c2 ((lgc0' _ _).mp q)), if_neg (fun q => c2 (of_decide_eq_true q).2)]
  · rw [if_neg c1, if_neg (fun q => c1 (of_decide_eq_true q).1)]
theorem isWord_ok {N n p k : Nat} {b : Nat → Int32} {c : CTok} {r : RTok} (hX : TX N n b) (h : TK n p c r) (hk : k < 24) : fX12_isWord N k r.2.1 r.2.2.2.2.2 = some (if isW c k = true then 1 else 0) := by
  have hw : fX12_wordOf N k = some (wdc k) := by
    have h1 := hX.1
    have := wordOf_ok (M := N - 20) k hk
    rwa [show N - 20 + 20 = N by omega] at this
  unfold fX12_isWord isW
  dsimp only [jn, un0]
  rcases h.w with ⟨w1, w2, w3, -⟩ | ⟨w1, w2, -⟩
  · rw [if_pos w2, hw, bd_some]
    dsimp only [un1]
    by_cases c2 : c.2.2.2.1 = wdc k
    · rw [if_pos ((lgc0' _ _).mpr (w3.symm.trans c2)), if_pos (decide_eq_true ⟨w1, c2⟩)]
    · rw [if_neg (fun q => c2 (w3.trans ((lgc0' _ _).mp q))), if_neg (fun q => c2 (of_decide_eq_true q).2)]
  · rw [if_neg w2, if_neg (fun q => w1 (of_decide_eq_true q).1)]
theorem isW_kind {c : CTok} {k : Nat} (h : isW c k = true) : ¬ c.2.2.1 = 0 ∧ ¬ c.2.2.1 = 5 := by
  have := (of_decide_eq_true h).1
  rw [this]; decide
/-! once the reference is over, nothing happens any more -/
theorem ov_goesOn {N : Nat} {sz a pl sg nu : Int32} {w : Int64} {t : Nat → Int32} : fX12_goesOn N sz a 5 pl sg nu w t = some (a, 5, pl, sg, nu, w) := if_pos rfl
theorem ov_wrong {N : Nat} {k pl f wa : Int32} : fX12_wrong N k 5 pl f wa = some (5, f, wa) := if_pos rfl
theorem wrong_ok {N : Nat} {k s pl f wa : Int32} (h : ¬ s = 5) : fX12_wrong N k s pl f wa = some (5, k, pl) := if_neg h
theorem i52 : ((5 : Int32) = 2) ↔ False := by decide
theorem i53 : ((5 : Int32) = 3) ↔ False := by decide
theorem i54 : ((5 : Int32) = 4) ↔ False := by decide
theorem i51 : ((5 : Int32) = 1) ↔ False := by decide
theorem ov_isWord {N k : Nat} {w : Int64} : fX12_isWord N k 5 w = some 0 := by
  unfold fX12_isWord
  simp only [jn, un0, i52, if_false]
theorem zg0 {ρ : Type} (k : Option ρ) : zg 0 k = k := zg_in k (Or.inl rfl)
theorem zg1 {ρ : Type} (k : Option ρ) : zg 1 k = k := zg_in k (Or.inr rfl)
theorem ov_eatsWord {N k : Nat} {sz a pl sg nu : Int32} {w : Int64} {t : Nat → Int32} : fX12_eatsWord N k sz a 5 pl sg nu w t = some (0, a, 5, pl, sg, nu, w) := by
  unfold fX12_eatsWord
  simp only [ov_isWord, bd_some, un1, if_true, zg0]
theorem ov_eatsSign {N : Nat} {k sz a pl sg nu : Int32} {w : Int64} {t : Nat → Int32} : fX12_eatsSign N k sz a 5 pl sg nu w t = some (0, a, 5, pl, sg, nu, w) := by
  unfold fX12_eatsSign
  simp only [jn, un0, un1, i54, if_false, if_true, zg0]
theorem ov_needs {N k : Nat} {sz a pl sg nu f wa : Int32} {w : Int64} {t : Nat → Int32} : fX12_needs N k sz a 5 pl sg nu f wa w t = some (a, 5, pl, sg, nu, f, wa, w) := by
  unfold fX12_needs
  simp only [ov_isWord, bd_some, un1, un3, un6, if_true, ov_wrong, ov_goesOn]
theorem ov_needsSign {N : Nat} {k sz a pl sg nu f wa : Int32} {w : Int64} {t : Nat → Int32} : fX12_needsSign N k sz a 5 pl sg nu f wa w t = some (a, 5, pl, sg, nu, f, wa, w) := by
  unfold fX12_needsSign
  simp only [jn, un0, i54, if_false, bd_some, un3, un6, ov_wrong, ov_goesOn]
theorem ov_whole {N : Nat} {lo hi pl nu f wa : Int32} : fX12_whole N lo hi 5 pl nu f wa = some (0, 5, f, wa) := by
  unfold fX12_whole
  simp only [jn, un3, i53, if_false, if_true, bd_some, ov_wrong]
theorem ov_readWhole {N : Nat} {lo hi sz a pl sg nu f wa : Int32} {w : Int64} {t : Nat → Int32} : fX12_readWhole N lo hi sz a 5 pl sg nu f wa w t = some (0, a, 5, pl, sg, nu, f, wa, w) := by
  unfold fX12_readWhole
  simp only [ov_whole, bd_some, un4, un6, ov_goesOn]
theorem ov_readPart {N k : Nat} {lo hi sz a pl sg nu f wa : Int32} {w : Int64} {t : Nat → Int32} : fX12_readPart N k lo hi sz a 5 pl sg nu f wa w t = some (0, a, 5, pl, sg, nu, f, wa, w) := by
  unfold fX12_readPart
  simp only [ov_needs, ov_readWhole, bd_some, un8, un9]
theorem ov_isName {N : Nat} {w : Int64} : fX12_isName N 5 w = some 0 := by
  unfold fX12_isName
  simp only [i52, if_false]
theorem ov_begins {N : Nat} {x y sz a pl sg nu f wa : Int32} {w : Int64} {t : Nat → Int32} : fX12_begins N x y sz a 5 pl sg nu f wa w t = some (a, 5, pl, sg, nu, f, wa, w) := by
  unfold fX12_begins
  simp only [bd_some, un3, un6, ov_wrong, ov_goesOn]
  split <;> rfl
/-! names -/
def fdn (nm : Nat → Int64) (w : Int64) (k : Nat) : Nat := fa_first (fun i => decide (nm i = w)) k
theorem find_ok {N k : Nat} {nm : Nat → Int64} {w : Int64} (hN : 64 < N) (hk : k ≤ 19) : fX11_find N w (nI k) nm = some (if fdn nm w k < k then nI (fdn nm w k) else -1) := by
  unfold fX11_find fdn
  have key := lp_find (B := BX11_find_2 (nI k) nm w) (p := fun i => decide (nm i = w)) (D := k) (N := N) (e := some (-1)) (f := fun i => some (nI i)) (by omega) (fun i hi rec => ?_) (fun rec => ?_)
  · refine Eq.trans key ?_
    split <;> rfl
  · have h3 : ¬ k ≤ i := by omega
    simp (disch := omega) only [BX11_find_2, un1, nI_leI, h3, if_false, gd_nI, nI_clamp, lgc0', nI_1]
    by_cases c : nm i = w
    · rw [if_pos c, if_pos (decide_eq_true c)]
    · rw [if_neg c, if_neg (fun q => c (of_decide_eq_true q))]
  · simp (disch := omega) only [BX11_find_2, un1, nI_leI, Nat.le_refl, if_true]
theorem place_ok {N k : Nat} {nm : Nat → Int64} {w : Int64} (hN : 64 < N) (hk : k ≤ 19) : fX6_placeOfName N (nI k) nm w = some (if fdn nm w k < k then nI (fdn nm w k) else -1) := by
  unfold fX6_placeOfName fdn
  have key := lp_find (B := BX6_placeOfName_2 (nI k) nm w) (p := fun i => decide (nm i = w)) (D := k) (N := N) (e := some (-1)) (f := fun i => some (nI i)) (by omega) (fun i hi rec => ?_) (fun rec => ?_)
  · refine Eq.trans key ?_
    split <;> rfl
  · have h3 : ¬ k ≤ i := by omega
    simp (disch := omega) only [BX6_placeOfName_2, un1, nI_leI, h3, if_false, gd_nI, nI_clamp, lgc0', nI_1]
    by_cases c : nm i = w
    · rw [if_pos c, if_pos (decide_eq_true c)]
    · rw [if_neg c, if_neg (fun q => c (of_decide_eq_true q))]
  · simp (disch := omega) only [BX6_placeOfName_2, un1, nI_leI, Nat.le_refl, if_true]
theorem first_cong {p q : Nat → Bool} : ∀ {n : Nat}, (∀ k, k < n → p k = q k) → fa_first p n = fa_first q n
  | 0, _ => rfl
  | n + 1, h => by
    show (if fa_first p n < n then fa_first p n else if p n = true then n else n + 1) = (if fa_first q n < n then fa_first q n else if q n = true then n else n + 1)
    rw [first_cong (fun k hk => h k (by omega)), h n (by omega)]
/-- the names that are told, on both sides; cb: how many of each sort -/
def NM (cb : Nat → Nat) (k : Nat) (named : Int32) (names : Nat → Int64) (sorts numbers : Nat → Int32) (rnames : Int32) (rname : Nat → Int64) (rsort rnum : Nat → Int32) : Prop :=
  named = nI k ∧ rnames = nI k ∧ ∀ i, i < k → names i = rname i ∧ ∃ s m, s ≤ 3 ∧ m < cb s ∧ sorts i = nI s ∧ rsort i = nI s ∧ numbers i = nI m ∧ rnum i = nI m
theorem nm_fnd {cb : Nat → Nat} {k : Nat} {named : Int32} {names : Nat → Int64} {sorts numbers : Nat → Int32} {rnames : Int32} {rname : Nat → Int64} {rsort rnum : Nat → Int32} (h : NM cb k named names sorts numbers rnames rname rsort rnum) (w : Int64) : fdn names w k = fdn rname w k :=
  first_cong fun i hi => by rw [(h.2.2 i hi).1]
theorem NM.ovFind {N : Nat} {cb : Nat → Nat} {k : Nat} {named : Int32} {names : Nat → Int64} {sorts numbers : Nat → Int32} {rnames : Int32} {rname : Nat → Int64} {rsort rnum : Nat → Int32} (hN : 64 < N) (hk : k ≤ 19) (h : NM cb k named names sorts numbers rnames rname rsort rnum) (w : Int64) : fX11_find N w rnames rname = some (-1) ∨ ∃ i, i < k ∧ fX11_find N w rnames rname = some (nI i) := by
  rw [h.2.1, find_ok hN hk]
  by_cases c : fdn rname w k < k
  · exact Or.inr ⟨_, c, by rw [if_pos c]⟩
  · exact Or.inl (by rw [if_neg c])
theorem ov_adds {N : Nat} {x y rnames : Int32} {w : Int64} {rname : Nat → Int64} {rsort rnum : Nat → Int32} : fX12_adds N x y 5 w rnames rname rsort rnum = some (rnames, rname, rsort, rnum) := if_pos rfl
theorem ov_readFresh {N : Nat} {cb : Nat → Nat} {k : Nat} {named : Int32} {names : Nat → Int64} {sorts numbers : Nat → Int32} {rnames : Int32} {rname : Nat → Int64} {rsort rnum : Nat → Int32} {x y sz a pl sg nu f wa : Int32} {w : Int64} {t : Nat → Int32} (hN : 64 < N) (hk : k ≤ 19) (h : NM cb k named names sorts numbers rnames rname rsort rnum) : fX12_readFresh N x y sz a 5 pl sg nu f wa w rnames rname rsort rnum t = some (a, 5, pl, sg, nu, f, wa, w, rnames, rname, rsort, rnum) := by
  unfold fX12_readFresh
  simp only [ov_isName, bd_some, un1, jn, if_true, ov_wrong, un3]
  rcases h.ovFind hN hk w with e | ⟨i, hi, e⟩
  · rw [e, bd_some]
    simp only [un1, if_true, ov_adds, bd_some, un4, ov_goesOn, un6]
  · rw [e, bd_some]
    simp (disch := omega) only [un1, nI_neg1, if_false, ov_wrong, bd_some, un3, ov_adds, un4, ov_goesOn, un6]
theorem ov_known {N : Nat} {cb : Nat → Nat} {k : Nat} {named : Int32} {names : Nat → Int64} {sorts numbers : Nat → Int32} {rnames : Int32} {rname : Nat → Int64} {rsort rnum : Nat → Int32} {x pl f wa : Int32} {w : Int64} (hN : 64 < N) (hk : k ≤ 19) (h : NM cb k named names sorts numbers rnames rname rsort rnum) : fX12_known N x 5 pl f wa w rnames rname rnum rsort = some (0, 5, f, wa) := by
  unfold fX12_known
  simp only [ov_isName, bd_some, un1, jn, if_true, ov_wrong, un3, un0]
  rcases h.ovFind hN hk w with e | ⟨i, hi, e⟩
  · rw [e, bd_some]
    simp only [un1, if_true]
  · rw [e, bd_some]
    simp (disch := omega) only [un1, nI_neg1, if_false, gd_nI, ite_self]
theorem ov_readKnown {N : Nat} {cb : Nat → Nat} {k : Nat} {named : Int32} {names : Nat → Int64} {sorts numbers : Nat → Int32} {rnames : Int32} {rname : Nat → Int64} {rsort rnum : Nat → Int32} {x sz a pl sg nu f wa : Int32} {w : Int64} {t : Nat → Int32} (hN : 64 < N) (hk : k ≤ 19) (h : NM cb k named names sorts numbers rnames rname rsort rnum) : fX12_readKnown N x sz a 5 pl sg nu f wa w rnames rname rnum rsort t = some (0, a, 5, pl, sg, nu, f, wa, w) := by
  unfold fX12_readKnown
  simp only [ov_known hN hk h, bd_some, un4, ov_goesOn, un6]
