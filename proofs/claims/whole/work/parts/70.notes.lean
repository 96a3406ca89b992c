/-! notes, and the casts that fit
Q 0 0 how many; Q 1 book, Q 2 sort (0 heard, 1 unheard, 2 thing, 3 door), Q 3 one, Q 4 other -/
def qb (I Q : Tb) : Prop := Q 0 0 ≤ 20 ∧ ∀ i, i < Q 0 0 → Q 1 i ≤ 1 ∧ Q 2 i ≤ 3 ∧ (Q 2 i ≤ 1 → Q 3 i < I 0 5 ∧ 1 ≤ Q 4 i ∧ Q 4 i ≤ I 0 6) ∧ (Q 2 i = 2 → Q 3 i < I 0 2 ∧ Q 4 i < I 0 0) ∧ (Q 2 i = 3 → Q 3 i < I 0 1 ∧ Q 4 i ≤ 2)
def CQ (Q : Tb) (book sort one other : Nat → Int32) : Prop := ∀ i, i < Q 0 0 → book i = nI (Q 1 i) ∧ sort i = nI (Q 2 i) ∧ one i = nI (Q 3 i) ∧ other i = nI (Q 4 i)
def RQ (Q : Tb) (book noteSort whose what noteIs : Nat → Int32) : Prop := ∀ i, i < Q 0 0 → book i = nI (Q 1 i) ∧ noteSort i = nI (if Q 2 i ≤ 1 then 0 else Q 2 i - 1) ∧ whose i = nI (Q 3 i) ∧ what i = nI (Q 4 i) ∧ (Q 2 i ≤ 1 → noteIs i = nI (1 - Q 2 i))
/-- the note i is so in the morning n -/
def so (Q n : Tb) (i : Nat) : Bool := if Q 2 i = 0 then (n 10 (Q 3 i)).testBit (Q 4 i - 1) else if Q 2 i = 1 then !(n 10 (Q 3 i)).testBit (Q 4 i - 1) else if Q 2 i = 2 then decide (n 8 (Q 3 i) = Q 4 i) else decide (n 1 (Q 3 i) = Q 4 i)
/-- the note i speaks in the books b against the morning n -/
def nay (Q n : Tb) (b i : Nat) : Bool := b.testBit (Q 1 i) && !so Q n i
def bI (p : Bool) : Int32 := if p = true then 1 else 0
theorem bI_t : bI true = 1 := rfl
theorem bI_f : bI false = 0 := rfl
theorem bI_01 (p : Bool) : bI p = 0 ∨ bI p = 1 := by cases p <;> decide
theorem bI_0 {p : Bool} : bI p = 0 ↔ p = false := by cases p <;> decide
theorem bI_eq {p q : Bool} : bI p = bI q ↔ p = q := by cases p <;> cases q <;> decide
theorem if_bI (p : Prop) [Decidable p] : (if p then some (1 : Int32) else some 0) = some (bI (decide p)) := by
  by_cases c : p
  · rw [if_pos c, decide_eq_true c]; rfl
  · rw [if_neg c, decide_eq_false c]; rfl
theorem zg_b (p : Bool) (k : Option Int32) : zg (bI p) k = k := zg_in k (bI_01 p)
theorem wasHeard_ok {N c l mi h : Nat} {rows : Nat → Int64} (hc : c < 64) (hl : l < 3) (hm1 : 1 ≤ mi) (hm : mi ≤ 40) (hr : rows (4 * c + l) = lN (2 * h)) (hh : h < 2 ^ 40) : fX3_wasHeard N (nI c) (nI l) (nI mi) rows = some (bI (h.testBit (mi - 1))) := by
  have e4 : (nI c * 4 : Int32) = nI (4 * c) := by rw [show (4 : Int32) = nI 4 from rfl, pk_mul, Nat.mul_comm]
  have eb : fX10_isBitSet N (lN (2 * h)) (nI mi) = some (bI (h.testBit (mi - 1))) := by
    unfold fX10_isBitSet
    have e : 2 * h / 2 ^ mi % 2 = h / 2 ^ (mi - 1) % 2 := by
      obtain ⟨q, rfl⟩ : ∃ q, mi = q + 1 := ⟨mi - 1, by omega⟩
      rw [Nat.pow_succ, Nat.mul_comm (2 ^ q), Nat.mul_div_mul_left _ _ (by decide)]
      rfl
    rw [wb_bit (by omega) (by omega), e, tb_div]
    by_cases c : h.testBit (mi - 1) = true
    · rw [if_pos c, c, if_neg (fun e => absurd ((lgc0' _ _).mp e) (by decide))]; rfl
    · rw [if_neg c, Bool.eq_false_iff.mpr c, if_pos ((lgc0' (lN 0) 0).mpr rfl)]; rfl
  unfold fX3_wasHeard
  rw [e4, nI_add, gd_nI _ (by omega) (by omega), nI_clamp (by omega), hr, eb, bd_some]
  dsimp only [un1]
  rw [zg_b]
theorem mfd_t {I n : Tb} (hi : ib I) (hb : nb I n) {t : Nat} (ht : t < I 0 2) : mfd I n / 2 ^ (4 * t + 1) % 8 = n 8 t := by
  have hT := hi.T
  have hR := hi.R
  have h1 := dgs_dig (w := 4) (I 0 2) (tdg_lt hi hb) t ht
  have h2 : mfd I n / 2 ^ (4 * t) % 2 ^ 4 = tdg n t := by
    rw [← h1]
    unfold mfd
    rw [dig_skip (m := 36) (by omega), dig_skip (m := 16) (by omega)]
  rw [Nat.pow_succ, ← Nat.div_div_eq_div_mul]
  have := hb.t ht
  unfold tdg at h2
  omega
theorem mfd_d {I n : Tb} (hi : ib I) (hb : nb I n) {d : Nat} (hd : d < I 0 1) : mfd I n / 2 ^ (16 + 2 * d) % 4 = n 1 d := by
  have hD := hi.D
  have h1 := dgs_dig (w := 2) (I 0 1) (ddg_lt hb) d hd
  have hA := A_lt hi hb
  rw [← h1]
  unfold mfd
  rw [show (4 : Nat) = 2 ^ 2 from rfl, dig_skip (m := 36) (by omega), Nat.pow_add, ← Nat.div_div_eq_div_mul, Nat.add_mul_div_left _ _ (by decide), Nat.div_eq_of_lt hA, Nat.zero_add]
theorem roomOfThing_ok {N c t : Nat} {I n : Tb} {rows : Nat → Int64} (hi : ib I) (hb : nb I n) (hc : c < 64) (ht : t < I 0 2) (hr : rows (4 * c + 3) = lN (mfd I n)) : fX3_roomOfThing N (nI c) (nI t) rows = some (nI (n 8 t)) := by
  have hT := hi.T
  have hm := mfd_lt hi hb
  have e4 : (nI c * 4 + 3 : Int32) = nI (4 * c + 3) := by
    rw [show (4 : Int32) = nI 4 from rfl, pk_mul, Nat.mul_comm]
    exact nI_add (4 * c) 3
  have e2 : (4 * nI t + 1 : Int32) = nI (4 * t + 1) := by
    rw [show (4 : Int32) = nI 4 from rfl, pk_mul]
    exact nI_1 (4 * t)
  unfold fX3_roomOfThing
  rw [e4, gd_nI _ (by omega) (by omega), nI_clamp (by omega), hr, e2, wb_shr (by omega) (by omega), lN_i, show (7 : Int32) = nI 7 from rfl, fa_and, show (7 : Nat) = 2 ^ 3 - 1 from rfl, Nat.and_two_pow_sub_one_eq_mod, show 2 ^ 3 = 8 from rfl, mfd_t hi hb ht]
theorem howIsDoor_ok {N c d : Nat} {I n : Tb} {rows : Nat → Int64} (hi : ib I) (hb : nb I n) (hc : c < 64) (hd : d < I 0 1) (hr : rows (4 * c + 3) = lN (mfd I n)) : fX3_howIsDoor N (nI c) (nI d) rows = some (nI (n 1 d)) := by
  have hD := hi.D
  have hm := mfd_lt hi hb
  have e4 : (nI c * 4 + 3 : Int32) = nI (4 * c + 3) := by
    rw [show (4 : Int32) = nI 4 from rfl, pk_mul, Nat.mul_comm]
    exact nI_add (4 * c) 3
  have e2 : (16 + 2 * nI d : Int32) = nI (16 + 2 * d) := by
    rw [show (2 : Int32) = nI 2 from rfl, pk_mul]
    exact nI_add 16 (2 * d)
  unfold fX3_howIsDoor
  rw [e4, gd_nI _ (by omega) (by omega), nI_clamp (by omega), hr, e2, wb_shr (by omega) (by omega), lN_i, show (3 : Int32) = nI 3 from rfl, fa_and, show (3 : Nat) = 2 ^ 2 - 1 from rfl, Nat.and_two_pow_sub_one_eq_mod, show 2 ^ 2 = 4 from rfl, mfd_d hi hb hd]
theorem isSo_ok {N c i : Nat} {I Q : Tb} {book sort one other : Nat → Int32} {rows : Nat → Int64} (hi : ib I) (hc : c < cnm I) (hq : qb I Q) (hQ : CQ Q book sort one other) (hR : ROW I 0 (cnm I) rows) (hk : i < Q 0 0) : fX5_isSo N (nI i) (nI c) sort one rows other = some (bI (so Q (mrn I 0 c) i)) := by
  have hcl := cnm_le hi
  have hL := hi.L
  have hM := hi.M
  have hRm := hi.R
  have hb := nb_mrn hi 0 c
  obtain ⟨q20, qq⟩ := hq
  obtain ⟨_, qs, q1, q2, q3⟩ := qq i hk
  obtain ⟨_, e2, e3, e4⟩ := hQ i hk
  unfold fX5_isSo
  simp (disch := omega) only [gd_nI, nI_clamp, e2, e3, e4]
  unfold so
  rcases Nat.lt_or_ge (Q 2 i) 2 with h2 | h2
  · obtain ⟨l1, l2, l3⟩ := q1 (by omega)
    have hw := wasHeard_ok (N := N) (c := c) (l := Q 3 i) (mi := Q 4 i) (h := mrn I 0 c 10 (Q 3 i)) (rows := rows) (by omega) (by omega) l2 (by omega) (by
      rw [hR c (Q 3 i) hc (by omega)]
      unfold mrow
      rw [if_neg (by omega), if_pos l1]) (hb.l l1)
    rcases Nat.lt_or_ge (Q 2 i) 1 with h1 | h1
    · have e : Q 2 i = 0 := by omega
      rw [if_pos (by rw [e]; rfl), hw, bd_some, if_pos e]
      dsimp only [un1]
      rw [zg_b]
    · have e : Q 2 i = 1 := by omega
      rw [if_neg (by rw [e]; decide), if_pos (by rw [e]; rfl), hw, bd_some, if_neg (by omega), if_pos e]
      dsimp only [un1]
      cases (mrn I 0 c 10 (Q 3 i)).testBit (Q 4 i - 1) <;> rfl
  · have n0 : ¬ nI (Q 2 i) = 0 := fun z => by
      have := (nI_eq (by omega) (by decide)).mp (z.trans (il 0))
      omega
    have n1 : ¬ nI (Q 2 i) = 1 := fun z => by
      have := (nI_eq (by omega) (by decide)).mp (z.trans (il 1))
      omega
    rw [if_neg n0, if_neg n1, if_neg (show ¬ Q 2 i = 0 by omega), if_neg (show ¬ Q 2 i = 1 by omega)]
    rcases Nat.lt_or_ge (Q 2 i) 3 with h3 | h3
    · have e : Q 2 i = 2 := by omega
      obtain ⟨l1, l2⟩ := q2 e
      have ht := hb.t l1
      rw [if_pos (by rw [e]; rfl), roomOfThing_ok hi hb (by omega) l1 (hR c 3 hc (by omega)), bd_some, if_pos e]
      dsimp only [un1]
      rw [if_bI]
      congr 2
      exact decide_eq_decide.mpr (nI_eq (by omega) (by omega))
    · have e : Q 2 i = 3 := by omega
      obtain ⟨l1, l2⟩ := q3 e
      have ht := hb.d l1
      rw [if_neg (by rw [e]; decide), howIsDoor_ok hi hb (by omega) l1 (hR c 3 hc (by omega)), bd_some, if_neg (by omega)]
      dsimp only [un1]
      rw [if_bI]
      congr 2
      exact decide_eq_decide.mpr (nI_eq (by omega) (by omega))
/-- a cast fits: no note of the books speaks against it -/
def okN (q : Nat → Bool) : Nat → Bool
  | 0 => true
  | k + 1 => okN q k && !q k
theorem okN_first (q : Nat → Bool) : ∀ k, okN q k = true ↔ ¬ fa_first q k < k
  | 0 => ⟨fun _ => by omega, fun _ => rfl⟩
  | k + 1 => by
    have ih := okN_first q k
    show (okN q k && !q k) = true ↔ _
    rw [Bool.and_eq_true, ih]
    constructor
    · intro ⟨h1, h2⟩ h3
      have hy := fa_first_yes q (k + 1) h3
      rcases Nat.lt_or_ge (fa_first q (k + 1)) k with c | c
      · have hn := fa_first_no q k (fa_first q (k + 1)) (by have := fa_first_le q k; omega)
        rw [hy] at hn
        cases hn
      · rw [show fa_first q (k + 1) = k by omega] at hy
        rw [hy] at h2
        cases h2
    · intro h
      have key : ∀ j, j < k + 1 → q j = false := fun j hj => fa_first_no q (k + 1) j (by omega)
      refine ⟨fun h3 => ?_, by rw [key k (by omega)]; rfl⟩
      have hy := fa_first_yes q k h3
      rw [key _ (by omega)] at hy
      cases hy
def fitB (I Q : Tb) (b c : Nat) : Bool := okN (nay Q (mrn I 0 c) b) (Q 0 0)
theorem areSo_ok {N b c : Nat} {I Q : Tb} {book sort one other : Nat → Int32} {rows : Nat → Int64} (hN : 64 < N) (hb : b < 4) (hi : ib I) (hc : c < cnm I) (hq : qb I Q) (hQ : CQ Q book sort one other) (hR : ROW I 0 (cnm I) rows) : fX5_areSo N (nI b) (nI c) (nI (Q 0 0)) book sort one rows other = some (bI (fitB I Q b c)) := by
  unfold fX5_areSo
  have h := lp_find (B := BX5_areSo_3 (nI (Q 0 0)) N (nI b) book (nI c) sort one rows other) (p := nay Q (mrn I 0 c) b) (D := Q 0 0) (N := N) (e := some 1) (f := fun _ => some 0) (by have := hq.1; omega) (fun i hi2 rec => ?_) (fun rec => ?_)
  · rw [show (0 : Int32) = nI 0 from rfl, h]
    unfold fitB
    by_cases q : fa_first (nay Q (mrn I 0 c) b) (Q 0 0) < Q 0 0
    · rw [if_pos q, Bool.eq_false_iff.mpr (fun e => (okN_first _ _).mp e q)]
      rfl
    · rw [if_neg q, (okN_first _ _).mpr q]
      rfl
  · have h4 : ¬ Q 0 0 ≤ i := by omega
    have h20 := hq.1
    have hbk := (hq.2 i hi2).1
    have hso := isSo_ok (N := N) hi hc hq hQ hR hi2
    simp (disch := omega) only [BX5_areSo_3, un1, nI_leI, h4, if_false, gd_nI, nI_clamp, (hQ i hi2).1, bitSet_ok, bd_some, hso, nI_1, jn, un0]
    unfold nay
    cases hb1 : b.testBit (Q 1 i)
    · simp
    · cases so Q (mrn I 0 c) i
      · simp [bI]
      · simp [bI]
  · have h20 := hq.1
    simp (disch := omega) only [BX5_areSo_3, un1, nI_leI, Nat.le_refl, if_true]
