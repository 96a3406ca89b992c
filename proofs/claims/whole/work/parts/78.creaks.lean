/-! what is heard is heard by the minute that is -/
def HB (I n : Tb) : Prop := ∀ l, l < I 0 5 → n 10 l < 2 ^ n 0 0
def HBp (I n : Tb) : Prop := 0 < n 0 0 ∧ HB I n
theorem HBp.s {I n : Tb} (h : HBp I n) {f i v : Nat} (h0 : f ≠ 0) (h1 : f ≠ 10) : HBp I (set2 n f i v) := by
  refine ⟨by rw [set2_f (fun q => h0 q.symm)]; exact h.1, fun l hl => ?_⟩
  rw [set2_f (fun q => h1 q.symm), set2_f (fun q => h0 q.symm)]
  exact h.2 l hl
theorem HBp.eq {I n m : Tb} (h : HBp I n) (h0 : m 0 0 = n 0 0) (h1 : ∀ l, m 10 l = n 10 l) : HBp I m := ⟨by rw [h0]; exact h.1, fun l hl => by rw [h0, h1]; exact h.2 l hl⟩
theorem HBp_crk {I n : Tb} (h : HBp I n) (r : Nat) : ∀ j, j ≤ I 0 5 → HBp I (crk I n r j)
  | 0, _ => h
  | j + 1, hj => by
    have ih := HBp_crk h r j (by omega)
    unfold crk
    split
    · have e0 : crk I n r j 0 0 = n 0 0 := crk_f (by omega) j
      refine ⟨by rw [set2_f (by omega)]; exact ih.1, fun l hl => ?_⟩
      rw [set2_f (f := 10) (g := 0) (by omega), e0]
      by_cases c : l = j
      · rw [c, set2_s]
        have h1 := h.1
        have h2 := h.2 j (by omega)
        exact Nat.or_lt_two_pow h2 (Nat.pow_lt_pow_right (by decide) (by omega))
      · rw [set2_i c]
        have := ih.2 l hl
        rw [e0] at this
        exact this
    · exact ih
theorem HBp_mta {I n : Tb} (h : HBp I n) (s r : Nat) : HBp I (mta I n s r) := by
  unfold mta
  split
  · refine h.eq ?_ (fun l => ?_)
    · unfold mtK
      rw [if_neg (fun q => absurd q.1 (by decide))]
    · unfold mtK
      rw [if_neg (fun q => absurd q.1 (by decide))]
  · exact h
theorem HBp_go {I n : Tb} (h : HBp I n) (s a : Nat) : HBp I (go I n s a) := by
  unfold go
  split
  · generalize nxt I n s a = r
    have h1 : HBp I (gon I n s r (dbt I (n 5 s) r)) := ((h.s (by decide) (by decide)).s (by decide) (by decide)).s (by decide) (by decide)
    have h2 : HBp I (goh n (gon I n s r (dbt I (n 5 s) r)) s r) := by
      unfold goh
      split
      · exact h1
      · exact h1.s (by decide) (by decide)
    have h3 := HBp_crk h2 r (I 0 5) (Nat.le_refl _)
    unfold goTo
    split
    · exact HBp_mta h3 _ _
    · exact h3.s (by decide) (by decide)
  · exact h
theorem HBp_act {I n : Tb} (h : HBp I n) (s : Nat) : HBp I (act I n s) := by
  unfold act
  split
  · generalize 4 * n 3 s + n 4 s = k at *
    have th : ∀ m : Tb, HBp I m → HBp I (thn I m s k) := fun m hm => hm.s (by decide) (by decide)
    unfold dos
    split
    · split
      · exact th _ h
      · exact HBp_go h _ _
    · split
      · split
        · exact th _ (h.s (by decide) (by decide))
        · exact h
      · split
        · split
          · exact h
          · exact th _ (h.s (by decide) (by decide))
        · split
          · split
            · exact th _ (h.s (by decide) (by decide))
            · exact h
          · split
            · exact th _ h
            · split
              · exact th _ (h.s (by decide) (by decide))
              · exact h
  · exact h
theorem HB_mns {I n : Tb} (h : HB I n) : ∀ j, HBp I (mns I n j)
  | 0 => by
    refine ⟨by show 0 < set2 n 0 0 (n 0 0 + 1) 0 0; rw [set2_s]; omega, fun l hl => ?_⟩
    show set2 n 0 0 (n 0 0 + 1) 10 l < 2 ^ set2 n 0 0 (n 0 0 + 1) 0 0
    rw [set2_s, set2_f (by omega)]
    exact Nat.lt_of_lt_of_le (h l hl) (two_le (by omega))
  | j + 1 => HBp_act (HB_mns h j) j
theorem HB_pas {I n : Tb} (h : HB I n) : ∀ k, HB I (pas I n k)
  | 0 => h
  | k + 1 => (HB_mns (HB_pas h k) (I 0 4)).2
theorem HB_nf (I : Tb) (st : Nat) (dr : Nat → Nat) : HB I (nf I st dr) := fun l _ => by
  show 0 < _
  exact Nat.pow_pos (by decide)
/-! the bits of a long, counted: eight digits of eight bits -/
theorem and_split {a b x y : Nat} (ha : a < 256) (hb : b < 256) : (a + 256 * x) &&& (b + 256 * y) = (a &&& b) + 256 * (x &&& y) := by
  have h1 : ((a + 256 * x) &&& (b + 256 * y)) % 2 ^ 8 = a &&& b := by
    rw [Nat.and_mod_two_pow, show (2 : Nat) ^ 8 = 256 from rfl, Nat.add_mul_mod_self_left, Nat.add_mul_mod_self_left, Nat.mod_eq_of_lt ha, Nat.mod_eq_of_lt hb]
  have h2 : ((a + 256 * x) &&& (b + 256 * y)) / 2 ^ 8 = x &&& y := by
    rw [Nat.and_div_two_pow, show (2 : Nat) ^ 8 = 256 from rfl, show (a + 256 * x) / 256 = x by omega, show (b + 256 * y) / 256 = y by omega]
  have h3 := Nat.mod_add_div ((a + 256 * x) &&& (b + 256 * y)) (2 ^ 8)
  rw [h1, h2] at h3
  exact h3.symm
/-- the number of six bytes -/
def by6 (f : Nat → Nat) : Nat := f 0 + 256 * (f 1 + 256 * (f 2 + 256 * (f 3 + 256 * (f 4 + 256 * f 5))))
theorem by6_lt {f : Nat → Nat} (h : ∀ i, i < 6 → f i < 256) : by6 f < 2 ^ 48 := by
  have := h 0 (by omega)
  have := h 1 (by omega)
  have := h 2 (by omega)
  have := h 3 (by omega)
  have := h 4 (by omega)
  have := h 5 (by omega)
  unfold by6
  omega
theorem by6_and {f : Nat → Nat} {m : Nat} (h : ∀ i, i < 6 → f i < 256) (hm : m < 256) : by6 f &&& by6 (fun _ => m) = by6 (fun i => f i &&& m) := by
  unfold by6
  rw [and_split (h 0 (by omega)) hm, and_split (h 1 (by omega)) hm, and_split (h 2 (by omega)) hm, and_split (h 3 (by omega)) hm, and_split (h 4 (by omega)) hm]
/-- a mask whose digits are all m, with two digits more -/
theorem by6_mask {f : Nat → Nat} {m M : Nat} (h : ∀ i, i < 6 → f i < 256) (hm : m < 256) (hM : M % 2 ^ 48 = by6 (fun _ => m)) : by6 f &&& M = by6 (fun i => f i &&& m) := by
  have h1 : (by6 f &&& M) % 2 ^ 48 = by6 f &&& M % 2 ^ 48 := by rw [Nat.and_mod_two_pow, Nat.mod_eq_of_lt (by6_lt h)]
  have h2 : by6 f &&& M < 2 ^ 48 := Nat.lt_of_le_of_lt Nat.and_le_left (by6_lt h)
  rw [Nat.mod_eq_of_lt h2, hM] at h1
  rw [h1, by6_and h hm]
/-- a shift within the digits, where the mask holds only what came from the digit itself -/
theorem shr_dig {a x m s : Nat} (ha : a < 256) (hs : s ≤ 8) (hm : m < 2 ^ (8 - s)) : ∃ b, b < 256 ∧ (a + 256 * x) / 2 ^ s = b + 256 * (x / 2 ^ s) ∧ b &&& m = a / 2 ^ s &&& m := by
  refine ⟨(a + 256 * x) / 2 ^ s % 256, Nat.mod_lt _ (by decide), ?_, ?_⟩
  · have h1 : (a + 256 * x) / 2 ^ s / 256 = x / 2 ^ s := by
      rw [Nat.div_div_eq_div_mul, Nat.mul_comm (2 ^ s) 256, ← Nat.div_div_eq_div_mul, show (a + 256 * x) / 256 = x by omega]
    have := Nat.mod_add_div ((a + 256 * x) / 2 ^ s) 256
    rw [h1] at this
    exact this.symm
  · have e : 256 = 2 ^ s * 2 ^ (8 - s) := by rw [← Nat.pow_add, show s + (8 - s) = 8 by omega]
    have h1 : (a + 256 * x) / 2 ^ s = a / 2 ^ s + 2 ^ (8 - s) * x := by
      rw [e, Nat.mul_assoc, Nat.add_mul_div_left _ _ (Nat.pow_pos (by decide))]
    have hms : ∀ y, y &&& m = y % 2 ^ (8 - s) &&& m := fun y => by
      have h2 : (y &&& m) % 2 ^ (8 - s) = y % 2 ^ (8 - s) &&& m := by rw [Nat.and_mod_two_pow, Nat.mod_eq_of_lt hm]
      rw [← h2, Nat.mod_eq_of_lt (Nat.lt_of_le_of_lt Nat.and_le_right hm)]
    have hd : 2 ^ (8 - s) ∣ 256 := ⟨2 ^ s, by rw [e, Nat.mul_comm]⟩
    rw [hms, hms (a / 2 ^ s), Nat.mod_mod_of_dvd _ hd, h1, Nat.add_mul_mod_self_left]
theorem by6_shr {f : Nat → Nat} {m s : Nat} (h : ∀ i, i < 6 → f i < 256) (hs : s ≤ 8) (hm : m < 2 ^ (8 - s)) : by6 f / 2 ^ s &&& by6 (fun _ => m) = by6 (fun i => f i / 2 ^ s &&& m) := by
  have hm8 : m < 256 := Nat.lt_of_lt_of_le hm (two_le (b := 8) (by omega))
  unfold by6
  obtain ⟨b0, l0, e0, m0⟩ := shr_dig (x := f 1 + 256 * (f 2 + 256 * (f 3 + 256 * (f 4 + 256 * f 5)))) (h 0 (by omega)) hs hm
  obtain ⟨b1, l1, e1, m1⟩ := shr_dig (x := f 2 + 256 * (f 3 + 256 * (f 4 + 256 * f 5))) (h 1 (by omega)) hs hm
  obtain ⟨b2, l2, e2, m2⟩ := shr_dig (x := f 3 + 256 * (f 4 + 256 * f 5)) (h 2 (by omega)) hs hm
  obtain ⟨b3, l3, e3, m3⟩ := shr_dig (x := f 4 + 256 * f 5) (h 3 (by omega)) hs hm
  obtain ⟨b4, l4, e4, m4⟩ := shr_dig (x := f 5) (h 4 (by omega)) hs hm
  rw [e0, e1, e2, e3, e4, and_split l0 hm8, and_split l1 hm8, and_split l2 hm8, and_split l3 hm8, and_split l4 hm8, m0, m1, m2, m3, m4]
theorem and_low {x M k : Nat} (h : x < 2 ^ k) : x &&& M = x &&& M % 2 ^ k := by
  have h1 : (x &&& M) % 2 ^ k = x &&& M % 2 ^ k := by rw [Nat.and_mod_two_pow, Nat.mod_eq_of_lt h]
  rw [← h1, Nat.mod_eq_of_lt (Nat.lt_of_le_of_lt Nat.and_le_left h)]
def sA (p : Int64) : Int64 := p - (((p.toUInt64 >>> ((1 : Int32).toInt64.toUInt64 &&& Int64.toUInt64 63)).toInt64) &&& 6148914691236517205)
def sB (a : Int64) : Int64 := (a &&& 3689348814741910323) + (((a.toUInt64 >>> ((2 : Int32).toInt64.toUInt64 &&& Int64.toUInt64 63)).toInt64) &&& 3689348814741910323)
def sC (b : Int64) : Int64 := (b + ((b.toUInt64 >>> ((4 : Int32).toInt64.toUInt64 &&& Int64.toUInt64 63)).toInt64)) &&& 1085102592571150095
def sD (c : Int64) : Int64 := c + ((c.toUInt64 >>> ((8 : Int32).toInt64.toUInt64 &&& Int64.toUInt64 63)).toInt64)
def sE (d : Int64) : Int64 := d + ((d.toUInt64 >>> ((16 : Int32).toInt64.toUInt64 &&& Int64.toUInt64 63)).toInt64)
def sF (e : Int64) : Int64 := e + ((e.toUInt64 >>> ((32 : Int32).toInt64.toUInt64 &&& Int64.toUInt64 63)).toInt64)
theorem bc_cut (N : Nat) (p : Int64) : fJ13_bitCount_95d88 N p = some ((sF (sE (sD (sC (sB (sA p)))))).toInt32 &&& 127) := rfl
def bA (b : Nat) : Nat := b - (b / 2 &&& 85)
def bB (a : Nat) : Nat := (a &&& 51) + (a / 4 &&& 51)
def bC (b : Nat) : Nat := (b + b / 16) % 16
theorem bA_ok : ∀ b, b < 256 → (b / 2 &&& 85) ≤ b ∧ bA b < 256 := by decide +kernel
theorem bB_ok : ∀ b, b < 256 → bB (bA b) < 69 ∧ bB (bA b) % 16 ≤ 4 ∧ bB (bA b) / 16 ≤ 4 := by decide +kernel
theorem bC_ok : ∀ b, b < 256 → bC (bB (bA b)) = cnb (fun i => b.testBit i) 8 := by decide +kernel
theorem sA_ok {f : Nat → Nat} (h : ∀ i, i < 6 → f i < 256) : sA (lN (by6 f)) = lN (by6 (fun i => bA (f i))) := by
  have hl := by6_lt h
  unfold sA
  rw [show (1 : Int32) = nI 1 from rfl, wb_shr (by omega) (by omega), show (6148914691236517205 : Int64) = lN 6148914691236517205 from rfl, fb_andL, and_low (k := 48) (x := by6 f / 2 ^ 1) (by omega), show 6148914691236517205 % 2 ^ 48 = by6 (fun _ => 85) by decide, by6_shr h (by omega) (by decide)]
  have g0 := (bA_ok _ (h 0 (by omega))).1
  have g1 := (bA_ok _ (h 1 (by omega))).1
  have g2 := (bA_ok _ (h 2 (by omega))).1
  have g3 := (bA_ok _ (h 3 (by omega))).1
  have g4 := (bA_ok _ (h 4 (by omega))).1
  have g5 := (bA_ok _ (h 5 (by omega))).1
  have hle : by6 (fun i => f i / 2 ^ 1 &&& 85) ≤ by6 f := by
    unfold by6
    simp only [Nat.pow_one]
    omega
  rw [lN_sub hle]
  congr 1
  unfold by6 bA
  simp only [Nat.pow_one] at *
  omega
theorem sB_ok {f : Nat → Nat} (h : ∀ i, i < 6 → f i < 256) : sB (lN (by6 f)) = lN (by6 (fun i => bB (f i))) := by
  have hl := by6_lt h
  unfold sB
  rw [show (2 : Int32) = nI 2 from rfl, wb_shr (by omega) (by omega), show (3689348814741910323 : Int64) = lN 3689348814741910323 from rfl, fb_andL, fb_andL, and_low (k := 48) (x := by6 f / 2 ^ 2) (by omega), and_low (k := 48) (x := by6 f) hl, show 3689348814741910323 % 2 ^ 48 = by6 (fun _ => 51) by decide, by6_shr h (by omega) (by decide), by6_and h (by decide), lN_add]
  congr 1
  unfold by6 bB
  simp only [show (2 : Nat) ^ 2 = 4 from rfl]
  omega
theorem sC_ok {f : Nat → Nat} (h : ∀ i, i < 6 → f i < 69 ∧ f i % 16 ≤ 4 ∧ f i / 16 ≤ 4) : sC (lN (by6 f)) = lN (by6 (fun i => bC (f i))) := by
  have h0 := h 0 (by omega)
  have h1 := h 1 (by omega)
  have h2 := h 2 (by omega)
  have h3 := h 3 (by omega)
  have h4 := h 4 (by omega)
  have h5 := h 5 (by omega)
  have hl := by6_lt (f := f) (fun i hi => by have := h i hi; omega)
  unfold sC
  rw [show (4 : Int32) = nI 4 from rfl, wb_shr (by omega) (by omega), lN_add, show (1085102592571150095 : Int64) = lN 1085102592571150095 from rfl, fb_andL]
  have e : by6 f + by6 f / 2 ^ 4 = by6 (fun i => f i + f i / 16 + (if i < 5 then 16 * (f (i + 1) % 16) else 0)) := by
    unfold by6
    simp only [show (2 : Nat) ^ 4 = 16 from rfl, show (0 : Nat) < 5 from by decide, show (1 : Nat) < 5 from by decide, show (2 : Nat) < 5 from by decide, show (3 : Nat) < 5 from by decide, show (4 : Nat) < 5 from by decide, show ¬ (5 : Nat) < 5 from by decide, if_true, if_false, Nat.zero_add, show 1 + 1 = 2 from rfl, show 2 + 1 = 3 from rfl, show 3 + 1 = 4 from rfl, show 4 + 1 = 5 from rfl]
    omega
  have hd : ∀ i, i < 6 → (f i + f i / 16 + (if i < 5 then 16 * (f (i + 1) % 16) else 0)) < 256 := fun i hi => by
    have q1 := h i hi
    by_cases c : i < 5
    · have q2 := h (i + 1) (by omega)
      rw [if_pos c]
      omega
    · rw [if_neg c]
      omega
  rw [e, by6_mask (m := 15) hd (by decide) (by decide)]
  congr 1
  have hc : ∀ i, i < 6 → ((f i + f i / 16 + (if i < 5 then 16 * (f (i + 1) % 16) else 0)) &&& 15) = bC (f i) := fun i hi => by
    rw [show (15 : Nat) = 2 ^ 4 - 1 from rfl, Nat.and_two_pow_sub_one_eq_mod]
    unfold bC
    by_cases c : i < 5
    · rw [if_pos c]
      omega
    · rw [if_neg c]
      rfl
  unfold by6
  simp only [hc 0 (by omega), hc 1 (by omega), hc 2 (by omega), hc 3 (by omega), hc 4 (by omega), hc 5 (by omega)]
theorem sF_ok {f : Nat → Nat} (h : ∀ i, i < 6 → f i ≤ 8) : (sF (sE (sD (lN (by6 f))))).toInt32 &&& 127 = nI (f 0 + f 1 + f 2 + f 3 + f 4 + f 5) := by
  have h0 := h 0 (by omega)
  have h1 := h 1 (by omega)
  have h2 := h 2 (by omega)
  have h3 := h 3 (by omega)
  have h4 := h 4 (by omega)
  have h5 := h 5 (by omega)
  have hl := by6_lt (f := f) (fun i hi => by have := h i hi; omega)
  unfold sD
  rw [show (8 : Int32) = nI 8 from rfl, wb_shr (by omega) (by omega), lN_add]
  unfold sE
  rw [show (16 : Int32) = nI 16 from rfl, wb_shr (by omega) (by omega), lN_add]
  unfold sF
  rw [show (32 : Int32) = nI 32 from rfl, wb_shr (by omega) (by omega), lN_add, lN_i, show (127 : Int32) = nI 127 from rfl, fa_and, show (127 : Nat) = 2 ^ 7 - 1 from rfl, Nat.and_two_pow_sub_one_eq_mod]
  congr 1
  unfold by6
  generalize f 0 = a0 at *
  generalize f 1 = a1 at *
  generalize f 2 = a2 at *
  generalize f 3 = a3 at *
  generalize f 4 = a4 at *
  generalize f 5 = a5 at *
  clear hl h
  have d1 : (a0 + 256 * (a1 + 256 * (a2 + 256 * (a3 + 256 * (a4 + 256 * a5))))) / 2 ^ 8 = a1 + 256 * (a2 + 256 * (a3 + 256 * (a4 + 256 * a5))) := by omega
  rw [d1]
  have d2 : (a0 + 256 * (a1 + 256 * (a2 + 256 * (a3 + 256 * (a4 + 256 * a5)))) + (a1 + 256 * (a2 + 256 * (a3 + 256 * (a4 + 256 * a5))))) = (a0 + a1) + 256 * (a1 + a2) + 65536 * ((a2 + a3) + 256 * (a3 + a4) + 65536 * (a4 + a5) + 16777216 * a5) := by omega
  rw [d2]
  have d3 : ((a0 + a1) + 256 * (a1 + a2) + 65536 * ((a2 + a3) + 256 * (a3 + a4) + 65536 * (a4 + a5) + 16777216 * a5)) / 2 ^ 16 = (a2 + a3) + 256 * (a3 + a4) + 65536 * (a4 + a5) + 16777216 * a5 := by omega
  rw [d3]
  have d4 : (a0 + a1) + 256 * (a1 + a2) + 65536 * ((a2 + a3) + 256 * (a3 + a4) + 65536 * (a4 + a5) + 16777216 * a5) + ((a2 + a3) + 256 * (a3 + a4) + 65536 * (a4 + a5) + 16777216 * a5) = (a0 + a1 + a2 + a3) + 256 * (a1 + a2 + a3 + a4) + 65536 * (a2 + a3 + a4 + a5) + 16777216 * (a3 + a4 + a5) + 4294967296 * (a4 + a5 + 256 * a5) := by omega
  rw [d4]
  have d5 : ((a0 + a1 + a2 + a3) + 256 * (a1 + a2 + a3 + a4) + 65536 * (a2 + a3 + a4 + a5) + 16777216 * (a3 + a4 + a5) + 4294967296 * (a4 + a5 + 256 * a5)) / 2 ^ 32 = a4 + a5 + 256 * a5 := by omega
  rw [d5, show (2 : Nat) ^ 7 = 128 from rfl]
  clear d1 d2 d3 d4 d5
  have d6 : (a0 + a1 + a2 + a3) + 256 * (a1 + a2 + a3 + a4) + 65536 * (a2 + a3 + a4 + a5) + 16777216 * (a3 + a4 + a5) + 4294967296 * (a4 + a5 + 256 * a5) + (a4 + a5 + 256 * a5) = (a0 + a1 + a2 + a3 + a4 + a5) + 128 * (2 * (a1 + a2 + a3 + a4) + 512 * (a2 + a3 + a4 + a5) + 131072 * (a3 + a4 + a5) + 33554432 * (a4 + a5 + 256 * a5) + 2 * a5) := by omega
  rw [d6, Nat.add_mul_mod_self_left, Nat.mod_eq_of_lt (by omega)]
theorem bitCountL_ok {N : Nat} {f : Nat → Nat} (h : ∀ i, i < 6 → f i < 256) : fJ13_bitCount_95d88 N (lN (by6 f)) = some (nI (cnb (fun i => (f 0).testBit i) 8 + cnb (fun i => (f 1).testBit i) 8 + cnb (fun i => (f 2).testBit i) 8 + cnb (fun i => (f 3).testBit i) 8 + cnb (fun i => (f 4).testBit i) 8 + cnb (fun i => (f 5).testBit i) 8)) := by
  rw [bc_cut, sA_ok h, sB_ok (fun i hi => (bA_ok _ (h i hi)).2), sC_ok (fun i hi => bB_ok _ (h i hi)), sF_ok (fun i hi => by rw [bC_ok _ (h i hi)]; exact cnb_le 8)]
  simp only [bC_ok _ (h 0 (by omega)), bC_ok _ (h 1 (by omega)), bC_ok _ (h 2 (by omega)), bC_ok _ (h 3 (by omega)), bC_ok _ (h 4 (by omega)), bC_ok _ (h 5 (by omega))]
/-- the digits of a number of six bytes -/
theorem by6_of {x : Nat} (h : x < 2 ^ 48) : x = by6 (fun i => x / 2 ^ (8 * i) % 256) := by
  unfold by6
  simp only [Nat.mul_zero, Nat.pow_zero, Nat.div_one, show 2 ^ (8 * 1) = 256 from rfl, show 2 ^ (8 * 2) = 65536 from rfl, show 2 ^ (8 * 3) = 16777216 from rfl, show 2 ^ (8 * 4) = 4294967296 from rfl, show 2 ^ (8 * 5) = 1099511627776 from rfl]
  omega
theorem cnb_add (p : Nat → Bool) (m : Nat) : ∀ k, cnb p (m + k) = cnb p m + cnb (fun i => p (m + i)) k
  | 0 => rfl
  | k + 1 => by
    show cnb p (m + k) + (if p (m + k) = true then 1 else 0) = cnb p m + (cnb (fun i => p (m + i)) k + if p (m + k) = true then 1 else 0)
    rw [cnb_add p m k]
    omega
theorem dig_bit {x k i : Nat} (hi : i < 8) : (x / 2 ^ (8 * k) % 256).testBit i = x.testBit (8 * k + i) := by
  rw [show (256 : Nat) = 2 ^ 8 from rfl, Nat.testBit_mod_two_pow, decide_eq_true hi, Bool.true_and, Nat.testBit_div_two_pow, Nat.add_comm]
theorem pop64_ok {N x : Nat} (h : x < 2 ^ 48) : fJ13_bitCount_95d88 N (lN x) = some (nI (cnb (fun i => x.testBit i) 48)) := by
  have e := bitCountL_ok (N := N) (f := fun i => x / 2 ^ (8 * i) % 256) (fun i _ => Nat.mod_lt _ (by decide))
  rw [← by6_of h] at e
  rw [e]
  congr 2
  have d : ∀ k, cnb (fun i => (x / 2 ^ (8 * k) % 256).testBit i) 8 = cnb (fun i => x.testBit (8 * k + i)) 8 := fun k => cnb_congr 8 (fun i hi => dig_bit hi)
  rw [d 0, d 1, d 2, d 3, d 4, d 5]
  have a := cnb_add (fun i => x.testBit i)
  have a1 : cnb (fun i => x.testBit i) 48 = cnb (fun i => x.testBit i) 40 + cnb (fun i => x.testBit (40 + i)) 8 := a 40 8
  have a2 : cnb (fun i => x.testBit i) 40 = cnb (fun i => x.testBit i) 32 + cnb (fun i => x.testBit (32 + i)) 8 := a 32 8
  have a3 : cnb (fun i => x.testBit i) 32 = cnb (fun i => x.testBit i) 24 + cnb (fun i => x.testBit (24 + i)) 8 := a 24 8
  have a4 : cnb (fun i => x.testBit i) 24 = cnb (fun i => x.testBit i) 16 + cnb (fun i => x.testBit (16 + i)) 8 := a 16 8
  have a5 : cnb (fun i => x.testBit i) 16 = cnb (fun i => x.testBit i) 8 + cnb (fun i => x.testBit (8 + i)) 8 := a 8 8
  have z : (fun i => x.testBit (8 * 0 + i)) = fun i => x.testBit i := by
    funext i
    rw [Nat.mul_zero, Nat.zero_add]
  rw [z]
  simp only [show 8 * 1 = 8 from rfl, show 8 * 2 = 16 from rfl, show 8 * 3 = 24 from rfl, show 8 * 4 = 32 from rfl, show 8 * 5 = 40 from rfl] at *
  omega
theorem pop_heard {h m : Nat} (hm : m ≤ 40) (hh : h < 2 ^ m) : cnb (fun i => (2 * h).testBit i) 48 = cnb (fun i => h.testBit i) m := by
  have a := cnb_add (fun i => (2 * h).testBit i) 1 47
  have e0 : cnb (fun i => (2 * h).testBit i) 1 = 0 := cnb_zero 1 (fun i hi => by
    have : i = 0 := by omega
    subst this
    rw [Nat.testBit_zero, Nat.mul_mod_right]
    rfl)
  have e1 : cnb (fun i => (2 * h).testBit (1 + i)) 47 = cnb (fun i => h.testBit i) 47 := cnb_congr 47 (fun i _ => by
    rw [show 1 + i = i + 1 by omega, Nat.testBit_succ, Nat.mul_div_cancel_left _ (by decide)])
  have b := cnb_add (fun i => h.testBit i) m (47 - m)
  have e2 : cnb (fun i => h.testBit (m + i)) (47 - m) = 0 := cnb_zero _ (fun i _ => Nat.testBit_lt_two_pow (Nat.lt_of_lt_of_le hh (two_le (by omega))))
  rw [show m + (47 - m) = 47 by omega] at b
  rw [show 48 = 1 + 47 from rfl, a, e0, e1, b, e2]
  omega
theorem q_creaks {N : Nat} {I n : Tb} {been : Int32} {how passed dreamOf stateOf roomOf handOf awake thingIn full w : Nat → Int32} {heardBy : Nat → Int64} (p0 : Int32) (hN : 64 < N) (hi : ib I) (hb : nb I n) (hh : HB I n) (hC : CN I n been how passed dreamOf stateOf roomOf handOf awake thingIn full heardBy) (hR : RN I n w) : QR (fX10_creaks N p0 (nI (I 0 5)) heardBy) (fX12_creaks N p0 (nI (I 0 5)) w) := by
  have hL := hi.L
  have hb40 := hb.b
  have hears := fun l mi (hl : l < I 0 5) (h1 : 1 ≤ mi) (h2 : mi ≤ 40) => hears_ok (N := N) (l := l) (mi := mi) hi hb hR hl h1 h2
  obtain ⟨a0, _, _, _, _, _, _, _, _, _, a10, _, _⟩ := hC
  obtain ⟨b0, _⟩ := hR
  have g49 : ∀ K : Option (Int32 × Int32 × Int32 × Int32), gd 49 51 K = K := fun K => gd_nI (k := 49) K (by omega) (by omega)
  have c49 : w (Int32.toNatClampNeg 49) = nI (n 0 0) := b0
  unfold fX10_creaks fX12_creaks
  by_cases c : dinb p0 (I 0 5) = true
  · obtain ⟨l, hl, rfl⟩ := dinb_y (by omega) c
    have hlt := hb.l hl
    have hp := pop64_ok (N := N) (x := 2 * n 10 l) (by omega)
    rw [pop_heard hb40 (hh l hl)] at hp
    have hr : lp (BX12_creaks_23 w N (nI l)) N (0, 1) = some (nI (cnb (fun i => (n 10 l).testBit i) (n 0 0)), 0, 0, -1) := by
      refine lp_for (fun j => (nI (cnb (fun i => (n 10 l).testBit i) j), nI (1 + j))) (n 0 0) N (by omega) (fun j hj rec => ?_) (fun rec => ?_)
      · have h3 : ¬ n 0 0 < 1 + j := by omega
        have hq := hears l (1 + j) hl (by omega) (by omega)
        rw [show 1 + j - 1 = j by omega] at hq
        simp (disch := omega) only [BX12_creaks_23, g49, c49, nI_ltI, h3, hq, nI_1, bd_some, un1, un2, un3, jn, un0, bI_t, bI_f, i1n0, if_true, if_false, fX10_refuse, fX12_refused, fX10_answer, fX12_good]
        show _ = rec (nI (cnb _ j + if (n 10 l).testBit j = true then 1 else 0), nI (1 + (j + 1)))
        rw [← Nat.add_assoc]
        cases (n 10 l).testBit j
        · simp [bI]
        · simp [bI, nI_1]
      · have h3 : n 0 0 < 1 + n 0 0 := by omega
        simp (disch := omega) only [BX12_creaks_23, g49, c49, nI_ltI, h3, bd_some, un1, un2, un3, jn, un0, bI_t, bI_f, i1n0, if_true, if_false, fX10_refuse, fX12_refused, fX10_answer, fX12_good]
    simp (disch := omega) only [c_isListener, r_isListener, c, gd_nI, nI_clamp, a10 l hl, hp, hr, bd_some, un1, un2, un3, jn, un0, bI_t, bI_f, i1n0, if_true, if_false, fX10_refuse, fX12_refused, fX10_answer, fX12_good]
    exact QR.yes _ rfl rfl
  · simp only [c_isListener, r_isListener, Bool.eq_false_iff.mpr c, bd_some, un1, un2, un3, jn, un0, bI_t, bI_f, i1n0, if_true, if_false, fX10_refuse, fX12_refused, fX10_answer, fX12_good]
    exact QR.no rfl rfl
