/-! mornings, as the reference keeps them -/
theorem cpy_s (w d : Nat → Int32) (b P j : Nat) : upd (va_cpy w d b P j) (P + j) (w (b + j)) = va_cpy w d b P (j + 1) := by
  funext i
  by_cases c : i = P + j
  · rw [c, pk_us]
    unfold va_cpy
    rw [if_pos (by omega), show P + j - P = j by omega]
  · rw [pk_un c]
    unfold va_cpy
    by_cases q : P ≤ i ∧ i < P + j
    · rw [if_pos q, if_pos (by omega)]
    · rw [if_neg q, if_neg (by omega)]
theorem cpy_0 (w d : Nat → Int32) (b P : Nat) : va_cpy w d b P 0 = d := by
  funext i
  unfold va_cpy
  rw [if_neg (by omega)]
theorem cpy_in {w d : Nat → Int32} {b P n : Nat} {i : Nat} (h : i < n) : va_cpy w d b P n (P + i) = w (b + i) := by
  unfold va_cpy
  rw [if_pos (by omega), show P + i - P = i by omega]
theorem cpy_out {w d : Nat → Int32} {b P n : Nat} {i : Nat} (h : i < P ∨ P + n ≤ i) : va_cpy w d b P n i = d i := by
  unfold va_cpy
  rw [if_neg (by omega)]
theorem dawn_21 {N P : Nat} (hN : 64 < N) (hP : P + 6 ≤ 3840) (w d : Nat → Int32) (K : Int32 × (Nat → Int32) → Option ((Nat → Int32) × (Nat → Int32) × (Nat → Int32))) : lp (BX12_dawns_21 w K) N (nI P, 0, d) = K (nI (P + 6), va_cpy w d 43 P 6) := by
  have h := lp_for (B := BX12_dawns_21 w K) (r := K (nI (P + 6), va_cpy w d 43 P 6)) (fun j => (nI (P + j), nI j, va_cpy w d 43 P j)) 6 N (by omega) (fun j hj rec => ?_) (fun rec => ?_)
  · rw [cpy_0] at h
    exact h
  · have h1 : ¬ (6 : Int32) ≤ nI j := fun e => absurd ((nI_leI (a := 6) (by omega) (by omega)).mp e) (by omega)
    have e2 : ((43 : Int32) + nI j) = nI (43 + j) := nI_add 43 j
    simp (disch := omega) only [BX12_dawns_21, un3, h1, if_false, e2, gd_nI, nI_clamp, nI_1, cpy_s]
    rfl
  · have h1 : (6 : Int32) ≤ nI 6 := (nI_leI (a := 6) (by omega) (by omega)).mpr (Nat.le_refl _)
    simp (disch := omega) only [BX12_dawns_21, un3, h1, if_true]
theorem dawn_57 {N P : Nat} (hN : 64 < N) (hP : P + 8 ≤ 3840) (w d : Nat → Int32) (K : Int32 × (Nat → Int32) → Option ((Nat → Int32) × (Nat → Int32) × (Nat → Int32))) : lp (BX12_dawns_57 w K) N (nI P, 0, d) = K (nI (P + 8), va_cpy w d 15 P 8) := by
  have h := lp_for (B := BX12_dawns_57 w K) (r := K (nI (P + 8), va_cpy w d 15 P 8)) (fun j => (nI (P + j), nI j, va_cpy w d 15 P j)) 8 N (by omega) (fun j hj rec => ?_) (fun rec => ?_)
  · rw [cpy_0] at h
    exact h
  · have h1 : ¬ (8 : Int32) ≤ nI j := fun e => absurd ((nI_leI (a := 8) (by omega) (by omega)).mp e) (by omega)
    have e2 : ((15 : Int32) + nI j) = nI (15 + j) := nI_add 15 j
    simp (disch := omega) only [BX12_dawns_57, un3, h1, if_false, e2, gd_nI, nI_clamp, nI_1, cpy_s]
    rfl
  · have h1 : (8 : Int32) ≤ nI 8 := (nI_leI (a := 8) (by omega) (by omega)).mpr (Nat.le_refl _)
    simp (disch := omega) only [BX12_dawns_57, un3, h1, if_true]
theorem dawn_93 {N P : Nat} (hN : 64 < N) (hP : P + 10 ≤ 3840) (w d : Nat → Int32) (K : Int32 × (Nat → Int32) → Option ((Nat → Int32) × (Nat → Int32) × (Nat → Int32))) : lp (BX12_dawns_93 w K) N (nI P, 0, d) = K (nI (P + 10), va_cpy w d 23 P 10) := by
  have h := lp_for (B := BX12_dawns_93 w K) (r := K (nI (P + 10), va_cpy w d 23 P 10)) (fun j => (nI (P + j), nI j, va_cpy w d 23 P j)) 10 N (by omega) (fun j hj rec => ?_) (fun rec => ?_)
  · rw [cpy_0] at h
    exact h
  · have h1 : ¬ (10 : Int32) ≤ nI j := fun e => absurd ((nI_leI (a := 10) (by omega) (by omega)).mp e) (by omega)
    have e2 : ((23 : Int32) + nI j) = nI (23 + j) := nI_add 23 j
    simp (disch := omega) only [BX12_dawns_93, un3, h1, if_false, e2, gd_nI, nI_clamp, nI_1, cpy_s]
    rfl
  · have h1 : (10 : Int32) ≤ nI 10 := (nI_leI (a := 10) (by omega) (by omega)).mpr (Nat.le_refl _)
    simp (disch := omega) only [BX12_dawns_93, un3, h1, if_true]
theorem dawn_129 {N P : Nat} (hN : 64 < N) (hP : P + 3 ≤ 3840) (w d : Nat → Int32) (K : Int32 × (Nat → Int32) → Option ((Nat → Int32) × (Nat → Int32) × (Nat → Int32))) : lp (BX12_dawns_129 w K) N (nI P, 0, d) = K (nI (P + 3), va_cpy w d 0 P 3) := by
  have h := lp_for (B := BX12_dawns_129 w K) (r := K (nI (P + 3), va_cpy w d 0 P 3)) (fun j => (nI (P + j), nI j, va_cpy w d 0 P j)) 3 N (by omega) (fun j hj rec => ?_) (fun rec => ?_)
  · rw [cpy_0] at h
    exact h
  · have h1 : ¬ (3 : Int32) ≤ nI j := fun e => absurd ((nI_leI (a := 3) (by omega) (by omega)).mp e) (by omega)
    have e2 : ((0 : Int32) + nI j) = nI (0 + j) := nI_add 0 j
    simp (disch := omega) only [BX12_dawns_129, un3, h1, if_false, e2, gd_nI, nI_clamp, nI_1, cpy_s]
    rfl
  · have h1 : (3 : Int32) ≤ nI 3 := (nI_leI (a := 3) (by omega) (by omega)).mpr (Nat.le_refl _)
    simp (disch := omega) only [BX12_dawns_129, un3, h1, if_true]
theorem dawn_163 {N P : Nat} (hN : 64 < N) (hP : P + 3 ≤ 3840) (w fr d : Nat → Int32) : lp (BX12_dawns_163 w fr) N (nI P, 0, d) = some (w, fr, va_cpy w d 9 P 3) := by
  have h := lp_for (B := BX12_dawns_163 w fr) (r := some (w, fr, va_cpy w d 9 P 3)) (fun j => (nI (P + j), nI j, va_cpy w d 9 P j)) 3 N (by omega) (fun j hj rec => ?_) (fun rec => ?_)
  · rw [cpy_0] at h
    exact h
  · have h1 : ¬ (3 : Int32) ≤ nI j := fun e => absurd ((nI_leI (a := 3) (by omega) (by omega)).mp e) (by omega)
    have e2 : ((9 : Int32) + nI j) = nI (9 + j) := nI_add 9 j
    simp (disch := omega) only [BX12_dawns_163, un3, h1, if_false, e2, gd_nI, nI_clamp, nI_1, cpy_s]
    rfl
  · have h1 : (3 : Int32) ≤ nI 3 := (nI_leI (a := 3) (by omega) (by omega)).mpr (Nat.le_refl _)
    simp (disch := omega) only [BX12_dawns_163, un3, h1, if_true]
def dp (k : Nat) : Nat := if k < 6 then 43 + k else if k < 14 then 15 + (k - 6) else if k < 24 then 23 + (k - 14) else if k < 27 then 0 + (k - 24) else 9 + (k - 27)
def DAWN (I n : Tb) (dawn : Nat → Int32) (a : Nat) : Prop := ∃ w, RN I n w ∧ ∀ k, k < 30 → dawn (30 * a + k) = w (dp k)
theorem dawns_ok {N c st a : Nat} {I : Tb} {how lies isFull bed isTold av what thn' met doorA doorB falls creak cold listens far : Nat → Int32} (hA : RAll I how lies isFull bed isTold av what thn' met doorA doorB falls creak cold listens far) (hN : 64 < N) (hi : ib I) (h4 : 0 < I 0 4) (hs : st < 1000) (hc : c < 64) (ha : a < 128) (w fr dawn : Nat → Int32) :
    ∃ w' fr' dawn', fX12_dawns N (nI c) (nI st) (nI a) (nI (I 0 6)) (nI (I 0 0)) (nI (I 0 1)) (nI (I 0 2)) (nI (I 0 3)) (nI (I 0 4)) (nI (I 0 5)) w how lies isFull bed isTold av thn' what doorA doorB fr falls creak listens far cold met dawn = some (w', fr', dawn') ∧ DAWN I (mrn I st c) dawn' a ∧ ∀ i, (i < 30 * a ∨ 30 * a + 30 ≤ i) → dawn' i = dawn i := by
  obtain ⟨w1, w', fr', c1, c2, c3⟩ := cast_play (N := N) (c := c) (st := st) hA hN hi h4 hs hc w fr
  have e30 : (nI a * 30 : Int32) = nI (30 * a) := by rw [show (30 : Int32) = nI 30 from rfl, pk_mul, Nat.mul_comm]
  refine ⟨w', fr', va_cpy w' (va_cpy w' (va_cpy w' (va_cpy w' (va_cpy w' dawn 43 (30 * a) 6) 15 (30 * a + 6) 8) 23 (30 * a + 6 + 8) 10) 0 (30 * a + 6 + 8 + 10) 3) 9 (30 * a + 6 + 8 + 10 + 3) 3, ?_, ⟨w', c3, fun k hk => ?_⟩, fun i hi2 => ?_⟩
  · unfold fX12_dawns
    rw [c1, bd_some]
    dsimp only [un1]
    rw [c2, bd_some]
    dsimp only [un2]
    rw [e30, dawn_21 hN (by omega)]
    dsimp only [un2]
    rw [dawn_57 hN (by omega)]
    dsimp only [un2]
    rw [dawn_93 hN (by omega)]
    dsimp only [un2]
    rw [dawn_129 hN (by omega)]
    dsimp only [un2]
    rw [dawn_163 hN (by omega)]
  · unfold dp
    by_cases k5 : 27 ≤ k
    · rw [show 30 * a + k = 30 * a + 6 + 8 + 10 + 3 + (k - 27) by omega, cpy_in (by omega), if_neg (by omega), if_neg (by omega), if_neg (by omega), if_neg (by omega)]
    · rw [cpy_out (by omega)]
      by_cases k4 : 24 ≤ k
      · rw [show 30 * a + k = 30 * a + 6 + 8 + 10 + (k - 24) by omega, cpy_in (by omega), if_neg (by omega), if_neg (by omega), if_neg (by omega), if_pos (by omega)]
      · rw [cpy_out (by omega)]
        by_cases k3 : 14 ≤ k
        · rw [show 30 * a + k = 30 * a + 6 + 8 + (k - 14) by omega, cpy_in (by omega), if_neg (by omega), if_neg (by omega), if_pos (by omega)]
        · rw [cpy_out (by omega)]
          by_cases k2 : 6 ≤ k
          · rw [show 30 * a + k = 30 * a + 6 + (k - 6) by omega, cpy_in (by omega), if_neg (by omega), if_pos (by omega)]
          · rw [cpy_out (by omega), cpy_in (by omega), if_pos (by omega)]
  · rw [cpy_out (by omega), cpy_out (by omega), cpy_out (by omega), cpy_out (by omega), cpy_out (by omega)]
theorem rn_same {I n m : Tb} {w w' : Nat → Int32} (hi : ib I) (hn : nb I n) (hm : nb I m) (h : RN I n w) (h' : RN I m w') : (∀ k, k < 30 → w (dp k) = w' (dp k)) ↔ sameM I n m := by
  have hL := hi.L
  have hT := hi.T
  have hD := hi.D
  have hS := hi.S
  have hR := hi.R
  obtain ⟨_, _, a1, _, _, _, a5, _, a7, a8, a9, a10, az⟩ := h
  obtain ⟨_, _, b1, _, _, _, b5, _, b7, b8, b9, b10, bz⟩ := h'
  constructor
  · intro q
    refine ⟨fun l hl => ?_, fun t ht => ⟨?_, ?_⟩, fun d hd => ?_, fun s hs => ⟨?_, ?_⟩⟩
    · have l1 := hn.l hl
      have l2 := hm.l hl
      have x1 := q (2 * l) (by omega)
      have x2 := q (2 * l + 1) (by omega)
      unfold dp at x1 x2
      rw [if_pos (by omega)] at x1 x2
      rw [(a10 l hl).1, (b10 l hl).1, nI_eq (by omega) (by omega)] at x1
      rw [show 43 + (2 * l + 1) = 44 + 2 * l by omega, (a10 l hl).2, (b10 l hl).2, nI_eq (by omega) (by omega)] at x2
      omega
    · have x1 := q (6 + t) (by omega)
      have y1 := hn.t ht
      have y2 := hm.t ht
      unfold dp at x1
      rw [if_neg (by omega), if_pos (by omega), show 15 + (6 + t - 6) = 15 + t by omega, a8 t ht, b8 t ht, nI_eq (by omega) (by omega)] at x1
      exact x1
    · have x1 := q (10 + t) (by omega)
      have y1 := hn.t ht
      have y2 := hm.t ht
      unfold dp at x1
      rw [if_neg (by omega), if_pos (by omega), show 15 + (10 + t - 6) = 19 + t by omega, a9 t ht, b9 t ht, nI_eq (by omega) (by omega)] at x1
      exact x1
    · have x1 := q (14 + d) (by omega)
      have y1 := hn.d hd
      have y2 := hm.d hd
      unfold dp at x1
      rw [if_neg (by omega), if_neg (by omega), if_pos (by omega), show 23 + (14 + d - 14) = 23 + d by omega, a1 d hd, b1 d hd, nI_eq (by omega) (by omega)] at x1
      exact x1
    · have x1 := q (24 + s) (by omega)
      have y1 := hn.s hs
      have y2 := hm.s hs
      unfold dp at x1
      rw [if_neg (by omega), if_neg (by omega), if_neg (by omega), if_pos (by omega), show 0 + (24 + s - 24) = 0 + s by omega, a5 s hs, b5 s hs, nI_eq (by omega) (by omega)] at x1
      exact x1
    · have x1 := q (27 + s) (by omega)
      have y1 := hn.s hs
      have y2 := hm.s hs
      unfold dp at x1
      rw [if_neg (by omega), if_neg (by omega), if_neg (by omega), if_neg (by omega), show 9 + (27 + s - 27) = 9 + s by omega, a7 s hs, b7 s hs, nI_eq (by omega) (by omega)] at x1
      exact x1
  · intro ⟨q1, q2, q3, q4⟩ k hk
    have zz : ∀ i, zi I i → w i = w' i := fun i z => (az i z).trans (bz i z).symm
    unfold dp
    by_cases k1 : k < 6
    · rw [if_pos k1]
      by_cases c : k / 2 < I 0 5
      · rcases Nat.mod_two_eq_zero_or_one k with e | e
        · rw [show 43 + k = 43 + 2 * (k / 2) by omega, (a10 _ c).1, (b10 _ c).1, q1 _ c]
        · rw [show 43 + k = 44 + 2 * (k / 2) by omega, (a10 _ c).2, (b10 _ c).2, q1 _ c]
      · exact zz _ (by unfold zi; omega)
    · rw [if_neg k1]
      by_cases k2 : k < 14
      · rw [if_pos k2]
        by_cases kk : k < 10
        · by_cases c : k - 6 < I 0 2
          · rw [a8 _ c, b8 _ c, (q2 _ c).1]
          · exact zz _ (by unfold zi; omega)
        · by_cases c : k - 10 < I 0 2
          · rw [show 15 + (k - 6) = 19 + (k - 10) by omega, a9 _ c, b9 _ c, (q2 _ c).2]
          · exact zz _ (by unfold zi; omega)
      · rw [if_neg k2]
        by_cases k3 : k < 24
        · rw [if_pos k3]
          by_cases c : k - 14 < I 0 1
          · rw [a1 _ c, b1 _ c, q3 _ c]
          · exact zz _ (by unfold zi; omega)
        · rw [if_neg k3]
          by_cases k4 : k < 27
          · rw [if_pos k4]
            by_cases c : k - 24 < I 0 4
            · rw [a5 _ c, b5 _ c, (q4 _ c).1]
            · exact zz _ (by unfold zi; omega)
          · rw [if_neg k4]
            by_cases c : k - 27 < I 0 4
            · rw [a7 _ c, b7 _ c, (q4 _ c).2]
            · exact zz _ (by unfold zi; omega)
theorem firstN {n : Nat} {A B : Nat → Int32} : fa_first (fun i => decide (A i ≠ B i)) n < n ↔ ¬ ∀ i, i < n → A i = B i := by
  constructor
  · intro h q
    have := fa_first_yes _ _ h
    exact of_decide_eq_true this (q _ h)
  · intro h
    rcases Nat.lt_or_ge (fa_first (fun i => decide (A i ≠ B i)) n) n with c | c
    · exact c
    · refine absurd (fun i hi => ?_) h
      have := fa_first_no (fun i => decide (A i ≠ B i)) n i (by omega)
      by_cases e : A i = B i
      · exact e
      · rw [decide_eq_true e] at this
        cases this
theorem isAlike_ok {N a b : Nat} {I n m : Tb} {dawn : Nat → Int32} (hN : 64 < N) (hi : ib I) (hn : nb I n) (hm : nb I m) (ha : a < 128) (hb : b < 128) (h : DAWN I n dawn a) (h' : DAWN I m dawn b) : fX12_isAlike N (nI a) (nI b) dawn = some (bI (decide (sameM I n m))) := by
  obtain ⟨w, r1, r2⟩ := h
  obtain ⟨w', r3, r4⟩ := h'
  have ea : (nI a * 30 : Int32) = nI (30 * a) := by rw [show (30 : Int32) = nI 30 from rfl, pk_mul, Nat.mul_comm]
  have eb : (nI b * 30 : Int32) = nI (30 * b) := by rw [show (30 : Int32) = nI 30 from rfl, pk_mul, Nat.mul_comm]
  unfold fX12_isAlike
  have h := lp_find (B := BX12_isAlike_2 (nI a) (nI b) dawn) (p := fun i => decide (w (dp i) ≠ w' (dp i))) (D := 30) (N := N) (e := some 1) (f := fun _ => some 0) (by omega) (fun i hi2 rec => ?_) (fun rec => ?_)
  · rw [show (0 : Int32) = nI 0 from rfl, h]
    by_cases c : sameM I n m
    · rw [if_neg (fun q => firstN.mp q ((rn_same hi hn hm r1 r3).mpr c)), decide_eq_true c]
      rfl
    · rw [if_pos (firstN.mpr (fun q => c ((rn_same hi hn hm r1 r3).mp q))), decide_eq_false c]
      rfl
  · have h4 : ¬ (30 : Int32) ≤ nI i := fun e => absurd ((nI_leI (a := 30) (by omega) (by omega)).mp e) (by omega)
    simp (disch := omega) only [BX12_isAlike_2, un1, h4, if_false, ea, eb, nI_add, gd_nI, nI_clamp, r2 i hi2, r4 i hi2, nI_1, decide_eq_true_eq]
    by_cases c : w (dp i) = w' (dp i)
    · rw [if_pos c, if_neg (fun q => q c)]
    · rw [if_neg c, if_pos c]
  · simp only [BX12_isAlike_2, un1]
    exact if_pos (by decide)
