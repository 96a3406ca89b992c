/-! the reference's night -/
def RS (I : Tb) (isTold act what thn met : Nat → Int32) : Prop := ∀ k, k < 16 → isTold k = nI (I 9 k) ∧ (I 9 k = 1 → act k = nI (I 10 k) ∧ what k = hI (I 11 k) ∧ thn k = nI (I 12 k) ∧ met k = hI (I 13 k))
def RH (I : Tb) (doorA doorB falls creak cold listens far : Nat → Int32) : Prop :=
  (∀ i, i < I 0 1 → doorA i = nI (I 3 i)) ∧ (∀ i, i < I 0 1 → doorB i = nI (I 4 i)) ∧ (∀ i, i < I 0 1 → falls i = nI (I 6 i)) ∧ (∀ i, i < I 0 0 → creak i = nI (I 1 i)) ∧ (∀ i, i < I 0 0 → cold i = nI (I 2 i)) ∧ (∀ i, i < I 0 5 → listens i = nI (I 16 i)) ∧ ∀ a b, a < I 0 0 → b < I 0 0 → far (8 * a + b) = nI (ds I nolk a b)
theorem r_stateOf_ok {N : Nat} {I n : Tb} {w : Nat → Int32} {s : Nat} (hi : ib I) (hs : s < I 0 4) (h : RN I n w) : fX12_stateOf N (nI s) w = some (nI (4 * n 3 s + n 4 s)) := by
  have hS := hi.S
  unfold fX12_stateOf
  simp (disch := omega) only [il, nI_add, gd_nI, nI_clamp, h.q3 hs, h.q4 hs, pk_mul]
theorem meets_ok {N : Nat} {I n : Tb} {w isTold act what thn met : Nat → Int32} {s : Nat} (hi : ib I) (hb : nb I n) (hs : s < I 0 4) (hR : RS I isTold act what thn met) (h : RN I n w) : ∃ w', fX12_meets N (nI s) w isTold met = some w' ∧ RN I (set2 n 4 s (ms I n s)) w' := by
  have hS := hi.S
  have hk := hb.k hi hs
  have hbs := hb.s hs
  obtain ⟨r1, r2⟩ := hR _ hk
  have ht1 := hi.told1 hk
  unfold fX12_meets
  rw [r_stateOf_ok hi hs h, bd_some]
  dsimp only [un1]
  unfold ms
  have hnc := hi.cnt
  by_cases c0 : I 9 (4 * n 3 s + n 4 s) = 0
  · simp (disch := omega) only [gd_nI, nI_clamp, r1, c0]
    rw [if_pos (show nI 0 = 0 from rfl), if_neg (by omega), set2_id rfl]
    exact ⟨w, rfl, h⟩
  · have c1 : I 9 (4 * n 3 s + n 4 s) = 1 := by omega
    obtain ⟨-, -, -, r3⟩ := r2 c1
    obtain ⟨-, -, -, k4, -, -⟩ := hi.told hk c1
    simp (disch := omega) only [gd_nI, nI_clamp, r1, c1, r3, hI_m2]
    rw [if_neg (show ¬ nI 1 = 0 by decide)]
    by_cases c2 : I 13 (4 * n 3 s + n 4 s) = 0
    · rw [if_pos c2, if_neg (fun q => q.2 c2), set2_id rfl]
      exact ⟨w, rfl, h⟩
    · rw [if_neg c2, if_pos ⟨trivial, c2⟩, hI_p c2]
      simp (disch := omega) only [il, nI_add, gd_nI, nI_clamp]
      exact ⟨_, rfl, h.stateOf hnc hs _⟩
theorem or_low {x m : Nat} (hm : m < 20) : (x ||| 2 ^ m) % 2 ^ 20 = x % 2 ^ 20 ||| 2 ^ m ∧ (x ||| 2 ^ m) / 2 ^ 20 = x / 2 ^ 20 := by
  have h1 : 2 ^ m < 2 ^ 20 := Nat.pow_lt_pow_right (by decide) hm
  rw [Nat.or_mod_two_pow, Nat.or_div_two_pow, Nat.mod_eq_of_lt h1, Nat.div_eq_of_lt h1, Nat.or_zero]
  exact ⟨rfl, rfl⟩
theorem or_high {x m : Nat} (hm : 20 ≤ m) : (x ||| 2 ^ m) % 2 ^ 20 = x % 2 ^ 20 ∧ (x ||| 2 ^ m) / 2 ^ 20 = x / 2 ^ 20 ||| 2 ^ (m - 20) := by
  have h1 : 2 ^ m = 2 ^ 20 * 2 ^ (m - 20) := wb_pw hm
  have h2 : 2 ^ m % 2 ^ 20 = 0 := by rw [h1, Nat.mul_mod_right]
  have h3 : 2 ^ m / 2 ^ 20 = 2 ^ (m - 20) := by rw [h1, Nat.mul_div_cancel_left _ (by decide)]
  rw [Nat.or_mod_two_pow, Nat.or_div_two_pow, h2, h3, Nat.or_zero]
  exact ⟨rfl, rfl⟩
theorem creaksIn_ok {N : Nat} {I n : Tb} {w doorA doorB falls creak cold listens far : Nat → Int32} {r : Nat} (hN : 64 < N) (hi : ib I) (hb : nb I n) (h1 : 0 < n 0 0) (hr : r < I 0 0) (hH : RH I doorA doorB falls creak cold listens far) (h : RN I n w) :
    ∃ w', fX12_creaksIn N (nI r) (nI (I 0 5)) creak listens far w = some w' ∧ RN I (crk I n r (I 0 5)) w' := by
  have hL := hi.L
  have hR := hi.R
  have hbb := hb.b
  have hnc := hi.cnt
  obtain ⟨-, -, -, H4, -, H6, H7⟩ := hH
  unfold fX12_creaksIn
  refine lp_go (X := fun o => ∃ w', o = some w' ∧ RN I (crk I n r (I 0 5)) w') (fun j s => ∃ w', s = (nI j, w') ∧ RN I (crk I n r j) w') (I 0 5) (by omega) ⟨w, rfl, h⟩ (fun j hj s hs => ?_) (fun s hs rec => ?_)
  · obtain ⟨w', rfl, hC⟩ := hs
    have hlis := hi.listens hj
    have h3 : ¬ I 0 5 ≤ j := by omega
    have h4 := ds_le hi nolk hr hlis
    have h5 := hi.room hr
    have h6 := hb.l hj
    have h49 : w' 49 = nI (n 0 0) := by rw [hC.1, crk_f (by omega)]
    have hx := hC.q10 hj
    rw [crk_i j (Nat.le_refl j)] at hx
    by_cases c : ds I nolk r (I 16 j) < I 1 r
    · have hwk : n 10 j = crk I n r j 10 j := (crk_i j (Nat.le_refl j)).symm
      rcases Nat.lt_or_ge (n 0 0 - 1) 20 with q | q
      · have hq := or_low (x := n 10 j) q
        have hd0 : (n 0 0 - 1) / 20 = 0 := Nat.div_eq_of_lt q
        have hm0 : (n 0 0 - 1) % 20 = n 0 0 - 1 := Nat.mod_eq_of_lt q
        have e0 : 43 + 2 * j + (n 0 0 - 1) / 20 = 43 + 2 * j := by omega
        refine ⟨(nI (j + 1), upd w' (43 + 2 * j) (nI ((n 10 j ||| 2 ^ (n 0 0 - 1)) % 2 ^ 20))), fun rec => ?_, _, rfl, ?_⟩
        · have p1 : 2 ^ (n 0 0 - 1) < 2 ^ 31 := Nat.pow_lt_pow_right (by decide) (by omega)
          simp (disch := omega) only [BX12_creaksIn_2, un2, un1, nI_leI, h3, if_false, gd_nI, nI_clamp, H6 j hj, il, pk_mul, nI_add, H7 r _ hr hlis, H4 r hr, jn, nI_ltI, c, if_true, h49, pk_sub, pk_div, pk_rem, e0, hm0, hx.1]
          rw [show n 0 0 - 1 - (n 0 0 - 1) / 20 * 20 = n 0 0 - 1 by omega, show nI 1 <<< (nI (n 0 0 - 1) &&& nI 31) = nI (2 ^ (n 0 0 - 1)) from one_shl (by omega), fa_or, hq.1]
        · show RN I (if _ then _ else _) _
          rw [if_pos c]
          exact hC.heard0 hnc hj _ (by rw [hq.2, hwk])
      · have hq := or_high (x := n 10 j) q
        have hd0 : (n 0 0 - 1) / 20 = 1 := by omega
        have hm0 : (n 0 0 - 1) % 20 = n 0 0 - 1 - 20 := by omega
        have e0 : 43 + 2 * j + (n 0 0 - 1) / 20 = 44 + 2 * j := by omega
        refine ⟨(nI (j + 1), upd w' (44 + 2 * j) (nI ((n 10 j ||| 2 ^ (n 0 0 - 1)) / 2 ^ 20))), fun rec => ?_, _, rfl, ?_⟩
        · simp (disch := omega) only [BX12_creaksIn_2, un2, un1, nI_leI, h3, if_false, gd_nI, nI_clamp, H6 j hj, il, pk_mul, nI_add, H7 r _ hr hlis, H4 r hr, jn, nI_ltI, c, if_true, h49, pk_sub, pk_div, pk_rem, e0, hm0, hx.2]
          rw [show n 0 0 - 1 - (n 0 0 - 1) / 20 * 20 = n 0 0 - 1 - 20 by omega, show nI 1 <<< (nI (n 0 0 - 1 - 20) &&& nI 31) = nI (2 ^ (n 0 0 - 1 - 20)) from one_shl (by omega), fa_or, hq.2]
        · show RN I (if _ then _ else _) _
          rw [if_pos c]
          exact hC.heard1 hnc hj _ (by rw [hq.1, hwk])
    · refine ⟨(nI (j + 1), w'), fun rec => ?_, _, rfl, ?_⟩
      · simp (disch := omega) only [BX12_creaksIn_2, un2, un1, nI_leI, h3, if_false, gd_nI, nI_clamp, H6 j hj, il, pk_mul, nI_add, H7 r _ hr hlis, H4 r hr, jn, nI_ltI, c]
      · show RN I (if _ then _ else _) _
        rw [if_neg c]
        exact hC
  · obtain ⟨w', rfl, hC⟩ := hs
    refine ⟨w', ?_, hC⟩
    simp (disch := omega) only [BX12_creaksIn_2, un2, nI_leI, Nat.le_refl, if_true]
theorem lockedDoors_ok {N : Nat} {I n : Tb} {w : Nat → Int32} (hN : 64 < N) (hi : ib I) (hb : nb I n) (h : RN I n w) : fX12_lockedDoors N (nI (I 0 1)) w = some (nI (mk (fun d => decide (n 1 d = 2)) (I 0 1))) := by
  have hD := hi.D
  unfold fX12_lockedDoors
  refine lp_for (fun j => (nI (mk (fun d => decide (n 1 d = 2)) j), nI j)) (I 0 1) N (by omega) (fun j hj rec => ?_) (fun rec => ?_)
  · have h3 : ¬ I 0 1 ≤ j := by omega
    have hbj := hb.d hj
    show _ = rec (nI (if decide (n 1 j = 2) = true then mk _ j ||| 2 ^ j else mk _ j), nI (j + 1))
    simp (disch := omega) only [BX12_lockedDoors_4, un2, nI_leI, h3, if_false, il, nI_add, gd_nI, nI_clamp, h.q1 hj, jn, nI_eq]
    by_cases c : n 1 j = 2
    · rw [if_pos c, if_pos (decide_eq_true c), show nI 1 <<< (nI j &&& nI 31) = nI (2 ^ j) from one_shl (by omega), fa_or]
    · rw [if_neg c, if_neg (fun q => c (of_decide_eq_true q)), fa_or, Nat.or_zero]
  · simp (disch := omega) only [BX12_lockedDoors_4, un2, nI_leI, Nat.le_refl, if_true]
theorem lk_same {I n : Tb} (hb : nb I n) {d : Nat} (hd : d < I 0 1) : (mk (fun d => decide (n 1 d = 2)) (I 0 1)).testBit d = lks I (n 0 1) d := by
  rw [mk_bit]
  have := (hb.d hd).2
  unfold lks
  by_cases c : n 1 d = 2
  · simp [hd, c, this.mp c]
  · have c2 : ¬ hnf I (n 0 1) d = 2 := fun q => c (this.mpr q)
    simp [c, c2]
/-- the rooms that the reference looks at -/
def cnd (I : Tb) (lk : Nat → Bool) (a b r : Nat) : Bool := decide (r ≠ a) && decide (dbt I a r < I 0 1) && !lk (dbt I a r) && decide (ds I lk b r ≠ 99)
theorem choice_ok {I : Tb} (hi : ib I) (lk : Nat → Bool) {a b : Nat} (ha : a < I 0 0) (hb : b < I 0 0) (hab : a ≠ b) : bst (cnd I lk a b) (ds I lk b) (I 0 0) = if fa_first (isT (ds I lk) a b) (I 0 0) < I 0 0 then some (fa_first (isT (ds I lk) a b) (I 0 0)) else none := by
  refine choice_same ha hb hab (fun r hr => ds_rev hi lk hb hr) (fun r hr h => by have := ds_small hi lk hr hb h; omega) (fun r hr => ?_) (fun x y hx hy => ds_le hi lk hx hy) (fun r hr h => ds_tri hi lk ha hr hb h) (fun h => ds_step hi lk ha hb hab h)
  rw [ds_adj hi lk ha hr, dbt_adj hi lk]
  unfold cnd
  have hne : dbt I a r < I 0 1 → r ≠ a := by
    intro q e
    have h1 := isB_iff.mp (fa_first_yes _ _ q)
    have h2 := (hi.door q).2.2.1
    have h3 : fa_first (isB (I 3) (I 4) a r) (I 0 1) = dbt I a r := rfl
    rw [h3] at h1
    omega
  constructor
  · intro h
    simp only [Bool.and_eq_true, decide_eq_true_eq, Bool.not_eq_true'] at h
    exact ⟨⟨h.1.1.2, h.1.2⟩, h.2⟩
  · intro ⟨⟨h1, h2⟩, h3⟩
    simp only [Bool.and_eq_true, decide_eq_true_eq, Bool.not_eq_true']
    exact ⟨⟨⟨hne h1, h1⟩, h2⟩, h3⟩
