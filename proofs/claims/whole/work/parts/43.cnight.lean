/-! the class's night -/
def cnb (p : Nat → Bool) : Nat → Nat
  | 0 => 0
  | j + 1 => cnb p j + (if p j = true then 1 else 0)
theorem cnb_le {p : Nat → Bool} : ∀ n, cnb p n ≤ n
  | 0 => Nat.le_refl 0
  | n + 1 => by
    have := cnb_le (p := p) n
    unfold cnb
    split <;> omega
theorem cnb_pos {p : Nat → Bool} : ∀ n, 0 < cnb p n ↔ fa_first p n < n
  | 0 => by unfold cnb; omega
  | n + 1 => by
    have ih := cnb_pos (p := p) n
    have hle := fa_first_le p n
    unfold cnb fa_first
    by_cases h : p n = true
    · rw [if_pos h, if_pos h]
      by_cases c : fa_first p n < n
      · rw [if_pos c]; omega
      · rw [if_neg c]; omega
    · rw [if_neg h, if_neg h]
      by_cases c : fa_first p n < n
      · rw [if_pos c]; omega
      · rw [if_neg c]; omega
theorem cnb_split {p : Nat → Bool} {s : Nat} (hs : p s = true) : ∀ n, cnb p n = cnb (fun q => decide (q ≠ s) && p q) n + (if s < n then 1 else 0)
  | 0 => by simp [cnb]
  | n + 1 => by
    have ih := cnb_split hs n
    unfold cnb
    rw [ih]
    by_cases c : n = s
    · subst c
      simp [hs]
    · have e1 : (decide (n ≠ s) && p n) = p n := by simp [c]
      rw [e1]
      by_cases c2 : s < n
      · simp only [c2, if_true, show s < n + 1 by omega]; omega
      · simp only [c2, if_false, show ¬ s < n + 1 by omega]; omega
theorem cnb_two {p : Nat → Bool} {s n : Nat} (hs : p s = true) (hn : s < n) : 1 < cnb p n ↔ fa_first (fun q => decide (q ≠ s) && p q) n < n := by
  rw [← cnb_pos, cnb_split hs n, if_pos hn]
  omega
theorem or2 (m k : Nat) : 2 * m ||| 2 * k = 2 * (m ||| k) := by
  have h : ∀ x, 2 * x = x <<< 1 := fun x => by rw [Nat.shiftLeft_eq]; omega
  rw [h, h, h, Nat.shiftLeft_or_distrib]
theorem heard_or {m b : Nat} (hm : m < 2 ^ 40) (h0 : 0 < b) (hb : b ≤ 40) : lN (2 * m) ||| ((1 : Int64) <<< ((nI b).toInt64 &&& 63)) = lN (2 * (m ||| 2 ^ (b - 1))) := by
  have h1 : (1 : Int64) <<< ((nI b).toInt64 &&& 63) = lN (2 ^ b) := by
    have := wb_shl 1 (k := b) (by omega)
    rw [Nat.one_mul] at this
    exact this
  have h2 : 2 ^ b = 2 * 2 ^ (b - 1) := by
    have : b = (b - 1) + 1 := by omega
    rw [this, Nat.pow_succ]; simp; omega
  have h3 : 2 ^ b ≤ 2 ^ 40 := Nat.pow_le_pow_right (by decide) hb
  rw [h1, wb_or (by omega) (by omega), h2, or2]
/-- what a dream's state tells, as the class keeps it -/
def sv (I : Tb) (k p : Nat) : Int32 := if I 9 k = 0 then -1 else if p = 0 then nI (I 10 k) else if p = 1 then hI (I 11 k) else if p = 2 then nI (I 12 k) else hI (I 13 k)
def CS (I : Tb) (states : Nat → Int32) : Prop := ∀ k p, k < 16 → p < 4 → states (4 * k + p) = sv I k p
theorem ofState_ok {N : Nat} {I : Tb} {states : Nat → Int32} {d s p : Nat} (hd : d < 4) (hs : s < 4) (hp : p < 4) (h : CS I states) : fX2_ofState N (nI d) (nI s) (nI p) states = some (sv I (4 * d + s) p) := by
  unfold fX2_ofState
  simp (disch := omega) only [il, pk_mul, nI_add, gd_nI, nI_clamp]
  rw [← h (4 * d + s) p (by omega) hp]
  rw [show (d * 4 + s) * 4 + p = 4 * (4 * d + s) + p by omega]
theorem isTold_ok {N : Nat} {I : Tb} {states : Nat → Int32} {d s : Nat} (hi : ib I) (hd : d < 4) (hs : s < 4) (h : CS I states) : fX2_isTold N (nI d) (nI s) states = some (nI (I 9 (4 * d + s))) := by
  unfold fX2_isTold
  have hk : 4 * d + s < 16 := by omega
  rw [show (0 : Int32) = nI 0 from rfl, ofState_ok hd hs (by omega) h, bd_some]
  simp only [un1, sv]
  have h1 := hi.told1 hk
  by_cases c : I 9 (4 * d + s) = 0
  · rw [if_pos c, if_pos rfl, c]
  · have c1 : I 9 (4 * d + s) = 1 := by omega
    have h2 := hi.told hk c1
    rw [if_neg c, if_pos trivial, if_neg (fun e => (nI_neg1 (by omega)).mp e), c1]
    rfl
theorem creakIn_ok {N : Nat} {I n : Tb} {been : Int32} {how passed dreamOf stateOf roomOf handOf awake thingIn full : Nat → Int32} {heardBy : Nat → Int64} {creak listensIn g : Nat → Int32} {r : Nat} (hN : 64 < N) (hi : ib I) (hb : nb I n) (h1 : 0 < n 0 0) (hr : r < I 0 0) (h : CN I n been how passed dreamOf stateOf roomOf handOf awake thingIn full heardBy) (hc : ∀ i, i < I 0 0 → creak i = nI (I 1 i)) (hl : ∀ i, i < I 0 5 → listensIn i = nI (I 16 i)) :
    ∃ hb', fX4_creakIn N (nI r) been (nI (I 0 5)) creak listensIn (mf (I 0 0) (ds I nolk) g) heardBy = some hb' ∧ CN I (crk I n r (I 0 5)) been how passed dreamOf stateOf roomOf handOf awake thingIn full hb' := by
  have hL := hi.L
  have hR := hi.R
  have hbb := hb.b
  have hbeen : been = nI (n 0 0) := h.1
  unfold fX4_creakIn
  refine lp_go (X := fun o => ∃ hb', o = some hb' ∧ CN I (crk I n r (I 0 5)) been how passed dreamOf stateOf roomOf handOf awake thingIn full hb') (fun j s => ∃ hb', s = (nI j, hb') ∧ CN I (crk I n r j) been how passed dreamOf stateOf roomOf handOf awake thingIn full hb') (I 0 5) (by omega) ⟨heardBy, rfl, h⟩ (fun j hj s hs => ?_) (fun s hs rec => ?_)
  · obtain ⟨hb', rfl, hC⟩ := hs
    have hlis := hi.listens hj
    have hx : hb' j = lN (2 * n 10 j) := by rw [hC.q10 hj, crk_i j (Nat.le_refl j)]
    have h3 : ¬ I 0 5 ≤ j := by omega
    have h4 := ds_le hi nolk hr hlis
    have h5 := hi.room hr
    have h6 := hb.l hj
    by_cases c : ds I nolk r (I 16 j) < I 1 r
    · have c' : ¬ I 1 r ≤ ds I nolk r (I 16 j) := by omega
      refine ⟨(nI (j + 1), vp_updL hb' j (lN (2 * (n 10 j ||| 2 ^ (n 0 0 - 1))))), fun rec => ?_, _, rfl, ?_⟩
      · simp (disch := omega) only [BX4_creakIn_2, un2, un1, nI_leI, h3, if_false, gd_nI, nI_clamp, hl j hj, doorsFrom_ok, bd_some, mf_at hr hlis hR, hc r hr, jn, c', hx, hbeen, heard_or, il, nI_add]
      · have := hC.heard j (n 10 j ||| 2 ^ (n 0 0 - 1)) hj
        show CN I (if _ then _ else _) been how passed dreamOf stateOf roomOf handOf awake thingIn full _
        rw [if_pos c]
        exact this
    · have c' : I 1 r ≤ ds I nolk r (I 16 j) := by omega
      refine ⟨(nI (j + 1), hb'), fun rec => ?_, _, rfl, ?_⟩
      · simp (disch := omega) only [BX4_creakIn_2, un2, un1, nI_leI, h3, if_false, gd_nI, nI_clamp, hl j hj, doorsFrom_ok, bd_some, mf_at hr hlis hR, hc r hr, jn, c', if_true, il, nI_add]
      · show CN I (if _ then _ else _) been how passed dreamOf stateOf roomOf handOf awake thingIn full _
        rw [if_neg c]
        exact hC
  · obtain ⟨hb', rfl, hC⟩ := hs
    refine ⟨hb', ?_, hC⟩
    simp (disch := omega) only [BX4_creakIn_2, un2, nI_leI, Nat.le_refl, if_true]
theorem asleep_ok {N : Nat} {I n : Tb} {been : Int32} {how passed dreamOf stateOf roomOf handOf awake thingIn full : Nat → Int32} {heardBy : Nat → Int64} {s r : Nat} (hi : ib I) (hb : nb I n) (hs : s < I 0 4) (hr : r < I 0 0) (h : CN I n been how passed dreamOf stateOf roomOf handOf awake thingIn full heardBy) : fX4_isAsleepIn N (nI s) (nI r) roomOf awake = some (nI (if aslp n r s = true then 1 else 0)) := by
  have hS := hi.S
  have hR := hi.R
  have h1 := hb.s hs
  unfold fX4_isAsleepIn aslp
  simp (disch := omega) only [gd_nI, nI_clamp, jn, un0, h.q5 hs, h.q7 hs, nI_eq, il]
  by_cases c1 : n 5 s = r
  · by_cases c2 : n 7 s = 0
    · rw [if_pos c1, if_pos c2, if_pos (decide_eq_true ⟨c1, c2⟩)]
    · rw [if_pos c1, if_neg c2, if_neg (fun q => c2 (of_decide_eq_true q).2)]
  · rw [if_neg c1, if_neg (fun q => c1 (of_decide_eq_true q).1)]
theorem bit_ok {N k : Nat} (hk : k ≤ 1) : fX10_bit N (nI k) = some (nI k) := by
  unfold fX10_bit
  by_cases c : k = 0
  · subst c; rfl
  · have : k = 1 := by omega
    subst this; rfl
theorem meetIn_ok {N : Nat} {I n : Tb} {been : Int32} {how passed dreamOf stateOf roomOf handOf awake thingIn full states : Nat → Int32} {heardBy : Nat → Int64} {s r : Nat} (hN : 64 < N) (hi : ib I) (hb : nb I n) (hs : s < I 0 4) (hr : r < I 0 0) (hsr : n 5 s = r) (hsa : n 7 s = 0) (hst : CS I states) (h : CN I n been how passed dreamOf stateOf roomOf handOf awake thingIn full heardBy) :
    ∃ st', fX4_meetIn N (nI r) (nI (I 0 4)) dreamOf stateOf states roomOf awake = some st' ∧ CN I (mta I n s r) been how passed dreamOf st' roomOf handOf awake thingIn full heardBy := by
  have hS := hi.S
  have hR := hi.R
  have hE := hi.E
  have hp : aslp n r s = true := decide_eq_true ⟨hsr, hsa⟩
  have hcn := cnb_le (p := aslp n r) (I 0 4)
  unfold fX4_meetIn
  have a0 : ∀ K : Int32 → Option (Nat → Int32), lp (BX4_meetIn_4 (nI (I 0 4)) N (nI r) roomOf awake K) N (0, 0) = K (nI (cnb (aslp n r) (I 0 4))) := by
    intro K
    refine lp_for (fun j => (nI (cnb (aslp n r) j), nI j)) (I 0 4) N (by omega) (fun j hj rec => ?_) (fun rec => ?_)
    · have h3 : ¬ I 0 4 ≤ j := by omega
      have hk : (if aslp n r j = true then 1 else 0) ≤ 1 := by split <;> omega
      simp (disch := omega) only [BX4_meetIn_4, un2, un1, nI_leI, h3, if_false, asleep_ok hi hb hj hr h, bd_some, bit_ok hk, nI_add, il]
      rfl
    · simp (disch := omega) only [BX4_meetIn_4, un2, un1, nI_leI, Nat.le_refl, if_true]
  rw [a0]
  simp only [un1]
  unfold mta
  by_cases c : fa_first (fun q => decide (q ≠ s) && aslp n r q) (I 0 4) < I 0 4
  · have c1 := (cnb_two hp hs).mpr c
    rw [if_pos c]
    have c2 : ¬ cnb (aslp n r) (I 0 4) ≤ 1 := by omega
    refine lp_go (X := fun o => ∃ st', o = some st' ∧ CN I (mtK I n (aslp n r) (I 0 4)) been how passed dreamOf st' roomOf handOf awake thingIn full heardBy) (fun j q => ∃ st', q = (nI j, st') ∧ CN I (mtK I n (aslp n r) j) been how passed dreamOf st' roomOf handOf awake thingIn full heardBy) (I 0 4) (by omega) ⟨stateOf, rfl, by rw [mtK_0]; exact h⟩ (fun j hj q hq => ?_) (fun q hq rec => ?_)
    · obtain ⟨st', rfl, hC⟩ := hq
      have h3 : ¬ I 0 4 ≤ j := by omega
      have hbj := hb.s hj
      have hkj := hb.k hi hj
      have hx : st' j = nI (n 4 j) := by rw [hC.q4 hj, mtK_ge (Nat.le_refl j)]
      have hy : dreamOf j = nI (n 3 j) := h.q3 hj
      have hof : fX2_ofState N (nI (n 3 j)) (nI (n 4 j)) (nI 3) states = some (sv I (4 * n 3 j + n 4 j) 3) := ofState_ok (by omega) (by omega) (by omega) hst
      have hms : ms I (mtK I n (aslp n r) j) j = ms I n j := mtK_ms (Or.inl (Nat.le_refl j))
      by_cases ca : aslp n r j = true
      · by_cases cm : I 9 (4 * n 3 j + n 4 j) = 1 ∧ I 13 (4 * n 3 j + n 4 j) ≠ 0
        · have ht := hi.told hkj cm.1
          have e3 : sv I (4 * n 3 j + n 4 j) 3 = nI (I 13 (4 * n 3 j + n 4 j) - 1) := by
            unfold sv
            rw [if_neg (by omega), if_neg (by omega), if_neg (by omega), if_neg (by omega), hI_p cm.2]
          have e4 : ms I n j = I 13 (4 * n 3 j + n 4 j) - 1 := if_pos cm
          refine ⟨(nI (j + 1), upd st' j (nI (ms I n j))), fun rec => ?_, _, rfl, ?_⟩
          · simp (disch := omega) only [BX4_meetIn_35, un2, un1, nI_leI, h3, c2, if_false, gd_nI, nI_clamp, hx, hy, il, hof, bd_some, asleep_ok hi hb hj hr h, ca, if_true, jn, nI_eq, e3, e4, nI_ltI, Nat.not_lt_zero, nI_add]
            rw [if_neg (by omega)]
          · rw [mtK_yes ca]
            exact hC.stateOf j _
        · have e3 : sv I (4 * n 3 j + n 4 j) 3 < nI 0 := by
            have ht1 := hi.told1 hkj
            unfold sv
            by_cases q : I 9 (4 * n 3 j + n 4 j) = 0
            · rw [if_pos q]; decide
            · have q13 : I 13 (4 * n 3 j + n 4 j) = 0 := by omega
              rw [if_neg q, if_neg (by omega), if_neg (by omega), if_neg (by omega), q13]; decide
          have e4 : ms I n j = n 4 j := if_neg cm
          refine ⟨(nI (j + 1), st'), fun rec => ?_, _, rfl, ?_⟩
          · simp (disch := omega) only [BX4_meetIn_35, un2, un1, nI_leI, h3, c2, if_false, gd_nI, nI_clamp, hx, hy, il, hof, bd_some, asleep_ok hi hb hj hr h, ca, if_true, jn, nI_eq, e3, nI_add]
            rw [if_neg (by omega)]
          · rw [mtK_yes ca, e4, set2_id (mtK_ge (Nat.le_refl j))]
            exact hC
      · have ca' : aslp n r j = false := by simpa using ca
        refine ⟨(nI (j + 1), st'), fun rec => ?_, _, rfl, ?_⟩
        · simp (disch := omega) only [BX4_meetIn_35, un2, un1, nI_leI, h3, c2, if_false, gd_nI, nI_clamp, hx, hy, il, hof, bd_some, asleep_ok hi hb hj hr h, ca', if_true, jn, nI_add]
          exact if_pos rfl
        · rw [mtK_no ca']
          exact hC
    · obtain ⟨st', rfl, hC⟩ := hq
      refine ⟨st', ?_, hC⟩
      simp (disch := omega) only [BX4_meetIn_35, un2, nI_leI, Nat.le_refl, if_true]
  · have c1 : ¬ 1 < cnb (aslp n r) (I 0 4) := fun q => c ((cnb_two hp hs).mp q)
    rw [if_neg c]
    have c2 : cnb (aslp n r) (I 0 4) ≤ 1 := by omega
    refine ⟨stateOf, ?_, h⟩
    cases N with
    | zero => omega
    | succ N =>
      show BX4_meetIn_35 _ _ _ _ _ _ _ _ _ _ = _
      have h3 : ¬ I 0 4 ≤ 0 := by omega
      simp (disch := omega) only [BX4_meetIn_35, un2, nI_leI, il, h3, if_false, c2, if_true]
