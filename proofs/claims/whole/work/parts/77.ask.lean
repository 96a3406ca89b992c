/-! what can be asked of an inn and of a night -/
def QR (c : Option (Int32 × Int32)) (r : Option (Int32 × Int32 × Int32 × Int32)) : Prop := ∃ v tr, c = some (v, tr) ∧ r = some (v, 0, tr, -1) ∧ tr ≠ 4
theorem QR.no {c : Option (Int32 × Int32)} {r : Option (Int32 × Int32 × Int32 × Int32)} (h1 : c = some (-1, 1)) (h2 : r = some (-1, 0, 1, -1)) : QR c r := ⟨_, _, h1, h2, by decide⟩
theorem QR.yes {c : Option (Int32 × Int32)} {r : Option (Int32 × Int32 × Int32 × Int32)} (v : Int32) (h1 : c = some (v, 0)) (h2 : r = some (v, 0, 0, -1)) : QR c r := ⟨_, _, h1, h2, by decide⟩
theorem i1n0 : ((1 : Int32) = 0) = False := eq_false (by decide)
theorem q_far {N : Nat} {I : Tb} {far g : Nat → Int32} (p0 p1 : Int32) (hi : ib I) (hf : ∀ a b, a < I 0 0 → b < I 0 0 → far (8 * a + b) = nI (ds I nolk a b)) : QR (fX10_far N p0 p1 (nI (I 0 0)) (mf (I 0 0) (ds I nolk) g)) (fX12_far N p0 p1 (nI (I 0 0)) far) := by
  have hR := hi.R
  unfold fX10_far fX12_far
  by_cases c : dinb p0 (I 0 0) = true
  · by_cases d : dinb p1 (I 0 0) = true
    · obtain ⟨a, ha, rfl⟩ := dinb_y (by omega) c
      obtain ⟨b, hb, rfl⟩ := dinb_y (by omega) d
      have e8 : (8 * nI a + nI b : Int32) = nI (8 * a + b) := by rw [show (8 : Int32) = nI 8 from rfl, pk_mul, nI_add]
      have em : mf (I 0 0) (ds I nolk) g (a * 8 + b) = nI (ds I nolk a b) := by
        unfold mf
        rw [show (a * 8 + b) / 8 = a by omega, show (a * 8 + b) % 8 = b by omega, if_pos ⟨ha, hb⟩]
      have edo := doorsFrom_ok (N := N) (a := a) (b := b) (by omega) (by omega) (mf (I 0 0) (ds I nolk) g)
      simp (disch := omega) only [c_isRoom, r_isRoom, c, d, edo, em, e8, gd_nI, nI_clamp, hf a b ha hb, bd_some, un1, un2, un3, jn, un0, bI_t, bI_f, i1n0, if_true, if_false, fX10_refuse, fX12_refused, fX10_answer, fX12_good]
      exact QR.yes _ rfl rfl
    · simp only [c_isRoom, r_isRoom, c, Bool.eq_false_iff.mpr d, bd_some, un1, un2, un3, jn, un0, bI_t, bI_f, i1n0, if_true, if_false, fX10_refuse, fX12_refused, fX10_answer, fX12_good]
      exact QR.no rfl rfl
  · simp only [c_isRoom, r_isRoom, Bool.eq_false_iff.mpr c, bd_some, un1, un2, un3, jn, un0, bI_t, bI_f, i1n0, if_true, if_false, fX10_refuse, fX12_refused, fX10_answer, fX12_good]
    exact QR.no rfl rfl
theorem q_room {N : Nat} {I : Tb} {creak cold rcreak rcold : Nat → Int32} (p0 p1 : Int32) (hi : ib I) (h1 : ∀ i, i < I 0 0 → creak i = nI (I 1 i)) (h2 : ∀ i, i < I 0 0 → cold i = nI (I 2 i)) (h3 : ∀ i, i < I 0 0 → rcreak i = nI (I 1 i) ∧ rcold i = nI (I 2 i)) : QR (fX10_room N p0 p1 (nI (I 0 0)) cold creak) (fX12_room N p0 p1 (nI (I 0 0)) rcold rcreak) := by
  have hR := hi.R
  have cb : fX10_isBelow N p1 2 = some (bI (dinb p1 2)) := c_below N p1 2
  have rb : fX12_in N p1 0 1 = some (bI (dinb p1 2)) := r_in0 (n := 1) N p1 (by omega)
  unfold fX10_room fX12_room
  by_cases c : dinb p0 (I 0 0) = true
  · by_cases d : dinb p1 2 = true
    · obtain ⟨a, ha, rfl⟩ := dinb_y (by omega) c
      have hro := hi.room ha
      have hbit := bit_ok (N := N) hro.2
      simp (disch := omega) only [c_isRoom, r_isRoom, cb, rb, c, d, gd_nI, nI_clamp, h1 a ha, h2 a ha, (h3 a ha).1, (h3 a ha).2, hbit, bd_some, un1, un2, un3, jn, un0, bI_t, bI_f, i1n0, if_true, if_false, fX10_refuse, fX12_refused, fX10_answer, fX12_good]
      by_cases e : p1 = 0
      · rw [if_pos e, if_pos e]
        exact QR.yes _ rfl rfl
      · rw [if_neg e, if_neg e]
        have : I 2 a = 0 ∨ I 2 a = 1 := by omega
        rcases this with z | z
        · rw [z]
          exact QR.yes 0 rfl rfl
        · rw [z]
          exact QR.yes 1 rfl rfl
    · simp only [c_isRoom, r_isRoom, cb, rb, c, Bool.eq_false_iff.mpr d, bd_some, un1, un2, un3, jn, un0, bI_t, bI_f, i1n0, if_true, if_false, fX10_refuse, fX12_refused, fX10_answer, fX12_good]
      exact QR.no rfl rfl
  · simp only [c_isRoom, r_isRoom, Bool.eq_false_iff.mpr c, bd_some, un1, un2, un3, jn, un0, bI_t, bI_f, i1n0, if_true, if_false, fX10_refuse, fX12_refused, fX10_answer, fX12_good]
    exact QR.no rfl rfl
theorem q_door {N : Nat} {I : Tb} {one other rA rB : Nat → Int32} (p0 p1 : Int32) (hN : 64 < N) (hi : ib I) (h1 : ∀ i, i < I 0 1 → one i = nI (I 3 i)) (h2 : ∀ i, i < I 0 1 → other i = nI (I 4 i)) (h3 : ∀ i, i < I 0 1 → rA i = nI (I 3 i)) (h4 : ∀ i, i < I 0 1 → rB i = nI (I 4 i)) : QR (fX10_door N p0 p1 (nI (I 0 0)) (nI (I 0 1)) one other) (fX12_door N p0 p1 (nI (I 0 0)) (nI (I 0 1)) rA rB) := by
  have hR := hi.R
  have hD := hi.D
  unfold fX10_door fX12_door
  by_cases c : dinb p0 (I 0 0) = true
  · by_cases d : dinb p1 (I 0 0) = true
    · by_cases e : p0 = p1
      · simp only [c_isRoom, r_isRoom, c, d, bd_some, un1, un2, un3, jn, un0, bI_t, bI_f, i1n0, if_true, if_false, fX10_refuse, fX12_refused, fX10_answer, fX12_good]
        rw [if_pos e, if_pos e]
        exact QR.no rfl rfl
      · obtain ⟨a, ha, rfl⟩ := dinb_y (by omega) c
        obtain ⟨b, hb, rfl⟩ := dinb_y (by omega) d
        have e1 := doorBetween_ok (N := N) (a := a) (b := b) hN hD (by omega) (by omega) h1 h2 (ib_o8 hi)
        have e2 := between_ok (N := N) (a := a) (b := b) hN hD (by omega) (by omega) h3 h4 (ib_o8 hi)
        simp only [c_isRoom, r_isRoom, c, d, e1, e2, bd_some, un1, un2, un3, jn, un0, bI_t, bI_f, i1n0, if_true, if_false, fX10_refuse, fX12_refused, fX10_answer, fX12_good]
        rw [if_neg e, if_neg e]
        by_cases f : fa_first (isB (I 3) (I 4) a b) (I 0 1) < I 0 1
        · rw [if_pos f, if_pos f, if_neg (fun q => (nI_neg1 (by omega)).mp q)]
          exact QR.yes _ rfl rfl
        · rw [if_neg f, if_neg f, if_pos rfl]
          exact QR.yes _ rfl rfl
    · simp only [c_isRoom, r_isRoom, c, Bool.eq_false_iff.mpr d, bd_some, un1, un2, un3, jn, un0, bI_t, bI_f, i1n0, if_true, if_false, fX10_refuse, fX12_refused, fX10_answer, fX12_good]
      exact QR.no rfl rfl
  · simp only [c_isRoom, r_isRoom, Bool.eq_false_iff.mpr c, bd_some, un1, un2, un3, jn, un0, bI_t, bI_f, i1n0, if_true, if_false, fX10_refuse, fX12_refused, fX10_answer, fX12_good]
    exact QR.no rfl rfl
theorem q_dream {N : Nat} {I : Tb} {states isTold act what thn met : Nat → Int32} (p0 p1 p2 : Int32) (hi : ib I) (hC : CS I states) (hR : RS I isTold act what thn met) : QR (fX10_dream N p0 p1 p2 (nI (I 0 3)) states) (fX12_dream N p0 p1 p2 (nI (I 0 3)) isTold met thn what act) := by
  have hE := hi.E
  have cb : ∀ p, fX10_isBelow N p 4 = some (bI (dinb p 4)) := fun p => c_below N p 4
  have rb : ∀ p, fX12_in N p 0 3 = some (bI (dinb p 4)) := fun p => r_in0 (n := 3) N p (by omega)
  unfold fX10_dream fX12_dream
  by_cases c : dinb p0 (I 0 3) = true
  · by_cases d : dinb p1 4 = true
    · by_cases f : dinb p2 4 = true
      · obtain ⟨a, ha, rfl⟩ := dinb_y (by omega) c
        obtain ⟨b, hb, rfl⟩ := dinb_y (by omega) d
        obtain ⟨k, hk, rfl⟩ := dinb_y (by omega) f
        have et := isTold_ok (N := N) hi (show a < 4 by omega) hb hC
        have eo := ofState_ok (N := N) (show a < 4 by omega) hb hk hC
        have e4 : (4 * nI a + nI b : Int32) = nI (4 * a + b) := by rw [show (4 : Int32) = nI 4 from rfl, pk_mul, nI_add]
        obtain ⟨r1, r2⟩ := hR (4 * a + b) (by omega)
        have h1 := hi.told1 (k := 4 * a + b) (by omega)
        simp (disch := omega) only [c_below, r_isDream, cb, rb, c, d, f, et, eo, e4, gd_nI, nI_clamp, r1, bd_some, un1, un2, un3, jn, un0, bI_t, bI_f, i1n0, if_true, if_false, fX10_refuse, fX12_refused, fX10_answer, fX12_good]
        by_cases z : I 9 (4 * a + b) = 0
        · rw [z]
          exact ⟨_, _, rfl, rfl, by decide⟩
        · have z1 : I 9 (4 * a + b) = 1 := by omega
          obtain ⟨s1, s2, s3, s4⟩ := r2 z1
          rw [z1, if_neg (by decide), if_neg (by decide), s1, s2, s3, s4]
          unfold sv
          rw [if_neg z]
          have : k = 0 ∨ k = 1 ∨ k = 2 ∨ k = 3 := by omega
          rcases this with rfl | rfl | rfl | rfl
          · exact QR.yes _ rfl rfl
          · exact QR.yes _ rfl rfl
          · exact QR.yes _ rfl rfl
          · exact QR.yes _ rfl rfl
      · simp only [c_below, r_isDream, cb, rb, c, d, Bool.eq_false_iff.mpr f, bd_some, un1, un2, un3, jn, un0, bI_t, bI_f, i1n0, if_true, if_false, fX10_refuse, fX12_refused, fX10_answer, fX12_good]
        exact QR.no rfl rfl
    · simp only [c_below, r_isDream, cb, rb, c, Bool.eq_false_iff.mpr d, bd_some, un1, un2, un3, jn, un0, bI_t, bI_f, i1n0, if_true, if_false, fX10_refuse, fX12_refused, fX10_answer, fX12_good]
      exact QR.no rfl rfl
  · simp only [c_below, r_isDream, Bool.eq_false_iff.mpr c, bd_some, un1, un2, un3, jn, un0, bI_t, bI_f, i1n0, if_true, if_false, fX10_refuse, fX12_refused, fX10_answer, fX12_good]
    exact QR.no rfl rfl
theorem q_sleeper {N : Nat} {I n : Tb} {been : Int32} {how passed dreamOf stateOf roomOf handOf awake thingIn full w : Nat → Int32} {heardBy : Nat → Int64} (p0 p1 : Int32) (hi : ib I) (hb : nb I n) (hC : CN I n been how passed dreamOf stateOf roomOf handOf awake thingIn full heardBy) (hR : RN I n w) : QR (fX10_sleeper N p0 p1 (nI (I 0 4)) dreamOf awake handOf stateOf roomOf) (fX12_sleeper N p0 p1 (nI (I 0 4)) w) := by
  have hS := hi.S
  obtain ⟨_, _, _, a3, a4, a5, a6, a7, _⟩ := hC
  obtain ⟨_, _, _, _, b3, b4, b5, b6, b7, _⟩ := hR
  have rb : fX12_in N p1 0 4 = some (bI (dinb p1 5)) := r_in0 (n := 4) N p1 (by omega)
  unfold fX10_sleeper fX12_sleeper
  by_cases c : dinb p0 (I 0 4) = true
  · obtain ⟨s, hs, rfl⟩ := dinb_y (by omega) c
    have hbs := hb.s hs
    have hbit := bit_ok (N := N) hbs.2.2.2.2
    have e0 : (0 : Int32) + nI s = nI (0 + s) := nI_add 0 s
    have e3 : (3 : Int32) + nI s = nI (3 + s) := nI_add 3 s
    have e6 : (6 : Int32) + nI s = nI (6 + s) := nI_add 6 s
    have e9 : (9 : Int32) + nI s = nI (9 + s) := nI_add 9 s
    have e12 : (12 : Int32) + nI s = nI (12 + s) := nI_add 12 s
    simp (disch := omega) only [c_isSleeper, r_isSleeper, rb, c, gd_nI, nI_clamp, a3 s hs, a4 s hs, a5 s hs, a6 s hs, a7 s hs, b3 s hs, b4 s hs, b5 s hs, b6 s hs, b7 s hs, hbit, e0, e3, e6, e9, e12, bd_some, un1, un2, un3, jn, un0, bI_t, bI_f, i1n0, if_true, if_false, fX10_refuse, fX12_refused, fX10_answer, fX12_good]
    by_cases f : dinb p1 5 = true
    · obtain ⟨k, hk, rfl⟩ := dinb_y (by omega) f
      rw [f]
      have : k = 0 ∨ k = 1 ∨ k = 2 ∨ k = 3 ∨ k = 4 := by omega
      rcases this with rfl | rfl | rfl | rfl | rfl
      · exact QR.yes _ rfl rfl
      · exact QR.yes _ rfl rfl
      · exact QR.yes _ rfl rfl
      · exact QR.yes _ rfl rfl
      · exact QR.yes _ rfl rfl
    · rw [Bool.eq_false_iff.mpr f, if_neg (fun q => f (by rw [q]; decide)), if_neg (fun q => f (by rw [q]; decide)), if_neg (fun q => f (by rw [q]; decide)), if_neg (fun q => f (by rw [q]; decide)), if_neg (fun q => f (by rw [q]; decide))]
      exact QR.no rfl rfl
  · simp only [c_isSleeper, r_isSleeper, Bool.eq_false_iff.mpr c, bd_some, un1, un2, un3, jn, un0, bI_t, bI_f, i1n0, if_true, if_false, fX10_refuse, fX12_refused, fX10_answer, fX12_good]
    exact QR.no rfl rfl
theorem q_thing {N : Nat} {I n : Tb} {been : Int32} {how passed dreamOf stateOf roomOf handOf awake thingIn full w : Nat → Int32} {heardBy : Nat → Int64} (p0 p1 : Int32) (hN : 64 < N) (hi : ib I) (hb : nb I n) (hC : CN I n been how passed dreamOf stateOf roomOf handOf awake thingIn full heardBy) (hR : RN I n w) : QR (fX10_thing N p0 p1 (nI (I 0 2)) (nI (I 0 4)) handOf full thingIn) (fX12_thing N p0 p1 (nI (I 0 2)) (nI (I 0 4)) w) := by
  have hT := hi.T
  have rb : fX12_in N p1 0 2 = some (bI (dinb p1 3)) := r_in0 (n := 2) N p1 (by omega)
  unfold fX10_thing fX12_thing
  by_cases c : dinb p0 (I 0 2) = true
  · obtain ⟨t, ht, rfl⟩ := dinb_y (by omega) c
    have hbt := hb.t ht
    have hbit := bit_ok (N := N) hbt.2
    have h1 := holderOf_ok (N := N) hN hi hb (show t < 4 by omega) hC
    have h2 := holder_ok (N := N) hN hi hb (show t < 4 by omega) hR
    obtain ⟨_, _, _, _, _, _, _, _, a8, a9, _⟩ := hC
    obtain ⟨_, _, _, _, _, _, _, _, _, b8, b9, _⟩ := hR
    have e15 : (15 : Int32) + nI t = nI (15 + t) := nI_add 15 t
    have e19 : (19 : Int32) + nI t = nI (19 + t) := nI_add 19 t
    simp (disch := omega) only [c_isThing, r_isThing, rb, c, gd_nI, nI_clamp, a8 t ht, a9 t ht, b8 t ht, b9 t ht, hbit, h1, h2, e15, e19, bd_some, un1, un2, un3, jn, un0, bI_t, bI_f, i1n0, if_true, if_false, fX10_refuse, fX12_refused, fX10_answer, fX12_good]
    by_cases f : dinb p1 3 = true
    · obtain ⟨k, hk, rfl⟩ := dinb_y (by omega) f
      rw [f]
      have : k = 0 ∨ k = 1 ∨ k = 2 := by omega
      rcases this with rfl | rfl | rfl
      · exact QR.yes _ rfl rfl
      · exact QR.yes _ rfl rfl
      · exact QR.yes _ rfl rfl
    · rw [Bool.eq_false_iff.mpr f, if_neg (fun q => f (by rw [q]; decide)), if_neg (fun q => f (by rw [q]; decide)), if_neg (fun q => f (by rw [q]; decide))]
      exact QR.no rfl rfl
  · simp only [c_isThing, r_isThing, Bool.eq_false_iff.mpr c, bd_some, un1, un2, un3, jn, un0, bI_t, bI_f, i1n0, if_true, if_false, fX10_refuse, fX12_refused, fX10_answer, fX12_good]
    exact QR.no rfl rfl
theorem q_doorway {N : Nat} {I n : Tb} {been : Int32} {how passed dreamOf stateOf roomOf handOf awake thingIn full w : Nat → Int32} {heardBy : Nat → Int64} (p0 p1 : Int32) (hi : ib I) (hC : CN I n been how passed dreamOf stateOf roomOf handOf awake thingIn full heardBy) (hR : RN I n w) : QR (fX10_doorway N p0 p1 (nI (I 0 1)) passed how) (fX12_doorway N p0 p1 (nI (I 0 1)) w) := by
  have hD := hi.D
  have cb : fX10_isBelow N p1 2 = some (bI (dinb p1 2)) := c_below N p1 2
  have rb : fX12_in N p1 0 1 = some (bI (dinb p1 2)) := r_in0 (n := 1) N p1 (by omega)
  unfold fX10_doorway fX12_doorway
  by_cases c : dinb p0 (I 0 1) = true
  · obtain ⟨d, hd, rfl⟩ := dinb_y (by omega) c
    obtain ⟨_, a1, a2, _⟩ := hC
    obtain ⟨_, _, b1, b2, _⟩ := hR
    have e23 : (23 : Int32) + nI d = nI (23 + d) := nI_add 23 d
    have e33 : (33 : Int32) + nI d = nI (33 + d) := nI_add 33 d
    simp (disch := omega) only [c_isDoor, r_isDoor, cb, rb, c, gd_nI, nI_clamp, a1 d hd, a2 d hd, b1 d hd, b2 d hd, e23, e33, bd_some, un1, un2, un3, jn, un0, bI_t, bI_f, i1n0, if_true, if_false, fX10_refuse, fX12_refused, fX10_answer, fX12_good]
    by_cases f : dinb p1 2 = true
    · rw [f]
      by_cases z : p1 = 0
      · rw [if_pos z, if_pos z]
        exact QR.yes _ rfl rfl
      · rw [if_neg z, if_neg z]
        exact QR.yes _ rfl rfl
    · rw [Bool.eq_false_iff.mpr f]
      exact QR.no rfl rfl
  · simp only [c_isDoor, r_isDoor, Bool.eq_false_iff.mpr c, bd_some, un1, un2, un3, jn, un0, bI_t, bI_f, i1n0, if_true, if_false, fX10_refuse, fX12_refused, fX10_answer, fX12_good]
    exact QR.no rfl rfl
theorem c_bitL {N h mi : Nat} (h1 : 1 ≤ mi) (h2 : mi ≤ 40) (hh : h < 2 ^ 40) : fX10_isBitSet N (lN (2 * h)) (nI mi) = some (bI (h.testBit (mi - 1))) := by
  unfold fX10_isBitSet
  have e : 2 * h / 2 ^ mi % 2 = h / 2 ^ (mi - 1) % 2 := by
    obtain ⟨q, rfl⟩ : ∃ q, mi = q + 1 := ⟨mi - 1, by omega⟩
    rw [Nat.pow_succ, Nat.mul_comm (2 ^ q), Nat.mul_div_mul_left _ _ (by decide)]
    rfl
  rw [wb_bit (by omega) (by omega), e, tb_div]
  by_cases c : h.testBit (mi - 1) = true
  · rw [if_pos c, c, if_neg (fun e => absurd ((lgc0' _ _).mp e) (by decide))]; rfl
  · rw [if_neg c, Bool.eq_false_iff.mpr c, if_pos ((lgc0' (lN 0) 0).mpr rfl)]; rfl
theorem r_in1 (N : Nat) {j m : Nat} (hj : j < 2 ^ 31) (hm : m < 2 ^ 31) : fX12_in N (nI j) 1 (nI m) = some (bI (decide (1 ≤ j ∧ j ≤ m))) := by
  show (if nI j < nI 1 then _ else if nI m < nI j then _ else _) = _
  by_cases c : j < 1
  · rw [if_pos ((nI_ltI hj (by omega)).mpr c), decide_eq_false (fun q => by omega)]; rfl
  · rw [if_neg (fun q => c ((nI_ltI hj (by omega)).mp q))]
    by_cases d : m < j
    · rw [if_pos ((nI_ltI hm hj).mpr d), decide_eq_false (fun q => by omega)]; rfl
    · rw [if_neg (fun q => d ((nI_ltI hm hj).mp q)), decide_eq_true ⟨by omega, by omega⟩]; rfl
theorem neg_lt1 {p : Int32} (h : p < 0) : p < 1 := by
  rw [fa_lt] at h ⊢
  have e0 : (0 : Int32).toInt = 0 := rfl
  have e1 : (1 : Int32).toInt = 1 := rfl
  omega
theorem nI_lt1 {j : Nat} (hj : j < 2 ^ 31) : nI j < (1 : Int32) ↔ j < 1 := nI_ltI (b := 1) hj (by omega)
theorem q_heard {N : Nat} {I n : Tb} {been : Int32} {how passed dreamOf stateOf roomOf handOf awake thingIn full w : Nat → Int32} {heardBy : Nat → Int64} (p0 p1 : Int32) (hi : ib I) (hb : nb I n) (hC : CN I n been how passed dreamOf stateOf roomOf handOf awake thingIn full heardBy) (hR : RN I n w) : QR (fX10_heard N p0 p1 (nI (I 0 5)) been heardBy) (fX12_heard N p0 p1 (nI (I 0 5)) w) := by
  have hL := hi.L
  have hb40 := hb.b
  have hears := fun l mi (hl : l < I 0 5) (h1 : 1 ≤ mi) (h2 : mi ≤ 40) => hears_ok (N := N) (l := l) (mi := mi) hi hb hR hl h1 h2
  obtain ⟨a0, _, _, _, _, _, _, _, _, _, a10, _, _⟩ := hC
  obtain ⟨b0, _⟩ := hR
  subst a0
  have g49 : ∀ K : Option (Int32 × Int32 × Int32 × Int32), gd 49 51 K = K := fun K => gd_nI (k := 49) K (by omega) (by omega)
  have c49 : w (Int32.toNatClampNeg 49) = nI (n 0 0) := b0
  unfold fX10_heard fX12_heard
  by_cases c : dinb p0 (I 0 5) = true
  · obtain ⟨l, hl, rfl⟩ := dinb_y (by omega) c
    have hlt := hb.l hl
    simp (disch := omega) only [c_isListener, r_isListener, c, g49, c49, gd_nI, nI_clamp, a10 l hl, bd_some, un1, un2, un3, jn, un0, bI_t, bI_f, i1n0, if_true, if_false, fX10_refuse, fX12_refused, fX10_answer, fX12_good]
    by_cases hp : p1 < 0
    · rw [if_pos (neg_lt1 hp)]
      have : fX12_in N p1 1 (nI (n 0 0)) = some 0 := by
        show (if p1 < 1 then _ else _) = _
        rw [if_pos (neg_lt1 hp)]
        rfl
      simp only [this, bd_some, un1, un2, un3, jn, un0, bI_t, bI_f, i1n0, if_true, if_false, fX10_refuse, fX12_refused, fX10_answer, fX12_good]
      exact QR.no rfl rfl
    · obtain ⟨j, hj, rfl⟩ := nI_of hp
      rw [r_in1 N hj (by omega)]
      by_cases d : 1 ≤ j ∧ j ≤ n 0 0
      · rw [if_neg (fun q => absurd ((nI_lt1 hj).mp q) (by omega)), if_pos ((nI_leI hj (by omega)).mpr d.2), c_bitL d.1 (by omega) hlt, decide_eq_true d]
        simp only [hears l j hl d.1 (by omega), bd_some, un1, un2, un3, jn, un0, bI_t, bI_f, i1n0, if_true, if_false, fX10_refuse, fX12_refused, fX10_answer, fX12_good]
        cases (n 10 l).testBit (j - 1)
        · exact QR.yes 0 rfl rfl
        · exact QR.yes 1 rfl rfl
      · rw [decide_eq_false d]
        simp only [bd_some, un1, un2, un3, jn, un0, bI_t, bI_f, i1n0, if_true, if_false, fX10_refuse, fX12_refused, fX10_answer, fX12_good]
        by_cases z : j < 1
        · rw [if_pos ((nI_lt1 hj).mpr z)]
          exact QR.no rfl rfl
        · rw [if_neg (fun q => z ((nI_lt1 hj).mp q)), if_neg (fun q => absurd ((nI_leI hj (by omega)).mp q) (by omega))]
          exact QR.no rfl rfl
  · simp only [c_isListener, r_isListener, Bool.eq_false_iff.mpr c, bd_some, un1, un2, un3, jn, un0, bI_t, bI_f, i1n0, if_true, if_false, fX10_refuse, fX12_refused, fX10_answer, fX12_good]
    exact QR.no rfl rfl
