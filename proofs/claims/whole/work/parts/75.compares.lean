/-! which casts no setting tells apart (reference) -/
def bitL (x : Int64) (j : Nat) : Bool := x.toBitVec.getLsbD j
theorem bitL_m1 {j : Nat} (h : j < 64) : bitL (-1) j = true := by
  unfold bitL
  rw [show (-1 : Int64).toBitVec = BitVec.allOnes 64 by decide, BitVec.getLsbD_allOnes]
  exact decide_eq_true h
theorem bitL_clr {i j : Nat} (x : Int64) (hi : i < 64) (hj : j < 64) : bitL (x &&& ((1 <<< ((nI j).toInt64 &&& 63)) ^^^ (-1))) i = (bitL x i && decide (j ≠ i)) := by
  have e : (1 : Int64) <<< ((nI j).toInt64 &&& 63) = lN (1 * 2 ^ j) := wb_shl 1 hj
  rw [e, Nat.one_mul]
  unfold bitL
  rw [Int64.toBitVec_and, Int64.toBitVec_xor, BitVec.getLsbD_and, BitVec.getLsbD_xor, show (-1 : Int64).toBitVec = BitVec.allOnes 64 by decide, BitVec.getLsbD_allOnes, wb_tb, BitVec.getLsbD_ofNat, Nat.testBit_two_pow, decide_eq_true hi, Bool.true_and]
  by_cases c : j = i
  · rw [decide_eq_true c, decide_eq_false (fun q => q c)]; rfl
  · rw [decide_eq_false c, decide_eq_true c]; rfl
theorem smod_64 : ∀ j, j < 64 → ((lN j).toBitVec.smod 64).toNat = j := by decide +kernel
theorem bitL_get {j : Nat} (x : Int64) (hj : j < 64) : (lg_cmp ((x >>> ((nI j).toInt64 &&& 63)) &&& 1) 1 = 0) ↔ bitL x j = true := by
  rw [lgc0', wb_c j hj]
  have e : ((x >>> lN j) &&& 1).toBitVec = BitVec.setWidth 64 (BitVec.ofBool (bitL x j)) := by
    rw [Int64.toBitVec_and, show (1 : Int64).toBitVec = 1#64 from rfl, BitVec.and_one_eq_setWidth_ofBool_getLsbD, Int64.toBitVec_shiftRight]
    congr 2
    unfold bitL
    rw [BitVec.sshiftRight', smod_64 j hj, BitVec.getLsbD_sshiftRight]
    simp [hj]
  constructor
  · intro h
    rw [h] at e
    cases hb : bitL x j
    · rw [hb] at e
      exact absurd e (by decide)
    · rfl
  · intro h
    rw [h] at e
    exact Int64.toBitVec_inj.mp (e.trans (by decide))
def DW1 (I : Tb) (st : Nat) (F : Nat → Nat) (k : Nat) (dawn : Nat → Int32) : Prop := ∀ i, i < k → DAWN I (mrn I st (F i)) dawn i
theorem r_fill1 {N st K : Nat} {I : Tb} {F : Nat → Nat} {how lies isFull bed isTold av what thn' met doorA doorB falls creak cold listens far fit : Nat → Int32} (hA : RAll I how lies isFull bed isTold av what thn' met doorA doorB falls creak cold listens far) (hN : 64 < N) (hi : ib I) (h4 : 0 < I 0 4) (hs : st < 1000) (hF : FIT I F K fit) (dawn0 w0 fr0 : Nat → Int32) :
    ∃ r, (∃ dawn w fr, r = (dawn, w, fr) ∧ DW1 I st F K dawn) ∧ ∀ Kt, lp (BX12_compares_42 (nI K) N fit (nI st) (nI (I 0 6)) (nI (I 0 0)) (nI (I 0 1)) (nI (I 0 2)) (nI (I 0 3)) (nI (I 0 4)) (nI (I 0 5)) how lies isFull bed isTold av thn' what doorA doorB falls creak listens far cold met Kt) N (0, dawn0, w0, fr0) = Kt r := by
  have hcl := cnm_le hi
  have hK := hF.1
  refine lp_goK (B := fun Kt => BX12_compares_42 (nI K) N fit (nI st) (nI (I 0 6)) (nI (I 0 0)) (nI (I 0 1)) (nI (I 0 2)) (nI (I 0 3)) (nI (I 0 4)) (nI (I 0 5)) how lies isFull bed isTold av thn' what doorA doorB falls creak listens far cold met Kt) (fun j q => ∃ dawn w fr, q = (nI j, dawn, w, fr) ∧ DW1 I st F j dawn) (fun r => ∃ dawn w fr, r = (dawn, w, fr) ∧ DW1 I st F K dawn) K (by omega) ⟨dawn0, w0, fr0, rfl, fun i h => by omega⟩ (fun j hj q hq => ?_) (fun q hq => ?_)
  · obtain ⟨dawn, w, fr, rfl, q1⟩ := hq
    obtain ⟨f1, f2⟩ := hF.2 j hj
    obtain ⟨w1, fr1, d1, a1, a2, a3⟩ := dawns_ok (N := N) (c := F j) (st := st) (a := j) hA hN hi h4 hs (by omega) (by omega) w fr dawn
    refine ⟨(nI (j + 1), d1, w1, fr1), fun Kt rec => ?_, d1, w1, fr1, rfl, fun i hi2 => ?_⟩
    · have h3 : ¬ K ≤ j := by omega
      show BX12_compares_42 _ _ _ _ _ _ _ _ _ _ _ _ _ _ _ _ _ _ _ _ _ _ _ _ _ _ _ _ _ _ = _
      unfold BX12_compares_42
      dsimp only [un4]
      rw [if_neg (by rw [nI_leI (by omega) (by omega)]; exact h3), gd_nI _ (by omega) (by omega), nI_clamp (by omega), f1, a1, bd_some]
      dsimp only [un3]
      rw [nI_1]
    · by_cases e : i = j
      · rw [e]
        exact a2
      · exact (q1 i (by omega)).keep (by omega) a3
  · obtain ⟨dawn, w, fr, rfl, q1⟩ := hq
    refine ⟨_, fun Kt rec => ?_, dawn, w, fr, rfl, q1⟩
    show BX12_compares_42 _ _ _ _ _ _ _ _ _ _ _ _ _ _ _ _ _ _ _ _ _ _ _ _ _ _ _ _ _ _ = _
    unfold BX12_compares_42
    dsimp only [un4]
    rw [if_pos (by rw [nI_leI (by omega) (by omega)]; exact Nat.le_refl _)]
/-- the bits of likes, where k rows and j places of the next row have had one setting more than s -/
def LK (I : Tb) (F : Nat → Nat) (K s k j : Nat) (likes : Nat → Int64) : Prop := ∀ a b, a < K → b < K → bitL (likes a) b = if a < k ∨ (a = k ∧ b < j) then okN (fun t => !alk I t F a b) (s + 1) else okN (fun t => !alk I t F a b) s
theorem LK.row {I : Tb} {F : Nat → Nat} {K s k : Nat} {likes : Nat → Int64} (h : LK I F K s k K likes) : LK I F K s (k + 1) 0 likes := fun a b ha hb => by
  rw [h a b ha hb]
  by_cases c : a < k ∨ (a = k ∧ b < K)
  · rw [if_pos c, if_pos (by omega)]
  · rw [if_neg c, if_neg (by omega)]
theorem LK.all {I : Tb} {F : Nat → Nat} {K s : Nat} {likes : Nat → Int64} (h : LK I F K s K 0 likes) : LK I F K (s + 1) 0 0 likes := fun a b ha hb => by
  rw [h a b ha hb, if_pos (by omega), if_neg (by omega)]
theorem r_cmp_in {N s K k : Nat} {I : Tb} {F : Nat → Nat} {dawn : Nat → Int32} (hN : 64 < N) (hi : ib I) (hK : K ≤ 64) (hD : DW1 I s F K dawn) (h1 : k < K) (likes0 : Nat → Int64) (h0 : LK I F K s k 0 likes0) :
    ∃ likes, LK I F K s k K likes ∧ ∀ Kt, lp (BX12_compares_83 (nI K) N (nI k) dawn Kt) N (0, likes0) = Kt likes := by
  refine lp_goK (B := fun Kt => BX12_compares_83 (nI K) N (nI k) dawn Kt) (fun j q => ∃ likes, q = (nI j, likes) ∧ LK I F K s k j likes) (fun r => LK I F K s k K r) K (by omega) ⟨likes0, rfl, h0⟩ (fun j hj q hq => ?_) (fun q hq => ?_)
  · obtain ⟨likes, rfl, q1⟩ := hq
    have h3 : ¬ K ≤ j := by omega
    have sa := isAlike_ok (N := N) hN hi (nb_mrn hi s (F k)) (nb_mrn hi s (F j)) (by omega) (by omega) (hD k h1) (hD j hj)
    have step : ∀ a b, okN (fun t => !alk I t F a b) (s + 1) = (okN (fun t => !alk I t F a b) s && alk I s F a b) := fun a b => by
      show (okN (fun t => !alk I t F a b) s && !(!alk I s F a b)) = _
      rw [Bool.not_not]
    by_cases c : alk I s F k j = true
    · refine ⟨(nI (j + 1), likes), fun Kt rec => ?_, likes, rfl, fun a b ha hb => ?_⟩
      · rw [show decide (sameM I (mrn I s (F k)) (mrn I s (F j))) = true from c] at sa
        simp (disch := omega) only [BX12_compares_83, un2, nI_leI, h3, if_false, sa, bd_some, un1, jn, nI_1]
        rw [if_neg (by decide)]
      · rw [q1 a b ha hb]
        by_cases e : a = k ∧ b = j
        · obtain ⟨rfl, rfl⟩ := e
          rw [if_neg (by omega), if_pos (by omega), step, c, Bool.and_true]
        · by_cases z : a < k ∨ (a = k ∧ b < j)
          · rw [if_pos z, if_pos (by omega)]
          · rw [if_neg z, if_neg (by omega)]
    · have cf : alk I s F k j = false := Bool.eq_false_iff.mpr c
      refine ⟨(nI (j + 1), vp_updL likes k ((likes k) &&& ((1 <<< ((nI j).toInt64 &&& 63)) ^^^ (-1)))), fun Kt rec => ?_, _, rfl, fun a b ha hb => ?_⟩
      · rw [show decide (sameM I (mrn I s (F k)) (mrn I s (F j))) = false from cf] at sa
        simp (disch := omega) only [BX12_compares_83, un2, nI_leI, h3, if_false, sa, bd_some, un1, jn, nI_1, gd_nI, nI_clamp]
        rw [if_pos (by decide)]
      · by_cases ea : a = k
        · subst ea
          rw [pk_uLs, bitL_clr _ (by omega) (by omega), q1 a b ha hb]
          by_cases eb : b = j
          · subst eb
            rw [if_neg (by omega), if_pos (by omega), step, cf, decide_eq_false (fun q => q rfl), Bool.and_false]
          · rw [decide_eq_true (show j ≠ b from fun q => eb q.symm), Bool.and_true]
            by_cases z : a < a ∨ (a = a ∧ b < j)
            · rw [if_pos z, if_pos (by omega)]
            · rw [if_neg z, if_neg (by omega)]
        · rw [pk_uLn ea, q1 a b ha hb]
          by_cases z : a < k ∨ (a = k ∧ b < j)
          · rw [if_pos z, if_pos (by omega)]
          · rw [if_neg z, if_neg (by omega)]
  · obtain ⟨likes, rfl, q1⟩ := hq
    refine ⟨likes, fun Kt rec => ?_, q1⟩
    simp (disch := omega) only [BX12_compares_83, un2, nI_leI, Nat.le_refl, if_true]
theorem r_cmp_set {N s K : Nat} {I : Tb} {F : Nat → Nat} {dawn : Nat → Int32} (hN : 64 < N) (hi : ib I) (hK : K ≤ 64) (hD : DW1 I s F K dawn) (likes0 : Nat → Int64) (h0 : LK I F K s 0 0 likes0) :
    ∃ likes, LK I F K (s + 1) 0 0 likes ∧ ∀ Kt, lp (BX12_compares_75 (nI K) N dawn Kt) N (0, likes0) = Kt likes := by
  refine lp_goK (B := fun Kt => BX12_compares_75 (nI K) N dawn Kt) (fun j q => ∃ likes, q = (nI j, likes) ∧ LK I F K s j 0 likes) (fun r => LK I F K (s + 1) 0 0 r) K (by omega) ⟨likes0, rfl, h0⟩ (fun j hj q hq => ?_) (fun q hq => ?_)
  · obtain ⟨likes, rfl, q1⟩ := hq
    have h3 : ¬ K ≤ j := by omega
    obtain ⟨l2, r1, r2⟩ := r_cmp_in (N := N) hN hi hK hD hj likes q1
    refine ⟨(nI (j + 1), l2), fun Kt rec => ?_, l2, rfl, r1.row⟩
    simp (disch := omega) only [BX12_compares_75, un2, nI_leI, h3, if_false]
    rw [r2]
    dsimp only [un1]
    rw [nI_1]
  · obtain ⟨likes, rfl, q1⟩ := hq
    refine ⟨likes, fun Kt rec => ?_, q1.all⟩
    simp (disch := omega) only [BX12_compares_75, un2, nI_leI, Nat.le_refl, if_true]
theorem compares_ok {N K : Nat} {I : Tb} {F : Nat → Nat} {how lies isFull bed isTold av what thn' met doorA doorB falls creak cold listens far fit : Nat → Int32} (hA : RAll I how lies isFull bed isTold av what thn' met doorA doorB falls creak cold listens far) (hN : 64 < N) (hi : ib I) (h4 : 0 < I 0 4) (hF : FIT I F K fit) (dawn0 w0 fr0 : Nat → Int32) (likes0 : Nat → Int64) :
    ∃ dawn likes w fr, fX12_compares N (nI K) (nI (I 0 6)) (nI (I 0 0)) (nI (I 0 1)) (nI (I 0 2)) (nI (I 0 3)) (nI (I 0 4)) (nI (I 0 5)) dawn0 likes0 fit w0 how lies isFull bed isTold av thn' what doorA doorB fr0 falls creak listens far cold met = some (dawn, likes, w, fr) ∧ ∀ a b, a < K → b < K → bitL (likes a) b = alA I F a b := by
  have hK := hF.1
  have hD := hi.D
  unfold fX12_compares
  have a0 : ∀ Kt, lp (BX12_compares_2 (nI K) Kt) N (0, likes0) = Kt (fun i => if i < K then -1 else likes0 i) := by
    intro Kt
    have h := lp_for (B := BX12_compares_2 (nI K) Kt) (r := Kt (fun i => if i < K then -1 else likes0 i)) (fun j => (nI j, fun i => if i < j then -1 else likes0 i)) K N (by omega) (fun j hj rec => ?_) (fun rec => ?_)
    · have z : (fun i => if i < 0 then (-1 : Int64) else likes0 i) = likes0 := by
        funext i
        rw [if_neg (by omega)]
      rw [z] at h
      exact h
    · have h3 : ¬ K ≤ j := by omega
      have u : vp_updL (fun i => if i < j then (-1 : Int64) else likes0 i) j (-1) = fun i => if i < j + 1 then -1 else likes0 i := by
        funext i
        by_cases c : i = j
        · rw [c, pk_uLs, if_pos (by omega)]
        · rw [pk_uLn c]
          by_cases z : i < j
          · rw [if_pos z, if_pos (by omega)]
          · rw [if_neg z, if_neg (by omega)]
      simp (disch := omega) only [BX12_compares_2, un2, nI_leI, h3, if_false, gd_nI, nI_clamp, nI_1, u]
    · simp (disch := omega) only [BX12_compares_2, un2, nI_leI, Nat.le_refl, if_true]
  rw [a0]
  dsimp only [un1]
  refine lp_go (X := fun o => ∃ (dawn : Nat → Int32) (likes : Nat → Int64) (w fr : Nat → Int32), o = some (dawn, likes, w, fr) ∧ ∀ a b, a < K → b < K → bitL (likes a) b = alA I F a b) (fun s q => ∃ (dawn : Nat → Int32) (likes : Nat → Int64) (w fr : Nat → Int32), q = (nI s, dawn, likes, w, fr) ∧ LK I F K s 0 0 likes) (1 + 2 * I 0 1) (by omega) ⟨dawn0, _, w0, fr0, rfl, fun a b ha hb => ?_⟩ (fun s hs q hq => ?_) (fun q hq rec => ?_)
  · rw [if_pos ha, bitL_m1 (by omega), if_neg (by omega)]
    rfl
  · obtain ⟨dawn, likes, w, fr, rfl, q1⟩ := hq
    obtain ⟨r, ⟨d1, w1, fr1, rfl, b1⟩, b2⟩ := r_fill1 (N := N) hA hN hi h4 (show s < 1000 by omega) hF dawn w fr
    obtain ⟨l2, c1, c2⟩ := r_cmp_set (N := N) hN hi hK b1 likes q1
    refine ⟨_, fun rec => ?_, d1, l2, w1, fr1, rfl, c1⟩
    unfold BX12_compares_24
    dsimp only [un5]
    rw [r_sets, bd_some]
    dsimp only [un1]
    rw [if_neg (by rw [nI_leI (by omega) (by omega)]; omega), b2]
    dsimp only [un3]
    rw [c2]
    dsimp only [un1]
    rw [nI_1]
  · obtain ⟨dawn, likes, w, fr, rfl, q1⟩ := hq
    refine ⟨dawn, likes, w, fr, ?_, fun a b ha hb => by rw [q1 a b ha hb, if_neg (by omega)]; rfl⟩
    unfold BX12_compares_24
    dsimp only [un5]
    rw [r_sets, bd_some]
    dsimp only [un1]
    rw [if_pos (by rw [nI_leI (by omega) (by omega)]; exact Nat.le_refl _)]
