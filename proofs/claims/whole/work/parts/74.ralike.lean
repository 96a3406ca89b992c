/-! casts that are alike (reference) -/
def DW2 (I : Tb) (st st2 : Nat) (F : Nat → Nat) (k : Nat) (dawn : Nat → Int32) : Prop := ∀ i, i < k → DAWN I (mrn I st (F i)) dawn (2 * i) ∧ DAWN I (mrn I st2 (F i)) dawn (2 * i + 1)
theorem DAWN.keep {I n : Tb} {d d' : Nat → Int32} {a b : Nat} (h : DAWN I n d a) (hne : a ≠ b) (hk : ∀ i, (i < 30 * b ∨ 30 * b + 30 ≤ i) → d' i = d i) : DAWN I n d' a := by
  obtain ⟨w, h1, h2⟩ := h
  exact ⟨w, h1, fun k hk2 => by rw [hk _ (by omega)]; exact h2 k hk2⟩
theorem r_fill {N st st2 K : Nat} {I : Tb} {F : Nat → Nat} {how lies isFull bed isTold av what thn' met doorA doorB falls creak cold listens far fit : Nat → Int32} (hA : RAll I how lies isFull bed isTold av what thn' met doorA doorB falls creak cold listens far) (hN : 64 < N) (hi : ib I) (h4 : 0 < I 0 4) (hs : st < 1000) (hs2 : st2 < 1000) (hF : FIT I F K fit) (dawn0 w0 fr0 : Nat → Int32) :
    ∃ r, (∃ dawn w fr, r = (dawn, w, fr) ∧ DW2 I st st2 F K dawn) ∧ ∀ Kt, lp (BX12_mostAlike_11 (nI K) N fit (nI st) (nI (I 0 6)) (nI (I 0 0)) (nI (I 0 1)) (nI (I 0 2)) (nI (I 0 3)) (nI (I 0 4)) (nI (I 0 5)) how lies isFull bed isTold av thn' what doorA doorB falls creak listens far cold met (nI st2) Kt) N (0, dawn0, w0, fr0) = Kt r := by
  have hcl := cnm_le hi
  have hK := hF.1
  refine lp_goK (B := fun Kt => BX12_mostAlike_11 (nI K) N fit (nI st) (nI (I 0 6)) (nI (I 0 0)) (nI (I 0 1)) (nI (I 0 2)) (nI (I 0 3)) (nI (I 0 4)) (nI (I 0 5)) how lies isFull bed isTold av thn' what doorA doorB falls creak listens far cold met (nI st2) Kt) (fun j q => ∃ dawn w fr, q = (nI j, dawn, w, fr) ∧ DW2 I st st2 F j dawn) (fun r => ∃ dawn w fr, r = (dawn, w, fr) ∧ DW2 I st st2 F K dawn) K (by omega) ⟨dawn0, w0, fr0, rfl, fun i h => by omega⟩ (fun j hj q hq => ?_) (fun q hq => ?_)
  · obtain ⟨dawn, w, fr, rfl, q1⟩ := hq
    obtain ⟨f1, f2⟩ := hF.2 j hj
    obtain ⟨w1, fr1, d1, a1, a2, a3⟩ := dawns_ok (N := N) (c := F j) (st := st) (a := 2 * j) hA hN hi h4 hs (by omega) (by omega) w fr dawn
    obtain ⟨w2, fr2, d2, b1, b2, b3⟩ := dawns_ok (N := N) (c := F j) (st := st2) (a := 2 * j + 1) hA hN hi h4 hs2 (by omega) (by omega) w1 fr1 d1
    have e2 : (2 * nI j : Int32) = nI (2 * j) := pk_mul 2 j
    refine ⟨(nI (j + 1), d2, w2, fr2), fun Kt rec => ?_, d2, w2, fr2, rfl, fun i hi2 => ?_⟩
    · have h3 : ¬ K ≤ j := by omega
      show BX12_mostAlike_11 _ _ _ _ _ _ _ _ _ _ _ _ _ _ _ _ _ _ _ _ _ _ _ _ _ _ _ _ _ _ _ = _
      unfold BX12_mostAlike_11
      dsimp only [un4]
      rw [if_neg (by rw [nI_leI (by omega) (by omega)]; exact h3), gd_nI _ (by omega) (by omega), nI_clamp (by omega), f1, e2, a1, bd_some]
      dsimp only [un3]
      rw [gd_nI _ (by omega) (by omega), nI_1, b1, bd_some]
      dsimp only [un3]
      rw [nI_1]
    · by_cases e : i = j
      · rw [e]
        exact ⟨a2.keep (by omega) b3, b2⟩
      · obtain ⟨x1, x2⟩ := q1 i (by omega)
        exact ⟨(x1.keep (by omega) a3).keep (by omega) b3, (x2.keep (by omega) a3).keep (by omega) b3⟩
  · obtain ⟨dawn, w, fr, rfl, q1⟩ := hq
    refine ⟨_, fun Kt rec => ?_, dawn, w, fr, rfl, q1⟩
    show BX12_mostAlike_11 _ _ _ _ _ _ _ _ _ _ _ _ _ _ _ _ _ _ _ _ _ _ _ _ _ _ _ _ _ _ _ = _
    unfold BX12_mostAlike_11
    dsimp only [un4]
    rw [if_pos (by rw [nI_leI (by omega) (by omega)]; exact Nat.le_refl _)]
theorem r_most_in {N st st2 K i : Nat} {I : Tb} {F : Nat → Nat} {dawn : Nat → Int32} (hN : 64 < N) (hi : ib I) (hK : K ≤ 64) (hD : DW2 I st st2 F K dawn) (h1 : i < K) (Kt : Int32 → Option (Int32 × (Nat → Int32) × (Nat → Int32) × (Nat → Int32))) : lp (BX12_mostAlike_83 (nI K) N (nI i) dawn Kt) N (0, 0) = Kt (nI (mAf I st st2 F K i)) := by
  unfold mAf
  refine lp_for (fun j => (nI (cnb (fun j => alk I st F i j && alk I st2 F i j) j), nI j)) K N (by omega) (fun j hj rec => ?_) (fun rec => ?_)
  · have h3 : ¬ K ≤ j := by omega
    obtain ⟨x1, x2⟩ := hD i h1
    obtain ⟨y1, y2⟩ := hD j hj
    have s1 := isAlike_ok (N := N) hN hi (nb_mrn hi st (F i)) (nb_mrn hi st (F j)) (by omega) (by omega) x1 y1
    have s2 := isAlike_ok (N := N) hN hi (nb_mrn hi st2 (F i)) (nb_mrn hi st2 (F j)) (by omega) (by omega) x2 y2
    have e1 : (2 * nI i : Int32) = nI (2 * i) := pk_mul 2 i
    have e2 : (2 * nI j : Int32) = nI (2 * j) := pk_mul 2 j
    simp (disch := omega) only [BX12_mostAlike_83, un2, nI_leI, h3, if_false, e1, e2, nI_1, s1, s2, bd_some, un1, jn]
    show _ = rec (nI (cnb _ j + if (alk I st F i j && alk I st2 F i j) = true then 1 else 0), nI (j + 1))
    unfold alk
    cases decide (sameM I (mrn I st (F i)) (mrn I st (F j)))
    · simp [bI]
    · cases decide (sameM I (mrn I st2 (F i)) (mrn I st2 (F j)))
      · simp [bI]
      · simp [bI, nI_1]
  · simp (disch := omega) only [BX12_mostAlike_83, un2, nI_leI, Nat.le_refl, if_true]
theorem r_most {N st st2 K : Nat} {I : Tb} {F : Nat → Nat} {how lies isFull bed isTold av what thn' met doorA doorB falls creak cold listens far fit : Nat → Int32} (hA : RAll I how lies isFull bed isTold av what thn' met doorA doorB falls creak cold listens far) (hN : 64 < N) (hi : ib I) (h4 : 0 < I 0 4) (hs : st < 1000) (hs2 : st2 < 1000) (hF : FIT I F K fit) (dawn0 w0 fr0 : Nat → Int32) :
    ∃ dawn w fr, fX12_mostAlike N (nI K) (nI st) (nI st2) dawn0 fit (nI (I 0 6)) (nI (I 0 0)) (nI (I 0 1)) (nI (I 0 2)) (nI (I 0 3)) (nI (I 0 4)) (nI (I 0 5)) w0 how lies isFull bed isTold av thn' what doorA doorB fr0 falls creak listens far cold met = some (nI (mA I st st2 F K), dawn, w, fr) := by
  have hK := hF.1
  obtain ⟨r, ⟨dawn, w, fr, rfl, q1⟩, hl⟩ := r_fill (N := N) hA hN hi h4 hs hs2 hF dawn0 w0 fr0
  refine ⟨dawn, w, fr, ?_⟩
  unfold fX12_mostAlike
  rw [hl]
  dsimp only [un3]
  unfold mA
  refine lp_for (fun j => (nI (mx (mAf I st st2 F K) j), nI j)) K N (by omega) (fun j hj rec => ?_) (fun rec => ?_)
  · have h3 : ¬ K ≤ j := by omega
    have l1 := mx_le (mAf_le I st st2 F K) j
    have l2 := mAf_le I st st2 F K j
    simp (disch := omega) only [BX12_mostAlike_71, un2, nI_leI, h3, if_false]
    rw [r_most_in hN hi hK q1 hj]
    dsimp only [un1, jn]
    rw [nI_1]
    show _ = rec (nI (if mx (mAf I st st2 F K) j < mAf I st st2 F K j then mAf I st st2 F K j else mx (mAf I st st2 F K) j), nI (j + 1))
    by_cases c : mx (mAf I st st2 F K) j < mAf I st st2 F K j
    · rw [if_pos c, if_neg (fun q => absurd ((nI_leI (by omega) (by omega)).mp q) (by omega))]
    · rw [if_neg c, if_pos ((nI_leI (by omega) (by omega)).mpr (by omega))]
  · simp (disch := omega) only [BX12_mostAlike_71, un2, nI_leI, Nat.le_refl, if_true]
theorem r_sets {N : Nat} {I : Tb} : fX12_settings N (nI (I 0 1)) = some (nI (1 + 2 * I 0 1)) := by
  unfold fX12_settings
  rw [show (2 : Int32) = nI 2 from rfl, pk_mul]
  exact congrArg some (nI_add 1 _)
theorem c_sets {N : Nat} {I : Tb} : fX2_settings N (nI (I 0 1)) = some (nI (1 + 2 * I 0 1)) := r_sets (N := N)
