/-! best, alike, never -/
def RT5 (r : Option (Int32 × Int32 × Int32 × Int32 × (Nat → Int32) × (Nat → Int32) × (Nat → Int32) × (Nat → Int32) × (Nat → Int64))) (v tr : Int32) : Prop := ∃ o1 o2 o3 o4 o5, r = some (v, 0, tr, -1, o1, o2, o3, o4, o5)
theorem r_best {N K : Nat} {I : Tb} {F : Nat → Nat} {rhow lies isFull rbed isTold av what thn' met doorA doorB rfalls rcreak rcold listens far fit : Nat → Int32} (hA : RAll I rhow lies isFull rbed isTold av what thn' met doorA doorB rfalls rcreak rcold listens far) (hN : 64 < N) (hi : ib I) (h4 : 0 < I 0 4) (hF : FIT I F K fit) (dawn0 w0 fr0 : Nat → Int32) :
    ∃ w fr dawn, lp (BX12_best_42 N (nI (I 0 1)) fit (nI K) (nI (I 0 6)) (nI (I 0 0)) (nI (I 0 2)) (nI (I 0 3)) (nI (I 0 4)) (nI (I 0 5)) rhow lies isFull rbed isTold av thn' what doorA doorB rfalls rcreak listens far rcold met) N (-1, 0, 0, w0, fr0, dawn0) = some (nI (bs (fun s => mA I s s F K) (2 * I 0 1)), 0, 0, -1, w, fr, fit, dawn) := by
  have hD := hi.D
  have hK := hF.1
  refine lp_go (X := fun o => ∃ w fr dawn, o = some (nI (bs (fun s => mA I s s F K) (2 * I 0 1)), 0, 0, -1, w, fr, fit, dawn)) (fun j q => ∃ (best least : Int32) (w fr dawn : Nat → Int32), q = (best, least, nI j, w, fr, dawn) ∧ (j = 0 → best = -1) ∧ (0 < j → best = nI (bs (fun s => mA I s s F K) (j - 1)) ∧ least = nI (mA I (bs (fun s => mA I s s F K) (j - 1)) (bs (fun s => mA I s s F K) (j - 1)) F K))) (1 + 2 * I 0 1) (by omega) ⟨-1, 0, w0, fr0, dawn0, rfl, fun _ => rfl, fun h => by omega⟩ (fun j hj q hq => ?_) (fun q hq rec => ?_)
  · obtain ⟨best, least, w, fr, dawn, rfl, q1, q2⟩ := hq
    obtain ⟨d3, w3, fr3, m2⟩ := r_most (N := N) (st := j) (st2 := j) hA hN hi h4 (by omega) (by omega) hF dawn w fr
    have l1 := mA_le I j j F K
    have hset : ¬ nI (1 + 2 * I 0 1) ≤ nI j := fun q => absurd ((nI_leI (by omega) (by omega)).mp q) (by omega)
    rcases Nat.eq_zero_or_pos j with z | z
    · subst z
      refine ⟨(nI 0, nI (mA I 0 0 F K), nI 1, w3, fr3, d3), fun rec => ?_, _, _, w3, fr3, d3, rfl, fun h => by omega, fun _ => ⟨rfl, rfl⟩⟩
      rw [q1 rfl]
      unfold BX12_best_42
      dsimp only [un6]
      simp only [r_sets, hset, m2, un4, nI_1, bd_some, un1, un2, un3, jn, un0, bI_t, bI_f, i1n0, if_true, if_false, fX10_refuse, fX12_refused, fX10_answer, fX12_good]
    · obtain ⟨x1, x2⟩ := q2 z
      obtain ⟨k, rfl⟩ : ∃ k, j = k + 1 := ⟨j - 1, by omega⟩
      rw [Nat.add_sub_cancel] at x1 x2
      have l2 := mA_le I (bs (fun s => mA I s s F K) k) (bs (fun s => mA I s s F K) k) F K
      have lb := bs_le (fun s => mA I s s F K) k
      have eb : bs (fun s => mA I s s F K) (k + 1) = if mA I (k + 1) (k + 1) F K < mA I (bs (fun s => mA I s s F K) k) (bs (fun s => mA I s s F K) k) F K then k + 1 else bs (fun s => mA I s s F K) k := rfl
      have hb1 : ¬ best = -1 := fun e => by
        rw [x1] at e
        exact (nI_neg1 (by omega)).mp e
      by_cases c : mA I (k + 1) (k + 1) F K < mA I (bs (fun s => mA I s s F K) k) (bs (fun s => mA I s s F K) k) F K
      · refine ⟨(nI (k + 1), nI (mA I (k + 1) (k + 1) F K), nI (k + 1 + 1), w3, fr3, d3), fun rec => ?_, _, _, w3, fr3, d3, rfl, fun h => by omega, fun _ => ?_⟩
        · have hlt : nI (mA I (k + 1) (k + 1) F K) < least := by
            rw [x2]
            exact (nI_ltI (by omega) (by omega)).mpr c
          unfold BX12_best_42
          dsimp only [un6]
          simp only [r_sets, hset, m2, un4, nI_1, hb1, hlt, bd_some, un1, un2, un3, jn, un0, bI_t, bI_f, i1n0, if_true, if_false, fX10_refuse, fX12_refused, fX10_answer, fX12_good]
        · rw [Nat.add_sub_cancel, eb, if_pos c]
          exact ⟨rfl, rfl⟩
      · refine ⟨(best, least, nI (k + 1 + 1), w3, fr3, d3), fun rec => ?_, _, _, w3, fr3, d3, rfl, fun h => by omega, fun _ => ?_⟩
        · have hlt : ¬ nI (mA I (k + 1) (k + 1) F K) < least := by
            rw [x2]
            exact fun q => c ((nI_ltI (by omega) (by omega)).mp q)
          unfold BX12_best_42
          dsimp only [un6]
          simp only [r_sets, hset, m2, un4, nI_1, hb1, hlt, bd_some, un1, un2, un3, jn, un0, bI_t, bI_f, i1n0, if_true, if_false, fX10_refuse, fX12_refused, fX10_answer, fX12_good]
        · rw [Nat.add_sub_cancel, eb, if_neg c]
          exact ⟨x1, x2⟩
  · obtain ⟨best, least, w, fr, dawn, rfl, q1, q2⟩ := hq
    obtain ⟨x1, x2⟩ := q2 (by omega)
    have hset : nI (1 + 2 * I 0 1) ≤ nI (1 + 2 * I 0 1) := (nI_leI (by omega) (by omega)).mpr (Nat.le_refl _)
    refine ⟨w, fr, dawn, ?_⟩
    rw [x1, show 1 + 2 * I 0 1 - 1 = 2 * I 0 1 by omega]
    unfold BX12_best_42
    dsimp only [un6]
    simp only [r_sets, hset, bd_some, un1, un2, un3, jn, un0, bI_t, bI_f, i1n0, if_true, if_false, fX10_refuse, fX12_refused, fX10_answer, fX12_good]
theorem q_best {N : Nat} {I Q : Tb} {rhow lies isFull rbed isTold av what thn' met doorA doorB rfalls rcreak rcold listens far inThing inFull bed hhow states one other falls creak cold listensIn bk so on ot rbk rso rwh rwt ris dreams tried kin g2 ho pa dr st ro ha aw th fu : Nat → Int32} {plain : Nat → Int64} (hN : 64 < N) (hi : ib I) (h0 : 0 < I 0 6) (h4 : 0 < I 0 4) (hA : RAll I rhow lies isFull rbed isTold av what thn' met doorA doorB rfalls rcreak rcold listens far) (hC : CAll I inThing inFull bed hhow states one other falls creak cold listensIn) (hq : qb I Q) (hcq : CQ Q bk so on ot) (hrq : RQ Q rbk rso rwh rwt ris) (hk : CST I dreams tried kin aw plain) (fitting setting been wr : Int32) (fit ws w fr rfit dawn : Nat → Int32) (hb se : Nat → Int64) : ∃ v tr, QT I dreams plain (fX10_best N (nI (I 0 6)) (nI (I 0 2)) (nI (I 0 4)) (nI (I 0 5)) (nI (cnm I)) fitting (nI (Q 0 0)) bk so on plain ot fit (nI (I 0 0)) (nI (I 0 1)) tried setting been hhow wr ws one other inThing th inFull fu hb dreams dr st bed ro ha aw ho pa states creak listensIn (mf (I 0 0) (ds I nolk) g2) cold falls se kin) v tr ∧ RT4 (fX12_best N (nI (Q 0 0)) (nI (I 0 6)) (nI (I 0 0)) (nI (I 0 1)) (nI (I 0 2)) (nI (I 0 3)) (nI (I 0 4)) (nI (I 0 5)) w rhow lies isFull rbed isTold av thn' what doorA doorB fr rfalls rcreak listens far rcold met rfit rbk rso rwh rwt ris dawn) v tr ∧ tr ≠ 4 := by
  have hD := hi.D
  obtain ⟨f1, g1, e1⟩ := gather_ok (N := N) (b := 3) hN (by omega) hi hq hcq hk.2.2.1 fit
  obtain ⟨w1, fr1, f2, k1, e2⟩ := fitsBy_ok (N := N) (b := 3) hA hN hi h4 (by omega) hq hrq w fr rfit
  have hK := fK_le (Q := Q) (b := 3) hi
  have g1' : fX0_gather N 3 (nI (cnm I)) (nI (Q 0 0)) bk so on plain ot fit = _ := g1
  have k1' : fX12_fitsBy N 3 (nI (Q 0 0)) (nI (I 0 6)) (nI (I 0 0)) (nI (I 0 1)) (nI (I 0 2)) (nI (I 0 3)) (nI (I 0 4)) (nI (I 0 5)) w rhow lies isFull rbed isTold av thn' what doorA doorB fr rfalls rcreak listens far rcold met rfit rbk rso rwh rwt ris = _ := k1
  have es : (nI (1 + 2 * I 0 1) - 1 : Int32) = nI (2 * I 0 1) := by
    rw [show (1 : Int32) = nI 1 from rfl, pk_sub (by omega)]
    congr 1
    omega
  obtain ⟨tried', set, been', wr', ws', th', fu', dr', st', ro', ha', aw', ho', pa', kin', hb', se', t1, t2, _, _, t5⟩ := hk.try (N := N) (p := 0) (e := 2 * I 0 1) hN hi hC (Nat.zero_le _) (by omega) g2 setting been wr ws th fu dr st ro ha ho pa hb se
  have hkk : ∀ s, s < 1 + 2 * I 0 1 → KIN I s (cnm I) kin' := fun s hs => (t5 s (Nat.zero_le _) (by omega)).1
  rw [show nI 0 = (0 : Int32) from rfl] at t1
  have hM := hi.M
  have hT := c_isTold (N := N) h0 (show I 0 6 < 2 ^ 31 by omega)
  unfold fX10_best fX12_best
  by_cases c : fK I Q 3 = 0
  · simp only [hT, g1', k1', c, show nI 0 = (0 : Int32) from rfl, un4, bd_some, un1, un2, un3, jn, un0, bI_t, bI_f, i1n0, if_true, if_false, fX10_refuse, fX12_refused, fX10_answer, fX12_good]
    exact ⟨-1, 6, ⟨_, _, _, _, _, _, _, _, _, _, _, _, _, _, _, _, _, _, _, rfl, hk⟩, ⟨_, _, _, _, rfl⟩, by decide⟩
  · have hc0 : ¬ nI (fK I Q 3) = (0 : Int32) := fun q => c ((nI_eq (by omega) (by decide)).mp (q.trans (il 0)))
    have m1 := c_best (N := N) hN hi (e1.fit hi) hkk
    obtain ⟨w3, fr3, d3, m2⟩ := r_best (N := N) hA hN hi h4 (e2.fit hi) dawn w1 fr1
    simp only [hT, g1', k1', hc0, c_sets, es, t1, m1, m2, un4, un18, bd_some, un1, un2, un3, jn, un0, bI_t, bI_f, i1n0, if_true, if_false, fX10_refuse, fX12_refused, fX10_answer, fX12_good]
    exact ⟨_, 0, ⟨_, _, _, _, _, _, _, _, _, _, _, _, _, _, _, _, _, _, _, rfl, t2⟩, ⟨_, _, _, _, rfl⟩, by decide⟩
theorem q_never {N : Nat} {I Q : Tb} {rhow lies isFull rbed isTold av what thn' met doorA doorB rfalls rcreak rcold listens far inThing inFull bed hhow states one other falls creak cold listensIn bk so on ot rbk rso rwh rwt ris dreams tried kin g2 ho pa dr st ro ha aw th fu : Nat → Int32} {plain : Nat → Int64} (hN : 64 < N) (hi : ib I) (h0 : 0 < I 0 6) (h4 : 0 < I 0 4) (hA : RAll I rhow lies isFull rbed isTold av what thn' met doorA doorB rfalls rcreak rcold listens far) (hC : CAll I inThing inFull bed hhow states one other falls creak cold listensIn) (hq : qb I Q) (hcq : CQ Q bk so on ot) (hrq : RQ Q rbk rso rwh rwt ris) (hk : CST I dreams tried kin aw plain) (fitting setting been wr : Int32) (fit ws w fr rfit dawn : Nat → Int32) (hb se : Nat → Int64) (likes : Nat → Int64) : ∃ v tr, QT I dreams plain (fX10_never N (nI (I 0 6)) (nI (I 0 2)) (nI (I 0 4)) (nI (I 0 5)) (nI (cnm I)) fitting (nI (Q 0 0)) bk so on plain ot fit (nI (I 0 0)) (nI (I 0 1)) tried setting been hhow wr ws one other inThing th inFull fu hb dreams dr st bed ro ha aw ho pa states creak listensIn (mf (I 0 0) (ds I nolk) g2) cold falls se kin) v tr ∧ RT5 (fX12_never N (nI (Q 0 0)) (nI (I 0 6)) (nI (I 0 0)) (nI (I 0 1)) (nI (I 0 2)) (nI (I 0 3)) (nI (I 0 4)) (nI (I 0 5)) w rhow lies isFull rbed isTold av thn' what doorA doorB fr rfalls rcreak listens far rcold met rfit rbk rso rwh rwt ris dawn likes) v tr ∧ tr ≠ 4 := by
  have hD := hi.D
  obtain ⟨f1, g1, e1⟩ := gather_ok (N := N) (b := 3) hN (by omega) hi hq hcq hk.2.2.1 fit
  obtain ⟨w1, fr1, f2, k1, e2⟩ := fitsBy_ok (N := N) (b := 3) hA hN hi h4 (by omega) hq hrq w fr rfit
  have hK := fK_le (Q := Q) (b := 3) hi
  have g1' : fX0_gather N 3 (nI (cnm I)) (nI (Q 0 0)) bk so on plain ot fit = _ := g1
  have k1' : fX12_fitsBy N 3 (nI (Q 0 0)) (nI (I 0 6)) (nI (I 0 0)) (nI (I 0 1)) (nI (I 0 2)) (nI (I 0 3)) (nI (I 0 4)) (nI (I 0 5)) w rhow lies isFull rbed isTold av thn' what doorA doorB fr rfalls rcreak listens far rcold met rfit rbk rso rwh rwt ris = _ := k1
  have es : (nI (1 + 2 * I 0 1) - 1 : Int32) = nI (2 * I 0 1) := by
    rw [show (1 : Int32) = nI 1 from rfl, pk_sub (by omega)]
    congr 1
    omega
  obtain ⟨tried', set, been', wr', ws', th', fu', dr', st', ro', ha', aw', ho', pa', kin', hb', se', t1, t2, _, _, t5⟩ := hk.try (N := N) (p := 0) (e := 2 * I 0 1) hN hi hC (Nat.zero_le _) (by omega) g2 setting been wr ws th fu dr st ro ha ho pa hb se
  have hkk : ∀ s, s < 1 + 2 * I 0 1 → KIN I s (cnm I) kin' := fun s hs => (t5 s (Nat.zero_le _) (by omega)).1
  rw [show nI 0 = (0 : Int32) from rfl] at t1
  have hM := hi.M
  have hT := c_isTold (N := N) h0 (show I 0 6 < 2 ^ 31 by omega)
  have m1 := c_pairs (N := N) hN hi (e1.fit hi) hkk
  rw [pup_plo (alA_sym I _)] at m1
  obtain ⟨d3, l3, w3, fr3, m2, m3⟩ := compares_ok (N := N) hA hN hi h4 (e2.fit hi) dawn w1 fr1 likes
  have hpl := plo_le (alA I (fF I Q 3))
  have hl : lp (BX12_never_33 (nI (fK I Q 3)) N w3 fr3 f2 d3 l3) N (0, 0) = some (nI (plo (alA I (fF I Q 3)) (fK I Q 3)), 0, 0, -1, w3, fr3, f2, d3, l3) := by
    refine lp_for (fun j => (nI (plo (alA I (fF I Q 3)) j), nI j)) (fK I Q 3) N (by omega) (fun j hj rec => ?_) (fun rec => ?_)
    · have h3 : ¬ nI (fK I Q 3) ≤ nI j := fun q => absurd ((nI_leI (by omega) (by omega)).mp q) (by omega)
      have hin : ∀ Kt, lp (BX12_never_41 (nI j) l3 Kt) N (nI (plo (alA I (fF I Q 3)) j), 0) = Kt (nI (plo (alA I (fF I Q 3)) (j + 1))) := by
        intro Kt
        refine lp_for (fun i => (nI (plo (alA I (fF I Q 3)) j + cnb (alA I (fF I Q 3) j) i), nI i)) j N (by omega) (fun i hi2 rec => ?_) (fun rec => ?_)
        · have h5 : ¬ nI j ≤ nI i := fun q => absurd ((nI_leI (by omega) (by omega)).mp q) (by omega)
          have hbit := bitL_get (j := i) (l3 j) (by omega)
          rw [m3 j i hj (by omega)] at hbit
          simp (disch := omega) only [BX12_never_41, h5, gd_nI, nI_clamp, nI_1, bd_some, un1, un2, un3, jn, un0, bI_t, bI_f, i1n0, if_true, if_false, fX10_refuse, fX12_refused, fX10_answer, fX12_good]
          show _ = rec (nI (plo (alA I (fF I Q 3)) j + (cnb (alA I (fF I Q 3) j) i + if alA I (fF I Q 3) j i = true then 1 else 0)), nI (i + 1))
          by_cases z : alA I (fF I Q 3) j i = true
          · rw [if_pos (hbit.mpr z), if_pos z, Nat.add_assoc]
          · rw [if_neg (fun q => z (hbit.mp q)), if_neg z]
            simp
        · have h5 : nI j ≤ nI j := (nI_leI (by omega) (by omega)).mpr (Nat.le_refl _)
          simp only [BX12_never_41, h5, bd_some, un1, un2, un3, jn, un0, bI_t, bI_f, i1n0, if_true, if_false, fX10_refuse, fX12_refused, fX10_answer, fX12_good]
          rfl
      simp only [BX12_never_33, h3, hin, nI_1, bd_some, un1, un2, un3, jn, un0, bI_t, bI_f, i1n0, if_true, if_false, fX10_refuse, fX12_refused, fX10_answer, fX12_good]
    · have h3 : nI (fK I Q 3) ≤ nI (fK I Q 3) := (nI_leI (by omega) (by omega)).mpr (Nat.le_refl _)
      simp only [BX12_never_33, h3, bd_some, un1, un2, un3, jn, un0, bI_t, bI_f, i1n0, if_true, if_false, fX10_refuse, fX12_refused, fX10_answer, fX12_good]
  unfold fX10_never fX12_never
  simp only [hT, g1', k1', c_sets, es, t1, m1, m2, hl, un4, un18, bd_some, un1, un2, un3, jn, un0, bI_t, bI_f, i1n0, if_true, if_false, fX10_refuse, fX12_refused, fX10_answer, fX12_good]
  exact ⟨_, 0, ⟨_, _, _, _, _, _, _, _, _, _, _, _, _, _, _, _, _, _, _, rfl, t2⟩, ⟨_, _, _, _, _, rfl⟩, by decide⟩
theorem q_alike {N : Nat} {I Q : Tb} {rhow lies isFull rbed isTold av what thn' met doorA doorB rfalls rcreak rcold listens far inThing inFull bed hhow states one other falls creak cold listensIn bk so on ot rbk rso rwh rwt ris dreams tried kin g2 ho pa dr st ro ha aw th fu : Nat → Int32} {plain : Nat → Int64} (p p' : Int32) (hN : 64 < N) (hi : ib I) (h0 : 0 < I 0 6) (h4 : 0 < I 0 4) (hA : RAll I rhow lies isFull rbed isTold av what thn' met doorA doorB rfalls rcreak rcold listens far) (hC : CAll I inThing inFull bed hhow states one other falls creak cold listensIn) (hq : qb I Q) (hcq : CQ Q bk so on ot) (hrq : RQ Q rbk rso rwh rwt ris) (hk : CST I dreams tried kin aw plain) (fitting setting been wr : Int32) (fit ws w fr rfit dawn : Nat → Int32) (hb se : Nat → Int64) (likes : Nat → Int64) : ∃ v tr, QT I dreams plain (fX10_alike N p p' (nI (cnm I)) (nI (Q 0 0)) bk so on plain ot fit (nI (I 0 6)) (nI (I 0 2)) (nI (I 0 4)) (nI (I 0 5)) (nI (I 0 0)) (nI (I 0 1)) tried setting been hhow wr ws one other inThing th inFull fu hb dreams dr st bed ro ha aw ho pa states creak listensIn (mf (I 0 0) (ds I nolk) g2) cold falls se kin) v tr ∧ RT5 (fX12_alike N p p' (nI (Q 0 0)) (nI (I 0 6)) (nI (I 0 0)) (nI (I 0 1)) (nI (I 0 2)) (nI (I 0 3)) (nI (I 0 4)) (nI (I 0 5)) w rhow lies isFull rbed isTold av thn' what doorA doorB fr rfalls rcreak listens far rcold met rfit rbk rso rwh rwt ris dawn likes) v tr ∧ tr ≠ 4 := by
  have hD := hi.D
  obtain ⟨f1, g1, e1⟩ := gather_ok (N := N) (b := 3) hN (by omega) hi hq hcq hk.2.2.1 fit
  obtain ⟨w1, fr1, f2, k1, e2⟩ := fitsBy_ok (N := N) (b := 3) hA hN hi h4 (by omega) hq hrq w fr rfit
  have hK := fK_le (Q := Q) (b := 3) hi
  have g1' : fX0_gather N 3 (nI (cnm I)) (nI (Q 0 0)) bk so on plain ot fit = _ := g1
  have k1' : fX12_fitsBy N 3 (nI (Q 0 0)) (nI (I 0 6)) (nI (I 0 0)) (nI (I 0 1)) (nI (I 0 2)) (nI (I 0 3)) (nI (I 0 4)) (nI (I 0 5)) w rhow lies isFull rbed isTold av thn' what doorA doorB fr rfalls rcreak listens far rcold met rfit rbk rso rwh rwt ris = _ := k1
  have es : (nI (1 + 2 * I 0 1) - 1 : Int32) = nI (2 * I 0 1) := by
    rw [show (1 : Int32) = nI 1 from rfl, pk_sub (by omega)]
    congr 1
    omega
  obtain ⟨tried', set, been', wr', ws', th', fu', dr', st', ro', ha', aw', ho', pa', kin', hb', se', t1, t2, _, _, t5⟩ := hk.try (N := N) (p := 0) (e := 2 * I 0 1) hN hi hC (Nat.zero_le _) (by omega) g2 setting been wr ws th fu dr st ro ha ho pa hb se
  have hkk : ∀ s, s < 1 + 2 * I 0 1 → KIN I s (cnm I) kin' := fun s hs => (t5 s (Nat.zero_le _) (by omega)).1
  rw [show nI 0 = (0 : Int32) from rfl] at t1
  unfold fX10_alike fX12_alike
  by_cases a : dinb p (fK I Q 3) = true
  · by_cases b : dinb p' (fK I Q 3) = true
    · obtain ⟨x, hx, rfl⟩ := dinb_y (by omega) a
      obtain ⟨y, hy, rfl⟩ := dinb_y (by omega) b
      have x0 : ¬ nI x < 0 := fun q => (nI_lt0 (by omega)).mp q
      have y0 : ¬ nI y < 0 := fun q => (nI_lt0 (by omega)).mp q
      have x1 : ¬ nI (fK I Q 3) ≤ nI x := fun q => absurd ((nI_leI (by omega) (by omega)).mp q) (by omega)
      have y1 : nI y < nI (fK I Q 3) := (nI_ltI (by omega) (by omega)).mpr hy
      by_cases c : nI x = nI y
      · simp only [g1', c_below, a, b, c, x0, y0, bd_some, un1, un2, un3, jn, un0, bI_t, bI_f, i1n0, if_true, if_false, fX10_refuse, fX12_refused, fX10_answer, fX12_good]
        exact ⟨-1, 1, ⟨_, _, _, _, _, _, _, _, _, _, _, _, _, _, _, _, _, _, _, rfl, hk⟩, ⟨_, _, _, _, _, rfl⟩, by decide⟩
      · have m1 := c_alike (N := N) hN hi (e1.fit hi) hkk hx hy
        obtain ⟨d3, l3, w3, fr3, m2, m3⟩ := compares_ok (N := N) hA hN hi h4 (e2.fit hi) dawn w1 fr1 likes
        have hbit := bitL_get (j := y) (l3 x) (by omega)
        rw [m3 x y hx hy] at hbit
        have hb2 : fX10_bit N (bI (alA I (fF I Q 3) x y)) = some (bI (alA I (fF I Q 3) x y)) := by
          cases alA I (fF I Q 3) x y <;> rfl
        simp (disch := omega) only [g1', k1', c_below, a, b, c, x0, y0, x1, y1, c_sets, es, t1, m1, hb2, m2, un4, un18, gd_nI, nI_clamp, bd_some, un1, un2, un3, jn, un0, bI_t, bI_f, i1n0, if_true, if_false, fX10_refuse, fX12_refused, fX10_answer, fX12_good]
        by_cases z : alA I (fF I Q 3) x y = true
        · rw [if_pos (hbit.mpr z), z]
          exact ⟨1, 0, ⟨_, _, _, _, _, _, _, _, _, _, _, _, _, _, _, _, _, _, _, rfl, t2⟩, ⟨_, _, _, _, _, rfl⟩, by decide⟩
        · rw [if_neg (fun q => z (hbit.mp q)), Bool.eq_false_iff.mpr z]
          exact ⟨0, 0, ⟨_, _, _, _, _, _, _, _, _, _, _, _, _, _, _, _, _, _, _, rfl, t2⟩, ⟨_, _, _, _, _, rfl⟩, by decide⟩
    · obtain ⟨x, hx, rfl⟩ := dinb_y (by omega) a
      have x0 : ¬ nI x < 0 := fun q => (nI_lt0 (by omega)).mp q
      have x1 : ¬ nI (fK I Q 3) ≤ nI x := fun q => absurd ((nI_leI (by omega) (by omega)).mp q) (by omega)
      simp only [g1', c_below, a, Bool.eq_false_iff.mpr b, x0, bd_some, un1, un2, un3, jn, un0, bI_t, bI_f, i1n0, if_true, if_false, fX10_refuse, fX12_refused, fX10_answer, fX12_good]
      refine ⟨-1, 1, ⟨_, _, _, _, _, _, _, _, _, _, _, _, _, _, _, _, _, _, _, rfl, hk⟩, ?_, by decide⟩
      by_cases z : p' < 0
      · rw [if_pos z]
        exact ⟨_, _, _, _, _, rfl⟩
      · rw [if_neg z]
        obtain ⟨j, hj, rfl⟩ := nI_of z
        rw [dinb_nI hj (by omega)] at b
        have y1 : ¬ nI j < nI (fK I Q 3) := fun q => b (decide_eq_true ((nI_ltI hj (by omega)).mp q))
        by_cases c : nI x = nI j
        · rw [if_pos c]
          exact ⟨_, _, _, _, _, rfl⟩
        · rw [if_neg c]
          simp only [k1', x1, y1, un4, bd_some, un1, un2, un3, jn, un0, bI_t, bI_f, i1n0, if_true, if_false, fX10_refuse, fX12_refused, fX10_answer, fX12_good]
          exact ⟨_, _, _, _, _, rfl⟩
  · simp only [g1', c_below, Bool.eq_false_iff.mpr a, bd_some, un1, un2, un3, jn, un0, bI_t, bI_f, i1n0, if_true, if_false, fX10_refuse, fX12_refused, fX10_answer, fX12_good]
    refine ⟨-1, 1, ⟨_, _, _, _, _, _, _, _, _, _, _, _, _, _, _, _, _, _, _, rfl, hk⟩, ?_, by decide⟩
    by_cases z : p < 0
    · rw [if_pos z]
      exact ⟨_, _, _, _, _, rfl⟩
    · rw [if_neg z]
      obtain ⟨j, hj, rfl⟩ := nI_of z
      rw [dinb_nI hj (by omega)] at a
      have x1 : nI (fK I Q 3) ≤ nI j := (nI_leI (by omega) hj).mpr (by
        have : ¬ j < fK I Q 3 := fun q => a (decide_eq_true q)
        omega)
      by_cases z2 : p' < 0
      · rw [if_pos z2]
        exact ⟨_, _, _, _, _, rfl⟩
      · rw [if_neg z2]
        by_cases c : nI j = p'
        · rw [if_pos c]
          exact ⟨_, _, _, _, _, rfl⟩
        · rw [if_neg c]
          simp only [k1', x1, un4, bd_some, un1, un2, un3, jn, un0, bI_t, bI_f, i1n0, if_true, if_false, fX10_refuse, fX12_refused, fX10_answer, fX12_good]
          exact ⟨_, _, _, _, _, rfl⟩
