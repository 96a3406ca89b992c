/-! settings that are tried out, asked for -/
def CST (I : Tb) (dreams tried kin aw : Nat → Int32) (plain : Nat → Int64) : Prop := (∀ i, i < 3 → dreams i = 0) ∧ (∀ c s, c < cnm I → s < I 0 4 → dreams (3 * c + s) = nI (dg I c s)) ∧ ROW I 0 (cnm I) plain ∧ TRD I tried kin ∧ tried 0 ≠ 0 ∧ ∀ i, i < 3 → aw i = 0 ∨ aw i = 1
def QT (I : Tb) (dreams : Nat → Int32) (plain : Nat → Int64) (c : Option (Int32 × Int32 × Int32 × (Nat → Int64) × (Nat → Int32) × (Nat → Int32) × Int32 × Int32 × Int32 × (Nat → Int32) × (Nat → Int32) × (Nat → Int32) × (Nat → Int64) × (Nat → Int32) × (Nat → Int32) × (Nat → Int32) × (Nat → Int32) × (Nat → Int32) × (Nat → Int32) × (Nat → Int32) × (Nat → Int64) × (Nat → Int32))) (v tr : Int32) : Prop := ∃ f1 f2 tried' set' been' wr' ws' th' fu' hb' dr' st' ro' ha' aw' ho' pa' se' kin', c = some (v, tr, f1, plain, f2, tried', set', been', wr', ws', th', fu', hb', dr', st', ro', ha', aw', ho', pa', se', kin') ∧ CST I dreams tried' kin' aw' plain
def RT4 (r : Option (Int32 × Int32 × Int32 × Int32 × (Nat → Int32) × (Nat → Int32) × (Nat → Int32) × (Nat → Int32))) (v tr : Int32) : Prop := ∃ o1 o2 o3 o4, r = some (v, 0, tr, -1, o1, o2, o3, o4)
theorem CST.try {N p e : Nat} {I : Tb} {inThing inFull bed hhow states one other falls creak cold listensIn dreams tried kin aw : Nat → Int32} {plain : Nat → Int64} (hN : 64 < N) (hi : ib I) (hC : CAll I inThing inFull bed hhow states one other falls creak cold listensIn) (hk : CST I dreams tried kin aw plain) (hpe : p ≤ e) (he : e < 21) (g2 : Nat → Int32) (setting been wr : Int32) (ws th fu dr st ro ha ho pa : Nat → Int32) (hb se : Nat → Int64) :
    ∃ (tried' : Nat → Int32) (set been' wr' : Int32) (ws' thingIn full dreamOf stateOf roomOf handOf awake how passed kin' : Nat → Int32) (heardBy se' : Nat → Int64), fX0_tryOuts N (nI p) (nI e) (nI (cnm I)) tried setting been (nI (I 0 6)) (nI (I 0 2)) (nI (I 0 4)) (nI (I 0 5)) (nI (I 0 0)) (nI (I 0 1)) hhow wr ws one other inThing th inFull fu hb dreams dr st bed ro ha aw ho pa states creak listensIn (mf (I 0 0) (ds I nolk) g2) cold falls se kin plain = some (tried', set, been', wr', ws', thingIn, full, heardBy, dreamOf, stateOf, roomOf, handOf, awake, how, passed, se', kin', plain) ∧ CST I dreams tried' kin' awake plain ∧ (∀ st, st < 21 → tried st ≠ 0 → KIN I st (cnm I) kin') ∧ (∀ st, tried st ≠ 0 → tried' st ≠ 0) ∧ ∀ st, p ≤ st → st ≤ e → KIN I st (cnm I) kin' ∧ tried' st ≠ 0 := by
  obtain ⟨k1, k2, k3, k4, k5, k6⟩ := hk
  obtain ⟨c1, c2, c3, c4, c5, c6⟩ := hC
  obtain ⟨tried', set, been', wr', ws', thingIn, full, dreamOf, stateOf, roomOf, handOf, awake, how, passed, kin', heardBy, se', e1, e2, e3, e4, e5⟩ := tryOuts_ok (N := N) (p := p) (e := e) hN hi c1 c2 c3 c4 c5 c6 k2 hpe he g2 tried setting been wr ws th fu dr st ro ha aw ho pa kin hb se plain k6 k5 k4
  exact ⟨tried', set, been', wr', ws', thingIn, full, dreamOf, stateOf, roomOf, handOf, awake, how, passed, kin', heardBy, se', e1, ⟨k1, k2, k3, e3, e4 0 k5, e2⟩, fun st h1 h2 => e3 st h1 (e4 st h2), e4, fun st h1 h2 => ⟨e3 st (by omega) (e5 st h1 h2), e5 st h1 h2⟩⟩
theorem q_parts {N : Nat} {I Q : Tb} {rhow lies isFull rbed isTold av what thn' met doorA doorB rfalls rcreak rcold listens far inThing inFull bed hhow states one other falls creak cold listensIn bk so on ot rbk rso rwh rwt ris dreams tried kin g2 ho pa dr st ro ha aw th fu : Nat → Int32} {plain : Nat → Int64} (p : Int32) (hN : 64 < N) (hi : ib I) (h0 : 0 < I 0 6) (h4 : 0 < I 0 4) (hA : RAll I rhow lies isFull rbed isTold av what thn' met doorA doorB rfalls rcreak rcold listens far) (hC : CAll I inThing inFull bed hhow states one other falls creak cold listensIn) (hq : qb I Q) (hcq : CQ Q bk so on ot) (hrq : RQ Q rbk rso rwh rwt ris) (hk : CST I dreams tried kin aw plain) (fitting setting been wr : Int32) (fit ws w fr rfit dawn : Nat → Int32) (hb se : Nat → Int64) : ∃ v tr, QT I dreams plain (fX10_parts N p (nI (I 0 6)) (nI (I 0 2)) (nI (I 0 4)) (nI (I 0 5)) (nI (I 0 0)) (nI (I 0 1)) (nI (cnm I)) fitting (nI (Q 0 0)) bk so on plain ot fit tried setting been hhow wr ws one other inThing th inFull fu hb dreams dr st bed ro ha aw ho pa states creak listensIn (mf (I 0 0) (ds I nolk) g2) cold falls se kin) v tr ∧ RT4 (fX12_parts N p (nI (Q 0 0)) (nI (I 0 6)) (nI (I 0 0)) (nI (I 0 1)) (nI (I 0 2)) (nI (I 0 3)) (nI (I 0 4)) (nI (I 0 5)) w rhow lies isFull rbed isTold av thn' what doorA doorB fr rfalls rcreak listens far rcold met rfit rbk rso rwh rwt ris dawn) v tr ∧ tr ≠ 4 := by
  have hD := hi.D
  have cs1 := c_isSetting (N := N) p hi h0
  obtain ⟨f1, g1, e1⟩ := gather_ok (N := N) (b := 3) hN (by omega) hi hq hcq hk.2.2.1 fit
  obtain ⟨w1, fr1, f2, k1, e2⟩ := fitsBy_ok (N := N) (b := 3) hA hN hi h4 (by omega) hq hrq w fr rfit
  have hK := fK_le (Q := Q) (b := 3) hi
  have g1' : fX0_gather N 3 (nI (cnm I)) (nI (Q 0 0)) bk so on plain ot fit = _ := g1
  have k1' : fX12_fitsBy N 3 (nI (Q 0 0)) (nI (I 0 6)) (nI (I 0 0)) (nI (I 0 1)) (nI (I 0 2)) (nI (I 0 3)) (nI (I 0 4)) (nI (I 0 5)) w rhow lies isFull rbed isTold av thn' what doorA doorB fr rfalls rcreak listens far rcold met rfit rbk rso rwh rwt ris = _ := k1
  unfold fX10_parts fX12_parts
  by_cases a : dinb p (1 + 2 * I 0 1) = true
  · by_cases c : fK I Q 3 = 0
    · simp only [cs1, r_isSetting, a, g1', k1', c, show nI 0 = (0 : Int32) from rfl, un4, bd_some, un1, un2, un3, jn, un0, bI_t, bI_f, i1n0, if_true, if_false, fX10_refuse, fX12_refused, fX10_answer, fX12_good]
      exact ⟨-1, 6, ⟨_, _, _, _, _, _, _, _, _, _, _, _, _, _, _, _, _, _, _, rfl, hk⟩, ⟨_, _, _, _, rfl⟩, by decide⟩
    · obtain ⟨s, hs, rfl⟩ := dinb_y (by omega) a
      have hc0 : ¬ nI (fK I Q 3) = (0 : Int32) := fun q => c ((nI_eq (by omega) (by decide)).mp (q.trans (il 0)))
      obtain ⟨tried', set, been', wr', ws', th', fu', dr', st', ro', ha', aw', ho', pa', kin', hb', se', t1, t2, _, _, t5⟩ := hk.try (N := N) (p := s) (e := s) hN hi hC (Nat.le_refl _) (by omega) g2 setting been wr ws th fu dr st ro ha ho pa hb se
      have hkk := (t5 s (Nat.le_refl _) (Nat.le_refl _)).1
      have m1 := c_most (N := N) hN hi (show s < 21 by omega) (show s < 21 by omega) (e1.fit hi) hkk hkk
      obtain ⟨d3, w3, fr3, m2⟩ := r_most (N := N) (st := s) (st2 := s) hA hN hi h4 (by omega) (by omega) (e2.fit hi) dawn w1 fr1
      simp only [cs1, r_isSetting, a, g1', k1', hc0, t1, m1, m2, un4, un18, bd_some, un1, un2, un3, jn, un0, bI_t, bI_f, i1n0, if_true, if_false, fX10_refuse, fX12_refused, fX10_answer, fX12_good]
      exact ⟨_, 0, ⟨_, _, _, _, _, _, _, _, _, _, _, _, _, _, _, _, _, _, _, rfl, t2⟩, ⟨_, _, _, _, rfl⟩, by decide⟩
  · simp only [cs1, r_isSetting, Bool.eq_false_iff.mpr a, bd_some, un1, un2, un3, jn, un0, bI_t, bI_f, i1n0, if_true, if_false, fX10_refuse, fX12_refused, fX10_answer, fX12_good]
    exact ⟨-1, 1, ⟨_, _, _, _, _, _, _, _, _, _, _, _, _, _, _, _, _, _, _, rfl, hk⟩, ⟨_, _, _, _, rfl⟩, by decide⟩
theorem q_told {N : Nat} {I Q : Tb} {rhow lies isFull rbed isTold av what thn' met doorA doorB rfalls rcreak rcold listens far inThing inFull bed hhow states one other falls creak cold listensIn bk so on ot rbk rso rwh rwt ris dreams tried kin g2 ho pa dr st ro ha aw th fu : Nat → Int32} {plain : Nat → Int64} (p p' : Int32) (hN : 64 < N) (hi : ib I) (h0 : 0 < I 0 6) (h4 : 0 < I 0 4) (hA : RAll I rhow lies isFull rbed isTold av what thn' met doorA doorB rfalls rcreak rcold listens far) (hC : CAll I inThing inFull bed hhow states one other falls creak cold listensIn) (hq : qb I Q) (hcq : CQ Q bk so on ot) (hrq : RQ Q rbk rso rwh rwt ris) (hk : CST I dreams tried kin aw plain) (fitting setting been wr : Int32) (fit ws w fr rfit dawn : Nat → Int32) (hb se : Nat → Int64) : ∃ v tr, QT I dreams plain (fX10_told N p p' (nI (I 0 6)) (nI (I 0 2)) (nI (I 0 4)) (nI (I 0 5)) (nI (I 0 0)) (nI (I 0 1)) (nI (cnm I)) fitting (nI (Q 0 0)) bk so on plain ot fit tried setting been hhow wr ws one other inThing th inFull fu hb dreams dr st bed ro ha aw ho pa states creak listensIn (mf (I 0 0) (ds I nolk) g2) cold falls se kin) v tr ∧ RT4 (fX12_told N p p' (nI (Q 0 0)) (nI (I 0 6)) (nI (I 0 0)) (nI (I 0 1)) (nI (I 0 2)) (nI (I 0 3)) (nI (I 0 4)) (nI (I 0 5)) w rhow lies isFull rbed isTold av thn' what doorA doorB fr rfalls rcreak listens far rcold met rfit rbk rso rwh rwt ris dawn) v tr ∧ tr ≠ 4 := by
  have hD := hi.D
  have cs1 := fun p => c_isSetting (N := N) p hi h0
  obtain ⟨f1, g1, e1⟩ := gather_ok (N := N) (b := 3) hN (by omega) hi hq hcq hk.2.2.1 fit
  obtain ⟨w1, fr1, f2, k1, e2⟩ := fitsBy_ok (N := N) (b := 3) hA hN hi h4 (by omega) hq hrq w fr rfit
  have hK := fK_le (Q := Q) (b := 3) hi
  have g1' : fX0_gather N 3 (nI (cnm I)) (nI (Q 0 0)) bk so on plain ot fit = _ := g1
  have k1' : fX12_fitsBy N 3 (nI (Q 0 0)) (nI (I 0 6)) (nI (I 0 0)) (nI (I 0 1)) (nI (I 0 2)) (nI (I 0 3)) (nI (I 0 4)) (nI (I 0 5)) w rhow lies isFull rbed isTold av thn' what doorA doorB fr rfalls rcreak listens far rcold met rfit rbk rso rwh rwt ris = _ := k1
  unfold fX10_told fX12_told
  by_cases a : dinb p (1 + 2 * I 0 1) = true
  · by_cases b : dinb p' (1 + 2 * I 0 1) = true
    · by_cases c : fK I Q 3 = 0
      · simp only [cs1, r_isSetting, a, b, g1', k1', c, show nI 0 = (0 : Int32) from rfl, un4, bd_some, un1, un2, un3, jn, un0, bI_t, bI_f, i1n0, if_true, if_false, fX10_refuse, fX12_refused, fX10_answer, fX12_good]
        exact ⟨-1, 6, ⟨_, _, _, _, _, _, _, _, _, _, _, _, _, _, _, _, _, _, _, rfl, hk⟩, ⟨_, _, _, _, rfl⟩, by decide⟩
      · obtain ⟨s, hs, rfl⟩ := dinb_y (by omega) a
        obtain ⟨s2, hs2, rfl⟩ := dinb_y (by omega) b
        have hc0 : ¬ nI (fK I Q 3) = (0 : Int32) := fun q => c ((nI_eq (by omega) (by decide)).mp (q.trans (il 0)))
        obtain ⟨tried', set, been', wr', ws', th', fu', dr', st', ro', ha', aw', ho', pa', kin', hb', se', t1, t2, _, _, t5⟩ := hk.try (N := N) (p := s) (e := s) hN hi hC (Nat.le_refl _) (by omega) g2 setting been wr ws th fu dr st ro ha ho pa hb se
        obtain ⟨tried2, set2', been2, wr2, ws2, th2, fu2, dr2, st2, ro2, ha2, aw2, ho2, pa2, kin2, hb2, se2, u1, u2, u3, _, u5⟩ := t2.try (N := N) (p := s2) (e := s2) hN hi hC (Nat.le_refl _) (by omega) g2 set been' wr' ws' th' fu' dr' st' ro' ha' ho' pa' hb' se'
        have hk1 := u3 s (by omega) (t5 s (Nat.le_refl _) (Nat.le_refl _)).2
        have hk2 := (u5 s2 (Nat.le_refl _) (Nat.le_refl _)).1
        have m1 := c_most (N := N) hN hi (show s < 21 by omega) (show s2 < 21 by omega) (e1.fit hi) hk1 hk2
        obtain ⟨d3, w3, fr3, m2⟩ := r_most (N := N) (st := s) (st2 := s2) hA hN hi h4 (by omega) (by omega) (e2.fit hi) dawn w1 fr1
        simp only [cs1, r_isSetting, a, b, g1', k1', hc0, t1, u1, m1, m2, un4, un18, bd_some, un1, un2, un3, jn, un0, bI_t, bI_f, i1n0, if_true, if_false, fX10_refuse, fX12_refused, fX10_answer, fX12_good]
        exact ⟨_, 0, ⟨_, _, _, _, _, _, _, _, _, _, _, _, _, _, _, _, _, _, _, rfl, u2⟩, ⟨_, _, _, _, rfl⟩, by decide⟩
    · simp only [cs1, r_isSetting, a, Bool.eq_false_iff.mpr b, bd_some, un1, un2, un3, jn, un0, bI_t, bI_f, i1n0, if_true, if_false, fX10_refuse, fX12_refused, fX10_answer, fX12_good]
      exact ⟨-1, 1, ⟨_, _, _, _, _, _, _, _, _, _, _, _, _, _, _, _, _, _, _, rfl, hk⟩, ⟨_, _, _, _, rfl⟩, by decide⟩
  · simp only [cs1, r_isSetting, Bool.eq_false_iff.mpr a, bd_some, un1, un2, un3, jn, un0, bI_t, bI_f, i1n0, if_true, if_false, fX10_refuse, fX12_refused, fX10_answer, fX12_good]
    exact ⟨-1, 1, ⟨_, _, _, _, _, _, _, _, _, _, _, _, _, _, _, _, _, _, _, rfl, hk⟩, ⟨_, _, _, _, rfl⟩, by decide⟩
