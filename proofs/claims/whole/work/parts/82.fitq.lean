/-! the casts that fit, asked for -/
def QF (c : Option (Int32 × Int32 × Int32 × (Nat → Int32))) (r : Option (Int32 × Int32 × Int32 × Int32 × (Nat → Int32) × (Nat → Int32) × (Nat → Int32))) : Prop := ∃ v tr f1 f2 o1 o2 o3, c = some (v, tr, f1, f2) ∧ r = some (v, 0, tr, -1, o1, o2, o3) ∧ tr ≠ 4
theorem QF.mk {c : Option (Int32 × Int32 × Int32 × (Nat → Int32))} {r : Option (Int32 × Int32 × Int32 × Int32 × (Nat → Int32) × (Nat → Int32) × (Nat → Int32))} {v tr f1 : Int32} {f2 o1 o2 o3 : Nat → Int32} (h1 : c = some (v, tr, f1, f2)) (h2 : r = some (v, 0, tr, -1, o1, o2, o3)) (h3 : tr ≠ 4) : QF c r := ⟨v, tr, f1, f2, o1, o2, o3, h1, h2, h3⟩
theorem fK_le {I Q : Tb} {b : Nat} (hi : ib I) : fK I Q b ≤ 64 := Nat.le_trans (cnb_le _) (cnm_le hi)
theorem q_fits {N : Nat} {I Q : Tb} {how lies isFull bed isTold av what thn' met doorA doorB falls creak cold listens far bk so on ot rbk rso rwh rwt ris : Nat → Int32} {plain : Nat → Int64} (p : Int32) (hN : 64 < N) (hi : ib I) (h0 : 0 < I 0 6) (h4 : 0 < I 0 4) (hA : RAll I how lies isFull bed isTold av what thn' met doorA doorB falls creak cold listens far) (hq : qb I Q) (hC : CQ Q bk so on ot) (hR : RQ Q rbk rso rwh rwt ris) (hp : ROW I 0 (cnm I) plain) (fitting : Int32) (fit w fr rfit : Nat → Int32) : QF (fX10_fits N p (nI (I 0 6)) (nI (cnm I)) fitting (nI (Q 0 0)) bk so on plain ot fit) (fX12_fits N p (nI (Q 0 0)) (nI (I 0 6)) (nI (I 0 0)) (nI (I 0 1)) (nI (I 0 2)) (nI (I 0 3)) (nI (I 0 4)) (nI (I 0 5)) w how lies isFull bed isTold av thn' what doorA doorB fr falls creak listens far cold met rfit rbk rso rwh rwt ris) := by
  have hM := hi.M
  have hT := c_isTold (N := N) h0 (show I 0 6 < 2 ^ 31 by omega)
  unfold fX10_fits fX12_fits
  by_cases c : dinb p 4 = true
  · obtain ⟨b, hb, rfl⟩ := dinb_y (by omega) c
    obtain ⟨f1, g1, _⟩ := gather_ok (N := N) hN hb hi hq hC hp fit
    obtain ⟨w1, fr1, f2, g2, _⟩ := fitsBy_ok (N := N) hA hN hi h4 hb hq hR w fr rfit
    refine QF.mk (v := nI (fK I Q b)) (tr := 0) (f1 := nI (fK I Q b)) (f2 := f1) (o1 := w1) (o2 := fr1) (o3 := f2) ?_ ?_ (by decide)
    · simp only [hT, c_areBooks, c, g1, bd_some, un1, un2, un3, jn, un0, bI_t, bI_f, i1n0, if_true, if_false, fX10_refuse, fX12_refused, fX10_answer, fX12_good]
      all_goals rfl
    · rw [r_refBooks, c, bd_some]
      dsimp only [un1]
      rw [if_pos (by decide), g2, bd_some]
      all_goals rfl
  · refine QF.mk (v := -1) (tr := 2) (f1 := fitting) (f2 := fit) (o1 := w) (o2 := fr) (o3 := rfit) ?_ ?_ (by decide)
    · simp only [hT, c_areBooks, Bool.eq_false_iff.mpr c, bd_some, un1, un2, un3, jn, un0, bI_t, bI_f, i1n0, if_true, if_false, fX10_refuse, fX12_refused, fX10_answer, fX12_good]
      all_goals rfl
    · rw [r_refBooks, bd_some]
      dsimp only [un1]
      rw [if_neg c, if_neg (by decide)]
      all_goals rfl
theorem q_fit {N : Nat} {I Q : Tb} {how lies isFull bed isTold av what thn' met doorA doorB falls creak cold listens far bk so on ot rbk rso rwh rwt ris : Nat → Int32} {plain : Nat → Int64} {dreams : Nat → Int32} (p0 p1 p2 : Int32) (hN : 64 < N) (hi : ib I) (h0 : 0 < I 0 6) (h4 : 0 < I 0 4) (hA : RAll I how lies isFull bed isTold av what thn' met doorA doorB falls creak cold listens far) (hq : qb I Q) (hC : CQ Q bk so on ot) (hR : RQ Q rbk rso rwh rwt ris) (hp : ROW I 0 (cnm I) plain) (fitting : Int32) (fit w fr rfit : Nat → Int32) (hd : ∀ c s, c < cnm I → s < I 0 4 → dreams (3 * c + s) = nI (dg I c s)) : QF (fX10_fit N p0 p1 p2 (nI (I 0 4)) (nI (cnm I)) fitting (nI (Q 0 0)) bk so on plain ot fit dreams) (fX12_fit N p0 p1 p2 (nI (Q 0 0)) (nI (I 0 6)) (nI (I 0 0)) (nI (I 0 1)) (nI (I 0 2)) (nI (I 0 3)) (nI (I 0 4)) (nI (I 0 5)) w how lies isFull bed isTold av thn' what doorA doorB fr falls creak listens far cold met rfit rbk rso rwh rwt ris) := by
  have hS := hi.S
  have hcl := cnm_le hi
  have hE := hi.E1 h4
  have hin : fX12_in N p0 0 3 = some (bI (dinb p0 4)) := r_in0 (n := 3) N p0 (by omega)
  unfold fX10_fit fX12_fit
  by_cases a : dinb p2 (I 0 4) = true
  · by_cases c : dinb p0 4 = true
    · obtain ⟨b, hb, rfl⟩ := dinb_y (by omega) c
      obtain ⟨s, hs, rfl⟩ := dinb_y (by omega) a
      obtain ⟨f1, g1, e1⟩ := gather_ok (N := N) hN hb hi hq hC hp fit
      obtain ⟨w1, fr1, f2, g2, e2⟩ := fitsBy_ok (N := N) hA hN hi h4 hb hq hR w fr rfit
      have F1 := e1.fit hi
      have F2 := e2.fit hi
      have hK := fK_le (Q := Q) (b := b) hi
      by_cases d : dinb p1 (fK I Q b) = true
      · obtain ⟨i, hi2, rfl⟩ := dinb_y (by omega) d
        have d1 := c_dreamIn (N := N) hi F1 hd hi2 hs
        obtain ⟨x1, x2⟩ := F2.2 i hi2
        have d2 := r_dreamIn_ok (N := N) (c := fF I Q b i) hN hi hE (by omega) hs
        have z0 : ¬ nI i < 0 := fun q => (nI_lt0 (by omega)).mp q
        have z1 : ¬ nI (fK I Q b) ≤ nI i := fun q => absurd ((nI_leI (by omega) (by omega)).mp q) (by omega)
        refine QF.mk (v := nI (dg I (fF I Q b i) s)) (tr := 0) (f1 := nI (fK I Q b)) (f2 := f1) (o1 := w1) (o2 := fr1) (o3 := f2) ?_ ?_ (by decide)
        · simp only [c_isSleeper, c_areBooks, a, c, g1, c_below, d, d1, bd_some, un1, un2, un3, jn, un0, bI_t, bI_f, i1n0, if_true, if_false, fX10_refuse, fX12_refused, fX10_answer, fX12_good]
          all_goals rfl
        · simp (disch := omega) only [r_isSleeper, hin, a, c, g2, un4, z0, z1, gd_nI, nI_clamp, x1, d2, bd_some, un1, un2, un3, jn, un0, bI_t, bI_f, i1n0, if_true, if_false, fX10_refuse, fX12_refused, fX10_answer, fX12_good]
          all_goals rfl
      · refine QF.mk (v := -1) (tr := 1) (f1 := nI (fK I Q b)) (f2 := f1) (o1 := w1) (o2 := fr1) (o3 := f2) ?_ ?_ (by decide)
        · simp only [c_isSleeper, c_areBooks, a, c, g1, c_below, Bool.eq_false_iff.mpr d, bd_some, un1, un2, un3, jn, un0, bI_t, bI_f, i1n0, if_true, if_false, fX10_refuse, fX12_refused, fX10_answer, fX12_good]
          all_goals rfl
        · simp only [r_isSleeper, hin, a, c, g2, un4, bd_some, un1, un2, un3, jn, un0, bI_t, bI_f, i1n0, if_true, if_false, fX10_refuse, fX12_refused, fX10_answer, fX12_good]
          by_cases z : p1 < 0
          · rw [if_pos z]
            all_goals rfl
          · rw [if_neg z, if_pos (by
              obtain ⟨j, hj, rfl⟩ := nI_of z
              rw [dinb_nI hj (by omega)] at d
              rw [nI_leI (by omega) hj]
              have : ¬ j < fK I Q b := fun q => d (decide_eq_true q)
              omega)]
            all_goals rfl
    · refine QF.mk (v := -1) (tr := 2) (f1 := fitting) (f2 := fit) (o1 := w) (o2 := fr) (o3 := rfit) ?_ ?_ (by decide)
      · simp only [c_isSleeper, c_areBooks, a, Bool.eq_false_iff.mpr c, bd_some, un1, un2, un3, jn, un0, bI_t, bI_f, i1n0, if_true, if_false, fX10_refuse, fX12_refused, fX10_answer, fX12_good]
        all_goals rfl
      · simp only [r_isSleeper, hin, a, Bool.eq_false_iff.mpr c, bd_some, un1, un2, un3, jn, un0, bI_t, bI_f, i1n0, if_true, if_false, fX10_refuse, fX12_refused, fX10_answer, fX12_good]
        all_goals rfl
  · refine QF.mk (v := -1) (tr := 1) (f1 := fitting) (f2 := fit) (o1 := w) (o2 := fr) (o3 := rfit) ?_ ?_ (by decide)
    · simp only [c_isSleeper, Bool.eq_false_iff.mpr a, bd_some, un1, un2, un3, jn, un0, bI_t, bI_f, i1n0, if_true, if_false, fX10_refuse, fX12_refused, fX10_answer, fX12_good]
      all_goals rfl
    · simp only [r_isSleeper, Bool.eq_false_iff.mpr a, bd_some, un1, un2, un3, jn, un0, bI_t, bI_f, i1n0, if_true, if_false, fX10_refuse, fX12_refused, fX10_answer, fX12_good]
      all_goals rfl
theorem q_sure {N : Nat} {I Q : Tb} {how lies isFull bed isTold av what thn' met doorA doorB falls creak cold listens far bk so on ot rbk rso rwh rwt ris : Nat → Int32} {plain : Nat → Int64} {dreams : Nat → Int32} (p0 : Int32) (hN : 64 < N) (hi : ib I) (h0 : 0 < I 0 6) (h4 : 0 < I 0 4) (hA : RAll I how lies isFull bed isTold av what thn' met doorA doorB falls creak cold listens far) (hq : qb I Q) (hC : CQ Q bk so on ot) (hR : RQ Q rbk rso rwh rwt ris) (hp : ROW I 0 (cnm I) plain) (fitting : Int32) (fit w fr rfit : Nat → Int32) (hd : ∀ c s, c < cnm I → s < I 0 4 → dreams (3 * c + s) = nI (dg I c s)) : QF (fX10_sure N p0 (nI (I 0 4)) (nI (cnm I)) fitting (nI (Q 0 0)) bk so on plain ot fit dreams) (fX12_sure N p0 (nI (Q 0 0)) (nI (I 0 6)) (nI (I 0 0)) (nI (I 0 1)) (nI (I 0 2)) (nI (I 0 3)) (nI (I 0 4)) (nI (I 0 5)) w how lies isFull bed isTold av thn' what doorA doorB fr falls creak listens far cold met rfit rbk rso rwh rwt ris) := by
  have hS := hi.S
  have hcl := cnm_le hi
  have hE := hi.E1 h4
  have hE4 := hi.E
  obtain ⟨f1, g1, e1⟩ := gather_ok (N := N) (b := 3) hN (by omega) hi hq hC hp fit
  obtain ⟨w1, fr1, f2, g2, e2⟩ := fitsBy_ok (N := N) (b := 3) hA hN hi h4 (by omega) hq hR w fr rfit
  have F1 := e1.fit hi
  have F2 := e2.fit hi
  have hK := fK_le (Q := Q) (b := 3) hi
  have g1' : fX0_gather N 3 (nI (cnm I)) (nI (Q 0 0)) bk so on plain ot fit = _ := g1
  have g2' : fX12_fitsBy N 3 (nI (Q 0 0)) (nI (I 0 6)) (nI (I 0 0)) (nI (I 0 1)) (nI (I 0 2)) (nI (I 0 3)) (nI (I 0 4)) (nI (I 0 5)) w how lies isFull bed isTold av thn' what doorA doorB fr falls creak listens far cold met rfit rbk rso rwh rwt ris = _ := g2
  unfold fX10_sure fX12_sure
  by_cases a : dinb p0 (I 0 4) = true
  · obtain ⟨s, hs, rfl⟩ := dinb_y (by omega) a
    by_cases c : fK I Q 3 = 0
    · refine QF.mk (v := -1) (tr := 6) (f1 := nI (fK I Q 3)) (f2 := f1) (o1 := w1) (o2 := fr1) (o3 := f2) ?_ ?_ (by decide)
      · simp only [c_isSleeper, a, g1', c, show nI 0 = (0 : Int32) from rfl, bd_some, un1, un2, un3, jn, un0, bI_t, bI_f, i1n0, if_true, if_false, fX10_refuse, fX12_refused, fX10_answer, fX12_good]
        all_goals rfl
      · simp only [r_isSleeper, a, g2', c, un4, show nI 0 = (0 : Int32) from rfl, bd_some, un1, un2, un3, jn, un0, bI_t, bI_f, i1n0, if_true, if_false, fX10_refuse, fX12_refused, fX10_answer, fX12_good]
        all_goals rfl
    · have hc0 : ¬ nI (fK I Q 3) = (0 : Int32) := fun q => c ((nI_eq (by omega) (by decide)).mp (q.trans (il 0)))
      have d1 := c_common (N := N) hN hi F1 hd (by omega) hs
      obtain ⟨x1, x2⟩ := F2.2 0 (by omega)
      have d2 := r_dreamIn_ok (N := N) (c := fF I Q 3 0) hN hi hE (by omega) hs
      have x0 : f2 (Int32.toNatClampNeg 0) = nI (fF I Q 3 0) := x1
      have hl : lp (BX12_sure_51 (nI (fK I Q 3)) N (nI (dg I (fF I Q 3 0) s)) w1 fr1 f2 (nI s) (nI (I 0 3)) (nI (I 0 4))) N 1 = some (cdI I (fF I Q 3) (fK I Q 3) s, 0, 0, -1, w1, fr1, f2) := by
        have h := lp_findS (B := BX12_sure_51 (nI (fK I Q 3)) N (nI (dg I (fF I Q 3 0) s)) w1 fr1 f2 (nI s) (nI (I 0 3)) (nI (I 0 4))) (fun i => nI (1 + i)) (p := fun i => decide (dg I (fF I Q 3 (1 + i)) s ≠ dg I (fF I Q 3 0) s)) (D := fK I Q 3 - 1) (N := N) (e := some (nI (dg I (fF I Q 3 0) s), 0, 0, -1, w1, fr1, f2)) (f := fun _ => some (-2, 0, 0, -1, w1, fr1, f2)) (by omega) (fun i hi2 rec => ?_) (fun rec => ?_)
        · have h2 : lp (BX12_sure_51 (nI (fK I Q 3)) N (nI (dg I (fF I Q 3 0) s)) w1 fr1 f2 (nI s) (nI (I 0 3)) (nI (I 0 4))) N 1 = _ := h
          rw [h2]
          unfold cdI
          split <;> rfl
        · have h3 : ¬ fK I Q 3 ≤ 1 + i := by omega
          obtain ⟨y1, y2⟩ := F2.2 (1 + i) (by omega)
          have di := r_dreamIn_ok (N := N) (c := fF I Q 3 (1 + i)) hN hi hE (by omega) hs
          have q1 := dg_lt hE (fF I Q 3 0) s
          have q2 := dg_lt hE (fF I Q 3 (1 + i)) s
          simp (disch := omega) only [BX12_sure_51, nI_leI, h3, gd_nI, nI_clamp, y1, di, nI_eq, decide_eq_true_eq, nI_1, bd_some, un1, un2, un3, jn, un0, bI_t, bI_f, i1n0, if_true, if_false, fX10_refuse, fX12_refused, fX10_answer, fX12_good]
          by_cases c : dg I (fF I Q 3 (1 + i)) s = dg I (fF I Q 3 0) s
          · rw [if_pos c, if_neg (fun q => q c), Nat.add_assoc]
          · rw [if_neg c, if_pos c]
        · have h3 : fK I Q 3 ≤ 1 + (fK I Q 3 - 1) := by omega
          simp (disch := omega) only [BX12_sure_51, nI_leI, h3, bd_some, un1, un2, un3, jn, un0, bI_t, bI_f, i1n0, if_true, if_false, fX10_refuse, fX12_refused, fX10_answer, fX12_good]
      refine QF.mk (v := cdI I (fF I Q 3) (fK I Q 3) s) (tr := 0) (f1 := nI (fK I Q 3)) (f2 := f1) (o1 := w1) (o2 := fr1) (o3 := f2) ?_ ?_ (by decide)
      · simp only [c_isSleeper, a, g1', hc0, d1, bd_some, un1, un2, un3, jn, un0, bI_t, bI_f, i1n0, if_true, if_false, fX10_refuse, fX12_refused, fX10_answer, fX12_good]
        all_goals rfl
      · simp (disch := omega) only [r_isSleeper, a, g2', hc0, un4, gd_0, x0, d2, hl, bd_some, un1, un2, un3, jn, un0, bI_t, bI_f, i1n0, if_true, if_false, fX10_refuse, fX12_refused, fX10_answer, fX12_good]
        all_goals rfl
  · refine QF.mk (v := -1) (tr := 1) (f1 := fitting) (f2 := fit) (o1 := w) (o2 := fr) (o3 := rfit) ?_ ?_ (by decide)
    · simp only [c_isSleeper, Bool.eq_false_iff.mpr a, bd_some, un1, un2, un3, jn, un0, bI_t, bI_f, i1n0, if_true, if_false, fX10_refuse, fX12_refused, fX10_answer, fX12_good]
      all_goals rfl
    · simp only [r_isSleeper, Bool.eq_false_iff.mpr a, bd_some, un1, un2, un3, jn, un0, bI_t, bI_f, i1n0, if_true, if_false, fX10_refuse, fX12_refused, fX10_answer, fX12_good]
      all_goals rfl
theorem q_verdict {N : Nat} {I Q : Tb} {how lies isFull bed isTold av what thn' met doorA doorB falls creak cold listens far bk so on ot rbk rso rwh rwt ris : Nat → Int32} {plain : Nat → Int64} (hN : 64 < N) (hi : ib I) (h0 : 0 < I 0 6) (h4 : 0 < I 0 4) (hA : RAll I how lies isFull bed isTold av what thn' met doorA doorB falls creak cold listens far) (hq : qb I Q) (hC : CQ Q bk so on ot) (hR : RQ Q rbk rso rwh rwt ris) (hp : ROW I 0 (cnm I) plain) (fitting : Int32) (fit w fr rfit : Nat → Int32) : QF (fX10_verdict N (nI (I 0 6)) (nI (cnm I)) fitting (nI (Q 0 0)) bk so on plain ot fit) (fX12_verdict N (nI (Q 0 0)) (nI (I 0 6)) (nI (I 0 0)) (nI (I 0 1)) (nI (I 0 2)) (nI (I 0 3)) (nI (I 0 4)) (nI (I 0 5)) w how lies isFull bed isTold av thn' what doorA doorB fr falls creak listens far cold met rfit rbk rso rwh rwt ris) := by
  have hM := hi.M
  have hT := c_isTold (N := N) h0 (show I 0 6 < 2 ^ 31 by omega)
  obtain ⟨f1, g1, _⟩ := gather_ok (N := N) (b := 3) hN (by omega) hi hq hC hp fit
  obtain ⟨f2, g2, _⟩ := gather_ok (N := N) (b := 1) hN (by omega) hi hq hC hp f1
  obtain ⟨f3, g3, _⟩ := gather_ok (N := N) (b := 2) hN (by omega) hi hq hC hp f2
  obtain ⟨w1, fr1, r1, k1, _⟩ := fitsBy_ok (N := N) (b := 3) hA hN hi h4 (by omega) hq hR w fr rfit
  obtain ⟨w2, fr2, r2, k2, _⟩ := fitsBy_ok (N := N) (b := 1) hA hN hi h4 (by omega) hq hR w1 fr1 r1
  obtain ⟨w3, fr3, r3, k3, _⟩ := fitsBy_ok (N := N) (b := 2) hA hN hi h4 (by omega) hq hR w2 fr2 r2
  have hK1 := fK_le (Q := Q) (b := 1) hi
  have hK2 := fK_le (Q := Q) (b := 2) hi
  have hK3 := fK_le (Q := Q) (b := 3) hi
  have le0 : ∀ b, fK I Q b ≤ 64 → (nI (fK I Q b) ≤ (0 : Int32) ↔ fK I Q b = 0) := fun b hb => (nI_leI (b := 0) (by omega) (by decide)).trans (by omega)
  have g1' : fX0_gather N 3 (nI (cnm I)) (nI (Q 0 0)) bk so on plain ot fit = _ := g1
  have g2' : fX0_gather N 1 (nI (cnm I)) (nI (Q 0 0)) bk so on plain ot f1 = _ := g2
  have g3' : fX0_gather N 2 (nI (cnm I)) (nI (Q 0 0)) bk so on plain ot f2 = _ := g3
  have k1' : fX12_fitsBy N 3 (nI (Q 0 0)) (nI (I 0 6)) (nI (I 0 0)) (nI (I 0 1)) (nI (I 0 2)) (nI (I 0 3)) (nI (I 0 4)) (nI (I 0 5)) w how lies isFull bed isTold av thn' what doorA doorB fr falls creak listens far cold met rfit rbk rso rwh rwt ris = _ := k1
  have k2' : fX12_fitsBy N 1 (nI (Q 0 0)) (nI (I 0 6)) (nI (I 0 0)) (nI (I 0 1)) (nI (I 0 2)) (nI (I 0 3)) (nI (I 0 4)) (nI (I 0 5)) w1 how lies isFull bed isTold av thn' what doorA doorB fr1 falls creak listens far cold met r1 rbk rso rwh rwt ris = _ := k2
  have k3' : fX12_fitsBy N 2 (nI (Q 0 0)) (nI (I 0 6)) (nI (I 0 0)) (nI (I 0 1)) (nI (I 0 2)) (nI (I 0 3)) (nI (I 0 4)) (nI (I 0 5)) w2 how lies isFull bed isTold av thn' what doorA doorB fr2 falls creak listens far cold met r2 rbk rso rwh rwt ris = _ := k3
  unfold fX10_verdict fX12_verdict
  by_cases a : fK I Q 3 = 0
  · have a' := (le0 3 hK3).mpr a
    by_cases b : fK I Q 1 = 0
    · have b' := (le0 1 hK1).mpr b
      by_cases c : fK I Q 2 = 0
      · have c' := (le0 2 hK2).mpr c
        refine QF.mk (v := 4) (tr := 0) (f1 := nI (fK I Q 2)) (f2 := f3) (o1 := w3) (o2 := fr3) (o3 := r3) ?_ ?_ (by decide)
        · simp only [hT, g1', g2', g3', a', b', c', bd_some, un1, un2, un3, jn, un0, bI_t, bI_f, i1n0, if_true, if_false, fX10_refuse, fX12_refused, fX10_answer, fX12_good]
          all_goals rfl
        · simp only [k1', k2', k3', a', b', c', un4, bd_some, un1, un2, un3, jn, un0, bI_t, bI_f, i1n0, if_true, if_false, fX10_refuse, fX12_refused, fX10_answer, fX12_good]
          all_goals rfl
      · have c' : ¬ nI (fK I Q 2) ≤ (0 : Int32) := fun q => c ((le0 2 hK2).mp q)
        refine QF.mk (v := 2) (tr := 0) (f1 := nI (fK I Q 2)) (f2 := f3) (o1 := w3) (o2 := fr3) (o3 := r3) ?_ ?_ (by decide)
        · simp only [hT, g1', g2', g3', a', b', c', bd_some, un1, un2, un3, jn, un0, bI_t, bI_f, i1n0, if_true, if_false, fX10_refuse, fX12_refused, fX10_answer, fX12_good]
          all_goals rfl
        · simp only [k1', k2', k3', a', b', c', un4, bd_some, un1, un2, un3, jn, un0, bI_t, bI_f, i1n0, if_true, if_false, fX10_refuse, fX12_refused, fX10_answer, fX12_good]
          all_goals rfl
    · have b' : ¬ nI (fK I Q 1) ≤ (0 : Int32) := fun q => b ((le0 1 hK1).mp q)
      by_cases c : fK I Q 2 = 0
      · have c' := (le0 2 hK2).mpr c
        refine QF.mk (v := 1) (tr := 0) (f1 := nI (fK I Q 2)) (f2 := f3) (o1 := w3) (o2 := fr3) (o3 := r3) ?_ ?_ (by decide)
        · simp only [hT, g1', g2', g3', a', b', c', bd_some, un1, un2, un3, jn, un0, bI_t, bI_f, i1n0, if_true, if_false, fX10_refuse, fX12_refused, fX10_answer, fX12_good]
          all_goals rfl
        · simp only [k1', k2', k3', a', b', c', un4, bd_some, un1, un2, un3, jn, un0, bI_t, bI_f, i1n0, if_true, if_false, fX10_refuse, fX12_refused, fX10_answer, fX12_good]
          all_goals rfl
      · have c' : ¬ nI (fK I Q 2) ≤ (0 : Int32) := fun q => c ((le0 2 hK2).mp q)
        refine QF.mk (v := 3) (tr := 0) (f1 := nI (fK I Q 2)) (f2 := f3) (o1 := w3) (o2 := fr3) (o3 := r3) ?_ ?_ (by decide)
        · simp only [hT, g1', g2', g3', a', b', c', bd_some, un1, un2, un3, jn, un0, bI_t, bI_f, i1n0, if_true, if_false, fX10_refuse, fX12_refused, fX10_answer, fX12_good]
          all_goals rfl
        · simp only [k1', k2', k3', a', b', c', un4, bd_some, un1, un2, un3, jn, un0, bI_t, bI_f, i1n0, if_true, if_false, fX10_refuse, fX12_refused, fX10_answer, fX12_good]
          all_goals rfl
  · have a' : ¬ nI (fK I Q 3) ≤ (0 : Int32) := fun q => a ((le0 3 hK3).mp q)
    refine QF.mk (v := 0) (tr := 0) (f1 := nI (fK I Q 3)) (f2 := f1) (o1 := w1) (o2 := fr1) (o3 := r1) ?_ ?_ (by decide)
    · simp only [hT, g1', a', bd_some, un1, un2, un3, jn, un0, bI_t, bI_f, i1n0, if_true, if_false, fX10_refuse, fX12_refused, fX10_answer, fX12_good]
      all_goals rfl
    · simp only [k1', a', un4, bd_some, un1, un2, un3, jn, un0, bI_t, bI_f, i1n0, if_true, if_false, fX10_refuse, fX12_refused, fX10_answer, fX12_good]
      all_goals rfl
