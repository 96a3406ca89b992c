/-! minutes, morning, called -/
theorem nI_le40 {j : Nat} (hj : j < 2 ^ 31) : nI j ≤ (40 : Int32) ↔ j ≤ 40 := nI_leI (b := 40) hj (by decide)
theorem nI_0lt {j : Nat} (hj : j < 2 ^ 31) : (0 : Int32) < nI j ↔ 0 < j := nI_ltI (a := 0) (by omega) hj
theorem q_morning {N : Nat} {I n : Tb} {inThing inFull bed hhow states one other falls creak cold listensIn g2 : Nat → Int32} {setting been wr : Int32} {ws ho pa dr st ro ha aw th fu w : Nat → Int32} {hb : Nat → Int64} {rhow lies isFull rbed isTold av what thn' met doorA doorB rfalls rcreak rcold listens far : Nat → Int32} (fr : Nat → Int32) (hN : 64 < N) (hi : ib I) (h0 : 0 < I 0 6) (hA : CAll I inThing inFull bed hhow states one other falls creak cold listensIn) (hR : RAll I rhow lies isFull rbed isTold av what thn' met doorA doorB rfalls rcreak rcold listens far) (hn : NGT I n setting been wr ws ho pa dr st ro ha aw th fu hb w) : ∃ v tr been' aw' st' ro' ho' th' fu' ha' hb' pa' w' fr' n', fX10_morning N (nI (I 0 6)) (nI (I 0 4)) (nI (I 0 5)) been aw dr st states ro (nI (I 0 1)) one other ho th fu ha wr ws creak listensIn (mf (I 0 0) (ds I nolk) g2) hb cold falls pa = some (v, tr, been', aw', st', ro', ho', th', fu', ha', hb', pa') ∧ fX12_morning N w (nI (I 0 6)) (nI (I 0 0)) (nI (I 0 1)) (nI (I 0 4)) (nI (I 0 5)) isTold av thn' what doorA doorB fr rfalls rcreak listens far rcold met = some (v, 0, tr, -1, w', fr') ∧ tr ≠ 4 ∧ NGT I n' setting been' wr ws ho' pa' dr st' ro' ha' aw' th' fu' hb' w' := by
  have hM := hi.M
  have hn5 := hn.2.2.2.2.1
  have hbe : been = nI (n 0 0) := hn.1.1
  obtain ⟨k, been', aw', st', ro', ho', th', fu', ha', hb', pa', w', fr', hk, p1, p2, p3⟩ := hn.pass (N := N) (m := 40) (g2 := g2) fr hN hi hA hR (Nat.le_refl _)
  have hk2 : k = I 0 6 - n 0 0 := by omega
  refine ⟨nI k, 0, been', aw', st', ro', ho', th', fu', ha', hb', pa', w', fr', _, ?_, ?_, by decide, p3⟩
  · unfold fX10_morning
    have es : (nI (I 0 6) - been : Int32) = nI k := by rw [hbe, pk_sub hn5, hk2]
    rw [c_isTold h0 (by omega), bd_some]
    dsimp only [un1]
    rw [if_neg (by decide), es, p1, bd_some]
    rfl
  · unfold fX12_morning
    rw [show (40 : Int32) = nI 40 from rfl, p2, bd_some]
    rfl
theorem q_minutes {N : Nat} {I n : Tb} {inThing inFull bed hhow states one other falls creak cold listensIn g2 : Nat → Int32} {setting been wr : Int32} {ws ho pa dr st ro ha aw th fu w : Nat → Int32} {hb : Nat → Int64} {rhow lies isFull rbed isTold av what thn' met doorA doorB rfalls rcreak rcold listens far : Nat → Int32} (p : Int32) (fr : Nat → Int32) (hN : 64 < N) (hi : ib I) (h0 : 0 < I 0 6) (hA : CAll I inThing inFull bed hhow states one other falls creak cold listensIn) (hR : RAll I rhow lies isFull rbed isTold av what thn' met doorA doorB rfalls rcreak rcold listens far) (hn : NGT I n setting been wr ws ho pa dr st ro ha aw th fu hb w) : ∃ v tr been' aw' st' ro' ho' th' fu' ha' hb' pa' w' fr' n', fX10_minutes N p (nI (I 0 6)) (nI (I 0 4)) (nI (I 0 5)) been aw dr st states ro (nI (I 0 1)) one other ho th fu ha wr ws creak listensIn (mf (I 0 0) (ds I nolk) g2) hb cold falls pa = some (v, tr, been', aw', st', ro', ho', th', fu', ha', hb', pa') ∧ fX12_minutes N p w (nI (I 0 6)) (nI (I 0 0)) (nI (I 0 1)) (nI (I 0 4)) (nI (I 0 5)) isTold av thn' what doorA doorB fr rfalls rcreak listens far rcold met = some (v, 0, tr, -1, w', fr') ∧ tr ≠ 4 ∧ NGT I n' setting been' wr ws ho' pa' dr st' ro' ha' aw' th' fu' hb' w' := by
  have hM := hi.M
  have hn5 := hn.2.2.2.2.1
  have hbe : been = nI (n 0 0) := hn.1.1
  have hw : w 49 = nI (n 0 0) := hn.2.1.1
  have c49 : w (Int32.toNatClampNeg 49) = nI (n 0 0) := hw
  have es : (nI (I 0 6) - been : Int32) = nI (I 0 6 - n 0 0) := by rw [hbe, pk_sub hn5]
  have g49 : ∀ K : Option (Int32 × Int32 × Int32 × Int32 × (Nat → Int32) × (Nat → Int32)), gd 49 51 K = K := fun K => gd_nI (k := 49) K (by omega) (by omega)
  have hT := c_isTold (N := N) h0 (show I 0 6 < 2 ^ 31 by omega)
  unfold fX10_minutes fX12_minutes
  rw [hT, bd_some]
  dsimp only [un1]
  rw [if_neg (by decide)]
  by_cases hp : p < 0
  · have hin : fX12_in N p 1 40 = some 0 := by
      show (if p < 1 then _ else _) = _
      rw [if_pos (neg_lt1 hp)]
      rfl
    refine ⟨-1, 2, been, aw, st, ro, ho, th, fu, ha, hb, pa, w, fr, n, ?_, ?_, by decide, hn⟩
    · rw [if_pos (neg_lt1 hp)]
      rfl
    · rw [hin]
      rfl
  · obtain ⟨j, hj, rfl⟩ := nI_of hp
    have hin : fX12_in N (nI j) 1 40 = some (bI (decide (1 ≤ j ∧ j ≤ 40))) := r_in1 N hj (show 40 < 2 ^ 31 by omega)
    rw [hin, bd_some]
    dsimp only [un1]
    by_cases d : 1 ≤ j ∧ j ≤ 40
    · rw [decide_eq_true d, if_neg (fun q => absurd ((nI_lt1 hj).mp q) (by omega)), if_pos ((nI_le40 hj).mpr d.2), if_neg (show ¬ bI true = 0 by decide), g49, c49, es]
      by_cases e : n 0 0 = I 0 6
      · refine ⟨-1, 6, been, aw, st, ro, ho, th, fu, ha, hb, pa, w, fr, n, ?_, ?_, by decide, hn⟩
        · rw [if_neg (fun q => absurd ((nI_0lt (by omega)).mp q) (by omega))]
          rfl
        · rw [e, if_pos rfl]
          rfl
      · obtain ⟨k, been', aw', st', ro', ho', th', fu', ha', hb', pa', w', fr', hk, p1, p2, p3⟩ := hn.pass (N := N) (m := j) (g2 := g2) fr hN hi hA hR d.2
        have ev : (if nI (I 0 6 - n 0 0) < nI j then nI (I 0 6 - n 0 0) else nI j) = nI k := by
          by_cases z : I 0 6 - n 0 0 < j
          · rw [if_pos ((nI_ltI (by omega) hj).mpr z), hk]
            congr 1
            omega
          · rw [if_neg (fun q => z ((nI_ltI (by omega) hj).mp q)), hk]
            congr 1
            omega
        refine ⟨nI k, 0, been', aw', st', ro', ho', th', fu', ha', hb', pa', w', fr', _, ?_, ?_, by decide, p3⟩
        · rw [if_pos ((nI_0lt (by omega)).mpr (by omega)), ev, p1, bd_some]
          rfl
        · rw [if_neg (fun q => e ((nI_eq (by omega) (by omega)).mp q)), p2, bd_some]
          rfl
    · refine ⟨-1, 2, been, aw, st, ro, ho, th, fu, ha, hb, pa, w, fr, n, ?_, ?_, by decide, hn⟩
      · by_cases z : j < 1
        · rw [if_pos ((nI_lt1 hj).mpr z)]
          rfl
        · rw [if_neg (fun q => z ((nI_lt1 hj).mp q)), if_neg (fun q => absurd ((nI_le40 hj).mp q) (by omega))]
          rfl
      · rw [decide_eq_false d]
        rfl
theorem q_called {N : Nat} {I : Tb} {inThing inFull bed hhow states one other falls creak cold listensIn g2 chosen set : Nat → Int32} {setting been wr : Int32} {ws ho pa dr st ro ha aw th fu w : Nat → Int32} {hb : Nat → Int64} {rhow lies isFull rbed isTold av what thn' met doorA doorB rfalls rcreak rcold listens far : Nat → Int32} (p0 p1 p2 : Int32) (fr : Nat → Int32) (hN : 64 < N) (hi : ib I) (h0 : 0 < I 0 6) (hA : CAll I inThing inFull bed hhow states one other falls creak cold listensIn) (hR : RAll I rhow lies isFull rbed isTold av what thn' met doorA doorB rfalls rcreak rcold listens far) (hc : CHS I chosen set) (haw : ∀ i, i < 3 → aw i = 0 ∨ aw i = 1) :
    ∃ v tr setting' been' wr' ws' th' fu' hb' dr' st' ro' ha' aw' ho' pa' w' fr', fX10_called N p0 p1 p2 (nI (I 0 6)) (nI (I 0 4)) (nI (I 0 5)) (nI (I 0 0)) (nI (I 0 1)) setting been hhow wr ws one other inThing th inFull fu hb chosen dr st bed ro ha aw ho pa states creak listensIn (mf (I 0 0) (ds I nolk) g2) cold falls = some (v, tr, setting', been', wr', ws', th', fu', hb', dr', st', ro', ha', aw', ho', pa') ∧ fX12_called N p0 p1 p2 (nI (I 0 6)) (nI (I 0 0)) (nI (I 0 1)) (nI (I 0 2)) (nI (I 0 4)) (nI (I 0 5)) w rhow lies isFull rbed isTold av thn' what doorA doorB fr rfalls rcreak listens far rcold met set = some (v, 0, tr, -1, w', fr') ∧ tr ≠ 4 ∧ ∀ i, i < 3 → aw' i = 0 ∨ aw' i = 1 := by
  have hM := hi.M
  have hD := hi.D
  have hS := hi.S
  have hRm := hi.R
  have cs1 := c_isSetting (N := N) p0 hi h0
  unfold fX10_called fX12_called
  by_cases c : dinb p0 (1 + 2 * I 0 1) = true
  · by_cases d : dinb p1 (I 0 4) = true
    · obtain ⟨s, hs, rfl⟩ := dinb_y (by omega) d
      have hin := r_in0 N p2 (n := I 0 6) (by omega)
      rw [cs1, r_isSetting, c, c_isSleeper, r_isSleeper, d, hin]
      by_cases hp : p2 < 0
      · have hd : dinb p2 (I 0 6 + 1) = false := decide_eq_false (fun q => q.1 hp)
        rw [hd]
        refine ⟨-1, 2, setting, been, wr, ws, th, fu, hb, dr, st, ro, ha, aw, ho, pa, w, fr, ?_, rfl, by decide, haw⟩
        show (if p2 < 0 then _ else _) = _
        rw [if_pos hp]
        rfl
      · obtain ⟨j, hj, rfl⟩ := nI_of hp
        rw [dinb_nI hj (by omega)]
        by_cases e : j ≤ I 0 6
        · rw [decide_eq_true (show j < I 0 6 + 1 by omega)]
          obtain ⟨k, hk, rfl⟩ := dinb_y (by omega) c
          obtain ⟨c1, c2, c3, c4, c5, c6⟩ := hA
          obtain ⟨q, hcs⟩ := hc
          obtain ⟨g, hpr⟩ := prepare_ok (N := N) (st := k) (steps := ws) hN hi (by omega) c1 c6.1 c6.2.1
          obtain ⟨th1, fu1, hb1, dr1, st1, ro1, ha1, aw1, ho1, pa1, b1, b2⟩ := begin_ok (N := N) (st := k) (fr := 0) (dr := q) (a0 := chosen) hN hi (by omega) (by omega) c1 c2 c3 c4 (fun s hs => by rw [Nat.zero_add]; exact (hcs s hs).1) th fu dr st ro ha aw ho pa hb haw
          have hdr : ∀ s, s < I 0 4 → q s < I 0 3 := fun s hs => (hcs s hs).2.2
          obtain ⟨been2, aw2, st2, ro2, ho2, th2, fu2, ha2, hb2, pa2, p1, p2⟩ := pass_ok (N := N) (n := nf I k q) (m := j) (g1 := g) (g2 := g2) hN hi (nb_nf hi k hdr) (by show 0 + j ≤ 40; omega) c5 c6 b2
          rw [show nf I k q 0 1 = k from rfl] at p1
          have hro : ro2 s = nI (pas I (nf I k q) j 5 s) := p2.2.2.2.2.2.1 s hs
          have bz := p2.2.2.2.2.2.2.2.2.2.2.2.1
          have hr : ∃ w' fr', lp (BX12_called_59 (nI (I 0 4)) N (nI k) (nI j) (nI (I 0 6)) (nI (I 0 0)) (nI (I 0 1)) (nI (I 0 2)) (nI (I 0 5)) rhow lies isFull rbed isTold av thn' what doorA doorB fr rfalls rcreak listens far rcold met (nI s) set) N (0, w) = some (nI (pas I (nf I k q) j 5 s), 0, 0, -1, w', fr') := by
            refine lp_go (X := fun o => ∃ w' fr', o = some (nI (pas I (nf I k q) j 5 s), 0, 0, -1, w', fr')) (fun i x => ∃ w' : Nat → Int32, x = (nI i, w') ∧ ∀ t, t < i → w' (12 + t) = nI (q t)) (I 0 4) (by omega) ⟨w, rfl, fun t h => by omega⟩ (fun i hi2 x hx => ?_) (fun x hx rec => ?_)
            · obtain ⟨w', rfl, x1⟩ := hx
              refine ⟨(nI (i + 1), upd w' (12 + i) (nI (q i))), fun rec => ?_, _, rfl, fun t ht => ?_⟩
              · have h3 : ¬ I 0 4 ≤ i := by omega
                simp (disch := omega) only [BX12_called_59, un2, nI_leI, h3, if_false, gd_nI, c12_add, nI_clamp, (hcs i hi2).2.1, nI_1]
              · by_cases z : t = i
                · rw [z, pk_us]
                · rw [pk_un (by omega)]; exact x1 t (by omega)
            · obtain ⟨w', rfl, x1⟩ := hx
              obtain ⟨w2, fr2, y1, y2⟩ := plays_ok (N := N) (st := k) (m := j) (dr := q) (w := w') fr hN hi (by omega) (by omega) hR.1 hR.2.1 hR.2.2.1 hR.2.2.2.1 hR.2.2.2.2 x1 hdr
              rw [Nat.min_eq_left e] at y2
              have hro2 : w2 (0 + s) = nI (pas I (nf I k q) j 5 s) := y2.2.2.2.2.2.2.1 s hs
              have e0 : (0 : Int32) + nI s = nI (0 + s) := nI_add 0 s
              refine ⟨w2, fr2, ?_⟩
              simp (disch := omega) only [BX12_called_59, nI_leI, Nat.le_refl, y1, e0, gd_nI, nI_clamp, hro2, bd_some, un1, un2, un3, jn, un0, bI_t, bI_f, i1n0, if_true, if_false, fX10_refuse, fX12_refused, fX10_answer, fX12_good]
          obtain ⟨w', fr', hr⟩ := hr
          refine ⟨nI (pas I (nf I k q) j 5 s), 0, nI k, been2, nI (I 0 0), mf (I 0 0) (ds I (lks I k)) g, th2, fu2, hb2, dr1, st2, ro2, ha2, aw2, ho2, pa2, w', fr', ?_, ?_, by decide, bz.1⟩
          · rw [bd_some]
            dsimp only [un1]
            rw [if_neg (by decide), bd_some]
            dsimp only [un1]
            rw [if_neg (by decide), if_neg hp, if_pos ((nI_leI hj (by omega)).mpr e), hpr, bd_some]
            dsimp only [un3]
            rw [show (0 : Int32) = nI 0 from rfl, b1, bd_some]
            dsimp only [un11]
            rw [show nI 0 = (0 : Int32) from rfl, p1, bd_some]
            dsimp only [un11]
            rw [gd_nI _ (by omega) (by omega), nI_clamp (by omega), hro]
            rfl
          · rw [bd_some]
            dsimp only [un1]
            rw [if_neg (by decide), bd_some]
            dsimp only [un1]
            rw [if_neg (by decide), bd_some]
            dsimp only [un1]
            rw [if_neg (by decide)]
            exact hr
        · rw [decide_eq_false (show ¬ j < I 0 6 + 1 by omega)]
          refine ⟨-1, 2, setting, been, wr, ws, th, fu, hb, dr, st, ro, ha, aw, ho, pa, w, fr, ?_, rfl, by decide, haw⟩
          show (if nI j < 0 then _ else if nI j ≤ nI (I 0 6) then _ else _) = _
          rw [if_neg hp, if_neg (fun q => e ((nI_leI hj (by omega)).mp q))]
          rfl
    · refine ⟨-1, 1, setting, been, wr, ws, th, fu, hb, dr, st, ro, ha, aw, ho, pa, w, fr, ?_, ?_, by decide, haw⟩
      · rw [cs1, c, c_isSleeper, Bool.eq_false_iff.mpr d]
        rfl
      · rw [r_isSetting, c, r_isSleeper, Bool.eq_false_iff.mpr d]
        rfl
  · refine ⟨-1, 1, setting, been, wr, ws, th, fu, hb, dr, st, ro, ha, aw, ho, pa, w, fr, ?_, ?_, by decide, haw⟩
    · rw [cs1, Bool.eq_false_iff.mpr c]
      rfl
    · rw [r_isSetting, Bool.eq_false_iff.mpr c]
      rfl
