/-! a night that is played -/
def NGT (I n : Tb) (setting been wr : Int32) (ws ho pa dr st ro ha aw th fu : Nat → Int32) (hb : Nat → Int64) (w : Nat → Int32) : Prop :=
  CN I n been ho pa dr st ro ha aw th fu hb ∧ RN I n w ∧ nb I n ∧ HB I n ∧ n 0 0 ≤ I 0 6 ∧ n 0 1 < 1 + 2 * I 0 1 ∧ setting = nI (n 0 1) ∧ wr = nI (I 0 0) ∧ ∃ g, ws = mf (I 0 0) (ds I (lks I (n 0 1))) g
def CHS (I : Tb) (chosen set : Nat → Int32) : Prop := ∃ cs : Nat → Nat, ∀ s, s < I 0 4 → chosen s = nI (cs s) ∧ set s = nI (cs s) ∧ cs s < I 0 3
/-- the class's inn, as its nights need it -/
def CAll (I : Tb) (inThing inFull bed hhow states one other falls creak cold listensIn : Nat → Int32) : Prop := (∀ i, i < I 0 1 → hhow i = nI (I 5 i)) ∧ (∀ i, i < I 0 4 → bed i = nI (I 14 i)) ∧ (∀ i, i < I 0 2 → inThing i = nI (I 7 i) ∧ inFull i = nI (I 8 i)) ∧ (∀ i, i < 4 → inFull i = 0 ∨ inFull i = 1) ∧ CS I states ∧ CH I one other falls creak cold listensIn
theorem zg_0 {ρ : Type} (k : Option ρ) : zg 0 k = k := zg_in k (Or.inl rfl)
theorem zg_1 {ρ : Type} (k : Option ρ) : zg 1 k = k := zg_in k (Or.inr rfl)
theorem r_copySet {N st : Nat} {I : Tb} {set w : Nat → Int32} {cs : Nat → Nat} (hN : 64 < N) (hi : ib I) (hs : ∀ s, s < I 0 4 → set s = nI (cs s)) (h : RD I st w) : ∃ w', lp (BX12_nightfall_26 (nI (I 0 4)) N set) N (0, w) = some (1, 0, 0, -1, w') ∧ RN I (nf I st cs) w' := by
  have hS := hi.S
  refine lp_go (X := fun o => ∃ w', o = some (1, 0, 0, -1, w') ∧ RN I (nf I st cs) w') (fun j q => ∃ w', q = (nI j, w') ∧ RD I st w' ∧ ∀ s, s < j → w' (12 + s) = nI (cs s)) (I 0 4) (by omega) ⟨w, rfl, h, fun s h => by omega⟩ (fun j hj q hq => ?_) (fun q hq rec => ?_)
  · obtain ⟨w', rfl, q1, q2⟩ := hq
    refine ⟨(nI (j + 1), upd w' (12 + j) (nI (cs j))), fun rec => ?_, _, rfl, q1.u hi.cnt (by omega) _, fun s hs2 => ?_⟩
    · have h3 : ¬ I 0 4 ≤ j := by omega
      simp (disch := omega) only [BX12_nightfall_26, un2, nI_leI, h3, if_false, gd_nI, c12_add, nI_clamp, hs j hj, nI_1]
    · by_cases e : s = j
      · rw [e, pk_us]
      · rw [pk_un (by omega)]; exact q2 s (by omega)
  · obtain ⟨w', rfl, q1, q2⟩ := hq
    refine ⟨w', ?_, q1.rn q2⟩
    simp (disch := omega) only [BX12_nightfall_26, un2, nI_leI, Nat.le_refl, if_true, fX12_granted, fX12_good, bd_some, un3, zg_1]
theorem q_nightfall {N : Nat} {I n : Tb} {inThing inFull bed hhow states one other falls creak cold listensIn : Nat → Int32} {rhow lies isFull rbed chosen set : Nat → Int32} {setting been wr : Int32} {ws ho pa dr st ro ha aw th fu w : Nat → Int32} {hb : Nat → Int64} (p : Int32) (hN : 64 < N) (hi : ib I) (h0 : 0 < I 0 6) (hA : CAll I inThing inFull bed hhow states one other falls creak cold listensIn) (r1 : ∀ i, i < I 0 1 → rhow i = nI (I 5 i)) (r2 : ∀ i, i < I 0 2 → lies i = nI (I 7 i) ∧ isFull i = nI (I 8 i)) (r3 : ∀ i, i < I 0 4 → rbed i = nI (I 14 i)) (hc : CHS I chosen set) (hn : NGT I n setting been wr ws ho pa dr st ro ha aw th fu hb w) :
    ∃ v tr setting' been' wr' ws' th' fu' hb' dr' st' ro' ha' aw' ho' pa' w' n', fX10_nightfall N p (nI (I 0 6)) (nI (I 0 4)) (nI (I 0 0)) (nI (I 0 1)) setting been hhow wr ws one other inThing th inFull fu hb chosen dr st bed ro ha aw ho pa = some (v, tr, setting', been', wr', ws', th', fu', hb', dr', st', ro', ha', aw', ho', pa') ∧ fX12_nightfall N p (nI (I 0 1)) (nI (I 0 2)) (nI (I 0 4)) w rhow lies isFull rbed set = some (v, 0, tr, -1, w') ∧ tr ≠ 4 ∧ NGT I n' setting' been' wr' ws' ho' pa' dr' st' ro' ha' aw' th' fu' hb' w' := by
  have hD := hi.D
  obtain ⟨c1, c2, c3, c4, c5, c6⟩ := hA
  obtain ⟨cs, hcs⟩ := hc
  unfold fX10_nightfall fX12_nightfall
  by_cases c : dinb p (1 + 2 * I 0 1) = true
  · obtain ⟨k, hk, rfl⟩ := dinb_y (by omega) c
    obtain ⟨g, hp⟩ := prepare_ok (N := N) (st := k) (steps := ws) hN hi (by omega) c1 c6.1 c6.2.1
    have hbz := hn.1
    obtain ⟨_, _, _, _, _, _, _, _, _, _, _, bz, _⟩ := hbz
    obtain ⟨th', fu', hb', dr', st', ro', ha', aw', ho', pa', b1, b2⟩ := begin_ok (N := N) (st := k) (fr := 0) (dr := cs) (a0 := chosen) hN hi (by omega) (by omega) c1 c2 c3 c4 (fun s hs => by rw [Nat.zero_add]; exact (hcs s hs).1) th fu dr st ro ha aw ho pa hb bz.1
    obtain ⟨w1, f1, f2, _⟩ := fallsNight_ok (N := N) (st := k) hN hi (by omega) r1 r2 r3 w
    obtain ⟨w', g1, g2⟩ := r_copySet (N := N) (set := set) (cs := cs) hN hi (fun s hs => (hcs s hs).2.1) f2
    refine ⟨1, 0, nI k, 0, nI (I 0 0), mf (I 0 0) (ds I (lks I k)) g, th', fu', hb', dr', st', ro', ha', aw', ho', pa', w', nf I k cs, ?_, ?_, by decide, b2, g2, nb_nf hi k (fun s hs => (hcs s hs).2.2), HB_nf I k cs, Nat.zero_le _, hk, rfl, rfl, g, rfl⟩
    · rw [c_isSetting _ hi h0, c, bd_some]
      dsimp only [un1]
      rw [if_neg (by decide), hp, bd_some]
      dsimp only [un3]
      rw [show (0 : Int32) = nI 0 from rfl, b1, bd_some]
      dsimp only [un11]
      rw [show fX10_agree N = some (1, 0) from rfl, bd_some]
      dsimp only [un2]
      rw [zg_1]
      rfl
    · rw [r_isSetting, c, bd_some]
      dsimp only [un1]
      rw [if_neg (by decide), f1, bd_some]
      dsimp only [un1]
      exact g1
  · refine ⟨0, 1, setting, been, wr, ws, th, fu, hb, dr, st, ro, ha, aw, ho, pa, w, n, ?_, ?_, by decide, hn⟩
    · rw [c_isSetting _ hi h0, Bool.eq_false_iff.mpr c, bd_some]
      dsimp only [un1]
      rw [if_pos (by decide), show fX10_deny N 1 = some (0, 1) from rfl, bd_some]
      dsimp only [un2]
      rw [zg_0]
    · rw [r_isSetting, Bool.eq_false_iff.mpr c, bd_some]
      dsimp only [un1]
      rw [if_pos (by decide), show fX12_denied N 1 = some (0, 1, -1) from rfl, bd_some]
      dsimp only [un3]
      rw [zg_0]
theorem q_dreams {N : Nat} {I : Tb} {chosen set : Nat → Int32} (p0 p1 : Int32) (hi : ib I) (hc : CHS I chosen set) : ∃ v tr chosen' set', fX10_dreams N p0 p1 (nI (I 0 3)) (nI (I 0 4)) chosen = some (v, tr, chosen') ∧ fX12_dreams N p0 p1 (nI (I 0 3)) (nI (I 0 4)) set = some (v, 0, tr, -1, set') ∧ tr ≠ 4 ∧ CHS I chosen' set' := by
  have hS := hi.S
  have hE := hi.E
  unfold fX10_dreams fX12_dreams
  by_cases c : dinb p0 (I 0 4) = true
  · by_cases d : dinb p1 (I 0 3) = true
    · obtain ⟨s, hs, rfl⟩ := dinb_y (by omega) c
      obtain ⟨e, he, rfl⟩ := dinb_y (by omega) d
      refine ⟨1, 0, upd chosen s (nI e), upd set s (nI e), ?_, ?_, by decide, ?_⟩
      · simp (disch := omega) only [c_isSleeper, c_below, c, d, gd_nI, nI_clamp, fX10_agree, zg_1, bd_some, un1, un2, un3, jn, un0, bI_t, bI_f, i1n0, if_true, if_false, fX10_refuse, fX12_refused, fX10_answer, fX12_good]
      · simp (disch := omega) only [r_isSleeper, r_isDream, c, d, gd_nI, nI_clamp, fX12_granted, zg_1, bd_some, un1, un2, un3, jn, un0, bI_t, bI_f, i1n0, if_true, if_false, fX10_refuse, fX12_refused, fX10_answer, fX12_good]
      · obtain ⟨cs, hcs⟩ := hc
        refine ⟨fun i => if i = s then e else cs i, fun i hi2 => ?_⟩
        by_cases z : i = s
        · subst z
          dsimp only
          rw [pk_us, pk_us, if_pos rfl]
          exact ⟨rfl, rfl, he⟩
        · dsimp only
          rw [pk_un z, pk_un z, if_neg z]
          exact hcs i hi2
    · refine ⟨0, 1, chosen, set, ?_, ?_, by decide, hc⟩
      · simp only [c_isSleeper, c_below, c, Bool.eq_false_iff.mpr d, fX10_deny, zg_0, bd_some, un1, un2, un3, jn, un0, bI_t, bI_f, i1n0, if_true, if_false, fX10_refuse, fX12_refused, fX10_answer, fX12_good]
      · simp only [r_isSleeper, r_isDream, c, Bool.eq_false_iff.mpr d, fX12_denied, zg_0, bd_some, un1, un2, un3, jn, un0, bI_t, bI_f, i1n0, if_true, if_false, fX10_refuse, fX12_refused, fX10_answer, fX12_good]
  · refine ⟨0, 1, chosen, set, ?_, ?_, by decide, hc⟩
    · simp only [c_isSleeper, Bool.eq_false_iff.mpr c, fX10_deny, zg_0, bd_some, un1, un2, un3, jn, un0, bI_t, bI_f, i1n0, if_true, if_false, fX10_refuse, fX12_refused, fX10_answer, fX12_good]
    · simp only [r_isSleeper, Bool.eq_false_iff.mpr c, fX12_denied, zg_0, bd_some, un1, un2, un3, jn, un0, bI_t, bI_f, i1n0, if_true, if_false, fX10_refuse, fX12_refused, fX10_answer, fX12_good]
theorem NGT.pass {N m : Nat} {I n : Tb} {inThing inFull bed hhow states one other falls creak cold listensIn g2 : Nat → Int32} {setting been wr : Int32} {ws ho pa dr st ro ha aw th fu w : Nat → Int32} {hb : Nat → Int64} {how lies isFull rbed isTold av what thn' met doorA doorB rfalls rcreak rcold listens far : Nat → Int32} (fr : Nat → Int32) (hN : 64 < N) (hi : ib I) (hA : CAll I inThing inFull bed hhow states one other falls creak cold listensIn) (hR : RAll I how lies isFull rbed isTold av what thn' met doorA doorB rfalls rcreak rcold listens far) (hn : NGT I n setting been wr ws ho pa dr st ro ha aw th fu hb w) (hm : m ≤ 40) :
    ∃ k been' aw' st' ro' ho' th' fu' ha' hb' pa' w' fr', k = min m (I 0 6 - n 0 0) ∧ fX4_pass N (nI k) been (nI (I 0 4)) (nI (I 0 5)) aw dr st states ro (nI (I 0 1)) one other ho th fu ha wr ws creak listensIn (mf (I 0 0) (ds I nolk) g2) hb cold falls pa = some (nI k, been', aw', st', ro', ho', th', fu', ha', hb', pa') ∧ fX12_passAll N (nI m) w (nI (I 0 6)) (nI (I 0 0)) (nI (I 0 1)) (nI (I 0 4)) (nI (I 0 5)) isTold av thn' what doorA doorB fr rfalls rcreak listens far rcold met = some (nI k, w', fr') ∧ NGT I (pas I n k) setting been' wr ws ho' pa' dr st' ro' ha' aw' th' fu' hb' w' := by
  have hM := hi.M
  obtain ⟨c1, c2, c3, c4, c5, c6⟩ := hA
  obtain ⟨n1, n2, n3, n4, n5, n6, rfl, rfl, g, rfl⟩ := hn
  obtain ⟨been', aw', st', ro', ho', th', fu', ha', hb', pa', p1, p2⟩ := pass_ok (N := N) (m := min m (I 0 6 - n 0 0)) (g1 := g) (g2 := g2) hN hi n3 (by omega) c5 c6 n1
  obtain ⟨w', fr', q1, q2⟩ := passAll_ok (N := N) m fr hN hi n3 hm n5 hR.2.2.2.1 hR.2.2.2.2 n2
  refine ⟨_, been', aw', st', ro', ho', th', fu', ha', hb', pa', w', fr', rfl, p1, q1, p2, q2, nb_pas hi n3 _ (by omega), HB_pas n4 _, ?_, ?_, ?_, rfl, g, ?_⟩
  · rw [pas_00]; omega
  · rw [pas_01]; exact n6
  · rw [pas_01]
  · rw [pas_01]
