/-! the casts that fit: a list F of K casts -/
def flt (p : Nat → Bool) : Nat → Nat → Nat
  | 0, _ => 0
  | c + 1, i => if p c = true ∧ i = cnb p c then c else flt p c i
theorem flt_lt {p : Nat → Bool} : ∀ c i, i < cnb p c → flt p c i < c
  | 0, i, h => by unfold cnb at h; omega
  | c + 1, i, h => by
    unfold flt
    by_cases q : p c = true ∧ i = cnb p c
    · rw [if_pos q]; omega
    · rw [if_neg q]
      have : i < cnb p c := by
        unfold cnb at h
        by_cases e : p c = true
        · rw [if_pos e] at h
          have : i ≠ cnb p c := fun z => q ⟨e, z⟩
          omega
        · rw [if_neg e] at h; omega
      have := flt_lt (p := p) c i this
      omega
def FLT (p : Nat → Bool) (c : Nat) (fit : Nat → Int32) : Prop := ∀ i, i < cnb p c → fit i = nI (flt p c i)
theorem FLT.y {p : Nat → Bool} {c : Nat} {fit : Nat → Int32} (h : FLT p c fit) (hp : p c = true) : FLT p (c + 1) (upd fit (cnb p c) (nI c)) := fun i hi => by
  unfold flt
  by_cases e : i = cnb p c
  · rw [e, pk_us, if_pos ⟨hp, rfl⟩]
  · rw [pk_un e, if_neg (fun q => e q.2)]
    unfold cnb at hi
    rw [if_pos hp] at hi
    exact h i (by omega)
theorem FLT.n {p : Nat → Bool} {c : Nat} {fit : Nat → Int32} (h : FLT p c fit) (hp : ¬ p c = true) : FLT p (c + 1) fit := fun i hi => by
  unfold flt
  rw [if_neg (fun q => hp q.1)]
  unfold cnb at hi
  rw [if_neg hp] at hi
  exact h i (by omega)
theorem cnb_s {p : Nat → Bool} {c : Nat} (hp : p c = true) : cnb p (c + 1) = cnb p c + 1 := by
  show cnb p c + (if p c = true then 1 else 0) = _
  rw [if_pos hp]
theorem cnb_n {p : Nat → Bool} {c : Nat} (hp : ¬ p c = true) : cnb p (c + 1) = cnb p c := by
  show cnb p c + (if p c = true then 1 else 0) = _
  rw [if_neg hp]; rfl
abbrev fK (I Q : Tb) (b : Nat) : Nat := cnb (fitB I Q b) (cnm I)
abbrev fF (I Q : Tb) (b : Nat) : Nat → Nat := flt (fitB I Q b) (cnm I)
theorem gather_ok {N b : Nat} {I Q : Tb} {book sort one other : Nat → Int32} {rows : Nat → Int64} (hN : 64 < N) (hb : b < 4) (hi : ib I) (hq : qb I Q) (hQ : CQ Q book sort one other) (hR : ROW I 0 (cnm I) rows) (fit0 : Nat → Int32) :
    ∃ fit, fX0_gather N (nI b) (nI (cnm I)) (nI (Q 0 0)) book sort one rows other fit0 = some (nI (fK I Q b), nI (fK I Q b), fit) ∧ FLT (fitB I Q b) (cnm I) fit := by
  have hcl := cnm_le hi
  unfold fX0_gather
  refine lp_go (X := fun o => ∃ fit : Nat → Int32, o = some (nI (fK I Q b), nI (fK I Q b), fit) ∧ FLT (fitB I Q b) (cnm I) fit) (fun j q => ∃ fit : Nat → Int32, q = (nI j, nI (cnb (fitB I Q b) j), fit) ∧ FLT (fitB I Q b) j fit) (cnm I) (by omega) ⟨fit0, rfl, fun i h => by unfold cnb at h; omega⟩ (fun j hj q hq2 => ?_) (fun q hq2 rec => ?_)
  · obtain ⟨fit, rfl, f1⟩ := hq2
    have h3 : ¬ cnm I ≤ j := by omega
    have hle := cnb_le (p := fitB I Q b) j
    have ha := areSo_ok (N := N) hN hb hi hj hq hQ hR
    by_cases c : fitB I Q b j = true
    · refine ⟨_, fun rec => ?_, _, rfl, f1.y c⟩
      rw [c] at ha
      simp (disch := omega) only [BX0_gather_7, un3, nI_leI, h3, if_false, ha, bd_some, un1, jn, un2, gd_nI, nI_clamp, nI_1]
      rw [if_neg (by decide), cnb_s c]
    · refine ⟨_, fun rec => ?_, _, rfl, f1.n c⟩
      rw [Bool.eq_false_iff.mpr c] at ha
      simp (disch := omega) only [BX0_gather_7, un3, nI_leI, h3, if_false, ha, bd_some, un1, jn, un2, nI_1]
      rw [if_pos (by decide), cnb_n c]
  · obtain ⟨fit, rfl, f1⟩ := hq2
    refine ⟨fit, ?_, f1⟩
    simp (disch := omega) only [BX0_gather_7, un3, nI_leI, Nat.le_refl, if_true]
/-! the reference -/
def RAll (I : Tb) (how lies isFull bed isTold av what thn' met doorA doorB falls creak cold listens far : Nat → Int32) : Prop := (∀ i, i < I 0 1 → how i = nI (I 5 i)) ∧ (∀ i, i < I 0 2 → lies i = nI (I 7 i) ∧ isFull i = nI (I 8 i)) ∧ (∀ i, i < I 0 4 → bed i = nI (I 14 i)) ∧ RS I isTold av what thn' met ∧ RH I doorA doorB falls creak cold listens far
theorem cast_play {N c st : Nat} {I : Tb} {how lies isFull bed isTold av what thn' met doorA doorB falls creak cold listens far : Nat → Int32} (hA : RAll I how lies isFull bed isTold av what thn' met doorA doorB falls creak cold listens far) (hN : 64 < N) (hi : ib I) (h4 : 0 < I 0 4) (hs : st < 1000) (hc : c < 64) (w fr : Nat → Int32) :
    ∃ w1 w' fr', fX12_casts N (nI c) (nI (I 0 3)) (nI (I 0 4)) w = some w1 ∧ fX12_plays N (nI st) 40 (nI (I 0 6)) (nI (I 0 0)) (nI (I 0 1)) (nI (I 0 2)) (nI (I 0 4)) (nI (I 0 5)) w1 how lies isFull bed isTold av thn' what doorA doorB fr falls creak listens far cold met = some (w', fr') ∧ RN I (mrn I st c) w' := by
  have hE := hi.E1 h4
  have hM := hi.M
  obtain ⟨w1, e1, e2, _⟩ := casts_ok (N := N) (c := c) hN hi hE hc w
  obtain ⟨w', fr', p1, p2⟩ := plays_ok (N := N) (st := st) (m := 40) (dr := dg I c) (w := w1) fr hN hi hs (by omega) hA.1 hA.2.1 hA.2.2.1 hA.2.2.2.1 hA.2.2.2.2 e2 (fun s _ => dg_lt hE c s)
  rw [Nat.min_eq_right hM] at p2
  exact ⟨w1, w', fr', e1, p1, p2⟩
theorem hears_ok {N l mi : Nat} {I n : Tb} {w : Nat → Int32} (hi : ib I) (hb : nb I n) (h : RN I n w) (hl : l < I 0 5) (h1 : 1 ≤ mi) (h2 : mi ≤ 40) : fX12_hears N (nI l) (nI mi) w = some (bI ((n 10 l).testBit (mi - 1))) := by
  have hL := hi.L
  have hlt := hb.l hl
  obtain ⟨_, _, _, _, _, _, _, _, _, _, _, hw, _⟩ := h
  obtain ⟨w1, w2⟩ := hw l hl
  have e1 : (nI mi - 1 : Int32) = nI (mi - 1) := by rw [show (1 : Int32) = nI 1 from rfl, pk_sub (by omega)]
  have e2 : (nI (mi - 1) / 20 : Int32) = nI ((mi - 1) / 20) := by rw [show (20 : Int32) = nI 20 from rfl, pk_div (by omega) (by omega) (by omega)]
  have e3 : (nI (mi - 1) - nI ((mi - 1) / 20) * 20 : Int32) = nI ((mi - 1) % 20) := by
    rw [show (20 : Int32) = nI 20 from rfl, pk_mul, pk_sub (by omega)]
    congr 1
    omega
  have e4 : (43 + 2 * nI l + nI ((mi - 1) / 20) : Int32) = nI (43 + 2 * l + (mi - 1) / 20) := by
    rw [show (2 : Int32) = nI 2 from rfl, pk_mul, show (43 : Int32) = nI 43 from rfl, nI_add, nI_add]
  unfold fX12_hears
  rw [e1, e2, e3, e4, gd_nI _ (by omega) (by omega), nI_clamp (by omega)]
  have key : fX12_has N (w (43 + 2 * l + (mi - 1) / 20)) (nI ((mi - 1) % 20)) = some (bI ((n 10 l).testBit (mi - 1))) := by
    rcases Nat.lt_or_ge (mi - 1) 20 with c | c
    · rw [show (mi - 1) / 20 = 0 by omega, Nat.add_zero, w1, show (mi - 1) % 20 = mi - 1 by omega, has_ok (by omega) (by omega), Nat.testBit_mod_two_pow, decide_eq_true c, Bool.true_and]
      rfl
    · rw [show (mi - 1) / 20 = 1 by omega, show 43 + 2 * l + 1 = 44 + 2 * l by omega, w2, has_ok (by omega) (by omega), Nat.testBit_div_two_pow, show (mi - 1) % 20 + 20 = mi - 1 by omega]
      rfl
  rw [key, bd_some]
  dsimp only [un1]
  rw [zg_b]
theorem isNoted_ok {N i : Nat} {I Q n : Tb} {book noteSort whose what noteIs w : Nat → Int32} (hi : ib I) (hb : nb I n) (hq : qb I Q) (hQ : RQ Q book noteSort whose what noteIs) (h : RN I n w) (hk : i < Q 0 0) : fX12_isNoted N (nI i) noteSort whose w what noteIs = some (bI (so Q n i)) := by
  have hM := hi.M
  have hRm := hi.R
  have hT := hi.T
  have hD := hi.D
  obtain ⟨q20, qq⟩ := hq
  obtain ⟨_, qs, q1, q2, q3⟩ := qq i hk
  obtain ⟨_, e2, e3, e4, e5⟩ := hQ i hk
  have hears := fun (hl : Q 3 i < I 0 5) (h1 : 1 ≤ Q 4 i) (h2 : Q 4 i ≤ 40) => hears_ok (N := N) hi hb h hl h1 h2
  obtain ⟨_, _, k1, _, _, _, _, _, _, k8, _, _, _⟩ := h
  unfold fX12_isNoted
  simp (disch := omega) only [gd_nI, nI_clamp, e2, e3, e4]
  unfold so
  rcases Nat.lt_or_ge (Q 2 i) 2 with h2 | h2
  · obtain ⟨l1, l2, l3⟩ := q1 (by omega)
    rw [if_pos (show Q 2 i ≤ 1 by omega), if_pos (by rfl), hears l1 l2 (by omega), bd_some, e5 (by omega)]
    dsimp only [un1]
    rw [if_bI]
    congr 2
    rcases Nat.lt_or_ge (Q 2 i) 1 with h1 | h1
    · have e : Q 2 i = 0 := by omega
      rw [e, if_pos rfl]
      cases (n 10 (Q 3 i)).testBit (Q 4 i - 1) <;> rfl
    · have e : Q 2 i = 1 := by omega
      rw [e, if_neg (by decide), if_pos rfl]
      cases (n 10 (Q 3 i)).testBit (Q 4 i - 1) <;> rfl
  · rw [if_neg (show ¬ Q 2 i ≤ 1 by omega), if_neg (show ¬ Q 2 i = 0 by omega), if_neg (show ¬ Q 2 i = 1 by omega), if_neg (fun z => by
      have := (nI_eq (by omega) (by decide)).mp (z.trans (il 0))
      omega)]
    dsimp only [jn]
    rcases Nat.lt_or_ge (Q 2 i) 3 with h3 | h3
    · have e : Q 2 i = 2 := by omega
      obtain ⟨l1, l2⟩ := q2 e
      have ht := hb.t l1
      rw [if_pos (by rw [e]; rfl), if_pos e]
      dsimp only [un1]
      rw [show (15 : Int32) + nI (Q 3 i) = nI (15 + Q 3 i) from nI_add 15 _, gd_nI _ (by omega) (by omega), nI_clamp (by omega), k8 _ l1, if_bI]
      congr 2
      exact decide_eq_decide.mpr (nI_eq (by omega) (by omega))
    · have e : Q 2 i = 3 := by omega
      obtain ⟨l1, l2⟩ := q3 e
      have ht := hb.d l1
      rw [if_neg (by rw [e]; decide), if_neg (by omega)]
      dsimp only [un1]
      rw [show (23 : Int32) + nI (Q 3 i) = nI (23 + Q 3 i) from nI_add 23 _, gd_nI _ (by omega) (by omega), nI_clamp (by omega), k1 _ l1, if_bI]
      congr 2
      exact decide_eq_decide.mpr (nI_eq (by omega) (by omega))
theorem fits_in {N b : Nat} {I Q n : Tb} {book noteSort whose what noteIs w : Nat → Int32} (hN : 64 < N) (hb4 : b < 4) (hi : ib I) (hb : nb I n) (hq : qb I Q) (hQ : RQ Q book noteSort whose what noteIs) (h : RN I n w) (K : Int32 → Option (Int32 × (Nat → Int32) × (Nat → Int32) × (Nat → Int32))) :
    lp (BX12_fitsBy_38 (nI (Q 0 0)) N (nI b) book noteSort whose w what noteIs K) N (1, 0) = K (bI (okN (nay Q n b) (Q 0 0))) := by
  have h20 := hq.1
  refine lp_for (fun j => (bI (okN (nay Q n b) j), nI j)) (Q 0 0) N (by omega) (fun j hj rec => ?_) (fun rec => ?_)
  · have h3 : ¬ Q 0 0 ≤ j := by omega
    have hbk := (hq.2 j hj).1
    have hn := isNoted_ok (N := N) hi hb hq hQ h hj
    simp (disch := omega) only [BX12_fitsBy_38, un2, nI_leI, h3, if_false, gd_nI, nI_clamp, (hQ j hj).1, has_ok, bd_some, hn, un1, jn, un0, nI_1]
    show _ = rec (bI (okN (nay Q n b) j && !nay Q n b j), nI (j + 1))
    cases okN (nay Q n b) j
    · simp [bI]
    · unfold nay
      cases hb1 : b.testBit (Q 1 j)
      · simp [bI]
      · cases so Q n j
        · simp [bI]
        · simp [bI]
  · simp (disch := omega) only [BX12_fitsBy_38, un2, nI_leI, Nat.le_refl, if_true]
theorem fitsBy_ok {N b : Nat} {I Q : Tb} {how lies isFull bed isTold av what thn' met doorA doorB falls creak cold listens far book noteSort whose whatN noteIs : Nat → Int32} (hA : RAll I how lies isFull bed isTold av what thn' met doorA doorB falls creak cold listens far) (hN : 64 < N) (hi : ib I) (h4 : 0 < I 0 4) (hb4 : b < 4) (hq : qb I Q) (hQ : RQ Q book noteSort whose whatN noteIs) (w0 fr0 fit0 : Nat → Int32) :
    ∃ w fr fit, fX12_fitsBy N (nI b) (nI (Q 0 0)) (nI (I 0 6)) (nI (I 0 0)) (nI (I 0 1)) (nI (I 0 2)) (nI (I 0 3)) (nI (I 0 4)) (nI (I 0 5)) w0 how lies isFull bed isTold av thn' what doorA doorB fr0 falls creak listens far cold met fit0 book noteSort whose whatN noteIs = some (nI (fK I Q b), w, fr, fit) ∧ FLT (fitB I Q b) (cnm I) fit := by
  have hcl := cnm_le hi
  unfold fX12_fitsBy
  refine lp_go (X := fun o => ∃ w fr fit : Nat → Int32, o = some (nI (fK I Q b), w, fr, fit) ∧ FLT (fitB I Q b) (cnm I) fit) (fun j q => ∃ w fr fit : Nat → Int32, q = (nI (cnb (fitB I Q b) j), nI j, w, fr, fit) ∧ FLT (fitB I Q b) j fit) (cnm I) (by omega) ⟨w0, fr0, fit0, rfl, fun i h => by unfold cnb at h; omega⟩ (fun j hj q hq2 => ?_) (fun q hq2 rec => ?_)
  · obtain ⟨w, fr, fit, rfl, f1⟩ := hq2
    have h3 : ¬ cnm I ≤ j := by omega
    have hle := cnb_le (p := fitB I Q b) j
    obtain ⟨w1, w', fr', c1, c2, c3⟩ := cast_play (N := N) (c := j) (st := 0) hA hN hi h4 (by omega) (by omega) w fr
    have hin := fits_in (N := N) (b := b) hN hb4 hi (nb_mrn hi 0 j) hq hQ c3
    by_cases c : fitB I Q b j = true
    · refine ⟨_, fun rec => ?_, w', fr', _, rfl, f1.y c⟩
      unfold BX12_fitsBy_12
      dsimp only [un5]
      rw [castMany_ok hN hi, bd_some]
      dsimp only [un1]
      rw [if_neg (by rw [nI_leI (by omega) (by omega)]; exact h3), c1, bd_some]
      dsimp only [un1]
      rw [show (0 : Int32) = nI 0 from rfl, c2, bd_some]
      dsimp only [un2]
      rw [show nI 0 = (0 : Int32) from rfl, hin]
      dsimp only [un1, jn]
      rw [show okN (nay Q (mrn I 0 j) b) (Q 0 0) = true from c, if_neg (by decide), gd_nI _ (by omega) (by omega)]
      dsimp only [un2]
      rw [nI_clamp (by omega), nI_1, nI_1, cnb_s c]
    · refine ⟨_, fun rec => ?_, w', fr', _, rfl, f1.n c⟩
      unfold BX12_fitsBy_12
      dsimp only [un5]
      rw [castMany_ok hN hi, bd_some]
      dsimp only [un1]
      rw [if_neg (by rw [nI_leI (by omega) (by omega)]; exact h3), c1, bd_some]
      dsimp only [un1]
      rw [show (0 : Int32) = nI 0 from rfl, c2, bd_some]
      dsimp only [un2]
      rw [show nI 0 = (0 : Int32) from rfl, hin]
      dsimp only [un1, jn]
      rw [show okN (nay Q (mrn I 0 j) b) (Q 0 0) = false from Bool.eq_false_iff.mpr c, if_pos (by decide)]
      dsimp only [un2]
      rw [nI_1, cnb_n c]
  · obtain ⟨w, fr, fit, rfl, f1⟩ := hq2
    refine ⟨w, fr, fit, ?_, f1⟩
    unfold BX12_fitsBy_12
    dsimp only [un5]
    rw [castMany_ok hN hi, bd_some]
    dsimp only [un1]
    rw [if_pos (by rw [nI_leI (by omega) (by omega)]; exact Nat.le_refl _)]
