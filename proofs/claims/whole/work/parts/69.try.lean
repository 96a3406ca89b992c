/-! trials of settings (class) -/
theorem areSame_ok {N a b : Nat} {rows : Nat → Int64} {A B : Nat → Nat} (hN : 64 < N) (ha : a < 64) (hb : b < 64) (hA : ∀ i, i < 4 → rows (4 * a + i) = lN (A i)) (hB : ∀ i, i < 4 → rows (4 * b + i) = lN (B i)) (lA : ∀ i, A i < 2 ^ 62) (lB : ∀ i, B i < 2 ^ 62) :
    fX3_areSame N (nI a) (nI b) rows = some (if fa_first (fun i => decide (A i ≠ B i)) 4 < 4 then 0 else 1) := by
  have ea : (nI a * 4 : Int32) = nI (4 * a) := by rw [show (4 : Int32) = nI 4 from rfl, pk_mul, Nat.mul_comm]
  have eb : (nI b * 4 : Int32) = nI (4 * b) := by rw [show (4 : Int32) = nI 4 from rfl, pk_mul, Nat.mul_comm]
  unfold fX3_areSame
  have h := lp_find (B := BX3_areSame_2 (nI a) (nI b) rows) (p := fun i => decide (A i ≠ B i)) (D := 4) (N := N) (e := some 1) (f := fun _ => some 0) (by omega) (fun i hi rec => ?_) (fun rec => ?_)
  · rw [show (0 : Int32) = nI 0 from rfl, h]
    by_cases c : fa_first (fun i => decide (A i ≠ B i)) 4 < 4
    · rw [if_pos c, if_pos c]; rfl
    · rw [if_neg c, if_neg c]
  · have h4 : ¬ (4 : Int32) ≤ nI i := fun e => absurd ((nI_leI (a := 4) (by omega) (by omega)).mp e) (by omega)
    simp (disch := omega) only [BX3_areSame_2, un1, h4, if_false, ea, eb, nI_add, gd_nI, nI_clamp, lgc0', hA i hi, hB i hi, nI_1, decide_eq_true_eq]
    by_cases c : A i = B i
    · rw [if_pos (by rw [c]), if_neg (fun q => q c)]
    · rw [if_neg (fun q => c ((fb_lN_inj (by have := lA i; omega) (by have := lB i; omega)).mp q)), if_pos c]
  · simp only [BX3_areSame_2, un1]
    exact if_pos (by decide)
theorem first4 {A B : Nat → Nat} : fa_first (fun i => decide (A i ≠ B i)) 4 < 4 ↔ ¬ ∀ i, i < 4 → A i = B i := by
  constructor
  · intro h q
    have := fa_first_yes _ _ h
    exact of_decide_eq_true this (q _ h)
  · intro h
    rcases Nat.lt_or_ge (fa_first (fun i => decide (A i ≠ B i)) 4) 4 with c | c
    · exact c
    · refine absurd (fun i hi => ?_) h
      have := fa_first_no (fun i => decide (A i ≠ B i)) 4 i (by omega)
      by_cases e : A i = B i
      · exact e
      · rw [decide_eq_true e] at this
        cases this
def kn (I : Tb) (st c : Nat) : Nat := fa_first (fun c' => eqm I st c' c) c
theorem kn_le (I : Tb) (st c : Nat) : kn I st c ≤ c := fa_first_le _ _
theorem kn_like (I : Tb) (st c : Nat) : sameM I (mrn I st (kn I st c)) (mrn I st c) := by
  rcases Nat.lt_or_ge (kn I st c) c with h | h
  · exact eqm_iff.mp (fa_first_yes (fun c' => eqm I st c' c) c h)
  · rw [show kn I st c = c from Nat.le_antisymm (kn_le I st c) h]
    exact sameM.refl I _
theorem kn_min {I : Tb} {st c k : Nat} (hk : k < kn I st c) : ¬ sameM I (mrn I st k) (mrn I st c) := fun q => by
  have := fa_first_no (fun c' => eqm I st c' c) c k hk
  rw [eqm_iff.mpr q] at this
  cases this
theorem kn_eq {I : Tb} {st c c' : Nat} : kn I st c = kn I st c' ↔ sameM I (mrn I st c) (mrn I st c') := by
  constructor
  · intro e
    have h1 := kn_like I st c
    have h2 := kn_like I st c'
    rw [← e] at h2
    exact h1.symm.trans h2
  · intro q
    rcases Nat.lt_trichotomy (kn I st c) (kn I st c') with h | h | h
    · exact absurd ((kn_like I st c).trans q) (kn_min h)
    · exact h
    · exact absurd ((kn_like I st c').trans q.symm) (kn_min h)
def ROW (I : Tb) (st k : Nat) (rows : Nat → Int64) : Prop := ∀ c i, c < k → i < 4 → rows (4 * c + i) = lN (mrow I (mrn I st c) i)
def KIN (I : Tb) (st k : Nat) (kin : Nat → Int32) : Prop := ∀ c, c < k → kin (64 * st + c) = nI (kn I st c)
theorem nb_mrn {I : Tb} (hi : ib I) (st c : Nat) : nb I (mrn I st c) :=
  nb_pas hi (nb_nf hi st (fun s hs => dg_lt (hi.E1 (by omega)) c s)) _ (by have := hi.M; show 0 + I 0 6 ≤ 40; omega)
theorem firstLike_ok {N c st : Nat} {I : Tb} {rows : Nat → Int64} (hN : 64 < N) (hi : ib I) (hc : c < 64) (hR : ROW I st (c + 1) rows) : fX3_firstLike N (nI c) rows = some (nI (kn I st c)) := by
  unfold fX3_firstLike
  have h := lp_find (B := BX3_firstLike_2 (nI c) N rows) (p := fun c' => eqm I st c' c) (D := c) (N := N) (e := some (nI c)) (f := fun i => some (nI i)) (by omega) (fun i hi2 rec => ?_) (fun rec => ?_)
  · rw [show (0 : Int32) = nI 0 from rfl, h]
    show (if kn I st c < c then some (nI (kn I st c)) else some (nI c)) = _
    by_cases q : kn I st c < c
    · rw [if_pos q]
    · rw [if_neg q, show kn I st c = c from Nat.le_antisymm (kn_le I st c) (by omega)]
  · have h4 : ¬ c ≤ i := by omega
    have e := areSame_ok (N := N) (a := i) (b := c) hN (by omega) hc (fun j hj => hR i j (by omega) hj) (fun j hj => hR c j (by omega) hj) (mrow_lt hi (nb_mrn hi st i)) (mrow_lt hi (nb_mrn hi st c))
    simp (disch := omega) only [BX3_firstLike_2, un1, nI_leI, h4, if_false, e, bd_some, nI_1]
    by_cases q : sameM I (mrn I st i) (mrn I st c)
    · rw [if_neg (fun q2 => first4.mp q2 ((mrow_eq hi (nb_mrn hi st i) (nb_mrn hi st c)).mpr q)), if_neg (by decide), if_pos (eqm_iff.mpr q)]
    · rw [if_pos (first4.mpr (fun q2 => q ((mrow_eq hi (nb_mrn hi st i) (nb_mrn hi st c)).mp q2))), if_pos rfl, if_neg (fun q2 => q (eqm_iff.mp q2))]
  · simp (disch := omega) only [BX3_firstLike_2, un1, nI_leI, Nat.le_refl, if_true]
theorem trial_step {N c st : Nat} {I : Tb} {inThing inFull bed hhow dreams states one other falls creak cold listensIn : Nat → Int32} (hN : 64 < N) (hi : ib I) (hs : st < 21) (hh : ∀ i, i < I 0 1 → hhow i = nI (I 5 i)) (hbd : ∀ i, i < I 0 4 → bed i = nI (I 14 i)) (ht : ∀ i, i < I 0 2 → inThing i = nI (I 7 i) ∧ inFull i = nI (I 8 i)) (hf : ∀ i, i < 4 → inFull i = 0 ∨ inFull i = 1) (hst : CS I states) (hH : CH I one other falls creak cold listensIn) (hd : ∀ c s, c < cnm I → s < I 0 4 → dreams (3 * c + s) = nI (dg I c s)) (hc : c < cnm I) (g1 g2 thingIn full dreamOf stateOf roomOf handOf awake how passed : Nat → Int32) (heardBy rows : Nat → Int64) (haw : ∀ i, i < 3 → awake i = 0 ∨ awake i = 1) (hR : ROW I st c rows) :
    ∃ (th1 fu1 dr1 st1 ro1 ha1 aw1 ho1 pa1 aw2 st2 ro2 ho2 th2 fu2 ha2 pa2 : Nat → Int32) (hb1 hb2 rows' : Nat → Int64) (been2 : Int32), fX4_begind N (nI c * 3) (nI st) (nI (I 0 4)) (nI (I 0 1)) inThing thingIn inFull full heardBy dreams dreamOf stateOf bed roomOf handOf awake hhow how passed = some (0, th1, fu1, hb1, dr1, st1, ro1, ha1, aw1, ho1, pa1) ∧ fX4_pass N (nI (I 0 6)) 0 (nI (I 0 4)) (nI (I 0 5)) aw1 dr1 st1 states ro1 (nI (I 0 1)) one other ho1 th1 fu1 ha1 (nI (I 0 0)) (mf (I 0 0) (ds I (lks I st)) g1) creak listensIn (mf (I 0 0) (ds I nolk) g2) hb1 cold falls pa1 = some (nI (I 0 6), been2, aw2, st2, ro2, ho2, th2, fu2, ha2, hb2, pa2) ∧ fX3_keep N (nI c) hb2 rows (nI (I 0 2)) (nI (I 0 4)) (nI (I 0 1)) ro2 aw2 ho2 th2 fu2 = some rows' ∧ fX3_firstLike N (nI c) rows' = some (nI (kn I st c)) ∧ ROW I st (c + 1) rows' ∧ ∀ i, i < 3 → aw2 i = 0 ∨ aw2 i = 1 := by
  have hcl := cnm_le hi
  have hM := hi.M
  have hdr : ∀ s, s < I 0 4 → dg I c s < I 0 3 := fun s hs2 => dg_lt (hi.E1 (by omega)) c s
  have e3 : (nI c * 3 : Int32) = nI (3 * c) := by rw [show (3 : Int32) = nI 3 from rfl, pk_mul, Nat.mul_comm]
  obtain ⟨th1, fu1, hb1, dr1, st1, ro1, ha1, aw1, ho1, pa1, b1, b2⟩ := begind_ok (N := N) (st := st) (fr := 3 * c) (I := I) (dr := dg I c) (a0 := dreams) hN hi (by omega) (by omega) hh hbd ht hf (fun s hs2 => hd c s hc hs2) thingIn full dreamOf stateOf roomOf handOf awake how passed heardBy haw
  obtain ⟨been2, aw2, st2, ro2, ho2, th2, fu2, ha2, hb2, pa2, p1, p2⟩ := pass_ok (N := N) (n := nf I st (dg I c)) (m := I 0 6) (g1 := g1) (g2 := g2) hN hi (nb_nf hi st hdr) (by show 0 + I 0 6 ≤ 40; omega) hst hH b2
  obtain ⟨rows', k1, k2, k3⟩ := keep_ok (N := N) (c := c) (rows := rows) hN hi (nb_mrn hi st c) (by omega) p2
  have hR2 : ROW I st (c + 1) rows' := fun c' i hc' hi4 => by
    by_cases e : c' = c
    · rw [e]; exact k2 i hi4
    · rw [k3 _ (by omega)]; exact hR c' i (by omega) hi4
  refine ⟨th1, fu1, dr1, st1, ro1, ha1, aw1, ho1, pa1, aw2, st2, ro2, ho2, th2, fu2, ha2, pa2, hb1, hb2, rows', been2, by rw [e3]; exact b1, p1, k1, firstLike_ok hN hi (by omega) hR2, hR2, ?_⟩
  obtain ⟨_, _, _, _, _, _, _, _, _, _, _, kz, _⟩ := p2
  exact kz.1
theorem try_58 {N st : Nat} {I : Tb} {inThing inFull bed hhow dreams states one other falls creak cold listensIn : Nat → Int32} (hN : 64 < N) (hi : ib I) (hs : st < 21) (hh : ∀ i, i < I 0 1 → hhow i = nI (I 5 i)) (hbd : ∀ i, i < I 0 4 → bed i = nI (I 14 i)) (ht : ∀ i, i < I 0 2 → inThing i = nI (I 7 i) ∧ inFull i = nI (I 8 i)) (hf : ∀ i, i < 4 → inFull i = 0 ∨ inFull i = 1) (hst : CS I states) (hH : CH I one other falls creak cold listensIn) (hd : ∀ c s, c < cnm I → s < I 0 4 → dreams (3 * c + s) = nI (dg I c s)) (tried g1 g2 : Nat → Int32) (been0 : Int32) (th0 fu0 dr0 st0 ro0 ha0 aw0 ho0 pa0 kin0 : Nat → Int32) (hb0 se0 pl0 : Nat → Int64) (haw : ∀ i, i < 3 → aw0 i = 0 ∨ aw0 i = 1) :
    ∃ r, (fun r => ∃ (been : Int32) (thingIn full dreamOf stateOf roomOf handOf awake how passed kin : Nat → Int32) (heardBy rows : Nat → Int64), r = (upd tried st 1, nI st, been, nI (I 0 0), mf (I 0 0) (ds I (lks I st)) g1, thingIn, full, heardBy, dreamOf, stateOf, roomOf, handOf, awake, how, passed, rows, kin, pl0) ∧ (∀ i, i < 3 → awake i = 0 ∨ awake i = 1) ∧ ROW I st (cnm I) rows ∧ KIN I st (cnm I) kin ∧ ∀ i, (i < 64 * st ∨ 64 * st + 64 ≤ i) → kin i = kin0 i) r ∧ ∀ K, lp (BX0_tryOuts_58 (nI (cnm I)) K tried (nI st) (nI st) (nI (I 0 0)) (mf (I 0 0) (ds I (lks I st)) g1) N (nI (I 0 4)) (nI (I 0 1)) inThing inFull dreams bed hhow (nI (I 0 6)) (nI (I 0 5)) states one other creak listensIn (mf (I 0 0) (ds I nolk) g2) cold falls (nI (I 0 2))) N (0, been0, th0, fu0, hb0, dr0, st0, ro0, ha0, aw0, ho0, pa0, se0, kin0, pl0) = K r := by
  have hcl := cnm_le hi
  refine lp_goK (B := fun K => BX0_tryOuts_58 (nI (cnm I)) K tried (nI st) (nI st) (nI (I 0 0)) (mf (I 0 0) (ds I (lks I st)) g1) N (nI (I 0 4)) (nI (I 0 1)) inThing inFull dreams bed hhow (nI (I 0 6)) (nI (I 0 5)) states one other creak listensIn (mf (I 0 0) (ds I nolk) g2) cold falls (nI (I 0 2))) (fun j q => ∃ (been : Int32) (thingIn full dreamOf stateOf roomOf handOf awake how passed kin : Nat → Int32) (heardBy rows : Nat → Int64), q = (nI j, been, thingIn, full, heardBy, dreamOf, stateOf, roomOf, handOf, awake, how, passed, rows, kin, pl0) ∧ (∀ i, i < 3 → awake i = 0 ∨ awake i = 1) ∧ ROW I st j rows ∧ KIN I st j kin ∧ ∀ i, (i < 64 * st ∨ 64 * st + 64 ≤ i) → kin i = kin0 i) (fun r => ∃ (been : Int32) (thingIn full dreamOf stateOf roomOf handOf awake how passed kin : Nat → Int32) (heardBy rows : Nat → Int64), r = (upd tried st 1, nI st, been, nI (I 0 0), mf (I 0 0) (ds I (lks I st)) g1, thingIn, full, heardBy, dreamOf, stateOf, roomOf, handOf, awake, how, passed, rows, kin, pl0) ∧ (∀ i, i < 3 → awake i = 0 ∨ awake i = 1) ∧ ROW I st (cnm I) rows ∧ KIN I st (cnm I) kin ∧ ∀ i, (i < 64 * st ∨ 64 * st + 64 ≤ i) → kin i = kin0 i) (cnm I) (by omega) ⟨been0, th0, fu0, dr0, st0, ro0, ha0, aw0, ho0, pa0, kin0, hb0, se0, rfl, haw, fun c i h => by omega, fun c h => by omega, fun _ _ => rfl⟩ (fun j hj q hq => ?_) (fun q hq => ?_)
  · obtain ⟨been, thingIn, full, dreamOf, stateOf, roomOf, handOf, awake, how, passed, kin, heardBy, rows, rfl, q1, q2, q3, q4⟩ := hq
    obtain ⟨th1, fu1, dr1, st1, ro1, ha1, aw1, ho1, pa1, aw2, st2, ro2, ho2, th2, fu2, ha2, pa2, hb1, hb2, rows', been2, t1, t2, t3, t4, t5, t6⟩ := trial_step hN hi hs hh hbd ht hf hst hH hd hj g1 g2 thingIn full dreamOf stateOf roomOf handOf awake how passed heardBy rows q1 q2
    refine ⟨(nI (j + 1), been2, th2, fu2, hb2, dr1, st2, ro2, ha2, aw2, ho2, pa2, rows', upd kin (64 * st + j) (nI (kn I st j)), pl0), fun K rec => ?_, been2, th2, fu2, dr1, st2, ro2, ha2, aw2, ho2, pa2, _, hb2, rows', rfl, t6, t5, fun c hc => ?_, fun i hi2 => by rw [pk_un (by omega)]; exact q4 i hi2⟩
    · have h3 : ¬ cnm I ≤ j := by omega
      have e64 : (nI st * 64 + nI j : Int32) = nI (64 * st + j) := by rw [show (64 : Int32) = nI 64 from rfl, pk_mul, nI_add, Nat.mul_comm]
      show BX0_tryOuts_58 _ _ _ _ _ _ _ _ _ _ _ _ _ _ _ _ _ _ _ _ _ _ _ _ _ _ _ _ = _
      unfold BX0_tryOuts_58
      dsimp only [un15]
      rw [if_neg (by rw [nI_leI (by omega) (by omega)]; exact h3), t1, bd_some]
      dsimp only [un11]
      rw [t2, bd_some]
      dsimp only [un11]
      rw [t3, bd_some]
      dsimp only [un1]
      rw [t4, bd_some]
      dsimp only [un1]
      rw [e64, gd_nI _ (by omega) (by omega), nI_clamp (by omega), nI_1]
    · by_cases e : c = j
      · rw [e, pk_us]
      · rw [pk_un (by omega)]; exact q3 c (by omega)
  · obtain ⟨been, thingIn, full, dreamOf, stateOf, roomOf, handOf, awake, how, passed, kin, heardBy, rows, rfl, q1, q2, q3, q4⟩ := hq
    refine ⟨_, fun K rec => ?_, been, thingIn, full, dreamOf, stateOf, roomOf, handOf, awake, how, passed, kin, heardBy, rows, rfl, q1, q2, q3, q4⟩
    show BX0_tryOuts_58 _ _ _ _ _ _ _ _ _ _ _ _ _ _ _ _ _ _ _ _ _ _ _ _ _ _ _ _ = _
    unfold BX0_tryOuts_58
    dsimp only [un15]
    rw [if_pos (by rw [nI_leI (by omega) (by omega)]; exact Nat.le_refl _), nI_clamp (by omega)]
theorem try_58a {N st : Nat} {I : Tb} {inThing inFull bed hhow dreams states one other falls creak cold listensIn : Nat → Int32} (hN : 64 < N) (hi : ib I) (hs : st < 21) (hh : ∀ i, i < I 0 1 → hhow i = nI (I 5 i)) (hbd : ∀ i, i < I 0 4 → bed i = nI (I 14 i)) (ht : ∀ i, i < I 0 2 → inThing i = nI (I 7 i) ∧ inFull i = nI (I 8 i)) (hf : ∀ i, i < 4 → inFull i = 0 ∨ inFull i = 1) (hst : CS I states) (hH : CH I one other falls creak cold listensIn) (hd : ∀ c s, c < cnm I → s < I 0 4 → dreams (3 * c + s) = nI (dg I c s)) (h_inn : Nat) (tried g1 g2 : Nat → Int32) (been0 : Int32) (th0 fu0 dr0 st0 ro0 ha0 aw0 ho0 pa0 kin0 : Nat → Int32) (hb0 se0 pl0 : Nat → Int64) (haw : ∀ i, i < 3 → aw0 i = 0 ∨ aw0 i = 1) :
    ∃ r, (fun r => ∃ (been : Int32) (thingIn full dreamOf stateOf roomOf handOf awake how passed kin : Nat → Int32) (heardBy rows : Nat → Int64), r = (upd tried st 1, some h_inn, nI st, been, nI (I 0 0), mf (I 0 0) (ds I (lks I st)) g1, thingIn, full, heardBy, dreamOf, stateOf, roomOf, handOf, awake, how, passed, rows, kin, se0) ∧ (∀ i, i < 3 → awake i = 0 ∨ awake i = 1) ∧ ROW I st (cnm I) rows ∧ KIN I st (cnm I) kin ∧ ∀ i, (i < 64 * st ∨ 64 * st + 64 ≤ i) → kin i = kin0 i) r ∧ ∀ K, lp (BX0_tryOut_58a (nI (cnm I)) K tried (nI st) h_inn (nI st) (nI (I 0 0)) (mf (I 0 0) (ds I (lks I st)) g1) N (nI (I 0 4)) (nI (I 0 1)) inThing inFull dreams bed hhow (nI (I 0 6)) (nI (I 0 5)) states one other creak listensIn (mf (I 0 0) (ds I nolk) g2) cold falls (nI (I 0 2))) N (0, been0, th0, fu0, hb0, dr0, st0, ro0, ha0, aw0, ho0, pa0, pl0, kin0, se0) = K r := by
  have hcl := cnm_le hi
  refine lp_goK (B := fun K => BX0_tryOut_58a (nI (cnm I)) K tried (nI st) h_inn (nI st) (nI (I 0 0)) (mf (I 0 0) (ds I (lks I st)) g1) N (nI (I 0 4)) (nI (I 0 1)) inThing inFull dreams bed hhow (nI (I 0 6)) (nI (I 0 5)) states one other creak listensIn (mf (I 0 0) (ds I nolk) g2) cold falls (nI (I 0 2))) (fun j q => ∃ (been : Int32) (thingIn full dreamOf stateOf roomOf handOf awake how passed kin : Nat → Int32) (heardBy rows : Nat → Int64), q = (nI j, been, thingIn, full, heardBy, dreamOf, stateOf, roomOf, handOf, awake, how, passed, rows, kin, se0) ∧ (∀ i, i < 3 → awake i = 0 ∨ awake i = 1) ∧ ROW I st j rows ∧ KIN I st j kin ∧ ∀ i, (i < 64 * st ∨ 64 * st + 64 ≤ i) → kin i = kin0 i) (fun r => ∃ (been : Int32) (thingIn full dreamOf stateOf roomOf handOf awake how passed kin : Nat → Int32) (heardBy rows : Nat → Int64), r = (upd tried st 1, some h_inn, nI st, been, nI (I 0 0), mf (I 0 0) (ds I (lks I st)) g1, thingIn, full, heardBy, dreamOf, stateOf, roomOf, handOf, awake, how, passed, rows, kin, se0) ∧ (∀ i, i < 3 → awake i = 0 ∨ awake i = 1) ∧ ROW I st (cnm I) rows ∧ KIN I st (cnm I) kin ∧ ∀ i, (i < 64 * st ∨ 64 * st + 64 ≤ i) → kin i = kin0 i) (cnm I) (by omega) ⟨been0, th0, fu0, dr0, st0, ro0, ha0, aw0, ho0, pa0, kin0, hb0, pl0, rfl, haw, fun c i h => by omega, fun c h => by omega, fun _ _ => rfl⟩ (fun j hj q hq => ?_) (fun q hq => ?_)
  · obtain ⟨been, thingIn, full, dreamOf, stateOf, roomOf, handOf, awake, how, passed, kin, heardBy, rows, rfl, q1, q2, q3, q4⟩ := hq
    obtain ⟨th1, fu1, dr1, st1, ro1, ha1, aw1, ho1, pa1, aw2, st2, ro2, ho2, th2, fu2, ha2, pa2, hb1, hb2, rows', been2, t1, t2, t3, t4, t5, t6⟩ := trial_step hN hi hs hh hbd ht hf hst hH hd hj g1 g2 thingIn full dreamOf stateOf roomOf handOf awake how passed heardBy rows q1 q2
    refine ⟨(nI (j + 1), been2, th2, fu2, hb2, dr1, st2, ro2, ha2, aw2, ho2, pa2, rows', upd kin (64 * st + j) (nI (kn I st j)), se0), fun K rec => ?_, been2, th2, fu2, dr1, st2, ro2, ha2, aw2, ho2, pa2, _, hb2, rows', rfl, t6, t5, fun c hc => ?_, fun i hi2 => by rw [pk_un (by omega)]; exact q4 i hi2⟩
    · have h3 : ¬ cnm I ≤ j := by omega
      have e64 : (nI st * 64 + nI j : Int32) = nI (64 * st + j) := by rw [show (64 : Int32) = nI 64 from rfl, pk_mul, nI_add, Nat.mul_comm]
      show BX0_tryOut_58a _ _ _ _ _ _ _ _ _ _ _ _ _ _ _ _ _ _ _ _ _ _ _ _ _ _ _ _ _ = _
      unfold BX0_tryOut_58a
      dsimp only [un15]
      rw [if_neg (by rw [nI_leI (by omega) (by omega)]; exact h3), t1, bd_some]
      dsimp only [un11]
      rw [t2, bd_some]
      dsimp only [un11]
      rw [t3, bd_some]
      dsimp only [un1]
      rw [t4, bd_some]
      dsimp only [un1]
      rw [e64, gd_nI _ (by omega) (by omega), nI_clamp (by omega), nI_1]
    · by_cases e : c = j
      · rw [e, pk_us]
      · rw [pk_un (by omega)]; exact q3 c (by omega)
  · obtain ⟨been, thingIn, full, dreamOf, stateOf, roomOf, handOf, awake, how, passed, kin, heardBy, rows, rfl, q1, q2, q3, q4⟩ := hq
    refine ⟨_, fun K rec => ?_, been, thingIn, full, dreamOf, stateOf, roomOf, handOf, awake, how, passed, kin, heardBy, rows, rfl, q1, q2, q3, q4⟩
    show BX0_tryOut_58a _ _ _ _ _ _ _ _ _ _ _ _ _ _ _ _ _ _ _ _ _ _ _ _ _ _ _ _ _ = _
    unfold BX0_tryOut_58a
    dsimp only [un15]
    rw [if_pos (by rw [nI_leI (by omega) (by omega)]; exact Nat.le_refl _), nI_clamp (by omega)]
theorem gd_0 {ρ : Type} {n : Nat} (K : Option ρ) (h : 0 < n) (hn : n < 2 ^ 31) : gd (0 : Int32) n K = K := gd_nI (k := 0) K h hn
theorem tryOut_0 {N : Nat} {I : Tb} {inThing inFull bed hhow dreams states one other falls creak cold listensIn : Nat → Int32} (hN : 64 < N) (hi : ib I) (hh : ∀ i, i < I 0 1 → hhow i = nI (I 5 i)) (hbd : ∀ i, i < I 0 4 → bed i = nI (I 14 i)) (ht : ∀ i, i < I 0 2 → inThing i = nI (I 7 i) ∧ inFull i = nI (I 8 i)) (hf : ∀ i, i < 4 → inFull i = 0 ∨ inFull i = 1) (hst : CS I states) (hH : CH I one other falls creak cold listensIn) (hd : ∀ c s, c < cnm I → s < I 0 4 → dreams (3 * c + s) = nI (dg I c s)) (h_inn : Nat) (inn0 : Option Nat) (tried g2 ws0 : Nat → Int32) (set0 been0 wr0 : Int32) (th0 fu0 dr0 st0 ro0 ha0 aw0 ho0 pa0 kin0 : Nat → Int32) (hb0 se0 pl0 : Nat → Int64) (haw : ∀ i, i < 3 → aw0 i = 0 ∨ aw0 i = 1) (h0 : tried 0 = 0) :
    ∃ (been : Int32) (ws thingIn full dreamOf stateOf roomOf handOf awake how passed kin : Nat → Int32) (heardBy rows : Nat → Int64), fX0_tryOut N 0 0 (nI (cnm I)) tried inn0 set0 been0 (nI (I 0 6)) (nI (I 0 2)) (nI (I 0 4)) (nI (I 0 5)) (nI (I 0 0)) (nI (I 0 1)) hhow wr0 ws0 one other inThing th0 inFull fu0 hb0 dreams dr0 st0 bed ro0 ha0 aw0 ho0 pa0 states creak listensIn (mf (I 0 0) (ds I nolk) g2) cold falls pl0 kin0 se0 h_inn = some (upd tried 0 1, some h_inn, 0, been, nI (I 0 0), ws, thingIn, full, heardBy, dreamOf, stateOf, roomOf, handOf, awake, how, passed, rows, kin, se0) ∧ (∀ i, i < 3 → awake i = 0 ∨ awake i = 1) ∧ ROW I 0 (cnm I) rows ∧ KIN I 0 (cnm I) kin := by
  obtain ⟨g, hp⟩ := prepare_ok (N := N) (st := 0) (steps := ws0) hN hi (by omega) hh hH.1 hH.2.1
  obtain ⟨r, ⟨been, thingIn, full, dreamOf, stateOf, roomOf, handOf, awake, how, passed, kin, heardBy, rows, rfl, q1, q2, q3, q4⟩, hl⟩ := try_58a hN hi (show 0 < 21 by omega) hh hbd ht hf hst hH hd h_inn tried g g2 been0 th0 fu0 dr0 st0 ro0 ha0 aw0 ho0 pa0 kin0 hb0 se0 pl0 haw
  refine ⟨been, mf (I 0 0) (ds I (lks I 0)) g, thingIn, full, dreamOf, stateOf, roomOf, handOf, awake, how, passed, kin, heardBy, rows, ?_, q1, q2, q3⟩
  obtain ⟨M, rfl⟩ : ∃ M, N = M + 1 + 1 := ⟨N - 2, by omega⟩
  unfold fX0_tryOut
  show BX0_tryOut_2 _ _ _ _ _ _ _ _ _ _ _ _ _ _ _ _ _ _ _ _ _ _ _ (lp (BX0_tryOut_2 _ _ _ _ _ _ _ _ _ _ _ _ _ _ _ _ _ _ _ _ _ _ _) (M + 1)) _ = _
  generalize hA : lp (BX0_tryOut_2 _ _ _ _ _ _ _ _ _ _ _ _ _ _ _ _ _ _ _ _ _ _ _) (M + 1) = A
  unfold BX0_tryOut_2
  dsimp only [un20]
  rw [if_neg (by decide), gd_0 _ (by omega) (by omega)]
  dsimp only [jn]
  rw [if_pos (show tried (Int32.toNatClampNeg 0) = 0 from h0), gd_0 _ (by omega) (by omega), if_pos rfl, show (0 : Int32) = nI 0 from rfl, hp, bd_some]
  dsimp only [un3]
  have hl2 := hl
  rw [show (0 : Int32) = nI 0 from rfl] at hl2
  rw [hl2]
  dsimp only [un19]
  rw [← hA]
  show BX0_tryOut_2 _ _ _ _ _ _ _ _ _ _ _ _ _ _ _ _ _ _ _ _ _ _ _ _ _ = _
  unfold BX0_tryOut_2
  dsimp only [un20]
  rw [if_pos (by decide)]
def TRD (I : Tb) (tried kin : Nat → Int32) : Prop := ∀ st, st < 21 → tried st ≠ 0 → KIN I st (cnm I) kin
theorem tryOuts_ok {N p e : Nat} {I : Tb} {inThing inFull bed hhow dreams states one other falls creak cold listensIn : Nat → Int32} (hN : 64 < N) (hi : ib I) (hh : ∀ i, i < I 0 1 → hhow i = nI (I 5 i)) (hbd : ∀ i, i < I 0 4 → bed i = nI (I 14 i)) (ht : ∀ i, i < I 0 2 → inThing i = nI (I 7 i) ∧ inFull i = nI (I 8 i)) (hf : ∀ i, i < 4 → inFull i = 0 ∨ inFull i = 1) (hst : CS I states) (hH : CH I one other falls creak cold listensIn) (hd : ∀ c s, c < cnm I → s < I 0 4 → dreams (3 * c + s) = nI (dg I c s)) (hpe : p ≤ e) (he : e < 21) (g2 tried0 : Nat → Int32) (set0 been0 wr0 : Int32) (ws0 th0 fu0 dr0 st0 ro0 ha0 aw0 ho0 pa0 kin0 : Nat → Int32) (hb0 se0 pl0 : Nat → Int64) (haw : ∀ i, i < 3 → aw0 i = 0 ∨ aw0 i = 1) (h0 : tried0 0 ≠ 0) (hT : TRD I tried0 kin0) :
    ∃ (tried : Nat → Int32) (set been wr : Int32) (ws thingIn full dreamOf stateOf roomOf handOf awake how passed kin : Nat → Int32) (heardBy se : Nat → Int64), fX0_tryOuts N (nI p) (nI e) (nI (cnm I)) tried0 set0 been0 (nI (I 0 6)) (nI (I 0 2)) (nI (I 0 4)) (nI (I 0 5)) (nI (I 0 0)) (nI (I 0 1)) hhow wr0 ws0 one other inThing th0 inFull fu0 hb0 dreams dr0 st0 bed ro0 ha0 aw0 ho0 pa0 states creak listensIn (mf (I 0 0) (ds I nolk) g2) cold falls se0 kin0 pl0 = some (tried, set, been, wr, ws, thingIn, full, heardBy, dreamOf, stateOf, roomOf, handOf, awake, how, passed, se, kin, pl0) ∧ (∀ i, i < 3 → awake i = 0 ∨ awake i = 1) ∧ TRD I tried kin ∧ (∀ st, tried0 st ≠ 0 → tried st ≠ 0) ∧ ∀ st, p ≤ st → st ≤ e → tried st ≠ 0 := by
  unfold fX0_tryOuts
  refine lp_go (X := fun o => ∃ (tried : Nat → Int32) (set been wr : Int32) (ws thingIn full dreamOf stateOf roomOf handOf awake how passed kin : Nat → Int32) (heardBy se : Nat → Int64), o = some (tried, set, been, wr, ws, thingIn, full, heardBy, dreamOf, stateOf, roomOf, handOf, awake, how, passed, se, kin, pl0) ∧ (∀ i, i < 3 → awake i = 0 ∨ awake i = 1) ∧ TRD I tried kin ∧ (∀ st, tried0 st ≠ 0 → tried st ≠ 0) ∧ ∀ st, p ≤ st → st ≤ e → tried st ≠ 0) (fun j q => ∃ (tried : Nat → Int32) (set been wr : Int32) (ws thingIn full dreamOf stateOf roomOf handOf awake how passed kin : Nat → Int32) (heardBy se : Nat → Int64), q = (nI (p + j), tried, set, been, wr, ws, thingIn, full, heardBy, dreamOf, stateOf, roomOf, handOf, awake, how, passed, se, kin, pl0) ∧ (∀ i, i < 3 → awake i = 0 ∨ awake i = 1) ∧ TRD I tried kin ∧ (∀ st, tried0 st ≠ 0 → tried st ≠ 0) ∧ ∀ st, p ≤ st → st < p + j → tried st ≠ 0) (e + 1 - p) (by omega) ⟨tried0, set0, been0, wr0, ws0, th0, fu0, dr0, st0, ro0, ha0, aw0, ho0, pa0, kin0, hb0, se0, rfl, haw, hT, fun _ h => h, fun st h1 h2 => by omega⟩ (fun j hj q hq => ?_) (fun q hq rec => ?_)
  · obtain ⟨tried, set, been, wr, ws, thingIn, full, dreamOf, stateOf, roomOf, handOf, awake, how, passed, kin, heardBy, se, rfl, q1, q2, q3, q4⟩ := hq
    by_cases c : tried (p + j) = 0
    · have hpj : p + j ≠ 0 := fun z => by
        rw [z] at c
        exact q3 0 h0 c
      obtain ⟨g, hp⟩ := prepare_ok (N := N) (st := p + j) (steps := ws) hN hi (by omega) hh hH.1 hH.2.1
      obtain ⟨r, ⟨been', thingIn', full', dreamOf', stateOf', roomOf', handOf', awake', how', passed', kin', heardBy', rows', rfl, w1, w2, w3, w4⟩, hl⟩ := try_58 hN hi (show p + j < 21 by omega) hh hbd ht hf hst hH hd tried g g2 been thingIn full dreamOf stateOf roomOf handOf awake how passed kin heardBy se pl0 q1
      refine ⟨_, fun rec => ?_, upd tried (p + j) 1, nI (p + j), been', nI (I 0 0), mf (I 0 0) (ds I (lks I (p + j))) g, thingIn', full', dreamOf', stateOf', roomOf', handOf', awake', how', passed', kin', heardBy', rows', rfl, w1, fun st h1 h2 => ?_, fun st h => ?_, fun st h1 h2 => ?_⟩
      · unfold BX0_tryOuts_2
        dsimp only [un19]
        rw [if_neg (by rw [nI_ltI (by omega) (by omega)]; omega), gd_nI _ (by omega) (by omega)]
        dsimp only [jn]
        rw [nI_clamp (by omega), if_pos c, gd_nI _ (by omega) (by omega), if_neg (fun z => hpj ((nI_eq (by omega) (by decide)).mp (z.trans (il 0)))), hp, bd_some]
        dsimp only [un3]
        rw [hl]
        dsimp only [un18]
        rw [nI_1]
        rfl
      · by_cases z : st = p + j
        · rw [z]; exact w3
        · rw [pk_un z] at h2
          intro cc hcc
          have hcl := cnm_le hi
          rw [w4 _ (by omega)]
          exact q2 st h1 h2 cc hcc
      · by_cases z : st = p + j
        · rw [z, pk_us]; decide
        · rw [pk_un z]; exact q3 st h
      · by_cases z : st = p + j
        · rw [z, pk_us]; decide
        · rw [pk_un z]; exact q4 st h1 (by omega)
    · refine ⟨_, fun rec => ?_, tried, set, been, wr, ws, thingIn, full, dreamOf, stateOf, roomOf, handOf, awake, how, passed, kin, heardBy, se, rfl, q1, q2, q3, fun st h1 h2 => ?_⟩
      · unfold BX0_tryOuts_2
        dsimp only [un19]
        rw [if_neg (by rw [nI_ltI (by omega) (by omega)]; omega), gd_nI _ (by omega) (by omega)]
        dsimp only [jn]
        rw [nI_clamp (by omega), if_neg c]
        dsimp only [un18]
        rw [nI_1]
        rfl
      · by_cases z : st = p + j
        · rw [z]; exact c
        · exact q4 st h1 (by omega)
  · obtain ⟨tried, set, been, wr, ws, thingIn, full, dreamOf, stateOf, roomOf, handOf, awake, how, passed, kin, heardBy, se, rfl, q1, q2, q3, q4⟩ := hq
    refine ⟨tried, set, been, wr, ws, thingIn, full, dreamOf, stateOf, roomOf, handOf, awake, how, passed, kin, heardBy, se, ?_, q1, q2, q3, fun st h1 h2 => q4 st h1 (by omega)⟩
    unfold BX0_tryOuts_2
    dsimp only [un19]
    rw [if_pos (by rw [nI_ltI (by omega) (by omega)]; omega)]
