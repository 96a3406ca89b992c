/-! the reference's walks -/
def cI (v : Nat) : Int32 := if v = 0 then -1 else nI (v - 1)
theorem cI_s (k : Nat) : cI (k + 1) = nI k := rfl
theorem cI_m1 {v : Nat} (h : v < 2 ^ 31) : cI v = -1 ↔ v = 0 := by
  unfold cI
  by_cases c : v = 0
  · rw [if_pos c]; exact ⟨fun _ => c, fun _ => rfl⟩
  · rw [if_neg c]; exact ⟨fun e => ((nI_neg1 (by omega)).mp e).elim, fun e => absurd e c⟩
theorem cI_10 {v : Nat} (h : v < 2 ^ 31) : cI v = 10 ↔ v = 11 := by
  unfold cI
  by_cases c : v = 0
  · rw [if_pos c]; exact ⟨fun e => absurd e (by decide), fun e => by omega⟩
  · rw [if_neg c]
    constructor
    · intro e
      have := (nI_eq (by omega) (by omega)).mp (e.trans (il 10))
      omega
    · intro e
      subst e
      rfl
def zc (cm : Nat → Nat) : Nat := cnb (fun x => decide (cm x = 0)) 8
theorem zc_lt {cm : Nat → Nat} {b v : Nat} (hb : b < 8) (h0 : cm b = 0) (hv : v ≠ 0) : zc (fun x => if x = b then v else cm x) < zc cm := by
  refine cnb_lt (k := b) 8 (fun i hi q => ?_) hb ?_ (decide_eq_true h0)
  · have q' : (if i = b then v else cm i) = 0 := of_decide_eq_true q
    by_cases c : i = b
    · rw [if_pos c] at q'; exact absurd q' hv
    · rw [if_neg c] at q'; exact decide_eq_true q'
  · show decide ((if b = b then v else cm b) = 0) = false
    rw [if_pos rfl]
    exact decide_eq_false hv
/-- the search: from where each room was come to -/
def SR (I : Tb) (w cm rk : Nat → Nat) : Prop :=
  (∀ x, x < 8 → cm x ≤ 11 ∧ rk x + zc cm ≤ 8) ∧ (∀ x, x < 8 → (isBd I x = true ↔ cm x = 11)) ∧
  ∀ x d, x < 8 → cm x = d + 1 → d < 10 → d < I 0 1 ∧ I 5 d ≠ 2 ∧ ∃ y, y < 8 ∧ cm y ≠ 0 ∧ rk y < rk x ∧ ((I 4 d = x ∧ I 3 d = y ∧ w d ≠ 1) ∨ (I 3 d = x ∧ I 4 d = y ∧ w d ≠ 2))
def wa (I : Tb) (d way : Nat) : Nat := if way = 1 then I 3 d else I 4 d
def wb (I : Tb) (d way : Nat) : Nat := if way = 1 then I 4 d else I 3 d
def wskip (I : Tb) (w cm : Nat → Nat) (d way : Nat) : Prop := cm (wa I d way) = 0 ∨ cm (wb I d way) ≠ 0 ∨ w d = way
theorem SR_new {I : Tb} {w cm rk : Nat → Nat} {d way : Nat} (hi : ib I) (h : SR I w cm rk) (hd : d < I 0 1) (hl : I 5 d ≠ 2) (hw : way = 1 ∨ way = 2) (hs : ¬ wskip I w cm d way) : ∃ rk', SR I w (fun x => if x = wb I d way then d + 1 else cm x) rk' := by
  have hD := hi.D
  have ho := ib_o8 hi d hd
  have hne := (hi.door hd).2.2.1
  have h1 : cm (wa I d way) ≠ 0 := fun e => hs (Or.inl e)
  have h2 : cm (wb I d way) = 0 := by
    rcases Nat.eq_zero_or_pos (cm (wb I d way)) with q | q
    · exact q
    · exact absurd (Or.inr (Or.inl (by omega))) hs
  have h3 : w d ≠ way := fun e => hs (Or.inr (Or.inr e))
  have hb8 : wb I d way < 8 := by unfold wb; split <;> omega
  have ha8 : wa I d way < 8 := by unfold wa; split <;> omega
  have hab : wa I d way ≠ wb I d way := fun e => by rw [e, h2] at h1; exact h1 rfl
  have hz := zc_lt hb8 h2 (v := d + 1) (by omega)
  obtain ⟨s1, s2, s3⟩ := h
  refine ⟨fun x => if x = wb I d way then rk (wa I d way) + 1 else rk x, fun x hx => ?_, fun x hx => ?_, fun x e hx hc he => ?_⟩
  · have q1 := s1 x hx
    have q2 := s1 _ ha8
    by_cases c : x = wb I d way
    · simp only [c, if_true]
      omega
    · simp only [c, if_false]
      omega
  · by_cases c : x = wb I d way
    · have q := (s2 x hx)
      rw [c, h2] at q
      simp only [c, if_true]
      exact ⟨fun z => absurd (q.mp z) (by omega), fun z => by omega⟩
    · simp only [c, if_false]
      exact s2 x hx
  · by_cases c : x = wb I d way
    · simp only [c, if_true] at hc ⊢
      have e1 : e = d := by omega
      subst e1
      refine ⟨hd, hl, wa I e way, ha8, by simp only [hab, if_false]; exact h1, by simp only [hab, if_false]; omega, ?_⟩
      rcases hw with z | z
      · subst z; exact Or.inl ⟨rfl, rfl, h3⟩
      · subst z; exact Or.inr ⟨rfl, rfl, h3⟩
    · simp only [c, if_false] at hc ⊢
      obtain ⟨a1, a2, y, y1, y2, y3, y4⟩ := s3 x e hx hc he
      have hy : y ≠ wb I d way := fun z => by rw [z] at y2; exact y2 h2
      exact ⟨a1, a2, y, y1, by simp only [hy, if_false]; exact y2, by simp only [hy, if_false]; exact y3, y4⟩
theorem way_ok {I : Tb} {w cm : Nat → Nat} {d way q : Nat} {walked rA rB came : Nat → Int32} {j222 : Int32 × (Nat → Int32) → Option (Int32 × (Nat → Int32) × (Nat → Int32))} {rec : Int32 × Int32 × (Nat → Int32) → Option (Int32 × (Nat → Int32) × (Nat → Int32))} (hi : ib I) (hd : d < I 0 1) (hw : way = 1 ∨ way = 2) (hW : ∀ d, d < 10 → walked d = nI (w d)) (hw2 : w d ≤ 2) (HA : rA d = nI (I 3 d)) (HB : rB d = nI (I 4 d)) (hc : ∀ x, x < 8 → came x = cI (cm x)) (hc11 : ∀ x, x < 8 → cm x ≤ 11) :
    (wskip I w cm d way ∧ BX12_walksMore_106 j222 (nI d) walked rB rA rec (nI q, nI way, came) = rec (nI q, nI (way + 1), came)) ∨ (¬ wskip I w cm d way ∧ BX12_walksMore_106 j222 (nI d) walked rB rA rec (nI q, nI way, came) = rec (nI 1, nI (way + 1), upd came (wb I d way) (nI d))) := by
  have hD := hi.D
  have ho := ib_o8 hi d hd
  have hb8 : wb I d way < 8 := by unfold wb; split <;> omega
  have ha8 : wa I d way < 8 := by unfold wa; split <;> omega
  have c1 := hc11 _ ha8
  have c2 := hc11 _ hb8
  have pre : BX12_walksMore_106 j222 (nI d) walked rB rA rec (nI q, nI way, came) = if cI (cm (wa I d way)) = (-1) then rec (nI q, nI (way + 1), came) else if cI (cm (wb I d way)) = (-1) then (if nI (w d) = nI way then rec (nI q, nI (way + 1), came) else rec (1, nI (way + 1), upd came (wb I d way) (nI d))) else rec (nI q, nI (way + 1), came) := by
    have h3 : ¬ 3 ≤ way := by omega
    simp (disch := omega) only [BX12_walksMore_106, un3, jn, un1, un2, il, nI_leI, h3, if_false, gd_nI, nI_clamp, HA, HB, nI_eq, nI_add, hW d (by omega)]
    rcases hw with z | z
    · subst z
      simp (disch := omega) only [if_true, gd_nI, nI_clamp, hc _ ho.1, hc _ ho.2]
      rfl
    · subst z
      simp (disch := omega) only [show ¬ (2 = 1) by omega, if_false, gd_nI, nI_clamp, hc _ ho.1, hc _ ho.2]
      rfl
  rw [pre]
  unfold wskip
  by_cases a1 : cm (wa I d way) = 0
  · refine Or.inl ⟨Or.inl a1, ?_⟩
    rw [if_pos ((cI_m1 (by omega)).mpr a1)]
  · rw [if_neg (fun e => a1 ((cI_m1 (by omega)).mp e))]
    by_cases a2 : cm (wb I d way) = 0
    · rw [if_pos ((cI_m1 (by omega)).mpr a2)]
      by_cases a3 : w d = way
      · refine Or.inl ⟨Or.inr (Or.inr a3), ?_⟩
        rw [if_pos (by rw [a3])]
      · refine Or.inr ⟨fun z => by omega, ?_⟩
        rw [if_neg (fun e => a3 ((nI_eq (by omega) (by omega)).mp e))]
        rfl
    · refine Or.inl ⟨Or.inr (Or.inl a2), ?_⟩
      rw [if_neg (fun e => a2 ((cI_m1 (by omega)).mp e))]
/-- what holds in the midst of a sweep over the doors that began at cm0 -/
def SW (I : Tb) (w cm0 : Nat → Nat) (j q : Nat) (cm : Nat → Nat) : Prop := (∃ rk, SR I w cm rk) ∧ q ≤ 1 ∧ (q = 0 → cm = cm0 ∧ ∀ d, d < j → I 5 d ≠ 2 → wskip I w cm0 d 1 ∧ wskip I w cm0 d 2) ∧ (q = 1 → zc cm < zc cm0)
theorem SW_way {I : Tb} {w cm0 cm : Nat → Nat} {d way q : Nat} {walked rA rB came : Nat → Int32} (hi : ib I) (hd : d < I 0 1) (hl : I 5 d ≠ 2) (hw : way = 1 ∨ way = 2) (hW : ∀ d, d < 10 → walked d = nI (w d)) (hw2 : w d ≤ 2) (HA : rA d = nI (I 3 d)) (HB : rB d = nI (I 4 d)) (hc : ∀ x, x < 8 → came x = cI (cm x)) (hs : ∃ rk, SR I w cm rk) (hq1 : q ≤ 1) (hq : q = 0 → cm = cm0) (hz : q = 1 → zc cm < zc cm0) :
    ∃ q' cm' came', q' ≤ 1 ∧ (∃ rk, SR I w cm' rk) ∧ (∀ x, x < 8 → came' x = cI (cm' x)) ∧ (q' = 0 → q = 0 ∧ cm' = cm0 ∧ wskip I w cm0 d way) ∧ (q' = 1 → zc cm' < zc cm0) ∧ ∀ j222 rec, BX12_walksMore_106 j222 (nI d) walked rB rA rec (nI q, nI way, came) = rec (nI q', nI (way + 1), came') := by
  have hb8 : wb I d way < 8 := by have := ib_o8 hi d hd; unfold wb; split <;> omega
  obtain ⟨rk, hS⟩ := hs
  have h11 : ∀ x, x < 8 → cm x ≤ 11 := fun x hx => (hS.1 x hx).1
  by_cases c : wskip I w cm d way
  · refine ⟨q, cm, came, hq1, ⟨rk, hS⟩, hc, fun e => ⟨e, hq e, by rw [← hq e]; exact c⟩, hz, fun j222 rec => ?_⟩
    rcases way_ok (j222 := j222) (rec := rec) (q := q) hi hd hw hW hw2 HA HB hc h11 with ⟨_, e⟩ | ⟨e, _⟩
    · exact e
    · exact absurd c e
  · have hcb : cm (wb I d way) = 0 := by
      rcases Nat.eq_zero_or_pos (cm (wb I d way)) with z | z
      · exact z
      · exact absurd (Or.inr (Or.inl (by omega))) c
    have hlt := zc_lt hb8 hcb (v := d + 1) (by omega)
    refine ⟨1, fun x => if x = wb I d way then d + 1 else cm x, upd came (wb I d way) (nI d), Nat.le_refl 1, SR_new hi hS hd hl hw c, fun x hx => ?_, fun e => absurd e (by omega), fun _ => ?_, fun j222 rec => ?_⟩
    · show upd came (wb I d way) (nI d) x = cI (if x = wb I d way then d + 1 else cm x)
      by_cases e : x = wb I d way
      · rw [e, pk_us, if_pos rfl]; rfl
      · rw [pk_un e, if_neg e]; exact hc x hx
    · rcases Nat.lt_or_ge q 1 with z | z
      · have e0 := hq (by omega)
        rw [e0] at hlt ⊢
        exact hlt
      · have := hz (by omega)
        omega
    · rcases way_ok (j222 := j222) (rec := rec) (q := q) hi hd hw hW hw2 HA HB hc h11 with ⟨e, _⟩ | ⟨_, e⟩
      · exact absurd e c
      · exact e
theorem sweep_ok {N : Nat} {I : Tb} {w cm0 : Nat → Nat} {walked rA rB how came : Nat → Int32} (hN : 64 < N) (hi : ib I) (hW : ∀ d, d < 10 → walked d = nI (w d)) (hw2 : ∀ d, d < I 0 1 → w d ≤ 2) (HA : ∀ i, i < I 0 1 → rA i = nI (I 3 i)) (HB : ∀ i, i < I 0 1 → rB i = nI (I 4 i)) (hh : ∀ i, i < I 0 1 → how i = nI (I 5 i)) (hc : ∀ x, x < 8 → came x = cI (cm0 x)) (hs : ∃ rk, SR I w cm0 rk) :
    ∃ z : Int32 × (Nat → Int32), (∃ q cm, z.1 = nI q ∧ (∀ x, x < 8 → z.2 x = cI (cm x)) ∧ SW I w cm0 (I 0 1) q cm) ∧ ∀ K, lp (BX12_walksMore_76 (nI (I 0 1)) how walked rB rA N K) N (0, 0, came) = K z := by
  have hD := hi.D
  refine lp_goK (B := BX12_walksMore_76 (nI (I 0 1)) how walked rB rA N) (N := N) (s := (0, 0, came)) (fun j s => ∃ q cm came', s = (nI q, nI j, came') ∧ (∀ x, x < 8 → came' x = cI (cm x)) ∧ SW I w cm0 j q cm) (fun z => ∃ q cm, z.1 = nI q ∧ (∀ x, x < 8 → z.2 x = cI (cm x)) ∧ SW I w cm0 (I 0 1) q cm) (I 0 1) (by omega) ⟨0, cm0, came, rfl, hc, hs, by omega, fun _ => ⟨rfl, fun d hd => absurd hd (Nat.not_lt_zero d)⟩, fun e => absurd e (by omega)⟩ (fun d hd s hq => ?_) (fun s hq => ?_)
  · obtain ⟨q, cm, came1, rfl, hc1, hS, hq1, hq0, hz⟩ := hq
    have h3 : ¬ I 0 1 ≤ d := by omega
    have h5 := (hi.door hd).2.2.2.1
    by_cases cl : I 5 d = 2
    · refine ⟨(nI q, nI (d + 1), came1), fun K rec => ?_, q, cm, came1, rfl, hc1, hS, hq1, fun e => ⟨(hq0 e).1, fun e2 he2 hl2 => ?_⟩, hz⟩
      · simp (disch := omega) only [BX12_walksMore_76, un3, un2, jn, nI_leI, h3, if_false, gd_nI, nI_clamp, hh d hd, cl, nI_1]
        rw [if_pos (show nI 2 = 2 from rfl)]
      · by_cases e3 : e2 = d
        · rw [e3] at hl2; exact absurd cl hl2
        · exact (hq0 e).2 e2 (by omega) hl2
    · obtain ⟨q2, cm2, came2, a1, a2, a3, a4, a5, a6⟩ := SW_way (cm0 := cm0) hi hd cl (Or.inl rfl) hW (hw2 d hd) (HA d hd) (HB d hd) hc1 hS hq1 (fun e => (hq0 e).1) hz
      obtain ⟨q3, cm3, came3, b1, b2, b3, b4, b5, b6⟩ := SW_way (cm0 := cm0) hi hd cl (Or.inr rfl) hW (hw2 d hd) (HA d hd) (HB d hd) a3 a2 a1 (fun e => (a4 e).2.1) a5
      refine ⟨(nI q3, nI (d + 1), came3), fun K rec => ?_, q3, cm3, came3, rfl, b3, b2, b1, fun e => ⟨(b4 e).2.1, fun e2 he2 hl2 => ?_⟩, b5⟩
      · simp (disch := omega) only [BX12_walksMore_76, un3, un2, jn, nI_leI, h3, if_false, gd_nI, nI_clamp, hh d hd]
        rw [if_neg (show ¬ nI (I 5 d) = 2 from fun e => cl ((nI_eq (by omega) (by omega)).mp (e.trans (il 2))))]
        obtain ⟨N3, rfl⟩ : ∃ N3, N = N3 + 3 := ⟨N - 3, by omega⟩
        show BX12_walksMore_106 _ _ _ _ _ (lp _ (N3 + 2)) (nI q, nI 1, came1) = _
        rw [a6]
        show BX12_walksMore_106 _ _ _ _ _ (lp _ (N3 + 1)) (nI q2, nI 2, came2) = _
        rw [b6]
        show BX12_walksMore_106 _ _ _ _ _ (lp _ N3) (nI q3, nI 3, came3) = _
        simp (disch := omega) only [BX12_walksMore_106, un3, il, nI_leI, Nat.le_refl, if_true, nI_add, un2]
      · by_cases e3 : e2 = d
        · have z := b4 e
          rw [e3]
          exact ⟨(a4 z.1).2.2, z.2.2⟩
        · exact (hq0 (a4 (b4 e).1).1).2 e2 (by omega) hl2
  · obtain ⟨q, cm, came1, rfl, hc1, hS⟩ := hq
    refine ⟨(nI q, came1), fun K rec => ?_, q, cm, rfl, hc1, hS⟩
    simp (disch := omega) only [BX12_walksMore_76, un3, nI_leI, Nat.le_refl, if_true]
/-- all sweeps -/
theorem sweeps_ok {N r : Nat} {I : Tb} {w : Nat → Nat} {walked rA rB how : Nat → Int32} (hN : 64 < N) (hi : ib I) (hr : r < I 0 0) (hW : ∀ d, d < 10 → walked d = nI (w d)) (hw2 : ∀ d, d < I 0 1 → w d ≤ 2) (HA : ∀ i, i < I 0 1 → rA i = nI (I 3 i)) (HB : ∀ i, i < I 0 1 → rB i = nI (I 4 i)) (hh : ∀ i, i < I 0 1 → how i = nI (I 5 i)) : ∀ (z : Nat) (cm : Nat → Nat) (came : Nat → Int32) (M : Nat), zc cm ≤ z → z + 1 < M → (∀ x, x < 8 → came x = cI (cm x)) → (∃ rk, SR I w cm rk) →
    ∃ came' cm', (∀ x, x < 8 → came' x = cI (cm' x)) ∧ (∃ rk, SR I w cm' rk) ∧ (cm' r ≠ 0 ∨ ∀ d, d < I 0 1 → I 5 d ≠ 2 → wskip I w cm' d 1 ∧ wskip I w cm' d 2) ∧ ∀ K, lp (BX12_walksMore_58 (nI r) (nI (I 0 1)) how walked rB rA N K) M (1, came) = K came' := by
  have hR := hi.R
  intro z
  induction z with
  | zero =>
    intro cm came M hz hM hc hs
    cases M with
    | zero => omega
    | succ M =>
      have h8 : cm r ≠ 0 := by
        intro e
        have h1 : 0 < cnb (fun x => decide (cm x = 0)) 8 := (cnb_pos 8).mpr (by
          have := first_lt (p := fun x => decide (cm x = 0)) (n := 8) (k := r) (by omega) (decide_eq_true e)
          omega)
        unfold zc at hz
        omega
      obtain ⟨rk, hS⟩ := hs
      refine ⟨came, cm, hc, ⟨rk, hS⟩, Or.inl h8, fun K => ?_⟩
      show BX12_walksMore_58 _ _ _ _ _ _ _ _ _ _ = _
      have h11 := (hS.1 r (by omega)).1
      simp (disch := omega) only [BX12_walksMore_58, un2, i10, if_false, gd_nI, nI_clamp, hc r (show r < 8 by omega)]
      rw [if_neg (fun e => h8 ((cI_m1 (by omega)).mp e))]
  | succ z ih =>
    intro cm came M hz hM hc hs
    cases M with
    | zero => omega
    | succ M =>
      have hs' := hs
      obtain ⟨rk, hS⟩ := hs
      have h11 := (hS.1 r (by omega)).1
      by_cases h8 : cm r = 0
      · obtain ⟨zz, ⟨q, cm2, e1, e2, e3⟩, e4⟩ := sweep_ok (N := N) hN hi hW hw2 HA HB hh hc hs'
        obtain ⟨s1, s2, s3, s4⟩ := e3
        have pre : ∀ K, lp (BX12_walksMore_58 (nI r) (nI (I 0 1)) how walked rB rA N K) (M + 1) (1, came) = lp (BX12_walksMore_58 (nI r) (nI (I 0 1)) how walked rB rA N K) M (nI q, zz.2) := by
          intro K
          show BX12_walksMore_58 _ _ _ _ _ _ _ _ _ _ = _
          simp (disch := omega) only [BX12_walksMore_58, un2, i10, if_false, gd_nI, nI_clamp, hc r (show r < 8 by omega)]
          rw [if_pos ((cI_m1 (by omega)).mpr h8), e4]
          dsimp only [un2]
          rw [e1]
        rcases Nat.lt_or_ge q 1 with c | c
        · have q0 : q = 0 := by omega
          obtain ⟨t1, t2⟩ := s3 q0
          refine ⟨zz.2, cm2, e2, s1, Or.inr (by rw [t1]; exact t2), fun K => ?_⟩
          rw [pre, q0]
          cases M with
          | zero => omega
          | succ M =>
            show BX12_walksMore_58 _ _ _ _ _ _ _ _ _ _ = _
            simp only [BX12_walksMore_58, un2]
            rw [if_pos (show nI 0 = 0 from rfl)]
        · have q1 : q = 1 := by omega
          have hlt := s4 q1
          obtain ⟨came', cm', a1, a2, a3, a4⟩ := ih cm2 zz.2 M (by omega) (by omega) e2 s1
          refine ⟨came', cm', a1, a2, a3, fun K => ?_⟩
          rw [pre, q1]
          exact a4 K
      · refine ⟨came, cm, hc, hs', Or.inl h8, fun K => ?_⟩
        show BX12_walksMore_58 _ _ _ _ _ _ _ _ _ _ = _
        simp (disch := omega) only [BX12_walksMore_58, un2, i10, if_false, gd_nI, nI_clamp, hc r (show r < 8 by omega)]
        rw [if_neg (fun e => h8 ((cI_m1 (by omega)).mp e))]
