/-- the matrix before the ways are shortened -/
def em (o t : Nat → Nat) (lk : Nat → Bool) : Nat → Nat → Nat → Nat
  | 0 => fun x y => if x = y then 0 else 99
  | k + 1 => if lk k = true then em o t lk k else setM (setM (em o t lk k) (o k) (t k) 1) (t k) (o k) 1
theorem em_cases {o t : Nat → Nat} {lk : Nat → Bool} {D x y : Nat} : ∀ k, k ≤ D → (em o t lk k x y = 1 ∧ adjD D o t lk x y) ∨ em o t lk k x y = (if x = y then 0 else 99)
  | 0, _ => Or.inr rfl
  | k + 1, hk => by
    have ih := em_cases (o := o) (t := t) (lk := lk) (D := D) (x := x) (y := y) k (by omega)
    unfold em
    by_cases hl : lk k = true
    · rw [if_pos hl]; exact ih
    · rw [if_neg hl]
      have hl' : lk k = false := by simpa using hl
      unfold setM
      by_cases c1 : x = t k ∧ y = o k
      · rw [if_pos c1]
        exact Or.inl ⟨rfl, k, by omega, hl', Or.inr ⟨c1.2.symm, c1.1.symm⟩⟩
      · rw [if_neg c1]
        by_cases c2 : x = o k ∧ y = t k
        · rw [if_pos c2]
          exact Or.inl ⟨rfl, k, by omega, hl', Or.inl ⟨c2.1.symm, c2.2.symm⟩⟩
        · rw [if_neg c2]; exact ih
theorem em_adj {o t : Nat → Nat} {lk : Nat → Bool} {x y : Nat} : ∀ k, adjD k o t lk x y → em o t lk k x y = 1
  | 0, ⟨d, h, _⟩ => absurd h (Nat.not_lt_zero d)
  | k + 1, ⟨d, h1, h2, h3⟩ => by
    unfold em
    by_cases hl : lk k = true
    · rw [if_pos hl]
      rcases Nat.lt_succ_iff_lt_or_eq.mp h1 with g | g
      · exact em_adj k ⟨d, g, h2, h3⟩
      · rw [g, hl] at h2; cases h2
    · rw [if_neg hl]
      unfold setM
      by_cases c1 : x = t k ∧ y = o k
      · rw [if_pos c1]
      · rw [if_neg c1]
        by_cases c2 : x = o k ∧ y = t k
        · rw [if_pos c2]
        · rw [if_neg c2]
          rcases Nat.lt_succ_iff_lt_or_eq.mp h1 with g | g
          · exact em_adj k ⟨d, g, h2, h3⟩
          · subst g
            rcases h3 with ⟨rfl, rfl⟩ | ⟨rfl, rfl⟩
            · exact absurd ⟨rfl, rfl⟩ c2
            · exact absurd ⟨rfl, rfl⟩ c1
/-- the first k rooms looked at as 'via' -/
def fwm (M : Nat → Nat → Nat) : Nat → Nat → Nat → Nat
  | 0 => M
  | k + 1 => ph k (fwm M k)
theorem em_FW {o t : Nat → Nat} {lk : Nat → Bool} {D R : Nat} (hne : ∀ k, k < D → o k ≠ t k) : FW (adjD D o t lk) R 0 (em o t lk D) := by
  have irr : ∀ x, ¬ adjD D o t lk x x := by
    intro x ⟨d, h1, _, h3⟩
    have := hne d h1
    rcases h3 with ⟨h, h'⟩ | ⟨h, h'⟩ <;> exact this (h.trans h'.symm)
  refine ⟨fun a b _ _ => ?_, fun a _ => ?_, fun a b _ _ hlt => ?_, fun a b h => ?_, fun c hc => absurd hc (Nat.not_lt_zero c)⟩
  · rcases em_cases (o := o) (t := t) (lk := lk) (x := a) (y := b) D (Nat.le_refl D) with ⟨e, _⟩ | e
    · omega
    · rw [e]; split <;> omega
  · rcases em_cases (o := o) (t := t) (lk := lk) (x := a) (y := a) D (Nat.le_refl D) with ⟨_, e⟩ | e
    · exact absurd e (irr a)
    · rw [e, if_pos rfl]
  · rcases em_cases (o := o) (t := t) (lk := lk) (x := a) (y := b) D (Nat.le_refl D) with ⟨e, h⟩ | e
    · rw [e]; exact ⟨a, rfl, h⟩
    · rw [e] at hlt ⊢
      by_cases hab : a = b
      · rw [if_pos hab]; exact hab
      · rw [if_neg hab] at hlt; omega
  · rw [em_adj D h]; exact Nat.le_refl 1
theorem fwm_FW {adj : Nat → Nat → Prop} {R : Nat} {M : Nat → Nat → Nat} (h : FW adj R 0 M) : ∀ k, k ≤ R → FW adj R k (fwm M k)
  | 0, _ => h
  | k + 1, hk => FW_step (fwm_FW h k (by omega)) (by omega)
theorem fwm_isD {o t : Nat → Nat} {lk : Nat → Bool} {D R : Nat} (hne : ∀ k, k < D → o k ≠ t k) (ho : ∀ k, k < D → o k < R ∧ t k < R) {a b : Nat} (ha : a < R) (hb : b < R) : isD (adjD D o t lk) a b (fwm (em o t lk D) R a b) :=
  FW_end (adjD_in ho) (fwm_FW (em_FW hne) R (Nat.le_refl R)) ha hb
/-- rows up to i shortened by 'via' -/
def rwK (via : Nat) (M : Nat → Nat → Nat) (i : Nat) : Nat → Nat → Nat := fun x y => if x < i then ph via M x y else M x y
theorem measure_ok {N D R : Nat} {o t : Nat → Nat} {lk : Nat → Bool} {h1 h2 st : Nat → Int32} {p1 : Int32} (hN : 64 < N) (hD : D ≤ 10) (hR : R ≤ 8) (hA : ∀ k, k < D → h1 k = nI (o k)) (hB : ∀ k, k < D → h2 k = nI (t k)) (ho : ∀ k, k < D → o k < R ∧ t k < R) (hne : ∀ k, k < D → o k ≠ t k) (hh : ∀ k, k < D → fX10_isBitSet N p1.toInt64 (nI k) = some (if lk k = true then 1 else 0)) :
    ∃ g, fX8_measure N p1 (nI R) (nI D) st h1 h2 = some (nI R, mf R (fwm (em o t lk D) R) g) := by
  refine ⟨fa_fill (fun _ => 99) st 64, ?_⟩
  unfold fX8_measure
  rw [fill64_ok hN, bd_some]
  simp only [un1]
  have a0 : ∀ K : (Nat → Int32) → Option (Int32 × (Nat → Int32)), lp (BX8_measure_19 (nI R) K) N (0, fa_fill (fun _ => 99) st 64) = K (mf R (em o t lk 0) (fa_fill (fun _ => 99) st 64)) := by
    intro K
    generalize hg : fa_fill (fun _ => (99 : Int32)) st 64 = g
    have gz : ∀ i, i < 64 → g i = nI 99 := fun i hi => by rw [← hg]; exact fa_fill_in hi
    have e0 : g = mf R (fun x y => if x = y ∧ x < 0 then 0 else 99) g := by
      funext i
      unfold mf
      by_cases c : i / 8 < R ∧ i % 8 < R
      · rw [if_pos c, gz i (by omega)]
        show nI 99 = nI (if i / 8 = i % 8 ∧ i / 8 < 0 then 0 else 99)
        rw [if_neg (by omega)]
      · rw [if_neg c]
    have eR : mf R (em o t lk 0) g = mf R (fun x y => if x = y ∧ x < R then 0 else 99) g := mf_congr fun x y hx hy => by
      unfold em
      by_cases c : x = y
      · rw [if_pos c, if_pos ⟨c, hx⟩]
      · rw [if_neg c, if_neg (fun h => c h.1)]
    rw [eR]
    have key := lp_for (B := BX8_measure_19 (nI R) K) (fun k => (nI k, mf R (fun x y => if x = y ∧ x < k then 0 else 99) g)) (r := K (mf R (fun x y => if x = y ∧ x < R then 0 else 99) g)) R N (by omega) (fun k hk rec => ?_) (fun rec => ?_)
    · have key2 : lp (BX8_measure_19 (nI R) K) N (nI 0, mf R (fun x y => if x = y ∧ x < 0 then 0 else 99) g) = K (mf R (fun x y => if x = y ∧ x < R then 0 else 99) g) := key
      rw [← e0] at key2
      exact key2
    · have h3 : ¬ R ≤ k := by omega
      simp (disch := omega) only [BX8_measure_19, un2, nI_leI, h3, if_false, il, pk_mul, nI_add, gd_nI, nI_clamp, mf_upd hk hk hR]
      refine congrArg rec (congrArg (fun q => (nI (k + 1), q)) (mf_congr fun x y hx hy => ?_))
      show (if x = k ∧ y = k then 0 else if x = y ∧ x < k then 0 else 99) = (if x = y ∧ x < k + 1 then 0 else 99)
      by_cases c : x = k ∧ y = k
      · rw [if_pos c, if_pos (by omega)]
      · rw [if_neg c]
        by_cases c2 : x = y ∧ x < k
        · rw [if_pos c2, if_pos (by omega)]
        · rw [if_neg c2, if_neg (by omega)]
    · simp (disch := omega) only [BX8_measure_19, un2, nI_leI, Nat.le_refl, if_true]
  rw [a0]
  simp only [un1]
  generalize fa_fill (fun _ => (99 : Int32)) st 64 = g
  have a1 : ∀ K : (Nat → Int32) → Option (Int32 × (Nat → Int32)), lp (BX8_measure_47 (nI D) N p1 h1 h2 K) N (0, mf R (em o t lk 0) g) = K (mf R (em o t lk D) g) := by
    intro K
    refine lp_for (fun k => (nI k, mf R (em o t lk k) g)) D N (by omega) (fun k hk rec => ?_) (fun rec => ?_)
    · have h3 : ¬ D ≤ k := by omega
      have hoK := ho k hk
      show _ = rec (nI (k + 1), mf R (if lk k = true then em o t lk k else setM (setM (em o t lk k) (o k) (t k) 1) (t k) (o k) 1) g)
      by_cases hl : lk k = true
      · have hh0 : fX10_isBitSet N p1.toInt64 (nI k) = some (nI 1) := by rw [hh k hk, if_pos hl]; rfl
        rw [if_pos hl]
        simp (disch := omega) only [BX8_measure_47, un2, un1, nI_leI, h3, if_false, hh0, bd_some, jn, il, nI_eq, nI_add]
        rw [if_neg (by omega)]
      · have hh0 : fX10_isBitSet N p1.toInt64 (nI k) = some (nI 0) := by rw [hh k hk, if_neg hl]; rfl
        rw [if_neg hl]
        simp (disch := omega) only [BX8_measure_47, un2, un1, nI_leI, h3, if_false, hh0, bd_some, jn, il, nI_eq, nI_add, if_true, hA k hk, hB k hk, nI_clamp, pk_mul, gd_nI, mf_upd hoK.1 hoK.2 hR, mf_upd hoK.2 hoK.1 hR]
    · simp (disch := omega) only [BX8_measure_47, un2, nI_leI, Nat.le_refl, if_true]
  rw [a1]
  simp only [un1]
  have hFW := em_FW (o := o) (t := t) (lk := lk) (D := D) (R := R) hne
  refine lp_for (fun v => (nI v, mf R (fwm (em o t lk D) v) g)) R N (by omega) (fun v hv rec => ?_) (fun rec => ?_)
  · have h3 : ¬ R ≤ v := by omega
    obtain ⟨f1, f2, -, -, -⟩ := fwm_FW hFW v (by omega)
    simp (disch := omega) only [BX8_measure_116, un2, nI_leI, h3, if_false]
    have e0 : mf R (fwm (em o t lk D) v) g = mf R (rwK v (fwm (em o t lk D) v) 0) g := mf_congr fun x y _ _ => (if_neg (by omega)).symm
    rw [e0]
    refine lp_for (fun i => (nI i, mf R (rwK v (fwm (em o t lk D) v) i) g)) R N (by omega) (fun i hi rec2 => ?_) (fun rec2 => ?_)
    · have h4 : ¬ R ≤ i := by omega
      have vv : fwm (em o t lk D) v v v = 0 := f2 v hv
      have pv : ∀ y, ph v (fwm (em o t lk D) v) v y = fwm (em o t lk D) v v y := fun y => by unfold ph; omega
      have pc : ∀ x, ph v (fwm (em o t lk D) v) x v = fwm (em o t lk D) v x v := fun x => by unfold ph; omega
      have rv : ∀ y, rwK v (fwm (em o t lk D) v) i v y = fwm (em o t lk D) v v y := fun y => by
        unfold rwK
        by_cases c : v < i
        · rw [if_pos c, pv]
        · rw [if_neg c]
      simp (disch := omega) only [BX8_measure_127, un2, un1, nI_leI, h4, if_false]
      rw [shorten_ok (by omega) hR hi hv (fun x y hx hy => ?_) (by rw [rv]; exact vv), bd_some]
      · simp (disch := omega) only [un1, il, nI_add]
        refine congrArg rec2 (congrArg (fun q => (nI (i + 1), q)) (mf_congr fun x y hx hy => ?_))
        by_cases c : x = i
        · subst c
          rw [shK_in ⟨rfl, hy⟩]
          unfold ph
          rw [rv, show rwK v (fwm (em o t lk D) v) x x y = fwm (em o t lk D) v x y from if_neg (by omega), show rwK v (fwm (em o t lk D) v) x x v = fwm (em o t lk D) v x v from if_neg (by omega)]
          show _ = (if x < x + 1 then ph v (fwm (em o t lk D) v) x y else _)
          rw [if_pos (by omega)]
          rfl
        · rw [shK_out (by omega)]
          unfold rwK
          by_cases c2 : x < i
          · rw [if_pos c2, if_pos (by omega)]
          · rw [if_neg c2, if_neg (by omega)]
      · have b1 := f1 x y hx hy
        unfold rwK ph
        split <;> omega
    · simp (disch := omega) only [BX8_measure_127, un2, un1, nI_leI, Nat.le_refl, if_true, il, nI_add]
      refine congrArg rec (congrArg (fun q => (nI (v + 1), q)) (mf_congr fun x y hx hy => ?_))
      exact if_pos hx
  · simp (disch := omega) only [BX8_measure_116, un2, nI_leI, Nat.le_refl, if_true]
