/-! casts that are alike (class) -/
theorem lp_findS {σ ρ : Type} {B : (σ → Option ρ) → σ → Option ρ} (st : Nat → σ) {p : Nat → Bool} {D N : Nat} {e : Option ρ} {f : Nat → Option ρ} (hN : D < N) (h1 : ∀ i, i < D → ∀ rec, B rec (st i) = if p i = true then f i else rec (st (i + 1))) (h2 : ∀ rec, B rec (st D) = e) : lp B N (st 0) = if fa_first p D < D then f (fa_first p D) else e := by
  have hle := fa_first_le p D
  refine lp_to st (fa_first p D) (fun rec => ?_) (fa_first p D) 0 N (by omega) (by omega) (fun j _ hj rec => ?_)
  · by_cases c : fa_first p D < D
    · rw [if_pos c, h1 _ c, if_pos (fa_first_yes p D c)]
    · rw [if_neg c]
      have : fa_first p D = D := by omega
      rw [this]
      exact h2 rec
  · have hp := fa_first_no p D j hj
    rw [h1 j (by omega), hp]
    rfl
def alk (I : Tb) (st : Nat) (F : Nat → Nat) (k j : Nat) : Bool := decide (sameM I (mrn I st (F k)) (mrn I st (F j)))
theorem alk_sym (I : Tb) (st : Nat) (F : Nat → Nat) (k j : Nat) : alk I st F k j = alk I st F j k := decide_eq_decide.mpr ⟨fun h => h.symm, fun h => h.symm⟩
def mx (f : Nat → Nat) : Nat → Nat
  | 0 => 0
  | k + 1 => if mx f k < f k then f k else mx f k
theorem mx_le {f : Nat → Nat} {b : Nat} (h : ∀ i, f i ≤ b) : ∀ k, mx f k ≤ b
  | 0 => Nat.zero_le b
  | k + 1 => by
    unfold mx
    split
    · exact h k
    · exact mx_le h k
def mAf (I : Tb) (st st2 : Nat) (F : Nat → Nat) (K k : Nat) : Nat := cnb (fun j => alk I st F k j && alk I st2 F k j) K
def mA (I : Tb) (st st2 : Nat) (F : Nat → Nat) (K : Nat) : Nat := mx (mAf I st st2 F K) K
theorem mAf_le (I : Tb) (st st2 : Nat) (F : Nat → Nat) (K k : Nat) : mAf I st st2 F K k ≤ K := cnb_le K
theorem mA_le (I : Tb) (st st2 : Nat) (F : Nat → Nat) (K : Nat) : mA I st st2 F K ≤ K := mx_le (mAf_le I st st2 F K) K
/-- fit holds F below K -/
def FIT (I : Tb) (F : Nat → Nat) (K : Nat) (fit : Nat → Int32) : Prop := K ≤ 64 ∧ ∀ i, i < K → fit i = nI (F i) ∧ F i < cnm I
theorem FLT.fit {I Q : Tb} {b : Nat} {fit : Nat → Int32} (hi : ib I) (h : FLT (fitB I Q b) (cnm I) fit) : FIT I (fF I Q b) (fK I Q b) fit := by
  have hcl := cnm_le hi
  have := cnb_le (p := fitB I Q b) (cnm I)
  exact ⟨by show cnb _ _ ≤ 64; omega, fun i hi2 => ⟨h i hi2, flt_lt _ i hi2⟩⟩
theorem c_same {N i j st K : Nat} {I : Tb} {F : Nat → Nat} {fit kin : Nat → Int32} (hi : ib I) (hst : st < 21) (hF : FIT I F K fit) (hk : KIN I st (cnm I) kin) (h1 : i < K) (h2 : j < K) : fX0_areSame N (nI i) (nI j) (nI st) fit kin = some (bI (alk I st F i j)) := by
  have hcl := cnm_le hi
  have hK := hF.1
  obtain ⟨a1, a2⟩ := hF.2 i h1
  obtain ⟨b1, b2⟩ := hF.2 j h2
  have l1 := kn_le I st (F i)
  have l2 := kn_le I st (F j)
  have e64 : (nI st * 64 : Int32) = nI (64 * st) := by rw [show (64 : Int32) = nI 64 from rfl, pk_mul, Nat.mul_comm]
  unfold fX0_areSame
  simp (disch := omega) only [gd_nI, nI_clamp, a1, b1, e64, nI_add, hk _ a2, hk _ b2]
  rw [if_bI]
  congr 2
  exact decide_eq_decide.mpr ((nI_eq (by omega) (by omega)).trans kn_eq)
theorem c_most_in {N st st2 K i : Nat} {I : Tb} {F : Nat → Nat} {fit kin : Nat → Int32} (hN : 64 < N) (hi : ib I) (hst : st < 21) (hst2 : st2 < 21) (hF : FIT I F K fit) (hk : KIN I st (cnm I) kin) (hk2 : KIN I st2 (cnm I) kin) (h1 : i < K) (Kt : Int32 → Option Int32) : lp (BX0_mostAlike_20 (nI K) N (nI i) (nI st) fit kin (nI st2) Kt) N (0, 0) = Kt (nI (mAf I st st2 F K i)) := by
  have hK := hF.1
  unfold mAf
  refine lp_for (fun j => (nI (cnb (fun j => alk I st F i j && alk I st2 F i j) j), nI j)) K N (by omega) (fun j hj rec => ?_) (fun rec => ?_)
  · have h3 : ¬ K ≤ j := by omega
    have s1 := c_same (N := N) hi hst hF hk h1 hj
    have s2 := c_same (N := N) hi hst2 hF hk2 h1 hj
    simp (disch := omega) only [BX0_mostAlike_20, un2, nI_leI, h3, if_false, s1, s2, bd_some, un1, jn, nI_1]
    show _ = rec (nI (cnb _ j + if (alk I st F i j && alk I st2 F i j) = true then 1 else 0), nI (j + 1))
    cases alk I st F i j
    · simp [bI]
    · cases alk I st2 F i j
      · simp [bI]
      · simp [bI]
  · simp (disch := omega) only [BX0_mostAlike_20, un2, nI_leI, Nat.le_refl, if_true]
theorem c_most {N st st2 K : Nat} {I : Tb} {F : Nat → Nat} {fit kin : Nat → Int32} (hN : 64 < N) (hi : ib I) (hst : st < 21) (hst2 : st2 < 21) (hF : FIT I F K fit) (hk : KIN I st (cnm I) kin) (hk2 : KIN I st2 (cnm I) kin) : fX0_mostAlike N (nI st) (nI st2) (nI K) fit kin = some (nI (mA I st st2 F K)) := by
  have hK := hF.1
  unfold fX0_mostAlike mA
  refine lp_for (fun j => (nI (mx (mAf I st st2 F K) j), nI j)) K N (by omega) (fun j hj rec => ?_) (fun rec => ?_)
  · have h3 : ¬ K ≤ j := by omega
    have l1 := mx_le (mAf_le I st st2 F K) j
    have l2 := mAf_le I st st2 F K j
    simp (disch := omega) only [BX0_mostAlike_5, un2, nI_leI, h3, if_false]
    rw [c_most_in hN hi hst hst2 hF hk hk2 hj]
    dsimp only [un1]
    rw [nI_1]
    show _ = rec (nI (if mx (mAf I st st2 F K) j < mAf I st st2 F K j then mAf I st st2 F K j else mx (mAf I st st2 F K) j), nI (j + 1))
    by_cases c : mx (mAf I st st2 F K) j < mAf I st st2 F K j
    · rw [if_pos c, if_pos ((nI_ltI (by omega) (by omega)).mpr c)]
    · rw [if_neg c, if_neg (fun q => c ((nI_ltI (by omega) (by omega)).mp q))]
  · simp (disch := omega) only [BX0_mostAlike_5, un2, nI_leI, Nat.le_refl, if_true]
/-- the first of the numbers to k that has the least f -/
def bs (f : Nat → Nat) : Nat → Nat
  | 0 => 0
  | k + 1 => if f (k + 1) < f (bs f k) then k + 1 else bs f k
theorem bs_le (f : Nat → Nat) : ∀ k, bs f k ≤ k
  | 0 => Nat.le_refl 0
  | k + 1 => by
    unfold bs
    have := bs_le f k
    split <;> omega
theorem c_best {N K : Nat} {I : Tb} {F : Nat → Nat} {fit kin : Nat → Int32} (hN : 64 < N) (hi : ib I) (hF : FIT I F K fit) (hk : ∀ st, st < 1 + 2 * I 0 1 → KIN I st (cnm I) kin) : fX0_bestSetting N (nI K) fit kin (nI (I 0 1)) = some (nI (bs (fun s => mA I s s F K) (2 * I 0 1))) := by
  have hK := hF.1
  have hD := hi.D
  have hset : fX2_settings N (nI (I 0 1)) = some (nI (1 + 2 * I 0 1)) := by
    unfold fX2_settings
    rw [show (2 : Int32) = nI 2 from rfl, pk_mul]
    exact congrArg some (nI_add 1 _)
  unfold fX0_bestSetting
  have c0 := c_most (N := N) hN hi (show 0 < 21 by omega) (show 0 < 21 by omega) hF (hk 0 (by omega)) (hk 0 (by omega))
  rw [show (0 : Int32) = nI 0 from rfl, c0, bd_some]
  dsimp only [un1]
  refine lp_for (fun j => (nI (bs (fun s => mA I s s F K) j), nI (mA I (bs (fun s => mA I s s F K) j) (bs (fun s => mA I s s F K) j) F K), nI (1 + j))) (2 * I 0 1) N (by omega) (fun j hj rec => ?_) (fun rec => ?_)
  · have h3 : ¬ 1 + 2 * I 0 1 ≤ 1 + j := by omega
    have cj := c_most (N := N) hN hi (show 1 + j < 21 by omega) (show 1 + j < 21 by omega) hF (hk (1 + j) (by omega)) (hk (1 + j) (by omega))
    have l1 := mA_le I (1 + j) (1 + j) F K
    have l2 := mA_le I (bs (fun s => mA I s s F K) j) (bs (fun s => mA I s s F K) j) F K
    simp (disch := omega) only [BX0_bestSetting_11, un3, hset, bd_some, un1, nI_leI, h3, if_false, cj, jn, un2, nI_1]
    have eb : bs (fun s => mA I s s F K) (j + 1) = if mA I (j + 1) (j + 1) F K < mA I (bs (fun s => mA I s s F K) j) (bs (fun s => mA I s s F K) j) F K then j + 1 else bs (fun s => mA I s s F K) j := rfl
    rw [show 1 + j = j + 1 by omega] at *
    rw [show 1 + (j + 1) = j + 1 + 1 by omega]
    by_cases c : mA I (j + 1) (j + 1) F K < mA I (bs (fun s => mA I s s F K) j) (bs (fun s => mA I s s F K) j) F K
    · rw [if_pos c] at eb
      rw [if_neg (by omega), eb]
    · rw [if_neg c] at eb
      rw [if_pos (by omega), eb]
  · simp (disch := omega) only [BX0_bestSetting_11, un3, hset, bd_some, un1, nI_leI, Nat.le_refl, if_true]
def alA (I : Tb) (F : Nat → Nat) (i j : Nat) : Bool := okN (fun s => !alk I s F i j) (1 + 2 * I 0 1)
theorem okN_congr {p q : Nat → Bool} : ∀ k, (∀ i, i < k → p i = q i) → okN p k = okN q k
  | 0, _ => rfl
  | k + 1, h => by
    show (okN p k && !p k) = (okN q k && !q k)
    rw [okN_congr k (fun i hi => h i (by omega)), h k (by omega)]
theorem alA_sym (I : Tb) (F : Nat → Nat) (i j : Nat) : alA I F i j = alA I F j i := okN_congr _ (fun s _ => by rw [alk_sym])
theorem c_alike {N K i j : Nat} {I : Tb} {F : Nat → Nat} {fit kin : Nat → Int32} (hN : 64 < N) (hi : ib I) (hF : FIT I F K fit) (hk : ∀ st, st < 1 + 2 * I 0 1 → KIN I st (cnm I) kin) (h1 : i < K) (h2 : j < K) : fX0_areAlike N (nI i) (nI j) (nI (I 0 1)) fit kin = some (bI (alA I F i j)) := by
  have hD := hi.D
  have hset : fX2_settings N (nI (I 0 1)) = some (nI (1 + 2 * I 0 1)) := by
    unfold fX2_settings
    rw [show (2 : Int32) = nI 2 from rfl, pk_mul]
    exact congrArg some (nI_add 1 _)
  unfold fX0_areAlike
  have h := lp_find (B := BX0_areAlike_2 N (nI (I 0 1)) (nI i) (nI j) fit kin) (p := fun s => !alk I s F i j) (D := 1 + 2 * I 0 1) (N := N) (e := some 1) (f := fun _ => some 0) (by omega) (fun s hs rec => ?_) (fun rec => ?_)
  · rw [show (0 : Int32) = nI 0 from rfl, h]
    unfold alA
    by_cases q : fa_first (fun s => !alk I s F i j) (1 + 2 * I 0 1) < 1 + 2 * I 0 1
    · rw [if_pos q, Bool.eq_false_iff.mpr (fun e => (okN_first _ _).mp e q)]
      rfl
    · rw [if_neg q, (okN_first _ _).mpr q]
      rfl
  · have h3 : ¬ 1 + 2 * I 0 1 ≤ s := by omega
    have cs := c_same (N := N) hi (show s < 21 by omega) hF (hk s hs) h1 h2
    simp (disch := omega) only [BX0_areAlike_2, un1, hset, bd_some, nI_leI, h3, if_false, cs, nI_1]
    cases alk I s F i j
    · simp [bI]
    · simp [bI]
  · simp (disch := omega) only [BX0_areAlike_2, un1, hset, bd_some, nI_leI, Nat.le_refl, if_true]
def smf (f : Nat → Nat) : Nat → Nat
  | 0 => 0
  | k + 1 => smf f k + f k
theorem smf_congr {f g : Nat → Nat} : ∀ k, (∀ i, i < k → f i = g i) → smf f k = smf g k
  | 0, _ => rfl
  | k + 1, h => by
    show smf f k + f k = smf g k + g k
    rw [smf_congr k (fun i hi => h i (by omega)), h k (by omega)]
theorem smf_add (f g : Nat → Nat) : ∀ k, smf (fun i => f i + g i) k = smf f k + smf g k
  | 0 => rfl
  | k + 1 => by
    show smf (fun i => f i + g i) k + (f k + g k) = smf f k + f k + (smf g k + g k)
    rw [smf_add f g k]
    omega
theorem smf_cnb (p : Nat → Bool) : ∀ k, smf (fun i => if p i = true then 1 else 0) k = cnb p k
  | 0 => rfl
  | k + 1 => by
    show smf (fun i => if p i = true then 1 else 0) k + _ = cnb p k + _
    rw [smf_cnb p k]
theorem cnb_zero {p : Nat → Bool} : ∀ k, (∀ i, i < k → p i = false) → cnb p k = 0
  | 0, _ => rfl
  | k + 1, h => by
    show cnb p k + (if p k = true then 1 else 0) = 0
    rw [cnb_zero k (fun i hi => h i (by omega)), h k (by omega)]
    rfl
theorem cnb_congr {p q : Nat → Bool} : ∀ k, (∀ i, i < k → p i = q i) → cnb p k = cnb q k
  | 0, _ => rfl
  | k + 1, h => by
    show cnb p k + _ = cnb q k + _
    rw [cnb_congr k (fun i hi => h i (by omega)), h k (by omega)]
/-- the pairs, counted from the lower and from the higher -/
def pup (A : Nat → Nat → Bool) (K : Nat) : Nat → Nat := smf (fun i => cnb (fun l => decide (i < l) && A i l) K)
def plo (A : Nat → Nat → Bool) : Nat → Nat := smf (fun i => cnb (A i) i)
theorem pup_plo {A : Nat → Nat → Bool} (hs : ∀ i j, A i j = A j i) : ∀ K, pup A K K = plo A K
  | 0 => rfl
  | K + 1 => by
    have ih := pup_plo hs K
    unfold pup plo at *
    have e : smf (fun i => cnb (fun l => decide (i < l) && A i l) (K + 1)) (K + 1) = smf (fun i => cnb (fun l => decide (i < l) && A i l) K + (if (decide (i < K) && A i K) = true then 1 else 0)) (K + 1) := rfl
    rw [e, smf_add]
    show smf (fun i => cnb (fun l => decide (i < l) && A i l) K) K + cnb (fun l => decide (K < l) && A K l) K + (smf (fun i => if (decide (i < K) && A i K) = true then 1 else 0) K + if (decide (K < K) && A K K) = true then 1 else 0) = smf (fun i => cnb (A i) i) K + cnb (A K) K
    rw [ih, cnb_zero (p := fun l => decide (K < l) && A K l) K (fun i hi => by rw [decide_eq_false (by omega)]; rfl), smf_cnb (fun i => decide (i < K) && A i K) K, cnb_congr (p := fun i => decide (i < K) && A i K) (q := A K) K (fun i hi => by rw [decide_eq_true hi, Bool.true_and, hs]), if_neg (by rw [decide_eq_false (Nat.lt_irrefl K)]; exact fun h => by cases h)]
    omega
theorem plo_le (A : Nat → Nat → Bool) : ∀ K, plo A K ≤ K * K
  | 0 => Nat.le_refl 0
  | K + 1 => by
    have ih := plo_le A K
    show plo A K + cnb (A K) K ≤ _
    have := cnb_le (p := A K) K
    rw [Nat.add_mul, Nat.mul_add]
    omega
theorem pup_mono (A : Nat → Nat → Bool) (K : Nat) : ∀ k, pup A K k ≤ K * k
  | 0 => Nat.zero_le _
  | k + 1 => by
    have ih := pup_mono A K k
    show pup A K k + cnb _ K ≤ _
    have := cnb_le (p := fun l => decide (k < l) && A k l) K
    rw [Nat.mul_add]
    omega
theorem c_pairs {N K : Nat} {I : Tb} {F : Nat → Nat} {fit kin : Nat → Int32} (hN : 64 < N) (hi : ib I) (hF : FIT I F K fit) (hk : ∀ st, st < 1 + 2 * I 0 1 → KIN I st (cnm I) kin) : fX0_alikePairs N (nI K) (nI (I 0 1)) fit kin = some (nI (pup (alA I F) K K)) := by
  have hK := hF.1
  unfold fX0_alikePairs
  refine lp_for (fun j => (nI (pup (alA I F) K j), nI j)) K N (by omega) (fun i hi2 rec => ?_) (fun rec => ?_)
  · have h3 : ¬ K ≤ i := by omega
    simp (disch := omega) only [BX0_alikePairs_4, un2, nI_leI, h3, if_false, nI_1]
    have hin : ∀ Kt : Int32 → Option Int32, lp (BX0_alikePairs_16 (nI K) N (nI i) (nI (I 0 1)) fit kin Kt) N (nI (pup (alA I F) K i), nI (i + 1)) = Kt (nI (pup (alA I F) K (i + 1))) := by
      intro Kt
      have h := lp_for (B := BX0_alikePairs_16 (nI K) N (nI i) (nI (I 0 1)) fit kin Kt) (r := Kt (nI (pup (alA I F) K (i + 1)))) (fun j => (nI (pup (alA I F) K i + cnb (fun l => decide (i < l) && alA I F i l) (i + 1 + j)), nI (i + 1 + j))) (K - (i + 1)) N (by omega) (fun j hj rec => ?_) (fun rec => ?_)
      · rw [Nat.add_zero, cnb_zero (p := fun l => decide (i < l) && alA I F i l) (i + 1) (fun l hl => by rw [decide_eq_false (by omega)]; rfl), Nat.add_zero] at h
        exact h
      · have h4 : ¬ K ≤ i + 1 + j := by omega
        have ca := c_alike (N := N) hN hi hF hk hi2 (show i + 1 + j < K by omega)
        simp (disch := omega) only [BX0_alikePairs_16, un2, nI_leI, h4, if_false, ca, bd_some, un1, jn, nI_1]
        have ec : cnb (fun l => decide (i < l) && alA I F i l) (i + 1 + (j + 1)) = cnb (fun l => decide (i < l) && alA I F i l) (i + 1 + j) + if alA I F i (i + 1 + j) = true then 1 else 0 := by
          show cnb _ (i + 1 + j) + (if (decide (i < i + 1 + j) && alA I F i (i + 1 + j)) = true then 1 else 0) = _
          rw [decide_eq_true (by omega), Bool.true_and]
        rw [ec, show i + 1 + (j + 1) = i + 1 + j + 1 by omega]
        cases alA I F i (i + 1 + j)
        · simp [bI]
        · simp [bI, Nat.add_assoc]
      · have h4 : K ≤ i + 1 + (K - (i + 1)) := by omega
        simp (disch := omega) only [BX0_alikePairs_16, un2, nI_leI, h4, if_true]
        rw [show i + 1 + (K - (i + 1)) = K by omega]
        rfl
    rw [hin]
    dsimp only [un1]
  · simp (disch := omega) only [BX0_alikePairs_4, un2, nI_leI, Nat.le_refl, if_true]
/-- what all of them give a sleeper -/
def cdI (I : Tb) (F : Nat → Nat) (K s : Nat) : Int32 := if fa_first (fun i => decide (dg I (F (1 + i)) s ≠ dg I (F 0) s)) (K - 1) < K - 1 then -2 else nI (dg I (F 0) s)
theorem c_dreamIn {N K i s : Nat} {I : Tb} {F : Nat → Nat} {fit dreams : Nat → Int32} (hi : ib I) (hF : FIT I F K fit) (hd : ∀ c s, c < cnm I → s < I 0 4 → dreams (3 * c + s) = nI (dg I c s)) (h1 : i < K) (hs : s < I 0 4) : fX0_dreamIn N (nI i) (nI s) fit dreams = some (nI (dg I (F i) s)) := by
  have hcl := cnm_le hi
  have hK := hF.1
  have hS := hi.S
  obtain ⟨a1, a2⟩ := hF.2 i h1
  have e3 : (nI (F i) * 3 + nI s : Int32) = nI (3 * F i + s) := by rw [show (3 : Int32) = nI 3 from rfl, pk_mul, nI_add, Nat.mul_comm]
  unfold fX0_dreamIn
  simp (disch := omega) only [gd_nI, nI_clamp, a1, e3, hd _ _ a2 hs]
theorem c_common {N K s : Nat} {I : Tb} {F : Nat → Nat} {fit dreams : Nat → Int32} (hN : 64 < N) (hi : ib I) (hF : FIT I F K fit) (hd : ∀ c s, c < cnm I → s < I 0 4 → dreams (3 * c + s) = nI (dg I c s)) (h1 : 0 < K) (hs : s < I 0 4) : fX0_commonDream N (nI s) (nI K) fit dreams = some (cdI I F K s) := by
  have hK := hF.1
  have hE := hi.E1 (by omega)
  have hE4 := hi.E
  have d0 := c_dreamIn (N := N) hi hF hd h1 hs
  unfold fX0_commonDream
  have h := lp_findS (B := BX0_commonDream_2 (nI K) N (nI s) fit dreams) (fun i => nI (1 + i)) (p := fun i => decide (dg I (F (1 + i)) s ≠ dg I (F 0) s)) (D := K - 1) (N := N) (e := some (nI (dg I (F 0) s))) (f := fun _ => some (-2)) (by omega) (fun i hi2 rec => ?_) (fun rec => ?_)
  · have h2 : lp (BX0_commonDream_2 (nI K) N (nI s) fit dreams) N 1 = _ := h
    rw [h2]
    unfold cdI
    split <;> rfl
  · have h3 : ¬ K ≤ 1 + i := by omega
    have di := c_dreamIn (N := N) hi hF hd (show 1 + i < K by omega) hs
    have q1 := dg_lt hE (F 0) s
    have q2 := dg_lt hE (F (1 + i)) s
    rw [show nI 0 = (0 : Int32) from rfl] at d0
    simp (disch := omega) only [BX0_commonDream_2, un1, nI_leI, h3, if_false, di, d0, bd_some, nI_eq, decide_eq_true_eq, nI_1]
    by_cases c : dg I (F (1 + i)) s = dg I (F 0) s
    · rw [if_pos c, if_neg (fun q => q c), Nat.add_assoc]
    · rw [if_neg c, if_pos c]
  · have h3 : K ≤ 1 + (K - 1) := by omega
    rw [show nI 0 = (0 : Int32) from rfl] at d0
    simp (disch := omega) only [BX0_commonDream_2, un1, nI_leI, h3, if_true, d0, bd_some]
