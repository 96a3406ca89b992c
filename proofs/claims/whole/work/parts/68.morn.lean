/-! mornings, as the class keeps them -/
def mrn (I : Tb) (st c : Nat) : Tb := pas I (nf I st (dg I c)) (I 0 6)
abbrev sameM (I n m : Tb) : Prop := (∀ l, l < I 0 5 → n 10 l = m 10 l) ∧ (∀ t, t < I 0 2 → n 8 t = m 8 t ∧ n 9 t = m 9 t) ∧ (∀ d, d < I 0 1 → n 1 d = m 1 d) ∧ ∀ s, s < I 0 4 → n 5 s = m 5 s ∧ n 7 s = m 7 s
theorem sameM.refl (I n : Tb) : sameM I n n := ⟨fun _ _ => rfl, fun _ _ => ⟨rfl, rfl⟩, fun _ _ => rfl, fun _ _ => ⟨rfl, rfl⟩⟩
theorem sameM.symm {I n m : Tb} (h : sameM I n m) : sameM I m n := ⟨fun l hl => (h.1 l hl).symm, fun t ht => ⟨(h.2.1 t ht).1.symm, (h.2.1 t ht).2.symm⟩, fun d hd => (h.2.2.1 d hd).symm, fun s hs => ⟨(h.2.2.2 s hs).1.symm, (h.2.2.2 s hs).2.symm⟩⟩
theorem sameM.trans {I n m k : Tb} (h : sameM I n m) (g : sameM I m k) : sameM I n k := ⟨fun l hl => (h.1 l hl).trans (g.1 l hl), fun t ht => ⟨(h.2.1 t ht).1.trans (g.2.1 t ht).1, (h.2.1 t ht).2.trans (g.2.1 t ht).2⟩, fun d hd => (h.2.2.1 d hd).trans (g.2.2.1 d hd), fun s hs => ⟨(h.2.2.2 s hs).1.trans (g.2.2.2 s hs).1, (h.2.2.2 s hs).2.trans (g.2.2.2 s hs).2⟩⟩
def eqm (I : Tb) (st c c' : Nat) : Bool := decide (sameM I (mrn I st c) (mrn I st c'))
theorem eqm_iff {I : Tb} {st c c' : Nat} : eqm I st c c' = true ↔ sameM I (mrn I st c) (mrn I st c') := decide_eq_true_iff
/-- digits of w bits -/
def dgs (w : Nat) (v : Nat → Nat) : Nat → Nat
  | 0 => 0
  | k + 1 => dgs w v k + 2 ^ (w * k) * v k
theorem dgs_lt {w : Nat} {v : Nat → Nat} : ∀ k, (∀ i, i < k → v i < 2 ^ w) → dgs w v k < 2 ^ (w * k)
  | 0, _ => Nat.pow_pos (by decide)
  | k + 1, h => by
    have a := dgs_lt k (fun i hi => h i (by omega))
    have b := h k (by omega)
    show dgs w v k + 2 ^ (w * k) * v k < 2 ^ (w * (k + 1))
    have c : 2 ^ (w * k) * (v k + 1) ≤ 2 ^ (w * k) * 2 ^ w := Nat.mul_le_mul_left _ b
    rw [Nat.mul_add, Nat.mul_one] at c
    rw [Nat.mul_add, Nat.mul_one, Nat.pow_add]
    omega
theorem dig_skip {i w m x z : Nat} (h : i + w ≤ m) : (x + 2 ^ m * z) / 2 ^ i % 2 ^ w = x / 2 ^ i % 2 ^ w := by
  obtain ⟨q, rfl⟩ : ∃ q, m = i + w + q := ⟨m - i - w, by omega⟩
  rw [Nat.pow_add, Nat.pow_add, Nat.mul_assoc, Nat.mul_assoc, Nat.add_mul_div_left _ _ (Nat.pow_pos (by decide)), Nat.add_mul_mod_self_left]
theorem dgs_dig {w : Nat} {v : Nat → Nat} : ∀ k, (∀ i, i < k → v i < 2 ^ w) → ∀ i, i < k → dgs w v k / 2 ^ (w * i) % 2 ^ w = v i
  | 0, _, i, hi => by omega
  | k + 1, h, i, hi => by
    show (dgs w v k + 2 ^ (w * k) * v k) / 2 ^ (w * i) % 2 ^ w = v i
    by_cases e : i = k
    · rw [e, Nat.add_mul_div_left _ _ (Nat.pow_pos (by decide)), Nat.div_eq_of_lt (dgs_lt k (fun i hi => h i (by omega))), Nat.zero_add, Nat.mod_eq_of_lt (h k (by omega))]
    · rw [dig_skip (by
        have : w * (i + 1) ≤ w * k := Nat.mul_le_mul_left w (by omega)
        rw [Nat.mul_add, Nat.mul_one] at this
        exact this)]
      exact dgs_dig k (fun i hi => h i (by omega)) i (by omega)
theorem dgs_congr {w : Nat} {v u : Nat → Nat} : ∀ k, (∀ i, i < k → v i = u i) → dgs w v k = dgs w u k
  | 0, _ => rfl
  | k + 1, h => by
    show dgs w v k + 2 ^ (w * k) * v k = dgs w u k + 2 ^ (w * k) * u k
    rw [dgs_congr k (fun i hi => h i (by omega)), h k (by omega)]
theorem dgs_inj {w k : Nat} {v u : Nat → Nat} (hv : ∀ i, i < k → v i < 2 ^ w) (hu : ∀ i, i < k → u i < 2 ^ w) (e : dgs w v k = dgs w u k) : ∀ i, i < k → v i = u i := fun i hi => by
  rw [← dgs_dig k hv i hi, e, dgs_dig k hu i hi]
def tdg (n : Tb) (t : Nat) : Nat := 2 * n 8 t + n 9 t
def sdg (n : Tb) (s : Nat) : Nat := 2 * n 5 s + n 7 s
def mfd (I n : Tb) : Nat := dgs 4 (tdg n) (I 0 2) + 2 ^ 16 * dgs 2 (n 1) (I 0 1) + 2 ^ 36 * dgs 4 (sdg n) (I 0 4)
theorem tdg_lt {I n : Tb} (hi : ib I) (hb : nb I n) : ∀ t, t < I 0 2 → tdg n t < 2 ^ 4 := fun t ht => by
  have := hb.t ht
  have := hi.R
  unfold tdg
  omega
theorem sdg_lt {I n : Tb} (hi : ib I) (hb : nb I n) : ∀ s, s < I 0 4 → sdg n s < 2 ^ 4 := fun s hs => by
  have := hb.s hs
  have := hi.R
  unfold sdg
  omega
theorem ddg_lt {I n : Tb} (hb : nb I n) : ∀ d, d < I 0 1 → n 1 d < 2 ^ 2 := fun d hd => by
  have := hb.d hd
  omega
theorem two_le {a b : Nat} (h : a ≤ b) : 2 ^ a ≤ 2 ^ b := Nat.pow_le_pow_right (by decide) h
theorem A_lt {I n : Tb} (hi : ib I) (hb : nb I n) : dgs 4 (tdg n) (I 0 2) < 2 ^ 16 := Nat.lt_of_lt_of_le (dgs_lt _ (tdg_lt hi hb)) (two_le (by have := hi.T; omega))
theorem B_lt {I n : Tb} (hi : ib I) (hb : nb I n) : dgs 2 (n 1) (I 0 1) < 2 ^ 20 := Nat.lt_of_lt_of_le (dgs_lt _ (ddg_lt hb)) (two_le (by have := hi.D; omega))
theorem C_lt {I n : Tb} (hi : ib I) (hb : nb I n) : dgs 4 (sdg n) (I 0 4) < 2 ^ 12 := Nat.lt_of_lt_of_le (dgs_lt _ (sdg_lt hi hb)) (two_le (by have := hi.S; omega))
theorem mfd_lt {I n : Tb} (hi : ib I) (hb : nb I n) : mfd I n < 2 ^ 48 := by
  have := A_lt hi hb
  have := B_lt hi hb
  have := C_lt hi hb
  unfold mfd
  omega
def mrow (I n : Tb) (i : Nat) : Nat := if i = 3 then mfd I n else if i < I 0 5 then 2 * n 10 i else 0
theorem mrow_lt {I n : Tb} (hi : ib I) (hb : nb I n) (i : Nat) : mrow I n i < 2 ^ 62 := by
  unfold mrow
  by_cases c : i = 3
  · rw [if_pos c]
    have := mfd_lt hi hb
    omega
  · rw [if_neg c]
    by_cases q : i < I 0 5
    · rw [if_pos q]
      have := hb.l q
      omega
    · rw [if_neg q]; decide
theorem mrow_eq {I n m : Tb} (hi : ib I) (hn : nb I n) (hm : nb I m) : (∀ i, i < 4 → mrow I n i = mrow I m i) ↔ sameM I n m := by
  have hL := hi.L
  constructor
  · intro h
    have e3 : mfd I n = mfd I m := h 3 (by omega)
    unfold mfd at e3
    have a1 := A_lt hi hn
    have a2 := A_lt hi hm
    have b1 := B_lt hi hn
    have b2 := B_lt hi hm
    have eA : dgs 4 (tdg n) (I 0 2) = dgs 4 (tdg m) (I 0 2) := by omega
    have eB : dgs 2 (n 1) (I 0 1) = dgs 2 (m 1) (I 0 1) := by omega
    have eC : dgs 4 (sdg n) (I 0 4) = dgs 4 (sdg m) (I 0 4) := by omega
    refine ⟨fun l hl => ?_, fun t ht => ?_, dgs_inj (ddg_lt hn) (ddg_lt hm) eB, fun s hs => ?_⟩
    · have e := h l (by omega)
      unfold mrow at e
      rw [if_neg (by omega), if_pos hl, if_neg (by omega), if_pos hl] at e
      omega
    · have e := dgs_inj (tdg_lt hi hn) (tdg_lt hi hm) eA t ht
      have := hn.t ht
      have := hm.t ht
      unfold tdg at e
      omega
    · have e := dgs_inj (sdg_lt hi hn) (sdg_lt hi hm) eC s hs
      have := hn.s hs
      have := hm.s hs
      unfold sdg at e
      omega
  · intro ⟨h1, h2, h3, h4⟩ i _
    unfold mrow mfd
    rw [dgs_congr (v := tdg n) (u := tdg m) (I 0 2) (fun t ht => by unfold tdg; rw [(h2 t ht).1, (h2 t ht).2]), dgs_congr (v := n 1) (u := m 1) (I 0 1) h3, dgs_congr (v := sdg n) (u := sdg m) (I 0 4) (fun s hs => by unfold sdg; rw [(h4 s hs).1, (h4 s hs).2])]
    by_cases c : i = 3
    · rw [if_pos c, if_pos c]
    · rw [if_neg c, if_neg c]
      by_cases q : i < I 0 5
      · rw [if_pos q, if_pos q, h1 i q]
      · rw [if_neg q, if_neg q]
theorem orsh {x v k : Nat} (hx : x < 2 ^ k) (hk : k < 64) (hv : v < 2 ^ 31) : lN x ||| ((nI v).toInt64 <<< ((nI k).toInt64 &&& 63)) = lN (x + 2 ^ k * v) := by
  rw [nI_l hv, wb_shl v hk, fb_orL, Nat.or_comm, Nat.mul_comm v, ← Nat.two_pow_add_eq_or_of_lt hx, Nat.add_comm]
theorem keep_ok {N c : Nat} {I n : Tb} {been : Int32} {how passed dreamOf stateOf roomOf handOf awake thingIn full : Nat → Int32} {heardBy rows : Nat → Int64} (hN : 64 < N) (hi : ib I) (hb : nb I n) (hc : c < 64) (h : CN I n been how passed dreamOf stateOf roomOf handOf awake thingIn full heardBy) :
    ∃ rows', fX3_keep N (nI c) heardBy rows (nI (I 0 2)) (nI (I 0 4)) (nI (I 0 1)) roomOf awake how thingIn full = some rows' ∧ (∀ i, i < 4 → rows' (4 * c + i) = lN (mrow I n i)) ∧ ∀ j, (j < 4 * c ∨ 4 * c + 4 ≤ j) → rows' j = rows j := by
  have hT := hi.T
  have hD := hi.D
  have hS := hi.S
  have hL := hi.L
  obtain ⟨_, k1, _, _, _, k5, _, k7, k8, k9, k10, _, kz⟩ := h
  have e4 : (nI c * 4 : Int32) = nI (4 * c) := by rw [show (4 : Int32) = nI 4 from rfl, pk_mul, Nat.mul_comm]
  unfold fX3_keep
  rw [e4]
  have hcp : ∀ K : Option (Nat → Int64), cpg 0 (nI (4 * c)) 3 3 256 K = K := by
    intro K
    unfold cpg
    rw [if_neg]
    intro q
    rw [nI_clamp (by omega), show (3 : Int32).toNatClampNeg = 3 by decide, show (0 : Int32).toNatClampNeg = 0 by decide] at q
    rcases q with q | q | q | q | q
    · exact absurd q (by decide)
    · exact (nI_lt0 (by omega)).mp q
    · exact absurd q (by decide)
    · omega
    · omega
  rw [hcp]
  have a0 : ∀ K : Int64 → Option (Nat → Int64), lp (BX3_keep_24 (nI (I 0 2)) N full thingIn K) N (0, 0) = K (lN (dgs 4 (tdg n) (I 0 2))) := by
    intro K
    refine lp_for (fun j => (lN (dgs 4 (tdg n) j), nI j)) (I 0 2) N (by omega) (fun j hj rec => ?_) (fun rec => ?_)
    · have h3 : ¬ I 0 2 ≤ j := by omega
      have ht := hb.t hj
      have hR := hi.R
      have e1 : (2 * nI (n 8 j) + nI (n 9 j) : Int32) = nI (tdg n j) := by
        rw [show (2 : Int32) = nI 2 from rfl, pk_mul, nI_add]
        rfl
      have e2 : (4 * nI j : Int32) = nI (4 * j) := pk_mul 4 j
      have hx := dgs_lt (w := 4) (v := tdg n) j (fun i hi2 => tdg_lt hi hb i (by omega))
      simp (disch := omega) only [BX3_keep_24, un2, nI_leI, h3, if_false, gd_nI, nI_clamp, k8 j hj, k9 j hj, bit_ok ht.2, bd_some, un1, e1, e2, nI_1]
      rw [orsh hx (by omega) (by unfold tdg; omega)]
      rfl
    · simp (disch := omega) only [BX3_keep_24, un2, nI_leI, Nat.le_refl, if_true]
  rw [a0]
  dsimp only [un1]
  have hA := A_lt hi hb
  have hB := B_lt hi hb
  have a1 : ∀ K : Int64 → Option (Nat → Int64), lp (BX3_keep_76 (nI (I 0 1)) how K) N (lN (dgs 4 (tdg n) (I 0 2)), 0) = K (lN (dgs 4 (tdg n) (I 0 2) + 2 ^ 16 * dgs 2 (n 1) (I 0 1))) := by
    intro K
    refine lp_for (fun j => (lN (dgs 4 (tdg n) (I 0 2) + 2 ^ 16 * dgs 2 (n 1) j), nI j)) (I 0 1) N (by omega) (fun j hj rec => ?_) (fun rec => ?_)
    · have h3 : ¬ I 0 1 ≤ j := by omega
      have ht := hb.d hj
      have e2 : (16 + 2 * nI j : Int32) = nI (16 + 2 * j) := by
        rw [show (2 : Int32) = nI 2 from rfl, pk_mul]
        exact nI_add 16 (2 * j)
      have hx := dgs_lt (w := 2) (v := n 1) j (fun i hi2 => ddg_lt hb i (by omega))
      have hx2 : dgs 4 (tdg n) (I 0 2) + 2 ^ 16 * dgs 2 (n 1) j < 2 ^ (16 + 2 * j) := by
        rw [Nat.pow_add]
        have : 2 ^ 16 * (dgs 2 (n 1) j + 1) ≤ 2 ^ 16 * 2 ^ (2 * j) := Nat.mul_le_mul_left _ hx
        omega
      simp (disch := omega) only [BX3_keep_76, un2, nI_leI, h3, if_false, gd_nI, nI_clamp, k1 j hj, e2, nI_1]
      rw [orsh hx2 (by omega) (by omega), Nat.pow_add, Nat.mul_assoc, Nat.add_assoc, ← Nat.mul_add]
      rfl
    · simp (disch := omega) only [BX3_keep_76, un2, nI_leI, Nat.le_refl, if_true]
  rw [a1]
  dsimp only [un1]
  have e43 : (nI (4 * c) + 3 : Int32) = nI (4 * c + 3) := nI_add (4 * c) 3
  have a2 : lp (BX3_keep_121 (nI (I 0 4)) (nI c) heardBy rows N awake roomOf) N (lN (dgs 4 (tdg n) (I 0 2) + 2 ^ 16 * dgs 2 (n 1) (I 0 1)), 0) = some (vp_updL (va_cpy heardBy rows 0 (4 * c) 3) (4 * c + 3) (lN (mfd I n))) := by
    refine lp_for (fun j => (lN (dgs 4 (tdg n) (I 0 2) + 2 ^ 16 * dgs 2 (n 1) (I 0 1) + 2 ^ 36 * dgs 4 (sdg n) j), nI j)) (I 0 4) N (by omega) (fun j hj rec => ?_) (fun rec => ?_)
    · have h3 : ¬ I 0 4 ≤ j := by omega
      have ht := hb.s hj
      have hR := hi.R
      have e1 : (2 * nI (n 5 j) + nI (n 7 j) : Int32) = nI (sdg n j) := by
        rw [show (2 : Int32) = nI 2 from rfl, pk_mul, nI_add]
        rfl
      have e2 : (36 + 4 * nI j : Int32) = nI (36 + 4 * j) := by
        rw [show (4 : Int32) = nI 4 from rfl, pk_mul]
        exact nI_add 36 (4 * j)
      have hx := dgs_lt (w := 4) (v := sdg n) j (fun i hi2 => sdg_lt hi hb i (by omega))
      have hx2 : dgs 4 (tdg n) (I 0 2) + 2 ^ 16 * dgs 2 (n 1) (I 0 1) + 2 ^ 36 * dgs 4 (sdg n) j < 2 ^ (36 + 4 * j) := by
        rw [Nat.pow_add]
        have : 2 ^ 36 * (dgs 4 (sdg n) j + 1) ≤ 2 ^ 36 * 2 ^ (4 * j) := Nat.mul_le_mul_left _ hx
        omega
      simp (disch := omega) only [BX3_keep_121, un2, nI_leI, h3, if_false, gd_nI, nI_clamp, k5 j hj, k7 j hj, bit_ok ht.2.2.2.2, bd_some, un1, e1, e2, nI_1]
      rw [orsh hx2 (by omega) (by unfold sdg; omega), Nat.pow_add, Nat.mul_assoc, Nat.add_assoc, ← Nat.mul_add]
      rfl
    · simp (disch := omega) only [BX3_keep_121, un2, nI_leI, Nat.le_refl, if_true, e4, e43, gd_nI, nI_clamp]
      rfl
  refine ⟨_, a2, fun i hi4 => ?_, fun j hj => ?_⟩
  · by_cases c3 : i = 3
    · subst c3
      rw [pk_uLs]
      rfl
    · rw [pk_uLn (by omega)]
      unfold va_cpy mrow
      rw [if_pos (by omega), if_neg c3, show 0 + (4 * c + i - 4 * c) = i by omega]
      by_cases q : i < I 0 5
      · rw [if_pos q, k10 i q]
      · rw [if_neg q, kz i (by omega) (by omega)]
        rfl
  · rw [pk_uLn (by omega)]
    unfold va_cpy
    rw [if_neg (by omega)]
