/-! nightfall -/
def nf (I : Tb) (st : Nat) (dr : Nat → Nat) : Tb := fun f i => if f = 0 then (if i = 1 then st else 0) else if f = 1 then hnf I st i else if f = 3 then dr i else if f = 5 then I 14 i else if f = 8 then I 7 i else if f = 9 then I 8 i else 0
theorem nb_nf {I : Tb} (hi : ib I) (st : Nat) {dr : Nat → Nat} (hd : ∀ s, s < I 0 4 → dr s < I 0 3) : nb I (nf I st dr) := by
  refine ⟨Nat.zero_le 40, fun d hd2 => ⟨hnf_le hi st hd2, Iff.rfl⟩, fun s hs => ⟨hd s hs, Nat.zero_lt_succ 3, (hi.sleeper hs).1, Nat.zero_le _, Nat.zero_le _⟩, fun t ht => ⟨(hi.thing ht).1, (hi.thing ht).2⟩, fun l hl => Nat.two_pow_pos 40⟩
theorem howAt_ok {N d st : Nat} {I : Tb} {how : Nat → Int32} (hd : d < I 0 1) (hD : I 0 1 ≤ 10) (hs : st < 1000) (hh : ∀ i, i < I 0 1 → how i = nI (I 5 i)) : fX2_howAtNightfall N (nI d) (nI st) how = some (nI (hnf I st d)) := by
  unfold fX2_howAtNightfall hnf
  simp (disch := omega) only [il, pk_mul, nI_add, nI_eq, gd_nI, nI_clamp, hh d hd]
  by_cases c1 : st = 1 + 2 * d
  · rw [if_pos c1, if_pos c1]
  · rw [if_neg c1, if_neg c1]
    by_cases c2 : st = 2 + 2 * d
    · rw [if_pos c2, if_pos c2]
    · rw [if_neg c2, if_neg c2]
theorem lockedAt_ok {N st : Nat} {I : Tb} {how : Nat → Int32} (hN : 64 < N) (hi : ib I) (hs : st < 1000) (hh : ∀ i, i < I 0 1 → how i = nI (I 5 i)) : fX2_lockedAtNightfall N (nI st) (nI (I 0 1)) how = some (nI (mk (lks I st) (I 0 1))) := by
  have hD := hi.D
  unfold fX2_lockedAtNightfall
  refine lp_for (fun j => (nI (mk (lks I st) j), nI j)) (I 0 1) N (by omega) (fun j hj rec => ?_) (fun rec => ?_)
  · have h3 : ¬ I 0 1 ≤ j := by omega
    have hle := hnf_le hi st hj
    show _ = rec (nI (if lks I st j = true then mk (lks I st) j ||| 2 ^ j else mk (lks I st) j), nI (j + 1))
    simp (disch := omega) only [BX2_lockedAtNightfall_4, un2, nI_leI, h3, if_false, howAt_ok hj hD hs hh, bd_some, un1, jn, nI_1]
    unfold lks
    by_cases c : hnf I st j = 2
    · rw [c, if_pos (show nI 2 = 2 from rfl), if_pos (show decide (2 = 2) = true from rfl), show (1 : Int32) <<< (nI j &&& 31) = nI (2 ^ j) from one_shl (by omega), fa_or]
    · rw [if_neg (show ¬ nI (hnf I st j) = 2 from fun e => c ((nI_eq (by omega) (by omega)).mp (e.trans (il 2)))), if_neg (fun q => c (of_decide_eq_true q))]
  · simp (disch := omega) only [BX2_lockedAtNightfall_4, un2, nI_leI, Nat.le_refl, if_true]
theorem mk31 {p : Nat → Bool} {k : Nat} (h : k ≤ 10) : mk p k < 2 ^ 31 := by
  have h1 := mk_lt (p := p) k
  have h2 : 2 ^ k ≤ 2 ^ 10 := Nat.pow_le_pow_right (by decide) h
  omega
theorem prepare_ok {N st : Nat} {I : Tb} {how steps one other : Nat → Int32} (hN : 64 < N) (hi : ib I) (hs : st < 1000) (hh : ∀ i, i < I 0 1 → how i = nI (I 5 i)) (H1 : ∀ i, i < I 0 1 → one i = nI (I 3 i)) (H2 : ∀ i, i < I 0 1 → other i = nI (I 4 i)) :
    ∃ g, fX4_prepare N (nI st) (nI (I 0 0)) (nI (I 0 1)) how steps one other = some (nI st, nI (I 0 0), mf (I 0 0) (ds I (lks I st)) g) := by
  have hD := hi.D
  unfold fX4_prepare
  rw [lockedAt_ok hN hi hs hh, bd_some]
  dsimp only [un1]
  obtain ⟨g, hg⟩ := measure_ok (N := N) (D := I 0 1) (R := I 0 0) (o := I 3) (t := I 4) (lk := lks I st) (st := steps) (p1 := nI (mk (lks I st) (I 0 1))) hN hD hi.R H1 H2 (fun k hk => ⟨(hi.door hk).1, (hi.door hk).2.1⟩) (fun k hk => (hi.door hk).2.2.1) (fun k hk => by
    rw [bitSet_ok (mk31 hD) (by omega), mk_bit]
    simp [hk])
  refine ⟨g, ?_⟩
  rw [hg, bd_some]
  rfl
theorem fillL {α : Type} (f g : Nat → Int64) (i : Nat) : vp_updL (fa_fill f g i) i (f i) = fa_fill f g (i + 1) := by
  funext k
  unfold vp_updL fa_fill
  by_cases c : k = i
  · rw [if_pos c, if_pos (by omega), c]
  · rw [if_neg c]
    by_cases c2 : k < i
    · rw [if_pos c2, if_pos (by omega)]
    · rw [if_neg c2, if_neg (by omega)]
theorem fill3_ok {N : Nat} (hN : 64 < N) (v : Int64) (a : Nat → Int64) : fJ7_fill_d0a16 N v a = some (fa_fill (fun _ => v) a 3) := by
  unfold fJ7_fill_d0a16
  refine lp_for (fun j => (nI j, fa_fill (fun _ => v) a j)) 3 N (by omega) (fun j hj rec => ?_) (fun rec => ?_)
  · have h1 : ¬ 3 ≤ j := by omega
    simp (disch := omega) only [BJ7_fill_d0a16_6, un2, il, nI_leI, h1, if_false, gd_nI, nI_clamp, nI_add]
    rw [fillL (α := Nat) (fun _ => v) a j]
  · simp (disch := omega) only [BJ7_fill_d0a16_6, un2, il, nI_leI, Nat.le_refl, if_true]
theorem cpg4 {ρ : Type} (K : Option ρ) : cpg 0 0 4 4 4 K = K := if_neg (by decide)
theorem zall_ok {f : Nat → Int32} : ∀ n, (∀ i, i < n → f i = 0 ∨ f i = 1) → zall f 0 n = true
  | 0, _ => rfl
  | n + 1, h => by
    have ih := zall_ok n (fun i hi => h i (by omega))
    have h1 := h n (by omega)
    simp [zall, ih, h1]
theorem zcg4 {ρ : Type} {f : Nat → Int32} (h : ∀ i, i < 4 → f i = 0 ∨ f i = 1) (K : Option ρ) : zcg f 0 4 K = K := if_pos (zall_ok 4 h)
theorem cp4 {α : Type} (f g : Nat → α) {i : Nat} (hi : i < 4) : va_cpy f g (0 : Int32).toNatClampNeg (0 : Int32).toNatClampNeg (4 : Int32).toNatClampNeg i = f i := by
  show (if 0 ≤ i ∧ i < 0 + 4 then f (0 + (i - 0)) else g i) = f i
  rw [if_pos (by omega)]
  congr 1
  omega
theorem begin_ok {N st fr : Nat} {I : Tb} {dr : Nat → Nat} {inThing inFull bed hhow a0 : Nat → Int32} (hN : 64 < N) (hi : ib I) (hs : st < 1000) (hfr : fr + 3 ≤ 3) (hh : ∀ i, i < I 0 1 → hhow i = nI (I 5 i)) (hb : ∀ i, i < I 0 4 → bed i = nI (I 14 i)) (ht : ∀ i, i < I 0 2 → inThing i = nI (I 7 i) ∧ inFull i = nI (I 8 i)) (hf : ∀ i, i < 4 → inFull i = 0 ∨ inFull i = 1) (hd : ∀ s, s < I 0 4 → a0 (fr + s) = nI (dr s)) (thingIn full dreamOf stateOf roomOf handOf awake how passed : Nat → Int32) (heardBy : Nat → Int64) (haw : ∀ i, i < 3 → awake i = 0 ∨ awake i = 1) :
    ∃ th' fu' hb' dr' st' ro' ha' aw' how' pas', fX4_begin N (nI fr) (nI st) (nI (I 0 4)) (nI (I 0 1)) inThing thingIn inFull full heardBy a0 dreamOf stateOf bed roomOf handOf awake hhow how passed = some (0, th', fu', hb', dr', st', ro', ha', aw', how', pas') ∧ CN I (nf I st dr) 0 how' pas' dr' st' ro' ha' aw' th' fu' hb' := by
  have hD := hi.D
  have hS := hi.S
  have hT := hi.T
  have hL := hi.L
  unfold fX4_begin
  have a1 : ∀ K : (Nat → Int32) × (Nat → Int32) → Option (Int32 × (Nat → Int32) × (Nat → Int32) × (Nat → Int64) × (Nat → Int32) × (Nat → Int32) × (Nat → Int32) × (Nat → Int32) × (Nat → Int32) × (Nat → Int32) × (Nat → Int32)), lp (BX4_begin_7 (nI (I 0 1)) N (nI st) hhow K) N (0, how, passed) = K (fa_fill (fun i => nI (hnf I st i)) how (I 0 1), fa_fill (fun _ => 0) passed (I 0 1)) := by
    intro K
    refine lp_for (fun j => (nI j, fa_fill (fun i => nI (hnf I st i)) how j, fa_fill (fun _ => 0) passed j)) (I 0 1) N (by omega) (fun j hj rec => ?_) (fun rec => ?_)
    · have h3 : ¬ I 0 1 ≤ j := by omega
      have u1 := fa_fill_succ (fun i => nI (hnf I st i)) how j
      have u2 := fa_fill_succ (fun _ => (0 : Int32)) passed j
      simp (disch := omega) only [BX4_begin_7, un3, nI_leI, h3, if_false, howAt_ok hj hD hs hh, bd_some, un1, gd_nI, nI_clamp, nI_1, u1, u2]
    · simp (disch := omega) only [BX4_begin_7, un3, nI_leI, Nat.le_refl, if_true]
  rw [a1]
  dsimp only [un2]
  refine ⟨va_cpy inThing thingIn (0 : Int32).toNatClampNeg (0 : Int32).toNatClampNeg (4 : Int32).toNatClampNeg, va_cpy inFull full (0 : Int32).toNatClampNeg (0 : Int32).toNatClampNeg (4 : Int32).toNatClampNeg, fa_fill (fun _ => 0) heardBy 3, fa_fill (fun i => nI (dr i)) dreamOf (I 0 4), fa_fill (fun _ => 0) stateOf (I 0 4), fa_fill (fun i => nI (I 14 i)) roomOf (I 0 4), fa_fill (fun _ => -2) handOf (I 0 4), fa_fill (fun _ => 0) awake (I 0 4), fa_fill (fun i => nI (hnf I st i)) how (I 0 1), fa_fill (fun _ => 0) passed (I 0 1), ?_, ?_⟩
  · refine lp_for (fun j => (nI j, fa_fill (fun i => nI (dr i)) dreamOf j, fa_fill (fun _ => 0) stateOf j, fa_fill (fun i => nI (I 14 i)) roomOf j, fa_fill (fun _ => -2) handOf j, fa_fill (fun _ => 0) awake j)) (I 0 4) N (by omega) (fun j hj rec => ?_) (fun rec => ?_)
    · have h3 : ¬ I 0 4 ≤ j := by omega
      have u1 := fa_fill_succ (fun i => nI (dr i)) dreamOf j
      have u2 := fa_fill_succ (fun _ => (0 : Int32)) stateOf j
      have u3 := fa_fill_succ (fun i => nI (I 14 i)) roomOf j
      have u4 := fa_fill_succ (fun _ => (-2 : Int32)) handOf j
      have u5 := fa_fill_succ (fun _ => (0 : Int32)) awake j
      simp (disch := omega) only [BX4_begin_54, un6, nI_leI, h3, if_false, gd_nI, nI_clamp, nI_1, nI_add, hd j hj, hb j hj, u1, u2, u3, u4, u5]
    · simp (disch := omega) only [BX4_begin_54, un6, nI_leI, Nat.le_refl, if_true, cpg4, zcg4 hf, fill3_ok hN, bd_some, un1]
  · refine ⟨rfl, fun i hi2 => fa_fill_in hi2, fun i hi2 => fa_fill_in hi2, fun i hi2 => fa_fill_in hi2, fun i hi2 => fa_fill_in hi2, fun i hi2 => fa_fill_in hi2, fun i hi2 => fa_fill_in hi2, fun i hi2 => fa_fill_in hi2, fun i hi2 => (cp4 _ _ (by omega)).trans (ht i hi2).1, fun i hi2 => (cp4 _ _ (by omega)).trans (ht i hi2).2, fun i hi2 => fa_fill_in (by omega), ⟨fun i hi2 => ?_, fun i hi2 => ?_⟩, fun i h1 h2 => fa_fill_in h2⟩
    · by_cases c : i < I 0 4
      · exact Or.inl (fa_fill_in c)
      · rw [fa_fill_out (by omega)]; exact haw i hi2
    · rw [cp4 _ _ hi2]; exact hf i hi2
theorem begind_ok {N st fr : Nat} {I : Tb} {dr : Nat → Nat} {inThing inFull bed hhow a0 : Nat → Int32} (hN : 64 < N) (hi : ib I) (hs : st < 1000) (hfr : fr + 3 ≤ 192) (hh : ∀ i, i < I 0 1 → hhow i = nI (I 5 i)) (hb : ∀ i, i < I 0 4 → bed i = nI (I 14 i)) (ht : ∀ i, i < I 0 2 → inThing i = nI (I 7 i) ∧ inFull i = nI (I 8 i)) (hf : ∀ i, i < 4 → inFull i = 0 ∨ inFull i = 1) (hd : ∀ s, s < I 0 4 → a0 (fr + s) = nI (dr s)) (thingIn full dreamOf stateOf roomOf handOf awake how passed : Nat → Int32) (heardBy : Nat → Int64) (haw : ∀ i, i < 3 → awake i = 0 ∨ awake i = 1) :
    ∃ th' fu' hb' dr' st' ro' ha' aw' how' pas', fX4_begind N (nI fr) (nI st) (nI (I 0 4)) (nI (I 0 1)) inThing thingIn inFull full heardBy a0 dreamOf stateOf bed roomOf handOf awake hhow how passed = some (0, th', fu', hb', dr', st', ro', ha', aw', how', pas') ∧ CN I (nf I st dr) 0 how' pas' dr' st' ro' ha' aw' th' fu' hb' := by
  have hD := hi.D
  have hS := hi.S
  have hT := hi.T
  have hL := hi.L
  unfold fX4_begind
  have a1 : ∀ K : (Nat → Int32) × (Nat → Int32) → Option (Int32 × (Nat → Int32) × (Nat → Int32) × (Nat → Int64) × (Nat → Int32) × (Nat → Int32) × (Nat → Int32) × (Nat → Int32) × (Nat → Int32) × (Nat → Int32) × (Nat → Int32)), lp (BX4_begind_7 (nI (I 0 1)) N (nI st) hhow K) N (0, how, passed) = K (fa_fill (fun i => nI (hnf I st i)) how (I 0 1), fa_fill (fun _ => 0) passed (I 0 1)) := by
    intro K
    refine lp_for (fun j => (nI j, fa_fill (fun i => nI (hnf I st i)) how j, fa_fill (fun _ => 0) passed j)) (I 0 1) N (by omega) (fun j hj rec => ?_) (fun rec => ?_)
    · have h3 : ¬ I 0 1 ≤ j := by omega
      have u1 := fa_fill_succ (fun i => nI (hnf I st i)) how j
      have u2 := fa_fill_succ (fun _ => (0 : Int32)) passed j
      simp (disch := omega) only [BX4_begind_7, un3, nI_leI, h3, if_false, howAt_ok hj hD hs hh, bd_some, un1, gd_nI, nI_clamp, nI_1, u1, u2]
    · simp (disch := omega) only [BX4_begind_7, un3, nI_leI, Nat.le_refl, if_true]
  rw [a1]
  dsimp only [un2]
  refine ⟨va_cpy inThing thingIn (0 : Int32).toNatClampNeg (0 : Int32).toNatClampNeg (4 : Int32).toNatClampNeg, va_cpy inFull full (0 : Int32).toNatClampNeg (0 : Int32).toNatClampNeg (4 : Int32).toNatClampNeg, fa_fill (fun _ => 0) heardBy 3, fa_fill (fun i => nI (dr i)) dreamOf (I 0 4), fa_fill (fun _ => 0) stateOf (I 0 4), fa_fill (fun i => nI (I 14 i)) roomOf (I 0 4), fa_fill (fun _ => -2) handOf (I 0 4), fa_fill (fun _ => 0) awake (I 0 4), fa_fill (fun i => nI (hnf I st i)) how (I 0 1), fa_fill (fun _ => 0) passed (I 0 1), ?_, ?_⟩
  · refine lp_for (fun j => (nI j, fa_fill (fun i => nI (dr i)) dreamOf j, fa_fill (fun _ => 0) stateOf j, fa_fill (fun i => nI (I 14 i)) roomOf j, fa_fill (fun _ => -2) handOf j, fa_fill (fun _ => 0) awake j)) (I 0 4) N (by omega) (fun j hj rec => ?_) (fun rec => ?_)
    · have h3 : ¬ I 0 4 ≤ j := by omega
      have u1 := fa_fill_succ (fun i => nI (dr i)) dreamOf j
      have u2 := fa_fill_succ (fun _ => (0 : Int32)) stateOf j
      have u3 := fa_fill_succ (fun i => nI (I 14 i)) roomOf j
      have u4 := fa_fill_succ (fun _ => (-2 : Int32)) handOf j
      have u5 := fa_fill_succ (fun _ => (0 : Int32)) awake j
      simp (disch := omega) only [BX4_begind_54, un6, nI_leI, h3, if_false, gd_nI, nI_clamp, nI_1, nI_add, hd j hj, hb j hj, u1, u2, u3, u4, u5]
    · simp (disch := omega) only [BX4_begind_54, un6, nI_leI, Nat.le_refl, if_true, cpg4, zcg4 hf, fill3_ok hN, bd_some, un1]
  · refine ⟨rfl, fun i hi2 => fa_fill_in hi2, fun i hi2 => fa_fill_in hi2, fun i hi2 => fa_fill_in hi2, fun i hi2 => fa_fill_in hi2, fun i hi2 => fa_fill_in hi2, fun i hi2 => fa_fill_in hi2, fun i hi2 => fa_fill_in hi2, fun i hi2 => (cp4 _ _ (by omega)).trans (ht i hi2).1, fun i hi2 => (cp4 _ _ (by omega)).trans (ht i hi2).2, fun i hi2 => fa_fill_in (by omega), ⟨fun i hi2 => ?_, fun i hi2 => ?_⟩, fun i h1 h2 => fa_fill_in h2⟩
    · by_cases c : i < I 0 4
      · exact Or.inl (fa_fill_in c)
      · rw [fa_fill_out (by omega)]; exact haw i hi2
    · rw [cp4 _ _ hi2]; exact hf i hi2
/-! the reference's nightfall -/
def RD (I : Tb) (st : Nat) (w : Nat → Int32) : Prop := w 49 = 0 ∧ w 50 = nI st ∧ (∀ i, i < I 0 1 → w (23 + i) = nI (hnf I st i)) ∧ (∀ i, i < I 0 1 → w (33 + i) = 0) ∧ (∀ i, i < I 0 4 → w (3 + i) = 0 ∧ w (0 + i) = nI (I 14 i) ∧ w (6 + i) = -2 ∧ w (9 + i) = 0) ∧ (∀ i, i < I 0 2 → w (15 + i) = nI (I 7 i) ∧ w (19 + i) = nI (I 8 i)) ∧ (∀ i, i < I 0 5 → w (43 + 2 * i) = 0 ∧ w (44 + 2 * i) = 0) ∧ RZ I w
theorem RD.rn {I : Tb} {st : Nat} {w : Nat → Int32} {dr : Nat → Nat} (h : RD I st w) (hd : ∀ s, s < I 0 4 → w (12 + s) = nI (dr s)) : RN I (nf I st dr) w := by
  obtain ⟨h1, h2, h3, h4, h5, h6, h7, h8⟩ := h
  exact ⟨h1, h2, h3, h4, hd, fun i hi => (h5 i hi).1, fun i hi => (h5 i hi).2.1, fun i hi => (h5 i hi).2.2.1, fun i hi => (h5 i hi).2.2.2, fun i hi => (h6 i hi).1, fun i hi => (h6 i hi).2, fun i hi => ⟨by rw [(h7 i hi).1, show nf I st dr 10 i = 0 from rfl, Nat.zero_mod]; rfl, by rw [(h7 i hi).2, show nf I st dr 10 i = 0 from rfl, Nat.zero_div]; rfl⟩, h8⟩
theorem RD.u {I : Tb} {st : Nat} {w : Nat → Int32} (hc : cnt I) (h : RD I st w) {k : Nat} (hk : k < 3) (x : Int32) : RD I st (upd w (12 + k) x) := by
  obtain ⟨c1, c2, c3, c4⟩ := hc
  obtain ⟨h1, h2, h3, h4, h5, h6, h7, h8⟩ := h
  refine ⟨by rw [pk_un (by omega)]; exact h1, by rw [pk_un (by omega)]; exact h2, fun i hi => by rw [pk_un (by omega)]; exact h3 i hi, fun i hi => by rw [pk_un (by omega)]; exact h4 i hi, fun i hi => by rw [pk_un (by omega), pk_un (by omega), pk_un (by omega), pk_un (by omega)]; exact h5 i hi, fun i hi => by rw [pk_un (by omega), pk_un (by omega)]; exact h6 i hi, fun i hi => by rw [pk_un (by omega), pk_un (by omega)]; exact h7 i hi, h8.u (by unfold zi; omega) x⟩
theorem falls_1 {N : Nat} (hN : 64 < N) (w : Nat → Int32) : ∃ w1 : Nat → Int32, ((∀ i, i < 51 → ¬ (12 ≤ i ∧ i ≤ 14) → w1 i = 0) ∧ ∀ i, 12 ≤ i → i ≤ 14 → w1 i = w i) ∧ ∀ K, lp (BX12_fallsNight_2 N K) N (0, w) = K w1 := by
  refine lp_goK (B := BX12_fallsNight_2 N) (fun j s => ∃ w1, s = (nI j, w1) ∧ (∀ i, i < j → ¬ (12 ≤ i ∧ i ≤ 14) → w1 i = 0) ∧ ∀ i, 12 ≤ i → i ≤ 14 → w1 i = w i) (fun w1 => (∀ i, i < 51 → ¬ (12 ≤ i ∧ i ≤ 14) → w1 i = 0) ∧ ∀ i, 12 ≤ i → i ≤ 14 → w1 i = w i) 51 (by omega) ⟨w, rfl, fun i hi => absurd hi (Nat.not_lt_zero i), fun i _ _ => rfl⟩ (fun j hj s hs => ?_) (fun s hs => ?_)
  · obtain ⟨w1, rfl, q1, q2⟩ := hs
    have h3 : ¬ 51 ≤ j := by omega
    by_cases c : 12 ≤ j ∧ j ≤ 14
    · refine ⟨(nI (j + 1), w1), fun K rec => ?_, w1, rfl, fun i hi hn => q1 i (by omega) hn, q2⟩
      have g1 : ¬ j < 12 := by omega
      have g2 : ¬ 14 < j := by omega
      simp (disch := omega) only [BX12_fallsNight_2, un2, il, nI_leI, h3, if_false, fX12_in, un0, jn, nI_ltI, g1, g2, bd_some, un1, nI_add]
      rw [if_neg (show ¬ nI 1 = nI 0 by decide)]
    · refine ⟨(nI (j + 1), upd w1 j 0), fun K rec => ?_, _, rfl, fun i hi hn => ?_, fun i h1 h2 => ?_⟩
      · by_cases g1 : j < 12
        · simp (disch := omega) only [BX12_fallsNight_2, un2, il, nI_leI, h3, if_false, fX12_in, un0, jn, nI_ltI, g1, if_true, bd_some, un1, nI_add, gd_nI, nI_clamp]
        · have g2 : 14 < j := by omega
          simp (disch := omega) only [BX12_fallsNight_2, un2, il, nI_leI, h3, if_false, fX12_in, un0, jn, nI_ltI, g1, g2, if_true, bd_some, un1, nI_add, gd_nI, nI_clamp]
      · by_cases e : i = j
        · rw [e, pk_us]
        · rw [pk_un e]; exact q1 i (by omega) hn
      · rw [pk_un (by omega)]; exact q2 i h1 h2
  · obtain ⟨w1, rfl, q1, q2⟩ := hs
    refine ⟨w1, fun K rec => ?_, q1, q2⟩
    simp (disch := omega) only [BX12_fallsNight_2, un2, il, nI_leI, Nat.le_refl, if_true]
theorem falls_2 {N : Nat} {I : Tb} {bed : Nat → Int32} (hN : 64 < N) (hi : ib I) (hb : ∀ i, i < I 0 4 → bed i = nI (I 14 i)) (w : Nat → Int32) : ∃ w1 : Nat → Int32, ((∀ i, i < I 0 4 → w1 (0 + i) = nI (I 14 i) ∧ w1 (6 + i) = -2) ∧ ∀ i, ¬ i < I 0 4 → ¬ (6 ≤ i ∧ i < 6 + I 0 4) → w1 i = w i) ∧ ∀ K, lp (BX12_fallsNight_34 (nI (I 0 4)) bed K) N (0, w) = K w1 := by
  have hS := hi.S
  refine lp_goK (B := BX12_fallsNight_34 (nI (I 0 4)) bed) (fun j s => ∃ w1, s = (nI j, w1) ∧ (∀ i, i < j → w1 (0 + i) = nI (I 14 i) ∧ w1 (6 + i) = -2) ∧ ∀ i, ¬ i < j → ¬ (6 ≤ i ∧ i < 6 + j) → w1 i = w i) (fun w1 => (∀ i, i < I 0 4 → w1 (0 + i) = nI (I 14 i) ∧ w1 (6 + i) = -2) ∧ ∀ i, ¬ i < I 0 4 → ¬ (6 ≤ i ∧ i < 6 + I 0 4) → w1 i = w i) (I 0 4) (by omega) ⟨w, rfl, fun i hi => absurd hi (Nat.not_lt_zero i), fun i _ _ => rfl⟩ (fun j hj s hs => ?_) (fun s hs => ?_)
  · obtain ⟨w1, rfl, q1, q2⟩ := hs
    have h3 : ¬ I 0 4 ≤ j := by omega
    refine ⟨(nI (j + 1), upd (upd w1 (0 + j) (nI (I 14 j))) (6 + j) (-2)), fun K rec => ?_, _, rfl, fun i hi2 => ?_, fun i h1 h2 => ?_⟩
    · simp (disch := omega) only [BX12_fallsNight_34, un2, nI_leI, h3, if_false, c0_add, c6_add, gd_nI, nI_clamp, hb j hj, nI_1]
    · by_cases e : i = j
      · subst e
        exact ⟨by rw [pk_un (by omega), pk_us], pk_us⟩
      · rw [pk_un (by omega), pk_un (by omega), pk_un (by omega), pk_un (by omega)]
        exact q1 i (by omega)
    · rw [pk_un (by omega), pk_un (by omega)]
      exact q2 i (by omega) (by omega)
  · obtain ⟨w1, rfl, q1, q2⟩ := hs
    refine ⟨w1, fun K rec => ?_, q1, q2⟩
    simp (disch := omega) only [BX12_fallsNight_34, un2, nI_leI, Nat.le_refl, if_true]
theorem falls_3 {N : Nat} {I : Tb} {lies isFull : Nat → Int32} (hN : 64 < N) (hi : ib I) (ht : ∀ i, i < I 0 2 → lies i = nI (I 7 i) ∧ isFull i = nI (I 8 i)) (w : Nat → Int32) : ∃ w1 : Nat → Int32, ((∀ i, i < I 0 2 → w1 (15 + i) = nI (I 7 i) ∧ w1 (19 + i) = nI (I 8 i)) ∧ ∀ i, ¬ (15 ≤ i ∧ i < 15 + I 0 2) → ¬ (19 ≤ i ∧ i < 19 + I 0 2) → w1 i = w i) ∧ ∀ K, lp (BX12_fallsNight_81 (nI (I 0 2)) lies isFull K) N (0, w) = K w1 := by
  have hT := hi.T
  refine lp_goK (B := BX12_fallsNight_81 (nI (I 0 2)) lies isFull) (fun j s => ∃ w1, s = (nI j, w1) ∧ (∀ i, i < j → w1 (15 + i) = nI (I 7 i) ∧ w1 (19 + i) = nI (I 8 i)) ∧ ∀ i, ¬ (15 ≤ i ∧ i < 15 + j) → ¬ (19 ≤ i ∧ i < 19 + j) → w1 i = w i) (fun w1 => (∀ i, i < I 0 2 → w1 (15 + i) = nI (I 7 i) ∧ w1 (19 + i) = nI (I 8 i)) ∧ ∀ i, ¬ (15 ≤ i ∧ i < 15 + I 0 2) → ¬ (19 ≤ i ∧ i < 19 + I 0 2) → w1 i = w i) (I 0 2) (by omega) ⟨w, rfl, fun i hi => absurd hi (Nat.not_lt_zero i), fun i _ _ => rfl⟩ (fun j hj s hs => ?_) (fun s hs => ?_)
  · obtain ⟨w1, rfl, q1, q2⟩ := hs
    have h3 : ¬ I 0 2 ≤ j := by omega
    have h8 := (hi.thing hj).2
    refine ⟨(nI (j + 1), upd (upd w1 (15 + j) (nI (I 7 j))) (19 + j) (nI (I 8 j))), fun K rec => ?_, _, rfl, fun i hi2 => ?_, fun i h1 h2 => ?_⟩
    · simp (disch := omega) only [BX12_fallsNight_81, un2, nI_leI, h3, if_false, c15_add, c19_add, gd_nI, nI_clamp, (ht j hj).1, (ht j hj).2, nI_1, jn]
      by_cases e : I 8 j = 0
      · rw [e, if_pos (show nI 0 = 0 from rfl)]
        rfl
      · have e1 : I 8 j = 1 := by omega
        rw [e1, if_neg (show ¬ nI 1 = 0 by decide)]
        rfl
    · by_cases e : i = j
      · subst e
        exact ⟨by rw [pk_un (by omega), pk_us], pk_us⟩
      · rw [pk_un (by omega), pk_un (by omega), pk_un (by omega), pk_un (by omega)]
        exact q1 i (by omega)
    · rw [pk_un (by omega), pk_un (by omega)]
      exact q2 i (by omega) (by omega)
  · obtain ⟨w1, rfl, q1, q2⟩ := hs
    refine ⟨w1, fun K rec => ?_, q1, q2⟩
    simp (disch := omega) only [BX12_fallsNight_81, un2, nI_leI, Nat.le_refl, if_true]
theorem falls_4 {N st : Nat} {I : Tb} {how : Nat → Int32} (hN : 64 < N) (hi : ib I) (hs : st < 1000) (hh : ∀ i, i < I 0 1 → how i = nI (I 5 i)) (w : Nat → Int32) : ∃ w1 : Nat → Int32, lp (BX12_fallsNight_144 (nI (I 0 1)) (nI st) how) N (0, w) = some w1 ∧ w1 50 = nI st ∧ (∀ i, i < I 0 1 → w1 (23 + i) = nI (hnf I st i)) ∧ ∀ i, ¬ (23 ≤ i ∧ i < 23 + I 0 1) → i ≠ 50 → w1 i = w i := by
  have hD := hi.D
  refine lp_go (X := fun o => ∃ w1 : Nat → Int32, o = some w1 ∧ w1 50 = nI st ∧ (∀ i, i < I 0 1 → w1 (23 + i) = nI (hnf I st i)) ∧ ∀ i, ¬ (23 ≤ i ∧ i < 23 + I 0 1) → i ≠ 50 → w1 i = w i) (fun j s => ∃ w1, s = (nI j, w1) ∧ (∀ i, i < j → w1 (23 + i) = nI (hnf I st i)) ∧ ∀ i, ¬ (23 ≤ i ∧ i < 23 + j) → w1 i = w i) (I 0 1) (by omega) ⟨w, rfl, fun i hi => absurd hi (Nat.not_lt_zero i), fun i _ => rfl⟩ (fun j hj s hs2 => ?_) (fun s hs2 rec => ?_)
  · obtain ⟨w1, rfl, q1, q2⟩ := hs2
    have h3 : ¬ I 0 1 ≤ j := by omega
    refine ⟨(nI (j + 1), upd w1 (23 + j) (nI (hnf I st j))), fun rec => ?_, _, rfl, fun i hi2 => ?_, fun i h1 => ?_⟩
    · have e1 : (1 : Int32) + 2 * nI j = nI (1 + 2 * j) := by rw [show (1 : Int32) = nI 1 from rfl, show (2 : Int32) = nI 2 from rfl, pk_mul, nI_add]
      have e2 : (2 : Int32) + 2 * nI j = nI (2 + 2 * j) := by rw [show (2 : Int32) = nI 2 from rfl, pk_mul, nI_add]
      unfold hnf
      simp (disch := omega) only [BX12_fallsNight_144, un2, nI_leI, h3, if_false, e1, e2, c23_add, gd_nI, nI_clamp, nI_eq, hh j hj, nI_1, jn]
      by_cases c1 : st = 1 + 2 * j
      · rw [if_pos c1, if_pos c1]; rfl
      · rw [if_neg c1, if_neg c1]
        by_cases c2 : st = 2 + 2 * j
        · rw [if_pos c2, if_pos c2]; rfl
        · rw [if_neg c2, if_neg c2]
    · by_cases e : i = j
      · subst e; exact pk_us
      · rw [pk_un (by omega)]; exact q1 i (by omega)
    · rw [pk_un (by omega)]; exact q2 i (by omega)
  · obtain ⟨w1, rfl, q1, q2⟩ := hs2
    refine ⟨upd w1 50 (nI st), ?_, pk_us, fun i hi2 => by rw [pk_un (by omega)]; exact q1 i hi2, fun i h1 h2 => by rw [pk_un h2]; exact q2 i h1⟩
    simp (disch := omega) only [BX12_fallsNight_144, un2, nI_leI, Nat.le_refl, if_true]
    exact gd_nI (k := 50) (n := 51) _ (by omega) (by omega)
theorem fallsNight_ok {N st : Nat} {I : Tb} {how lies isFull bed : Nat → Int32} (hN : 64 < N) (hi : ib I) (hs : st < 1000) (hh : ∀ i, i < I 0 1 → how i = nI (I 5 i)) (ht : ∀ i, i < I 0 2 → lies i = nI (I 7 i) ∧ isFull i = nI (I 8 i)) (hb : ∀ i, i < I 0 4 → bed i = nI (I 14 i)) (w : Nat → Int32) :
    ∃ w', fX12_fallsNight N (nI st) (nI (I 0 1)) (nI (I 0 2)) (nI (I 0 4)) w how lies isFull bed = some w' ∧ RD I st w' ∧ ∀ i, i < 3 → w' (12 + i) = w (12 + i) := by
  have hD := hi.D
  have hS := hi.S
  have hT := hi.T
  have hL := hi.L
  obtain ⟨w1, ⟨a1, a2⟩, e1⟩ := falls_1 hN w
  obtain ⟨w2, ⟨b1, b2⟩, e2⟩ := falls_2 hN hi hb w1
  obtain ⟨w3, ⟨c1, c2⟩, e3⟩ := falls_3 hN hi ht w2
  obtain ⟨w4, e4, d1, d2, d3⟩ := falls_4 hN hi hs hh w3
  unfold fX12_fallsNight
  rw [e1]
  dsimp only [un1]
  rw [e2]
  dsimp only [un1]
  rw [e3]
  dsimp only [un1]
  refine ⟨w4, e4, ⟨?_, d1, d2, fun i hi2 => ?_, fun i hi2 => ⟨?_, ?_, ?_, ?_⟩, fun i hi2 => ⟨?_, ?_⟩, fun i hi2 => ⟨?_, ?_⟩, fun i hi2 => ?_⟩, fun i hi2 => ?_⟩
  · rw [d3 49 (by omega) (by omega), c2 49 (by omega) (by omega), b2 49 (by omega) (by omega)]; exact a1 49 (by omega) (by omega)
  · rw [d3 _ (by omega) (by omega), c2 _ (by omega) (by omega), b2 _ (by omega) (by omega)]; exact a1 _ (by omega) (by omega)
  · rw [d3 _ (by omega) (by omega), c2 _ (by omega) (by omega), b2 _ (by omega) (by omega)]; exact a1 _ (by omega) (by omega)
  · rw [d3 _ (by omega) (by omega), c2 _ (by omega) (by omega)]; exact (b1 i hi2).1
  · rw [d3 _ (by omega) (by omega), c2 _ (by omega) (by omega)]; exact (b1 i hi2).2
  · rw [d3 _ (by omega) (by omega), c2 _ (by omega) (by omega), b2 _ (by omega) (by omega)]; exact a1 _ (by omega) (by omega)
  · rw [d3 _ (by omega) (by omega)]; exact (c1 i hi2).1
  · rw [d3 _ (by omega) (by omega)]; exact (c1 i hi2).2
  · rw [d3 _ (by omega) (by omega), c2 _ (by omega) (by omega), b2 _ (by omega) (by omega)]; exact a1 _ (by omega) (by omega)
  · rw [d3 _ (by omega) (by omega), c2 _ (by omega) (by omega), b2 _ (by omega) (by omega)]; exact a1 _ (by omega) (by omega)
  · have hz : zi I i := hi2
    unfold zi at hz
    rw [d3 i (by omega) (by omega), c2 i (by omega) (by omega), b2 i (by omega) (by omega)]; exact a1 i (by omega) (by omega)
  · rw [d3 _ (by omega) (by omega), c2 _ (by omega) (by omega), b2 _ (by omega) (by omega)]; exact a2 _ (by omega) (by omega)
/-- a night from nightfall on, as the reference plays it -/
theorem plays_ok {N st m : Nat} {I : Tb} {dr : Nat → Nat} {w how lies isFull bed isTold av what thn' met doorA doorB falls creak cold listens far : Nat → Int32} (fr : Nat → Int32) (hN : 64 < N) (hi : ib I) (hs : st < 1000) (hm : m ≤ 40) (hh : ∀ i, i < I 0 1 → how i = nI (I 5 i)) (ht : ∀ i, i < I 0 2 → lies i = nI (I 7 i) ∧ isFull i = nI (I 8 i)) (hb : ∀ i, i < I 0 4 → bed i = nI (I 14 i)) (hR : RS I isTold av what thn' met) (hH : RH I doorA doorB falls creak cold listens far) (hd : ∀ s, s < I 0 4 → w (12 + s) = nI (dr s)) (hdr : ∀ s, s < I 0 4 → dr s < I 0 3) :
    ∃ w' fr', fX12_plays N (nI st) (nI m) (nI (I 0 6)) (nI (I 0 0)) (nI (I 0 1)) (nI (I 0 2)) (nI (I 0 4)) (nI (I 0 5)) w how lies isFull bed isTold av thn' what doorA doorB fr falls creak listens far cold met = some (w', fr') ∧ RN I (pas I (nf I st dr) (min m (I 0 6))) w' := by
  have hS := hi.S
  obtain ⟨w1, e1, r1, r2⟩ := fallsNight_ok (N := N) hN hi hs hh ht hb w
  have R1 : RN I (nf I st dr) w1 := r1.rn (fun s hs2 => by rw [r2 s (by omega)]; exact hd s hs2)
  obtain ⟨w2, fr2, e2, R2⟩ := passAll_ok (N := N) m fr hN hi (nb_nf hi st hdr) hm (Nat.zero_le _) hR hH R1
  unfold fX12_plays
  rw [e1, bd_some]
  dsimp only [un1]
  rw [e2, bd_some]
  exact ⟨w2, fr2, rfl, R2⟩
