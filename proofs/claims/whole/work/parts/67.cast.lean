/-! casts -/
def dg (I : Tb) (c s : Nat) : Nat := c / I 0 3 ^ (I 0 4 - 1 - s) % I 0 3
def cnm (I : Tb) : Nat := I 0 3 ^ I 0 4
/-- an inn with sleepers has dreams -/
theorem ib.E1 {I : Tb} (hi : ib I) (hs : 0 < I 0 4) : 0 < I 0 3 := by
  have := (hi.sleeper hs).2
  omega
theorem pow_small : ∀ E, E < 5 → ∀ S, S < 4 → E ^ S ≤ 64 := by decide
theorem cnm_le {I : Tb} (hi : ib I) : cnm I ≤ 64 := pow_small (I 0 3) (by have := hi.E; omega) (I 0 4) (by have := hi.S; omega)
theorem dg_lt {I : Tb} (h : 0 < I 0 3) (c s : Nat) : dg I c s < I 0 3 := Nat.mod_lt _ h
theorem dg_0 {I : Tb} (s : Nat) : dg I 0 s = 0 := by
  unfold dg
  rw [Nat.zero_div, Nat.zero_mod]
theorem castMany_ok {N : Nat} {I : Tb} (hN : 64 < N) (hi : ib I) : fX12_castMany N (nI (I 0 3)) (nI (I 0 4)) = some (nI (cnm I)) := by
  have hS := hi.S
  unfold fX12_castMany cnm
  refine lp_for (fun j => (nI (I 0 3 ^ j), nI j)) (I 0 4) N (by omega) (fun j hj rec => ?_) (fun rec => ?_)
  · have h3 : ¬ I 0 4 ≤ j := by omega
    simp (disch := omega) only [BX12_castMany_4, un2, nI_leI, h3, if_false, pk_mul, nI_1]
    rfl
  · simp (disch := omega) only [BX12_castMany_4, un2, nI_leI, Nat.le_refl, if_true]
theorem cI_lt {k : Nat} (h : k < 2 ^ 31) : cI k < 0 ↔ k = 0 := by
  unfold cI
  by_cases c : k = 0
  · rw [if_pos c]; exact ⟨fun _ => c, fun _ => by decide⟩
  · rw [if_neg c]; exact ⟨fun e => ((nI_lt0 (by omega)).mp e).elim, fun e => absurd e c⟩
theorem cI_dec {k : Nat} (h : 0 < k) : cI k + (-1) = cI (k - 1) := by
  unfold cI
  rw [if_neg (by omega)]
  by_cases c : k - 1 = 0
  · rw [c, if_pos rfl]; decide
  · rw [if_neg c, show nI (k - 1) + (-1) = nI (k - 1) - nI 1 from by rw [Int32.sub_eq_add_neg]; rfl, pk_sub (by omega)]
theorem cI_ini (S : Nat) : nI S - 1 = cI S := by
  unfold cI
  by_cases c : S = 0
  · rw [if_pos c, c]; decide
  · rw [if_neg c, show (1 : Int32) = nI 1 from rfl, pk_sub (by omega)]
theorem dvn {ρ : Type} {y : Nat} (h : 0 < y) (h2 : y < 2 ^ 31) (k : Option ρ) : dv (nI y) k = k := if_neg (fun e => by
  have := (nI_eq h2 (by decide)).mp (e.trans (il 0))
  omega)
theorem casts_ok {N c : Nat} {I : Tb} (hN : 64 < N) (hi : ib I) (hE : 0 < I 0 3) (hc : c < 64) (w : Nat → Int32) :
    ∃ w', fX12_casts N (nI c) (nI (I 0 3)) (nI (I 0 4)) w = some w' ∧ (∀ s, s < I 0 4 → w' (12 + s) = nI (dg I c s)) ∧ ∀ i, (i < 12 ∨ 15 ≤ i) → w' i = w i := by
  have hS := hi.S
  have hE4 := hi.E
  unfold fX12_casts
  rw [cI_ini]
  refine lp_go (X := fun o => ∃ w' : Nat → Int32, o = some w' ∧ (∀ s, s < I 0 4 → w' (12 + s) = nI (dg I c s)) ∧ ∀ i, (i < 12 ∨ 15 ≤ i) → w' i = w i) (fun j q => ∃ w' : Nat → Int32, q = (nI (c / I 0 3 ^ j), cI (I 0 4 - j), w') ∧ (∀ s, s < I 0 4 → I 0 4 - j ≤ s → w' (12 + s) = nI (dg I c s)) ∧ ∀ i, (i < 12 ∨ 15 ≤ i) → w' i = w i) (I 0 4) (by omega) ⟨w, by rw [Nat.pow_zero, Nat.div_one]; rfl, fun s h1 h2 => by omega, fun i _ => rfl⟩ (fun j hj q hq => ?_) (fun q hq rec => ?_)
  · obtain ⟨w', rfl, q1, q2⟩ := hq
    have hlt : c / I 0 3 ^ j < 64 := Nat.lt_of_le_of_lt (Nat.div_le_self _ _) hc
    have hs : cI (I 0 4 - j) = nI (I 0 4 - 1 - j) := by
      obtain ⟨k, hk⟩ : ∃ k, I 0 4 - j = k + 1 := ⟨I 0 4 - j - 1, by omega⟩
      rw [hk, cI_s]
      congr 1
      omega
    refine ⟨(nI (c / I 0 3 ^ (j + 1)), cI (I 0 4 - (j + 1)), upd w' (12 + (I 0 4 - 1 - j)) (nI (c / I 0 3 ^ j % I 0 3))), fun rec => ?_, _, rfl, fun s h1 h2 => ?_, fun i hi2 => by rw [pk_un (by omega)]; exact q2 i hi2⟩
    · have hlt0 : ¬ cI (I 0 4 - j) < 0 := fun e => absurd ((cI_lt (by omega)).mp e) (by omega)
      simp only [BX12_casts_12, un3, hlt0, if_false]
      rw [dvn hE (by omega), dvn hE (by omega), cI_dec (by omega), hs, c12_add, gd_nI _ (by omega) (by omega), nI_clamp (by omega), pk_div (by omega) hE (by omega), ← pk_div (by omega) hE (by omega), pk_rem (by omega) hE (by omega), pk_div (by omega) hE (by omega), Nat.div_div_eq_div_mul, show I 0 3 ^ j * I 0 3 = I 0 3 ^ (j + 1) from rfl, show I 0 4 - j - 1 = I 0 4 - (j + 1) by omega]
    · by_cases e : s = I 0 4 - 1 - j
      · rw [e, pk_us]
        unfold dg
        rw [show I 0 4 - 1 - (I 0 4 - 1 - j) = j by omega]
      · rw [pk_un (by omega)]; exact q1 s h1 (by omega)
  · obtain ⟨w', rfl, q1, q2⟩ := hq
    refine ⟨w', ?_, fun s hs => q1 s hs (by omega), q2⟩
    have hlt0 : cI (I 0 4 - I 0 4) < 0 := (cI_lt (by omega)).mpr (by omega)
    simp only [BX12_casts_12, un3, hlt0, if_true]
theorem r_dreamIn_ok {N c s : Nat} {I : Tb} (hN : 64 < N) (hi : ib I) (hE : 0 < I 0 3) (hc : c < 64) (hs : s < I 0 4) : fX12_dreamIn N (nI c) (nI s) (nI (I 0 3)) (nI (I 0 4)) = some (nI (dg I c s)) := by
  have hS := hi.S
  have hE4 := hi.E
  unfold fX12_dreamIn
  rw [show (1 : Int32) = nI 1 from rfl, pk_sub (by omega)]
  have h := lp_for (B := BX12_dreamIn_13 (nI s) (nI (I 0 3))) (fun j => (nI (c / I 0 3 ^ j), nI (I 0 4 - 1 - j))) (r := some (nI (dg I c s))) (I 0 4 - 1 - s) N (by omega) (fun j hj rec => ?_) (fun rec => ?_)
  · rw [Nat.pow_zero, Nat.div_one] at h
    exact h
  · have h3 : ¬ I 0 4 - 1 - j ≤ s := by omega
    have hlt : c / I 0 3 ^ j < 64 := Nat.lt_of_le_of_lt (Nat.div_le_self _ _) hc
    simp (disch := omega) only [BX12_dreamIn_13, un2, nI_leI, h3, if_false]
    rw [dvn hE (by omega), pk_div (by omega) hE (by omega), Nat.div_div_eq_div_mul, show nI (I 0 4 - 1 - j) + (-1) = nI (I 0 4 - 1 - (j + 1)) from by
      rw [← cI_s (I 0 4 - 1 - j), cI_dec (by omega), ← cI_s (I 0 4 - 1 - (j + 1))]
      congr 1
      omega]
    rfl
  · have h3 : I 0 4 - 1 - (I 0 4 - 1 - s) ≤ s := by omega
    have hlt : c / I 0 3 ^ (I 0 4 - 1 - s) < 64 := Nat.lt_of_le_of_lt (Nat.div_le_self _ _) hc
    simp (disch := omega) only [BX12_dreamIn_13, un2, nI_leI, h3, if_true]
    rw [dvn hE (by omega), pk_rem (by omega) hE (by omega)]
    rfl
/-- one more: the digits from the last on -/
def odB (E S c j i : Nat) : Bool := if 0 < c ∧ c < E ^ S ∧ j < S ∧ c % E ^ j = 0 then (if (c - 1) / E ^ j % E + 1 < E then (decide (c / E ^ j % E = (c - 1) / E ^ j % E + 1) && if i < S ∧ j < i then decide (c / E ^ i % E = (c - 1) / E ^ i % E) else true) else (decide (c / E ^ j % E = 0) && decide (c % E ^ (j + 1) = 0))) else true
theorem odo_all : ((List.range 5).all fun E => (List.range 4).all fun S => (List.range 64).all fun c => (List.range 4).all fun j => (List.range 4).all fun i => odB E S c j i) = true := by decide +kernel
theorem odo_at {E S c j i : Nat} (h1 : E < 5) (h2 : S < 4) (h3 : c < 64) (h4 : j < 4) (h5 : i < 4) : odB E S c j i = true := by
  have a1 := List.all_eq_true.mp odo_all E (List.mem_range.mpr h1)
  have a2 := List.all_eq_true.mp a1 S (List.mem_range.mpr h2)
  have a3 := List.all_eq_true.mp a2 c (List.mem_range.mpr h3)
  have a4 := List.all_eq_true.mp a3 j (List.mem_range.mpr h4)
  exact List.all_eq_true.mp a4 i (List.mem_range.mpr h5)
theorem odo {E : Nat} (h1 : E < 5) {S : Nat} (h2 : S < 4) {c : Nat} (h3 : c < 64) (h5 : 0 < c) (h6 : c < E ^ S) (j : Nat) (h7 : j < S) (h8 : c % E ^ j = 0) :
    ((c - 1) / E ^ j % E + 1 < E → c / E ^ j % E = (c - 1) / E ^ j % E + 1 ∧ ∀ i, i < S → j < i → c / E ^ i % E = (c - 1) / E ^ i % E) ∧ (¬ (c - 1) / E ^ j % E + 1 < E → c / E ^ j % E = 0 ∧ c % E ^ (j + 1) = 0) := by
  have key : ∀ i, i < 4 → odB E S c j i = true := fun i hi => odo_at h1 h2 h3 (by omega) hi
  unfold odB at key
  refine ⟨fun q => ⟨?_, fun i hi hj => ?_⟩, fun q => ?_⟩
  · have k := key 0 (by omega)
    rw [if_pos ⟨h5, h6, h7, h8⟩, if_pos q, Bool.and_eq_true] at k
    exact of_decide_eq_true k.1
  · have k := key i (by omega)
    rw [if_pos ⟨h5, h6, h7, h8⟩, if_pos q, Bool.and_eq_true, if_pos ⟨hi, hj⟩] at k
    exact of_decide_eq_true k.2
  · have k := key 0 (by omega)
    rw [if_pos ⟨h5, h6, h7, h8⟩, if_neg q, Bool.and_eq_true] at k
    exact ⟨of_decide_eq_true k.1, of_decide_eq_true k.2⟩
theorem odo_end : ∀ E, E < 5 → ∀ S, S < 4 → ∀ c, c < 64 → 0 < c → c < E ^ S → ¬ c % E ^ S = 0 := by decide +kernel
theorem fillFrom_ok {N c : Nat} {I : Tb} {dreams : Nat → Int32} (hN : 64 < N) (hi : ib I) (hE : 0 < I 0 3) (h0 : 0 < c) (hc : c < cnm I) (hd : ∀ s, s < I 0 4 → dreams (3 * (c - 1) + s) = nI (dg I (c - 1) s)) :
    ∃ d', fX0_fillFromBefore N (nI c) dreams (nI (I 0 3)) (nI (I 0 4)) = some d' ∧ (∀ s, s < I 0 4 → d' (3 * c + s) = nI (dg I c s)) ∧ ∀ i, i < 3 * c → d' i = dreams i := by
  have hS := hi.S
  have hE4 := hi.E
  have hcl := cnm_le hi
  have hod := odo (E := I 0 3) (by omega) (S := I 0 4) (by omega) (c := c) (by omega) h0 hc
  have hend := odo_end (I 0 3) (by omega) (I 0 4) (by omega) c (by omega) h0 hc
  have e3 : (nI c * 3 : Int32) = nI (3 * c) := by rw [show (3 : Int32) = nI 3 from rfl, pk_mul, Nat.mul_comm]
  have e33 : (nI c * 3 - 3 : Int32) = nI (3 * (c - 1)) := by
    rw [e3, show (3 : Int32) = nI 3 from rfl, pk_sub (by omega)]
    congr 1
    omega
  unfold fX0_fillFromBefore
  rw [e33, e3, cI_ini]
  have hcp : ∀ K : Option (Nat → Int32), cpg (nI (3 * (c - 1))) (nI (3 * c)) 3 192 192 K = K := by
    intro K
    unfold cpg
    rw [if_neg]
    intro q
    rw [nI_clamp (by omega), nI_clamp (by omega), show (3 : Int32).toNatClampNeg = 3 by decide] at q
    rcases q with q | q | q | q | q
    · exact (nI_lt0 (by omega)).mp q
    · exact (nI_lt0 (by omega)).mp q
    · exact absurd q (by decide)
    · omega
    · omega
  rw [hcp, nI_clamp (by omega), nI_clamp (by omega), show (3 : Int32).toNatClampNeg = 3 by decide]
  have hrow : ∀ s, s < I 0 4 → va_cpy dreams dreams (3 * (c - 1)) (3 * c) 3 (3 * c + s) = nI (dg I (c - 1) s) := fun s hs => by
    unfold va_cpy
    rw [if_pos (by omega), show 3 * (c - 1) + (3 * c + s - 3 * c) = 3 * (c - 1) + s by omega]
    exact hd s hs
  have hold : ∀ i, i < 3 * c → va_cpy dreams dreams (3 * (c - 1)) (3 * c) 3 i = dreams i := fun i hi2 => by
    unfold va_cpy
    rw [if_neg (by omega)]
  generalize va_cpy dreams dreams (3 * (c - 1)) (3 * c) 3 = d0 at hrow hold
  -- the carry goes on while it must
  have key : ∀ (k j M : Nat) (d : Nat → Int32), j + k = I 0 4 → k < M → c % I 0 3 ^ j = 0 → (∀ s, s < I 0 4 → I 0 4 - j ≤ s → d (3 * c + s) = nI (dg I c s)) → (∀ s, s < I 0 4 - j → d (3 * c + s) = nI (dg I (c - 1) s)) → (∀ i, i < 3 * c → d i = dreams i) → ∃ d', lp (BX0_fillFromBefore_30 (nI c) (nI (I 0 3))) M (cI (I 0 4 - j), d) = some d' ∧ (∀ s, s < I 0 4 → d' (3 * c + s) = nI (dg I c s)) ∧ ∀ i, i < 3 * c → d' i = dreams i := by
    intro k
    induction k with
    | zero =>
      intro j M d h1 h2 h3 h4 h5 h6
      have e : j = I 0 4 := by omega
      rw [e] at h3
      exact absurd h3 hend
    | succ k ih =>
      intro j M d h1 h2 h3 h4 h5 h6
      cases M with
      | zero => omega
      | succ M =>
        have hs : cI (I 0 4 - j) = nI (I 0 4 - 1 - j) := by
          obtain ⟨q, hq⟩ : ∃ q, I 0 4 - j = q + 1 := ⟨I 0 4 - j - 1, by omega⟩
          rw [hq, cI_s]
          congr 1
          omega
        obtain ⟨o1, o2⟩ := hod j (by omega) h3
        have hdj : d (3 * c + (I 0 4 - 1 - j)) = nI ((c - 1) / I 0 3 ^ j % I 0 3) := by
          rw [h5 _ (by omega)]
          unfold dg
          rw [show I 0 4 - 1 - (I 0 4 - 1 - j) = j by omega]
        have hml : (c - 1) / I 0 3 ^ j % I 0 3 < I 0 3 := Nat.mod_lt _ hE
        have hlt0 : ¬ cI (I 0 4 - j) < 0 := fun e => absurd ((cI_lt (by omega)).mp e) (by omega)
        have stp : BX0_fillFromBefore_30 (nI c) (nI (I 0 3)) (lp (BX0_fillFromBefore_30 (nI c) (nI (I 0 3))) M) (cI (I 0 4 - j), d) = if I 0 3 ≤ (c - 1) / I 0 3 ^ j % I 0 3 + 1 then lp (BX0_fillFromBefore_30 (nI c) (nI (I 0 3))) M (cI (I 0 4 - (j + 1)), upd (upd d (3 * c + (I 0 4 - 1 - j)) (nI ((c - 1) / I 0 3 ^ j % I 0 3 + 1))) (3 * c + (I 0 4 - 1 - j)) 0) else some (upd d (3 * c + (I 0 4 - 1 - j)) (nI ((c - 1) / I 0 3 ^ j % I 0 3 + 1))) := by
          simp only [BX0_fillFromBefore_30, un2, hlt0, if_false]
          rw [cI_dec (by omega), hs, e3, nI_add]
          simp (disch := omega) only [gd_nI, nI_clamp]
          rw [hdj, nI_1, pk_us]
          simp (disch := omega) only [nI_leI]
          rw [show I 0 4 - j - 1 = I 0 4 - (j + 1) by omega]
        have stp2 : lp (BX0_fillFromBefore_30 (nI c) (nI (I 0 3))) (M + 1) (cI (I 0 4 - j), d) = _ := stp
        rw [stp2]
        by_cases cc : (c - 1) / I 0 3 ^ j % I 0 3 + 1 < I 0 3
        · obtain ⟨p1, p2⟩ := o1 cc
          rw [if_neg (by omega)]
          refine ⟨_, rfl, fun s hs2 => ?_, fun i hi2 => by rw [pk_un (by omega)]; exact h6 i hi2⟩
          by_cases e : s = I 0 4 - 1 - j
          · rw [e, pk_us]
            unfold dg
            rw [show I 0 4 - 1 - (I 0 4 - 1 - j) = j by omega, p1]
          · rw [pk_un (by omega)]
            rcases Nat.lt_or_ge s (I 0 4 - j) with q | q
            · rw [h5 s q]
              unfold dg
              rw [p2 (I 0 4 - 1 - s) (by omega) (by omega)]
            · exact h4 s hs2 q
        · obtain ⟨p1, p2⟩ := o2 cc
          rw [if_pos (by omega), fa_upd_twice]
          refine ih (j + 1) M _ (by omega) (by omega) p2 (fun s hs2 hs3 => ?_) (fun s hs2 => by rw [pk_un (by omega)]; exact h5 s (by omega)) (fun i hi2 => by rw [pk_un (by omega)]; exact h6 i hi2)
          by_cases e : s = I 0 4 - 1 - j
          · rw [e, pk_us]
            unfold dg
            rw [show I 0 4 - 1 - (I 0 4 - 1 - j) = j by omega, p1]
            rfl
          · rw [pk_un (by omega)]
            exact h4 s hs2 (by omega)
  exact key (I 0 4) 0 N d0 (by omega) (by omega) (by rw [Nat.pow_zero, Nat.mod_one]) (fun s h1 h2 => by omega) (fun s hs => hrow s (by omega)) hold
theorem moveTo_ok {N : Nat} {I : Tb} {dreams : Nat → Int32} (hN : 64 < N) (hi : ib I) (h0 : ∀ i, i < 3 → dreams i = 0) (tried : Nat → Int32) :
    ∃ d' tr', fX0_moveTo N (nI (I 0 3)) (nI (I 0 4)) dreams tried = some (nI (cnm I), d', tr') ∧ (∀ c s, c < cnm I → s < I 0 4 → d' (3 * c + s) = nI (dg I c s)) ∧ (∀ i, i < 3 → d' i = 0) ∧ ∀ i, i < 21 → tr' i = 0 := by
  have hS := hi.S
  have hcl := cnm_le hi
  have hc1 : 0 < cnm I := by
    by_cases c : I 0 4 = 0
    · unfold cnm
      rw [c]
      exact Nat.one_pos
    · exact Nat.pow_pos (hi.E1 (by omega))
  have hEc : 1 < cnm I → 0 < I 0 3 := fun h => by
    by_cases c : I 0 4 = 0
    · unfold cnm at h
      rw [c, Nat.pow_zero] at h
      omega
    · exact hi.E1 (by omega)
  unfold fX0_moveTo
  have a0 : ∀ K : (Nat → Int32) → Option (Int32 × (Nat → Int32) × (Nat → Int32)), lp (BX0_moveTo_7 K) N (0, tried) = K (fa_fill (fun _ => 0) tried 21) := by
    intro K
    refine lp_for (fun j => (nI j, fa_fill (fun _ => 0) tried j)) 21 N (by omega) (fun j hj rec => ?_) (fun rec => ?_)
    · have h1 : ¬ (21 : Int32) ≤ nI j := fun e => absurd ((nI_leI (a := 21) (by omega) (by omega)).mp e) (by omega)
      have u := fa_fill_succ (fun _ => (0 : Int32)) tried j
      simp (disch := omega) only [BX0_moveTo_7, un2, h1, if_false, gd_nI, nI_clamp, nI_1, u]
    · have h1 : (21 : Int32) ≤ nI 21 := (nI_leI (a := 21) (by omega) (by omega)).mpr (Nat.le_refl _)
      simp (disch := omega) only [BX0_moveTo_7, un2, h1, if_true]
  have a1 : ∀ K : Int32 → Option (Int32 × (Nat → Int32) × (Nat → Int32)), lp (BX0_moveTo_33 (nI (I 0 4)) (nI (I 0 3)) K) N (0, 1) = K (nI (cnm I)) := by
    intro K
    refine lp_for (fun j => (nI j, nI (I 0 3 ^ j))) (I 0 4) N (by omega) (fun j hj rec => ?_) (fun rec => ?_)
    · have h3 : ¬ I 0 4 ≤ j := by omega
      simp (disch := omega) only [BX0_moveTo_33, un2, nI_leI, h3, if_false, pk_mul, nI_1]
      rfl
    · simp (disch := omega) only [BX0_moveTo_33, un2, nI_leI, Nat.le_refl, if_true]
      rfl
  rw [a0]
  dsimp only [un1]
  rw [a1]
  dsimp only [un1]
  have key : ∀ (k c M : Nat) (d : Nat → Int32), c + k = cnm I → k < M → 0 < c → (∀ c' s, c' < c → s < I 0 4 → d (3 * c' + s) = nI (dg I c' s)) → (∀ i, i < 3 → d i = 0) → ∃ d', lp (BX0_moveTo_68 (nI (cnm I)) (fa_fill (fun _ => 0) tried 21) N (nI (I 0 3)) (nI (I 0 4))) M (nI c, d) = some (nI (cnm I), d', fa_fill (fun _ => 0) tried 21) ∧ (∀ c s, c < cnm I → s < I 0 4 → d' (3 * c + s) = nI (dg I c s)) ∧ ∀ i, i < 3 → d' i = 0 := by
    intro k
    induction k with
    | zero =>
      intro c M d h1 h2 h3 h4 h5
      cases M with
      | zero => omega
      | succ M =>
        have e : c = cnm I := by omega
        refine ⟨d, ?_, fun c' s hc' hs => h4 c' s (by omega) hs, h5⟩
        show BX0_moveTo_68 _ _ _ _ _ _ _ = _
        rw [e]
        simp (disch := omega) only [BX0_moveTo_68, un2, nI_leI, Nat.le_refl, if_true]
    | succ k ih =>
      intro c M d h1 h2 h3 h4 h5
      cases M with
      | zero => omega
      | succ M =>
        obtain ⟨d', e1, e2, e3⟩ := fillFrom_ok (N := N) hN hi (hEc (by omega)) h3 (show c < cnm I by omega) (fun s hs => h4 (c - 1) s (by omega) hs)
        have h6 : ¬ cnm I ≤ c := by omega
        obtain ⟨d2, f1, f2, f3⟩ := ih (c + 1) M d' (by omega) (by omega) (by omega) (fun c' s hc' hs => by
          by_cases e : c' = c
          · rw [e]; exact e2 s hs
          · rw [e3 _ (by omega)]; exact h4 c' s (by omega) hs) (fun i hi2 => by rw [e3 i (by omega)]; exact h5 i hi2)
        refine ⟨d2, ?_, f2, f3⟩
        show BX0_moveTo_68 _ _ _ _ _ _ _ = _
        simp (disch := omega) only [BX0_moveTo_68, un2, nI_leI, h6, if_false, e1, bd_some, un1, nI_1]
        exact f1
  obtain ⟨d', e1, e2, e3⟩ := key (cnm I - 1) 1 N dreams (by omega) (by omega) (by omega) (fun c' s hc' hs => by
    have : c' = 0 := by omega
    subst this
    rw [dg_0, show 3 * 0 + s = s by omega, h0 s (by omega)]
    rfl) h0
  exact ⟨d', _, e1, e2, e3, fun i hi2 => fa_fill_in hi2⟩
