theorem sv_1 {I : Tb} {k : Nat} (h : I 9 k = 1) : sv I k 1 = hI (I 11 k) := by
  unfold sv
  rw [if_neg (by omega), if_neg (by omega), if_pos rfl]
theorem sv_0 {I : Tb} {k : Nat} (h : I 9 k = 1) : sv I k 0 = nI (I 10 k) := by
  unfold sv
  rw [if_neg (by omega), if_pos rfl]
theorem sv_2 {I : Tb} {k : Nat} (h : I 9 k = 1) : sv I k 2 = nI (I 12 k) := by
  unfold sv
  rw [if_neg (by omega), if_neg (by omega), if_neg (by omega), if_pos rfl]
theorem takes_ok {N : Nat} {I n : Tb} {been : Int32} {how passed dreamOf stateOf roomOf handOf awake thingIn full : Nat → Int32} {heardBy : Nat → Int64} {s t : Nat} (hN : 64 < N) (hi : ib I) (hb : nb I n) (hs : s < I 0 4) (ht : t < I 0 2) (h : CN I n been how passed dreamOf stateOf roomOf handOf awake thingIn full heardBy) :
    fX4_takes N (nI s) (nI t) thingIn roomOf handOf (nI (I 0 4)) = some (if n 8 t = n 5 s ∧ n 6 s = 0 ∧ ¬ hld I n t < I 0 4 then (1, upd handOf s (nI t)) else (0, handOf)) := by
  have hS := hi.S
  have hR := hi.R
  have hT := hi.T
  have hbs := hb.s hs
  have hbt := hb.t ht
  unfold fX4_takes
  simp (disch := omega) only [gd_nI, nI_clamp, h.q8 ht, h.q5 hs, h.q6 hs, nI_eq, hI_m2, holderOf_ok hN hi hb (show t < 4 by omega) h, bd_some, un1]
  by_cases c1 : n 8 t = n 5 s
  · by_cases c2 : n 6 s = 0
    · by_cases c3 : hld I n t < I 0 4
      · rw [if_pos c1, if_pos c2, if_pos c3, if_neg (fun e => (nI_neg2 (by omega)).mp e), if_neg (fun q => q.2.2 c3)]
      · rw [if_pos c1, if_pos c2, if_neg c3, if_pos rfl, if_pos ⟨c1, c2, c3⟩]
    · rw [if_pos c1, if_neg c2, if_neg (fun q => c2 q.2.1)]
  · rw [if_neg c1, if_neg (fun q => c1 q.1)]
theorem tips_ok {N : Nat} {I n : Tb} {been : Int32} {how passed dreamOf stateOf roomOf handOf awake thingIn full : Nat → Int32} {heardBy : Nat → Int64} {s t : Nat} (hi : ib I) (hb : nb I n) (hs : s < I 0 4) (ht : t < I 0 2) (h : CN I n been how passed dreamOf stateOf roomOf handOf awake thingIn full heardBy) :
    fX4_tips N (nI s) (nI t) thingIn roomOf full = some (if n 8 t = n 5 s ∧ n 9 t ≠ 0 then (1, upd full t (nI 0)) else (0, full)) := by
  have hS := hi.S
  have hR := hi.R
  have hT := hi.T
  have hbs := hb.s hs
  have hbt := hb.t ht
  unfold fX4_tips
  have e0 : (0 : Int32) = nI 0 := rfl
  simp (disch := omega) only [gd_nI, nI_clamp, h.q8 ht, h.q5 hs, h.q9 ht, nI_eq, e0]
  by_cases c1 : n 8 t = n 5 s
  · by_cases c2 : n 9 t = 0
    · rw [if_pos c1, if_pos c2, if_neg (fun q => q.2 c2)]
    · rw [if_pos c1, if_neg c2, if_pos ⟨c1, c2⟩]
  · rw [if_neg c1, if_neg (fun q => c1 q.1)]
theorem shuts_ok {N : Nat} {I n : Tb} {been : Int32} {how passed dreamOf stateOf roomOf handOf awake thingIn full one other : Nat → Int32} {heardBy : Nat → Int64} {s a : Nat} (hN : 64 < N) (hi : ib I) (hb : nb I n) (hs : s < I 0 4) (ha : a < I 0 0) (H1 : ∀ i, i < I 0 1 → one i = nI (I 3 i)) (H2 : ∀ i, i < I 0 1 → other i = nI (I 4 i)) (h : CN I n been how passed dreamOf stateOf roomOf handOf awake thingIn full heardBy) :
    fX4_shuts N (nI s) (nI a) roomOf (nI (I 0 1)) one other how = some (if dbt I (n 5 s) a < I 0 1 ∧ n 1 (dbt I (n 5 s) a) = 0 then (1, upd how (dbt I (n 5 s) a) (nI 1)) else (0, how)) := by
  have hS := hi.S
  have hR := hi.R
  have hD := hi.D
  have hbs := hb.s hs
  unfold fX4_shuts
  have hdb := doorBetween_ok (N := N) (D := I 0 1) (a := n 5 s) (b := a) (o := I 3) (t := I 4) (h1 := one) (h2 := other) hN hD (by omega) (by omega) H1 H2 (ib_o8 hi)
  rw [show fa_first (isB (I 3) (I 4) (n 5 s) a) (I 0 1) = dbt I (n 5 s) a from rfl] at hdb
  simp (disch := omega) only [gd_nI, nI_clamp, h.q5 hs]
  rw [hdb, bd_some]
  simp only [un1]
  by_cases c1 : dbt I (n 5 s) a < I 0 1
  · have hbd := hb.d c1
    rw [if_pos c1]
    have e0 : (0 : Int32) = nI 0 := rfl
    simp (disch := omega) only [nI_lt0, if_false, gd_nI, nI_clamp, h.q1 c1]
    by_cases c2 : n 1 (dbt I (n 5 s) a) = 0
    · rw [if_pos (by rw [c2]; rfl), if_pos ⟨c1, c2⟩]
      rfl
    · rw [if_neg (fun e => c2 ((nI_eq (by omega) (by omega)).mp (e.trans e0))), if_neg (fun q => c2 q.2)]
  · rw [if_neg c1, if_pos (by decide), if_neg (fun q => c1 q.1)]
theorem follow_ok {N : Nat} {I n : Tb} {been : Int32} {how passed dreamOf stateOf roomOf handOf awake thingIn full states one other falls creak cold listensIn g1 g2 : Nat → Int32} {heardBy : Nat → Int64} {s : Nat} (hN : 64 < N) (hi : ib I) (hb : nb I n) (h0 : 0 < n 0 0) (hs : s < I 0 4) (hsa : n 7 s = 0) (htd : I 9 (4 * n 3 s + n 4 s) = 1) (hst : CS I states) (hH : CH I one other falls creak cold listensIn) (h : CN I n been how passed dreamOf stateOf roomOf handOf awake thingIn full heardBy) :
    ∃ st' room' how' th' fu' hand' hb' aw' pas', fX4_follow N (nI s) been dreamOf stateOf (nI (I 0 4)) (nI (I 0 5)) states roomOf (nI (I 0 1)) one other how thingIn full handOf (nI (I 0 0)) (mf (I 0 0) (ds I (lks I (n 0 1))) g1) creak listensIn (mf (I 0 0) (ds I nolk) g2) heardBy cold awake falls passed = some (st', room', how', th', fu', hand', hb', aw', pas') ∧ CN I (dos I n s (4 * n 3 s + n 4 s)) been how' pas' dreamOf st' room' hand' aw' th' fu' hb' := by
  have hS := hi.S
  have hR := hi.R
  have hT := hi.T
  have hD := hi.D
  have hE := hi.E
  have hbs := hb.s hs
  have hk := hb.k hi hs
  obtain ⟨k1, k2, k3, k4, k5, k6⟩ := hi.told hk htd
  have o1 : fX2_ofState N (nI (n 3 s)) (nI (n 4 s)) 1 states = some (hI (I 11 (4 * n 3 s + n 4 s))) := by rw [← sv_1 htd]; exact ofState_ok (p := 1) (by omega) (by omega) (by omega) hst
  have o0 : fX2_ofState N (nI (n 3 s)) (nI (n 4 s)) 0 states = some (nI (I 10 (4 * n 3 s + n 4 s))) := by rw [← sv_0 htd]; exact ofState_ok (p := 0) (by omega) (by omega) (by omega) hst
  have o2 : fX2_ofState N (nI (n 3 s)) (nI (n 4 s)) 2 states = some (nI (I 12 (4 * n 3 s + n 4 s))) := by rw [← sv_2 htd]; exact ofState_ok (p := 2) (by omega) (by omega) (by omega) hst
  unfold fX4_follow
  rw [gd_nI _ (by omega) (by omega), gd_nI _ (by omega) (by omega), nI_clamp (by omega), h.q3 hs, h.q4 hs, o1, bd_some]
  dsimp only [un1]
  rw [o0, bd_some]
  dsimp only [un1, jn]
  generalize 4 * n 3 s + n 4 s = k at *
  have TH : ∀ {m : Tb} {how' pas' dr' st' room' hand' aw' th' fu' : Nat → Int32} {hb' : Nat → Int64}, CN I m been how' pas' dr' st' room' hand' aw' th' fu' hb' → CN I (thn I m s k) been how' pas' dr' (upd st' s (nI (I 12 k))) room' hand' aw' th' fu' hb' := fun hm => hm.stateOf s (I 12 k)
  unfold dos
  rcases Nat.lt_or_ge (I 10 k) 1 with a0 | a0
  · have e : I 10 k = 0 := by omega
    have kk := k5 (Or.inl e)
    rw [e, if_pos (show (0 : Nat) = 0 from rfl), if_pos (show nI 0 = 0 from rfl), gd_nI _ (by omega) (by omega), hI_p (by omega), h.q5 hs]
    by_cases c : n 5 s = I 11 k - 1
    · rw [if_pos c, if_pos (by rw [c]), if_neg (by decide)]
      dsimp only [un10]
      rw [if_neg (by decide), o2, bd_some]
      dsimp only [un1]
      rw [gd_nI _ (by omega) (by omega)]
      exact ⟨_, _, _, _, _, _, _, _, _, rfl, TH h⟩
    · rw [if_neg c, if_neg (fun e => c ((nI_eq (by omega) (by omega)).mp e)), if_pos rfl]
      obtain ⟨room', hb', st', aw', th', how', pas', e1, C1⟩ := goTo_ok (N := N) (g1 := g1) (g2 := g2) hN hi hb h0 hs (show I 11 k - 1 < I 0 0 by omega) hsa c hst hH h
      rw [e1, bd_some]
      dsimp only [un7, un10]
      rw [if_pos rfl]
      exact ⟨_, _, _, _, _, _, _, _, _, rfl, C1⟩
  · rw [if_neg (show ¬ I 10 k = 0 by omega), if_neg (fun e => absurd ((nI_eq (by omega) (by omega)).mp (e.trans (il 0))) (by omega))]
    rcases Nat.lt_or_ge (I 10 k) 2 with a1 | a1
    · have e : I 10 k = 1 := by omega
      have kk := k6 (Or.inl e)
      rw [e, if_pos rfl, if_pos (show nI 1 = 1 from rfl), hI_p (by omega), takes_ok hN hi hb hs (show I 11 k - 1 < I 0 2 by omega) h, bd_some]
      by_cases c : n 8 (I 11 k - 1) = n 5 s ∧ n 6 s = 0 ∧ ¬ hld I n (I 11 k - 1) < I 0 4
      · rw [if_pos c, if_pos c]
        dsimp only [un2, un10]
        rw [if_neg (by decide), o2, bd_some]
        dsimp only [un1]
        rw [gd_nI _ (by omega) (by omega)]
        have C1 := h.handOf s (I 11 k)
        rw [hI_p (by omega)] at C1
        exact ⟨_, _, _, _, _, _, _, _, _, rfl, TH C1⟩
      · rw [if_neg c, if_neg c]
        dsimp only [un2, un10]
        rw [if_pos rfl]
        exact ⟨_, _, _, _, _, _, _, _, _, rfl, h⟩
    · rw [if_neg (show ¬ I 10 k = 1 by omega), if_neg (fun e => absurd ((nI_eq (by omega) (by omega)).mp (e.trans (il 1))) (by omega))]
      rcases Nat.lt_or_ge (I 10 k) 3 with a2 | a2
      · have e : I 10 k = 2 := by omega
        rw [e, if_pos rfl, if_pos (show nI 2 = 2 from rfl)]
        unfold fX4_puts
        dsimp only [jn, un1]
        simp (disch := omega) only [gd_nI, nI_clamp, h.q6 hs, hI_m2]
        have C1 := h.handOf s 0
        by_cases c : n 6 s = 0
        · rw [if_pos c, if_pos c, zg_in _ (Or.inl rfl), bd_some]
          dsimp only [un2, un10]
          rw [if_pos rfl]
          rw [set2_id c] at C1
          exact ⟨_, _, _, _, _, _, _, _, _, rfl, C1⟩
        · rw [if_neg c, if_neg c, zg_in _ (Or.inr rfl), bd_some]
          dsimp only [un2, un10]
          rw [if_neg (by decide), o2, bd_some]
          dsimp only [un1]
          exact ⟨_, _, _, _, _, _, _, _, _, rfl, TH C1⟩
      · rw [if_neg (show ¬ I 10 k = 2 by omega), if_neg (fun e => absurd ((nI_eq (by omega) (by omega)).mp (e.trans (il 2))) (by omega))]
        rcases Nat.lt_or_ge (I 10 k) 4 with a3 | a3
        · have e : I 10 k = 3 := by omega
          have kk := k6 (Or.inr e)
          rw [e, if_pos rfl, if_pos (show nI 3 = 3 from rfl), hI_p (by omega), tips_ok hi hb hs (show I 11 k - 1 < I 0 2 by omega) h, bd_some]
          by_cases c : n 8 (I 11 k - 1) = n 5 s ∧ n 9 (I 11 k - 1) ≠ 0
          · rw [if_pos c, if_pos c]
            dsimp only [un2, un10]
            rw [if_neg (by decide), o2, bd_some]
            dsimp only [un1]
            rw [gd_nI _ (by omega) (by omega)]
            exact ⟨_, _, _, _, _, _, _, _, _, rfl, TH (h.full (I 11 k - 1) 0 (by omega))⟩
          · rw [if_neg c, if_neg c]
            dsimp only [un2, un10]
            rw [if_pos rfl]
            exact ⟨_, _, _, _, _, _, _, _, _, rfl, h⟩
        · rw [if_neg (show ¬ I 10 k = 3 by omega), if_neg (fun e => absurd ((nI_eq (by omega) (by omega)).mp (e.trans (il 3))) (by omega))]
          rcases Nat.lt_or_ge (I 10 k) 5 with a4 | a4
          · have e : I 10 k = 4 := by omega
            rw [e, if_pos rfl, if_pos (show nI 4 = 4 from rfl)]
            dsimp only [un10]
            rw [if_neg (by decide), o2, bd_some]
            dsimp only [un1]
            rw [gd_nI _ (by omega) (by omega)]
            exact ⟨_, _, _, _, _, _, _, _, _, rfl, TH h⟩
          · have e : I 10 k = 5 := by omega
            have kk := k5 (Or.inr e)
            rw [if_neg (show ¬ I 10 k = 4 by omega), if_neg (fun e => absurd ((nI_eq (by omega) (by omega)).mp (e.trans (il 4))) (by omega))]
            rw [e, if_pos (show nI 5 = 5 from rfl), hI_p (by omega), shuts_ok hN hi hb hs (show I 11 k - 1 < I 0 0 by omega) hH.1 hH.2.1 h, bd_some]
            by_cases c : dbt I (n 5 s) (I 11 k - 1) < I 0 1 ∧ n 1 (dbt I (n 5 s) (I 11 k - 1)) = 0
            · rw [if_pos c, if_pos c]
              dsimp only [un2, un10]
              rw [if_neg (by decide), o2, bd_some]
              dsimp only [un1]
              rw [gd_nI _ (by omega) (by omega)]
              exact ⟨_, _, _, _, _, _, _, _, _, rfl, TH (h.how (dbt I (n 5 s) (I 11 k - 1)) 1)⟩
            · rw [if_neg c, if_neg c]
              dsimp only [un2, un10]
              rw [if_pos rfl]
              exact ⟨_, _, _, _, _, _, _, _, _, rfl, h⟩
theorem dos_0 {I n : Tb} {s k i : Nat} : dos I n s k 0 i = n 0 i := by
  have h1 : ∀ {m : Tb}, thn I m s k 0 i = m 0 i := fun {m} => set2_f (by omega)
  have h2 : ∀ {a}, go I n s a 0 i = n 0 i := fun {a} => by
    unfold go
    split
    · unfold goTo
      have h3 : ∀ {r d}, goh n (gon I n s r d) s r 0 i = n 0 i := fun {r d} => by
        unfold goh gon
        split
        · rw [set2_f (by omega), set2_f (by omega), set2_f (by omega)]
        · rw [set2_f (by omega), set2_f (by omega), set2_f (by omega), set2_f (by omega)]
      split
      · unfold mta
        split
        · rw [mtK_f (by omega), crk_f (by omega)]; exact h3
        · rw [crk_f (by omega)]; exact h3
      · rw [set2_f (by omega), crk_f (by omega)]; exact h3
    · rfl
  unfold dos
  split
  · split
    · exact h1
    · exact h2
  · split
    · split
      · rw [h1, set2_f (by omega)]
      · rfl
    · split
      · split
        · rfl
        · rw [h1, set2_f (by omega)]
      · split
        · split
          · rw [h1, set2_f (by omega)]
          · rfl
        · split
          · exact h1
          · split
            · rw [h1, set2_f (by omega)]
            · rfl
theorem act_0 {I n : Tb} {s i : Nat} : act I n s 0 i = n 0 i := by
  unfold act
  split
  · exact dos_0
  · rfl
theorem mns_00 {I n : Tb} : ∀ j, mns I n j 0 0 = n 0 0 + 1
  | 0 => set2_s
  | j + 1 => by
    show act I (mns I n j) j 0 0 = _
    rw [act_0]; exact mns_00 j
theorem mns_01 {I n : Tb} : ∀ j, mns I n j 0 1 = n 0 1
  | 0 => set2_i (by omega)
  | j + 1 => by
    show act I (mns I n j) j 0 1 = _
    rw [act_0]; exact mns_01 j
theorem pas_00 {I n : Tb} : ∀ k, pas I n k 0 0 = n 0 0 + k
  | 0 => rfl
  | k + 1 => by
    show mns I (pas I n k) _ 0 0 = _
    rw [mns_00, pas_00 k]; omega
theorem pas_01 {I n : Tb} : ∀ k, pas I n k 0 1 = n 0 1
  | 0 => rfl
  | k + 1 => by
    show mns I (pas I n k) _ 0 1 = _
    rw [mns_01, pas_01 k]
theorem nb_pas {I n : Tb} (hi : ib I) (h : nb I n) : ∀ k, n 0 0 + k ≤ 40 → nb I (pas I n k)
  | 0, _ => h
  | k + 1, hk => nb_mns hi (nb_pas hi h k (by omega)) (by rw [pas_00]; omega) _ (Nat.le_refl _)
theorem lp_runK {σ ρ κ : Type} {B : (κ → Option ρ) → (σ → Option ρ) → σ → Option ρ} (P : Nat → σ → Prop) (e : Nat) (step : ∀ j, j < e → ∀ s, P j s → ∃ s', (∀ K rec, B K rec s = rec s') ∧ P (j + 1) s') : ∀ (k j N : Nat) (s : σ), j + k = e → k < N → P j s → ∃ s', (∀ K, ∃ rec, lp (B K) N s = B K rec s') ∧ P e s'
  | 0, j, N, s, hk, hN, h => by
    cases N with
    | zero => omega
    | succ N =>
      have : j = e := by omega
      subst this
      exact ⟨s, fun K => ⟨lp (B K) N, rfl⟩, h⟩
  | k + 1, j, N, s, hk, hN, h => by
    cases N with
    | zero => omega
    | succ N =>
      obtain ⟨s', h1, h2⟩ := step j (by omega) s h
      obtain ⟨s2, h3, h4⟩ := lp_runK P e step k (j + 1) N s' (by omega) (by omega) h2
      refine ⟨s2, fun K => ?_, h4⟩
      obtain ⟨rec, h5⟩ := h3 K
      refine ⟨rec, ?_⟩
      show B K (lp (B K) N) s = _
      rw [h1, h5]
/-- a loop with what comes behind it as K -/
theorem lp_goK {σ ρ κ : Type} {B : (κ → Option ρ) → (σ → Option ρ) → σ → Option ρ} (P : Nat → σ → Prop) (Q : κ → Prop) (e : Nat) {N : Nat} {s : σ} (hN : e < N) (h0 : P 0 s) (step : ∀ j, j < e → ∀ s, P j s → ∃ s', (∀ K rec, B K rec s = rec s') ∧ P (j + 1) s') (fin : ∀ s', P e s' → ∃ r, (∀ K rec, B K rec s' = K r) ∧ Q r) : ∃ r, Q r ∧ ∀ K, lp (B K) N s = K r := by
  obtain ⟨s', h1, h2⟩ := lp_runK P e step e 0 N s (by omega) hN h0
  obtain ⟨r, h3, h4⟩ := fin s' h2
  refine ⟨r, h4, fun K => ?_⟩
  obtain ⟨rec, h5⟩ := h1 K
  rw [h5, h3]
theorem pass_ok {N : Nat} {I n : Tb} {been : Int32} {how passed dreamOf stateOf roomOf handOf awake thingIn full states one other falls creak cold listensIn g1 g2 : Nat → Int32} {heardBy : Nat → Int64} {m : Nat} (hN : 64 < N) (hi : ib I) (hb : nb I n) (hm : n 0 0 + m ≤ 40) (hst : CS I states) (hH : CH I one other falls creak cold listensIn) (h : CN I n been how passed dreamOf stateOf roomOf handOf awake thingIn full heardBy) :
    ∃ been' aw' st' room' how' th' fu' hand' hb' pas', fX4_pass N (nI m) been (nI (I 0 4)) (nI (I 0 5)) awake dreamOf stateOf states roomOf (nI (I 0 1)) one other how thingIn full handOf (nI (I 0 0)) (mf (I 0 0) (ds I (lks I (n 0 1))) g1) creak listensIn (mf (I 0 0) (ds I nolk) g2) heardBy cold falls passed = some (nI m, been', aw', st', room', how', th', fu', hand', hb', pas') ∧ CN I (pas I n m) been' how' pas' dreamOf st' room' hand' aw' th' fu' hb' := by
  have hS := hi.S
  have hE := hi.E
  unfold fX4_pass
  refine lp_go (X := fun o => ∃ been' aw' st' room' how' th' fu' hand' hb' pas', o = some (nI m, been', aw', st', room', how', th', fu', hand', hb', pas') ∧ CN I (pas I n m) been' how' pas' dreamOf st' room' hand' aw' th' fu' hb') (fun j q => ∃ been' aw' st' room' how' th' fu' hand' hb' pas', q = (nI j, been', aw', st', room', how', th', fu', hand', hb', pas') ∧ CN I (pas I n j) been' how' pas' dreamOf st' room' hand' aw' th' fu' hb') m (by omega) ⟨_, _, _, _, _, _, _, _, _, _, rfl, h⟩ (fun j hj q hq => ?_) (fun q hq rec => ?_)
  · obtain ⟨been', aw', st', room', how', th', fu', hand', hb', pas', rfl, hC⟩ := hq
    have h3 : ¬ m ≤ j := by omega
    have hbj := nb_pas hi hb j (by omega)
    have hb0 : been' = nI (pas I n j 0 0) := hC.1
    have hp0 := pas_00 (I := I) (n := n) j
    have hp1 := pas_01 (I := I) (n := n) j
    -- the sleepers of one minute
    have inner := lp_goK (B := BX4_pass_19 (nI (I 0 4)) N dreamOf states been' (nI (I 0 5)) (nI (I 0 1)) one other (nI (I 0 0)) (mf (I 0 0) (ds I (lks I (n 0 1))) g1) creak listensIn (mf (I 0 0) (ds I nolk) g2) cold falls) (fun i q => ∃ aw2 st2 room2 how2 th2 fu2 hand2 hb2 pas2, q = (nI i, aw2, st2, room2, how2, th2, fu2, hand2, hb2, pas2) ∧ CN I (mns I (pas I n j) i) (been' + 1) how2 pas2 dreamOf st2 room2 hand2 aw2 th2 fu2 hb2) (fun q => ∃ aw2 st2 room2 how2 th2 fu2 hand2 hb2 pas2, q = (aw2, st2, room2, how2, th2, fu2, hand2, hb2, pas2) ∧ CN I (pas I n (j + 1)) (been' + 1) how2 pas2 dreamOf st2 room2 hand2 aw2 th2 fu2 hb2) (I 0 4) (N := N) (s := (0, aw', st', room', how', th', fu', hand', hb', pas')) (by omega) ⟨_, _, _, _, _, _, _, _, _, rfl, ?_⟩ (fun i hi2 q hq => ?_) (fun q hq => ?_)
    · obtain ⟨r, ⟨aw2, st2, room2, how2, th2, fu2, hand2, hb2, pas2, rfl, C2⟩, hK⟩ := inner
      refine ⟨(nI (j + 1), been' + 1, aw2, st2, room2, how2, th2, fu2, hand2, hb2, pas2), fun rec => ?_, _, _, _, _, _, _, _, _, _, _, rfl, C2⟩
      simp (disch := omega) only [BX4_pass_2, un11, nI_leI, h3, if_false]
      rw [hK]
      simp (disch := omega) only [un9, il, nI_add]
    · have := hC.been (pas I n j 0 0 + 1)
      rw [hb0, nI_1]
      exact this
    · obtain ⟨aw2, st2, room2, how2, th2, fu2, hand2, hb2, pas2, rfl, hC2⟩ := hq
      have h4 : ¬ I 0 4 ≤ i := by omega
      have hbi := nb_mns hi hbj (by omega) i (by omega)
      have hbs := hbi.s hi2
      have z0 := mns_00 (I := I) (n := pas I n j) i
      have z1 := mns_01 (I := I) (n := pas I n j) i
      have hT := isTold_ok (N := N) (d := mns I (pas I n j) i 3 i) (s := mns I (pas I n j) i 4 i) hi (by omega) (by omega) hst
      by_cases ca : mns I (pas I n j) i 7 i = 0
      · by_cases ct : I 9 (4 * mns I (pas I n j) i 3 i + mns I (pas I n j) i 4 i) = 1
        · obtain ⟨st3, room3, how3, th3, fu3, hand3, hb3, aw3, pas3, e1, C1⟩ := follow_ok (N := N) (g1 := g1) (g2 := g2) hN hi hbi (by omega) hi2 ca ct hst hH hC2
          rw [z1, hp1] at e1
          refine ⟨(nI (i + 1), aw3, st3, room3, how3, th3, fu3, hand3, hb3, pas3), fun K rec => ?_, _, _, _, _, _, _, _, _, _, rfl, ?_⟩
          · simp (disch := omega) only [BX4_pass_19, un10, nI_leI, h4, if_false, gd_nI, nI_clamp, hC2.q7 hi2, ca, hC2.q3 hi2, hC2.q4 hi2, hT, bd_some, un1, ct, jn]
            rw [if_pos (show nI 0 = 0 from rfl), if_neg (show ¬ nI 1 = 0 by decide), e1, bd_some]
            simp (disch := omega) only [un9, il, nI_add]
          · show CN I (act I (mns I (pas I n j) i) i) _ _ _ _ _ _ _ _ _ _ _
            unfold act
            rw [if_pos ⟨ca, ct⟩]
            exact C1
        · have ct0 : I 9 (4 * mns I (pas I n j) i 3 i + mns I (pas I n j) i 4 i) = 0 := by
            have := hi.told1 (hbi.k hi hi2)
            omega
          refine ⟨(nI (i + 1), aw2, st2, room2, how2, th2, fu2, hand2, hb2, pas2), fun K rec => ?_, _, _, _, _, _, _, _, _, _, rfl, ?_⟩
          · simp (disch := omega) only [BX4_pass_19, un10, nI_leI, h4, if_false, gd_nI, nI_clamp, hC2.q7 hi2, ca, hC2.q3 hi2, hC2.q4 hi2, hT, bd_some, un1, ct0, jn]
            rw [if_pos (show nI 0 = 0 from rfl), if_pos (show nI 0 = 0 from rfl)]
            simp (disch := omega) only [un9, il, nI_add]
          · show CN I (act I (mns I (pas I n j) i) i) _ _ _ _ _ _ _ _ _ _ _
            unfold act
            rw [if_neg (fun q => ct q.2)]
            exact hC2
      · refine ⟨(nI (i + 1), aw2, st2, room2, how2, th2, fu2, hand2, hb2, pas2), fun K rec => ?_, _, _, _, _, _, _, _, _, _, rfl, ?_⟩
        · simp (disch := omega) only [BX4_pass_19, un10, nI_leI, h4, if_false, gd_nI, nI_clamp, hC2.q7 hi2, jn]
          rw [if_neg (fun e => ca ((nI_eq (by omega) (by omega)).mp (e.trans (il 0))))]
          simp (disch := omega) only [un9, il, nI_add]
        · show CN I (act I (mns I (pas I n j) i) i) _ _ _ _ _ _ _ _ _ _ _
          unfold act
          rw [if_neg (fun q => ca q.1)]
          exact hC2
    · obtain ⟨aw2, st2, room2, how2, th2, fu2, hand2, hb2, pas2, rfl, hC2⟩ := hq
      refine ⟨_, fun K rec => ?_, aw2, st2, room2, how2, th2, fu2, hand2, hb2, pas2, rfl, hC2⟩
      simp (disch := omega) only [BX4_pass_19, un10, nI_leI, Nat.le_refl, if_true]
  · obtain ⟨been', aw', st', room', how', th', fu', hand', hb', pas', rfl, hC⟩ := hq
    refine ⟨been', aw', st', room', how', th', fu', hand', hb', pas', ?_, hC⟩
    simp (disch := omega) only [BX4_pass_2, un11, nI_leI, Nat.le_refl, if_true]
