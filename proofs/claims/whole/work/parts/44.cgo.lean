theorem ds_pos {I : Tb} (hi : ib I) (lk : Nat → Bool) {a b : Nat} (ha : a < I 0 0) (hb : b < I 0 0) (h : a ≠ b) : 0 < ds I lk a b := by
  rcases Nat.eq_zero_or_pos (ds I lk a b) with q | q
  · have g := ds_isD hi lk ha hb
    rw [q] at g
    exact absurd (g.2.1 (by omega)) h
  · exact q
theorem holderOf_ok {N : Nat} {I n : Tb} {been : Int32} {how passed dreamOf stateOf roomOf handOf awake thingIn full : Nat → Int32} {heardBy : Nat → Int64} {t : Nat} (hN : 64 < N) (hi : ib I) (hb : nb I n) (ht : t < 4) (h : CN I n been how passed dreamOf stateOf roomOf handOf awake thingIn full heardBy) : fX4_holderOf N (nI t) (nI (I 0 4)) handOf = some (if hld I n t < I 0 4 then nI (hld I n t) else -2) := by
  have hS := hi.S
  have hT := hi.T
  unfold fX4_holderOf hld
  have key := lp_find (B := BX4_holderOf_2 (nI (I 0 4)) handOf (nI t)) (p := fun q => decide (n 6 q = t + 1)) (D := I 0 4) (N := N) (e := some (-2)) (f := fun i => some (nI i)) (by omega) (fun i hi2 rec => ?_) (fun rec => ?_)
  · refine Eq.trans key ?_
    split <;> rfl
  · have h3 : ¬ I 0 4 ≤ i := by omega
    have hbi := hb.s hi2
    simp (disch := omega) only [BX4_holderOf_2, un1, nI_leI, h3, if_false, gd_nI, nI_clamp, h.q6 hi2, hI_eq, il, nI_add]
    by_cases c : n 6 i = t + 1
    · rw [if_pos c, if_pos (decide_eq_true c)]
    · rw [if_neg c, if_neg (fun q => c (of_decide_eq_true q))]
  · simp (disch := omega) only [BX4_holderOf_2, un1, nI_leI, Nat.le_refl, if_true]
/-- the house's rows as the class keeps them -/
def CH (I : Tb) (one other falls creak cold listensIn : Nat → Int32) : Prop :=
  (∀ i, i < I 0 1 → one i = nI (I 3 i)) ∧ (∀ i, i < I 0 1 → other i = nI (I 4 i)) ∧ (∀ i, i < I 0 1 → falls i = nI (I 6 i)) ∧ (∀ i, i < I 0 0 → creak i = nI (I 1 i)) ∧ (∀ i, i < I 0 0 → cold i = nI (I 2 i)) ∧ ∀ i, i < I 0 5 → listensIn i = nI (I 16 i)
theorem ib_o8 {I : Tb} (hi : ib I) : ∀ k, k < I 0 1 → I 3 k < 8 ∧ I 4 k < 8 := fun k hk => by
  have := hi.door hk
  have := hi.R
  omega
theorem goTo_ok {N : Nat} {I n : Tb} {been : Int32} {how passed dreamOf stateOf roomOf handOf awake thingIn full states one other falls creak cold listensIn g1 g2 : Nat → Int32} {heardBy : Nat → Int64} {s a : Nat} (hN : 64 < N) (hi : ib I) (hb : nb I n) (h0 : 0 < n 0 0) (hs : s < I 0 4) (ha : a < I 0 0) (hsa : n 7 s = 0) (hne : n 5 s ≠ a) (hst : CS I states) (hH : CH I one other falls creak cold listensIn) (h : CN I n been how passed dreamOf stateOf roomOf handOf awake thingIn full heardBy) :
    ∃ room' hb' st' aw' th' how' pas', fX4_goToward N (nI s) (nI a) been roomOf (nI (I 0 0)) (mf (I 0 0) (ds I (lks I (n 0 1))) g1) (nI (I 0 4)) (nI (I 0 5)) (nI (I 0 1)) one other handOf creak listensIn (mf (I 0 0) (ds I nolk) g2) heardBy cold dreamOf stateOf states awake thingIn falls how passed = some (room', hb', st', aw', th', how', pas') ∧ CN I (go I n s a) been how' pas' dreamOf st' room' handOf aw' th' full hb' := by
  have hS := hi.S
  have hR := hi.R
  have hT := hi.T
  have hD := hi.D
  have hbs := hb.s hs
  obtain ⟨H1, H2, H3, H4, H5, H6⟩ := hH
  have hto := roomToward_ok (N := N) (g := g1) hN hR hbs.2.2.1 ha (M := ds I (lks I (n 0 1))) (fun x y hx hy => ds_le hi _ hx hy) (ds_pos hi _ hbs.2.2.1 ha hne)
  unfold fX4_goToward go
  simp (disch := omega) only [gd_nI, nI_clamp, h.q5 hs]
  rw [hto, bd_some]
  simp only [un1]
  by_cases hx : nxt I n s a < I 0 0
  · have hx' : fa_first (isT (ds I (lks I (n 0 1))) (n 5 s) a) (I 0 0) < I 0 0 := hx
    rw [if_pos hx, if_pos hx']
    have hdd := nxt_door hi hb hs hx
    rw [show fa_first (isT (ds I (lks I (n 0 1))) (n 5 s) a) (I 0 0) = nxt I n s a from rfl]
    generalize hr : nxt I n s a = r at *
    have hdb := doorBetween_ok (N := N) (D := I 0 1) (a := n 5 s) (b := r) (o := I 3) (t := I 4) (h1 := one) (h2 := other) hN hD (by omega) (by omega) H1 H2 (ib_o8 hi)
    have hx1 : fa_first (isB (I 3) (I 4) (n 5 s) r) (I 0 1) < I 0 1 := hdd.1
    rw [if_pos hx1] at hdb
    have hdb' : fX1_doorBetween N (nI (n 5 s)) (nI r) (nI (I 0 1)) one other = some (nI (dbt I (n 5 s) r)) := hdb
    have hd1 := hdd.1
    have h6 := (hi.door hd1).2.2.2.2
    have hc2 := (hi.room hx).2
    generalize hdq : dbt I (n 5 s) r = d at *
    -- the rows behind the door
    have C1 : CN I (gon I n s r d) been (upd how d (nI (I 6 d))) (upd passed d (nI (n 2 d + 1))) dreamOf stateOf (upd roomOf s (nI r)) handOf awake thingIn full heardBy := ((h.how d (I 6 d)).passed d (n 2 d + 1)).roomOf s r
    have B1 : nb I (gon I n s r d) := ((hb.n1 (by omega) (by omega)).n2).n5 hx
    have C2 : ∃ th', CN I (goh n (gon I n s r d) s r) been (upd how d (nI (I 6 d))) (upd passed d (nI (n 2 d + 1))) dreamOf stateOf (upd roomOf s (nI r)) handOf awake th' full heardBy ∧ th' = (if n 6 s = 0 then thingIn else upd thingIn (n 6 s - 1) (nI r)) := by
      unfold goh
      by_cases c : n 6 s = 0
      · rw [if_pos c, if_pos c]; exact ⟨_, C1, rfl⟩
      · rw [if_neg c, if_neg c]; exact ⟨_, C1.thingIn (n 6 s - 1) r, rfl⟩
    obtain ⟨th', C2, hth⟩ := C2
    have B2 : nb I (goh n (gon I n s r d) s r) := by
      unfold goh
      split
      · exact B1
      · exact B1.n8 hx
    have z0 : goh n (gon I n s r d) s r 0 0 = n 0 0 := by
      unfold goh gon
      split
      · rw [set2_f (by omega), set2_f (by omega), set2_f (by omega)]
      · rw [set2_f (by omega), set2_f (by omega), set2_f (by omega), set2_f (by omega)]
    obtain ⟨hb', e2, C3⟩ := creakIn_ok (N := N) (g := g2) (r := r) hN hi B2 (by omega) hx C2 H4 H6
    have B3 := nb_crk B2 r (I 0 5) (Nat.le_refl _)
    have main : ∀ (tt : Nat → Int32), tt = th' → ∃ room' hb' st' aw' th' how' pas', ((fX4_creakIn N (nI r) been (nI (I 0 5)) creak listensIn (mf (I 0 0) (ds I nolk) g2) heardBy).bind (un1 fun (v_heardBy_114 : Nat → Int64) => (if cold r = 0 then ((fX4_meetIn N (nI r) (nI (I 0 4)) dreamOf stateOf states (upd roomOf s (nI r)) awake).bind (un1 fun (v_stateOf_144 : Nat → Int32) => some (upd roomOf s (nI r), v_heardBy_114, v_stateOf_144, awake, tt, upd how d (nI (I 6 d)), upd passed d (nI (n 2 d + 1))))) else (some (upd roomOf s (nI r), v_heardBy_114, stateOf, upd awake s 1, tt, upd how d (nI (I 6 d)), upd passed d (nI (n 2 d + 1))))))) = some (room', hb', st', aw', th', how', pas') ∧ CN I (goTo I n s r) been how' pas' dreamOf st' room' handOf aw' th' full hb' := by
      intro tt htt
      subst htt
      rw [e2, bd_some]
      simp (disch := omega) only [un1, H5 r hx, il, nI_eq]
      unfold goTo
      rw [hdq]
      by_cases cc : I 2 r = 0
      · rw [if_pos cc, if_pos cc]
        obtain ⟨st', e3, C4⟩ := meetIn_ok (N := N) (states := states) (s := s) (r := r) hN hi B3 hs hx (by
          rw [crk_f (by omega)]
          unfold goh gon
          split
          · rw [set2_s]
          · rw [set2_f (by omega), set2_s]) (by
          rw [crk_f (by omega)]
          unfold goh gon
          split
          · rw [set2_f (by omega), set2_f (by omega), set2_f (by omega)]; exact hsa
          · rw [set2_f (by omega), set2_f (by omega), set2_f (by omega), set2_f (by omega)]; exact hsa) hst C3
        rw [e3, bd_some]
        exact ⟨_, _, _, _, _, _, _, rfl, C4⟩
      · rw [if_neg cc, if_neg cc]
        exact ⟨_, _, _, _, _, _, _, rfl, C3.awake s 1 (by omega)⟩
    rw [if_neg (fun e => (nI_neg1 (by omega)).mp e), hdb', bd_some]
    dsimp only [un1, jn, un2]
    rw [if_neg (fun e => (nI_lt0 (by omega)).mp e), gd_nI _ (show d < 10 by omega) (by omega)]
    simp (disch := omega) only [gd_nI, nI_clamp, h.q6 hs, H3 d hd1, h.q2 hd1]
    have n2 : nI (n 2 d) + 1 = nI (n 2 d + 1) := nI_1 _
    rw [n2]
    have m0 := main th' rfl
    by_cases q6 : n 6 s = 0
    · rw [if_pos q6] at hth
      subst hth
      have qh : (hI (n 6 s) < 0) := (hI_lt (by omega)).mpr q6
      simp only [qh, if_true]
      by_cases f6 : I 6 d = 0
      · rw [f6] at m0 ⊢
        rw [if_pos (show nI 0 = 0 from rfl)]
        exact m0
      · have f1 : I 6 d = 1 := by omega
        rw [f1] at m0 ⊢
        rw [if_neg (show ¬ nI 1 = 0 by decide)]
        exact m0
    · rw [if_neg q6] at hth
      subst hth
      have qh : ¬ (hI (n 6 s) < 0) := fun e => q6 ((hI_lt (by omega)).mp e)
      simp only [qh, if_false]
      simp (disch := omega) only [hI_p q6, gd_nI, nI_clamp]
      by_cases f6 : I 6 d = 0
      · rw [f6] at m0 ⊢
        rw [if_pos (show nI 0 = 0 from rfl)]
        exact m0
      · have f1 : I 6 d = 1 := by omega
        rw [f1] at m0 ⊢
        rw [if_neg (show ¬ nI 1 = 0 by decide)]
        exact m0
  · have hx' : ¬ fa_first (isT (ds I (lks I (n 0 1))) (n 5 s) a) (I 0 0) < I 0 0 := hx
    rw [if_neg hx, if_neg hx', if_pos rfl]
    exact ⟨_, _, _, _, _, _, _, rfl, h⟩
