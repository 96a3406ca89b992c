/-! a line of the text, and all of them -/
def kJ (J : Tb) : Nat := J 0 0 + J 0 2 + J 0 3 + J 0 4
theorem kJ_le {J : Tb} (hi : ib J) : kJ J ≤ 19 := by
  have := hi.R
  have := hi.T
  have := hi.E
  have := hi.S
  unfold kJ
  omega
theorem nm_room {J : Tb} {named : Int32} {names : Nat → Int64} {sorts numbers : Nat → Int32} {rnames : Int32} {rname : Nat → Int64} {rsort rnum : Nat → Int32} {v x : Nat} (h : NM (cb1 (cbJ J) 0 (cbJ J 0)) (kJ J + 1) named names sorts numbers rnames rname rsort rnum) : NM (cbJ (jRoom J v x)) (kJ (jRoom J v x)) named names sorts numbers rnames rname rsort rnum := by
  have e : kJ (jRoom J v x) = kJ J + 1 := by
    unfold kJ jRoom
    simp (disch := omega) only [set2_f, set2_i, set2_s]
    omega
  rw [e]
  refine h.mono fun x => ?_
  unfold cb1 cbJ jRoom
  simp (disch := omega) only [set2_f, set2_i, set2_s]
  by_cases c0 : x = 0
  · subst c0; simp
  · by_cases c1 : x = 1
    · subst c1; simp
    · by_cases c2 : x = 2
      · subst c2; simp
      · by_cases c3 : x = 3
        · subst c3; simp
        · simp [c0, c1, c2, c3]
theorem nm_thing {J : Tb} {named : Int32} {names : Nat → Int64} {sorts numbers : Nat → Int32} {rnames : Int32} {rname : Nat → Int64} {rsort rnum : Nat → Int32} {v x : Nat} (h : NM (cb1 (cbJ J) 1 (cbJ J 1)) (kJ J + 1) named names sorts numbers rnames rname rsort rnum) : NM (cbJ (jThing J v x)) (kJ (jThing J v x)) named names sorts numbers rnames rname rsort rnum := by
  have e : kJ (jThing J v x) = kJ J + 1 := by
    unfold kJ jThing
    simp (disch := omega) only [set2_f, set2_i, set2_s]
    omega
  rw [e]
  refine h.mono fun x => ?_
  unfold cb1 cbJ jThing
  simp (disch := omega) only [set2_f, set2_i, set2_s]
  by_cases c0 : x = 0
  · subst c0; simp
  · by_cases c1 : x = 1
    · subst c1; simp
    · by_cases c2 : x = 2
      · subst c2; simp
      · by_cases c3 : x = 3
        · subst c3; simp
        · simp [c0, c1, c2, c3]
theorem nm_sleeper {J : Tb} {named : Int32} {names : Nat → Int64} {sorts numbers : Nat → Int32} {rnames : Int32} {rname : Nat → Int64} {rsort rnum : Nat → Int32} {v x : Nat} (h : NM (cb1 (cbJ J) 3 (cbJ J 3)) (kJ J + 1) named names sorts numbers rnames rname rsort rnum) : NM (cbJ (jSleeper J v x)) (kJ (jSleeper J v x)) named names sorts numbers rnames rname rsort rnum := by
  have e : kJ (jSleeper J v x) = kJ J + 1 := by
    unfold kJ jSleeper
    simp (disch := omega) only [set2_f, set2_i, set2_s]
    omega
  rw [e]
  refine h.mono fun x => ?_
  unfold cb1 cbJ jSleeper
  simp (disch := omega) only [set2_f, set2_i, set2_s]
  by_cases c0 : x = 0
  · subst c0; simp
  · by_cases c1 : x = 1
    · subst c1; simp
    · by_cases c2 : x = 2
      · subst c2; simp
      · by_cases c3 : x = 3
        · subst c3; simp
        · simp [c0, c1, c2, c3]
theorem nm_inn {J : Tb} {named : Int32} {names : Nat → Int64} {sorts numbers : Nat → Int32} {rnames : Int32} {rname : Nat → Int64} {rsort rnum : Nat → Int32} {v : Nat} (h : NM (cbJ J) (kJ J) named names sorts numbers rnames rname rsort rnum) : NM (cbJ (jInn J v)) (kJ (jInn J v)) named names sorts numbers rnames rname rsort rnum := by
  have e : kJ (jInn J v) = kJ J := by
    unfold kJ jInn
    simp (disch := omega) only [set2_f, set2_i, set2_s]
  rw [e]
  refine h.mono fun x => ?_
  unfold cbJ jInn
  simp (disch := omega) only [set2_f, set2_i, set2_s]
  exact Nat.le_refl _
theorem nm_door {J : Tb} {named : Int32} {names : Nat → Int64} {sorts numbers : Nat → Int32} {rnames : Int32} {rname : Nat → Int64} {rsort rnum : Nat → Int32} {u v y x : Nat} (h : NM (cbJ J) (kJ J) named names sorts numbers rnames rname rsort rnum) : NM (cbJ (jDoor J u v y x)) (kJ (jDoor J u v y x)) named names sorts numbers rnames rname rsort rnum := by
  have e : kJ (jDoor J u v y x) = kJ J := by
    unfold kJ jDoor
    simp (disch := omega) only [set2_f, set2_i, set2_s]
  rw [e]
  refine h.mono fun x => ?_
  unfold cbJ jDoor
  simp (disch := omega) only [set2_f, set2_i, set2_s]
  exact Nat.le_refl _
theorem nm_listens {J : Tb} {named : Int32} {names : Nat → Int64} {sorts numbers : Nat → Int32} {rnames : Int32} {rname : Nat → Int64} {rsort rnum : Nat → Int32} {v : Nat} (h : NM (cbJ J) (kJ J) named names sorts numbers rnames rname rsort rnum) : NM (cbJ (jListens J v)) (kJ (jListens J v)) named names sorts numbers rnames rname rsort rnum := by
  have e : kJ (jListens J v) = kJ J := by
    unfold kJ jListens
    simp (disch := omega) only [set2_f, set2_i, set2_s]
  rw [e]
  refine h.mono fun x => ?_
  unfold cbJ jListens
  simp (disch := omega) only [set2_f, set2_i, set2_s]
  exact Nat.le_refl _
theorem nm_dream {J : Tb} {named : Int32} {names : Nat → Int64} {sorts numbers : Nat → Int32} {rnames : Int32} {rname : Nat → Int64} {rsort rnum : Nat → Int32} {q i w t m D : Nat} (h : NM (fun x => if x = 2 then D else cbJ J x) (J 0 0 + J 0 2 + D + J 0 4) named names sorts numbers rnames rname rsort rnum) : NM (cbJ (jDream J q i w t m D)) (kJ (jDream J q i w t m D)) named names sorts numbers rnames rname rsort rnum := by
  have e : kJ (jDream J q i w t m D) = J 0 0 + J 0 2 + D + J 0 4 := by
    unfold kJ jDream
    simp (disch := omega) only [set2_f, set2_i, set2_s]
  rw [e]
  refine h.mono fun x => ?_
  unfold cbJ jDream
  simp (disch := omega) only [set2_f, set2_i, set2_s]
  by_cases c2 : x = 2
  · subst c2; simp
  · simp [c2]
set_option maxHeartbeats 4000000 in
theorem line_ok {N n p : Nat} {J : Tb} {b : Nat → Int32} {c : CTok} {r : RTok} {minutes things dreams sleepers listeners rooms doors : Int32} {listensIn bed dreamOf states thingIn full one other how falls creak cold : Nat → Int32} {rminutes rrooms rdoors rthings rdreams rsleepers rlisteners : Int32} {rlistens rbed rdream risTold ract rwhat rthen rmet rlies rfull rA rB rhow rfalls rcreak rcold : Nat → Int32} {named : Int32} {names : Nat → Int64} {sorts numbers : Nat → Int32} {rnames : Int32} {rname : Nat → Int64} {rsort rnum : Nat → Int32} (hX : TX N n b) (h : TK n p c r) (hi : ib J) (hM : NM (cbJ J) (kJ J) named names sorts numbers rnames rname rsort rnum) (hC : CI J minutes things dreams sleepers listeners rooms doors listensIn bed dreamOf states thingIn full one other how falls creak cold) (hR : RI J rminutes rrooms rdoors rthings rdreams rsleepers rlisteners rlistens rbed rdream risTold ract rwhat rthen rmet rlies rfull rA rB rhow rfalls rcreak rcold) (cf nu fl wa : Int32) :
    (∃ J' p' c' r' nu' minutes' things' dreams' sleepers' listeners' rooms' doors' listensIn' bed' dreamOf' states' thingIn' full' one' other' how' falls' creak' cold' rminutes' rrooms' rdoors' rthings' rdreams' rsleepers' rlisteners' rlistens' rbed' rdream' risTold' ract' rwhat' rthen' rmet' rlies' rfull' rA' rB' rhow' rfalls' rcreak' rcold' named' names' sorts' numbers' rnames' rname' rsort' rnum', p < p' ∧ TK n p' c' r' ∧ ib J' ∧ NM (cbJ J') (kJ J') named' names' sorts' numbers' rnames' rname' rsort' rnum' ∧ CI J' minutes' things' dreams' sleepers' listeners' rooms' doors' listensIn' bed' dreamOf' states' thingIn' full' one' other' how' falls' creak' cold' ∧ RI J' rminutes' rrooms' rdoors' rthings' rdreams' rsleepers' rlisteners' rlistens' rbed' rdream' risTold' ract' rwhat' rthen' rmet' rlies' rfull' rA' rB' rhow' rfalls' rcreak' rcold' ∧ fX6_readLine N named cf nu (nI n) c.1 c.2.1 c.2.2.1 c.2.2.2.1 c.2.2.2.2.1 c.2.2.2.2.2 minutes things dreams sleepers listeners b names sorts numbers listensIn bed dreamOf states thingIn full rooms doors one other how falls creak cold = some (1, named', cf, nu', c'.1, c'.2.1, c'.2.2.1, c'.2.2.2.1, c'.2.2.2.2.1, c'.2.2.2.2.2, minutes', things', dreams', sleepers', listeners', names', sorts', numbers', listensIn', bed', dreamOf', states', thingIn', full', rooms', doors', one', other', how', falls', creak', cold') ∧ fX12_readLine N (nI n) r.1 r.2.1 r.2.2.1 r.2.2.2.1 r.2.2.2.2.1 fl wa r.2.2.2.2.2 rminutes rrooms rdoors rthings rdreams rsleepers rlisteners rnames b rname rnum rsort rlistens rbed rdream risTold ract rwhat rthen rmet rlies rfull rA rB rhow rfalls rcreak rcold = some (r'.1, r'.2.1, r'.2.2.1, r'.2.2.2.1, r'.2.2.2.2.1, fl, wa, r'.2.2.2.2.2, rminutes', rrooms', rdoors', rthings', rdreams', rsleepers', rlisteners', rnames', rname', rnum', rsort', rlistens', rbed', rdream', risTold', ract', rwhat', rthen', rmet', rlies', rfull', rA', rB', rhow', rfalls', rcreak', rcold')) ∨
    (∃ f p' z y, FT f ∧ fX6_readLine N named cf nu (nI n) c.1 c.2.1 c.2.2.1 c.2.2.2.1 c.2.2.2.2.1 c.2.2.2.2.2 minutes things dreams sleepers listeners b names sorts numbers listensIn bed dreamOf states thingIn full rooms doors one other how falls creak cold = some z ∧ z.1 = 0 ∧ z.2.2.1 = f ∧ z.2.2.2.2.2.1 = nI p' ∧ (∀ i, i < 4 → z.2.2.2.2.2.2.2.2.2.2.2.2.2.2.2.2.2.2.2.2.2.2.2.1 i = 0 ∨ z.2.2.2.2.2.2.2.2.2.2.2.2.2.2.2.2.2.2.2.2.2.2.2.1 i = 1) ∧ fX12_readLine N (nI n) r.1 r.2.1 r.2.2.1 r.2.2.2.1 r.2.2.2.2.1 fl wa r.2.2.2.2.2 rminutes rrooms rdoors rthings rdreams rsleepers rlisteners rnames b rname rnum rsort rlistens rbed rdream risTold ract rwhat rthen rmet rlies rfull rA rB rhow rfalls rcreak rcold = some y ∧ y.2.1 = 5 ∧ y.2.2.2.2.2.1 = f ∧ y.2.2.2.2.2.2.1 = nI p') := by
  have hC' := hC
  have hR' := hR
  obtain ⟨⟨rfl, rfl, rfl, rfl, rfl, rfl, rfl⟩, -⟩ := hC
  obtain ⟨⟨rfl, rfl, rfl, rfl, rfl, rfl, rfl⟩, -⟩ := hR
  unfold fX6_readLine fX12_readLine
  rw [isAt_ok c 0, isWord_ok hX h (k := 0) (by omega), bd_some, bd_some]
  dsimp only [un1]
  by_cases w0 : isW c 0 = true
  · rw [if_pos w0, if_neg (show ¬ (1 : Int32) = 0 by decide), if_neg (show ¬ (1 : Int32) = 0 by decide)]
    rcases l_inn hX h w0 hi cf nu fl wa with ⟨p2, c2, r2, v, a2, t2, v1, v2, e2, g2⟩ | ⟨f, p2, c2, nu', a', l', g', m', w', f1, q1, e2, g2⟩
    · rw [e2, g2, bd_some, bd_some]
      dsimp only [un10, un9]
      rw [zg1]
      exact Or.inl ⟨jInn J v, p2, c2, r2, nI v, _, _, _, _, _, _, _, _, _, _, _, _, _, _, _, _, _, _, _, _, _, _, _, _, _, _, _, _, _, _, _, _, _, _, _, _, _, _, _, _, _, _, named, names, sorts, numbers, rnames, rname, rsort, rnum, by omega, t2, ib_inn hi v2, nm_inn hM, CI_inn hC', RI_inn hR', rfl, rfl⟩
    · rw [e2, g2, bd_some, bd_some]
      dsimp only [un10, un9]
      rw [zg0]
      exact Or.inr ⟨f, p2, _, _, f1, rfl, rfl, rfl, q1, hC'.2.2.2.2.2.2, rfl, rfl, rfl, rfl⟩
  · rw [if_neg w0, if_pos (show (0 : Int32) = 0 from rfl), if_pos (show (0 : Int32) = 0 from rfl)]
    rw [isAt_ok c 1, isWord_ok hX h (k := 1) (by omega), bd_some, bd_some]
    dsimp only [un1]
    by_cases w1 : isW c 1 = true
    · rw [if_pos w1, if_neg (show ¬ (1 : Int32) = 0 by decide), if_neg (show ¬ (1 : Int32) = 0 by decide)]
      rcases l_room hX h w1 hi rfl hM cf nu fl wa creak cold rcreak rcold with ⟨p2, c2, r2, v, x, named', names', sorts', numbers', rnames', rname', rsort', rnum', a2, t2, v1, v2, v3, M2, e2, g2⟩ | ⟨f, p2, c2, nu', named', names', sorts', numbers', rnames', rname', rsort', rnum', a', l', g', m', w', f1, q1, e2, g2⟩
      · rw [e2, g2, bd_some, bd_some]
        dsimp only [un16, un15]
        rw [zg1]
        exact Or.inl ⟨jRoom J v x, p2, c2, r2, nI v, _, _, _, _, _, _, _, _, _, _, _, _, _, _, _, _, _, _, _, _, _, _, _, _, _, _, _, _, _, _, _, _, _, _, _, _, _, _, _, _, _, _, named', names', sorts', numbers', rnames', rname', rsort', rnum', by omega, t2, ib_room hi v1 v2 v3, nm_room M2, CI_room hC', RI_room hR', rfl, rfl⟩
      · rw [e2, g2, bd_some, bd_some]
        dsimp only [un16, un15]
        rw [zg0]
        exact Or.inr ⟨f, p2, _, _, f1, rfl, rfl, rfl, q1, hC'.2.2.2.2.2.2, rfl, rfl, rfl, rfl⟩
    · rw [if_neg w1, if_pos (show (0 : Int32) = 0 from rfl), if_pos (show (0 : Int32) = 0 from rfl)]
      rw [isAt_ok c 2, isWord_ok hX h (k := 2) (by omega), bd_some, bd_some]
      dsimp only [un1]
      by_cases w2 : isW c 2 = true
      · rw [if_pos w2, if_neg (show ¬ (1 : Int32) = 0 by decide), if_neg (show ¬ (1 : Int32) = 0 by decide)]
        rcases l_door hX h w2 hi rfl hM cf nu fl wa one other how falls rA rB rhow rfalls hC'.2.1.1 hC'.2.1.2.1 (fun i hj => (hR'.2.2.1 i hj).1) (fun i hj => (hR'.2.2.1 i hj).2.1) with ⟨p2, c2, r2, u, v, y, x, a2, t2, v1, v2, v3, v4, v5, v6, v7, e2, g2⟩ | ⟨f, p2, c2, nu', a', l', g', m', w', f1, q1, e2, g2⟩
        · rw [e2, g2, bd_some, bd_some]
          dsimp only [un14, un13]
          rw [zg1]
          exact Or.inl ⟨jDoor J u v y x, p2, c2, r2, nI v, _, _, _, _, _, _, _, _, _, _, _, _, _, _, _, _, _, _, _, _, _, _, _, _, _, _, _, _, _, _, _, _, _, _, _, _, _, _, _, _, _, _, named, names, sorts, numbers, rnames, rname, rsort, rnum, by omega, t2, ib_door hi v1 v2 v3 v4 v5 v6 v7, nm_door hM, CI_door hC', RI_door hR', rfl, rfl⟩
        · rw [e2, g2, bd_some, bd_some]
          dsimp only [un14, un13]
          rw [zg0]
          exact Or.inr ⟨f, p2, _, _, f1, rfl, rfl, rfl, q1, hC'.2.2.2.2.2.2, rfl, rfl, rfl, rfl⟩
      · rw [if_neg w2, if_pos (show (0 : Int32) = 0 from rfl), if_pos (show (0 : Int32) = 0 from rfl)]
        rw [isAt_ok c 3, isWord_ok hX h (k := 3) (by omega), bd_some, bd_some]
        dsimp only [un1]
        by_cases w3 : isW c 3 = true
        · rw [if_pos w3, if_neg (show ¬ (1 : Int32) = 0 by decide), if_neg (show ¬ (1 : Int32) = 0 by decide)]
          rcases l_thing hX h w3 hi rfl hM cf nu fl wa thingIn full rlies rfull with ⟨p2, c2, r2, v, x, named', names', sorts', numbers', rnames', rname', rsort', rnum', a2, t2, v1, v2, v3, M2, e2, g2⟩ | ⟨f, p2, c2, nu', named', names', sorts', numbers', rnames', rname', rsort', rnum', a', l', g', m', w', f1, q1, e2, g2⟩
          · rw [e2, g2, bd_some, bd_some]
            dsimp only [un16, un15]
            rw [zg1]
            exact Or.inl ⟨jThing J v x, p2, c2, r2, nI v, _, _, _, _, _, _, _, _, _, _, _, _, _, _, _, _, _, _, _, _, _, _, _, _, _, _, _, _, _, _, _, _, _, _, _, _, _, _, _, _, _, _, named', names', sorts', numbers', rnames', rname', rsort', rnum', by omega, t2, ib_thing hi v1 v2 v3, nm_thing M2, CI_thing v2 hC', RI_thing hR', rfl, rfl⟩
          · rw [e2, g2, bd_some, bd_some]
            dsimp only [un16, un15]
            rw [zg0]
            exact Or.inr ⟨f, p2, _, _, f1, rfl, rfl, rfl, q1, hC'.2.2.2.2.2.2, rfl, rfl, rfl, rfl⟩
        · rw [if_neg w3, if_pos (show (0 : Int32) = 0 from rfl), if_pos (show (0 : Int32) = 0 from rfl)]
          rw [isAt_ok c 4, isWord_ok hX h (k := 4) (by omega), bd_some, bd_some]
          dsimp only [un1]
          by_cases w4 : isW c 4 = true
          · rw [if_pos w4, if_neg (show ¬ (1 : Int32) = 0 by decide), if_neg (show ¬ (1 : Int32) = 0 by decide)]
            rcases l_dream hX h w4 hi rfl hM cf nu fl wa states risTold ract rwhat rthen rmet hC'.2.2.1 (fun k hk => (hR'.2.1 k hk).1) with ⟨p2, c2, r2, d, s, i, wt, th, me, nx, D', named', names', sorts', numbers', rnames', rname', rsort', rnum', a2, t2, v1, v2, v3, v4, v5, v6, v7, v8, v9, v10, v11, M2, e2, g2⟩ | ⟨f, p2, c2, nu', named', names', sorts', numbers', rnames', rname', rsort', rnum', dr', rd', a', l', g', m', w', f1, q1, e2, g2⟩
            · rw [e2, g2, bd_some, bd_some]
              dsimp only [un15, un18]
              rw [zg1]
              exact Or.inl ⟨jDream J (4 * d + s) i wt th me D', p2, c2, r2, nx, _, _, _, _, _, _, _, _, _, _, _, _, _, _, _, _, _, _, _, _, _, _, _, _, _, _, _, _, _, _, _, _, _, _, _, _, _, _, _, _, _, _, named', names', sorts', numbers', rnames', rname', rsort', rnum', by omega, t2, ib_dream hi v6 v7 v8 v9 v10 v11 v2 (by omega), nm_dream M2, CI_dream hC', RI_dream hR', rfl, rfl⟩
            · rw [e2, g2, bd_some, bd_some]
              dsimp only [un15, un18]
              rw [zg0]
              exact Or.inr ⟨f, p2, _, _, f1, rfl, rfl, rfl, q1, hC'.2.2.2.2.2.2, rfl, rfl, rfl, rfl⟩
          · rw [if_neg w4, if_pos (show (0 : Int32) = 0 from rfl), if_pos (show (0 : Int32) = 0 from rfl)]
            rw [isAt_ok c 5, isWord_ok hX h (k := 5) (by omega), bd_some, bd_some]
            dsimp only [un1]
            by_cases w5 : isW c 5 = true
            · rw [if_pos w5, if_neg (show ¬ (1 : Int32) = 0 by decide), if_neg (show ¬ (1 : Int32) = 0 by decide)]
              rcases l_sleeper hX h w5 hi rfl hM cf nu fl wa bed dreamOf rbed rdream with ⟨p2, c2, r2, v, x, named', names', sorts', numbers', rnames', rname', rsort', rnum', a2, t2, v1, v2, v3, M2, e2, g2⟩ | ⟨f, p2, c2, nu', named', names', sorts', numbers', rnames', rname', rsort', rnum', a', l', g', m', w', f1, q1, e2, g2⟩
              · rw [e2, g2, bd_some, bd_some]
                dsimp only [un16, un15]
                rw [zg1]
                exact Or.inl ⟨jSleeper J v x, p2, c2, r2, nI x, _, _, _, _, _, _, _, _, _, _, _, _, _, _, _, _, _, _, _, _, _, _, _, _, _, _, _, _, _, _, _, _, _, _, _, _, _, _, _, _, _, _, named', names', sorts', numbers', rnames', rname', rsort', rnum', by omega, t2, ib_sleeper hi v1 v2 v3, nm_sleeper M2, CI_sleeper hC', RI_sleeper hR', rfl, rfl⟩
              · rw [e2, g2, bd_some, bd_some]
                dsimp only [un16, un15]
                rw [zg0]
                exact Or.inr ⟨f, p2, _, _, f1, rfl, rfl, rfl, q1, hC'.2.2.2.2.2.2, rfl, rfl, rfl, rfl⟩
            · rw [if_neg w5, if_pos (show (0 : Int32) = 0 from rfl), if_pos (show (0 : Int32) = 0 from rfl)]
              rw [isAt_ok c 6, isWord_ok hX h (k := 6) (by omega), bd_some, bd_some]
              dsimp only [un1]
              by_cases w6 : isW c 6 = true
              · rw [if_pos w6, if_neg (show ¬ (1 : Int32) = 0 by decide), if_neg (show ¬ (1 : Int32) = 0 by decide)]
                rcases l_listens hX h w6 hi rfl hM cf nu fl wa listensIn rlistens hC'.2.1.2.2.2.2.2 hR'.2.2.2.2.2.2 with ⟨p2, c2, r2, v, a2, t2, v1, v2, e2, g2⟩ | ⟨f, p2, c2, nu', a', l', g', m', w', f1, q1, e2, g2⟩
                · rw [e2, g2, bd_some, bd_some]
                  dsimp only [un11, un10]
                  rw [zg1]
                  exact Or.inl ⟨jListens J v, p2, c2, r2, nI v, _, _, _, _, _, _, _, _, _, _, _, _, _, _, _, _, _, _, _, _, _, _, _, _, _, _, _, _, _, _, _, _, _, _, _, _, _, _, _, _, _, _, named, names, sorts, numbers, rnames, rname, rsort, rnum, by omega, t2, ib_listens hi v1 v2, nm_listens hM, CI_listens hC', RI_listens hR', rfl, rfl⟩
                · rw [e2, g2, bd_some, bd_some]
                  dsimp only [un11, un10]
                  rw [zg0]
                  exact Or.inr ⟨f, p2, _, _, f1, rfl, rfl, rfl, q1, hC'.2.2.2.2.2.2, rfl, rfl, rfl, rfl⟩
              · rw [if_neg w6, if_pos (show (0 : Int32) = 0 from rfl), if_pos (show (0 : Int32) = 0 from rfl)]
                rw [fail_ok, bd_some, wrong_ok h.rs, bd_some]
                dsimp only [un2, un3]
                rw [zg0]
                exact Or.inr ⟨1, p, _, _, FT1, rfl, rfl, rfl, h.2.1, hC'.2.2.2.2.2.2, rfl, rfl, rfl, h.pl⟩
