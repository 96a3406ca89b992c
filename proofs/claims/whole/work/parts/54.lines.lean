/-! a text's lines, both readers side by side -/
def cbJ (J : Tb) : Nat → Nat := fun s => if s = 0 then J 0 0 else if s = 1 then J 0 2 else if s = 2 then J 0 3 else J 0 4
theorem begins_full {N n p a m : Nat} {m' : Int32} {b : Nat → Int32} {c : CTok} {r : RTok} (h : TK n p c r) (hm : m' = nI m) (ha : a = m) (fl wa : Int32) : fX12_begins N (nI a) m' (nI n) r.1 r.2.1 r.2.2.1 r.2.2.2.1 r.2.2.2.2.1 fl wa r.2.2.2.2.2 b = some (r.1, 5, r.2.2.1, r.2.2.2.1, r.2.2.2.2.1, 5, nI p, r.2.2.2.2.2) := by
  unfold fX12_begins
  rw [hm, ha, if_pos rfl, wrong_ok h.rs, bd_some]
  dsimp only [un0, un1, un2, un3, un4, un5, un6, un7, un8, un9, un10, un11, un12, un13, un14, un15, un16, un17, un18, un32, un33, un35, un36]
  rw [ov_goesOn, bd_some, h.pl]
  rfl
theorem begins_go {N n p a m : Nat} {m' : Int32} {b : Nat → Int32} {c : CTok} {r r' : RTok} (h : TK n p c r) (hm : m' = nI m) (ha : ¬ a = m) (h1 : a < 2 ^ 31) (h2 : m < 2 ^ 31) (fl wa : Int32) (hg : fX12_goesOn N (nI n) r.1 r.2.1 r.2.2.1 r.2.2.2.1 r.2.2.2.2.1 r.2.2.2.2.2 b = some r') : fX12_begins N (nI a) m' (nI n) r.1 r.2.1 r.2.2.1 r.2.2.2.1 r.2.2.2.2.1 fl wa r.2.2.2.2.2 b = some (r'.1, r'.2.1, r'.2.2.1, r'.2.2.2.1, r'.2.2.2.2.1, fl, wa, r'.2.2.2.2.2) := by
  unfold fX12_begins
  rw [hm, if_neg (fun e => ha ((nI_eq h1 h2).mp e)), hg, bd_some]
  rfl
theorem l_inn {N n p : Nat} {J : Tb} {b : Nat → Int32} {c : CTok} {r : RTok} (hX : TX N n b) (h : TK n p c r) (hw : isW c 0 = true) (hi : ib J) (cf nu fl wa : Int32) :
    (∃ p' c' r' v, p < p' ∧ TK n p' c' r' ∧ 1 ≤ v ∧ v ≤ 40 ∧ fX6_readInn N cf nu (nI (J 0 6)) (nI n) c.1 c.2.1 c.2.2.1 c.2.2.2.1 c.2.2.2.2.1 c.2.2.2.2.2 b = some (1, cf, nI v, nI v, c'.1, c'.2.1, c'.2.2.1, c'.2.2.2.1, c'.2.2.2.2.1, c'.2.2.2.2.2) ∧ fX12_readHouse N (nI n) r.1 r.2.1 r.2.2.1 r.2.2.2.1 r.2.2.2.2.1 fl wa r.2.2.2.2.2 (nI (J 0 6)) b = some (r'.1, r'.2.1, r'.2.2.1, r'.2.2.2.1, r'.2.2.2.2.1, fl, wa, r'.2.2.2.2.2, nI v)) ∨
    (∃ (f : Int32) (p' : Nat) (c' : CTok), ∃ nu' a' l' g' m' w', FT f ∧ c'.2.1 = nI p' ∧ fX6_readInn N cf nu (nI (J 0 6)) (nI n) c.1 c.2.1 c.2.2.1 c.2.2.2.1 c.2.2.2.2.1 c.2.2.2.2.2 b = some (0, f, nu', nI (J 0 6), c'.1, c'.2.1, c'.2.2.1, c'.2.2.2.1, c'.2.2.2.2.1, c'.2.2.2.2.2) ∧ fX12_readHouse N (nI n) r.1 r.2.1 r.2.2.1 r.2.2.2.1 r.2.2.2.2.1 fl wa r.2.2.2.2.2 (nI (J 0 6)) b = some (a', 5, l', g', m', f, nI p', w', nI (J 0 6))) := by
  have hM := hi.M
  have hs := h.rs
  obtain ⟨p1, c1, r1, a1, t1, e1, g1⟩ := h.adv hX (isW_kind hw).1 (isW_kind hw).2
  unfold fX6_readInn fX12_readHouse fX12_readPart
  dsimp only [un0, un1, un2, un3, un4, un5, un6, un7, un8, un9, un10, un11, un12, un13, un14, un15, un16, un17, un18, un32, un33, un35, un36, jn]
  by_cases q : J 0 6 ≤ 0
  · have q' : nI (J 0 6) ≤ 0 := (nI_leI (b := 0) (by omega) (by omega)).mpr q
    rw [if_pos q', if_pos q', e1, g1, bd_some, bd_some]
    dsimp only [un0, un1, un2, un3, un4, un5, un6, un7, un8, un9, un10, un11, un12, un13, un14, un15, un16, un17, un18, un32, un33, un35, un36]
    rcases wpass_ok hX t1 (k := 19) (by omega) cf fl wa with ⟨p2, c2, r2, a2, t2, e2, g2⟩ | ⟨e2, g2⟩
    · rw [e2, g2, bd_some, bd_some]
      dsimp only [un0, un1, un2, un3, un4, un5, un6, un7, un8, un9, un10, un11, un12, un13, un14, un15, un16, un17, un18, un32, un33, un35, un36]
      rw [if_neg (show ¬ (1 : Int32) = 0 by decide)]
      rcases passWhole_ok hX t2 (lo := 1) (hi := 40) (lo' := 1) (hi' := 40) rfl rfl (by omega) (by omega) cf nu fl wa with ⟨v, p3, c3, r3, v1, v2, a3, t3, e3, g3⟩ | ⟨f, nu', f1, e3, g3⟩
      · rw [e3, g3, bd_some, bd_some]
        dsimp only [un0, un1, un2, un3, un4, un5, un6, un7, un8, un9, un10, un11, un12, un13, un14, un15, un16, un17, un18, un32, un33, un35, un36]
        rw [if_neg (show ¬ (1 : Int32) = 0 by decide), bd_some]
        dsimp only [un0, un1, un2, un3, un4, un5, un6, un7, un8, un9, un10, un11, un12, un13, un14, un15, un16, un17, un18, un32, un33, un35, un36]
        rw [if_neg t3.rs]
        exact Or.inl ⟨p3, c3, r3, v, by omega, t3, v1, v2, rfl, rfl⟩
      · rw [e3, g3, bd_some, bd_some]
        dsimp only [un0, un1, un2, un3, un4, un5, un6, un7, un8, un9, un10, un11, un12, un13, un14, un15, un16, un17, un18, un32, un33, un35, un36]
        rw [if_pos (show (0 : Int32) = 0 from rfl), bd_some]
        dsimp only [un0, un1, un2, un3, un4, un5, un6, un7, un8, un9, un10, un11, un12, un13, un14, un15, un16, un17, un18, un32, un33, un35, un36]
        rw [if_pos (show (5 : Int32) = 5 from rfl)]
        exact Or.inr ⟨f, p2, c2, nu', _, _, _, _, _, f1, t2.2.1, rfl, rfl⟩
    · rw [e2, g2, bd_some, bd_some]
      dsimp only [un0, un1, un2, un3, un4, un5, un6, un7, un8, un9, un10, un11, un12, un13, un14, un15, un16, un17, un18, un32, un33, un35, un36]
      rw [if_pos (show (0 : Int32) = 0 from rfl), ov_readWhole, bd_some]
      dsimp only [un0, un1, un2, un3, un4, un5, un6, un7, un8, un9, un10, un11, un12, un13, un14, un15, un16, un17, un18, un32, un33, un35, un36]
      rw [bd_some]
      dsimp only [un0, un1, un2, un3, un4, un5, un6, un7, un8, un9, un10, un11, un12, un13, un14, un15, un16, un17, un18, un32, un33, un35, un36]
      rw [if_pos (show (5 : Int32) = 5 from rfl)]
      exact Or.inr ⟨1, p1, c1, nu, _, _, _, _, _, FT1, t1.2.1, rfl, rfl⟩
  · have q' : ¬ nI (J 0 6) ≤ 0 := fun e => q ((nI_leI (b := 0) (by omega) (by omega)).mp e)
    rw [if_neg q', if_neg q', wrong_ok hs, bd_some]
    dsimp only [un0, un1, un2, un3, un4, un5, un6, un7, un8, un9, un10, un11, un12, un13, un14, un15, un16, un17, un18, un32, un33, un35, un36]
    rw [ov_goesOn, bd_some]
    dsimp only [un0, un1, un2, un3, un4, un5, un6, un7, un8, un9, un10, un11, un12, un13, un14, un15, un16, un17, un18, un32, un33, un35, un36]
    rw [ov_needs, bd_some]
    dsimp only [un0, un1, un2, un3, un4, un5, un6, un7, un8, un9, un10, un11, un12, un13, un14, un15, un16, un17, un18, un32, un33, un35, un36]
    rw [ov_readWhole, bd_some]
    dsimp only [un0, un1, un2, un3, un4, un5, un6, un7, un8, un9, un10, un11, un12, un13, un14, un15, un16, un17, un18, un32, un33, un35, un36]
    rw [bd_some]
    dsimp only [un0, un1, un2, un3, un4, un5, un6, un7, un8, un9, un10, un11, un12, un13, un14, un15, un16, un17, un18, un32, un33, un35, un36]
    rw [if_pos (show (5 : Int32) = 5 from rfl)]
    exact Or.inr ⟨3, p, c, nu, _, _, _, _, _, FT3, h.2.1, rfl, by rw [h.pl]⟩
theorem l_room {N n p k : Nat} {J : Tb} {b : Nat → Int32} {c : CTok} {r : RTok} {named : Int32} {names : Nat → Int64} {sorts numbers : Nat → Int32} {rnames : Int32} {rname : Nat → Int64} {rsort rnum : Nat → Int32} (hX : TX N n b) (h : TK n p c r) (hw : isW c 1 = true) (hi : ib J) (hk : k = J 0 0 + J 0 2 + J 0 3 + J 0 4) (hM : NM (cbJ J) k named names sorts numbers rnames rname rsort rnum) (cf nu fl wa : Int32) (creak cold rcreak rcold : Nat → Int32) :
    (∃ p' c' r' v x named' names' sorts' numbers' rnames' rname' rsort' rnum', p < p' ∧ TK n p' c' r' ∧ v ≤ 9 ∧ x ≤ 1 ∧ J 0 0 < 8 ∧ NM (cb1 (cbJ J) 0 (cbJ J 0)) (k + 1) named' names' sorts' numbers' rnames' rname' rsort' rnum' ∧ fX6_readRoom N named cf nu (nI (J 0 0)) (nI n) c.1 c.2.1 c.2.2.1 c.2.2.2.1 c.2.2.2.2.1 c.2.2.2.2.2 b names sorts numbers creak cold = some (1, named', cf, nI v, nI (J 0 0 + 1), c'.1, c'.2.1, c'.2.2.1, c'.2.2.2.1, c'.2.2.2.2.1, c'.2.2.2.2.2, names', sorts', numbers', upd creak (J 0 0) (nI v), upd cold (J 0 0) (nI x)) ∧ fX12_readRoom N (nI n) r.1 r.2.1 r.2.2.1 r.2.2.2.1 r.2.2.2.2.1 fl wa r.2.2.2.2.2 (nI (J 0 0)) rnames b rname rsort rnum rcreak rcold = some (r'.1, r'.2.1, r'.2.2.1, r'.2.2.2.1, r'.2.2.2.2.1, fl, wa, r'.2.2.2.2.2, nI (J 0 0 + 1), rnames', rname', rsort', rnum', upd rcreak (J 0 0) (nI v), upd rcold (J 0 0) (nI x))) ∨
    (∃ (f : Int32) (p' : Nat) (c' : CTok), ∃ nu' named' names' sorts' numbers' rnames' rname' rsort' rnum' a' l' g' m' w', FT f ∧ c'.2.1 = nI p' ∧ fX6_readRoom N named cf nu (nI (J 0 0)) (nI n) c.1 c.2.1 c.2.2.1 c.2.2.2.1 c.2.2.2.2.1 c.2.2.2.2.2 b names sorts numbers creak cold = some (0, named', f, nu', nI (J 0 0), c'.1, c'.2.1, c'.2.2.1, c'.2.2.2.1, c'.2.2.2.2.1, c'.2.2.2.2.2, names', sorts', numbers', creak, cold) ∧ fX12_readRoom N (nI n) r.1 r.2.1 r.2.2.1 r.2.2.2.1 r.2.2.2.2.1 fl wa r.2.2.2.2.2 (nI (J 0 0)) rnames b rname rsort rnum rcreak rcold = some (a', 5, l', g', m', f, nI p', w', nI (J 0 0), rnames', rname', rsort', rnum', rcreak, rcold)) := by
  have hR := hi.R
  have hT := hi.T
  have hE := hi.E
  have hS := hi.S
  have hN : 64 < N := by have := hX.1; omega
  have hs := h.rs
  obtain ⟨p1, c1, r1, a1, t1, e1, g1⟩ := h.adv hX (isW_kind hw).1 (isW_kind hw).2
  unfold fX6_readRoom fX12_readRoom fX12_readPart
  by_cases q : J 0 0 < 8
  · rw [if_pos (show nI (J 0 0) < 8 from (nI_ltI (b := 8) (by omega) (by omega)).mpr q), e1, begins_go h (m' := 8) (m := 8) rfl (by omega) (by omega) (by omega) fl wa g1, bd_some, bd_some]
    dsimp only [un0, un1, un2, un3, un4, un5, un6, un7, un8, un9, un10, un11, un12, un13, un14, un15, un16, un17, un18, un32, un33, un35, un36]
    rcases passNew_ok hX t1 (by omega) hM (s' := 0) (s := 0) rfl (by omega) cf fl wa with ⟨p2, c2, r2, named', names', sorts', numbers', rnames', rname', rsort', rnum', a2, t2, M2, e2, g2⟩ | ⟨f, f1, e2, g2⟩
    · rw [show cbJ J 0 = J 0 0 from rfl] at e2 g2
      rw [e2, g2, bd_some, bd_some]
      dsimp only [un0, un1, un2, un3, un4, un5, un6, un7, un8, un9, un10, un11, un12, un13, un14, un15, un16, un17, un18, un32, un33, un35, un36]
      rw [if_neg (show ¬ (1 : Int32) = 0 by decide)]
      rcases wpass_ok hX t2 (k := 20) (by omega) cf fl wa with ⟨p3, c3, r3, a3, t3, e3, g3⟩ | ⟨e3, g3⟩
      · rw [e3, g3, bd_some, bd_some]
        dsimp only [un0, un1, un2, un3, un4, un5, un6, un7, un8, un9, un10, un11, un12, un13, un14, un15, un16, un17, un18, un32, un33, un35, un36]
        rw [if_neg (show ¬ (1 : Int32) = 0 by decide)]
        rcases passWhole_ok hX t3 (lo := 0) (hi := 9) (lo' := 0) (hi' := 9) rfl rfl (by omega) (by omega) cf nu fl wa with ⟨v, p4, c4, r4, v1, v2, a4, t4, e4, g4⟩ | ⟨f, nu', f1, e4, g4⟩
        · rw [e4, g4, bd_some, bd_some]
          dsimp only [un0, un1, un2, un3, un4, un5, un6, un7, un8, un9, un10, un11, un12, un13, un14, un15, un16, un17, un18, un32, un33, un35, un36]
          rw [if_neg (show ¬ (1 : Int32) = 0 by decide), bd_some]
          dsimp only [un0, un1, un2, un3, un4, un5, un6, un7, un8, un9, un10, un11, un12, un13, un14, un15, un16, un17, un18, un32, un33, un35, un36]
          obtain ⟨x, p5, c5, r5, x1, a5, t5, e5, g5, -, -⟩ := passIf_ok hX t4 (k := 7) (by omega)
          rw [e5, g5, bd_some, bd_some]
          dsimp only [un0, un1, un2, un3, un4, un5, un6, un7, un8, un9, un10, un11, un12, un13, un14, un15, un16, un17, un18, un32, un33, un35, un36]
          have hz : nI x = 0 ∨ nI x = 1 := by
            rcases Nat.lt_or_ge x 1 with z | z
            · have : x = 0 := by omega
              subst this; exact Or.inl rfl
            · have : x = 1 := by omega
              subst this; exact Or.inr rfl
          unfold fX1_addRoom
          rw [if_neg t5.rs, zg_in _ hz, zg_in _ hz]
          simp (disch := omega) only [gd_nI, nI_clamp, nI_1, bd_some, un3]
          exact Or.inl ⟨p5, c5, r5, v, x, named', names', sorts', numbers', rnames', rname', rsort', rnum', by omega, t5, v2, x1, q, M2, rfl, rfl⟩
        · rw [e4, g4, bd_some, bd_some]
          dsimp only [un0, un1, un2, un3, un4, un5, un6, un7, un8, un9, un10, un11, un12, un13, un14, un15, un16, un17, un18, un32, un33, un35, un36]
          rw [if_pos (show (0 : Int32) = 0 from rfl), bd_some]
          dsimp only [un0, un1, un2, un3, un4, un5, un6, un7, un8, un9, un10, un11, un12, un13, un14, un15, un16, un17, un18, un32, un33, un35, un36]
          rw [ov_eatsWord, bd_some]
          dsimp only [un0, un1, un2, un3, un4, un5, un6, un7, un8, un9, un10, un11, un12, un13, un14, un15, un16, un17, un18, un32, un33, un35, un36]
          rw [if_pos (show (5 : Int32) = 5 from rfl)]
          exact Or.inr ⟨f, p3, c3, nu', named', names', sorts', numbers', rnames', rname', rsort', rnum', _, _, _, _, _, f1, t3.2.1, rfl, rfl⟩
      · rw [e3, g3, bd_some, bd_some]
        dsimp only [un0, un1, un2, un3, un4, un5, un6, un7, un8, un9, un10, un11, un12, un13, un14, un15, un16, un17, un18, un32, un33, un35, un36]
        rw [if_pos (show (0 : Int32) = 0 from rfl), ov_readWhole, bd_some]
        dsimp only [un0, un1, un2, un3, un4, un5, un6, un7, un8, un9, un10, un11, un12, un13, un14, un15, un16, un17, un18, un32, un33, un35, un36]
        rw [bd_some]
        dsimp only [un0, un1, un2, un3, un4, un5, un6, un7, un8, un9, un10, un11, un12, un13, un14, un15, un16, un17, un18, un32, un33, un35, un36]
        rw [ov_eatsWord, bd_some]
        dsimp only [un0, un1, un2, un3, un4, un5, un6, un7, un8, un9, un10, un11, un12, un13, un14, un15, un16, un17, un18, un32, un33, un35, un36]
        rw [if_pos (show (5 : Int32) = 5 from rfl)]
        exact Or.inr ⟨1, p2, c2, nu, named', names', sorts', numbers', rnames', rname', rsort', rnum', _, _, _, _, _, FT1, t2.2.1, rfl, rfl⟩
    · rw [show cbJ J 0 = J 0 0 from rfl] at e2 g2
      rw [e2, g2, bd_some, bd_some]
      dsimp only [un0, un1, un2, un3, un4, un5, un6, un7, un8, un9, un10, un11, un12, un13, un14, un15, un16, un17, un18, un32, un33, un35, un36]
      rw [if_pos (show (0 : Int32) = 0 from rfl), ov_needs, bd_some]
      dsimp only [un0, un1, un2, un3, un4, un5, un6, un7, un8, un9, un10, un11, un12, un13, un14, un15, un16, un17, un18, un32, un33, un35, un36]
      rw [ov_readWhole, bd_some]
      dsimp only [un0, un1, un2, un3, un4, un5, un6, un7, un8, un9, un10, un11, un12, un13, un14, un15, un16, un17, un18, un32, un33, un35, un36]
      rw [bd_some]
      dsimp only [un0, un1, un2, un3, un4, un5, un6, un7, un8, un9, un10, un11, un12, un13, un14, un15, un16, un17, un18, un32, un33, un35, un36]
      rw [ov_eatsWord, bd_some]
      dsimp only [un0, un1, un2, un3, un4, un5, un6, un7, un8, un9, un10, un11, un12, un13, un14, un15, un16, un17, un18, un32, un33, un35, un36]
      rw [if_pos (show (5 : Int32) = 5 from rfl)]
      exact Or.inr ⟨f, p1, c1, nu, named, names, sorts, numbers, rnames, rname, rsort, rnum, _, _, _, _, _, f1, t1.2.1, rfl, rfl⟩
  · rw [if_neg (show ¬ nI (J 0 0) < 8 from fun e => q ((nI_ltI (b := 8) (by omega) (by omega)).mp e)), begins_full h (m' := 8) (m := 8) rfl (by omega) fl wa, bd_some]
    dsimp only [un0, un1, un2, un3, un4, un5, un6, un7, un8, un9, un10, un11, un12, un13, un14, un15, un16, un17, un18, un32, un33, un35, un36]
    rw [ov_readFresh hN (by omega) hM, bd_some]
    dsimp only [un0, un1, un2, un3, un4, un5, un6, un7, un8, un9, un10, un11, un12, un13, un14, un15, un16, un17, un18, un32, un33, un35, un36]
    rw [ov_needs, bd_some]
    dsimp only [un0, un1, un2, un3, un4, un5, un6, un7, un8, un9, un10, un11, un12, un13, un14, un15, un16, un17, un18, un32, un33, un35, un36]
    rw [ov_readWhole, bd_some]
    dsimp only [un0, un1, un2, un3, un4, un5, un6, un7, un8, un9, un10, un11, un12, un13, un14, un15, un16, un17, un18, un32, un33, un35, un36]
    rw [bd_some]
    dsimp only [un0, un1, un2, un3, un4, un5, un6, un7, un8, un9, un10, un11, un12, un13, un14, un15, un16, un17, un18, un32, un33, un35, un36]
    rw [ov_eatsWord, bd_some]
    dsimp only [un0, un1, un2, un3, un4, un5, un6, un7, un8, un9, un10, un11, un12, un13, un14, un15, un16, un17, un18, un32, un33, un35, un36]
    rw [if_pos (show (5 : Int32) = 5 from rfl)]
    exact Or.inr ⟨5, p, c, nu, named, names, sorts, numbers, rnames, rname, rsort, rnum, _, _, _, _, _, FT5, h.2.1, rfl, rfl⟩
theorem l_thing {N n p k : Nat} {J : Tb} {b : Nat → Int32} {c : CTok} {r : RTok} {named : Int32} {names : Nat → Int64} {sorts numbers : Nat → Int32} {rnames : Int32} {rname : Nat → Int64} {rsort rnum : Nat → Int32} (hX : TX N n b) (h : TK n p c r) (hw : isW c 3 = true) (hi : ib J) (hk : k = J 0 0 + J 0 2 + J 0 3 + J 0 4) (hM : NM (cbJ J) k named names sorts numbers rnames rname rsort rnum) (cf nu fl wa : Int32) (thingIn full rlies rfull : Nat → Int32) :
    (∃ p' c' r' v x named' names' sorts' numbers' rnames' rname' rsort' rnum', p < p' ∧ TK n p' c' r' ∧ v < J 0 0 ∧ x ≤ 1 ∧ J 0 2 < 4 ∧ NM (cb1 (cbJ J) 1 (cbJ J 1)) (k + 1) named' names' sorts' numbers' rnames' rname' rsort' rnum' ∧ fX6_readThing N named cf nu (nI (J 0 2)) (nI n) c.1 c.2.1 c.2.2.1 c.2.2.2.1 c.2.2.2.2.1 c.2.2.2.2.2 b names sorts numbers thingIn full = some (1, named', cf, nI v, nI (J 0 2 + 1), c'.1, c'.2.1, c'.2.2.1, c'.2.2.2.1, c'.2.2.2.2.1, c'.2.2.2.2.2, names', sorts', numbers', upd thingIn (J 0 2) (nI v), upd full (J 0 2) (nI x)) ∧ fX12_readThing N (nI n) r.1 r.2.1 r.2.2.1 r.2.2.2.1 r.2.2.2.2.1 fl wa r.2.2.2.2.2 (nI (J 0 2)) rnames b rname rsort rnum rlies rfull = some (r'.1, r'.2.1, r'.2.2.1, r'.2.2.2.1, r'.2.2.2.2.1, fl, wa, r'.2.2.2.2.2, nI (J 0 2 + 1), rnames', rname', rsort', rnum', upd rlies (J 0 2) (nI v), upd rfull (J 0 2) (nI x))) ∨
    (∃ (f : Int32) (p' : Nat) (c' : CTok), ∃ nu' named' names' sorts' numbers' rnames' rname' rsort' rnum' a' l' g' m' w', FT f ∧ c'.2.1 = nI p' ∧ fX6_readThing N named cf nu (nI (J 0 2)) (nI n) c.1 c.2.1 c.2.2.1 c.2.2.2.1 c.2.2.2.2.1 c.2.2.2.2.2 b names sorts numbers thingIn full = some (0, named', f, nu', nI (J 0 2), c'.1, c'.2.1, c'.2.2.1, c'.2.2.2.1, c'.2.2.2.2.1, c'.2.2.2.2.2, names', sorts', numbers', thingIn, full) ∧ fX12_readThing N (nI n) r.1 r.2.1 r.2.2.1 r.2.2.2.1 r.2.2.2.2.1 fl wa r.2.2.2.2.2 (nI (J 0 2)) rnames b rname rsort rnum rlies rfull = some (a', 5, l', g', m', f, nI p', w', nI (J 0 2), rnames', rname', rsort', rnum', rlies, rfull)) := by
  have hR := hi.R
  have hT := hi.T
  have hE := hi.E
  have hS := hi.S
  have hN : 64 < N := by have := hX.1; omega
  have hs := h.rs
  obtain ⟨p1, c1, r1, a1, t1, e1, g1⟩ := h.adv hX (isW_kind hw).1 (isW_kind hw).2
  unfold fX6_readThing fX12_readThing
  by_cases q : J 0 2 < 4
  · rw [if_pos (show nI (J 0 2) < 4 from (nI_ltI (b := 4) (by omega) (by omega)).mpr q), e1, begins_go h (m' := 4) (m := 4) rfl (by omega) (by omega) (by omega) fl wa g1, bd_some, bd_some]
    dsimp only [un0, un1, un2, un3, un4, un5, un6, un7, un8, un9, un10, un11, un12, un13, un14, un15, un16, un17, un18, un32, un33, un35, un36]
    rcases passNew_ok hX t1 (by omega) hM (s' := 1) (s := 1) rfl (by omega) cf fl wa with ⟨p2, c2, r2, named', names', sorts', numbers', rnames', rname', rsort', rnum', a2, t2, M2, e2, g2⟩ | ⟨f, f1, e2, g2⟩
    · rw [show cbJ J 1 = J 0 2 from rfl] at e2 g2
      rw [e2, g2, bd_some, bd_some]
      dsimp only [un0, un1, un2, un3, un4, un5, un6, un7, un8, un9, un10, un11, un12, un13, un14, un15, un16, un17, un18, un32, un33, un35, un36]
      rw [if_neg (show ¬ (1 : Int32) = 0 by decide)]
      rcases wpass_ok hX t2 (k := 21) (by omega) cf fl wa with ⟨p3, c3, r3, a3, t3, e3, g3⟩ | ⟨e3, g3⟩
      · rw [e3, g3, bd_some, bd_some]
        dsimp only [un0, un1, un2, un3, un4, un5, un6, un7, un8, un9, un10, un11, un12, un13, un14, un15, un16, un17, un18, un32, un33, un35, un36]
        rw [if_neg (show ¬ (1 : Int32) = 0 by decide)]
        rcases passName_ok hX t3 (by omega) M2 (s' := 0) (s := 0) rfl (by omega) cf nu fl wa with ⟨v, p4, c4, r4, v1, a4, t4, e4, g4⟩ | ⟨f, nu', f1, e4, g4⟩
        · have v2 : v < J 0 0 := v1
          rw [e4, g4, bd_some, bd_some]
          dsimp only [un0, un1, un2, un3, un4, un5, un6, un7, un8, un9, un10, un11, un12, un13, un14, un15, un16, un17, un18, un32, un33, un35, un36]
          rw [if_neg (show ¬ (1 : Int32) = 0 by decide)]
          obtain ⟨x, p5, c5, r5, x1, a5, t5, e5, g5, -, -⟩ := passIf_ok hX t4 (k := 11) (by omega)
          rw [e5, g5, bd_some, bd_some]
          dsimp only [un0, un1, un2, un3, un4, un5, un6, un7, un8, un9, un10, un11, un12, un13, un14, un15, un16, un17, un18, un32, un33, un35, un36]
          have hz : nI x = 0 ∨ nI x = 1 := by
            rcases Nat.lt_or_ge x 1 with z | z
            · have : x = 0 := by omega
              subst this; exact Or.inl rfl
            · have : x = 1 := by omega
              subst this; exact Or.inr rfl
          unfold fX2_addThing
          rw [if_neg t5.rs, zg_in _ hz, zg_in _ hz]
          simp (disch := omega) only [gd_nI, nI_clamp, nI_1, bd_some, un3]
          exact Or.inl ⟨p5, c5, r5, v, x, named', names', sorts', numbers', rnames', rname', rsort', rnum', by omega, t5, v2, x1, q, M2, rfl, rfl⟩
        · rw [e4, g4, bd_some, bd_some]
          dsimp only [un0, un1, un2, un3, un4, un5, un6, un7, un8, un9, un10, un11, un12, un13, un14, un15, un16, un17, un18, un32, un33, un35, un36]
          rw [if_pos (show (0 : Int32) = 0 from rfl), ov_eatsWord, bd_some]
          dsimp only [un0, un1, un2, un3, un4, un5, un6, un7, un8, un9, un10, un11, un12, un13, un14, un15, un16, un17, un18, un32, un33, un35, un36]
          rw [if_pos (show (5 : Int32) = 5 from rfl)]
          exact Or.inr ⟨f, p3, c3, nu', named', names', sorts', numbers', rnames', rname', rsort', rnum', _, _, _, _, _, f1, t3.2.1, rfl, rfl⟩
      · rw [e3, g3, bd_some, bd_some]
        dsimp only [un0, un1, un2, un3, un4, un5, un6, un7, un8, un9, un10, un11, un12, un13, un14, un15, un16, un17, un18, un32, un33, un35, un36]
        rw [if_pos (show (0 : Int32) = 0 from rfl), ov_readKnown hN (by omega) M2, bd_some]
        dsimp only [un0, un1, un2, un3, un4, un5, un6, un7, un8, un9, un10, un11, un12, un13, un14, un15, un16, un17, un18, un32, un33, un35, un36]
        rw [ov_eatsWord, bd_some]
        dsimp only [un0, un1, un2, un3, un4, un5, un6, un7, un8, un9, un10, un11, un12, un13, un14, un15, un16, un17, un18, un32, un33, un35, un36]
        rw [if_pos (show (5 : Int32) = 5 from rfl)]
        exact Or.inr ⟨1, p2, c2, nu, named', names', sorts', numbers', rnames', rname', rsort', rnum', _, _, _, _, _, FT1, t2.2.1, rfl, rfl⟩
    · rw [show cbJ J 1 = J 0 2 from rfl] at e2 g2
      rw [e2, g2, bd_some, bd_some]
      dsimp only [un0, un1, un2, un3, un4, un5, un6, un7, un8, un9, un10, un11, un12, un13, un14, un15, un16, un17, un18, un32, un33, un35, un36]
      rw [if_pos (show (0 : Int32) = 0 from rfl), ov_needs, bd_some]
      dsimp only [un0, un1, un2, un3, un4, un5, un6, un7, un8, un9, un10, un11, un12, un13, un14, un15, un16, un17, un18, un32, un33, un35, un36]
      rw [ov_readKnown hN (by omega) hM, bd_some]
      dsimp only [un0, un1, un2, un3, un4, un5, un6, un7, un8, un9, un10, un11, un12, un13, un14, un15, un16, un17, un18, un32, un33, un35, un36]
      rw [ov_eatsWord, bd_some]
      dsimp only [un0, un1, un2, un3, un4, un5, un6, un7, un8, un9, un10, un11, un12, un13, un14, un15, un16, un17, un18, un32, un33, un35, un36]
      rw [if_pos (show (5 : Int32) = 5 from rfl)]
      exact Or.inr ⟨f, p1, c1, nu, named, names, sorts, numbers, rnames, rname, rsort, rnum, _, _, _, _, _, f1, t1.2.1, rfl, rfl⟩
  · rw [if_neg (show ¬ nI (J 0 2) < 4 from fun e => q ((nI_ltI (b := 4) (by omega) (by omega)).mp e)), begins_full h (m' := 4) (m := 4) rfl (by omega) fl wa, bd_some]
    dsimp only [un0, un1, un2, un3, un4, un5, un6, un7, un8, un9, un10, un11, un12, un13, un14, un15, un16, un17, un18, un32, un33, un35, un36]
    rw [ov_readFresh hN (by omega) hM, bd_some]
    dsimp only [un0, un1, un2, un3, un4, un5, un6, un7, un8, un9, un10, un11, un12, un13, un14, un15, un16, un17, un18, un32, un33, un35, un36]
    rw [ov_needs, bd_some]
    dsimp only [un0, un1, un2, un3, un4, un5, un6, un7, un8, un9, un10, un11, un12, un13, un14, un15, un16, un17, un18, un32, un33, un35, un36]
    rw [ov_readKnown hN (by omega) hM, bd_some]
    dsimp only [un0, un1, un2, un3, un4, un5, un6, un7, un8, un9, un10, un11, un12, un13, un14, un15, un16, un17, un18, un32, un33, un35, un36]
    rw [ov_eatsWord, bd_some]
    dsimp only [un0, un1, un2, un3, un4, un5, un6, un7, un8, un9, un10, un11, un12, un13, un14, un15, un16, un17, un18, un32, un33, un35, un36]
    rw [if_pos (show (5 : Int32) = 5 from rfl)]
    exact Or.inr ⟨5, p, c, nu, named, names, sorts, numbers, rnames, rname, rsort, rnum, _, _, _, _, _, FT5, h.2.1, rfl, rfl⟩
theorem l_sleeper {N n p k : Nat} {J : Tb} {b : Nat → Int32} {c : CTok} {r : RTok} {named : Int32} {names : Nat → Int64} {sorts numbers : Nat → Int32} {rnames : Int32} {rname : Nat → Int64} {rsort rnum : Nat → Int32} (hX : TX N n b) (h : TK n p c r) (hw : isW c 5 = true) (hi : ib J) (hk : k = J 0 0 + J 0 2 + J 0 3 + J 0 4) (hM : NM (cbJ J) k named names sorts numbers rnames rname rsort rnum) (cf nu fl wa : Int32) (bed dreamOf rbed rdream : Nat → Int32) :
    (∃ p' c' r' v x named' names' sorts' numbers' rnames' rname' rsort' rnum', p < p' ∧ TK n p' c' r' ∧ v < J 0 0 ∧ x < J 0 3 ∧ J 0 4 < 3 ∧ NM (cb1 (cbJ J) 3 (cbJ J 3)) (k + 1) named' names' sorts' numbers' rnames' rname' rsort' rnum' ∧ fX6_readSleeper N named cf nu (nI (J 0 4)) (nI n) c.1 c.2.1 c.2.2.1 c.2.2.2.1 c.2.2.2.2.1 c.2.2.2.2.2 b names sorts numbers bed dreamOf = some (1, named', cf, nI x, nI (J 0 4 + 1), c'.1, c'.2.1, c'.2.2.1, c'.2.2.2.1, c'.2.2.2.2.1, c'.2.2.2.2.2, names', sorts', numbers', upd bed (J 0 4) (nI v), upd dreamOf (J 0 4) (nI x)) ∧ fX12_readSleeper N (nI n) r.1 r.2.1 r.2.2.1 r.2.2.2.1 r.2.2.2.2.1 fl wa r.2.2.2.2.2 (nI (J 0 4)) rnames b rname rsort rnum rbed rdream = some (r'.1, r'.2.1, r'.2.2.1, r'.2.2.2.1, r'.2.2.2.2.1, fl, wa, r'.2.2.2.2.2, nI (J 0 4 + 1), rnames', rname', rsort', rnum', upd rbed (J 0 4) (nI v), upd rdream (J 0 4) (nI x))) ∨
    (∃ (f : Int32) (p' : Nat) (c' : CTok), ∃ nu' named' names' sorts' numbers' rnames' rname' rsort' rnum' a' l' g' m' w', FT f ∧ c'.2.1 = nI p' ∧ fX6_readSleeper N named cf nu (nI (J 0 4)) (nI n) c.1 c.2.1 c.2.2.1 c.2.2.2.1 c.2.2.2.2.1 c.2.2.2.2.2 b names sorts numbers bed dreamOf = some (0, named', f, nu', nI (J 0 4), c'.1, c'.2.1, c'.2.2.1, c'.2.2.2.1, c'.2.2.2.2.1, c'.2.2.2.2.2, names', sorts', numbers', bed, dreamOf) ∧ fX12_readSleeper N (nI n) r.1 r.2.1 r.2.2.1 r.2.2.2.1 r.2.2.2.2.1 fl wa r.2.2.2.2.2 (nI (J 0 4)) rnames b rname rsort rnum rbed rdream = some (a', 5, l', g', m', f, nI p', w', nI (J 0 4), rnames', rname', rsort', rnum', rbed, rdream)) := by
  have hR := hi.R
  have hT := hi.T
  have hE := hi.E
  have hS := hi.S
  have hN : 64 < N := by have := hX.1; omega
  have hs := h.rs
  obtain ⟨p1, c1, r1, a1, t1, e1, g1⟩ := h.adv hX (isW_kind hw).1 (isW_kind hw).2
  unfold fX6_readSleeper fX12_readSleeper
  by_cases q : J 0 4 < 3
  · rw [if_pos (show nI (J 0 4) < 3 from (nI_ltI (b := 3) (by omega) (by omega)).mpr q), e1, begins_go h (m' := 3) (m := 3) rfl (by omega) (by omega) (by omega) fl wa g1, bd_some, bd_some]
    dsimp only [un0, un1, un2, un3, un4, un5, un6, un7, un8, un9, un10, un11, un12, un13, un14, un15, un16, un17, un18, un32, un33, un35, un36]
    rcases passNew_ok hX t1 (by omega) hM (s' := 3) (s := 3) rfl (by omega) cf fl wa with ⟨p2, c2, r2, named', names', sorts', numbers', rnames', rname', rsort', rnum', a2, t2, M2, e2, g2⟩ | ⟨f, f1, e2, g2⟩
    · rw [show cbJ J 3 = J 0 4 from rfl] at e2 g2
      rw [e2, g2, bd_some, bd_some]
      dsimp only [un0, un1, un2, un3, un4, un5, un6, un7, un8, un9, un10, un11, un12, un13, un14, un15, un16, un17, un18, un32, un33, un35, un36]
      rw [if_neg (show ¬ (1 : Int32) = 0 by decide)]
      rcases wpass_ok hX t2 (k := 22) (by omega) cf fl wa with ⟨p3, c3, r3, a3, t3, e3, g3⟩ | ⟨e3, g3⟩
      · rw [e3, g3, bd_some, bd_some]
        dsimp only [un0, un1, un2, un3, un4, un5, un6, un7, un8, un9, un10, un11, un12, un13, un14, un15, un16, un17, un18, un32, un33, un35, un36]
        rw [if_neg (show ¬ (1 : Int32) = 0 by decide)]
        rcases passName_ok hX t3 (by omega) M2 (s' := 0) (s := 0) rfl (by omega) cf nu fl wa with ⟨v, p4, c4, r4, v1, a4, t4, e4, g4⟩ | ⟨f, nu', f1, e4, g4⟩
        · have v2 : v < J 0 0 := v1
          rw [e4, g4, bd_some, bd_some]
          dsimp only [un0, un1, un2, un3, un4, un5, un6, un7, un8, un9, un10, un11, un12, un13, un14, un15, un16, un17, un18, un32, un33, un35, un36]
          rw [if_neg (show ¬ (1 : Int32) = 0 by decide)]
          rcases wpass_ok hX t4 (k := 23) (by omega) cf fl wa with ⟨p5, c5, r5, a5, t5, e5, g5⟩ | ⟨e5, g5⟩
          · rw [e5, g5, bd_some, bd_some]
            dsimp only [un0, un1, un2, un3, un4, un5, un6, un7, un8, un9, un10, un11, un12, un13, un14, un15, un16, un17, un18, un32, un33, un35, un36]
            rw [if_neg (show ¬ (1 : Int32) = 0 by decide)]
            rcases passName_ok hX t5 (by omega) M2 (s' := 2) (s := 2) rfl (by omega) cf (nI v) fl wa with ⟨x, p6, c6, r6, x1, a6, t6, e6, g6⟩ | ⟨f, nu', f1, e6, g6⟩
            · have x2 : x < J 0 3 := x1
              rw [e6, g6, bd_some, bd_some]
              dsimp only [un0, un1, un2, un3, un4, un5, un6, un7, un8, un9, un10, un11, un12, un13, un14, un15, un16, un17, un18, un32, un33, un35, un36]
              unfold fX2_addSleeper
              rw [if_neg (show ¬ (1 : Int32) = 0 by decide), if_neg t6.rs]
              simp (disch := omega) only [gd_nI, nI_clamp, nI_1, bd_some, un3]
              exact Or.inl ⟨p6, c6, r6, v, x, named', names', sorts', numbers', rnames', rname', rsort', rnum', by omega, t6, v2, x2, q, M2, rfl, rfl⟩
            · rw [e6, g6, bd_some, bd_some]
              dsimp only [un0, un1, un2, un3, un4, un5, un6, un7, un8, un9, un10, un11, un12, un13, un14, un15, un16, un17, un18, un32, un33, un35, un36]
              rw [if_pos (show (0 : Int32) = 0 from rfl), if_pos (show (5 : Int32) = 5 from rfl)]
              exact Or.inr ⟨f, p5, c5, nu', named', names', sorts', numbers', rnames', rname', rsort', rnum', _, _, _, _, _, f1, t5.2.1, rfl, rfl⟩
          · rw [e5, g5, bd_some, bd_some]
            dsimp only [un0, un1, un2, un3, un4, un5, un6, un7, un8, un9, un10, un11, un12, un13, un14, un15, un16, un17, un18, un32, un33, un35, un36]
            rw [if_pos (show (0 : Int32) = 0 from rfl), ov_readKnown hN (by omega) M2, bd_some]
            dsimp only [un0, un1, un2, un3, un4, un5, un6, un7, un8, un9, un10, un11, un12, un13, un14, un15, un16, un17, un18, un32, un33, un35, un36]
            rw [if_pos (show (5 : Int32) = 5 from rfl)]
            exact Or.inr ⟨1, p4, c4, nI v, named', names', sorts', numbers', rnames', rname', rsort', rnum', _, _, _, _, _, FT1, t4.2.1, rfl, rfl⟩
        · rw [e4, g4, bd_some, bd_some]
          dsimp only [un0, un1, un2, un3, un4, un5, un6, un7, un8, un9, un10, un11, un12, un13, un14, un15, un16, un17, un18, un32, un33, un35, un36]
          rw [if_pos (show (0 : Int32) = 0 from rfl), ov_needs, bd_some]
          dsimp only [un0, un1, un2, un3, un4, un5, un6, un7, un8, un9, un10, un11, un12, un13, un14, un15, un16, un17, un18, un32, un33, un35, un36]
          rw [ov_readKnown hN (by omega) M2, bd_some]
          dsimp only [un0, un1, un2, un3, un4, un5, un6, un7, un8, un9, un10, un11, un12, un13, un14, un15, un16, un17, un18, un32, un33, un35, un36]
          rw [if_pos (show (5 : Int32) = 5 from rfl)]
          exact Or.inr ⟨f, p3, c3, nu', named', names', sorts', numbers', rnames', rname', rsort', rnum', _, _, _, _, _, f1, t3.2.1, rfl, rfl⟩
      · rw [e3, g3, bd_some, bd_some]
        dsimp only [un0, un1, un2, un3, un4, un5, un6, un7, un8, un9, un10, un11, un12, un13, un14, un15, un16, un17, un18, un32, un33, un35, un36]
        rw [if_pos (show (0 : Int32) = 0 from rfl), ov_readKnown hN (by omega) M2, bd_some]
        dsimp only [un0, un1, un2, un3, un4, un5, un6, un7, un8, un9, un10, un11, un12, un13, un14, un15, un16, un17, un18, un32, un33, un35, un36]
        rw [ov_needs, bd_some]
        dsimp only [un0, un1, un2, un3, un4, un5, un6, un7, un8, un9, un10, un11, un12, un13, un14, un15, un16, un17, un18, un32, un33, un35, un36]
        rw [ov_readKnown hN (by omega) M2, bd_some]
        dsimp only [un0, un1, un2, un3, un4, un5, un6, un7, un8, un9, un10, un11, un12, un13, un14, un15, un16, un17, un18, un32, un33, un35, un36]
        rw [if_pos (show (5 : Int32) = 5 from rfl)]
        exact Or.inr ⟨1, p2, c2, nu, named', names', sorts', numbers', rnames', rname', rsort', rnum', _, _, _, _, _, FT1, t2.2.1, rfl, rfl⟩
    · rw [show cbJ J 3 = J 0 4 from rfl] at e2 g2
      rw [e2, g2, bd_some, bd_some]
      dsimp only [un0, un1, un2, un3, un4, un5, un6, un7, un8, un9, un10, un11, un12, un13, un14, un15, un16, un17, un18, un32, un33, un35, un36]
      rw [if_pos (show (0 : Int32) = 0 from rfl), ov_needs, bd_some]
      dsimp only [un0, un1, un2, un3, un4, un5, un6, un7, un8, un9, un10, un11, un12, un13, un14, un15, un16, un17, un18, un32, un33, un35, un36]
      rw [ov_readKnown hN (by omega) hM, bd_some]
      dsimp only [un0, un1, un2, un3, un4, un5, un6, un7, un8, un9, un10, un11, un12, un13, un14, un15, un16, un17, un18, un32, un33, un35, un36]
      rw [ov_needs, bd_some]
      dsimp only [un0, un1, un2, un3, un4, un5, un6, un7, un8, un9, un10, un11, un12, un13, un14, un15, un16, un17, un18, un32, un33, un35, un36]
      rw [ov_readKnown hN (by omega) hM, bd_some]
      dsimp only [un0, un1, un2, un3, un4, un5, un6, un7, un8, un9, un10, un11, un12, un13, un14, un15, un16, un17, un18, un32, un33, un35, un36]
      rw [if_pos (show (5 : Int32) = 5 from rfl)]
      exact Or.inr ⟨f, p1, c1, nu, named, names, sorts, numbers, rnames, rname, rsort, rnum, _, _, _, _, _, f1, t1.2.1, rfl, rfl⟩
  · rw [if_neg (show ¬ nI (J 0 4) < 3 from fun e => q ((nI_ltI (b := 3) (by omega) (by omega)).mp e)), begins_full h (m' := 3) (m := 3) rfl (by omega) fl wa, bd_some]
    dsimp only [un0, un1, un2, un3, un4, un5, un6, un7, un8, un9, un10, un11, un12, un13, un14, un15, un16, un17, un18, un32, un33, un35, un36]
    rw [ov_readFresh hN (by omega) hM, bd_some]
    dsimp only [un0, un1, un2, un3, un4, un5, un6, un7, un8, un9, un10, un11, un12, un13, un14, un15, un16, un17, un18, un32, un33, un35, un36]
    rw [ov_needs, bd_some]
    dsimp only [un0, un1, un2, un3, un4, un5, un6, un7, un8, un9, un10, un11, un12, un13, un14, un15, un16, un17, un18, un32, un33, un35, un36]
    rw [ov_readKnown hN (by omega) hM, bd_some]
    dsimp only [un0, un1, un2, un3, un4, un5, un6, un7, un8, un9, un10, un11, un12, un13, un14, un15, un16, un17, un18, un32, un33, un35, un36]
    rw [ov_needs, bd_some]
    dsimp only [un0, un1, un2, un3, un4, un5, un6, un7, un8, un9, un10, un11, un12, un13, un14, un15, un16, un17, un18, un32, un33, un35, un36]
    rw [ov_readKnown hN (by omega) hM, bd_some]
    dsimp only [un0, un1, un2, un3, un4, un5, un6, un7, un8, un9, un10, un11, un12, un13, un14, un15, un16, un17, un18, un32, un33, un35, un36]
    rw [if_pos (show (5 : Int32) = 5 from rfl)]
    exact Or.inr ⟨5, p, c, nu, named, names, sorts, numbers, rnames, rname, rsort, rnum, _, _, _, _, _, FT5, h.2.1, rfl, rfl⟩
