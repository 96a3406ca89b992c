theorem TK.semi {n p : Nat} {c : CTok} {r : RTok} (h : TK n p c r) : (c.2.2.1 = 3 ∧ r.2.1 = 4 ∧ r.2.2.2.1 = 59 ∧ p < n) ∨ (¬ c.2.2.1 = 3 ∧ ¬ (r.2.1 = 4 ∧ r.2.2.2.1 = 59)) := by
  have h' := h.2.2.2
  rcases h' with h | h | ⟨a, a1, a2, -, -, h | h | h | h⟩
  · exact Or.inr ⟨by rw [h.1]; decide, by rw [h.2.1]; exact fun q => absurd q.1 (by decide)⟩
  · exact Or.inr ⟨by rw [h.1]; decide, by rw [h.2.1]; exact fun q => absurd q.1 (by decide)⟩
  · exact Or.inr ⟨by rw [h.1]; decide, by rw [h.2.1]; exact fun q => absurd q.1 (by decide)⟩
  · exact Or.inr ⟨by rw [h.1]; decide, by rw [h.2.1]; exact fun q => absurd q.1 (by decide)⟩
  · exact Or.inl ⟨h.1, h.2.1, h.2.2.2, by omega⟩
  · exact Or.inr ⟨by rw [h.1]; decide, by rw [h.2.2.2]; exact fun q => absurd q.2 (by decide)⟩
theorem semi_no {N n p : Nat} {b : Nat → Int32} {c : CTok} {r : RTok} (h : TK n p c r) (hn : ¬ (r.2.1 = 4 ∧ r.2.2.2.1 = 59)) : fX12_eatsSign N 59 (nI n) r.1 r.2.1 r.2.2.1 r.2.2.2.1 r.2.2.2.2.1 r.2.2.2.2.2 b = some (0, r) := by
  unfold fX12_eatsSign
  try dsimp only [un0, un1, un2, un3, un4, un5, un6, un7, un8, un9, un10, un11, un12, un13, un14, un15, un16, un17, un18, un32, un33, un35, un36, jn]
  by_cases q : r.2.1 = 4
  · rw [if_pos q, if_neg (fun e => hn ⟨q, e⟩), if_pos (show (0 : Int32) = 0 from rfl), zg0]
  · rw [if_neg q, if_pos (show (0 : Int32) = 0 from rfl), zg0]
theorem semi_yes {N n p : Nat} {b : Nat → Int32} {c : CTok} {r r' : RTok} (h : TK n p c r) (h1 : r.2.1 = 4) (h2 : r.2.2.2.1 = 59) (hg : fX12_goesOn N (nI n) r.1 r.2.1 r.2.2.1 r.2.2.2.1 r.2.2.2.2.1 r.2.2.2.2.2 b = some r') : fX12_eatsSign N 59 (nI n) r.1 r.2.1 r.2.2.1 r.2.2.2.1 r.2.2.2.2.1 r.2.2.2.2.2 b = some (1, r') := by
  unfold fX12_eatsSign
  try dsimp only [un0, un1, un2, un3, un4, un5, un6, un7, un8, un9, un10, un11, un12, un13, un14, un15, un16, un17, un18, un32, un33, un35, un36, jn]
  rw [if_pos h1, if_pos h2, if_neg (show ¬ (1 : Int32) = 0 by decide), hg, bd_some]
  try dsimp only [un0, un1, un2, un3, un4, un5, un6, un7, un8, un9, un10, un11, un12, un13, un14, un15, un16, un17, un18, un32, un33, un35, un36]
  rw [zg1]
set_option maxHeartbeats 4000000 in
theorem rd_loop {N n : Nat} {b : Nat → Int32} (hX : TX N n b) (KC : (Int32 × Int32 × Int32 × Int32 × Int32 × Int32 × Int32 × Int32 × Int32 × Int32 × Int32 × (Nat → Int32) × Int32 × Int32 × Int32 × Int64 × Int32 × Int32 × (Nat → Int64) × (Nat → Int32) × (Nat → Int32) × (Nat → Int32) × (Nat → Int32) × (Nat → Int32) × (Nat → Int32) × (Nat → Int32) × (Nat → Int32) × (Nat → Int32) × (Nat → Int32) × (Nat → Int32) × (Nat → Int32) × (Nat → Int32)) → Option (Int32 × Int32 × Int32 × Int32 × Int32 × Int32 × Int32 × Int32 × Int32 × Int32 × Int32 × (Nat → Int32) × Int32 × Int32 × Int32 × Int32 × Int64 × Int32 × Int32 × (Nat → Int64) × (Nat → Int32) × (Nat → Int32) × (Nat → Int32) × (Nat → Int32) × (Nat → Int32) × (Nat → Int32) × (Nat → Int32) × (Nat → Int32) × (Nat → Int32) × (Nat → Int32) × (Nat → Int32) × (Nat → Int32) × (Nat → Int32) × Int32 × (Nat → Int32))) (KR : (Int32 × Int32 × Int32 × Int32 × Int32 × Int32 × Int32 × Int64 × Int32 × Int32 × Int32 × Int32 × Int32 × Int32 × Int32 × Int32 × (Nat → Int64) × (Nat → Int32) × (Nat → Int32) × (Nat → Int32) × (Nat → Int32) × (Nat → Int32) × (Nat → Int32) × (Nat → Int32) × (Nat → Int32) × (Nat → Int32) × (Nat → Int32) × (Nat → Int32) × (Nat → Int32) × (Nat → Int32) × (Nat → Int32) × (Nat → Int32) × (Nat → Int32) × (Nat → Int32) × (Nat → Int32)) → Option (Int32 × Int32 × Int32 × Int32 × Int32 × Int32 × Int32 × Int64 × Int32 × Int32 × Int32 × Int32 × Int32 × Int32 × Int32 × Int32 × (Nat → Int64) × (Nat → Int32) × (Nat → Int32) × (Nat → Int32) × (Nat → Int32) × (Nat → Int32) × (Nat → Int32) × (Nat → Int32) × (Nat → Int32) × (Nat → Int32) × (Nat → Int32) × (Nat → Int32) × (Nat → Int32) × (Nat → Int32) × (Nat → Int32) × (Nat → Int32) × (Nat → Int32) × (Nat → Int32) × (Nat → Int32))) (cf fl wa : Int32) : ∀ (m : Nat) {J : Tb} {p i M M' : Nat} {c : CTok} {r : RTok} (nu : Int32) (minutes things dreams sleepers listeners rooms doors : Int32) (listensIn bed dreamOf states thingIn full one other how falls creak cold : Nat → Int32) (rminutes rrooms rdoors rthings rdreams rsleepers rlisteners : Int32) (rlistens rbed rdream risTold ract rwhat rthen rmet rlies rfull rA rB rhow rfalls rcreak rcold : Nat → Int32) (named : Int32) (names : Nat → Int64) (sorts numbers : Nat → Int32) (rnames : Int32) (rname : Nat → Int64) (rsort rnum : Nat → Int32), n - p ≤ m → m < M → m < M' → i ≤ p → TK n p c r → ib J → NM (cbJ J) (kJ J) named names sorts numbers rnames rname rsort rnum → CI J minutes things dreams sleepers listeners rooms doors listensIn bed dreamOf states thingIn full one other how falls creak cold → RI J rminutes rrooms rdoors rthings rdreams rsleepers rlisteners rlistens rbed rdream risTold ract rwhat rthen rmet rlies rfull rA rB rhow rfalls rcreak rcold →
    (∃ J' p' c' r' nu' minutes' things' dreams' sleepers' listeners' rooms' doors' listensIn' bed' dreamOf' states' thingIn' full' one' other' how' falls' creak' cold' rminutes' rrooms' rdoors' rthings' rdreams' rsleepers' rlisteners' rlistens' rbed' rdream' risTold' ract' rwhat' rthen' rmet' rlies' rfull' rA' rB' rhow' rfalls' rcreak' rcold' named' names' sorts' numbers' rnames' rname' rsort' rnum', TK n p' c' r' ∧ ¬ c'.2.2.1 = 3 ∧ ib J' ∧ CI J' minutes' things' dreams' sleepers' listeners' rooms' doors' listensIn' bed' dreamOf' states' thingIn' full' one' other' how' falls' creak' cold' ∧ RI J' rminutes' rrooms' rdoors' rthings' rdreams' rsleepers' rlisteners' rlistens' rbed' rdream' risTold' ract' rwhat' rthen' rmet' rlies' rfull' rA' rB' rhow' rfalls' rcreak' rcold' ∧ lp (BX6_read_32 (nI n) N (nI n) b KC) M (1, nI i, named, cf, nu, minutes, things, dreams, sleepers, listeners, rooms, doors, states, c.1, c.2.1, c.2.2.1, c.2.2.2.1, c.2.2.2.2.1, c.2.2.2.2.2, names, sorts, numbers, listensIn, bed, dreamOf, thingIn, full, one, other, how, falls, creak, cold) = KC (1, named', cf, nu', minutes', things', dreams', sleepers', listeners', rooms', doors', states', c'.1, c'.2.1, c'.2.2.1, c'.2.2.2.1, c'.2.2.2.2.1, c'.2.2.2.2.2, names', sorts', numbers', listensIn', bed', dreamOf', thingIn', full', one', other', how', falls', creak', cold') ∧ (fX12_eatsSign N 59 (nI n) r.1 r.2.1 r.2.2.1 r.2.2.2.1 r.2.2.2.2.1 r.2.2.2.2.2 b).bind (un7 fun (r_13 : Int32) (v_at_13 : Int32) (v_sort_13 : Int32) (v_place_13 : Int32) (v_sign_13 : Int32) (v_number_13 : Int32) (v_word_13 : Int64) => lp (BX12_readInn_2 N (nI n) b KR) M' (r_13, v_at_13, v_sort_13, v_place_13, v_sign_13, v_number_13, fl, wa, v_word_13, rminutes, rrooms, rdoors, rthings, rdreams, rsleepers, rlisteners, rnames, rname, rnum, rsort, rlistens, rbed, rdream, risTold, ract, rwhat, rthen, rmet, rlies, rfull, rA, rB, rhow, rfalls, rcreak, rcold)) = KR (r'.1, r'.2.1, r'.2.2.1, r'.2.2.2.1, r'.2.2.2.2.1, fl, wa, r'.2.2.2.2.2, rminutes', rrooms', rdoors', rthings', rdreams', rsleepers', rlisteners', rnames', rname', rnum', rsort', rlistens', rbed', rdream', risTold', ract', rwhat', rthen', rmet', rlies', rfull', rA', rB', rhow', rfalls', rcreak', rcold')) ∨
    (∃ f p' z y, FT f ∧ z.1 = 0 ∧ z.2.2.1 = f ∧ z.2.2.2.2.2.2.2.2.2.2.2.2.2.1 = nI p' ∧ (∀ i, i < 4 → z.2.2.2.2.2.2.2.2.2.2.2.2.2.2.2.2.2.2.2.2.2.2.2.2.2.1 i = 0 ∨ z.2.2.2.2.2.2.2.2.2.2.2.2.2.2.2.2.2.2.2.2.2.2.2.2.2.1 i = 1) ∧ y.2.1 = 5 ∧ y.2.2.2.2.2.1 = f ∧ y.2.2.2.2.2.2.1 = nI p' ∧ lp (BX6_read_32 (nI n) N (nI n) b KC) M (1, nI i, named, cf, nu, minutes, things, dreams, sleepers, listeners, rooms, doors, states, c.1, c.2.1, c.2.2.1, c.2.2.2.1, c.2.2.2.2.1, c.2.2.2.2.2, names, sorts, numbers, listensIn, bed, dreamOf, thingIn, full, one, other, how, falls, creak, cold) = KC z ∧ (fX12_eatsSign N 59 (nI n) r.1 r.2.1 r.2.2.1 r.2.2.2.1 r.2.2.2.2.1 r.2.2.2.2.2 b).bind (un7 fun (r_13 : Int32) (v_at_13 : Int32) (v_sort_13 : Int32) (v_place_13 : Int32) (v_sign_13 : Int32) (v_number_13 : Int32) (v_word_13 : Int64) => lp (BX12_readInn_2 N (nI n) b KR) M' (r_13, v_at_13, v_sort_13, v_place_13, v_sign_13, v_number_13, fl, wa, v_word_13, rminutes, rrooms, rdoors, rthings, rdreams, rsleepers, rlisteners, rnames, rname, rnum, rsort, rlistens, rbed, rdream, risTold, ract, rwhat, rthen, rmet, rlies, rfull, rA, rB, rhow, rfalls, rcreak, rcold)) = KR y) := by
  have hn := hX.2.1
  intro m
  induction m using Nat.strongRecOn with
  | ind m ih =>
    intro J p i M M' c r nu
    intro minutes things dreams sleepers listeners rooms doors listensIn bed dreamOf states thingIn full one other how falls creak cold rminutes rrooms rdoors rthings rdreams rsleepers rlisteners rlistens rbed rdream risTold ract rwhat rthen rmet rlies rfull rA rB rhow rfalls rcreak rcold named names sorts numbers rnames rname rsort rnum
    intro hm hM1 hM2 hip h hi hNM hC hR
    cases M with
    | zero => omega
    | succ M =>
      cases M' with
      | zero => omega
      | succ M' =>
        have hst : lp (BX6_read_32 (nI n) N (nI n) b KC) (M + 1) (1, nI i, named, cf, nu, minutes, things, dreams, sleepers, listeners, rooms, doors, states, c.1, c.2.1, c.2.2.1, c.2.2.2.1, c.2.2.2.2.1, c.2.2.2.2.2, names, sorts, numbers, listensIn, bed, dreamOf, thingIn, full, one, other, how, falls, creak, cold) = BX6_read_32 (nI n) N (nI n) b KC (lp (BX6_read_32 (nI n) N (nI n) b KC) M) (1, nI i, named, cf, nu, minutes, things, dreams, sleepers, listeners, rooms, doors, states, c.1, c.2.1, c.2.2.1, c.2.2.2.1, c.2.2.2.2.1, c.2.2.2.2.2, names, sorts, numbers, listensIn, bed, dreamOf, thingIn, full, one, other, how, falls, creak, cold) := rfl
        rw [hst]
        unfold BX6_read_32
        try dsimp only [un0, un1, un2, un3, un4, un5, un6, un7, un8, un9, un10, un11, un12, un13, un14, un15, un16, un17, un18, un32, un33, un35, un36]
        rw [if_neg (show ¬ (1 : Int32) = 0 by decide)]
        rcases h.semi with ⟨s1, s2, s3, s4⟩ | ⟨s1, s2⟩
        · obtain ⟨p1, c1, r1, a1, t1, e1, g1⟩ := h.adv hX (by rw [s1]; decide) (by rw [s1]; decide)
          rw [if_neg (show ¬ nI n ≤ nI i from fun e => absurd ((nI_leI (by omega) (by omega)).mp e) (by omega)), if_pos s1, e1, bd_some, semi_yes h s2 s3 g1, bd_some]
          try dsimp only [un0, un1, un2, un3, un4, un5, un6, un7, un8, un9, un10, un11, un12, un13, un14, un15, un16, un17, un18, un32, un33, un35, un36]
          have hst2 : ∀ z, lp (BX12_readInn_2 N (nI n) b KR) (M' + 1) z = BX12_readInn_2 N (nI n) b KR (lp (BX12_readInn_2 N (nI n) b KR) M') z := fun _ => rfl
          rw [hst2]
          unfold BX12_readInn_2
          try dsimp only [un0, un1, un2, un3, un4, un5, un6, un7, un8, un9, un10, un11, un12, un13, un14, un15, un16, un17, un18, un32, un33, un35, un36]
          rw [if_neg (show ¬ (1 : Int32) = 0 by decide)]
          have hp1 := t1.1
          rcases line_ok hX t1 hi hNM hC hR cf nu fl wa with ⟨J', p', c', r', nu', minutes', things', dreams', sleepers', listeners', rooms', doors', listensIn', bed', dreamOf', states', thingIn', full', one', other', how', falls', creak', cold', rminutes', rrooms', rdoors', rthings', rdreams', rsleepers', rlisteners', rlistens', rbed', rdream', risTold', ract', rwhat', rthen', rmet', rlies', rfull', rA', rB', rhow', rfalls', rcreak', rcold', named', names', sorts', numbers', rnames', rname', rsort', rnum', a2, t2, i2, M2, C2, R2, e2, g2⟩ | ⟨f, p', z, y, f1, e2, z1, z2, z3, z4, g2, y1, y2, y3⟩
          · rw [e2, g2, bd_some, bd_some]
            try dsimp only [un0, un1, un2, un3, un4, un5, un6, un7, un8, un9, un10, un11, un12, un13, un14, un15, un16, un17, un18, un32, un33, un35, un36]
            rw [nI_1]
            exact ih (n - p') (by omega) nu' _ _ _ _ _ _ _ _ _ _ _ _ _ _ _ _ _ _ _ _ _ _ _ _ _ _ _ _ _ _ _ _ _ _ _ _ _ _ _ _ _ _ _ _ _ _ _ _ _ _ (Nat.le_refl _) (by omega) (by omega) (by omega) t2 i2 M2 C2 R2
          · rw [e2, g2, bd_some, bd_some]
            try dsimp only [un0, un1, un2, un3, un4, un5, un6, un7, un8, un9, un10, un11, un12, un13, un14, un15, un16, un17, un18, un32, un33, un35, un36]
            rw [y1, ov_eatsSign, bd_some]
            try dsimp only [un0, un1, un2, un3, un4, un5, un6, un7, un8, un9, un10, un11, un12, un13, un14, un15, un16, un17, un18, un32, un33, un35, un36]
            refine Or.inr ⟨f, p', (z.1, z.2.1, z.2.2.1, z.2.2.2.1, z.2.2.2.2.2.2.2.2.2.2.1, z.2.2.2.2.2.2.2.2.2.2.2.1, z.2.2.2.2.2.2.2.2.2.2.2.2.1, z.2.2.2.2.2.2.2.2.2.2.2.2.2.1, z.2.2.2.2.2.2.2.2.2.2.2.2.2.2.1, z.2.2.2.2.2.2.2.2.2.2.2.2.2.2.2.2.2.2.2.2.2.2.2.2.1, z.2.2.2.2.2.2.2.2.2.2.2.2.2.2.2.2.2.2.2.2.2.2.2.2.2.1, z.2.2.2.2.2.2.2.2.2.2.2.2.2.2.2.2.2.2.2.2.2.1, z.2.2.2.2.1, z.2.2.2.2.2.1, z.2.2.2.2.2.2.1, z.2.2.2.2.2.2.2.1, z.2.2.2.2.2.2.2.2.1, z.2.2.2.2.2.2.2.2.2.1, z.2.2.2.2.2.2.2.2.2.2.2.2.2.2.2.1, z.2.2.2.2.2.2.2.2.2.2.2.2.2.2.2.2.1, z.2.2.2.2.2.2.2.2.2.2.2.2.2.2.2.2.2.1, z.2.2.2.2.2.2.2.2.2.2.2.2.2.2.2.2.2.2.1, z.2.2.2.2.2.2.2.2.2.2.2.2.2.2.2.2.2.2.2.1, z.2.2.2.2.2.2.2.2.2.2.2.2.2.2.2.2.2.2.2.2.1, z.2.2.2.2.2.2.2.2.2.2.2.2.2.2.2.2.2.2.2.2.2.2.1, z.2.2.2.2.2.2.2.2.2.2.2.2.2.2.2.2.2.2.2.2.2.2.2.1, z.2.2.2.2.2.2.2.2.2.2.2.2.2.2.2.2.2.2.2.2.2.2.2.2.2.2.1, z.2.2.2.2.2.2.2.2.2.2.2.2.2.2.2.2.2.2.2.2.2.2.2.2.2.2.2.1, z.2.2.2.2.2.2.2.2.2.2.2.2.2.2.2.2.2.2.2.2.2.2.2.2.2.2.2.2.1, z.2.2.2.2.2.2.2.2.2.2.2.2.2.2.2.2.2.2.2.2.2.2.2.2.2.2.2.2.2.1, z.2.2.2.2.2.2.2.2.2.2.2.2.2.2.2.2.2.2.2.2.2.2.2.2.2.2.2.2.2.2.1, z.2.2.2.2.2.2.2.2.2.2.2.2.2.2.2.2.2.2.2.2.2.2.2.2.2.2.2.2.2.2.2), (y.1, 5, y.2.2), f1, z1, z2, z3, z4, rfl, y2, y3, ?_, ?_⟩
            · cases M with
              | zero => omega
              | succ M =>
                show BX6_read_32 _ _ _ _ _ _ _ = _
                unfold BX6_read_32
                try dsimp only [un0, un1, un2, un3, un4, un5, un6, un7, un8, un9, un10, un11, un12, un13, un14, un15, un16, un17, un18, un32, un33, un35, un36]
                rw [z1, if_pos (show (0 : Int32) = 0 from rfl)]
                by_cases qq : nI n ≤ nI i + 1
                · rw [if_pos qq]
                · rw [if_neg qq]
            · cases M' with
              | zero => omega
              | succ M' =>
                show BX12_readInn_2 _ _ _ _ _ _ = _
                unfold BX12_readInn_2
                try dsimp only [un0, un1, un2, un3, un4, un5, un6, un7, un8, un9, un10, un11, un12, un13, un14, un15, un16, un17, un18, un32, un33, un35, un36]
                rw [if_pos (show (0 : Int32) = 0 from rfl)]
        · rw [if_neg s1, semi_no h s2, bd_some]
          try dsimp only [un0, un1, un2, un3, un4, un5, un6, un7, un8, un9, un10, un11, un12, un13, un14, un15, un16, un17, un18, un32, un33, un35, un36]
          have hst2 : ∀ z, lp (BX12_readInn_2 N (nI n) b KR) (M' + 1) z = BX12_readInn_2 N (nI n) b KR (lp (BX12_readInn_2 N (nI n) b KR) M') z := fun _ => rfl
          rw [hst2]
          unfold BX12_readInn_2
          try dsimp only [un0, un1, un2, un3, un4, un5, un6, un7, un8, un9, un10, un11, un12, un13, un14, un15, un16, un17, un18, un32, un33, un35, un36]
          rw [if_pos (show (0 : Int32) = 0 from rfl), ite_self]
          exact Or.inl ⟨J, p, c, r, nu, minutes, things, dreams, sleepers, listeners, rooms, doors, listensIn, bed, dreamOf, states, thingIn, full, one, other, how, falls, creak, cold, rminutes, rrooms, rdoors, rthings, rdreams, rsleepers, rlisteners, rlistens, rbed, rdream, risTold, ract, rwhat, rthen, rmet, rlies, rfull, rA, rB, rhow, rfalls, rcreak, rcold, named, names, sorts, numbers, rnames, rname, rsort, rnum, h, s1, hi, hC, hR, rfl, rfl⟩
