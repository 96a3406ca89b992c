theorem NM.mono {cb cb' : Nat → Nat} {k : Nat} {named : Int32} {names : Nat → Int64} {sorts numbers : Nat → Int32} {rnames : Int32} {rname : Nat → Int64} {rsort rnum : Nat → Int32} (h : NM cb k named names sorts numbers rnames rname rsort rnum) (hc : ∀ x, cb x ≤ cb' x) : NM cb' k named names sorts numbers rnames rname rsort rnum := by
  obtain ⟨m1, m2, m3⟩ := h
  refine ⟨m1, m2, fun i hi => ?_⟩
  obtain ⟨e, s1, m, q1, q2, q⟩ := m3 i hi
  have := hc s1
  exact ⟨e, s1, m, q1, by omega, q⟩
theorem fail_ok {N : Nat} {k : Int32} : fX6_fail N k = some (0, k) := rfl
theorem eats_yes {N n p k : Nat} {b : Nat → Int32} {c : CTok} {r r' : RTok} (hX : TX N n b) (h : TK n p c r) (hk : k < 24) (hw : isW c k = true) (hg : fX12_goesOn N (nI n) r.1 r.2.1 r.2.2.1 r.2.2.2.1 r.2.2.2.2.1 r.2.2.2.2.2 b = some r') : fX12_eatsWord N k (nI n) r.1 r.2.1 r.2.2.1 r.2.2.2.1 r.2.2.2.2.1 r.2.2.2.2.2 b = some (1, r') := by
  unfold fX12_eatsWord
  rw [isWord_ok hX h hk, bd_some]
  try dsimp only [un0, un1, un2, un3, un4, un5, un6, un7, un8, un9, un10, un11, un12, un13, un14, un15, un16, un17, un18, un32, un33, un35, un36]
  rw [if_pos hw, if_neg (show ¬ (1 : Int32) = 0 by decide), hg, bd_some]
  try dsimp only [un0, un1, un2, un3, un4, un5, un6, un7, un8, un9, un10, un11, un12, un13, un14, un15, un16, un17, un18, un32, un33, un35, un36]
  rw [zg1]
theorem eats_no {N n p k : Nat} {b : Nat → Int32} {c : CTok} {r : RTok} (hX : TX N n b) (h : TK n p c r) (hk : k < 24) (hw : ¬ isW c k = true) : fX12_eatsWord N k (nI n) r.1 r.2.1 r.2.2.1 r.2.2.2.1 r.2.2.2.2.1 r.2.2.2.2.2 b = some (0, r) := by
  unfold fX12_eatsWord
  rw [isWord_ok hX h hk, bd_some]
  try dsimp only [un0, un1, un2, un3, un4, un5, un6, un7, un8, un9, un10, un11, un12, un13, un14, un15, un16, un17, un18, un32, un33, un35, un36]
  rw [if_neg hw, if_pos (show (0 : Int32) = 0 from rfl), zg0]
theorem dr_act {N n p k : Nat} {cb : Nat → Nat} {b : Nat → Int32} {c : CTok} {r r0 : RTok} (hX : TX N n b) (h : TK n p c r) (hk : k ≤ 19) (fl wa s0 : Int32) (named dreams : Int32) (names : Nat → Int64) (sorts numbers states : Nat → Int32) (dr nn : Int32) (nm : Nat → Int64) (nb isT ns av wv tv mv : Nat → Int32) (hM : NM cb k named names sorts numbers nn nm ns nb) (hg0 : fX12_goesOn N (nI n) r0.1 r0.2.1 r0.2.2.1 r0.2.2.2.1 r0.2.2.2.2.1 r0.2.2.2.2.2 b = some r) :
    (∃ i p' c' r', i ≤ 5 ∧ p < p' ∧ TK n p' c' r' ∧ fX6_nextAct N c.2.2.1 c.2.2.2.1 = some (nI i) ∧ fX7_advance N (nI n) c.1 b = some c' ∧ rdK177 N (nI n) r0.1 r0.2.2.1 r0.2.2.2.1 r0.2.2.2.2.1 r0.2.2.2.2.2 b dr nn nm nb isT ns av wv tv mv s0 (r0.2.1, fl, wa) = rdK260 N (nI n) b dr nn nm nb isT ns av wv tv mv s0 fl wa (nI i, r'.1, r'.2.1, r'.2.2.1, r'.2.2.2.1, r'.2.2.2.2.1, r'.2.2.2.2.2)) ∨
    (fX6_nextAct N c.2.2.1 c.2.2.2.1 = some (-1) ∧ ∃ a' l' g' m' w', rdK177 N (nI n) r0.1 r0.2.2.1 r0.2.2.2.1 r0.2.2.2.2.1 r0.2.2.2.2.2 b dr nn nm nb isT ns av wv tv mv s0 (r0.2.1, fl, wa) = some (a', 5, l', g', m', 1, nI p, w', dr, nn, nm, nb, isT, ns, av, wv, tv, mv)) := by
  have hN : 64 < N := by have := hX.1; omega
  unfold fX6_nextAct rdK177
  try dsimp only [un0, un1, un2, un3, un4, un5, un6, un7, un8, un9, un10, un11, un12, un13, un14, un15, un16, un17, un18, un32, un33, un35, un36]
  rw [hg0, bd_some]
  try dsimp only [un0, un1, un2, un3, un4, un5, un6, un7, un8, un9, un10, un11, un12, un13, un14, un15, un16, un17, un18, un32, un33, un35, un36]
  rw [isAt_ok c 14, bd_some]
  try dsimp only [un0, un1, un2, un3, un4, un5, un6, un7, un8, un9, un10, un11, un12, un13, un14, un15, un16, un17, un18, un32, un33, un35, un36]
  by_cases w0 : isW c 14 = true
  · obtain ⟨p1, c1, r1, a1, t1, e1, g1⟩ := h.adv hX (isW_kind w0).1 (isW_kind w0).2
    rw [if_pos w0, eats_yes hX h (by omega) w0 g1, bd_some]
    try dsimp only [un0, un1, un2, un3, un4, un5, un6, un7, un8, un9, un10, un11, un12, un13, un14, un15, un16, un17, un18, un32, un33, un35, un36, jn]
    rw [if_neg (show ¬ (1 : Int32) = 0 by decide), if_neg (show ¬ (1 : Int32) = 0 by decide)]
    exact Or.inl ⟨0, p1, c1, r1, by omega, a1, t1, rfl, e1, rfl⟩
  · rw [if_neg w0, eats_no hX h (by omega) w0, bd_some]
    try dsimp only [un0, un1, un2, un3, un4, un5, un6, un7, un8, un9, un10, un11, un12, un13, un14, un15, un16, un17, un18, un32, un33, un35, un36, jn]
    rw [if_pos (show (0 : Int32) = 0 from rfl), if_pos (show (0 : Int32) = 0 from rfl)]
    rw [isAt_ok c 15, bd_some]
    try dsimp only [un0, un1, un2, un3, un4, un5, un6, un7, un8, un9, un10, un11, un12, un13, un14, un15, un16, un17, un18, un32, un33, un35, un36]
    by_cases w1 : isW c 15 = true
    · obtain ⟨p1, c1, r1, a1, t1, e1, g1⟩ := h.adv hX (isW_kind w1).1 (isW_kind w1).2
      rw [if_pos w1, eats_yes hX h (by omega) w1 g1, bd_some]
      try dsimp only [un0, un1, un2, un3, un4, un5, un6, un7, un8, un9, un10, un11, un12, un13, un14, un15, un16, un17, un18, un32, un33, un35, un36, jn]
      rw [if_neg (show ¬ (1 : Int32) = 0 by decide), if_neg (show ¬ (1 : Int32) = 0 by decide)]
      exact Or.inl ⟨1, p1, c1, r1, by omega, a1, t1, rfl, e1, rfl⟩
    · rw [if_neg w1, eats_no hX h (by omega) w1, bd_some]
      try dsimp only [un0, un1, un2, un3, un4, un5, un6, un7, un8, un9, un10, un11, un12, un13, un14, un15, un16, un17, un18, un32, un33, un35, un36, jn]
      rw [if_pos (show (0 : Int32) = 0 from rfl), if_pos (show (0 : Int32) = 0 from rfl)]
      rw [isAt_ok c 16, bd_some]
      try dsimp only [un0, un1, un2, un3, un4, un5, un6, un7, un8, un9, un10, un11, un12, un13, un14, un15, un16, un17, un18, un32, un33, un35, un36]
      by_cases w2 : isW c 16 = true
      · obtain ⟨p1, c1, r1, a1, t1, e1, g1⟩ := h.adv hX (isW_kind w2).1 (isW_kind w2).2
        rw [if_pos w2, eats_yes hX h (by omega) w2 g1, bd_some]
        try dsimp only [un0, un1, un2, un3, un4, un5, un6, un7, un8, un9, un10, un11, un12, un13, un14, un15, un16, un17, un18, un32, un33, un35, un36, jn]
        rw [if_neg (show ¬ (1 : Int32) = 0 by decide), if_neg (show ¬ (1 : Int32) = 0 by decide)]
        exact Or.inl ⟨2, p1, c1, r1, by omega, a1, t1, rfl, e1, rfl⟩
      · rw [if_neg w2, eats_no hX h (by omega) w2, bd_some]
        try dsimp only [un0, un1, un2, un3, un4, un5, un6, un7, un8, un9, un10, un11, un12, un13, un14, un15, un16, un17, un18, un32, un33, un35, un36, jn]
        rw [if_pos (show (0 : Int32) = 0 from rfl), if_pos (show (0 : Int32) = 0 from rfl)]
        rw [isAt_ok c 17, bd_some]
        try dsimp only [un0, un1, un2, un3, un4, un5, un6, un7, un8, un9, un10, un11, un12, un13, un14, un15, un16, un17, un18, un32, un33, un35, un36]
        by_cases w3 : isW c 17 = true
        · obtain ⟨p1, c1, r1, a1, t1, e1, g1⟩ := h.adv hX (isW_kind w3).1 (isW_kind w3).2
          rw [if_pos w3, eats_yes hX h (by omega) w3 g1, bd_some]
          try dsimp only [un0, un1, un2, un3, un4, un5, un6, un7, un8, un9, un10, un11, un12, un13, un14, un15, un16, un17, un18, un32, un33, un35, un36, jn]
          rw [if_neg (show ¬ (1 : Int32) = 0 by decide), if_neg (show ¬ (1 : Int32) = 0 by decide)]
          exact Or.inl ⟨3, p1, c1, r1, by omega, a1, t1, rfl, e1, rfl⟩
        · rw [if_neg w3, eats_no hX h (by omega) w3, bd_some]
          try dsimp only [un0, un1, un2, un3, un4, un5, un6, un7, un8, un9, un10, un11, un12, un13, un14, un15, un16, un17, un18, un32, un33, un35, un36, jn]
          rw [if_pos (show (0 : Int32) = 0 from rfl), if_pos (show (0 : Int32) = 0 from rfl)]
          rw [isAt_ok c 18, bd_some]
          try dsimp only [un0, un1, un2, un3, un4, un5, un6, un7, un8, un9, un10, un11, un12, un13, un14, un15, un16, un17, un18, un32, un33, un35, un36]
          by_cases w4 : isW c 18 = true
          · obtain ⟨p1, c1, r1, a1, t1, e1, g1⟩ := h.adv hX (isW_kind w4).1 (isW_kind w4).2
            rw [if_pos w4, eats_yes hX h (by omega) w4 g1, bd_some]
            try dsimp only [un0, un1, un2, un3, un4, un5, un6, un7, un8, un9, un10, un11, un12, un13, un14, un15, un16, un17, un18, un32, un33, un35, un36, jn]
            rw [if_neg (show ¬ (1 : Int32) = 0 by decide), if_neg (show ¬ (1 : Int32) = 0 by decide)]
            exact Or.inl ⟨4, p1, c1, r1, by omega, a1, t1, rfl, e1, rfl⟩
          · rw [if_neg w4, eats_no hX h (by omega) w4, bd_some]
            try dsimp only [un0, un1, un2, un3, un4, un5, un6, un7, un8, un9, un10, un11, un12, un13, un14, un15, un16, un17, un18, un32, un33, un35, un36, jn]
            rw [if_pos (show (0 : Int32) = 0 from rfl), if_pos (show (0 : Int32) = 0 from rfl)]
            rw [isAt_ok c 8, bd_some]
            try dsimp only [un0, un1, un2, un3, un4, un5, un6, un7, un8, un9, un10, un11, un12, un13, un14, un15, un16, un17, un18, un32, un33, un35, un36]
            by_cases w5 : isW c 8 = true
            · obtain ⟨p1, c1, r1, a1, t1, e1, g1⟩ := h.adv hX (isW_kind w5).1 (isW_kind w5).2
              rw [if_pos w5, eats_yes hX h (by omega) w5 g1, bd_some]
              try dsimp only [un0, un1, un2, un3, un4, un5, un6, un7, un8, un9, un10, un11, un12, un13, un14, un15, un16, un17, un18, un32, un33, un35, un36, jn]
              rw [if_neg (show ¬ (1 : Int32) = 0 by decide), if_neg (show ¬ (1 : Int32) = 0 by decide)]
              exact Or.inl ⟨5, p1, c1, r1, by omega, a1, t1, rfl, e1, rfl⟩
            · rw [if_neg w5, eats_no hX h (by omega) w5, bd_some]
              try dsimp only [un0, un1, un2, un3, un4, un5, un6, un7, un8, un9, un10, un11, un12, un13, un14, un15, un16, un17, un18, un32, un33, un35, un36, jn]
              rw [if_pos (show (0 : Int32) = 0 from rfl), if_pos (show (0 : Int32) = 0 from rfl)]
              refine Or.inr ⟨rfl, ?_⟩
              unfold rdK260
              try dsimp only [un0, un1, un2, un3, un4, un5, un6, un7, un8, un9, un10, un11, un12, un13, un14, un15, un16, un17, un18, un32, un33, un35, un36, jn]
              rw [if_pos (show (-1 : Int32) = -1 from rfl), wrong_ok h.rs, bd_some]
              try dsimp only [un0, un1, un2, un3, un4, un5, un6, un7, un8, un9, un10, un11, un12, un13, un14, un15, un16, un17, un18, un32, un33, un35, un36]
              rw [ov_K273 hN hk hM, h.pl]
              exact ⟨_, _, _, _, _, rfl⟩
theorem dr_1 {N n p d k : Nat} {J : Tb} {cb : Nat → Nat} {b : Nat → Int32} {c : CTok} {r r0 : RTok} (hX : TX N n b) (h : TK n p c r) (hi : ib J) (hd : d < 4) (hk : k ≤ 19) (cf fl wa : Int32) (named dreams : Int32) (names : Nat → Int64) (sorts numbers states : Nat → Int32) (dr nn : Int32) (nm : Nat → Int64) (nb isT ns av wv tv mv : Nat → Int32) (hM : NM cb k named names sorts numbers nn nm ns nb) (hS : CS J states) (hT : ∀ k, k < 16 → isT k = nI (J 9 k)) (hg0 : fX12_goesOn N (nI n) r0.1 r0.2.1 r0.2.2.1 r0.2.2.2.1 r0.2.2.2.2.1 r0.2.2.2.2.2 b = some r) :
    (∃ s i p' c' r' th me nx wt ti, s < 4 ∧ J 9 (4 * d + s) = 0 ∧ i ≤ 5 ∧ p < p' ∧ TK n p' c' r' ∧ th < 4 ∧ me ≤ 4 ∧ ti = hI wt ∧ ((i = 0 ∨ i = 5) → 0 < wt ∧ wt ≤ cb 0) ∧ ((i = 1 ∨ i = 3) → 0 < wt ∧ wt ≤ cb 1) ∧ ((i = 2 ∨ i = 4) → wt = 0) ∧ (fX6_passNewState N (nI d) cf (nI d) (nI n) c.1 c.2.1 c.2.2.1 c.2.2.2.1 c.2.2.2.2.1 c.2.2.2.2.2 states b).bind (un9 fun (r_23 : Int32) (v_fault_23 : Int32) (v_number_23 : Int32) (v_tape_at_23 : Int32) (v_tape_start_23 : Int32) (v_tape_kind_23 : Int32) (v_tape_code_23 : Int64) (v_tape_mayName_23 : Int32) (v_tape_value_23 : Int32) => if r_23 = 0 then (some (0, named, v_fault_23, v_number_23, v_tape_at_23, v_tape_start_23, v_tape_kind_23, v_tape_code_23, v_tape_mayName_23, v_tape_value_23, names, dreams, sorts, numbers, states)) else ((fX6_nextAct N v_tape_kind_23 v_tape_code_23).bind (un1 fun (r_37 : Int32) => if r_37 = (-1) then ((fX6_fail N 1).bind (un2 fun (r_48 : Int32) (v_fault_48 : Int32) => zg r_48 (some (r_48, named, v_fault_48, v_number_23, v_tape_at_23, v_tape_start_23, v_tape_kind_23, v_tape_code_23, v_tape_mayName_23, v_tape_value_23, names, dreams, sorts, numbers, states)))) else ((fX7_advance N (nI n) v_tape_at_23 b).bind (un6 fun (v_tape_at_56 : Int32) (v_tape_start_56 : Int32) (v_tape_kind_56 : Int32) (v_tape_code_56 : Int64) (v_tape_mayName_56 : Int32) (v_tape_value_56 : Int32) => (fX6_targetOf N r_37).bind (un1 fun (r_60 : Int32) => jn (cdK83 N (nI n) b named names dreams sorts numbers states (nI d) v_number_23 r_37 r_60) (fun j83 => if r_60 = (-2) then (j83 (v_fault_23, v_number_23, v_tape_at_56, v_tape_start_56, v_tape_kind_56, v_tape_code_56, v_tape_mayName_56, v_tape_value_56)) else ((fX6_passName N r_60 named v_fault_23 v_number_23 (nI n) v_tape_at_56 v_tape_start_56 v_tape_kind_56 v_tape_code_56 v_tape_mayName_56 v_tape_value_56 names sorts numbers b).bind (un9 fun (r_75 : Int32) (v_fault_75 : Int32) (v_number_75 : Int32) (v_tape_at_75 : Int32) (v_tape_start_75 : Int32) (v_tape_kind_75 : Int32) (v_tape_code_75 : Int64) (v_tape_mayName_75 : Int32) (v_tape_value_75 : Int32) => if r_75 = 0 then (some (0, named, v_fault_75, v_number_75, v_tape_at_75, v_tape_start_75, v_tape_kind_75, v_tape_code_75, v_tape_mayName_75, v_tape_value_75, names, dreams, sorts, numbers, states)) else (j83 (v_fault_75, v_number_75, v_tape_at_75, v_tape_start_75, v_tape_kind_75, v_tape_code_75, v_tape_mayName_75, v_tape_value_75))))))))))) = some (1, named, cf, nx, c'.1, c'.2.1, c'.2.2.1, c'.2.2.2.1, c'.2.2.2.2.1, c'.2.2.2.2.2, names, dreams, sorts, numbers, stU states (4 * d + s) (nI i) ti (nI th) (hI me)) ∧ rdK129 N (nI n) r0.1 r0.2.1 r0.2.2.1 r0.2.2.2.1 r0.2.2.2.2.1 r0.2.2.2.2.2 b fl wa isT av wv tv mv (nI d) (dr, nn, nm, nb, ns) = some (r'.1, r'.2.1, r'.2.2.1, r'.2.2.2.1, r'.2.2.2.2.1, fl, wa, r'.2.2.2.2.2, dr, nn, nm, nb, upd isT (4 * d + s) 1, ns, upd av (4 * d + s) (nI i), upd wv (4 * d + s) ti, upd tv (4 * d + s) (nI th), upd mv (4 * d + s) (hI me))) ∨
    (∃ (f : Int32) (p' : Nat) (c' : CTok), ∃ nx a' l' g' m' w', FT f ∧ c'.2.1 = nI p' ∧ (fX6_passNewState N (nI d) cf (nI d) (nI n) c.1 c.2.1 c.2.2.1 c.2.2.2.1 c.2.2.2.2.1 c.2.2.2.2.2 states b).bind (un9 fun (r_23 : Int32) (v_fault_23 : Int32) (v_number_23 : Int32) (v_tape_at_23 : Int32) (v_tape_start_23 : Int32) (v_tape_kind_23 : Int32) (v_tape_code_23 : Int64) (v_tape_mayName_23 : Int32) (v_tape_value_23 : Int32) => if r_23 = 0 then (some (0, named, v_fault_23, v_number_23, v_tape_at_23, v_tape_start_23, v_tape_kind_23, v_tape_code_23, v_tape_mayName_23, v_tape_value_23, names, dreams, sorts, numbers, states)) else ((fX6_nextAct N v_tape_kind_23 v_tape_code_23).bind (un1 fun (r_37 : Int32) => if r_37 = (-1) then ((fX6_fail N 1).bind (un2 fun (r_48 : Int32) (v_fault_48 : Int32) => zg r_48 (some (r_48, named, v_fault_48, v_number_23, v_tape_at_23, v_tape_start_23, v_tape_kind_23, v_tape_code_23, v_tape_mayName_23, v_tape_value_23, names, dreams, sorts, numbers, states)))) else ((fX7_advance N (nI n) v_tape_at_23 b).bind (un6 fun (v_tape_at_56 : Int32) (v_tape_start_56 : Int32) (v_tape_kind_56 : Int32) (v_tape_code_56 : Int64) (v_tape_mayName_56 : Int32) (v_tape_value_56 : Int32) => (fX6_targetOf N r_37).bind (un1 fun (r_60 : Int32) => jn (cdK83 N (nI n) b named names dreams sorts numbers states (nI d) v_number_23 r_37 r_60) (fun j83 => if r_60 = (-2) then (j83 (v_fault_23, v_number_23, v_tape_at_56, v_tape_start_56, v_tape_kind_56, v_tape_code_56, v_tape_mayName_56, v_tape_value_56)) else ((fX6_passName N r_60 named v_fault_23 v_number_23 (nI n) v_tape_at_56 v_tape_start_56 v_tape_kind_56 v_tape_code_56 v_tape_mayName_56 v_tape_value_56 names sorts numbers b).bind (un9 fun (r_75 : Int32) (v_fault_75 : Int32) (v_number_75 : Int32) (v_tape_at_75 : Int32) (v_tape_start_75 : Int32) (v_tape_kind_75 : Int32) (v_tape_code_75 : Int64) (v_tape_mayName_75 : Int32) (v_tape_value_75 : Int32) => if r_75 = 0 then (some (0, named, v_fault_75, v_number_75, v_tape_at_75, v_tape_start_75, v_tape_kind_75, v_tape_code_75, v_tape_mayName_75, v_tape_value_75, names, dreams, sorts, numbers, states)) else (j83 (v_fault_75, v_number_75, v_tape_at_75, v_tape_start_75, v_tape_kind_75, v_tape_code_75, v_tape_mayName_75, v_tape_value_75))))))))))) = some (0, named, f, nx, c'.1, c'.2.1, c'.2.2.1, c'.2.2.2.1, c'.2.2.2.2.1, c'.2.2.2.2.2, names, dreams, sorts, numbers, states) ∧ rdK129 N (nI n) r0.1 r0.2.1 r0.2.2.1 r0.2.2.2.1 r0.2.2.2.2.1 r0.2.2.2.2.2 b fl wa isT av wv tv mv (nI d) (dr, nn, nm, nb, ns) = some (a', 5, l', g', m', f, nI p', w', dr, nn, nm, nb, isT, ns, av, wv, tv, mv)) := by
  have hN : 64 < N := by have := hX.1; omega
  unfold fX6_passNewState rdK129
  try dsimp only [un0, un1, un2, un3, un4, un5, un6, un7, un8, un9, un10, un11, un12, un13, un14, un15, un16, un17, un18, un32, un33, un35, un36]
  rw [hg0, bd_some]
  try dsimp only [un0, un1, un2, un3, un4, un5, un6, un7, un8, un9, un10, un11, un12, un13, un14, un15, un16, un17, un18, un32, un33, un35, un36]
  rcases look_ok (N := N) (b := b) h (lo := 0) (hi := 3) (lo' := 0) (hi' := 3) rfl rfl (by omega) (by omega) cf (nI d) fl wa with ⟨s, s1, s2, k3, e4, g4⟩ | ⟨f, nu', f1, e4, g4⟩
  · rw [e4, g4, bd_some, bd_some]
    try dsimp only [un0, un1, un2, un3, un4, un5, un6, un7, un8, un9, un10, un11, un12, un13, un14, un15, un16, un17, un18, un32, un33, un35, un36, jn]
    have hsd : (4 * nI d + nI s : Int32) = nI (4 * d + s) := by rw [show (4 : Int32) = nI 4 from rfl, pk_mul, nI_add]
    have ht1 := hi.told1 (k := 4 * d + s) (by omega)
    rw [if_neg (show ¬ (1 : Int32) = 0 by decide), if_neg h.rs, hsd, isTold_ok hi hd (by omega) hS, bd_some, gd_nI _ (show 4 * d + s < 16 by omega) (by omega), nI_clamp (by omega), hT _ (by omega)]
    try dsimp only [un0, un1, un2, un3, un4, un5, un6, un7, un8, un9, un10, un11, un12, un13, un14, un15, un16, un17, un18, un32, un33, un35, un36]
    by_cases ct : J 9 (4 * d + s) = 0
    · obtain ⟨p1, c1, r1, a1, t1, e1, g1⟩ := h.adv hX (by rw [k3]; decide) (by rw [k3]; decide)
      rw [ct, if_pos (show nI 0 = 0 from rfl), if_pos (show nI 0 = 0 from rfl), e1, bd_some]
      try dsimp only [un0, un1, un2, un3, un4, un5, un6, un7, un8, un9, un10, un11, un12, un13, un14, un15, un16, un17, un18, un32, un33, un35, un36]
      rw [bd_some]
      try dsimp only [un0, un1, un2, un3, un4, un5, un6, un7, un8, un9, un10, un11, un12, un13, un14, un15, un16, un17, un18, un32, un33, un35, un36]
      rw [if_neg (show ¬ (1 : Int32) = 0 by decide)]
      rcases dr_act hX t1 hk fl wa (nI (4 * d + s)) named dreams names sorts numbers states dr nn nm nb isT ns av wv tv mv hM g1 with ⟨i, p2, c2, r2, i5, a2, t2, e2, e3, g2⟩ | ⟨e2, a', l', g', m', w', g2⟩
      · rw [e2, g2, bd_some]
        try dsimp only [un0, un1, un2, un3, un4, un5, un6, un7, un8, un9, un10, un11, un12, un13, un14, un15, un16, un17, un18, un32, un33, un35, un36]
        rw [if_neg (show ¬ nI i = -1 from fun e => (nI_neg1 (by omega)).mp e), e3, bd_some]
        try dsimp only [un0, un1, un2, un3, un4, un5, un6, un7, un8, un9, un10, un11, un12, un13, un14, un15, un16, un17, un18, un32, un33, un35, un36]
        rcases dr_2 hX t2 hd (show s < 4 by omega) i5 hk cf (nI s) fl wa named dreams names sorts numbers states dr nn nm nb isT ns av wv tv mv hM with ⟨p3, c3, r3, th, me, nx, wt, ti, a3, t3, h3, h4, h5, h6, h7, h8, e5, g5⟩ | ⟨f, p3, c3, nx, a', l', g', m', w', f1, q1, e5, g5⟩
        · exact Or.inl ⟨s, i, p3, c3, r3, th, me, nx, wt, ti, by omega, ct, i5, by omega, t3, h3, h4, h5, h6, h7, h8, e5, g5⟩
        · exact Or.inr ⟨f, p3, c3, nx, a', l', g', m', w', f1, q1, e5, g5⟩
      · rw [e2, g2, bd_some]
        try dsimp only [un0, un1, un2, un3, un4, un5, un6, un7, un8, un9, un10, un11, un12, un13, un14, un15, un16, un17, un18, un32, un33, un35, un36]
        rw [if_pos (show (-1 : Int32) = -1 from rfl), fail_ok, bd_some]
        try dsimp only [un0, un1, un2, un3, un4, un5, un6, un7, un8, un9, un10, un11, un12, un13, un14, un15, un16, un17, un18, un32, un33, un35, un36]
        rw [zg0]
        exact Or.inr ⟨1, p1, c1, nI s, a', l', g', m', w', FT1, t1.2.1, rfl, rfl⟩
    · have c1 : J 9 (4 * d + s) = 1 := by omega
      rw [c1, if_neg (show ¬ nI 1 = 0 by decide), if_neg (show ¬ nI 1 = 0 by decide), fail_ok, bd_some, wrong_ok h.rs, bd_some]
      try dsimp only [un0, un1, un2, un3, un4, un5, un6, un7, un8, un9, un10, un11, un12, un13, un14, un15, un16, un17, un18, un32, un33, un35, un36]
      rw [zg0, bd_some, ov_K177 hN hk hM]
      try dsimp only [un0, un1, un2, un3, un4, un5, un6, un7, un8, un9, un10, un11, un12, un13, un14, un15, un16, un17, un18, un32, un33, un35, un36]
      rw [if_pos (show (0 : Int32) = 0 from rfl)]
      exact Or.inr ⟨3, p, c, nI s, _, _, _, _, _, FT3, h.2.1, rfl, by rw [h.pl]⟩
  · rw [e4, g4, bd_some, bd_some]
    try dsimp only [un0, un1, un2, un3, un4, un5, un6, un7, un8, un9, un10, un11, un12, un13, un14, un15, un16, un17, un18, un32, un33, un35, un36, jn]
    rw [if_pos (show (0 : Int32) = 0 from rfl), bd_some, if_pos (show (5 : Int32) = 5 from rfl), gd0, ov_wrong, bd_some]
    try dsimp only [un0, un1, un2, un3, un4, un5, un6, un7, un8, un9, un10, un11, un12, un13, un14, un15, un16, un17, un18, un32, un33, un35, un36]
    rw [if_pos (show (0 : Int32) = 0 from rfl), ov_K177 hN hk hM, ite_self]
    exact Or.inr ⟨f, p, c, nu', _, _, _, _, _, f1, h.2.1, rfl, rfl⟩
theorem l_dream {N n p k : Nat} {J : Tb} {b : Nat → Int32} {c : CTok} {r : RTok} {named : Int32} {names : Nat → Int64} {sorts numbers : Nat → Int32} {rnames : Int32} {rname : Nat → Int64} {rsort rnum : Nat → Int32} (hX : TX N n b) (h : TK n p c r) (hw : isW c 4 = true) (hi : ib J) (hk : k = J 0 0 + J 0 2 + J 0 3 + J 0 4) (hM : NM (cbJ J) k named names sorts numbers rnames rname rsort rnum) (cf nu fl wa : Int32) (states isT av wv tv mv : Nat → Int32) (hS : CS J states) (hT : ∀ k, k < 16 → isT k = nI (J 9 k)) :
    (∃ p' c' r' d s i wt th me nx D' named' names' sorts' numbers' rnames' rname' rsort' rnum', p < p' ∧ TK n p' c' r' ∧ d < D' ∧ D' ≤ 4 ∧ (D' = J 0 3 ∨ D' = J 0 3 + 1) ∧ s < 4 ∧ J 9 (4 * d + s) = 0 ∧ i ≤ 5 ∧ ((i = 0 ∨ i = 5) → 0 < wt ∧ wt ≤ J 0 0) ∧ ((i = 1 ∨ i = 3) → 0 < wt ∧ wt ≤ J 0 2) ∧ ((i = 2 ∨ i = 4) → wt = 0) ∧ th < 4 ∧ me ≤ 4 ∧ NM (fun x => if x = 2 then D' else cbJ J x) (J 0 0 + J 0 2 + D' + J 0 4) named' names' sorts' numbers' rnames' rname' rsort' rnum' ∧ fX6_readDream N named cf nu (nI n) c.1 b names (nI (J 0 3)) sorts numbers states = some (1, named', cf, nx, c'.1, c'.2.1, c'.2.2.1, c'.2.2.2.1, c'.2.2.2.2.1, c'.2.2.2.2.2, names', nI D', sorts', numbers', stU states (4 * d + s) (nI i) (hI wt) (nI th) (hI me)) ∧ fX12_readDream N (nI n) r.1 r.2.1 r.2.2.1 r.2.2.2.1 r.2.2.2.2.1 fl wa r.2.2.2.2.2 b (nI (J 0 3)) rnames rname rnum isT rsort av wv tv mv = some (r'.1, r'.2.1, r'.2.2.1, r'.2.2.2.1, r'.2.2.2.2.1, fl, wa, r'.2.2.2.2.2, nI D', rnames', rname', rnum', upd isT (4 * d + s) 1, rsort', upd av (4 * d + s) (nI i), upd wv (4 * d + s) (hI wt), upd tv (4 * d + s) (nI th), upd mv (4 * d + s) (hI me))) ∨
    (∃ (f : Int32) (p' : Nat) (c' : CTok), ∃ nx named' names' sorts' numbers' rnames' rname' rsort' rnum' dr' rd' a' l' g' m' w', FT f ∧ c'.2.1 = nI p' ∧ fX6_readDream N named cf nu (nI n) c.1 b names (nI (J 0 3)) sorts numbers states = some (0, named', f, nx, c'.1, c'.2.1, c'.2.2.1, c'.2.2.2.1, c'.2.2.2.2.1, c'.2.2.2.2.2, names', dr', sorts', numbers', states) ∧ fX12_readDream N (nI n) r.1 r.2.1 r.2.2.1 r.2.2.2.1 r.2.2.2.2.1 fl wa r.2.2.2.2.2 b (nI (J 0 3)) rnames rname rnum isT rsort av wv tv mv = some (a', 5, l', g', m', f, nI p', w', rd', rnames', rname', rnum', isT, rsort', av, wv, tv, mv)) := by
  have hR := hi.R
  have hT4 := hi.T
  have hE := hi.E
  have hS3 := hi.S
  have hN : 64 < N := by have := hX.1; omega
  have hM' := hM
  obtain ⟨m1, m2, m3⟩ := hM
  obtain ⟨p1, c1, r1, a1, t1, e1, g1⟩ := h.adv hX (isW_kind hw).1 (isW_kind hw).2
  have hrs := t1.rs
  rw [cdK_cut, rdK_cut, e1, g1, bd_some, bd_some]
  try dsimp only [un0, un1, un2, un3, un4, un5, un6, un7, un8, un9, un10, un11, un12, un13, un14, un15, un16, un17, un18, un32, un33, un35, un36]
  unfold fX6_passDream
  rw [isName_ok hX t1, bd_some]
  try dsimp only [un0, un1, un2, un3, un4, un5, un6, un7, un8, un9, un10, un11, un12, un13, un14, un15, un16, un17, un18, un32, un33, un35, un36, jn]
  by_cases cm : c1.2.2.2.2.1 = 0
  · rw [if_pos cm, if_pos cm, fail_ok, bd_some, wrong_ok hrs, bd_some]
    try dsimp only [un0, un1, un2, un3, un4, un5, un6, un7, un8, un9, un10, un11, un12, un13, un14, un15, un16, un17, un18, un32, un33, un35, un36]
    rw [zg0, bd_some, ov_K16 hN (by omega) hM']
    try dsimp only [un0, un1, un2, un3, un4, un5, un6, un7, un8, un9, un10, un11, un12, un13, un14, un15, un16, un17, un18, un32, un33, un35, un36]
    rw [if_pos (show (0 : Int32) = 0 from rfl)]
    exact Or.inr ⟨1, p1, c1, nu, named, names, sorts, numbers, rnames, rname, rsort, rnum, _, _, _, _, _, _, _, FT1, t1.2.1, rfl, by rw [t1.pl]⟩
  · obtain ⟨k1, k2, k3⟩ := t1.may cm
    obtain ⟨p2, c2, r2, a2, t2, e2, g2⟩ := t1.adv hX (by rw [k1]; decide) (by rw [k1]; decide)
    rw [if_neg cm, if_neg cm]
    unfold rdK16
    try dsimp only [un0, un1, un2, un3, un4, un5, un6, un7, un8, un9, un10, un11, un12, un13, un14, un15, un16, un17, un18, un32, un33, un35, un36]
    rw [m1, m2, place_ok hN (by omega), find_ok hN (by omega), bd_some, bd_some]
    try dsimp only [un0, un1, un2, un3, un4, un5, un6, un7, un8, un9, un10, un11, un12, un13, un14, un15, un16, un17, un18, un32, un33, un35, un36, jn]
    have hfd : fdn rname r1.2.2.2.2.2 k = fdn names c1.2.2.2.1 k := by rw [← k2]; exact (nm_fnd hM' _).symm
    rw [hfd]
    have hMk := hM'
    rw [m1, m2] at hMk
    by_cases cf' : fdn names c1.2.2.2.1 k < k
    · obtain ⟨sx, m, q1, q2, q3, q4, q5, q6⟩ := (m3 _ cf').2
      have qn : ¬ nI (fdn names c1.2.2.2.1 k) = -1 := fun e => (nI_neg1 (by omega)).mp e
      rw [if_pos cf', if_neg qn, if_neg qn, gd_nI _ (show fdn names c1.2.2.2.1 k < 19 by omega) (by omega), gd_nI _ (show fdn names c1.2.2.2.1 k < 19 by omega) (by omega), nI_clamp (by omega), q3, q4, q5]
      by_cases c2' : sx = 2
      · subst c2'
        have m2' : m < J 0 3 := q2
        rw [if_pos (show nI 2 = 2 from rfl), if_pos (show nI 2 = 2 from rfl), gd_nI _ (show fdn names c1.2.2.2.1 k < 19 by omega) (by omega)]
        try dsimp only [un0, un1, un2, un3, un4, un5, un6, un7, un8, un9, un10, un11, un12, un13, un14, un15, un16, un17, un18, un32, un33, un35, un36]
        rw [e2, bd_some]
        try dsimp only [un0, un1, un2, un3, un4, un5, un6, un7, un8, un9, un10, un11, un12, un13, un14, un15, un16, un17, un18, un32, un33, un35, un36]
        rw [bd_some]
        try dsimp only [un0, un1, un2, un3, un4, un5, un6, un7, un8, un9, un10, un11, un12, un13, un14, un15, un16, un17, un18, un32, un33, un35, un36]
        rw [if_neg (show ¬ (1 : Int32) = 0 by decide), if_neg qn, if_neg qn, gd_nI _ (show fdn names c1.2.2.2.1 k < 19 by omega) (by omega), q6, if_neg qn]
        rcases dr_1 hX t2 hi (d := m) (by omega) (by omega) cf fl wa (nI k) (nI (J 0 3)) names sorts numbers states (nI (J 0 3)) (nI k) rname rnum isT rsort av wv tv mv hMk hS hT g2 with ⟨s, i, p3, c3, r3, th, me, nx, wt, ti, s4, ct, i5, a3, t3, h3, h4, h5, h6, h7, h8, e5, g5⟩ | ⟨f, p3, c3, nx, a', l', g', m', w', f1, q1, e5, g5⟩
        · try dsimp only [un0, un1, un2, un3, un4, un5, un6, un7, un8, un9, un10, un11, un12, un13, un14, un15, un16, un17, un18, un32, un33, un35, un36, jn] at e5
          rw [e5, g5]
          subst h5
          exact Or.inl ⟨p3, c3, r3, m, s, i, wt, th, me, nx, J 0 3, _, _, _, _, _, _, _, _, by omega, t3, by omega, by omega, Or.inl rfl, s4, ct, i5, h6, h7, h8, h3, h4, by
            rw [← hk]
            exact hMk.mono fun x => by
              show cbJ J x ≤ if x = 2 then J 0 3 else cbJ J x
              split
              · rename_i e; subst e; exact Nat.le_refl _
              · exact Nat.le_refl _, rfl, rfl⟩
        · try dsimp only [un0, un1, un2, un3, un4, un5, un6, un7, un8, un9, un10, un11, un12, un13, un14, un15, un16, un17, un18, un32, un33, un35, un36, jn] at e5
          rw [e5, g5]
          exact Or.inr ⟨f, p3, c3, nx, _, _, _, _, _, _, _, _, _, _, a', l', g', m', w', f1, q1, rfl, rfl⟩
      · rw [if_neg (show ¬ nI sx = 2 from fun e => c2' ((nI_eq (by omega) (by omega)).mp (e.trans (il 2)))), if_neg (show ¬ nI sx = 2 from fun e => c2' ((nI_eq (by omega) (by omega)).mp (e.trans (il 2)))), fail_ok, bd_some, wrong_ok hrs, bd_some]
        try dsimp only [un0, un1, un2, un3, un4, un5, un6, un7, un8, un9, un10, un11, un12, un13, un14, un15, un16, un17, un18, un32, un33, un35, un36]
        rw [zg0, bd_some, if_neg qn, if_neg qn, gd_nI _ (show fdn names c1.2.2.2.1 k < 19 by omega) (by omega), if_neg qn]
        try dsimp only [un0, un1, un2, un3, un4, un5, un6, un7, un8, un9, un10, un11, un12, un13, un14, un15, un16, un17, un18, un32, un33, un35, un36]
        have hM2 := hM'
        rw [m1, m2] at hM2
        rw [if_pos (show (0 : Int32) = 0 from rfl), ov_K129 hN (by omega) hM2, gd_nI _ (show fdn names c1.2.2.2.1 k < 19 by omega) (by omega)]
        exact Or.inr ⟨3, p1, c1, nu, nI k, names, sorts, numbers, nI k, rname, rsort, rnum, _, _, _, _, _, _, _, FT3, t1.2.1, rfl, by rw [t1.pl]⟩
    · rw [if_neg cf', if_pos (show (-1 : Int32) = -1 from rfl), if_pos (show (-1 : Int32) = -1 from rfl)]
      try dsimp only [un0, un1, un2, un3, un4, un5, un6, un7, un8, un9, un10, un11, un12, un13, un14, un15, un16, un17, un18, un32, un33, un35, un36]
      rw [if_pos (show (-1 : Int32) = -1 from rfl)]
      by_cases c4 : J 0 3 < 4
      · rw [if_pos (show nI (J 0 3) < 4 from (nI_ltI (b := 4) (by omega) (by omega)).mpr c4), if_neg (show ¬ nI (J 0 3) = 4 from fun e => absurd ((nI_eq (by omega) (by omega)).mp (e.trans (il 4))) (by omega))]
        try dsimp only [un0, un1, un2, un3, un4, un5, un6, un7, un8, un9, un10, un11, un12, un13, un14, un15, un16, un17, un18, un32, un33, un35, un36]
        rw [if_pos (show (-1 : Int32) = -1 from rfl)]
        try dsimp only [un0, un1, un2, un3, un4, un5, un6, un7, un8, un9, un10, un11, un12, un13, un14, un15, un16, un17, un18, un32, un33, un35, un36]
        rw [if_pos (show (-1 : Int32) = -1 from rfl), if_neg hrs]
        unfold fX6_tellName fX12_adds
        have c19 : ¬ 19 ≤ k := by omega
        rw [if_neg hrs, if_neg (show ¬ 19 ≤ nI k from fun e => c19 ((nI_leI (a := 19) (by omega) (by omega)).mp e))]
        rw [gd_nI _ (show k < 19 by omega) (by omega), gd_nI _ (show k < 19 by omega) (by omega), gd_nI _ (show k < 19 by omega) (by omega), gd_nI _ (show k < 19 by omega) (by omega), gd_nI _ (show k < 19 by omega) (by omega), gd_nI _ (show k < 19 by omega) (by omega), nI_clamp (show k < 2 ^ 31 by omega), nI_1 k, nI_1 (J 0 3), bd_some, bd_some]
        try dsimp only [un0, un1, un2, un3, un4, un5, un6, un7, un8, un9, un10, un11, un12, un13, un14, un15, un16, un17, un18, un32, un33, un35, un36]
        rw [e2, bd_some]
        try dsimp only [un0, un1, un2, un3, un4, un5, un6, un7, un8, un9, un10, un11, un12, un13, un14, un15, un16, un17, un18, un32, un33, un35, un36]
        rw [bd_some]
        try dsimp only [un0, un1, un2, un3, un4, un5, un6, un7, un8, un9, un10, un11, un12, un13, un14, un15, un16, un17, un18, un32, un33, un35, un36]
        rw [if_neg (show ¬ (1 : Int32) = 0 by decide)]
        have hM2 : NM (fun x => if x = 2 then J 0 3 + 1 else cbJ J x) (k + 1) (nI (k + 1)) (vp_updL names k c1.2.2.2.1) (upd sorts k 2) (upd numbers k (nI (J 0 3))) (nI (k + 1)) (vp_updL rname k r1.2.2.2.2.2) (upd rsort k 2) (upd rnum k (nI (J 0 3))) := by
          rw [← k2]
          exact hM'.new (s' := 2) (s := 2) c1.2.2.2.1 rfl (by omega)
        rcases dr_1 hX t2 hi (d := J 0 3) (by omega) (by omega) cf fl wa (nI (k + 1)) (nI (J 0 3 + 1)) (vp_updL names k c1.2.2.2.1) (upd sorts k 2) (upd numbers k (nI (J 0 3))) states (nI (J 0 3 + 1)) (nI (k + 1)) (vp_updL rname k r1.2.2.2.2.2) (upd rnum k (nI (J 0 3))) isT (upd rsort k 2) av wv tv mv hM2 hS hT g2 with ⟨s, i, p3, c3, r3, th, me, nx, wt, ti, s4, ct, i5, a3, t3, h3, h4, h5, h6, h7, h8, e5, g5⟩ | ⟨f, p3, c3, nx, a', l', g', m', w', f1, q1, e5, g5⟩
        · try dsimp only [un0, un1, un2, un3, un4, un5, un6, un7, un8, un9, un10, un11, un12, un13, un14, un15, un16, un17, un18, un32, un33, un35, un36, jn] at e5
          rw [e5, g5]
          subst h5
          exact Or.inl ⟨p3, c3, r3, J 0 3, s, i, wt, th, me, nx, J 0 3 + 1, _, _, _, _, _, _, _, _, by omega, t3, by omega, by omega, Or.inr rfl, s4, ct, i5, h6, h7, h8, h3, h4, by
            rw [show J 0 0 + J 0 2 + (J 0 3 + 1) + J 0 4 = k + 1 by omega]
            exact hM2, rfl, rfl⟩
        · try dsimp only [un0, un1, un2, un3, un4, un5, un6, un7, un8, un9, un10, un11, un12, un13, un14, un15, un16, un17, un18, un32, un33, un35, un36, jn] at e5
          rw [e5, g5]
          exact Or.inr ⟨f, p3, c3, nx, _, _, _, _, _, _, _, _, _, _, a', l', g', m', w', f1, q1, rfl, rfl⟩
      · have c4' : J 0 3 = 4 := by omega
        rw [if_neg (show ¬ nI (J 0 3) < 4 from fun e => c4 ((nI_ltI (b := 4) (by omega) (by omega)).mp e)), if_pos (show nI (J 0 3) = 4 by rw [c4']; rfl), fail_ok, bd_some, wrong_ok hrs, bd_some]
        try dsimp only [un0, un1, un2, un3, un4, un5, un6, un7, un8, un9, un10, un11, un12, un13, un14, un15, un16, un17, un18, un32, un33, un35, un36]
        rw [zg0, bd_some, if_pos (show (-1 : Int32) = -1 from rfl)]
        try dsimp only [un0, un1, un2, un3, un4, un5, un6, un7, un8, un9, un10, un11, un12, un13, un14, un15, un16, un17, un18, un32, un33, un35, un36]
        have hM2 := hM'
        rw [m1, m2] at hM2
        rw [if_pos (show (0 : Int32) = 0 from rfl), if_pos (show (-1 : Int32) = -1 from rfl), if_pos (show (5 : Int32) = 5 from rfl), ov_K129 hN (by omega) hM2]
        exact Or.inr ⟨5, p1, c1, nu, nI k, names, sorts, numbers, nI k, rname, rsort, rnum, _, _, _, _, _, _, _, FT5, t1.2.1, rfl, by rw [t1.pl]⟩
