/-! what holds at the law's entry: classes, array classes, constants -/
abbrev NARR : List Cond := flatC (Cond.and given_1 narrow_1)
theorem n_wxi : ∀ k, k < 24 → NARR[([33, 41, 53, 69, 81, 113, 125, 49, 57, 61, 65, 77, 105, 109, 85, 89, 93, 97, 101, 37, 45, 73, 117, 121] : List Nat).getD k 0]? = some (.exactly (.static "NightInn$Word" (wdN.getD k "") "LNightInn$Word;") "NightInn$Word" : Cond) := by decide +kernel
theorem n_wx : ∀ k, k < 24 → (.exactly (.static "NightInn$Word" (wdN.getD k "") "LNightInn$Word;") "NightInn$Word" : Cond) ∈ NARR := fun k hk => List.mem_of_getElem? (n_wxi k hk)
theorem n_wci : ∀ k, k < 24 → NARR[([35, 43, 55, 71, 83, 115, 127, 51, 59, 63, 67, 79, 107, 111, 87, 91, 95, 99, 103, 39, 47, 75, 119, 123] : List Nat).getD k 0]? = some (.eq (.field (.static "NightInn$Word" (wdN.getD k "") "LNightInn$Word;") "NightInn$Word" "code" "J") (.long (wdc k)) : Cond) := by decide +kernel
theorem n_wc : ∀ k, k < 24 → (.eq (.field (.static "NightInn$Word" (wdN.getD k "") "LNightInn$Word;") "NightInn$Word" "code" "J") (.long (wdc k)) : Cond) ∈ NARR := fun k hk => List.mem_of_getElem? (n_wci k hk)
theorem n_wki : ∀ k, k < 24 → NARR[([36, 44, 56, 72, 84, 116, 128, 52, 60, 64, 68, 80, 108, 112, 88, 92, 96, 100, 104, 40, 48, 76, 120, 124] : List Nat).getD k 0]? = some (.eq (.field (.static "NightInn$Word" (wdN.getD k "") "LNightInn$Word;") "NightInn$Word" "kept" "Z") (.int (wdk k)) : Cond) := by decide +kernel
theorem n_wk : ∀ k, k < 24 → (.eq (.field (.static "NightInn$Word" (wdN.getD k "") "LNightInn$Word;") "NightInn$Word" "kept" "Z") (.int (wdk k)) : Cond) ∈ NARR := fun k hk => List.mem_of_getElem? (n_wki k hk)
theorem n_wei : ∀ k, k < 24 → NARR[([9, 10, 11, 12, 13, 14, 15, 16, 17, 18, 19, 20, 21, 22, 23, 24, 25, 26, 27, 28, 29, 30, 31, 32] : List Nat).getD k 0]? = some (.eq (.elem (.static "NightInn$Word" "ALL" "[LNightInn$Word;") (.int (Int32.ofNat k))) (.static "NightInn$Word" (wdN.getD k "") "LNightInn$Word;") : Cond) := by decide +kernel
theorem n_we : ∀ k, k < 24 → (.eq (.elem (.static "NightInn$Word" "ALL" "[LNightInn$Word;") (.int (Int32.ofNat k))) (.static "NightInn$Word" (wdN.getD k "") "LNightInn$Word;") : Cond) ∈ NARR := fun k hk => List.mem_of_getElem? (n_wei k hk)
theorem n_sxi : ∀ k, k < 24 → NARR[([149, 167, 175, 183, 192, 201, 212, 223, 231, 239, 249, 258, 266, 274, 281, 287, 295, 302, 309, 156, 317, 326, 332, 339] : List Nat).getD k 0]? = some (.exactly (.string "NightInnModel" (stI.getD k 0)) "java/lang/String" : Cond) := by decide +kernel
theorem n_sx : ∀ k, k < 24 → (.exactly (.string "NightInnModel" (stI.getD k 0)) "java/lang/String" : Cond) ∈ NARR := fun k hk => List.mem_of_getElem? (n_sxi k hk)
theorem n_sci : ∀ k, k < 24 → NARR[([150, 168, 176, 184, 193, 202, 213, 224, 232, 240, 250, 259, 267, 275, 282, 288, 296, 303, 310, 157, 318, 327, 333, 340] : List Nat).getD k 0]? = some (.eq (.field (.string "NightInnModel" (stI.getD k 0)) "java/lang/String" "coder" "B") (.int 0) : Cond) := by decide +kernel
theorem n_sc : ∀ k, k < 24 → (.eq (.field (.string "NightInnModel" (stI.getD k 0)) "java/lang/String" "coder" "B") (.int 0) : Cond) ∈ NARR := fun k hk => List.mem_of_getElem? (n_sci k hk)
theorem n_sai : ∀ k, k < 24 → NARR[([151, 169, 177, 185, 194, 203, 214, 225, 233, 241, 251, 260, 268, 276, 283, 289, 297, 304, 311, 158, 319, 328, 334, 341] : List Nat).getD k 0]? = some (.arrayOf (.field (.string "NightInnModel" (stI.getD k 0)) "java/lang/String" "value" "[B") .byte : Cond) := by decide +kernel
theorem n_sa : ∀ k, k < 24 → (.arrayOf (.field (.string "NightInnModel" (stI.getD k 0)) "java/lang/String" "value" "[B") .byte : Cond) ∈ NARR := fun k hk => List.mem_of_getElem? (n_sai k hk)
theorem n_sli : ∀ k, k < 24 → NARR[([152, 170, 178, 186, 195, 204, 215, 226, 234, 242, 252, 261, 269, 277, 284, 290, 298, 305, 312, 159, 320, 329, 335, 342] : List Nat).getD k 0]? = some (.eq (.length (.field (.string "NightInnModel" (stI.getD k 0)) "java/lang/String" "value" "[B")) (.int (Int32.ofNat (stl k))) : Cond) := by decide +kernel
theorem n_sl : ∀ k, k < 24 → (.eq (.length (.field (.string "NightInnModel" (stI.getD k 0)) "java/lang/String" "value" "[B")) (.int (Int32.ofNat (stl k))) : Cond) ∈ NARR := fun k hk => List.mem_of_getElem? (n_sli k hk)
theorem n_sei : ∀ k, k < 24 → ∀ j, j < stl k → NARR[(([[153, 154, 155], [171, 172, 173, 174], [179, 180, 181, 182], [187, 188, 189, 190, 191], [196, 197, 198, 199, 200], [205, 206, 207, 208, 209, 210, 211], [216, 217, 218, 219, 220, 221, 222], [227, 228, 229, 230], [235, 236, 237, 238], [243, 244, 245, 246, 247, 248], [253, 254, 255, 256, 257], [262, 263, 264, 265], [270, 271, 272, 273], [278, 279, 280], [285, 286], [291, 292, 293, 294], [299, 300, 301], [306, 307, 308], [313, 314, 315, 316], [160, 161, 162, 163, 164, 165, 166], [321, 322, 323, 324, 325], [330, 331], [336, 337, 338], [343, 344, 345, 346, 347, 348]] : List (List Nat)).getD k []).getD j 0]? = some (.eq (.elem (.field (.string "NightInnModel" (stI.getD k 0)) "java/lang/String" "value" "[B") (.int (Int32.ofNat j))) (.int (stb k j)) : Cond) := by decide +kernel
theorem n_se : ∀ k, k < 24 → ∀ j, j < stl k → (.eq (.elem (.field (.string "NightInnModel" (stI.getD k 0)) "java/lang/String" "value" "[B") (.int (Int32.ofNat j))) (.int (stb k j)) : Cond) ∈ NARR := fun k hk j hj => List.mem_of_getElem? (n_sei k hk j hj)
theorem stl_small : ∀ k, k < 24 → stl k < 2 ^ 31 := by decide +kernel
theorem t_wl : ∀ k, k < 24 → tables_1[([489, 518, 548, 584, 598, 645, 659, 538, 574, 576, 578, 592, 637, 639, 624, 626, 628, 630, 632, 504, 536, 590, 651, 653] : List Nat).getD k 0]? = some (.laysStatic "NightInn$Word" (wdN.getD k "") "LNightInn$Word;") := by decide +kernel
theorem t_sr : ∀ k, k < 24 → tables_1[([1442, 1526, 1543, 1544, 1545, 1546, 1547, 1548, 1549, 1550, 1551, 1552, 1553, 1554, 1555, 1556, 1557, 1558, 1559, 1506, 1568, 1597, 1606, 1607] : List Nat).getD k 0]? = some (.stringRef "NightInnModel" (stI.getD k 0) (stT.getD k "")) := by decide +kernel
theorem n_len : (Cond.eq (.length (.static "NightInn$Word" "ALL" "[LNightInn$Word;")) (.int 24)) ∈ NARR := by decide +kernel
theorem n_arr : (Cond.arrayOf (.static "NightInn$Word" "ALL" "[LNightInn$Word;") (.object "NightInn$Word")) ∈ NARR := by decide +kernel
theorem n_cmp : (Cond.eq (.static "java/lang/String" "COMPACT_STRINGS" "Z") (.int 1)) ∈ NARR := by decide +kernel
theorem n_sio : (Cond.isRef (.static "jdk/internal/util/Preconditions" "SIOOBE_FORMATTER" "Ljava/util/function/BiFunction;")) ∈ NARR := by decide +kernel
theorem n_una : (Cond.isRef (.static "java/lang/Throwable" "UNASSIGNED_STACK" "[Ljava/lang/StackTraceElement;")) ∈ NARR := by decide +kernel
theorem n_sup : (Cond.isRef (.static "java/lang/Throwable" "SUPPRESSED_SENTINEL" "Ljava/util/List;")) ∈ NARR := by decide +kernel
theorem arr_of {args : Array Value} {s : State} {ty : FieldType} (h : (Cond.arrayClass ty).before args s = true) : ∃ cA, ArrOfT s cA ty ∧ s.vm.findClass ("[" ++ ty.toString) = some cA := by
  obtain ⟨c, k, comp, h1, h2, h3⟩ := Cond.arrayClass_spec h
  exact ⟨c, fun n z => ⟨fun k h => (by cases h), k, h2, comp, h3⟩, h1⟩
theorem ref_of {args : Array Value} {s : State} {t : Term} {C : String} (h : (Cond.exactly t C).before args s = true) : ∃ a, t.eval args s none [] s = some (.ref a) := by
  obtain ⟨a, c, cell, k, q1, -⟩ := Cond.exactly_spec h
  exact ⟨a, q1⟩
theorem str_ev {args : Array Value} {s : State} {own : String} {k a : Nat} (h : (Term.string own k).eval args s none [] s = some (.ref a)) : (Term.string own k).eval #[] s none [] s = some (.ref a) := h
theorem str_any {args : Array Value} {s : State} {own tx : String} {k : Nat} (h : (Cond.stringRef own k tx).before args s = true) : (Cond.stringRef own k tx).before #[] s = true := h
set_option maxHeartbeats 2000000 in
theorem env_ok {args : Array Value} {s : State} {A : Nat → Prop} (hT : ∀ w ∈ lw_tbl, w.before args s = true) (hN : (Cond.and given_1 narrow_1).before args s = true) (hA : ∀ a : Nat, a < s.heap.size → ¬ A a) : ∃ E : EN, va_K E.1 CLS (TYS E) s ∧ KX E.2.2 A s s.heap ∧ THR A s s.heap := by
  have hG : ∀ w ∈ GW, w.before args s = true := fun w hw => hT w (List.mem_filter.mp hw).1
  have hF : ∀ w ∈ NARR, w.before args s = true := flat_of_before _ hN
  have hTb : ∀ (i : Nat) (w : Cond), tables_1[i]? = some w → w.before args s = true := fun i w h => hT w (nw_t i h)
  obtain ⟨c0, i0, hn0⟩ := u_known (C := RX0) (T := TX0) (N := 10) (n := 10) hG gwX_X0 (hG _ (gw_t 348 (by decide +kernel) rfl))
  obtain ⟨c1, i1, hn1⟩ := u_known (C := RX1) (T := TX1) (N := 9) (n := 9) hG gwX_X1 (hG _ (gw_t 90 (by decide +kernel) rfl))
  obtain ⟨c2, i2, hn2⟩ := u_known (C := RX2) (T := TX2) (N := 12) (n := 12) hG gwX_X2 (hG _ (gw_t 84 (by decide +kernel) rfl))
  obtain ⟨c3, i3, hn3⟩ := u_known (C := RX3) (T := TX3) (N := 1) (n := 1) hG gwX_X3 (hG _ (gw_t 354 (by decide +kernel) rfl))
  obtain ⟨c4, i4, hn4⟩ := u_known (C := RX4) (T := TX4) (N := 14) (n := 14) hG gwX_X4 (hG _ (gw_t 254 (by decide +kernel) rfl))
  obtain ⟨c5, i5, hn5⟩ := u_known (C := RX5) (T := TX5) (N := 5) (n := 5) hG gwX_X5 (hG _ (gw_t 325 (by decide +kernel) rfl))
  obtain ⟨c6, i6, hn6⟩ := u_known (C := RX6) (T := TX6) (N := 8) (n := 8) hG gwX_X6 (hG _ (gw_t 37 (by decide +kernel) rfl))
  obtain ⟨c7, i7, hn7⟩ := u_known (C := RX7) (T := TX7) (N := 9) (n := 9) hG gwX_X7 (hG _ (gw_t 43 (by decide +kernel) rfl))
  obtain ⟨c8, i8, hn8⟩ := u_known (C := RX8) (T := TX8) (N := 2) (n := 2) hG gwX_X8 (hG _ (gw_t 96 (by decide +kernel) rfl))
  obtain ⟨c9, i9, hn9⟩ := u_known (C := RX10) (T := TX10) (N := 11) (n := 11) hG gwX_X10 (hG _ (gw_t 29 (by decide +kernel) rfl))
  obtain ⟨c10, i10, hn10⟩ := u_known (C := RX11) (T := TX11) (N := 27) (n := 27) hG gwX_X11 (hG _ (gw_t 1311 (by decide +kernel) rfl))
  obtain ⟨c11, i11, hn11⟩ := u_known (C := RX12) (T := TX12) (N := 35) (n := 35) hG gwX_X12 (hG _ (gw_t 1183 (by decide +kernel) rfl))
  obtain ⟨dC, dI, hKc⟩ : ∃ (dC : Nat → ClassId) (dI : Nat → Nat → Nat), ∀ (k : Nat) (q : vw_C), CLS[k]? = some q → u_Kn s q.1 q.2.1 q.2.2 (dC k) (dI k) := by
    refine ⟨fun k => if k = 0 then c0 else if k = 1 then c1 else if k = 2 then c2 else if k = 3 then c3 else if k = 4 then c4 else if k = 5 then c5 else if k = 6 then c6 else if k = 7 then c7 else if k = 8 then c8 else if k = 9 then c9 else if k = 10 then c10 else c11, fun k => if k = 0 then i0 else if k = 1 then i1 else if k = 2 then i2 else if k = 3 then i3 else if k = 4 then i4 else if k = 5 then i5 else if k = 6 then i6 else if k = 7 then i7 else if k = 8 then i8 else if k = 9 then i9 else if k = 10 then i10 else i11, ?_⟩
    intro k q hq
    match k, hq with
    | 0, hq => cases hq; exact hn0
    | 1, hq => cases hq; exact hn1
    | 2, hq => cases hq; exact hn2
    | 3, hq => cases hq; exact hn3
    | 4, hq => cases hq; exact hn4
    | 5, hq => cases hq; exact hn5
    | 6, hq => cases hq; exact hn6
    | 7, hq => cases hq; exact hn7
    | 8, hq => cases hq; exact hn8
    | 9, hq => cases hq; exact hn9
    | 10, hq => cases hq; exact hn10
    | 11, hq => cases hq; exact hn11
    | k + 12, hq => exact absurd (List.getElem?_eq_some_iff.mp hq).1 (by show ¬ k + 12 < 12; omega)
  obtain ⟨aI0, hI1, hI2⟩ := arr_of (hG _ ac_I)
  obtain ⟨aZ0, hZ1, hZ2⟩ := arr_of (hG _ ac_Z)
  obtain ⟨aB0, hB1, hB2⟩ := arr_of (hG _ ac_B)
  obtain ⟨aJ0, hJ1, hJ2⟩ := arr_of (hG _ ac_J)
  obtain ⟨comp, aQ0, kQ, hq1, -, hq2, hq3, hq4⟩ := Cond.arrayOver_spec (hTb 323 (.arrayOver (.object "NightInn$Night")) (by decide +kernel))
  -- the words
  have hw0 : ∀ k : Nat, ∃ a : Nat, k < 24 → (Term.static "NightInn$Word" (wdN.getD k "") "LNightInn$Word;").eval args s none [] s = some (.ref a) := by
    intro k
    by_cases hk : k < 24
    · obtain ⟨a, ha⟩ := ref_of (hF _ (n_wx k hk))
      exact ⟨a, fun _ => ha⟩
    · exact ⟨0, fun h => absurd h hk⟩
  obtain ⟨wd, hwd⟩ := Classical.axiomOfChoice hw0
  obtain ⟨al, hal, hTl⟩ := va_Tof (tm := .static "NightInn$Word" "ALL" "[LNightInn$Word;") (ty := .object "NightInn$Word") (N := 24) (f := fun j => .ref (wd j)) (A := A) (by decide) (hF _ n_arr) (va_eqt (hF _ n_len)) (fun j hj => va_eqv (hF _ (n_we j hj)) (hwd j hj)) hA
  -- the texts
  have hs0 : ∀ k : Nat, ∃ q : Nat × Nat, k < 24 → (Term.string "NightInnModel" (stI.getD k 0)).eval args s none [] s = some (.ref q.1) ∧ va_OF "java/lang/String" "value" "[B" (.ref q.2) q.1 A s s.heap ∧ va_T .byte q.2 (stl k) (fun j => .int (stb k j)) A s s.heap := by
    intro k
    by_cases hk : k < 24
    · obtain ⟨a, ha⟩ := ref_of (hF _ (n_sx k hk))
      obtain ⟨v, hv, hTv⟩ := va_Tof (tm := .field (.string "NightInnModel" (stI.getD k 0)) "java/lang/String" "value" "[B") (ty := .byte) (N := stl k) (f := fun j => .int (stb k j)) (A := A) (stl_small k hk) (hF _ (n_sa k hk)) (va_eqt (hF _ (n_sl k hk))) (fun j hj => va_eqt (hF _ (n_se k hk j hj))) hA
      exact ⟨(a, v), fun _ => ⟨ha, vk_OFof ha hv hA, hTv⟩⟩
    · exact ⟨(0, 0), fun h => absurd h hk⟩
  obtain ⟨tx, htx⟩ := Classical.axiomOfChoice hs0
  have hini : (Cond.initialized "NightInn$Word").before args s = true := hTb 14 _ (by decide +kernel)
  obtain ⟨sio, hsio⟩ : ∃ sio : Option Nat, va_Z "jdk/internal/util/Preconditions" "SIOOBE_FORMATTER" "Ljava/util/function/BiFunction;" (va_rf sio) A s s.heap := by
    rcases va_Zqof (A := A) (hTb 1475 (.laysStatic "jdk/internal/util/Preconditions" "SIOOBE_FORMATTER" "Ljava/util/function/BiFunction;") (by decide +kernel)) (hTb 19 (.initialized "jdk/internal/util/Preconditions") (by decide +kernel)) (hF _ n_sio) hA with h | ⟨q, h⟩
    · exact ⟨none, h⟩
    · exact ⟨some q, h⟩
  have hu := hTb 1148 (.laysStatic "java/lang/Throwable" "UNASSIGNED_STACK" "[Ljava/lang/StackTraceElement;") (by decide +kernel)
  have hp := hTb 1150 (.laysStatic "java/lang/Throwable" "SUPPRESSED_SENTINEL" "Ljava/util/List;") (by decide +kernel)
  have hti := hTb 24 (.initialized "java/lang/Throwable") (by decide +kernel)
  refine ⟨((dC, dI), (aI0, aZ0, aB0, aJ0, aQ0), (wd, al, fun k => (tx k).1, fun k => (tx k).2, sio)), ⟨hKc, ?_⟩, ⟨fun k hk => ⟨va_Zref (hTb _ _ (t_wl k hk)) hini (hwd k hk) hA, vk_OFof (hwd k hk) (va_eqtl (hF _ (n_wc k hk))) hA, vk_OFof (hwd k hk) (va_eqt (hF _ (n_wk k hk))) hA⟩, va_Zref (hTb 483 (.laysStatic "NightInn$Word" "ALL" "[LNightInn$Word;") (by decide +kernel)) hini hal hA, hTl, va_Zof (hTb 1459 (.laysStatic "java/lang/String" "COMPACT_STRINGS" "Z") (by decide +kernel)) (hTb 17 (.initialized "java/lang/String") (by decide +kernel)) (va_eqi (hF _ n_cmp)) hA, hsio, fun k hk => ⟨va_Oof (hF _ (n_sx k hk)) (htx k hk).1 hA, vk_OFof (htx k hk).1 (va_eqt (hF _ (n_sc k hk))) hA, (htx k hk).2.1, (htx k hk).2.2, ?_⟩⟩, va_Zqof hu hti (hF _ n_una) hA, va_Zqof hp hti (hF _ n_sup) hA, LStat.of hu hA, LStat.of hp hA⟩
  · intro k q hq
    match k, hq with
    | 0, hq => cases hq; exact ⟨hI1, hI2⟩
    | 1, hq => cases hq; exact ⟨hZ1, hZ2⟩
    | 2, hq => cases hq; exact ⟨hB1, hB2⟩
    | 3, hq => cases hq; exact ⟨hJ1, hJ2⟩
    | 4, hq => cases hq; exact ⟨fun n z => ⟨fun k h => (by cases h), kQ, hq2, comp, hq3⟩, kQ, comp, hq2, hq3, hq1, hq4⟩
    | k + 5, hq => exact absurd (List.getElem?_eq_some_iff.mp hq).1 (by show ¬ k + 5 < 5; omega)
  · have e1 := hTb _ _ (t_sr k hk)
    have e2 := (htx k hk).1
    exact ⟨str_any e1, str_ev e2⟩
theorem nw_ok {args : Array Value} {s : State} (hT : ∀ w ∈ lw_tbl, w.before args s = true) : NW s := fun w hw hn => by
  have h := hT w hw
  cases w <;> first | exact va_any rfl h | cases hn
