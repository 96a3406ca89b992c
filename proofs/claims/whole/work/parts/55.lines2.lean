theorem fail_ok' {N : Nat} {k : Int32} : fX6_fail N k = some (0, k) := rfl
def doK85 (N : Nat) (v_size : Int32) (v_tape : Nat → Int32) (x54_fault : Int32) (x54_wrongAt : Int32) (v_read_doors : Int32) (v_read_doorA : Nat → Int32) (v_read_doorB : Nat → Int32) (v_read_how : Nat → Int32) (v_read_falls : Nat → Int32) (r_15 : Int32) (r_27 : Int32) : (Int32 × Int32 × Int32 × Int32 × Int32 × Int32 × Int64) → Option (Int32 × Int32 × Int32 × Int32 × Int32 × Int32 × Int32 × Int64 × Int32 × (Nat → Int32) × (Nat → Int32) × (Nat → Int32) × (Nat → Int32)) := un7 fun (x85_s0 : Int32) (x85_at : Int32) (x85_sort : Int32) (x85_place : Int32) (x85_sign : Int32) (x85_number : Int32) (x85_word : Int64) => (fX12_eatsWord N 10 v_size x85_at x85_sort x85_place x85_sign x85_number x85_word v_tape).bind (un7 fun (r_89 : Int32) (v_at_89 : Int32) (v_sort_89 : Int32) (v_place_89 : Int32) (v_sign_89 : Int32) (v_number_89 : Int32) (v_word_89 : Int64) => if v_sort_89 = 5 then (some (v_at_89, v_sort_89, v_place_89, v_sign_89, v_number_89, x54_fault, x54_wrongAt, v_word_89, v_read_doors, v_read_doorA, v_read_doorB, v_read_how, v_read_falls)) else (gd v_read_doors 10 (gd v_read_doors 10 (gd v_read_doors 10 (gd v_read_doors 10 (zg r_89 (some (v_at_89, v_sort_89, v_place_89, v_sign_89, v_number_89, x54_fault, x54_wrongAt, v_word_89, v_read_doors + 1, upd v_read_doorA v_read_doors.toNatClampNeg r_15, upd v_read_doorB v_read_doors.toNatClampNeg r_27, upd v_read_how v_read_doors.toNatClampNeg x85_s0, upd v_read_falls v_read_doors.toNatClampNeg r_89))))))))
def doK54 (N : Nat) (v_size : Int32) (v_at_22 : Int32) (v_place_22 : Int32) (v_sign_22 : Int32) (v_number_22 : Int32) (v_word_22 : Int64) (v_tape : Nat → Int32) (v_read_doors : Int32) (v_read_doorA : Nat → Int32) (v_read_doorB : Nat → Int32) (v_read_how : Nat → Int32) (v_read_falls : Nat → Int32) (r_15 : Int32) (r_27 : Int32) : (Int32 × Int32 × Int32) → Option (Int32 × Int32 × Int32 × Int32 × Int32 × Int32 × Int32 × Int64 × Int32 × (Nat → Int32) × (Nat → Int32) × (Nat → Int32) × (Nat → Int32)) := un3 fun (x54_sort : Int32) (x54_fault : Int32) (x54_wrongAt : Int32) => (fX12_goesOn N v_size v_at_22 x54_sort v_place_22 v_sign_22 v_number_22 v_word_22 v_tape).bind (un6 fun (v_at_55 : Int32) (v_sort_55 : Int32) (v_place_55 : Int32) (v_sign_55 : Int32) (v_number_55 : Int32) (v_word_55 : Int64) => (fX12_eatsWord N 8 v_size v_at_55 v_sort_55 v_place_55 v_sign_55 v_number_55 v_word_55 v_tape).bind (un7 fun (r_61 : Int32) (v_at_61 : Int32) (v_sort_61 : Int32) (v_place_61 : Int32) (v_sign_61 : Int32) (v_number_61 : Int32) (v_word_61 : Int64) => jn (doK85 N v_size v_tape x54_fault x54_wrongAt v_read_doors v_read_doorA v_read_doorB v_read_how v_read_falls r_15 r_27) (fun j85 => if r_61 = 0 then ((fX12_eatsWord N 9 v_size v_at_61 v_sort_61 v_place_61 v_sign_61 v_number_61 v_word_61 v_tape).bind (un7 fun (r_74 : Int32) (v_at_74 : Int32) (v_sort_74 : Int32) (v_place_74 : Int32) (v_sign_74 : Int32) (v_number_74 : Int32) (v_word_74 : Int64) => if r_74 = 0 then (j85 (0, v_at_74, v_sort_74, v_place_74, v_sign_74, v_number_74, v_word_74)) else (j85 (2, v_at_74, v_sort_74, v_place_74, v_sign_74, v_number_74, v_word_74)))) else (j85 (1, v_at_61, v_sort_61, v_place_61, v_sign_61, v_number_61, v_word_61)))))
theorem doK_cut (N : Nat) (v_size : Int32) (v_at : Int32) (v_sort : Int32) (v_place : Int32) (v_sign : Int32) (v_number : Int32) (v_fault : Int32) (v_wrongAt : Int32) (v_word : Int64) (v_read_doors : Int32) (v_read_names : Int32) (v_tape : Nat → Int32) (v_read_name : Nat → Int64) (v_read_nameNumber : Nat → Int32) (v_read_nameSort : Nat → Int32) (v_read_doorA : Nat → Int32) (v_read_doorB : Nat → Int32) (v_read_how : Nat → Int32) (v_read_falls : Nat → Int32) : fX12_readDoor N v_size v_at v_sort v_place v_sign v_number v_fault v_wrongAt v_word v_read_doors v_read_names v_tape v_read_name v_read_nameNumber v_read_nameSort v_read_doorA v_read_doorB v_read_how v_read_falls = (fX12_begins N v_read_doors 10 v_size v_at v_sort v_place v_sign v_number v_fault v_wrongAt v_word v_tape).bind (un8 fun (v_at_10 : Int32) (v_sort_10 : Int32) (v_place_10 : Int32) (v_sign_10 : Int32) (v_number_10 : Int32) (v_fault_10 : Int32) (v_wrongAt_10 : Int32) (v_word_10 : Int64) => (fX12_readKnown N 0 v_size v_at_10 v_sort_10 v_place_10 v_sign_10 v_number_10 v_fault_10 v_wrongAt_10 v_word_10 v_read_names v_read_name v_read_nameNumber v_read_nameSort v_tape).bind (un9 fun (r_15 : Int32) (v_at_15 : Int32) (v_sort_15 : Int32) (v_place_15 : Int32) (v_sign_15 : Int32) (v_number_15 : Int32) (v_fault_15 : Int32) (v_wrongAt_15 : Int32) (v_word_15 : Int64) => (fX12_needsSign N 44 v_size v_at_15 v_sort_15 v_place_15 v_sign_15 v_number_15 v_fault_15 v_wrongAt_15 v_word_15 v_tape).bind (un8 fun (v_at_22 : Int32) (v_sort_22 : Int32) (v_place_22 : Int32) (v_sign_22 : Int32) (v_number_22 : Int32) (v_fault_22 : Int32) (v_wrongAt_22 : Int32) (v_word_22 : Int64) => (fX12_known N 0 v_sort_22 v_place_22 v_fault_22 v_wrongAt_22 v_word_22 v_read_names v_read_name v_read_nameNumber v_read_nameSort).bind (un4 fun (r_27 : Int32) (v_sort_27 : Int32) (v_fault_27 : Int32) (v_wrongAt_27 : Int32) => jn (doK54 N v_size v_at_22 v_place_22 v_sign_22 v_number_22 v_word_22 v_tape v_read_doors v_read_doorA v_read_doorB v_read_how v_read_falls r_15 r_27) (fun j54 => jn (un0 ((fX12_wrong N 3 v_sort_27 v_place_22 v_fault_27 v_wrongAt_27).bind (un3 fun (v_sort_51 : Int32) (v_fault_51 : Int32) (v_wrongAt_51 : Int32) => j54 (v_sort_51, v_fault_51, v_wrongAt_51)))) (fun j49 => if r_15 = r_27 then (j49 ()) else ((fX11_between N r_15 r_27 v_read_doors v_read_doorA v_read_doorB).bind (un1 fun (r_42 : Int32) => if r_42 = (-1) then (j54 (v_sort_27, v_fault_27, v_wrongAt_27)) else (j49 ()))))))))) := rfl
def coK94 (N : Nat) (v_tape_end : Int32) (v_tape_bytes : Nat → Int32) (v_number_30 : Int32) (v_number_52 : Int32) (v_inn_house_doors : Int32) (v_inn_house_one : Nat → Int32) (v_inn_house_other : Nat → Int32) (v_inn_house_how : Nat → Int32) (v_inn_house_falls : Nat → Int32) (v_fault_52 : Int32) : (Int32 × Int32 × Int32 × Int32 × Int64 × Int32 × Int32) → Option (Int32 × Int32 × Int32 × Int32 × Int32 × Int32 × Int32 × Int64 × Int32 × Int32 × (Nat → Int32) × (Nat → Int32) × (Nat → Int32) × (Nat → Int32)) := un7 fun (x94_s0 : Int32) (x94_tape_at : Int32) (x94_tape_start : Int32) (x94_tape_kind : Int32) (x94_tape_code : Int64) (x94_tape_mayName : Int32) (x94_tape_value : Int32) => (fX6_passIf N 10 v_tape_end x94_tape_at x94_tape_start x94_tape_kind x94_tape_code x94_tape_mayName x94_tape_value v_tape_bytes).bind (un7 fun (r_109 : Int32) (v_tape_at_109 : Int32) (v_tape_start_109 : Int32) (v_tape_kind_109 : Int32) (v_tape_code_109 : Int64) (v_tape_mayName_109 : Int32) (v_tape_value_109 : Int32) => (fX1_addDoor N v_number_30 v_number_52 x94_s0 r_109 v_inn_house_doors v_inn_house_one v_inn_house_other v_inn_house_how v_inn_house_falls).bind (un5 fun (v_inn_house_doors_112 : Int32) (v_inn_house_one_112 : Nat → Int32) (v_inn_house_other_112 : Nat → Int32) (v_inn_house_how_112 : Nat → Int32) (v_inn_house_falls_112 : Nat → Int32) => some (1, v_fault_52, v_number_52, v_inn_house_doors_112, v_tape_at_109, v_tape_start_109, v_tape_kind_109, v_tape_code_109, v_tape_mayName_109, v_tape_value_109, v_inn_house_one_112, v_inn_house_other_112, v_inn_house_how_112, v_inn_house_falls_112)))
theorem coK_cut (N : Nat) (v_named : Int32) (v_fault : Int32) (v_number : Int32) (v_inn_house_doors : Int32) (v_tape_end : Int32) (v_tape_at : Int32) (v_tape_start : Int32) (v_tape_kind : Int32) (v_tape_code : Int64) (v_tape_mayName : Int32) (v_tape_value : Int32) (v_tape_bytes : Nat → Int32) (v_names : Nat → Int64) (v_sorts : Nat → Int32) (v_numbers : Nat → Int32) (v_inn_house_one : Nat → Int32) (v_inn_house_other : Nat → Int32) (v_inn_house_how : Nat → Int32) (v_inn_house_falls : Nat → Int32) : fX6_readDoor N v_named v_fault v_number v_inn_house_doors v_tape_end v_tape_at v_tape_start v_tape_kind v_tape_code v_tape_mayName v_tape_value v_tape_bytes v_names v_sorts v_numbers v_inn_house_one v_inn_house_other v_inn_house_how v_inn_house_falls = if v_inn_house_doors < 10 then ((fX7_advance N v_tape_end v_tape_at v_tape_bytes).bind (un6 fun (v_tape_at_25 : Int32) (v_tape_start_25 : Int32) (v_tape_kind_25 : Int32) (v_tape_code_25 : Int64) (v_tape_mayName_25 : Int32) (v_tape_value_25 : Int32) => (fX6_passName N 0 v_named v_fault v_number v_tape_end v_tape_at_25 v_tape_start_25 v_tape_kind_25 v_tape_code_25 v_tape_mayName_25 v_tape_value_25 v_names v_sorts v_numbers v_tape_bytes).bind (un9 fun (r_30 : Int32) (v_fault_30 : Int32) (v_number_30 : Int32) (v_tape_at_30 : Int32) (v_tape_start_30 : Int32) (v_tape_kind_30 : Int32) (v_tape_code_30 : Int64) (v_tape_mayName_30 : Int32) (v_tape_value_30 : Int32) => if r_30 = 0 then (some (0, v_fault_30, v_number_30, v_inn_house_doors, v_tape_at_30, v_tape_start_30, v_tape_kind_30, v_tape_code_30, v_tape_mayName_30, v_tape_value_30, v_inn_house_one, v_inn_house_other, v_inn_house_how, v_inn_house_falls)) else ((fX6_passComma N v_fault_30 v_tape_end v_tape_at_30 v_tape_start_30 v_tape_kind_30 v_tape_code_30 v_tape_mayName_30 v_tape_value_30 v_tape_bytes).bind (un8 fun (r_44 : Int32) (v_fault_44 : Int32) (v_tape_at_44 : Int32) (v_tape_start_44 : Int32) (v_tape_kind_44 : Int32) (v_tape_code_44 : Int64) (v_tape_mayName_44 : Int32) (v_tape_value_44 : Int32) => if r_44 = 0 then (some (0, v_fault_44, v_number_30, v_inn_house_doors, v_tape_at_44, v_tape_start_44, v_tape_kind_44, v_tape_code_44, v_tape_mayName_44, v_tape_value_44, v_inn_house_one, v_inn_house_other, v_inn_house_how, v_inn_house_falls)) else ((fX6_passOtherRoom N v_number_30 v_named v_fault_44 v_number_30 v_tape_end v_tape_at_44 v_tape_start_44 v_tape_kind_44 v_tape_code_44 v_tape_mayName_44 v_tape_value_44 v_names v_sorts v_numbers v_inn_house_doors v_inn_house_one v_inn_house_other v_tape_bytes).bind (un9 fun (r_52 : Int32) (v_fault_52 : Int32) (v_number_52 : Int32) (v_tape_at_52 : Int32) (v_tape_start_52 : Int32) (v_tape_kind_52 : Int32) (v_tape_code_52 : Int64) (v_tape_mayName_52 : Int32) (v_tape_value_52 : Int32) => if r_52 = 0 then (some (0, v_fault_52, v_number_52, v_inn_house_doors, v_tape_at_52, v_tape_start_52, v_tape_kind_52, v_tape_code_52, v_tape_mayName_52, v_tape_value_52, v_inn_house_one, v_inn_house_other, v_inn_house_how, v_inn_house_falls)) else ((fX6_passIf N 8 v_tape_end v_tape_at_52 v_tape_start_52 v_tape_kind_52 v_tape_code_52 v_tape_mayName_52 v_tape_value_52 v_tape_bytes).bind (un7 fun (r_69 : Int32) (v_tape_at_69 : Int32) (v_tape_start_69 : Int32) (v_tape_kind_69 : Int32) (v_tape_code_69 : Int64) (v_tape_mayName_69 : Int32) (v_tape_value_69 : Int32) => jn (coK94 N v_tape_end v_tape_bytes v_number_30 v_number_52 v_inn_house_doors v_inn_house_one v_inn_house_other v_inn_house_how v_inn_house_falls v_fault_52) (fun j94 => if r_69 = 0 then ((fX6_passIf N 9 v_tape_end v_tape_at_69 v_tape_start_69 v_tape_kind_69 v_tape_code_69 v_tape_mayName_69 v_tape_value_69 v_tape_bytes).bind (un7 fun (r_83 : Int32) (v_tape_at_83 : Int32) (v_tape_start_83 : Int32) (v_tape_kind_83 : Int32) (v_tape_code_83 : Int64) (v_tape_mayName_83 : Int32) (v_tape_value_83 : Int32) => if r_83 = 0 then (j94 (0, v_tape_at_83, v_tape_start_83, v_tape_kind_83, v_tape_code_83, v_tape_mayName_83, v_tape_value_83)) else (j94 (2, v_tape_at_83, v_tape_start_83, v_tape_kind_83, v_tape_code_83, v_tape_mayName_83, v_tape_value_83)))) else (j94 (1, v_tape_at_69, v_tape_start_69, v_tape_kind_69, v_tape_code_69, v_tape_mayName_69, v_tape_value_69)))))))))))) else ((fX6_fail N 5).bind (un2 fun (r_17 : Int32) (v_fault_17 : Int32) => zg r_17 (some (r_17, v_fault_17, v_number, v_inn_house_doors, v_tape_at, v_tape_start, v_tape_kind, v_tape_code, v_tape_mayName, v_tape_value, v_inn_house_one, v_inn_house_other, v_inn_house_how, v_inn_house_falls)))) := rfl
theorem og_goesOn {N : Nat} {sz a s pl sg nu : Int32} {w : Int64} {t : Nat → Int32} (hs : s = 5) : fX12_goesOn N sz a s pl sg nu w t = some (a, s, pl, sg, nu, w) := if_pos hs
theorem og_wrong {N : Nat} {k s pl f wa : Int32} (hs : s = 5) : fX12_wrong N k s pl f wa = some (s, f, wa) := if_pos hs
theorem og_eatsWord {N k : Nat} {sz a s pl sg nu : Int32} {w : Int64} {t : Nat → Int32} (hs : s = 5) : fX12_eatsWord N k sz a s pl sg nu w t = some (0, a, s, pl, sg, nu, w) := by
  subst hs
  exact ov_eatsWord
theorem og_doK85 {N : Nat} {sz f wa D r15 r27 y a s pl sg nu : Int32} {w : Int64} {t rA rB rhow rfalls : Nat → Int32} (hs : s = 5) : doK85 N sz t f wa D rA rB rhow rfalls r15 r27 (y, a, s, pl, sg, nu, w) = some (a, s, pl, sg, nu, f, wa, w, D, rA, rB, rhow, rfalls) := by
  unfold doK85
  dsimp only [un0, un1, un2, un3, un4, un5, un6, un7, un8, un9, un10, un11, un12, un13, un14, un15, un16, un17, un18, un32, un33, un35, un36]
  rw [og_eatsWord hs, bd_some]
  dsimp only [un0, un1, un2, un3, un4, un5, un6, un7, un8, un9, un10, un11, un12, un13, un14, un15, un16, un17, un18, un32, un33, un35, un36]
  rw [if_pos hs]
theorem og_doK54 {N : Nat} {sz f wa D r15 r27 a s pl sg nu : Int32} {w : Int64} {t rA rB rhow rfalls : Nat → Int32} (hs : s = 5) : doK54 N sz a pl sg nu w t D rA rB rhow rfalls r15 r27 (s, f, wa) = some (a, s, pl, sg, nu, f, wa, w, D, rA, rB, rhow, rfalls) := by
  unfold doK54
  dsimp only [un0, un1, un2, un3, un4, un5, un6, un7, un8, un9, un10, un11, un12, un13, un14, un15, un16, un17, un18, un32, un33, un35, un36]
  rw [og_goesOn hs, bd_some]
  dsimp only [un0, un1, un2, un3, un4, un5, un6, un7, un8, un9, un10, un11, un12, un13, un14, un15, un16, un17, un18, un32, un33, un35, un36]
  rw [og_eatsWord hs, bd_some]
  dsimp only [un0, un1, un2, un3, un4, un5, un6, un7, un8, un9, un10, un11, un12, un13, un14, un15, un16, un17, un18, un32, un33, un35, un36, jn]
  rw [if_pos (show (0 : Int32) = 0 from rfl), og_eatsWord hs, bd_some]
  dsimp only [un0, un1, un2, un3, un4, un5, un6, un7, un8, un9, un10, un11, un12, un13, un14, un15, un16, un17, un18, un32, un33, un35, un36]
  rw [if_pos (show (0 : Int32) = 0 from rfl)]
  exact og_doK85 hs
theorem ov_doK54 {N : Nat} {sz f wa D r15 r27 a pl sg nu : Int32} {w : Int64} {t rA rB rhow rfalls : Nat → Int32} : doK54 N sz a pl sg nu w t D rA rB rhow rfalls r15 r27 (5, f, wa) = some (a, 5, pl, sg, nu, f, wa, w, D, rA, rB, rhow, rfalls) := og_doK54 rfl
theorem door_t {N n p D u v y : Nat} {y' cf fl wa : Int32} {b one other how falls rA rB rhow rfalls : Nat → Int32} {c : CTok} {r : RTok} (hX : TX N n b) (h : TK n p c r) (hy : y' = nI y) (hD : D < 10) :
    ∃ x p' c' r', x ≤ 1 ∧ p ≤ p' ∧ TK n p' c' r' ∧ coK94 N (nI n) b (nI u) (nI v) (nI D) one other how falls cf (y', c.1, c.2.1, c.2.2.1, c.2.2.2.1, c.2.2.2.2.1, c.2.2.2.2.2) = some (1, cf, nI v, nI (D + 1), c'.1, c'.2.1, c'.2.2.1, c'.2.2.2.1, c'.2.2.2.2.1, c'.2.2.2.2.2, upd one D (nI u), upd other D (nI v), upd how D (nI y), upd falls D (nI x)) ∧ doK85 N (nI n) b fl wa (nI D) rA rB rhow rfalls (nI u) (nI v) (y', r.1, r.2.1, r.2.2.1, r.2.2.2.1, r.2.2.2.2.1, r.2.2.2.2.2) = some (r'.1, r'.2.1, r'.2.2.1, r'.2.2.2.1, r'.2.2.2.2.1, fl, wa, r'.2.2.2.2.2, nI (D + 1), upd rA D (nI u), upd rB D (nI v), upd rhow D (nI y), upd rfalls D (nI x)) := by
  subst hy
  obtain ⟨x, p7, c7, r7, x1, a7, t7, e7, g7, -, -⟩ := passIf_ok hX h (k := 10) (by omega)
  have hz : nI x = 0 ∨ nI x = 1 := by
    rcases Nat.lt_or_ge x 1 with z | z
    · have : x = 0 := by omega
      subst this; exact Or.inl rfl
    · have : x = 1 := by omega
      subst this; exact Or.inr rfl
  refine ⟨x, p7, c7, r7, x1, a7, t7, ?_, ?_⟩
  · unfold coK94
    dsimp only [un0, un1, un2, un3, un4, un5, un6, un7, un8, un9, un10, un11, un12, un13, un14, un15, un16, un17, un18, un32, un33, un35, un36]
    rw [e7, bd_some]
    dsimp only [un0, un1, un2, un3, un4, un5, un6, un7, un8, un9, un10, un11, un12, un13, un14, un15, un16, un17, un18, un32, un33, un35, un36]
    unfold fX1_addDoor
    rw [zg_in _ hz]
    simp (disch := omega) only [gd_nI, nI_clamp, nI_1, bd_some, un5]
  · unfold doK85
    dsimp only [un0, un1, un2, un3, un4, un5, un6, un7, un8, un9, un10, un11, un12, un13, un14, un15, un16, un17, un18, un32, un33, un35, un36]
    rw [g7, bd_some]
    dsimp only [un0, un1, un2, un3, un4, un5, un6, un7, un8, un9, un10, un11, un12, un13, un14, un15, un16, un17, un18, un32, un33, un35, un36]
    rw [if_neg t7.rs, zg_in _ hz]
    simp (disch := omega) only [gd_nI, nI_clamp, nI_1]
theorem l_door {N n p k : Nat} {J : Tb} {b : Nat → Int32} {c : CTok} {r : RTok} {named : Int32} {names : Nat → Int64} {sorts numbers : Nat → Int32} {rnames : Int32} {rname : Nat → Int64} {rsort rnum : Nat → Int32} (hX : TX N n b) (h : TK n p c r) (hw : isW c 2 = true) (hi : ib J) (hk : k = J 0 0 + J 0 2 + J 0 3 + J 0 4) (hM : NM (cbJ J) k named names sorts numbers rnames rname rsort rnum) (cf nu fl wa : Int32) (one other how falls rA rB rhow rfalls : Nat → Int32) (H1 : ∀ i, i < J 0 1 → one i = nI (J 3 i)) (H2 : ∀ i, i < J 0 1 → other i = nI (J 4 i)) (G1 : ∀ i, i < J 0 1 → rA i = nI (J 3 i)) (G2 : ∀ i, i < J 0 1 → rB i = nI (J 4 i)) :
    (∃ p' c' r' u v y x, p < p' ∧ TK n p' c' r' ∧ u < J 0 0 ∧ v < J 0 0 ∧ ¬ v = u ∧ ¬ dbt J u v < J 0 1 ∧ y ≤ 2 ∧ x ≤ 1 ∧ J 0 1 < 10 ∧ fX6_readDoor N named cf nu (nI (J 0 1)) (nI n) c.1 c.2.1 c.2.2.1 c.2.2.2.1 c.2.2.2.2.1 c.2.2.2.2.2 b names sorts numbers one other how falls = some (1, cf, nI v, nI (J 0 1 + 1), c'.1, c'.2.1, c'.2.2.1, c'.2.2.2.1, c'.2.2.2.2.1, c'.2.2.2.2.2, upd one (J 0 1) (nI u), upd other (J 0 1) (nI v), upd how (J 0 1) (nI y), upd falls (J 0 1) (nI x)) ∧ fX12_readDoor N (nI n) r.1 r.2.1 r.2.2.1 r.2.2.2.1 r.2.2.2.2.1 fl wa r.2.2.2.2.2 (nI (J 0 1)) rnames b rname rnum rsort rA rB rhow rfalls = some (r'.1, r'.2.1, r'.2.2.1, r'.2.2.2.1, r'.2.2.2.2.1, fl, wa, r'.2.2.2.2.2, nI (J 0 1 + 1), upd rA (J 0 1) (nI u), upd rB (J 0 1) (nI v), upd rhow (J 0 1) (nI y), upd rfalls (J 0 1) (nI x))) ∨
    (∃ (f : Int32) (p' : Nat) (c' : CTok), ∃ nu' a' l' g' m' w', FT f ∧ c'.2.1 = nI p' ∧ fX6_readDoor N named cf nu (nI (J 0 1)) (nI n) c.1 c.2.1 c.2.2.1 c.2.2.2.1 c.2.2.2.2.1 c.2.2.2.2.2 b names sorts numbers one other how falls = some (0, f, nu', nI (J 0 1), c'.1, c'.2.1, c'.2.2.1, c'.2.2.2.1, c'.2.2.2.2.1, c'.2.2.2.2.2, one, other, how, falls) ∧ fX12_readDoor N (nI n) r.1 r.2.1 r.2.2.1 r.2.2.2.1 r.2.2.2.2.1 fl wa r.2.2.2.2.2 (nI (J 0 1)) rnames b rname rnum rsort rA rB rhow rfalls = some (a', 5, l', g', m', f, nI p', w', nI (J 0 1), rA, rB, rhow, rfalls)) := by
  have hR := hi.R
  have hT := hi.T
  have hE := hi.E
  have hS := hi.S
  have hD := hi.D
  have hN : 64 < N := by have := hX.1; omega
  have hs := h.rs
  have hdb : ∀ u v, u < J 0 0 → v < J 0 0 → fX1_doorBetween N (nI u) (nI v) (nI (J 0 1)) one other = some (if dbt J u v < J 0 1 then nI (dbt J u v) else -2) := fun u v hu hv => doorBetween_ok hN hD (by omega) (by omega) H1 H2 (ib_o8 hi)
  have hbt : ∀ u v, u < 8 → v < 8 → fX11_between N (nI u) (nI v) (nI (J 0 1)) rA rB = some (if dbt J u v < J 0 1 then nI (dbt J u v) else -1) := fun u v hu hv => between_ok hN hD hu hv G1 G2 (ib_o8 hi)
  have hb0 : ∀ u, u < 8 → fX11_between N (nI u) 0 (nI (J 0 1)) rA rB = some (if dbt J u 0 < J 0 1 then nI (dbt J u 0) else -1) := fun u hu => hbt u 0 hu (by omega)
  obtain ⟨p1, c1, r1, a1, t1, e1, g1⟩ := h.adv hX (isW_kind hw).1 (isW_kind hw).2
  generalize hA : fX6_readDoor N named cf nu (nI (J 0 1)) (nI n) c.1 c.2.1 c.2.2.1 c.2.2.2.1 c.2.2.2.2.1 c.2.2.2.2.2 b names sorts numbers one other how falls = A
  generalize hB : fX12_readDoor N (nI n) r.1 r.2.1 r.2.2.1 r.2.2.2.1 r.2.2.2.2.1 fl wa r.2.2.2.2.2 (nI (J 0 1)) rnames b rname rnum rsort rA rB rhow rfalls = B
  rw [coK_cut] at hA
  rw [doK_cut] at hB
  by_cases q : J 0 1 < 10
  · rw [if_pos (show nI (J 0 1) < 10 from (nI_ltI (b := 10) (by omega) (by omega)).mpr q), e1, bd_some] at hA
    rw [begins_go h (m' := 10) (m := 10) rfl (by omega) (by omega) (by omega) fl wa g1, bd_some] at hB
    dsimp only [un0, un1, un2, un3, un4, un5, un6, un7, un8, un9, un10, un11, un12, un13, un14, un15, un16, un17, un18, un32, un33, un35, un36] at hA hB
    rcases passName_ok hX t1 (by omega) hM (s' := 0) (s := 0) rfl (by omega) cf nu fl wa with ⟨u, p2, c2, r2, u1, a2, t2, e2, g2⟩ | ⟨f, nu', f1, e2, g2⟩
    · have u2 : u < J 0 0 := u1
      rw [e2, bd_some] at hA
      rw [g2, bd_some] at hB
      dsimp only [un0, un1, un2, un3, un4, un5, un6, un7, un8, un9, un10, un11, un12, un13, un14, un15, un16, un17, un18, un32, un33, un35, un36] at hA hB
      rw [if_neg (show ¬ (1 : Int32) = 0 by decide)] at hA
      rcases passComma_ok hX t2 cf fl wa with ⟨p3, c3, r3, a3, t3, e3, g3⟩ | ⟨e3, g3⟩
      · rw [e3, bd_some] at hA
        rw [g3, bd_some] at hB
        dsimp only [un0, un1, un2, un3, un4, un5, un6, un7, un8, un9, un10, un11, un12, un13, un14, un15, un16, un17, un18, un32, un33, un35, un36] at hA hB
        rw [if_neg (show ¬ (1 : Int32) = 0 by decide)] at hA
        unfold fX6_passOtherRoom at hA
        rcases lookUp_ok hX t3 (by omega) hM (s' := 0) (s := 0) rfl (by omega) cf (nI u) fl wa with ⟨v, v1, k3, e4, g4⟩ | ⟨f, nu', f1, e4, g4⟩
        · have v2 : v < J 0 0 := v1
          rw [e4, bd_some] at hA
          rw [g4, bd_some] at hB
          dsimp only [un0, un1, un2, un3, un4, un5, un6, un7, un8, un9, un10, un11, un12, un13, un14, un15, un16, un17, un18, un32, un33, un35, un36, jn] at hA hB
          rw [if_neg (show ¬ (1 : Int32) = 0 by decide)] at hA
          by_cases cuv : v = u
          · subst cuv
            rw [if_pos (show nI v = nI v from rfl), fail_ok', bd_some] at hA
            rw [if_pos (show nI v = nI v from rfl), wrong_ok t3.rs, bd_some] at hB
            dsimp only [un0, un1, un2, un3, un4, un5, un6, un7, un8, un9, un10, un11, un12, un13, un14, un15, un16, un17, un18, un32, un33, un35, un36] at hA hB
            rw [zg0, bd_some] at hA
            rw [ov_doK54, t3.pl] at hB
            dsimp only [un0, un1, un2, un3, un4, un5, un6, un7, un8, un9, un10, un11, un12, un13, un14, un15, un16, un17, un18, un32, un33, un35, un36] at hA
            rw [if_pos (show (0 : Int32) = 0 from rfl)] at hA
            exact Or.inr ⟨3, p3, c3, nI v, _, _, _, _, _, FT3, t3.2.1, hA.symm, hB.symm⟩
          · rw [if_neg (show ¬ nI v = nI u from fun e => cuv ((nI_eq (by omega) (by omega)).mp e)), hdb u v u2 v2, bd_some] at hA
            rw [if_neg (show ¬ nI u = nI v from fun e => cuv ((nI_eq (by omega) (by omega)).mp e).symm), hbt u v (by omega) (by omega), bd_some] at hB
            dsimp only [un0, un1, un2, un3, un4, un5, un6, un7, un8, un9, un10, un11, un12, un13, un14, un15, un16, un17, un18, un32, un33, un35, un36] at hA hB
            by_cases cd : dbt J u v < J 0 1
            · rw [if_pos cd, if_neg (show ¬ nI (dbt J u v) = -2 from fun e => (nI_neg2 (by omega)).mp e), fail_ok', bd_some] at hA
              rw [if_pos cd, if_neg (show ¬ nI (dbt J u v) = -1 from fun e => (nI_neg1 (by omega)).mp e), wrong_ok t3.rs, bd_some] at hB
              dsimp only [un0, un1, un2, un3, un4, un5, un6, un7, un8, un9, un10, un11, un12, un13, un14, un15, un16, un17, un18, un32, un33, un35, un36] at hA hB
              rw [zg0, bd_some] at hA
              rw [ov_doK54, t3.pl] at hB
              dsimp only [un0, un1, un2, un3, un4, un5, un6, un7, un8, un9, un10, un11, un12, un13, un14, un15, un16, un17, un18, un32, un33, un35, un36] at hA
              rw [if_pos (show (0 : Int32) = 0 from rfl)] at hA
              exact Or.inr ⟨3, p3, c3, nI v, _, _, _, _, _, FT3, t3.2.1, hA.symm, hB.symm⟩
            · obtain ⟨p4, c4, r4, a4, t4, e5, g5⟩ := t3.adv hX (by rw [k3]; decide) (by rw [k3]; decide)
              rw [if_neg cd, if_pos (show (-2 : Int32) = -2 from rfl), e5, bd_some] at hA
              rw [if_neg cd, if_pos (show (-1 : Int32) = -1 from rfl)] at hB
              unfold doK54 at hB
              dsimp only [un0, un1, un2, un3, un4, un5, un6, un7, un8, un9, un10, un11, un12, un13, un14, un15, un16, un17, un18, un32, un33, un35, un36] at hB
              rw [g5, bd_some] at hB
              dsimp only [un0, un1, un2, un3, un4, un5, un6, un7, un8, un9, un10, un11, un12, un13, un14, un15, un16, un17, un18, un32, un33, un35, un36] at hA hB
              rw [bd_some] at hA
              dsimp only [un0, un1, un2, un3, un4, un5, un6, un7, un8, un9, un10, un11, un12, un13, un14, un15, un16, un17, un18, un32, un33, un35, un36] at hA
              rw [if_neg (show ¬ (1 : Int32) = 0 by decide)] at hA
              obtain ⟨y8, p5, c5, r5, y1, a5, t5, e6, g6, -, -⟩ := passIf_ok hX t4 (k := 8) (by omega)
              rw [e6, bd_some] at hA
              rw [g6, bd_some] at hB
              dsimp only [un0, un1, un2, un3, un4, un5, un6, un7, un8, un9, un10, un11, un12, un13, un14, un15, un16, un17, un18, un32, un33, un35, un36, jn] at hA hB
              by_cases cy : y8 = 0
              · subst cy
                rw [if_pos (show nI 0 = 0 from rfl)] at hA hB
                obtain ⟨y9, p6, c6, r6, z1, a6, t6, e8, g8, -, -⟩ := passIf_ok hX t5 (k := 9) (by omega)
                rw [e8, bd_some] at hA
                rw [g8, bd_some] at hB
                dsimp only [un0, un1, un2, un3, un4, un5, un6, un7, un8, un9, un10, un11, un12, un13, un14, un15, un16, un17, un18, un32, un33, un35, un36] at hA hB
                by_cases cz : y9 = 0
                · subst cz
                  rw [if_pos (show nI 0 = 0 from rfl)] at hA hB
                  obtain ⟨x, p7, c7, r7, x1, a7, t7, e7, g7⟩ := door_t (y' := 0) (y := 0) (u := u) (v := v) (cf := cf) (fl := fl) (wa := wa) (one := one) (other := other) (how := how) (falls := falls) (rA := rA) (rB := rB) (rhow := rhow) (rfalls := rfalls) hX t6 rfl q
                  rw [e7] at hA
                  rw [g7] at hB
                  exact Or.inl ⟨p7, c7, r7, u, v, 0, x, by omega, t7, u2, v2, cuv, cd, by omega, x1, q, hA.symm, hB.symm⟩
                · have : y9 = 1 := by omega
                  subst this
                  rw [if_neg (show ¬ nI 1 = 0 by decide)] at hA hB
                  obtain ⟨x, p7, c7, r7, x1, a7, t7, e7, g7⟩ := door_t (y' := 2) (y := 2) (u := u) (v := v) (cf := cf) (fl := fl) (wa := wa) (one := one) (other := other) (how := how) (falls := falls) (rA := rA) (rB := rB) (rhow := rhow) (rfalls := rfalls) hX t6 rfl q
                  rw [e7] at hA
                  rw [g7] at hB
                  exact Or.inl ⟨p7, c7, r7, u, v, 2, x, by omega, t7, u2, v2, cuv, cd, by omega, x1, q, hA.symm, hB.symm⟩
              · have : y8 = 1 := by omega
                subst this
                rw [if_neg (show ¬ nI 1 = 0 by decide)] at hA hB
                obtain ⟨x, p7, c7, r7, x1, a7, t7, e7, g7⟩ := door_t (y' := 1) (y := 1) (u := u) (v := v) (cf := cf) (fl := fl) (wa := wa) (one := one) (other := other) (how := how) (falls := falls) (rA := rA) (rB := rB) (rhow := rhow) (rfalls := rfalls) hX t5 rfl q
                rw [e7] at hA
                rw [g7] at hB
                exact Or.inl ⟨p7, c7, r7, u, v, 1, x, by omega, t7, u2, v2, cuv, cd, by omega, x1, q, hA.symm, hB.symm⟩
        · rw [e4, bd_some] at hA
          rw [g4, bd_some] at hB
          dsimp only [un0, un1, un2, un3, un4, un5, un6, un7, un8, un9, un10, un11, un12, un13, un14, un15, un16, un17, un18, un32, un33, un35, un36, jn] at hA hB
          rw [if_pos (show (0 : Int32) = 0 from rfl), bd_some] at hA
          dsimp only [un0, un1, un2, un3, un4, un5, un6, un7, un8, un9, un10, un11, un12, un13, un14, un15, un16, un17, un18, un32, un33, un35, un36] at hA
          rw [if_pos (show (0 : Int32) = 0 from rfl)] at hA
          rw [ov_wrong, bd_some, hb0 u (by omega), bd_some] at hB
          dsimp only [un0, un1, un2, un3, un4, un5, un6, un7, un8, un9, un10, un11, un12, un13, un14, un15, un16, un17, un18, un32, un33, un35, un36] at hB
          rw [ov_doK54] at hB
          rw [ite_self, ite_self] at hB
          exact Or.inr ⟨f, p3, c3, nu', _, _, _, _, _, f1, t3.2.1, hA.symm, hB.symm⟩
      · rw [e3, bd_some] at hA
        rw [g3, bd_some] at hB
        dsimp only [un0, un1, un2, un3, un4, un5, un6, un7, un8, un9, un10, un11, un12, un13, un14, un15, un16, un17, un18, un32, un33, un35, un36] at hA hB
        rw [if_pos (show (0 : Int32) = 0 from rfl)] at hA
        rw [ov_known hN (by omega) hM, bd_some] at hB
        dsimp only [un0, un1, un2, un3, un4, un5, un6, un7, un8, un9, un10, un11, un12, un13, un14, un15, un16, un17, un18, un32, un33, un35, un36, jn] at hB
        rw [ov_wrong, bd_some, hb0 u (by omega), bd_some] at hB
        dsimp only [un0, un1, un2, un3, un4, un5, un6, un7, un8, un9, un10, un11, un12, un13, un14, un15, un16, un17, un18, un32, un33, un35, un36] at hB
        rw [ov_doK54] at hB
        rw [ite_self, ite_self] at hB
        exact Or.inr ⟨1, p2, c2, nI u, _, _, _, _, _, FT1, t2.2.1, hA.symm, hB.symm⟩
    · rw [e2, bd_some] at hA
      rw [g2, bd_some] at hB
      dsimp only [un0, un1, un2, un3, un4, un5, un6, un7, un8, un9, un10, un11, un12, un13, un14, un15, un16, un17, un18, un32, un33, un35, un36] at hA hB
      rw [if_pos (show (0 : Int32) = 0 from rfl)] at hA
      rw [ov_needsSign, bd_some] at hB
      dsimp only [un0, un1, un2, un3, un4, un5, un6, un7, un8, un9, un10, un11, un12, un13, un14, un15, un16, un17, un18, un32, un33, un35, un36] at hB
      rw [ov_known hN (by omega) hM, bd_some] at hB
      dsimp only [un0, un1, un2, un3, un4, un5, un6, un7, un8, un9, un10, un11, un12, un13, un14, un15, un16, un17, un18, un32, un33, un35, un36, jn] at hB
      rw [if_pos (show (0 : Int32) = 0 from rfl), ov_wrong, bd_some] at hB
      dsimp only [un0, un1, un2, un3, un4, un5, un6, un7, un8, un9, un10, un11, un12, un13, un14, un15, un16, un17, un18, un32, un33, un35, un36] at hB
      rw [ov_doK54] at hB
      exact Or.inr ⟨f, p1, c1, nu', _, _, _, _, _, f1, t1.2.1, hA.symm, hB.symm⟩
  · rw [if_neg (show ¬ nI (J 0 1) < 10 from fun e => q ((nI_ltI (b := 10) (by omega) (by omega)).mp e)), fail_ok', bd_some] at hA
    dsimp only [un0, un1, un2, un3, un4, un5, un6, un7, un8, un9, un10, un11, un12, un13, un14, un15, un16, un17, un18, un32, un33, un35, un36] at hA
    rw [zg0] at hA
    rw [begins_full h (m' := 10) (m := 10) rfl (by omega) fl wa, bd_some] at hB
    dsimp only [un0, un1, un2, un3, un4, un5, un6, un7, un8, un9, un10, un11, un12, un13, un14, un15, un16, un17, un18, un32, un33, un35, un36] at hB
    rw [ov_readKnown hN (by omega) hM, bd_some] at hB
    dsimp only [un0, un1, un2, un3, un4, un5, un6, un7, un8, un9, un10, un11, un12, un13, un14, un15, un16, un17, un18, un32, un33, un35, un36] at hB
    rw [ov_needsSign, bd_some] at hB
    dsimp only [un0, un1, un2, un3, un4, un5, un6, un7, un8, un9, un10, un11, un12, un13, un14, un15, un16, un17, un18, un32, un33, un35, un36] at hB
    rw [ov_known hN (by omega) hM, bd_some] at hB
    dsimp only [un0, un1, un2, un3, un4, un5, un6, un7, un8, un9, un10, un11, un12, un13, un14, un15, un16, un17, un18, un32, un33, un35, un36, jn] at hB
    rw [if_pos (show (0 : Int32) = 0 from rfl), ov_wrong, bd_some] at hB
    dsimp only [un0, un1, un2, un3, un4, un5, un6, un7, un8, un9, un10, un11, un12, un13, un14, un15, un16, un17, un18, un32, un33, un35, un36] at hB
    rw [ov_doK54] at hB
    exact Or.inr ⟨5, p, c, nu, _, _, _, _, _, FT5, h.2.1, hA.symm, hB.symm⟩
theorem lis_ov {N m : Nat} {rl : Nat → Int32} {x pl f wa : Int32} (K : Int32 × Int32 × Int32 → Option (Int32 × Int32 × Int32 × Int32 × Int32 × Int32 × Int32 × Int64 × Int32 × (Nat → Int32))) (hN : 64 < N) (hm : m ≤ 3) (j : Nat) (hj : j ≤ m) : lp (BX12_readListens_20 (nI m) rl x N pl K) N (nI j, 5, f, wa) = K (5, f, wa) := by
  refine lp_to (fun i => (nI i, 5, f, wa)) m (fun rec => ?_) (m - j) j N (by omega) (by omega) (fun i h1 h2 rec => ?_)
  · simp (disch := omega) only [BX12_readListens_20, un4, nI_leI, Nat.le_refl, if_true]
  · have h3 : ¬ m ≤ i := by omega
    simp (disch := omega) only [BX12_readListens_20, un4, un3, jn, nI_leI, h3, if_false, if_true, nI_1]
theorem lis_ok {N m v : Nat} {J : Tb} {rl : Nat → Int32} {s pl fl wa : Int32} (K : Int32 × Int32 × Int32 → Option (Int32 × Int32 × Int32 × Int32 × Int32 × Int32 × Int32 × Int64 × Int32 × (Nat → Int32))) (hN : 64 < N) (hm : m ≤ 3) (hs : ¬ s = 5) (hv : v < 8) (hl : ∀ i, i < m → rl i = nI (J 16 i) ∧ J 16 i < 8) : lp (BX12_readListens_20 (nI m) rl (nI v) N pl K) N (nI 0, s, fl, wa) = K (if fa_first (fun i => decide (J 16 i = v)) m < m then (5, 3, pl) else (s, fl, wa)) := by
  have hle := fa_first_le (fun i => decide (J 16 i = v)) m
  by_cases c : fa_first (fun i => decide (J 16 i = v)) m < m
  · rw [if_pos c]
    have hy := of_decide_eq_true (fa_first_yes _ _ c)
    generalize hf : fa_first (fun i => decide (J 16 i = v)) m = e at c hy hle
    have key : ∀ (k i M : Nat), i + k = e → k < M → M + i ≤ N + 0 → lp (BX12_readListens_20 (nI m) rl (nI v) N pl K) M (nI i, s, fl, wa) = lp (BX12_readListens_20 (nI m) rl (nI v) N pl K) (M - k - 1) (nI (e + 1), 5, 3, pl) := by
      intro k
      induction k with
      | zero =>
        intro i M h1 h2 _
        have : i = e := by omega
        subst this
        cases M with
        | zero => omega
        | succ M =>
          show BX12_readListens_20 _ _ _ _ _ _ (lp _ M) _ = lp _ M _
          have h3 : ¬ m ≤ i := by omega
          have h4 := hl i c
          simp (disch := omega) only [BX12_readListens_20, un4, un3, jn, nI_leI, h3, if_false, hs, gd_nI, nI_clamp, h4.1, hy, if_true, nI_1, wrong_ok hs, bd_some]
      | succ k ih =>
        intro i M h1 h2 h3
        cases M with
        | zero => omega
        | succ M =>
          have h4 : ¬ m ≤ i := by omega
          have h5 := hl i (by omega)
          have h6 : ¬ J 16 i = v := by
            have := fa_first_no (fun i => decide (J 16 i = v)) m i (by omega)
            simpa using this
          have h7 := ih (i + 1) M (by omega) (by omega) (by omega)
          show BX12_readListens_20 _ _ _ _ _ _ (lp _ M) _ = _
          simp (disch := omega) only [BX12_readListens_20, un4, un3, jn, nI_leI, h4, if_false, hs, gd_nI, nI_clamp, h5.1, nI_eq, h6, nI_1]
          rw [h7]
          congr 1
          omega
    rw [key e 0 N (by omega) (by omega) (by omega)]
    have key2 : ∀ (k i M : Nat), i + k = m → k < M → lp (BX12_readListens_20 (nI m) rl (nI v) N pl K) M (nI i, 5, 3, pl) = K (5, 3, pl) := by
      intro k i M h1 h2
      refine lp_to (fun i => (nI i, 5, 3, pl)) m (fun rec => ?_) k i M h1 h2 (fun i h1 h2 rec => ?_)
      · simp (disch := omega) only [BX12_readListens_20, un4, nI_leI, Nat.le_refl, if_true]
      · have h3 : ¬ m ≤ i := by omega
        simp (disch := omega) only [BX12_readListens_20, un4, un3, jn, nI_leI, h3, if_false, if_true, nI_1]
    exact key2 (m - (e + 1)) (e + 1) _ (by omega) (by omega)
  · rw [if_neg c]
    refine lp_for (fun i => (nI i, s, fl, wa)) m N (by omega) (fun i h2 rec => ?_) (fun rec => ?_)
    · have h4 : ¬ m ≤ i := by omega
      have h5 := hl i (by omega)
      have h6 : ¬ J 16 i = v := by
        have := fa_first_no (fun i => decide (J 16 i = v)) m i (by omega)
        simpa using this
      simp (disch := omega) only [BX12_readListens_20, un4, un3, jn, nI_leI, h4, if_false, hs, gd_nI, nI_clamp, h5.1, nI_eq, h6, nI_1]
    · simp (disch := omega) only [BX12_readListens_20, un4, nI_leI, Nat.le_refl, if_true]
theorem isListening_ok {N m v : Nat} {J : Tb} {rl : Nat → Int32} (hN : 64 < N) (hm : m ≤ 3) (hv : v < 8) (hl : ∀ i, i < m → rl i = nI (J 16 i) ∧ J 16 i < 8) : fX2_isListening N (nI v) (nI m) rl = some (if fa_first (fun i => decide (J 16 i = v)) m < m then 1 else 0) := by
  unfold fX2_isListening
  have key := lp_find (B := BX2_isListening_2 (nI m) rl (nI v)) (p := fun i => decide (J 16 i = v)) (D := m) (N := N) (e := some 0) (f := fun i => some 1) (by omega) (fun i hi rec => ?_) (fun rec => ?_)
  · refine Eq.trans key ?_
    split <;> rfl
  · have h3 : ¬ m ≤ i := by omega
    have h5 := hl i hi
    simp (disch := omega) only [BX2_isListening_2, un1, nI_leI, h3, if_false, gd_nI, nI_clamp, h5.1, nI_eq, nI_1]
    by_cases c : J 16 i = v
    · rw [if_pos c, if_pos (decide_eq_true c)]
    · rw [if_neg c, if_neg (fun q => c (of_decide_eq_true q))]
  · simp (disch := omega) only [BX2_isListening_2, un1, nI_leI, Nat.le_refl, if_true]
theorem l_listens {N n p k : Nat} {J : Tb} {b : Nat → Int32} {c : CTok} {r : RTok} {named : Int32} {names : Nat → Int64} {sorts numbers : Nat → Int32} {rnames : Int32} {rname : Nat → Int64} {rsort rnum : Nat → Int32} (hX : TX N n b) (h : TK n p c r) (hw : isW c 6 = true) (hi : ib J) (hk : k = J 0 0 + J 0 2 + J 0 3 + J 0 4) (hM : NM (cbJ J) k named names sorts numbers rnames rname rsort rnum) (cf nu fl wa : Int32) (listensIn rlistens : Nat → Int32) (H6 : ∀ i, i < J 0 5 → listensIn i = nI (J 16 i)) (G6 : ∀ i, i < J 0 5 → rlistens i = nI (J 16 i)) :
    (∃ p' c' r' v, p < p' ∧ TK n p' c' r' ∧ v < J 0 0 ∧ J 0 5 < 3 ∧ fX6_readListener N named cf nu (nI (J 0 5)) (nI n) c.1 c.2.1 c.2.2.1 c.2.2.2.1 c.2.2.2.2.1 c.2.2.2.2.2 b names sorts numbers listensIn = some (1, cf, nI v, nI (J 0 5 + 1), c'.1, c'.2.1, c'.2.2.1, c'.2.2.2.1, c'.2.2.2.2.1, c'.2.2.2.2.2, upd listensIn (J 0 5) (nI v)) ∧ fX12_readListens N (nI n) r.1 r.2.1 r.2.2.1 r.2.2.2.1 r.2.2.2.2.1 fl wa r.2.2.2.2.2 (nI (J 0 5)) rnames b rname rnum rsort rlistens = some (r'.1, r'.2.1, r'.2.2.1, r'.2.2.2.1, r'.2.2.2.2.1, fl, wa, r'.2.2.2.2.2, nI (J 0 5 + 1), upd rlistens (J 0 5) (nI v))) ∨
    (∃ (f : Int32) (p' : Nat) (c' : CTok), ∃ nu' a' l' g' m' w', FT f ∧ c'.2.1 = nI p' ∧ fX6_readListener N named cf nu (nI (J 0 5)) (nI n) c.1 c.2.1 c.2.2.1 c.2.2.2.1 c.2.2.2.2.1 c.2.2.2.2.2 b names sorts numbers listensIn = some (0, f, nu', nI (J 0 5), c'.1, c'.2.1, c'.2.2.1, c'.2.2.2.1, c'.2.2.2.2.1, c'.2.2.2.2.2, listensIn) ∧ fX12_readListens N (nI n) r.1 r.2.1 r.2.2.1 r.2.2.2.1 r.2.2.2.2.1 fl wa r.2.2.2.2.2 (nI (J 0 5)) rnames b rname rnum rsort rlistens = some (a', 5, l', g', m', f, nI p', w', nI (J 0 5), rlistens)) := by
  have hR := hi.R
  have hT := hi.T
  have hE := hi.E
  have hS := hi.S
  have hL := hi.L
  have hN : 64 < N := by have := hX.1; omega
  have hs := h.rs
  have i00 : (0 : Int32) = nI 0 := rfl
  have HL : ∀ i, i < J 0 5 → listensIn i = nI (J 16 i) ∧ J 16 i < 8 := fun i hi2 => ⟨H6 i hi2, by have := hi.listens hi2; omega⟩
  have GL : ∀ i, i < J 0 5 → rlistens i = nI (J 16 i) ∧ J 16 i < 8 := fun i hi2 => ⟨G6 i hi2, by have := hi.listens hi2; omega⟩
  obtain ⟨p1, c1, r1, a1, t1, e1, g1⟩ := h.adv hX (isW_kind hw).1 (isW_kind hw).2
  unfold fX6_readListener fX12_readListens
  by_cases q : J 0 5 < 3
  · rw [if_pos (show nI (J 0 5) < 3 from (nI_ltI (b := 3) (by omega) (by omega)).mpr q), e1, begins_go h (m' := 3) (m := 3) rfl (by omega) (by omega) (by omega) fl wa g1, bd_some, bd_some]
    dsimp only [un0, un1, un2, un3, un4, un5, un6, un7, un8, un9, un10, un11, un12, un13, un14, un15, un16, un17, un18, un32, un33, un35, un36]
    rcases lookUp_ok hX t1 (by omega) hM (s' := 0) (s := 0) rfl (by omega) cf nu fl wa with ⟨v, v1, k3, e4, g4⟩ | ⟨f, nu', f1, e4, g4⟩
    · have v2 : v < J 0 0 := v1
      rw [e4, g4, bd_some, bd_some]
      dsimp only [un0, un1, un2, un3, un4, un5, un6, un7, un8, un9, un10, un11, un12, un13, un14, un15, un16, un17, un18, un32, un33, un35, un36]
      rw [if_neg (show ¬ (1 : Int32) = 0 by decide), isListening_ok hN hL (by omega) HL, bd_some]
      dsimp only [un0, un1, un2, un3, un4, un5, un6, un7, un8, un9, un10, un11, un12, un13, un14, un15, un16, un17, un18, un32, un33, un35, un36]
      rw [i00, lis_ok (J := J) _ hN hL t1.rs (by omega) GL]
      by_cases cl : fa_first (fun i => decide (J 16 i = v)) (J 0 5) < J 0 5
      · rw [if_pos cl, if_pos cl, if_neg (show ¬ (1 : Int32) = nI 0 by decide)]
        dsimp only [un0, un1, un2, un3, un4, un5, un6, un7, un8, un9, un10, un11, un12, un13, un14, un15, un16, un17, un18, un32, un33, un35, un36]
        rw [ov_goesOn, bd_some]
        dsimp only [un0, un1, un2, un3, un4, un5, un6, un7, un8, un9, un10, un11, un12, un13, un14, un15, un16, un17, un18, un32, un33, un35, un36]
        rw [if_pos (show (5 : Int32) = 5 from rfl)]
        exact Or.inr ⟨3, p1, c1, nI v, _, _, _, _, _, FT3, t1.2.1, rfl, by rw [t1.pl]⟩
      · obtain ⟨p2, c2, r2, a2, t2, e5, g5⟩ := t1.adv hX (by rw [k3]; decide) (by rw [k3]; decide)
        rw [if_neg cl, if_neg cl, if_pos (show nI 0 = nI 0 from rfl), e5, bd_some]
        dsimp only [un0, un1, un2, un3, un4, un5, un6, un7, un8, un9, un10, un11, un12, un13, un14, un15, un16, un17, un18, un32, un33, un35, un36]
        rw [g5, bd_some]
        dsimp only [un0, un1, un2, un3, un4, un5, un6, un7, un8, un9, un10, un11, un12, un13, un14, un15, un16, un17, un18, un32, un33, un35, un36]
        unfold fX2_addListener
        rw [if_neg t2.rs]
        simp (disch := omega) only [gd_nI, nI_clamp, nI_1, bd_some, un2]
        exact Or.inl ⟨p2, c2, r2, v, by omega, t2, v2, q, rfl, rfl⟩
    · rw [e4, g4, bd_some, bd_some]
      dsimp only [un0, un1, un2, un3, un4, un5, un6, un7, un8, un9, un10, un11, un12, un13, un14, un15, un16, un17, un18, un32, un33, un35, un36]
      rw [if_pos (show (0 : Int32) = 0 from rfl), i00, lis_ov _ hN hL 0 (by omega)]
      dsimp only [un0, un1, un2, un3, un4, un5, un6, un7, un8, un9, un10, un11, un12, un13, un14, un15, un16, un17, un18, un32, un33, un35, un36]
      rw [ov_goesOn, bd_some]
      dsimp only [un0, un1, un2, un3, un4, un5, un6, un7, un8, un9, un10, un11, un12, un13, un14, un15, un16, un17, un18, un32, un33, un35, un36]
      rw [if_pos (show (5 : Int32) = 5 from rfl)]
      exact Or.inr ⟨f, p1, c1, nu', _, _, _, _, _, f1, t1.2.1, rfl, rfl⟩
  · rw [if_neg (show ¬ nI (J 0 5) < 3 from fun e => q ((nI_ltI (b := 3) (by omega) (by omega)).mp e)), begins_full h (m' := 3) (m := 3) rfl (by omega) fl wa, bd_some]
    dsimp only [un0, un1, un2, un3, un4, un5, un6, un7, un8, un9, un10, un11, un12, un13, un14, un15, un16, un17, un18, un32, un33, un35, un36]
    rw [ov_known hN (by omega) hM, bd_some]
    dsimp only [un0, un1, un2, un3, un4, un5, un6, un7, un8, un9, un10, un11, un12, un13, un14, un15, un16, un17, un18, un32, un33, un35, un36]
    rw [i00, lis_ov _ hN hL 0 (by omega)]
    dsimp only [un0, un1, un2, un3, un4, un5, un6, un7, un8, un9, un10, un11, un12, un13, un14, un15, un16, un17, un18, un32, un33, un35, un36]
    rw [ov_goesOn, bd_some]
    dsimp only [un0, un1, un2, un3, un4, un5, un6, un7, un8, un9, un10, un11, un12, un13, un14, un15, un16, un17, un18, un32, un33, un35, un36]
    rw [if_pos (show (5 : Int32) = 5 from rfl)]
    exact Or.inr ⟨5, p, c, nu, _, _, _, _, _, FT5, h.2.1, rfl, rfl⟩
