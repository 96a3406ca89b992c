/-! the law's switch and its loop -/
theorem dL_law_23 : decode code 23 = .ok (.iload 4, 2) := by decide +kernel
theorem dL_law_25 : decode code 25 = .ok (.aload_n 0, 1) := by decide +kernel
theorem dL_law_26 : decode code 26 = .ok (.arraylength, 1) := by decide +kernel
theorem dL_law_27 : decode code 27 = .ok (.bipush 6, 2) := by decide +kernel
theorem dL_law_29 : decode code 29 = .ok (.isub, 1) := by decide +kernel
theorem dL_law_30 : decode code 30 = .ok (.if_icmp .gt 1426, 3) := by decide +kernel
theorem dL_law_33 : decode code 33 = .ok (.aload_n 0, 1) := by decide +kernel
theorem dL_law_34 : decode code 34 = .ok (.iload 4, 2) := by decide +kernel
theorem dL_law_36 : decode code 36 = .ok (.iaload, 1) := by decide +kernel
theorem dL_law_37 : decode code 37 = .ok (.bipush 63, 2) := by decide +kernel
theorem dL_law_39 : decode code 39 = .ok (.iand, 1) := by decide +kernel
theorem dL_law_40 : decode code 40 = .ok (.tableswitch 1410 0 38 #[172, 245, 270, 283, 296, 333, 370, 407, 456, 481, 518, 543, 556, 593, 630, 667, 704, 729, 778, 791, 816, 893, 942, 991, 1004, 1029, 1078, 1103, 1116, 1141, 1154, 1191, 1228, 1241, 1266, 1291, 1316, 1372, 1397], 172) := by decide +kernel
theorem dL_law_1450 : decode code 1450 = .ok (.iinc 4 6, 3) := by decide +kernel
theorem dL_law_1453 : decode code 1453 = .ok (.goto (-1430), 3) := by decide +kernel
theorem dL_law_1456 : decode code 1456 = .ok (.iconst 1, 1) := by decide +kernel
theorem dL_law_1457 : decode code 1457 = .ok (.ireturn, 1) := by decide +kernel
set_option maxHeartbeats 8000000 in
set_option maxRecDepth 100000 in
theorem law_sw1 {p : Program} {l : Launch} {e : Env} {s : State} {m : MethodId} {args : Array Value} {below : List Frame} {meth : Method} {c : Code} {A : Nat → Prop} {Q : State → Prop} {cells slots : Nat} {E : EN} {b L : Nat} {xs : Nat → Int32} (hl9 : l.stackTraces = false) (C : CX p s m args meth c code RL 7 E A) (hTh : THR A s s.heap) (hX : va_X b L xs s s.heap) (hbl : b < s.heap.size) (hbA : ¬ A b) (hcl : cells + 20 ≤ room_1.cells ∧ slots + 237 ≤ room_1.slots) {x4 : Int32} (hi1 : vp_in (x4 + 1) L) (hi2 : vp_in (x4 + 2) L) (hi3 : vp_in (x4 + 3) L) (hi4 : vp_in (x4 + 4) L) (hi5 : vp_in (x4 + 5) L) {xa ma oa : Nat} (k : Int32) {w : va_W} (hw : P1 E xa ma oa w) (hk : ∀ cells' slots' w', cells' ≤ cells + 20 → slots' ≤ slots + 237 → PS E xa ma oa w' → AT p l e room_1 s m args below meth c E A Q cells' slots' 7 [(0, .ref b), (1, .ref xa), (2, .ref ma), (3, .ref oa), (4, .int x4)] w' 1450 []) : AT p l e room_1 s m args below meth c E A Q cells slots 7 [(0, .ref b), (1, .ref xa), (2, .ref ma), (3, .ref oa), (4, .int x4)] w 40 [.int k] := by
  have hcl0 : cells ≤ room_1.cells ∧ slots ≤ room_1.slots := ⟨Nat.le_trans (Nat.le_add_right _ _) hcl.1, Nat.le_trans (Nat.le_add_right _ _) hcl.2⟩
  have hcl1 : cells + 1 ≤ room_1.cells ∧ slots + 6 ≤ room_1.slots := ⟨Nat.le_trans (Nat.add_le_add_left (by decide) _) hcl.1, Nat.le_trans (Nat.add_le_add_left (by decide) _) hcl.2⟩
  have hx := C.1
  have hb := C.2.1
  have hk0 : ∀ w, PS E xa ma oa w → AT p l e room_1 s m args below meth c E A Q cells slots 7 [(0, .ref b), (1, .ref xa), (2, .ref ma), (3, .ref oa), (4, .int x4)] w 1450 [] := fun w h => hk cells slots w (Nat.le_add_right _ _) (Nat.le_add_right _ _) h
  have hk1 : ∀ w, PS E xa ma oa w → AT p l e room_1 s m args below meth c E A Q (cells + 20) (slots + 237) 7 [(0, .ref b), (1, .ref xa), (2, .ref ma), (3, .ref oa), (4, .int x4)] w 1450 [] := fun w h => hk (cells + 20) (slots + 237) w (Nat.le_refl _) (Nat.le_refl _) h
  have hk2 : ∀ w, PS E xa ma oa w → AT p l e room_1 s m args below meth c E A Q (cells + 1) (slots + 6) 7 [(0, .ref b), (1, .ref xa), (2, .ref ma), (3, .ref oa), (4, .int x4)] w 1450 [] := fun w h => hk (cells + 1) (slots + 6) w (Nat.add_le_add_left (by decide) _) (Nat.add_le_add_left (by decide) _) h
  refine hw (fun w => AT p l e room_1 s m args below meth c E A Q cells slots 7 [(0, .ref b), (1, .ref xa), (2, .ref ma), (3, .ref oa), (4, .int x4)] w 40 [.int k]) (fun _ _ _ _ _ _ _ _ _ _ _ _ _ _ _ _ _ _ _ _ _ _ _ _ _ _ _ _ _ _ _ _ _ _ _ _ _ _ _ _ _ _ _ _ _ _ _ _ _ _ _ _ _ _ _ _ _ _ _ _ _ _ _ _ _ _ _ _ _ _ _ _ _ _ _ _ _ _ _ _ _ _ _ _ _ _ _ _ _ _ _ _ _ _ _ _ _ _ _ _ _ _ _ _ _ _ _ _ _ _ _ _ _ _ _ _ _ _ _ _ _ _ _ _ _ _ _ _ _ _ _ _ _ _ _ _ _ _ _ _ _ _ _ _ _ _ _ _ _ _ _ _ _ _ _ _ _ _ _ _ _ _ _ _ _ _ _ _ _ _ _ _ _ _ _ _ _ _ _ _ _ _ _ _ _ _ _ _ _ _ _ _ _ _ _ _ _ _ _ _ _ _ _ _ _ _ _ _ _ _ _ _ _ _ _ _ _ _ _ _ _ _ _ _ _ _ _ _ _ _ _ _ _ _ _ _ _ _ _ _ _ _ _ _ _ _ _ _ _ _ _ _ _ _ _ _ _ _ _ _ _ _ _ _ _ _ _ _ _ _ _ _ _ _ _ _ _ _ _ _ _ _ _ _ _ _ _ _ _ _ _ _ _ _ _ _ _ _ _ _ _ _ _ _ _ _ _ _ _ _ _ _ _ _ _ _ _ _ _ _ _ _ _ _ _ _ _ _ _ _ _ _ _ _ _ _ _ _ _ _ _ _ _ _ _ _ _ _ _ _ _ _ _ _ _ _ _ _ _ _ _ _ _ _ _ hrel => ?_)
  intro H locs ls hl hP hD hS
  by_cases c0 : k = 0
  · refine lv_tableIn (pc := 40) (off := 172) (tgt := 212) hx hb dL_law_40 (by rw [c0]; decide) (by rw [c0]; decide) (by rw [c0]; rfl) (by decide) ?_
    exact sL1_0 C hX hbl hbA hcl0 hi1 hi2 hi3 hi4 hi5 hrel hk0 H locs ls hl hP hD hS
  by_cases c1 : k = 1
  · refine lv_tableIn (pc := 40) (off := 245) (tgt := 285) hx hb dL_law_40 (by rw [c1]; decide) (by rw [c1]; decide) (by rw [c1]; rfl) (by decide) ?_
    exact sL1_1 C hX hbl hbA hcl hi1 hrel hk0 hk1 H locs ls hl hP hD hS
  by_cases c2 : k = 2
  · refine lv_tableIn (pc := 40) (off := 270) (tgt := 310) hx hb dL_law_40 (by rw [c2]; decide) (by rw [c2]; decide) (by rw [c2]; rfl) (by decide) ?_
    exact sL1_2 C hX hbl hbA hcl0 hi1 hi2 hi3 hi4 hi5 hrel hk0 H locs ls hl hP hD hS
  by_cases c3 : k = 3
  · refine lv_tableIn (pc := 40) (off := 283) (tgt := 323) hx hb dL_law_40 (by rw [c3]; decide) (by rw [c3]; decide) (by rw [c3]; rfl) (by decide) ?_
    exact sL1_3 C hX hbl hbA hcl0 hi1 hi2 hi3 hi4 hi5 hrel hk0 H locs ls hl hP hD hS
  by_cases c4 : k = 4
  · refine lv_tableIn (pc := 40) (off := 296) (tgt := 336) hx hb dL_law_40 (by rw [c4]; decide) (by rw [c4]; decide) (by rw [c4]; rfl) (by decide) ?_
    exact sL1_4 C hX hbl hbA hcl0 hi1 hi2 hi3 hi4 hi5 hrel hk0 H locs ls hl hP hD hS
  by_cases c5 : k = 5
  · refine lv_tableIn (pc := 40) (off := 333) (tgt := 373) hx hb dL_law_40 (by rw [c5]; decide) (by rw [c5]; decide) (by rw [c5]; rfl) (by decide) ?_
    exact sL1_5 C hX hbl hbA hcl0 hi1 hi2 hi3 hi4 hi5 hrel hk0 H locs ls hl hP hD hS
  by_cases c6 : k = 6
  · refine lv_tableIn (pc := 40) (off := 370) (tgt := 410) hx hb dL_law_40 (by rw [c6]; decide) (by rw [c6]; decide) (by rw [c6]; rfl) (by decide) ?_
    exact sL1_6 C hX hbl hbA hcl0 hi1 hi2 hi3 hi4 hi5 hrel hk0 H locs ls hl hP hD hS
  by_cases c7 : k = 7
  · refine lv_tableIn (pc := 40) (off := 407) (tgt := 447) hx hb dL_law_40 (by rw [c7]; decide) (by rw [c7]; decide) (by rw [c7]; rfl) (by decide) ?_
    exact sL1_7 C hX hbl hbA hcl0 hi1 hi2 hi3 hi4 hi5 hrel hk0 H locs ls hl hP hD hS
  by_cases c8 : k = 8
  · refine lv_tableIn (pc := 40) (off := 456) (tgt := 496) hx hb dL_law_40 (by rw [c8]; decide) (by rw [c8]; decide) (by rw [c8]; rfl) (by decide) ?_
    exact sL1_8 C hX hbl hbA hcl0 hi1 hi2 hi3 hi4 hi5 hrel hk0 H locs ls hl hP hD hS
  by_cases c9 : k = 9
  · refine lv_tableIn (pc := 40) (off := 481) (tgt := 521) hx hb dL_law_40 (by rw [c9]; decide) (by rw [c9]; decide) (by rw [c9]; rfl) (by decide) ?_
    exact sL1_9 C hX hbl hbA hcl0 hi1 hi2 hi3 hi4 hi5 hrel hk0 H locs ls hl hP hD hS
  by_cases c10 : k = 10
  · refine lv_tableIn (pc := 40) (off := 518) (tgt := 558) hx hb dL_law_40 (by rw [c10]; decide) (by rw [c10]; decide) (by rw [c10]; rfl) (by decide) ?_
    exact sL1_10 C hX hbl hbA hcl0 hi1 hi2 hi3 hi4 hi5 hrel hk0 H locs ls hl hP hD hS
  by_cases c11 : k = 11
  · refine lv_tableIn (pc := 40) (off := 543) (tgt := 583) hx hb dL_law_40 (by rw [c11]; decide) (by rw [c11]; decide) (by rw [c11]; rfl) (by decide) ?_
    exact sL1_11 C hX hbl hbA hcl0 hi1 hi2 hi3 hi4 hi5 hrel hk0 H locs ls hl hP hD hS
  by_cases c12 : k = 12
  · refine lv_tableIn (pc := 40) (off := 556) (tgt := 596) hx hb dL_law_40 (by rw [c12]; decide) (by rw [c12]; decide) (by rw [c12]; rfl) (by decide) ?_
    exact sL1_12 C hX hbl hbA hcl0 hi1 hi2 hi3 hi4 hi5 hrel hk0 H locs ls hl hP hD hS
  by_cases c13 : k = 13
  · refine lv_tableIn (pc := 40) (off := 593) (tgt := 633) hx hb dL_law_40 (by rw [c13]; decide) (by rw [c13]; decide) (by rw [c13]; rfl) (by decide) ?_
    exact sL1_13 C hX hbl hbA hcl0 hi1 hi2 hi3 hi4 hi5 hrel hk0 H locs ls hl hP hD hS
  by_cases c14 : k = 14
  · refine lv_tableIn (pc := 40) (off := 630) (tgt := 670) hx hb dL_law_40 (by rw [c14]; decide) (by rw [c14]; decide) (by rw [c14]; rfl) (by decide) ?_
    exact sL1_14 C hX hbl hbA hcl0 hi1 hi2 hi3 hi4 hi5 hrel hk0 H locs ls hl hP hD hS
  by_cases c15 : k = 15
  · refine lv_tableIn (pc := 40) (off := 667) (tgt := 707) hx hb dL_law_40 (by rw [c15]; decide) (by rw [c15]; decide) (by rw [c15]; rfl) (by decide) ?_
    exact sL1_15 C hX hbl hbA hcl0 hi1 hi2 hi3 hi4 hi5 hrel hk0 H locs ls hl hP hD hS
  by_cases c16 : k = 16
  · refine lv_tableIn (pc := 40) (off := 704) (tgt := 744) hx hb dL_law_40 (by rw [c16]; decide) (by rw [c16]; decide) (by rw [c16]; rfl) (by decide) ?_
    exact sL1_16 C hX hbl hbA hcl0 hi1 hi2 hi3 hi4 hi5 hrel hk0 H locs ls hl hP hD hS
  by_cases c17 : k = 17
  · refine lv_tableIn (pc := 40) (off := 729) (tgt := 769) hx hb dL_law_40 (by rw [c17]; decide) (by rw [c17]; decide) (by rw [c17]; rfl) (by decide) ?_
    exact sL1_17 C hX hbl hbA hcl0 hi1 hi2 hi3 hi4 hi5 hrel hk0 H locs ls hl hP hD hS
  by_cases c18 : k = 18
  · refine lv_tableIn (pc := 40) (off := 778) (tgt := 818) hx hb dL_law_40 (by rw [c18]; decide) (by rw [c18]; decide) (by rw [c18]; rfl) (by decide) ?_
    exact sL1_18 C hX hbl hbA hcl0 hi1 hi2 hi3 hi4 hi5 hrel hk0 H locs ls hl hP hD hS
  by_cases c19 : k = 19
  · refine lv_tableIn (pc := 40) (off := 791) (tgt := 831) hx hb dL_law_40 (by rw [c19]; decide) (by rw [c19]; decide) (by rw [c19]; rfl) (by decide) ?_
    exact sL1_19 C hX hbl hbA hcl0 hi1 hi2 hi3 hi4 hi5 hrel hk0 H locs ls hl hP hD hS
  by_cases c20 : k = 20
  · refine lv_tableIn (pc := 40) (off := 816) (tgt := 856) hx hb dL_law_40 (by rw [c20]; decide) (by rw [c20]; decide) (by rw [c20]; rfl) (by decide) ?_
    exact sL1_20 C hX hbl hbA hcl0 hi1 hi2 hi3 hi4 hi5 hrel hk0 H locs ls hl hP hD hS
  by_cases c21 : k = 21
  · refine lv_tableIn (pc := 40) (off := 893) (tgt := 933) hx hb dL_law_40 (by rw [c21]; decide) (by rw [c21]; decide) (by rw [c21]; rfl) (by decide) ?_
    exact sL1_21 C hX hbl hbA hcl0 hi1 hi2 hi3 hi4 hi5 hrel hk0 H locs ls hl hP hD hS
  by_cases c22 : k = 22
  · refine lv_tableIn (pc := 40) (off := 942) (tgt := 982) hx hb dL_law_40 (by rw [c22]; decide) (by rw [c22]; decide) (by rw [c22]; rfl) (by decide) ?_
    exact sL1_22 C hX hbl hbA hcl0 hi1 hi2 hi3 hi4 hi5 hrel hk0 H locs ls hl hP hD hS
  by_cases c23 : k = 23
  · refine lv_tableIn (pc := 40) (off := 991) (tgt := 1031) hx hb dL_law_40 (by rw [c23]; decide) (by rw [c23]; decide) (by rw [c23]; rfl) (by decide) ?_
    exact sL1_23 C hX hbl hbA hcl0 hi1 hi2 hi3 hi4 hi5 hrel hk0 H locs ls hl hP hD hS
  by_cases c24 : k = 24
  · refine lv_tableIn (pc := 40) (off := 1004) (tgt := 1044) hx hb dL_law_40 (by rw [c24]; decide) (by rw [c24]; decide) (by rw [c24]; rfl) (by decide) ?_
    exact sL1_24 C hX hbl hbA hcl0 hi1 hi2 hi3 hi4 hi5 hrel hk0 H locs ls hl hP hD hS
  by_cases c25 : k = 25
  · refine lv_tableIn (pc := 40) (off := 1029) (tgt := 1069) hx hb dL_law_40 (by rw [c25]; decide) (by rw [c25]; decide) (by rw [c25]; rfl) (by decide) ?_
    exact sL1_25 C hX hbl hbA hcl0 hi1 hi2 hi3 hi4 hi5 hrel hk0 H locs ls hl hP hD hS
  by_cases c26 : k = 26
  · refine lv_tableIn (pc := 40) (off := 1078) (tgt := 1118) hx hb dL_law_40 (by rw [c26]; decide) (by rw [c26]; decide) (by rw [c26]; rfl) (by decide) ?_
    exact sL1_26 C hX hbl hbA hcl0 hi1 hi2 hi3 hi4 hi5 hrel hk0 H locs ls hl hP hD hS
  by_cases c27 : k = 27
  · refine lv_tableIn (pc := 40) (off := 1103) (tgt := 1143) hx hb dL_law_40 (by rw [c27]; decide) (by rw [c27]; decide) (by rw [c27]; rfl) (by decide) ?_
    exact sL1_27 C hX hbl hbA hcl0 hi1 hi2 hi3 hi4 hi5 hrel hk0 H locs ls hl hP hD hS
  by_cases c28 : k = 28
  · refine lv_tableIn (pc := 40) (off := 1116) (tgt := 1156) hx hb dL_law_40 (by rw [c28]; decide) (by rw [c28]; decide) (by rw [c28]; rfl) (by decide) ?_
    exact sL1_28 C hX hbl hbA hcl0 hi1 hi2 hi3 hi4 hi5 hrel hk0 H locs ls hl hP hD hS
  by_cases c29 : k = 29
  · refine lv_tableIn (pc := 40) (off := 1141) (tgt := 1181) hx hb dL_law_40 (by rw [c29]; decide) (by rw [c29]; decide) (by rw [c29]; rfl) (by decide) ?_
    exact sL1_29 C hX hbl hbA hcl0 hi1 hi2 hi3 hi4 hi5 hrel hk0 H locs ls hl hP hD hS
  by_cases c30 : k = 30
  · refine lv_tableIn (pc := 40) (off := 1154) (tgt := 1194) hx hb dL_law_40 (by rw [c30]; decide) (by rw [c30]; decide) (by rw [c30]; rfl) (by decide) ?_
    exact sL1_30 C hX hbl hbA hcl0 hi1 hi2 hi3 hi4 hi5 hrel hk0 H locs ls hl hP hD hS
  by_cases c31 : k = 31
  · refine lv_tableIn (pc := 40) (off := 1191) (tgt := 1231) hx hb dL_law_40 (by rw [c31]; decide) (by rw [c31]; decide) (by rw [c31]; rfl) (by decide) ?_
    exact sL1_31 C hX hbl hbA hcl0 hi1 hi2 hi3 hi4 hi5 hrel hk0 H locs ls hl hP hD hS
  by_cases c32 : k = 32
  · refine lv_tableIn (pc := 40) (off := 1228) (tgt := 1268) hx hb dL_law_40 (by rw [c32]; decide) (by rw [c32]; decide) (by rw [c32]; rfl) (by decide) ?_
    exact sL1_32 C hX hbl hbA hcl0 hi1 hi2 hi3 hi4 hi5 hrel hk0 H locs ls hl hP hD hS
  by_cases c33 : k = 33
  · refine lv_tableIn (pc := 40) (off := 1241) (tgt := 1281) hx hb dL_law_40 (by rw [c33]; decide) (by rw [c33]; decide) (by rw [c33]; rfl) (by decide) ?_
    exact sL1_33 C hX hbl hbA hcl0 hi1 hi2 hi3 hi4 hi5 hrel hk0 H locs ls hl hP hD hS
  by_cases c34 : k = 34
  · refine lv_tableIn (pc := 40) (off := 1266) (tgt := 1306) hx hb dL_law_40 (by rw [c34]; decide) (by rw [c34]; decide) (by rw [c34]; rfl) (by decide) ?_
    exact sL1_34 C hX hbl hbA hcl0 hi1 hi2 hi3 hi4 hi5 hrel hk0 H locs ls hl hP hD hS
  by_cases c35 : k = 35
  · refine lv_tableIn (pc := 40) (off := 1291) (tgt := 1331) hx hb dL_law_40 (by rw [c35]; decide) (by rw [c35]; decide) (by rw [c35]; rfl) (by decide) ?_
    exact sL1_35 C hX hbl hbA hcl0 hi1 hi2 hi3 hi4 hi5 hrel hk0 H locs ls hl hP hD hS
  by_cases c36 : k = 36
  · refine lv_tableIn (pc := 40) (off := 1316) (tgt := 1356) hx hb dL_law_40 (by rw [c36]; decide) (by rw [c36]; decide) (by rw [c36]; rfl) (by decide) ?_
    exact sL1_36 hl9 C hTh hX hbl hbA hcl1 hi1 hrel hk0 hk2 H locs ls hl hP hD hS
  by_cases c37 : k = 37
  · refine lv_tableIn (pc := 40) (off := 1372) (tgt := 1412) hx hb dL_law_40 (by rw [c37]; decide) (by rw [c37]; decide) (by rw [c37]; rfl) (by decide) ?_
    exact sL1_37 C hX hbl hbA hcl0 hi1 hi2 hi3 hi4 hi5 hrel hk0 H locs ls hl hP hD hS
  by_cases c38 : k = 38
  · refine lv_tableIn (pc := 40) (off := 1397) (tgt := 1437) hx hb dL_law_40 (by rw [c38]; decide) (by rw [c38]; decide) (by rw [c38]; rfl) (by decide) ?_
    exact sL1_38 C hX hbl hbA hcl0 hi1 hi2 hi3 hi4 hi5 hrel hk0 H locs ls hl hP hD hS
  refine lv_tableOut (pc := 40) (tgt := 1450) hx hb dL_law_40 (by have g0 := lv_neT (a := 0) c0 (by decide); have g1 := lv_neT (a := 1) c1 (by decide); have g2 := lv_neT (a := 2) c2 (by decide); have g3 := lv_neT (a := 3) c3 (by decide); have g4 := lv_neT (a := 4) c4 (by decide); have g5 := lv_neT (a := 5) c5 (by decide); have g6 := lv_neT (a := 6) c6 (by decide); have g7 := lv_neT (a := 7) c7 (by decide); have g8 := lv_neT (a := 8) c8 (by decide); have g9 := lv_neT (a := 9) c9 (by decide); have g10 := lv_neT (a := 10) c10 (by decide); have g11 := lv_neT (a := 11) c11 (by decide); have g12 := lv_neT (a := 12) c12 (by decide); have g13 := lv_neT (a := 13) c13 (by decide); have g14 := lv_neT (a := 14) c14 (by decide); have g15 := lv_neT (a := 15) c15 (by decide); have g16 := lv_neT (a := 16) c16 (by decide); have g17 := lv_neT (a := 17) c17 (by decide); have g18 := lv_neT (a := 18) c18 (by decide); have g19 := lv_neT (a := 19) c19 (by decide); have g20 := lv_neT (a := 20) c20 (by decide); have g21 := lv_neT (a := 21) c21 (by decide); have g22 := lv_neT (a := 22) c22 (by decide); have g23 := lv_neT (a := 23) c23 (by decide); have g24 := lv_neT (a := 24) c24 (by decide); have g25 := lv_neT (a := 25) c25 (by decide); have g26 := lv_neT (a := 26) c26 (by decide); have g27 := lv_neT (a := 27) c27 (by decide); have g28 := lv_neT (a := 28) c28 (by decide); have g29 := lv_neT (a := 29) c29 (by decide); have g30 := lv_neT (a := 30) c30 (by decide); have g31 := lv_neT (a := 31) c31 (by decide); have g32 := lv_neT (a := 32) c32 (by decide); have g33 := lv_neT (a := 33) c33 (by decide); have g34 := lv_neT (a := 34) c34 (by decide); have g35 := lv_neT (a := 35) c35 (by decide); have g36 := lv_neT (a := 36) c36 (by decide); have g37 := lv_neT (a := 37) c37 (by decide); have g38 := lv_neT (a := 38) c38 (by decide); omega) (by decide) ?_
  exact hk0 _ (Or.inr (P1_mk hrel)) H locs ls hl hP hD hS
set_option maxHeartbeats 8000000 in
set_option maxRecDepth 100000 in
theorem law_sw0 {p : Program} {l : Launch} {e : Env} {s : State} {m : MethodId} {args : Array Value} {below : List Frame} {meth : Method} {c : Code} {A : Nat → Prop} {Q : State → Prop} {cells slots : Nat} {E : EN} {b L : Nat} {xs : Nat → Int32} (hl9 : l.stackTraces = false) (C : CX p s m args meth c code RL 7 E A) (hTh : THR A s s.heap) (hX : va_X b L xs s s.heap) (hbl : b < s.heap.size) (hbA : ¬ A b) (hcl : cells + 20 ≤ room_1.cells ∧ slots + 237 ≤ room_1.slots) {x4 : Int32} (hi1 : vp_in (x4 + 1) L) (hi2 : vp_in (x4 + 2) L) (hi3 : vp_in (x4 + 3) L) (hi4 : vp_in (x4 + 4) L) (hi5 : vp_in (x4 + 5) L) {xa ma oa : Nat} (k : Int32) {w : va_W} (hw : P0 E xa ma oa w) (hk : ∀ cells' slots' w', cells' ≤ cells + 20 → slots' ≤ slots + 237 → PS E xa ma oa w' → AT p l e room_1 s m args below meth c E A Q cells' slots' 7 [(0, .ref b), (1, .ref xa), (2, .ref ma), (3, .ref oa), (4, .int x4)] w' 1450 []) : AT p l e room_1 s m args below meth c E A Q cells slots 7 [(0, .ref b), (1, .ref xa), (2, .ref ma), (3, .ref oa), (4, .int x4)] w 40 [.int k] := by
  have hcl0 : cells ≤ room_1.cells ∧ slots ≤ room_1.slots := ⟨Nat.le_trans (Nat.le_add_right _ _) hcl.1, Nat.le_trans (Nat.le_add_right _ _) hcl.2⟩
  have hcl1 : cells + 1 ≤ room_1.cells ∧ slots + 6 ≤ room_1.slots := ⟨Nat.le_trans (Nat.add_le_add_left (by decide) _) hcl.1, Nat.le_trans (Nat.add_le_add_left (by decide) _) hcl.2⟩
  have hx := C.1
  have hb := C.2.1
  have hk0 : ∀ w, PS E xa ma oa w → AT p l e room_1 s m args below meth c E A Q cells slots 7 [(0, .ref b), (1, .ref xa), (2, .ref ma), (3, .ref oa), (4, .int x4)] w 1450 [] := fun w h => hk cells slots w (Nat.le_add_right _ _) (Nat.le_add_right _ _) h
  have hk1 : ∀ w, PS E xa ma oa w → AT p l e room_1 s m args below meth c E A Q (cells + 20) (slots + 237) 7 [(0, .ref b), (1, .ref xa), (2, .ref ma), (3, .ref oa), (4, .int x4)] w 1450 [] := fun w h => hk (cells + 20) (slots + 237) w (Nat.le_refl _) (Nat.le_refl _) h
  have hk2 : ∀ w, PS E xa ma oa w → AT p l e room_1 s m args below meth c E A Q (cells + 1) (slots + 6) 7 [(0, .ref b), (1, .ref xa), (2, .ref ma), (3, .ref oa), (4, .int x4)] w 1450 [] := fun w h => hk (cells + 1) (slots + 6) w (Nat.add_le_add_left (by decide) _) (Nat.add_le_add_left (by decide) _) h
  refine hw (fun w => AT p l e room_1 s m args below meth c E A Q cells slots 7 [(0, .ref b), (1, .ref xa), (2, .ref ma), (3, .ref oa), (4, .int x4)] w 40 [.int k]) (fun _ _ _ _ _ _ _ _ _ _ _ _ _ _ _ _ _ _ _ _ _ _ _ _ _ _ _ _ _ _ _ _ _ _ _ _ _ _ _ _ _ _ _ _ _ _ _ _ _ _ _ _ _ _ _ _ _ _ _ _ _ _ _ _ _ _ _ _ _ _ _ _ _ _ _ _ _ _ _ _ _ _ _ _ _ _ _ _ _ _ _ _ _ _ _ _ _ _ _ _ _ _ _ _ _ _ _ _ _ _ _ _ _ _ _ _ _ _ _ _ _ _ _ _ _ _ _ _ _ _ _ _ _ _ _ _ _ _ _ _ _ _ _ _ _ _ _ _ _ _ _ _ _ _ _ _ _ _ _ _ _ _ _ _ _ _ _ _ _ _ _ _ _ _ _ _ _ _ _ _ _ _ _ _ _ _ _ _ _ _ _ _ _ _ _ _ _ _ _ _ _ _ _ _ _ _ _ _ _ _ _ _ _ _ _ _ _ _ _ _ _ _ _ _ _ _ _ _ _ _ _ _ _ _ _ _ _ _ _ _ _ _ _ _ _ _ _ _ _ _ _ _ _ _ _ _ _ _ _ _ _ _ _ _ _ _ _ _ _ _ _ _ _ _ _ _ _ _ _ _ _ _ _ _ _ _ _ _ _ _ _ _ _ _ _ _ _ _ _ _ _ _ _ _ _ _ _ _ _ _ _ _ _ _ _ _ _ _ hrel => ?_)
  intro H locs ls hl hP hD hS
  by_cases c0 : k = 0
  · refine lv_tableIn (pc := 40) (off := 172) (tgt := 212) hx hb dL_law_40 (by rw [c0]; decide) (by rw [c0]; decide) (by rw [c0]; rfl) (by decide) ?_
    exact sL0_0 C hX hbl hbA hcl0 hi1 hi2 hi3 hi4 hi5 hrel hk0 H locs ls hl hP hD hS
  by_cases c1 : k = 1
  · refine lv_tableIn (pc := 40) (off := 245) (tgt := 285) hx hb dL_law_40 (by rw [c1]; decide) (by rw [c1]; decide) (by rw [c1]; rfl) (by decide) ?_
    exact sL0_1 C hX hbl hbA hcl hi1 hrel hk0 hk1 H locs ls hl hP hD hS
  by_cases c2 : k = 2
  · refine lv_tableIn (pc := 40) (off := 270) (tgt := 310) hx hb dL_law_40 (by rw [c2]; decide) (by rw [c2]; decide) (by rw [c2]; rfl) (by decide) ?_
    exact sL0_2 C hX hbl hbA hcl0 hi1 hi2 hi3 hi4 hi5 hrel hk0 H locs ls hl hP hD hS
  by_cases c3 : k = 3
  · refine lv_tableIn (pc := 40) (off := 283) (tgt := 323) hx hb dL_law_40 (by rw [c3]; decide) (by rw [c3]; decide) (by rw [c3]; rfl) (by decide) ?_
    exact sL0_3 C hX hbl hbA hcl0 hi1 hi2 hi3 hi4 hi5 hrel hk0 H locs ls hl hP hD hS
  by_cases c4 : k = 4
  · refine lv_tableIn (pc := 40) (off := 296) (tgt := 336) hx hb dL_law_40 (by rw [c4]; decide) (by rw [c4]; decide) (by rw [c4]; rfl) (by decide) ?_
    exact sL0_4 C hX hbl hbA hcl0 hi1 hi2 hi3 hi4 hi5 hrel hk0 H locs ls hl hP hD hS
  by_cases c5 : k = 5
  · refine lv_tableIn (pc := 40) (off := 333) (tgt := 373) hx hb dL_law_40 (by rw [c5]; decide) (by rw [c5]; decide) (by rw [c5]; rfl) (by decide) ?_
    exact sL0_5 C hX hbl hbA hcl0 hi1 hi2 hi3 hi4 hi5 hrel hk0 H locs ls hl hP hD hS
  by_cases c6 : k = 6
  · refine lv_tableIn (pc := 40) (off := 370) (tgt := 410) hx hb dL_law_40 (by rw [c6]; decide) (by rw [c6]; decide) (by rw [c6]; rfl) (by decide) ?_
    exact sL0_6 C hX hbl hbA hcl0 hi1 hi2 hi3 hi4 hi5 hrel hk0 H locs ls hl hP hD hS
  by_cases c7 : k = 7
  · refine lv_tableIn (pc := 40) (off := 407) (tgt := 447) hx hb dL_law_40 (by rw [c7]; decide) (by rw [c7]; decide) (by rw [c7]; rfl) (by decide) ?_
    exact sL0_7 C hX hbl hbA hcl0 hi1 hi2 hi3 hi4 hi5 hrel hk0 H locs ls hl hP hD hS
  by_cases c8 : k = 8
  · refine lv_tableIn (pc := 40) (off := 456) (tgt := 496) hx hb dL_law_40 (by rw [c8]; decide) (by rw [c8]; decide) (by rw [c8]; rfl) (by decide) ?_
    exact sL0_8 C hX hbl hbA hcl0 hi1 hi2 hi3 hi4 hi5 hrel hk0 H locs ls hl hP hD hS
  by_cases c9 : k = 9
  · refine lv_tableIn (pc := 40) (off := 481) (tgt := 521) hx hb dL_law_40 (by rw [c9]; decide) (by rw [c9]; decide) (by rw [c9]; rfl) (by decide) ?_
    exact sL0_9 C hX hbl hbA hcl0 hi1 hi2 hi3 hi4 hi5 hrel hk0 H locs ls hl hP hD hS
  by_cases c10 : k = 10
  · refine lv_tableIn (pc := 40) (off := 518) (tgt := 558) hx hb dL_law_40 (by rw [c10]; decide) (by rw [c10]; decide) (by rw [c10]; rfl) (by decide) ?_
    exact sL0_10 C hX hbl hbA hcl0 hi1 hi2 hi3 hi4 hi5 hrel hk0 H locs ls hl hP hD hS
  by_cases c11 : k = 11
  · refine lv_tableIn (pc := 40) (off := 543) (tgt := 583) hx hb dL_law_40 (by rw [c11]; decide) (by rw [c11]; decide) (by rw [c11]; rfl) (by decide) ?_
    exact sL0_11 C hX hbl hbA hcl0 hi1 hi2 hi3 hi4 hi5 hrel hk0 H locs ls hl hP hD hS
  by_cases c12 : k = 12
  · refine lv_tableIn (pc := 40) (off := 556) (tgt := 596) hx hb dL_law_40 (by rw [c12]; decide) (by rw [c12]; decide) (by rw [c12]; rfl) (by decide) ?_
    exact sL0_12 C hX hbl hbA hcl0 hi1 hi2 hi3 hi4 hi5 hrel hk0 H locs ls hl hP hD hS
  by_cases c13 : k = 13
  · refine lv_tableIn (pc := 40) (off := 593) (tgt := 633) hx hb dL_law_40 (by rw [c13]; decide) (by rw [c13]; decide) (by rw [c13]; rfl) (by decide) ?_
    exact sL0_13 C hX hbl hbA hcl0 hi1 hi2 hi3 hi4 hi5 hrel hk0 H locs ls hl hP hD hS
  by_cases c14 : k = 14
  · refine lv_tableIn (pc := 40) (off := 630) (tgt := 670) hx hb dL_law_40 (by rw [c14]; decide) (by rw [c14]; decide) (by rw [c14]; rfl) (by decide) ?_
    exact sL0_14 C hX hbl hbA hcl0 hi1 hi2 hi3 hi4 hi5 hrel hk0 H locs ls hl hP hD hS
  by_cases c15 : k = 15
  · refine lv_tableIn (pc := 40) (off := 667) (tgt := 707) hx hb dL_law_40 (by rw [c15]; decide) (by rw [c15]; decide) (by rw [c15]; rfl) (by decide) ?_
    exact sL0_15 C hX hbl hbA hcl0 hi1 hi2 hi3 hi4 hi5 hrel hk0 H locs ls hl hP hD hS
  by_cases c16 : k = 16
  · refine lv_tableIn (pc := 40) (off := 704) (tgt := 744) hx hb dL_law_40 (by rw [c16]; decide) (by rw [c16]; decide) (by rw [c16]; rfl) (by decide) ?_
    exact sL0_16 C hX hbl hbA hcl0 hi1 hi2 hi3 hi4 hi5 hrel hk0 H locs ls hl hP hD hS
  by_cases c17 : k = 17
  · refine lv_tableIn (pc := 40) (off := 729) (tgt := 769) hx hb dL_law_40 (by rw [c17]; decide) (by rw [c17]; decide) (by rw [c17]; rfl) (by decide) ?_
    exact sL0_17 C hX hbl hbA hcl0 hi1 hi2 hi3 hi4 hi5 hrel hk0 H locs ls hl hP hD hS
  by_cases c18 : k = 18
  · refine lv_tableIn (pc := 40) (off := 778) (tgt := 818) hx hb dL_law_40 (by rw [c18]; decide) (by rw [c18]; decide) (by rw [c18]; rfl) (by decide) ?_
    exact sL0_18 C hX hbl hbA hcl0 hi1 hi2 hi3 hi4 hi5 hrel hk0 H locs ls hl hP hD hS
  by_cases c19 : k = 19
  · refine lv_tableIn (pc := 40) (off := 791) (tgt := 831) hx hb dL_law_40 (by rw [c19]; decide) (by rw [c19]; decide) (by rw [c19]; rfl) (by decide) ?_
    exact sL0_19 C hX hbl hbA hcl0 hi1 hi2 hi3 hi4 hi5 hrel hk0 H locs ls hl hP hD hS
  by_cases c20 : k = 20
  · refine lv_tableIn (pc := 40) (off := 816) (tgt := 856) hx hb dL_law_40 (by rw [c20]; decide) (by rw [c20]; decide) (by rw [c20]; rfl) (by decide) ?_
    exact sL0_20 C hX hbl hbA hcl0 hi1 hi2 hi3 hi4 hi5 hrel hk0 H locs ls hl hP hD hS
  by_cases c21 : k = 21
  · refine lv_tableIn (pc := 40) (off := 893) (tgt := 933) hx hb dL_law_40 (by rw [c21]; decide) (by rw [c21]; decide) (by rw [c21]; rfl) (by decide) ?_
    exact sL0_21 C hX hbl hbA hcl0 hi1 hi2 hi3 hi4 hi5 hrel hk0 H locs ls hl hP hD hS
  by_cases c22 : k = 22
  · refine lv_tableIn (pc := 40) (off := 942) (tgt := 982) hx hb dL_law_40 (by rw [c22]; decide) (by rw [c22]; decide) (by rw [c22]; rfl) (by decide) ?_
    exact sL0_22 C hX hbl hbA hcl0 hi1 hi2 hi3 hi4 hi5 hrel hk0 H locs ls hl hP hD hS
  by_cases c23 : k = 23
  · refine lv_tableIn (pc := 40) (off := 991) (tgt := 1031) hx hb dL_law_40 (by rw [c23]; decide) (by rw [c23]; decide) (by rw [c23]; rfl) (by decide) ?_
    exact sL0_23 C hX hbl hbA hcl0 hi1 hi2 hi3 hi4 hi5 hrel hk0 H locs ls hl hP hD hS
  by_cases c24 : k = 24
  · refine lv_tableIn (pc := 40) (off := 1004) (tgt := 1044) hx hb dL_law_40 (by rw [c24]; decide) (by rw [c24]; decide) (by rw [c24]; rfl) (by decide) ?_
    exact sL0_24 C hX hbl hbA hcl0 hi1 hi2 hi3 hi4 hi5 hrel hk0 H locs ls hl hP hD hS
  by_cases c25 : k = 25
  · refine lv_tableIn (pc := 40) (off := 1029) (tgt := 1069) hx hb dL_law_40 (by rw [c25]; decide) (by rw [c25]; decide) (by rw [c25]; rfl) (by decide) ?_
    exact sL0_25 C hX hbl hbA hcl0 hi1 hi2 hi3 hi4 hi5 hrel hk0 H locs ls hl hP hD hS
  by_cases c26 : k = 26
  · refine lv_tableIn (pc := 40) (off := 1078) (tgt := 1118) hx hb dL_law_40 (by rw [c26]; decide) (by rw [c26]; decide) (by rw [c26]; rfl) (by decide) ?_
    exact sL0_26 C hX hbl hbA hcl0 hi1 hi2 hi3 hi4 hi5 hrel hk0 H locs ls hl hP hD hS
  by_cases c27 : k = 27
  · refine lv_tableIn (pc := 40) (off := 1103) (tgt := 1143) hx hb dL_law_40 (by rw [c27]; decide) (by rw [c27]; decide) (by rw [c27]; rfl) (by decide) ?_
    exact sL0_27 C hX hbl hbA hcl0 hi1 hi2 hi3 hi4 hi5 hrel hk0 H locs ls hl hP hD hS
  by_cases c28 : k = 28
  · refine lv_tableIn (pc := 40) (off := 1116) (tgt := 1156) hx hb dL_law_40 (by rw [c28]; decide) (by rw [c28]; decide) (by rw [c28]; rfl) (by decide) ?_
    exact sL0_28 C hX hbl hbA hcl0 hi1 hi2 hi3 hi4 hi5 hrel hk0 H locs ls hl hP hD hS
  by_cases c29 : k = 29
  · refine lv_tableIn (pc := 40) (off := 1141) (tgt := 1181) hx hb dL_law_40 (by rw [c29]; decide) (by rw [c29]; decide) (by rw [c29]; rfl) (by decide) ?_
    exact sL0_29 C hX hbl hbA hcl0 hi1 hi2 hi3 hi4 hi5 hrel hk0 H locs ls hl hP hD hS
  by_cases c30 : k = 30
  · refine lv_tableIn (pc := 40) (off := 1154) (tgt := 1194) hx hb dL_law_40 (by rw [c30]; decide) (by rw [c30]; decide) (by rw [c30]; rfl) (by decide) ?_
    exact sL0_30 C hX hbl hbA hcl0 hi1 hi2 hi3 hi4 hi5 hrel hk0 H locs ls hl hP hD hS
  by_cases c31 : k = 31
  · refine lv_tableIn (pc := 40) (off := 1191) (tgt := 1231) hx hb dL_law_40 (by rw [c31]; decide) (by rw [c31]; decide) (by rw [c31]; rfl) (by decide) ?_
    exact sL0_31 C hX hbl hbA hcl0 hi1 hi2 hi3 hi4 hi5 hrel hk0 H locs ls hl hP hD hS
  by_cases c32 : k = 32
  · refine lv_tableIn (pc := 40) (off := 1228) (tgt := 1268) hx hb dL_law_40 (by rw [c32]; decide) (by rw [c32]; decide) (by rw [c32]; rfl) (by decide) ?_
    exact sL0_32 C hX hbl hbA hcl0 hi1 hi2 hi3 hi4 hi5 hrel hk0 H locs ls hl hP hD hS
  by_cases c33 : k = 33
  · refine lv_tableIn (pc := 40) (off := 1241) (tgt := 1281) hx hb dL_law_40 (by rw [c33]; decide) (by rw [c33]; decide) (by rw [c33]; rfl) (by decide) ?_
    exact sL0_33 C hX hbl hbA hcl0 hi1 hi2 hi3 hi4 hi5 hrel hk0 H locs ls hl hP hD hS
  by_cases c34 : k = 34
  · refine lv_tableIn (pc := 40) (off := 1266) (tgt := 1306) hx hb dL_law_40 (by rw [c34]; decide) (by rw [c34]; decide) (by rw [c34]; rfl) (by decide) ?_
    exact sL0_34 C hX hbl hbA hcl0 hi1 hi2 hi3 hi4 hi5 hrel hk0 H locs ls hl hP hD hS
  by_cases c35 : k = 35
  · refine lv_tableIn (pc := 40) (off := 1291) (tgt := 1331) hx hb dL_law_40 (by rw [c35]; decide) (by rw [c35]; decide) (by rw [c35]; rfl) (by decide) ?_
    exact sL0_35 C hX hbl hbA hcl0 hi1 hi2 hi3 hi4 hi5 hrel hk0 H locs ls hl hP hD hS
  by_cases c36 : k = 36
  · refine lv_tableIn (pc := 40) (off := 1316) (tgt := 1356) hx hb dL_law_40 (by rw [c36]; decide) (by rw [c36]; decide) (by rw [c36]; rfl) (by decide) ?_
    exact sL0_36 hl9 C hTh hX hbl hbA hcl1 hi1 hrel hk0 hk2 H locs ls hl hP hD hS
  by_cases c37 : k = 37
  · refine lv_tableIn (pc := 40) (off := 1372) (tgt := 1412) hx hb dL_law_40 (by rw [c37]; decide) (by rw [c37]; decide) (by rw [c37]; rfl) (by decide) ?_
    exact sL0_37 C hX hbl hbA hcl0 hi1 hi2 hi3 hi4 hi5 hrel hk0 H locs ls hl hP hD hS
  by_cases c38 : k = 38
  · refine lv_tableIn (pc := 40) (off := 1397) (tgt := 1437) hx hb dL_law_40 (by rw [c38]; decide) (by rw [c38]; decide) (by rw [c38]; rfl) (by decide) ?_
    exact sL0_38 C hX hbl hbA hcl0 hi1 hi2 hi3 hi4 hi5 hrel hk0 H locs ls hl hP hD hS
  refine lv_tableOut (pc := 40) (tgt := 1450) hx hb dL_law_40 (by have g0 := lv_neT (a := 0) c0 (by decide); have g1 := lv_neT (a := 1) c1 (by decide); have g2 := lv_neT (a := 2) c2 (by decide); have g3 := lv_neT (a := 3) c3 (by decide); have g4 := lv_neT (a := 4) c4 (by decide); have g5 := lv_neT (a := 5) c5 (by decide); have g6 := lv_neT (a := 6) c6 (by decide); have g7 := lv_neT (a := 7) c7 (by decide); have g8 := lv_neT (a := 8) c8 (by decide); have g9 := lv_neT (a := 9) c9 (by decide); have g10 := lv_neT (a := 10) c10 (by decide); have g11 := lv_neT (a := 11) c11 (by decide); have g12 := lv_neT (a := 12) c12 (by decide); have g13 := lv_neT (a := 13) c13 (by decide); have g14 := lv_neT (a := 14) c14 (by decide); have g15 := lv_neT (a := 15) c15 (by decide); have g16 := lv_neT (a := 16) c16 (by decide); have g17 := lv_neT (a := 17) c17 (by decide); have g18 := lv_neT (a := 18) c18 (by decide); have g19 := lv_neT (a := 19) c19 (by decide); have g20 := lv_neT (a := 20) c20 (by decide); have g21 := lv_neT (a := 21) c21 (by decide); have g22 := lv_neT (a := 22) c22 (by decide); have g23 := lv_neT (a := 23) c23 (by decide); have g24 := lv_neT (a := 24) c24 (by decide); have g25 := lv_neT (a := 25) c25 (by decide); have g26 := lv_neT (a := 26) c26 (by decide); have g27 := lv_neT (a := 27) c27 (by decide); have g28 := lv_neT (a := 28) c28 (by decide); have g29 := lv_neT (a := 29) c29 (by decide); have g30 := lv_neT (a := 30) c30 (by decide); have g31 := lv_neT (a := 31) c31 (by decide); have g32 := lv_neT (a := 32) c32 (by decide); have g33 := lv_neT (a := 33) c33 (by decide); have g34 := lv_neT (a := 34) c34 (by decide); have g35 := lv_neT (a := 35) c35 (by decide); have g36 := lv_neT (a := 36) c36 (by decide); have g37 := lv_neT (a := 37) c37 (by decide); have g38 := lv_neT (a := 38) c38 (by decide); omega) (by decide) ?_
  exact hk0 _ (Or.inl (P0_mk hrel)) H locs ls hl hP hD hS
theorem nI_subL {L i : Nat} (hL : L ≤ 384) (hi : i ≤ 384) (h : ¬ (nI L - 6 : Int32) < nI i) : i + 6 ≤ L := by
  rcases Nat.lt_or_ge L 6 with c | c
  · exfalso
    apply h
    have hneg : (nI L - 6 : Int32) < 0 := by
      have hc : L = 0 ∨ L = 1 ∨ L = 2 ∨ L = 3 ∨ L = 4 ∨ L = 5 := by omega
      rcases hc with rfl | rfl | rfl | rfl | rfl | rfl <;> decide
    have hnn : ¬ nI i < 0 := fun q => (nI_lt0 (by omega)).mp q
    rw [fa_lt] at hneg hnn ⊢
    omega
  · rw [show (6 : Int32) = nI 6 from rfl, pk_sub (by omega)] at h
    by_cases q : L - 6 < i
    · exact absurd ((nI_ltI (by omega) (by omega)).mpr q) h
    · omega
set_option maxHeartbeats 4000000 in
set_option maxRecDepth 100000 in
theorem law_loop {p : Program} {l : Launch} {e : Env} {s : State} {m : MethodId} {args : Array Value} {below : List Frame} {meth : Method} {c : Code} {A : Nat → Prop} {Q : State → Prop} {E : EN} {b L : Nat} {xs : Nat → Int32} (hl9 : l.stackTraces = false) (C : CX p s m args meth c code RL 7 E A) (hTh : THR A s s.heap) (hX : va_X b L xs s s.heap) (hbl : b < s.heap.size) (hbA : ¬ A b) (hL : L ≤ 384) {xa ma oa : Nat}
    (hend : ∀ (H : Heap) (locs : List Loc) (cells slots : Nat) (ls : Array Slot), va_S A s.heap H locs → cells ≤ room_1.cells → slots ≤ room_1.slots → W p l e room_1 s m args below meth c H locs cells slots Q (F0 m 1457 ls [.int 1])) :
    ∀ (n i cells slots : Nat) (w : va_W), i ≤ 384 → L < i + 6 * n → cells ≤ 10000 + 20 * i → slots ≤ 100000 + 237 * i → PS E xa ma oa w → AT p l e room_1 s m args below meth c E A Q cells slots 7 [(0, .ref b), (1, .ref xa), (2, .ref ma), (3, .ref oa), (4, .int (nI i))] w 23 [] := by
  have hx := C.1
  have hb := C.2.1
  intro n
  induction n with
  | zero =>
    intro i cells slots w hi hn hc hs hw H locs ls hl hP hD hS
    refine lv_iload (pc := 23) hx hb dL_law_23 (lv_at hl 4 rfl) ?_
    refine lv_aload_n (pc := 25) hx hb dL_law_25 rfl (lv_at hl 0 rfl) ?_
    refine va_slen (pc := 26) hx hb hX hbl hbA hS dL_law_26 ?_
    refine lv_bipush (pc := 27) (v := 6) hx hb dL_law_27 (by decide) ?_
    refine lv_isub (pc := 29) hx hb dL_law_29 ?_
    refine lv_icmp_gt (pc := 30) (tgt := 1456) hx hb dL_law_30 (by decide) (fun _ => ?_) (fun c_30 => ?_)
    · refine lv_iconst (pc := 1456) (v := 1) hx hb dL_law_1456 (by decide) ?_
      exact hend _ _ _ _ _ hS (Nat.le_trans hc (by show 10000 + 20 * i ≤ 600128; omega)) (Nat.le_trans hs (by show 100000 + 237 * i ≤ 7301098; omega))
    · exact absurd (nI_subL hL hi c_30) (by omega)
  | succ n ih =>
    intro i cells slots w hi hn hc hs hw H locs ls hl hP hD hS
    refine lv_iload (pc := 23) hx hb dL_law_23 (lv_at hl 4 rfl) ?_
    refine lv_aload_n (pc := 25) hx hb dL_law_25 rfl (lv_at hl 0 rfl) ?_
    refine va_slen (pc := 26) hx hb hX hbl hbA hS dL_law_26 ?_
    refine lv_bipush (pc := 27) (v := 6) hx hb dL_law_27 (by decide) ?_
    refine lv_isub (pc := 29) hx hb dL_law_29 ?_
    refine lv_icmp_gt (pc := 30) (tgt := 1456) hx hb dL_law_30 (by decide) (fun _ => ?_) (fun c_30 => ?_)
    · refine lv_iconst (pc := 1456) (v := 1) hx hb dL_law_1456 (by decide) ?_
      exact hend _ _ _ _ _ hS (Nat.le_trans hc (by show 10000 + 20 * i ≤ 600128; omega)) (Nat.le_trans hs (by show 100000 + 237 * i ≤ 7301098; omega))
    · have h6 := nI_subL hL hi c_30
      have hj : ∀ j, j < 6 → vp_in (nI i + nI j) L := fun j hj => by
        rw [nI_add]
        exact vp_in_nI (by omega) (by omega)
      refine lv_aload_n (pc := 33) hx hb dL_law_33 rfl (lv_at hl 0 rfl) ?_
      refine lv_iload (pc := 34) hx hb dL_law_34 (lv_at hl 4 rfl) ?_
      refine va_sld (pc := 36) hx hb hX hbl hbA hS (vp_in_nI (by omega) (by omega)) dL_law_36 ?_
      refine lv_bipush (pc := 37) (v := 63) hx hb dL_law_37 (by decide) ?_
      refine lv_iand (pc := 39) hx hb dL_law_39 ?_
      have hcl : cells + 20 ≤ room_1.cells ∧ slots + 237 ≤ room_1.slots := ⟨by show cells + 20 ≤ 600128; omega, by show slots + 237 ≤ 7301098; omega⟩
      have hk : ∀ cells' slots' w', cells' ≤ cells + 20 → slots' ≤ slots + 237 → PS E xa ma oa w' → AT p l e room_1 s m args below meth c E A Q cells' slots' 7 [(0, .ref b), (1, .ref xa), (2, .ref ma), (3, .ref oa), (4, .int (nI i))] w' 1450 [] := by
        intro cells' slots' w' hc' hs' hw' H locs ls hl hP hD hS
        refine lv_iinc (pc := 1450) (v := nI (i + 6)) (lv' := [(4, .int (nI (i + 6))), (0, .ref b), (1, .ref xa), (2, .ref ma), (3, .ref oa)]) hx hb dL_law_1450 hl (k := 4) rfl (nI_add i 6) (by decide) rfl (fun ls hl => ?_)
        refine lv_goto (pc := 1453) (tgt := 23) hx hb dL_law_1453 (by decide) ?_
        have a1 : i + 6 ≤ 384 := by omega
        have a2 : L < i + 6 + 6 * n := by omega
        have a3 : cells' ≤ 10000 + 20 * (i + 6) := by omega
        have a4 : slots' ≤ 100000 + 237 * (i + 6) := by omega
        exact ih (i + 6) cells' slots' w' a1 a2 a3 a4 hw' _ _ _ (lv_sub hl [1, 2, 3, 4, 0] rfl) hP hD hS
      rcases hw with h0 | h1
      · exact law_sw0 hl9 C hTh hX hbl hbA hcl (hj 1 (by decide)) (hj 2 (by decide)) (hj 3 (by decide)) (hj 4 (by decide)) (hj 5 (by decide)) _ h0 hk H locs ls hl hP hD hS
      · exact law_sw1 hl9 C hTh hX hbl hbA hcl (hj 1 (by decide)) (hj 2 (by decide)) (hj 3 (by decide)) (hj 4 (by decide)) (hj 5 (by decide)) _ h1 hk H locs ls hl hP hD hS
