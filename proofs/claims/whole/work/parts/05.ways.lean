theorem dX8_doorsFrom_0 : decode cX8_doorsFrom 0 = .ok (.aload_n 0, 1) := by decide +kernel
theorem dX8_doorsFrom_1 : decode cX8_doorsFrom 1 = .ok (.getfield 9, 3) := by decide +kernel
theorem dX8_doorsFrom_4 : decode cX8_doorsFrom 4 = .ok (.iload_n 1, 1) := by decide +kernel
theorem dX8_doorsFrom_5 : decode cX8_doorsFrom 5 = .ok (.bipush 8, 2) := by decide +kernel
theorem dX8_doorsFrom_7 : decode cX8_doorsFrom 7 = .ok (.imul, 1) := by decide +kernel
theorem dX8_doorsFrom_8 : decode cX8_doorsFrom 8 = .ok (.iload_n 2, 1) := by decide +kernel
theorem dX8_doorsFrom_9 : decode cX8_doorsFrom 9 = .ok (.iadd, 1) := by decide +kernel
theorem dX8_doorsFrom_10 : decode cX8_doorsFrom 10 = .ok (.iaload, 1) := by decide +kernel
theorem dX8_doorsFrom_11 : decode cX8_doorsFrom 11 = .ok (.ireturn, 1) := by decide +kernel
theorem dX8_shorten_0 : decode cX8_shorten 0 = .ok (.aload_n 0, 1) := by decide +kernel
theorem dX8_shorten_1 : decode cX8_shorten 1 = .ok (.iload_n 1, 1) := by decide +kernel
theorem dX8_shorten_2 : decode cX8_shorten 2 = .ok (.iload_n 2, 1) := by decide +kernel
theorem dX8_shorten_3 : decode cX8_shorten 3 = .ok (.invokevirtual 45, 3) := by decide +kernel
theorem dX8_shorten_6 : decode cX8_shorten 6 = .ok (.istore_n 3, 1) := by decide +kernel
theorem dX8_shorten_7 : decode cX8_shorten 7 = .ok (.iconst 0, 1) := by decide +kernel
theorem dX8_shorten_8 : decode cX8_shorten 8 = .ok (.istore 4, 2) := by decide +kernel
theorem dX8_shorten_10 : decode cX8_shorten 10 = .ok (.iload 4, 2) := by decide +kernel
theorem dX8_shorten_12 : decode cX8_shorten 12 = .ok (.aload_n 0, 1) := by decide +kernel
theorem dX8_shorten_13 : decode cX8_shorten 13 = .ok (.getfield 21, 3) := by decide +kernel
theorem dX8_shorten_16 : decode cX8_shorten 16 = .ok (.if_icmp .ge 46, 3) := by decide +kernel
theorem dX8_shorten_19 : decode cX8_shorten 19 = .ok (.iload_n 3, 1) := by decide +kernel
theorem dX8_shorten_20 : decode cX8_shorten 20 = .ok (.aload_n 0, 1) := by decide +kernel
theorem dX8_shorten_21 : decode cX8_shorten 21 = .ok (.iload_n 2, 1) := by decide +kernel
theorem dX8_shorten_22 : decode cX8_shorten 22 = .ok (.iload 4, 2) := by decide +kernel
theorem dX8_shorten_24 : decode cX8_shorten 24 = .ok (.invokevirtual 45, 3) := by decide +kernel
theorem dX8_shorten_27 : decode cX8_shorten 27 = .ok (.iadd, 1) := by decide +kernel
theorem dX8_shorten_28 : decode cX8_shorten 28 = .ok (.istore 5, 2) := by decide +kernel
theorem dX8_shorten_30 : decode cX8_shorten 30 = .ok (.iload 5, 2) := by decide +kernel
theorem dX8_shorten_32 : decode cX8_shorten 32 = .ok (.aload_n 0, 1) := by decide +kernel
theorem dX8_shorten_33 : decode cX8_shorten 33 = .ok (.iload_n 1, 1) := by decide +kernel
theorem dX8_shorten_34 : decode cX8_shorten 34 = .ok (.iload 4, 2) := by decide +kernel
theorem dX8_shorten_36 : decode cX8_shorten 36 = .ok (.invokevirtual 45, 3) := by decide +kernel
theorem dX8_shorten_39 : decode cX8_shorten 39 = .ok (.if_icmp .ge 17, 3) := by decide +kernel
theorem dX8_shorten_42 : decode cX8_shorten 42 = .ok (.aload_n 0, 1) := by decide +kernel
theorem dX8_shorten_43 : decode cX8_shorten 43 = .ok (.getfield 9, 3) := by decide +kernel
theorem dX8_shorten_46 : decode cX8_shorten 46 = .ok (.iload_n 1, 1) := by decide +kernel
theorem dX8_shorten_47 : decode cX8_shorten 47 = .ok (.bipush 8, 2) := by decide +kernel
theorem dX8_shorten_49 : decode cX8_shorten 49 = .ok (.imul, 1) := by decide +kernel
theorem dX8_shorten_50 : decode cX8_shorten 50 = .ok (.iload 4, 2) := by decide +kernel
theorem dX8_shorten_52 : decode cX8_shorten 52 = .ok (.iadd, 1) := by decide +kernel
theorem dX8_shorten_53 : decode cX8_shorten 53 = .ok (.iload 5, 2) := by decide +kernel
theorem dX8_shorten_55 : decode cX8_shorten 55 = .ok (.iastore, 1) := by decide +kernel
theorem dX8_shorten_56 : decode cX8_shorten 56 = .ok (.iinc 4 1, 3) := by decide +kernel
theorem dX8_shorten_59 : decode cX8_shorten 59 = .ok (.goto (-49), 3) := by decide +kernel
theorem dX8_shorten_62 : decode cX8_shorten 62 = .ok (.return_, 1) := by decide +kernel
theorem dX8_roomToward_0 : decode cX8_roomToward 0 = .ok (.aload_n 0, 1) := by decide +kernel
theorem dX8_roomToward_1 : decode cX8_roomToward 1 = .ok (.iload_n 1, 1) := by decide +kernel
theorem dX8_roomToward_2 : decode cX8_roomToward 2 = .ok (.iload_n 2, 1) := by decide +kernel
theorem dX8_roomToward_3 : decode cX8_roomToward 3 = .ok (.invokevirtual 45, 3) := by decide +kernel
theorem dX8_roomToward_6 : decode cX8_roomToward 6 = .ok (.iconst 1, 1) := by decide +kernel
theorem dX8_roomToward_7 : decode cX8_roomToward 7 = .ok (.isub, 1) := by decide +kernel
theorem dX8_roomToward_8 : decode cX8_roomToward 8 = .ok (.istore_n 3, 1) := by decide +kernel
theorem dX8_roomToward_9 : decode cX8_roomToward 9 = .ok (.iconst 0, 1) := by decide +kernel
theorem dX8_roomToward_10 : decode cX8_roomToward 10 = .ok (.istore 4, 2) := by decide +kernel
theorem dX8_roomToward_12 : decode cX8_roomToward 12 = .ok (.iload 4, 2) := by decide +kernel
theorem dX8_roomToward_14 : decode cX8_roomToward 14 = .ok (.aload_n 0, 1) := by decide +kernel
theorem dX8_roomToward_15 : decode cX8_roomToward 15 = .ok (.getfield 21, 3) := by decide +kernel
theorem dX8_roomToward_18 : decode cX8_roomToward 18 = .ok (.if_icmp .ge 34, 3) := by decide +kernel
theorem dX8_roomToward_21 : decode cX8_roomToward 21 = .ok (.aload_n 0, 1) := by decide +kernel
theorem dX8_roomToward_22 : decode cX8_roomToward 22 = .ok (.iload_n 1, 1) := by decide +kernel
theorem dX8_roomToward_23 : decode cX8_roomToward 23 = .ok (.iload 4, 2) := by decide +kernel
theorem dX8_roomToward_25 : decode cX8_roomToward 25 = .ok (.invokevirtual 45, 3) := by decide +kernel
theorem dX8_roomToward_28 : decode cX8_roomToward 28 = .ok (.iconst 1, 1) := by decide +kernel
theorem dX8_roomToward_29 : decode cX8_roomToward 29 = .ok (.if_icmp .ne 17, 3) := by decide +kernel
theorem dX8_roomToward_32 : decode cX8_roomToward 32 = .ok (.aload_n 0, 1) := by decide +kernel
theorem dX8_roomToward_33 : decode cX8_roomToward 33 = .ok (.iload 4, 2) := by decide +kernel
theorem dX8_roomToward_35 : decode cX8_roomToward 35 = .ok (.iload_n 2, 1) := by decide +kernel
theorem dX8_roomToward_36 : decode cX8_roomToward 36 = .ok (.invokevirtual 45, 3) := by decide +kernel
theorem dX8_roomToward_39 : decode cX8_roomToward 39 = .ok (.iload_n 3, 1) := by decide +kernel
theorem dX8_roomToward_40 : decode cX8_roomToward 40 = .ok (.if_icmp .ne 6, 3) := by decide +kernel
theorem dX8_roomToward_43 : decode cX8_roomToward 43 = .ok (.iload 4, 2) := by decide +kernel
theorem dX8_roomToward_45 : decode cX8_roomToward 45 = .ok (.ireturn, 1) := by decide +kernel
theorem dX8_roomToward_46 : decode cX8_roomToward 46 = .ok (.iinc 4 1, 3) := by decide +kernel
theorem dX8_roomToward_49 : decode cX8_roomToward 49 = .ok (.goto (-37), 3) := by decide +kernel
theorem dX8_roomToward_52 : decode cX8_roomToward 52 = .ok (.iconst (-1), 1) := by decide +kernel
theorem dX8_roomToward_53 : decode cX8_roomToward 53 = .ok (.ireturn, 1) := by decide +kernel
theorem dX1_doorBetween_0 : decode cX1_doorBetween 0 = .ok (.iconst 0, 1) := by decide +kernel
theorem dX1_doorBetween_1 : decode cX1_doorBetween 1 = .ok (.istore_n 3, 1) := by decide +kernel
theorem dX1_doorBetween_2 : decode cX1_doorBetween 2 = .ok (.iload_n 3, 1) := by decide +kernel
theorem dX1_doorBetween_3 : decode cX1_doorBetween 3 = .ok (.aload_n 0, 1) := by decide +kernel
theorem dX1_doorBetween_4 : decode cX1_doorBetween 4 = .ok (.getfield 42, 3) := by decide +kernel
theorem dX1_doorBetween_7 : decode cX1_doorBetween 7 = .ok (.if_icmp .ge 51, 3) := by decide +kernel
theorem dX1_doorBetween_10 : decode cX1_doorBetween 10 = .ok (.aload_n 0, 1) := by decide +kernel
theorem dX1_doorBetween_11 : decode cX1_doorBetween 11 = .ok (.getfield 19, 3) := by decide +kernel
theorem dX1_doorBetween_14 : decode cX1_doorBetween 14 = .ok (.iload_n 3, 1) := by decide +kernel
theorem dX1_doorBetween_15 : decode cX1_doorBetween 15 = .ok (.iaload, 1) := by decide +kernel
theorem dX1_doorBetween_16 : decode cX1_doorBetween 16 = .ok (.iload_n 1, 1) := by decide +kernel
theorem dX1_doorBetween_17 : decode cX1_doorBetween 17 = .ok (.if_icmp .ne 13, 3) := by decide +kernel
theorem dX1_doorBetween_20 : decode cX1_doorBetween 20 = .ok (.aload_n 0, 1) := by decide +kernel
theorem dX1_doorBetween_21 : decode cX1_doorBetween 21 = .ok (.getfield 22, 3) := by decide +kernel
theorem dX1_doorBetween_24 : decode cX1_doorBetween 24 = .ok (.iload_n 3, 1) := by decide +kernel
theorem dX1_doorBetween_25 : decode cX1_doorBetween 25 = .ok (.iaload, 1) := by decide +kernel
theorem dX1_doorBetween_26 : decode cX1_doorBetween 26 = .ok (.iload_n 2, 1) := by decide +kernel
theorem dX1_doorBetween_27 : decode cX1_doorBetween 27 = .ok (.if_icmp .eq 23, 3) := by decide +kernel
theorem dX1_doorBetween_30 : decode cX1_doorBetween 30 = .ok (.aload_n 0, 1) := by decide +kernel
theorem dX1_doorBetween_31 : decode cX1_doorBetween 31 = .ok (.getfield 19, 3) := by decide +kernel
theorem dX1_doorBetween_34 : decode cX1_doorBetween 34 = .ok (.iload_n 3, 1) := by decide +kernel
theorem dX1_doorBetween_35 : decode cX1_doorBetween 35 = .ok (.iaload, 1) := by decide +kernel
theorem dX1_doorBetween_36 : decode cX1_doorBetween 36 = .ok (.iload_n 2, 1) := by decide +kernel
theorem dX1_doorBetween_37 : decode cX1_doorBetween 37 = .ok (.if_icmp .ne 15, 3) := by decide +kernel
theorem dX1_doorBetween_40 : decode cX1_doorBetween 40 = .ok (.aload_n 0, 1) := by decide +kernel
theorem dX1_doorBetween_41 : decode cX1_doorBetween 41 = .ok (.getfield 22, 3) := by decide +kernel
theorem dX1_doorBetween_44 : decode cX1_doorBetween 44 = .ok (.iload_n 3, 1) := by decide +kernel
theorem dX1_doorBetween_45 : decode cX1_doorBetween 45 = .ok (.iaload, 1) := by decide +kernel
theorem dX1_doorBetween_46 : decode cX1_doorBetween 46 = .ok (.iload_n 1, 1) := by decide +kernel
theorem dX1_doorBetween_47 : decode cX1_doorBetween 47 = .ok (.if_icmp .ne 5, 3) := by decide +kernel
theorem dX1_doorBetween_50 : decode cX1_doorBetween 50 = .ok (.iload_n 3, 1) := by decide +kernel
theorem dX1_doorBetween_51 : decode cX1_doorBetween 51 = .ok (.ireturn, 1) := by decide +kernel
theorem dX1_doorBetween_52 : decode cX1_doorBetween 52 = .ok (.iinc 3 1, 3) := by decide +kernel
theorem dX1_doorBetween_55 : decode cX1_doorBetween 55 = .ok (.goto (-53), 3) := by decide +kernel
theorem dX1_doorBetween_58 : decode cX1_doorBetween 58 = .ok (.bipush (-2), 2) := by decide +kernel
theorem dX1_doorBetween_60 : decode cX1_doorBetween 60 = .ok (.ireturn, 1) := by decide +kernel
def wX8_doorsFrom (E : EN) (h h_steps : Nat) (v_rooms : Int32) (v_steps : Nat → Int32) : va_W := [(h, .inr (8, [.ref h_steps, .int v_rooms])), (h_steps, aI E 64 v_steps)]
def fX8_doorsFrom (N : Nat) (p0 : Int32) (p1 : Int32) (v_steps : Nat → Int32) : Option Int32 := gd ((p0 * 8) + p1) 64 (some (v_steps ((p0 * 8) + p1).toNatClampNeg))
set_option maxHeartbeats 4000000 in
set_option maxRecDepth 100000 in
theorem ctX8_doorsFrom (l : Launch) (E : EN) (h h_steps : Nat) (v_rooms : Int32) (v_steps : Nat → Int32) (N : Nat) (p0 : Int32) (p1 : Int32) (z0 : Int32) (hf : fX8_doorsFrom N p0 p1 v_steps = some z0) : CTi l E yX8_doorsFrom cX8_doorsFrom 3 .int 0 0 [.ref h, .int p0, .int p1] (wX8_doorsFrom E h h_steps v_rooms v_steps) z0 (wX8_doorsFrom E h h_steps v_rooms v_steps) := by
  intro sz
  refine ct_body (by decide) (Nat.le_of_ble_eq_true rfl) ?_
  intro p e s m args below meth c A ls hAe C hr hin hP hD hS hl
  have C : CX p s m args meth c cX8_doorsFrom RX8 3 E A := C
  have hl : lv_has ls 3 [(0, .ref h), (1, .int p0), (2, .int p1)] := hl
  have hx := C.1
  have hb := C.2.1
  rw [hAe]
  clear hAe
  obtain ⟨Q, hQ⟩ : ∃ Q, Q = MQ below (Qi E A z0 (wX8_doorsFrom E h h_steps v_rooms v_steps)) args s 0 0 A := ⟨_, rfl⟩
  rw [← hQ]
  unfold fX8_doorsFrom at hf
  refine lv_aload_n hx hb dX8_doorsFrom_0 rfl (lv_at hl 0 rfl) ?_
  refine r_get C hP 0 rfl fl_X8_9 rfl dX8_doorsFrom_1 ?_
  refine lv_iload_n hx hb dX8_doorsFrom_4 rfl (lv_at hl 1 rfl) ?_
  refine lv_bipush (v := 8) hx hb dX8_doorsFrom_5 (by decide) ?_
  refine lv_imul hx hb dX8_doorsFrom_7 ?_
  refine lv_iload_n hx hb dX8_doorsFrom_8 rfl (lv_at hl 2 rfl) ?_
  refine lv_iadd hx hb dX8_doorsFrom_9 ?_
  obtain ⟨hi_10, hf⟩ := gd_s hf
  refine r_iald C hP 1 rfl hi_10 dX8_doorsFrom_10 ?_
  cases hf
  rw [hQ]
  exact r_iret C hr hP hD hS rfl dX8_doorsFrom_11
def wX8_shorten (E : EN) (h h_steps : Nat) (v_rooms : Int32) (v_steps : Nat → Int32) : va_W := [(h, .inr (8, [.ref h_steps, .int v_rooms])), (h_steps, aI E 64 v_steps)]
def BX8_shorten_10 (v_rooms : Int32) (N : Nat) (p1 : Int32) (p0 : Int32) (r_3 : Int32) (rec10 : (Int32 × (Nat → Int32)) → Option (Nat → Int32)) : (Int32 × (Nat → Int32)) → Option (Nat → Int32) := un2 fun (x10_4 : Int32) (x10_steps : Nat → Int32) => if v_rooms ≤ x10_4 then (some x10_steps) else ((fX8_doorsFrom N p1 x10_4 x10_steps).bind (un1 fun (r_24 : Int32) => (fX8_doorsFrom N p0 x10_4 x10_steps).bind (un1 fun (r_36 : Int32) => jn (un1 fun (x56_steps : Nat → Int32) => rec10 (x10_4 + 1, x56_steps)) (fun j56 => if r_36 ≤ (r_3 + r_24) then (j56 x10_steps) else (gd ((p0 * 8) + x10_4) 64 (j56 (upd x10_steps ((p0 * 8) + x10_4).toNatClampNeg (r_3 + r_24))))))))
def fX8_shorten (N : Nat) (p0 : Int32) (p1 : Int32) (v_rooms : Int32) (v_steps : Nat → Int32) : Option (Nat → Int32) := (fX8_doorsFrom N p0 p1 v_steps).bind (un1 fun (r_3 : Int32) => lp (BX8_shorten_10 v_rooms N p1 p0 r_3) N (0, v_steps))
set_option maxHeartbeats 4000000 in
set_option maxRecDepth 100000 in
theorem ctX8_shorten (l : Launch) (E : EN) (h h_steps : Nat) (v_rooms : Int32) (v_steps : Nat → Int32) (N : Nat) (p0 : Int32) (p1 : Int32) (z0 : Nat → Int32) (hf : fX8_shorten N p0 p1 v_rooms v_steps = some z0) : CTv l E yX8_shorten cX8_shorten 6 1 22 [.ref h, .int p0, .int p1] (wX8_shorten E h h_steps v_rooms v_steps) (wX8_shorten E h h_steps v_rooms z0) := by
  intro sz
  refine ct_body (by decide) (Nat.le_of_ble_eq_true rfl) ?_
  intro p e s m args below meth c A ls hAe C hr hin hP hD hS hl
  have C : CX p s m args meth c cX8_shorten RX8 6 E A := C
  have hl : lv_has ls 6 [(0, .ref h), (1, .int p0), (2, .int p1)] := hl
  have hx := C.1
  have hb := C.2.1
  rw [hAe]
  clear hAe
  obtain ⟨Q, hQ⟩ : ∃ Q, Q = MQ below (Qv E A (wX8_shorten E h h_steps v_rooms z0)) args s 0 0 A := ⟨_, rfl⟩
  rw [← hQ]
  unfold fX8_shorten at hf
  refine lv_aload_n hx hb dX8_shorten_0 rfl (lv_at hl 0 rfl) ?_
  refine lv_iload_n hx hb dX8_shorten_1 rfl (lv_at hl 1 rfl) ?_
  refine lv_iload_n hx hb dX8_shorten_2 rfl (lv_at hl 2 rfl) ?_
  obtain ⟨r_3, hc_3, hf⟩ := bd1 hf
  refine r_callVi (ws' := (wX8_shorten E h h_steps v_rooms v_steps)) (As := [.int p0, .int p1]) (rest := []) C (ctX8_doorsFrom l E h h_steps v_rooms v_steps N p0 p1 r_3 hc_3) ml_X8_45 ⟨Nat.le_of_ble_eq_true rfl, Nat.le_of_ble_eq_true rfl⟩ hP hD hS 0 rfl rfl rfl [0, 1] rfl rfl rfl rfl rfl hl.1 rfl (Nat.le_of_ble_eq_true rfl) ⟨Nat.zero_le _, Nat.zero_le _⟩ dX8_shorten_3 ?_
  clear hP hD hS; intro H locs hP hD hS
  refine lv_istore_n (lv' := [(3, .int r_3), (0, .ref h), (1, .int p0), (2, .int p1)]) hx hb dX8_shorten_6 rfl hl (by decide) rfl (fun ls hl => ?_)
  refine lv_iconst (v := 0) hx hb dX8_shorten_7 (by decide) ?_
  refine lv_istore (lv' := [(4, .int 0), (3, .int r_3), (0, .ref h), (1, .int p0), (2, .int p1)]) hx hb dX8_shorten_8 hl (by decide) rfl (fun ls hl => ?_)
  have key10 : ∀ (n : Nat) (x10_4 : Int32) (x10_steps : Nat → Int32) , lp (BX8_shorten_10 v_rooms N p1 p0 r_3) n (x10_4, x10_steps) = some z0 → AT p l e (rmOf 1 22) s m args below meth c E A Q 6 [(0, .ref h), (1, .int p0), (2, .int p1), (3, .int r_3), (4, .int x10_4)] (wX8_shorten E h h_steps v_rooms x10_steps) 10 [] := by
    intro n
    induction n with
    | zero => intro x10_4 x10_steps hf; exact (lp_0 hf).elim
    | succ n ih10 =>
      intro x10_4 x10_steps hf H locs ls hl hP hD hS
      replace hf := lp_s hf
      generalize lp (BX8_shorten_10 v_rooms N p1 p0 r_3) n = rec10 at ih10 hf
      unfold BX8_shorten_10 at hf
      replace hf := un2_s hf
      refine lv_iload hx hb dX8_shorten_10 (lv_at hl 4 rfl) ?_
      refine lv_aload_n hx hb dX8_shorten_12 rfl (lv_at hl 0 rfl) ?_
      refine r_get C hP 0 rfl fl_X8_21 rfl dX8_shorten_13 ?_
      refine lv_icmp_ge (tgt := 62) hx hb dX8_shorten_16 (by decide) (fun c_16 => ?_) (fun c_16 => ?_)
      · replace hf := it_t c_16 hf
        cases hf
        rw [hQ]
        exact r_vret C hr hP hD hS dX8_shorten_62
      · replace hf := it_f c_16 hf
        refine lv_iload_n hx hb dX8_shorten_19 rfl (lv_at hl 3 rfl) ?_
        refine lv_aload_n hx hb dX8_shorten_20 rfl (lv_at hl 0 rfl) ?_
        refine lv_iload_n hx hb dX8_shorten_21 rfl (lv_at hl 2 rfl) ?_
        refine lv_iload hx hb dX8_shorten_22 (lv_at hl 4 rfl) ?_
        obtain ⟨r_24, hc_24, hf⟩ := bd1 hf
        refine r_callVi (ws' := (wX8_shorten E h h_steps v_rooms x10_steps)) (As := [.int p1, .int x10_4]) (rest := [.int r_3]) C (ctX8_doorsFrom l E h h_steps v_rooms x10_steps N p1 x10_4 r_24 hc_24) ml_X8_45 ⟨Nat.le_of_ble_eq_true rfl, Nat.le_of_ble_eq_true rfl⟩ hP hD hS 0 rfl rfl rfl [0, 1] rfl rfl rfl rfl rfl hl.1 rfl (Nat.le_of_ble_eq_true rfl) ⟨Nat.zero_le _, Nat.zero_le _⟩ dX8_shorten_24 ?_
        clear hP hD hS; intro H locs hP hD hS
        refine lv_iadd hx hb dX8_shorten_27 ?_
        refine lv_istore (lv' := [(5, .int (r_3 + r_24)), (0, .ref h), (1, .int p0), (2, .int p1), (3, .int r_3), (4, .int x10_4)]) hx hb dX8_shorten_28 hl (by decide) rfl (fun ls hl => ?_)
        refine lv_iload hx hb dX8_shorten_30 (lv_at hl 0 rfl) ?_
        refine lv_aload_n hx hb dX8_shorten_32 rfl (lv_at hl 1 rfl) ?_
        refine lv_iload_n hx hb dX8_shorten_33 rfl (lv_at hl 2 rfl) ?_
        refine lv_iload hx hb dX8_shorten_34 (lv_at hl 5 rfl) ?_
        obtain ⟨r_36, hc_36, hf⟩ := bd1 hf
        refine r_callVi (ws' := (wX8_shorten E h h_steps v_rooms x10_steps)) (As := [.int p0, .int x10_4]) (rest := [.int (r_3 + r_24)]) C (ctX8_doorsFrom l E h h_steps v_rooms x10_steps N p0 x10_4 r_36 hc_36) ml_X8_45 ⟨Nat.le_of_ble_eq_true rfl, Nat.le_of_ble_eq_true rfl⟩ hP hD hS 0 rfl rfl rfl [0, 1] rfl rfl rfl rfl rfl hl.1 rfl (Nat.le_of_ble_eq_true rfl) ⟨Nat.zero_le _, Nat.zero_le _⟩ dX8_shorten_36 ?_
        clear hP hD hS; intro H locs hP hD hS
        refine jnK hf (fun j56 ej56 hf => ?_)
        have hj56 : ∀ (x56_steps : Nat → Int32) , j56 x56_steps = some z0 → AT p l e (rmOf 1 22) s m args below meth c E A Q 6 [(0, .ref h), (1, .int p0), (2, .int p1), (3, .int r_3), (4, .int x10_4)] (wX8_shorten E h h_steps v_rooms x56_steps) 56 [] := by
          intro x56_steps hf H locs ls hl hP hD hS
          rw [ej56] at hf
          replace hf := un1_s hf
          refine lv_iinc (v := x10_4 + 1) (lv' := [(4, .int (x10_4 + 1)), (0, .ref h), (1, .int p0), (2, .int p1), (3, .int r_3)]) hx hb dX8_shorten_56 hl (k := 4) rfl rfl (by decide) rfl (fun ls hl => ?_)
          refine lv_goto (tgt := 10) hx hb dX8_shorten_59 (by decide) ?_
          exact ih10 (x10_4 + 1) x56_steps hf _ _ _ (lv_sub hl [1, 2, 3, 4, 0] rfl) hP hD hS
        clear ej56
        refine lv_icmp_ge (tgt := 56) hx hb dX8_shorten_39 (by decide) (fun c_39 => ?_) (fun c_39 => ?_)
        · replace hf := it_t c_39 hf
          exact hj56 x10_steps hf _ _ _ (lv_sub hl [1, 2, 3, 4, 5] rfl) hP hD hS
        · replace hf := it_f c_39 hf
          refine lv_aload_n hx hb dX8_shorten_42 rfl (lv_at hl 1 rfl) ?_
          refine r_get C hP 0 rfl fl_X8_9 rfl dX8_shorten_43 ?_
          refine lv_iload_n hx hb dX8_shorten_46 rfl (lv_at hl 2 rfl) ?_
          refine lv_bipush (v := 8) hx hb dX8_shorten_47 (by decide) ?_
          refine lv_imul hx hb dX8_shorten_49 ?_
          refine lv_iload hx hb dX8_shorten_50 (lv_at hl 5 rfl) ?_
          refine lv_iadd hx hb dX8_shorten_52 ?_
          refine lv_iload hx hb dX8_shorten_53 (lv_at hl 0 rfl) ?_
          obtain ⟨hi_55, hf⟩ := gd_s hf
          refine r_iast (ws' := (wX8_shorten E h h_steps v_rooms (upd x10_steps ((p0 * 8) + x10_4).toNatClampNeg (r_3 + r_24)))) C hP hD hS 1 rfl hi_55 rfl dX8_shorten_55 ?_
          clear hP hD hS; intro H locs hP hD hS
          exact hj56 (upd x10_steps ((p0 * 8) + x10_4).toNatClampNeg (r_3 + r_24)) hf _ _ _ (lv_sub hl [1, 2, 3, 4, 5] rfl) hP hD hS
  exact key10 _ 0 v_steps hf _ _ _ (lv_sub hl [2, 3, 4, 1, 0] rfl) hP hD hS
def wX8_roomToward (E : EN) (h h_steps : Nat) (v_rooms : Int32) (v_steps : Nat → Int32) : va_W := [(h, .inr (8, [.ref h_steps, .int v_rooms])), (h_steps, aI E 64 v_steps)]
def BX8_roomToward_12 (v_rooms : Int32) (N : Nat) (p0 : Int32) (v_steps : Nat → Int32) (p1 : Int32) (r_3 : Int32) (rec12 : (Int32) → Option Int32) : (Int32) → Option Int32 := un1 fun (x12_4 : Int32) => if v_rooms ≤ x12_4 then (some (-1)) else ((fX8_doorsFrom N p0 x12_4 v_steps).bind (un1 fun (r_25 : Int32) => jn (un0 (rec12 (x12_4 + 1))) (fun j46 => if r_25 = 1 then ((fX8_doorsFrom N x12_4 p1 v_steps).bind (un1 fun (r_36 : Int32) => if r_36 = (r_3 - 1) then (some x12_4) else (j46 ()))) else (j46 ()))))
def fX8_roomToward (N : Nat) (p0 : Int32) (p1 : Int32) (v_rooms : Int32) (v_steps : Nat → Int32) : Option Int32 := (fX8_doorsFrom N p0 p1 v_steps).bind (un1 fun (r_3 : Int32) => lp (BX8_roomToward_12 v_rooms N p0 v_steps p1 r_3) N 0)
set_option maxHeartbeats 4000000 in
set_option maxRecDepth 100000 in
theorem ctX8_roomToward (l : Launch) (E : EN) (h h_steps : Nat) (v_rooms : Int32) (v_steps : Nat → Int32) (N : Nat) (p0 : Int32) (p1 : Int32) (z0 : Int32) (hf : fX8_roomToward N p0 p1 v_rooms v_steps = some z0) : CTi l E yX8_roomToward cX8_roomToward 5 .int 1 22 [.ref h, .int p0, .int p1] (wX8_roomToward E h h_steps v_rooms v_steps) z0 (wX8_roomToward E h h_steps v_rooms v_steps) := by
  intro sz
  refine ct_body (by decide) (Nat.le_of_ble_eq_true rfl) ?_
  intro p e s m args below meth c A ls hAe C hr hin hP hD hS hl
  have C : CX p s m args meth c cX8_roomToward RX8 5 E A := C
  have hl : lv_has ls 5 [(0, .ref h), (1, .int p0), (2, .int p1)] := hl
  have hx := C.1
  have hb := C.2.1
  rw [hAe]
  clear hAe
  obtain ⟨Q, hQ⟩ : ∃ Q, Q = MQ below (Qi E A z0 (wX8_roomToward E h h_steps v_rooms v_steps)) args s 0 0 A := ⟨_, rfl⟩
  rw [← hQ]
  unfold fX8_roomToward at hf
  refine lv_aload_n hx hb dX8_roomToward_0 rfl (lv_at hl 0 rfl) ?_
  refine lv_iload_n hx hb dX8_roomToward_1 rfl (lv_at hl 1 rfl) ?_
  refine lv_iload_n hx hb dX8_roomToward_2 rfl (lv_at hl 2 rfl) ?_
  obtain ⟨r_3, hc_3, hf⟩ := bd1 hf
  refine r_callVi (ws' := (wX8_roomToward E h h_steps v_rooms v_steps)) (As := [.int p0, .int p1]) (rest := []) C (ctX8_doorsFrom l E h h_steps v_rooms v_steps N p0 p1 r_3 hc_3) ml_X8_45 ⟨Nat.le_of_ble_eq_true rfl, Nat.le_of_ble_eq_true rfl⟩ hP hD hS 0 rfl rfl rfl [0, 1] rfl rfl rfl rfl rfl hl.1 rfl (Nat.le_of_ble_eq_true rfl) ⟨Nat.zero_le _, Nat.zero_le _⟩ dX8_roomToward_3 ?_
  clear hP hD hS; intro H locs hP hD hS
  refine lv_iconst (v := 1) hx hb dX8_roomToward_6 (by decide) ?_
  refine lv_isub hx hb dX8_roomToward_7 ?_
  refine lv_istore_n (lv' := [(3, .int (r_3 - 1)), (0, .ref h), (1, .int p0), (2, .int p1)]) hx hb dX8_roomToward_8 rfl hl (by decide) rfl (fun ls hl => ?_)
  refine lv_iconst (v := 0) hx hb dX8_roomToward_9 (by decide) ?_
  refine lv_istore (lv' := [(4, .int 0), (3, .int (r_3 - 1)), (0, .ref h), (1, .int p0), (2, .int p1)]) hx hb dX8_roomToward_10 hl (by decide) rfl (fun ls hl => ?_)
  have key12 : ∀ (n : Nat) (x12_4 : Int32) , lp (BX8_roomToward_12 v_rooms N p0 v_steps p1 r_3) n x12_4 = some z0 → AT p l e (rmOf 1 22) s m args below meth c E A Q 5 [(0, .ref h), (1, .int p0), (2, .int p1), (3, .int (r_3 - 1)), (4, .int x12_4)] (wX8_roomToward E h h_steps v_rooms v_steps) 12 [] := by
    intro n
    induction n with
    | zero => intro x12_4 hf; exact (lp_0 hf).elim
    | succ n ih12 =>
      intro x12_4 hf H locs ls hl hP hD hS
      replace hf := lp_s hf
      generalize lp (BX8_roomToward_12 v_rooms N p0 v_steps p1 r_3) n = rec12 at ih12 hf
      unfold BX8_roomToward_12 at hf
      replace hf := un1_s hf
      refine lv_iload hx hb dX8_roomToward_12 (lv_at hl 4 rfl) ?_
      refine lv_aload_n hx hb dX8_roomToward_14 rfl (lv_at hl 0 rfl) ?_
      refine r_get C hP 0 rfl fl_X8_21 rfl dX8_roomToward_15 ?_
      refine lv_icmp_ge (tgt := 52) hx hb dX8_roomToward_18 (by decide) (fun c_18 => ?_) (fun c_18 => ?_)
      · replace hf := it_t c_18 hf
        refine lv_iconst (v := (-1)) hx hb dX8_roomToward_52 (by decide) ?_
        cases hf
        rw [hQ]
        exact r_iret C hr hP hD hS rfl dX8_roomToward_53
      · replace hf := it_f c_18 hf
        refine lv_aload_n hx hb dX8_roomToward_21 rfl (lv_at hl 0 rfl) ?_
        refine lv_iload_n hx hb dX8_roomToward_22 rfl (lv_at hl 1 rfl) ?_
        refine lv_iload hx hb dX8_roomToward_23 (lv_at hl 4 rfl) ?_
        obtain ⟨r_25, hc_25, hf⟩ := bd1 hf
        refine r_callVi (ws' := (wX8_roomToward E h h_steps v_rooms v_steps)) (As := [.int p0, .int x12_4]) (rest := []) C (ctX8_doorsFrom l E h h_steps v_rooms v_steps N p0 x12_4 r_25 hc_25) ml_X8_45 ⟨Nat.le_of_ble_eq_true rfl, Nat.le_of_ble_eq_true rfl⟩ hP hD hS 0 rfl rfl rfl [0, 1] rfl rfl rfl rfl rfl hl.1 rfl (Nat.le_of_ble_eq_true rfl) ⟨Nat.zero_le _, Nat.zero_le _⟩ dX8_roomToward_25 ?_
        clear hP hD hS; intro H locs hP hD hS
        refine lv_iconst (v := 1) hx hb dX8_roomToward_28 (by decide) ?_
        refine jnK hf (fun j46 ej46 hf => ?_)
        have hj46 : j46 () = some z0 → AT p l e (rmOf 1 22) s m args below meth c E A Q 5 [(0, .ref h), (1, .int p0), (2, .int p1), (3, .int (r_3 - 1)), (4, .int x12_4)] (wX8_roomToward E h h_steps v_rooms v_steps) 46 [] := by
          intro  hf H locs ls hl hP hD hS
          rw [ej46] at hf
          replace hf := un0_s hf
          refine lv_iinc (v := x12_4 + 1) (lv' := [(4, .int (x12_4 + 1)), (0, .ref h), (1, .int p0), (2, .int p1), (3, .int (r_3 - 1))]) hx hb dX8_roomToward_46 hl (k := 4) rfl rfl (by decide) rfl (fun ls hl => ?_)
          refine lv_goto (tgt := 12) hx hb dX8_roomToward_49 (by decide) ?_
          exact ih12 (x12_4 + 1) hf _ _ _ (lv_sub hl [1, 2, 3, 4, 0] rfl) hP hD hS
        clear ej46
        refine lv_icmp_ne (tgt := 46) hx hb dX8_roomToward_29 (by decide) (fun c_29 => ?_) (fun c_29 => ?_)
        · replace hf := it_f c_29 hf
          exact hj46  hf _ _ _ (lv_sub hl [0, 1, 2, 3, 4] rfl) hP hD hS
        · replace hf := it_t c_29 hf
          refine lv_aload_n hx hb dX8_roomToward_32 rfl (lv_at hl 0 rfl) ?_
          refine lv_iload hx hb dX8_roomToward_33 (lv_at hl 4 rfl) ?_
          refine lv_iload_n hx hb dX8_roomToward_35 rfl (lv_at hl 2 rfl) ?_
          obtain ⟨r_36, hc_36, hf⟩ := bd1 hf
          refine r_callVi (ws' := (wX8_roomToward E h h_steps v_rooms v_steps)) (As := [.int x12_4, .int p1]) (rest := []) C (ctX8_doorsFrom l E h h_steps v_rooms v_steps N x12_4 p1 r_36 hc_36) ml_X8_45 ⟨Nat.le_of_ble_eq_true rfl, Nat.le_of_ble_eq_true rfl⟩ hP hD hS 0 rfl rfl rfl [0, 1] rfl rfl rfl rfl rfl hl.1 rfl (Nat.le_of_ble_eq_true rfl) ⟨Nat.zero_le _, Nat.zero_le _⟩ dX8_roomToward_36 ?_
          clear hP hD hS; intro H locs hP hD hS
          refine lv_iload_n hx hb dX8_roomToward_39 rfl (lv_at hl 3 rfl) ?_
          refine lv_icmp_ne (tgt := 46) hx hb dX8_roomToward_40 (by decide) (fun c_40 => ?_) (fun c_40 => ?_)
          · replace hf := it_f c_40 hf
            exact hj46  hf _ _ _ (lv_sub hl [0, 1, 2, 3, 4] rfl) hP hD hS
          · replace hf := it_t c_40 hf
            refine lv_iload hx hb dX8_roomToward_43 (lv_at hl 4 rfl) ?_
            cases hf
            rw [hQ]
            exact r_iret C hr hP hD hS rfl dX8_roomToward_45
  exact key12 _ 0 hf _ _ _ (lv_sub hl [2, 3, 4, 1, 0] rfl) hP hD hS
def wX1_doorBetween (E : EN) (h h_creak h_cold h_one h_other h_how h_falls h_ways : Nat) (v_rooms : Int32) (v_doors : Int32) (v_one : Nat → Int32) (v_other : Nat → Int32) : va_W := [(h, .inr (1, [.int v_rooms, .ref h_creak, .ref h_cold, .int v_doors, .ref h_one, .ref h_other, .ref h_how, .ref h_falls, .ref h_ways])), (h_one, aI E 10 v_one), (h_other, aI E 10 v_other)]
def BX1_doorBetween_2 (v_doors : Int32) (v_one : Nat → Int32) (p1 : Int32) (v_other : Nat → Int32) (p0 : Int32) (rec2 : (Int32) → Option Int32) : (Int32) → Option Int32 := un1 fun (x2_3 : Int32) => if v_doors ≤ x2_3 then (some (-2)) else (gd x2_3 10 (jn (un0 (gd x2_3 10 (jn (un0 (rec2 (x2_3 + 1))) (fun j52 => if (v_one x2_3.toNatClampNeg) = p1 then (gd x2_3 10 (if (v_other x2_3.toNatClampNeg) = p0 then (some x2_3) else (j52 ()))) else (j52 ()))))) (fun j30 => if (v_one x2_3.toNatClampNeg) = p0 then (gd x2_3 10 (if (v_other x2_3.toNatClampNeg) = p1 then (some x2_3) else (j30 ()))) else (j30 ()))))
def fX1_doorBetween (N : Nat) (p0 : Int32) (p1 : Int32) (v_doors : Int32) (v_one : Nat → Int32) (v_other : Nat → Int32) : Option Int32 := lp (BX1_doorBetween_2 v_doors v_one p1 v_other p0) N 0
set_option maxHeartbeats 4000000 in
set_option maxRecDepth 100000 in
theorem ctX1_doorBetween (l : Launch) (E : EN) (h h_creak h_cold h_one h_other h_how h_falls h_ways : Nat) (v_rooms : Int32) (v_doors : Int32) (v_one : Nat → Int32) (v_other : Nat → Int32) (N : Nat) (p0 : Int32) (p1 : Int32) (z0 : Int32) (hf : fX1_doorBetween N p0 p1 v_doors v_one v_other = some z0) : CTi l E yX1_doorBetween cX1_doorBetween 4 .int 0 0 [.ref h, .int p0, .int p1] (wX1_doorBetween E h h_creak h_cold h_one h_other h_how h_falls h_ways v_rooms v_doors v_one v_other) z0 (wX1_doorBetween E h h_creak h_cold h_one h_other h_how h_falls h_ways v_rooms v_doors v_one v_other) := by
  intro sz
  refine ct_body (by decide) (Nat.le_of_ble_eq_true rfl) ?_
  intro p e s m args below meth c A ls hAe C hr hin hP hD hS hl
  have C : CX p s m args meth c cX1_doorBetween RX1 4 E A := C
  have hl : lv_has ls 4 [(0, .ref h), (1, .int p0), (2, .int p1)] := hl
  have hx := C.1
  have hb := C.2.1
  rw [hAe]
  clear hAe
  obtain ⟨Q, hQ⟩ : ∃ Q, Q = MQ below (Qi E A z0 (wX1_doorBetween E h h_creak h_cold h_one h_other h_how h_falls h_ways v_rooms v_doors v_one v_other)) args s 0 0 A := ⟨_, rfl⟩
  rw [← hQ]
  unfold fX1_doorBetween at hf
  refine lv_iconst (v := 0) hx hb dX1_doorBetween_0 (by decide) ?_
  refine lv_istore_n (lv' := [(3, .int 0), (0, .ref h), (1, .int p0), (2, .int p1)]) hx hb dX1_doorBetween_1 rfl hl (by decide) rfl (fun ls hl => ?_)
  have key2 : ∀ (n : Nat) (x2_3 : Int32) , lp (BX1_doorBetween_2 v_doors v_one p1 v_other p0) n x2_3 = some z0 → AT p l e (rmOf 0 0) s m args below meth c E A Q 4 [(0, .ref h), (1, .int p0), (2, .int p1), (3, .int x2_3)] (wX1_doorBetween E h h_creak h_cold h_one h_other h_how h_falls h_ways v_rooms v_doors v_one v_other) 2 [] := by
    intro n
    induction n with
    | zero => intro x2_3 hf; exact (lp_0 hf).elim
    | succ n ih2 =>
      intro x2_3 hf H locs ls hl hP hD hS
      replace hf := lp_s hf
      generalize lp (BX1_doorBetween_2 v_doors v_one p1 v_other p0) n = rec2 at ih2 hf
      unfold BX1_doorBetween_2 at hf
      replace hf := un1_s hf
      refine lv_iload_n hx hb dX1_doorBetween_2 rfl (lv_at hl 3 rfl) ?_
      refine lv_aload_n hx hb dX1_doorBetween_3 rfl (lv_at hl 0 rfl) ?_
      refine r_get C hP 0 rfl fl_X1_42 rfl dX1_doorBetween_4 ?_
      refine lv_icmp_ge (tgt := 58) hx hb dX1_doorBetween_7 (by decide) (fun c_7 => ?_) (fun c_7 => ?_)
      · replace hf := it_t c_7 hf
        refine lv_bipush (v := (-2)) hx hb dX1_doorBetween_58 (by decide) ?_
        cases hf
        rw [hQ]
        exact r_iret C hr hP hD hS rfl dX1_doorBetween_60
      · replace hf := it_f c_7 hf
        refine lv_aload_n hx hb dX1_doorBetween_10 rfl (lv_at hl 0 rfl) ?_
        refine r_get C hP 0 rfl fl_X1_19 rfl dX1_doorBetween_11 ?_
        refine lv_iload_n hx hb dX1_doorBetween_14 rfl (lv_at hl 3 rfl) ?_
        obtain ⟨hi_15, hf⟩ := gd_s hf
        refine r_iald C hP 1 rfl hi_15 dX1_doorBetween_15 ?_
        refine lv_iload_n hx hb dX1_doorBetween_16 rfl (lv_at hl 1 rfl) ?_
        refine jnK hf (fun j30 ej30 hf => ?_)
        have hj30 : j30 () = some z0 → AT p l e (rmOf 0 0) s m args below meth c E A Q 4 [(0, .ref h), (1, .int p0), (2, .int p1), (3, .int x2_3)] (wX1_doorBetween E h h_creak h_cold h_one h_other h_how h_falls h_ways v_rooms v_doors v_one v_other) 30 [] := by
          intro  hf H locs ls hl hP hD hS
          rw [ej30] at hf
          replace hf := un0_s hf
          refine lv_aload_n hx hb dX1_doorBetween_30 rfl (lv_at hl 0 rfl) ?_
          refine r_get C hP 0 rfl fl_X1_19 rfl dX1_doorBetween_31 ?_
          refine lv_iload_n hx hb dX1_doorBetween_34 rfl (lv_at hl 3 rfl) ?_
          obtain ⟨hi_35, hf⟩ := gd_s hf
          refine r_iald C hP 1 rfl hi_35 dX1_doorBetween_35 ?_
          refine lv_iload_n hx hb dX1_doorBetween_36 rfl (lv_at hl 2 rfl) ?_
          refine jnK hf (fun j52 ej52 hf => ?_)
          have hj52 : j52 () = some z0 → AT p l e (rmOf 0 0) s m args below meth c E A Q 4 [(0, .ref h), (1, .int p0), (2, .int p1), (3, .int x2_3)] (wX1_doorBetween E h h_creak h_cold h_one h_other h_how h_falls h_ways v_rooms v_doors v_one v_other) 52 [] := by
            intro  hf H locs ls hl hP hD hS
            rw [ej52] at hf
            replace hf := un0_s hf
            refine lv_iinc (v := x2_3 + 1) (lv' := [(3, .int (x2_3 + 1)), (0, .ref h), (1, .int p0), (2, .int p1)]) hx hb dX1_doorBetween_52 hl (k := 3) rfl rfl (by decide) rfl (fun ls hl => ?_)
            refine lv_goto (tgt := 2) hx hb dX1_doorBetween_55 (by decide) ?_
            exact ih2 (x2_3 + 1) hf _ _ _ (lv_sub hl [1, 2, 3, 0] rfl) hP hD hS
          clear ej52
          refine lv_icmp_ne (tgt := 52) hx hb dX1_doorBetween_37 (by decide) (fun c_37 => ?_) (fun c_37 => ?_)
          · replace hf := it_f c_37 hf
            exact hj52  hf _ _ _ (lv_sub hl [0, 1, 2, 3] rfl) hP hD hS
          · replace hf := it_t c_37 hf
            refine lv_aload_n hx hb dX1_doorBetween_40 rfl (lv_at hl 0 rfl) ?_
            refine r_get C hP 0 rfl fl_X1_22 rfl dX1_doorBetween_41 ?_
            refine lv_iload_n hx hb dX1_doorBetween_44 rfl (lv_at hl 3 rfl) ?_
            obtain ⟨hi_45, hf⟩ := gd_s hf
            refine r_iald C hP 2 rfl hi_45 dX1_doorBetween_45 ?_
            refine lv_iload_n hx hb dX1_doorBetween_46 rfl (lv_at hl 1 rfl) ?_
            refine lv_icmp_ne (tgt := 52) hx hb dX1_doorBetween_47 (by decide) (fun c_47 => ?_) (fun c_47 => ?_)
            · replace hf := it_f c_47 hf
              exact hj52  hf _ _ _ (lv_sub hl [0, 1, 2, 3] rfl) hP hD hS
            · replace hf := it_t c_47 hf
              refine lv_iload_n hx hb dX1_doorBetween_50 rfl (lv_at hl 3 rfl) ?_
              cases hf
              rw [hQ]
              exact r_iret C hr hP hD hS rfl dX1_doorBetween_51
        clear ej30
        refine lv_icmp_ne (tgt := 30) hx hb dX1_doorBetween_17 (by decide) (fun c_17 => ?_) (fun c_17 => ?_)
        · replace hf := it_f c_17 hf
          exact hj30  hf _ _ _ (lv_sub hl [0, 1, 2, 3] rfl) hP hD hS
        · replace hf := it_t c_17 hf
          refine lv_aload_n hx hb dX1_doorBetween_20 rfl (lv_at hl 0 rfl) ?_
          refine r_get C hP 0 rfl fl_X1_22 rfl dX1_doorBetween_21 ?_
          refine lv_iload_n hx hb dX1_doorBetween_24 rfl (lv_at hl 3 rfl) ?_
          obtain ⟨hi_25, hf⟩ := gd_s hf
          refine r_iald C hP 2 rfl hi_25 dX1_doorBetween_25 ?_
          refine lv_iload_n hx hb dX1_doorBetween_26 rfl (lv_at hl 2 rfl) ?_
          refine lv_icmp_eq (tgt := 50) hx hb dX1_doorBetween_27 (by decide) (fun c_27 => ?_) (fun c_27 => ?_)
          · replace hf := it_t c_27 hf
            refine lv_iload_n hx hb dX1_doorBetween_50 rfl (lv_at hl 3 rfl) ?_
            cases hf
            rw [hQ]
            exact r_iret C hr hP hD hS rfl dX1_doorBetween_51
          · replace hf := it_f c_27 hf
            exact hj30  hf _ _ _ (lv_sub hl [0, 1, 2, 3] rfl) hP hD hS
  exact key2 _ 0 hf _ _ _ (lv_sub hl [1, 2, 3, 0] rfl) hP hD hS
