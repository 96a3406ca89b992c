/-! an inn is told: the reference -/
theorem RD_cpy {I : Tb} {st : Nat} {set w : Nat → Int32} (hi : ib I) (h : RD I st w) : ∀ j, j ≤ 3 → RD I st (va_cpy set w 0 12 j) := by
  intro j
  induction j with
  | zero => intro _; rw [cpy_0]; exact h
  | succ j ih =>
    intro hj
    have e := cpy_s set w 0 12 j
    rw [Nat.zero_add] at e
    rw [← e]
    exact (ih (by omega)).u hi.cnt (by omega) _
theorem inn_160 {N S : Nat} (hN : 64 < N) (hS : S ≤ 3) (h_read : Nat) (v_at_64 : Int32) (v_sort_64 : Int32) (v_place_64 : Int32) (v_sign_64 : Int32) (v_number_64 : Int32) (v_fault_64 : Int32) (v_wrongAt_64 : Int32) (v_word_64 : Int64) (v_read_minutes_64 : Int32) (v_read_rooms_64 : Int32) (v_read_doors_64 : Int32) (v_read_things_64 : Int32) (v_read_dreams_64 : Int32) (v_read_listeners_64 : Int32) (v_read_names_64 : Int32) (v_read_name_64 : Nat → Int64) (v_read_nameNumber_64 : Nat → Int32) (v_read_nameSort_64 : Nat → Int32) (v_read_listens_64 : Nat → Int32) (v_read_bed_64 : Nat → Int32) (v_read_dream_64 : Nat → Int32) (v_read_isTold_64 : Nat → Int32) (v_read_act_64 : Nat → Int32) (v_read_what_64 : Nat → Int32) (v_read_then_64 : Nat → Int32) (v_read_met_64 : Nat → Int32) (v_read_lies_64 : Nat → Int32) (v_read_isFull_64 : Nat → Int32) (v_read_doorA_64 : Nat → Int32) (v_read_doorB_64 : Nat → Int32) (v_read_how_64 : Nat → Int32) (v_read_falls_64 : Nat → Int32) (v_read_creak_64 : Nat → Int32) (v_read_isCold_64 : Nat → Int32) (v_from_142 : Nat → Int32) (v_far_142 : Nat → Int32) (x141_set : Nat → Int32) (w : Nat → Int32) : lp (BX12_inn2_160 (nI S) N h_read v_at_64 v_sort_64 v_place_64 v_sign_64 v_number_64 v_fault_64 v_wrongAt_64 v_word_64 v_read_minutes_64 v_read_rooms_64 v_read_doors_64 v_read_things_64 v_read_dreams_64 v_read_listeners_64 v_read_names_64 v_read_name_64 v_read_nameNumber_64 v_read_nameSort_64 v_read_listens_64 v_read_bed_64 v_read_dream_64 v_read_isTold_64 v_read_act_64 v_read_what_64 v_read_then_64 v_read_met_64 v_read_lies_64 v_read_isFull_64 v_read_doorA_64 v_read_doorB_64 v_read_how_64 v_read_falls_64 v_read_creak_64 v_read_isCold_64 v_from_142 v_far_142 x141_set) N (0, w) = some (nI S, 0, -1, some h_read, v_at_64, v_sort_64, v_place_64, v_sign_64, v_number_64, v_fault_64, v_wrongAt_64, v_word_64, 0, 0, v_read_minutes_64, v_read_rooms_64, v_read_doors_64, v_read_things_64, v_read_dreams_64, nI S, v_read_listeners_64, v_read_names_64, v_read_name_64, v_read_nameNumber_64, v_read_nameSort_64, v_read_listens_64, v_read_bed_64, v_read_dream_64, v_read_isTold_64, v_read_act_64, v_read_what_64, v_read_then_64, v_read_met_64, v_read_lies_64, v_read_isFull_64, v_read_doorA_64, v_read_doorB_64, v_read_how_64, v_read_falls_64, v_read_creak_64, v_read_isCold_64, v_from_142, v_far_142, va_cpy x141_set w 0 12 S, x141_set) := by
  have h := lp_for (B := BX12_inn2_160 (nI S) N h_read v_at_64 v_sort_64 v_place_64 v_sign_64 v_number_64 v_fault_64 v_wrongAt_64 v_word_64 v_read_minutes_64 v_read_rooms_64 v_read_doors_64 v_read_things_64 v_read_dreams_64 v_read_listeners_64 v_read_names_64 v_read_name_64 v_read_nameNumber_64 v_read_nameSort_64 v_read_listens_64 v_read_bed_64 v_read_dream_64 v_read_isTold_64 v_read_act_64 v_read_what_64 v_read_then_64 v_read_met_64 v_read_lies_64 v_read_isFull_64 v_read_doorA_64 v_read_doorB_64 v_read_how_64 v_read_falls_64 v_read_creak_64 v_read_isCold_64 v_from_142 v_far_142 x141_set) (r := some (nI S, 0, -1, some h_read, v_at_64, v_sort_64, v_place_64, v_sign_64, v_number_64, v_fault_64, v_wrongAt_64, v_word_64, 0, 0, v_read_minutes_64, v_read_rooms_64, v_read_doors_64, v_read_things_64, v_read_dreams_64, nI S, v_read_listeners_64, v_read_names_64, v_read_name_64, v_read_nameNumber_64, v_read_nameSort_64, v_read_listens_64, v_read_bed_64, v_read_dream_64, v_read_isTold_64, v_read_act_64, v_read_what_64, v_read_then_64, v_read_met_64, v_read_lies_64, v_read_isFull_64, v_read_doorA_64, v_read_doorB_64, v_read_how_64, v_read_falls_64, v_read_creak_64, v_read_isCold_64, v_from_142, v_far_142, va_cpy x141_set w 0 12 S, x141_set)) (fun j => (nI j, va_cpy x141_set w 0 12 j)) S N (by omega) (fun j hj rec => ?_) (fun rec => ?_)
  · rw [cpy_0] at h
    exact h
  · have h3 : ¬ S ≤ j := by omega
    have u := cpy_s x141_set w 0 12 j
    rw [Nat.zero_add] at u
    simp (disch := omega) only [BX12_inn2_160, un2, nI_leI, h3, if_false, gd_nI, c12_add, nI_clamp, nI_1, u]
  · simp (disch := omega) only [BX12_inn2_160, un2, nI_leI, Nat.le_refl, if_true, fX12_good, bd_some, un3]
theorem inn_109 {N S : Nat} (hN : 64 < N) (hS : S ≤ 3) (dream set : Nat → Int32) (K : ((Nat → Int32)) → Option (Int32 × Int32 × Int32 × Option Nat × Int32 × Int32 × Int32 × Int32 × Int32 × Int32 × Int32 × Int64 × Int32 × Int32 × Int32 × Int32 × Int32 × Int32 × Int32 × Int32 × Int32 × Int32 × (Nat → Int64) × (Nat → Int32) × (Nat → Int32) × (Nat → Int32) × (Nat → Int32) × (Nat → Int32) × (Nat → Int32) × (Nat → Int32) × (Nat → Int32) × (Nat → Int32) × (Nat → Int32) × (Nat → Int32) × (Nat → Int32) × (Nat → Int32) × (Nat → Int32) × (Nat → Int32) × (Nat → Int32) × (Nat → Int32) × (Nat → Int32) × (Nat → Int32) × (Nat → Int32) × (Nat → Int32) × (Nat → Int32))) : lp (BX12_inn2_109 (nI S) dream K) N (0, set) = K (va_cpy dream set 0 0 S) := by
  have h := lp_for (B := BX12_inn2_109 (nI S) dream K) (r := K (va_cpy dream set 0 0 S)) (fun j => (nI j, va_cpy dream set 0 0 j)) S N (by omega) (fun j hj rec => ?_) (fun rec => ?_)
  · rw [cpy_0] at h
    exact h
  · have h3 : ¬ S ≤ j := by omega
    have u := cpy_s dream set 0 0 j
    rw [Nat.zero_add] at u
    simp (disch := omega) only [BX12_inn2_109, un2, nI_leI, h3, if_false, gd_nI, nI_clamp, nI_1, u]
  · simp (disch := omega) only [BX12_inn2_109, un2, nI_leI, Nat.le_refl, if_true]
set_option maxHeartbeats 1000000 in
theorem r_innS {N n : Nat} {J : Tb} {rminutes rrooms rdoors rthings rdreams rsleepers rlisteners rnames : Int32} {rname : Nat → Int64} {rnum rsort rlistens rbed rdream risTold ract rwhat rthen rmet rlies rfull rA rB rhow rfalls rcreak rcold b : Nat → Int32} {pl sg nb wa : Int32} {wd : Int64} {r0 r' : RTok} (hN : 64 < N) (hi : ib J) (hR : RI J rminutes rrooms rdoors rthings rdreams rsleepers rlisteners rlistens rbed rdream risTold ract rwhat rthen rmet rlies rfull rA rB rhow rfalls rcreak rcold) (hg : fX12_goesOn N (nI n) 0 0 pl sg nb wd b = some r0) (hr : fX12_readInn N (nI n) r0.1 r0.2.1 r0.2.2.1 r0.2.2.2.1 r0.2.2.2.2.1 0 wa r0.2.2.2.2.2 0 0 0 0 0 0 0 0 b (fun _ => 0) (fun _ => 0) (fun _ => 0) (fun _ => 0) (fun _ => 0) (fun _ => 0) (fun _ => 0) (fun _ => 0) (fun _ => 0) (fun _ => 0) (fun _ => 0) (fun _ => 0) (fun _ => 0) (fun _ => 0) (fun _ => 0) (fun _ => 0) (fun _ => 0) (fun _ => 0) (fun _ => 0) = some (r'.1, r'.2.1, r'.2.2.1, r'.2.2.2.1, r'.2.2.2.2.1, 0, wa, r'.2.2.2.2.2, rminutes, rrooms, rdoors, rthings, rdreams, rsleepers, rlisteners, rnames, rname, rnum, rsort, rlistens, rbed, rdream, risTold, ract, rwhat, rthen, rmet, rlies, rfull, rA, rB, rhow, rfalls, rcreak, rcold)) (vi : Option Nat) (marks notes : Int32) (fr far real set : Nat → Int32) :
    ∃ fr' far' real' set', (∀ q, fX12_inn2 N vi (nI n) 0 pl sg nb 0 wa wd marks notes b 0 0 0 0 0 0 0 0 (fun _ => 0) (fun _ => 0) (fun _ => 0) (fun _ => 0) (fun _ => 0) (fun _ => 0) (fun _ => 0) (fun _ => 0) (fun _ => 0) (fun _ => 0) (fun _ => 0) (fun _ => 0) (fun _ => 0) (fun _ => 0) (fun _ => 0) (fun _ => 0) (fun _ => 0) (fun _ => 0) (fun _ => 0) fr far real set q = some (nI (J 0 4), 0, -1, some q, r'.1, r'.2.1, r'.2.2.1, r'.2.2.2.1, r'.2.2.2.2.1, 0, wa, r'.2.2.2.2.2, 0, 0, rminutes, rrooms, rdoors, rthings, rdreams, rsleepers, rlisteners, rnames, rname, rnum, rsort, rlistens, rbed, rdream, risTold, ract, rwhat, rthen, rmet, rlies, rfull, rA, rB, rhow, rfalls, rcreak, rcold, fr', far', real', set')) ∧ RAll J rhow rlies rfull rbed risTold ract rwhat rthen rmet rA rB rfalls rcreak rcold rlistens far' ∧ RN J (nf J 0 (J 15)) real' ∧ ∀ s, s < J 0 4 → set' s = nI (J 15 s) := by
  have hS := hi.S
  obtain ⟨⟨rfl, rfl, rfl, rfl, rfl, rfl, rfl⟩, i1, i2, i3, i4, i5, i6⟩ := hR
  obtain ⟨fr', far', hl, hfar⟩ := lays_ok (N := N) (rA := rA) (rB := rB) hN hi (fun i h => (i2 i h).1) (fun i h => (i2 i h).2.1) fr far
  obtain ⟨w1, f1, f2, _⟩ := fallsNight_ok (N := N) (st := 0) (how := rhow) (lies := rlies) (isFull := rfull) (bed := rbed) hN hi (by omega) (fun i h => (i2 i h).2.2.1) i4 (fun i h => (i5 i h).1) real
  have hset : ∀ s, s < J 0 4 → va_cpy rdream set 0 0 (J 0 4) s = nI (J 15 s) := fun s hs => by rw [cpy_i hs]; exact (i5 s hs).2
  refine ⟨fr', far', va_cpy (va_cpy rdream set 0 0 (J 0 4)) w1 0 12 (J 0 4), va_cpy rdream set 0 0 (J 0 4), fun q => ?_, ⟨fun i h => (i2 i h).2.2.1, i4, fun i h => (i5 i h).1, i1, fun i h => (i2 i h).1, fun i h => (i2 i h).2.1, fun i h => (i2 i h).2.2.2, fun i h => (i3 i h).1, fun i h => (i3 i h).2, i6, hfar⟩, (RD_cpy hi f2 _ hS).rn (fun s hs => ?_), hset⟩
  · unfold fX12_inn2
    rw [hg, bd_some]
    dsimp only [un6]
    rw [hr, bd_some]
    dsimp only [un35]
    rw [if_pos (show (0 : Int32) ≤ 0 by decide), inn_109 hN hS]
    dsimp only [un1]
    rw [hl, bd_some]
    dsimp only [un2]
    rw [show (0 : Int32) = nI 0 from rfl, f1, bd_some]
    dsimp only [un1]
    exact inn_160 hN hS _ _ _ _ _ _ _ _ _ _ _ _ _ _ _ _ _ _ _ _ _ _ _ _ _ _ _ _ _ _ _ _ _ _ _ _ _ _ _
  · rw [cpy_in hs, Nat.zero_add]
    exact hset s hs
theorem FT.pos {f : Int32} (h : FT f) : ¬ f ≤ 0 ∧ ¬ f = 0 := by
  obtain ⟨q, rfl, h1, h2⟩ := h
  constructor
  · intro e
    exact absurd ((nI_leI (a := q) (b := 0) (by omega) (by omega)).mp e) (by omega)
  · intro e
    exact absurd ((nI_eq (a := q) (b := 0) (by omega) (by omega)).mp e) (by omega)
set_option maxHeartbeats 1000000 in
theorem r_innF {N n : Nat} {f : Int32} {b : Nat → Int32} {pl sg nb wa : Int32} {wd : Int64} {r0 : RTok} {y} (hf : FT f) (hg : fX12_goesOn N (nI n) 0 0 pl sg nb wd b = some r0) (hr : fX12_readInn N (nI n) r0.1 r0.2.1 r0.2.2.1 r0.2.2.2.1 r0.2.2.2.2.1 0 wa r0.2.2.2.2.2 0 0 0 0 0 0 0 0 b (fun _ => 0) (fun _ => 0) (fun _ => 0) (fun _ => 0) (fun _ => 0) (fun _ => 0) (fun _ => 0) (fun _ => 0) (fun _ => 0) (fun _ => 0) (fun _ => 0) (fun _ => 0) (fun _ => 0) (fun _ => 0) (fun _ => 0) (fun _ => 0) (fun _ => 0) (fun _ => 0) (fun _ => 0) = some y) (hy : y.2.2.2.2.2.1 = f) (vi : Option Nat) (marks notes : Int32) (fr far real set : Nat → Int32) (q : Nat) :
    fX12_inn2 N vi (nI n) 0 pl sg nb 0 wa wd marks notes b 0 0 0 0 0 0 0 0 (fun _ => 0) (fun _ => 0) (fun _ => 0) (fun _ => 0) (fun _ => 0) (fun _ => 0) (fun _ => 0) (fun _ => 0) (fun _ => 0) (fun _ => 0) (fun _ => 0) (fun _ => 0) (fun _ => 0) (fun _ => 0) (fun _ => 0) (fun _ => 0) (fun _ => 0) (fun _ => 0) (fun _ => 0) fr far real set q = some (-1, 4, y.2.2.2.2.2.2.1, vi, y.1, y.2.1, y.2.2.1, y.2.2.2.1, y.2.2.2.2.1, y.2.2.2.2.2.1, y.2.2.2.2.2.2.1, y.2.2.2.2.2.2.2.1, marks, notes, y.2.2.2.2.2.2.2.2.1, y.2.2.2.2.2.2.2.2.2.1, y.2.2.2.2.2.2.2.2.2.2.1, y.2.2.2.2.2.2.2.2.2.2.2.1, y.2.2.2.2.2.2.2.2.2.2.2.2.1, y.2.2.2.2.2.2.2.2.2.2.2.2.2.1, y.2.2.2.2.2.2.2.2.2.2.2.2.2.2.1, y.2.2.2.2.2.2.2.2.2.2.2.2.2.2.2.1, y.2.2.2.2.2.2.2.2.2.2.2.2.2.2.2.2.1, y.2.2.2.2.2.2.2.2.2.2.2.2.2.2.2.2.2.1, y.2.2.2.2.2.2.2.2.2.2.2.2.2.2.2.2.2.2.1, y.2.2.2.2.2.2.2.2.2.2.2.2.2.2.2.2.2.2.2.1, y.2.2.2.2.2.2.2.2.2.2.2.2.2.2.2.2.2.2.2.2.1, y.2.2.2.2.2.2.2.2.2.2.2.2.2.2.2.2.2.2.2.2.2.1, y.2.2.2.2.2.2.2.2.2.2.2.2.2.2.2.2.2.2.2.2.2.2.1, y.2.2.2.2.2.2.2.2.2.2.2.2.2.2.2.2.2.2.2.2.2.2.2.1, y.2.2.2.2.2.2.2.2.2.2.2.2.2.2.2.2.2.2.2.2.2.2.2.2.1, y.2.2.2.2.2.2.2.2.2.2.2.2.2.2.2.2.2.2.2.2.2.2.2.2.2.1, y.2.2.2.2.2.2.2.2.2.2.2.2.2.2.2.2.2.2.2.2.2.2.2.2.2.2.1, y.2.2.2.2.2.2.2.2.2.2.2.2.2.2.2.2.2.2.2.2.2.2.2.2.2.2.2.1, y.2.2.2.2.2.2.2.2.2.2.2.2.2.2.2.2.2.2.2.2.2.2.2.2.2.2.2.2.1, y.2.2.2.2.2.2.2.2.2.2.2.2.2.2.2.2.2.2.2.2.2.2.2.2.2.2.2.2.2.1, y.2.2.2.2.2.2.2.2.2.2.2.2.2.2.2.2.2.2.2.2.2.2.2.2.2.2.2.2.2.2.1, y.2.2.2.2.2.2.2.2.2.2.2.2.2.2.2.2.2.2.2.2.2.2.2.2.2.2.2.2.2.2.2.1, y.2.2.2.2.2.2.2.2.2.2.2.2.2.2.2.2.2.2.2.2.2.2.2.2.2.2.2.2.2.2.2.2.1, y.2.2.2.2.2.2.2.2.2.2.2.2.2.2.2.2.2.2.2.2.2.2.2.2.2.2.2.2.2.2.2.2.2.1, y.2.2.2.2.2.2.2.2.2.2.2.2.2.2.2.2.2.2.2.2.2.2.2.2.2.2.2.2.2.2.2.2.2.2, fr, far, real, set) := by
  unfold fX12_inn2
  rw [hg, bd_some]
  dsimp only [un6]
  rw [hr, bd_some]
  dsimp only [un35]
  rw [if_neg (by rw [hy]; exact hf.pos.1)]
