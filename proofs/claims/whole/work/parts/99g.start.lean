/-! from the law's entry to the claim (the frame of these rows began as the given skeleton) -/
def R_law : String := "NightInnLaw"
def lw_P (b : Addr) (xs : List Int32) (args : Array Value) (s : State) : Prop := args = #[.ref b] ∧ s.IntsAt b xs ∧ xs.length ≤ 384 ∧ (Jvm.Cond.and given_1 narrow_1).before args s = true
def lw_Q (_ : Array Value) (s : State) (o : Outcome) (t : State) : Prop := o = .returned (some (.int 1)) ∧ Framed s o t [] 600128 7301098
def lw_Z (below : List Frame) (a : Array Value) (s : State) : State → Prop := fun t => ∃ o, t.status = .running ∧ Ended t below o ∧ lw_Q a s o t
/-- the law's own end, with 1 on the stack, nothing written that was there before, its room as the claim has it -/
theorem lw_ret {p : Program} {l : Launch} {e : Env} {s : State} {m : MethodId} {below : List Frame} {meth : Method} {c : Code} {b : Nat} (hx : p.tables.exec = Jvm.exec) (hb : c.code = code) (hr : meth.sig.returnType = ret) (hlocks : meth.locks = false) {pc : Nat} {H : Heap} {ls : Array Slot} (hdg : decode code pc = .ok (.ireturn, 1)) : W p l e room_1 s m #[Value.ref b] below meth c H [] 600128 7301098 (lw_Z below #[Value.ref b] s) (F0 m pc ls [.int 1]) := by
  intro T hT X
  obtain ⟨fs, hret, hrun, hended, hW, hframe⟩ := X.leave (v := some (.int 1)) (hlocks := hlocks) (fun h => by rw [hr] at h; cases h)
  have hmeth' : T.vm.method? m = some meth := X.method'
  refine ⟨T.setFrames fs, ?_, .returned (some (.int 1)), hrun, hended, rfl, ⟨_, rfl⟩, hW, hframe⟩
  jvm_step X.here [X.here.top, hx, hb, hdg, hmeth', hr, ret, narrow_b1]
  (try refine ⟨rfl, ?_⟩); (try refine ⟨rfl, ?_⟩)
  first | (intro acts; rw [hret _ acts rfl rfl rfl]) | rw [hret _ _ rfl rfl rfl]
  exact Steps.refl _
/-- what holds at the law's entry: the machine, the code, the tables' words (any of lw_tbl by 'hts w (by decide +kernel)'), the script of L ints xs at the cell b, what the Statement gives of the start (any of its parts by flat_of_before) -/
def lw_At (p : Program) (s : State) (m : MethodId) (meth : Method) (c : Code) (b L : Nat) (xs : Nat → Int32) : Prop :=
  p.tables.exec = Jvm.exec ∧ c.code = code ∧ meth.sig.returnType = ret ∧ c.maxLocals = 7 ∧ s.vm.findClass R_law = some m.cls ∧ (∀ w ∈ lw_tbl, w.before #[Value.ref b] s = true) ∧ va_X b L xs s s.heap ∧ b < s.heap.size ∧ meth.locks = false ∧ (Jvm.Cond.and given_1 narrow_1).before #[Value.ref b] s = true
theorem nl_L_8 : NL RL 8 9 11 [.null, .null, .null, .null, .null, .int 0, .null, .null, .int 0, .int 0, .int 0] := ⟨RX10, TX10, tyX10, rfl, gwX_X10, tyX10_ok, gw_t 28 (by decide +kernel) rfl, gw_t 29 (by decide +kernel) rfl, gw_t 1 (by decide +kernel) rfl, by decide +kernel⟩
theorem nl_L_16 : NL RL 16 11 35 [.int 0, .int 0, .int 0, .null, .null, .null, .int 0, .int 0, .int 0, .int 0, .int 0, .int 0, .int 0, .int 0, .int 0, .long 0, .null, .null, .null, .null, .null, .null, .null, .int 0, .int 0, .null, .null, .null, .null, .null, .null, .null, .null, .null, .null] := ⟨RX12, TX12, tyX12, rfl, gwX_X12, tyX12_ok, gw_t 1182 (by decide +kernel) rfl, gw_t 1183 (by decide +kernel) rfl, gw_t 11 (by decide +kernel) rfl, by decide +kernel⟩
theorem mi_L_15 : MLI RL 15 yX10_init cX10_init 2 0 := ⟨⟨Or.inl (gw_t 30 (by decide +kernel) rfl), gw_t 31 (by decide +kernel) rfl, gw_t 1 (by decide +kernel) rfl, gw_t 32 (by decide +kernel) rfl⟩, rfl, by decide, by decide, by decide +kernel⟩
theorem mi_L_18 : MLI RL 18 yX12_init cX12_init 1 0 := ⟨⟨Or.inl (gw_t 1184 (by decide +kernel) rfl), gw_t 1185 (by decide +kernel) rfl, gw_t 11 (by decide +kernel) rfl, gw_t 1186 (by decide +kernel) rfl⟩, rfl, by decide, by decide, by decide +kernel⟩
theorem dL_law_0 : decode code 0 = .ok (.new 8, 3) := by decide +kernel
theorem dL_law_3 : decode code 3 = .ok (.dup, 1) := by decide +kernel
theorem dL_law_4 : decode code 4 = .ok (.invokespecial 15, 3) := by decide +kernel
theorem dL_law_7 : decode code 7 = .ok (.astore_n 1, 1) := by decide +kernel
theorem dL_law_8 : decode code 8 = .ok (.new 16, 3) := by decide +kernel
theorem dL_law_11 : decode code 11 = .ok (.dup, 1) := by decide +kernel
theorem dL_law_12 : decode code 12 = .ok (.invokespecial 18, 3) := by decide +kernel
theorem dL_law_15 : decode code 15 = .ok (.astore_n 2, 1) := by decide +kernel
theorem dL_law_16 : decode code 16 = .ok (.iconst 1, 1) := by decide +kernel
theorem dL_law_17 : decode code 17 = .ok (.newarray .long, 2) := by decide +kernel
theorem dL_law_19 : decode code 19 = .ok (.astore_n 3, 1) := by decide +kernel
theorem dL_law_20 : decode code 20 = .ok (.iconst 0, 1) := by decide +kernel
theorem dL_law_21 : decode code 21 = .ok (.istore 4, 2) := by decide +kernel
theorem arrV_ext {c : ClassId} {N : Nat} {f g : Nat → Value} (h : ∀ j, j < N → f j = g j) : arrV c N f = arrV c N g := by
  unfold arrV
  congr 1
  congr 1
  funext j
  exact h j.val j.isLt
theorem mkQ (cA : ClassId) (a b c : Nat) : vp_cell cA (3, .inr (.inr (.inr (.inr (va_up (va_up (va_up (fun _ => none) (0 : Int32).toNatClampNeg (some a)) (1 : Int32).toNatClampNeg (some b)) (2 : Int32).toNatClampNeg (some c)))))) = vp_cell cA (3, .inr (.inr (.inr (.inr (mk3 a b c))))) := by
  show arrV cA 3 (fun j => va_rf (va_up (va_up (va_up (fun _ => none) (0 : Int32).toNatClampNeg (some a)) (1 : Int32).toNatClampNeg (some b)) (2 : Int32).toNatClampNeg (some c) j)) = arrV cA 3 (fun j => va_rf (mk3 a b c j))
  refine arrV_ext (fun j hj => ?_)
  have hc : j = 0 ∨ j = 1 ∨ j = 2 := by omega
  rcases hc with rfl | rfl | rfl <;> rfl
theorem va_D_subf {A : Nat → Prop} {ws ws' : va_W} (hD : va_D A ws) (is : List Nat) (hn : va_nd is = true) (hs : is.map (fun i => (ws[i]?).map (fun q => q.1)) = ws'.map (fun q => some q.1)) : va_D A ws' := by
  have key : ∀ (is : List Nat) (ws' : va_W), is.map (fun i => (ws[i]?).map (fun q => q.1)) = ws'.map (fun q => some q.1) → ∃ w2 : va_W, is.map (fun i => ws[i]?) = w2.map some ∧ w2.map (fun q => q.1) = ws'.map (fun q => q.1) := by
    intro is
    induction is with
    | nil => intro ws' h; cases ws' with
      | nil => exact ⟨[], rfl, rfl⟩
      | cons a l => cases h
    | cons i is ih => intro ws' h; cases ws' with
      | nil => cases h
      | cons a l =>
        have h1 : (ws[i]?).map (fun q => q.1) = some a.1 := (List.cons.inj h).1
        obtain ⟨w2, e1, e2⟩ := ih l (List.cons.inj h).2
        cases hq : ws[i]? with
        | none => rw [hq] at h1; cases h1
        | some x =>
          rw [hq] at h1
          refine ⟨x :: w2, ?_, ?_⟩
          · rw [List.map_cons, List.map_cons, e1, hq]
          · rw [List.map_cons, List.map_cons, e2]
            have h4 : x.1 = a.1 := Option.some.inj h1
            rw [h4]
  obtain ⟨w2, e1, e2⟩ := key is ws' hs
  have h2 := hD.sub is hn e1
  have at2 : ∀ (k : Nat) (q : Nat × va_E), ws'[k]? = some q → ∃ p, w2[k]? = some p ∧ p.1 = q.1 := by
    intro k q hk
    have h3 : (ws'.map (fun q => q.1))[k]? = some q.1 := by rw [List.getElem?_map, hk]; rfl
    rw [← e2, List.getElem?_map] at h3
    cases hw : w2[k]? with
    | none => rw [hw] at h3; cases h3
    | some p => rw [hw] at h3; exact ⟨p, rfl, Option.some.inj h3⟩
  refine ⟨fun i j p q hi hj e => ?_, fun k q hk => ?_⟩
  · obtain ⟨p2, a1, a2⟩ := at2 i p hi
    obtain ⟨q2, b1, b2⟩ := at2 j q hj
    exact h2.1 i j p2 q2 a1 b1 (a2.trans (e.trans b2.symm))
  · obtain ⟨p2, a1, a2⟩ := at2 k q hk
    rw [← a2]
    exact h2.2 k p2 a1
set_option maxHeartbeats 8000000 in
set_option maxRecDepth 100000 in
theorem whole_start {p : Program} {e : Env} {s : State} {m : MethodId} {below : List Frame} {meth : Method} {c : Code} (l : Launch) (hl9 : l.stackTraces = false) {b L : Nat} {xs : Nat → Int32} (hL : L ≤ 384) (C0 : lw_At p s m meth c b L xs) : W p l e room_1 s m #[Value.ref b] below meth c s.heap [] 0 0 (lw_Z below #[Value.ref b] s) (entryFrame m ([Value.ref b] : List Value).toArray 7) := by
  obtain ⟨hx, hb, hr, hml, hown, hts, hX, hbl, hlocks, hgv⟩ := id C0
  obtain ⟨A, hAd⟩ : ∃ A : Nat → Prop, A = fun q => s.heap.size ≤ q := ⟨_, rfl⟩
  have hbA : ¬ A b := by rw [hAd]; exact Nat.not_le.mpr hbl
  obtain ⟨E, hK, hKX, hTh⟩ := env_ok (A := A) hts hgv (fun a h => by rw [hAd]; exact Nat.not_le.mpr h)
  have hAO : va_AO "NightInn$Night" s := va_AO.of (hts _ (nw_t 323 (by decide +kernel)))
  have C : CX p s m #[Value.ref b] meth c code RL 7 E A := ⟨hx, hb, hml, hown, fun w hw => hts w (List.mem_filter.mp hw).1, hK, nw_ok hts, hKX, fun q h => by rw [hAd]; exact h, hlocks⟩
  have hS : va_S A s.heap s.heap [] := va_S.rf
  have hP : va_P E.1 CLS [] s.heap := fun k q h => by simp at h
  have hD : va_D A [] := ⟨fun i j p q h => by simp at h, fun k q h => by simp at h⟩
  have hl := lv_entry ([.ref b]) (n := 7) (Nat.le_of_ble_eq_true rfl)
  rw [lg_entry_eq]
  generalize (lg_sl ([.ref b]) ++ List.replicate (7 - (lg_sl ([.ref b])).length) Slot.unset).toArray = ls at hl ⊢
  have hl : lv_has ls 7 [(0, .ref b)] := hl
  obtain ⟨Q, hQ⟩ : ∃ Q, Q = lw_Z below #[Value.ref b] s := ⟨_, rfl⟩
  rw [← hQ]
  refine r_new (pc := 0) C hP hD hS nl_L_8 (Nat.le_of_ble_eq_true rfl) (Nat.le_of_ble_eq_true rfl) dL_law_0 ?_
  clear hP hD hS; intro xa H hP hD hS
  refine lv_dup (pc := 3) hx hb dL_law_3 rfl ?_
  refine r_dalO (pc := 4) (wr := []) (As := []) (rest := [.ref xa]) C hAO (ctX10_init l E xa) mi_L_15 ⟨Nat.le_of_ble_eq_true rfl, Nat.le_of_ble_eq_true rfl⟩ hP hD hS [0] [] rfl rfl rfl rfl (by decide) rfl hl.1 rfl (Nat.le_of_ble_eq_true rfl) ⟨Nat.le_of_ble_eq_true rfl, Nat.le_of_ble_eq_true rfl⟩ dL_law_4 ?_
  clear hP hD hS; intro w1 hw1
  refine Exists.elim hw1 (fun q0 hw1 => ?_)
  refine Exists.elim hw1 (fun q1 hw1 => ?_)
  refine Exists.elim hw1 (fun q2 hw1 => ?_)
  refine Exists.elim hw1 (fun q3 hw1 => ?_)
  refine Exists.elim hw1 (fun q4 hw1 => ?_)
  refine Exists.elim hw1 (fun q5 hw1 => ?_)
  refine Exists.elim hw1 (fun q6 hw1 => ?_)
  refine Exists.elim hw1 (fun q7 hw1 => ?_)
  refine Exists.elim hw1 (fun q8 hw1 => ?_)
  refine Exists.elim hw1 (fun q9 hw1 => ?_)
  refine Exists.elim hw1 (fun q10 hw1 => ?_)
  refine Exists.elim hw1 (fun q11 hw1 => ?_)
  refine Exists.elim hw1 (fun q12 hw1 => ?_)
  refine Exists.elim hw1 (fun q13 hw1 => ?_)
  refine Exists.elim hw1 (fun q14 hw1 => ?_)
  refine Exists.elim hw1 (fun q15 hw1 => ?_)
  refine Exists.elim hw1 (fun q16 hw1 => ?_)
  refine Exists.elim hw1 (fun q17 hw1 => ?_)
  refine Exists.elim hw1 (fun q18 hw1 => ?_)
  refine Exists.elim hw1 (fun q19 hw1 => ?_)
  refine Exists.elim hw1 (fun q20 hw1 => ?_)
  refine Exists.elim hw1 (fun q21 hw1 => ?_)
  refine Exists.elim hw1 (fun q22 hw1 => ?_)
  refine Exists.elim hw1 (fun q23 hw1 => ?_)
  refine Exists.elim hw1 (fun q24 hw1 => ?_)
  refine Exists.elim hw1 (fun q25 hw1 => ?_)
  refine Exists.elim hw1 (fun q26 hw1 => ?_)
  refine Exists.elim hw1 (fun q27 hw1 => ?_)
  refine Exists.elim hw1 (fun q28 hw1 => ?_)
  refine Exists.elim hw1 (fun q29 hw1 => ?_)
  refine Exists.elim hw1 (fun q30 hw1 => ?_)
  refine Exists.elim hw1 (fun q31 hw1 => ?_)
  refine Exists.elim hw1 (fun q32 hw1 => ?_)
  refine Exists.elim hw1 (fun q33 hw1 => ?_)
  refine Exists.elim hw1 (fun q34 hw1 => ?_)
  refine Exists.elim hw1 (fun q35 hw1 => ?_)
  refine Exists.elim hw1 (fun q36 hw1 => ?_)
  refine Exists.elim hw1 (fun q37 hw1 => ?_)
  refine Exists.elim hw1 (fun q38 hw1 => ?_)
  refine Exists.elim hw1 (fun q39 hw1 => ?_)
  refine Exists.elim hw1 (fun q40 hw1 => ?_)
  refine Exists.elim hw1 (fun q41 hw1 => ?_)
  refine Exists.elim hw1 (fun q42 hw1 => ?_)
  refine Exists.elim hw1 (fun q43 hw1 => ?_)
  refine Exists.elim hw1 (fun q44 hw1 => ?_)
  refine Exists.elim hw1 (fun q45 hw1 => ?_)
  refine Exists.elim hw1 (fun q46 hw1 => ?_)
  refine Exists.elim hw1 (fun q47 hw1 => ?_)
  refine Exists.elim hw1 (fun q48 hw1 => ?_)
  refine Exists.elim hw1 (fun q49 hw1 => ?_)
  refine Exists.elim hw1 (fun q50 hw1 => ?_)
  refine Exists.elim hw1 (fun q51 hw1 => ?_)
  refine Exists.elim hw1 (fun q52 hw1 => ?_)
  refine Exists.elim hw1 (fun q53 hw1 => ?_)
  refine Exists.elim hw1 (fun q54 hw1 => ?_)
  refine Exists.elim hw1 (fun q55 hw1 => ?_)
  refine Exists.elim hw1 (fun q56 hw1 => ?_)
  refine Exists.elim hw1 (fun q57 hw1 => ?_)
  refine Exists.elim hw1 (fun q58 hw1 => ?_)
  refine Exists.elim hw1 (fun q59 hw1 => ?_)
  refine Exists.elim hw1 (fun q60 hw1 => ?_)
  refine Exists.elim hw1 (fun q61 hw1 => ?_)
  refine Exists.elim hw1 (fun q62 hw1 => ?_)
  refine Exists.elim hw1 (fun q63 hw1 => ?_)
  refine Exists.elim hw1 (fun q64 hw1 => ?_)
  refine Exists.elim hw1 (fun q65 hw1 => ?_)
  refine Exists.elim hw1 (fun q66 hw1 => ?_)
  refine Exists.elim hw1 (fun q67 hw1 => ?_)
  refine Exists.elim hw1 (fun q68 hw1 => ?_)
  refine Exists.elim hw1 (fun q69 hw1 => ?_)
  refine Exists.elim hw1 (fun q70 hw1 => ?_)
  refine Exists.elim hw1 (fun q71 hw1 => ?_)
  refine Exists.elim hw1 (fun q72 hw1 => ?_)
  refine Exists.elim hw1 (fun q73 hw1 => ?_)
  refine Exists.elim hw1 (fun q74 hw1 => ?_)
  refine Exists.elim hw1 (fun q75 hw1 => ?_)
  refine Exists.elim hw1 (fun q76 hw1 => ?_)
  refine Exists.elim hw1 (fun q77 hw1 => ?_)
  refine Exists.elim hw1 (fun q78 hw1 => ?_)
  refine Exists.elim hw1 (fun q79 hw1 => ?_)
  refine Exists.elim hw1 (fun q80 hw1 => ?_)
  refine Exists.elim hw1 (fun q81 hw1 => ?_)
  refine Exists.elim hw1 (fun q82 hw1 => ?_)
  refine Exists.elim hw1 (fun q83 hw1 => ?_)
  refine Exists.elim hw1 (fun q84 hw1 => ?_)
  refine Exists.elim hw1 (fun q85 hw1 => ?_)
  refine Exists.elim hw1 (fun q86 hw1 => ?_)
  refine Exists.elim hw1 (fun q87 hw1 => ?_)
  refine Exists.elim hw1 (fun q88 hw1 => ?_)
  refine Exists.elim hw1 (fun q89 hw1 => ?_)
  refine Exists.elim hw1 (fun q90 hw1 => ?_)
  refine Exists.elim hw1 (fun q91 hw1 => ?_)
  refine Exists.elim hw1 (fun q92 hw1 => ?_)
  refine Exists.elim hw1 (fun q93 hw1 => ?_)
  refine Exists.elim hw1 (fun q94 hw1 => ?_)
  refine Exists.elim hw1 (fun q95 hw1 => ?_)
  refine Exists.elim hw1 (fun q96 hw1 => ?_)
  refine Exists.elim hw1 (fun q97 hw1 => ?_)
  refine Exists.elim hw1 (fun q98 hw1 => ?_)
  refine Exists.elim hw1 (fun q99 hw1 => ?_)
  refine Exists.elim hw1 (fun q100 hw1 => ?_)
  refine Exists.elim hw1 (fun q101 hw1 => ?_)
  refine Exists.elim hw1 (fun q102 hw1 => ?_)
  refine Exists.elim hw1 (fun q103 hw1 => ?_)
  refine Exists.elim hw1 (fun q104 hw1 => ?_)
  refine Exists.elim hw1 (fun q105 hw1 => ?_)
  refine Exists.elim hw1 (fun q106 hw1 => ?_)
  refine Exists.elim hw1 (fun q107 hw1 => ?_)
  refine Exists.elim hw1 (fun q108 hw1 => ?_)
  refine Exists.elim hw1 (fun q109 hw1 => ?_)
  refine Exists.elim hw1 (fun q110 hw1 => ?_)
  refine Exists.elim hw1 (fun q111 hw1 => ?_)
  refine Exists.elim hw1 (fun q112 hw1 => ?_)
  refine Exists.elim hw1 (fun q113 hw1 => ?_)
  refine Exists.elim hw1 (fun q114 hw1 => ?_)
  refine Exists.elim hw1 (fun q115 hw1 => ?_)
  refine Exists.elim hw1 (fun q116 hw1 => ?_)
  refine Exists.elim hw1 (fun q117 hw1 => ?_)
  refine Exists.elim hw1 (fun q118 hw1 => ?_)
  subst hw1
  intro H locs hP hD hS
  refine lv_astore_n (pc := 7) (lv' := [(1, .ref xa), (0, .ref b)]) hx hb dL_law_7 rfl hl (by decide) rfl (fun ls hl => ?_)
  refine r_new (pc := 8) C hP hD hS nl_L_16 (Nat.le_of_ble_eq_true rfl) (Nat.le_of_ble_eq_true rfl) dL_law_8 ?_
  clear hP hD hS; intro ma H hP hD hS
  refine lv_dup (pc := 11) hx hb dL_law_11 rfl ?_
  refine r_dalI (pc := 12) (wr := [(xa, .inr (9, [.ref q0, .ref q22, .ref q38, .ref q39, .ref q52, .int 0, .ref q53, .ref q58, .int 0, .int 0, .int 0])), (q0, .inr (6, [.ref q1, .ref q3, .ref q4, .ref q5, .int 0, .ref q6, .int 0, .int 0])), (q1, .inr (7, [.ref q2, .int 0, .int 0, .int 0, .int 0, .int 0, .long 0, .int 0, .int 0])), (q2, aB E 900 (fun _ => 0)), (q3, aJ E 19 (fun _ => 0)), (q4, aI E 19 (fun _ => 0)), (q5, aI E 19 (fun _ => 0)), (q6, .inr (2, [.ref q7, .int 0, .int 0, .ref q16, .ref q17, .int 0, .ref q18, .int 0, .ref q19, .ref q20, .int 0, .ref q21])), (q7, .inr (1, [.int 0, .ref q8, .ref q9, .int 0, .ref q10, .ref q11, .ref q12, .ref q13, .ref q14])), (q8, aI E 8 (fun _ => 0)), (q9, aZ E 8 (fun _ => 0)), (q10, aI E 10 (fun _ => 0)), (q11, aI E 10 (fun _ => 0)), (q12, aI E 10 (fun _ => 0)), (q13, aZ E 10 (fun _ => 0)), (q14, .inr (8, [.ref q15, .int 0])), (q15, aI E 64 (fun _ => 0)), (q16, aI E 4 (fun _ => 0)), (q17, aZ E 4 (fun _ => 0)), (q18, aI E 64 (fun _ => 0)), (q19, aI E 3 (fun _ => 0)), (q20, aI E 3 (fun _ => 0)), (q21, aI E 3 (fun _ => 0)), (q22, .inr (2, [.ref q23, .int 0, .int 0, .ref q32, .ref q33, .int 0, .ref q34, .int 0, .ref q35, .ref q36, .int 0, .ref q37])), (q23, .inr (1, [.int 0, .ref q24, .ref q25, .int 0, .ref q26, .ref q27, .ref q28, .ref q29, .ref q30])), (q24, aI E 8 (fun _ => 0)), (q25, aZ E 8 (fun _ => 0)), (q26, aI E 10 (fun _ => 0)), (q27, aI E 10 (fun _ => 0)), (q28, aI E 10 (fun _ => 0)), (q29, aZ E 10 (fun _ => 0)), (q30, .inr (8, [.ref q31, .int 0])), (q31, aI E 64 (fun _ => 0)), (q32, aI E 4 (fun _ => 0)), (q33, aZ E 4 (fun _ => 0)), (q34, aI E 64 (fun _ => 0)), (q35, aI E 3 (fun _ => 0)), (q36, aI E 3 (fun _ => 0)), (q37, aI E 3 (fun _ => 0)), (q38, aI E 3 (fun _ => 0)), (q39, .inr (4, [.ref q22, .int 0, .int 0, .ref q40, .ref q42, .ref q43, .ref q44, .ref q45, .ref q46, .ref q47, .ref q48, .ref q49, .ref q50, .ref q51])), (q40, .inr (8, [.ref q41, .int 0])), (q41, aI E 64 (fun _ => 0)), (q42, aI E 10 (fun _ => 0)), (q43, aI E 10 (fun _ => 0)), (q44, aI E 3 (fun _ => 0)), (q45, aI E 3 (fun _ => 0)), (q46, aI E 3 (fun _ => 0)), (q47, aI E 3 (fun _ => 0)), (q48, aZ E 3 (fun _ => 0)), (q49, aI E 4 (fun _ => 0)), (q50, aZ E 4 (fun _ => 0)), (q51, aJ E 3 (fun _ => 0)), (q52, aQ E 3 (va_up (va_up (va_up (fun _ => none) (0 : Int32).toNatClampNeg (some q80)) (1 : Int32).toNatClampNeg (some q93)) (2 : Int32).toNatClampNeg (some q106))), (q53, .inr (5, [.ref q54, .ref q55, .ref q56, .ref q57, .int 0])), (q54, aI E 20 (fun _ => 0)), (q55, aI E 20 (fun _ => 0)), (q56, aI E 20 (fun _ => 0)), (q57, aI E 20 (fun _ => 0)), (q58, .inr (0, [.ref q67, .ref q22, .int 0, .ref q59, .ref q60, .ref q62, .ref q64, .ref q65, .int 0, .ref q66])), (q59, aI E 192 (fun _ => 0)), (q60, .inr (3, [.ref q61])), (q61, aJ E 256 (fun _ => 0)), (q62, .inr (3, [.ref q63])), (q63, aJ E 256 (fun _ => 0)), (q64, aZ E 21 (fun _ => 0)), (q65, aI E 1344 (fun _ => 0)), (q66, aI E 64 (fun _ => 0)), (q67, .inr (4, [.ref q22, .int 0, .int 0, .ref q68, .ref q70, .ref q71, .ref q72, .ref q73, .ref q74, .ref q75, .ref q76, .ref q77, .ref q78, .ref q79])), (q68, .inr (8, [.ref q69, .int 0])), (q69, aI E 64 (fun _ => 0)), (q70, aI E 10 (fun _ => 0)), (q71, aI E 10 (fun _ => 0)), (q72, aI E 3 (fun _ => 0)), (q73, aI E 3 (fun _ => 0)), (q74, aI E 3 (fun _ => 0)), (q75, aI E 3 (fun _ => 0)), (q76, aZ E 3 (fun _ => 0)), (q77, aI E 4 (fun _ => 0)), (q78, aZ E 4 (fun _ => 0)), (q79, aJ E 3 (fun _ => 0)), (q80, .inr (4, [.ref q22, .int 0, .int 0, .ref q81, .ref q83, .ref q84, .ref q85, .ref q86, .ref q87, .ref q88, .ref q89, .ref q90, .ref q91, .ref q92])), (q81, .inr (8, [.ref q82, .int 0])), (q82, aI E 64 (fun _ => 0)), (q83, aI E 10 (fun _ => 0)), (q84, aI E 10 (fun _ => 0)), (q85, aI E 3 (fun _ => 0)), (q86, aI E 3 (fun _ => 0)), (q87, aI E 3 (fun _ => 0)), (q88, aI E 3 (fun _ => 0)), (q89, aZ E 3 (fun _ => 0)), (q90, aI E 4 (fun _ => 0)), (q91, aZ E 4 (fun _ => 0)), (q92, aJ E 3 (fun _ => 0)), (q93, .inr (4, [.ref q22, .int 0, .int 0, .ref q94, .ref q96, .ref q97, .ref q98, .ref q99, .ref q100, .ref q101, .ref q102, .ref q103, .ref q104, .ref q105])), (q94, .inr (8, [.ref q95, .int 0])), (q95, aI E 64 (fun _ => 0)), (q96, aI E 10 (fun _ => 0)), (q97, aI E 10 (fun _ => 0)), (q98, aI E 3 (fun _ => 0)), (q99, aI E 3 (fun _ => 0)), (q100, aI E 3 (fun _ => 0)), (q101, aI E 3 (fun _ => 0)), (q102, aZ E 3 (fun _ => 0)), (q103, aI E 4 (fun _ => 0)), (q104, aZ E 4 (fun _ => 0)), (q105, aJ E 3 (fun _ => 0)), (q106, .inr (4, [.ref q22, .int 0, .int 0, .ref q107, .ref q109, .ref q110, .ref q111, .ref q112, .ref q113, .ref q114, .ref q115, .ref q116, .ref q117, .ref q118])), (q107, .inr (8, [.ref q108, .int 0])), (q108, aI E 64 (fun _ => 0)), (q109, aI E 10 (fun _ => 0)), (q110, aI E 10 (fun _ => 0)), (q111, aI E 3 (fun _ => 0)), (q112, aI E 3 (fun _ => 0)), (q113, aI E 3 (fun _ => 0)), (q114, aI E 3 (fun _ => 0)), (q115, aZ E 3 (fun _ => 0)), (q116, aI E 4 (fun _ => 0)), (q117, aZ E 4 (fun _ => 0)), (q118, aJ E 3 (fun _ => 0))]) (As := []) (rest := [.ref ma]) C (ctX12_init l E ma) mi_L_18 ⟨Nat.le_of_ble_eq_true rfl, Nat.le_of_ble_eq_true rfl⟩ hP hD hS [120] [0, 1, 2, 3, 4, 5, 6, 7, 8, 9, 10, 11, 12, 13, 14, 15, 16, 17, 18, 19, 20, 21, 22, 23, 24, 25, 26, 27, 28, 29, 30, 31, 32, 33, 34, 35, 36, 37, 38, 39, 40, 41, 42, 43, 44, 45, 46, 47, 48, 49, 50, 51, 52, 53, 54, 55, 56, 57, 58, 59, 60, 61, 62, 63, 64, 65, 66, 67, 68, 69, 70, 71, 72, 73, 74, 75, 76, 77, 78, 79, 80, 81, 82, 83, 84, 85, 86, 87, 88, 89, 90, 91, 92, 93, 94, 95, 96, 97, 98, 99, 100, 101, 102, 103, 104, 105, 106, 107, 108, 109, 110, 111, 112, 113, 114, 115, 116, 117, 118, 119] rfl rfl rfl rfl (by decide) rfl hl.1 rfl (Nat.le_of_ble_eq_true rfl) ⟨Nat.le_of_ble_eq_true rfl, Nat.le_of_ble_eq_true rfl⟩ dL_law_12 ?_
  clear hP hD hS; intro w1 hw1
  refine Exists.elim hw1 (fun rq0 hw1 => ?_)
  refine Exists.elim hw1 (fun rq1 hw1 => ?_)
  refine Exists.elim hw1 (fun rq2 hw1 => ?_)
  refine Exists.elim hw1 (fun rq3 hw1 => ?_)
  refine Exists.elim hw1 (fun rq4 hw1 => ?_)
  refine Exists.elim hw1 (fun rq5 hw1 => ?_)
  refine Exists.elim hw1 (fun rq6 hw1 => ?_)
  refine Exists.elim hw1 (fun rq7 hw1 => ?_)
  refine Exists.elim hw1 (fun rq8 hw1 => ?_)
  refine Exists.elim hw1 (fun rq9 hw1 => ?_)
  refine Exists.elim hw1 (fun rq10 hw1 => ?_)
  refine Exists.elim hw1 (fun rq11 hw1 => ?_)
  refine Exists.elim hw1 (fun rq12 hw1 => ?_)
  refine Exists.elim hw1 (fun rq13 hw1 => ?_)
  refine Exists.elim hw1 (fun rq14 hw1 => ?_)
  refine Exists.elim hw1 (fun rq15 hw1 => ?_)
  refine Exists.elim hw1 (fun rq16 hw1 => ?_)
  subst hw1
  intro H locs hP hD hS
  refine lv_astore_n (pc := 15) (lv' := [(2, .ref ma), (1, .ref xa), (0, .ref b)]) hx hb dL_law_15 rfl hl (by decide) rfl (fun ls hl => ?_)
  refine lv_iconst (pc := 16) (v := 1) hx hb dL_law_16 (by decide) ?_
  refine r_newa (pc := 17) (atype := .long) (a0 := (1, .inr (.inl (fun _ => 0)))) C hP hD hS 3 rfl ac_J rfl (fun _ => rfl) (by decide) (by decide) (by decide) (Nat.le_of_ble_eq_true rfl) (Nat.le_of_ble_eq_true rfl) (fun _ => rfl) dL_law_17 ?_
  clear hP hD hS; intro oa H hP hD hS
  refine lv_astore_n (pc := 19) (lv' := [(3, .ref oa), (2, .ref ma), (1, .ref xa), (0, .ref b)]) hx hb dL_law_19 rfl hl (by decide) rfl (fun ls hl => ?_)
  refine lv_iconst (pc := 20) (v := 0) hx hb dL_law_20 (by decide) ?_
  refine lv_istore (pc := 21) (lv' := [(4, .int 0), (3, .ref oa), (2, .ref ma), (1, .ref xa), (0, .ref b)]) hx hb dL_law_21 hl (by decide) rfl (fun ls hl => ?_)
  have hend : ∀ (H : Heap) (locs : List Loc) (cells slots : Nat) (ls : Array Slot), va_S A s.heap H locs → cells ≤ room_1.cells → slots ≤ room_1.slots → W p l e room_1 s m #[Value.ref b] below meth c H locs cells slots Q (F0 m 1457 ls [.int 1]) := by
    intro H locs cells slots ls hS hc hs
    refine va_forget (fun q hq => by have h := hS.2.2 q hq; rw [hAd] at h; exact h) ?_
    refine W.widen (k := 600128) (n := 7301098) hc hs ?_
    rw [hQ]
    exact lw_ret hx hb hr hlocks dL_law_1457
  have hPm : va_P E.1 CLS [(q52, aQ E 3 (mk3 q80 q93 q106))] H := by
    intro k x hx
    have hz : k < 1 := (List.getElem?_eq_some_iff.mp hx).1
    rw [show k = 0 by omega] at hx
    cases hx
    have h := hP 53 _ rfl
    show H[q52]? = some (vp_cell E.2.1.2.2.2.2 (3, .inr (.inr (.inr (.inr (mk3 q80 q93 q106))))))
    rw [← mkQ]
    exact h
  have hP2 := (hP.app hPm).sub (ws' := wL0 E xa q0 q22 q38 q39 q52 q53 q58 ma rq0 rq1 rq2 rq3 rq4 rq5 rq6 rq7 rq8 rq9 rq10 rq11 rq12 rq13 rq14 rq15 rq16 oa q1 q3 q4 q5 q6 q23 q32 q33 q34 q35 q36 q37 q40 q42 q43 q44 q45 q46 q47 q48 q49 q50 q51 q80 q93 q106 q54 q55 q56 q57 q67 q59 q60 q62 q64 q65 q66 q2 q7 q16 q17 q18 q19 q20 q21 q24 q25 q26 q27 q28 q29 q30 q41 q22 q81 q83 q84 q85 q86 q87 q88 q89 q90 q91 q92 q22 q94 q96 q97 q98 q99 q100 q101 q102 q103 q104 q105 q22 q107 q109 q110 q111 q112 q113 q114 q115 q116 q117 q118 q68 q70 q71 q72 q73 q74 q75 q76 q77 q78 q79 q61 q63 q8 q9 q10 q11 q12 q13 q14 q31 q82 q95 q108 q69 q15 0 0 0 0 0 0 (-1) none 0 0 0 0 0 0 0 0 0 0 0 0 (fun _ => 0) 0 0 0 0 0 0 0 0 (fun _ => 0) 0 0 0 0 0 (fun _ => 0) (fun _ => 0) (fun _ => 0) (fun _ => 0) (fun _ => 0) (fun _ => 0) (fun _ => 0) (fun _ => 0) (fun _ => 0) (fun _ => 0) (fun _ => 0) (fun _ => 0) (fun _ => 0) (fun _ => 0) (fun _ => 0) (fun _ => 0) (fun _ => 0) 0 0 0 0 0 0 0 0 (fun _ => 0) (fun _ => 0) (fun _ => 0) 0 0 0 0 0 0 0 (fun _ => 0) (fun _ => 0) (fun _ => 0) (fun _ => 0) (fun _ => 0) (fun _ => 0) 0 (fun _ => 0) (fun _ => 0) (fun _ => 0) (fun _ => 0) (fun _ => 0) (fun _ => 0) (fun _ => 0) (fun _ => 0) (fun _ => 0) (fun _ => 0) 0 0 0 0 0 0 (fun _ => 0) (fun _ => 0) (fun _ => 0) (fun _ => 0) 0 0 (fun _ => 0) (fun _ => 0) (fun _ => 0) (fun _ => 0) (fun _ => 0) 0 0 (fun _ => 0) (fun _ => 0) (fun _ => 0) (fun _ => 0) (fun _ => 0) (fun _ => 0) (fun _ => 0) (fun _ => 0) (fun _ => 0) (fun _ => 0) (fun _ => 0) (fun _ => 0) 0 (fun _ => 0) 0 (fun _ => 0) (fun _ => 0) (fun _ => 0) (fun _ => 0) (fun _ => 0) (fun _ => 0) (fun _ => 0) (fun _ => 0) (fun _ => 0) (fun _ => 0) 0 (fun _ => 0) (fun _ => 0) (fun _ => 0) (fun _ => 0) (fun _ => 0) (fun _ => 0) (fun _ => 0) (fun _ => 0) (fun _ => 0) (fun _ => 0) 0 (fun _ => 0) (fun _ => 0) (fun _ => 0) (fun _ => 0) (fun _ => 0) (fun _ => 0) (fun _ => 0) (fun _ => 0) (fun _ => 0) (fun _ => 0) 0 (fun _ => 0) (fun _ => 0) (fun _ => 0) (fun _ => 0) (fun _ => 0) (fun _ => 0) (fun _ => 0) (fun _ => 0) (fun _ => 0) (fun _ => 0) (fun _ => 0) (fun _ => 0) (fun _ => 0) (fun _ => 0) (fun _ => 0) (fun _ => 0) (fun _ => 0) (fun _ => 0) 0 (fun _ => 0) (fun _ => 0) (fun _ => 0) (fun _ => 0) (fun _ => 0) (fun _ => 0)) [0, 120, 138, 1, 23, 39, 40, 139, 54, 59, 121, 122, 123, 124, 125, 126, 127, 128, 129, 130, 131, 132, 133, 134, 135, 136, 137, 2, 4, 5, 6, 7, 24, 33, 34, 35, 36, 37, 38, 41, 43, 44, 45, 46, 47, 48, 49, 50, 51, 52, 81, 94, 107, 55, 56, 57, 58, 68, 60, 61, 63, 65, 66, 67, 3, 8, 17, 18, 19, 20, 21, 22, 25, 26, 27, 28, 29, 30, 31, 42, 82, 84, 85, 86, 87, 88, 89, 90, 91, 92, 93, 95, 97, 98, 99, 100, 101, 102, 103, 104, 105, 106, 108, 110, 111, 112, 113, 114, 115, 116, 117, 118, 119, 69, 71, 72, 73, 74, 75, 76, 77, 78, 79, 80, 62, 64, 9, 10, 11, 12, 13, 14, 15, 32, 83, 96, 109, 70, 16] (fm_map rfl)
  have hD2 := va_D_subf (ws' := wL0 E xa q0 q22 q38 q39 q52 q53 q58 ma rq0 rq1 rq2 rq3 rq4 rq5 rq6 rq7 rq8 rq9 rq10 rq11 rq12 rq13 rq14 rq15 rq16 oa q1 q3 q4 q5 q6 q23 q32 q33 q34 q35 q36 q37 q40 q42 q43 q44 q45 q46 q47 q48 q49 q50 q51 q80 q93 q106 q54 q55 q56 q57 q67 q59 q60 q62 q64 q65 q66 q2 q7 q16 q17 q18 q19 q20 q21 q24 q25 q26 q27 q28 q29 q30 q41 q22 q81 q83 q84 q85 q86 q87 q88 q89 q90 q91 q92 q22 q94 q96 q97 q98 q99 q100 q101 q102 q103 q104 q105 q22 q107 q109 q110 q111 q112 q113 q114 q115 q116 q117 q118 q68 q70 q71 q72 q73 q74 q75 q76 q77 q78 q79 q61 q63 q8 q9 q10 q11 q12 q13 q14 q31 q82 q95 q108 q69 q15 0 0 0 0 0 0 (-1) none 0 0 0 0 0 0 0 0 0 0 0 0 (fun _ => 0) 0 0 0 0 0 0 0 0 (fun _ => 0) 0 0 0 0 0 (fun _ => 0) (fun _ => 0) (fun _ => 0) (fun _ => 0) (fun _ => 0) (fun _ => 0) (fun _ => 0) (fun _ => 0) (fun _ => 0) (fun _ => 0) (fun _ => 0) (fun _ => 0) (fun _ => 0) (fun _ => 0) (fun _ => 0) (fun _ => 0) (fun _ => 0) 0 0 0 0 0 0 0 0 (fun _ => 0) (fun _ => 0) (fun _ => 0) 0 0 0 0 0 0 0 (fun _ => 0) (fun _ => 0) (fun _ => 0) (fun _ => 0) (fun _ => 0) (fun _ => 0) 0 (fun _ => 0) (fun _ => 0) (fun _ => 0) (fun _ => 0) (fun _ => 0) (fun _ => 0) (fun _ => 0) (fun _ => 0) (fun _ => 0) (fun _ => 0) 0 0 0 0 0 0 (fun _ => 0) (fun _ => 0) (fun _ => 0) (fun _ => 0) 0 0 (fun _ => 0) (fun _ => 0) (fun _ => 0) (fun _ => 0) (fun _ => 0) 0 0 (fun _ => 0) (fun _ => 0) (fun _ => 0) (fun _ => 0) (fun _ => 0) (fun _ => 0) (fun _ => 0) (fun _ => 0) (fun _ => 0) (fun _ => 0) (fun _ => 0) (fun _ => 0) 0 (fun _ => 0) 0 (fun _ => 0) (fun _ => 0) (fun _ => 0) (fun _ => 0) (fun _ => 0) (fun _ => 0) (fun _ => 0) (fun _ => 0) (fun _ => 0) (fun _ => 0) 0 (fun _ => 0) (fun _ => 0) (fun _ => 0) (fun _ => 0) (fun _ => 0) (fun _ => 0) (fun _ => 0) (fun _ => 0) (fun _ => 0) (fun _ => 0) 0 (fun _ => 0) (fun _ => 0) (fun _ => 0) (fun _ => 0) (fun _ => 0) (fun _ => 0) (fun _ => 0) (fun _ => 0) (fun _ => 0) (fun _ => 0) 0 (fun _ => 0) (fun _ => 0) (fun _ => 0) (fun _ => 0) (fun _ => 0) (fun _ => 0) (fun _ => 0) (fun _ => 0) (fun _ => 0) (fun _ => 0) (fun _ => 0) (fun _ => 0) (fun _ => 0) (fun _ => 0) (fun _ => 0) (fun _ => 0) (fun _ => 0) (fun _ => 0) 0 (fun _ => 0) (fun _ => 0) (fun _ => 0) (fun _ => 0) (fun _ => 0) (fun _ => 0)) hD [0, 120, 138, 1, 23, 39, 40, 53, 54, 59, 121, 122, 123, 124, 125, 126, 127, 128, 129, 130, 131, 132, 133, 134, 135, 136, 137, 2, 4, 5, 6, 7, 24, 33, 34, 35, 36, 37, 38, 41, 43, 44, 45, 46, 47, 48, 49, 50, 51, 52, 81, 94, 107, 55, 56, 57, 58, 68, 60, 61, 63, 65, 66, 67, 3, 8, 17, 18, 19, 20, 21, 22, 25, 26, 27, 28, 29, 30, 31, 42, 82, 84, 85, 86, 87, 88, 89, 90, 91, 92, 93, 95, 97, 98, 99, 100, 101, 102, 103, 104, 105, 106, 108, 110, 111, 112, 113, 114, 115, 116, 117, 118, 119, 69, 71, 72, 73, 74, 75, 76, 77, 78, 79, 80, 62, 64, 9, 10, 11, 12, 13, 14, 15, 32, 83, 96, 109, 70, 16] rfl rfl
  have hR0 : REL0 0 0 0 0 (-1) 0 0 0 0 0 0 0 0 0 0 0 0 0 0 (fun _ => 0) (fun _ => 0) (fun _ => 0) (fun _ => 0) (fun _ => 0) (fun _ => 0) 0 0 (fun _ => 0) := ⟨⟨rfl, rfl, (if_neg (by decide)).symm⟩, ⟨rfl, rfl, rfl, rfl, rfl, rfl, rfl, rfl, rfl, rfl, rfl, rfl, rfl⟩, fun _ _ => Or.inl rfl, fun _ _ => Or.inl rfl, fun _ _ => Or.inl rfl, fun _ _ => rfl, ⟨rfl, fun _ => (show isBy 0 by unfold isBy; decide), 0, by decide, rfl, rfl⟩, fun _ _ => Or.inl rfl⟩
  refine law_loop (xa := xa) (ma := ma) (oa := oa) hl9 C hTh hX hbl hbA hL hend 65 0 _ _ _ (by decide) (by omega) (Nat.le_of_ble_eq_true rfl) (Nat.le_of_ble_eq_true rfl) (Or.inl (P0_mk hR0)) _ _ _ (lv_sub hl [4, 3, 2, 1, 0] rfl) hP2 hD2 hS
set_option maxHeartbeats 4000000 in
theorem lw_walk (l : Launch) (hl9 : l.stackTraces = false) (b : Addr) (xs : List Int32) : MetFree l x (headSpec (Jvm.Cond.code x code maxLocals ret :: tables_1) room_1) (lw_P b xs) (fun _ _ _ _ _ => True) lw_Q := by
  refine MetFree.of_bodyS (code := code) (maxLocals := maxLocals) (ret := ret) (by decide) ?_ ?_
  · intro args s m h hn
    obtain ⟨meth, c, h1, h2, h3, h4, h5, h6, -, -⟩ := Cond.code_spec hn (atoms_spec (ws := Jvm.Cond.code x code maxLocals ret :: tables_1) h _ List.mem_cons_self)
    exact ⟨meth, c, h1, h2, h3, h4, h5, h6⟩
  · intro p e s m args below meth c s₁ B hml0 hP _
    obtain ⟨rfl, hx, hbd, hgv⟩ := hP
    obtain ⟨scr, harrAt, hlist, hof, hsmall⟩ := hx
    obtain ⟨hcb, hkn, -, -⟩ := State.arrayAt?_spec harrAt
    have hown : s.vm.findClass R_law = some m.cls := findClass_of_methodNamed B.named
    have hts0 : ∀ c ∈ (Jvm.Cond.code x code maxLocals ret :: tables_1), c.before #[Value.ref b] s = true := atoms_spec (ws := Jvm.Cond.code x code maxLocals ret :: tables_1) B.pre
    have hts : ∀ w ∈ lw_tbl, w.before #[Value.ref b] s = true := k2_hts_sels lw_privs (fun w hw => hts0 w (List.mem_cons_of_mem _ hw)) lw_privs_ok
    have hml : c.maxLocals = 7 := B.maxLocals_eq (hts0 _ List.mem_cons_self)
    have X₀ : Stand p l e room_1 s m #[Value.ref b] below meth c s₁ [] 0 0 := Stand.of_body B
    have hh0 : s₁.heap = s.heap := by rw [B.state]; rfl
    have hsz : scr.slots.size = xs.length := by rw [← Array.length_toList, hlist, List.length_map]
    have hval : ∀ j : Nat, j < xs.length → scr.slots[j]? = some (.int (xs.getD j 0)) := fun j hj => by
      rw [← Array.getElem?_toList, hlist]
      simp [hj]
    have hbl : b < s.heap.size := (Array.getElem?_eq_some_iff.mp hcb).1
    have hX : va_X b xs.length (fun j => xs.getD j 0) s s.heap := ⟨scr, hcb, hof, hkn, hsz, hval⟩
    have K : W p l e room_1 s m #[Value.ref b] below meth c s₁.heap [] 0 0 (lw_Z below #[Value.ref b] s) (entryFrame m ([Value.ref b] : List Value).toArray 7) := by
      rw [hh0]
      exact whole_start l hl9 hbd ⟨B.exec, B.bytes, B.returns, hml, hown, hts, hX, hbl, B.notSynchronized, hgv⟩
    obtain ⟨t, a1, o, b1, b2, b3⟩ := K s₁ rfl X₀
    exact ⟨t, o, a1, b1, b2, b3⟩
theorem lw_pre_spec {args : Array Value} {s : State} (h : (Jvm.Cond.and given_1 narrow_1).before args s = true) (hr : rest_1_c.before args s = true) : ∃ (b : Addr) (xs : List Int32), lw_P b xs args s := by
  have hs := flat_of_before _ h
  have hq := flat_of_before _ hr
  have hc : (Cond.count 1).before args s = true := hs _ (by decide +kernel)
  have harr : (Cond.arrayOf (.arg 0) .int).before args s = true := hs _ (by decide +kernel)
  have hle : (Cond.le (.length (.arg 0)) (.int 384)).before args s = true := hs _ (by decide +kernel)
  have hlen : (Cond.isInt (.length (.arg 0))).before args s = true := hq _ (by decide +kernel)
  have hall : (Cond.all (.arg 0) (.isInt (.elem (.arg 0) (.index 0)))).before args s = true := hq _ (by decide +kernel)
  obtain ⟨b, xs, hb, hx⟩ := State.ints_of_pre rfl harr hlen hall
  have hsm : xs.length < 2 ^ 31 := hx.choose_spec.2.2.2
  have hev : (Term.length (.arg 0)).eval args s none [] s = some (.int xs.length.toInt32) := hx.length_eval hb
  have hv := Cond.le_ints hev (show (Term.int 384).eval args s none [] s = some (.int 384) from rfl)
  have hd : xs.length.toInt32 ≤ 384 := by
    simpa [Cond.before, Cond.holds, hv] using hle
  have hN : xs.length ≤ 384 := (Int32.ofNat_le_ofNat hsm (by decide)).mp (show Int32.ofNat xs.length ≤ Int32.ofNat 384 from hd)
  exact ⟨b, xs, Cond.one_arg hc (show args[0]? = some (.ref b) from hb), hx, hN, h⟩
theorem lw_comes (l : Launch) (hl9 : l.stackTraces = false) : Comes l x (Jvm.Cond.code x code maxLocals ret :: tables_1) room_1 (fun tb e args s => Calls_1 tb e args s ∧ rest_1 tb e args s ∧ Pre_1 tb e args s)
    (fun _ _ args s o t => lw_Q args s o t) := by
  intro p e ha hc hk s m args below hf hfit hheap happ hpre
  obtain ⟨b, xs, hP⟩ := lw_pre_spec hpre.2.2 hpre.2.1
  obtain ⟨k, o, h1, h2, h3, hQ⟩ := lw_walk l hl9 b xs p e ha hc hk s m args below hf ((Spec.applies_iff_loose hf).mp happ).1 hP trivial
  exact ⟨k, o, h1, h2, h3, hQ⟩
theorem lw_frame {s t : State} {o : Outcome} {args : Array Value} (h : Framed s o t [] 600128 7301098) :
    Framed s o t (fieldLocs frame_1_writes args s ++ arrayLocs frame_1_arrays args s ++ staticLocs frame_1_statics s) 600128 7301098 := h
theorem lw_limb (L : Cond) (hL : ∀ (args : Array Value) (s t : State), L.after args s (.returned (some (.int 1))) t = true) :
    ArmFor flags0 classFile x code maxLocals ret World_1 tables_1 room_1 Calls_1 rest_1 Pre_1
      (fun tb e a s o t => postC L tb e a s o t ∧ Framed s o t (fieldLocs frame_1_writes a s ++ arrayLocs frame_1_arrays a s ++ staticLocs frame_1_statics s) 600128 7301098) := by
  intro l hfl _ _ p e ha hc hk s m args below hf hfit hheap happ hpre
  have hl9 : l.stackTraces = false := by unfold Launch.stackTraces; rw [hfl]; decide +kernel
  obtain ⟨k, o, h1, h2, h3, rfl, hF⟩ := lw_comes l hl9 p e ha hc hk s m args below hf hfit hheap happ hpre
  exact ⟨k, _, h1, h2, h3, hL args s _, lw_frame hF⟩
theorem i_vc : Claimed_1_1 ∧ Claimed_1_2 := ⟨lw_limb limb_1_1 (fun args s t => by simp [limb_1_1, Cond.after, Cond.holds, Cond.value]), lw_limb limb_1_2 (fun args s t => Cond.after_iff.mpr (by
  first | (rw [show limb_1_2 = Cond.eq .result (.int 1) from rfl, Cond.eq_ints (x := 1) (y := 1) rfl rfl]; simp; done) | (simp [limb_1_2, Cond.value, Term.eval]; done)))⟩
