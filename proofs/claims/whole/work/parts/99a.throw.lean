/-! led, where it throws -/
theorem zq_isRef {args : Array Value} {s : State} {C n d : String} {A : Nat → Prop} (h : va_Zq C n d A s s.heap) : (Cond.isRef (.static C n d)).before args s = true := by
  rcases h with ⟨cf, kf, fi, f, a, cell, h1, h2, h3, h4, h5, h6, h7, h8⟩ | ⟨t, cf, kf, fi, f, a, cell, h1, h2, h3, h4, h5, h6, h7, h8⟩ <;>
    simp [Cond.before, Cond.holds, Cond.value, Term.eval, State.fieldNamed?, h1, h2, h4, h5, h6, h7]
def LStat (C n d : String) (A : Nat → Prop) (U : State) (H : Heap) : Prop := ∃ (c : ClassId) (k : Class) (i : Nat) (f : Field) (a : Nat) (cell : Cell), U.vm.findClass C = some c ∧ U.fieldFound? C n d = some (c, k, i, f) ∧ f.isStatic = true ∧ k.statics = some a ∧ H[a]? = some cell ∧ cell.vm.isStatics = true ∧ cell.cls = c ∧ f.slot < cell.slots.size ∧ k.staticTypes[f.slot]? = some f.type ∧ ¬ A a
theorem LStat.moved {C n d : String} {A : Nat → Prop} {u U : State} {H : Heap} (hvm : u.vm.Alike U.vm) (h : LStat C n d A u H) : LStat C n d A U H := by
  obtain ⟨c, k, i, f, a, cell, h1, h2, h3, h4, h5, h6, h7, h8, h9, h10⟩ := h
  obtain ⟨k', hi', he⟩ := State.fieldFound?_setVm hvm h2
  exact ⟨c, k', i, f, a, cell, by rw [hvm.findClass]; exact h1, hi', h3, by rw [he]; exact h4, h5, h6, h7, h8, by rw [he]; exact h9, h10⟩
theorem LStat.kept {C n d : String} {A : Nat → Prop} {U : State} {H H1 : Heap} (h : LStat C n d A U H) (hq : ∀ a : Nat, a < H.size → ¬ A a → H1[a]? = H[a]?) : LStat C n d A U H1 := by
  obtain ⟨c, k, i, f, a, cell, h1, h2, h3, h4, h5, h6, h7, h8, h9, h10⟩ := h
  exact ⟨c, k, i, f, a, cell, h1, h2, h3, h4, by rw [hq a (Array.getElem?_eq_some_iff.mp h5).1 h10]; exact h5, h6, h7, h8, h9, h10⟩
theorem LStat.narrow {C n d : String} {A B : Nat → Prop} {U : State} {H : Heap} (h : LStat C n d A U H) (hAB : ∀ q, B q → A q) : LStat C n d B U H := by
  obtain ⟨c, k, i, f, a, cell, h1, h2, h3, h4, h5, h6, h7, h8, h9, h10⟩ := h
  exact ⟨c, k, i, f, a, cell, h1, h2, h3, h4, h5, h6, h7, h8, h9, fun z => h10 (hAB a z)⟩
theorem LStat.of {args : Array Value} {s : State} {C n d : String} {A : Nat → Prop} (h : (Cond.laysStatic C n d).before args s = true) (hA : ∀ a : Nat, a < s.heap.size → ¬ A a) : LStat C n d A s s.heap := by
  obtain ⟨c, k, i, f, a, cell, hc, hi, hst, ha, hcell, hs, hcls, hlt, hty⟩ := Cond.laysStatic_spec h
  exact ⟨c, k, i, f, a, cell, hc, hi, hst, ha, hcell, hs, hcls, hlt, hty, hA a (Array.getElem?_eq_some_iff.mp hcell).1⟩
theorem LStat.use {args : Array Value} {s : State} {C n d : String} {A : Nat → Prop} (h : LStat C n d A s s.heap) : (Cond.laysStatic C n d).before args s = true := by
  obtain ⟨c, k, i, f, a, cell, h1, h2, h3, h4, h5, h6, h7, h8, h9, h10⟩ := h
  simp [Cond.before, Cond.holds, Cond.value, h1, h2, h3, h4, h5, h6, h7, h8, h9]
theorem decl_ok {args : Array Value} {s : State} {x : MethodName} {b : ByteArray} {m : Nat} {ret : Option FieldType} (hi : (Cond.instanceMethod x).before args s = true) (hc : (Cond.code x b m ret).before args s = true) : (Cond.declares x).before args s = true := by
  obtain ⟨r0, r, hn, hrm, hst, hsig⟩ := va_Decl.of hi hc
  simp [Cond.before, Cond.holds, Cond.value, hn, hrm, hst, hsig]
theorem cast_ok {args : Array Value} {s : State} {C : String} {n : Nat} (h : (Cond.instantiable C n).before args s = true) : (Cond.castable C C).before args s = true := by
  obtain ⟨c, k, hc, -⟩ := Cond.instantiable_spec h
  simp [Cond.before, Cond.holds, Cond.value, hc, Vm.assignable_self]
def THR (A : Nat → Prop) (U : State) (H : Heap) : Prop := va_Zq "java/lang/Throwable" "UNASSIGNED_STACK" "[Ljava/lang/StackTraceElement;" A U H ∧ va_Zq "java/lang/Throwable" "SUPPRESSED_SENTINEL" "Ljava/util/List;" A U H ∧ LStat "java/lang/Throwable" "UNASSIGNED_STACK" "[Ljava/lang/StackTraceElement;" A U H ∧ LStat "java/lang/Throwable" "SUPPRESSED_SENTINEL" "Ljava/util/List;" A U H
theorem THR.moved {A : Nat → Prop} {u U : State} {H : Heap} (hvm : u.vm.Alike U.vm) (h : THR A u H) : THR A U H := ⟨h.1.moved hvm, h.2.1.moved hvm, h.2.2.1.moved hvm, h.2.2.2.moved hvm⟩
theorem THR.kept {A : Nat → Prop} {U : State} {H H1 : Heap} (h : THR A U H) (hq : ∀ a : Nat, a < H.size → ¬ A a → H1[a]? = H[a]?) : THR A U H1 := ⟨h.1.kept hq, h.2.1.kept hq, h.2.2.1.kept hq, h.2.2.2.kept hq⟩
theorem THR.narrow {A B : Nat → Prop} {U : State} {H : Heap} (h : THR A U H) (hAB : ∀ q, B q → A q) : THR B U H := ⟨h.1.narrow hAB, h.2.1.narrow hAB, h.2.2.1.narrow hAB, h.2.2.2.narrow hAB⟩
def PT (E : EN) (wc : va_W) (sz : Nat) (U : State) : Prop := PW E wc sz U ∧ THR (va_A wc sz) U U.heap
theorem PT.blind (av : List Value) (E : EN) (wc : va_W) (sz : Nat) : FrameBlind (va_Pc av (PT E wc sz)) := by
  intro a U g mk q
  obtain ⟨q0, q1, q2⟩ := q
  have h := PW.blind av E wc sz a U g mk ⟨q0, q1⟩
  exact ⟨h.1, h.2, THR.moved (u := U) (U := U.calling g mk a) (Vm.Alike.refl U.vm) q2⟩
theorem own_ok {args : Array Value} {s : State} {A : Nat → Prop} (hG : ∀ w ∈ GW, w.before args s = true) (hT : THR A s s.heap) : ∀ a ∈ Bundle.ownAtoms0 "NightInn" 306 "java/util/NoSuchElementException" ["java/lang/RuntimeException", "java/lang/Exception"], a.before args s = true := by
  unfold Bundle.ownAtoms0
  refine List.forall_mem_append.mpr ⟨List.forall_mem_append.mpr ⟨?_, ?_⟩, ?_⟩
  · unfold Bundle.throwableAtoms
    exact List.forall_mem_cons.mpr ⟨hG _ (gw_t 24 (by decide +kernel) rfl), List.forall_mem_cons.mpr ⟨hG _ (gw_t 1143 (by decide +kernel) rfl), List.forall_mem_cons.mpr ⟨hG _ (gw_t 1152 (by decide +kernel) rfl), List.forall_mem_cons.mpr ⟨hG _ (gw_t 1154 (by decide +kernel) rfl), List.forall_mem_cons.mpr ⟨hG _ (gw_t 1157 (by decide +kernel) rfl), List.forall_mem_cons.mpr ⟨hG _ (gw_t 1159 (by decide +kernel) rfl), List.forall_mem_cons.mpr ⟨hG _ (gw_t 1144 (by decide +kernel) rfl), List.forall_mem_cons.mpr ⟨hG _ (gw_t 1145 (by decide +kernel) rfl), List.forall_mem_cons.mpr ⟨hG _ (gw_t 34 (by decide +kernel) rfl), List.forall_mem_cons.mpr ⟨hG _ (gw_t 35 (by decide +kernel) rfl), List.forall_mem_cons.mpr ⟨hG _ (gw_t 1146 (by decide +kernel) rfl), List.forall_mem_cons.mpr ⟨hG _ (gw_t 1151 (by decide +kernel) rfl), List.forall_mem_cons.mpr ⟨hG _ (gw_t 1155 (by decide +kernel) rfl), List.forall_mem_cons.mpr ⟨hG _ (gw_t 1171 (by decide +kernel) rfl), List.forall_mem_cons.mpr ⟨hG _ (gw_t 1133 (by decide +kernel) rfl), List.forall_mem_cons.mpr ⟨hG _ (gw_t 1172 (by decide +kernel) rfl), List.forall_mem_cons.mpr ⟨hG _ (gw_t 1135 (by decide +kernel) rfl), List.forall_mem_cons.mpr ⟨hG _ (gw_t 1173 (by decide +kernel) rfl), List.forall_mem_cons.mpr ⟨hG _ (gw_t 1137 (by decide +kernel) rfl), List.forall_mem_cons.mpr ⟨hG _ (gw_t 1147 (by decide +kernel) rfl), List.forall_mem_cons.mpr ⟨hT.2.2.1.use, List.forall_mem_cons.mpr ⟨hG _ (gw_t 1149 (by decide +kernel) rfl), List.forall_mem_cons.mpr ⟨hT.2.2.2.use, List.forall_mem_cons.mpr ⟨hG _ (gw_t 1139 (by decide +kernel) rfl), fun _ h => absurd h List.not_mem_nil⟩⟩⟩⟩⟩⟩⟩⟩⟩⟩⟩⟩⟩⟩⟩⟩⟩⟩⟩⟩⟩⟩⟩⟩
  · exact List.forall_mem_append.mpr ⟨List.forall_mem_cons.mpr ⟨hG _ (gw_t 1161 (by decide +kernel) rfl), List.forall_mem_cons.mpr ⟨hG _ (gw_t 1162 (by decide +kernel) rfl), List.forall_mem_cons.mpr ⟨hG _ (gw_t 1163 (by decide +kernel) rfl), List.forall_mem_cons.mpr ⟨hG _ (gw_t 1164 (by decide +kernel) rfl), List.forall_mem_cons.mpr ⟨decl_ok (b := Bundle.five) (m := 1) (ret := none) (hG _ (gw_t 1164 (by decide +kernel) rfl)) (hG _ (gw_t 1165 (by decide +kernel) rfl)), fun _ h => absurd h List.not_mem_nil⟩⟩⟩⟩⟩, List.forall_mem_append.mpr ⟨List.forall_mem_cons.mpr ⟨hG _ (gw_t 1164 (by decide +kernel) rfl), List.forall_mem_cons.mpr ⟨hG _ (gw_t 1165 (by decide +kernel) rfl), List.forall_mem_cons.mpr ⟨hG _ (gw_t 1166 (by decide +kernel) rfl), List.forall_mem_cons.mpr ⟨hG _ (gw_t 1167 (by decide +kernel) rfl), List.forall_mem_cons.mpr ⟨decl_ok (b := Bundle.five) (m := 1) (ret := none) (hG _ (gw_t 1167 (by decide +kernel) rfl)) (hG _ (gw_t 1168 (by decide +kernel) rfl)), fun _ h => absurd h List.not_mem_nil⟩⟩⟩⟩⟩, List.forall_mem_cons.mpr ⟨hG _ (gw_t 1167 (by decide +kernel) rfl), List.forall_mem_cons.mpr ⟨hG _ (gw_t 1168 (by decide +kernel) rfl), List.forall_mem_cons.mpr ⟨hG _ (gw_t 1169 (by decide +kernel) rfl), List.forall_mem_cons.mpr ⟨hG _ (gw_t 1144 (by decide +kernel) rfl), List.forall_mem_cons.mpr ⟨decl_ok (b := prog_28_method_1_code) (m := 1) (ret := none) (hG _ (gw_t 1144 (by decide +kernel) rfl)) (hG _ (gw_t 1145 (by decide +kernel) rfl)), fun _ h => absurd h List.not_mem_nil⟩⟩⟩⟩⟩⟩⟩
  · exact List.forall_mem_cons.mpr ⟨hG _ (gw_t 1160 (by decide +kernel) rfl), List.forall_mem_cons.mpr ⟨hG _ (gw_t 1122 (by decide +kernel) rfl), List.forall_mem_cons.mpr ⟨cast_ok (n := 6) (hG _ (gw_t 1122 (by decide +kernel) rfl)), List.forall_mem_cons.mpr ⟨hG _ (gw_t 1130 (by decide +kernel) rfl), List.forall_mem_cons.mpr ⟨hG _ (gw_t 1131 (by decide +kernel) rfl), List.forall_mem_cons.mpr ⟨hG _ (gw_t 1132 (by decide +kernel) rfl), List.forall_mem_cons.mpr ⟨hG _ (gw_t 1134 (by decide +kernel) rfl), List.forall_mem_cons.mpr ⟨hG _ (gw_t 1136 (by decide +kernel) rfl), List.forall_mem_cons.mpr ⟨hG _ (gw_t 1138 (by decide +kernel) rfl), List.forall_mem_cons.mpr ⟨zq_isRef hT.1, List.forall_mem_cons.mpr ⟨zq_isRef hT.2.1, List.forall_mem_cons.mpr ⟨hG _ (gw_t 1142 (by decide +kernel) rfl), List.forall_mem_cons.mpr ⟨hG _ (gw_t 1141 (by decide +kernel) rfl), List.forall_mem_cons.mpr ⟨hG _ (gw_t 1140 (by decide +kernel) rfl), fun _ h => absurd h List.not_mem_nil⟩⟩⟩⟩⟩⟩⟩⟩⟩⟩⟩⟩⟩⟩
theorem same_heap {s U : State} {k n : Nat} (h : s.sameButNew ({ U with vm := s.vm } : State) [] k n) : s.heap.size ≤ U.heap.size ∧ ∀ q : Nat, q < s.heap.size → U.heap[q]? = s.heap[q]? := by
  refine ⟨h.2.1, fun q hq => ?_⟩
  have h0 : s.heap[q]? = some s.heap[q] := Array.getElem?_eq_getElem hq
  obtain ⟨c', h1, h2, h3, h4⟩ := h.2.2.2.2.2 q _ h0
  have e : c'.slots = s.heap[q].slots := Array.ext_getElem? (fun i => h4 i (by simp))
  rw [e] at h2
  rw [h0]
  exact h1.trans (congrArg some h2)
def QTh (E : EN) (A : Nat → Prop) (w1 : va_W) (mc ms : Nat) : Array Value → State → Outcome → State → Prop := fun _ st o t =>
  ∃ (x : Addr) (ce : Cell), o = .threw x ∧ st.WarmedH t.vm ∧ (∃ L, st.sameButNew ({ t with vm := st.vm } : State) L mc ms ∧ ∀ q ∈ L, A q.base) ∧ va_F A st t ∧ BW E A w1 t ∧ t.heap[x]? = some ce ∧ ce.vm.isStatics = false ∧ st.vm.findClass "java/util/NoSuchElementException" = some ce.cls
def CTt (l : Launch) (E : EN) (y : MethodName) (b : ByteArray) (maxL : Nat) (ret : FieldType) (fr mc ms lc : Nat) (av : List Value) (wc : va_W) : Prop :=
  ∀ sz, MetFree l y (headSpec (.code y b maxL (some ret) :: GW) { frames := fr, cells := mc, slots := ms, locals := lc }) (va_Pc av (PT E wc sz)) (fun _ _ _ _ _ => True) (QTh E (va_A wc sz) wc mc ms)
theorem dX10_led_55 : decode cX10_led 55 = .ok (.dup, 1) := by decide +kernel
theorem dX10_led_56 : decode cX10_led 56 = .ok (.invokespecial 306, 3) := by decide +kernel
theorem dX10_led_59 : decode cX10_led 59 = .ok (.athrow, 1) := by decide +kernel
def BX10_ledT (v_inn_sleepers : Int32) (v_night_roomOf : Nat → Int32) (v_inn_bed : Nat → Int32) (p0 : Int32) (rec4 : (Int32 × Int32) → Option Unit) : (Int32 × Int32) → Option Unit := un2 fun (x4_2 : Int32) (x4_3 : Int32) => if v_inn_sleepers ≤ x4_3 then (some ()) else (gd x4_3 3 (gd x4_3 3 (jn (un1 fun (x46_2 : Int32) => rec4 (x46_2, x4_3 + 1)) (fun j46 => if (v_night_roomOf x4_3.toNatClampNeg) = (v_inn_bed x4_3.toNatClampNeg) then (j46 x4_2) else (if x4_2 = p0 then none else (j46 (x4_2 + 1)))))))
def fX10_ledT (N : Nat) (p0 : Int32) (v_inn_sleepers : Int32) (v_night_roomOf : Nat → Int32) (v_inn_bed : Nat → Int32) : Option Unit := lp (BX10_ledT v_inn_sleepers v_night_roomOf v_inn_bed p0) N (0, 0)
theorem cl_NSE : Cond.classLink RX10 304 "java/util/NoSuchElementException" ∈ GW := gw_t 1121 (by decide +kernel) rfl
theorem in_NSE : Cond.instantiable "java/util/NoSuchElementException" 6 ∈ GW := gw_t 1122 (by decide +kernel) rfl
theorem it_NSE : Cond.initialized "java/util/NoSuchElementException" ∈ GW := gw_t 27 (by decide +kernel) rfl
set_option maxHeartbeats 4000000 in
set_option maxRecDepth 100000 in
theorem ctX10_ledT (l : Launch) (hl9 : l.stackTraces = false) (E : EN) (h h_reader h_inn h_chosen h_night h_marks h_notes h_casts h_inn_house h_inn_thingIn h_inn_full h_inn_states h_inn_bed h_inn_dreamOf h_inn_listensIn h_night_ways h_night_how h_night_passed h_night_dreamOf h_night_stateOf h_night_roomOf h_night_handOf h_night_awake h_night_thingIn h_night_full h_night_heardBy : Nat) (v_marked : Int32) (v_refusal : Int32) (v_latestFault : Int32) (v_faultPlace : Int32) (v_inn_minutes : Int32) (v_inn_things : Int32) (v_inn_dreams : Int32) (v_inn_sleepers : Int32) (v_inn_listeners : Int32) (v_night_setting : Int32) (v_night_been : Int32) (v_night_roomOf : Nat → Int32) (v_inn_bed : Nat → Int32) (N : Nat) (p0 : Int32) (hf : fX10_ledT N p0 v_inn_sleepers v_night_roomOf v_inn_bed = some ()) : CTt l E yX10_led cX10_led 4 .int 8 1 6 110 [.ref h, .int p0] (wX10_led E h h_reader h_inn h_chosen h_night h_marks h_notes h_casts h_inn_house h_inn_thingIn h_inn_full h_inn_states h_inn_bed h_inn_dreamOf h_inn_listensIn h_night_ways h_night_how h_night_passed h_night_dreamOf h_night_stateOf h_night_roomOf h_night_handOf h_night_awake h_night_thingIn h_night_full h_night_heardBy v_marked v_refusal v_latestFault v_faultPlace v_inn_minutes v_inn_things v_inn_dreams v_inn_sleepers v_inn_listeners v_night_setting v_night_been v_night_roomOf v_inn_bed) := by
  intro sz
  refine MetFree.of_bodyS (code := cX10_led) (maxLocals := 4) (ret := some .int) (by decide) ?_ ?_
  · intro args s m h hn
    obtain ⟨meth, c, h1, h2, h3, h4, h5, h6, -, -⟩ := Cond.code_spec hn (atoms_spec (ws := .code yX10_led cX10_led 4 (some .int) :: GW) h _ List.mem_cons_self)
    exact ⟨meth, c, h1, h2, h3, h4, h5, h6⟩
  intro p e s m args below meth c s₁ B hml hv _
  obtain ⟨rfl, ⟨hsz, hP, hK, hN, hD0, hX⟩, hTh⟩ := hv
  have hts := atoms_spec (ws := .code yX10_led cX10_led 4 (some .int) :: GW) B.pre
  have hno := B.noHandlers (hts _ List.mem_cons_self)
  have hl0 : lv_has (entryFrame m ([.ref h, .int p0] : List Value).toArray 4).locals 4 [(0, .ref h), (1, .int p0)] := by
    rw [lg_entry_eq]
    exact lv_entry [.ref h, .int p0] (n := 4) (Nat.le_of_ble_eq_true rfl)
  subst hsz
  obtain ⟨A, hA⟩ : ∃ A, A = va_A (wX10_led E h h_reader h_inn h_chosen h_night h_marks h_notes h_casts h_inn_house h_inn_thingIn h_inn_full h_inn_states h_inn_bed h_inn_dreamOf h_inn_listensIn h_night_ways h_night_how h_night_passed h_night_dreamOf h_night_stateOf h_night_roomOf h_night_handOf h_night_awake h_night_thingIn h_night_full h_night_heardBy v_marked v_refusal v_latestFault v_faultPlace v_inn_minutes v_inn_things v_inn_dreams v_inn_sleepers v_inn_listeners v_night_setting v_night_been v_night_roomOf v_inn_bed) s.heap.size := ⟨_, rfl⟩
  rw [← hA] at hX hTh ⊢
  have C : CX p s m ([.ref h, .int p0] : List Value).toArray meth c cX10_led RX10 4 E A := ⟨B.exec, B.bytes, hml, findClass_of_methodNamed B.named, fun w hw => hts w (List.mem_cons_of_mem _ hw), hK, hN, hX, fun q h => by rw [hA]; exact Or.inr h, B.notSynchronized⟩
  have hD : va_D A (wX10_led E h h_reader h_inn h_chosen h_night h_marks h_notes h_casts h_inn_house h_inn_thingIn h_inn_full h_inn_states h_inn_bed h_inn_dreamOf h_inn_listensIn h_night_ways h_night_how h_night_passed h_night_dreamOf h_night_stateOf h_night_roomOf h_night_handOf h_night_awake h_night_thingIn h_night_full h_night_heardBy v_marked v_refusal v_latestFault v_faultPlace v_inn_minutes v_inn_things v_inn_dreams v_inn_sleepers v_inn_listeners v_night_setting v_night_been v_night_roomOf v_inn_bed) := by rw [hA]; exact hD0.self
  have hS : va_S A s.heap s.heap [] := va_S.rf
  have hx := C.1
  have hb := C.2.1
  have hh0 : s₁.heap = s.heap := by rw [B.state]; rfl
  suffices K : W p l e ({ frames := 8, cells := 1, slots := 6, locals := 110 } : Room) s m ([.ref h, .int p0] : List Value).toArray below meth c s.heap [] 0 0 (fun t => ∃ o, t.status = .running ∧ Ended t below o ∧ QTh E A (wX10_led E h h_reader h_inn h_chosen h_night h_marks h_notes h_casts h_inn_house h_inn_thingIn h_inn_full h_inn_states h_inn_bed h_inn_dreamOf h_inn_listensIn h_night_ways h_night_how h_night_passed h_night_dreamOf h_night_stateOf h_night_roomOf h_night_handOf h_night_awake h_night_thingIn h_night_full h_night_heardBy v_marked v_refusal v_latestFault v_faultPlace v_inn_minutes v_inn_things v_inn_dreams v_inn_sleepers v_inn_listeners v_night_setting v_night_been v_night_roomOf v_inn_bed) 1 6 ([.ref h, .int p0] : List Value).toArray s o t) (entryFrame m ([.ref h, .int p0] : List Value).toArray 4) by
    obtain ⟨t, a1, o, b1, b2, b3⟩ := K s₁ hh0 (Stand.of_body B)
    exact ⟨t, o, a1, b1, b2, b3⟩
  obtain ⟨Q, hQ⟩ : ∃ Q : State → Prop, Q = (fun t => ∃ o, t.status = .running ∧ Ended t below o ∧ QTh E A (wX10_led E h h_reader h_inn h_chosen h_night h_marks h_notes h_casts h_inn_house h_inn_thingIn h_inn_full h_inn_states h_inn_bed h_inn_dreamOf h_inn_listensIn h_night_ways h_night_how h_night_passed h_night_dreamOf h_night_stateOf h_night_roomOf h_night_handOf h_night_awake h_night_thingIn h_night_full h_night_heardBy v_marked v_refusal v_latestFault v_faultPlace v_inn_minutes v_inn_things v_inn_dreams v_inn_sleepers v_inn_listeners v_night_setting v_night_been v_night_roomOf v_inn_bed) 1 6 ([.ref h, .int p0] : List Value).toArray s o t) := ⟨_, rfl⟩
  rw [← hQ]
  unfold fX10_ledT at hf
  rw [lg_entry_eq] at hl0 ⊢
  have hl := hl0
  refine lv_iconst (pc := 0) (v := 0) hx hb dX10_led_0 (by decide) ?_
  refine lv_istore_n (pc := 1) (lv' := [(2, .int 0), (0, .ref h), (1, .int p0)]) hx hb dX10_led_1 rfl hl (by decide) rfl (fun ls hl => ?_)
  refine lv_iconst (pc := 2) (v := 0) hx hb dX10_led_2 (by decide) ?_
  refine lv_istore_n (pc := 3) (lv' := [(3, .int 0), (2, .int 0), (0, .ref h), (1, .int p0)]) hx hb dX10_led_3 rfl hl (by decide) rfl (fun ls hl => ?_)
  have key4 : ∀ (n : Nat) (x4_2 x4_3 : Int32) (ls : Array Slot), lv_has ls 4 [(0, .ref h), (1, .int p0), (2, .int x4_2), (3, .int x4_3)] → lp (BX10_ledT v_inn_sleepers v_night_roomOf v_inn_bed p0) n (x4_2, x4_3) = some () → W p l e ({ frames := 8, cells := 1, slots := 6, locals := 110 } : Room) s m ([.ref h, .int p0] : List Value).toArray below meth c s.heap [] 0 0 Q (F0 m 4 ls []) := by
    intro n
    induction n with
    | zero => intro x4_2 x4_3 ls _ hf; exact (lp_0 hf).elim
    | succ n ih4 =>
      intro x4_2 x4_3 ls hl hf
      replace hf := lp_s hf
      generalize lp (BX10_ledT v_inn_sleepers v_night_roomOf v_inn_bed p0) n = rec4 at ih4 hf
      unfold BX10_ledT at hf
      replace hf := un2_s hf
      refine lv_iload_n (pc := 4) hx hb dX10_led_4 rfl (lv_at hl 3 rfl) ?_
      refine lv_aload_n (pc := 5) hx hb dX10_led_5 rfl (lv_at hl 0 rfl) ?_
      refine r_get (pc := 6) C hP 0 rfl fl_X10_19 rfl dX10_led_6 ?_
      refine r_get (pc := 9) C hP 1 rfl fl_X10_92 rfl dX10_led_9 ?_
      refine lv_icmp_ge (pc := 12) (tgt := 52) hx hb dX10_led_12 (by decide) (fun c_12 => ?_) (fun c_12 => ?_)
      · obtain ⟨cX, kX, hcX, hkX, -⟩ := Cond.instantiable_spec (C.2.2.2.2.1 _ in_NSE)
        refine W.newcK hx hb C.2.2.2.1 (C.2.2.2.2.1 _ cl_NSE) (C.2.2.2.2.1 _ in_NSE) (C.2.2.2.2.1 _ it_NSE) rfl dX10_led_52 (Nat.le_of_ble_eq_true rfl) (Nat.le_of_ble_eq_true rfl) hcX rfl (fun H1 kC hkC e1 z1 o1 => ?_)
        refine lv_dup (pc := 55) hx hb dX10_led_55 rfl ?_
        intro T hT X
        obtain ⟨U, hst, hrun, hend, hwarm, hsame, ce, hce, hown⟩ := X.ctorThrow0 (own := "NightInn") (cls := "java/util/NoSuchElementException") (names := ["java/lang/RuntimeException", "java/lang/Exception"]) (ic := 306) hx (by rw [X.admits.platform]; exact hl9) C.2.2.2.1 (by decide) (by decide) (own_ok C.2.2.2.2.1 hTh) (fun x hx => by cases hx) hcX hkC (by rw [hT]; exact e1) (Nat.le_refl _) (g := F0 m 56 ls [.ref s.heap.size, .ref s.heap.size]) rfl (hl.1.trans C.2.2.1.symm) rfl rfl (rest := []) rfl (by rw [hb]; exact dX10_led_56) (by rw [hb]; exact dX10_led_59) (fun x hx => by rw [Array.isEmpty_iff.mp hno] at hx; cases hx) (by decide) (Nat.le_of_ble_eq_true rfl) C.2.2.2.2.2.2.2.2.2
        refine ⟨U, hst, ?_⟩
        rw [hQ]
        obtain ⟨hle, hkp⟩ := same_heap hsame
        refine ⟨.threw s.heap.size, hrun, hend, s.heap.size, ce, rfl, hwarm, ⟨[], hsame, fun q h => by cases h⟩, ⟨hle, fun q h1 _ => hkp q h1⟩, ⟨hP.kept (fun k x hx => hkp x.1 ((hP k x hx).lt)), hD⟩, hce, by rw [hown.vm]; rfl, hown.cls⟩
      · replace hf := it_f c_12 hf
        refine lv_aload_n (pc := 15) hx hb dX10_led_15 rfl (lv_at hl 0 rfl) ?_
        refine r_get (pc := 16) C hP 0 rfl fl_X10_32 rfl dX10_led_16 ?_
        refine r_get (pc := 19) C hP 2 rfl fl_X10_186 rfl dX10_led_19 ?_
        refine lv_iload_n (pc := 22) hx hb dX10_led_22 rfl (lv_at hl 3 rfl) ?_
        obtain ⟨hi_23, hf⟩ := gd_s hf
        refine r_iald (pc := 23) C hP 3 rfl hi_23 dX10_led_23 ?_
        refine lv_aload_n (pc := 24) hx hb dX10_led_24 rfl (lv_at hl 0 rfl) ?_
        refine r_get (pc := 25) C hP 0 rfl fl_X10_19 rfl dX10_led_25 ?_
        refine r_get (pc := 28) C hP 1 rfl fl_X10_301 rfl dX10_led_28 ?_
        refine lv_iload_n (pc := 31) hx hb dX10_led_31 rfl (lv_at hl 3 rfl) ?_
        obtain ⟨hi_32, hf⟩ := gd_s hf
        refine r_iald (pc := 32) C hP 4 rfl hi_32 dX10_led_32 ?_
        refine jnK hf (fun j46 ej46 hf => ?_)
        have hj46 : ∀ (x46_2 : Int32) (ls : Array Slot), lv_has ls 4 [(0, .ref h), (1, .int p0), (2, .int x46_2), (3, .int x4_3)] → j46 x46_2 = some () → W p l e ({ frames := 8, cells := 1, slots := 6, locals := 110 } : Room) s m ([.ref h, .int p0] : List Value).toArray below meth c s.heap [] 0 0 Q (F0 m 46 ls []) := by
          intro x46_2 ls hl hf
          rw [ej46] at hf
          replace hf := un1_s hf
          refine lv_iinc (pc := 46) (v := x4_3 + 1) (lv' := [(3, .int (x4_3 + 1)), (0, .ref h), (1, .int p0), (2, .int x46_2)]) hx hb dX10_led_46 hl (k := 3) rfl rfl (by decide) rfl (fun ls hl => ?_)
          refine lv_goto (pc := 49) (tgt := 4) hx hb dX10_led_49 (by decide) ?_
          exact ih4 x46_2 (x4_3 + 1) _ (lv_sub hl [1, 2, 3, 0] rfl) hf
        clear ej46
        refine lv_icmp_eq (pc := 33) (tgt := 46) hx hb dX10_led_33 (by decide) (fun c_33 => ?_) (fun c_33 => ?_)
        · replace hf := it_t c_33 hf
          exact hj46 x4_2 _ (lv_sub hl [0, 1, 2, 3] rfl) hf
        · replace hf := it_f c_33 hf
          refine lv_iload_n (pc := 36) hx hb dX10_led_36 rfl (lv_at hl 2 rfl) ?_
          refine lv_iload_n (pc := 37) hx hb dX10_led_37 rfl (lv_at hl 1 rfl) ?_
          refine lv_icmp_ne (pc := 38) (tgt := 43) hx hb dX10_led_38 (by decide) (fun c_38 => ?_) (fun c_38 => ?_)
          · replace hf := it_f c_38 hf
            refine lv_iinc (pc := 43) (v := x4_2 + 1) (lv' := [(2, .int (x4_2 + 1)), (0, .ref h), (1, .int p0), (3, .int x4_3)]) hx hb dX10_led_43 hl (k := 2) rfl rfl (by decide) rfl (fun ls hl => ?_)
            exact hj46 (x4_2 + 1) _ (lv_sub hl [1, 2, 0, 3] rfl) hf
          · replace hf := it_t c_38 hf
            cases hf
  exact key4 _ 0 0 _ (lv_sub hl [2, 3, 1, 0] rfl) hf
