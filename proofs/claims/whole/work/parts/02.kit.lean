/-! the environment of all contracts: classes, array classes, the tables' words, what stands outside (constants) -/
abbrev CLS : List vw_C := [(RX0, TX0, 10), (RX1, TX1, 9), (RX2, TX2, 12), (RX3, TX3, 1), (RX4, TX4, 14), (RX5, TX5, 5), (RX6, TX6, 8), (RX7, TX7, 9), (RX8, TX8, 2), (RX10, TX10, 11), (RX11, TX11, 27), (RX12, TX12, 35)]
abbrev KD : Type := (Nat → Nat) × Nat × (Nat → Nat) × (Nat → Nat) × Option Nat
def wdN : List String := ["INN", "ROOM", "DOOR", "THING", "DREAM", "SLEEPER", "LISTENS", "COLD", "SHUT", "LOCKED", "FALLS", "FULL", "THEN", "MET", "GO", "TAKE", "PUT", "TIP", "WAIT", "MINUTES", "CREAK", "IN", "BED", "DREAMS"]
def wdC : List Int64 := [9678, 605677, 146930, 21243335, 4789293, 20809171122, 13207475667, 114052, 631476, 418491556, 6336915, 218508, 663726, 13492, 239, 656741, 17076, 20784, 754996, 14276022451, 3740715, 302, 2212, 153257395]
def wdK : List Int32 := [1, 1, 1, 1, 1, 1, 1, 1, 1, 1, 1, 1, 1, 1, 1, 1, 1, 1, 1, 0, 0, 0, 0, 0]
def stI : List Nat := [164, 166, 168, 170, 172, 174, 176, 178, 180, 182, 184, 186, 188, 190, 192, 194, 196, 198, 200, 271, 282, 318, 339, 341]
def stT : List String := ["inn", "room", "door", "thing", "dream", "sleeper", "listens", "cold", "shut", "locked", "falls", "full", "then", "met", "go", "take", "put", "tip", "wait", "minutes", "creak", "in", "bed", "dreams"]
def stB : List (List Int32) := [[105, 110, 110], [114, 111, 111, 109], [100, 111, 111, 114], [116, 104, 105, 110, 103], [100, 114, 101, 97, 109], [115, 108, 101, 101, 112, 101, 114], [108, 105, 115, 116, 101, 110, 115], [99, 111, 108, 100], [115, 104, 117, 116], [108, 111, 99, 107, 101, 100], [102, 97, 108, 108, 115], [102, 117, 108, 108], [116, 104, 101, 110], [109, 101, 116], [103, 111], [116, 97, 107, 101], [112, 117, 116], [116, 105, 112], [119, 97, 105, 116], [109, 105, 110, 117, 116, 101, 115], [99, 114, 101, 97, 107], [105, 110], [98, 101, 100], [100, 114, 101, 97, 109, 115]]
def wdc (k : Nat) : Int64 := wdC.getD k 0
def wdk (k : Nat) : Int32 := wdK.getD k 0
def stl (k : Nat) : Nat := (stB.getD k []).length
def stb (k j : Nat) : Int32 := (stB.getD k []).getD j 0
abbrev EN : Type := va_G × (ClassId × ClassId × ClassId × ClassId × ClassId) × KD
abbrev TYS (E : EN) : List (ClassId × FieldType) := [(E.2.1.1, .int), (E.2.1.2.1, .boolean), (E.2.1.2.2.1, .byte), (E.2.1.2.2.2.1, .long), (E.2.1.2.2.2.2, .object "NightInn$Night")]
abbrev aI (E : EN) (n : Nat) (f : Nat → Int32) : va_E := .inl (E.2.1.1, n, .inl f)
abbrev aZ (E : EN) (n : Nat) (f : Nat → Int32) : va_E := .inl (E.2.1.2.1, n, .inl f)
abbrev aB (E : EN) (n : Nat) (f : Nat → Int32) : va_E := .inl (E.2.1.2.2.1, n, .inl f)
abbrev aJ (E : EN) (n : Nat) (f : Nat → Int64) : va_E := .inl (E.2.1.2.2.2.1, n, .inr (.inl f))
abbrev aQ (E : EN) (n : Nat) (f : Nat → Option Nat) : va_E := .inl (E.2.1.2.2.2.2, n, .inr (.inr (.inr (.inr f))))
def nestW : Cond → Bool
  | .fieldLinkNest .. => true
  | .methodLinkNest .. => true
  | _ => false
def NW (U : State) : Prop := ∀ w ∈ lw_tbl, nestW w = true → va_Nw w U
def GW : List Cond := lw_tbl.filter goodWord
theorem gw_of {w : Cond} (h : w ∈ lw_tbl) (hg : goodWord w = true) : w ∈ GW := List.mem_filter.mpr ⟨h, hg⟩
theorem gw_t {w : Cond} (i : Nat) (h : tables_1[i]? = some w) (hg : goodWord w = true) : w ∈ GW := gw_of (List.mem_append_right _ (List.mem_of_getElem? h)) hg
theorem nw_t {w : Cond} (i : Nat) (h : tables_1[i]? = some w) : w ∈ lw_tbl := List.mem_append_right _ (List.mem_of_getElem? h)
theorem gw_good {c : Cond} (hc : c ∈ GW) : GoodIn GW (c :: GW) := by
  intro w hw
  have h1 : w ∈ GW := (List.mem_cons.mp hw).elim (fun e => e ▸ hc) id
  exact ⟨h1, good_of_word (List.mem_filter.mp h1).2⟩
theorem NW.warm {s U : State} (hW : s.WarmedH U.vm) (h : NW s) : NW U := by
  intro w hw hn
  have h1 := h w hw hn
  cases w <;> first | (exact va_Nw.warmF hW h1) | (exact va_Nw.warmM hW h1) | (exact absurd hn (by simp [nestW]))
theorem NW.same {u U : State} (e : u.vm = U.vm) (h : NW u) : NW U := by
  intro w hw hn
  have h1 := h w hw hn
  cases w <;> first | (exact va_Nw.same rfl e h1) | (exact absurd hn (by simp [nestW]))
def KX (K : KD) (A : Nat → Prop) (U : State) (H : Heap) : Prop :=
  (∀ k, k < 24 → va_Z "NightInn$Word" (wdN.getD k "") "LNightInn$Word;" (.ref (K.1 k)) A U H ∧ va_OF "NightInn$Word" "code" "J" (.long (wdc k)) (K.1 k) A U H ∧ va_OF "NightInn$Word" "kept" "Z" (.int (wdk k)) (K.1 k) A U H) ∧
  va_Z "NightInn$Word" "ALL" "[LNightInn$Word;" (.ref K.2.1) A U H ∧ va_T (.object "NightInn$Word") K.2.1 24 (fun j => .ref (K.1 j)) A U H ∧ va_Z "java/lang/String" "COMPACT_STRINGS" "Z" (.int 1) A U H ∧ va_Z "jdk/internal/util/Preconditions" "SIOOBE_FORMATTER" "Ljava/util/function/BiFunction;" (va_rf K.2.2.2.2) A U H ∧
  (∀ k, k < 24 → va_O "java/lang/String" (K.2.2.1 k) A U H ∧ va_OF "java/lang/String" "coder" "B" (.int 0) (K.2.2.1 k) A U H ∧ va_OF "java/lang/String" "value" "[B" (.ref (K.2.2.2.1 k)) (K.2.2.1 k) A U H ∧ va_T .byte (K.2.2.2.1 k) (stl k) (fun j => .int (stb k j)) A U H ∧ vk_R "NightInnModel" (stI.getD k 0) (stT.getD k "") (K.2.2.1 k) U)
theorem KX.warm {K : KD} {A : Nat → Prop} {s U : State} {H : Heap} (hW : s.WarmedH U.vm) (h : KX K A s H) : KX K A U H :=
  ⟨fun k hk => ⟨(h.1 k hk).1.moved hW.alike, (h.1 k hk).2.1.moved hW.alike, (h.1 k hk).2.2.moved hW.alike⟩, h.2.1.moved hW.alike, h.2.2.1.moved hW.alike, h.2.2.2.1.moved hW.alike, h.2.2.2.2.1.moved hW.alike, fun k hk => ⟨(h.2.2.2.2.2 k hk).1.moved hW.alike, (h.2.2.2.2.2 k hk).2.1.moved hW.alike, (h.2.2.2.2.2 k hk).2.2.1.moved hW.alike, (h.2.2.2.2.2 k hk).2.2.2.1.moved hW.alike, (h.2.2.2.2.2 k hk).2.2.2.2.warm hW⟩⟩
theorem KX.same {K : KD} {A : Nat → Prop} {u U : State} {H : Heap} (e : U.vm = u.vm) (h : KX K A u H) : KX K A U H := by
  have hA : u.vm.Alike U.vm := by rw [e]; exact Vm.Alike.refl _
  exact ⟨fun k hk => ⟨(h.1 k hk).1.moved hA, (h.1 k hk).2.1.moved hA, (h.1 k hk).2.2.moved hA⟩, h.2.1.moved hA, h.2.2.1.moved hA, h.2.2.2.1.moved hA, h.2.2.2.2.1.moved hA, fun k hk => ⟨(h.2.2.2.2.2 k hk).1.moved hA, (h.2.2.2.2.2 k hk).2.1.moved hA, (h.2.2.2.2.2 k hk).2.2.1.moved hA, (h.2.2.2.2.2 k hk).2.2.2.1.moved hA, (h.2.2.2.2.2 k hk).2.2.2.2.same e⟩⟩
theorem KX.kept {K : KD} {A : Nat → Prop} {U : State} {H H1 : Heap} (hq : ∀ a : Nat, a < H.size → ¬ A a → H1[a]? = H[a]?) (h : KX K A U H) : KX K A U H1 :=
  ⟨fun k hk => ⟨(h.1 k hk).1.kept hq, (h.1 k hk).2.1.kept hq, (h.1 k hk).2.2.kept hq⟩, h.2.1.kept hq, h.2.2.1.kept hq, h.2.2.2.1.kept hq, h.2.2.2.2.1.kept hq, fun k hk => ⟨(h.2.2.2.2.2 k hk).1.kept hq, (h.2.2.2.2.2 k hk).2.1.kept hq, (h.2.2.2.2.2 k hk).2.2.1.kept hq, (h.2.2.2.2.2 k hk).2.2.2.1.kept hq, (h.2.2.2.2.2 k hk).2.2.2.2⟩⟩
theorem KX.narrow {K : KD} {A B : Nat → Prop} {U : State} {H : Heap} (hAB : ∀ q, B q → A q) (h : KX K A U H) : KX K B U H :=
  ⟨fun k hk => ⟨(h.1 k hk).1.narrow hAB, (h.1 k hk).2.1.narrow hAB, (h.1 k hk).2.2.narrow hAB⟩, h.2.1.narrow hAB, h.2.2.1.narrow hAB, h.2.2.2.1.narrow hAB, h.2.2.2.2.1.narrow hAB, fun k hk => ⟨(h.2.2.2.2.2 k hk).1.narrow hAB, (h.2.2.2.2.2 k hk).2.1.narrow hAB, (h.2.2.2.2.2 k hk).2.2.1.narrow hAB, (h.2.2.2.2.2 k hk).2.2.2.1.narrow hAB, (h.2.2.2.2.2 k hk).2.2.2.2⟩⟩
/-- a method's start: its world, the tables, what stands outside -/
def PW (E : EN) (wc : va_W) (sz : Nat) (U : State) : Prop := U.heap.size = sz ∧ va_P E.1 CLS wc U.heap ∧ va_K E.1 CLS (TYS E) U ∧ NW U ∧ va_D (fun _ => True) wc ∧ KX E.2.2 (va_A wc sz) U U.heap
theorem PW.blind (av : List Value) (E : EN) (wc : va_W) (sz : Nat) : FrameBlind (va_Pc av (PW E wc sz)) := by
  intro a U g mk q
  obtain ⟨q0, q1, qP, qK, qN, qD, qX⟩ := q
  exact ⟨q0, q1, qP, va_K.moved (u := U) (U := U.calling g mk a) (Vm.Alike.refl U.vm) qK, NW.same (u := U) (U := U.calling g mk a) rfl qN, qD, KX.same (u := U) (U := U.calling g mk a) rfl qX⟩
def BW (E : EN) (A : Nat → Prop) (w1 : va_W) (t : State) : Prop := va_P E.1 CLS w1 t.heap ∧ va_D A w1
abbrev Qi (E : EN) (A : Nat → Prop) (r : Int32) (w1 : va_W) : Array Value → State → Outcome → State → Prop := va_Qi (fun r' (_ : Unit) => r' = r) (fun _ t => BW E A w1 t) A
abbrev Ql (E : EN) (A : Nat → Prop) (r : Int64) (w1 : va_W) : Array Value → State → Outcome → State → Prop := va_Ql (fun r' (_ : Unit) => r' = r) (fun _ t => BW E A w1 t) A
abbrev Qv (E : EN) (A : Nat → Prop) (w1 : va_W) : Array Value → State → Outcome → State → Prop := va_Qv (fun (_ : Unit) => True) (fun _ t => BW E A w1 t) A
abbrev Qn (E : EN) (A : Nat → Prop) (Pw : va_W → Prop) : Array Value → State → Outcome → State → Prop := va_Qv Pw (fun w1 t => BW E A w1 t) A
abbrev rmOf (fr lc : Nat) : Room := { frames := fr, cells := 0, slots := 0, locals := lc }
/-- contracts: an int, a long, nothing comes back; the world is w1 then -/
def CTi (l : Launch) (E : EN) (y : MethodName) (b : ByteArray) (maxL : Nat) (ret : FieldType) (fr lc : Nat) (av : List Value) (wc : va_W) (r : Int32) (w1 : va_W) : Prop :=
  ∀ sz, Met l y (.code y b maxL (some ret) :: GW) (rmOf fr lc) (va_Pc av (PW E wc sz)) (Qi E (va_A wc sz) r w1) 0 0 (va_A wc sz)
def CTl (l : Launch) (E : EN) (y : MethodName) (b : ByteArray) (maxL : Nat) (fr lc : Nat) (av : List Value) (wc : va_W) (r : Int64) (w1 : va_W) : Prop :=
  ∀ sz, Met l y (.code y b maxL (some .long) :: GW) (rmOf fr lc) (va_Pc av (PW E wc sz)) (Ql E (va_A wc sz) r w1) 0 0 (va_A wc sz)
def CTv (l : Launch) (E : EN) (y : MethodName) (b : ByteArray) (maxL : Nat) (fr lc : Nat) (av : List Value) (wc w1 : va_W) : Prop :=
  ∀ sz, Met l y (.code y b maxL none :: GW) (rmOf fr lc) (va_Pc av (PW E wc sz)) (Qv E (va_A wc sz) w1) 0 0 (va_A wc sz)
/-- .. and one that makes cells: the world is one of which Pw holds -/
def CTn (l : Launch) (E : EN) (y : MethodName) (b : ByteArray) (maxL : Nat) (fr mc ms lc : Nat) (av : List Value) (wc : va_W) (Pw : va_W → Prop) : Prop :=
  ∀ sz, Met l y (.code y b maxL none :: GW) { frames := fr, cells := mc, slots := ms, locals := lc } (va_Pc av (PW E wc sz)) (Qn E (va_A wc sz) Pw) mc ms (va_A wc sz)
/-- what stays the same over a method's body -/
def CX (p : Program) (s : State) (m : MethodId) (args : Array Value) (meth : Method) (c : Code) (cc : ByteArray) (own : String) (nL : Nat) (E : EN) (A : Nat → Prop) : Prop :=
  p.tables.exec = Jvm.exec ∧ c.code = cc ∧ c.maxLocals = nL ∧ s.vm.findClass own = some m.cls ∧ (∀ w ∈ GW, w.before args s = true) ∧ va_K E.1 CLS (TYS E) s ∧ NW s ∧ KX E.2.2 A s s.heap ∧ (∀ q, s.heap.size ≤ q → A q) ∧ meth.locks = false
theorem CX.x {p : Program} {s : State} {m : MethodId} {args : Array Value} {meth : Method} {c : Code} {cc : ByteArray} {own : String} {nL : Nat} {E : EN} {A : Nat → Prop} (C : CX p s m args meth c cc own nL E A) : p.tables.exec = Jvm.exec := C.1
/-- a body's start -/
theorem ct_body {l : Launch} {E : EN} {y : MethodName} {b : ByteArray} {maxL : Nat} {ret : Option FieldType} {rm : Room} {mc ms : Nat} {av : List Value} {wc : va_W} {sz : Nat} {Qc : Array Value → State → Outcome → State → Prop} (hy : plainName y.cls = true) (ha : (lg_sl av).length ≤ maxL)
    (body : ∀ (p : Program) (e : Env) (s : State) (m : MethodId) (args : Array Value) (below : List Frame) (meth : Method) (c : Code) (A : Nat → Prop) (ls : Array Slot), va_A wc sz = A → CX p s m args meth c b y.cls maxL E A → meth.sig.returnType = ret → (y.name = "<init>" → meth.name = "<init>") → va_P E.1 CLS wc s.heap → va_D A wc → va_S A s.heap s.heap [] → lv_has ls maxL (lv_args 0 av) →
      W p l e rm s m args below meth c s.heap [] 0 0 (MQ below Qc args s mc ms A) (F0 m 0 ls [])) :
    Met l y (.code y b maxL ret :: GW) rm (va_Pc av (PW E wc sz)) Qc mc ms (va_A wc sz) := by
  refine Met.ofW (cc := b) (maxL := maxL) (ret := ret) hy rfl ?_
  intro p e s m args below meth c s₁ B hml hv
  obtain ⟨rfl, hsz, hP, hK, hN, hD0, hX⟩ := hv
  have hts := atoms_spec (ws := .code y b maxL ret :: GW) B.pre
  have hl := lv_entry av (n := maxL) ha
  rw [lg_entry_eq]
  subst hsz
  exact body p e s m av.toArray below meth c _ _ rfl ⟨B.exec, B.bytes, hml, findClass_of_methodNamed B.named, fun w hw => hts w (List.mem_cons_of_mem _ hw), hK, hN, hX, fun q h => Or.inr h, B.notSynchronized⟩ B.returns (fun h => by
    first
      | (have h1 := (name_of_methodNamed B.named B.method).1; exact h1.trans h)
      | (rw [(name_of_methodNamed B.named B.method).1]; exact h)) hP hD0.self va_S.rf hl
/-! in-place change of a world -/
def upds : va_W → List Nat → va_W → va_W
  | ws, i :: is, c :: cs => upds (ws.set i c) is cs
  | ws, _, _ => ws
theorem upds_len : ∀ (is : List Nat) (cs ws : va_W), (upds ws is cs).length = ws.length
  | [], cs, ws => by cases cs <;> rfl
  | i :: is, [], ws => rfl
  | i :: is, c :: cs, ws => by rw [upds, upds_len is cs, List.length_set]
theorem upds_at : ∀ (is : List Nat) (cs ws : va_W) (k : Nat), (∃ (j : Nat) (c : Nat × va_E), is[j]? = some k ∧ cs[j]? = some c ∧ (upds ws is cs)[k]? = ws[k]?.map (fun _ => c)) ∨ ((∀ j : Nat, is[j]? = some k → cs[j]? = none) ∧ (upds ws is cs)[k]? = ws[k]?)
  | [], cs, ws, k => by
    right
    refine ⟨fun j h => by simp at h, ?_⟩
    cases cs <;> rfl
  | i :: is, [], ws, k => Or.inr ⟨fun j h => by simp, rfl⟩
  | i :: is, c :: cs, ws, k => by
    rcases upds_at is cs (ws.set i c) k with ⟨j, d, h1, h2, h3⟩ | ⟨h1, h2⟩
    · left
      refine ⟨j + 1, d, by simpa using h1, by simpa using h2, ?_⟩
      rw [upds, h3]
      by_cases hk : i = k
      · subst hk
        rw [List.getElem?_set]
        simp
        by_cases hl : i < ws.length
        · simp [hl]
        · simp [hl]
      · rw [List.getElem?_set_ne hk]
    · by_cases hk : i = k
      · subst hk
        left
        refine ⟨0, c, by simp, by simp, ?_⟩
        rw [upds, h2, List.getElem?_set]
        simp
        by_cases hl : i < ws.length
        · simp [hl]
        · simp [hl]
      · right
        refine ⟨fun j hj => ?_, ?_⟩
        · cases j with
          | zero => simp at hj; exact absurd hj hk
          | succ j => simpa using h1 j (by simpa using hj)
        · rw [upds, h2, List.getElem?_set_ne hk]
theorem va_inpl {A0 : Nat → Prop} {D : va_G} {cl : List vw_C} {ws wc w1 ws' : va_W} {H H1 : Heap} (hP : va_P D cl ws H) (hD : va_D A0 ws) (isC : List Nat) (hC : isC.map (fun i => ws[i]?) = wc.map some) (ha : w1.map (fun q => q.1) = wc.map (fun q => q.1)) (hw : upds ws isC w1 = ws')
    (hk : ∀ q : Nat, q < H.size → ¬ va_A wc H.size q → H1[q]? = H[q]?) (hP1 : va_P D cl w1 H1) : va_P D cl ws' H1 ∧ va_D A0 ws' := by
  subst hw
  have hlen : w1.length = wc.length := by
    have := congrArg List.length ha
    simpa using this
  have at' : ∀ (k : Nat) (q : Nat × va_E), wc[k]? = some q → ∃ i, isC[k]? = some i ∧ ws[i]? = some q := by
    intro k q hq
    have h1 : (isC.map (fun i => ws[i]?))[k]? = some (some q) := by rw [hC, List.getElem?_map, hq]; rfl
    rw [List.getElem?_map] at h1
    cases hi : isC[k]? with
    | none => rw [hi] at h1; cases h1
    | some i => rw [hi] at h1; exact ⟨i, rfl, Option.some.inj h1⟩
  have clen : isC.length = wc.length := by
    have := congrArg List.length hC
    simpa using this
  have fst' : ∀ (k : Nat) (q : Nat × va_E), (upds ws isC w1)[k]? = some q → ∃ q0, ws[k]? = some q0 ∧ q0.1 = q.1 := by
    intro k q hq
    rcases upds_at isC w1 ws k with ⟨j, c, h1, h2, h3⟩ | ⟨-, h2⟩
    · rw [h3] at hq
      cases hk : ws[k]? with
      | none => rw [hk] at hq; cases hq
      | some q0 =>
        rw [hk] at hq
        have e : c = q := by simpa using hq
        subst e
        refine ⟨q0, rfl, ?_⟩
        have hj : j < wc.length := by rw [← hlen]; exact (List.getElem?_eq_some_iff.mp h2).1
        obtain ⟨i, g1, g2⟩ := at' j wc[j] (List.getElem?_eq_getElem hj)
        have e2 : i = k := Option.some.inj (g1.symm.trans h1)
        subst e2
        have e3 : q0 = wc[j] := Option.some.inj (hk.symm.trans g2)
        have e4 : (w1.map (fun q => q.1))[j]? = (wc.map (fun q => q.1))[j]? := by rw [ha]
        rw [List.getElem?_map, List.getElem?_map, h2, List.getElem?_eq_getElem hj] at e4
        rw [e3]
        simpa using e4.symm
    · rw [h2] at hq
      exact ⟨q, hq, rfl⟩
  refine ⟨fun k q hq => ?_, fun i j x y hx hy hxy => ?_, fun k q hq => ?_⟩
  · rcases upds_at isC w1 ws k with ⟨j, c, h1, h2, h3⟩ | ⟨h1, h2⟩
    · rw [h3] at hq
      cases hk : ws[k]? with
      | none => rw [hk] at hq; cases hq
      | some q0 =>
        rw [hk] at hq
        have e : c = q := by simpa using hq
        subst e
        exact hP1 j c h2
    · rw [h2] at hq
      refine (hP k q hq).kept (hk q.1 (hP k q hq).lt (fun h => ?_))
      rcases h with ⟨k2, e, h⟩ | h
      · obtain ⟨i, g1, g2⟩ := at' k2 (q.1, e) h
        have hik := hD.1 i k (q.1, e) q g2 hq rfl
        subst hik
        have h5 := h1 k2 g1
        have : k2 < w1.length := by rw [hlen]; exact (List.getElem?_eq_some_iff.mp h).1
        rw [List.getElem?_eq_getElem this] at h5
        cases h5
      · exact absurd (hP k q hq).lt (by omega)
  · obtain ⟨x0, g1, g2⟩ := fst' i x hx
    obtain ⟨y0, g3, g4⟩ := fst' j y hy
    exact hD.1 i j x0 y0 g1 g3 (by rw [g2, g4]; exact hxy)
  · obtain ⟨x0, g1, g2⟩ := fst' k q hq
    rw [← g2]
    exact hD.2 k x0 g1
