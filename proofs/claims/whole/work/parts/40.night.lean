/-! tables: an inn I, a night n
I 0: rooms doors things dreams sleepers listeners minutes; 1 creak, 2 cold, 3 4 ends of doors, 5 how, 6 falls, 7 things' rooms, 8 full, 9 told, 10 act, 11 what (0: nothing), 12 then, 13 met (0: nothing), 14 bed, 15 dream, 16 who listens
n 0: minute, setting; 1 how, 2 passed, 3 dream, 4 state, 5 room, 6 hand (0: nothing), 7 awake, 8 thing's room, 9 full, 10 heard (bit m - 1 of the minute m) -/
abbrev Tb := Nat → Nat → Nat
def set2 (n : Tb) (f i v : Nat) : Tb := fun g j => if g = f ∧ j = i then v else n g j
theorem set2_s {n : Tb} {f i v : Nat} : set2 n f i v f i = v := if_pos ⟨rfl, rfl⟩
theorem set2_i {n : Tb} {f i v j : Nat} (h : j ≠ i) : set2 n f i v f j = n f j := if_neg (fun q => h q.2)
theorem set2_f {n : Tb} {f i v g j : Nat} (h : g ≠ f) : set2 n f i v g j = n g j := if_neg (fun q => h q.1)
def hI (h : Nat) : Int32 := if h = 0 then -2 else nI (h - 1)
theorem hI_0 : hI 0 = -2 := rfl
theorem hI_s (t : Nat) : hI (t + 1) = nI t := rfl
theorem hI_p {h : Nat} (h0 : h ≠ 0) : hI h = nI (h - 1) := if_neg h0
theorem hI_m2 {h : Nat} (hh : h < 2 ^ 31) : hI h = -2 ↔ h = 0 := by
  unfold hI
  by_cases c : h = 0
  · simp [c]
  · rw [if_neg c, nI_neg2 (by omega)]
    simp [c]
theorem hI_lt {h : Nat} (hh : h < 2 ^ 31) : hI h < 0 ↔ h = 0 := by
  unfold hI
  by_cases c : h = 0
  · rw [if_pos c]; exact ⟨fun _ => c, fun _ => by decide⟩
  · rw [if_neg c, nI_lt0 (by omega)]
    simp [c]
theorem hI_eq {h t : Nat} (hh : h < 2 ^ 31) (ht : t < 2 ^ 31) : hI h = nI t ↔ h = t + 1 := by
  unfold hI
  by_cases c : h = 0
  · rw [if_pos c, neg2_nI ht]
    exact ⟨fun e => e.elim, fun e => by omega⟩
  · rw [if_neg c, nI_eq (by omega) ht]
    omega
def BZ (awake full : Nat → Int32) : Prop := (∀ i, i < 3 → awake i = 0 ∨ awake i = 1) ∧ ∀ i, i < 4 → full i = 0 ∨ full i = 1
theorem nI01 {v : Nat} (h : v ≤ 1) : nI v = 0 ∨ nI v = 1 := by
  rcases Nat.lt_or_ge v 1 with z | z
  · have : v = 0 := by omega
    subst this; exact Or.inl rfl
  · have : v = 1 := by omega
    subst this; exact Or.inr rfl
theorem BZ.a {awake full : Nat → Int32} (h : BZ awake full) (i : Nat) {v : Nat} (hv : v ≤ 1) : BZ (upd awake i (nI v)) full := ⟨fun j hj => by
  by_cases c : j = i
  · rw [c, pk_us]; exact nI01 hv
  · rw [pk_un c]; exact h.1 j hj, h.2⟩
theorem BZ.f {awake full : Nat → Int32} (h : BZ awake full) (i : Nat) {v : Nat} (hv : v ≤ 1) : BZ awake (upd full i (nI v)) := ⟨h.1, fun j hj => by
  by_cases c : j = i
  · rw [c, pk_us]; exact nI01 hv
  · rw [pk_un c]; exact h.2 j hj⟩
def HZ (I : Tb) (heardBy : Nat → Int64) : Prop := ∀ i, I 0 5 ≤ i → i < 3 → heardBy i = 0
theorem HZ.u {I : Tb} {heardBy : Nat → Int64} (h : HZ I heardBy) {k : Nat} (hk : k < I 0 5) (x : Int64) : HZ I (vp_updL heardBy k x) := fun i h1 h2 => by
  rw [pk_uLn (by omega)]
  exact h i h1 h2
def CN (I n : Tb) (been : Int32) (how passed dreamOf stateOf roomOf handOf awake thingIn full : Nat → Int32) (heardBy : Nat → Int64) : Prop :=
  been = nI (n 0 0) ∧ (∀ i, i < I 0 1 → how i = nI (n 1 i)) ∧ (∀ i, i < I 0 1 → passed i = nI (n 2 i)) ∧ (∀ i, i < I 0 4 → dreamOf i = nI (n 3 i)) ∧ (∀ i, i < I 0 4 → stateOf i = nI (n 4 i)) ∧ (∀ i, i < I 0 4 → roomOf i = nI (n 5 i)) ∧ (∀ i, i < I 0 4 → handOf i = hI (n 6 i)) ∧ (∀ i, i < I 0 4 → awake i = nI (n 7 i)) ∧ (∀ i, i < I 0 2 → thingIn i = nI (n 8 i)) ∧ (∀ i, i < I 0 2 → full i = nI (n 9 i)) ∧ (∀ i, i < I 0 5 → heardBy i = lN (2 * n 10 i)) ∧ BZ awake full ∧ HZ I heardBy
/-- the places of a row that belong to nothing: 0 from nightfall on -/
def zi (I : Tb) (i : Nat) : Prop := (I 0 4 ≤ i ∧ i < 3) ∨ (9 + I 0 4 ≤ i ∧ i < 12) ∨ (15 + I 0 2 ≤ i ∧ i < 19) ∨ (19 + I 0 2 ≤ i ∧ i < 23) ∨ (23 + I 0 1 ≤ i ∧ i < 33) ∨ (43 + 2 * I 0 5 ≤ i ∧ i < 49)
def RZ (I : Tb) (w : Nat → Int32) : Prop := ∀ i, zi I i → w i = 0
theorem RZ.u {I : Tb} {w : Nat → Int32} (h : RZ I w) {k : Nat} (hk : ¬ zi I k) (x : Int32) : RZ I (upd w k x) := fun i hi => by
  have hne : i ≠ k := fun e => by
    rw [e] at hi
    exact hk hi
  rw [pk_un hne]
  exact h i hi
def RN (I n : Tb) (w : Nat → Int32) : Prop :=
  w 49 = nI (n 0 0) ∧ w 50 = nI (n 0 1) ∧ (∀ i, i < I 0 1 → w (23 + i) = nI (n 1 i)) ∧ (∀ i, i < I 0 1 → w (33 + i) = nI (n 2 i)) ∧ (∀ i, i < I 0 4 → w (12 + i) = nI (n 3 i)) ∧ (∀ i, i < I 0 4 → w (3 + i) = nI (n 4 i)) ∧ (∀ i, i < I 0 4 → w (0 + i) = nI (n 5 i)) ∧ (∀ i, i < I 0 4 → w (6 + i) = hI (n 6 i)) ∧ (∀ i, i < I 0 4 → w (9 + i) = nI (n 7 i)) ∧ (∀ i, i < I 0 2 → w (15 + i) = nI (n 8 i)) ∧ (∀ i, i < I 0 2 → w (19 + i) = nI (n 9 i)) ∧ (∀ i, i < I 0 5 → w (43 + 2 * i) = nI (n 10 i % 2 ^ 20) ∧ w (44 + 2 * i) = nI (n 10 i / 2 ^ 20)) ∧ RZ I w
def cnt (I : Tb) : Prop := I 0 4 ≤ 3 ∧ I 0 2 ≤ 4 ∧ I 0 1 ≤ 10 ∧ I 0 5 ≤ 3
theorem CN.how {I n : Tb} {been : Int32} {how passed dreamOf stateOf roomOf handOf awake thingIn full : Nat → Int32} {heardBy : Nat → Int64} (h : CN I n been how passed dreamOf stateOf roomOf handOf awake thingIn full heardBy) (i v : Nat) : CN I (set2 n 1 i v) been (upd how i (nI v)) passed dreamOf stateOf roomOf handOf awake thingIn full heardBy := by
  obtain ⟨e1, h0, h1, h2, h3, h4, h5, h6, h7, h8, hl, hz⟩ := h
  refine ⟨by rw [set2_f (by omega)]; exact e1, fun j hj => by
    by_cases c : j = i
    · subst c; rw [pk_us, set2_s]
    · rw [pk_un c, set2_i c]; exact h0 j hj, fun j hj => by rw [set2_f (by omega)]; exact h1 j hj, fun j hj => by rw [set2_f (by omega)]; exact h2 j hj, fun j hj => by rw [set2_f (by omega)]; exact h3 j hj, fun j hj => by rw [set2_f (by omega)]; exact h4 j hj, fun j hj => by rw [set2_f (by omega)]; exact h5 j hj, fun j hj => by rw [set2_f (by omega)]; exact h6 j hj, fun j hj => by rw [set2_f (by omega)]; exact h7 j hj, fun j hj => by rw [set2_f (by omega)]; exact h8 j hj, fun j hj => by rw [set2_f (by omega)]; exact hl j hj, hz⟩
theorem RN.how {I n : Tb} {w : Nat → Int32} (hc : cnt I) (h : RN I n w) {i : Nat} (hi : i < I 0 1) (v : Nat) : RN I (set2 n 1 i v) (upd w (23 + i) (nI v)) := by
  obtain ⟨c1, c2, c3, c4⟩ := hc
  obtain ⟨e1, e2, h0, h1, h2, h3, h4, h5, h6, h7, h8, hl, hz⟩ := h
  refine ⟨by rw [set2_f (by omega), pk_un (by omega)]; exact e1, by rw [set2_f (by omega), pk_un (by omega)]; exact e2, fun j hj => by
    by_cases c : j = i
    · subst c; rw [pk_us, set2_s]
    · rw [pk_un (by omega), set2_i c]; exact h0 j hj, fun j hj => by rw [set2_f (by omega), pk_un (by omega)]; exact h1 j hj, fun j hj => by rw [set2_f (by omega), pk_un (by omega)]; exact h2 j hj, fun j hj => by rw [set2_f (by omega), pk_un (by omega)]; exact h3 j hj, fun j hj => by rw [set2_f (by omega), pk_un (by omega)]; exact h4 j hj, fun j hj => by rw [set2_f (by omega), pk_un (by omega)]; exact h5 j hj, fun j hj => by rw [set2_f (by omega), pk_un (by omega)]; exact h6 j hj, fun j hj => by rw [set2_f (by omega), pk_un (by omega)]; exact h7 j hj, fun j hj => by rw [set2_f (by omega), pk_un (by omega)]; exact h8 j hj, fun j hj => by rw [set2_f (by omega), pk_un (by omega), pk_un (by omega)]; exact hl j hj, hz.u (by unfold zi; omega) _⟩
theorem CN.passed {I n : Tb} {been : Int32} {how passed dreamOf stateOf roomOf handOf awake thingIn full : Nat → Int32} {heardBy : Nat → Int64} (h : CN I n been how passed dreamOf stateOf roomOf handOf awake thingIn full heardBy) (i v : Nat) : CN I (set2 n 2 i v) been how (upd passed i (nI v)) dreamOf stateOf roomOf handOf awake thingIn full heardBy := by
  obtain ⟨e1, h0, h1, h2, h3, h4, h5, h6, h7, h8, hl, hz⟩ := h
  refine ⟨by rw [set2_f (by omega)]; exact e1, fun j hj => by rw [set2_f (by omega)]; exact h0 j hj, fun j hj => by
    by_cases c : j = i
    · subst c; rw [pk_us, set2_s]
    · rw [pk_un c, set2_i c]; exact h1 j hj, fun j hj => by rw [set2_f (by omega)]; exact h2 j hj, fun j hj => by rw [set2_f (by omega)]; exact h3 j hj, fun j hj => by rw [set2_f (by omega)]; exact h4 j hj, fun j hj => by rw [set2_f (by omega)]; exact h5 j hj, fun j hj => by rw [set2_f (by omega)]; exact h6 j hj, fun j hj => by rw [set2_f (by omega)]; exact h7 j hj, fun j hj => by rw [set2_f (by omega)]; exact h8 j hj, fun j hj => by rw [set2_f (by omega)]; exact hl j hj, hz⟩
theorem RN.passed {I n : Tb} {w : Nat → Int32} (hc : cnt I) (h : RN I n w) {i : Nat} (hi : i < I 0 1) (v : Nat) : RN I (set2 n 2 i v) (upd w (33 + i) (nI v)) := by
  obtain ⟨c1, c2, c3, c4⟩ := hc
  obtain ⟨e1, e2, h0, h1, h2, h3, h4, h5, h6, h7, h8, hl, hz⟩ := h
  refine ⟨by rw [set2_f (by omega), pk_un (by omega)]; exact e1, by rw [set2_f (by omega), pk_un (by omega)]; exact e2, fun j hj => by rw [set2_f (by omega), pk_un (by omega)]; exact h0 j hj, fun j hj => by
    by_cases c : j = i
    · subst c; rw [pk_us, set2_s]
    · rw [pk_un (by omega), set2_i c]; exact h1 j hj, fun j hj => by rw [set2_f (by omega), pk_un (by omega)]; exact h2 j hj, fun j hj => by rw [set2_f (by omega), pk_un (by omega)]; exact h3 j hj, fun j hj => by rw [set2_f (by omega), pk_un (by omega)]; exact h4 j hj, fun j hj => by rw [set2_f (by omega), pk_un (by omega)]; exact h5 j hj, fun j hj => by rw [set2_f (by omega), pk_un (by omega)]; exact h6 j hj, fun j hj => by rw [set2_f (by omega), pk_un (by omega)]; exact h7 j hj, fun j hj => by rw [set2_f (by omega), pk_un (by omega)]; exact h8 j hj, fun j hj => by rw [set2_f (by omega), pk_un (by omega), pk_un (by omega)]; exact hl j hj, hz.u (by unfold zi; omega) _⟩
theorem CN.dreamOf {I n : Tb} {been : Int32} {how passed dreamOf stateOf roomOf handOf awake thingIn full : Nat → Int32} {heardBy : Nat → Int64} (h : CN I n been how passed dreamOf stateOf roomOf handOf awake thingIn full heardBy) (i v : Nat) : CN I (set2 n 3 i v) been how passed (upd dreamOf i (nI v)) stateOf roomOf handOf awake thingIn full heardBy := by
  obtain ⟨e1, h0, h1, h2, h3, h4, h5, h6, h7, h8, hl, hz⟩ := h
  refine ⟨by rw [set2_f (by omega)]; exact e1, fun j hj => by rw [set2_f (by omega)]; exact h0 j hj, fun j hj => by rw [set2_f (by omega)]; exact h1 j hj, fun j hj => by
    by_cases c : j = i
    · subst c; rw [pk_us, set2_s]
    · rw [pk_un c, set2_i c]; exact h2 j hj, fun j hj => by rw [set2_f (by omega)]; exact h3 j hj, fun j hj => by rw [set2_f (by omega)]; exact h4 j hj, fun j hj => by rw [set2_f (by omega)]; exact h5 j hj, fun j hj => by rw [set2_f (by omega)]; exact h6 j hj, fun j hj => by rw [set2_f (by omega)]; exact h7 j hj, fun j hj => by rw [set2_f (by omega)]; exact h8 j hj, fun j hj => by rw [set2_f (by omega)]; exact hl j hj, hz⟩
theorem RN.dreamOf {I n : Tb} {w : Nat → Int32} (hc : cnt I) (h : RN I n w) {i : Nat} (hi : i < I 0 4) (v : Nat) : RN I (set2 n 3 i v) (upd w (12 + i) (nI v)) := by
  obtain ⟨c1, c2, c3, c4⟩ := hc
  obtain ⟨e1, e2, h0, h1, h2, h3, h4, h5, h6, h7, h8, hl, hz⟩ := h
  refine ⟨by rw [set2_f (by omega), pk_un (by omega)]; exact e1, by rw [set2_f (by omega), pk_un (by omega)]; exact e2, fun j hj => by rw [set2_f (by omega), pk_un (by omega)]; exact h0 j hj, fun j hj => by rw [set2_f (by omega), pk_un (by omega)]; exact h1 j hj, fun j hj => by
    by_cases c : j = i
    · subst c; rw [pk_us, set2_s]
    · rw [pk_un (by omega), set2_i c]; exact h2 j hj, fun j hj => by rw [set2_f (by omega), pk_un (by omega)]; exact h3 j hj, fun j hj => by rw [set2_f (by omega), pk_un (by omega)]; exact h4 j hj, fun j hj => by rw [set2_f (by omega), pk_un (by omega)]; exact h5 j hj, fun j hj => by rw [set2_f (by omega), pk_un (by omega)]; exact h6 j hj, fun j hj => by rw [set2_f (by omega), pk_un (by omega)]; exact h7 j hj, fun j hj => by rw [set2_f (by omega), pk_un (by omega)]; exact h8 j hj, fun j hj => by rw [set2_f (by omega), pk_un (by omega), pk_un (by omega)]; exact hl j hj, hz.u (by unfold zi; omega) _⟩
theorem CN.stateOf {I n : Tb} {been : Int32} {how passed dreamOf stateOf roomOf handOf awake thingIn full : Nat → Int32} {heardBy : Nat → Int64} (h : CN I n been how passed dreamOf stateOf roomOf handOf awake thingIn full heardBy) (i v : Nat) : CN I (set2 n 4 i v) been how passed dreamOf (upd stateOf i (nI v)) roomOf handOf awake thingIn full heardBy := by
  obtain ⟨e1, h0, h1, h2, h3, h4, h5, h6, h7, h8, hl, hz⟩ := h
  refine ⟨by rw [set2_f (by omega)]; exact e1, fun j hj => by rw [set2_f (by omega)]; exact h0 j hj, fun j hj => by rw [set2_f (by omega)]; exact h1 j hj, fun j hj => by rw [set2_f (by omega)]; exact h2 j hj, fun j hj => by
    by_cases c : j = i
    · subst c; rw [pk_us, set2_s]
    · rw [pk_un c, set2_i c]; exact h3 j hj, fun j hj => by rw [set2_f (by omega)]; exact h4 j hj, fun j hj => by rw [set2_f (by omega)]; exact h5 j hj, fun j hj => by rw [set2_f (by omega)]; exact h6 j hj, fun j hj => by rw [set2_f (by omega)]; exact h7 j hj, fun j hj => by rw [set2_f (by omega)]; exact h8 j hj, fun j hj => by rw [set2_f (by omega)]; exact hl j hj, hz⟩
theorem RN.stateOf {I n : Tb} {w : Nat → Int32} (hc : cnt I) (h : RN I n w) {i : Nat} (hi : i < I 0 4) (v : Nat) : RN I (set2 n 4 i v) (upd w (3 + i) (nI v)) := by
  obtain ⟨c1, c2, c3, c4⟩ := hc
  obtain ⟨e1, e2, h0, h1, h2, h3, h4, h5, h6, h7, h8, hl, hz⟩ := h
  refine ⟨by rw [set2_f (by omega), pk_un (by omega)]; exact e1, by rw [set2_f (by omega), pk_un (by omega)]; exact e2, fun j hj => by rw [set2_f (by omega), pk_un (by omega)]; exact h0 j hj, fun j hj => by rw [set2_f (by omega), pk_un (by omega)]; exact h1 j hj, fun j hj => by rw [set2_f (by omega), pk_un (by omega)]; exact h2 j hj, fun j hj => by
    by_cases c : j = i
    · subst c; rw [pk_us, set2_s]
    · rw [pk_un (by omega), set2_i c]; exact h3 j hj, fun j hj => by rw [set2_f (by omega), pk_un (by omega)]; exact h4 j hj, fun j hj => by rw [set2_f (by omega), pk_un (by omega)]; exact h5 j hj, fun j hj => by rw [set2_f (by omega), pk_un (by omega)]; exact h6 j hj, fun j hj => by rw [set2_f (by omega), pk_un (by omega)]; exact h7 j hj, fun j hj => by rw [set2_f (by omega), pk_un (by omega)]; exact h8 j hj, fun j hj => by rw [set2_f (by omega), pk_un (by omega), pk_un (by omega)]; exact hl j hj, hz.u (by unfold zi; omega) _⟩
theorem CN.roomOf {I n : Tb} {been : Int32} {how passed dreamOf stateOf roomOf handOf awake thingIn full : Nat → Int32} {heardBy : Nat → Int64} (h : CN I n been how passed dreamOf stateOf roomOf handOf awake thingIn full heardBy) (i v : Nat) : CN I (set2 n 5 i v) been how passed dreamOf stateOf (upd roomOf i (nI v)) handOf awake thingIn full heardBy := by
  obtain ⟨e1, h0, h1, h2, h3, h4, h5, h6, h7, h8, hl, hz⟩ := h
  refine ⟨by rw [set2_f (by omega)]; exact e1, fun j hj => by rw [set2_f (by omega)]; exact h0 j hj, fun j hj => by rw [set2_f (by omega)]; exact h1 j hj, fun j hj => by rw [set2_f (by omega)]; exact h2 j hj, fun j hj => by rw [set2_f (by omega)]; exact h3 j hj, fun j hj => by
    by_cases c : j = i
    · subst c; rw [pk_us, set2_s]
    · rw [pk_un c, set2_i c]; exact h4 j hj, fun j hj => by rw [set2_f (by omega)]; exact h5 j hj, fun j hj => by rw [set2_f (by omega)]; exact h6 j hj, fun j hj => by rw [set2_f (by omega)]; exact h7 j hj, fun j hj => by rw [set2_f (by omega)]; exact h8 j hj, fun j hj => by rw [set2_f (by omega)]; exact hl j hj, hz⟩
theorem RN.roomOf {I n : Tb} {w : Nat → Int32} (hc : cnt I) (h : RN I n w) {i : Nat} (hi : i < I 0 4) (v : Nat) : RN I (set2 n 5 i v) (upd w (0 + i) (nI v)) := by
  obtain ⟨c1, c2, c3, c4⟩ := hc
  obtain ⟨e1, e2, h0, h1, h2, h3, h4, h5, h6, h7, h8, hl, hz⟩ := h
  refine ⟨by rw [set2_f (by omega), pk_un (by omega)]; exact e1, by rw [set2_f (by omega), pk_un (by omega)]; exact e2, fun j hj => by rw [set2_f (by omega), pk_un (by omega)]; exact h0 j hj, fun j hj => by rw [set2_f (by omega), pk_un (by omega)]; exact h1 j hj, fun j hj => by rw [set2_f (by omega), pk_un (by omega)]; exact h2 j hj, fun j hj => by rw [set2_f (by omega), pk_un (by omega)]; exact h3 j hj, fun j hj => by
    by_cases c : j = i
    · subst c; rw [pk_us, set2_s]
    · rw [pk_un (by omega), set2_i c]; exact h4 j hj, fun j hj => by rw [set2_f (by omega), pk_un (by omega)]; exact h5 j hj, fun j hj => by rw [set2_f (by omega), pk_un (by omega)]; exact h6 j hj, fun j hj => by rw [set2_f (by omega), pk_un (by omega)]; exact h7 j hj, fun j hj => by rw [set2_f (by omega), pk_un (by omega)]; exact h8 j hj, fun j hj => by rw [set2_f (by omega), pk_un (by omega), pk_un (by omega)]; exact hl j hj, hz.u (by unfold zi; omega) _⟩
theorem CN.handOf {I n : Tb} {been : Int32} {how passed dreamOf stateOf roomOf handOf awake thingIn full : Nat → Int32} {heardBy : Nat → Int64} (h : CN I n been how passed dreamOf stateOf roomOf handOf awake thingIn full heardBy) (i v : Nat) : CN I (set2 n 6 i v) been how passed dreamOf stateOf roomOf (upd handOf i (hI v)) awake thingIn full heardBy := by
  obtain ⟨e1, h0, h1, h2, h3, h4, h5, h6, h7, h8, hl, hz⟩ := h
  refine ⟨by rw [set2_f (by omega)]; exact e1, fun j hj => by rw [set2_f (by omega)]; exact h0 j hj, fun j hj => by rw [set2_f (by omega)]; exact h1 j hj, fun j hj => by rw [set2_f (by omega)]; exact h2 j hj, fun j hj => by rw [set2_f (by omega)]; exact h3 j hj, fun j hj => by rw [set2_f (by omega)]; exact h4 j hj, fun j hj => by
    by_cases c : j = i
    · subst c; rw [pk_us, set2_s]
    · rw [pk_un c, set2_i c]; exact h5 j hj, fun j hj => by rw [set2_f (by omega)]; exact h6 j hj, fun j hj => by rw [set2_f (by omega)]; exact h7 j hj, fun j hj => by rw [set2_f (by omega)]; exact h8 j hj, fun j hj => by rw [set2_f (by omega)]; exact hl j hj, hz⟩
theorem RN.handOf {I n : Tb} {w : Nat → Int32} (hc : cnt I) (h : RN I n w) {i : Nat} (hi : i < I 0 4) (v : Nat) : RN I (set2 n 6 i v) (upd w (6 + i) (hI v)) := by
  obtain ⟨c1, c2, c3, c4⟩ := hc
  obtain ⟨e1, e2, h0, h1, h2, h3, h4, h5, h6, h7, h8, hl, hz⟩ := h
  refine ⟨by rw [set2_f (by omega), pk_un (by omega)]; exact e1, by rw [set2_f (by omega), pk_un (by omega)]; exact e2, fun j hj => by rw [set2_f (by omega), pk_un (by omega)]; exact h0 j hj, fun j hj => by rw [set2_f (by omega), pk_un (by omega)]; exact h1 j hj, fun j hj => by rw [set2_f (by omega), pk_un (by omega)]; exact h2 j hj, fun j hj => by rw [set2_f (by omega), pk_un (by omega)]; exact h3 j hj, fun j hj => by rw [set2_f (by omega), pk_un (by omega)]; exact h4 j hj, fun j hj => by
    by_cases c : j = i
    · subst c; rw [pk_us, set2_s]
    · rw [pk_un (by omega), set2_i c]; exact h5 j hj, fun j hj => by rw [set2_f (by omega), pk_un (by omega)]; exact h6 j hj, fun j hj => by rw [set2_f (by omega), pk_un (by omega)]; exact h7 j hj, fun j hj => by rw [set2_f (by omega), pk_un (by omega)]; exact h8 j hj, fun j hj => by rw [set2_f (by omega), pk_un (by omega), pk_un (by omega)]; exact hl j hj, hz.u (by unfold zi; omega) _⟩
theorem CN.awake {I n : Tb} {been : Int32} {how passed dreamOf stateOf roomOf handOf awake thingIn full : Nat → Int32} {heardBy : Nat → Int64} (h : CN I n been how passed dreamOf stateOf roomOf handOf awake thingIn full heardBy) (i v : Nat) (hv : v ≤ 1) : CN I (set2 n 7 i v) been how passed dreamOf stateOf roomOf handOf (upd awake i (nI v)) thingIn full heardBy := by
  obtain ⟨e1, h0, h1, h2, h3, h4, h5, h6, h7, h8, hl, hz⟩ := h
  refine ⟨by rw [set2_f (by omega)]; exact e1, fun j hj => by rw [set2_f (by omega)]; exact h0 j hj, fun j hj => by rw [set2_f (by omega)]; exact h1 j hj, fun j hj => by rw [set2_f (by omega)]; exact h2 j hj, fun j hj => by rw [set2_f (by omega)]; exact h3 j hj, fun j hj => by rw [set2_f (by omega)]; exact h4 j hj, fun j hj => by rw [set2_f (by omega)]; exact h5 j hj, fun j hj => by
    by_cases c : j = i
    · subst c; rw [pk_us, set2_s]
    · rw [pk_un c, set2_i c]; exact h6 j hj, fun j hj => by rw [set2_f (by omega)]; exact h7 j hj, fun j hj => by rw [set2_f (by omega)]; exact h8 j hj, fun j hj => by rw [set2_f (by omega)]; exact hl j hj, hz.1.a i hv, hz.2⟩
theorem RN.awake {I n : Tb} {w : Nat → Int32} (hc : cnt I) (h : RN I n w) {i : Nat} (hi : i < I 0 4) (v : Nat) : RN I (set2 n 7 i v) (upd w (9 + i) (nI v)) := by
  obtain ⟨c1, c2, c3, c4⟩ := hc
  obtain ⟨e1, e2, h0, h1, h2, h3, h4, h5, h6, h7, h8, hl, hz⟩ := h
  refine ⟨by rw [set2_f (by omega), pk_un (by omega)]; exact e1, by rw [set2_f (by omega), pk_un (by omega)]; exact e2, fun j hj => by rw [set2_f (by omega), pk_un (by omega)]; exact h0 j hj, fun j hj => by rw [set2_f (by omega), pk_un (by omega)]; exact h1 j hj, fun j hj => by rw [set2_f (by omega), pk_un (by omega)]; exact h2 j hj, fun j hj => by rw [set2_f (by omega), pk_un (by omega)]; exact h3 j hj, fun j hj => by rw [set2_f (by omega), pk_un (by omega)]; exact h4 j hj, fun j hj => by rw [set2_f (by omega), pk_un (by omega)]; exact h5 j hj, fun j hj => by
    by_cases c : j = i
    · subst c; rw [pk_us, set2_s]
    · rw [pk_un (by omega), set2_i c]; exact h6 j hj, fun j hj => by rw [set2_f (by omega), pk_un (by omega)]; exact h7 j hj, fun j hj => by rw [set2_f (by omega), pk_un (by omega)]; exact h8 j hj, fun j hj => by rw [set2_f (by omega), pk_un (by omega), pk_un (by omega)]; exact hl j hj, hz.u (by unfold zi; omega) _⟩
theorem CN.thingIn {I n : Tb} {been : Int32} {how passed dreamOf stateOf roomOf handOf awake thingIn full : Nat → Int32} {heardBy : Nat → Int64} (h : CN I n been how passed dreamOf stateOf roomOf handOf awake thingIn full heardBy) (i v : Nat) : CN I (set2 n 8 i v) been how passed dreamOf stateOf roomOf handOf awake (upd thingIn i (nI v)) full heardBy := by
  obtain ⟨e1, h0, h1, h2, h3, h4, h5, h6, h7, h8, hl, hz⟩ := h
  refine ⟨by rw [set2_f (by omega)]; exact e1, fun j hj => by rw [set2_f (by omega)]; exact h0 j hj, fun j hj => by rw [set2_f (by omega)]; exact h1 j hj, fun j hj => by rw [set2_f (by omega)]; exact h2 j hj, fun j hj => by rw [set2_f (by omega)]; exact h3 j hj, fun j hj => by rw [set2_f (by omega)]; exact h4 j hj, fun j hj => by rw [set2_f (by omega)]; exact h5 j hj, fun j hj => by rw [set2_f (by omega)]; exact h6 j hj, fun j hj => by
    by_cases c : j = i
    · subst c; rw [pk_us, set2_s]
    · rw [pk_un c, set2_i c]; exact h7 j hj, fun j hj => by rw [set2_f (by omega)]; exact h8 j hj, fun j hj => by rw [set2_f (by omega)]; exact hl j hj, hz⟩
theorem RN.thingIn {I n : Tb} {w : Nat → Int32} (hc : cnt I) (h : RN I n w) {i : Nat} (hi : i < I 0 2) (v : Nat) : RN I (set2 n 8 i v) (upd w (15 + i) (nI v)) := by
  obtain ⟨c1, c2, c3, c4⟩ := hc
  obtain ⟨e1, e2, h0, h1, h2, h3, h4, h5, h6, h7, h8, hl, hz⟩ := h
  refine ⟨by rw [set2_f (by omega), pk_un (by omega)]; exact e1, by rw [set2_f (by omega), pk_un (by omega)]; exact e2, fun j hj => by rw [set2_f (by omega), pk_un (by omega)]; exact h0 j hj, fun j hj => by rw [set2_f (by omega), pk_un (by omega)]; exact h1 j hj, fun j hj => by rw [set2_f (by omega), pk_un (by omega)]; exact h2 j hj, fun j hj => by rw [set2_f (by omega), pk_un (by omega)]; exact h3 j hj, fun j hj => by rw [set2_f (by omega), pk_un (by omega)]; exact h4 j hj, fun j hj => by rw [set2_f (by omega), pk_un (by omega)]; exact h5 j hj, fun j hj => by rw [set2_f (by omega), pk_un (by omega)]; exact h6 j hj, fun j hj => by
    by_cases c : j = i
    · subst c; rw [pk_us, set2_s]
    · rw [pk_un (by omega), set2_i c]; exact h7 j hj, fun j hj => by rw [set2_f (by omega), pk_un (by omega)]; exact h8 j hj, fun j hj => by rw [set2_f (by omega), pk_un (by omega), pk_un (by omega)]; exact hl j hj, hz.u (by unfold zi; omega) _⟩
theorem CN.full {I n : Tb} {been : Int32} {how passed dreamOf stateOf roomOf handOf awake thingIn full : Nat → Int32} {heardBy : Nat → Int64} (h : CN I n been how passed dreamOf stateOf roomOf handOf awake thingIn full heardBy) (i v : Nat) (hv : v ≤ 1) : CN I (set2 n 9 i v) been how passed dreamOf stateOf roomOf handOf awake thingIn (upd full i (nI v)) heardBy := by
  obtain ⟨e1, h0, h1, h2, h3, h4, h5, h6, h7, h8, hl, hz⟩ := h
  refine ⟨by rw [set2_f (by omega)]; exact e1, fun j hj => by rw [set2_f (by omega)]; exact h0 j hj, fun j hj => by rw [set2_f (by omega)]; exact h1 j hj, fun j hj => by rw [set2_f (by omega)]; exact h2 j hj, fun j hj => by rw [set2_f (by omega)]; exact h3 j hj, fun j hj => by rw [set2_f (by omega)]; exact h4 j hj, fun j hj => by rw [set2_f (by omega)]; exact h5 j hj, fun j hj => by rw [set2_f (by omega)]; exact h6 j hj, fun j hj => by rw [set2_f (by omega)]; exact h7 j hj, fun j hj => by
    by_cases c : j = i
    · subst c; rw [pk_us, set2_s]
    · rw [pk_un c, set2_i c]; exact h8 j hj, fun j hj => by rw [set2_f (by omega)]; exact hl j hj, hz.1.f i hv, hz.2⟩
theorem RN.full {I n : Tb} {w : Nat → Int32} (hc : cnt I) (h : RN I n w) {i : Nat} (hi : i < I 0 2) (v : Nat) : RN I (set2 n 9 i v) (upd w (19 + i) (nI v)) := by
  obtain ⟨c1, c2, c3, c4⟩ := hc
  obtain ⟨e1, e2, h0, h1, h2, h3, h4, h5, h6, h7, h8, hl, hz⟩ := h
  refine ⟨by rw [set2_f (by omega), pk_un (by omega)]; exact e1, by rw [set2_f (by omega), pk_un (by omega)]; exact e2, fun j hj => by rw [set2_f (by omega), pk_un (by omega)]; exact h0 j hj, fun j hj => by rw [set2_f (by omega), pk_un (by omega)]; exact h1 j hj, fun j hj => by rw [set2_f (by omega), pk_un (by omega)]; exact h2 j hj, fun j hj => by rw [set2_f (by omega), pk_un (by omega)]; exact h3 j hj, fun j hj => by rw [set2_f (by omega), pk_un (by omega)]; exact h4 j hj, fun j hj => by rw [set2_f (by omega), pk_un (by omega)]; exact h5 j hj, fun j hj => by rw [set2_f (by omega), pk_un (by omega)]; exact h6 j hj, fun j hj => by rw [set2_f (by omega), pk_un (by omega)]; exact h7 j hj, fun j hj => by
    by_cases c : j = i
    · subst c; rw [pk_us, set2_s]
    · rw [pk_un (by omega), set2_i c]; exact h8 j hj, fun j hj => by rw [set2_f (by omega), pk_un (by omega), pk_un (by omega)]; exact hl j hj, hz.u (by unfold zi; omega) _⟩
theorem CN.been {I n : Tb} {been : Int32} {how passed dreamOf stateOf roomOf handOf awake thingIn full : Nat → Int32} {heardBy : Nat → Int64} (h : CN I n been how passed dreamOf stateOf roomOf handOf awake thingIn full heardBy) (v : Nat) : CN I (set2 n 0 0 v) (nI v) how passed dreamOf stateOf roomOf handOf awake thingIn full heardBy := by
  obtain ⟨e1, h0, h1, h2, h3, h4, h5, h6, h7, h8, hl, hz⟩ := h
  refine ⟨by rw [set2_s], fun j hj => by rw [set2_f (by omega)]; exact h0 j hj, fun j hj => by rw [set2_f (by omega)]; exact h1 j hj, fun j hj => by rw [set2_f (by omega)]; exact h2 j hj, fun j hj => by rw [set2_f (by omega)]; exact h3 j hj, fun j hj => by rw [set2_f (by omega)]; exact h4 j hj, fun j hj => by rw [set2_f (by omega)]; exact h5 j hj, fun j hj => by rw [set2_f (by omega)]; exact h6 j hj, fun j hj => by rw [set2_f (by omega)]; exact h7 j hj, fun j hj => by rw [set2_f (by omega)]; exact h8 j hj, fun j hj => by rw [set2_f (by omega)]; exact hl j hj, hz⟩
theorem RN.been {I n : Tb} {w : Nat → Int32} (hc : cnt I) (h : RN I n w) (v : Nat) : RN I (set2 n 0 0 v) (upd w 49 (nI v)) := by
  obtain ⟨c1, c2, c3, c4⟩ := hc
  obtain ⟨e1, e2, h0, h1, h2, h3, h4, h5, h6, h7, h8, hl, hz⟩ := h
  refine ⟨by rw [pk_us, set2_s], by rw [set2_i (by omega), pk_un (by omega)]; exact e2, fun j hj => by rw [set2_f (by omega), pk_un (by omega)]; exact h0 j hj, fun j hj => by rw [set2_f (by omega), pk_un (by omega)]; exact h1 j hj, fun j hj => by rw [set2_f (by omega), pk_un (by omega)]; exact h2 j hj, fun j hj => by rw [set2_f (by omega), pk_un (by omega)]; exact h3 j hj, fun j hj => by rw [set2_f (by omega), pk_un (by omega)]; exact h4 j hj, fun j hj => by rw [set2_f (by omega), pk_un (by omega)]; exact h5 j hj, fun j hj => by rw [set2_f (by omega), pk_un (by omega)]; exact h6 j hj, fun j hj => by rw [set2_f (by omega), pk_un (by omega)]; exact h7 j hj, fun j hj => by rw [set2_f (by omega), pk_un (by omega)]; exact h8 j hj, fun j hj => by rw [set2_f (by omega), pk_un (by omega), pk_un (by omega)]; exact hl j hj, hz.u (by unfold zi; omega) _⟩
theorem CN.heard {I n : Tb} {been : Int32} {how passed dreamOf stateOf roomOf handOf awake thingIn full : Nat → Int32} {heardBy : Nat → Int64} (h : CN I n been how passed dreamOf stateOf roomOf handOf awake thingIn full heardBy) (i v : Nat) (hi : i < I 0 5) : CN I (set2 n 10 i v) been how passed dreamOf stateOf roomOf handOf awake thingIn full (vp_updL heardBy i (lN (2 * v))) := by
  obtain ⟨e1, h0, h1, h2, h3, h4, h5, h6, h7, h8, hl, hz⟩ := h
  refine ⟨by rw [set2_f (by omega)]; exact e1, fun j hj => by rw [set2_f (by omega)]; exact h0 j hj, fun j hj => by rw [set2_f (by omega)]; exact h1 j hj, fun j hj => by rw [set2_f (by omega)]; exact h2 j hj, fun j hj => by rw [set2_f (by omega)]; exact h3 j hj, fun j hj => by rw [set2_f (by omega)]; exact h4 j hj, fun j hj => by rw [set2_f (by omega)]; exact h5 j hj, fun j hj => by rw [set2_f (by omega)]; exact h6 j hj, fun j hj => by rw [set2_f (by omega)]; exact h7 j hj, fun j hj => by rw [set2_f (by omega)]; exact h8 j hj, fun j hj => by
    by_cases c : j = i
    · subst c; rw [pk_uLs, set2_s]
    · rw [pk_uLn c, set2_i c]; exact hl j hj, hz.1, hz.2.u hi _⟩
theorem RN.heard0 {I n : Tb} {w : Nat → Int32} (hc : cnt I) (h : RN I n w) {i : Nat} (hi : i < I 0 5) (v : Nat) (hv : v / 2 ^ 20 = n 10 i / 2 ^ 20) : RN I (set2 n 10 i v) (upd w (43 + 2 * i) (nI (v % 2 ^ 20))) := by
  obtain ⟨c1, c2, c3, c4⟩ := hc
  obtain ⟨e1, e2, h0, h1, h2, h3, h4, h5, h6, h7, h8, hl, hz⟩ := h
  refine ⟨by rw [set2_f (by omega), pk_un (by omega)]; exact e1, by rw [set2_f (by omega), pk_un (by omega)]; exact e2, fun j hj => by rw [set2_f (by omega), pk_un (by omega)]; exact h0 j hj, fun j hj => by rw [set2_f (by omega), pk_un (by omega)]; exact h1 j hj, fun j hj => by rw [set2_f (by omega), pk_un (by omega)]; exact h2 j hj, fun j hj => by rw [set2_f (by omega), pk_un (by omega)]; exact h3 j hj, fun j hj => by rw [set2_f (by omega), pk_un (by omega)]; exact h4 j hj, fun j hj => by rw [set2_f (by omega), pk_un (by omega)]; exact h5 j hj, fun j hj => by rw [set2_f (by omega), pk_un (by omega)]; exact h6 j hj, fun j hj => by rw [set2_f (by omega), pk_un (by omega)]; exact h7 j hj, fun j hj => by rw [set2_f (by omega), pk_un (by omega)]; exact h8 j hj, fun j hj => by
    by_cases c : j = i
    · subst c; rw [set2_s]; exact ⟨by rw [pk_us], by rw [pk_un (by omega), hv]; exact (hl j hj).2⟩
    · rw [set2_i c, pk_un (by omega), pk_un (by omega)]; exact hl j hj, hz.u (by unfold zi; omega) _⟩
theorem RN.heard1 {I n : Tb} {w : Nat → Int32} (hc : cnt I) (h : RN I n w) {i : Nat} (hi : i < I 0 5) (v : Nat) (hv : v % 2 ^ 20 = n 10 i % 2 ^ 20) : RN I (set2 n 10 i v) (upd w (44 + 2 * i) (nI (v / 2 ^ 20))) := by
  obtain ⟨c1, c2, c3, c4⟩ := hc
  obtain ⟨e1, e2, h0, h1, h2, h3, h4, h5, h6, h7, h8, hl, hz⟩ := h
  refine ⟨by rw [set2_f (by omega), pk_un (by omega)]; exact e1, by rw [set2_f (by omega), pk_un (by omega)]; exact e2, fun j hj => by rw [set2_f (by omega), pk_un (by omega)]; exact h0 j hj, fun j hj => by rw [set2_f (by omega), pk_un (by omega)]; exact h1 j hj, fun j hj => by rw [set2_f (by omega), pk_un (by omega)]; exact h2 j hj, fun j hj => by rw [set2_f (by omega), pk_un (by omega)]; exact h3 j hj, fun j hj => by rw [set2_f (by omega), pk_un (by omega)]; exact h4 j hj, fun j hj => by rw [set2_f (by omega), pk_un (by omega)]; exact h5 j hj, fun j hj => by rw [set2_f (by omega), pk_un (by omega)]; exact h6 j hj, fun j hj => by rw [set2_f (by omega), pk_un (by omega)]; exact h7 j hj, fun j hj => by rw [set2_f (by omega), pk_un (by omega)]; exact h8 j hj, fun j hj => by
    by_cases c : j = i
    · subst c; rw [set2_s]; exact ⟨by rw [pk_un (by omega), hv]; exact (hl j hj).1, by rw [pk_us]⟩
    · rw [set2_i c, pk_un (by omega), pk_un (by omega)]; exact hl j hj, hz.u (by unfold zi; omega) _⟩
theorem CN.q1 {I n : Tb} {been : Int32} {how passed dreamOf stateOf roomOf handOf awake thingIn full : Nat → Int32} {heardBy : Nat → Int64} (h : CN I n been how passed dreamOf stateOf roomOf handOf awake thingIn full heardBy) {i : Nat} (hi : i < I 0 1) : how i = nI (n 1 i) := by
  obtain ⟨e1, h0, h1, h2, h3, h4, h5, h6, h7, h8, hl, hz⟩ := h
  exact h0 i hi
theorem RN.q1 {I n : Tb} {w : Nat → Int32} (h : RN I n w) {i : Nat} (hi : i < I 0 1) : w (23 + i) = nI (n 1 i) := by
  obtain ⟨e1, e2, h0, h1, h2, h3, h4, h5, h6, h7, h8, hl, hz⟩ := h
  exact h0 i hi
theorem CN.q2 {I n : Tb} {been : Int32} {how passed dreamOf stateOf roomOf handOf awake thingIn full : Nat → Int32} {heardBy : Nat → Int64} (h : CN I n been how passed dreamOf stateOf roomOf handOf awake thingIn full heardBy) {i : Nat} (hi : i < I 0 1) : passed i = nI (n 2 i) := by
  obtain ⟨e1, h0, h1, h2, h3, h4, h5, h6, h7, h8, hl, hz⟩ := h
  exact h1 i hi
theorem RN.q2 {I n : Tb} {w : Nat → Int32} (h : RN I n w) {i : Nat} (hi : i < I 0 1) : w (33 + i) = nI (n 2 i) := by
  obtain ⟨e1, e2, h0, h1, h2, h3, h4, h5, h6, h7, h8, hl, hz⟩ := h
  exact h1 i hi
theorem CN.q3 {I n : Tb} {been : Int32} {how passed dreamOf stateOf roomOf handOf awake thingIn full : Nat → Int32} {heardBy : Nat → Int64} (h : CN I n been how passed dreamOf stateOf roomOf handOf awake thingIn full heardBy) {i : Nat} (hi : i < I 0 4) : dreamOf i = nI (n 3 i) := by
  obtain ⟨e1, h0, h1, h2, h3, h4, h5, h6, h7, h8, hl, hz⟩ := h
  exact h2 i hi
theorem RN.q3 {I n : Tb} {w : Nat → Int32} (h : RN I n w) {i : Nat} (hi : i < I 0 4) : w (12 + i) = nI (n 3 i) := by
  obtain ⟨e1, e2, h0, h1, h2, h3, h4, h5, h6, h7, h8, hl, hz⟩ := h
  exact h2 i hi
theorem CN.q4 {I n : Tb} {been : Int32} {how passed dreamOf stateOf roomOf handOf awake thingIn full : Nat → Int32} {heardBy : Nat → Int64} (h : CN I n been how passed dreamOf stateOf roomOf handOf awake thingIn full heardBy) {i : Nat} (hi : i < I 0 4) : stateOf i = nI (n 4 i) := by
  obtain ⟨e1, h0, h1, h2, h3, h4, h5, h6, h7, h8, hl, hz⟩ := h
  exact h3 i hi
theorem RN.q4 {I n : Tb} {w : Nat → Int32} (h : RN I n w) {i : Nat} (hi : i < I 0 4) : w (3 + i) = nI (n 4 i) := by
  obtain ⟨e1, e2, h0, h1, h2, h3, h4, h5, h6, h7, h8, hl, hz⟩ := h
  exact h3 i hi
theorem CN.q5 {I n : Tb} {been : Int32} {how passed dreamOf stateOf roomOf handOf awake thingIn full : Nat → Int32} {heardBy : Nat → Int64} (h : CN I n been how passed dreamOf stateOf roomOf handOf awake thingIn full heardBy) {i : Nat} (hi : i < I 0 4) : roomOf i = nI (n 5 i) := by
  obtain ⟨e1, h0, h1, h2, h3, h4, h5, h6, h7, h8, hl, hz⟩ := h
  exact h4 i hi
theorem RN.q5 {I n : Tb} {w : Nat → Int32} (h : RN I n w) {i : Nat} (hi : i < I 0 4) : w (0 + i) = nI (n 5 i) := by
  obtain ⟨e1, e2, h0, h1, h2, h3, h4, h5, h6, h7, h8, hl, hz⟩ := h
  exact h4 i hi
theorem CN.q6 {I n : Tb} {been : Int32} {how passed dreamOf stateOf roomOf handOf awake thingIn full : Nat → Int32} {heardBy : Nat → Int64} (h : CN I n been how passed dreamOf stateOf roomOf handOf awake thingIn full heardBy) {i : Nat} (hi : i < I 0 4) : handOf i = hI (n 6 i) := by
  obtain ⟨e1, h0, h1, h2, h3, h4, h5, h6, h7, h8, hl, hz⟩ := h
  exact h5 i hi
theorem RN.q6 {I n : Tb} {w : Nat → Int32} (h : RN I n w) {i : Nat} (hi : i < I 0 4) : w (6 + i) = hI (n 6 i) := by
  obtain ⟨e1, e2, h0, h1, h2, h3, h4, h5, h6, h7, h8, hl, hz⟩ := h
  exact h5 i hi
theorem CN.q7 {I n : Tb} {been : Int32} {how passed dreamOf stateOf roomOf handOf awake thingIn full : Nat → Int32} {heardBy : Nat → Int64} (h : CN I n been how passed dreamOf stateOf roomOf handOf awake thingIn full heardBy) {i : Nat} (hi : i < I 0 4) : awake i = nI (n 7 i) := by
  obtain ⟨e1, h0, h1, h2, h3, h4, h5, h6, h7, h8, hl, hz⟩ := h
  exact h6 i hi
theorem RN.q7 {I n : Tb} {w : Nat → Int32} (h : RN I n w) {i : Nat} (hi : i < I 0 4) : w (9 + i) = nI (n 7 i) := by
  obtain ⟨e1, e2, h0, h1, h2, h3, h4, h5, h6, h7, h8, hl, hz⟩ := h
  exact h6 i hi
theorem CN.q8 {I n : Tb} {been : Int32} {how passed dreamOf stateOf roomOf handOf awake thingIn full : Nat → Int32} {heardBy : Nat → Int64} (h : CN I n been how passed dreamOf stateOf roomOf handOf awake thingIn full heardBy) {i : Nat} (hi : i < I 0 2) : thingIn i = nI (n 8 i) := by
  obtain ⟨e1, h0, h1, h2, h3, h4, h5, h6, h7, h8, hl, hz⟩ := h
  exact h7 i hi
theorem RN.q8 {I n : Tb} {w : Nat → Int32} (h : RN I n w) {i : Nat} (hi : i < I 0 2) : w (15 + i) = nI (n 8 i) := by
  obtain ⟨e1, e2, h0, h1, h2, h3, h4, h5, h6, h7, h8, hl, hz⟩ := h
  exact h7 i hi
theorem CN.q9 {I n : Tb} {been : Int32} {how passed dreamOf stateOf roomOf handOf awake thingIn full : Nat → Int32} {heardBy : Nat → Int64} (h : CN I n been how passed dreamOf stateOf roomOf handOf awake thingIn full heardBy) {i : Nat} (hi : i < I 0 2) : full i = nI (n 9 i) := by
  obtain ⟨e1, h0, h1, h2, h3, h4, h5, h6, h7, h8, hl, hz⟩ := h
  exact h8 i hi
theorem RN.q9 {I n : Tb} {w : Nat → Int32} (h : RN I n w) {i : Nat} (hi : i < I 0 2) : w (19 + i) = nI (n 9 i) := by
  obtain ⟨e1, e2, h0, h1, h2, h3, h4, h5, h6, h7, h8, hl, hz⟩ := h
  exact h8 i hi
theorem CN.q10 {I n : Tb} {been : Int32} {how passed dreamOf stateOf roomOf handOf awake thingIn full : Nat → Int32} {heardBy : Nat → Int64} (h : CN I n been how passed dreamOf stateOf roomOf handOf awake thingIn full heardBy) {i : Nat} (hi : i < I 0 5) : heardBy i = lN (2 * n 10 i) := by
  obtain ⟨e1, h0, h1, h2, h3, h4, h5, h6, h7, h8, hl, hz⟩ := h
  exact hl i hi
theorem RN.q10 {I n : Tb} {w : Nat → Int32} (h : RN I n w) {i : Nat} (hi : i < I 0 5) : w (43 + 2 * i) = nI (n 10 i % 2 ^ 20) ∧ w (44 + 2 * i) = nI (n 10 i / 2 ^ 20) := by
  obtain ⟨e1, e2, h0, h1, h2, h3, h4, h5, h6, h7, h8, hl, hz⟩ := h
  exact hl i hi
theorem set2_id {n : Tb} {f i v : Nat} (h : n f i = v) : set2 n f i v = n := by
  funext g j
  unfold set2
  by_cases c : g = f ∧ j = i
  · rw [if_pos c, c.1, c.2, h]
  · rw [if_neg c]
theorem nI_neg1' {k : Nat} (h : k < 2 ^ 31) : (nI k = -nI 1) ↔ False := nI_neg1 h
theorem nI_neg2' {k : Nat} (h : k < 2 ^ 31) : (nI k = -nI 2) ↔ False := nI_neg2 h
theorem hI_m2' {h : Nat} (hh : h < 2 ^ 31) : hI h = -nI 2 ↔ h = 0 := hI_m2 hh
theorem hI_lt' {h : Nat} (hh : h < 2 ^ 31) : hI h < nI 0 ↔ h = 0 := hI_lt hh
theorem bd_none {α β : Type} (k : α → Option β) : (none : Option α).bind k = none := rfl
theorem lp_run {σ ρ : Type} {B : (σ → Option ρ) → σ → Option ρ} (P : Nat → σ → Prop) (e : Nat) (step : ∀ j, j < e → ∀ s, P j s → ∃ s', (∀ rec, B rec s = rec s') ∧ P (j + 1) s') : ∀ (k j N : Nat) (s : σ), j + k = e → k < N → P j s → ∃ s' rec, lp B N s = B rec s' ∧ P e s'
  | 0, j, N, s, hk, hN, h => by
    cases N with
    | zero => omega
    | succ N =>
      have : j = e := by omega
      subst this
      exact ⟨s, lp B N, rfl, h⟩
  | k + 1, j, N, s, hk, hN, h => by
    cases N with
    | zero => omega
    | succ N =>
      obtain ⟨s', h1, h2⟩ := step j (by omega) s h
      obtain ⟨s2, rec, h3, h4⟩ := lp_run P e step k (j + 1) N s' (by omega) (by omega) h2
      refine ⟨s2, rec, ?_, h4⟩
      show B (lp B N) s = _
      rw [h1, h3]
/-- a loop that keeps P, and what is behind it -/
theorem lp_go {σ ρ : Type} {B : (σ → Option ρ) → σ → Option ρ} {X : Option ρ → Prop} (P : Nat → σ → Prop) (e : Nat) {N : Nat} {s : σ} (hN : e < N) (h0 : P 0 s) (step : ∀ j, j < e → ∀ s, P j s → ∃ s', (∀ rec, B rec s = rec s') ∧ P (j + 1) s') (fin : ∀ s', P e s' → ∀ rec, X (B rec s')) : X (lp B N s) := by
  obtain ⟨s', rec, h1, h2⟩ := lp_run P e step e 0 N s (by omega) hN h0
  rw [h1]
  exact fin s' h2 rec
