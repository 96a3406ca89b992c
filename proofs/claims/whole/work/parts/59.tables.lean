/-! an inn as the class holds it, and as the reference does -/
def CI (J : Tb) (minutes things dreams sleepers listeners rooms doors : Int32) (listensIn bed dreamOf states thingIn full one other how falls creak cold : Nat → Int32) : Prop :=
  (minutes = nI (J 0 6) ∧ things = nI (J 0 2) ∧ dreams = nI (J 0 3) ∧ sleepers = nI (J 0 4) ∧ listeners = nI (J 0 5) ∧ rooms = nI (J 0 0) ∧ doors = nI (J 0 1)) ∧ CH J one other falls creak cold listensIn ∧ CS J states ∧ (∀ i, i < J 0 1 → how i = nI (J 5 i)) ∧ (∀ i, i < J 0 2 → thingIn i = nI (J 7 i) ∧ full i = nI (J 8 i)) ∧ (∀ i, i < J 0 4 → bed i = nI (J 14 i) ∧ dreamOf i = nI (J 15 i)) ∧ ∀ i, i < 4 → full i = 0 ∨ full i = 1
def RI (J : Tb) (rminutes rrooms rdoors rthings rdreams rsleepers rlisteners : Int32) (rlistens rbed rdream risTold ract rwhat rthen rmet rlies rfull rA rB rhow rfalls rcreak rcold : Nat → Int32) : Prop :=
  (rminutes = nI (J 0 6) ∧ rrooms = nI (J 0 0) ∧ rdoors = nI (J 0 1) ∧ rthings = nI (J 0 2) ∧ rdreams = nI (J 0 3) ∧ rsleepers = nI (J 0 4) ∧ rlisteners = nI (J 0 5)) ∧ RS J risTold ract rwhat rthen rmet ∧ (∀ i, i < J 0 1 → rA i = nI (J 3 i) ∧ rB i = nI (J 4 i) ∧ rhow i = nI (J 5 i) ∧ rfalls i = nI (J 6 i)) ∧ (∀ i, i < J 0 0 → rcreak i = nI (J 1 i) ∧ rcold i = nI (J 2 i)) ∧ (∀ i, i < J 0 2 → rlies i = nI (J 7 i) ∧ rfull i = nI (J 8 i)) ∧ (∀ i, i < J 0 4 → rbed i = nI (J 14 i) ∧ rdream i = nI (J 15 i)) ∧ ∀ i, i < J 0 5 → rlistens i = nI (J 16 i)
def jInn (J : Tb) (v : Nat) : Tb := set2 J 0 6 v
def jRoom (J : Tb) (v x : Nat) : Tb := set2 (set2 (set2 J 1 (J 0 0) v) 2 (J 0 0) x) 0 0 (J 0 0 + 1)
def jDoor (J : Tb) (u v y x : Nat) : Tb := set2 (set2 (set2 (set2 (set2 J 3 (J 0 1) u) 4 (J 0 1) v) 5 (J 0 1) y) 6 (J 0 1) x) 0 1 (J 0 1 + 1)
def jThing (J : Tb) (v x : Nat) : Tb := set2 (set2 (set2 J 7 (J 0 2) v) 8 (J 0 2) x) 0 2 (J 0 2 + 1)
def jDream (J : Tb) (k i w t m D : Nat) : Tb := set2 (set2 (set2 (set2 (set2 (set2 J 9 k 1) 10 k i) 11 k w) 12 k t) 13 k m) 0 3 D
def jSleeper (J : Tb) (v x : Nat) : Tb := set2 (set2 (set2 J 14 (J 0 4) v) 15 (J 0 4) x) 0 4 (J 0 4 + 1)
def jListens (J : Tb) (v : Nat) : Tb := set2 (set2 J 16 (J 0 5) v) 0 5 (J 0 5 + 1)
theorem set2_ff {n : Tb} {f i v g : Nat} (h : g ≠ f) : set2 n f i v g = n g := funext fun j => set2_f h
theorem ib_inn {J : Tb} (hi : ib J) {v : Nat} (hv : v ≤ 40) : ib (jInn J v) := by
  have hR := hi.R
  have hD := hi.D
  have hT := hi.T
  have hE := hi.E
  have hS := hi.S
  have hL := hi.L
  have hM := hi.M
  unfold jInn
  refine ⟨?_, fun d hd => ?_, fun d e hd he hq => ?_, fun r hr => ?_, fun t ht => ?_, fun k hk => ?_, fun s hs => ?_, fun l hl => ?_⟩
  · simp (disch := omega) only [set2_f, set2_i, set2_s]
    omega
  · simp (disch := omega) only [set2_f, set2_i, set2_s] at hd
    simp (disch := omega) only [set2_f, set2_i, set2_s]
    have := hi.door hd
    omega
  · simp (disch := omega) only [set2_ff, set2_f, set2_i, set2_s] at hq hd he
    exact hi.one hd he hq
  · simp (disch := omega) only [set2_f, set2_i, set2_s] at hr
    simp (disch := omega) only [set2_f, set2_i, set2_s]
    exact hi.room hr
  · simp (disch := omega) only [set2_f, set2_i, set2_s] at ht
    simp (disch := omega) only [set2_f, set2_i, set2_s]
    have := hi.thing ht
    omega
  · simp (disch := omega) only [set2_f, set2_i, set2_s]
    have h1 := hi.told1 hk
    refine ⟨h1, fun q => ?_⟩
    have := hi.told hk q
    omega
  · simp (disch := omega) only [set2_f, set2_i, set2_s] at hs
    simp (disch := omega) only [set2_f, set2_i, set2_s]
    have := hi.sleeper hs
    omega
  · simp (disch := omega) only [set2_f, set2_i, set2_s] at hl
    simp (disch := omega) only [set2_f, set2_i, set2_s]
    have := hi.listens hl
    omega
theorem ib_room {J : Tb} (hi : ib J) {v x : Nat} (hv : v ≤ 9) (hx : x ≤ 1) (hc : J 0 0 < 8) : ib (jRoom J v x) := by
  have hR := hi.R
  have hD := hi.D
  have hT := hi.T
  have hE := hi.E
  have hS := hi.S
  have hL := hi.L
  have hM := hi.M
  unfold jRoom
  refine ⟨?_, fun d hd => ?_, fun d e hd he hq => ?_, fun r hr => ?_, fun t ht => ?_, fun k hk => ?_, fun s hs => ?_, fun l hl => ?_⟩
  · simp (disch := omega) only [set2_f, set2_i, set2_s]
    omega
  · simp (disch := omega) only [set2_f, set2_i, set2_s] at hd
    simp (disch := omega) only [set2_f, set2_i, set2_s]
    have := hi.door hd
    omega
  · simp (disch := omega) only [set2_ff, set2_f, set2_i, set2_s] at hq hd he
    exact hi.one hd he hq
  · simp (disch := omega) only [set2_f, set2_i, set2_s] at hr
    by_cases c : r = J 0 0
    · subst c
      simp (disch := omega) only [set2_f, set2_i, set2_s]
      exact ⟨hv, hx⟩
    · simp (disch := omega) only [set2_f, set2_i, set2_s]
      exact hi.room (by omega)
  · simp (disch := omega) only [set2_f, set2_i, set2_s] at ht
    simp (disch := omega) only [set2_f, set2_i, set2_s]
    have := hi.thing ht
    omega
  · simp (disch := omega) only [set2_f, set2_i, set2_s]
    have h1 := hi.told1 hk
    refine ⟨h1, fun q => ?_⟩
    have := hi.told hk q
    omega
  · simp (disch := omega) only [set2_f, set2_i, set2_s] at hs
    simp (disch := omega) only [set2_f, set2_i, set2_s]
    have := hi.sleeper hs
    omega
  · simp (disch := omega) only [set2_f, set2_i, set2_s] at hl
    simp (disch := omega) only [set2_f, set2_i, set2_s]
    have := hi.listens hl
    omega
theorem ib_door {J : Tb} (hi : ib J) {u v y x : Nat} (hu : u < J 0 0) (hv : v < J 0 0) (huv : ¬ v = u) (hno : ¬ dbt J u v < J 0 1) (hy : y ≤ 2) (hx : x ≤ 1) (hc : J 0 1 < 10) : ib (jDoor J u v y x) := by
  have hR := hi.R
  have hD := hi.D
  have hT := hi.T
  have hE := hi.E
  have hS := hi.S
  have hL := hi.L
  have hM := hi.M
  unfold jDoor
  refine ⟨?_, fun d hd => ?_, fun d e hd he hq => ?_, fun r hr => ?_, fun t ht => ?_, fun k hk => ?_, fun s hs => ?_, fun l hl => ?_⟩
  · simp (disch := omega) only [set2_f, set2_i, set2_s]
    omega
  · simp (disch := omega) only [set2_f, set2_i, set2_s] at hd
    by_cases c : d = J 0 1
    · subst c
      simp (disch := omega) only [set2_f, set2_i, set2_s]
      omega
    · simp (disch := omega) only [set2_f, set2_i, set2_s]
      have := hi.door (d := d) (by omega)
      omega
  · simp (disch := omega) only [set2_f, set2_i, set2_s] at hd he
    have none : ∀ f, f < J 0 1 → ¬ ((J 3 f = u ∧ J 4 f = v) ∨ (J 3 f = v ∧ J 4 f = u)) := fun f hf q => by
      have := first_lt (p := isB (J 3) (J 4) u v) hf (isB_iff.mpr q)
      unfold dbt at hno
      omega
    rw [isB_iff] at hq
    simp (disch := omega) only [set2_ff] at hq
    by_cases c1 : d = J 0 1
    · by_cases c2 : e = J 0 1
      · omega
      · subst c1
        simp (disch := omega) only [set2_ff, set2_i, set2_s] at hq
        exact absurd hq (none e (by omega))
    · by_cases c2 : e = J 0 1
      · subst c2
        simp (disch := omega) only [set2_ff, set2_i, set2_s] at hq
        refine absurd ?_ (none d (by omega))
        omega
      · simp (disch := omega) only [set2_ff, set2_i, set2_s] at hq
        exact hi.one (by omega) (by omega) (isB_iff.mpr hq)
  · simp (disch := omega) only [set2_f, set2_i, set2_s] at hr
    simp (disch := omega) only [set2_f, set2_i, set2_s]
    exact hi.room hr
  · simp (disch := omega) only [set2_f, set2_i, set2_s] at ht
    simp (disch := omega) only [set2_f, set2_i, set2_s]
    have := hi.thing ht
    omega
  · simp (disch := omega) only [set2_f, set2_i, set2_s]
    have h1 := hi.told1 hk
    refine ⟨h1, fun q => ?_⟩
    have := hi.told hk q
    omega
  · simp (disch := omega) only [set2_f, set2_i, set2_s] at hs
    simp (disch := omega) only [set2_f, set2_i, set2_s]
    have := hi.sleeper hs
    omega
  · simp (disch := omega) only [set2_f, set2_i, set2_s] at hl
    simp (disch := omega) only [set2_f, set2_i, set2_s]
    have := hi.listens hl
    omega
theorem ib_thing {J : Tb} (hi : ib J) {v x : Nat} (hv : v < J 0 0) (hx : x ≤ 1) (hc : J 0 2 < 4) : ib (jThing J v x) := by
  have hR := hi.R
  have hD := hi.D
  have hT := hi.T
  have hE := hi.E
  have hS := hi.S
  have hL := hi.L
  have hM := hi.M
  unfold jThing
  refine ⟨?_, fun d hd => ?_, fun d e hd he hq => ?_, fun r hr => ?_, fun t ht => ?_, fun k hk => ?_, fun s hs => ?_, fun l hl => ?_⟩
  · simp (disch := omega) only [set2_f, set2_i, set2_s]
    omega
  · simp (disch := omega) only [set2_f, set2_i, set2_s] at hd
    simp (disch := omega) only [set2_f, set2_i, set2_s]
    have := hi.door hd
    omega
  · simp (disch := omega) only [set2_ff, set2_f, set2_i, set2_s] at hq hd he
    exact hi.one hd he hq
  · simp (disch := omega) only [set2_f, set2_i, set2_s] at hr
    simp (disch := omega) only [set2_f, set2_i, set2_s]
    exact hi.room hr
  · simp (disch := omega) only [set2_f, set2_i, set2_s] at ht
    by_cases c : t = J 0 2
    · subst c
      simp (disch := omega) only [set2_f, set2_i, set2_s]
      exact ⟨hv, hx⟩
    · simp (disch := omega) only [set2_f, set2_i, set2_s]
      exact hi.thing (by omega)
  · simp (disch := omega) only [set2_f, set2_i, set2_s]
    have h1 := hi.told1 hk
    refine ⟨h1, fun q => ?_⟩
    have := hi.told hk q
    omega
  · simp (disch := omega) only [set2_f, set2_i, set2_s] at hs
    simp (disch := omega) only [set2_f, set2_i, set2_s]
    have := hi.sleeper hs
    omega
  · simp (disch := omega) only [set2_f, set2_i, set2_s] at hl
    simp (disch := omega) only [set2_f, set2_i, set2_s]
    have := hi.listens hl
    omega
theorem ib_dream {J : Tb} (hi : ib J) {q i w t m D : Nat} (hi5 : i ≤ 5) (h1 : (i = 0 ∨ i = 5) → 0 < w ∧ w ≤ J 0 0) (h2 : (i = 1 ∨ i = 3) → 0 < w ∧ w ≤ J 0 2) (h3 : (i = 2 ∨ i = 4) → w = 0) (ht : t < 4) (hm : m ≤ 4) (hD4 : D ≤ 4) (hDD : J 0 3 ≤ D) : ib (jDream J q i w t m D) := by
  have hR := hi.R
  have hD := hi.D
  have hT := hi.T
  have hE := hi.E
  have hS := hi.S
  have hL := hi.L
  have hM := hi.M
  unfold jDream
  refine ⟨?_, fun d hd => ?_, fun d e hd he hq => ?_, fun r hr => ?_, fun t ht => ?_, fun k hk => ?_, fun s hs => ?_, fun l hl => ?_⟩
  · simp (disch := omega) only [set2_f, set2_i, set2_s]
    omega
  · simp (disch := omega) only [set2_f, set2_i, set2_s] at hd
    simp (disch := omega) only [set2_f, set2_i, set2_s]
    have := hi.door hd
    omega
  · simp (disch := omega) only [set2_ff, set2_f, set2_i, set2_s] at hq hd he
    exact hi.one hd he hq
  · simp (disch := omega) only [set2_f, set2_i, set2_s] at hr
    simp (disch := omega) only [set2_f, set2_i, set2_s]
    exact hi.room hr
  · simp (disch := omega) only [set2_f, set2_i, set2_s] at ht
    simp (disch := omega) only [set2_f, set2_i, set2_s]
    have := hi.thing ht
    omega
  · by_cases c : k = q
    · subst c
      simp (disch := omega) only [set2_f, set2_i, set2_s]
      refine ⟨by omega, fun _ => ⟨hi5, ?_, ht, hm, h1, h2⟩⟩
      have ci : i = 0 ∨ i = 5 ∨ i = 1 ∨ i = 3 ∨ i = 2 ∨ i = 4 := by omega
      rcases ci with z | z | z | z | z | z
      · have := h1 (Or.inl z); omega
      · have := h1 (Or.inr z); omega
      · have := h2 (Or.inl z); omega
      · have := h2 (Or.inr z); omega
      · have := h3 (Or.inl z); omega
      · have := h3 (Or.inr z); omega
    · simp (disch := omega) only [set2_f, set2_i, set2_s]
      have h1 := hi.told1 hk
      exact ⟨h1, fun z => hi.told hk z⟩
  · simp (disch := omega) only [set2_f, set2_i, set2_s] at hs
    simp (disch := omega) only [set2_f, set2_i, set2_s]
    have := hi.sleeper hs
    omega
  · simp (disch := omega) only [set2_f, set2_i, set2_s] at hl
    simp (disch := omega) only [set2_f, set2_i, set2_s]
    have := hi.listens hl
    omega
theorem ib_sleeper {J : Tb} (hi : ib J) {v x : Nat} (hv : v < J 0 0) (hx : x < J 0 3) (hc : J 0 4 < 3) : ib (jSleeper J v x) := by
  have hR := hi.R
  have hD := hi.D
  have hT := hi.T
  have hE := hi.E
  have hS := hi.S
  have hL := hi.L
  have hM := hi.M
  unfold jSleeper
  refine ⟨?_, fun d hd => ?_, fun d e hd he hq => ?_, fun r hr => ?_, fun t ht => ?_, fun k hk => ?_, fun s hs => ?_, fun l hl => ?_⟩
  · simp (disch := omega) only [set2_f, set2_i, set2_s]
    omega
  · simp (disch := omega) only [set2_f, set2_i, set2_s] at hd
    simp (disch := omega) only [set2_f, set2_i, set2_s]
    have := hi.door hd
    omega
  · simp (disch := omega) only [set2_ff, set2_f, set2_i, set2_s] at hq hd he
    exact hi.one hd he hq
  · simp (disch := omega) only [set2_f, set2_i, set2_s] at hr
    simp (disch := omega) only [set2_f, set2_i, set2_s]
    exact hi.room hr
  · simp (disch := omega) only [set2_f, set2_i, set2_s] at ht
    simp (disch := omega) only [set2_f, set2_i, set2_s]
    have := hi.thing ht
    omega
  · simp (disch := omega) only [set2_f, set2_i, set2_s]
    have h1 := hi.told1 hk
    refine ⟨h1, fun q => ?_⟩
    have := hi.told hk q
    omega
  · simp (disch := omega) only [set2_f, set2_i, set2_s] at hs
    by_cases c : s = J 0 4
    · subst c
      simp (disch := omega) only [set2_f, set2_i, set2_s]
      exact ⟨hv, hx⟩
    · simp (disch := omega) only [set2_f, set2_i, set2_s]
      exact hi.sleeper (by omega)
  · simp (disch := omega) only [set2_f, set2_i, set2_s] at hl
    simp (disch := omega) only [set2_f, set2_i, set2_s]
    have := hi.listens hl
    omega
theorem ib_listens {J : Tb} (hi : ib J) {v : Nat} (hv : v < J 0 0) (hc : J 0 5 < 3) : ib (jListens J v) := by
  have hR := hi.R
  have hD := hi.D
  have hT := hi.T
  have hE := hi.E
  have hS := hi.S
  have hL := hi.L
  have hM := hi.M
  unfold jListens
  refine ⟨?_, fun d hd => ?_, fun d e hd he hq => ?_, fun r hr => ?_, fun t ht => ?_, fun k hk => ?_, fun s hs => ?_, fun l hl => ?_⟩
  · simp (disch := omega) only [set2_f, set2_i, set2_s]
    omega
  · simp (disch := omega) only [set2_f, set2_i, set2_s] at hd
    simp (disch := omega) only [set2_f, set2_i, set2_s]
    have := hi.door hd
    omega
  · simp (disch := omega) only [set2_ff, set2_f, set2_i, set2_s] at hq hd he
    exact hi.one hd he hq
  · simp (disch := omega) only [set2_f, set2_i, set2_s] at hr
    simp (disch := omega) only [set2_f, set2_i, set2_s]
    exact hi.room hr
  · simp (disch := omega) only [set2_f, set2_i, set2_s] at ht
    simp (disch := omega) only [set2_f, set2_i, set2_s]
    have := hi.thing ht
    omega
  · simp (disch := omega) only [set2_f, set2_i, set2_s]
    have h1 := hi.told1 hk
    refine ⟨h1, fun q => ?_⟩
    have := hi.told hk q
    omega
  · simp (disch := omega) only [set2_f, set2_i, set2_s] at hs
    simp (disch := omega) only [set2_f, set2_i, set2_s]
    have := hi.sleeper hs
    omega
  · simp (disch := omega) only [set2_f, set2_i, set2_s] at hl
    by_cases c : l = J 0 5
    · subst c
      simp (disch := omega) only [set2_f, set2_i, set2_s]
      exact hv
    · simp (disch := omega) only [set2_f, set2_i, set2_s]
      exact hi.listens (by omega)
