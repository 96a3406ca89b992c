/-! what an inn is like, what a night is like -/
def ib (I : Tb) : Prop :=
  (I 0 0 ≤ 8 ∧ I 0 1 ≤ 10 ∧ I 0 2 ≤ 4 ∧ I 0 3 ≤ 4 ∧ I 0 4 ≤ 3 ∧ I 0 5 ≤ 3 ∧ I 0 6 ≤ 40) ∧
  (∀ d, d < I 0 1 → I 3 d < I 0 0 ∧ I 4 d < I 0 0 ∧ I 3 d ≠ I 4 d ∧ I 5 d ≤ 2 ∧ I 6 d ≤ 1) ∧
  (∀ d e, d < I 0 1 → e < I 0 1 → isB (I 3) (I 4) (I 3 d) (I 4 d) e = true → e = d) ∧
  (∀ r, r < I 0 0 → I 1 r ≤ 9 ∧ I 2 r ≤ 1) ∧
  (∀ t, t < I 0 2 → I 7 t < I 0 0 ∧ I 8 t ≤ 1) ∧
  (∀ k, k < 16 → I 9 k ≤ 1 ∧ (I 9 k = 1 → I 10 k ≤ 5 ∧ I 11 k ≤ 8 ∧ I 12 k < 4 ∧ I 13 k ≤ 4 ∧ ((I 10 k = 0 ∨ I 10 k = 5) → 0 < I 11 k ∧ I 11 k ≤ I 0 0) ∧ ((I 10 k = 1 ∨ I 10 k = 3) → 0 < I 11 k ∧ I 11 k ≤ I 0 2))) ∧
  (∀ s, s < I 0 4 → I 14 s < I 0 0 ∧ I 15 s < I 0 3) ∧
  (∀ l, l < I 0 5 → I 16 l < I 0 0)
theorem ib.cnt {I : Tb} (h : ib I) : cnt I := ⟨h.1.2.2.2.2.1, h.1.2.2.1, h.1.2.1, h.1.2.2.2.2.2.1⟩
theorem ib.R {I : Tb} (h : ib I) : I 0 0 ≤ 8 := h.1.1
theorem ib.D {I : Tb} (h : ib I) : I 0 1 ≤ 10 := h.1.2.1
theorem ib.T {I : Tb} (h : ib I) : I 0 2 ≤ 4 := h.1.2.2.1
theorem ib.E {I : Tb} (h : ib I) : I 0 3 ≤ 4 := h.1.2.2.2.1
theorem ib.S {I : Tb} (h : ib I) : I 0 4 ≤ 3 := h.1.2.2.2.2.1
theorem ib.L {I : Tb} (h : ib I) : I 0 5 ≤ 3 := h.1.2.2.2.2.2.1
theorem ib.M {I : Tb} (h : ib I) : I 0 6 ≤ 40 := h.1.2.2.2.2.2.2
theorem ib.door {I : Tb} (h : ib I) {d : Nat} (hd : d < I 0 1) : I 3 d < I 0 0 ∧ I 4 d < I 0 0 ∧ I 3 d ≠ I 4 d ∧ I 5 d ≤ 2 ∧ I 6 d ≤ 1 := h.2.1 d hd
theorem ib.one {I : Tb} (h : ib I) {d e : Nat} (hd : d < I 0 1) (he : e < I 0 1) (q : isB (I 3) (I 4) (I 3 d) (I 4 d) e = true) : e = d := h.2.2.1 d e hd he q
theorem ib.room {I : Tb} (h : ib I) {r : Nat} (hr : r < I 0 0) : I 1 r ≤ 9 ∧ I 2 r ≤ 1 := h.2.2.2.1 r hr
theorem ib.thing {I : Tb} (h : ib I) {t : Nat} (ht : t < I 0 2) : I 7 t < I 0 0 ∧ I 8 t ≤ 1 := h.2.2.2.2.1 t ht
theorem ib.told1 {I : Tb} (h : ib I) {k : Nat} (hk : k < 16) : I 9 k ≤ 1 := (h.2.2.2.2.2.1 k hk).1
theorem ib.told {I : Tb} (h : ib I) {k : Nat} (hk : k < 16) (q : I 9 k = 1) : I 10 k ≤ 5 ∧ I 11 k ≤ 8 ∧ I 12 k < 4 ∧ I 13 k ≤ 4 ∧ ((I 10 k = 0 ∨ I 10 k = 5) → 0 < I 11 k ∧ I 11 k ≤ I 0 0) ∧ ((I 10 k = 1 ∨ I 10 k = 3) → 0 < I 11 k ∧ I 11 k ≤ I 0 2) := (h.2.2.2.2.2.1 k hk).2 q
theorem ib.sleeper {I : Tb} (h : ib I) {s : Nat} (hs : s < I 0 4) : I 14 s < I 0 0 ∧ I 15 s < I 0 3 := h.2.2.2.2.2.2.1 s hs
theorem ib.listens {I : Tb} (h : ib I) {l : Nat} (hl : l < I 0 5) : I 16 l < I 0 0 := h.2.2.2.2.2.2.2 l hl
/-- how a door is at nightfall with a setting -/
def hnf (I : Tb) (st d : Nat) : Nat := if st = 1 + 2 * d then 1 else if st = 2 + 2 * d then 2 else I 5 d
theorem hnf_le {I : Tb} (h : ib I) (st : Nat) {d : Nat} (hd : d < I 0 1) : hnf I st d ≤ 2 := by
  have := (h.door hd).2.2.2.1
  unfold hnf
  split
  · omega
  · split <;> omega
def lks (I : Tb) (st : Nat) : Nat → Bool := fun d => decide (hnf I st d = 2)
def nolk : Nat → Bool := fun _ => false
/-- how far it is, some doors shut out -/
def ds (I : Tb) (lk : Nat → Bool) : Nat → Nat → Nat := fwm (em (I 3) (I 4) lk (I 0 1)) (I 0 0)
theorem ds_isD {I : Tb} (h : ib I) (lk : Nat → Bool) {a b : Nat} (ha : a < I 0 0) (hb : b < I 0 0) : isD (adjD (I 0 1) (I 3) (I 4) lk) a b (ds I lk a b) :=
  fwm_isD (fun _ hk => (h.door hk).2.2.1) (fun _ hk => ⟨(h.door hk).1, (h.door hk).2.1⟩) ha hb
theorem ib_in {I : Tb} (h : ib I) (lk : Nat → Bool) : ∀ x y, adjD (I 0 1) (I 3) (I 4) lk x y → x < I 0 0 ∧ y < I 0 0 := adjD_in fun _ hk => ⟨(h.door hk).1, (h.door hk).2.1⟩
theorem ds_le {I : Tb} (h : ib I) (lk : Nat → Bool) {a b : Nat} (ha : a < I 0 0) (hb : b < I 0 0) : ds I lk a b ≤ 99 := (ds_isD h lk ha hb).1
theorem ds_small {I : Tb} (h : ib I) (lk : Nat → Bool) {a b : Nat} (ha : a < I 0 0) (hb : b < I 0 0) (hl : ds I lk a b < 99) : ds I lk a b < 8 := by
  have g := ds_isD h lk ha hb
  obtain ⟨m, m1, m2, m3⟩ := wk_short (ib_in h lk) ha _ (g.2.1 hl)
  have := g.2.2 m m3
  have := h.R
  omega
theorem ds_adj {I : Tb} (h : ib I) (lk : Nat → Bool) {a b : Nat} (ha : a < I 0 0) (hb : b < I 0 0) : ds I lk a b = 1 ↔ adjD (I 0 1) (I 3) (I 4) lk a b := by
  have g := ds_isD h lk ha hb
  constructor
  · intro e
    rw [e] at g
    obtain ⟨c, h1, h2⟩ := g.2.1 (by omega)
    have : a = c := h1
    rw [this]; exact h2
  · intro e
    have h1 := g.2.2 1 ⟨a, rfl, e⟩
    rcases Nat.lt_or_ge (ds I lk a b) 1 with q | q
    · have e0 : ds I lk a b = 0 := by omega
      rw [e0] at g
      have e1 : a = b := g.2.1 (by omega)
      obtain ⟨d, d1, _, d3⟩ := e
      have := (h.door d1).2.2.1
      rcases d3 with ⟨x, y⟩ | ⟨x, y⟩ <;> omega
    · omega
theorem ds_tri {I : Tb} (h : ib I) (lk : Nat → Bool) {a r b : Nat} (ha : a < I 0 0) (hr : r < I 0 0) (hb : b < I 0 0) (h1 : ds I lk a r = 1) : ds I lk a b ≤ ds I lk r b + 1 := by
  have g := ds_isD h lk hr hb
  have ga := ds_isD h lk ha hb
  rcases Nat.lt_or_ge (ds I lk r b) 99 with q | q
  · have w1 : wk (adjD (I 0 1) (I 3) (I 4) lk) 1 a r := ⟨a, rfl, (ds_adj h lk ha hr).mp h1⟩
    have w2 := wk_app w1 (g.2.1 q)
    have := ga.2.2 _ w2
    omega
  · have := ga.1
    omega
theorem ds_step {I : Tb} (h : ib I) (lk : Nat → Bool) {a b : Nat} (ha : a < I 0 0) (hb : b < I 0 0) (hab : a ≠ b) (hl : ds I lk a b < 99) : ∃ r, r < I 0 0 ∧ ds I lk a r = 1 ∧ ds I lk r b + 1 = ds I lk a b := by
  have g := ds_isD h lk ha hb
  have w := wk_rev adjD_sym (g.2.1 hl)
  cases hk : ds I lk a b with
  | zero =>
    rw [hk] at w
    have : b = a := w
    exact absurd this.symm hab
  | succ k =>
    rw [hk] at w
    obtain ⟨r, w1, w2⟩ := w
    have hr := (ib_in h lk _ _ w2).1
    have e1 := (ds_adj h lk ha hr).mpr (adjD_sym _ _ w2)
    have e2 := (ds_isD h lk hr hb).2.2 k (wk_rev adjD_sym w1)
    have e3 := ds_tri h lk ha hr hb e1
    exact ⟨r, hr, e1, by omega⟩
theorem ds_bfs {I : Tb} (h : ib I) (lk : Nat → Bool) {a r : Nat} (ha : a < I 0 0) (hr : r < I 0 0) : bfsL (I 0 1) (I 3) (I 4) lk (I 0 0) (fun r => if r = a then 0 else 99) r = ds I lk a r :=
  isD_one (bfs_ok (fun _ hk => ⟨(h.door hk).1, (h.door hk).2.1⟩) ha h.R r) (ds_isD h lk ha hr)
theorem ds_rev {I : Tb} (h : ib I) (lk : Nat → Bool) {a b : Nat} (ha : a < I 0 0) (hb : b < I 0 0) : ds I lk a b = ds I lk b a :=
  isD_one (ds_isD h lk ha hb) (isD_rev adjD_sym (ds_isD h lk hb ha))
/-- the one door between two rooms -/
def dbt (I : Tb) (a b : Nat) : Nat := fa_first (isB (I 3) (I 4) a b) (I 0 1)
theorem isB_iff {o t : Nat → Nat} {a b k : Nat} : isB o t a b k = true ↔ ((o k = a ∧ t k = b) ∨ (o k = b ∧ t k = a)) := by unfold isB; exact decide_eq_true_iff
theorem first_lt {p : Nat → Bool} {n k : Nat} (hk : k < n) (hp : p k = true) : fa_first p n ≤ k := by
  rcases Nat.lt_or_ge k (fa_first p n) with q | q
  · have := fa_first_no p n k q
    rw [hp] at this; cases this
  · exact q
theorem dbt_adj {I : Tb} (h : ib I) (lk : Nat → Bool) {a b : Nat} : adjD (I 0 1) (I 3) (I 4) lk a b ↔ dbt I a b < I 0 1 ∧ lk (dbt I a b) = false := by
  unfold dbt
  constructor
  · intro ⟨d, h1, h2, h3⟩
    have hd : isB (I 3) (I 4) a b d = true := isB_iff.mpr h3
    have h4 := first_lt h1 hd
    have h5 : fa_first (isB (I 3) (I 4) a b) (I 0 1) < I 0 1 := by omega
    have h6 := fa_first_yes _ _ h5
    have h7 : fa_first (isB (I 3) (I 4) a b) (I 0 1) = d := by
      refine h.one h1 h5 ?_
      rw [isB_iff] at h6 ⊢
      omega
    rw [h7]; exact ⟨h1, h2⟩
  · intro ⟨h1, h2⟩
    exact ⟨_, h1, h2, isB_iff.mp (fa_first_yes _ _ h1)⟩
def nb (I n : Tb) : Prop :=
  n 0 0 ≤ 40 ∧ (∀ d, d < I 0 1 → n 1 d ≤ 2 ∧ (n 1 d = 2 ↔ hnf I (n 0 1) d = 2)) ∧
  (∀ s, s < I 0 4 → n 3 s < I 0 3 ∧ n 4 s < 4 ∧ n 5 s < I 0 0 ∧ n 6 s ≤ I 0 2 ∧ n 7 s ≤ 1) ∧
  (∀ t, t < I 0 2 → n 8 t < I 0 0 ∧ n 9 t ≤ 1) ∧ ∀ l, l < I 0 5 → n 10 l < 2 ^ 40
theorem nb.b {I n : Tb} (h : nb I n) : n 0 0 ≤ 40 := h.1
theorem nb.d {I n : Tb} (h : nb I n) {d : Nat} (hd : d < I 0 1) : n 1 d ≤ 2 ∧ (n 1 d = 2 ↔ hnf I (n 0 1) d = 2) := h.2.1 d hd
theorem nb.s {I n : Tb} (h : nb I n) {s : Nat} (hs : s < I 0 4) : n 3 s < I 0 3 ∧ n 4 s < 4 ∧ n 5 s < I 0 0 ∧ n 6 s ≤ I 0 2 ∧ n 7 s ≤ 1 := h.2.2.1 s hs
theorem nb.t {I n : Tb} (h : nb I n) {t : Nat} (ht : t < I 0 2) : n 8 t < I 0 0 ∧ n 9 t ≤ 1 := h.2.2.2.1 t ht
theorem nb.l {I n : Tb} (h : nb I n) {l : Nat} (hl : l < I 0 5) : n 10 l < 2 ^ 40 := h.2.2.2.2 l hl
theorem nb.k {I n : Tb} (hi : ib I) (h : nb I n) {s : Nat} (hs : s < I 0 4) : 4 * n 3 s + n 4 s < 16 := by
  have := h.s hs
  have := hi.E
  omega
theorem nb.n1 {I n : Tb} (h : nb I n) {i v : Nat} (hv : v ≤ 2) (hw : v = 2 ↔ n 1 i = 2) : nb I (set2 n 1 i v) := by
  obtain ⟨h1, h2, h3, h4, h5⟩ := h
  refine ⟨by rw [set2_f (by omega)]; exact h1, fun j hj => by
    rw [set2_f (f := 1) (g := 0) (by omega)]; by_cases c : j = i
    · subst c; rw [set2_s]; exact ⟨hv, hw.trans (h2 j hj).2⟩
    · rw [set2_i c]; exact h2 j hj, fun j hj => by rw [set2_f (f := 1) (g := 3) (by omega), set2_f (f := 1) (g := 4) (by omega), set2_f (f := 1) (g := 5) (by omega), set2_f (f := 1) (g := 6) (by omega), set2_f (f := 1) (g := 7) (by omega)]; exact h3 j hj, fun j hj => by rw [set2_f (f := 1) (g := 8) (by omega), set2_f (f := 1) (g := 9) (by omega)]; exact h4 j hj, fun j hj => by rw [set2_f (f := 1) (g := 10) (by omega)]; exact h5 j hj⟩
theorem nb.n2 {I n : Tb} (h : nb I n) {i v : Nat}  : nb I (set2 n 2 i v) := by
  obtain ⟨h1, h2, h3, h4, h5⟩ := h
  refine ⟨by rw [set2_f (by omega)]; exact h1, fun j hj => by rw [set2_f (f := 2) (g := 1) (by omega), set2_f (f := 2) (g := 0) (by omega)]; exact h2 j hj, fun j hj => by rw [set2_f (f := 2) (g := 3) (by omega), set2_f (f := 2) (g := 4) (by omega), set2_f (f := 2) (g := 5) (by omega), set2_f (f := 2) (g := 6) (by omega), set2_f (f := 2) (g := 7) (by omega)]; exact h3 j hj, fun j hj => by rw [set2_f (f := 2) (g := 8) (by omega), set2_f (f := 2) (g := 9) (by omega)]; exact h4 j hj, fun j hj => by rw [set2_f (f := 2) (g := 10) (by omega)]; exact h5 j hj⟩
theorem nb.n3 {I n : Tb} (h : nb I n) {i v : Nat} (hv : v < I 0 3) : nb I (set2 n 3 i v) := by
  obtain ⟨h1, h2, h3, h4, h5⟩ := h
  refine ⟨by rw [set2_f (by omega)]; exact h1, fun j hj => by rw [set2_f (f := 3) (g := 1) (by omega), set2_f (f := 3) (g := 0) (by omega)]; exact h2 j hj, fun j hj => by
    rw [set2_f (f := 3) (g := 4) (by omega), set2_f (f := 3) (g := 5) (by omega), set2_f (f := 3) (g := 6) (by omega), set2_f (f := 3) (g := 7) (by omega)]; by_cases c : j = i
    · subst c; rw [set2_s]; have q := h3 j hj; omega
    · rw [set2_i c]; exact h3 j hj, fun j hj => by rw [set2_f (f := 3) (g := 8) (by omega), set2_f (f := 3) (g := 9) (by omega)]; exact h4 j hj, fun j hj => by rw [set2_f (f := 3) (g := 10) (by omega)]; exact h5 j hj⟩
theorem nb.n4 {I n : Tb} (h : nb I n) {i v : Nat} (hv : v < 4) : nb I (set2 n 4 i v) := by
  obtain ⟨h1, h2, h3, h4, h5⟩ := h
  refine ⟨by rw [set2_f (by omega)]; exact h1, fun j hj => by rw [set2_f (f := 4) (g := 1) (by omega), set2_f (f := 4) (g := 0) (by omega)]; exact h2 j hj, fun j hj => by
    rw [set2_f (f := 4) (g := 3) (by omega), set2_f (f := 4) (g := 5) (by omega), set2_f (f := 4) (g := 6) (by omega), set2_f (f := 4) (g := 7) (by omega)]; by_cases c : j = i
    · subst c; rw [set2_s]; have q := h3 j hj; omega
    · rw [set2_i c]; exact h3 j hj, fun j hj => by rw [set2_f (f := 4) (g := 8) (by omega), set2_f (f := 4) (g := 9) (by omega)]; exact h4 j hj, fun j hj => by rw [set2_f (f := 4) (g := 10) (by omega)]; exact h5 j hj⟩
theorem nb.n5 {I n : Tb} (h : nb I n) {i v : Nat} (hv : v < I 0 0) : nb I (set2 n 5 i v) := by
  obtain ⟨h1, h2, h3, h4, h5⟩ := h
  refine ⟨by rw [set2_f (by omega)]; exact h1, fun j hj => by rw [set2_f (f := 5) (g := 1) (by omega), set2_f (f := 5) (g := 0) (by omega)]; exact h2 j hj, fun j hj => by
    rw [set2_f (f := 5) (g := 3) (by omega), set2_f (f := 5) (g := 4) (by omega), set2_f (f := 5) (g := 6) (by omega), set2_f (f := 5) (g := 7) (by omega)]; by_cases c : j = i
    · subst c; rw [set2_s]; have q := h3 j hj; omega
    · rw [set2_i c]; exact h3 j hj, fun j hj => by rw [set2_f (f := 5) (g := 8) (by omega), set2_f (f := 5) (g := 9) (by omega)]; exact h4 j hj, fun j hj => by rw [set2_f (f := 5) (g := 10) (by omega)]; exact h5 j hj⟩
theorem nb.n6 {I n : Tb} (h : nb I n) {i v : Nat} (hv : v ≤ I 0 2) : nb I (set2 n 6 i v) := by
  obtain ⟨h1, h2, h3, h4, h5⟩ := h
  refine ⟨by rw [set2_f (by omega)]; exact h1, fun j hj => by rw [set2_f (f := 6) (g := 1) (by omega), set2_f (f := 6) (g := 0) (by omega)]; exact h2 j hj, fun j hj => by
    rw [set2_f (f := 6) (g := 3) (by omega), set2_f (f := 6) (g := 4) (by omega), set2_f (f := 6) (g := 5) (by omega), set2_f (f := 6) (g := 7) (by omega)]; by_cases c : j = i
    · subst c; rw [set2_s]; have q := h3 j hj; omega
    · rw [set2_i c]; exact h3 j hj, fun j hj => by rw [set2_f (f := 6) (g := 8) (by omega), set2_f (f := 6) (g := 9) (by omega)]; exact h4 j hj, fun j hj => by rw [set2_f (f := 6) (g := 10) (by omega)]; exact h5 j hj⟩
theorem nb.n7 {I n : Tb} (h : nb I n) {i v : Nat} (hv : v ≤ 1) : nb I (set2 n 7 i v) := by
  obtain ⟨h1, h2, h3, h4, h5⟩ := h
  refine ⟨by rw [set2_f (by omega)]; exact h1, fun j hj => by rw [set2_f (f := 7) (g := 1) (by omega), set2_f (f := 7) (g := 0) (by omega)]; exact h2 j hj, fun j hj => by
    rw [set2_f (f := 7) (g := 3) (by omega), set2_f (f := 7) (g := 4) (by omega), set2_f (f := 7) (g := 5) (by omega), set2_f (f := 7) (g := 6) (by omega)]; by_cases c : j = i
    · subst c; rw [set2_s]; have q := h3 j hj; omega
    · rw [set2_i c]; exact h3 j hj, fun j hj => by rw [set2_f (f := 7) (g := 8) (by omega), set2_f (f := 7) (g := 9) (by omega)]; exact h4 j hj, fun j hj => by rw [set2_f (f := 7) (g := 10) (by omega)]; exact h5 j hj⟩
theorem nb.n8 {I n : Tb} (h : nb I n) {i v : Nat} (hv : v < I 0 0) : nb I (set2 n 8 i v) := by
  obtain ⟨h1, h2, h3, h4, h5⟩ := h
  refine ⟨by rw [set2_f (by omega)]; exact h1, fun j hj => by rw [set2_f (f := 8) (g := 1) (by omega), set2_f (f := 8) (g := 0) (by omega)]; exact h2 j hj, fun j hj => by rw [set2_f (f := 8) (g := 3) (by omega), set2_f (f := 8) (g := 4) (by omega), set2_f (f := 8) (g := 5) (by omega), set2_f (f := 8) (g := 6) (by omega), set2_f (f := 8) (g := 7) (by omega)]; exact h3 j hj, fun j hj => by
    rw [set2_f (f := 8) (g := 9) (by omega)]; by_cases c : j = i
    · subst c; rw [set2_s]; have q := h4 j hj; omega
    · rw [set2_i c]; exact h4 j hj, fun j hj => by rw [set2_f (f := 8) (g := 10) (by omega)]; exact h5 j hj⟩
theorem nb.n9 {I n : Tb} (h : nb I n) {i v : Nat} (hv : v ≤ 1) : nb I (set2 n 9 i v) := by
  obtain ⟨h1, h2, h3, h4, h5⟩ := h
  refine ⟨by rw [set2_f (by omega)]; exact h1, fun j hj => by rw [set2_f (f := 9) (g := 1) (by omega), set2_f (f := 9) (g := 0) (by omega)]; exact h2 j hj, fun j hj => by rw [set2_f (f := 9) (g := 3) (by omega), set2_f (f := 9) (g := 4) (by omega), set2_f (f := 9) (g := 5) (by omega), set2_f (f := 9) (g := 6) (by omega), set2_f (f := 9) (g := 7) (by omega)]; exact h3 j hj, fun j hj => by
    rw [set2_f (f := 9) (g := 8) (by omega)]; by_cases c : j = i
    · subst c; rw [set2_s]; have q := h4 j hj; omega
    · rw [set2_i c]; exact h4 j hj, fun j hj => by rw [set2_f (f := 9) (g := 10) (by omega)]; exact h5 j hj⟩
theorem nb.n10 {I n : Tb} (h : nb I n) {i v : Nat} (hv : v < 2 ^ 40) : nb I (set2 n 10 i v) := by
  obtain ⟨h1, h2, h3, h4, h5⟩ := h
  refine ⟨by rw [set2_f (by omega)]; exact h1, fun j hj => by rw [set2_f (f := 10) (g := 1) (by omega), set2_f (f := 10) (g := 0) (by omega)]; exact h2 j hj, fun j hj => by rw [set2_f (f := 10) (g := 3) (by omega), set2_f (f := 10) (g := 4) (by omega), set2_f (f := 10) (g := 5) (by omega), set2_f (f := 10) (g := 6) (by omega), set2_f (f := 10) (g := 7) (by omega)]; exact h3 j hj, fun j hj => by rw [set2_f (f := 10) (g := 8) (by omega), set2_f (f := 10) (g := 9) (by omega)]; exact h4 j hj, fun j hj => by
    by_cases c : j = i
    · subst c; rw [set2_s]; exact hv
    · rw [set2_i c]; exact h5 j hj⟩
theorem nb.n0 {I n : Tb} (h : nb I n) {v : Nat} (hv : v ≤ 40) : nb I (set2 n 0 0 v) := by
  obtain ⟨h1, h2, h3, h4, h5⟩ := h
  refine ⟨by rw [set2_s]; exact hv, fun j hj => by rw [set2_f (f := 0) (g := 1) (by omega), set2_i (f := 0) (j := 1) (by omega)]; exact h2 j hj, fun j hj => by rw [set2_f (f := 0) (g := 3) (by omega), set2_f (f := 0) (g := 4) (by omega), set2_f (f := 0) (g := 5) (by omega), set2_f (f := 0) (g := 6) (by omega), set2_f (f := 0) (g := 7) (by omega)]; exact h3 j hj, fun j hj => by rw [set2_f (f := 0) (g := 8) (by omega), set2_f (f := 0) (g := 9) (by omega)]; exact h4 j hj, fun j hj => by rw [set2_f (f := 0) (g := 10) (by omega)]; exact h5 j hj⟩
