/-! PURE LEVEL: numbers, loops -/
theorem il (n : Nat) : (OfNat.ofNat n : Int32) = nI n := rfl
theorem gd_nI {ρ : Type} {k n : Nat} (K : Option ρ) (h : k < n) (hn : n < 2 ^ 31) : gd (nI k) n K = K := gd_in K (vp_in_nI h hn)
theorem nI_neg1 {k : Nat} (h : k < 2 ^ 31) : (nI k = (-1 : Int32)) ↔ False := by
  refine ⟨fun e => ?_, fun e => e.elim⟩
  have h1 := nI_toInt h
  rw [e] at h1
  have h2 : ((-1 : Int32)).toInt = -1 := by decide
  omega
theorem nI_neg2 {k : Nat} (h : k < 2 ^ 31) : (nI k = (-2 : Int32)) ↔ False := by
  refine ⟨fun e => ?_, fun e => e.elim⟩
  have h1 := nI_toInt h
  rw [e] at h1
  have h2 : ((-2 : Int32)).toInt = -2 := by decide
  omega
theorem neg1_nI {k : Nat} (h : k < 2 ^ 31) : ((-1 : Int32) = nI k) ↔ False := ⟨fun e => (nI_neg1 h).mp e.symm, fun e => e.elim⟩
theorem neg2_nI {k : Nat} (h : k < 2 ^ 31) : ((-2 : Int32) = nI k) ↔ False := ⟨fun e => (nI_neg2 h).mp e.symm, fun e => e.elim⟩
theorem nI_lt0 {k : Nat} (h : k < 2 ^ 31) : (nI k < 0) ↔ False := ⟨fun e => nI_pos h e, fun e => e.elim⟩
/-- a loop that goes on from st i to st e, and ends there -/
theorem lp_to {σ ρ : Type} {B : (σ → Option ρ) → σ → Option ρ} (st : Nat → σ) {r : Option ρ} (e : Nat) (he : ∀ rec, B rec (st e) = r) : ∀ (k i N : Nat), i + k = e → k < N → (∀ j, i ≤ j → j < e → ∀ rec, B rec (st j) = rec (st (j + 1))) → lp B N (st i) = r
  | 0, i, N, hk, hN, hs => by
    cases N with
    | zero => omega
    | succ N =>
      have : i = e := by omega
      subst this
      exact he _
  | k + 1, i, N, hk, hN, hs => by
    cases N with
    | zero => omega
    | succ N =>
      show B (lp B N) (st i) = r
      rw [hs i (Nat.le_refl i) (by omega)]
      exact lp_to st e he k (i + 1) N (by omega) (by omega) (fun j h1 h2 => hs j (by omega) h2)
theorem lp_for {σ ρ : Type} {B : (σ → Option ρ) → σ → Option ρ} (st : Nat → σ) {r : Option ρ} (e N : Nat) (hN : e < N) (hs : ∀ j, j < e → ∀ rec, B rec (st j) = rec (st (j + 1))) (he : ∀ rec, B rec (st e) = r) : lp B N (st 0) = r :=
  lp_to st e he e 0 N (by omega) hN (fun j _ h => hs j h)
theorem bd_some {α β : Type} (x : α) (k : α → Option β) : (some x).bind k = k x := rfl
/-! walks -/
def wk (adj : Nat → Nat → Prop) : Nat → Nat → Nat → Prop
  | 0, a, b => a = b
  | n + 1, a, b => ∃ c, wk adj n a c ∧ adj c b
theorem wk_app {adj : Nat → Nat → Prop} {a b : Nat} : ∀ {m n c : Nat}, wk adj m a b → wk adj n b c → wk adj (m + n) a c
  | m, 0, c, h1, h2 => by
    have : b = c := h2
    subst this
    exact h1
  | m, n + 1, c, h1, ⟨d, h2, h3⟩ => ⟨d, wk_app h1 h2, h3⟩
theorem wk_rev {adj : Nat → Nat → Prop} (hs : ∀ x y, adj x y → adj y x) {a : Nat} : ∀ {n b : Nat}, wk adj n a b → wk adj n b a
  | 0, b, h => Eq.symm h
  | n + 1, b, ⟨d, h2, h3⟩ => by
    have h4 := wk_rev hs h2
    have h5 : wk adj 1 b d := ⟨b, rfl, hs _ _ h3⟩
    have h6 := wk_app h5 h4
    rwa [Nat.add_comm] at h6
theorem wk_in {adj : Nat → Nat → Prop} {R a : Nat} (hR : ∀ x y, adj x y → x < R ∧ y < R) (ha : a < R) : ∀ {n b : Nat}, wk adj n a b → b < R
  | 0, b, h => by rw [← h]; exact ha
  | n + 1, b, ⟨d, h2, h3⟩ => (hR _ _ h3).2
/-- what is least: 99 if there is no walk -/
def isD (adj : Nat → Nat → Prop) (a b k : Nat) : Prop := k ≤ 99 ∧ (k < 99 → wk adj k a b) ∧ ∀ n, wk adj n a b → k ≤ n
theorem isD_one {adj : Nat → Nat → Prop} {a b k k' : Nat} (h : isD adj a b k) (h' : isD adj a b k') : k = k' := by
  rcases Nat.lt_or_ge k 99 with g | g
  · have h1 := h'.2.2 k (h.2.1 g)
    rcases Nat.lt_or_ge k' 99 with g' | g'
    · have h2 := h.2.2 k' (h'.2.1 g')
      omega
    · have := h'.1
      omega
  · rcases Nat.lt_or_ge k' 99 with g' | g'
    · have h2 := h.2.2 k' (h'.2.1 g')
      have := h.1
      omega
    · have := h.1
      have := h'.1
      omega
theorem isD_rev {adj : Nat → Nat → Prop} (hs : ∀ x y, adj x y → adj y x) {a b k : Nat} (h : isD adj a b k) : isD adj b a k :=
  ⟨h.1, fun g => wk_rev hs (h.2.1 g), fun n hn => h.2.2 n (wk_rev hs hn)⟩
/-! Floyd's way -/
def ph (via : Nat) (M : Nat → Nat → Nat) : Nat → Nat → Nat := fun a b => min (M a b) (M a via + M via b)
/-- what holds of the matrix before 'via' is looked at -/
def FW (adj : Nat → Nat → Prop) (R k : Nat) (M : Nat → Nat → Nat) : Prop := (∀ a b, a < R → b < R → M a b ≤ 99) ∧ (∀ a, a < R → M a a = 0) ∧ (∀ a b, a < R → b < R → M a b < 99 → wk adj (M a b) a b) ∧ (∀ a b, adj a b → M a b ≤ 1) ∧ ∀ c, c < k → ∀ a b, a < R → b < R → M a b ≤ M a c + M c b
theorem FW_step {adj : Nat → Nat → Prop} {R k : Nat} {M : Nat → Nat → Nat} (h : FW adj R k M) (hk : k < R) : FW adj R (k + 1) (ph k M) := by
  obtain ⟨h1, h2, h3, h4, h5⟩ := h
  refine ⟨fun a b ha hb => ?_, fun a ha => ?_, fun a b ha hb hlt => ?_, fun a b hab => ?_, fun c hc a b ha hb => ?_⟩
  · have := h1 a b ha hb
    unfold ph
    omega
  · have := h2 a ha
    unfold ph
    omega
  · unfold ph at hlt ⊢
    rcases Nat.le_total (M a b) (M a k + M k b) with g | g
    · rw [Nat.min_eq_left g] at hlt ⊢
      exact h3 a b ha hb hlt
    · rw [Nat.min_eq_right g] at hlt ⊢
      exact wk_app (h3 a k ha hk (by omega)) (h3 k b hk hb (by omega))
  · have := h4 a b hab
    unfold ph
    omega
  · have hkk := h2 k hk
    unfold ph
    rcases Nat.lt_or_ge c k with g | g
    · have hcR : c < R := by omega
      have e1 := h5 c g a b ha hb
      have e2 := h5 c g k b hk hb
      have e3 := h5 c g a k ha hk
      omega
    · have : c = k := by omega
      subst this
      omega
theorem FW_end {adj : Nat → Nat → Prop} {R : Nat} {M : Nat → Nat → Nat} (hR : ∀ x y, adj x y → x < R ∧ y < R) (h : FW adj R R M) {a b : Nat} (ha : a < R) (hb : b < R) : isD adj a b (M a b) := by
  obtain ⟨h1, h2, h3, h4, h5⟩ := h
  refine ⟨h1 a b ha hb, h3 a b ha hb, fun n hn => ?_⟩
  clear hb
  induction n generalizing b with
  | zero =>
    have : a = b := hn
    subst this
    rw [h2 a ha]
    exact Nat.le_refl 0
  | succ n ih =>
    obtain ⟨c, g1, g2⟩ := hn
    have hc := hR c b g2
    have e1 := ih g1
    have e2 := h4 c b g2
    have e3 := h5 c hc.1 a b ha hc.2
    omega
