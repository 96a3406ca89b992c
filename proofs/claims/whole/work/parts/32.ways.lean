theorem fill64_ok {N : Nat} (hN : 64 < N) (v : Int32) (a : Nat → Int32) : fJ7_fill_53178 N v a = some (fa_fill (fun _ => v) a 64) := by
  unfold fJ7_fill_53178
  refine lp_for (fun j => (nI j, fa_fill (fun _ => v) a j)) 64 N hN (fun j hj rec => ?_) (fun rec => ?_)
  · have h1 : ¬ 64 ≤ j := by omega
    simp (disch := omega) only [BJ7_fill_53178_5, un2, il, nI_leI, h1, if_false, gd_nI, nI_clamp, nI_add]
    rw [show upd (fa_fill (fun _ => v) a j) j v = fa_fill (fun _ => v) a (j + 1) from fa_fill_succ (fun _ => v) a j]
  · simp (disch := omega) only [BJ7_fill_53178_5, un2, il, nI_leI, Nat.le_refl, if_true]
theorem doorsFrom_ok {N a b : Nat} (ha : a < 8) (hb : b < 8) (st : Nat → Int32) : fX8_doorsFrom N (nI a) (nI b) st = some (st (a * 8 + b)) := by
  unfold fX8_doorsFrom
  simp (disch := omega) only [il, pk_mul, nI_add, gd_nI, nI_clamp]
/-- the row of steps that holds the matrix M of R rooms -/
def mf (R : Nat) (M : Nat → Nat → Nat) (g : Nat → Int32) : Nat → Int32 := fun i => if i / 8 < R ∧ i % 8 < R then nI (M (i / 8) (i % 8)) else g i
def setM (M : Nat → Nat → Nat) (a b y : Nat) : Nat → Nat → Nat := fun x z => if x = a ∧ z = b then y else M x z
theorem mf_at {R a b : Nat} {M : Nat → Nat → Nat} {g : Nat → Int32} (ha : a < R) (hb : b < R) (hR : R ≤ 8) : mf R M g (a * 8 + b) = nI (M a b) := by
  unfold mf
  have h1 : (a * 8 + b) / 8 = a := by omega
  have h2 : (a * 8 + b) % 8 = b := by omega
  rw [h1, h2, if_pos ⟨ha, hb⟩]
theorem mf_upd {R a b y : Nat} {M : Nat → Nat → Nat} {g : Nat → Int32} (ha : a < R) (hb : b < R) (hR : R ≤ 8) : upd (mf R M g) (a * 8 + b) (nI y) = mf R (setM M a b y) g := by
  funext i
  unfold upd mf setM
  by_cases h : i = a * 8 + b
  · have h1 : i / 8 = a := by omega
    have h2 : i % 8 = b := by omega
    rw [if_pos h, h1, h2, if_pos ⟨ha, hb⟩, if_pos ⟨rfl, rfl⟩]
  · rw [if_neg h]
    by_cases c : i / 8 < R ∧ i % 8 < R
    · rw [if_pos c, if_pos c, if_neg (by omega)]
    · rw [if_neg c, if_neg c]
theorem mf_congr {R : Nat} {M M' : Nat → Nat → Nat} {g : Nat → Int32} (h : ∀ a b, a < R → b < R → M a b = M' a b) : mf R M g = mf R M' g := by
  funext i
  unfold mf
  by_cases c : i / 8 < R ∧ i % 8 < R
  · rw [if_pos c, if_pos c, h _ _ c.1 c.2]
  · rw [if_neg c, if_neg c]
/-- one row shortened up to k -/
def shK (via a : Nat) (M : Nat → Nat → Nat) (k : Nat) : Nat → Nat → Nat := fun x y => if x = a ∧ y < k then ph via M x y else M x y
theorem shK_in {via a k x y : Nat} {M : Nat → Nat → Nat} (h : x = a ∧ y < k) : shK via a M k x y = ph via M x y := if_pos h
theorem shK_out {via a k x y : Nat} {M : Nat → Nat → Nat} (h : ¬ (x = a ∧ y < k)) : shK via a M k x y = M x y := if_neg h
theorem shorten_ok {N R a via : Nat} (hN : R < N) (hR : R ≤ 8) (ha : a < R) (hv : via < R) {M : Nat → Nat → Nat} {g : Nat → Int32} (hb : ∀ x y, x < R → y < R → M x y ≤ 99) (h0 : M via via = 0) :
    fX8_shorten N (nI a) (nI via) (nI R) (mf R M g) = some (mf R (shK via a M R) g) := by
  unfold fX8_shorten
  rw [doorsFrom_ok (by omega) (by omega), bd_some]
  simp only [un1]
  rw [mf_at ha hv hR]
  have hz : mf R M g = mf R (shK via a M 0) g := mf_congr fun x y _ _ => (shK_out (by omega)).symm
  rw [hz]
  refine lp_for (fun k => (nI k, mf R (shK via a M k) g)) R N hN (fun k hk rec => ?_) (fun rec => ?_)
  · have h3 : ¬ R ≤ k := by omega
    have e1 : shK via a M k via k = M via k := shK_out (by omega)
    have e2 : shK via a M k a k = M a k := shK_out (by omega)
    have b1 := hb a via ha hv
    have b2 := hb via k hv hk
    have b3 := hb a k ha hk
    by_cases hc : M a k ≤ M a via + M via k
    · simp (disch := omega) only [BX8_shorten_10, un2, un1, nI_leI, h3, if_false, doorsFrom_ok, bd_some, mf_at ha hk hR, mf_at hv hk hR, e1, e2, nI_add, jn, hc, if_true, il]
      refine congrArg rec (congrArg (fun q => (nI (k + 1), q)) (mf_congr fun x y hx hy => ?_))
      by_cases c : x = a ∧ y < k
      · rw [shK_in c, shK_in ⟨c.1, by omega⟩]
      · rw [shK_out c]
        by_cases c2 : x = a ∧ y = k
        · obtain ⟨rfl, rfl⟩ := c2
          rw [shK_in ⟨rfl, by omega⟩]
          unfold ph
          rw [Nat.min_eq_left hc]
        · rw [shK_out (by omega)]
    · simp (disch := omega) only [BX8_shorten_10, un2, un1, nI_leI, h3, if_false, doorsFrom_ok, bd_some, mf_at ha hk hR, mf_at hv hk hR, e1, e2, nI_add, jn, hc, il, pk_mul, gd_nI, nI_clamp, mf_upd ha hk hR]
      refine congrArg rec (congrArg (fun q => (nI (k + 1), q)) (mf_congr fun x y hx hy => ?_))
      unfold setM
      by_cases c2 : x = a ∧ y = k
      · rw [if_pos c2]
        obtain ⟨rfl, rfl⟩ := c2
        rw [shK_in ⟨rfl, by omega⟩]
        unfold ph
        rw [Nat.min_eq_right (by omega)]
      · rw [if_neg c2]
        by_cases c : x = a ∧ y < k
        · rw [shK_in c, shK_in ⟨c.1, by omega⟩]
        · rw [shK_out c, shK_out (by omega)]
  · simp (disch := omega) only [BX8_shorten_10, un2, nI_leI, Nat.le_refl, if_true]
