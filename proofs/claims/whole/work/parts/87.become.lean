/-! a night that becomes another -/
theorem cpy_i {α : Type} {a d : Nat → α} {n i : Nat} (h : i < n) : va_cpy a d 0 0 n i = a i := by
  unfold va_cpy
  rw [if_pos (by omega), Nat.zero_add, Nat.sub_zero]
theorem CN.copy {I n : Tb} {been : Int32} {ho pa dr st ro ha aw th fu : Nat → Int32} {hb : Nat → Int64} (hi : ib I) (h : CN I n been ho pa dr st ro ha aw th fu hb) (ho' pa' dr' st' ro' ha' aw' th' fu' : Nat → Int32) (hb' : Nat → Int64) : CN I n been (va_cpy ho ho' 0 0 10) (va_cpy pa pa' 0 0 10) (va_cpy dr dr' 0 0 3) (va_cpy st st' 0 0 3) (va_cpy ro ro' 0 0 3) (va_cpy ha ha' 0 0 3) (va_cpy aw aw' 0 0 3) (va_cpy th th' 0 0 4) (va_cpy fu fu' 0 0 4) (va_cpy hb hb' 0 0 3) := by
  have hD := hi.D
  have hS := hi.S
  have hT := hi.T
  have hL := hi.L
  obtain ⟨a0, a1, a2, a3, a4, a5, a6, a7, a8, a9, a10, ⟨z1, z2⟩, z3⟩ := h
  refine ⟨a0, fun i h => ?_, fun i h => ?_, fun i h => ?_, fun i h => ?_, fun i h => ?_, fun i h => ?_, fun i h => ?_, fun i h => ?_, fun i h => ?_, fun i h => ?_, ⟨fun i h => ?_, fun i h => ?_⟩, fun i h1 h => ?_⟩
  · rw [cpy_i (by omega)]; exact a1 i h
  · rw [cpy_i (by omega)]; exact a2 i h
  · rw [cpy_i (by omega)]; exact a3 i h
  · rw [cpy_i (by omega)]; exact a4 i h
  · rw [cpy_i (by omega)]; exact a5 i h
  · rw [cpy_i (by omega)]; exact a6 i h
  · rw [cpy_i (by omega)]; exact a7 i h
  · rw [cpy_i (by omega)]; exact a8 i h
  · rw [cpy_i (by omega)]; exact a9 i h
  · rw [cpy_i (by omega)]; exact a10 i h
  · rw [cpy_i h]; exact z1 i h
  · rw [cpy_i h]; exact z2 i h
  · rw [cpy_i h]; exact z3 i h1 h
/-- the rows of the reference: a row that is kept -/
theorem RN.same {I n : Tb} {w w' : Nat → Int32} (hi : ib I) (h : RN I n w) (e : ∀ i, i < 51 → w' i = w i) : RN I n w' := by
  have hD := hi.D
  have hS := hi.S
  have hT := hi.T
  have hL := hi.L
  obtain ⟨b0, b0', b1, b2, b3, b4, b5, b6, b7, b8, b9, b10, bz⟩ := h
  refine ⟨by rw [e 49 (by omega)]; exact b0, by rw [e 50 (by omega)]; exact b0', fun i h => ?_, fun i h => ?_, fun i h => ?_, fun i h => ?_, fun i h => ?_, fun i h => ?_, fun i h => ?_, fun i h => ?_, fun i h => ?_, fun i h => ?_, fun i h => ?_⟩
  · rw [e _ (by omega)]; exact b1 i h
  · rw [e _ (by omega)]; exact b2 i h
  · rw [e _ (by omega)]; exact b3 i h
  · rw [e _ (by omega)]; exact b4 i h
  · rw [e _ (by omega)]; exact b5 i h
  · rw [e _ (by omega)]; exact b6 i h
  · rw [e _ (by omega)]; exact b7 i h
  · rw [e _ (by omega)]; exact b8 i h
  · rw [e _ (by omega)]; exact b9 i h
  · rw [e _ (by omega), e _ (by omega)]; exact b10 i h
  · rw [e i (by unfold zi at h; omega)]; exact bz i h
theorem mf_cpy {R : Nat} {M : Nat → Nat → Nat} {g d : Nat → Int32} (hR : R ≤ 8) : ∃ g', va_cpy (mf R M g) d 0 0 64 = mf R M g' := by
  refine ⟨va_cpy g d 0 0 64, ?_⟩
  funext i
  by_cases c : i < 64
  · rw [cpy_i c]
    unfold mf
    by_cases q : i / 8 < R ∧ i % 8 < R
    · rw [if_pos q, if_pos q]
    · rw [if_neg q, if_neg q, cpy_i c]
  · have hq : ¬ (i / 8 < R ∧ i % 8 < R) := fun q => by omega
    unfold va_cpy mf
    rw [if_neg (by omega), if_neg hq]
    exact (if_neg (by omega)).symm
theorem become_ok {N : Nat} {I n : Tb} {setting been wr : Int32} {ws ho pa dr st ro ha aw th fu w : Nat → Int32} {hb : Nat → Int64} (hi : ib I) (inn : Option Nat) (h : NGT I n setting been wr ws ho pa dr st ro ha aw th fu hb w) (ws' ho' pa' dr' st' ro' ha' aw' th' fu' : Nat → Int32) (hb' : Nat → Int64) :
    ∃ ws2 ho2 pa2 dr2 st2 ro2 ha2 aw2 th2 fu2 hb2, fX4_become N inn setting been wr ws' ws ho ho' pa pa' dr dr' st st' ro ro' ha ha' aw aw' th th' fu fu' hb hb' = some (inn, setting, been, wr, ws2, ho2, pa2, dr2, st2, ro2, ha2, aw2, th2, fu2, hb2) ∧ ∀ w', (∀ i, i < 51 → w' i = w i) → NGT I n setting been wr ws2 ho2 pa2 dr2 st2 ro2 ha2 aw2 th2 fu2 hb2 w' := by
  have hR := hi.R
  obtain ⟨n1, n2, n3, n4, n5, n6, n7, n8, g, rfl⟩ := h
  have bz : BZ aw fu := n1.2.2.2.2.2.2.2.2.2.2.2.1
  obtain ⟨g', hg⟩ := mf_cpy (R := I 0 0) (M := ds I (lks I (n 0 1))) (g := g) (d := ws') hR
  refine ⟨va_cpy (mf (I 0 0) (ds I (lks I (n 0 1))) g) ws' 0 0 64, va_cpy ho ho' 0 0 10, va_cpy pa pa' 0 0 10, va_cpy dr dr' 0 0 3, va_cpy st st' 0 0 3, va_cpy ro ro' 0 0 3, va_cpy ha ha' 0 0 3, va_cpy aw aw' 0 0 3, va_cpy th th' 0 0 4, va_cpy fu fu' 0 0 4, va_cpy hb hb' 0 0 3, ?_, fun w' hw => ⟨n1.copy hi _ _ _ _ _ _ _ _ _ _, n2.same hi hw, n3, n4, n5, n6, n7, n8, g', hg⟩⟩
  have c10 : ∀ K : Option (Option Nat × Int32 × Int32 × Int32 × (Nat → Int32) × (Nat → Int32) × (Nat → Int32) × (Nat → Int32) × (Nat → Int32) × (Nat → Int32) × (Nat → Int32) × (Nat → Int32) × (Nat → Int32) × (Nat → Int32) × (Nat → Int64)), cpg 0 0 10 10 10 K = K := fun K => if_neg (by decide)
  have c3 : ∀ K : Option (Option Nat × Int32 × Int32 × Int32 × (Nat → Int32) × (Nat → Int32) × (Nat → Int32) × (Nat → Int32) × (Nat → Int32) × (Nat → Int32) × (Nat → Int32) × (Nat → Int32) × (Nat → Int32) × (Nat → Int32) × (Nat → Int64)), cpg 0 0 3 3 3 K = K := fun K => if_neg (by decide)
  have z3 : ∀ K : Option (Option Nat × Int32 × Int32 × Int32 × (Nat → Int32) × (Nat → Int32) × (Nat → Int32) × (Nat → Int32) × (Nat → Int32) × (Nat → Int32) × (Nat → Int32) × (Nat → Int32) × (Nat → Int32) × (Nat → Int32) × (Nat → Int64)), zcg aw 0 3 K = K := fun K => if_pos (zall_ok 3 bz.1)
  have e8 : fX8_become N wr ws' (mf (I 0 0) (ds I (lks I (n 0 1))) g) = some (wr, va_cpy (mf (I 0 0) (ds I (lks I (n 0 1))) g) ws' 0 0 64) := by
    unfold fX8_become cpg
    rw [if_neg (by decide)]
    rfl
  unfold fX4_become
  rw [e8, bd_some]
  dsimp only [un2]
  rw [c10, c10, c3, c3, c3, c3, c3, z3, cpg4, cpg4, zcg4 bz.2, c3]
  rfl
