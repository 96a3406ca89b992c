/-! a night that becomes another -/
theorem cpy_i {α : Type} {a d : Nat → α} {n i : Nat} (h : i < n) : va_cpy a d 0 0 n i = a i := by
  unfold va_cpy
  rw [if_pos (by omega), Nat.zero_add, Nat.sub_zero]
theorem CN.copy {I n : Tb} {been : Int32} {ho pa dr st ro ha aw th fu : Nat → Int32} {hb : Nat → Int64} (hi : ib I) (h : CN I n been ho pa dr st ro ha aw th fu hb) (ho' pa' dr' st' ro' ha' aw' th' fu' : Nat → Int32) (hb' : Nat → Int64) : CN I n been (va_cpy ho ho' 0 0 10) (va_cpy pa pa' 0 0 10) (va_cpy dr dr' 0 0 3) (va_cpy st st' 0 0 3) (va_cpy ro ro' 0 0 3) (va_cpy ha ha' 0 0 3) (va_cpy aw aw' 0 0 3) (va_cpy th th' 0 0 4) (va_cpy fu fu' 0 0 4) (va_cpy hb hb' 0 0 3) := by
  have hD := hi.D
  have hS := hi.S
  have hT := hi.T
  have hL := hi.L
  obtain ⟨a0, a1, a2, a3, a4, a5, a6, a7, a8, a9, a10, ⟨z1, z2⟩, z3⟩ := h
  refine ⟨a0, fun i h => ?_, fun i h => ?_, fun i h => ?_, fun i h => ?_, fun i h => ?_, fun i h => ?_, fun i h => ?_, fun i h => ?_, fun i h => ?_, fun i h => ?_, ⟨fun i h => ?_, fun i h => ?_⟩, fun i h1 h => ?_⟩
  · rw [cpy_i (by omega)]; exact a1 i h
  · rw [cpy_i (by omega)]; exact a2 i h
  · rw [cpy_i (by omega)]; exact a3 i h
  · rw [cpy_i (by omega)]; exact a4 i h
  · rw [cpy_i (by omega)]; exact a5 i h
  · rw [cpy_i (by omega)]; exact a6 i h
  · rw [cpy_i (by omega)]; exact a7 i h
  · rw [cpy_i (by omega)]; exact a8 i h
  · rw [cpy_i (by omega)]; exact a9 i h
  · rw [cpy_i (by omega)]; exact a10 i h
  · rw [cpy_i h]; exact z1 i h
  · rw [cpy_i h]; exact z2 i h
  · rw [cpy_i h]; exact z3 i h1 h
/-- the rows of the reference: a row that is kept -/
theorem RN.same {I n : Tb} {w w' : Nat → Int32} (hi : ib I) (h : RN I n w) (e : ∀ i, i < 51 → w' i = w i) : RN I n w' := by
  have hD := hi.D
  have hS := hi.S
  have hT := hi.T
  have hL := hi.L
  obtain ⟨b0, b0', b1, b2, b3, b4, b5, b6, b7, b8, b9, b10, bz⟩ := h
  refine ⟨by rw [e 49 (by omega)]; exact b0, by rw [e 50 (by omega)]; exact b0', fun i h => ?_, fun i h => ?_, fun i h => ?_, fun i h => ?_, fun i h => ?_, fun i h => ?_, fun i h => ?_, fun i h => ?_, fun i h => ?_, fun i h => ?_, fun i h => ?_⟩
  · rw [e _ (by omega)]; exact b1 i h
  · rw [e _ (by omega)]; exact b2 i h
  · rw [e _ (by omega)]; exact b3 i h
  · rw [e _ (by omega)]; exact b4 i h
  · rw [e _ (by omega)]; exact b5 i h
  · rw [e _ (by omega)]; exact b6 i h
  · rw [e _ (by omega)]; exact b7 i h
  · rw [e _ (by omega)]; exact b8 i h
  · rw [e _ (by omega)]; exact b9 i h
  · rw [e _ (by omega), e _ (by omega)]; exact b10 i h
  · rw [e i (by unfold zi at h; omega)]; exact bz i h
