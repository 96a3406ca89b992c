/-! moving in (class) -/
theorem moveIn_ok {N : Nat} {I : Tb} {inThing inFull bed hhow states one other falls creak cold listensIn dreamOf cd0 aw0 : Nat → Int32} (hN : 64 < N) (hi : ib I) (hA : CAll I inThing inFull bed hhow states one other falls creak cold listensIn) (h15 : ∀ s, s < I 0 4 → dreamOf s = nI (I 15 s)) (hd0 : ∀ i, i < 3 → cd0 i = 0) (haw : ∀ i, i < 3 → aw0 i = 0 ∨ aw0 i = 1) (chosen ws0 th0 fu0 dr0 st0 ro0 ha0 ho0 pa0 ct0 : Nat → Int32) (hb0 : Nat → Int64) :
    ∃ (g th fu dr st ro ha aw ho pa cd ct : Nat → Int32) (hb : Nat → Int64), fX10_moveIn N (nI (I 0 3)) (nI (I 0 4)) dreamOf chosen (nI (I 0 0)) (nI (I 0 1)) hhow ws0 one other inThing th0 inFull fu0 hb0 dr0 st0 bed ro0 ha0 aw0 ho0 pa0 cd0 ct0 = some (0, va_cpy dreamOf chosen 0 0 3, 0, 0, nI (I 0 0), mf (I 0 0) (ds I (lks I 0)) g, th, fu, hb, dr, st, ro, ha, aw, ho, pa, 0, nI (cnm I), cd, ct) ∧ CN I (nf I 0 (I 15)) 0 ho pa dr st ro ha aw th fu hb ∧ (∀ c s, c < cnm I → s < I 0 4 → cd (3 * c + s) = nI (dg I c s)) ∧ (∀ i, i < 3 → cd i = 0) ∧ ∀ i, i < 21 → ct i = 0 := by
  have hS := hi.S
  obtain ⟨c1, c2, c3, c4, c5, c6⟩ := hA
  obtain ⟨g, hp⟩ := prepare_ok (N := N) (st := 0) (steps := ws0) hN hi (by omega) c1 c6.1 c6.2.1
  obtain ⟨th, fu, hb, dr, st, ro, ha, aw, ho, pa, b1, b2⟩ := begin_ok (N := N) (st := 0) (fr := 0) (dr := I 15) (a0 := va_cpy dreamOf chosen 0 0 3) hN hi (by omega) (by omega) c1 c2 c3 c4 (fun s hs => by rw [Nat.zero_add, cpy_i (by omega)]; exact h15 s hs) th0 fu0 dr0 st0 ro0 ha0 aw0 ho0 pa0 hb0 haw
  obtain ⟨cd, ct, m1, m2, m3, m4⟩ := moveTo_ok (N := N) hN hi hd0 ct0
  refine ⟨g, th, fu, dr, st, ro, ha, aw, ho, pa, cd, ct, hb, ?_, b2, m2, m3, m4⟩
  have hp' : fX4_prepare N 0 (nI (I 0 0)) (nI (I 0 1)) hhow ws0 one other = some (0, nI (I 0 0), mf (I 0 0) (ds I (lks I 0)) g) := hp
  have b1' : fX4_begin N 0 0 (nI (I 0 4)) (nI (I 0 1)) inThing th0 inFull fu0 hb0 (va_cpy dreamOf chosen 0 0 3) dr0 st0 bed ro0 ha0 aw0 hhow ho0 pa0 = some (0, th, fu, hb, dr, st, ro, ha, aw, ho, pa) := b1
  have e3 : va_cpy dreamOf chosen (Int32.toNatClampNeg 0) (Int32.toNatClampNeg 0) (Int32.toNatClampNeg 3) = va_cpy dreamOf chosen 0 0 3 := rfl
  unfold fX10_moveIn cpg
  rw [if_neg (by decide), hp', bd_some]
  dsimp only [un3]
  rw [e3, b1', bd_some]
  dsimp only [un11]
  rw [m1, bd_some]
  rfl
