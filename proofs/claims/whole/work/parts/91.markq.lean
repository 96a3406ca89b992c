/-! mark and back -/
def MRK (I : Tb) (xi : Nat) (marked rmarks : Int32) (kept : Nat → Int32) (i0 : Nat) (s0 b0 r0 : Int32) (ws0 ho0 pa0 dr0 st0 ro0 ha0 aw0 th0 fu0 : Nat → Int32) (hb0 : Nat → Int64) (i1 : Nat) (s1 b1 r1 : Int32) (ws1 ho1 pa1 dr1 st1 ro1 ha1 aw1 th1 fu1 : Nat → Int32) (hb1 : Nat → Int64) (i2 : Nat) (s2 b2 r2 : Int32) (ws2 ho2 pa2 dr2 st2 ro2 ha2 aw2 th2 fu2 : Nat → Int32) (hb2 : Nat → Int64) : Prop := ∃ M, M ≤ 3 ∧ marked = nI M ∧ rmarks = nI M ∧ (0 < M → i0 = xi ∧ ∃ n, NGT I n s0 b0 r0 ws0 ho0 pa0 dr0 st0 ro0 ha0 aw0 th0 fu0 hb0 (fun i => kept (51 * 0 + i))) ∧ (1 < M → i1 = xi ∧ ∃ n, NGT I n s1 b1 r1 ws1 ho1 pa1 dr1 st1 ro1 ha1 aw1 th1 fu1 hb1 (fun i => kept (51 * 1 + i))) ∧ (2 < M → i2 = xi ∧ ∃ n, NGT I n s2 b2 r2 ws2 ho2 pa2 dr2 st2 ro2 ha2 aw2 th2 fu2 hb2 (fun i => kept (51 * 2 + i)))
theorem NGT.same {I n : Tb} {s b r : Int32} {ws ho pa dr st ro ha aw th fu : Nat → Int32} {hb : Nat → Int64} {w w' : Nat → Int32} (hi : ib I) (h : NGT I n s b r ws ho pa dr st ro ha aw th fu hb w) (e : ∀ i, i < 51 → w' i = w i) : NGT I n s b r ws ho pa dr st ro ha aw th fu hb w' := ⟨h.1, h.2.1.same hi e, h.2.2⟩
set_option maxHeartbeats 1600000 in
theorem q_mark {N : Nat} {I n : Tb} {xi : Nat} {marked rmarks : Int32} {kept w : Nat → Int32} {sx bx rx : Int32} {wsx hox pax drx stx rox hax awx thx fux : Nat → Int32} {hbx : Nat → Int64} {i0 : Nat} {s0 b0 r0 : Int32} {ws0 ho0 pa0 dr0 st0 ro0 ha0 aw0 th0 fu0 : Nat → Int32} {hb0 : Nat → Int64} {i1 : Nat} {s1 b1 r1 : Int32} {ws1 ho1 pa1 dr1 st1 ro1 ha1 aw1 th1 fu1 : Nat → Int32} {hb1 : Nat → Int64} {i2 : Nat} {s2 b2 r2 : Int32} {ws2 ho2 pa2 dr2 st2 ro2 ha2 aw2 th2 fu2 : Nat → Int32} {hb2 : Nat → Int64} (hN : 64 < N) (hi : ib I) (h0 : 0 < I 0 6) (hn : NGT I n sx bx rx wsx hox pax drx stx rox hax awx thx fux hbx w) (h : MRK I xi marked rmarks kept i0 s0 b0 r0 ws0 ho0 pa0 dr0 st0 ro0 ha0 aw0 th0 fu0 hb0 i1 s1 b1 r1 ws1 ho1 pa1 dr1 st1 ro1 ha1 aw1 th1 fu1 hb1 i2 s2 b2 r2 ws2 ho2 pa2 dr2 st2 ro2 ha2 aw2 th2 fu2 hb2) :
    ∃ v tr marked' rmarks' kept' i0' s0' b0' r0' ws0' ho0' pa0' dr0' st0' ro0' ha0' aw0' th0' fu0' hb0' i1' s1' b1' r1' ws1' ho1' pa1' dr1' st1' ro1' ha1' aw1' th1' fu1' hb1' i2' s2' b2' r2' ws2' ho2' pa2' dr2' st2' ro2' ha2' aw2' th2' fu2' hb2', fX10_mark N marked (nI (I 0 6)) sx bx (some i0) s0 b0 rx r0 ws0 wsx hox ho0 pax pa0 drx dr0 stx st0 rox ro0 hax ha0 awx aw0 thx th0 fux fu0 hbx hb0 (some i1) s1 b1 r1 ws1 ho1 pa1 dr1 st1 ro1 ha1 aw1 th1 fu1 hb1 (some i2) s2 b2 r2 ws2 ho2 pa2 dr2 st2 ro2 ha2 aw2 th2 fu2 hb2 xi = some (v, marked', tr, some i0', s0', b0', r0', ws0', ho0', pa0', dr0', st0', ro0', ha0', aw0', th0', fu0', hb0', some i1', s1', b1', r1', ws1', ho1', pa1', dr1', st1', ro1', ha1', aw1', th1', fu1', hb1', some i2', s2', b2', r2', ws2', ho2', pa2', dr2', st2', ro2', ha2', aw2', th2', fu2', hb2') ∧ fX12_mark N rmarks w kept = some (v, 0, tr, -1, rmarks', kept') ∧ tr ≠ 4 ∧ MRK I xi marked' rmarks' kept' i0' s0' b0' r0' ws0' ho0' pa0' dr0' st0' ro0' ha0' aw0' th0' fu0' hb0' i1' s1' b1' r1' ws1' ho1' pa1' dr1' st1' ro1' ha1' aw1' th1' fu1' hb1' i2' s2' b2' r2' ws2' ho2' pa2' dr2' st2' ro2' ha2' aw2' th2' fu2' hb2' := by
  obtain ⟨M, hM, rfl, rfl, k0, k1, k2⟩ := h
  have hT := c_isTold (N := N) h0 (Nat.lt_of_le_of_lt hi.M (by decide))
  have hcase : M = 0 ∨ M = 1 ∨ M = 2 ∨ M = 3 := by omega
  have kp : ∀ (kept : Nat → Int32) (j k i : Nat), j ≠ k → i < 51 → va_cpy w kept 0 (51 * k) 51 (51 * j + i) = kept (51 * j + i) := fun kept j k i hj hi => cpy_out (by omega)
  have kq : ∀ (kept : Nat → Int32) (k i : Nat), i < 51 → va_cpy w kept 0 (51 * k) 51 (51 * k + i) = w i := fun kept k i hi => by rw [cpy_in hi, Nat.zero_add]
  rcases hcase with rfl | rfl | rfl | rfl
  · obtain ⟨ws9, ho9, pa9, dr9, st9, ro9, ha9, aw9, th9, fu9, hb9, hb9', hg⟩ := become_ok (N := N) hi (some xi) hn ws0 ho0 pa0 dr0 st0 ro0 ha0 aw0 th0 fu0 hb0
    refine ⟨nI 0, 0, nI 1, nI 1, va_cpy w kept 0 (51 * 0) 51, xi, sx, bx, rx, ws9, ho9, pa9, dr9, st9, ro9, ha9, aw9, th9, fu9, hb9, i1, s1, b1, r1, ws1, ho1, pa1, dr1, st1, ro1, ha1, aw1, th1, fu1, hb1, i2, s2, b2, r2, ws2, ho2, pa2, dr2, st2, ro2, ha2, aw2, th2, fu2, hb2, ?_, r_mark w kept hN (by decide), by decide, 1, by decide, rfl, rfl, fun _ => ⟨rfl, n, hg _ (fun i h => kq kept 0 i h)⟩, fun hj => absurd hj (by decide), fun hj => absurd hj (by decide)⟩
    unfold fX10_mark
    rw [hT, bd_some]
    dsimp only [un1]
    rw [if_neg (show ¬ (1 : Int32) = 0 by decide), if_pos (show (nI 0 : Int32) < 3 by decide), gd_nI _ (show 0 < 3 by decide) (by decide), if_pos (show (nI 0 : Int32) = 0 by decide), hb9', bd_some]
    dsimp only [un15, fX10_answer]
    rw [bd_some]
    dsimp only [un2]
    rw [show (nI 0 + 1 - 1 : Int32) = nI 0 by decide, show (nI 0 + 1 : Int32) = nI 1 by decide]
  · obtain ⟨ws9, ho9, pa9, dr9, st9, ro9, ha9, aw9, th9, fu9, hb9, hb9', hg⟩ := become_ok (N := N) hi (some xi) hn ws1 ho1 pa1 dr1 st1 ro1 ha1 aw1 th1 fu1 hb1
    refine ⟨nI 1, 0, nI 2, nI 2, va_cpy w kept 0 (51 * 1) 51, i0, s0, b0, r0, ws0, ho0, pa0, dr0, st0, ro0, ha0, aw0, th0, fu0, hb0, xi, sx, bx, rx, ws9, ho9, pa9, dr9, st9, ro9, ha9, aw9, th9, fu9, hb9, i2, s2, b2, r2, ws2, ho2, pa2, dr2, st2, ro2, ha2, aw2, th2, fu2, hb2, ?_, r_mark w kept hN (by decide), by decide, 2, by decide, rfl, rfl, fun hj => ⟨(k0 (by decide)).1, (k0 (by decide)).2.choose, (k0 (by decide)).2.choose_spec.same hi (fun i h => kp kept 0 1 i (by decide) h)⟩, fun _ => ⟨rfl, n, hg _ (fun i h => kq kept 1 i h)⟩, fun hj => absurd hj (by decide)⟩
    unfold fX10_mark
    rw [hT, bd_some]
    dsimp only [un1]
    rw [if_neg (show ¬ (1 : Int32) = 0 by decide), if_pos (show (nI 1 : Int32) < 3 by decide), gd_nI _ (show 1 < 3 by decide) (by decide), if_neg (show ¬ (nI 1 : Int32) = 0 by decide), if_pos (show (nI 1 : Int32) = 1 by decide), hb9', bd_some]
    dsimp only [un15, fX10_answer]
    rw [bd_some]
    dsimp only [un2]
    rw [show (nI 1 + 1 - 1 : Int32) = nI 1 by decide, show (nI 1 + 1 : Int32) = nI 2 by decide]
  · obtain ⟨ws9, ho9, pa9, dr9, st9, ro9, ha9, aw9, th9, fu9, hb9, hb9', hg⟩ := become_ok (N := N) hi (some xi) hn ws2 ho2 pa2 dr2 st2 ro2 ha2 aw2 th2 fu2 hb2
    refine ⟨nI 2, 0, nI 3, nI 3, va_cpy w kept 0 (51 * 2) 51, i0, s0, b0, r0, ws0, ho0, pa0, dr0, st0, ro0, ha0, aw0, th0, fu0, hb0, i1, s1, b1, r1, ws1, ho1, pa1, dr1, st1, ro1, ha1, aw1, th1, fu1, hb1, xi, sx, bx, rx, ws9, ho9, pa9, dr9, st9, ro9, ha9, aw9, th9, fu9, hb9, ?_, r_mark w kept hN (by decide), by decide, 3, by decide, rfl, rfl, fun hj => ⟨(k0 (by decide)).1, (k0 (by decide)).2.choose, (k0 (by decide)).2.choose_spec.same hi (fun i h => kp kept 0 2 i (by decide) h)⟩, fun hj => ⟨(k1 (by decide)).1, (k1 (by decide)).2.choose, (k1 (by decide)).2.choose_spec.same hi (fun i h => kp kept 1 2 i (by decide) h)⟩, fun _ => ⟨rfl, n, hg _ (fun i h => kq kept 2 i h)⟩⟩
    unfold fX10_mark
    rw [hT, bd_some]
    dsimp only [un1]
    rw [if_neg (show ¬ (1 : Int32) = 0 by decide), if_pos (show (nI 2 : Int32) < 3 by decide), gd_nI _ (show 2 < 3 by decide) (by decide), if_neg (show ¬ (nI 2 : Int32) = 0 by decide), if_neg (show ¬ (nI 2 : Int32) = 1 by decide), hb9', bd_some]
    dsimp only [un15, fX10_answer]
    rw [bd_some]
    dsimp only [un2]
    rw [show (nI 2 + 1 - 1 : Int32) = nI 2 by decide, show (nI 2 + 1 : Int32) = nI 3 by decide]
  · refine ⟨-1, 3, nI 3, nI 3, kept, i0, s0, b0, r0, ws0, ho0, pa0, dr0, st0, ro0, ha0, aw0, th0, fu0, hb0, i1, s1, b1, r1, ws1, ho1, pa1, dr1, st1, ro1, ha1, aw1, th1, fu1, hb1, i2, s2, b2, r2, ws2, ho2, pa2, dr2, st2, ro2, ha2, aw2, th2, fu2, hb2, ?_, r_mark3 w kept, by decide, 3, by decide, rfl, rfl, k0, k1, k2⟩
    unfold fX10_mark
    rw [hT, bd_some]
    dsimp only [un1]
    rw [if_neg (show ¬ (1 : Int32) = 0 by decide), if_neg (show ¬ (nI 3 : Int32) < 3 by decide)]
    rfl
set_option maxHeartbeats 1600000 in
theorem q_back {N : Nat} {I n : Tb} {xi : Nat} {marked rmarks : Int32} {kept w : Nat → Int32} {sx bx rx : Int32} {wsx hox pax drx stx rox hax awx thx fux : Nat → Int32} {hbx : Nat → Int64} {i0 : Nat} {s0 b0 r0 : Int32} {ws0 ho0 pa0 dr0 st0 ro0 ha0 aw0 th0 fu0 : Nat → Int32} {hb0 : Nat → Int64} {i1 : Nat} {s1 b1 r1 : Int32} {ws1 ho1 pa1 dr1 st1 ro1 ha1 aw1 th1 fu1 : Nat → Int32} {hb1 : Nat → Int64} {i2 : Nat} {s2 b2 r2 : Int32} {ws2 ho2 pa2 dr2 st2 ro2 ha2 aw2 th2 fu2 : Nat → Int32} {hb2 : Nat → Int64} (p : Int32) (hN : 64 < N) (hi : ib I) (hn : NGT I n sx bx rx wsx hox pax drx stx rox hax awx thx fux hbx w) (h : MRK I xi marked rmarks kept i0 s0 b0 r0 ws0 ho0 pa0 dr0 st0 ro0 ha0 aw0 th0 fu0 hb0 i1 s1 b1 r1 ws1 ho1 pa1 dr1 st1 ro1 ha1 aw1 th1 fu1 hb1 i2 s2 b2 r2 ws2 ho2 pa2 dr2 st2 ro2 ha2 aw2 th2 fu2 hb2) :
    ∃ v tr sx' bx' rx' wsx' hox' pax' drx' stx' rox' hax' awx' thx' fux' hbx' w' n', fX10_back N p marked (some i0) s0 b0 sx bx r0 rx wsx ws0 ho0 hox pa0 pax dr0 drx st0 stx ro0 rox ha0 hax aw0 awx th0 thx fu0 fux hb0 hbx (some i1) s1 b1 r1 ws1 ho1 pa1 dr1 st1 ro1 ha1 aw1 th1 fu1 hb1 (some i2) s2 b2 r2 ws2 ho2 pa2 dr2 st2 ro2 ha2 aw2 th2 fu2 hb2 xi = some (v, tr, sx', bx', rx', wsx', hox', pax', drx', stx', rox', hax', awx', thx', fux', hbx', some xi) ∧ fX12_back N p rmarks kept w = some (v, 0, tr, -1, w') ∧ tr ≠ 4 ∧ NGT I n' sx' bx' rx' wsx' hox' pax' drx' stx' rox' hax' awx' thx' fux' hbx' w' := by
  obtain ⟨M, hM, rfl, rfl, k0, k1, k2⟩ := h
  have hB : fX10_isBelow N p (nI M) = some (bI (dinb p M)) := c_below N p M
  have kq : ∀ (k i : Nat), i < 51 → va_cpy kept w (51 * k) 0 51 i = kept (51 * k + i) := fun k i hi => by
    have := cpy_in (w := kept) (d := w) (b := 51 * k) (P := 0) (n := 51) hi
    rw [Nat.zero_add] at this
    exact this
  by_cases c : dinb p M = true
  · obtain ⟨j, hj, rfl⟩ := dinb_y (by omega) c
    have hcase : j = 0 ∨ j = 1 ∨ j = 2 := by omega
    rcases hcase with rfl | rfl | rfl
    · obtain ⟨rfl, n', hg'⟩ := k0 hj
      obtain ⟨ws9, ho9, pa9, dr9, st9, ro9, ha9, aw9, th9, fu9, hb9, hb9', hg⟩ := become_ok (N := N) hi (some i0) hg' wsx hox pax drx stx rox hax awx thx fux hbx
      refine ⟨1, 0, s0, b0, r0, ws9, ho9, pa9, dr9, st9, ro9, ha9, aw9, th9, fu9, hb9, va_cpy kept w (51 * 0) 0 51, n', ?_, r_back w kept hN hM hj, by decide, hg _ (fun i h => kq 0 i h)⟩
      unfold fX10_back
      rw [hB, bd_some]
      dsimp only [un1]
      rw [c, bI_t, if_neg (show ¬ (1 : Int32) = 0 by decide), gd_nI _ (show 0 < 3 by decide) (by decide), if_pos (show (nI 0 : Int32) = 0 by decide), hb9', bd_some]
      dsimp only [un15, fX10_agree]
      rw [bd_some]
      dsimp only [un2]
      rw [zg_1]
    · obtain ⟨rfl, n', hg'⟩ := k1 hj
      obtain ⟨ws9, ho9, pa9, dr9, st9, ro9, ha9, aw9, th9, fu9, hb9, hb9', hg⟩ := become_ok (N := N) hi (some i1) hg' wsx hox pax drx stx rox hax awx thx fux hbx
      refine ⟨1, 0, s1, b1, r1, ws9, ho9, pa9, dr9, st9, ro9, ha9, aw9, th9, fu9, hb9, va_cpy kept w (51 * 1) 0 51, n', ?_, r_back w kept hN hM hj, by decide, hg _ (fun i h => kq 1 i h)⟩
      unfold fX10_back
      rw [hB, bd_some]
      dsimp only [un1]
      rw [c, bI_t, if_neg (show ¬ (1 : Int32) = 0 by decide), gd_nI _ (show 1 < 3 by decide) (by decide), if_neg (show ¬ (nI 1 : Int32) = 0 by decide), if_pos (show (nI 1 : Int32) = 1 by decide), hb9', bd_some]
      dsimp only [un15, fX10_agree]
      rw [bd_some]
      dsimp only [un2]
      rw [zg_1]
    · obtain ⟨rfl, n', hg'⟩ := k2 hj
      obtain ⟨ws9, ho9, pa9, dr9, st9, ro9, ha9, aw9, th9, fu9, hb9, hb9', hg⟩ := become_ok (N := N) hi (some i2) hg' wsx hox pax drx stx rox hax awx thx fux hbx
      refine ⟨1, 0, s2, b2, r2, ws9, ho9, pa9, dr9, st9, ro9, ha9, aw9, th9, fu9, hb9, va_cpy kept w (51 * 2) 0 51, n', ?_, r_back w kept hN hM hj, by decide, hg _ (fun i h => kq 2 i h)⟩
      unfold fX10_back
      rw [hB, bd_some]
      dsimp only [un1]
      rw [c, bI_t, if_neg (show ¬ (1 : Int32) = 0 by decide), gd_nI _ (show 2 < 3 by decide) (by decide), if_neg (show ¬ (nI 2 : Int32) = 0 by decide), if_neg (show ¬ (nI 2 : Int32) = 1 by decide), hb9', bd_some]
      dsimp only [un15, fX10_agree]
      rw [bd_some]
      dsimp only [un2]
      rw [zg_1]
  · refine ⟨0, 1, sx, bx, rx, wsx, hox, pax, drx, stx, rox, hax, awx, thx, fux, hbx, w, n, ?_, r_backno w kept hM c, by decide, hn⟩
    unfold fX10_back
    rw [hB, bd_some]
    dsimp only [un1]
    rw [Bool.eq_false_iff.mpr c, bI_f, if_pos rfl]
    dsimp only [fX10_deny]
    rw [bd_some]
    dsimp only [un2]
    rw [zg_0]
