/-! feed: twenty bytes -/
def fd (P : Nat → Int32) (j : Nat) : Int32 := (P (j / 4) >>> (nI (24 - 8 * (j % 4)) &&& 31)).toInt8.toInt32
def tt (b : Nat → Int32) (L : Nat) (P : Nat → Int32) : Nat → Nat → Int32
  | 0 => b
  | j + 1 => upd (tt b L P j) (L + j) (fd P j)
theorem tt_by {b : Nat → Int32} {L : Nat} {P : Nat → Int32} (h : ∀ i, isBy (b i)) : ∀ j i, isBy (tt b L P j i)
  | 0, i => h i
  | j + 1, i => by
    show isBy (upd (tt b L P j) (L + j) (fd P j) i)
    by_cases c : i = L + j
    · rw [c, pk_us]
      unfold fd isBy
      rw [← vp_nar_byte, pk_vb]
    · rw [pk_un c]
      exact tt_by h j i
def shf (j : Nat) : Int32 := if j < 4 then nI (24 - 8 * j) else -8
theorem shf_s : ∀ j, j < 4 → shf j + (-8) = shf (j + 1) := by decide
theorem append_ok {N L k : Nat} {b P : Nat → Int32} (hN : 64 < N) (hk : k < 5) (hL : L + 20 ≤ 900) : fX7_append N (P k) (nI (L + 4 * k)) (tt b L P (4 * k)) = some (nI (L + 4 * (k + 1)), tt b L P (4 * (k + 1))) := by
  unfold fX7_append
  have h := lp_for (B := BX7_append_3 (P k)) (r := some (nI (L + 4 * (k + 1)), tt b L P (4 * (k + 1)))) (fun j => (shf j, nI (L + 4 * k + j), tt b L P (4 * k + j))) 4 N (by omega) (fun j hj rec => ?_) (fun rec => ?_)
  · exact h
  · have e0 : shf j = nI (24 - 8 * j) := if_pos hj
    have l0 : ¬ shf j < 0 := by
      rw [e0]
      exact fun q => (nI_lt0 (by omega)).mp q
    have l1 : ¬ (900 : Int32) ≤ nI (L + 4 * k + j) := fun q => absurd ((nI_leI (a := 900) (by decide) (by omega)).mp q) (by omega)
    have ev : vp_nar .byte (((P k).toUInt32 >>> ((shf j).toUInt32 &&& Int32.toUInt32 31)).toInt32.toInt8.toInt32) = fd P (4 * k + j) := by
      rw [pk_vb, e0, by_shr (P k) (k := 24 - 8 * j) (by omega)]
      unfold fd
      rw [show (4 * k + j) / 4 = k by omega, show (4 * k + j) % 4 = j by omega]
    simp (disch := omega) only [BX7_append_3, un3, l0, l1, if_false, gd_nI, nI_clamp, shf_s j hj, nI_1, ev]
    rw [show L + 4 * k + j = L + (4 * k + j) by omega, show L + 4 * k + (j + 1) = L + (4 * k + j) + 1 by omega]
    rfl
  · have l0 : shf 4 < 0 := by decide
    simp only [BX7_append_3, un3, l0, if_true]
    rfl
theorem q_feed {N L : Nat} {b : Nat → Int32} (p0 p1 p2 p3 p4 : Int32) (hN : 64 < N) (hL : L ≤ 900) (hb : ∀ i, isBy (b i)) : ∃ v L' b', fX10_feed N p0 p1 p2 p3 p4 (nI L) b = some (v, nI L', b') ∧ fX12_feed N p0 p1 p2 p3 p4 (nI L) b = some (v, 0, nI L', b') ∧ L' ≤ 900 ∧ ∀ i, isBy (b' i) := by
  have e20 : (nI L + 20 : Int32) = nI (L + 20) := nI_add L 20
  unfold fX10_feed fX12_feed
  rw [e20]
  by_cases c : L + 20 ≤ 900
  · have hc : nI (L + 20) ≤ (900 : Int32) := (nI_leI (b := 900) (by omega) (by decide)).mpr c
    have a := fun (P : Nat → Int32) k (hk : k < 5) => append_ok (N := N) (L := L) (k := k) (b := b) (P := P) hN hk c
    obtain ⟨P, h0, h1, h2, h3, h4⟩ : ∃ P : Nat → Int32, P 0 = p0 ∧ P 1 = p1 ∧ P 2 = p2 ∧ P 3 = p3 ∧ P 4 = p4 := ⟨fun k => if k = 0 then p0 else if k = 1 then p1 else if k = 2 then p2 else if k = 3 then p3 else p4, rfl, rfl, rfl, rfl, rfl⟩
    subst h0 h1 h2 h3 h4
    have a0 : fX7_append N (P 0) (nI L) b = some (nI (L + 4), tt b L P 4) := a P 0 (by omega)
    have a1 : fX7_append N (P 1) (nI (L + 4)) (tt b L P 4) = some (nI (L + 8), tt b L P 8) := a P 1 (by omega)
    have a2 : fX7_append N (P 2) (nI (L + 8)) (tt b L P 8) = some (nI (L + 12), tt b L P 12) := a P 2 (by omega)
    have a3 : fX7_append N (P 3) (nI (L + 12)) (tt b L P 12) = some (nI (L + 16), tt b L P 16) := a P 3 (by omega)
    have a4 : fX7_append N (P 4) (nI (L + 16)) (tt b L P 16) = some (nI (L + 20), tt b L P 20) := a P 4 (by omega)
    refine ⟨nI (L + 20), L + 20, tt b L P 20, ?_, ?_, c, tt_by hb 20⟩
    · simp only [hc, if_true, a0, a1, a2, a3, a4, bd_some, un2]
    · rw [if_pos hc]
      refine lp_for (B := BX12_feed_23 (P 4) (P 3) (P 2) (P 1) (P 0)) (fun j => (nI j, nI (L + j), tt b L P j)) 20 N (by omega) (fun j hj rec => ?_) (fun rec => ?_)
      · have l1 : ¬ (20 : Int32) ≤ nI j := fun q => absurd ((nI_leI (a := 20) (by decide) (by omega)).mp q) (by omega)
        have ed : (nI j / 4 : Int32) = nI (j / 4) := by rw [show (4 : Int32) = nI 4 from rfl, pk_div (by omega) (by omega) (by omega)]
        have es : (24 - 8 * (nI j - nI (j / 4) * 4) : Int32) = nI (24 - 8 * (j % 4)) := by
          rw [show (4 : Int32) = nI 4 from rfl, pk_mul, pk_sub (by omega), show (8 : Int32) = nI 8 from rfl, pk_mul, show (24 : Int32) = nI 24 from rfl, pk_sub (by omega)]
          congr 1
          omega
        have ev : ∀ x, vp_nar .byte ((x >>> (nI (24 - 8 * (j % 4)) &&& 31)).toInt8.toInt32) = (x >>> (nI (24 - 8 * (j % 4)) &&& 31)).toInt8.toInt32 := fun x => pk_vb _
        have q4 : ((4 : Int32) ≤ nI j) ↔ 4 ≤ j := nI_leI (a := 4) (by decide) (by omega)
        have q8 : ((8 : Int32) ≤ nI j) ↔ 8 ≤ j := nI_leI (a := 8) (by decide) (by omega)
        have q12 : ((12 : Int32) ≤ nI j) ↔ 12 ≤ j := nI_leI (a := 12) (by decide) (by omega)
        have q16 : ((16 : Int32) ≤ nI j) ↔ 16 ≤ j := nI_leI (a := 16) (by decide) (by omega)
        simp (disch := omega) only [BX12_feed_23, un3, l1, if_false, jn, un1, ed, es, ev, gd_nI, nI_clamp, nI_1, q4, q8, q12, q16]
        show _ = rec (nI (j + 1), nI (L + (j + 1)), upd (tt b L P j) (L + j) (P (j / 4) >>> (nI (24 - 8 * (j % 4)) &&& 31)).toInt8.toInt32)
        by_cases z4 : 4 ≤ j
        · rw [if_pos z4]
          by_cases z8 : 8 ≤ j
          · rw [if_pos z8]
            by_cases z12 : 12 ≤ j
            · rw [if_pos z12]
              by_cases z16 : 16 ≤ j
              · rw [if_pos z16, show j / 4 = 4 by omega]
                rfl
              · rw [if_neg z16, show j / 4 = 3 by omega]
                rfl
            · rw [if_neg z12, show j / 4 = 2 by omega]
              rfl
          · rw [if_neg z8, show j / 4 = 1 by omega]
            rfl
        · rw [if_neg z4, show j / 4 = 0 by omega]
          rfl
      · have l1 : (20 : Int32) ≤ nI 20 := (nI_leI (a := 20) (by decide) (by decide)).mpr (Nat.le_refl _)
        simp only [BX12_feed_23, un3, l1, if_true]
  · have hc : ¬ nI (L + 20) ≤ (900 : Int32) := fun q => c ((nI_leI (b := 900) (by omega) (by decide)).mp q)
    exact ⟨-1, L, b, if_neg hc, if_neg hc, hL, hb⟩
