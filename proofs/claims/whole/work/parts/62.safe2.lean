/-! the fewest locks: the class's choice and the reference's are one -/
def cls (I : Tb) (r : Nat) : Nat → Nat
  | 0 => 2 ^ I 0 1 - 1
  | m + 1 => if pop m < pop (cls I r m) ∧ cutb I r m = true then m else cls I r m
def isBd (I : Tb) (r : Nat) : Bool := decide (fa_first (fun s => decide (I 14 s = r)) (I 0 4) < I 0 4)
theorem isBd_iff {I : Tb} {r : Nat} : isBd I r = true ↔ ∃ s, s < I 0 4 ∧ I 14 s = r := by
  unfold isBd
  rw [decide_eq_true_iff]
  constructor
  · intro h
    exact ⟨_, h, of_decide_eq_true (fa_first_yes _ _ h)⟩
  · intro ⟨s, h1, h2⟩
    have := first_lt (p := fun s => decide (I 14 s = r)) h1 (decide_eq_true h2)
    omega
theorem pw_le {I : Tb} (hi : ib I) : 2 ^ I 0 1 ≤ 1024 := by
  have h : 2 ^ I 0 1 ≤ 2 ^ 10 := Nat.pow_le_pow_right (by decide) hi.D
  exact h
theorem cls_lt {I : Tb} (hi : ib I) (r : Nat) : ∀ m, m ≤ 2 ^ I 0 1 → cls I r m < 2 ^ I 0 1
  | 0, _ => by
    have := Nat.two_pow_pos (I 0 1)
    show 2 ^ I 0 1 - 1 < _
    omega
  | m + 1, hm => by
    have ih := cls_lt hi r m (by omega)
    unfold cls
    split
    · omega
    · exact ih
theorem lks0 {I : Tb} {d : Nat} : lks I 0 d = decide (I 5 d = 2) := by
  unfold lks hnf
  rw [if_neg (by omega), if_neg (by omega)]
theorem leastLocks_ok {N r : Nat} {I : Tb} {how one other bed : Nat → Int32} (hN : 2000 < N) (hi : ib I) (hr : r < I 0 0) (hh : ∀ i, i < I 0 1 → how i = nI (I 5 i)) (H1 : ∀ i, i < I 0 1 → one i = nI (I 3 i)) (H2 : ∀ i, i < I 0 1 → other i = nI (I 4 i)) (hb : ∀ i, i < I 0 4 → bed i = nI (I 14 i)) :
    fX2_leastLocks N (nI r) (nI (I 0 4)) (nI (I 0 0)) (nI (I 0 1)) how one other bed = some (if isBd I r = true then -2 else nI (cls I r (2 ^ I 0 1))) := by
  have hD := hi.D
  have hR := hi.R
  have hS := hi.S
  have hpw := pw_le hi
  have hp0 := Nat.two_pow_pos (I 0 1)
  unfold fX2_leastLocks
  have a0 : ∀ K : Int32 → Option Int32, lp (BX2_leastLocks_4 (nI (I 0 4)) bed K) N (0, 0) = K (nI (bdm I (I 0 4))) := by
    intro K
    refine lp_for (fun j => (nI (bdm I j), nI j)) (I 0 4) N (by omega) (fun j hj rec => ?_) (fun rec => ?_)
    · have h3 : ¬ I 0 4 ≤ j := by omega
      have hj14 := (hi.sleeper hj).1
      simp (disch := omega) only [BX2_leastLocks_4, un2, nI_leI, h3, if_false, gd_nI, nI_clamp, hb j hj, nI_1]
      rw [show (1 : Int32) <<< (nI (I 14 j) &&& 31) = nI (2 ^ I 14 j) from one_shl (by omega), fa_or]
      rfl
    · simp (disch := omega) only [BX2_leastLocks_4, un2, nI_leI, Nat.le_refl, if_true]
  rw [a0]
  dsimp only [un1]
  have hbl := bdm_lt hi (I 0 4) (Nat.le_refl _)
  have hbb : (bdm I (I 0 4)).testBit r = true ↔ isBd I r = true := (bdm_bit _).trans isBd_iff.symm
  rw [bitSet_ok (by omega) (by omega), bd_some]
  dsimp only [un1]
  by_cases cb : isBd I r = true
  · rw [if_pos (hbb.mpr cb), if_neg (show ¬ (1 : Int32) = 0 by decide), if_pos cb]
  · rw [if_neg (fun q => cb (hbb.mp q)), if_pos (show (0 : Int32) = 0 from rfl), if_neg cb, show (0 : Int32) = nI 0 from rfl, lockedAt_ok (by omega) hi (by omega) hh, bd_some]
    dsimp only [un1]
    have hml := mk31 (p := lks I 0) hD
    have hmk := mk_lt (p := lks I 0) (I 0 1)
    rw [show (1 : Int32) <<< (nI (I 0 1) &&& 31) = nI (2 ^ I 0 1) from one_shl (by omega), show (1 : Int32) = nI 1 from rfl, pk_sub (by omega)]
    refine lp_for (fun m => (nI (cls I r m), nI m)) (2 ^ I 0 1) N (by omega) (fun m hm rec => ?_) (fun rec => ?_)
    · have h3 : ¬ 2 ^ I 0 1 ≤ m := by omega
      have hc := cls_lt hi r m (by omega)
      have p1 := pop_le m
      have p2 := pop_le (cls I r m)
      have hor : mk (lks I 0) (I 0 1) ||| m < 2 ^ 31 := Nat.lt_of_lt_of_le (Nat.or_lt_two_pow hmk hm) (Nat.le_trans hpw (by decide))
      show _ = rec (nI (if pop m < pop (cls I r m) ∧ cutb I r m = true then m else cls I r m), nI (m + 1))
      simp (disch := omega) only [BX2_leastLocks_63, un2]
      rw [show (1 : Int32) <<< (nI (I 0 1) &&& 31) = nI (2 ^ I 0 1) from one_shl (by omega)]
      simp (disch := omega) only [nI_leI, h3, if_false, bitCount_ok, bd_some, un1, jn, fa_or, reachedFrom_ok (N := N) (m := bdm I (I 0 4)) (show 64 < N by omega) hi hor H1 H2, nI_1]
      have hrl : rchR I (fun d => (mk (lks I 0) (I 0 1) ||| m).testBit d) (bdm I (I 0 4)) (I 0 0) = rchR I (lkm I m) (bdm I (I 0 4)) (I 0 0) := rfl
      have hrb : ∀ k, rchR I (lkm I m) (bdm I (I 0 4)) k < 2 ^ 31 := by
        have h1 : ∀ q d, d < I 0 1 → q < 2 ^ 8 → rch1 I (lkm I m) q d < 2 ^ 8 := fun q d hd hq => by
          unfold rch1
          split
          · exact Nat.or_lt_two_pow hq (eds_lt hi hd)
          · exact hq
        have h2 : ∀ q k, k ≤ I 0 1 → q < 2 ^ 8 → rchD I (lkm I m) q k < 2 ^ 8 := by
          intro q k hk hq
          induction k with
          | zero => exact hq
          | succ k ih => exact h1 _ k (by omega) (ih (by omega))
        have h4 : ∀ k, rchR I (lkm I m) (bdm I (I 0 4)) k < 2 ^ 8 := by
          intro k
          induction k with
          | zero => exact hbl
          | succ k ih => exact h2 _ _ (Nat.le_refl _) ih
        intro k
        have := h4 k
        omega
      rw [hrl, bitSet_ok (hrb _) (by omega), bd_some]
      dsimp only [un1]
      have hcut := reach_cut hi (m := m) hr
      by_cases c1 : pop m < pop (cls I r m)
      · rw [if_neg (show ¬ pop (cls I r m) ≤ pop m by omega)]
        by_cases c2 : cutb I r m = true
        · rw [if_neg (fun q => hcut.mp q c2), if_pos (show (0 : Int32) = 0 from rfl), if_pos ⟨c1, c2⟩]
        · rw [if_pos (hcut.mpr c2), if_neg (show ¬ (1 : Int32) = 0 by decide), if_neg (fun q => c2 q.2)]
      · rw [if_pos (show pop (cls I r m) ≤ pop m by omega), if_neg (fun q => c1 q.1)]
    · simp (disch := omega) only [BX2_leastLocks_63, un2]
      rw [show (1 : Int32) <<< (nI (I 0 1) &&& 31) = nI (2 ^ I 0 1) from one_shl (by omega)]
      simp (disch := omega) only [nI_leI, Nat.le_refl, if_true]
/-! the reference's -/
def qcut (I : Tb) (r m : Nat) : Bool := decide (m &&& mk (lks I 0) (I 0 1) = 0) && cutb I r m
theorem r_isBed_ok {N r : Nat} {I : Tb} {bed : Nat → Int32} (hN : 64 < N) (hi : ib I) (hr : r < 8) (hb : ∀ i, i < I 0 4 → bed i = nI (I 14 i)) : fX12_isBed N (nI r) (nI (I 0 4)) bed = some (if isBd I r = true then 1 else 0) := by
  have hS := hi.S
  have hR := hi.R
  unfold fX12_isBed
  have key := lp_find (B := BX12_isBed_2 (nI (I 0 4)) bed (nI r)) (p := fun s => decide (I 14 s = r)) (D := I 0 4) (N := N) (e := some 0) (f := fun i => some 1) (by omega) (fun i hi2 rec => ?_) (fun rec => ?_)
  · refine Eq.trans key ?_
    unfold isBd
    by_cases c : fa_first (fun s => decide (I 14 s = r)) (I 0 4) < I 0 4
    · rw [if_pos c, if_pos (decide_eq_true c)]
    · rw [if_neg c, if_neg (fun q => c (of_decide_eq_true q))]
  · have h3 : ¬ I 0 4 ≤ i := by omega
    have h5 := (hi.sleeper hi2).1
    simp (disch := omega) only [BX12_isBed_2, un1, nI_leI, h3, if_false, gd_nI, nI_clamp, hb i hi2, nI_eq, nI_1]
    by_cases c : I 14 i = r
    · rw [if_pos c, if_pos (decide_eq_true c)]
    · rw [if_neg c, if_neg (fun q => c (of_decide_eq_true q))]
  · simp (disch := omega) only [BX12_isBed_2, un1, nI_leI, Nat.le_refl, if_true]
theorem toldLocked_ok {N : Nat} {I : Tb} {how : Nat → Int32} (hN : 64 < N) (hi : ib I) (hh : ∀ i, i < I 0 1 → how i = nI (I 5 i)) : fX12_toldLocked N (nI (I 0 1)) how = some (nI (mk (lks I 0) (I 0 1))) := by
  have hD := hi.D
  unfold fX12_toldLocked
  refine lp_for (fun j => (nI (mk (lks I 0) j), nI j)) (I 0 1) N (by omega) (fun j hj rec => ?_) (fun rec => ?_)
  · have h3 : ¬ I 0 1 ≤ j := by omega
    have hle := (hi.door hj).2.2.2.1
    show _ = rec (nI (if lks I 0 j = true then mk (lks I 0) j ||| 2 ^ j else mk (lks I 0) j), nI (j + 1))
    rw [lks0]
    simp (disch := omega) only [BX12_toldLocked_4, un2, nI_leI, h3, if_false, gd_nI, nI_clamp, hh j hj, jn, nI_1]
    by_cases c : I 5 j = 2
    · rw [c, if_pos (show nI 2 = 2 from rfl), if_pos (show decide (2 = 2) = true from rfl), show (1 : Int32) <<< (nI j &&& 31) = nI (2 ^ j) from one_shl (by omega), fa_or]
    · rw [if_neg (show ¬ nI (I 5 j) = 2 from fun e => c ((nI_eq (by omega) (by omega)).mp (e.trans (il 2)))), if_neg (fun q => c (of_decide_eq_true q)), show (0 : Int32) = nI 0 from rfl, fa_or, Nat.or_zero]
  · simp (disch := omega) only [BX12_toldLocked_4, un2, nI_leI, Nat.le_refl, if_true]
theorem safe_all {N r m : Nat} {I : Tb} {bed fr : Nat → Int32} (hN : 64 < N) (hi : ib I) (hb : ∀ i, i < I 0 4 → bed i = nI (I 14 i)) (hf : ∀ x, x < I 0 0 → fr x = nI (ds I (lkm I m) r x)) (hr : r < I 0 0) (K : Int32 → Option (Int32 × (Nat → Int32))) : lp (BX12_safest_77 (nI (I 0 4)) bed fr K) N (1, 0) = K (if cutb I r m = true then 1 else 0) := by
  have hS := hi.S
  have hR := hi.R
  have h := lp_for (B := BX12_safest_77 (nI (I 0 4)) bed fr K) (fun j => ((if fa_first (fun s => decide (ds I (lkm I m) r (I 14 s) ≠ 99)) j < j then (0 : Int32) else 1), nI j)) (r := K (if fa_first (fun s => decide (ds I (lkm I m) r (I 14 s) ≠ 99)) (I 0 4) < I 0 4 then (0 : Int32) else 1)) (I 0 4) N (by omega) (fun j hj rec => ?_) (fun rec => ?_)
  · refine Eq.trans h (congrArg K ?_)
    by_cases c : fa_first (fun s => decide (ds I (lkm I m) r (I 14 s) ≠ 99)) (I 0 4) < I 0 4
    · have hy := of_decide_eq_true (fa_first_yes _ _ c)
      rw [if_pos c, if_neg (fun q => by
        have q' : ∀ s, s < I 0 4 → ds I (lkm I m) r (I 14 s) = 99 := of_decide_eq_true q
        exact hy (q' _ c))]
    · rw [if_neg c, if_pos]
      refine decide_eq_true fun s hs => ?_
      have hle := fa_first_le (fun s => decide (ds I (lkm I m) r (I 14 s) ≠ 99)) (I 0 4)
      have hn := fa_first_no (fun s => decide (ds I (lkm I m) r (I 14 s) ≠ 99)) (I 0 4) s (by omega)
      simpa using hn
  · have h3 : ¬ I 0 4 ≤ j := by omega
    have hj14 := (hi.sleeper hj).1
    have hle := ds_le hi (lkm I m) hr hj14
    have hfs := first_succ (p := fun s => decide (ds I (lkm I m) r (I 14 s) ≠ 99)) (j := j)
    simp (disch := omega) only [BX12_safest_77, un2, un1, un0, jn, nI_leI, h3, if_false, gd_nI, nI_clamp, hb j hj, hf _ hj14, nI_1]
    by_cases c : fa_first (fun s => decide (ds I (lkm I m) r (I 14 s) ≠ 99)) j < j
    · rw [if_pos c, if_pos (show (0 : Int32) = 0 from rfl), if_pos (hfs.mpr (Or.inl c))]
    · rw [if_neg c, if_neg (show ¬ (1 : Int32) = 0 by decide)]
      by_cases c2 : ds I (lkm I m) r (I 14 j) = 99
      · rw [if_pos (show nI (ds I (lkm I m) r (I 14 j)) = 99 by rw [c2]; rfl), if_neg (fun q => by rcases hfs.mp q with z | z; exact c z; exact absurd (of_decide_eq_true z) (fun y => y c2))]
      · rw [if_neg (show ¬ nI (ds I (lkm I m) r (I 14 j)) = 99 from fun e => c2 ((nI_eq (by omega) (by omega)).mp (e.trans (il 99)))), if_pos (hfs.mpr (Or.inr (decide_eq_true c2)))]
  · simp (disch := omega) only [BX12_safest_77, un2, nI_leI, Nat.le_refl, if_true]
theorem safest_ok {N r : Nat} {I : Tb} {how rA rB bed : Nat → Int32} (hN : 2000 < N) (hi : ib I) (hr : r < I 0 0) (hh : ∀ i, i < I 0 1 → how i = nI (I 5 i)) (H1 : ∀ i, i < I 0 1 → rA i = nI (I 3 i)) (H2 : ∀ i, i < I 0 1 → rB i = nI (I 4 i)) (hb : ∀ i, i < I 0 4 → bed i = nI (I 14 i)) (fr : Nat → Int32) :
    ∃ fr', fX12_safest N (nI r) (nI (I 0 0)) (nI (I 0 1)) (nI (I 0 4)) bed how rA fr rB = some (if isBd I r = true then -2 else oI (bst (qcut I r) pop (2 ^ I 0 1)), fr') := by
  have hD := hi.D
  have hR := hi.R
  have hS := hi.S
  have hpw := pw_le hi
  have hmk := mk_lt (p := lks I 0) (I 0 1)
  unfold fX12_safest
  rw [r_isBed_ok (by omega) hi (by omega) hb, bd_some]
  dsimp only [un1]
  by_cases cb : isBd I r = true
  · rw [if_pos cb, if_neg (show ¬ (1 : Int32) = 0 by decide), if_pos cb]
    exact ⟨fr, rfl⟩
  · rw [if_neg cb, if_pos (show (0 : Int32) = 0 from rfl), if_neg cb, toldLocked_ok (by omega) hi hh, bd_some]
    dsimp only [un1]
    refine lp_go (X := fun o => ∃ fr', o = some (oI (bst (qcut I r) pop (2 ^ I 0 1)), fr')) (fun m q => ∃ fr', q = (oI (bst (qcut I r) pop m), nI m, fr')) (2 ^ I 0 1) (by omega) ⟨fr, rfl⟩ (fun m hm q hq => ?_) (fun q hq rec => ?_)
    · obtain ⟨fr1, rfl⟩ := hq
      have h3 : ¬ 2 ^ I 0 1 ≤ m := by omega
      have hbo := bst_ok (c := qcut I r) (F := pop) m
      have hor : m ||| mk (lks I 0) (I 0 1) < 2 ^ 31 := Nat.lt_of_lt_of_le (Nat.or_lt_two_pow hm hmk) (Nat.le_trans hpw (by decide))
      have hme := measures_ok (N := N) (D := I 0 1) (R := I 0 0) (a := r) (o := I 3) (t := I 4) (lk := lkm I m) (p1 := nI (m ||| mk (lks I 0) (I 0 1))) (by omega) hD hR hr H1 H2 (fun k hk => ⟨(hi.door hk).1, (hi.door hk).2.1⟩) (fun k hk => by
        rw [has_ok hor (by omega)]
        unfold lkm
        rw [Nat.or_comm]) fr1
      have hfr : ∀ x, x < I 0 0 → lf (bfsL (I 0 1) (I 3) (I 4) (lkm I m) (I 0 0) (fun x => if x = r then 0 else 99)) fr1 x = nI (ds I (lkm I m) r x) := fun x hx => by
        rw [lf_at (by omega), ds_bfs hi _ hr hx]
      generalize lf (bfsL (I 0 1) (I 3) (I 4) (lkm I m) (I 0 0) (fun x => if x = r then 0 else 99)) fr1 = fr2 at hfr hme
      have p1 := pop_le m
      have hx : bst (qcut I r) pop (m + 1) = if qcut I r m = true then (match bst (qcut I r) pop m with
        | none => some m
        | some j => if pop m < pop j then some m else some j) else bst (qcut I r) pop m := rfl
      have step : ∀ fr', (∀ rec, BX12_safest_21 (nI (I 0 1)) (nI (mk (lks I 0) (I 0 1))) N (nI r) (nI (I 0 0)) rA rB (nI (I 0 4)) bed rec (oI (bst (qcut I r) pop m), nI m, fr1) = rec (oI (bst (qcut I r) pop (m + 1)), nI (m + 1), fr')) → ∃ s', (∀ rec, BX12_safest_21 (nI (I 0 1)) (nI (mk (lks I 0) (I 0 1))) N (nI r) (nI (I 0 0)) rA rB (nI (I 0 4)) bed rec (oI (bst (qcut I r) pop m), nI m, fr1) = rec s') ∧ ∃ fr', s' = (oI (bst (qcut I r) pop (m + 1)), nI (m + 1), fr') := fun fr' hq => ⟨_, hq, fr', rfl⟩
      have pre : ∀ rec, BX12_safest_21 (nI (I 0 1)) (nI (mk (lks I 0) (I 0 1))) N (nI r) (nI (I 0 0)) rA rB (nI (I 0 4)) bed rec (oI (bst (qcut I r) pop m), nI m, fr1) = if m &&& mk (lks I 0) (I 0 1) = 0 then (if oI (bst (qcut I r) pop m) = (-1) then rec (if cutb I r m = true then nI m else oI (bst (qcut I r) pop m), nI (m + 1), fr2) else ((fX12_bits N (oI (bst (qcut I r) pop m))).bind (un1 fun r_53 => if nI (pop m) < r_53 then rec (if cutb I r m = true then nI m else oI (bst (qcut I r) pop m), nI (m + 1), fr2) else rec (oI (bst (qcut I r) pop m), nI (m + 1), fr1)))) else rec (oI (bst (qcut I r) pop m), nI (m + 1), fr1) := by
        intro rec
        have hlt : m &&& mk (lks I 0) (I 0 1) < 2 ^ 31 := by
          have := Nat.and_le_left (n := m) (m := mk (lks I 0) (I 0 1))
          omega
        have inner : (fX12_measures N (nI r) (nI (m ||| mk (lks I 0) (I 0 1))) (nI (I 0 0)) (nI (I 0 1)) rA fr1 rB).bind (un1 fun (v_from_68 : Nat → Int32) => lp (BX12_safest_77 (nI (I 0 4)) bed v_from_68 (un1 fun (x127_5 : Int32) => if x127_5 = 0 then (rec (oI (bst (qcut I r) pop m), nI m + 1, v_from_68)) else (rec (nI m, nI m + 1, v_from_68)))) N (1, 0)) = rec (if cutb I r m = true then nI m else oI (bst (qcut I r) pop m), nI (m + 1), fr2) := by
          rw [hme, bd_some]
          dsimp only [un1]
          rw [safe_all (by omega) hi hb hfr hr, nI_1]
          dsimp only [un1]
          by_cases c2 : cutb I r m = true
          · rw [if_pos c2, if_neg (show ¬ (1 : Int32) = 0 by decide), if_pos c2]
          · rw [if_neg c2, if_pos (show (0 : Int32) = 0 from rfl), if_neg c2]
        simp only [BX12_safest_21, un3, jn, un0, un2]
        rw [show (1 : Int32) <<< (nI (I 0 1) &&& 31) = nI (2 ^ I 0 1) from one_shl (by omega), if_neg (show ¬ nI (2 ^ I 0 1) ≤ nI m from fun e => h3 ((nI_leI (by omega) (by omega)).mp e)), fa_and, fa_or, inner, bits_ok (by omega) (by omega), bd_some]
        dsimp only [un1]
        rw [nI_1]
        by_cases c0 : m &&& mk (lks I 0) (I 0 1) = 0
        · rw [if_pos c0, if_pos (show nI (m &&& mk (lks I 0) (I 0 1)) = 0 by rw [c0]; rfl)]
        · rw [if_neg c0, if_neg (show ¬ nI (m &&& mk (lks I 0) (I 0 1)) = 0 from fun e => c0 ((nI_eq hlt (by decide)).mp (e.trans (il 0))))]
      by_cases c0 : m &&& mk (lks I 0) (I 0 1) = 0
      · have hq : qcut I r m = cutb I r m := by unfold qcut; rw [decide_eq_true c0, Bool.true_and]
        rw [hq] at hx
        have hcs : bst (qcut I r) pop m = none ∨ ∃ j, bst (qcut I r) pop m = some j := by
          cases bst (qcut I r) pop m with
          | none => exact Or.inl rfl
          | some j => exact Or.inr ⟨j, rfl⟩
        rcases hcs with hb2 | ⟨j, hb2⟩
        · refine step fr2 fun rec => ?_
          rw [pre rec, if_pos c0, hb2, if_pos (show oI none = -1 from rfl), hx, hb2]
          by_cases c2 : cutb I r m = true
          · rw [if_pos c2, if_pos c2]; rfl
          · rw [if_neg c2, if_neg c2]
        · rw [hb2] at hbo
          have hj : j < m := hbo.1
          have p2 := pop_le j
          by_cases c3 : pop m < pop j
          · refine step fr2 fun rec => ?_
            rw [pre rec, if_pos c0, hb2, if_neg (show ¬ oI (some j) = -1 from fun e => (nI_neg1 (k := j) (by omega)).mp e), show oI (some j) = nI j from rfl, bits_ok (by omega) (by omega), bd_some]
            dsimp only [un1]
            rw [if_pos (show nI (pop m) < nI (pop j) from (nI_ltI (by omega) (by omega)).mpr c3), hx, hb2]
            by_cases c2 : cutb I r m = true
            · rw [if_pos c2, if_pos c2]
              dsimp only
              rw [if_pos c3]
              rfl
            · rw [if_neg c2, if_neg c2]
              rfl
          · refine step fr1 fun rec => ?_
            rw [pre rec, if_pos c0, hb2, if_neg (show ¬ oI (some j) = -1 from fun e => (nI_neg1 (k := j) (by omega)).mp e), show oI (some j) = nI j from rfl, bits_ok (by omega) (by omega), bd_some]
            dsimp only [un1]
            rw [if_neg (show ¬ nI (pop m) < nI (pop j) from fun e => c3 ((nI_ltI (by omega) (by omega)).mp e)), hx, hb2]
            dsimp only
            rw [if_neg c3, ite_self]
            rfl
      · have hq : qcut I r m = false := by unfold qcut; rw [decide_eq_false c0, Bool.false_and]
        refine step fr1 fun rec => ?_
        rw [pre rec, if_neg c0, hx, hq, if_neg (by decide)]
    · obtain ⟨fr1, rfl⟩ := hq
      refine ⟨fr1, ?_⟩
      simp only [BX12_safest_21, un3]
      rw [show (1 : Int32) <<< (nI (I 0 1) &&& 31) = nI (2 ^ I 0 1) from one_shl (by omega), if_pos (show nI (2 ^ I 0 1) ≤ nI (2 ^ I 0 1) from (nI_leI (by omega) (by omega)).mpr (Nat.le_refl _))]
