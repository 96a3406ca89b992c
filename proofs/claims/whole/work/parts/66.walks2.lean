/-! the flow grows along what the search found -/
def flv (v : Nat) : Int := if v = 1 then 1 else if v = 2 then -1 else 0
theorem net_upd {I : Tb} {w : Nat → Nat} {d v : Nat} (hd : d < I 0 1) (z : Nat) : net I (fun e => if e = d then v else w e) z = net I w z + (flv v - flv (w d)) * ((if I 4 d = z then 1 else 0) - (if I 3 d = z then 1 else 0)) := by
  unfold net netK
  have e : (fun e => fl (fun e => if e = d then v else w e) e * ((if I 4 e = z then (1 : Int) else 0) - (if I 3 e = z then 1 else 0))) = fun k => if k = d then flv v * ((if I 4 d = z then (1 : Int) else 0) - (if I 3 d = z then 1 else 0)) else (fun d => fl w d * ((if I 4 d = z then (1 : Int) else 0) - (if I 3 d = z then 1 else 0))) k := by
    funext k
    by_cases c : k = d
    · subst c
      rw [if_pos rfl]
      show fl (fun e => if e = k then v else w e) k * _ = _
      unfold fl flv
      simp only [if_true]
    · rw [if_neg c]
      show fl (fun e => if e = d then v else w e) k * _ = fl w k * _
      unfold fl
      simp only [c, if_false]
  rw [e, fb_si_upd _ _ hd, Int.sub_mul]
  have : fl w d = flv (w d) := rfl
  rw [this]
  omega
theorem aug_ok {I : Tb} {r n : Nat} {w cm rk : Nat → Nat} {came rA rB : Nat → Int32} (hi : ib I) (hr : r < 8) (hnb : ¬ isBd I r = true) (hF : FW2 I r w n) (hS : SR I w cm rk) (HA : ∀ i, i < I 0 1 → rA i = nI (I 3 i)) (HB : ∀ i, i < I 0 1 → rB i = nI (I 4 i)) (hc : ∀ x, x < 8 → came x = cI (cm x)) :
    ∀ (k x M : Nat) (w' : Nat → Nat) (walked' : Nat → Int32), rk x ≤ k → k < M → x < 8 → cm x ≠ 0 → (∀ d, d < 10 → walked' d = nI (w' d)) → (∀ d, d < I 0 1 → w' d ≤ 2 ∧ (I 5 d = 2 → w' d = 0)) → (∀ z, z < 8 → net I w' z = net I w z + (if z = r then 1 else 0) - (if z = x then 1 else 0)) → (∀ d, (∀ z, z < 8 → rk x < rk z → cm z ≠ d + 1) → w' d = w d) →
      ∃ w2 walked2, (∀ d, d < 10 → walked2 d = nI (w2 d)) ∧ FW2 I r w2 (n + 1) ∧ lp (BX12_walksMore_245 came rB rA) M (nI x, walked') = some (1, came, walked2) := by
  have hD := hi.D
  obtain ⟨s1, s2, s3⟩ := id hS
  intro k
  induction k with
  | zero =>
    intro x M w' walked' hk hM hx hx0 hw hw2 hnet hold
    cases M with
    | zero => omega
    | succ M =>
      have h11 := (s1 x hx).1
      have hbed : cm x = 11 := by
        rcases Nat.lt_or_ge (cm x) 11 with q | q
        · obtain ⟨-, -, y, -, -, y3, -⟩ := s3 x (cm x - 1) hx (by omega) (by omega)
          omega
        · omega
      refine ⟨w', walked', hw, ⟨hw2, fun z hz hzr hzb => ?_, ?_⟩, ?_⟩
      · have e := hnet z hz
        have hzx : z ≠ x := fun q => by rw [q] at hzb; rw [(s2 x hx).mpr hbed] at hzb; cases hzb
        rw [hF.2.1 z hz hzr hzb, if_neg hzr, if_neg hzx] at e
        omega
      · have e := hnet r hr
        have hrx : r ≠ x := fun q => hnb (by rw [q]; exact (s2 x hx).mpr hbed)
        rw [hF.2.2, if_pos rfl, if_neg hrx] at e
        rw [e]
        omega
      · show BX12_walksMore_245 _ _ _ _ _ = _
        simp (disch := omega) only [BX12_walksMore_245, un2, gd_nI, nI_clamp, hc x hx]
        rw [if_pos ((cI_10 (by omega)).mpr hbed)]
  | succ k ih =>
    intro x M w' walked' hk hM hx hx0 hw hw2 hnet hold
    cases M with
    | zero => omega
    | succ M =>
      have h11 := (s1 x hx).1
      by_cases hbed : cm x = 11
      · refine ⟨w', walked', hw, ⟨hw2, fun z hz hzr hzb => ?_, ?_⟩, ?_⟩
        · have e := hnet z hz
          have hzx : z ≠ x := fun q => by rw [q] at hzb; rw [(s2 x hx).mpr hbed] at hzb; cases hzb
          rw [hF.2.1 z hz hzr hzb, if_neg hzr, if_neg hzx] at e
          omega
        · have e := hnet r hr
          have hrx : r ≠ x := fun q => hnb (by rw [q]; exact (s2 x hx).mpr hbed)
          rw [hF.2.2, if_pos rfl, if_neg hrx] at e
          rw [e]
          omega
        · show BX12_walksMore_245 _ _ _ _ _ = _
          simp (disch := omega) only [BX12_walksMore_245, un2, gd_nI, nI_clamp, hc x hx]
          rw [if_pos ((cI_10 (by omega)).mpr hbed)]
      · obtain ⟨d, hd1⟩ : ∃ d, cm x = d + 1 := ⟨cm x - 1, by omega⟩
        obtain ⟨hd, hl, y, y1, y2, y3, y4⟩ := s3 x d hx hd1 (by omega)
        have hne := (hi.door hd).2.2.1
        have ho := ib_o8 hi d hd
        have hwd : w' d = w d := hold d fun z hz hzr e => by
          obtain ⟨-, -, y', -, -, y3', y4'⟩ := s3 z d hz e (by omega)
          have hzx : z ≠ x := fun q => by rw [q] at hzr; omega
          have hzy : z = y := by omega
          rw [hzy] at hzr
          omega
        have hwl := hw2 d hd
        have hcx : came x = nI d := by rw [hc x hx, hd1]; rfl
        -- the new value
        have main : ∀ (v : Nat), v ≤ 2 → (∀ z, z < 8 → (flv v - flv (w' d)) * ((if I 4 d = z then 1 else 0) - (if I 3 d = z then 1 else 0)) = (if z = x then (1 : Int) else 0) - (if z = y then 1 else 0)) → BX12_walksMore_245 came rB rA (lp (BX12_walksMore_245 came rB rA) M) (nI x, walked') = lp (BX12_walksMore_245 came rB rA) M (nI y, upd walked' d (nI v)) → ∃ w2 walked2, (∀ d, d < 10 → walked2 d = nI (w2 d)) ∧ FW2 I r w2 (n + 1) ∧ lp (BX12_walksMore_245 came rB rA) (M + 1) (nI x, walked') = some (1, came, walked2) := by
          intro v hv hdelta hstep
          obtain ⟨w2, walked2, a1, a2, a3⟩ := ih y M (fun e => if e = d then v else w' e) (upd walked' d (nI v)) (by omega) (by omega) y1 y2 (fun e he => by
            by_cases c : e = d
            · rw [c, pk_us, if_pos rfl]
            · rw [pk_un c, if_neg c]; exact hw e he) (fun e he => by
            by_cases c : e = d
            · subst c
              simp only [if_true]
              exact ⟨hv, fun q => absurd q hl⟩
            · simp only [c, if_false]
              exact hw2 e he) (fun z hz => by
            rw [net_upd hd, hnet z hz, hdelta z hz]
            omega) (fun e he => by
            have hed : e ≠ d := fun q => he x hx y3 (by rw [q]; exact hd1)
            simp only [hed, if_false]
            exact hold e fun z hz hzr => he z hz (by omega))
          exact ⟨w2, walked2, a1, a2, by show BX12_walksMore_245 _ _ _ _ _ = _; rw [hstep]; exact a3⟩
        have stp : ∀ rec, BX12_walksMore_245 came rB rA rec (nI x, walked') = if nI (I 4 d) = nI x then (if nI (w' d) = 0 then rec (nI (I 3 d), upd walked' d 1) else rec (nI (I 3 d), upd walked' d 0)) else (if nI (w' d) = 0 then rec (nI (I 4 d), upd walked' d 2) else rec (nI (I 4 d), upd walked' d 0)) := by
          intro rec
          simp (disch := omega) only [BX12_walksMore_245, un2, un1, jn, gd_nI, nI_clamp, hcx, HB d hd, HA d hd, hw d (show d < 10 by omega), i10, if_true, if_false]
          rw [if_neg (show ¬ nI d = 10 from fun e => absurd ((nI_eq (by omega) (by omega)).mp (e.trans (il 10))) (by omega))]
        rcases y4 with ⟨q1, q2, q3⟩ | ⟨q1, q2, q3⟩
        · have hv3 : w' d = 0 ∨ w' d = 2 := by omega
          rcases hv3 with e0 | e0
          · refine main 1 (by omega) (fun z hz => ?_) ?_
            · rw [e0, q1, q2]
              show ((1 : Int) - 0) * _ = _
              simp only [eq_comm (a := x), eq_comm (a := y)]
              omega
            · rw [stp, if_pos (by rw [q1]), e0, if_pos (show nI 0 = 0 from rfl), q2]
              rfl
          · refine main 0 (by omega) (fun z hz => ?_) ?_
            · rw [e0, q1, q2]
              show ((0 : Int) - -1) * _ = _
              simp only [eq_comm (a := x), eq_comm (a := y)]
              omega
            · rw [stp, if_pos (by rw [q1]), e0, if_neg (show ¬ nI 2 = 0 by decide), q2]
              rfl
        · have hv3 : w' d = 0 ∨ w' d = 1 := by omega
          have hnx : ¬ nI (I 4 d) = nI x := fun e => by
            have := (nI_eq (by omega) (by omega)).mp e
            omega
          rcases hv3 with e0 | e0
          · refine main 2 (by omega) (fun z hz => ?_) ?_
            · rw [e0, q1, q2]
              show ((-1 : Int) - 0) * _ = _
              simp only [eq_comm (a := x), eq_comm (a := y)]
              omega
            · rw [stp, if_neg hnx, e0, if_pos (show nI 0 = 0 from rfl), q2]
              rfl
          · refine main 0 (by omega) (fun z hz => ?_) ?_
            · rw [e0, q1, q2]
              show ((0 : Int) - 1) * _ = _
              simp only [eq_comm (a := x), eq_comm (a := y)]
              omega
            · rw [stp, if_neg hnx, e0, if_neg (show ¬ nI 1 = 0 by decide), q2]
              rfl
def cmB (I : Tb) (x : Nat) : Nat := if isBd I x = true then 11 else 0
theorem SR_0 {I : Tb} (w : Nat → Nat) : SR I w (cmB I) (fun _ => 0) := by
  refine ⟨fun x hx => ⟨by unfold cmB; split <;> omega, ?_⟩, fun x hx => ?_, fun x d hx hc hd => ?_⟩
  · show 0 + zc (cmB I) ≤ 8
    have := cnb_le (p := fun x => decide (cmB I x = 0)) 8
    unfold zc
    omega
  · unfold cmB
    by_cases c : isBd I x = true
    · rw [if_pos c]; exact ⟨fun _ => rfl, fun _ => c⟩
    · rw [if_neg c]; exact ⟨fun e => absurd e c, fun e => absurd e (by omega)⟩
  · unfold cmB at hc
    split at hc <;> omega
theorem walksMore_ok {N r n : Nat} {I : Tb} {w : Nat → Nat} {came walked rA rB how bed : Nat → Int32} (hN : 64 < N) (hi : ib I) (hr : r < I 0 0) (hnb : ¬ isBd I r = true) (hF : FW2 I r w n) (hW : ∀ d, d < 10 → walked d = nI (w d)) (HA : ∀ i, i < I 0 1 → rA i = nI (I 3 i)) (HB : ∀ i, i < I 0 1 → rB i = nI (I 4 i)) (hh : ∀ i, i < I 0 1 → how i = nI (I 5 i)) (hb : ∀ i, i < I 0 4 → bed i = nI (I 14 i)) :
    (∃ came', fX12_walksMore N (nI r) (nI (I 0 1)) (nI (I 0 4)) came rB walked rA how bed = some (0, came', walked) ∧ n = pop (cls I r (2 ^ I 0 1))) ∨
    (∃ came' w2 walked2, (∀ d, d < 10 → walked2 d = nI (w2 d)) ∧ FW2 I r w2 (n + 1) ∧ fX12_walksMore N (nI r) (nI (I 0 1)) (nI (I 0 4)) came rB walked rA how bed = some (1, came', walked2)) := by
  have hR := hi.R
  have hS := hi.S
  have a0 : ∀ K : (Nat → Int32) → Option (Int32 × (Nat → Int32) × (Nat → Int32)), lp (BX12_walksMore_2 K) N (0, came) = K (fa_fill (fun _ => -1) came 8) := by
    intro K
    refine lp_for (fun j => (nI j, fa_fill (fun _ => -1) came j)) 8 N (by omega) (fun j hj rec => ?_) (fun rec => ?_)
    · have h1 : ¬ 8 ≤ j := by omega
      have u := fa_fill_succ (fun _ => (-1 : Int32)) came j
      have e8 : ¬ (8 : Int32) ≤ nI j := fun e => h1 ((nI_leI (a := 8) (by omega) (by omega)).mp e)
      simp (disch := omega) only [BX12_walksMore_2, un2, e8, if_false, gd_nI, nI_clamp, nI_1, u]
    · have e8 : (8 : Int32) ≤ nI 8 := (nI_leI (a := 8) (by omega) (by omega)).mpr (Nat.le_refl _)
      simp (disch := omega) only [BX12_walksMore_2, un2, e8, if_true]
  obtain ⟨came1, hc1, e1⟩ := lp_goK (B := BX12_walksMore_23 (nI (I 0 4)) bed) (N := N) (s := (0, fa_fill (fun _ => -1) came 8)) (fun j s => ∃ came', s = (nI j, came') ∧ ∀ x, x < 8 → came' x = if fa_first (fun s => decide (I 14 s = x)) j < j then 10 else -1) (fun came' => ∀ x, x < 8 → came' x = cI (cmB I x)) (I 0 4) (by omega) ⟨_, rfl, fun x hx => by rw [if_neg (Nat.not_lt_zero _), fa_fill_in hx]⟩ (fun j hj s hs => by
    obtain ⟨came', rfl, hc⟩ := hs
    have h3 : ¬ I 0 4 ≤ j := by omega
    have h14 := (hi.sleeper hj).1
    refine ⟨(nI (j + 1), upd came' (I 14 j) 10), fun K rec => ?_, _, rfl, fun x hx => ?_⟩
    · simp (disch := omega) only [BX12_walksMore_23, un2, nI_leI, h3, if_false, gd_nI, nI_clamp, hb j hj, nI_1]
    · have hfs := first_succ (p := fun s => decide (I 14 s = x)) (j := j)
      by_cases c : x = I 14 j
      · rw [c, pk_us, if_pos (by rw [c] at hfs; exact hfs.mpr (Or.inr (decide_eq_true rfl)))]
      · rw [pk_un c, hc x hx]
        by_cases c2 : fa_first (fun s => decide (I 14 s = x)) j < j
        · rw [if_pos c2, if_pos (hfs.mpr (Or.inl c2))]
        · rw [if_neg c2, if_neg (fun q => by rcases hfs.mp q with z | z; exact c2 z; exact c (of_decide_eq_true z).symm)]) (fun s hs => by
    obtain ⟨came', rfl, hc⟩ := hs
    refine ⟨came', fun K rec => ?_, fun x hx => ?_⟩
    · simp (disch := omega) only [BX12_walksMore_23, un2, nI_leI, Nat.le_refl, if_true]
    · rw [hc x hx]
      unfold cmB isBd
      by_cases c : fa_first (fun s => decide (I 14 s = x)) (I 0 4) < I 0 4
      · rw [if_pos c, if_pos (decide_eq_true c)]; rfl
      · rw [if_neg c, if_neg (fun q => c (of_decide_eq_true q))]; rfl)
  obtain ⟨came2, cm2, hc2, ⟨rk, hS2⟩, hend, e2⟩ := sweeps_ok (N := N) (r := r) hN hi hr hW (fun d hd => (hF.1 d hd).1) HA HB hh 8 (cmB I) came1 N (cnb_le 8) (by omega) hc1 ⟨_, SR_0 w⟩
  unfold fX12_walksMore
  rw [a0]
  dsimp only [un1]
  rw [e1]
  dsimp only [un1]
  rw [e2]
  dsimp only [un1]
  have h11 := (hS2.1 r (by omega)).1
  rw [gd_nI _ (show r < 8 by omega) (by omega), nI_clamp (by omega), hc2 r (by omega)]
  by_cases c0 : cm2 r = 0
  · rw [if_pos ((cI_m1 (by omega)).mpr c0)]
    refine Or.inl ⟨came2, rfl, ?_⟩
    have hcl : ∀ d, d < I 0 1 → I 5 d ≠ 2 → wskip I w cm2 d 1 ∧ wskip I w cm2 d 2 := by
      rcases hend with q | q
      · exact absurd c0 q
      · exact q
    refine flow_end hi hr hF c0 (fun x hx hbx => by rw [(hS2.2.1 x hx).mp hbx]; omega) (fun d hd hl => ?_)
    obtain ⟨k1, k2⟩ := hcl d hd hl
    refine ⟨fun p1 p2 => ?_, fun p1 p2 => ?_⟩
    · rcases k1 with z | z | z
      · exact absurd z p1
      · exact absurd p2 z
      · exact z
    · rcases k2 with z | z | z
      · exact absurd z p1
      · exact absurd p2 z
      · exact z
  · rw [if_neg (fun e => c0 ((cI_m1 (by omega)).mp e))]
    have hrk := (hS2.1 r (by omega)).2
    obtain ⟨w2, walked2, b1, b2, b3⟩ := aug_ok hi (by omega) hnb hF hS2 HA HB hc2 (rk r) r N w walked (Nat.le_refl _) (by omega) (by omega) c0 hW hF.1 (fun z hz => by omega) (fun d _ => rfl)
    exact Or.inr ⟨came2, w2, walked2, b1, b2, b3⟩
