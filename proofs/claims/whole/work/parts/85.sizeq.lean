/-! size -/
theorem q_size {N : Nat} (p : Int32) (taped marks notes minutes rooms doors things dreams sleepers listeners been setting : Int32) (w : Nat → Int32) (h1 : w 49 = been) (h2 : w 50 = setting) : ∃ v, fX10_size N p marks taped setting been notes minutes things dreams sleepers listeners rooms doors = some v ∧ fX12_size N p taped marks notes w minutes rooms doors things dreams sleepers listeners = some (v, 0) := by
  have hin : fX12_in N p 0 10 = some (bI (dinb p 11)) := r_in0 (n := 10) N p (by omega)
  have g49 : ∀ K : Option (Int32 × Int32), gd 49 51 K = K := fun K => gd_nI (k := 49) K (by omega) (by omega)
  have g50 : ∀ K : Option (Int32 × Int32), gd 50 51 K = K := fun K => gd_nI (k := 50) K (by omega) (by omega)
  have c49 : w (Int32.toNatClampNeg 49) = been := h1
  have c50 : w (Int32.toNatClampNeg 50) = setting := h2
  unfold fX10_size fX12_size
  rw [hin, bd_some]
  dsimp only [un1]
  rw [g49, g50, c49, c50]
  by_cases d : dinb p 11 = true
  · obtain ⟨k, hk, rfl⟩ := dinb_y (by omega) d
    rw [d]
    have : k = 0 ∨ k = 1 ∨ k = 2 ∨ k = 3 ∨ k = 4 ∨ k = 5 ∨ k = 6 ∨ k = 7 ∨ k = 8 ∨ k = 9 ∨ k = 10 := by omega
    rcases this with rfl | rfl | rfl | rfl | rfl | rfl | rfl | rfl | rfl | rfl | rfl
    all_goals exact ⟨_, rfl, rfl⟩
  · have hn : ∀ k : Nat, k < 11 → p ≠ nI k := fun k hk e => d (by rw [e, dinb_nI (by omega) (by omega)]; exact decide_eq_true hk)
    rw [Bool.eq_false_iff.mpr d]
    by_cases e : p = 11
    · subst e
      exact ⟨_, rfl, rfl⟩
    · refine ⟨-1, ?_, ?_⟩
      · rw [if_neg (show ¬ p = (0 : Int32) from hn 0 (by omega)), if_neg (show ¬ p = (1 : Int32) from hn 1 (by omega)), if_neg (show ¬ p = (2 : Int32) from hn 2 (by omega)), if_neg (show ¬ p = (3 : Int32) from hn 3 (by omega)), if_neg (show ¬ p = (4 : Int32) from hn 4 (by omega)), if_neg (show ¬ p = (5 : Int32) from hn 5 (by omega)), if_neg (show ¬ p = (6 : Int32) from hn 6 (by omega)), if_neg (show ¬ p = (7 : Int32) from hn 7 (by omega)), if_neg (show ¬ p = (8 : Int32) from hn 8 (by omega)), if_neg (show ¬ p = (9 : Int32) from hn 9 (by omega)), if_neg (show ¬ p = (10 : Int32) from hn 10 (by omega)), if_neg e]
      · rw [if_neg e]
        rfl
theorem q_size0 {N : Nat} (p taped : Int32) : ∃ v, fX10_size N p 0 taped 0 0 0 0 0 0 0 0 0 0 = some v ∧ fX12_size0 N p taped = some (v, 0) := by
  have hin : fX12_in N p 0 10 = some (bI (dinb p 11)) := r_in0 (n := 10) N p (by omega)
  unfold fX10_size fX12_size0
  rw [hin, bd_some]
  dsimp only [un1]
  by_cases d : dinb p 11 = true
  · obtain ⟨k, hk, rfl⟩ := dinb_y (by omega) d
    rw [d]
    have : k = 0 ∨ k = 1 ∨ k = 2 ∨ k = 3 ∨ k = 4 ∨ k = 5 ∨ k = 6 ∨ k = 7 ∨ k = 8 ∨ k = 9 ∨ k = 10 := by omega
    rcases this with rfl | rfl | rfl | rfl | rfl | rfl | rfl | rfl | rfl | rfl | rfl
    all_goals exact ⟨_, rfl, rfl⟩
  · have hn : ∀ k : Nat, k < 11 → p ≠ nI k := fun k hk e => d (by rw [e, dinb_nI (by omega) (by omega)]; exact decide_eq_true hk)
    rw [Bool.eq_false_iff.mpr d]
    by_cases e : p = 11
    · subst e
      exact ⟨_, rfl, rfl⟩
    · refine ⟨-1, ?_, ?_⟩
      · rw [if_neg (show ¬ p = (0 : Int32) from hn 0 (by omega)), if_neg (show ¬ p = (1 : Int32) from hn 1 (by omega)), if_neg (show ¬ p = (2 : Int32) from hn 2 (by omega)), if_neg (show ¬ p = (3 : Int32) from hn 3 (by omega)), if_neg (show ¬ p = (4 : Int32) from hn 4 (by omega)), if_neg (show ¬ p = (5 : Int32) from hn 5 (by omega)), if_neg (show ¬ p = (6 : Int32) from hn 6 (by omega)), if_neg (show ¬ p = (7 : Int32) from hn 7 (by omega)), if_neg (show ¬ p = (8 : Int32) from hn 8 (by omega)), if_neg (show ¬ p = (9 : Int32) from hn 9 (by omega)), if_neg (show ¬ p = (10 : Int32) from hn 10 (by omega)), if_neg e]
      · rw [if_neg e]
        rfl
/-! feed -/
theorem by_shr : ∀ (p : Int32) {k : Nat}, k ≤ 24 → ((p.toUInt32 >>> ((nI k).toUInt32 &&& Int32.toUInt32 31)).toInt32).toInt8 = (p >>> (nI k &&& 31)).toInt8 := by
  intro p k hk
  have hb : ∀ (x : Int32) i, i < 8 → x.toInt8.toBitVec.getLsbD i = x.toBitVec.getLsbD i := fun x i hi => by
    rw [Int32.toBitVec_toInt8, BitVec.getLsbD_signExtend]
    simp [hi, show i < 32 by omega]
  apply Int8.toBitVec_inj.mp
  apply BitVec.eq_of_getLsbD_eq
  intro i hi
  rw [hb _ i hi, hb _ i hi]
  have e1 : (p >>> (nI k &&& 31)).toBitVec.getLsbD i = p.toBitVec.getLsbD (k + i) := by
    show (p.toBitVec.sshiftRight ((nI k &&& 31).toBitVec.smod 32).toNat).getLsbD i = _
    rw [s_l k (by omega), BitVec.getLsbD_sshiftRight]
    simp [show k + i < 32 by omega, show ¬ 32 ≤ i by omega]
  have e2 : ((p.toUInt32 >>> ((nI k).toUInt32 &&& Int32.toUInt32 31)).toInt32).toBitVec.getLsbD i = p.toBitVec.getLsbD (k + i) := by
    have hs : ∀ k, k < 32 → (((nI k).toUInt32 &&& Int32.toUInt32 31).toBitVec % 32).toNat = k := by decide +kernel
    show (p.toBitVec >>> (((nI k).toUInt32 &&& Int32.toUInt32 31).toBitVec % 32)).getLsbD i = _
    rw [BitVec.ushiftRight_eq', hs k (by omega), BitVec.getLsbD_ushiftRight]
  rw [e1, e2]
