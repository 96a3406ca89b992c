/-! notes that are written -/
def NTS (I Q : Tb) (cnt : Int32) (bk so on ot : Nat → Int32) (rcnt : Int32) (rbk rso rwh rwt ris : Nat → Int32) : Prop := qb I Q ∧ cnt = nI (Q 0 0) ∧ CQ Q bk so on ot ∧ rcnt = nI (Q 0 0) ∧ RQ Q rbk rso rwh rwt ris
def nAdd (Q : Tb) (b s o t : Nat) : Tb := fun f i => if f = 0 then Q 0 0 + 1 else if i = Q 0 0 then (if f = 1 then b else if f = 2 then s else if f = 3 then o else t) else Q f i
theorem nAdd_0 {Q : Tb} {b s o t : Nat} : nAdd Q b s o t 0 0 = Q 0 0 + 1 := rfl
theorem nAdd_n {Q : Tb} {b s o t f i : Nat} (h0 : f ≠ 0) (h : i ≠ Q 0 0) : nAdd Q b s o t f i = Q f i := by
  unfold nAdd
  rw [if_neg h0, if_neg h]
theorem nAdd_s {Q : Tb} {b s o t : Nat} : nAdd Q b s o t 1 (Q 0 0) = b ∧ nAdd Q b s o t 2 (Q 0 0) = s ∧ nAdd Q b s o t 3 (Q 0 0) = o ∧ nAdd Q b s o t 4 (Q 0 0) = t := by
  unfold nAdd
  refine ⟨?_, ?_, ?_, ?_⟩ <;> simp
theorem q_write {N b s o t : Nat} {I Q : Tb} {cnt : Int32} {bk so on ot : Nat → Int32} {rcnt : Int32} {rbk rso rwh rwt ris : Nat → Int32} (is : Int32) (h : NTS I Q cnt bk so on ot rcnt rbk rso rwh rwt ris) (hb : b ≤ 1) (hs : s ≤ 3) (h1 : s ≤ 1 → o < I 0 5 ∧ 1 ≤ t ∧ t ≤ I 0 6) (h2 : s = 2 → o < I 0 2 ∧ t < I 0 0) (h3 : s = 3 → o < I 0 1 ∧ t ≤ 2) (his : is = 0 ∨ is = 1) (hi1 : s ≤ 1 → is = nI (1 - s)) :
    ∃ v tr cnt' bk' so' on' ot' rcnt' rbk' rso' rwh' rwt' ris' Q', fX10_write N (nI b) (nI s) (nI o) (nI t) cnt bk so on ot = some (v, tr, cnt', bk', so', on', ot') ∧ fX12_notesDown N (nI b) (nI (if s ≤ 1 then 0 else s - 1)) (nI o) (nI t) is rcnt rbk rso rwh rwt ris = some (v, tr, -1, rcnt', rbk', rso', rwh', rwt', ris') ∧ tr ≠ 4 ∧ NTS I Q' cnt' bk' so' on' ot' rcnt' rbk' rso' rwh' rwt' ris' := by
  have hN := h
  obtain ⟨⟨q1, q2⟩, rfl, q3, rfl, q4⟩ := h
  unfold fX10_write fX12_notesDown
  by_cases c : Q 0 0 = 20
  · refine ⟨-1, 3, nI (Q 0 0), bk, so, on, ot, nI (Q 0 0), rbk, rso, rwh, rwt, ris, Q, ?_, ?_, by decide, hN⟩
    · rw [c, if_neg (by decide)]
      rfl
    · rw [c, if_pos (show nI 20 = (20 : Int32) from rfl)]
      rfl
  · have hlt : Q 0 0 < 20 := by omega
    refine ⟨nI (Q 0 0 + 1), 0, nI (Q 0 0 + 1), upd bk (Q 0 0) (nI b), upd so (Q 0 0) (nI s), upd on (Q 0 0) (nI o), upd ot (Q 0 0) (nI t), nI (Q 0 0 + 1), upd rbk (Q 0 0) (nI b), upd rso (Q 0 0) (nI (if s ≤ 1 then 0 else s - 1)), upd rwh (Q 0 0) (nI o), upd rwt (Q 0 0) (nI t), upd ris (Q 0 0) is, nAdd Q b s o t, ?_, ?_, by decide, ⟨?_, fun i hi => ?_⟩, rfl, fun i hi => ?_, rfl, fun i hi => ?_⟩
    · have hl : nI (Q 0 0) < (20 : Int32) := (nI_ltI (b := 20) (by omega) (by decide)).mpr hlt
      unfold fX5_add
      simp (disch := omega) only [hl, gd_nI, nI_clamp, nI_1, un5, bd_some, un1, un2, un3, jn, un0, bI_t, bI_f, i1n0, if_true, if_false, fX10_refuse, fX12_refused, fX10_answer, fX12_good]
    · have hl : ¬ nI (Q 0 0) = (20 : Int32) := fun e => c ((nI_eq (by omega) (by decide)).mp (e.trans (il 20)))
      simp (disch := omega) only [hl, gd_nI, nI_clamp, nI_1, zg_in _ his, bd_some, un1, un2, un3, jn, un0, bI_t, bI_f, i1n0, if_true, if_false, fX10_refuse, fX12_refused, fX10_answer, fX12_good]
    · rw [nAdd_0]; omega
    · rw [nAdd_0] at hi
      by_cases e : i = Q 0 0
      · rw [e, nAdd_s.1, nAdd_s.2.1, nAdd_s.2.2.1, nAdd_s.2.2.2]
        exact ⟨hb, hs, h1, h2, h3⟩
      · rw [nAdd_n (by decide) e, nAdd_n (by decide) e, nAdd_n (by decide) e, nAdd_n (by decide) e]
        exact q2 i (by omega)
    · rw [nAdd_0] at hi
      by_cases e : i = Q 0 0
      · rw [e, pk_us, pk_us, pk_us, pk_us, nAdd_s.1, nAdd_s.2.1, nAdd_s.2.2.1, nAdd_s.2.2.2]
        exact ⟨rfl, rfl, rfl, rfl⟩
      · rw [pk_un e, pk_un e, pk_un e, pk_un e, nAdd_n (by decide) e, nAdd_n (by decide) e, nAdd_n (by decide) e, nAdd_n (by decide) e]
        exact q3 i (by omega)
    · rw [nAdd_0] at hi
      by_cases e : i = Q 0 0
      · rw [e, pk_us, pk_us, pk_us, pk_us, pk_us, nAdd_s.1, nAdd_s.2.1, nAdd_s.2.2.1, nAdd_s.2.2.2]
        exact ⟨rfl, rfl, rfl, rfl, hi1⟩
      · rw [pk_un e, pk_un e, pk_un e, pk_un e, pk_un e, nAdd_n (by decide) e, nAdd_n (by decide) e, nAdd_n (by decide) e, nAdd_n (by decide) e]
        exact q4 i (by omega)
theorem q_noteThing {N : Nat} {I Q : Tb} {cnt : Int32} {bk so on ot : Nat → Int32} {rcnt : Int32} {rbk rso rwh rwt ris : Nat → Int32} (p0 p1 p2 : Int32) (hi : ib I) (h : NTS I Q cnt bk so on ot rcnt rbk rso rwh rwt ris) : ∃ v tr cnt' bk' so' on' ot' rcnt' rbk' rso' rwh' rwt' ris' Q', fX10_noteThing N p0 p1 p2 (nI (I 0 2)) (nI (I 0 0)) cnt bk so on ot = some (v, tr, cnt', bk', so', on', ot') ∧ fX12_noteThing N p0 p1 p2 rcnt (nI (I 0 0)) (nI (I 0 2)) rbk rso rwh rwt ris = some (v, 0, tr, -1, rcnt', rbk', rso', rwh', rwt', ris') ∧ tr ≠ 4 ∧ NTS I Q' cnt' bk' so' on' ot' rcnt' rbk' rso' rwh' rwt' ris' := by
  have hT := hi.T
  have hR := hi.R
  unfold fX10_noteThing fX12_noteThing
  by_cases a : dinb p0 2 = true
  · by_cases b : dinb p1 (I 0 2) = true
    · by_cases c : dinb p2 (I 0 0) = true
      · obtain ⟨x, hx, rfl⟩ := dinb_y (by omega) a
        obtain ⟨y, hy, rfl⟩ := dinb_y (by omega) b
        obtain ⟨z, hz, rfl⟩ := dinb_y (by omega) c
        obtain ⟨v, tr, cnt', bk', so', on', ot', rcnt', rbk', rso', rwh', rwt', ris', Q', w1, w2, w3, w4⟩ := q_write (N := N) (b := x) (s := 2) (o := y) (t := z) 1 h (by omega) (by omega) (by omega) (fun _ => ⟨hy, hz⟩) (by omega) (Or.inr rfl) (by omega)
        have w1' : fX10_write N (nI x) 2 (nI y) (nI z) cnt bk so on ot = some (v, tr, cnt', bk', so', on', ot') := w1
        have w2' : fX12_notesDown N (nI x) 1 (nI y) (nI z) 1 rcnt rbk rso rwh rwt ris = some (v, tr, -1, rcnt', rbk', rso', rwh', rwt', ris') := w2
        refine ⟨v, tr, cnt', bk', so', on', ot', rcnt', rbk', rso', rwh', rwt', ris', Q', ?_, ?_, w3, w4⟩
        · simp only [c_isBook, c_isThing, c_isRoom, a, b, c, w1', un7, bd_some, un1, un2, un3, jn, un0, bI_t, bI_f, i1n0, if_true, if_false, fX10_refuse, fX12_refused, fX10_answer, fX12_good]
        · simp only [r_isBook, r_isThing, r_isRoom, a, b, c, w2', un9, bd_some, un1, un2, un3, jn, un0, bI_t, bI_f, i1n0, if_true, if_false, fX10_refuse, fX12_refused, fX10_answer, fX12_good]
      · refine ⟨-1, 1, cnt, bk, so, on, ot, rcnt, rbk, rso, rwh, rwt, ris, Q, ?_, ?_, by decide, h⟩
        · simp only [c_isBook, c_isThing, c_isRoom, a, b, Bool.eq_false_iff.mpr c, bd_some, un1, un2, un3, jn, un0, bI_t, bI_f, i1n0, if_true, if_false, fX10_refuse, fX12_refused, fX10_answer, fX12_good]
        · simp only [r_isBook, r_isThing, r_isRoom, a, b, Bool.eq_false_iff.mpr c, bd_some, un1, un2, un3, jn, un0, bI_t, bI_f, i1n0, if_true, if_false, fX10_refuse, fX12_refused, fX10_answer, fX12_good]
    · refine ⟨-1, 1, cnt, bk, so, on, ot, rcnt, rbk, rso, rwh, rwt, ris, Q, ?_, ?_, by decide, h⟩
      · simp only [c_isBook, c_isThing, a, Bool.eq_false_iff.mpr b, bd_some, un1, un2, un3, jn, un0, bI_t, bI_f, i1n0, if_true, if_false, fX10_refuse, fX12_refused, fX10_answer, fX12_good]
      · simp only [r_isBook, r_isThing, a, Bool.eq_false_iff.mpr b, bd_some, un1, un2, un3, jn, un0, bI_t, bI_f, i1n0, if_true, if_false, fX10_refuse, fX12_refused, fX10_answer, fX12_good]
  · refine ⟨-1, 1, cnt, bk, so, on, ot, rcnt, rbk, rso, rwh, rwt, ris, Q, ?_, ?_, by decide, h⟩
    · simp only [c_isBook, Bool.eq_false_iff.mpr a, bd_some, un1, un2, un3, jn, un0, bI_t, bI_f, i1n0, if_true, if_false, fX10_refuse, fX12_refused, fX10_answer, fX12_good]
    · simp only [r_isBook, Bool.eq_false_iff.mpr a, bd_some, un1, un2, un3, jn, un0, bI_t, bI_f, i1n0, if_true, if_false, fX10_refuse, fX12_refused, fX10_answer, fX12_good]
theorem q_noteDoor {N : Nat} {I Q : Tb} {cnt : Int32} {bk so on ot : Nat → Int32} {rcnt : Int32} {rbk rso rwh rwt ris : Nat → Int32} (p0 p1 p2 : Int32) (hi : ib I) (h : NTS I Q cnt bk so on ot rcnt rbk rso rwh rwt ris) : ∃ v tr cnt' bk' so' on' ot' rcnt' rbk' rso' rwh' rwt' ris' Q', fX10_noteDoor N p0 p1 p2 (nI (I 0 1)) cnt bk so on ot = some (v, tr, cnt', bk', so', on', ot') ∧ fX12_noteDoor N p0 p1 p2 rcnt (nI (I 0 1)) rbk rso rwh rwt ris = some (v, 0, tr, -1, rcnt', rbk', rso', rwh', rwt', ris') ∧ tr ≠ 4 ∧ NTS I Q' cnt' bk' so' on' ot' rcnt' rbk' rso' rwh' rwt' ris' := by
  have hD := hi.D
  have hin : fX12_in N p2 0 2 = some (bI (dinb p2 3)) := r_in0 (n := 2) N p2 (by omega)
  unfold fX10_noteDoor fX12_noteDoor
  by_cases a : dinb p0 2 = true
  · by_cases b : dinb p1 (I 0 1) = true
    · by_cases c : dinb p2 3 = true
      · obtain ⟨x, hx, rfl⟩ := dinb_y (by omega) a
        obtain ⟨y, hy, rfl⟩ := dinb_y (by omega) b
        obtain ⟨z, hz, rfl⟩ := dinb_y (by omega) c
        obtain ⟨v, tr, cnt', bk', so', on', ot', rcnt', rbk', rso', rwh', rwt', ris', Q', w1, w2, w3, w4⟩ := q_write (N := N) (b := x) (s := 3) (o := y) (t := z) 1 h (by omega) (by omega) (by omega) (by omega) (fun _ => ⟨hy, by omega⟩) (Or.inr rfl) (by omega)
        have w1' : fX10_write N (nI x) 3 (nI y) (nI z) cnt bk so on ot = some (v, tr, cnt', bk', so', on', ot') := w1
        have w2' : fX12_notesDown N (nI x) 2 (nI y) (nI z) 1 rcnt rbk rso rwh rwt ris = some (v, tr, -1, rcnt', rbk', rso', rwh', rwt', ris') := w2
        have z0 : ¬ nI z < 0 := fun q => (nI_lt0 (by omega)).mp q
        have z2 : nI z ≤ (2 : Int32) := (nI_leI (b := 2) (by omega) (by decide)).mpr (by omega)
        refine ⟨v, tr, cnt', bk', so', on', ot', rcnt', rbk', rso', rwh', rwt', ris', Q', ?_, ?_, w3, w4⟩
        · simp only [c_isBook, c_isDoor, a, b, z0, z2, w1', un7, bd_some, un1, un2, un3, jn, un0, bI_t, bI_f, i1n0, if_true, if_false, fX10_refuse, fX12_refused, fX10_answer, fX12_good]
        · simp only [r_isBook, r_isDoor, hin, a, b, c, w2', un9, bd_some, un1, un2, un3, jn, un0, bI_t, bI_f, i1n0, if_true, if_false, fX10_refuse, fX12_refused, fX10_answer, fX12_good]
      · refine ⟨-1, 2, cnt, bk, so, on, ot, rcnt, rbk, rso, rwh, rwt, ris, Q, ?_, ?_, by decide, h⟩
        · simp only [c_isBook, c_isDoor, a, b, bd_some, un1, un2, un3, jn, un0, bI_t, bI_f, i1n0, if_true, if_false, fX10_refuse, fX12_refused, fX10_answer, fX12_good]
          by_cases z : p2 < 0
          · rw [if_pos z]
          · rw [if_neg z, if_neg]
            intro q
            obtain ⟨j, hj, rfl⟩ := nI_of z
            have := (nI_leI (b := 2) hj (by decide)).mp q
            exact c (by rw [dinb_nI hj (by omega)]; exact decide_eq_true (by omega))
        · simp only [r_isBook, r_isDoor, hin, a, b, Bool.eq_false_iff.mpr c, bd_some, un1, un2, un3, jn, un0, bI_t, bI_f, i1n0, if_true, if_false, fX10_refuse, fX12_refused, fX10_answer, fX12_good]
    · refine ⟨-1, 1, cnt, bk, so, on, ot, rcnt, rbk, rso, rwh, rwt, ris, Q, ?_, ?_, by decide, h⟩
      · simp only [c_isBook, c_isDoor, a, Bool.eq_false_iff.mpr b, bd_some, un1, un2, un3, jn, un0, bI_t, bI_f, i1n0, if_true, if_false, fX10_refuse, fX12_refused, fX10_answer, fX12_good]
      · simp only [r_isBook, r_isDoor, a, Bool.eq_false_iff.mpr b, bd_some, un1, un2, un3, jn, un0, bI_t, bI_f, i1n0, if_true, if_false, fX10_refuse, fX12_refused, fX10_answer, fX12_good]
  · refine ⟨-1, 1, cnt, bk, so, on, ot, rcnt, rbk, rso, rwh, rwt, ris, Q, ?_, ?_, by decide, h⟩
    · simp only [c_isBook, Bool.eq_false_iff.mpr a, bd_some, un1, un2, un3, jn, un0, bI_t, bI_f, i1n0, if_true, if_false, fX10_refuse, fX12_refused, fX10_answer, fX12_good]
    · simp only [r_isBook, Bool.eq_false_iff.mpr a, bd_some, un1, un2, un3, jn, un0, bI_t, bI_f, i1n0, if_true, if_false, fX10_refuse, fX12_refused, fX10_answer, fX12_good]
theorem q_noteHeard {N : Nat} {I Q : Tb} {cnt : Int32} {bk so on ot : Nat → Int32} {rcnt : Int32} {rbk rso rwh rwt ris : Nat → Int32} (p0 p1 p2 is : Int32) (his : is = 0 ∨ is = 1) (hi : ib I) (h : NTS I Q cnt bk so on ot rcnt rbk rso rwh rwt ris) : ∃ v tr cnt' bk' so' on' ot' rcnt' rbk' rso' rwh' rwt' ris' Q', fX10_noteHeard N p0 p1 p2 is (nI (I 0 6)) (nI (I 0 5)) cnt bk so on ot = some (v, tr, cnt', bk', so', on', ot') ∧ fX12_noteHeard N p0 p1 p2 is rcnt (nI (I 0 6)) (nI (I 0 5)) rbk rso rwh rwt ris = some (v, 0, tr, -1, rcnt', rbk', rso', rwh', rwt', ris') ∧ tr ≠ 4 ∧ NTS I Q' cnt' bk' so' on' ot' rcnt' rbk' rso' rwh' rwt' ris' := by
  have hL := hi.L
  have hM := hi.M
  unfold fX10_noteHeard fX12_noteHeard
  by_cases a : dinb p0 2 = true
  · by_cases b : dinb p1 (I 0 5) = true
    · by_cases c : p2 < 0
      · have hin : fX12_in N p2 1 (nI (I 0 6)) = some 0 := by
          show (if p2 < 1 then _ else _) = _
          rw [if_pos (neg_lt1 c)]
          rfl
        refine ⟨-1, 2, cnt, bk, so, on, ot, rcnt, rbk, rso, rwh, rwt, ris, Q, ?_, ?_, by decide, h⟩
        · simp only [c_isBook, c_isListener, a, b, neg_lt1 c, bd_some, un1, un2, un3, jn, un0, bI_t, bI_f, i1n0, if_true, if_false, fX10_refuse, fX12_refused, fX10_answer, fX12_good]
        · simp only [r_isBook, r_isListener, a, b, hin, bd_some, un1, un2, un3, jn, un0, bI_t, bI_f, i1n0, if_true, if_false, fX10_refuse, fX12_refused, fX10_answer, fX12_good]
      · obtain ⟨j, hj, rfl⟩ := nI_of c
        have hin := r_in1 N (j := j) (m := I 0 6) hj (by omega)
        by_cases d : 1 ≤ j ∧ j ≤ I 0 6
        · obtain ⟨x, hx, rfl⟩ := dinb_y (by omega) a
          obtain ⟨y, hy, rfl⟩ := dinb_y (by omega) b
          have z0 : ¬ nI j < 1 := fun q => absurd ((nI_lt1 hj).mp q) (by omega)
          have z2 : nI j ≤ nI (I 0 6) := (nI_leI hj (by omega)).mpr d.2
          rcases his with rfl | rfl
          · obtain ⟨v, tr, cnt', bk', so', on', ot', rcnt', rbk', rso', rwh', rwt', ris', Q', w1, w2, w3, w4⟩ := q_write (N := N) (b := x) (s := 1) (o := y) (t := j) 0 h (by omega) (by omega) (fun _ => ⟨hy, d.1, d.2⟩) (by omega) (by omega) (Or.inl rfl) (fun _ => rfl)
            have w1' : fX10_write N (nI x) 1 (nI y) (nI j) cnt bk so on ot = some (v, tr, cnt', bk', so', on', ot') := w1
            have w2' : fX12_notesDown N (nI x) 0 (nI y) (nI j) 0 rcnt rbk rso rwh rwt ris = some (v, tr, -1, rcnt', rbk', rso', rwh', rwt', ris') := w2
            refine ⟨v, tr, cnt', bk', so', on', ot', rcnt', rbk', rso', rwh', rwt', ris', Q', ?_, ?_, w3, w4⟩
            · simp only [c_isBook, c_isListener, a, b, z0, z2, w1', un7, bd_some, un1, un2, un3, jn, un0, bI_t, bI_f, i1n0, if_true, if_false, fX10_refuse, fX12_refused, fX10_answer, fX12_good]
            · simp only [r_isBook, r_isListener, hin, a, b, decide_eq_true d, w2', un9, bd_some, un1, un2, un3, jn, un0, bI_t, bI_f, i1n0, if_true, if_false, fX10_refuse, fX12_refused, fX10_answer, fX12_good]
          · obtain ⟨v, tr, cnt', bk', so', on', ot', rcnt', rbk', rso', rwh', rwt', ris', Q', w1, w2, w3, w4⟩ := q_write (N := N) (b := x) (s := 0) (o := y) (t := j) 1 h (by omega) (by omega) (fun _ => ⟨hy, d.1, d.2⟩) (by omega) (by omega) (Or.inr rfl) (fun _ => rfl)
            have w1' : fX10_write N (nI x) 0 (nI y) (nI j) cnt bk so on ot = some (v, tr, cnt', bk', so', on', ot') := w1
            have w2' : fX12_notesDown N (nI x) 0 (nI y) (nI j) 1 rcnt rbk rso rwh rwt ris = some (v, tr, -1, rcnt', rbk', rso', rwh', rwt', ris') := w2
            refine ⟨v, tr, cnt', bk', so', on', ot', rcnt', rbk', rso', rwh', rwt', ris', Q', ?_, ?_, w3, w4⟩
            · simp only [c_isBook, c_isListener, a, b, z0, z2, w1', un7, bd_some, un1, un2, un3, jn, un0, bI_t, bI_f, i1n0, if_true, if_false, fX10_refuse, fX12_refused, fX10_answer, fX12_good]
            · simp only [r_isBook, r_isListener, hin, a, b, decide_eq_true d, w2', un9, bd_some, un1, un2, un3, jn, un0, bI_t, bI_f, i1n0, if_true, if_false, fX10_refuse, fX12_refused, fX10_answer, fX12_good]
        · refine ⟨-1, 2, cnt, bk, so, on, ot, rcnt, rbk, rso, rwh, rwt, ris, Q, ?_, ?_, by decide, h⟩
          · simp only [c_isBook, c_isListener, a, b, bd_some, un1, un2, un3, jn, un0, bI_t, bI_f, i1n0, if_true, if_false, fX10_refuse, fX12_refused, fX10_answer, fX12_good]
            by_cases z : j < 1
            · rw [if_pos ((nI_lt1 hj).mpr z)]
            · rw [if_neg (fun q => z ((nI_lt1 hj).mp q)), if_neg (fun q => absurd ((nI_leI hj (by omega)).mp q) (by omega))]
          · simp only [r_isBook, r_isListener, hin, a, b, decide_eq_false d, bd_some, un1, un2, un3, jn, un0, bI_t, bI_f, i1n0, if_true, if_false, fX10_refuse, fX12_refused, fX10_answer, fX12_good]
    · refine ⟨-1, 1, cnt, bk, so, on, ot, rcnt, rbk, rso, rwh, rwt, ris, Q, ?_, ?_, by decide, h⟩
      · simp only [c_isBook, c_isListener, a, Bool.eq_false_iff.mpr b, bd_some, un1, un2, un3, jn, un0, bI_t, bI_f, i1n0, if_true, if_false, fX10_refuse, fX12_refused, fX10_answer, fX12_good]
      · simp only [r_isBook, r_isListener, a, Bool.eq_false_iff.mpr b, bd_some, un1, un2, un3, jn, un0, bI_t, bI_f, i1n0, if_true, if_false, fX10_refuse, fX12_refused, fX10_answer, fX12_good]
  · refine ⟨-1, 1, cnt, bk, so, on, ot, rcnt, rbk, rso, rwh, rwt, ris, Q, ?_, ?_, by decide, h⟩
    · simp only [c_isBook, Bool.eq_false_iff.mpr a, bd_some, un1, un2, un3, jn, un0, bI_t, bI_f, i1n0, if_true, if_false, fX10_refuse, fX12_refused, fX10_answer, fX12_good]
    · simp only [r_isBook, Bool.eq_false_iff.mpr a, bd_some, un1, un2, un3, jn, un0, bI_t, bI_f, i1n0, if_true, if_false, fX10_refuse, fX12_refused, fX10_answer, fX12_good]
theorem q_strike {N : Nat} {I Q : Tb} {cnt : Int32} {bk so on ot : Nat → Int32} {rcnt : Int32} {rbk rso rwh rwt ris : Nat → Int32} (h : NTS I Q cnt bk so on ot rcnt rbk rso rwh rwt ris) : ∃ v tr cnt' rcnt' Q', fX10_strike N cnt = some (v, tr, cnt') ∧ fX12_strike N rcnt = some (v, 0, tr, -1, rcnt') ∧ tr ≠ 4 ∧ NTS I Q' cnt' bk so on ot rcnt' rbk rso rwh rwt ris := by
  have hN := h
  obtain ⟨⟨q1, q2⟩, rfl, q3, rfl, q4⟩ := h
  unfold fX10_strike fX12_strike
  by_cases c : Q 0 0 = 0
  · refine ⟨0, 6, nI (Q 0 0), nI (Q 0 0), Q, ?_, ?_, by decide, hN⟩
    · rw [c]
      rfl
    · rw [c]
      rfl
  · have hl : ¬ nI (Q 0 0) = (0 : Int32) := fun e => c ((nI_eq (by omega) (by decide)).mp (e.trans (il 0)))
    have es : (nI (Q 0 0) - 1 : Int32) = nI (Q 0 0 - 1) := by rw [show (1 : Int32) = nI 1 from rfl, pk_sub (by omega)]
    refine ⟨1, 0, nI (Q 0 0 - 1), nI (Q 0 0 - 1), set2 Q 0 0 (Q 0 0 - 1), ?_, ?_, by decide, ⟨?_, fun i hi => ?_⟩, by rw [set2_s], fun i hi => ?_, by rw [set2_s], fun i hi => ?_⟩
    · rw [if_neg hl, es]
      rfl
    · rw [if_neg hl, es]
      rfl
    · rw [set2_s]; omega
    · rw [set2_s] at hi
      simp only [set2_f (n := Q) (f := 0) (i := 0) (v := Q 0 0 - 1) (g := 1) (by decide), set2_f (n := Q) (f := 0) (i := 0) (v := Q 0 0 - 1) (g := 2) (by decide), set2_f (n := Q) (f := 0) (i := 0) (v := Q 0 0 - 1) (g := 3) (by decide), set2_f (n := Q) (f := 0) (i := 0) (v := Q 0 0 - 1) (g := 4) (by decide)]
      exact q2 i (by omega)
    · rw [set2_s] at hi
      simp only [set2_f (n := Q) (f := 0) (i := 0) (v := Q 0 0 - 1) (g := 1) (by decide), set2_f (n := Q) (f := 0) (i := 0) (v := Q 0 0 - 1) (g := 2) (by decide), set2_f (n := Q) (f := 0) (i := 0) (v := Q 0 0 - 1) (g := 3) (by decide), set2_f (n := Q) (f := 0) (i := 0) (v := Q 0 0 - 1) (g := 4) (by decide)]
      exact q3 i (by omega)
    · rw [set2_s] at hi
      simp only [set2_f (n := Q) (f := 0) (i := 0) (v := Q 0 0 - 1) (g := 1) (by decide), set2_f (n := Q) (f := 0) (i := 0) (v := Q 0 0 - 1) (g := 2) (by decide), set2_f (n := Q) (f := 0) (i := 0) (v := Q 0 0 - 1) (g := 3) (by decide), set2_f (n := Q) (f := 0) (i := 0) (v := Q 0 0 - 1) (g := 4) (by decide)]
      exact q4 i (by omega)
