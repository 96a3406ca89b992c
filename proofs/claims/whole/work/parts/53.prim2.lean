/-! steps of both readers: each goes on, or both end with one fault at one place -/
def FT (f : Int32) : Prop := ∃ q, f = nI q ∧ 1 ≤ q ∧ q ≤ 6
theorem FT1 : FT 1 := ⟨1, rfl, by omega, by omega⟩
theorem FT2 : FT 2 := ⟨2, rfl, by omega, by omega⟩
theorem FT3 : FT 3 := ⟨3, rfl, by omega, by omega⟩
theorem FT4 : FT 4 := ⟨4, rfl, by omega, by omega⟩
theorem FT5 : FT 5 := ⟨5, rfl, by omega, by omega⟩
theorem FT6 : FT 6 := ⟨6, rfl, by omega, by omega⟩
theorem TK.pl {n p : Nat} {c : CTok} {r : RTok} (h : TK n p c r) : r.2.2.1 = nI p := h.2.2.1
theorem wpass_ok {N n p k : Nat} {b : Nat → Int32} {c : CTok} {r : RTok} (hX : TX N n b) (h : TK n p c r) (hk : k < 24) (cf fl wa : Int32) :
    (∃ p' c' r', p < p' ∧ TK n p' c' r' ∧ fX6_pass N k cf (nI n) c.1 c.2.1 c.2.2.1 c.2.2.2.1 c.2.2.2.2.1 c.2.2.2.2.2 b = some (1, cf, c') ∧ fX12_needs N k (nI n) r.1 r.2.1 r.2.2.1 r.2.2.2.1 r.2.2.2.2.1 fl wa r.2.2.2.2.2 b = some (r'.1, r'.2.1, r'.2.2.1, r'.2.2.2.1, r'.2.2.2.2.1, fl, wa, r'.2.2.2.2.2)) ∨
    (fX6_pass N k cf (nI n) c.1 c.2.1 c.2.2.1 c.2.2.2.1 c.2.2.2.2.1 c.2.2.2.2.2 b = some (0, 1, c) ∧ fX12_needs N k (nI n) r.1 r.2.1 r.2.2.1 r.2.2.2.1 r.2.2.2.2.1 fl wa r.2.2.2.2.2 b = some (r.1, 5, r.2.2.1, r.2.2.2.1, r.2.2.2.2.1, 1, nI p, r.2.2.2.2.2)) := by
  have hs := h.rs
  unfold fX6_pass fX12_needs
  rw [isAt_ok, isWord_ok hX h hk, bd_some, bd_some]
  dsimp only [un1]
  by_cases cw : isW c k = true
  · obtain ⟨p', c', r', h1, h2, h3, h4⟩ := h.adv hX (isW_kind cw).1 (isW_kind cw).2
    refine Or.inl ⟨p', c', r', h1, h2, ?_, ?_⟩
    · rw [if_pos cw, if_neg (show ¬ (1 : Int32) = 0 by decide), h3, bd_some]
      rfl
    · rw [if_pos cw, if_neg (show ¬ (1 : Int32) = 0 by decide), h4, bd_some]
      rfl
  · refine Or.inr ⟨?_, ?_⟩
    · rw [if_neg cw, if_pos (show (0 : Int32) = 0 from rfl)]
      rfl
    · rw [if_neg cw, if_pos (show (0 : Int32) = 0 from rfl), wrong_ok hs, bd_some]
      dsimp only [un3]
      rw [ov_goesOn, bd_some, h.pl]
      rfl
theorem passIf_ok {N n p k : Nat} {b : Nat → Int32} {c : CTok} {r : RTok} (hX : TX N n b) (h : TK n p c r) (hk : k < 24) :
    ∃ (x : Nat) (p' : Nat) (c' : CTok) (r' : RTok), x ≤ 1 ∧ p ≤ p' ∧ TK n p' c' r' ∧ fX6_passIf N k (nI n) c.1 c.2.1 c.2.2.1 c.2.2.2.1 c.2.2.2.2.1 c.2.2.2.2.2 b = some (nI x, c') ∧ fX12_eatsWord N k (nI n) r.1 r.2.1 r.2.2.1 r.2.2.2.1 r.2.2.2.2.1 r.2.2.2.2.2 b = some (nI x, r') ∧ (x = 1 ↔ isW c k = true) ∧ (x = 0 → c' = c ∧ r' = r ∧ p' = p) := by
  unfold fX6_passIf fX12_eatsWord
  rw [isAt_ok, isWord_ok hX h hk, bd_some, bd_some]
  dsimp only [un1]
  by_cases cw : isW c k = true
  · obtain ⟨p', c', r', h1, h2, h3, h4⟩ := h.adv hX (isW_kind cw).1 (isW_kind cw).2
    refine ⟨1, p', c', r', by omega, by omega, h2, ?_, ?_, ⟨fun _ => cw, fun _ => rfl⟩, fun e => absurd e (by omega)⟩
    · rw [if_pos cw, if_neg (show ¬ (1 : Int32) = 0 by decide), h3, bd_some]
      dsimp only [un6]
      rw [zg1]
      rfl
    · rw [if_pos cw, if_neg (show ¬ (1 : Int32) = 0 by decide), h4, bd_some]
      dsimp only [un6]
      rw [zg1]
      rfl
  · refine ⟨0, p, c, r, by omega, by omega, h, ?_, ?_, ⟨fun e => absurd e (by omega), fun e => absurd e cw⟩, fun _ => ⟨rfl, rfl, rfl⟩⟩
    · rw [if_neg cw, if_pos (show (0 : Int32) = 0 from rfl), zg0]
      rfl
    · rw [if_neg cw, if_pos (show (0 : Int32) = 0 from rfl), zg0]
      rfl
theorem passComma_ok {N n p : Nat} {b : Nat → Int32} {c : CTok} {r : RTok} (hX : TX N n b) (h : TK n p c r) (cf fl wa : Int32) :
    (∃ p' c' r', p < p' ∧ TK n p' c' r' ∧ fX6_passComma N cf (nI n) c.1 c.2.1 c.2.2.1 c.2.2.2.1 c.2.2.2.2.1 c.2.2.2.2.2 b = some (1, cf, c') ∧ fX12_needsSign N 44 (nI n) r.1 r.2.1 r.2.2.1 r.2.2.2.1 r.2.2.2.2.1 fl wa r.2.2.2.2.2 b = some (r'.1, r'.2.1, r'.2.2.1, r'.2.2.2.1, r'.2.2.2.2.1, fl, wa, r'.2.2.2.2.2)) ∨
    (fX6_passComma N cf (nI n) c.1 c.2.1 c.2.2.1 c.2.2.2.1 c.2.2.2.2.1 c.2.2.2.2.2 b = some (0, 1, c) ∧ fX12_needsSign N 44 (nI n) r.1 r.2.1 r.2.2.1 r.2.2.2.1 r.2.2.2.2.1 fl wa r.2.2.2.2.2 b = some (r.1, 5, r.2.2.1, r.2.2.2.1, r.2.2.2.2.1, 1, nI p, r.2.2.2.2.2)) := by
  have hs := h.rs
  have hsg : (c.2.2.1 = 4 ∧ r.2.1 = 4 ∧ r.2.2.2.1 = 44) ∨ (¬ c.2.2.1 = 4 ∧ ¬ (r.2.1 = 4 ∧ r.2.2.2.1 = 44)) := by
    have h' := h.2.2.2
    rcases h' with h | h | ⟨a, -, -, -, -, h | h | h | h⟩
    · exact Or.inr ⟨by rw [h.1]; decide, by rw [h.2.1]; exact fun q => absurd q.1 (by decide)⟩
    · exact Or.inr ⟨by rw [h.1]; decide, by rw [h.2.1]; exact fun q => absurd q.1 (by decide)⟩
    · exact Or.inr ⟨by rw [h.1]; decide, by rw [h.2.1]; exact fun q => absurd q.1 (by decide)⟩
    · exact Or.inr ⟨by rw [h.1]; decide, by rw [h.2.1]; exact fun q => absurd q.1 (by decide)⟩
    · exact Or.inr ⟨by rw [h.1]; decide, by rw [h.2.2.2]; exact fun q => absurd q.2 (by decide)⟩
    · exact Or.inl ⟨h.1, h.2.1, h.2.2.2⟩
  unfold fX6_passComma fX12_needsSign
  dsimp only [jn, un0]
  rcases hsg with ⟨k1, k2, k3⟩ | ⟨k1, k2⟩
  · obtain ⟨p', c', r', h1, h2, h3, h4⟩ := h.adv hX (by rw [k1]; decide) (by rw [k1]; decide)
    refine Or.inl ⟨p', c', r', h1, h2, ?_, ?_⟩
    · rw [if_pos k1, h3, bd_some]
      rfl
    · rw [if_pos k2, if_pos k3, h4, bd_some]
      rfl
  · refine Or.inr ⟨?_, ?_⟩
    · rw [if_neg k1]
      rfl
    · have hw : (fX12_wrong N 1 r.2.1 r.2.2.1 fl wa).bind (un3 fun v_sort_18 v_fault_18 v_wrongAt_18 => (fX12_goesOn N (nI n) r.1 v_sort_18 r.2.2.1 r.2.2.2.1 r.2.2.2.2.1 r.2.2.2.2.2 b).bind (un6 fun v_at_22 v_sort_22 v_place_22 v_sign_22 v_number_22 v_word_22 => some (v_at_22, v_sort_22, v_place_22, v_sign_22, v_number_22, v_fault_18, v_wrongAt_18, v_word_22))) = some (r.1, 5, r.2.2.1, r.2.2.2.1, r.2.2.2.2.1, 1, nI p, r.2.2.2.2.2) := by
        rw [wrong_ok hs, bd_some]
        dsimp only [un3]
        rw [ov_goesOn, bd_some, h.pl]
        rfl
      by_cases q : r.2.1 = 4
      · rw [if_pos q, if_neg (fun e => k2 ⟨q, e⟩)]
        exact hw
      · rw [if_neg q]
        exact hw
theorem TK.v {n p : Nat} {c : CTok} {r : RTok} (h : TK n p c r) : (c.2.2.1 = 2 ∧ r.2.1 = 3 ∧ ∃ v, v < 1000 ∧ c.2.2.2.2.2 = nI v ∧ r.2.2.2.2.1 = nI v) ∨ (¬ c.2.2.1 = 2 ∧ ¬ r.2.1 = 3) := by
  obtain ⟨-, -, -, h⟩ := h
  rcases h with h | h | ⟨a, -, -, -, -, h | h | h | h⟩
  · exact Or.inr ⟨by rw [h.1]; decide, by rw [h.2.1]; decide⟩
  · exact Or.inr ⟨by rw [h.1]; decide, by rw [h.2.1]; decide⟩
  · exact Or.inr ⟨by rw [h.1]; decide, by rw [h.2.1]; decide⟩
  · exact Or.inl ⟨h.1, h.2.1, h.2.2.2⟩
  · exact Or.inr ⟨by rw [h.1]; decide, by rw [h.2.1]; decide⟩
  · exact Or.inr ⟨by rw [h.1]; decide, by rw [h.2.1]; decide⟩
theorem look_ok {N n p lo hi : Nat} {lo' hi' : Int32} {b : Nat → Int32} {c : CTok} {r : RTok} (h : TK n p c r) (hl : lo' = nI lo) (hh : hi' = nI hi) (hlo : lo < 1000) (hhi : hi < 1000) (cf nu fl wa : Int32) :
    (∃ v, lo ≤ v ∧ v ≤ hi ∧ c.2.2.1 = 2 ∧ fX6_lookAtWhole N lo' hi' cf nu c.2.2.1 c.2.2.2.2.2 = some (1, cf, nI v) ∧ fX12_whole N lo' hi' r.2.1 r.2.2.1 r.2.2.2.2.1 fl wa = some (nI v, r.2.1, fl, wa)) ∨
    (∃ f nu', FT f ∧ fX6_lookAtWhole N lo' hi' cf nu c.2.2.1 c.2.2.2.2.2 = some (0, f, nu') ∧ fX12_whole N lo' hi' r.2.1 r.2.2.1 r.2.2.2.2.1 fl wa = some (0, 5, f, nI p)) := by
  have hs := h.rs
  unfold fX6_lookAtWhole fX12_whole fX12_in
  dsimp only [jn, un0, un1, un3]
  rcases h.v with ⟨k1, k2, v, v1, v2, v3⟩ | ⟨k1, k2⟩
  · rw [if_pos k1, if_pos k2, v2, v3, hl, hh]
    simp (disch := omega) only [nI_ltI, nI_leI]
    by_cases c1 : v < lo
    · refine Or.inr ⟨4, nI v, FT4, ?_, ?_⟩
      · rw [if_pos c1]
        rfl
      · rw [if_pos c1, bd_some]
        dsimp only [un1]
        rw [if_pos (show (0 : Int32) = 0 from rfl), wrong_ok hs, bd_some]
        dsimp only [un3]
        rw [if_pos (show (5 : Int32) = 5 from rfl), h.pl]
    · by_cases c2 : v ≤ hi
      · refine Or.inl ⟨v, by omega, c2, k1, ?_, ?_⟩
        · rw [if_neg c1, if_pos c2]
        · rw [if_neg c1, if_neg (show ¬ hi < v by omega), bd_some]
          dsimp only [un1]
          rw [if_neg (show ¬ (1 : Int32) = 0 by decide), if_neg hs]
      · refine Or.inr ⟨4, nI v, FT4, ?_, ?_⟩
        · rw [if_neg c1, if_neg c2]
          rfl
        · rw [if_neg c1, if_pos (show hi < v by omega), bd_some]
          dsimp only [un1]
          rw [if_pos (show (0 : Int32) = 0 from rfl), wrong_ok hs, bd_some]
          dsimp only [un3]
          rw [if_pos (show (5 : Int32) = 5 from rfl), h.pl]
  · refine Or.inr ⟨1, nu, FT1, ?_, ?_⟩
    · rw [if_neg k1]
      rfl
    · rw [if_neg k2, wrong_ok hs, bd_some]
      dsimp only [un3]
      rw [if_pos (show (5 : Int32) = 5 from rfl), h.pl]
theorem passWhole_ok {N n p lo hi : Nat} {lo' hi' : Int32} {b : Nat → Int32} {c : CTok} {r : RTok} (hX : TX N n b) (h : TK n p c r) (hl : lo' = nI lo) (hh : hi' = nI hi) (hlo : lo < 1000) (hhi : hi < 1000) (cf nu fl wa : Int32) :
    (∃ v p' c' r', lo ≤ v ∧ v ≤ hi ∧ p < p' ∧ TK n p' c' r' ∧ fX6_passWhole N lo' hi' cf nu (nI n) c.1 c.2.1 c.2.2.1 c.2.2.2.1 c.2.2.2.2.1 c.2.2.2.2.2 b = some (1, cf, nI v, c') ∧ fX12_readWhole N lo' hi' (nI n) r.1 r.2.1 r.2.2.1 r.2.2.2.1 r.2.2.2.2.1 fl wa r.2.2.2.2.2 b = some (nI v, r'.1, r'.2.1, r'.2.2.1, r'.2.2.2.1, r'.2.2.2.2.1, fl, wa, r'.2.2.2.2.2)) ∨
    (∃ f nu', FT f ∧ fX6_passWhole N lo' hi' cf nu (nI n) c.1 c.2.1 c.2.2.1 c.2.2.2.1 c.2.2.2.2.1 c.2.2.2.2.2 b = some (0, f, nu', c) ∧ fX12_readWhole N lo' hi' (nI n) r.1 r.2.1 r.2.2.1 r.2.2.2.1 r.2.2.2.2.1 fl wa r.2.2.2.2.2 b = some (0, r.1, 5, r.2.2.1, r.2.2.2.1, r.2.2.2.2.1, f, nI p, r.2.2.2.2.2)) := by
  unfold fX6_passWhole fX12_readWhole
  rcases look_ok (N := N) (b := b) h hl hh hlo hhi cf nu fl wa with ⟨v, v1, v2, v3, e1, e2⟩ | ⟨f, nu', f1, e1, e2⟩
  · obtain ⟨p', c', r', h1, h2, h3, h4⟩ := h.adv hX (by rw [v3]; decide) (by rw [v3]; decide)
    refine Or.inl ⟨v, p', c', r', v1, v2, h1, h2, ?_, ?_⟩
    · rw [e1, bd_some]
      dsimp only [un3]
      rw [if_neg (show ¬ (1 : Int32) = 0 by decide), h3, bd_some]
      rfl
    · rw [e2, bd_some]
      dsimp only [un4]
      rw [h4, bd_some]
      rfl
  · refine Or.inr ⟨f, nu', f1, ?_, ?_⟩
    · rw [e1, bd_some]
      dsimp only [un3]
      rw [if_pos (show (0 : Int32) = 0 from rfl)]
    · rw [e2, bd_some]
      dsimp only [un4]
      rw [ov_goesOn, bd_some]
      rfl
/-- a word with which the reference could begin a name -/
theorem isName_ok {N n p : Nat} {b : Nat → Int32} {c : CTok} {r : RTok} (hX : TX N n b) (h : TK n p c r) : fX12_isName N r.2.1 r.2.2.2.2.2 = some c.2.2.2.2.1 := by
  have hw := fun k (hk : k < 24) => isWord_ok hX h hk
  unfold fX12_isName
  rcases h.w with ⟨w1, w2, w3, w4⟩ | ⟨w1, w2, w4⟩
  · rw [if_pos w2, w4]
    have hk : (kpt c.2.2.2.1 = true) ↔ ∃ i, i < 19 ∧ isW c i = true := by
      unfold kpt isW
      rw [decide_eq_true_iff]
      constructor
      · intro q
        have q2 := fa_first_yes (fun i => decide (wdc i = c.2.2.2.1)) 24 (by omega)
        exact ⟨_, q, decide_eq_true ⟨w1, (of_decide_eq_true q2).symm⟩⟩
      · intro ⟨i, i1, i2⟩
        have := first_lt (p := fun i => decide (wdc i = c.2.2.2.1)) (n := 24) (k := i) (by omega) (decide_eq_true (of_decide_eq_true i2).2.symm)
        omega
    simp only [hw 0 (by omega), hw 1 (by omega), hw 2 (by omega), hw 3 (by omega), hw 4 (by omega), hw 5 (by omega), hw 6 (by omega), hw 7 (by omega), hw 8 (by omega), hw 9 (by omega), hw 10 (by omega), hw 11 (by omega), hw 12 (by omega), hw 13 (by omega), hw 14 (by omega), hw 15 (by omega), hw 16 (by omega), hw 17 (by omega), hw 18 (by omega), bd_some, un1, un0, jn]
    by_cases ck : kpt c.2.2.2.1 = true
    · rw [if_pos ck]
      obtain ⟨i, i1, i2⟩ := hk.mp ck
      have hx : ∀ (x : Bool), ((if x = true then (1 : Int32) else 0) = 0) = (x = false) := by intro x; cases x <;> simp <;> decide
      simp only [hx]
      match i, i1, i2 with
      | 0, _, i3 | 1, _, i3 | 2, _, i3 | 3, _, i3 | 4, _, i3 | 5, _, i3 | 6, _, i3 | 7, _, i3 | 8, _, i3 | 9, _, i3 | 10, _, i3 | 11, _, i3 | 12, _, i3 | 13, _, i3 | 14, _, i3 | 15, _, i3 | 16, _, i3 | 17, _, i3 | 18, _, i3 => simp only [i3, Bool.true_eq_false, if_false, ite_self]
      | k + 19, h, _ => omega
    · rw [if_neg ck]
      have hf : ∀ i, i < 19 → isW c i = false := fun i hi => by
        have : ¬ isW c i = true := fun q => ck (hk.mpr ⟨i, hi, q⟩)
        simpa using this
      simp only [hf 0 (by omega), hf 1 (by omega), hf 2 (by omega), hf 3 (by omega), hf 4 (by omega), hf 5 (by omega), hf 6 (by omega), hf 7 (by omega), hf 8 (by omega), hf 9 (by omega), hf 10 (by omega), hf 11 (by omega), hf 12 (by omega), hf 13 (by omega), hf 14 (by omega), hf 15 (by omega), hf 16 (by omega), hf 17 (by omega), hf 18 (by omega), Bool.false_eq_true, if_false, if_true]
  · rw [if_neg w2, w4]
theorem TK.may {n p : Nat} {c : CTok} {r : RTok} (h : TK n p c r) (hm : ¬ c.2.2.2.2.1 = 0) : c.2.2.1 = 1 ∧ c.2.2.2.1 = r.2.2.2.2.2 ∧ c.2.2.2.2.1 = 1 := by
  rcases h.w with ⟨w1, w2, w3, w4⟩ | ⟨w1, w2, w4⟩
  · refine ⟨w1, w3, ?_⟩
    by_cases ck : kpt c.2.2.2.1 = true
    · rw [if_pos ck] at w4; exact absurd w4 hm
    · rw [if_neg ck] at w4; exact w4
  · exact absurd w4 hm
theorem lookUp_ok {N n p k s : Nat} {s' : Int32} {cb : Nat → Nat} {named : Int32} {names : Nat → Int64} {sorts numbers : Nat → Int32} {rnames : Int32} {rname : Nat → Int64} {rsort rnum : Nat → Int32} {b : Nat → Int32} {c : CTok} {r : RTok} (hX : TX N n b) (h : TK n p c r) (hk : k ≤ 19) (hM : NM cb k named names sorts numbers rnames rname rsort rnum) (hs : s' = nI s) (hs3 : s ≤ 3) (cf nu fl wa : Int32) :
    (∃ m, m < cb s ∧ c.2.2.1 = 1 ∧ fX6_lookUp N s' named cf nu c.2.2.2.1 c.2.2.2.2.1 names sorts numbers = some (1, cf, nI m) ∧ fX12_known N s' r.2.1 r.2.2.1 fl wa r.2.2.2.2.2 rnames rname rnum rsort = some (nI m, r.2.1, fl, wa)) ∨
    (∃ f nu', FT f ∧ fX6_lookUp N s' named cf nu c.2.2.2.1 c.2.2.2.2.1 names sorts numbers = some (0, f, nu') ∧ fX12_known N s' r.2.1 r.2.2.1 fl wa r.2.2.2.2.2 rnames rname rnum rsort = some (0, 5, f, nI p)) := by
  have hrs := h.rs
  have hN : 64 < N := by have := hX.1; omega
  have hM' := hM
  obtain ⟨m1, m2, m3⟩ := hM
  unfold fX6_lookUp fX12_known
  rw [isName_ok hX h, bd_some, m1, m2]
  dsimp only [jn, un0, un1, un3]
  by_cases cm : c.2.2.2.2.1 = 0
  · refine Or.inr ⟨1, nu, FT1, ?_, ?_⟩
    · rw [if_pos cm]
      rfl
    · rw [if_pos cm, wrong_ok hrs, bd_some]
      dsimp only [un3]
      rcases hM'.ovFind hN hk r.2.2.2.2.2 with e | ⟨i, hi, e⟩
      · rw [m2] at e
        rw [e, bd_some]
        dsimp only [un1]
        rw [if_pos (show (-1 : Int32) = -1 from rfl), ov_wrong, bd_some]
        dsimp only [un3]
        rw [if_pos (show (5 : Int32) = 5 from rfl), h.pl]
      · rw [m2] at e
        rw [e, bd_some]
        dsimp only [un1]
        rw [if_neg (show ¬ nI i = -1 from fun e => (nI_neg1 (by omega)).mp e), gd_nI _ (by omega) (by omega), ov_wrong, bd_some]
        dsimp only [un3]
        rw [if_pos (show (5 : Int32) = 5 from rfl), ite_self, h.pl]
  · obtain ⟨k1, k2, k3⟩ := h.may cm
    rw [if_neg cm, if_neg cm, place_ok hN hk, find_ok hN hk, bd_some, bd_some]
    dsimp only [un1]
    rw [← k2, ← nm_fnd hM']
    by_cases cf' : fdn names c.2.2.2.1 k < k
    · obtain ⟨s1, m, q1, q2, q3, q4, q5, q6⟩ := (m3 _ cf').2
      rw [if_pos cf']
      simp (disch := omega) only [nI_neg1, if_false, gd_nI, nI_clamp, q3, q4, q5, q6, hs, nI_eq]
      by_cases c1 : s1 = s
      · refine Or.inl ⟨m, by rw [← c1]; exact q2, k1, ?_, ?_⟩
        · rw [if_pos c1]
        · rw [if_pos c1, if_neg hrs]
      · refine Or.inr ⟨2, nu, FT2, ?_, ?_⟩
        · rw [if_neg c1]
          rfl
        · rw [if_neg c1, wrong_ok hrs, bd_some]
          dsimp only [un3]
          rw [if_pos (show (5 : Int32) = 5 from rfl), h.pl]
    · rw [if_neg cf']
      refine Or.inr ⟨2, nu, FT2, ?_, ?_⟩
      · rw [if_pos (show (-1 : Int32) = -1 from rfl)]
        rfl
      · rw [if_pos (show (-1 : Int32) = -1 from rfl), wrong_ok hrs, bd_some]
        dsimp only [un3]
        rw [if_pos (show (5 : Int32) = 5 from rfl), h.pl]
theorem passName_ok {N n p k s : Nat} {s' : Int32} {cb : Nat → Nat} {named : Int32} {names : Nat → Int64} {sorts numbers : Nat → Int32} {rnames : Int32} {rname : Nat → Int64} {rsort rnum : Nat → Int32} {b : Nat → Int32} {c : CTok} {r : RTok} (hX : TX N n b) (h : TK n p c r) (hk : k ≤ 19) (hM : NM cb k named names sorts numbers rnames rname rsort rnum) (hs : s' = nI s) (hs3 : s ≤ 3) (cf nu fl wa : Int32) :
    (∃ m p' c' r', m < cb s ∧ p < p' ∧ TK n p' c' r' ∧ fX6_passName N s' named cf nu (nI n) c.1 c.2.1 c.2.2.1 c.2.2.2.1 c.2.2.2.2.1 c.2.2.2.2.2 names sorts numbers b = some (1, cf, nI m, c') ∧ fX12_readKnown N s' (nI n) r.1 r.2.1 r.2.2.1 r.2.2.2.1 r.2.2.2.2.1 fl wa r.2.2.2.2.2 rnames rname rnum rsort b = some (nI m, r'.1, r'.2.1, r'.2.2.1, r'.2.2.2.1, r'.2.2.2.2.1, fl, wa, r'.2.2.2.2.2)) ∨
    (∃ f nu', FT f ∧ fX6_passName N s' named cf nu (nI n) c.1 c.2.1 c.2.2.1 c.2.2.2.1 c.2.2.2.2.1 c.2.2.2.2.2 names sorts numbers b = some (0, f, nu', c) ∧ fX12_readKnown N s' (nI n) r.1 r.2.1 r.2.2.1 r.2.2.2.1 r.2.2.2.2.1 fl wa r.2.2.2.2.2 rnames rname rnum rsort b = some (0, r.1, 5, r.2.2.1, r.2.2.2.1, r.2.2.2.2.1, f, nI p, r.2.2.2.2.2)) := by
  unfold fX6_passName fX12_readKnown
  rcases lookUp_ok hX h hk hM hs hs3 cf nu fl wa with ⟨m, v1, v3, e1, e2⟩ | ⟨f, nu', f1, e1, e2⟩
  · obtain ⟨p', c', r', h1, h2, h3, h4⟩ := h.adv hX (by rw [v3]; decide) (by rw [v3]; decide)
    refine Or.inl ⟨m, p', c', r', v1, h1, h2, ?_, ?_⟩
    · rw [e1, bd_some]
      dsimp only [un3]
      rw [if_neg (show ¬ (1 : Int32) = 0 by decide), h3, bd_some]
      rfl
    · rw [e2, bd_some]
      dsimp only [un4]
      rw [h4, bd_some]
      rfl
  · refine Or.inr ⟨f, nu', f1, ?_, ?_⟩
    · rw [e1, bd_some]
      dsimp only [un3]
      rw [if_pos (show (0 : Int32) = 0 from rfl)]
    · rw [e2, bd_some]
      dsimp only [un4]
      rw [ov_goesOn, bd_some]
      rfl
/-- a new name at the end -/
def cb1 (cb : Nat → Nat) (s m : Nat) : Nat → Nat := fun x => if x = s then m + 1 else cb x
theorem NM.new {cb : Nat → Nat} {k s : Nat} {s' : Int32} {named : Int32} {names : Nat → Int64} {sorts numbers : Nat → Int32} {rnames : Int32} {rname : Nat → Int64} {rsort rnum : Nat → Int32} (w : Int64) (h : NM cb k named names sorts numbers rnames rname rsort rnum) (hs : s' = nI s) (hs3 : s ≤ 3) : NM (cb1 cb s (cb s)) (k + 1) (nI (k + 1)) (vp_updL names k w) (upd sorts k s') (upd numbers k (nI (cb s))) (nI (k + 1)) (vp_updL rname k w) (upd rsort k s') (upd rnum k (nI (cb s))) := by
  obtain ⟨m1, m2, m3⟩ := h
  refine ⟨rfl, rfl, fun i hi => ?_⟩
  by_cases c : i = k
  · subst c
    refine ⟨by unfold vp_updL; rw [if_pos rfl, if_pos rfl], s, cb s, hs3, ?_, by rw [pk_us, hs], by rw [pk_us, hs], pk_us, pk_us⟩
    unfold cb1
    rw [if_pos rfl]
    omega
  · obtain ⟨e, s1, m, q1, q2, q3, q4, q5, q6⟩ := m3 i (by omega)
    refine ⟨by unfold vp_updL; rw [if_neg c, if_neg c]; exact e, s1, m, q1, ?_, by rw [pk_un c]; exact q3, by rw [pk_un c]; exact q4, by rw [pk_un c]; exact q5, by rw [pk_un c]; exact q6⟩
    unfold cb1
    by_cases c2 : s1 = s
    · rw [if_pos c2, ← c2]; omega
    · rw [if_neg c2]; exact q2
theorem passNew_ok {N n p k s : Nat} {s' : Int32} {cb : Nat → Nat} {named : Int32} {names : Nat → Int64} {sorts numbers : Nat → Int32} {rnames : Int32} {rname : Nat → Int64} {rsort rnum : Nat → Int32} {b : Nat → Int32} {c : CTok} {r : RTok} (hX : TX N n b) (h : TK n p c r) (hk : k < 19) (hM : NM cb k named names sorts numbers rnames rname rsort rnum) (hs : s' = nI s) (hs3 : s ≤ 3) (cf fl wa : Int32) :
    (∃ p' c' r' named' names' sorts' numbers' rnames' rname' rsort' rnum', p < p' ∧ TK n p' c' r' ∧ NM (cb1 cb s (cb s)) (k + 1) named' names' sorts' numbers' rnames' rname' rsort' rnum' ∧ fX6_passNew N s' (nI (cb s)) named cf (nI n) c.1 c.2.1 c.2.2.1 c.2.2.2.1 c.2.2.2.2.1 c.2.2.2.2.2 names sorts numbers b = some (1, named', cf, c'.1, c'.2.1, c'.2.2.1, c'.2.2.2.1, c'.2.2.2.2.1, c'.2.2.2.2.2, names', sorts', numbers') ∧ fX12_readFresh N s' (nI (cb s)) (nI n) r.1 r.2.1 r.2.2.1 r.2.2.2.1 r.2.2.2.2.1 fl wa r.2.2.2.2.2 rnames rname rsort rnum b = some (r'.1, r'.2.1, r'.2.2.1, r'.2.2.2.1, r'.2.2.2.2.1, fl, wa, r'.2.2.2.2.2, rnames', rname', rsort', rnum')) ∨
    (∃ f, FT f ∧ fX6_passNew N s' (nI (cb s)) named cf (nI n) c.1 c.2.1 c.2.2.1 c.2.2.2.1 c.2.2.2.2.1 c.2.2.2.2.2 names sorts numbers b = some (0, named, f, c.1, c.2.1, c.2.2.1, c.2.2.2.1, c.2.2.2.2.1, c.2.2.2.2.2, names, sorts, numbers) ∧ fX12_readFresh N s' (nI (cb s)) (nI n) r.1 r.2.1 r.2.2.1 r.2.2.2.1 r.2.2.2.2.1 fl wa r.2.2.2.2.2 rnames rname rsort rnum b = some (r.1, 5, r.2.2.1, r.2.2.2.1, r.2.2.2.2.1, f, nI p, r.2.2.2.2.2, rnames, rname, rsort, rnum)) := by
  have hrs := h.rs
  have hN : 64 < N := by have := hX.1; omega
  have hM' := hM
  obtain ⟨m1, m2, m3⟩ := hM
  unfold fX6_passNew fX12_readFresh
  rw [isName_ok hX h, bd_some, m1, m2]
  dsimp only [jn, un0, un1, un3]
  by_cases cm : c.2.2.2.2.1 = 0
  · refine Or.inr ⟨1, FT1, ?_, ?_⟩
    · rw [if_pos cm]
      rfl
    · rw [if_pos cm, wrong_ok hrs, bd_some]
      dsimp only [un3]
      rcases hM'.ovFind hN (by omega) r.2.2.2.2.2 with e | ⟨i, hi, e⟩
      · rw [m2] at e
        rw [e, bd_some]
        dsimp only [un1]
        rw [if_pos (show (-1 : Int32) = -1 from rfl), ov_adds, bd_some]
        dsimp only [un4]
        rw [ov_goesOn, bd_some, h.pl]
        rfl
      · rw [m2] at e
        rw [e, bd_some]
        dsimp only [un1]
        rw [if_neg (show ¬ nI i = -1 from fun e => (nI_neg1 (by omega)).mp e), ov_wrong, bd_some]
        dsimp only [un3]
        rw [ov_adds, bd_some]
        dsimp only [un4]
        rw [ov_goesOn, bd_some, h.pl]
        rfl
  · obtain ⟨k1, k2, k3⟩ := h.may cm
    rw [if_neg cm, if_neg cm, place_ok hN (by omega), find_ok hN (by omega), bd_some, bd_some]
    dsimp only [un1]
    rw [← k2, ← nm_fnd hM']
    by_cases cf' : fdn names c.2.2.2.1 k < k
    · rw [if_pos cf']
      refine Or.inr ⟨3, FT3, ?_, ?_⟩
      · rw [if_neg (show ¬ nI (fdn names c.2.2.2.1 k) = -1 from fun e => (nI_neg1 (by omega)).mp e)]
        rfl
      · rw [if_neg (show ¬ nI (fdn names c.2.2.2.1 k) = -1 from fun e => (nI_neg1 (by omega)).mp e), wrong_ok hrs, bd_some]
        dsimp only [un3]
        rw [ov_adds, bd_some]
        dsimp only [un4]
        rw [ov_goesOn, bd_some, h.pl]
        rfl
    · rw [if_neg cf']
      obtain ⟨p', c', r', h1, h2, h3, h4⟩ := h.adv hX (by rw [k1]; decide) (by rw [k1]; decide)
      refine Or.inl ⟨p', c', r', nI (k + 1), vp_updL names k c.2.2.2.1, upd sorts k s', upd numbers k (nI (cb s)), nI (k + 1), vp_updL rname k c.2.2.2.1, upd rsort k s', upd rnum k (nI (cb s)), h1, h2, hM'.new c.2.2.2.1 hs hs3, ?_, ?_⟩
      · rw [if_pos (show (-1 : Int32) = -1 from rfl)]
        unfold fX6_tellName
        have c19 : ¬ 19 ≤ k := by omega
        simp (disch := omega) only [il, nI_leI, c19, if_false, gd_nI, nI_clamp, nI_add, bd_some, un4]
        rw [h3, bd_some]
        rfl
      · rw [if_pos (show (-1 : Int32) = -1 from rfl)]
        unfold fX12_adds
        rw [if_neg hrs]
        simp (disch := omega) only [gd_nI, nI_clamp, nI_1, bd_some, un4]
        rw [k2, h4, bd_some]
        rfl
