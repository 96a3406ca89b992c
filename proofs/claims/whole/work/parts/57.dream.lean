/-! a dream's line -/
def stU (st : Nat → Int32) (k : Nat) (a t h m : Int32) : Nat → Int32 := upd (upd (upd (upd st (4 * k) a) (4 * k + 1) t) (4 * k + 2) h) (4 * k + 3) m
theorem tellState_ok {N d s : Nat} (hd : d < 4) (hs : s < 4) (a t h m : Int32) (st : Nat → Int32) : fX2_tellState N (nI d) (nI s) a t h m st = some (stU st (4 * d + s) a t h m) := by
  unfold fX2_tellState stU
  have e0 : (d * 4 + s) * 4 + 0 = 4 * (4 * d + s) := by omega
  have e1 : (d * 4 + s) * 4 + 1 = 4 * (4 * d + s) + 1 := by omega
  have e2 : (d * 4 + s) * 4 + 2 = 4 * (4 * d + s) + 2 := by omega
  have e3 : (d * 4 + s) * 4 + 3 = 4 * (4 * d + s) + 3 := by omega
  have f0 : ((nI d * 4 + nI s) * 4 + 0 : Int32) = nI (4 * (4 * d + s)) := by
    rw [show (4 : Int32) = nI 4 from rfl, show (0 : Int32) = nI 0 from rfl, pk_mul, nI_add, pk_mul, nI_add, e0]
  have f1 : ((nI d * 4 + nI s) * 4 + 1 : Int32) = nI (4 * (4 * d + s) + 1) := by
    rw [show (4 : Int32) = nI 4 from rfl, show (1 : Int32) = nI 1 from rfl, pk_mul, nI_add, pk_mul, nI_add, e1]
  have f2 : ((nI d * 4 + nI s) * 4 + 2 : Int32) = nI (4 * (4 * d + s) + 2) := by
    rw [show (4 : Int32) = nI 4 from rfl, show (2 : Int32) = nI 2 from rfl, pk_mul, nI_add, pk_mul, nI_add, e2]
  have f3 : ((nI d * 4 + nI s) * 4 + 3 : Int32) = nI (4 * (4 * d + s) + 3) := by
    rw [show (4 : Int32) = nI 4 from rfl, show (3 : Int32) = nI 3 from rfl, pk_mul, nI_add, pk_mul, nI_add, e3]
  rw [f0, f1, f2, f3]
  simp (disch := omega) only [gd_nI, nI_clamp]
theorem gd0 {ρ : Type} (K : Option ρ) : gd 0 16 K = K := gd_nI (k := 0) (n := 16) K (by omega) (by omega)
theorem og_readPart {N k : Nat} {lo hi sz a s pl sg nu f wa : Int32} {w : Int64} {t : Nat → Int32} (hs : s = 5) : fX12_readPart N k lo hi sz a s pl sg nu f wa w t = some (0, a, s, pl, sg, nu, f, wa, w) := by
  subst hs
  exact ov_readPart
theorem og_whole {N : Nat} {lo hi s pl nu f wa : Int32} (hs : s = 5) : fX12_whole N lo hi s pl nu f wa = some (0, s, f, wa) := by
  subst hs
  exact ov_whole
theorem og_readKnown {N : Nat} {cb : Nat → Nat} {k : Nat} {named : Int32} {names : Nat → Int64} {sorts numbers : Nat → Int32} {rnames : Int32} {rname : Nat → Int64} {rsort rnum : Nat → Int32} {x sz a s pl sg nu f wa : Int32} {w : Int64} {t : Nat → Int32} (hs : s = 5) (hN : 64 < N) (hk : k ≤ 19) (h : NM cb k named names sorts numbers rnames rname rsort rnum) : fX12_readKnown N x sz a s pl sg nu f wa w rnames rname rnum rsort t = some (0, a, s, pl, sg, nu, f, wa, w) := by
  subst hs
  exact ov_readKnown hN hk h
theorem og_K314 {N : Nat} {sz : Int32} {t : Nat → Int32} {dr nn : Int32} {nm : Nat → Int64} {nb isT ns av wv tv mv : Nat → Int32} {s0 ac wh : Int32} {a s pl sg nu f wa : Int32} {w : Int64} (hs : s = 5)  : rdK314 N sz t dr nn nm nb isT ns av wv tv mv s0 ac (wh, a, s, pl, sg, nu, f, wa, w) = some (a, s, pl, sg, nu, f, wa, w, dr, nn, nm, nb, isT, ns, av, wv, tv, mv) := by
  unfold rdK314
  try dsimp only [un0, un1, un2, un3, un4, un5, un6, un7, un8, un9, un10, un11, un12, un13, un14, un15, un16, un17, un18, un32, un33, un35, un36]
  rw [og_readPart hs, bd_some]
  try dsimp only [un0, un1, un2, un3, un4, un5, un6, un7, un8, un9, un10, un11, un12, un13, un14, un15, un16, un17, un18, un32, un33, un35, un36]
  rw [og_eatsWord hs, bd_some]
  try dsimp only [un0, un1, un2, un3, un4, un5, un6, un7, un8, un9, un10, un11, un12, un13, un14, un15, un16, un17, un18, un32, un33, un35, un36, jn]
  rw [if_pos (show (0 : Int32) = 0 from rfl)]
  unfold rdK346
  try dsimp only [un0, un1, un2, un3, un4, un5, un6, un7, un8, un9, un10, un11, un12, un13, un14, un15, un16, un17, un18, un32, un33, un35, un36]
  rw [if_pos hs]
theorem ov_K314 {N : Nat} {sz : Int32} {t : Nat → Int32} {dr nn : Int32} {nm : Nat → Int64} {nb isT ns av wv tv mv : Nat → Int32} {s0 ac wh : Int32} {a pl sg nu f wa : Int32} {w : Int64}  : rdK314 N sz t dr nn nm nb isT ns av wv tv mv s0 ac (wh, a, 5, pl, sg, nu, f, wa, w) = some (a, 5, pl, sg, nu, f, wa, w, dr, nn, nm, nb, isT, ns, av, wv, tv, mv) := og_K314 rfl
theorem og_K273 {N : Nat} {sz : Int32} {t : Nat → Int32} {dr nn : Int32} {nm : Nat → Int64} {nb isT ns av wv tv mv : Nat → Int32} {s0 ac : Int32} {a s pl sg nu f wa : Int32} {w : Int64} (hs : s = 5) {cb : Nat → Nat} {k : Nat} {named : Int32} {names : Nat → Int64} {sorts numbers : Nat → Int32} (hN : 64 < N) (hk : k ≤ 19) (h : NM cb k named names sorts numbers nn nm ns nb) : rdK273 N sz t dr nn nm nb isT ns av wv tv mv s0 ac a pl sg nu w (s, f, wa) = some (a, s, pl, sg, nu, f, wa, w, dr, nn, nm, nb, isT, ns, av, wv, tv, mv) := by
  unfold rdK273
  try dsimp only [un0, un1, un2, un3, un4, un5, un6, un7, un8, un9, un10, un11, un12, un13, un14, un15, un16, un17, un18, un32, un33, un35, un36, jn]
  have h0 := og_readKnown (x := 0) (sz := sz) (a := a) (pl := pl) (sg := sg) (nu := nu) (f := f) (wa := wa) (w := w) (t := t) hs hN hk h
  have h1 := og_readKnown (x := 1) (sz := sz) (a := a) (pl := pl) (sg := sg) (nu := nu) (f := f) (wa := wa) (w := w) (t := t) hs hN hk h
  rw [h0, h1, bd_some]
  try dsimp only [un0, un1, un2, un3, un4, un5, un6, un7, un8, un9, un10, un11, un12, un13, un14, un15, un16, un17, un18, un32, un33, un35, un36]
  rw [og_K314 hs, og_K314 hs]
  simp only [ite_self]
theorem ov_K273 {N : Nat} {sz : Int32} {t : Nat → Int32} {dr nn : Int32} {nm : Nat → Int64} {nb isT ns av wv tv mv : Nat → Int32} {s0 ac : Int32} {a pl sg nu f wa : Int32} {w : Int64} {cb : Nat → Nat} {k : Nat} {named : Int32} {names : Nat → Int64} {sorts numbers : Nat → Int32} (hN : 64 < N) (hk : k ≤ 19) (h : NM cb k named names sorts numbers nn nm ns nb) : rdK273 N sz t dr nn nm nb isT ns av wv tv mv s0 ac a pl sg nu w (5, f, wa) = some (a, 5, pl, sg, nu, f, wa, w, dr, nn, nm, nb, isT, ns, av, wv, tv, mv) := og_K273 rfl hN hk h
theorem og_K260 {N : Nat} {sz : Int32} {t : Nat → Int32} {dr nn : Int32} {nm : Nat → Int64} {nb isT ns av wv tv mv : Nat → Int32} {s0 ac : Int32} {a s pl sg nu f wa : Int32} {w : Int64} (hs : s = 5) {cb : Nat → Nat} {k : Nat} {named : Int32} {names : Nat → Int64} {sorts numbers : Nat → Int32} (hN : 64 < N) (hk : k ≤ 19) (h : NM cb k named names sorts numbers nn nm ns nb) : rdK260 N sz t dr nn nm nb isT ns av wv tv mv s0 f wa (ac, a, s, pl, sg, nu, w) = some (a, s, pl, sg, nu, f, wa, w, dr, nn, nm, nb, isT, ns, av, wv, tv, mv) := by
  unfold rdK260
  try dsimp only [un0, un1, un2, un3, un4, un5, un6, un7, un8, un9, un10, un11, un12, un13, un14, un15, un16, un17, un18, un32, un33, un35, un36, jn]
  rw [og_wrong hs, bd_some]
  try dsimp only [un0, un1, un2, un3, un4, un5, un6, un7, un8, un9, un10, un11, un12, un13, un14, un15, un16, un17, un18, un32, un33, un35, un36]
  rw [og_K273 hs hN hk h]
  simp only [ite_self]
theorem ov_K260 {N : Nat} {sz : Int32} {t : Nat → Int32} {dr nn : Int32} {nm : Nat → Int64} {nb isT ns av wv tv mv : Nat → Int32} {s0 ac : Int32} {a pl sg nu f wa : Int32} {w : Int64} {cb : Nat → Nat} {k : Nat} {named : Int32} {names : Nat → Int64} {sorts numbers : Nat → Int32} (hN : 64 < N) (hk : k ≤ 19) (h : NM cb k named names sorts numbers nn nm ns nb) : rdK260 N sz t dr nn nm nb isT ns av wv tv mv s0 f wa (ac, a, 5, pl, sg, nu, w) = some (a, 5, pl, sg, nu, f, wa, w, dr, nn, nm, nb, isT, ns, av, wv, tv, mv) := og_K260 rfl hN hk h
theorem og_K177 {N : Nat} {sz : Int32} {t : Nat → Int32} {dr nn : Int32} {nm : Nat → Int64} {nb isT ns av wv tv mv : Nat → Int32} {s0 : Int32} {a s pl sg nu f wa : Int32} {w : Int64} (hs : s = 5) {cb : Nat → Nat} {k : Nat} {named : Int32} {names : Nat → Int64} {sorts numbers : Nat → Int32} (hN : 64 < N) (hk : k ≤ 19) (h : NM cb k named names sorts numbers nn nm ns nb) : rdK177 N sz a pl sg nu w t dr nn nm nb isT ns av wv tv mv s0 (s, f, wa) = some (a, s, pl, sg, nu, f, wa, w, dr, nn, nm, nb, isT, ns, av, wv, tv, mv) := by
  unfold rdK177
  try dsimp only [un0, un1, un2, un3, un4, un5, un6, un7, un8, un9, un10, un11, un12, un13, un14, un15, un16, un17, un18, un32, un33, un35, un36]
  rw [og_goesOn hs, bd_some]
  try dsimp only [un0, un1, un2, un3, un4, un5, un6, un7, un8, un9, un10, un11, un12, un13, un14, un15, un16, un17, un18, un32, un33, un35, un36]
  rw [og_eatsWord hs, bd_some]
  try dsimp only [un0, un1, un2, un3, un4, un5, un6, un7, un8, un9, un10, un11, un12, un13, un14, un15, un16, un17, un18, un32, un33, un35, un36, jn]
  rw [if_pos (show (0 : Int32) = 0 from rfl), og_eatsWord hs, bd_some]
  try dsimp only [un0, un1, un2, un3, un4, un5, un6, un7, un8, un9, un10, un11, un12, un13, un14, un15, un16, un17, un18, un32, un33, un35, un36]
  rw [if_pos (show (0 : Int32) = 0 from rfl), og_eatsWord hs, bd_some]
  try dsimp only [un0, un1, un2, un3, un4, un5, un6, un7, un8, un9, un10, un11, un12, un13, un14, un15, un16, un17, un18, un32, un33, un35, un36]
  rw [if_pos (show (0 : Int32) = 0 from rfl), og_eatsWord hs, bd_some]
  try dsimp only [un0, un1, un2, un3, un4, un5, un6, un7, un8, un9, un10, un11, un12, un13, un14, un15, un16, un17, un18, un32, un33, un35, un36]
  rw [if_pos (show (0 : Int32) = 0 from rfl), og_eatsWord hs, bd_some]
  try dsimp only [un0, un1, un2, un3, un4, un5, un6, un7, un8, un9, un10, un11, un12, un13, un14, un15, un16, un17, un18, un32, un33, un35, un36]
  rw [if_pos (show (0 : Int32) = 0 from rfl), og_eatsWord hs, bd_some]
  try dsimp only [un0, un1, un2, un3, un4, un5, un6, un7, un8, un9, un10, un11, un12, un13, un14, un15, un16, un17, un18, un32, un33, un35, un36]
  rw [if_pos (show (0 : Int32) = 0 from rfl)]
  exact og_K260 hs hN hk h
theorem ov_K177 {N : Nat} {sz : Int32} {t : Nat → Int32} {dr nn : Int32} {nm : Nat → Int64} {nb isT ns av wv tv mv : Nat → Int32} {s0 : Int32} {a pl sg nu f wa : Int32} {w : Int64} {cb : Nat → Nat} {k : Nat} {named : Int32} {names : Nat → Int64} {sorts numbers : Nat → Int32} (hN : 64 < N) (hk : k ≤ 19) (h : NM cb k named names sorts numbers nn nm ns nb) : rdK177 N sz a pl sg nu w t dr nn nm nb isT ns av wv tv mv s0 (5, f, wa) = some (a, 5, pl, sg, nu, f, wa, w, dr, nn, nm, nb, isT, ns, av, wv, tv, mv) := og_K177 rfl hN hk h
theorem og_K129 {N : Nat} {sz : Int32} {t : Nat → Int32} {dr nn : Int32} {nm : Nat → Int64} {nb isT ns av wv tv mv : Nat → Int32} {x : Int32} {a s pl sg nu f wa : Int32} {w : Int64} (hs : s = 5) {cb : Nat → Nat} {k : Nat} {named : Int32} {names : Nat → Int64} {sorts numbers : Nat → Int32} (hN : 64 < N) (hk : k ≤ 19) (h : NM cb k named names sorts numbers nn nm ns nb) : rdK129 N sz a s pl sg nu w t f wa isT av wv tv mv x (dr, nn, nm, nb, ns) = some (a, s, pl, sg, nu, f, wa, w, dr, nn, nm, nb, isT, ns, av, wv, tv, mv) := by
  unfold rdK129
  try dsimp only [un0, un1, un2, un3, un4, un5, un6, un7, un8, un9, un10, un11, un12, un13, un14, un15, un16, un17, un18, un32, un33, un35, un36]
  rw [og_goesOn hs, bd_some]
  try dsimp only [un0, un1, un2, un3, un4, un5, un6, un7, un8, un9, un10, un11, un12, un13, un14, un15, un16, un17, un18, un32, un33, un35, un36]
  rw [og_whole hs, bd_some]
  try dsimp only [un0, un1, un2, un3, un4, un5, un6, un7, un8, un9, un10, un11, un12, un13, un14, un15, un16, un17, un18, un32, un33, un35, un36, jn]
  rw [if_pos hs, gd0, og_wrong hs, bd_some]
  try dsimp only [un0, un1, un2, un3, un4, un5, un6, un7, un8, un9, un10, un11, un12, un13, un14, un15, un16, un17, un18, un32, un33, un35, un36]
  rw [og_K177 hs hN hk h]
  simp only [ite_self]
theorem ov_K129 {N : Nat} {sz : Int32} {t : Nat → Int32} {dr nn : Int32} {nm : Nat → Int64} {nb isT ns av wv tv mv : Nat → Int32} {x : Int32} {a pl sg nu f wa : Int32} {w : Int64} {cb : Nat → Nat} {k : Nat} {named : Int32} {names : Nat → Int64} {sorts numbers : Nat → Int32} (hN : 64 < N) (hk : k ≤ 19) (h : NM cb k named names sorts numbers nn nm ns nb) : rdK129 N sz a 5 pl sg nu w t f wa isT av wv tv mv x (dr, nn, nm, nb, ns) = some (a, 5, pl, sg, nu, f, wa, w, dr, nn, nm, nb, isT, ns, av, wv, tv, mv) := og_K129 rfl hN hk h
theorem og_K16 {N : Nat} {sz : Int32} {t : Nat → Int32} {dr nn : Int32} {nm : Nat → Int64} {nb isT ns av wv tv mv : Nat → Int32}  {a s pl sg nu f wa : Int32} {w : Int64} (hs : s = 5) {cb : Nat → Nat} {k : Nat} {named : Int32} {names : Nat → Int64} {sorts numbers : Nat → Int32} (hN : 64 < N) (hk : k ≤ 19) (h : NM cb k named names sorts numbers nn nm ns nb) : rdK16 N w nn nm sz a pl sg nu t isT av wv tv mv dr nb ns (s, f, wa) = some (a, s, pl, sg, nu, f, wa, w, dr, nn, nm, nb, isT, ns, av, wv, tv, mv) := by
  unfold rdK16
  try dsimp only [un0, un1, un2, un3, un4, un5, un6, un7, un8, un9, un10, un11, un12, un13, un14, un15, un16, un17, un18, un32, un33, un35, un36]
  rcases h.ovFind hN hk w with e | ⟨i, hi, e⟩
  · rw [e, bd_some]
    try dsimp only [un0, un1, un2, un3, un4, un5, un6, un7, un8, un9, un10, un11, un12, un13, un14, un15, un16, un17, un18, un32, un33, un35, un36, jn]
    rw [if_pos (show (-1 : Int32) = -1 from rfl), if_pos (show (-1 : Int32) = -1 from rfl), og_wrong hs, bd_some]
    try dsimp only [un0, un1, un2, un3, un4, un5, un6, un7, un8, un9, un10, un11, un12, un13, un14, un15, un16, un17, un18, un32, un33, un35, un36]
    rw [if_pos (show (-1 : Int32) = -1 from rfl), if_pos (show (-1 : Int32) = -1 from rfl), if_pos hs, og_K129 hs hN hk h]
    simp only [ite_self]
  · rw [e, bd_some]
    try dsimp only [un0, un1, un2, un3, un4, un5, un6, un7, un8, un9, un10, un11, un12, un13, un14, un15, un16, un17, un18, un32, un33, un35, un36, jn]
    have q : ¬ nI i = -1 := fun e => (nI_neg1 (by omega)).mp e
    simp (disch := omega) only [q, if_false, gd_nI, og_wrong hs, bd_some, un3, un1, og_K129 hs hN hk h, ite_self]
theorem ov_K16 {N : Nat} {sz : Int32} {t : Nat → Int32} {dr nn : Int32} {nm : Nat → Int64} {nb isT ns av wv tv mv : Nat → Int32}  {a pl sg nu f wa : Int32} {w : Int64} {cb : Nat → Nat} {k : Nat} {named : Int32} {names : Nat → Int64} {sorts numbers : Nat → Int32} (hN : 64 < N) (hk : k ≤ 19) (h : NM cb k named names sorts numbers nn nm ns nb) : rdK16 N w nn nm sz a pl sg nu t isT av wv tv mv dr nb ns (5, f, wa) = some (a, 5, pl, sg, nu, f, wa, w, dr, nn, nm, nb, isT, ns, av, wv, tv, mv) := og_K16 rfl hN hk h
theorem dr_3 {N n p d s : Nat} {b : Nat → Int32} {c : CTok} {r : RTok} (hX : TX N n b) (h : TK n p c r) (hd : d < 4) (hs : s < 4) (cf nu fl wa ac ti : Int32) (named dreams : Int32) (names : Nat → Int64) (sorts numbers states : Nat → Int32) (dr nn : Int32) (nm : Nat → Int64) (nb isT ns av wv tv mv : Nat → Int32) :
    (∃ p' c' r' th me nx, p ≤ p' ∧ TK n p' c' r' ∧ th < 4 ∧ me ≤ 4 ∧ cdK99 N cf (nI n) c.1 c.2.1 c.2.2.1 c.2.2.2.1 c.2.2.2.2.1 c.2.2.2.2.2 b named nu names dreams sorts numbers states (nI d) (nI s) ac ti = some (1, named, cf, nx, c'.1, c'.2.1, c'.2.2.1, c'.2.2.2.1, c'.2.2.2.2.1, c'.2.2.2.2.2, names, dreams, sorts, numbers, stU states (4 * d + s) ac ti (nI th) (hI me)) ∧ rdK314 N (nI n) b dr nn nm nb isT ns av wv tv mv (nI (4 * d + s)) ac (ti, r.1, r.2.1, r.2.2.1, r.2.2.2.1, r.2.2.2.2.1, fl, wa, r.2.2.2.2.2) = some (r'.1, r'.2.1, r'.2.2.1, r'.2.2.2.1, r'.2.2.2.2.1, fl, wa, r'.2.2.2.2.2, dr, nn, nm, nb, upd isT (4 * d + s) 1, ns, upd av (4 * d + s) ac, upd wv (4 * d + s) ti, upd tv (4 * d + s) (nI th), upd mv (4 * d + s) (hI me))) ∨
    (∃ (f : Int32) (p' : Nat) (c' : CTok), ∃ nx a' l' g' m' w', FT f ∧ c'.2.1 = nI p' ∧ cdK99 N cf (nI n) c.1 c.2.1 c.2.2.1 c.2.2.2.1 c.2.2.2.2.1 c.2.2.2.2.2 b named nu names dreams sorts numbers states (nI d) (nI s) ac ti = some (0, named, f, nx, c'.1, c'.2.1, c'.2.2.1, c'.2.2.2.1, c'.2.2.2.2.1, c'.2.2.2.2.2, names, dreams, sorts, numbers, states) ∧ rdK314 N (nI n) b dr nn nm nb isT ns av wv tv mv (nI (4 * d + s)) ac (ti, r.1, r.2.1, r.2.2.1, r.2.2.2.1, r.2.2.2.2.1, fl, wa, r.2.2.2.2.2) = some (a', 5, l', g', m', f, nI p', w', dr, nn, nm, nb, isT, ns, av, wv, tv, mv)) := by
  unfold cdK99 rdK314 fX12_readPart
  try dsimp only [un0, un1, un2, un3, un4, un5, un6, un7, un8, un9, un10, un11, un12, un13, un14, un15, un16, un17, un18, un32, un33, un35, un36, jn]
  rcases wpass_ok hX h (k := 12) (by omega) cf fl wa with ⟨p3, c3, r3, a3, t3, e3, g3⟩ | ⟨e3, g3⟩
  · rw [e3, g3, bd_some, bd_some]
    try dsimp only [un0, un1, un2, un3, un4, un5, un6, un7, un8, un9, un10, un11, un12, un13, un14, un15, un16, un17, un18, un32, un33, un35, un36]
    rw [if_neg (show ¬ (1 : Int32) = 0 by decide)]
    rcases passWhole_ok hX t3 (lo := 0) (hi := 3) (lo' := 0) (hi' := 3) rfl rfl (by omega) (by omega) cf nu fl wa with ⟨v, p4, c4, r4, v1, v2, a4, t4, e4, g4⟩ | ⟨f, nu', f1, e4, g4⟩
    · rw [e4, g4, bd_some, bd_some]
      try dsimp only [un0, un1, un2, un3, un4, un5, un6, un7, un8, un9, un10, un11, un12, un13, un14, un15, un16, un17, un18, un32, un33, un35, un36]
      rw [if_neg (show ¬ (1 : Int32) = 0 by decide), bd_some]
      try dsimp only [un0, un1, un2, un3, un4, un5, un6, un7, un8, un9, un10, un11, un12, un13, un14, un15, un16, un17, un18, un32, un33, un35, un36]
      obtain ⟨x, p5, c5, r5, x1, a5, t5, e5, g5, -, -⟩ := passIf_ok hX t4 (k := 13) (by omega)
      rw [e5, g5, bd_some, bd_some]
      try dsimp only [un0, un1, un2, un3, un4, un5, un6, un7, un8, un9, un10, un11, un12, un13, un14, un15, un16, un17, un18, un32, un33, un35, un36]
      by_cases cx : x = 0
      · subst cx
        rw [if_pos (show nI 0 = 0 from rfl), if_pos (show nI 0 = 0 from rfl)]
        unfold cdK153 rdK346
        try dsimp only [un0, un1, un2, un3, un4, un5, un6, un7, un8, un9, un10, un11, un12, un13, un14, un15, un16, un17, un18, un32, un33, un35, un36]
        rw [if_pos (show nI 0 = 0 from rfl), if_neg t5.rs, tellState_ok hd hs, bd_some]
        try dsimp only [un0, un1, un2, un3, un4, un5, un6, un7, un8, un9, un10, un11, un12, un13, un14, un15, un16, un17, un18, un32, un33, un35, un36]
        simp (disch := omega) only [gd_nI, nI_clamp]
        exact Or.inl ⟨p5, c5, r5, v, 0, nI v, by omega, t5, by omega, by omega, rfl, rfl⟩
      · have : x = 1 := by omega
        subst this
        rw [if_neg (show ¬ nI 1 = 0 by decide), if_neg (show ¬ nI 1 = 0 by decide)]
        rcases passWhole_ok hX t5 (lo := 0) (hi := 3) (lo' := 0) (hi' := 3) rfl rfl (by omega) (by omega) cf (nI v) fl wa with ⟨y, p6, c6, r6, y1, y2, a6, t6, e6, g6⟩ | ⟨f, nu', f1, e6, g6⟩
        · rw [e6, g6, bd_some, bd_some]
          try dsimp only [un0, un1, un2, un3, un4, un5, un6, un7, un8, un9, un10, un11, un12, un13, un14, un15, un16, un17, un18, un32, un33, un35, un36]
          rw [if_neg (show ¬ (1 : Int32) = 0 by decide)]
          unfold cdK153 rdK346
          try dsimp only [un0, un1, un2, un3, un4, un5, un6, un7, un8, un9, un10, un11, un12, un13, un14, un15, un16, un17, un18, un32, un33, un35, un36]
          rw [if_neg (show ¬ nI 1 = 0 by decide), if_neg t6.rs, tellState_ok hd hs, bd_some]
          try dsimp only [un0, un1, un2, un3, un4, un5, un6, un7, un8, un9, un10, un11, un12, un13, un14, un15, un16, un17, un18, un32, un33, un35, un36]
          simp (disch := omega) only [gd_nI, nI_clamp]
          exact Or.inl ⟨p6, c6, r6, v, y + 1, nI y, by omega, t6, by omega, by omega, rfl, rfl⟩
        · rw [e6, g6, bd_some, bd_some]
          try dsimp only [un0, un1, un2, un3, un4, un5, un6, un7, un8, un9, un10, un11, un12, un13, un14, un15, un16, un17, un18, un32, un33, un35, un36]
          rw [if_pos (show (0 : Int32) = 0 from rfl)]
          unfold rdK346
          try dsimp only [un0, un1, un2, un3, un4, un5, un6, un7, un8, un9, un10, un11, un12, un13, un14, un15, un16, un17, un18, un32, un33, un35, un36]
          rw [if_pos (show (5 : Int32) = 5 from rfl)]
          exact Or.inr ⟨f, p5, c5, nu', _, _, _, _, _, f1, t5.2.1, rfl, rfl⟩
    · rw [e4, g4, bd_some, bd_some]
      try dsimp only [un0, un1, un2, un3, un4, un5, un6, un7, un8, un9, un10, un11, un12, un13, un14, un15, un16, un17, un18, un32, un33, un35, un36]
      rw [if_pos (show (0 : Int32) = 0 from rfl), bd_some]
      try dsimp only [un0, un1, un2, un3, un4, un5, un6, un7, un8, un9, un10, un11, un12, un13, un14, un15, un16, un17, un18, un32, un33, un35, un36]
      rw [ov_eatsWord, bd_some]
      try dsimp only [un0, un1, un2, un3, un4, un5, un6, un7, un8, un9, un10, un11, un12, un13, un14, un15, un16, un17, un18, un32, un33, un35, un36]
      rw [if_pos (show (0 : Int32) = 0 from rfl)]
      unfold rdK346
      try dsimp only [un0, un1, un2, un3, un4, un5, un6, un7, un8, un9, un10, un11, un12, un13, un14, un15, un16, un17, un18, un32, un33, un35, un36]
      rw [if_pos (show (5 : Int32) = 5 from rfl)]
      exact Or.inr ⟨f, p3, c3, nu', _, _, _, _, _, f1, t3.2.1, rfl, rfl⟩
  · rw [e3, g3, bd_some, bd_some]
    try dsimp only [un0, un1, un2, un3, un4, un5, un6, un7, un8, un9, un10, un11, un12, un13, un14, un15, un16, un17, un18, un32, un33, un35, un36]
    rw [if_pos (show (0 : Int32) = 0 from rfl), ov_readWhole, bd_some]
    try dsimp only [un0, un1, un2, un3, un4, un5, un6, un7, un8, un9, un10, un11, un12, un13, un14, un15, un16, un17, un18, un32, un33, un35, un36]
    rw [bd_some]
    try dsimp only [un0, un1, un2, un3, un4, un5, un6, un7, un8, un9, un10, un11, un12, un13, un14, un15, un16, un17, un18, un32, un33, un35, un36]
    rw [ov_eatsWord, bd_some]
    try dsimp only [un0, un1, un2, un3, un4, un5, un6, un7, un8, un9, un10, un11, un12, un13, un14, un15, un16, un17, un18, un32, un33, un35, un36]
    rw [if_pos (show (0 : Int32) = 0 from rfl)]
    unfold rdK346
    try dsimp only [un0, un1, un2, un3, un4, un5, un6, un7, un8, un9, un10, un11, un12, un13, un14, un15, un16, un17, un18, un32, un33, un35, un36]
    rw [if_pos (show (5 : Int32) = 5 from rfl)]
    exact Or.inr ⟨1, p, c, nu, _, _, _, _, _, FT1, h.2.1, rfl, rfl⟩
theorem dr_2 {N n p d s i k : Nat} {cb : Nat → Nat} {b : Nat → Int32} {c : CTok} {r : RTok} (hX : TX N n b) (h : TK n p c r) (hd : d < 4) (hs : s < 4) (hi : i ≤ 5) (hk : k ≤ 19) (cf nu fl wa : Int32) (named dreams : Int32) (names : Nat → Int64) (sorts numbers states : Nat → Int32) (dr nn : Int32) (nm : Nat → Int64) (nb isT ns av wv tv mv : Nat → Int32) (hM : NM cb k named names sorts numbers nn nm ns nb) :
    (∃ p' c' r' th me nx wt ti, p ≤ p' ∧ TK n p' c' r' ∧ th < 4 ∧ me ≤ 4 ∧ ti = hI wt ∧ ((i = 0 ∨ i = 5) → 0 < wt ∧ wt ≤ cb 0) ∧ ((i = 1 ∨ i = 3) → 0 < wt ∧ wt ≤ cb 1) ∧ ((i = 2 ∨ i = 4) → wt = 0) ∧ (fX6_targetOf N (nI i)).bind (un1 fun (r_60 : Int32) => jn (cdK83 N (nI n) b named names dreams sorts numbers states (nI d) (nI s) (nI i) r_60) (fun j83 => if r_60 = (-2) then (j83 (cf, nu, c.1, c.2.1, c.2.2.1, c.2.2.2.1, c.2.2.2.2.1, c.2.2.2.2.2)) else ((fX6_passName N r_60 named cf nu (nI n) c.1 c.2.1 c.2.2.1 c.2.2.2.1 c.2.2.2.2.1 c.2.2.2.2.2 names sorts numbers b).bind (un9 fun (r_75 : Int32) (v_fault_75 : Int32) (v_number_75 : Int32) (v_tape_at_75 : Int32) (v_tape_start_75 : Int32) (v_tape_kind_75 : Int32) (v_tape_code_75 : Int64) (v_tape_mayName_75 : Int32) (v_tape_value_75 : Int32) => if r_75 = 0 then (some (0, named, v_fault_75, v_number_75, v_tape_at_75, v_tape_start_75, v_tape_kind_75, v_tape_code_75, v_tape_mayName_75, v_tape_value_75, names, dreams, sorts, numbers, states)) else (j83 (v_fault_75, v_number_75, v_tape_at_75, v_tape_start_75, v_tape_kind_75, v_tape_code_75, v_tape_mayName_75, v_tape_value_75)))))) = some (1, named, cf, nx, c'.1, c'.2.1, c'.2.2.1, c'.2.2.2.1, c'.2.2.2.2.1, c'.2.2.2.2.2, names, dreams, sorts, numbers, stU states (4 * d + s) (nI i) ti (nI th) (hI me)) ∧ rdK260 N (nI n) b dr nn nm nb isT ns av wv tv mv (nI (4 * d + s)) fl wa (nI i, r.1, r.2.1, r.2.2.1, r.2.2.2.1, r.2.2.2.2.1, r.2.2.2.2.2) = some (r'.1, r'.2.1, r'.2.2.1, r'.2.2.2.1, r'.2.2.2.2.1, fl, wa, r'.2.2.2.2.2, dr, nn, nm, nb, upd isT (4 * d + s) 1, ns, upd av (4 * d + s) (nI i), upd wv (4 * d + s) ti, upd tv (4 * d + s) (nI th), upd mv (4 * d + s) (hI me))) ∨
    (∃ (f : Int32) (p' : Nat) (c' : CTok), ∃ nx a' l' g' m' w', FT f ∧ c'.2.1 = nI p' ∧ (fX6_targetOf N (nI i)).bind (un1 fun (r_60 : Int32) => jn (cdK83 N (nI n) b named names dreams sorts numbers states (nI d) (nI s) (nI i) r_60) (fun j83 => if r_60 = (-2) then (j83 (cf, nu, c.1, c.2.1, c.2.2.1, c.2.2.2.1, c.2.2.2.2.1, c.2.2.2.2.2)) else ((fX6_passName N r_60 named cf nu (nI n) c.1 c.2.1 c.2.2.1 c.2.2.2.1 c.2.2.2.2.1 c.2.2.2.2.2 names sorts numbers b).bind (un9 fun (r_75 : Int32) (v_fault_75 : Int32) (v_number_75 : Int32) (v_tape_at_75 : Int32) (v_tape_start_75 : Int32) (v_tape_kind_75 : Int32) (v_tape_code_75 : Int64) (v_tape_mayName_75 : Int32) (v_tape_value_75 : Int32) => if r_75 = 0 then (some (0, named, v_fault_75, v_number_75, v_tape_at_75, v_tape_start_75, v_tape_kind_75, v_tape_code_75, v_tape_mayName_75, v_tape_value_75, names, dreams, sorts, numbers, states)) else (j83 (v_fault_75, v_number_75, v_tape_at_75, v_tape_start_75, v_tape_kind_75, v_tape_code_75, v_tape_mayName_75, v_tape_value_75)))))) = some (0, named, f, nx, c'.1, c'.2.1, c'.2.2.1, c'.2.2.2.1, c'.2.2.2.2.1, c'.2.2.2.2.2, names, dreams, sorts, numbers, states) ∧ rdK260 N (nI n) b dr nn nm nb isT ns av wv tv mv (nI (4 * d + s)) fl wa (nI i, r.1, r.2.1, r.2.2.1, r.2.2.2.1, r.2.2.2.2.1, r.2.2.2.2.2) = some (a', 5, l', g', m', f, nI p', w', dr, nn, nm, nb, isT, ns, av, wv, tv, mv)) := by
  have ci : i = 0 ∨ i = 1 ∨ i = 2 ∨ i = 3 ∨ i = 4 ∨ i = 5 := by omega
  rcases ci with ci | ci | ci | ci | ci | ci
  · subst ci
    rw [show fX6_targetOf N (nI 0) = some (0) from rfl, bd_some]
    try dsimp only [un0, un1, un2, un3, un4, un5, un6, un7, un8, un9, un10, un11, un12, un13, un14, un15, un16, un17, un18, un32, un33, un35, un36, jn]
    rw [if_neg (show ¬ (0 : Int32) = -2 by decide)]
    unfold rdK260
    try dsimp only [un0, un1, un2, un3, un4, un5, un6, un7, un8, un9, un10, un11, un12, un13, un14, un15, un16, un17, un18, un32, un33, un35, un36, jn]
    rw [if_neg (show ¬ nI 0 = -1 by decide)]
    unfold rdK273
    try dsimp only [un0, un1, un2, un3, un4, un5, un6, un7, un8, un9, un10, un11, un12, un13, un14, un15, un16, un17, un18, un32, un33, un35, un36, jn]
    rw [if_pos (show nI 0 = 0 from rfl)]
    rcases passName_ok hX h hk hM (s' := 0) (s := 0) rfl (by omega) cf nu fl wa with ⟨m, p2, c2, r2, m1, a2, t2, e2, g2⟩ | ⟨f, nu', f1, e2, g2⟩
    · rw [e2, g2, bd_some, bd_some]
      try dsimp only [un0, un1, un2, un3, un4, un5, un6, un7, un8, un9, un10, un11, un12, un13, un14, un15, un16, un17, un18, un32, un33, un35, un36]
      rw [if_neg (show ¬ (1 : Int32) = 0 by decide)]
      unfold cdK83
      try dsimp only [un0, un1, un2, un3, un4, un5, un6, un7, un8, un9, un10, un11, un12, un13, un14, un15, un16, un17, un18, un32, un33, un35, un36, jn]
      rw [if_neg (show ¬ (0 : Int32) = -2 by decide)]
      rcases dr_3 hX t2 hd hs cf (nI m) fl wa (nI 0) (nI m) named dreams names sorts numbers states dr nn nm nb isT ns av wv tv mv with ⟨p3, c3, r3, th, me, nx, a3, t3, h3, h4, e3, g3⟩ | ⟨f, p3, c3, nx, a', l', g', m', w', f1, q1, e3, g3⟩
      · exact Or.inl ⟨p3, c3, r3, th, me, nx, m + 1, nI m, by omega, t3, h3, h4, rfl, fun _ => ⟨by omega, by omega⟩, fun q => by omega, fun q => by omega, e3, g3⟩
      · exact Or.inr ⟨f, p3, c3, nx, a', l', g', m', w', f1, q1, e3, g3⟩
    · rw [e2, g2, bd_some, bd_some]
      try dsimp only [un0, un1, un2, un3, un4, un5, un6, un7, un8, un9, un10, un11, un12, un13, un14, un15, un16, un17, un18, un32, un33, un35, un36]
      rw [if_pos (show (0 : Int32) = 0 from rfl), ov_K314]
      exact Or.inr ⟨f, p, c, nu', _, _, _, _, _, f1, h.2.1, rfl, rfl⟩
  · subst ci
    rw [show fX6_targetOf N (nI 1) = some (1) from rfl, bd_some]
    try dsimp only [un0, un1, un2, un3, un4, un5, un6, un7, un8, un9, un10, un11, un12, un13, un14, un15, un16, un17, un18, un32, un33, un35, un36, jn]
    rw [if_neg (show ¬ (1 : Int32) = -2 by decide)]
    unfold rdK260
    try dsimp only [un0, un1, un2, un3, un4, un5, un6, un7, un8, un9, un10, un11, un12, un13, un14, un15, un16, un17, un18, un32, un33, un35, un36, jn]
    rw [if_neg (show ¬ nI 1 = -1 by decide)]
    unfold rdK273
    try dsimp only [un0, un1, un2, un3, un4, un5, un6, un7, un8, un9, un10, un11, un12, un13, un14, un15, un16, un17, un18, un32, un33, un35, un36, jn]
    rw [if_neg (show ¬ nI 1 = 0 by decide), if_neg (show ¬ nI 1 = 5 by decide), if_pos (show nI 1 = 1 from rfl)]
    rcases passName_ok hX h hk hM (s' := 1) (s := 1) rfl (by omega) cf nu fl wa with ⟨m, p2, c2, r2, m1, a2, t2, e2, g2⟩ | ⟨f, nu', f1, e2, g2⟩
    · rw [e2, g2, bd_some, bd_some]
      try dsimp only [un0, un1, un2, un3, un4, un5, un6, un7, un8, un9, un10, un11, un12, un13, un14, un15, un16, un17, un18, un32, un33, un35, un36]
      rw [if_neg (show ¬ (1 : Int32) = 0 by decide)]
      unfold cdK83
      try dsimp only [un0, un1, un2, un3, un4, un5, un6, un7, un8, un9, un10, un11, un12, un13, un14, un15, un16, un17, un18, un32, un33, un35, un36, jn]
      rw [if_neg (show ¬ (1 : Int32) = -2 by decide)]
      rcases dr_3 hX t2 hd hs cf (nI m) fl wa (nI 1) (nI m) named dreams names sorts numbers states dr nn nm nb isT ns av wv tv mv with ⟨p3, c3, r3, th, me, nx, a3, t3, h3, h4, e3, g3⟩ | ⟨f, p3, c3, nx, a', l', g', m', w', f1, q1, e3, g3⟩
      · exact Or.inl ⟨p3, c3, r3, th, me, nx, m + 1, nI m, by omega, t3, h3, h4, rfl, fun q => by omega, fun _ => ⟨by omega, by omega⟩, fun q => by omega, e3, g3⟩
      · exact Or.inr ⟨f, p3, c3, nx, a', l', g', m', w', f1, q1, e3, g3⟩
    · rw [e2, g2, bd_some, bd_some]
      try dsimp only [un0, un1, un2, un3, un4, un5, un6, un7, un8, un9, un10, un11, un12, un13, un14, un15, un16, un17, un18, un32, un33, un35, un36]
      rw [if_pos (show (0 : Int32) = 0 from rfl), ov_K314]
      exact Or.inr ⟨f, p, c, nu', _, _, _, _, _, f1, h.2.1, rfl, rfl⟩
  · subst ci
    rw [show fX6_targetOf N (nI 2) = some (-2) from rfl, bd_some]
    try dsimp only [un0, un1, un2, un3, un4, un5, un6, un7, un8, un9, un10, un11, un12, un13, un14, un15, un16, un17, un18, un32, un33, un35, un36, jn]
    rw [if_pos (show (-2 : Int32) = -2 from rfl)]
    unfold rdK260
    try dsimp only [un0, un1, un2, un3, un4, un5, un6, un7, un8, un9, un10, un11, un12, un13, un14, un15, un16, un17, un18, un32, un33, un35, un36, jn]
    rw [if_neg (show ¬ nI 2 = -1 by decide)]
    unfold rdK273
    try dsimp only [un0, un1, un2, un3, un4, un5, un6, un7, un8, un9, un10, un11, un12, un13, un14, un15, un16, un17, un18, un32, un33, un35, un36, jn]
    rw [if_neg (show ¬ nI 2 = 0 by decide), if_neg (show ¬ nI 2 = 5 by decide), if_neg (show ¬ nI 2 = 1 by decide), if_neg (show ¬ nI 2 = 3 by decide)]
    unfold cdK83
    try dsimp only [un0, un1, un2, un3, un4, un5, un6, un7, un8, un9, un10, un11, un12, un13, un14, un15, un16, un17, un18, un32, un33, un35, un36, jn]
    rw [if_pos (show (-2 : Int32) = -2 from rfl)]
    rcases dr_3 hX h hd hs cf nu fl wa (nI 2) (-2) named dreams names sorts numbers states dr nn nm nb isT ns av wv tv mv with ⟨p3, c3, r3, th, me, nx, a3, t3, h3, h4, e3, g3⟩ | ⟨f, p3, c3, nx, a', l', g', m', w', f1, q1, e3, g3⟩
    · exact Or.inl ⟨p3, c3, r3, th, me, nx, 0, -2, by omega, t3, h3, h4, rfl, fun q => by omega, fun q => by omega, fun _ => rfl, e3, g3⟩
    · exact Or.inr ⟨f, p3, c3, nx, a', l', g', m', w', f1, q1, e3, g3⟩
  · subst ci
    rw [show fX6_targetOf N (nI 3) = some (1) from rfl, bd_some]
    try dsimp only [un0, un1, un2, un3, un4, un5, un6, un7, un8, un9, un10, un11, un12, un13, un14, un15, un16, un17, un18, un32, un33, un35, un36, jn]
    rw [if_neg (show ¬ (1 : Int32) = -2 by decide)]
    unfold rdK260
    try dsimp only [un0, un1, un2, un3, un4, un5, un6, un7, un8, un9, un10, un11, un12, un13, un14, un15, un16, un17, un18, un32, un33, un35, un36, jn]
    rw [if_neg (show ¬ nI 3 = -1 by decide)]
    unfold rdK273
    try dsimp only [un0, un1, un2, un3, un4, un5, un6, un7, un8, un9, un10, un11, un12, un13, un14, un15, un16, un17, un18, un32, un33, un35, un36, jn]
    rw [if_neg (show ¬ nI 3 = 0 by decide), if_neg (show ¬ nI 3 = 5 by decide), if_neg (show ¬ nI 3 = 1 by decide), if_pos (show nI 3 = 3 from rfl)]
    rcases passName_ok hX h hk hM (s' := 1) (s := 1) rfl (by omega) cf nu fl wa with ⟨m, p2, c2, r2, m1, a2, t2, e2, g2⟩ | ⟨f, nu', f1, e2, g2⟩
    · rw [e2, g2, bd_some, bd_some]
      try dsimp only [un0, un1, un2, un3, un4, un5, un6, un7, un8, un9, un10, un11, un12, un13, un14, un15, un16, un17, un18, un32, un33, un35, un36]
      rw [if_neg (show ¬ (1 : Int32) = 0 by decide)]
      unfold cdK83
      try dsimp only [un0, un1, un2, un3, un4, un5, un6, un7, un8, un9, un10, un11, un12, un13, un14, un15, un16, un17, un18, un32, un33, un35, un36, jn]
      rw [if_neg (show ¬ (1 : Int32) = -2 by decide)]
      rcases dr_3 hX t2 hd hs cf (nI m) fl wa (nI 3) (nI m) named dreams names sorts numbers states dr nn nm nb isT ns av wv tv mv with ⟨p3, c3, r3, th, me, nx, a3, t3, h3, h4, e3, g3⟩ | ⟨f, p3, c3, nx, a', l', g', m', w', f1, q1, e3, g3⟩
      · exact Or.inl ⟨p3, c3, r3, th, me, nx, m + 1, nI m, by omega, t3, h3, h4, rfl, fun q => by omega, fun _ => ⟨by omega, by omega⟩, fun q => by omega, e3, g3⟩
      · exact Or.inr ⟨f, p3, c3, nx, a', l', g', m', w', f1, q1, e3, g3⟩
    · rw [e2, g2, bd_some, bd_some]
      try dsimp only [un0, un1, un2, un3, un4, un5, un6, un7, un8, un9, un10, un11, un12, un13, un14, un15, un16, un17, un18, un32, un33, un35, un36]
      rw [if_pos (show (0 : Int32) = 0 from rfl), ov_K314]
      exact Or.inr ⟨f, p, c, nu', _, _, _, _, _, f1, h.2.1, rfl, rfl⟩
  · subst ci
    rw [show fX6_targetOf N (nI 4) = some (-2) from rfl, bd_some]
    try dsimp only [un0, un1, un2, un3, un4, un5, un6, un7, un8, un9, un10, un11, un12, un13, un14, un15, un16, un17, un18, un32, un33, un35, un36, jn]
    rw [if_pos (show (-2 : Int32) = -2 from rfl)]
    unfold rdK260
    try dsimp only [un0, un1, un2, un3, un4, un5, un6, un7, un8, un9, un10, un11, un12, un13, un14, un15, un16, un17, un18, un32, un33, un35, un36, jn]
    rw [if_neg (show ¬ nI 4 = -1 by decide)]
    unfold rdK273
    try dsimp only [un0, un1, un2, un3, un4, un5, un6, un7, un8, un9, un10, un11, un12, un13, un14, un15, un16, un17, un18, un32, un33, un35, un36, jn]
    rw [if_neg (show ¬ nI 4 = 0 by decide), if_neg (show ¬ nI 4 = 5 by decide), if_neg (show ¬ nI 4 = 1 by decide), if_neg (show ¬ nI 4 = 3 by decide)]
    unfold cdK83
    try dsimp only [un0, un1, un2, un3, un4, un5, un6, un7, un8, un9, un10, un11, un12, un13, un14, un15, un16, un17, un18, un32, un33, un35, un36, jn]
    rw [if_pos (show (-2 : Int32) = -2 from rfl)]
    rcases dr_3 hX h hd hs cf nu fl wa (nI 4) (-2) named dreams names sorts numbers states dr nn nm nb isT ns av wv tv mv with ⟨p3, c3, r3, th, me, nx, a3, t3, h3, h4, e3, g3⟩ | ⟨f, p3, c3, nx, a', l', g', m', w', f1, q1, e3, g3⟩
    · exact Or.inl ⟨p3, c3, r3, th, me, nx, 0, -2, by omega, t3, h3, h4, rfl, fun q => by omega, fun q => by omega, fun _ => rfl, e3, g3⟩
    · exact Or.inr ⟨f, p3, c3, nx, a', l', g', m', w', f1, q1, e3, g3⟩
  · subst ci
    rw [show fX6_targetOf N (nI 5) = some (0) from rfl, bd_some]
    try dsimp only [un0, un1, un2, un3, un4, un5, un6, un7, un8, un9, un10, un11, un12, un13, un14, un15, un16, un17, un18, un32, un33, un35, un36, jn]
    rw [if_neg (show ¬ (0 : Int32) = -2 by decide)]
    unfold rdK260
    try dsimp only [un0, un1, un2, un3, un4, un5, un6, un7, un8, un9, un10, un11, un12, un13, un14, un15, un16, un17, un18, un32, un33, un35, un36, jn]
    rw [if_neg (show ¬ nI 5 = -1 by decide)]
    unfold rdK273
    try dsimp only [un0, un1, un2, un3, un4, un5, un6, un7, un8, un9, un10, un11, un12, un13, un14, un15, un16, un17, un18, un32, un33, un35, un36, jn]
    rw [if_neg (show ¬ nI 5 = 0 by decide), if_pos (show nI 5 = 5 from rfl)]
    rcases passName_ok hX h hk hM (s' := 0) (s := 0) rfl (by omega) cf nu fl wa with ⟨m, p2, c2, r2, m1, a2, t2, e2, g2⟩ | ⟨f, nu', f1, e2, g2⟩
    · rw [e2, g2, bd_some, bd_some]
      try dsimp only [un0, un1, un2, un3, un4, un5, un6, un7, un8, un9, un10, un11, un12, un13, un14, un15, un16, un17, un18, un32, un33, un35, un36]
      rw [if_neg (show ¬ (1 : Int32) = 0 by decide)]
      unfold cdK83
      try dsimp only [un0, un1, un2, un3, un4, un5, un6, un7, un8, un9, un10, un11, un12, un13, un14, un15, un16, un17, un18, un32, un33, un35, un36, jn]
      rw [if_neg (show ¬ (0 : Int32) = -2 by decide)]
      rcases dr_3 hX t2 hd hs cf (nI m) fl wa (nI 5) (nI m) named dreams names sorts numbers states dr nn nm nb isT ns av wv tv mv with ⟨p3, c3, r3, th, me, nx, a3, t3, h3, h4, e3, g3⟩ | ⟨f, p3, c3, nx, a', l', g', m', w', f1, q1, e3, g3⟩
      · exact Or.inl ⟨p3, c3, r3, th, me, nx, m + 1, nI m, by omega, t3, h3, h4, rfl, fun _ => ⟨by omega, by omega⟩, fun q => by omega, fun q => by omega, e3, g3⟩
      · exact Or.inr ⟨f, p3, c3, nx, a', l', g', m', w', f1, q1, e3, g3⟩
    · rw [e2, g2, bd_some, bd_some]
      try dsimp only [un0, un1, un2, un3, un4, un5, un6, un7, un8, un9, un10, un11, un12, un13, un14, un15, un16, un17, un18, un32, un33, un35, un36]
      rw [if_pos (show (0 : Int32) = 0 from rfl), ov_K314]
      exact Or.inr ⟨f, p, c, nu', _, _, _, _, _, f1, h.2.1, rfl, rfl⟩
