/-! a night's steps, over tables -/
def crk (I n : Tb) (r : Nat) : Nat → Tb
  | 0 => n
  | j + 1 => if ds I nolk r (I 16 j) < I 1 r then set2 (crk I n r j) 10 j (n 10 j ||| 2 ^ (n 0 0 - 1)) else crk I n r j
theorem crk_f {I n : Tb} {r : Nat} {f i : Nat} (hf : f ≠ 10) : ∀ j, crk I n r j f i = n f i
  | 0 => rfl
  | j + 1 => by
    unfold crk
    split
    · rw [set2_f hf]; exact crk_f hf j
    · exact crk_f hf j
theorem crk_i {I n : Tb} {r : Nat} {i : Nat} : ∀ j, j ≤ i → crk I n r j 10 i = n 10 i
  | 0, _ => rfl
  | j + 1, hj => by
    unfold crk
    split
    · rw [set2_i (by omega)]; exact crk_i j (by omega)
    · exact crk_i j (by omega)
theorem nb_crk {I n : Tb} (h : nb I n) (r : Nat) : ∀ j, j ≤ I 0 5 → nb I (crk I n r j)
  | 0, _ => h
  | j + 1, hj => by
    show nb I (if _ then _ else _)
    split
    · have h1 := h.l (l := j) (by omega)
      have h2 := h.b
      exact (nb_crk h r j (by omega)).n10 (Nat.or_lt_two_pow h1 (Nat.pow_lt_pow_right (by decide) (by omega)))
    · exact nb_crk h r j (by omega)
/-- the state of one who is met -/
def ms (I n : Tb) (j : Nat) : Nat := if I 9 (4 * n 3 j + n 4 j) = 1 ∧ I 13 (4 * n 3 j + n 4 j) ≠ 0 then I 13 (4 * n 3 j + n 4 j) - 1 else n 4 j
theorem ms_lt {I n : Tb} (hi : ib I) (h : nb I n) {j : Nat} (hj : j < I 0 4) : ms I n j < 4 := by
  have h1 := h.k hi hj
  have h2 := h.s hj
  unfold ms
  split
  · rename_i q
    have := hi.told h1 q.1
    omega
  · omega
def aslp (n : Tb) (r j : Nat) : Bool := decide (n 5 j = r ∧ n 7 j = 0)
def mtK (I n : Tb) (p : Nat → Bool) (j : Nat) : Tb := fun f i => if f = 4 ∧ i < j ∧ p i = true then ms I n i else n f i
theorem mtK_0 (I n : Tb) (p : Nat → Bool) : mtK I n p 0 = n := funext fun f => funext fun i => if_neg (by omega)
theorem mtK_f {I n : Tb} {p : Nat → Bool} {j f i : Nat} (hf : f ≠ 4) : mtK I n p j f i = n f i := if_neg (fun q => hf q.1)
theorem mtK_ge {I n : Tb} {p : Nat → Bool} {j f i : Nat} (h : j ≤ i) : mtK I n p j f i = n f i := if_neg (by omega)
theorem mtK_no {I n : Tb} {p : Nat → Bool} {j : Nat} (h : p j = false) : mtK I n p (j + 1) = mtK I n p j := by
  funext f i
  unfold mtK
  by_cases c : f = 4 ∧ i < j ∧ p i = true
  · rw [if_pos c, if_pos ⟨c.1, by omega, c.2.2⟩]
  · rw [if_neg c, if_neg]
    intro ⟨q1, q2, q3⟩
    have : i ≠ j := fun e => by rw [e, h] at q3; cases q3
    exact c ⟨q1, by omega, q3⟩
theorem mtK_yes {I n : Tb} {p : Nat → Bool} {j : Nat} (h : p j = true) : mtK I n p (j + 1) = set2 (mtK I n p j) 4 j (ms I n j) := by
  funext f i
  unfold mtK set2
  by_cases c : f = 4 ∧ i = j
  · obtain ⟨rfl, rfl⟩ := c
    rw [if_pos ⟨rfl, by omega, h⟩, if_pos ⟨rfl, rfl⟩]
  · rw [if_neg c]
    show _ = (if f = 4 ∧ i < j ∧ p i = true then ms I n i else n f i)
    by_cases c2 : f = 4 ∧ i < j ∧ p i = true
    · rw [if_pos c2, if_pos ⟨c2.1, by omega, c2.2.2⟩]
    · rw [if_neg c2, if_neg]
      intro ⟨q1, q2, q3⟩
      exact c2 ⟨q1, by omega, q3⟩
/-- what meeting comes to for one hangs on nothing that meeting changes of others -/
theorem mtK_ms {I n : Tb} {p : Nat → Bool} {j i : Nat} (h : j ≤ i ∨ p i = false) : ms I (mtK I n p j) i = ms I n i := by
  have h4 : mtK I n p j 4 i = n 4 i := by
    unfold mtK
    rw [if_neg]
    intro ⟨_, q2, q3⟩
    rcases h with h | h
    · omega
    · rw [h] at q3; cases q3
  unfold ms
  rw [h4, mtK_f (by omega)]
theorem nb_mtK {I n : Tb} (hi : ib I) (h : nb I n) (p : Nat → Bool) (j : Nat) : nb I (mtK I n p j) := by
  refine ⟨by rw [mtK_f (by omega)]; exact h.1, fun d hd => by rw [mtK_f (by omega), mtK_f (by omega)]; exact h.d hd, fun s hs => ?_, fun t ht => by rw [mtK_f (by omega), mtK_f (by omega)]; exact h.t ht, fun l hl => by rw [mtK_f (by omega)]; exact h.l hl⟩
  have h1 := h.s hs
  have h2 := ms_lt hi h hs
  rw [mtK_f (f := 3) (by omega), mtK_f (f := 5) (by omega), mtK_f (f := 6) (by omega), mtK_f (f := 7) (by omega)]
  refine ⟨h1.1, ?_, h1.2.2⟩
  unfold mtK
  split
  · exact h2
  · exact h1.2.1
/-- somebody has come to a room: who sleeps there meets -/
def mta (I n : Tb) (s r : Nat) : Tb := if fa_first (fun q => decide (q ≠ s) && aslp n r q) (I 0 4) < I 0 4 then mtK I n (aslp n r) (I 0 4) else n
theorem nb_mta {I n : Tb} (hi : ib I) (h : nb I n) (s r : Nat) : nb I (mta I n s r) := by
  unfold mta
  split
  · exact nb_mtK hi h _ _
  · exact h
def gon (I n : Tb) (s r d : Nat) : Tb := set2 (set2 (set2 n 1 d (I 6 d)) 2 d (n 2 d + 1)) 5 s r
def goh (n m : Tb) (s r : Nat) : Tb := if n 6 s = 0 then m else set2 m 8 (n 6 s - 1) r
def goTo (I n : Tb) (s r : Nat) : Tb := if I 2 r = 0 then mta I (crk I (goh n (gon I n s r (dbt I (n 5 s) r)) s r) r (I 0 5)) s r else set2 (crk I (goh n (gon I n s r (dbt I (n 5 s) r)) s r) r (I 0 5)) 7 s 1
def nxt (I n : Tb) (s a : Nat) : Nat := fa_first (isT (ds I (lks I (n 0 1))) (n 5 s) a) (I 0 0)
def go (I n : Tb) (s a : Nat) : Tb := if nxt I n s a < I 0 0 then goTo I n s (nxt I n s a) else n
/-- the door of the next step: it is there, and not locked -/
theorem nxt_door {I n : Tb} (hi : ib I) (h : nb I n) {s a : Nat} (hs : s < I 0 4) (hn : nxt I n s a < I 0 0) : dbt I (n 5 s) (nxt I n s a) < I 0 1 ∧ n 1 (dbt I (n 5 s) (nxt I n s a)) ≠ 2 ∧ n 5 s ≠ nxt I n s a := by
  have h1 := fa_first_yes _ _ hn
  have h2 := (h.s hs).2.2.1
  have h3 := (of_decide_eq_true h1).1
  have h4 : adjD (I 0 1) (I 3) (I 4) (lks I (n 0 1)) (n 5 s) (nxt I n s a) := (ds_adj hi _ h2 hn).mp h3
  have h5 := (dbt_adj hi _).mp h4
  refine ⟨h5.1, fun e => ?_, fun e => ?_⟩
  · have h6 := ((h.d h5.1).2).mp e
    have h7 := h5.2
    unfold lks at h7
    rw [h6] at h7
    cases h7
  · obtain ⟨d, d1, _, d3⟩ := h4
    have := (hi.door d1).2.2.1
    rcases d3 with ⟨x, y⟩ | ⟨x, y⟩ <;> omega
theorem nb_goTo {I n : Tb} (hi : ib I) (h : nb I n) {s r : Nat} (hs : s < I 0 4) (hr : r < I 0 0) (hd : dbt I (n 5 s) r < I 0 1) (hl : n 1 (dbt I (n 5 s) r) ≠ 2) : nb I (goTo I n s r) := by
  have h6 := (hi.door hd).2.2.2.2
  have h1 : nb I (gon I n s r (dbt I (n 5 s) r)) := ((h.n1 (by omega) (by omega)).n2).n5 hr
  have h2 : nb I (goh n (gon I n s r (dbt I (n 5 s) r)) s r) := by
    unfold goh
    split
    · exact h1
    · exact h1.n8 hr
  have h3 := nb_crk h2 r (I 0 5) (Nat.le_refl _)
  unfold goTo
  split
  · exact nb_mta hi h3 _ _
  · exact h3.n7 (by omega)
theorem nb_go {I n : Tb} (hi : ib I) (h : nb I n) {s : Nat} (a : Nat) (hs : s < I 0 4) : nb I (go I n s a) := by
  unfold go
  split
  · rename_i q
    have := nxt_door hi h hs q
    exact nb_goTo hi h hs q this.1 this.2.1
  · exact h
/-- who holds a thing -/
def hld (I n : Tb) (t : Nat) : Nat := fa_first (fun q => decide (n 6 q = t + 1)) (I 0 4)
def thn (I n : Tb) (s k : Nat) : Tb := set2 n 4 s (I 12 k)
/-- one sleeper's minute, told state k -/
def dos (I n : Tb) (s k : Nat) : Tb :=
  if I 10 k = 0 then (if n 5 s = I 11 k - 1 then thn I n s k else go I n s (I 11 k - 1))
  else if I 10 k = 1 then (if n 8 (I 11 k - 1) = n 5 s ∧ n 6 s = 0 ∧ ¬ hld I n (I 11 k - 1) < I 0 4 then thn I (set2 n 6 s (I 11 k)) s k else n)
  else if I 10 k = 2 then (if n 6 s = 0 then n else thn I (set2 n 6 s 0) s k)
  else if I 10 k = 3 then (if n 8 (I 11 k - 1) = n 5 s ∧ n 9 (I 11 k - 1) ≠ 0 then thn I (set2 n 9 (I 11 k - 1) 0) s k else n)
  else if I 10 k = 4 then thn I n s k
  else (if dbt I (n 5 s) (I 11 k - 1) < I 0 1 ∧ n 1 (dbt I (n 5 s) (I 11 k - 1)) = 0 then thn I (set2 n 1 (dbt I (n 5 s) (I 11 k - 1)) 1) s k else n)
def act (I n : Tb) (s : Nat) : Tb := if n 7 s = 0 ∧ I 9 (4 * n 3 s + n 4 s) = 1 then dos I n s (4 * n 3 s + n 4 s) else n
theorem nb_act {I n : Tb} (hi : ib I) (h : nb I n) {s : Nat} (hs : s < I 0 4) : nb I (act I n s) := by
  unfold act
  split
  · rename_i q
    have hk := h.k hi hs
    obtain ⟨k1, k2, k3, k4, k5, k6⟩ := hi.told hk q.2
    generalize 4 * n 3 s + n 4 s = k at *
    have th : ∀ m : Tb, nb I m → nb I (thn I m s k) := fun m hm => hm.n4 k3
    unfold dos
    split
    · split
      · exact th _ h
      · exact nb_go hi h _ hs
    · split
      · split
        · exact th _ (h.n6 (k6 (by omega)).2)
        · exact h
      · split
        · split
          · exact h
          · exact th _ (h.n6 (by omega))
        · split
          · split
            · exact th _ (h.n9 (by omega))
            · exact h
          · split
            · exact th _ h
            · split
              · rename_i q2
                refine th _ (h.n1 (by omega) ?_)
                omega
              · exact h
  · exact h
/-- a minute, j sleepers done -/
def mns (I n : Tb) : Nat → Tb
  | 0 => set2 n 0 0 (n 0 0 + 1)
  | j + 1 => act I (mns I n j) j
theorem nb_mns {I n : Tb} (hi : ib I) (h : nb I n) (hm : n 0 0 < 40) : ∀ j, j ≤ I 0 4 → nb I (mns I n j)
  | 0, _ => h.n0 (by omega)
  | j + 1, hj => nb_act hi (nb_mns hi h hm j (by omega)) (by omega)
def pas (I n : Tb) : Nat → Tb
  | 0 => n
  | k + 1 => mns I (pas I n k) (I 0 4)
