theorem CI_inn {J : Tb} {minutes things dreams sleepers listeners rooms doors : Int32} {listensIn bed dreamOf states thingIn full one other how falls creak cold : Nat → Int32} {v : Nat} (h : CI J minutes things dreams sleepers listeners rooms doors listensIn bed dreamOf states thingIn full one other how falls creak cold) : CI (jInn J v) (nI v) things dreams sleepers listeners rooms doors listensIn bed dreamOf states thingIn full one other how falls creak cold := by
  obtain ⟨⟨c1, c2, c3, c4, c5, c6, c7⟩, ⟨q1, q2, q3, q4, q5, q6⟩, hS, hw, ht, hb, hf⟩ := h
  unfold jInn
  refine ⟨⟨by simp (disch := omega) only [set2_f, set2_i, set2_s], by simp (disch := omega) only [set2_f, set2_i, set2_s]; exact c2, by simp (disch := omega) only [set2_f, set2_i, set2_s]; exact c3, by simp (disch := omega) only [set2_f, set2_i, set2_s]; exact c4, by simp (disch := omega) only [set2_f, set2_i, set2_s]; exact c5, by simp (disch := omega) only [set2_f, set2_i, set2_s]; exact c6, by simp (disch := omega) only [set2_f, set2_i, set2_s]; exact c7⟩, ⟨?_, ?_, ?_, ?_, ?_, ?_⟩, ?_, ?_, ?_, ?_, ?_⟩
  · exact fun i hi => by
      simp (disch := omega) only [set2_f, set2_i, set2_s] at hi ⊢
      exact q1 i hi
  · exact fun i hi => by
      simp (disch := omega) only [set2_f, set2_i, set2_s] at hi ⊢
      exact q2 i hi
  · exact fun i hi => by
      simp (disch := omega) only [set2_f, set2_i, set2_s] at hi ⊢
      exact q3 i hi
  · exact fun i hi => by
      simp (disch := omega) only [set2_f, set2_i, set2_s] at hi ⊢
      exact q4 i hi
  · exact fun i hi => by
      simp (disch := omega) only [set2_f, set2_i, set2_s] at hi ⊢
      exact q5 i hi
  · exact fun i hi => by
      simp (disch := omega) only [set2_f, set2_i, set2_s] at hi ⊢
      exact q6 i hi
  · exact fun k p hk hp => by
      have := hS k p hk hp
      unfold sv at this ⊢
      simp (disch := omega) only [set2_f, set2_i, set2_s]
      exact this
  · exact fun i hi => by
      simp (disch := omega) only [set2_f, set2_i, set2_s] at hi ⊢
      exact hw i hi
  · exact fun i hi => by
      simp (disch := omega) only [set2_f, set2_i, set2_s] at hi ⊢
      exact ht i hi
  · exact fun i hi => by
      simp (disch := omega) only [set2_f, set2_i, set2_s] at hi ⊢
      exact hb i hi
  · exact hf
theorem CI_room {J : Tb} {minutes things dreams sleepers listeners rooms doors : Int32} {listensIn bed dreamOf states thingIn full one other how falls creak cold : Nat → Int32} {v x : Nat} (h : CI J minutes things dreams sleepers listeners rooms doors listensIn bed dreamOf states thingIn full one other how falls creak cold) : CI (jRoom J v x) minutes things dreams sleepers listeners (nI (J 0 0 + 1)) doors listensIn bed dreamOf states thingIn full one other how falls (upd creak (J 0 0) (nI v)) (upd cold (J 0 0) (nI x)) := by
  obtain ⟨⟨c1, c2, c3, c4, c5, c6, c7⟩, ⟨q1, q2, q3, q4, q5, q6⟩, hS, hw, ht, hb, hf⟩ := h
  unfold jRoom
  refine ⟨⟨by simp (disch := omega) only [set2_f, set2_i, set2_s]; exact c1, by simp (disch := omega) only [set2_f, set2_i, set2_s]; exact c2, by simp (disch := omega) only [set2_f, set2_i, set2_s]; exact c3, by simp (disch := omega) only [set2_f, set2_i, set2_s]; exact c4, by simp (disch := omega) only [set2_f, set2_i, set2_s]; exact c5, by simp (disch := omega) only [set2_f, set2_i, set2_s], by simp (disch := omega) only [set2_f, set2_i, set2_s]; exact c7⟩, ⟨?_, ?_, ?_, ?_, ?_, ?_⟩, ?_, ?_, ?_, ?_, ?_⟩
  · exact fun i hi => by
      simp (disch := omega) only [set2_f, set2_i, set2_s] at hi ⊢
      exact q1 i hi
  · exact fun i hi => by
      simp (disch := omega) only [set2_f, set2_i, set2_s] at hi ⊢
      exact q2 i hi
  · exact fun i hi => by
      simp (disch := omega) only [set2_f, set2_i, set2_s] at hi ⊢
      exact q3 i hi
  · exact fun i hi => by
      simp (disch := omega) only [set2_f, set2_i, set2_s] at hi
      by_cases c : i = J 0 0
      · subst c
        simp (disch := omega) only [set2_f, set2_i, set2_s]
        exact pk_us
      · simp (disch := omega) only [set2_f, set2_i, set2_s]
        rw [pk_un c]; exact q4 i (by omega)
  · exact fun i hi => by
      simp (disch := omega) only [set2_f, set2_i, set2_s] at hi
      by_cases c : i = J 0 0
      · subst c
        simp (disch := omega) only [set2_f, set2_i, set2_s]
        exact pk_us
      · simp (disch := omega) only [set2_f, set2_i, set2_s]
        rw [pk_un c]; exact q5 i (by omega)
  · exact fun i hi => by
      simp (disch := omega) only [set2_f, set2_i, set2_s] at hi ⊢
      exact q6 i hi
  · exact fun k p hk hp => by
      have := hS k p hk hp
      unfold sv at this ⊢
      simp (disch := omega) only [set2_f, set2_i, set2_s]
      exact this
  · exact fun i hi => by
      simp (disch := omega) only [set2_f, set2_i, set2_s] at hi ⊢
      exact hw i hi
  · exact fun i hi => by
      simp (disch := omega) only [set2_f, set2_i, set2_s] at hi ⊢
      exact ht i hi
  · exact fun i hi => by
      simp (disch := omega) only [set2_f, set2_i, set2_s] at hi ⊢
      exact hb i hi
  · exact hf
theorem CI_door {J : Tb} {minutes things dreams sleepers listeners rooms doors : Int32} {listensIn bed dreamOf states thingIn full one other how falls creak cold : Nat → Int32} {u v y x : Nat} (h : CI J minutes things dreams sleepers listeners rooms doors listensIn bed dreamOf states thingIn full one other how falls creak cold) : CI (jDoor J u v y x) minutes things dreams sleepers listeners rooms (nI (J 0 1 + 1)) listensIn bed dreamOf states thingIn full (upd one (J 0 1) (nI u)) (upd other (J 0 1) (nI v)) (upd how (J 0 1) (nI y)) (upd falls (J 0 1) (nI x)) creak cold := by
  obtain ⟨⟨c1, c2, c3, c4, c5, c6, c7⟩, ⟨q1, q2, q3, q4, q5, q6⟩, hS, hw, ht, hb, hf⟩ := h
  unfold jDoor
  refine ⟨⟨by simp (disch := omega) only [set2_f, set2_i, set2_s]; exact c1, by simp (disch := omega) only [set2_f, set2_i, set2_s]; exact c2, by simp (disch := omega) only [set2_f, set2_i, set2_s]; exact c3, by simp (disch := omega) only [set2_f, set2_i, set2_s]; exact c4, by simp (disch := omega) only [set2_f, set2_i, set2_s]; exact c5, by simp (disch := omega) only [set2_f, set2_i, set2_s]; exact c6, by simp (disch := omega) only [set2_f, set2_i, set2_s]⟩, ⟨?_, ?_, ?_, ?_, ?_, ?_⟩, ?_, ?_, ?_, ?_, ?_⟩
  · exact fun i hi => by
      simp (disch := omega) only [set2_f, set2_i, set2_s] at hi
      by_cases c : i = J 0 1
      · subst c
        simp (disch := omega) only [set2_f, set2_i, set2_s]
        exact pk_us
      · simp (disch := omega) only [set2_f, set2_i, set2_s]
        rw [pk_un c]; exact q1 i (by omega)
  · exact fun i hi => by
      simp (disch := omega) only [set2_f, set2_i, set2_s] at hi
      by_cases c : i = J 0 1
      · subst c
        simp (disch := omega) only [set2_f, set2_i, set2_s]
        exact pk_us
      · simp (disch := omega) only [set2_f, set2_i, set2_s]
        rw [pk_un c]; exact q2 i (by omega)
  · exact fun i hi => by
      simp (disch := omega) only [set2_f, set2_i, set2_s] at hi
      by_cases c : i = J 0 1
      · subst c
        simp (disch := omega) only [set2_f, set2_i, set2_s]
        exact pk_us
      · simp (disch := omega) only [set2_f, set2_i, set2_s]
        rw [pk_un c]; exact q3 i (by omega)
  · exact fun i hi => by
      simp (disch := omega) only [set2_f, set2_i, set2_s] at hi ⊢
      exact q4 i hi
  · exact fun i hi => by
      simp (disch := omega) only [set2_f, set2_i, set2_s] at hi ⊢
      exact q5 i hi
  · exact fun i hi => by
      simp (disch := omega) only [set2_f, set2_i, set2_s] at hi ⊢
      exact q6 i hi
  · exact fun k p hk hp => by
      have := hS k p hk hp
      unfold sv at this ⊢
      simp (disch := omega) only [set2_f, set2_i, set2_s]
      exact this
  · exact fun i hi => by
      simp (disch := omega) only [set2_f, set2_i, set2_s] at hi
      by_cases c : i = J 0 1
      · subst c
        simp (disch := omega) only [set2_f, set2_i, set2_s]
        exact pk_us
      · simp (disch := omega) only [set2_f, set2_i, set2_s]
        rw [pk_un c]; exact hw i (by omega)
  · exact fun i hi => by
      simp (disch := omega) only [set2_f, set2_i, set2_s] at hi ⊢
      exact ht i hi
  · exact fun i hi => by
      simp (disch := omega) only [set2_f, set2_i, set2_s] at hi ⊢
      exact hb i hi
  · exact hf
theorem CI_thing {J : Tb} {minutes things dreams sleepers listeners rooms doors : Int32} {listensIn bed dreamOf states thingIn full one other how falls creak cold : Nat → Int32} {v x : Nat} (hx : x ≤ 1) (h : CI J minutes things dreams sleepers listeners rooms doors listensIn bed dreamOf states thingIn full one other how falls creak cold) : CI (jThing J v x) minutes (nI (J 0 2 + 1)) dreams sleepers listeners rooms doors listensIn bed dreamOf states (upd thingIn (J 0 2) (nI v)) (upd full (J 0 2) (nI x)) one other how falls creak cold := by
  obtain ⟨⟨c1, c2, c3, c4, c5, c6, c7⟩, ⟨q1, q2, q3, q4, q5, q6⟩, hS, hw, ht, hb, hf⟩ := h
  unfold jThing
  refine ⟨⟨by simp (disch := omega) only [set2_f, set2_i, set2_s]; exact c1, by simp (disch := omega) only [set2_f, set2_i, set2_s], by simp (disch := omega) only [set2_f, set2_i, set2_s]; exact c3, by simp (disch := omega) only [set2_f, set2_i, set2_s]; exact c4, by simp (disch := omega) only [set2_f, set2_i, set2_s]; exact c5, by simp (disch := omega) only [set2_f, set2_i, set2_s]; exact c6, by simp (disch := omega) only [set2_f, set2_i, set2_s]; exact c7⟩, ⟨?_, ?_, ?_, ?_, ?_, ?_⟩, ?_, ?_, ?_, ?_, ?_⟩
  · exact fun i hi => by
      simp (disch := omega) only [set2_f, set2_i, set2_s] at hi ⊢
      exact q1 i hi
  · exact fun i hi => by
      simp (disch := omega) only [set2_f, set2_i, set2_s] at hi ⊢
      exact q2 i hi
  · exact fun i hi => by
      simp (disch := omega) only [set2_f, set2_i, set2_s] at hi ⊢
      exact q3 i hi
  · exact fun i hi => by
      simp (disch := omega) only [set2_f, set2_i, set2_s] at hi ⊢
      exact q4 i hi
  · exact fun i hi => by
      simp (disch := omega) only [set2_f, set2_i, set2_s] at hi ⊢
      exact q5 i hi
  · exact fun i hi => by
      simp (disch := omega) only [set2_f, set2_i, set2_s] at hi ⊢
      exact q6 i hi
  · exact fun k p hk hp => by
      have := hS k p hk hp
      unfold sv at this ⊢
      simp (disch := omega) only [set2_f, set2_i, set2_s]
      exact this
  · exact fun i hi => by
      simp (disch := omega) only [set2_f, set2_i, set2_s] at hi ⊢
      exact hw i hi
  · exact fun i hi => by
      simp (disch := omega) only [set2_f, set2_i, set2_s] at hi
      by_cases c : i = J 0 2
      · subst c
        simp (disch := omega) only [set2_f, set2_i, set2_s]
        exact ⟨pk_us, pk_us⟩
      · simp (disch := omega) only [set2_f, set2_i, set2_s]
        rw [pk_un c, pk_un c]; exact ht i (by omega)
  · exact fun i hi => by
      simp (disch := omega) only [set2_f, set2_i, set2_s] at hi ⊢
      exact hb i hi
  · exact fun i hi => by
      by_cases c : i = J 0 2
      · rw [c, pk_us]
        rcases Nat.lt_or_ge x 1 with z | z
        · have : x = 0 := by omega
          rw [this]; exact Or.inl rfl
        · have : x = 1 := by omega
          rw [this]; exact Or.inr rfl
      · rw [pk_un c]; exact hf i hi
theorem CI_sleeper {J : Tb} {minutes things dreams sleepers listeners rooms doors : Int32} {listensIn bed dreamOf states thingIn full one other how falls creak cold : Nat → Int32} {v x : Nat} (h : CI J minutes things dreams sleepers listeners rooms doors listensIn bed dreamOf states thingIn full one other how falls creak cold) : CI (jSleeper J v x) minutes things dreams (nI (J 0 4 + 1)) listeners rooms doors listensIn (upd bed (J 0 4) (nI v)) (upd dreamOf (J 0 4) (nI x)) states thingIn full one other how falls creak cold := by
  obtain ⟨⟨c1, c2, c3, c4, c5, c6, c7⟩, ⟨q1, q2, q3, q4, q5, q6⟩, hS, hw, ht, hb, hf⟩ := h
  unfold jSleeper
  refine ⟨⟨by simp (disch := omega) only [set2_f, set2_i, set2_s]; exact c1, by simp (disch := omega) only [set2_f, set2_i, set2_s]; exact c2, by simp (disch := omega) only [set2_f, set2_i, set2_s]; exact c3, by simp (disch := omega) only [set2_f, set2_i, set2_s], by simp (disch := omega) only [set2_f, set2_i, set2_s]; exact c5, by simp (disch := omega) only [set2_f, set2_i, set2_s]; exact c6, by simp (disch := omega) only [set2_f, set2_i, set2_s]; exact c7⟩, ⟨?_, ?_, ?_, ?_, ?_, ?_⟩, ?_, ?_, ?_, ?_, ?_⟩
  · exact fun i hi => by
      simp (disch := omega) only [set2_f, set2_i, set2_s] at hi ⊢
      exact q1 i hi
  · exact fun i hi => by
      simp (disch := omega) only [set2_f, set2_i, set2_s] at hi ⊢
      exact q2 i hi
  · exact fun i hi => by
      simp (disch := omega) only [set2_f, set2_i, set2_s] at hi ⊢
      exact q3 i hi
  · exact fun i hi => by
      simp (disch := omega) only [set2_f, set2_i, set2_s] at hi ⊢
      exact q4 i hi
  · exact fun i hi => by
      simp (disch := omega) only [set2_f, set2_i, set2_s] at hi ⊢
      exact q5 i hi
  · exact fun i hi => by
      simp (disch := omega) only [set2_f, set2_i, set2_s] at hi ⊢
      exact q6 i hi
  · exact fun k p hk hp => by
      have := hS k p hk hp
      unfold sv at this ⊢
      simp (disch := omega) only [set2_f, set2_i, set2_s]
      exact this
  · exact fun i hi => by
      simp (disch := omega) only [set2_f, set2_i, set2_s] at hi ⊢
      exact hw i hi
  · exact fun i hi => by
      simp (disch := omega) only [set2_f, set2_i, set2_s] at hi ⊢
      exact ht i hi
  · exact fun i hi => by
      simp (disch := omega) only [set2_f, set2_i, set2_s] at hi
      by_cases c : i = J 0 4
      · subst c
        simp (disch := omega) only [set2_f, set2_i, set2_s]
        exact ⟨pk_us, pk_us⟩
      · simp (disch := omega) only [set2_f, set2_i, set2_s]
        rw [pk_un c, pk_un c]; exact hb i (by omega)
  · exact hf
theorem CI_listens {J : Tb} {minutes things dreams sleepers listeners rooms doors : Int32} {listensIn bed dreamOf states thingIn full one other how falls creak cold : Nat → Int32} {v : Nat} (h : CI J minutes things dreams sleepers listeners rooms doors listensIn bed dreamOf states thingIn full one other how falls creak cold) : CI (jListens J v) minutes things dreams sleepers (nI (J 0 5 + 1)) rooms doors (upd listensIn (J 0 5) (nI v)) bed dreamOf states thingIn full one other how falls creak cold := by
  obtain ⟨⟨c1, c2, c3, c4, c5, c6, c7⟩, ⟨q1, q2, q3, q4, q5, q6⟩, hS, hw, ht, hb, hf⟩ := h
  unfold jListens
  refine ⟨⟨by simp (disch := omega) only [set2_f, set2_i, set2_s]; exact c1, by simp (disch := omega) only [set2_f, set2_i, set2_s]; exact c2, by simp (disch := omega) only [set2_f, set2_i, set2_s]; exact c3, by simp (disch := omega) only [set2_f, set2_i, set2_s]; exact c4, by simp (disch := omega) only [set2_f, set2_i, set2_s], by simp (disch := omega) only [set2_f, set2_i, set2_s]; exact c6, by simp (disch := omega) only [set2_f, set2_i, set2_s]; exact c7⟩, ⟨?_, ?_, ?_, ?_, ?_, ?_⟩, ?_, ?_, ?_, ?_, ?_⟩
  · exact fun i hi => by
      simp (disch := omega) only [set2_f, set2_i, set2_s] at hi ⊢
      exact q1 i hi
  · exact fun i hi => by
      simp (disch := omega) only [set2_f, set2_i, set2_s] at hi ⊢
      exact q2 i hi
  · exact fun i hi => by
      simp (disch := omega) only [set2_f, set2_i, set2_s] at hi ⊢
      exact q3 i hi
  · exact fun i hi => by
      simp (disch := omega) only [set2_f, set2_i, set2_s] at hi ⊢
      exact q4 i hi
  · exact fun i hi => by
      simp (disch := omega) only [set2_f, set2_i, set2_s] at hi ⊢
      exact q5 i hi
  · exact fun i hi => by
      simp (disch := omega) only [set2_f, set2_i, set2_s] at hi
      by_cases c : i = J 0 5
      · subst c
        simp (disch := omega) only [set2_f, set2_i, set2_s]
        exact pk_us
      · simp (disch := omega) only [set2_f, set2_i, set2_s]
        rw [pk_un c]; exact q6 i (by omega)
  · exact fun k p hk hp => by
      have := hS k p hk hp
      unfold sv at this ⊢
      simp (disch := omega) only [set2_f, set2_i, set2_s]
      exact this
  · exact fun i hi => by
      simp (disch := omega) only [set2_f, set2_i, set2_s] at hi ⊢
      exact hw i hi
  · exact fun i hi => by
      simp (disch := omega) only [set2_f, set2_i, set2_s] at hi ⊢
      exact ht i hi
  · exact fun i hi => by
      simp (disch := omega) only [set2_f, set2_i, set2_s] at hi ⊢
      exact hb i hi
  · exact hf
theorem CI_dream {J : Tb} {minutes things dreams sleepers listeners rooms doors : Int32} {listensIn bed dreamOf states thingIn full one other how falls creak cold : Nat → Int32} {q i w t m D : Nat} (h : CI J minutes things dreams sleepers listeners rooms doors listensIn bed dreamOf states thingIn full one other how falls creak cold) : CI (jDream J q i w t m D) minutes things (nI D) sleepers listeners rooms doors listensIn bed dreamOf (stU states q (nI i) (hI w) (nI t) (hI m)) thingIn full one other how falls creak cold := by
  obtain ⟨⟨c1, c2, c3, c4, c5, c6, c7⟩, ⟨q1, q2, q3, q4, q5, q6⟩, hS, hw, ht, hb, hf⟩ := h
  unfold jDream
  refine ⟨⟨by simp (disch := omega) only [set2_f, set2_i, set2_s]; exact c1, by simp (disch := omega) only [set2_f, set2_i, set2_s]; exact c2, by simp (disch := omega) only [set2_f, set2_i, set2_s], by simp (disch := omega) only [set2_f, set2_i, set2_s]; exact c4, by simp (disch := omega) only [set2_f, set2_i, set2_s]; exact c5, by simp (disch := omega) only [set2_f, set2_i, set2_s]; exact c6, by simp (disch := omega) only [set2_f, set2_i, set2_s]; exact c7⟩, ⟨?_, ?_, ?_, ?_, ?_, ?_⟩, ?_, ?_, ?_, ?_, ?_⟩
  · exact fun i hi => by
      simp (disch := omega) only [set2_f, set2_i, set2_s] at hi ⊢
      exact q1 i hi
  · exact fun i hi => by
      simp (disch := omega) only [set2_f, set2_i, set2_s] at hi ⊢
      exact q2 i hi
  · exact fun i hi => by
      simp (disch := omega) only [set2_f, set2_i, set2_s] at hi ⊢
      exact q3 i hi
  · exact fun i hi => by
      simp (disch := omega) only [set2_f, set2_i, set2_s] at hi ⊢
      exact q4 i hi
  · exact fun i hi => by
      simp (disch := omega) only [set2_f, set2_i, set2_s] at hi ⊢
      exact q5 i hi
  · exact fun i hi => by
      simp (disch := omega) only [set2_f, set2_i, set2_s] at hi ⊢
      exact q6 i hi
  · exact fun k p hk hp => by
      by_cases c : k = q
      · subst c
        unfold sv stU
        simp (disch := omega) only [set2_f, set2_i, set2_s]
        have cp : p = 0 ∨ p = 1 ∨ p = 2 ∨ p = 3 := by omega
        rcases cp with z | z | z | z <;> subst z
        · rw [pk_un (by omega), pk_un (by omega), pk_un (by omega)]
          exact pk_us
        · rw [pk_un (by omega), pk_un (by omega)]
          exact pk_us
        · rw [pk_un (by omega)]
          exact pk_us
        · exact pk_us
      · have := hS k p hk hp
        unfold stU
        rw [pk_un (by omega), pk_un (by omega), pk_un (by omega), pk_un (by omega)]
        unfold sv at this ⊢
        simp (disch := omega) only [set2_f, set2_i, set2_s]
        exact this
  · exact fun i hi => by
      simp (disch := omega) only [set2_f, set2_i, set2_s] at hi ⊢
      exact hw i hi
  · exact fun i hi => by
      simp (disch := omega) only [set2_f, set2_i, set2_s] at hi ⊢
      exact ht i hi
  · exact fun i hi => by
      simp (disch := omega) only [set2_f, set2_i, set2_s] at hi ⊢
      exact hb i hi
  · exact hf
theorem RI_inn {J : Tb} {rminutes rrooms rdoors rthings rdreams rsleepers rlisteners : Int32} {rlistens rbed rdream risTold ract rwhat rthen rmet rlies rfull rA rB rhow rfalls rcreak rcold : Nat → Int32} {v : Nat} (h : RI J rminutes rrooms rdoors rthings rdreams rsleepers rlisteners rlistens rbed rdream risTold ract rwhat rthen rmet rlies rfull rA rB rhow rfalls rcreak rcold) : RI (jInn J v) (nI v) rrooms rdoors rthings rdreams rsleepers rlisteners rlistens rbed rdream risTold ract rwhat rthen rmet rlies rfull rA rB rhow rfalls rcreak rcold := by
  obtain ⟨⟨c1, c2, c3, c4, c5, c6, c7⟩, hS, hd, hr, ht, hb, hl⟩ := h
  unfold jInn
  refine ⟨⟨by simp (disch := omega) only [set2_f, set2_i, set2_s], by simp (disch := omega) only [set2_f, set2_i, set2_s]; exact c2, by simp (disch := omega) only [set2_f, set2_i, set2_s]; exact c3, by simp (disch := omega) only [set2_f, set2_i, set2_s]; exact c4, by simp (disch := omega) only [set2_f, set2_i, set2_s]; exact c5, by simp (disch := omega) only [set2_f, set2_i, set2_s]; exact c6, by simp (disch := omega) only [set2_f, set2_i, set2_s]; exact c7⟩, ?_, ?_, ?_, ?_, ?_, ?_⟩
  · exact fun k hk => by
      have := hS k hk
      simp (disch := omega) only [set2_f, set2_i, set2_s]
      exact this
  · exact fun i hi => by
      simp (disch := omega) only [set2_f, set2_i, set2_s] at hi ⊢
      exact hd i hi
  · exact fun i hi => by
      simp (disch := omega) only [set2_f, set2_i, set2_s] at hi ⊢
      exact hr i hi
  · exact fun i hi => by
      simp (disch := omega) only [set2_f, set2_i, set2_s] at hi ⊢
      exact ht i hi
  · exact fun i hi => by
      simp (disch := omega) only [set2_f, set2_i, set2_s] at hi ⊢
      exact hb i hi
  · exact fun i hi => by
      simp (disch := omega) only [set2_f, set2_i, set2_s] at hi ⊢
      exact hl i hi
theorem RI_room {J : Tb} {rminutes rrooms rdoors rthings rdreams rsleepers rlisteners : Int32} {rlistens rbed rdream risTold ract rwhat rthen rmet rlies rfull rA rB rhow rfalls rcreak rcold : Nat → Int32} {v x : Nat} (h : RI J rminutes rrooms rdoors rthings rdreams rsleepers rlisteners rlistens rbed rdream risTold ract rwhat rthen rmet rlies rfull rA rB rhow rfalls rcreak rcold) : RI (jRoom J v x) rminutes (nI (J 0 0 + 1)) rdoors rthings rdreams rsleepers rlisteners rlistens rbed rdream risTold ract rwhat rthen rmet rlies rfull rA rB rhow rfalls (upd rcreak (J 0 0) (nI v)) (upd rcold (J 0 0) (nI x)) := by
  obtain ⟨⟨c1, c2, c3, c4, c5, c6, c7⟩, hS, hd, hr, ht, hb, hl⟩ := h
  unfold jRoom
  refine ⟨⟨by simp (disch := omega) only [set2_f, set2_i, set2_s]; exact c1, by simp (disch := omega) only [set2_f, set2_i, set2_s], by simp (disch := omega) only [set2_f, set2_i, set2_s]; exact c3, by simp (disch := omega) only [set2_f, set2_i, set2_s]; exact c4, by simp (disch := omega) only [set2_f, set2_i, set2_s]; exact c5, by simp (disch := omega) only [set2_f, set2_i, set2_s]; exact c6, by simp (disch := omega) only [set2_f, set2_i, set2_s]; exact c7⟩, ?_, ?_, ?_, ?_, ?_, ?_⟩
  · exact fun k hk => by
      have := hS k hk
      simp (disch := omega) only [set2_f, set2_i, set2_s]
      exact this
  · exact fun i hi => by
      simp (disch := omega) only [set2_f, set2_i, set2_s] at hi ⊢
      exact hd i hi
  · exact fun i hi => by
      simp (disch := omega) only [set2_f, set2_i, set2_s] at hi
      by_cases c : i = J 0 0
      · subst c
        simp (disch := omega) only [set2_f, set2_i, set2_s]
        exact ⟨pk_us, pk_us⟩
      · simp (disch := omega) only [set2_f, set2_i, set2_s]
        rw [pk_un c, pk_un c]; exact hr i (by omega)
  · exact fun i hi => by
      simp (disch := omega) only [set2_f, set2_i, set2_s] at hi ⊢
      exact ht i hi
  · exact fun i hi => by
      simp (disch := omega) only [set2_f, set2_i, set2_s] at hi ⊢
      exact hb i hi
  · exact fun i hi => by
      simp (disch := omega) only [set2_f, set2_i, set2_s] at hi ⊢
      exact hl i hi
theorem RI_door {J : Tb} {rminutes rrooms rdoors rthings rdreams rsleepers rlisteners : Int32} {rlistens rbed rdream risTold ract rwhat rthen rmet rlies rfull rA rB rhow rfalls rcreak rcold : Nat → Int32} {u v y x : Nat} (h : RI J rminutes rrooms rdoors rthings rdreams rsleepers rlisteners rlistens rbed rdream risTold ract rwhat rthen rmet rlies rfull rA rB rhow rfalls rcreak rcold) : RI (jDoor J u v y x) rminutes rrooms (nI (J 0 1 + 1)) rthings rdreams rsleepers rlisteners rlistens rbed rdream risTold ract rwhat rthen rmet rlies rfull (upd rA (J 0 1) (nI u)) (upd rB (J 0 1) (nI v)) (upd rhow (J 0 1) (nI y)) (upd rfalls (J 0 1) (nI x)) rcreak rcold := by
  obtain ⟨⟨c1, c2, c3, c4, c5, c6, c7⟩, hS, hd, hr, ht, hb, hl⟩ := h
  unfold jDoor
  refine ⟨⟨by simp (disch := omega) only [set2_f, set2_i, set2_s]; exact c1, by simp (disch := omega) only [set2_f, set2_i, set2_s]; exact c2, by simp (disch := omega) only [set2_f, set2_i, set2_s], by simp (disch := omega) only [set2_f, set2_i, set2_s]; exact c4, by simp (disch := omega) only [set2_f, set2_i, set2_s]; exact c5, by simp (disch := omega) only [set2_f, set2_i, set2_s]; exact c6, by simp (disch := omega) only [set2_f, set2_i, set2_s]; exact c7⟩, ?_, ?_, ?_, ?_, ?_, ?_⟩
  · exact fun k hk => by
      have := hS k hk
      simp (disch := omega) only [set2_f, set2_i, set2_s]
      exact this
  · exact fun i hi => by
      simp (disch := omega) only [set2_f, set2_i, set2_s] at hi
      by_cases c : i = J 0 1
      · subst c
        simp (disch := omega) only [set2_f, set2_i, set2_s]
        exact ⟨pk_us, pk_us, pk_us, pk_us⟩
      · simp (disch := omega) only [set2_f, set2_i, set2_s]
        rw [pk_un c, pk_un c, pk_un c, pk_un c]; exact hd i (by omega)
  · exact fun i hi => by
      simp (disch := omega) only [set2_f, set2_i, set2_s] at hi ⊢
      exact hr i hi
  · exact fun i hi => by
      simp (disch := omega) only [set2_f, set2_i, set2_s] at hi ⊢
      exact ht i hi
  · exact fun i hi => by
      simp (disch := omega) only [set2_f, set2_i, set2_s] at hi ⊢
      exact hb i hi
  · exact fun i hi => by
      simp (disch := omega) only [set2_f, set2_i, set2_s] at hi ⊢
      exact hl i hi
theorem RI_thing {J : Tb} {rminutes rrooms rdoors rthings rdreams rsleepers rlisteners : Int32} {rlistens rbed rdream risTold ract rwhat rthen rmet rlies rfull rA rB rhow rfalls rcreak rcold : Nat → Int32} {v x : Nat} (h : RI J rminutes rrooms rdoors rthings rdreams rsleepers rlisteners rlistens rbed rdream risTold ract rwhat rthen rmet rlies rfull rA rB rhow rfalls rcreak rcold) : RI (jThing J v x) rminutes rrooms rdoors (nI (J 0 2 + 1)) rdreams rsleepers rlisteners rlistens rbed rdream risTold ract rwhat rthen rmet (upd rlies (J 0 2) (nI v)) (upd rfull (J 0 2) (nI x)) rA rB rhow rfalls rcreak rcold := by
  obtain ⟨⟨c1, c2, c3, c4, c5, c6, c7⟩, hS, hd, hr, ht, hb, hl⟩ := h
  unfold jThing
  refine ⟨⟨by simp (disch := omega) only [set2_f, set2_i, set2_s]; exact c1, by simp (disch := omega) only [set2_f, set2_i, set2_s]; exact c2, by simp (disch := omega) only [set2_f, set2_i, set2_s]; exact c3, by simp (disch := omega) only [set2_f, set2_i, set2_s], by simp (disch := omega) only [set2_f, set2_i, set2_s]; exact c5, by simp (disch := omega) only [set2_f, set2_i, set2_s]; exact c6, by simp (disch := omega) only [set2_f, set2_i, set2_s]; exact c7⟩, ?_, ?_, ?_, ?_, ?_, ?_⟩
  · exact fun k hk => by
      have := hS k hk
      simp (disch := omega) only [set2_f, set2_i, set2_s]
      exact this
  · exact fun i hi => by
      simp (disch := omega) only [set2_f, set2_i, set2_s] at hi ⊢
      exact hd i hi
  · exact fun i hi => by
      simp (disch := omega) only [set2_f, set2_i, set2_s] at hi ⊢
      exact hr i hi
  · exact fun i hi => by
      simp (disch := omega) only [set2_f, set2_i, set2_s] at hi
      by_cases c : i = J 0 2
      · subst c
        simp (disch := omega) only [set2_f, set2_i, set2_s]
        exact ⟨pk_us, pk_us⟩
      · simp (disch := omega) only [set2_f, set2_i, set2_s]
        rw [pk_un c, pk_un c]; exact ht i (by omega)
  · exact fun i hi => by
      simp (disch := omega) only [set2_f, set2_i, set2_s] at hi ⊢
      exact hb i hi
  · exact fun i hi => by
      simp (disch := omega) only [set2_f, set2_i, set2_s] at hi ⊢
      exact hl i hi
theorem RI_sleeper {J : Tb} {rminutes rrooms rdoors rthings rdreams rsleepers rlisteners : Int32} {rlistens rbed rdream risTold ract rwhat rthen rmet rlies rfull rA rB rhow rfalls rcreak rcold : Nat → Int32} {v x : Nat} (h : RI J rminutes rrooms rdoors rthings rdreams rsleepers rlisteners rlistens rbed rdream risTold ract rwhat rthen rmet rlies rfull rA rB rhow rfalls rcreak rcold) : RI (jSleeper J v x) rminutes rrooms rdoors rthings rdreams (nI (J 0 4 + 1)) rlisteners rlistens (upd rbed (J 0 4) (nI v)) (upd rdream (J 0 4) (nI x)) risTold ract rwhat rthen rmet rlies rfull rA rB rhow rfalls rcreak rcold := by
  obtain ⟨⟨c1, c2, c3, c4, c5, c6, c7⟩, hS, hd, hr, ht, hb, hl⟩ := h
  unfold jSleeper
  refine ⟨⟨by simp (disch := omega) only [set2_f, set2_i, set2_s]; exact c1, by simp (disch := omega) only [set2_f, set2_i, set2_s]; exact c2, by simp (disch := omega) only [set2_f, set2_i, set2_s]; exact c3, by simp (disch := omega) only [set2_f, set2_i, set2_s]; exact c4, by simp (disch := omega) only [set2_f, set2_i, set2_s]; exact c5, by simp (disch := omega) only [set2_f, set2_i, set2_s], by simp (disch := omega) only [set2_f, set2_i, set2_s]; exact c7⟩, ?_, ?_, ?_, ?_, ?_, ?_⟩
  · exact fun k hk => by
      have := hS k hk
      simp (disch := omega) only [set2_f, set2_i, set2_s]
      exact this
  · exact fun i hi => by
      simp (disch := omega) only [set2_f, set2_i, set2_s] at hi ⊢
      exact hd i hi
  · exact fun i hi => by
      simp (disch := omega) only [set2_f, set2_i, set2_s] at hi ⊢
      exact hr i hi
  · exact fun i hi => by
      simp (disch := omega) only [set2_f, set2_i, set2_s] at hi ⊢
      exact ht i hi
  · exact fun i hi => by
      simp (disch := omega) only [set2_f, set2_i, set2_s] at hi
      by_cases c : i = J 0 4
      · subst c
        simp (disch := omega) only [set2_f, set2_i, set2_s]
        exact ⟨pk_us, pk_us⟩
      · simp (disch := omega) only [set2_f, set2_i, set2_s]
        rw [pk_un c, pk_un c]; exact hb i (by omega)
  · exact fun i hi => by
      simp (disch := omega) only [set2_f, set2_i, set2_s] at hi ⊢
      exact hl i hi
theorem RI_listens {J : Tb} {rminutes rrooms rdoors rthings rdreams rsleepers rlisteners : Int32} {rlistens rbed rdream risTold ract rwhat rthen rmet rlies rfull rA rB rhow rfalls rcreak rcold : Nat → Int32} {v : Nat} (h : RI J rminutes rrooms rdoors rthings rdreams rsleepers rlisteners rlistens rbed rdream risTold ract rwhat rthen rmet rlies rfull rA rB rhow rfalls rcreak rcold) : RI (jListens J v) rminutes rrooms rdoors rthings rdreams rsleepers (nI (J 0 5 + 1)) (upd rlistens (J 0 5) (nI v)) rbed rdream risTold ract rwhat rthen rmet rlies rfull rA rB rhow rfalls rcreak rcold := by
  obtain ⟨⟨c1, c2, c3, c4, c5, c6, c7⟩, hS, hd, hr, ht, hb, hl⟩ := h
  unfold jListens
  refine ⟨⟨by simp (disch := omega) only [set2_f, set2_i, set2_s]; exact c1, by simp (disch := omega) only [set2_f, set2_i, set2_s]; exact c2, by simp (disch := omega) only [set2_f, set2_i, set2_s]; exact c3, by simp (disch := omega) only [set2_f, set2_i, set2_s]; exact c4, by simp (disch := omega) only [set2_f, set2_i, set2_s]; exact c5, by simp (disch := omega) only [set2_f, set2_i, set2_s]; exact c6, by simp (disch := omega) only [set2_f, set2_i, set2_s]⟩, ?_, ?_, ?_, ?_, ?_, ?_⟩
  · exact fun k hk => by
      have := hS k hk
      simp (disch := omega) only [set2_f, set2_i, set2_s]
      exact this
  · exact fun i hi => by
      simp (disch := omega) only [set2_f, set2_i, set2_s] at hi ⊢
      exact hd i hi
  · exact fun i hi => by
      simp (disch := omega) only [set2_f, set2_i, set2_s] at hi ⊢
      exact hr i hi
  · exact fun i hi => by
      simp (disch := omega) only [set2_f, set2_i, set2_s] at hi ⊢
      exact ht i hi
  · exact fun i hi => by
      simp (disch := omega) only [set2_f, set2_i, set2_s] at hi ⊢
      exact hb i hi
  · exact fun i hi => by
      simp (disch := omega) only [set2_f, set2_i, set2_s] at hi
      by_cases c : i = J 0 5
      · subst c
        simp (disch := omega) only [set2_f, set2_i, set2_s]
        exact pk_us
      · simp (disch := omega) only [set2_f, set2_i, set2_s]
        rw [pk_un c]; exact hl i (by omega)
theorem RI_dream {J : Tb} {rminutes rrooms rdoors rthings rdreams rsleepers rlisteners : Int32} {rlistens rbed rdream risTold ract rwhat rthen rmet rlies rfull rA rB rhow rfalls rcreak rcold : Nat → Int32} {q i w t m D : Nat} (h : RI J rminutes rrooms rdoors rthings rdreams rsleepers rlisteners rlistens rbed rdream risTold ract rwhat rthen rmet rlies rfull rA rB rhow rfalls rcreak rcold) : RI (jDream J q i w t m D) rminutes rrooms rdoors rthings (nI D) rsleepers rlisteners rlistens rbed rdream (upd risTold q 1) (upd ract q (nI i)) (upd rwhat q (hI w)) (upd rthen q (nI t)) (upd rmet q (hI m)) rlies rfull rA rB rhow rfalls rcreak rcold := by
  obtain ⟨⟨c1, c2, c3, c4, c5, c6, c7⟩, hS, hd, hr, ht, hb, hl⟩ := h
  unfold jDream
  refine ⟨⟨by simp (disch := omega) only [set2_f, set2_i, set2_s]; exact c1, by simp (disch := omega) only [set2_f, set2_i, set2_s]; exact c2, by simp (disch := omega) only [set2_f, set2_i, set2_s]; exact c3, by simp (disch := omega) only [set2_f, set2_i, set2_s]; exact c4, by simp (disch := omega) only [set2_f, set2_i, set2_s], by simp (disch := omega) only [set2_f, set2_i, set2_s]; exact c6, by simp (disch := omega) only [set2_f, set2_i, set2_s]; exact c7⟩, ?_, ?_, ?_, ?_, ?_, ?_⟩
  · exact fun k hk => by
      by_cases c : k = q
      · subst c
        simp (disch := omega) only [set2_f, set2_i, set2_s]
        rw [pk_us, pk_us, pk_us, pk_us, pk_us]
        exact ⟨rfl, fun _ => ⟨rfl, rfl, rfl, rfl⟩⟩
      · have := hS k hk
        rw [pk_un c, pk_un c, pk_un c, pk_un c, pk_un c]
        simp (disch := omega) only [set2_f, set2_i, set2_s]
        exact this
  · exact fun i hi => by
      simp (disch := omega) only [set2_f, set2_i, set2_s] at hi ⊢
      exact hd i hi
  · exact fun i hi => by
      simp (disch := omega) only [set2_f, set2_i, set2_s] at hi ⊢
      exact hr i hi
  · exact fun i hi => by
      simp (disch := omega) only [set2_f, set2_i, set2_s] at hi ⊢
      exact ht i hi
  · exact fun i hi => by
      simp (disch := omega) only [set2_f, set2_i, set2_s] at hi ⊢
      exact hb i hi
  · exact fun i hi => by
      simp (disch := omega) only [set2_f, set2_i, set2_s] at hi ⊢
      exact hl i hi
