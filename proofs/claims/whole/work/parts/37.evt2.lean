theorem he_ok {a : Nat → Int32} {x y : Int32} {nr : Nat} (h : 0 ≤ s_X8_hailError a x y nr) : (¬ x < nI 0 ∧ ¬ a 1 - nI 1 < x) ∧ 0 < nr ∧ ¬ a 3 = nI 10 := by
  unfold s_X8_hailError at h
  by_cases c1 : ¬ x < nI 0 ∧ ¬ a 1 - nI 1 < x
  · rw [if_pos c1] at h
    refine ⟨c1, ?_⟩
    split at h
    · split at h
      · exact absurd h (by decide)
      · split at h
        · rename_i q
          refine ⟨q.1, fun e => ?_⟩
          split at h
          · split at h
            · exact absurd h (by decide)
            · exact absurd h (by decide)
          · exact absurd h (by decide)
        · exact absurd h (by decide)
    · exact absurd h (by decide)
  · rw [if_neg c1] at h; exact absurd h (by decide)
/-- what an event leaves of the row of numbers -/
theorem er_in {a : Nat → Int32} {y : Ev} {nr nb : Nat} (hL : isL y.1) (h1 : a 1 = nI nb) (hb9 : nb ≤ 9) (hx : y.2.1 < 2 ^ 31) (h : 0 ≤ erA a y nr) (hne : ¬ y.1 = 43) : y.2.1 < nb ∧ 0 < nr ∧ (y.1 = 104 → ¬ a 3 = nI 10) := by
  obtain ⟨L, x, z, w⟩ := y
  simp only at hL hx hne ⊢
  have key : ∀ (q : ¬ nI x < nI 0 ∧ ¬ a 1 - nI 1 < nI x), x < nb := fun q => by
    have := (isb_of q h1 (by omega)).1
    rwa [nI_clamp hx] at this
  rcases hL with rfl | rfl | rfl | rfl | rfl
  · exact absurd rfl hne
  · have e : erA a (108, x, z, w) nr = s_X8_lineError a (nI x) nr := by
      unfold erA s_X8_errorOfEvent
      refine (if_neg n108_43).trans ?_
      refine (if_neg n108_98).trans ?_
      exact if_pos l108
    rw [e] at h
    have := le_ok h
    exact ⟨key this.1, this.2, fun q => absurd q (by decide)⟩
  · have e : erA a (114, x, z, w) nr = s_X8_retireError a (nI x) nr := by
      unfold erA s_X8_errorOfEvent
      refine (if_neg n114_43).trans ?_
      refine (if_neg n114_98).trans ?_
      refine (if_neg n114_108).trans ?_
      exact if_pos l114
    rw [e] at h
    have := re_ok h
    exact ⟨key this.1, this.2, fun q => absurd q (by decide)⟩
  · have e : erA a (98, x, z, w) nr = s_X8_buoyError a (nI x) (nI z) nr := by
      unfold erA s_X8_errorOfEvent
      refine (if_neg n98_43).trans ?_
      exact if_pos l98
    rw [e] at h
    have := be_ok h
    exact ⟨key this.1, this.2, fun q => absurd q (by decide)⟩
  · have e : erA a (104, x, z, w) nr = s_X8_hailError a (nI x) (nI z) nr := by
      unfold erA s_X8_errorOfEvent
      refine (if_neg n104_43).trans ?_
      refine (if_neg n104_98).trans ?_
      refine (if_neg n104_108).trans ?_
      exact if_neg n104_114
    rw [e] at h
    have := he_ok h
    exact ⟨key this.1, this.2.1, fun _ => this.2.2⟩
