theorem he_ok {a : Nat → Int32} {x y : Int32} {nr : Nat} (h : 0 ≤ s_X8_hailError a x y nr) : (¬ x < nI 0 ∧ ¬ a 1 - nI 1 < x) ∧ 0 < nr ∧ ¬ a 3 = nI 10 := by
  unfold s_X8_hailError at h
  by_cases c1 : ¬ x < nI 0 ∧ ¬ a 1 - nI 1 < x
  · rw [if_pos c1] at h
    refine ⟨c1, ?_⟩
    split at h
    · split at h
      · exact absurd h (by decide)
      · split at h
        · rename_i q
          refine ⟨q.1, fun e => ?_⟩
          split at h
          · split at h
            · exact absurd h (by decide)
            · exact absurd h (by decide)
          · exact absurd h (by decide)
        · exact absurd h (by decide)
    · exact absurd h (by decide)
  · rw [if_neg c1] at h; exact absurd h (by decide)
/-- what an event leaves of the row of numbers -/
theorem er_in {a : Nat → Int32} {y : Ev} {nr nb : Nat} (hL : isL y.1) (h1 : a 1 = nI nb) (hb9 : nb ≤ 9) (hx : y.2.1 < 2 ^ 31) (h : 0 ≤ erA a y nr) (hne : ¬ y.1 = 43) : y.2.1 < nb ∧ 0 < nr ∧ (y.1 = 104 → ¬ a 3 = nI 10) := by
  obtain ⟨L, x, z, w⟩ := y
  simp only at hL hx hne ⊢
  have key : ∀ (q : ¬ nI x < nI 0 ∧ ¬ a 1 - nI 1 < nI x), x < nb := fun q => by
    have := (isb_of q h1 (by omega)).1
    rwa [nI_clamp hx] at this
  rcases hL with rfl | rfl | rfl | rfl | rfl
  · exact absurd rfl hne
  · have e : erA a (108, x, z, w) nr = s_X8_lineError a (nI x) nr := by
      unfold erA s_X8_errorOfEvent
      refine (if_neg n108_43).trans ?_
      refine (if_neg n108_98).trans ?_
      exact if_pos l108
    rw [e] at h
    have := le_ok h
    exact ⟨key this.1, this.2, fun q => absurd q (by decide)⟩
  · have e : erA a (114, x, z, w) nr = s_X8_retireError a (nI x) nr := by
      unfold erA s_X8_errorOfEvent
      refine (if_neg n114_43).trans ?_
      refine (if_neg n114_98).trans ?_
      refine (if_neg n114_108).trans ?_
      exact if_pos l114
    rw [e] at h
    have := re_ok h
    exact ⟨key this.1, this.2, fun q => absurd q (by decide)⟩
  · have e : erA a (98, x, z, w) nr = s_X8_buoyError a (nI x) (nI z) nr := by
      unfold erA s_X8_errorOfEvent
      refine (if_neg n98_43).trans ?_
      exact if_pos l98
    rw [e] at h
    have := be_ok h
    exact ⟨key this.1, this.2, fun q => absurd q (by decide)⟩
  · have e : erA a (104, x, z, w) nr = s_X8_hailError a (nI x) (nI z) nr := by
      unfold erA s_X8_errorOfEvent
      refine (if_neg n104_43).trans ?_
      refine (if_neg n104_98).trans ?_
      refine (if_neg n104_108).trans ?_
      exact if_neg n104_114
    rw [e] at h
    have := he_ok h
    exact ⟨key this.1, this.2.1, fun _ => this.2.2⟩
theorem dz_e {a : Nat → Int32} {y : Ev} {nr : Nat} (hL : isL y.1) : (y.1 = 43 ∧ dzA a y nr = upd a 0 (a 0 + nI y.2.1)) ∨ (y.1 = 108 ∧ dzA a y nr = (s_X8_doLine a a a a (kk y) y.2.1 nr).2.1) ∨ (y.1 = 114 ∧ dzA a y nr = ly a (nr - 1) y.2.1 0 (nI 4)) ∨ (y.1 = 98 ∧ dzA a y nr = (s_X8_doBuoy a a a a (kk y) y.2.1 (nI y.2.2.1) nr).2.1) ∨ (y.1 = 104 ∧ dzA a y nr = (s_X8_doHail a a a a (kk y) (nI y.2.1) (nI y.2.2.1) (a 3).toNatClampNeg).2.1) := by
  obtain ⟨L, x, z, w⟩ := y
  simp only at hL ⊢
  rcases hL with rfl | rfl | rfl | rfl | rfl
  · refine Or.inl ⟨rfl, ?_⟩
    unfold dzA s_X8_does
    rw [if_pos (show kk (43, x, z, w) 4 = 43 from rfl)]; rfl
  · refine Or.inr (Or.inl ⟨rfl, ?_⟩)
    unfold dzA s_X8_does
    rw [if_neg (show ¬ kk (108, x, z, w) 4 = 43 from n108_43), if_neg (show ¬ kk (108, x, z, w) 4 = 98 from n108_98), if_pos (show kk (108, x, z, w) 4 = 108 from rfl)]
  · refine Or.inr (Or.inr (Or.inl ⟨rfl, ?_⟩))
    unfold dzA s_X8_does
    rw [if_neg (show ¬ kk (114, x, z, w) 4 = 43 from n114_43), if_neg (show ¬ kk (114, x, z, w) 4 = 98 from n114_98), if_neg (show ¬ kk (114, x, z, w) 4 = 108 from n114_108), if_pos (show kk (114, x, z, w) 4 = 114 from rfl)]; rfl
  · refine Or.inr (Or.inr (Or.inr (Or.inl ⟨rfl, ?_⟩)))
    unfold dzA s_X8_does
    rw [if_neg (show ¬ kk (98, x, z, w) 4 = 43 from n98_43), if_pos (show kk (98, x, z, w) 4 = 98 from rfl)]; rfl
  · refine Or.inr (Or.inr (Or.inr (Or.inr ⟨rfl, ?_⟩)))
    unfold dzA s_X8_does
    rw [if_neg (show ¬ kk (104, x, z, w) 4 = 43 from n104_43), if_neg (show ¬ kk (104, x, z, w) 4 = 98 from n104_98), if_neg (show ¬ kk (104, x, z, w) 4 = 108 from n104_108), if_neg (show ¬ kk (104, x, z, w) 4 = 114 from n104_114)]; rfl
theorem doLine_lo {a h sn tx k : Nat → Int32} {b nr j : Nat} (hj : j < 80) : (s_X8_doLine a h sn tx k b nr).2.1 j = a j := by
  unfold s_X8_doLine
  split
  · exact (ly_lo hj).trans (ly_lo hj)
  · split
    · split <;> exact (ly_lo hj).trans (ly_lo hj)
    · exact (ly_lo hj).trans (ly_lo hj)
theorem doBuoy_lo {a h sn tx k : Nat → Int32} {b nr j : Nat} {x : Int32} (hj : j < 80) : (s_X8_doBuoy a h sn tx k b x nr).2.1 j = a j := by
  unfold s_X8_doBuoy
  split
  · exact ly_lo hj
  · split <;> exact ly_lo hj
theorem dz_lo {a : Nat → Int32} {y : Ev} {nr j : Nat} (hL : isL y.1) (hj : j < 40) (h0 : j ≠ 0) (h3 : j ≠ 3) : dzA a y nr j = a j := by
  rcases dz_e (a := a) (nr := nr) hL with ⟨-, e⟩ | ⟨-, e⟩ | ⟨-, e⟩ | ⟨-, e⟩ | ⟨-, e⟩ <;> rw [e]
  · exact pk_un h0
  · unfold s_X8_doLine
    split
    · exact (ly_lo (by omega)).trans (ly_lo (by omega))
    · split
      · split <;> exact (ly_lo (by omega)).trans (ly_lo (by omega))
      · exact (ly_lo (by omega)).trans (ly_lo (by omega))
  · exact ly_lo (by omega)
  · unfold s_X8_doBuoy
    split
    · exact ly_lo (by omega)
    · split <;> exact ly_lo (by omega)
  · unfold s_X8_doHail
    exact (pk_un h3).trans ((pk_un (by omega)).trans ((pk_un (by omega)).trans ((pk_un (by omega)).trans (pk_un (by omega)))))
theorem dz_3 {a : Nat → Int32} {y : Ev} {nr np : Nat} (hL : isL y.1) (h3 : a 3 = nI np) (hp : np ≤ 10) (hq : y.1 = 104 → ¬ a 3 = nI 10) : ∃ np', dzA a y nr 3 = nI np' ∧ np' ≤ 10 := by
  rcases dz_e (a := a) (nr := nr) hL with ⟨-, e⟩ | ⟨-, e⟩ | ⟨-, e⟩ | ⟨-, e⟩ | ⟨eL, e⟩ <;> rw [e]
  · exact ⟨np, (pk_un (by omega)).trans h3, hp⟩
  · exact ⟨np, (doLine_lo (by omega)).trans h3, hp⟩
  · exact ⟨np, (ly_lo (by omega)).trans h3, hp⟩
  · exact ⟨np, (doBuoy_lo (by omega)).trans h3, hp⟩
  · have : np ≠ 10 := fun q => hq eL (by rw [h3, q])
    refine ⟨np + 1, ?_, by omega⟩
    unfold s_X8_doHail
    dsimp only
    rw [pk_us, pk_un (by omega), pk_un (by omega), pk_un (by omega), pk_un (by omega), h3]
    exact nI_add np 1
