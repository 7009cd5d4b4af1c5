/-! one event: its error, what it does to the row of numbers -/
abbrev Ev : Type := Nat × Nat × Nat × Nat
def kk (y : Ev) : Nat → Int32 := fun j => if j = 4 then nI y.1 else if j = 5 then nI y.2.1 else nI y.2.2.1
def erA (a : Nat → Int32) (y : Ev) (nr : Nat) : Int32 := s_X8_errorOfEvent a (kk y) nr
def dzA (a : Nat → Int32) (y : Ev) (nr : Nat) : Nat → Int32 := (s_X8_does a a a a (kk y) nr (a 3).toNatClampNeg y.2.1).2.1
def isL (n : Nat) : Prop := n = 43 ∨ n = 108 ∨ n = 114 ∨ n = 98 ∨ n = 104
theorem re_letter {tn : Nat → Nat} {len p : Nat} {y : Ev} (h : re tn len p = some y) : isL y.1 := by
  unfold re at h
  split at h
  · obtain ⟨v, hv, rfl⟩ := Option.map_eq_some_iff.mp h
    exact Or.inl rfl
  · split at h
    · rename_i q
      obtain ⟨v, hv, rfl⟩ := Option.map_eq_some_iff.mp h
      rcases q with q | q
      · exact Or.inr (Or.inl q)
      · exact Or.inr (Or.inr (Or.inl q))
    · split at h
      · rename_i q
        obtain ⟨v, hv, h2⟩ := Option.bind_eq_some_iff.mp h
        obtain ⟨w, hw, rfl⟩ := Option.map_eq_some_iff.mp h2
        rcases q with q | q
        · exact Or.inr (Or.inr (Or.inr (Or.inl q)))
        · exact Or.inr (Or.inr (Or.inr (Or.inr q)))
      · cases h
theorem kk4 {y : Ev} : kk y 4 = nI y.1 := rfl
theorem kk5 {y : Ev} : kk y 5 = nI y.2.1 := rfl
theorem kk6 {y : Ev} : kk y 6 = nI y.2.2.1 := rfl
theorem l43 : (nI 43 : Int32) = 43 := rfl
theorem l108 : (nI 108 : Int32) = 108 := rfl
theorem l114 : (nI 114 : Int32) = 114 := rfl
theorem l98 : (nI 98 : Int32) = 98 := rfl
theorem n108_43 : ¬ nI 108 = 43 := by decide
theorem n108_98 : ¬ nI 108 = 98 := by decide
theorem n114_43 : ¬ nI 114 = 43 := by decide
theorem n114_98 : ¬ nI 114 = 98 := by decide
theorem n114_108 : ¬ nI 114 = 108 := by decide
theorem n98_43 : ¬ nI 98 = 43 := by decide
theorem n104_43 : ¬ nI 104 = 43 := by decide
theorem n104_98 : ¬ nI 104 = 98 := by decide
theorem n104_108 : ¬ nI 104 = 108 := by decide
theorem n104_114 : ¬ nI 104 = 114 := by decide
theorem er_eq {a k1 : Nat → Int32} {y : Ev} {nr : Nat} (hL : isL y.1) (h4 : k1 4 = nI y.1) (h5 : k1 5 = nI y.2.1) (h6 : y.1 = 98 ∨ y.1 = 104 → k1 6 = nI y.2.2.1) : s_X8_errorOfEvent a k1 nr = erA a y nr := by
  obtain ⟨L, x, z, w⟩ := y
  simp only at hL h4 h5 h6
  rcases hL with rfl | rfl | rfl | rfl | rfl
  · simp only [erA, s_X8_errorOfEvent, h4, h5, if_pos l43]
    exact (if_pos l43).symm
  · simp only [erA, s_X8_errorOfEvent, h4, h5, if_neg n108_43, if_neg n108_98, if_pos l108]
    exact ((if_neg n108_43).trans ((if_neg n108_98).trans (if_pos l108))).symm
  · simp only [erA, s_X8_errorOfEvent, h4, h5, if_neg n114_43, if_neg n114_98, if_neg n114_108, if_pos l114]
    exact ((if_neg n114_43).trans ((if_neg n114_98).trans ((if_neg n114_108).trans (if_pos l114)))).symm
  · simp only [erA, s_X8_errorOfEvent, h4, h5, h6 (Or.inl rfl), if_neg n98_43, if_pos l98]
    exact ((if_neg n98_43).trans (if_pos l98)).symm
  · simp only [erA, s_X8_errorOfEvent, h4, h5, h6 (Or.inr rfl), if_neg n104_43, if_neg n104_98, if_neg n104_108, if_neg n104_114]
    exact ((if_neg n104_43).trans ((if_neg n104_98).trans ((if_neg n104_108).trans (if_neg n104_114)))).symm
theorem doLine_2 {a h sn tx k : Nat → Int32} {b nr : Nat} : (s_X8_doLine a h sn tx k b nr).2 = ((s_X8_doLine a a a a a b nr).2.1, h, sn, tx, k) := by
  unfold s_X8_doLine; split
  · rfl
  · split
    · split <;> rfl
    · rfl
theorem doBuoy_2 {a h sn tx k : Nat → Int32} {b nr : Nat} {x : Int32} : (s_X8_doBuoy a h sn tx k b x nr).2 = ((s_X8_doBuoy a a a a a b x nr).2.1, h, sn, tx, k) := by
  unfold s_X8_doBuoy; split
  · rfl
  · split <;> rfl
theorem dz_eq {a h sn tx k1 : Nat → Int32} {y : Ev} {nr np : Nat} (hL : isL y.1) (h3 : a 3 = nI np) (hnp : np < 2 ^ 31) (h4 : k1 4 = nI y.1) (h5 : k1 5 = nI y.2.1) (h6 : y.1 = 98 ∨ y.1 = 104 → k1 6 = nI y.2.2.1) : (s_X8_does a h sn tx k1 nr np y.2.1).2 = (dzA a y nr, h, sn, tx, k1) := by
  obtain ⟨L, x, z, w⟩ := y
  simp only at hL h4 h5 h6
  have e3 : (a 3).toNatClampNeg = np := by rw [h3, nI_clamp hnp]
  rcases hL with rfl | rfl | rfl | rfl | rfl
  · simp only [dzA, s_X8_does, kk4, kk5, kk6, h4, h5, if_pos l43]; rfl
  · simp only [dzA, s_X8_does, kk4, kk5, kk6, h4, h5, if_neg n108_43, if_neg n108_98, if_pos l108]
    exact (doLine_2).trans (by rw [show (s_X8_doLine a a a a a x nr).2.1 = (s_X8_doLine a a a a (kk (108, x, z, w)) x nr).2.1 from by rw [doLine_2 (k := kk (108, x, z, w))]]; rfl)
  · simp only [dzA, s_X8_does, kk4, kk5, kk6, h4, h5, if_neg n114_43, if_neg n114_98, if_neg n114_108, if_pos l114]; rfl
  · simp only [dzA, s_X8_does, kk4, kk5, kk6, h4, h5, h6 (Or.inl rfl), if_neg n98_43, if_pos l98]
    exact (doBuoy_2).trans (by rw [show (s_X8_doBuoy a a a a a x (nI z) nr).2.1 = (s_X8_doBuoy a a a a (kk (98, x, z, w)) x (nI z) nr).2.1 from by rw [doBuoy_2 (k := kk (98, x, z, w))]]; rfl)
  · simp only [dzA, s_X8_does, kk4, kk5, kk6, h4, h5, h6 (Or.inr rfl), if_neg n104_43, if_neg n104_98, if_neg n104_108, if_neg n104_114, e3]; rfl
