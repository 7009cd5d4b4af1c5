-- protests
theorem kp_pos {k : Nat → Int32} {kp : Nat} (hk : k 0 = nI kp) (h : ¬ k 0 = 0) : 0 < kp := by
  rcases Nat.eq_zero_or_pos kp with q | q
  · exact absurd (by rw [hk, q]; rfl) h
  · exact q
theorem err_neg {x : Int32} (h : x < 0) : ¬ 0 ≤ x := Int32.not_le.mpr h
theorem le_ok {a : Nat → Int32} {x : Int32} {nr : Nat} (h : 0 ≤ s_X8_lineError a x nr) : (¬ x < nI 0 ∧ ¬ a 1 - nI 1 < x) ∧ 0 < nr := by
  unfold s_X8_lineError at h
  by_cases c1 : ¬ x < nI 0 ∧ ¬ a 1 - nI 1 < x
  · rw [if_pos c1] at h
    by_cases c2 : 0 < nr ∧ m_r a (nr - 1) 3 = 0
    · exact ⟨c1, c2.1⟩
    · rw [if_neg c2] at h; exact absurd h (by decide)
  · rw [if_neg c1] at h; exact absurd h (by decide)
theorem re_ok {a : Nat → Int32} {x : Int32} {nr : Nat} (h : 0 ≤ s_X8_retireError a x nr) : (¬ x < nI 0 ∧ ¬ a 1 - nI 1 < x) ∧ 0 < nr := by
  unfold s_X8_retireError at h
  by_cases c1 : ¬ x < nI 0 ∧ ¬ a 1 - nI 1 < x
  · rw [if_pos c1] at h
    by_cases c2 : 0 < nr ∧ m_r a (nr - 1) 3 = 0
    · exact ⟨c1, c2.1⟩
    · rw [if_neg c2] at h; exact absurd h (by decide)
  · rw [if_neg c1] at h; exact absurd h (by decide)
theorem be_ok {a : Nat → Int32} {x y : Int32} {nr : Nat} (h : 0 ≤ s_X8_buoyError a x y nr) : (¬ x < nI 0 ∧ ¬ a 1 - nI 1 < x) ∧ 0 < nr := by
  unfold s_X8_buoyError at h
  by_cases c1 : ¬ x < nI 0 ∧ ¬ a 1 - nI 1 < x
  · rw [if_pos c1] at h
    by_cases c2 : 0 < nr ∧ m_r a (nr - 1) 3 = 0
    · exact ⟨c1, c2.1⟩
    · rw [if_neg c2] at h; exact absurd h (by decide)
  · rw [if_neg c1] at h; exact absurd h (by decide)
-- gates
