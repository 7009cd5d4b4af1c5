theorem m_ci_lo {a : Nat → Int32} {r b q : Nat} (h : q < 80) : ∀ j, m_ci a r b j q = a q := by
  intro j
  induction j with
  | zero => rfl
  | succ j ih => rw [m_ci, ly_lo h, ih]
theorem m_cc_lo {a : Nat → Int32} {r q : Nat} (h : q < 80) : ∀ j, m_cc a r j q = a q := by
  intro j
  induction j with
  | zero => rfl
  | succ j ih => rw [m_cc, m_ci_lo h, ih]
theorem m_clr_lo {a : Nat → Int32} {r q : Nat} (h : q < 80) (h3 : q ≠ 3) : m_clr a r q = a q := by
  rw [m_clr, pk_un h3, m_cc_lo h]
