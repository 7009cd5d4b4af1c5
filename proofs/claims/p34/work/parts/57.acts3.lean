theorem m_ci_at {a : Nat → Int32} {r b i : Nat} : ∀ j, m_ci a r b j i = if 80 + 6 * (9 * r + b) ≤ i ∧ i < 80 + 6 * (9 * r + b) + j then nI 0 else a i := by
  intro j
  induction j with
  | zero => rw [if_neg (by omega)]; rfl
  | succ j ih =>
    rw [m_ci]
    unfold ly
    by_cases q : i = 80 + 6 * (9 * r + b) + j
    · rw [q, pk_us, if_pos (by omega)]
    · rw [pk_un q, ih]
      by_cases w : 80 + 6 * (9 * r + b) ≤ i ∧ i < 80 + 6 * (9 * r + b) + j
      · rw [if_pos w, if_pos (by omega)]
      · rw [if_neg w, if_neg (by omega)]
theorem m_cc_at {a : Nat → Int32} {r i : Nat} : ∀ n, m_cc a r n i = if 80 + 54 * r ≤ i ∧ i < 80 + 54 * r + 6 * n then nI 0 else a i := by
  intro n
  induction n with
  | zero => rw [if_neg (by omega)]; rfl
  | succ n ih =>
    rw [m_cc, m_ci_at, ih]
    by_cases w : 80 + 54 * r ≤ i ∧ i < 80 + 54 * r + 6 * n
    · rw [if_pos w, if_pos (show 80 + 54 * r ≤ i ∧ i < 80 + 54 * r + 6 * (n + 1) by omega)]
      split <;> rfl
    · rw [if_neg w]
      by_cases w2 : 80 + 6 * (9 * r + n) ≤ i ∧ i < 80 + 6 * (9 * r + n) + 6
      · rw [if_pos w2, if_pos (by omega)]
      · rw [if_neg w2, if_neg (by omega)]
theorem m_clr_at {a : Nat → Int32} {r i : Nat} : m_clr a r i = if i = 3 then nI 0 else if 80 + 54 * r ≤ i ∧ i < 80 + 54 * r + 54 then nI 0 else a i := by
  unfold m_clr
  by_cases q : i = 3
  · rw [q, pk_us, if_pos rfl]
  · rw [pk_un q, if_neg q, m_cc_at]
theorem tcl_at {F : Nat → Int32} {r b i : Nat} (hr : r < 6) (hb : b < 9) : ∀ j, j ≤ 6 → tcl 6 324 F (nI r * nI 9 + nI b) j i = if 54 * r + 6 * b ≤ i ∧ i < 54 * r + 6 * b + j then nI 0 else F i := by
  intro j
  induction j with
  | zero => intro _; rw [if_neg (by omega)]; rfl
  | succ j ih =>
    intro hj
    rw [tcl, nI9, tp_at (by omega) (by omega)]
    by_cases q : i = (9 * r + b) * 6 + j
    · rw [q, pk_us, if_pos (by omega)]
    · rw [pk_un q]
      have := ih (by omega)
      rw [nI9] at this
      rw [this]
      by_cases w : 54 * r + 6 * b ≤ i ∧ i < 54 * r + 6 * b + j
      · rw [if_pos w, if_pos (by omega)]
      · rw [if_neg w, if_neg (by omega)]
theorem clrs_at {g F : Nat → Int32} {r i : Nat} (hg : g 2 - nI 1 = nI r) (hr : r < 6) : ∀ n, n ≤ 9 → c_clrs g F n i = if 54 * r ≤ i ∧ i < 54 * r + 6 * n then nI 0 else F i := by
  intro n
  induction n with
  | zero => intro _; rw [if_neg (by omega)]; rfl
  | succ n ih =>
    intro hn
    rw [c_clrs, hg, tcl_at hr (by omega) 6 (by omega), ih (by omega)]
    by_cases w : 54 * r ≤ i ∧ i < 54 * r + 6 * n
    · rw [if_pos w, if_pos (show 54 * r ≤ i ∧ i < 54 * r + 6 * (n + 1) by omega)]
      split <;> rfl
    · rw [if_neg w]
      by_cases w2 : 54 * r + 6 * n ≤ i ∧ i < 54 * r + 6 * n + 6
      · rw [if_pos w2, if_pos (by omega)]
      · rw [if_neg w2, if_neg (by omega)]
theorem clr_lo {a : Nat → Int32} {r i : Nat} (h : i < 80) (h3 : i ≠ 3) : m_clr a r i = a i := m_clr_lo h h3
theorem clr_r {a : Nat → Int32} {r r1 w : Nat} (hr : r1 < 6) (hw : w < 4) : m_r (m_clr a r) r1 w = m_r a r1 w := clr_lo (by omega) (by omega)
theorem clr_e {a : Nat → Int32} {r r1 b w : Nat} (hb : b < 9) (hw : w < 6) : m_e (m_clr a r) r1 b w = if r1 = r then nI 0 else m_e a r1 b w := by
  unfold m_e
  rw [m_clr_at, if_neg (by omega)]
  by_cases q : r1 = r
  · rw [if_pos q, if_pos (by omega)]
  · rw [if_neg q, if_neg (by omega)]
theorem EQ.clr {g g' : Nat → Int32} {t : Nat → Nat → Int32} {a : Nat → Int32} {nr nb : Nat} (h : EQ g t a nr) (hr6 : nr ≤ 6) (hn : 0 < nr) (hg : g' 2 - nI 1 = nI (nr - 1)) (hb : nb ≤ 9) (hz : ∀ b w, nb ≤ b → b < 9 → w < 6 → m_e a (nr - 1) b w = 0) : EQ (va_up g 4 (nI 0)) (va_up t 3 (c_clrs g' (t 3) nb)) (m_clr a (nr - 1)) nr := by
  obtain ⟨h1, h2, h3, h4, h5, h6, h7, h8, h9, h10, h11⟩ := h
  refine ⟨by rw [up_o (by omega), clr_lo (by omega) (by omega)]; exact h1, by rw [up_o (by omega), clr_lo (by omega) (by omega)]; exact h2, by rw [up_o (by omega), clr_lo (by omega) (by omega)]; exact h3, by rw [up_a, m_clr_at, if_pos rfl], fun q => absurd q (by omega), fun _ => by rw [up_o (by omega), clr_r (by omega) (by omega)]; exact h6 hn, fun j hj => ?_, fun j hj => ?_, fun r w hr hw => ?_, fun j hj => ?_, fun j hj => ?_⟩
  · rw [up_o (by omega), clr_lo (by omega) (by omega)]; exact h7 j hj
  · rw [up_o (by omega), clr_lo (by omega) (by omega)]; exact h8 j hj
  · rw [up_o (by omega), clr_r hr (by omega)]; exact h9 r w hr hw
  · rw [up_a, clrs_at hg (by omega) nb hb, m_clr_at, if_neg (show ¬ 80 + j = 3 by omega)]
    by_cases q : 54 * (nr - 1) ≤ j ∧ j < 54 * (nr - 1) + 6 * nb
    · rw [if_pos q, if_pos (by omega)]
    · rw [if_neg q]
      by_cases q2 : 80 + 54 * (nr - 1) ≤ 80 + j ∧ 80 + j < 80 + 54 * (nr - 1) + 54
      · rw [if_pos q2, h10 j hj]
        have e := hz ((j - 54 * (nr - 1)) / 6) ((j - 54 * (nr - 1)) % 6) (by omega) (by omega) (by omega)
        unfold m_e at e
        rw [show 80 + 6 * (9 * (nr - 1) + (j - 54 * (nr - 1)) / 6) + (j - 54 * (nr - 1)) % 6 = 80 + j by omega] at e
        exact e
      · rw [if_neg q2]; exact h10 j hj
  · rw [up_o (by omega), clr_lo (by omega) (by omega)]; exact h11 j hj
section Acts3
variable {c : Nat} {g : Nat → Int32} {t : Nat → Nat → Int32} {a h sn tx k : Nat → Int32} {nb nr np ck kp : Nat}
theorem EQ.next (hE : EQ g t a nr) (hr6 : nr < 6) {v : Int32} : EQ (va_up (va_up g 2 v) 3 (nI 1)) t (upd (upd a (16 + 4 * nr + 3) (nI 0)) 2 v) (nr + 1) := by
  obtain ⟨h1, h2, h3, h4, h5, h6, h7, h8, h9, h10, h11⟩ := hE
  have o2 : ∀ i, i ≠ 2 → i ≠ 16 + 4 * nr + 3 → upd (upd a (16 + 4 * nr + 3) (nI 0)) 2 v i = a i := fun i q1 q2 => (pk_un q1).trans (pk_un q2)
  refine ⟨by rw [up_o (by omega), up_o (by omega), o2 0 (by omega) (by omega)]; exact h1, by rw [up_o (by omega), up_o (by omega), o2 1 (by omega) (by omega)]; exact h2, by rw [up_o (by omega), up_a, pk_us], by rw [up_o (by omega), up_o (by omega), o2 3 (by omega) (by omega)]; exact h4, fun q => absurd q (by omega), fun _ => ?_, fun j hj => (h7 j hj).trans (o2 _ (by omega) (by omega)).symm, fun j hj => (h8 j hj).trans (o2 _ (by omega) (by omega)).symm, fun r w hr hw => (h9 r w hr hw).trans (o2 _ (by omega) (by omega)).symm, fun j hj => (h10 j hj).trans (o2 _ (by omega) (by omega)).symm, fun j hj => (h11 j hj).trans (o2 _ (by omega) (by omega)).symm⟩
  rw [up_a, Nat.add_sub_cancel]
  show nI 1 = upd _ _ _ (16 + 4 * nr + 3) + nI 1
  rw [pk_un (by omega), pk_us]; rfl
end Acts3
