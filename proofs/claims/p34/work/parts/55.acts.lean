section Acts
variable {c : Nat} {g : Nat → Int32} {t : Nat → Nat → Int32} {a h sn tx k : Nat → Int32} {nb nr np ck kp : Nat}
/-- the boats with a value in a column -/
theorem cnt_fin (hE : EQ g t a nr) {r : Nat} (hr : r < 6) : ∀ i, i ≤ 9 → ∃ n, n ≤ i ∧ c_cnt t (nI r) (nI 0) (nI 3) i = nI n ∧ m_fin a r i = nI n := by
  intro i
  induction i with
  | zero => intro _; exact ⟨0, Nat.le_refl _, rfl, rfl⟩
  | succ i ih =>
    intro hi
    obtain ⟨n, h1, h2, h3⟩ := ih (by omega)
    have e := hE.cent (r := r) (b := i) (w := 0) hr (by omega) (by omega)
    by_cases q : m_e a r i 0 = nI 3
    · refine ⟨n + 1, by omega, ?_, ?_⟩
      · rw [c_cnt, e, if_pos q, h2]; exact nI_add n 1
      · rw [m_fin, if_pos q, h3]; exact nI_add n 1
    · refine ⟨n, by omega, ?_, ?_⟩
      · rw [c_cnt, e, if_neg q, h2]
      · rw [m_fin, if_neg q, h3]; exact nI_add n 0
theorem cnt_out (hE : EQ g t a nr) {r : Nat} (hr : r < 6) : ∀ i, i ≤ 9 → (∀ b, b < i → ∃ ou, m_e a r b 4 = nI ou ∧ ou ≤ 1) → ∃ n, n ≤ i ∧ c_cnt t (nI r) (nI 4) (nI 1) i = nI n ∧ m_out a r i = nI n := by
  intro i
  induction i with
  | zero => intro _ _; exact ⟨0, Nat.le_refl _, rfl, rfl⟩
  | succ i ih =>
    intro hi ho
    obtain ⟨n, h1, h2, h3⟩ := ih (by omega) (fun b hb => ho b (by omega))
    have e := hE.cent (r := r) (b := i) (w := 4) hr (by omega) (by omega)
    obtain ⟨ou, o1, o2⟩ := ho i (by omega)
    rcases (show ou = 0 ∨ ou = 1 by omega) with rfl | rfl
    · refine ⟨n, by omega, ?_, ?_⟩
      · rw [c_cnt, e, o1, if_neg (by decide), h2]
      · rw [m_out, o1, h3]; exact nI_add n 0
    · refine ⟨n + 1, by omega, ?_, ?_⟩
      · rw [c_cnt, e, o1, if_pos rfl, h2]; exact nI_add n 1
      · rw [m_out, o1, h3]; exact nI_add n 1
theorem IV.outs (hV : IV c a nb nr np ck) {r : Nat} (hr : r < nr) : ∀ b, b < nb → ∃ ou, m_e a r b 4 = nI ou ∧ ou ≤ 1 := fun b hb => by
  obtain ⟨bu, la, st, cl, g1, g2, g3, g4, g5, g6, g7, g8, g9, g10, g11, g12⟩ := hV.2.2.2.2.2.2.2.2.2.2.2.1 r hr
  obtain ⟨s, ro, pe, ou, fi, k1, k2, k3, k4, k5, k6, k7, k8, k9⟩ := g12 b hb
  exact ⟨ou, k7, k8⟩
end Acts
