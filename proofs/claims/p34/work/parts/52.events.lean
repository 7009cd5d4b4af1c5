section Ev
variable {c : Nat} {g : Nat → Int32} {t : Nat → Nat → Int32} {a : Nat → Int32} {nb nr np ck : Nat}
/-- the boat's own entry, where a race is prepared -/
theorem IV.lat (hV : IV c a nb nr np ck) (hn : 0 < nr) {b : Nat} (hb : b < nb) : ∃ bu la st, m_r a (nr - 1) 0 = nI bu ∧ 0 < bu ∧ bu ≤ 5 ∧ m_r a (nr - 1) 1 = nI la ∧ 0 < la ∧ la ≤ 3 ∧ m_r a (nr - 1) 2 = nI st ∧ st ≤ 1003600 + 3600 * c ∧ BV c a (nr - 1) b (bu * la) st True ck := by
  obtain ⟨bu, la, st, cl, g1, g2, g3, g4, g5, g6, g7, g8, g9, g10, g11, g12⟩ := hV.2.2.2.2.2.2.2.2.2.2.2.1 (nr - 1) (by omega)
  exact ⟨bu, la, st, g1, g2, g3, g4, g5, g6, g7, g8, (g12 b hb).cl (fun _ => by omega)⟩
end Ev
