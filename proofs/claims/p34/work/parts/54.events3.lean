section Ev3
variable {c : Nat} {g : Nat → Int32} {t : Nat → Nat → Int32} {a : Nat → Int32} {nb nr np ck : Nat}
theorem onc {s : Nat} (hs : s ≤ 4) : (if nI s = nI 2 then nI 1 else if nI s = nI 3 then nI 1 else nI 0 : Int32) = 0 ↔ ¬ (¬ nI s < nI 2 ∧ ¬ nI 3 < nI s) := by
  rcases (show s = 0 ∨ s = 1 ∨ s = 2 ∨ s = 3 ∨ s = 4 by omega) with rfl | rfl | rfl | rfl | rfl <;> decide
end Ev3
section St
variable {c : Nat} {g : Nat → Int32} {t : Nat → Nat → Int32} {a h sn tx k : Nat → Int32} {nb nr np ck kp : Nat}
end St
