def HRel (c z d : Nat) (hg : Nat → Nat → Int32) (ht : Nat → Nat → Nat → Int32) (h : Nat → Int32) : Prop := ∀ j, j < z → RS c (hg ((d + 5 - z + j) % 5)) (ht ((d + 5 - z + j) % 5)) (fun i => h (404 * j + i))
def JR (c : Nat) (hs : Int32) (g : Nat → Int32) (t : Nat → Nat → Int32) (d z : Nat) (hg : Nat → Nat → Int32) (ht : Nat → Nat → Nat → Int32) (g3 : Nat → Int32) (t3 : Nat → Nat → Int32) (n : Nat) (tx : Nat → Nat) (a h sn txm k : Nat → Int32) : Prop :=
  d < 5 ∧ z ≤ 4 ∧ k 0 = nI z ∧ RS c g t a ∧ HRel c z d hg ht h ∧ (hs = 0 ↔ k 1 = 0) ∧ (¬ hs = 0 → RS c g3 t3 sn) ∧ n ≤ 80 ∧ k 2 = nI n ∧ ∀ j, j < n → txm j = nI (tx j) ∧ tx j < 128
section Joint
variable {c : Nat} {hs : Int32} {g : Nat → Int32} {t : Nat → Nat → Int32} {d z : Nat} {hg : Nat → Nat → Int32} {ht : Nat → Nat → Nat → Int32} {g3 : Nat → Int32} {t3 : Nat → Nat → Int32} {n : Nat} {tx : Nat → Nat} {a h sn txm k : Nat → Int32}
theorem HRel.mono {c' : Nat} (hc : c ≤ c') (q : HRel c z d hg ht h) : HRel c' z d hg ht h := fun j hj => (q j hj).mono hc
theorem JR.mono {c' : Nat} (hc : c ≤ c') (q : JR c hs g t d z hg ht g3 t3 n tx a h sn txm k) : JR c' hs g t d z hg ht g3 t3 n tx a h sn txm k := by
  obtain ⟨h1, h2, h3, h4, h5, h6, h7, h8⟩ := q
  exact ⟨h1, h2, h3, h4.mono hc, h5.mono hc, h6, fun w => (h7 w).mono hc, h8⟩
end Joint
