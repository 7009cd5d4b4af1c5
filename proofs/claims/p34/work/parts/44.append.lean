/-- the log's text, as it stands: n signs tx -/
def LgF (ad : Nat → Nat) (cB : ClassId) (F : Nat → va_E) (q n : Nat) (tx : Nat → Nat) : Prop := LoF ad F q ∧ ∃ (cap : Nat) (ml : Int32) (f : Nat → Int32), SbF ad cB F (q + 1) cap n ml f ∧ n ≤ cap ∧ cap ≤ 160 ∧ (∀ j, j < n → tx j < 128 ∧ f j = nI (tx j)) ∧ Byt cap f
