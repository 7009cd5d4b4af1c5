theorem SbF.pt {ad : Nat → Nat} {cB : ClassId} {F F' : Nat → va_E} {e cap n n1 : Nat} {ml ml1 : Int32} {f : Nat → Int32} {fs : List Value} (h : SbF ad cB F e cap n ml f) (he : F' = va_up F e (.inr (0, fs))) (hfs : fs = [.ref (ad (e + 1)), .int (nI 0), .int ml1, .int (nI n1)]) : SbF ad cB F' e cap n1 ml1 f :=
  ⟨by rw [he, hfs]; simp [va_up], by rw [he, ← h.2]; simp [va_up]⟩
