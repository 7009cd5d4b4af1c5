def pt (tn : Nat → Nat) (len : Nat) : Nat → Nat → Nat → Bool × Nat × Nat
  | 0, p, n => (false, p, n)
  | f + 1, p, n => match re tn len p with
    | none => (false, rf tn len p, n)
    | some y => if y.2.2.2 = len then (true, len, n + 1) else if isn tn len y.2.2.2 59 59 then pt tn len f (y.2.2.2 + 1) (n + 1) else (false, y.2.2.2, n + 1)
