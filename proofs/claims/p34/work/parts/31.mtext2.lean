def rsl (tn : Nat → Nat) (len : Nat) : Nat → Nat → Nat → Nat × Nat
  | 0, i, v => (i, v)
  | f + 1, i, v => if isn tn len i 48 57 then (if nI 100 ≤ nI v then (i, v) else rsl tn len f (i + 1) (10 * v + tn i - 48)) else (i, v)
def rsc (tn : Nat → Nat) (len pl : Nat) : Option Nat := if isn tn len pl 49 57 then some (rsl tn len (len - pl) pl 0).2 else none
def rsp (tn : Nat → Nat) (len pl : Nat) : Nat := if isn tn len pl 49 57 then (rsl tn len (len - pl) pl 0).1 else pl
