abbrev isn (tn : Nat → Nat) (len pl lo hi : Nat) : Prop := pl < len ∧ lo ≤ tn pl ∧ tn pl ≤ hi
def rd (tn : Nat → Nat) (len pl mo : Nat) : Option Nat := if isn tn len pl 48 (48 + mo) then some (tn pl - 48) else none
