abbrev Ev : Type := Nat × Nat × Nat × Nat
def kk (y : Ev) : Nat → Int32 := fun j => if j = 4 then nI y.1 else if j = 5 then nI y.2.1 else nI y.2.2.1
