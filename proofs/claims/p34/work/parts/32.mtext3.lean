def reL (tn : Nat → Nat) (len pl : Nat) : Nat := if pl < len then tn pl else 0
def re (tn : Nat → Nat) (len pl : Nat) : Option (Nat × Nat × Nat × Nat) :=
  if reL tn len pl = 43 then (rsc tn len (pl + 1)).map (fun v => (43, v, 0, rsp tn len (pl + 1)))
  else if reL tn len pl = 108 ∨ reL tn len pl = 114 then (rd tn len (pl + 1) 8).map (fun d => (reL tn len pl, d, 0, pl + 2))
  else if reL tn len pl = 98 ∨ reL tn len pl = 104 then (rd tn len (pl + 1) 8).bind (fun d => (rd tn len (pl + 2) (if reL tn len pl = 98 then 4 else 8)).map (fun e => (reL tn len pl, d, e, pl + 3)))
  else none
def rf (tn : Nat → Nat) (len pl : Nat) : Nat :=
  if reL tn len pl = 43 then pl + 1
  else if reL tn len pl = 108 ∨ reL tn len pl = 114 then pl + 1
  else if reL tn len pl = 98 ∨ reL tn len pl = 104 then (if (rd tn len (pl + 1) 8).isSome then pl + 2 else pl + 1)
  else pl
