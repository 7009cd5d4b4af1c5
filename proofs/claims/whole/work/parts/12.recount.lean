def sc_rr (g : Nat → Int32) (t : Nat → Nat → Int32) (x : Int32) (tm : Nat → Int32) (nb : Nat) (pt tl : Nat → Int32) : Nat → (Nat → Int32) × (Nat → Int32)
  | 0 => (pt, tl)
  | i + 1 => if s_place tm (nI i) nb = (-5) then (tp 9 54 (sc_rr g t x tm nb pt tl i).1 x (nI i) (s_X4_pointsFor g t x (nI i) (s_place tm (nI i) nb)), (sc_rr g t x tm nb pt tl i).2) else (tp 9 54 (sc_rr g t x tm nb pt tl i).1 x (nI i) (s_X4_pointsFor g t x (nI i) (s_place tm (nI i) nb)), tp 10 90 (sc_rr g t x tm nb pt tl i).2 (nI i) (s_place tm (nI i) nb) (tg 10 90 (sc_rr g t x tm nb pt tl i).2 (nI i) (s_place tm (nI i) nb) + nI 1))
def sc_su (pt : Nat → Int32) (x : Int32) : Nat → Int32 × Int32 × Int32 × Int32
  | 0 => (nI 0, (-5), nI 0, nI 0)
  | i + 1 => if tg 9 54 pt (nI i) x < (sc_su pt x i).2.2.1 then ((sc_su pt x i).1 + tg 9 54 pt (nI i) x, (sc_su pt x i).2.1, (sc_su pt x i).2.2.1, tg 9 54 pt (nI i) x) else ((sc_su pt x i).1 + tg 9 54 pt (nI i) x, nI i, tg 9 54 pt (nI i) x, tg 9 54 pt (nI i) x)
abbrev c_drp (g : Nat → Int32) (t : Nat → Nat → Int32) : Prop := ¬ tg 1 3 (t 1) (nI 2) (nI 0) = 0 ∧ ¬ c_cl g < tg 1 3 (t 1) (nI 2) (nI 0)
theorem c_drp_or (g : Nat → Int32) (t : Nat → Nat → Int32) : c_drp g t ∨ ¬ c_drp g t := Classical.em _
def sc_sum (g : Nat → Int32) (t : Nat → Nat → Int32) (pt sm : Nat → Int32) (x : Int32) (nc : Nat) : Nat → Int32 :=
  tp 4 36 (tp 4 36 (tp 4 36 (tp 4 36 sm x (nI 0) (sc_su pt x nc).1) x (nI 1) (if c_drp g t then (sc_su pt x nc).1 - (sc_su pt x nc).2.2.1 else (sc_su pt x nc).1)) x (nI 2) (if c_drp g t then (sc_su pt x nc).2.1 else (-5))) x (nI 3) (sc_su pt x nc).2.2.2
def sc_ct (tl : Nat → Int32) : Nat → (Nat → Int32)
  | 0 => tl
  | i + 1 => tcl 10 90 (sc_ct tl i) (nI i) 10
def sc_r2 (g : Nat → Int32) (t : Nat → Nat → Int32) (nb : Nat) (tm pt tl : Nat → Int32) : Nat → (Nat → Int32) × (Nat → Int32) × (Nat → Int32)
  | 0 => (tm, pt, tl)
  | i + 1 => (sc_rt t (nI i) (sc_r2 g t nb tm pt tl i).1 nb, (sc_rr g t (nI i) (sc_rt t (nI i) (sc_r2 g t nb tm pt tl i).1 nb) nb (sc_r2 g t nb tm pt tl i).2.1 (sc_r2 g t nb tm pt tl i).2.2 nb).1, (sc_rr g t (nI i) (sc_rt t (nI i) (sc_r2 g t nb tm pt tl i).1 nb) nb (sc_r2 g t nb tm pt tl i).2.1 (sc_r2 g t nb tm pt tl i).2.2 nb).2)
def sc_s3 (g : Nat → Int32) (t : Nat → Nat → Int32) (pt : Nat → Int32) (nc : Nat) (sm : Nat → Int32) : Nat → (Nat → Int32)
  | 0 => sm
  | i + 1 => sc_sum g t pt (sc_s3 g t pt nc sm i) (nI i) nc
def sc_ah (sm tl : Nat → Int32) (x y : Int32) : Int32 := if tg 4 36 sm x (nI 3) = tg 4 36 sm y (nI 3) then (if y ≤ x then nI 0 else nI 1) else (if tg 4 36 sm y (nI 3) ≤ tg 4 36 sm x (nI 3) then nI 0 else nI 1)
def sc_ap (sm tl : Nat → Int32) (x y : Int32) : Nat → Nat → Int32
  | 0, _ => sc_ah sm tl x y
  | f + 1, i => if tg 10 90 tl x (nI i) = tg 10 90 tl y (nI i) then sc_ap sm tl x y f (i + 1) else if tg 10 90 tl x (nI i) ≤ tg 10 90 tl y (nI i) then nI 0 else nI 1
def sc_ahead (sm tl : Nat → Int32) (x y : Int32) : Int32 := if tg 4 36 sm x (nI 1) = tg 4 36 sm y (nI 1) then sc_ap sm tl x y 9 1 else if tg 4 36 sm y (nI 1) ≤ tg 4 36 sm x (nI 1) then nI 0 else nI 1
def sc_rank (sm tl : Nat → Int32) (x : Int32) : Nat → Int32
  | 0 => nI 1
  | i + 1 => if sc_ahead sm tl (nI i) x = 0 then sc_rank sm tl x i else sc_rank sm tl x i + 1
