theorem nI_ne5 {j : Nat} (h : j < 2 ^ 31) : ¬ nI j = (-5) := by
  intro q
  have := congrArg Int32.toInt q
  rw [nI_toInt h] at this
  have h2 : ((-5 : Int32)).toInt = -5 := by decide
  omega
def m_e (s : Nat → Int32) (r b w : Nat) : Int32 := s (80 + 6 * (9 * r + b) + w)
def m_r (s : Nat → Int32) (r w : Nat) : Int32 := s (16 + 4 * r + w)
def m_p (s : Nat → Int32) (p w : Nat) : Int32 := s (40 + 4 * p + w)
abbrev m_cnt (s : Nat → Int32) (r b : Nat) : Prop := m_e s r b 0 = nI 3 ∧ m_e s r b 4 = 0
def m_el (s : Nat → Int32) (r b : Nat) : Int32 := if m_e s r b 0 = nI 3 then m_e s r b 5 - m_r s r 2 + m_e s r b 3 else (-5)
def m_co (s : Nat → Int32) (r b : Nat) : Int32 := if m_e s r b 0 = nI 3 then nI 100 * m_el s r b / s (7 + b) else (-5)
def m_pl (s : Nat → Int32) (r b : Nat) : Nat → Int32
  | 0 => nI 1
  | i + 1 => if m_cnt s r i then (if m_co s r b ≤ m_co s r i then m_pl s r b i + nI 0 else m_pl s r b i + nI 1) else m_pl s r b i + nI 0
def m_place (s : Nat → Int32) (r b nb : Nat) : Int32 := if m_cnt s r b then m_pl s r b nb else (-5)
def m_pts (s : Nat → Int32) (r b nb : Nat) : Int32 := if m_place s r b nb = (-5) then (if m_e s r b 4 = nI 1 then s 1 + nI 2 else s 1 + nI 1) else m_place s r b nb
def m_cl (s : Nat → Int32) : Nat → Int32
  | 0 => nI 0
  | i + 1 => m_cl s i + m_r s i 3
def m_sum (s : Nat → Int32) (b nb : Nat) : Nat → Int32
  | 0 => nI 0
  | i + 1 => m_sum s b nb i + m_pts s i b nb
def oI (o : Option Nat) : Int32 := match o with | none => (-5) | some j => nI j
abbrev m_is (s : Nat → Int32) (nc : Nat) : Prop := 0 < s 6 ∧ ¬ nI nc < s 6
def m_lf (s : Nat → Int32) (b nb : Nat) : Nat → Option Nat
  | 0 => none
  | i + 1 => match m_lf s b nb i with
    | none => some i
    | some j => if m_pts s i b nb < m_pts s j b nb then some j else some i
def m_lo (s : Nat → Int32) (b nb nc : Nat) : Option Nat := if m_is s nc then m_lf s b nb nc else none
def m_tot (s : Nat → Int32) (b nb nc : Nat) : Int32 := match m_lo s b nb nc with | none => m_sum s b nb nc - nI 0 | some j => m_sum s b nb nc - m_pts s j b nb
def m_pof (s : Nat → Int32) (b nb : Nat) (w : Nat) : Nat → Int32
  | 0 => nI 0
  | i + 1 => if m_place s i b nb = nI w then m_pof s b nb w i + nI 1 else m_pof s b nb w i + nI 0
def m_by (s : Nat → Int32) (a b nb nc : Nat) : Nat → Int32
  | 0 => m_tot s b nb nc - m_tot s a nb nc
  | i + 1 => if m_by s a b nb nc i = 0 then m_pof s a nb (i + 1) nc - m_pof s b nb (i + 1) nc else m_by s a b nb nc i
def m_fin (s : Nat → Int32) (r : Nat) : Nat → Int32
  | 0 => nI 0
  | i + 1 => if m_e s r i 0 = nI 3 then m_fin s r i + nI 1 else m_fin s r i + nI 0
def m_out (s : Nat → Int32) (r : Nat) : Nat → Int32
  | 0 => nI 0
  | i + 1 => m_out s r i + m_e s r i 4
def m_bst (s : Nat → Int32) (r : Nat) : Nat → Option Nat
  | 0 => none
  | i + 1 => if m_cnt s r i then (match m_bst s r i with
    | none => some i
    | some j => if m_co s r j ≤ m_co s r i then some j else some i) else m_bst s r i
theorem m_lf_lt (s : Nat → Int32) (b nb : Nat) : ∀ (i j : Nat), m_lf s b nb i = some j → j < i := by
  intro i
  induction i with
  | zero => intro j h; cases h
  | succ i ih =>
    intro j h
    simp only [m_lf] at h
    cases hp : m_lf s b nb i with
    | none => rw [hp] at h; simp only [Option.some.injEq] at h; omega
    | some j0 =>
      rw [hp] at h
      have := ih j0 hp
      simp only at h
      split at h <;> simp only [Option.some.injEq] at h <;> omega
theorem m_lo_lt {s : Nat → Int32} {b nb nc j : Nat} (h : m_lo s b nb nc = some j) : j < nc := by
  simp only [m_lo] at h
  split at h
  · exact m_lf_lt s b nb nc j h
  · cases h
def m_last (s : Nat → Int32) (a b nb nc : Nat) (y : Int32) : Int32 := if y = 0 then (if 0 < nc then m_pts s (nc - 1) b nb - m_pts s (nc - 1) a nb else y) else y
def m_ahd (a b : Nat) (y : Int32) : Int32 := if 0 < y then nI 1 else if y = 0 then (if nI b ≤ nI a then nI 0 else nI 1) else nI 0
def m_ahead (s : Nat → Int32) (a b nb nc : Nat) : Int32 := m_ahd a b (m_last s a b nb nc (m_by s a b nb nc 9))
def m_rk (s : Nat → Int32) (b nb nc : Nat) : Nat → Int32
  | 0 => nI 1
  | i + 1 => if nI i = nI b then m_rk s b nb nc i + nI 0 else if m_ahead s i b nb nc = 0 then m_rk s b nb nc i + nI 0 else m_rk s b nb nc i + nI 1
