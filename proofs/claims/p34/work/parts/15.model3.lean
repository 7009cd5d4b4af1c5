def ly (a : Nat → Int32) (r b w : Nat) (v : Int32) : Nat → Int32 := upd a (80 + 6 * (9 * r + b) + w) v
def m_ci (a : Nat → Int32) (r b : Nat) : Nat → (Nat → Int32)
  | 0 => a
  | j + 1 => ly (m_ci a r b j) r b j (nI 0)
def m_cc (a : Nat → Int32) (r : Nat) : Nat → (Nat → Int32)
  | 0 => a
  | i + 1 => m_ci (m_cc a r i) r i 6
def m_clr (a : Nat → Int32) (r : Nat) : Nat → Int32 := upd (m_cc a r 9) 3 (nI 0)
theorem ly_lo {a : Nat → Int32} {r b w j : Nat} {v : Int32} (h : j < 80) : ly a r b w v j = a j := pk_un (by omega)
