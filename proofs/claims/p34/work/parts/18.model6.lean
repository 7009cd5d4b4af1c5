theorem sw_0_4 (x : Int32) : x = 0 ∨ x = 1 ∨ x = 2 ∨ x = 3 ∨ x = 4 ∨ (x.toInt < 0 ∨ 4 < x.toInt) := by
  by_cases h : x.toInt < 0 ∨ 4 < x.toInt
  · simp [h]
  · have h1 : 0 ≤ x.toInt ∧ x.toInt ≤ 4 := by omega
    obtain ⟨k, rfl⟩ : ∃ k : Fin 5, x = Int32.ofInt (0 + (k.val : Int)) := ⟨⟨(x.toInt - 0).toNat, by omega⟩, by
      show x = Int32.ofInt (0 + (((x.toInt - 0).toNat : Nat) : Int))
      rw [show (0 + (((x.toInt - 0).toNat : Nat) : Int)) = x.toInt by omega]
      simp⟩
    clear h h1; revert k; decide +kernel
theorem sw_0_6 (x : Int32) : x = 0 ∨ x = 1 ∨ x = 2 ∨ x = 3 ∨ x = 4 ∨ x = 5 ∨ x = 6 ∨ (x.toInt < 0 ∨ 6 < x.toInt) := by
  by_cases h : x.toInt < 0 ∨ 6 < x.toInt
  · simp [h]
  · have h1 : 0 ≤ x.toInt ∧ x.toInt ≤ 6 := by omega
    obtain ⟨k, rfl⟩ : ∃ k : Fin 7, x = Int32.ofInt (0 + (k.val : Int)) := ⟨⟨(x.toInt - 0).toNat, by omega⟩, by
      show x = Int32.ofInt (0 + (((x.toInt - 0).toNat : Nat) : Int))
      rw [show (0 + (((x.toInt - 0).toNat : Nat) : Int)) = x.toInt by omega]
      simp⟩
    clear h h1; revert k; decide +kernel
theorem sw_0_8 (x : Int32) : x = 0 ∨ x = 1 ∨ x = 2 ∨ x = 3 ∨ x = 4 ∨ x = 5 ∨ x = 6 ∨ x = 7 ∨ x = 8 ∨ (x.toInt < 0 ∨ 8 < x.toInt) := by
  by_cases h : x.toInt < 0 ∨ 8 < x.toInt
  · simp [h]
  · have h1 : 0 ≤ x.toInt ∧ x.toInt ≤ 8 := by omega
    obtain ⟨k, rfl⟩ : ∃ k : Fin 9, x = Int32.ofInt (0 + (k.val : Int)) := ⟨⟨(x.toInt - 0).toNat, by omega⟩, by
      show x = Int32.ofInt (0 + (((x.toInt - 0).toNat : Nat) : Int))
      rw [show (0 + (((x.toInt - 0).toNat : Nat) : Int)) = x.toInt by omega]
      simp⟩
    clear h h1; revert k; decide +kernel
theorem sw_0_10 (x : Int32) : x = 0 ∨ x = 1 ∨ x = 2 ∨ x = 3 ∨ x = 4 ∨ x = 5 ∨ x = 6 ∨ x = 7 ∨ x = 8 ∨ x = 9 ∨ x = 10 ∨ (x.toInt < 0 ∨ 10 < x.toInt) := by
  by_cases h : x.toInt < 0 ∨ 10 < x.toInt
  · simp [h]
  · have h1 : 0 ≤ x.toInt ∧ x.toInt ≤ 10 := by omega
    obtain ⟨k, rfl⟩ : ∃ k : Fin 11, x = Int32.ofInt (0 + (k.val : Int)) := ⟨⟨(x.toInt - 0).toNat, by omega⟩, by
      show x = Int32.ofInt (0 + (((x.toInt - 0).toNat : Nat) : Int))
      rw [show (0 + (((x.toInt - 0).toNat : Nat) : Int)) = x.toInt by omega]
      simp⟩
    clear h h1; revert k; decide +kernel
def s_X8_result (a : Nat → Int32) (x : Int32) (y : Int32) (w : Int32) (nb : Nat) : Int32 := (if ¬ x < nI 0 ∧ ¬ a 2 - nI 1 < x then (if ¬ y < nI 0 ∧ ¬ a 1 - nI 1 < y then (if (m_r a x.toNatClampNeg 3) = (nI 1) then (if w = 0 then m_e a x.toNatClampNeg y.toNatClampNeg 0 else (if w = 1 then m_e a x.toNatClampNeg y.toNatClampNeg 1 else (if w = 2 then m_e a x.toNatClampNeg y.toNatClampNeg 2 else (if w = 3 then m_e a x.toNatClampNeg y.toNatClampNeg 3 else (if w = 4 then m_e a x.toNatClampNeg y.toNatClampNeg 4 else (if w = 5 then m_el a x.toNatClampNeg y.toNatClampNeg else (if w = 6 then m_co a x.toNatClampNeg y.toNatClampNeg else (if w = 7 then m_place a x.toNatClampNeg y.toNatClampNeg nb else (if w = 8 then m_pts a x.toNatClampNeg y.toNatClampNeg nb else (-2)))))))))) else (if w = 0 then m_e a x.toNatClampNeg y.toNatClampNeg 0 else (if w = 1 then m_e a x.toNatClampNeg y.toNatClampNeg 1 else (if w = 2 then m_e a x.toNatClampNeg y.toNatClampNeg 2 else (if w = 3 then m_e a x.toNatClampNeg y.toNatClampNeg 3 else (if w = 4 then m_e a x.toNatClampNeg y.toNatClampNeg 4 else (if w = 5 then m_el a x.toNatClampNeg y.toNatClampNeg else (if w = 6 then m_co a x.toNatClampNeg y.toNatClampNeg else (if w = 7 then (-5) else (if w = 8 then (-5) else (-2))))))))))) else (-1)) else (-1))
def s_X8_boat (a : Nat → Int32) (x : Int32) (w : Int32) (nb : Nat) (nc : Nat) : Int32 := (if ¬ x < nI 0 ∧ ¬ a 1 - nI 1 < x then (if w = 0 then a (7 + x.toNatClampNeg) else (if w = 1 then m_tot a x.toNatClampNeg nb nc else (if w = 2 then m_rk a x.toNatClampNeg nb nc nb else (if w = 3 then oI (m_lo a x.toNatClampNeg nb nc) else (if w = 4 then m_pof a x.toNatClampNeg nb 1 nc else (-2)))))) else (-1))
def m_rkd (s : Nat → Int32) (x : Int32) (nb nc : Nat) : Nat → Int32
  | 0 => (-5)
  | i + 1 => if m_rk s i nb nc nb = x then nI i else m_rkd s x nb nc i
def s_X8_race (a : Nat → Int32) (x : Int32) (w : Int32) (nb : Nat) : Int32 := (if ¬ x < nI 0 ∧ ¬ a 2 - nI 1 < x then (if w = 0 then m_r a x.toNatClampNeg 0 else (if w = 1 then m_r a x.toNatClampNeg 1 else (if w = 2 then m_r a x.toNatClampNeg 2 else (if w = 3 then (m_r a x.toNatClampNeg 3) + (nI 1) else (if w = 4 then m_fin a x.toNatClampNeg nb else (if w = 5 then m_out a x.toNatClampNeg nb else (if w = 6 then oI (m_bst a x.toNatClampNeg nb) else (-2)))))))) else (-1))
def s_X8_protest (a : Nat → Int32) (x : Int32) (w : Int32) : Int32 := (if ¬ x < nI 0 ∧ ¬ a 3 - nI 1 < x then (if ¬ w < (nI 0) ∧ ¬ (nI 3) < w then m_p a x.toNatClampNeg w.toNatClampNeg else (-2)) else (-1))
def s_X8_placeNow (a : Nat → Int32) (x : Int32) (nb : Nat) (nr : Nat) : Int32 := (if ¬ x < nI 0 ∧ ¬ a 1 - nI 1 < x then (if 0 < nr ∧ m_r a (nr - 1) 3 = 0 then m_place a (nr - 1) x.toNatClampNeg nb else (-4)) else (-1))
def m_bj (s : Nat → Int32) (r nb : Nat) : Nat := (m_bst s r nb).getD 0
def s_X8_secondsLeft (a : Nat → Int32) (x : Int32) (nb : Nat) (nr : Nat) : Int32 := (if ¬ x < nI 0 ∧ ¬ a 1 - nI 1 < x then (if 0 < nr ∧ m_r a (nr - 1) 3 = 0 then (if (m_e a (nr - 1) x.toNatClampNeg 0) = (nI 2) then (if m_bst a (nr - 1) nb = none then (-5) else (if ((m_co a (nr - 1) ((m_bj a (nr - 1) nb))) * (a (7 + x.toNatClampNeg))) = 0 then (-5) else (if 0 ≤ (((((m_co a (nr - 1) ((m_bj a (nr - 1) nb))) * (a (7 + x.toNatClampNeg))) - (nI 1)) / (nI 100)) - (((a 0) - (m_r a (nr - 1) 2)) + (m_e a (nr - 1) x.toNatClampNeg 3))) then ((((m_co a (nr - 1) ((m_bj a (nr - 1) nb))) * (a (7 + x.toNatClampNeg))) - (nI 1)) / (nI 100)) - (((a 0) - (m_r a (nr - 1) 2)) + (m_e a (nr - 1) x.toNatClampNeg 3)) else (-5)))) else (-4)) else (-4)) else (-1))
