/-! what the class' queries answer, on naturals -/
section Asks
variable {c : Nat} {A : Nat → Nat} {g : Nat → Int32} {t : Nat → Nat → Int32}
def latN (A : Nat → Nat) : Nat := if A 2 = 0 then 0 else rA A (A 2 - 1) 3 + 1
theorem res_pre (hJ : HJ c A) (hc : c ≤ 512) (hk : A 0 ≤ 999999) (hE : EQ g t (arr A) (A 2)) {r b : Nat} (hr : r < A 2) (hb : b < A 1) (w : Int32) (tm : Nat → Int32) : s_X7_result g t tm (nI r) (nI b) w (A 1) = (if rA A r 3 = 1 then (if w = 0 then nI (eA A r b 0) else (if w = 1 then nI (eA A r b 1) else (if w = 2 then nI (eA A r b 2) else (if w = 3 then nI (eA A r b 3) else (if w = 4 then nI (eA A r b 4) else (if w = 5 then m_el (arr A) r b else (if w = 6 then m_co (arr A) r b else (if w = 7 then m_place (arr A) r b (A 1) else (if w = 8 then m_pts (arr A) r b (A 1) else (-2)))))))))) else (if w = 0 then nI (eA A r b 0) else (if w = 1 then nI (eA A r b 1) else (if w = 2 then nI (eA A r b 2) else (if w = 3 then nI (eA A r b 3) else (if w = 4 then nI (eA A r b 4) else (if w = 5 then m_el (arr A) r b else (if w = 6 then m_co (arr A) r b else (if w = 7 then (-5) else (if w = 8 then (-5) else (-2))))))))))) := by
  have h9 := hJ.1.1
  have h6 := hJ.1.2.1
  have h3 := (hJ.2.1 r hr).2.2.2.2.2.1
  rw [q_result (Nat.le_refl 512) (hJ.iv hc hk) hE (q_cl hJ hE) ncl_le (ncl_r3 hJ)]
  unfold s_X8_result
  rw [show arr A 2 = nI (A 2) from rfl, show arr A 1 = nI (A 1) from rfl, if_pos (m_in hr (by omega)), if_pos (m_in hb (by omega)), nI_clamp (by omega), nI_clamp (by omega)]
  by_cases q : rA A r 3 = 1
  · rw [if_pos (show m_r (arr A) r 3 = nI 1 from congrArg nI q), if_pos q]; rfl
  · rw [if_neg (show ¬ m_r (arr A) r 3 = nI 1 from fun z => q ((nI_eq (by omega) (by omega)).mp z)), if_neg q]; rfl
theorem a_res0 (hJ : HJ c A) (hc : c ≤ 512) (hk : A 0 ≤ 999999) (hE : EQ g t (arr A) (A 2)) {r b : Nat} (hr : r < A 2) (hb : b < A 1) (tm : Nat → Int32) : s_X7_result g t tm (nI r) (nI b) (nI 0) (A 1) = nI (eA A r b 0) := by
  rw [res_pre hJ hc hk hE hr hb]
  by_cases q : rA A r 3 = 1
  · rw [if_pos q, if_pos (show (nI 0 : Int32) = 0 from rfl)]
  · rw [if_neg q, if_pos (show (nI 0 : Int32) = 0 from rfl)]
theorem a_res1 (hJ : HJ c A) (hc : c ≤ 512) (hk : A 0 ≤ 999999) (hE : EQ g t (arr A) (A 2)) {r b : Nat} (hr : r < A 2) (hb : b < A 1) (tm : Nat → Int32) : s_X7_result g t tm (nI r) (nI b) (nI 1) (A 1) = nI (eA A r b 1) := by
  rw [res_pre hJ hc hk hE hr hb]
  by_cases q : rA A r 3 = 1
  · rw [if_pos q, if_neg (show ¬ (nI 1 : Int32) = 0 by decide), if_pos (show (nI 1 : Int32) = 1 from rfl)]
  · rw [if_neg q, if_neg (show ¬ (nI 1 : Int32) = 0 by decide), if_pos (show (nI 1 : Int32) = 1 from rfl)]
theorem a_res2 (hJ : HJ c A) (hc : c ≤ 512) (hk : A 0 ≤ 999999) (hE : EQ g t (arr A) (A 2)) {r b : Nat} (hr : r < A 2) (hb : b < A 1) (tm : Nat → Int32) : s_X7_result g t tm (nI r) (nI b) (nI 2) (A 1) = nI (eA A r b 2) := by
  rw [res_pre hJ hc hk hE hr hb]
  by_cases q : rA A r 3 = 1
  · rw [if_pos q, if_neg (show ¬ (nI 2 : Int32) = 0 by decide), if_neg (show ¬ (nI 2 : Int32) = 1 by decide), if_pos (show (nI 2 : Int32) = 2 from rfl)]
  · rw [if_neg q, if_neg (show ¬ (nI 2 : Int32) = 0 by decide), if_neg (show ¬ (nI 2 : Int32) = 1 by decide), if_pos (show (nI 2 : Int32) = 2 from rfl)]
theorem a_res3 (hJ : HJ c A) (hc : c ≤ 512) (hk : A 0 ≤ 999999) (hE : EQ g t (arr A) (A 2)) {r b : Nat} (hr : r < A 2) (hb : b < A 1) (tm : Nat → Int32) : s_X7_result g t tm (nI r) (nI b) (nI 3) (A 1) = nI (eA A r b 3) := by
  rw [res_pre hJ hc hk hE hr hb]
  by_cases q : rA A r 3 = 1
  · rw [if_pos q, if_neg (show ¬ (nI 3 : Int32) = 0 by decide), if_neg (show ¬ (nI 3 : Int32) = 1 by decide), if_neg (show ¬ (nI 3 : Int32) = 2 by decide), if_pos (show (nI 3 : Int32) = 3 from rfl)]
  · rw [if_neg q, if_neg (show ¬ (nI 3 : Int32) = 0 by decide), if_neg (show ¬ (nI 3 : Int32) = 1 by decide), if_neg (show ¬ (nI 3 : Int32) = 2 by decide), if_pos (show (nI 3 : Int32) = 3 from rfl)]
theorem a_res4 (hJ : HJ c A) (hc : c ≤ 512) (hk : A 0 ≤ 999999) (hE : EQ g t (arr A) (A 2)) {r b : Nat} (hr : r < A 2) (hb : b < A 1) (tm : Nat → Int32) : s_X7_result g t tm (nI r) (nI b) (nI 4) (A 1) = nI (eA A r b 4) := by
  rw [res_pre hJ hc hk hE hr hb]
  by_cases q : rA A r 3 = 1
  · rw [if_pos q, if_neg (show ¬ (nI 4 : Int32) = 0 by decide), if_neg (show ¬ (nI 4 : Int32) = 1 by decide), if_neg (show ¬ (nI 4 : Int32) = 2 by decide), if_neg (show ¬ (nI 4 : Int32) = 3 by decide), if_pos (show (nI 4 : Int32) = 4 from rfl)]
  · rw [if_neg q, if_neg (show ¬ (nI 4 : Int32) = 0 by decide), if_neg (show ¬ (nI 4 : Int32) = 1 by decide), if_neg (show ¬ (nI 4 : Int32) = 2 by decide), if_neg (show ¬ (nI 4 : Int32) = 3 by decide), if_pos (show (nI 4 : Int32) = 4 from rfl)]
theorem a_res5 (hJ : HJ c A) (hc : c ≤ 512) (hk : A 0 ≤ 999999) (hE : EQ g t (arr A) (A 2)) {r b : Nat} (hr : r < A 2) (hb : b < A 1) (tm : Nat → Int32) : s_X7_result g t tm (nI r) (nI b) (nI 5) (A 1) = m_el (arr A) r b := by
  rw [res_pre hJ hc hk hE hr hb]
  by_cases q : rA A r 3 = 1
  · rw [if_pos q, if_neg (show ¬ (nI 5 : Int32) = 0 by decide), if_neg (show ¬ (nI 5 : Int32) = 1 by decide), if_neg (show ¬ (nI 5 : Int32) = 2 by decide), if_neg (show ¬ (nI 5 : Int32) = 3 by decide), if_neg (show ¬ (nI 5 : Int32) = 4 by decide), if_pos (show (nI 5 : Int32) = 5 from rfl)]
  · rw [if_neg q, if_neg (show ¬ (nI 5 : Int32) = 0 by decide), if_neg (show ¬ (nI 5 : Int32) = 1 by decide), if_neg (show ¬ (nI 5 : Int32) = 2 by decide), if_neg (show ¬ (nI 5 : Int32) = 3 by decide), if_neg (show ¬ (nI 5 : Int32) = 4 by decide), if_pos (show (nI 5 : Int32) = 5 from rfl)]
theorem a_res6 (hJ : HJ c A) (hc : c ≤ 512) (hk : A 0 ≤ 999999) (hE : EQ g t (arr A) (A 2)) {r b : Nat} (hr : r < A 2) (hb : b < A 1) (tm : Nat → Int32) : s_X7_result g t tm (nI r) (nI b) (nI 6) (A 1) = m_co (arr A) r b := by
  rw [res_pre hJ hc hk hE hr hb]
  by_cases q : rA A r 3 = 1
  · rw [if_pos q, if_neg (show ¬ (nI 6 : Int32) = 0 by decide), if_neg (show ¬ (nI 6 : Int32) = 1 by decide), if_neg (show ¬ (nI 6 : Int32) = 2 by decide), if_neg (show ¬ (nI 6 : Int32) = 3 by decide), if_neg (show ¬ (nI 6 : Int32) = 4 by decide), if_neg (show ¬ (nI 6 : Int32) = 5 by decide), if_pos (show (nI 6 : Int32) = 6 from rfl)]
  · rw [if_neg q, if_neg (show ¬ (nI 6 : Int32) = 0 by decide), if_neg (show ¬ (nI 6 : Int32) = 1 by decide), if_neg (show ¬ (nI 6 : Int32) = 2 by decide), if_neg (show ¬ (nI 6 : Int32) = 3 by decide), if_neg (show ¬ (nI 6 : Int32) = 4 by decide), if_neg (show ¬ (nI 6 : Int32) = 5 by decide), if_pos (show (nI 6 : Int32) = 6 from rfl)]
theorem a_res7 (hJ : HJ c A) (hc : c ≤ 512) (hk : A 0 ≤ 999999) (hE : EQ g t (arr A) (A 2)) {r b : Nat} (hr : r < A 2) (hb : b < A 1) (tm : Nat → Int32) : s_X7_result g t tm (nI r) (nI b) (nI 7) (A 1) = if rA A r 3 = 1 then m_place (arr A) r b (A 1) else (-5) := by
  rw [res_pre hJ hc hk hE hr hb]
  by_cases q : rA A r 3 = 1
  · rw [if_pos q, if_pos q, if_neg (show ¬ (nI 7 : Int32) = 0 by decide), if_neg (show ¬ (nI 7 : Int32) = 1 by decide), if_neg (show ¬ (nI 7 : Int32) = 2 by decide), if_neg (show ¬ (nI 7 : Int32) = 3 by decide), if_neg (show ¬ (nI 7 : Int32) = 4 by decide), if_neg (show ¬ (nI 7 : Int32) = 5 by decide), if_neg (show ¬ (nI 7 : Int32) = 6 by decide), if_pos (show (nI 7 : Int32) = 7 from rfl)]
  · rw [if_neg q, if_neg q, if_neg (show ¬ (nI 7 : Int32) = 0 by decide), if_neg (show ¬ (nI 7 : Int32) = 1 by decide), if_neg (show ¬ (nI 7 : Int32) = 2 by decide), if_neg (show ¬ (nI 7 : Int32) = 3 by decide), if_neg (show ¬ (nI 7 : Int32) = 4 by decide), if_neg (show ¬ (nI 7 : Int32) = 5 by decide), if_neg (show ¬ (nI 7 : Int32) = 6 by decide), if_pos (show (nI 7 : Int32) = 7 from rfl)]
theorem a_res8 (hJ : HJ c A) (hc : c ≤ 512) (hk : A 0 ≤ 999999) (hE : EQ g t (arr A) (A 2)) {r b : Nat} (hr : r < A 2) (hb : b < A 1) (tm : Nat → Int32) : s_X7_result g t tm (nI r) (nI b) (nI 8) (A 1) = if rA A r 3 = 1 then m_pts (arr A) r b (A 1) else (-5) := by
  rw [res_pre hJ hc hk hE hr hb]
  by_cases q : rA A r 3 = 1
  · rw [if_pos q, if_pos q, if_neg (show ¬ (nI 8 : Int32) = 0 by decide), if_neg (show ¬ (nI 8 : Int32) = 1 by decide), if_neg (show ¬ (nI 8 : Int32) = 2 by decide), if_neg (show ¬ (nI 8 : Int32) = 3 by decide), if_neg (show ¬ (nI 8 : Int32) = 4 by decide), if_neg (show ¬ (nI 8 : Int32) = 5 by decide), if_neg (show ¬ (nI 8 : Int32) = 6 by decide), if_neg (show ¬ (nI 8 : Int32) = 7 by decide), if_pos (show (nI 8 : Int32) = 8 from rfl)]
  · rw [if_neg q, if_neg q, if_neg (show ¬ (nI 8 : Int32) = 0 by decide), if_neg (show ¬ (nI 8 : Int32) = 1 by decide), if_neg (show ¬ (nI 8 : Int32) = 2 by decide), if_neg (show ¬ (nI 8 : Int32) = 3 by decide), if_neg (show ¬ (nI 8 : Int32) = 4 by decide), if_neg (show ¬ (nI 8 : Int32) = 5 by decide), if_neg (show ¬ (nI 8 : Int32) = 6 by decide), if_neg (show ¬ (nI 8 : Int32) = 7 by decide), if_pos (show (nI 8 : Int32) = 8 from rfl)]
theorem boa_pre (hJ : HJ c A) (hc : c ≤ 512) (hk : A 0 ≤ 999999) (hE : EQ g t (arr A) (A 2)) {b : Nat} (hb : b < A 1) (w : Int32) (tm pt sm tl : Nat → Int32) : s_X7_boat g t tm pt sm tl (nI b) w (A 1) (ncl A) = (if w = 0 then nI (A (7 + b)) else (if w = 1 then m_tot (arr A) b (A 1) (ncl A) else (if w = 2 then m_rk (arr A) b (A 1) (ncl A) (A 1) else (if w = 3 then oI (m_lo (arr A) b (A 1) (ncl A)) else (if w = 4 then m_pof (arr A) b (A 1) 1 (ncl A) else (-2)))))) := by
  have h9 := hJ.1.1
  rw [q_boat (Nat.le_refl 512) (hJ.iv hc hk) hE (q_cl hJ hE) ncl_le]
  unfold s_X8_boat
  rw [show arr A 1 = nI (A 1) from rfl, if_pos (m_in hb (by omega)), nI_clamp (by omega)]
  rfl
theorem n6 (hJ : HJ c A) : ncl A ≤ 6 := by
  have := ncl_le (A := A)
  have := hJ.1.2.1
  omega
theorem a_boa0 (hJ : HJ c A) (hc : c ≤ 512) (hk : A 0 ≤ 999999) (hE : EQ g t (arr A) (A 2)) {b : Nat} (hb : b < A 1) (tm pt sm tl : Nat → Int32) : s_X7_boat g t tm pt sm tl (nI b) (nI 0) (A 1) (ncl A) = nI (A (7 + b)) := by
  rw [boa_pre hJ hc hk hE hb, if_pos (show (nI 0 : Int32) = 0 from rfl)]
theorem a_boa1 (hJ : HJ c A) (hc : c ≤ 512) (hk : A 0 ≤ 999999) (hE : EQ g t (arr A) (A 2)) {b : Nat} (hb : b < A 1) (tm pt sm tl : Nat → Int32) : s_X7_boat g t tm pt sm tl (nI b) (nI 1) (A 1) (ncl A) = nI (toN A b) := by
  rw [boa_pre hJ hc hk hE hb, if_neg (show ¬ (nI 1 : Int32) = 0 by decide), if_pos (show (nI 1 : Int32) = 1 from rfl)]
  exact (tot_n hJ hc hk hb).1
theorem a_boa2 (hJ : HJ c A) (hc : c ≤ 512) (hk : A 0 ≤ 999999) (hE : EQ g t (arr A) (A 2)) {b : Nat} (hb : b < A 1) (tm pt sm tl : Nat → Int32) : s_X7_boat g t tm pt sm tl (nI b) (nI 2) (A 1) (ncl A) = nI (rkN A b) := by
  rw [boa_pre hJ hc hk hE hb, if_neg (show ¬ (nI 2 : Int32) = 0 by decide), if_neg (show ¬ (nI 2 : Int32) = 1 by decide), if_pos (show (nI 2 : Int32) = 2 from rfl)]
  exact mrk_eq (hJ.iv hc hk) (n6 hJ) hb (A 1) (Nat.le_refl _)
theorem a_boa3 (hJ : HJ c A) (hc : c ≤ 512) (hk : A 0 ≤ 999999) (hE : EQ g t (arr A) (A 2)) {b : Nat} (hb : b < A 1) (tm pt sm tl : Nat → Int32) : s_X7_boat g t tm pt sm tl (nI b) (nI 3) (A 1) (ncl A) = if 0 < A 6 ∧ A 6 ≤ ncl A then nI (loN A b) else (-5) := by
  rw [boa_pre hJ hc hk hE hb, if_neg (show ¬ (nI 3 : Int32) = 0 by decide), if_neg (show ¬ (nI 3 : Int32) = 1 by decide), if_neg (show ¬ (nI 3 : Int32) = 2 by decide), if_pos (show (nI 3 : Int32) = 3 from rfl)]
  unfold m_lo
  by_cases hd : drp A
  · rw [if_pos ((is_iff hJ).mpr hd), if_pos (show 0 < A 6 ∧ A 6 ≤ ncl A from hd), (lo_n hJ hc hk hb hd).1]; rfl
  · rw [if_neg (fun z => hd ((is_iff hJ).mp z)), if_neg (show ¬ (0 < A 6 ∧ A 6 ≤ ncl A) from hd)]; rfl
theorem a_boa4 (hJ : HJ c A) (hc : c ≤ 512) (hk : A 0 ≤ 999999) (hE : EQ g t (arr A) (A 2)) {b : Nat} (hb : b < A 1) (tm pt sm tl : Nat → Int32) : s_X7_boat g t tm pt sm tl (nI b) (nI 4) (A 1) (ncl A) = nI (pfN A b 1 (ncl A)) := by
  rw [boa_pre hJ hc hk hE hb, if_neg (show ¬ (nI 4 : Int32) = 0 by decide), if_neg (show ¬ (nI 4 : Int32) = 1 by decide), if_neg (show ¬ (nI 4 : Int32) = 2 by decide), if_neg (show ¬ (nI 4 : Int32) = 3 by decide), if_pos (show (nI 4 : Int32) = 4 from rfl)]
  exact (pof_n hJ hc hk hb (by omega) (ncl A) ncl_le).1
theorem rac_pre (hJ : HJ c A) (hc : c ≤ 512) (hk : A 0 ≤ 999999) (hE : EQ g t (arr A) (A 2)) {r : Nat} (hr : r < A 2) (w : Int32) (tm : Nat → Int32) : s_X7_race g t tm (nI r) w (A 1) = (if w = 0 then nI (rA A r 0) else (if w = 1 then nI (rA A r 1) else (if w = 2 then nI (rA A r 2) else (if w = 3 then nI (rA A r 3) + nI 1 else (if w = 4 then m_fin (arr A) r (A 1) else (if w = 5 then m_out (arr A) r (A 1) else (if w = 6 then oI (m_bst (arr A) r (A 1)) else (-2)))))))) := by
  have h6 := hJ.1.2.1
  rw [q_race (Nat.le_refl 512) (hJ.iv hc hk) hE (q_cl hJ hE) ncl_le (ncl_r3 hJ)]
  unfold s_X8_race
  rw [show arr A 2 = nI (A 2) from rfl, if_pos (m_in hr (by omega)), nI_clamp (by omega)]
  rfl
theorem a_rac0 (hJ : HJ c A) (hc : c ≤ 512) (hk : A 0 ≤ 999999) (hE : EQ g t (arr A) (A 2)) {r : Nat} (hr : r < A 2) (tm : Nat → Int32) : s_X7_race g t tm (nI r) (nI 0) (A 1) = nI (rA A r 0) := by
  rw [rac_pre hJ hc hk hE hr, if_pos (show (nI 0 : Int32) = 0 from rfl)]
theorem a_rac1 (hJ : HJ c A) (hc : c ≤ 512) (hk : A 0 ≤ 999999) (hE : EQ g t (arr A) (A 2)) {r : Nat} (hr : r < A 2) (tm : Nat → Int32) : s_X7_race g t tm (nI r) (nI 1) (A 1) = nI (rA A r 1) := by
  rw [rac_pre hJ hc hk hE hr, if_neg (show ¬ (nI 1 : Int32) = 0 by decide), if_pos (show (nI 1 : Int32) = 1 from rfl)]
theorem a_rac2 (hJ : HJ c A) (hc : c ≤ 512) (hk : A 0 ≤ 999999) (hE : EQ g t (arr A) (A 2)) {r : Nat} (hr : r < A 2) (tm : Nat → Int32) : s_X7_race g t tm (nI r) (nI 2) (A 1) = nI (rA A r 2) := by
  rw [rac_pre hJ hc hk hE hr, if_neg (show ¬ (nI 2 : Int32) = 0 by decide), if_neg (show ¬ (nI 2 : Int32) = 1 by decide), if_pos (show (nI 2 : Int32) = 2 from rfl)]
theorem a_rac3 (hJ : HJ c A) (hc : c ≤ 512) (hk : A 0 ≤ 999999) (hE : EQ g t (arr A) (A 2)) {r : Nat} (hr : r < A 2) (tm : Nat → Int32) : s_X7_race g t tm (nI r) (nI 3) (A 1) = nI (rA A r 3 + 1) := by
  rw [rac_pre hJ hc hk hE hr, if_neg (show ¬ (nI 3 : Int32) = 0 by decide), if_neg (show ¬ (nI 3 : Int32) = 1 by decide), if_neg (show ¬ (nI 3 : Int32) = 2 by decide), if_pos (show (nI 3 : Int32) = 3 from rfl)]
  exact nI_add _ _
theorem a_rac4 (hJ : HJ c A) (hc : c ≤ 512) (hk : A 0 ≤ 999999) (hE : EQ g t (arr A) (A 2)) {r : Nat} (hr : r < A 2) (tm : Nat → Int32) : s_X7_race g t tm (nI r) (nI 4) (A 1) = nI (finN A r (A 1)) := by
  rw [rac_pre hJ hc hk hE hr, if_neg (show ¬ (nI 4 : Int32) = 0 by decide), if_neg (show ¬ (nI 4 : Int32) = 1 by decide), if_neg (show ¬ (nI 4 : Int32) = 2 by decide), if_neg (show ¬ (nI 4 : Int32) = 3 by decide), if_pos (show (nI 4 : Int32) = 4 from rfl)]
  exact (fin_eq (fun b hb => (hJ.bj hr hb).1) (A 1) (Nat.le_refl _)).1
theorem a_rac5 (hJ : HJ c A) (hc : c ≤ 512) (hk : A 0 ≤ 999999) (hE : EQ g t (arr A) (A 2)) {r : Nat} (hr : r < A 2) (tm : Nat → Int32) : s_X7_race g t tm (nI r) (nI 5) (A 1) = nI (outN A r (A 1)) := by
  rw [rac_pre hJ hc hk hE hr, if_neg (show ¬ (nI 5 : Int32) = 0 by decide), if_neg (show ¬ (nI 5 : Int32) = 1 by decide), if_neg (show ¬ (nI 5 : Int32) = 2 by decide), if_neg (show ¬ (nI 5 : Int32) = 3 by decide), if_neg (show ¬ (nI 5 : Int32) = 4 by decide), if_pos (show (nI 5 : Int32) = 5 from rfl)]
  exact (out_eq (fun b hb => (hJ.bj hr hb).2.2.2.2.2.1) (A 1) (Nat.le_refl _)).1
theorem a_rac6 (hJ : HJ c A) (hc : c ≤ 512) (hk : A 0 ≤ 999999) (hE : EQ g t (arr A) (A 2)) {r : Nat} (hr : r < A 2) (tm : Nat → Int32) : s_X7_race g t tm (nI r) (nI 6) (A 1) = oI (m_bst (arr A) r (A 1)) := by
  rw [rac_pre hJ hc hk hE hr, if_neg (show ¬ (nI 6 : Int32) = 0 by decide), if_neg (show ¬ (nI 6 : Int32) = 1 by decide), if_neg (show ¬ (nI 6 : Int32) = 2 by decide), if_neg (show ¬ (nI 6 : Int32) = 3 by decide), if_neg (show ¬ (nI 6 : Int32) = 4 by decide), if_neg (show ¬ (nI 6 : Int32) = 5 by decide), if_pos (show (nI 6 : Int32) = 6 from rfl)]
theorem a_pro0 (hJ : HJ c A) (hc : c ≤ 512) (hk : A 0 ≤ 999999) (hE : EQ g t (arr A) (A 2)) {p : Nat} (hp : p < A 3) : s_X7_protest g t (nI p) (nI 0) = nI (pA A p 0) := by
  have h10 := hJ.1.2.2.1
  unfold s_X7_protest
  rw [if_pos (q_inp hE h10 hp), if_neg (show ¬ (nI 0 : Int32) < 0 by decide), if_pos (show (nI 0 : Int32) ≤ nI 3 by decide)]
  exact q_pro hE (by omega) (by omega)
theorem a_pro1 (hJ : HJ c A) (hc : c ≤ 512) (hk : A 0 ≤ 999999) (hE : EQ g t (arr A) (A 2)) {p : Nat} (hp : p < A 3) : s_X7_protest g t (nI p) (nI 1) = nI (pA A p 1) := by
  have h10 := hJ.1.2.2.1
  unfold s_X7_protest
  rw [if_pos (q_inp hE h10 hp), if_neg (show ¬ (nI 1 : Int32) < 0 by decide), if_pos (show (nI 1 : Int32) ≤ nI 3 by decide)]
  exact q_pro hE (by omega) (by omega)
theorem a_pro2 (hJ : HJ c A) (hc : c ≤ 512) (hk : A 0 ≤ 999999) (hE : EQ g t (arr A) (A 2)) {p : Nat} (hp : p < A 3) : s_X7_protest g t (nI p) (nI 2) = nI (pA A p 2) := by
  have h10 := hJ.1.2.2.1
  unfold s_X7_protest
  rw [if_pos (q_inp hE h10 hp), if_neg (show ¬ (nI 2 : Int32) < 0 by decide), if_pos (show (nI 2 : Int32) ≤ nI 3 by decide)]
  exact q_pro hE (by omega) (by omega)
theorem a_pro3 (hJ : HJ c A) (hc : c ≤ 512) (hk : A 0 ≤ 999999) (hE : EQ g t (arr A) (A 2)) {p : Nat} (hp : p < A 3) : s_X7_protest g t (nI p) (nI 3) = nI (pA A p 3) := by
  have h10 := hJ.1.2.2.1
  unfold s_X7_protest
  rw [if_pos (q_inp hE h10 hp), if_neg (show ¬ (nI 3 : Int32) < 0 by decide), if_pos (show (nI 3 : Int32) ≤ nI 3 by decide)]
  exact q_pro hE (by omega) (by omega)
theorem a_cou0 (hJ : HJ c A) (hc : c ≤ 512) (hk : A 0 ≤ 999999) (hE : EQ g t (arr A) (A 2)) (z n : Nat) : s_X7_count g t z n (nI 0) = nI (A 1) := by
  unfold s_X7_count
  rw [if_pos (show (nI 0 : Int32) = 0 from rfl)]
  exact hE.2.1
theorem a_cou1 (hJ : HJ c A) (hc : c ≤ 512) (hk : A 0 ≤ 999999) (hE : EQ g t (arr A) (A 2)) (z n : Nat) : s_X7_count g t z n (nI 1) = nI (A 2) := by
  unfold s_X7_count
  rw [if_neg (show ¬ (nI 1 : Int32) = 0 by decide), if_pos (show (nI 1 : Int32) = 1 from rfl)]
  exact hE.2.2.1
theorem a_cou2 (hJ : HJ c A) (hc : c ≤ 512) (hk : A 0 ≤ 999999) (hE : EQ g t (arr A) (A 2)) (z n : Nat) : s_X7_count g t z n (nI 2) = nI (ncl A) := by
  unfold s_X7_count
  rw [if_neg (show ¬ (nI 2 : Int32) = 0 by decide), if_neg (show ¬ (nI 2 : Int32) = 1 by decide), if_pos (show (nI 2 : Int32) = 2 from rfl)]
  exact q_cl hJ hE
theorem a_cou3 (hJ : HJ c A) (hc : c ≤ 512) (hk : A 0 ≤ 999999) (hE : EQ g t (arr A) (A 2)) (z n : Nat) : s_X7_count g t z n (nI 3) = nI (A 0) := by
  unfold s_X7_count
  rw [if_neg (show ¬ (nI 3 : Int32) = 0 by decide), if_neg (show ¬ (nI 3 : Int32) = 1 by decide), if_neg (show ¬ (nI 3 : Int32) = 2 by decide), if_pos (show (nI 3 : Int32) = 3 from rfl)]
  exact hE.1
theorem a_cou4 (hJ : HJ c A) (hc : c ≤ 512) (hk : A 0 ≤ 999999) (hE : EQ g t (arr A) (A 2)) (z n : Nat) : s_X7_count g t z n (nI 4) = nI (latN A) := by
  unfold s_X7_count
  rw [if_neg (show ¬ (nI 4 : Int32) = 0 by decide), if_neg (show ¬ (nI 4 : Int32) = 1 by decide), if_neg (show ¬ (nI 4 : Int32) = 2 by decide), if_neg (show ¬ (nI 4 : Int32) = 3 by decide), if_pos (show (nI 4 : Int32) = 4 from rfl)]
  exact cl_of hE hJ.1.2.1
theorem a_cou5 (hJ : HJ c A) (hc : c ≤ 512) (hk : A 0 ≤ 999999) (hE : EQ g t (arr A) (A 2)) (z n : Nat) : s_X7_count g t z n (nI 5) = nI (A 3) := by
  unfold s_X7_count
  rw [if_neg (show ¬ (nI 5 : Int32) = 0 by decide), if_neg (show ¬ (nI 5 : Int32) = 1 by decide), if_neg (show ¬ (nI 5 : Int32) = 2 by decide), if_neg (show ¬ (nI 5 : Int32) = 3 by decide), if_neg (show ¬ (nI 5 : Int32) = 4 by decide), if_pos (show (nI 5 : Int32) = 5 from rfl)]
  exact hE.2.2.2.1
theorem a_cou6 (hJ : HJ c A) (hc : c ≤ 512) (hk : A 0 ≤ 999999) (hE : EQ g t (arr A) (A 2)) (z n : Nat) : s_X7_count g t z n (nI 6) = nI (A 4) := by
  unfold s_X7_count
  rw [if_neg (show ¬ (nI 6 : Int32) = 0 by decide), if_neg (show ¬ (nI 6 : Int32) = 1 by decide), if_neg (show ¬ (nI 6 : Int32) = 2 by decide), if_neg (show ¬ (nI 6 : Int32) = 3 by decide), if_neg (show ¬ (nI 6 : Int32) = 4 by decide), if_neg (show ¬ (nI 6 : Int32) = 5 by decide), if_pos (show (nI 6 : Int32) = 6 from rfl)]
  exact q_set hE (j := 0) (by omega)
theorem a_cou7 (hJ : HJ c A) (hc : c ≤ 512) (hk : A 0 ≤ 999999) (hE : EQ g t (arr A) (A 2)) (z n : Nat) : s_X7_count g t z n (nI 7) = nI (A 5) := by
  unfold s_X7_count
  rw [if_neg (show ¬ (nI 7 : Int32) = 0 by decide), if_neg (show ¬ (nI 7 : Int32) = 1 by decide), if_neg (show ¬ (nI 7 : Int32) = 2 by decide), if_neg (show ¬ (nI 7 : Int32) = 3 by decide), if_neg (show ¬ (nI 7 : Int32) = 4 by decide), if_neg (show ¬ (nI 7 : Int32) = 5 by decide), if_neg (show ¬ (nI 7 : Int32) = 6 by decide), if_pos (show (nI 7 : Int32) = 7 from rfl)]
  exact q_set hE (j := 1) (by omega)
theorem a_cou8 (hJ : HJ c A) (hc : c ≤ 512) (hk : A 0 ≤ 999999) (hE : EQ g t (arr A) (A 2)) (z n : Nat) : s_X7_count g t z n (nI 8) = nI (A 6) := by
  unfold s_X7_count
  rw [if_neg (show ¬ (nI 8 : Int32) = 0 by decide), if_neg (show ¬ (nI 8 : Int32) = 1 by decide), if_neg (show ¬ (nI 8 : Int32) = 2 by decide), if_neg (show ¬ (nI 8 : Int32) = 3 by decide), if_neg (show ¬ (nI 8 : Int32) = 4 by decide), if_neg (show ¬ (nI 8 : Int32) = 5 by decide), if_neg (show ¬ (nI 8 : Int32) = 6 by decide), if_neg (show ¬ (nI 8 : Int32) = 7 by decide), if_pos (show (nI 8 : Int32) = 8 from rfl)]
  exact q_set hE (j := 2) (by omega)
theorem lat_op (hJ : HJ c A) : latN A = 1 ↔ opn A := by
  have h1 := hJ.op1
  unfold latN opn
  by_cases h : A 2 = 0
  · rw [if_pos h]; exact ⟨fun q => absurd q (by decide), fun q => absurd q.1 (by omega)⟩
  · rw [if_neg h]; exact ⟨fun q => ⟨by omega, by omega⟩, fun q => by have := q.2; omega⟩
theorem lat_le (hJ : HJ c A) : latN A ≤ 2 ∧ (latN A = 0 ↔ A 2 = 0) := by
  have h1 := hJ.op1
  unfold latN
  by_cases h : A 2 = 0
  · rw [if_pos h]; exact ⟨by omega, by omega⟩
  · rw [if_neg h]; have := h1 (by omega); exact ⟨by omega, by omega⟩
theorem a_plc (hJ : HJ c A) (hc : c ≤ 512) (hk : A 0 ≤ 999999) (hE : EQ g t (arr A) (A 2)) (ho : opn A) {b : Nat} (hb : b < A 1) (tm : Nat → Int32) : s_X7_placeNow g t tm (nI b) (A 1) = if cnP A (A 2 - 1) b then nI (plN A (A 2 - 1) b) else (-5) := by
  have h9 := hJ.1.1
  rw [q_placeNow (Nat.le_refl 512) (hJ.iv hc hk) hE]
  unfold s_X8_placeNow
  rw [show arr A 1 = nI (A 1) from rfl, if_pos (m_in hb (by omega)), nI_clamp (by omega), if_pos (show 0 < A 2 ∧ m_r (arr A) (A 2 - 1) 3 = 0 from ⟨ho.1, (congrArg nI ho.2 : nI (rA A (A 2 - 1) 3) = nI 0)⟩)]
  exact place_n hJ hc hk (by have := ho.1; omega) hb
theorem a_plc_no (hJ : HJ c A) (hc : c ≤ 512) (hk : A 0 ≤ 999999) (hE : EQ g t (arr A) (A 2)) (ho : ¬ opn A) {b : Nat} (hb : b < A 1) (tm : Nat → Int32) : s_X7_placeNow g t tm (nI b) (A 1) = (-4) := by
  have h9 := hJ.1.1
  unfold s_X7_placeNow
  rw [if_pos (q_in hE h9 hb), if_neg (fun q => ho ((hJ.opg hE).mp q))]
theorem a_sec_no (hJ : HJ c A) (hc : c ≤ 512) (hk : A 0 ≤ 999999) (hE : EQ g t (arr A) (A 2)) {b : Nat} (hb : b < A 1) (ho : opn A → ¬ eA A (A 2 - 1) b 0 = 2) (tm : Nat → Int32) : s_X7_secondsLeft g t tm (nI b) (A 1) = (-4) := by
  have h9 := hJ.1.1
  unfold s_X7_secondsLeft
  rw [if_pos (q_in hE h9 hb)]
  by_cases h : opn A
  · have h4 := (hJ.bj (r := A 2 - 1) (by have := h.1; omega) hb).1
    rw [if_pos ((hJ.opg hE).mpr h), q_lat hE hJ.1.2.1 h.1 (by omega) (by omega), if_neg (fun z => ho h ((nI_eq (by omega) (by omega)).mp z))]
  · rw [if_neg (fun q => h ((hJ.opg hE).mp q))]
/-- the boat that leads a race -/
theorem bst_n (hJ : HJ c A) (hc : c ≤ 512) (hk : A 0 ≤ 999999) {r : Nat} (hr : r < A 2) : (m_bst (arr A) r (A 1) = none ∧ ∀ i, i < A 1 → ¬ cnP A r i) ∨ (∃ j, m_bst (arr A) r (A 1) = some j ∧ j < A 1 ∧ cnP A r j ∧ ∀ i, i < A 1 → cnP A r i → coN A r j ≤ coN A r i) := by
  rcases bst_ok (a := arr A) (r := r) (A 1) with ⟨h1, h2⟩ | ⟨j, h1, h2, h3, h4, h5⟩
  · exact Or.inl ⟨h1, fun i hi q => h2 i hi ((cn_iff hJ hr hi).mpr q)⟩
  · have k3 := (cn_iff hJ hr h2).mp h3
    refine Or.inr ⟨j, h1, h2, k3, fun i hi q => ?_⟩
    have h := h4 i hi ((cn_iff hJ hr hi).mpr q)
    have b1 := co_b hJ hc hk hr h2
    have b2 := co_b hJ hc hk hr hi
    rw [co_n hJ hc hk hr h2 k3.1, co_n hJ hc hk hr hi q.1] at h
    exact (nI_leI (by omega) (by omega)).mp h
theorem sec_pre (hJ : HJ c A) (hc : c ≤ 512) (hk : A 0 ≤ 999999) (hE : EQ g t (arr A) (A 2)) (ho : opn A) {b : Nat} (hb : b < A 1) (hs : eA A (A 2 - 1) b 0 = 2) (tm : Nat → Int32) : s_X7_secondsLeft g t tm (nI b) (A 1) = (if m_bst (arr A) (A 2 - 1) (A 1) = none then (-5) else (if ((m_co (arr A) (A 2 - 1) ((m_bj (arr A) (A 2 - 1) (A 1)))) * (nI (A (7 + b)))) = 0 then (-5) else (if 0 ≤ (((((m_co (arr A) (A 2 - 1) ((m_bj (arr A) (A 2 - 1) (A 1)))) * (nI (A (7 + b)))) - (nI 1)) / (nI 100)) - (((nI (A 0)) - (nI (rA A (A 2 - 1) 2))) + (nI (eA A (A 2 - 1) b 3)))) then ((((m_co (arr A) (A 2 - 1) ((m_bj (arr A) (A 2 - 1) (A 1)))) * (nI (A (7 + b)))) - (nI 1)) / (nI 100)) - (((nI (A 0)) - (nI (rA A (A 2 - 1) 2))) + (nI (eA A (A 2 - 1) b 3))) else (-5)))) := by
  have h9 := hJ.1.1
  rw [q_seconds (Nat.le_refl 512) (hJ.iv hc hk) hE]
  unfold s_X8_secondsLeft
  rw [show arr A 1 = nI (A 1) from rfl, if_pos (m_in hb (by omega)), nI_clamp (by omega), if_pos (show 0 < A 2 ∧ m_r (arr A) (A 2 - 1) 3 = 0 from ⟨ho.1, (congrArg nI ho.2 : nI (rA A (A 2 - 1) 3) = nI 0)⟩), if_pos (show m_e (arr A) (A 2 - 1) b 0 = nI 2 from congrArg nI hs)]
  rfl
/-- the elapsed time that a sailing boat would have now -/
abbrev nwN (A : Nat → Nat) (b : Nat) : Nat := A 0 - rA A (A 2 - 1) 2 + eA A (A 2 - 1) b 3
theorem a_sec_none (hJ : HJ c A) (hc : c ≤ 512) (hk : A 0 ≤ 999999) (hE : EQ g t (arr A) (A 2)) (ho : opn A) {b : Nat} (hb : b < A 1) (hs : eA A (A 2 - 1) b 0 = 2) (hn : m_bst (arr A) (A 2 - 1) (A 1) = none) (tm : Nat → Int32) : s_X7_secondsLeft g t tm (nI b) (A 1) = (-5) := by
  rw [sec_pre hJ hc hk hE ho hb hs, if_pos hn]
theorem sec_b (hJ : HJ c A) (hc : c ≤ 512) (hk : A 0 ≤ 999999) (ho : opn A) {b j : Nat} (hb : b < A 1) (hj : j < A 1) (hs : eA A (A 2 - 1) b 0 = 2) : rA A (A 2 - 1) 2 ≤ A 0 ∧ nwN A b ≤ 1153599 ∧ coN A (A 2 - 1) j * A (7 + b) ≤ 346079700 := by
  have hr : A 2 - 1 < A 2 := by have := ho.1; omega
  obtain ⟨b1, b2, b3, b4, b5, b6, b7, b8, b9, b10⟩ := hJ.bj hr hb
  have h1 := b10 (by omega) (Or.inl hs)
  exact ⟨h1, (show A 0 - rA A (A 2 - 1) 2 + eA A (A 2 - 1) b 3 ≤ 1153599 by omega), Nat.mul_le_mul (co_b hJ hc hk hr hj) (hJ.rt hb).2⟩
theorem sec_mid (hJ : HJ c A) (hc : c ≤ 512) (hk : A 0 ≤ 999999) (hE : EQ g t (arr A) (A 2)) (ho : opn A) {b j : Nat} (hb : b < A 1) (hs : eA A (A 2 - 1) b 0 = 2) (hj : m_bst (arr A) (A 2 - 1) (A 1) = some j) (hj1 : j < A 1) (hj2 : cnP A (A 2 - 1) j) (hp : 0 < coN A (A 2 - 1) j * A (7 + b)) (tm : Nat → Int32) : s_X7_secondsLeft g t tm (nI b) (A 1) = if 0 ≤ nI ((coN A (A 2 - 1) j * A (7 + b) - 1) / 100) - nI (nwN A b) then nI ((coN A (A 2 - 1) j * A (7 + b) - 1) / 100) - nI (nwN A b) else (-5) := by
  have hr : A 2 - 1 < A 2 := by have := ho.1; omega
  obtain ⟨k1, k2, k3⟩ := sec_b hJ hc hk ho hb hj1 hs
  have ej : m_bj (arr A) (A 2 - 1) (A 1) = j := by unfold m_bj; rw [hj]; rfl
  rw [sec_pre hJ hc hk hE ho hb hs, if_neg (show ¬ m_bst (arr A) (A 2 - 1) (A 1) = none by rw [hj]; exact fun z => by cases z), ej, co_n hJ hc hk hr hj1 hj2.1, pk_mul, if_neg (show ¬ nI (coN A (A 2 - 1) j * A (7 + b)) = 0 from fun z => by have := (nI_eq (b := 0) (by omega) (by omega)).mp z; omega), pk_sub hp, pk_div (by omega) (by omega) (by omega), pk_sub k1, nI_add]
theorem a_sec_late (hJ : HJ c A) (hc : c ≤ 512) (hk : A 0 ≤ 999999) (hE : EQ g t (arr A) (A 2)) (ho : opn A) {b j : Nat} (hb : b < A 1) (hs : eA A (A 2 - 1) b 0 = 2) (hj : m_bst (arr A) (A 2 - 1) (A 1) = some j) (hj1 : j < A 1) (hj2 : cnP A (A 2 - 1) j) (hl : coN A (A 2 - 1) j * A (7 + b) ≤ 100 * nwN A b) (tm : Nat → Int32) : s_X7_secondsLeft g t tm (nI b) (A 1) = (-5) := by
  have hr : A 2 - 1 < A 2 := by have := ho.1; omega
  obtain ⟨k1, k2, k3⟩ := sec_b hJ hc hk ho hb hj1 hs
  by_cases hp : 0 < coN A (A 2 - 1) j * A (7 + b)
  · rw [sec_mid hJ hc hk hE ho hb hs hj hj1 hj2 hp, if_neg (fun z => by
      have h := Int32.le_iff_toInt_le.mp z
      rw [pk_sub_toInt (by omega) (by omega)] at h
      have h0 : (0 : Int32).toInt = 0 := rfl
      rw [h0] at h
      omega)]
  · have ej : m_bj (arr A) (A 2 - 1) (A 1) = j := by unfold m_bj; rw [hj]; rfl
    rw [sec_pre hJ hc hk hE ho hb hs, if_neg (show ¬ m_bst (arr A) (A 2 - 1) (A 1) = none by rw [hj]; exact fun z => by cases z), ej, co_n hJ hc hk hr hj1 hj2.1, pk_mul, if_pos (show nI (coN A (A 2 - 1) j * A (7 + b)) = 0 by rw [show coN A (A 2 - 1) j * A (7 + b) = 0 by omega]; rfl)]
theorem a_sec_ok (hJ : HJ c A) (hc : c ≤ 512) (hk : A 0 ≤ 999999) (hE : EQ g t (arr A) (A 2)) (ho : opn A) {b j : Nat} (hb : b < A 1) (hs : eA A (A 2 - 1) b 0 = 2) (hj : m_bst (arr A) (A 2 - 1) (A 1) = some j) (hj1 : j < A 1) (hj2 : cnP A (A 2 - 1) j) (hl : 100 * nwN A b < coN A (A 2 - 1) j * A (7 + b)) (tm : Nat → Int32) : s_X7_secondsLeft g t tm (nI b) (A 1) = nI ((coN A (A 2 - 1) j * A (7 + b) - 1) / 100 - nwN A b) := by
  obtain ⟨k1, k2, k3⟩ := sec_b hJ hc hk ho hb hj1 hs
  rw [sec_mid hJ hc hk hE ho hb hs hj hj1 hj2 (by omega), pk_sub (by omega), if_pos (nI_pos' (by omega))]
theorem a_rid (hJ : HJ c A) (hc : c ≤ 512) (hk : A 0 ≤ 999999) (hE : EQ g t (arr A) (A 2)) {b r : Nat} (hb : b < A 1) (hr : r < ncl A) (tm pt sm tl : Nat → Int32) : s_X7_rankIfDisqualified g t tm pt sm tl (nI b) (nI r) (A 1) (ncl A) = nI (rk (AH (arr (ep A r b 4 1)) (A 1) (ncl A)) b (A 1)) := by
  have h9 := hJ.1.1
  have h6 := hJ.1.2.1
  have hn := ncl_le (A := A)
  unfold s_X7_rankIfDisqualified
  rw [if_pos (q_in hE h9 hb), if_pos (show ¬ nI r < 0 ∧ ¬ g 2 ≤ nI r from ⟨nI_pos (by omega), by rw [hE.2.2.1]; exact nI_ge (by omega) (by omega)⟩), if_pos (show ¬ nI r < 0 ∧ ¬ c_cl g ≤ nI r from ⟨nI_pos (by omega), by rw [q_cl hJ hE]; exact nI_ge hr (by omega)⟩)]
  have hV2 := iv_dsq (hJ.iv hc hk) (r := r) (b := b) (by omega) hb
  have hE2 : EQ g (va_up t 3 (tp 6 324 (t 3) (nI r * nI 9 + nI b) (nI 4) (nI 1))) (ly (arr A) r b 4 (nI 1)) (A 2) := hE.putr h6 (by omega) (by omega) (by omega)
  have R := rec_ok (c := 512) (by omega) hV2 hE2 (q_cl hJ hE) hn tm pt sm tl
  rw [crank_eq hV2 (n6 hJ) hb (fun b hb => ⟨(R b hb).2.1, (R b hb).2.2.2.1, (R b hb).2.2.2.2⟩) (A 1) (Nat.le_refl _), show ly (arr A) r b 4 (nI 1) = arr (ep A r b 4 1) from arr_up]
theorem a_rkd (hJ : HJ c A) (hc : c ≤ 512) (hk : A 0 ≤ 999999) (hE : EQ g t (arr A) (A 2)) {k b : Nat} (hk1 : 1 ≤ k) (hkb : k ≤ 10) (h : b < A 1 ∧ rkN A b = k) (tm pt sm tl : Nat → Int32) : (if nI 1 ≤ nI k then c_rkd (sc_s3 g t (sc_r2 g t (A 1) tm pt (sc_ct tl (A 1)) (ncl A)).2.1 (ncl A) sm (A 1)) (sc_r2 g t (A 1) tm pt (sc_ct tl (A 1)) (ncl A)).2.2 (nI k) (A 1) (A 1) 0 else (-2)) = nI b := by
  have h9 := hJ.1.1
  rw [if_pos (nI_le hk1 (by omega)), q_ranked (Nat.le_refl 512) (hJ.iv hc hk) hE (q_cl hJ hE) ncl_le]
  have key : ∀ n, n ≤ A 1 → b < n → m_rkd (arr A) (nI k) (A 1) (ncl A) n = nI b := by
    intro n
    induction n with
    | zero => intro _ h; omega
    | succ n ih =>
      intro hn hbn
      show (if m_rk (arr A) n (A 1) (ncl A) (A 1) = nI k then nI n else m_rkd (arr A) (nI k) (A 1) (ncl A) n) = nI b
      rw [show m_rk (arr A) n (A 1) (ncl A) (A 1) = nI (rkN A n) from mrk_eq (hJ.iv hc hk) (n6 hJ) (show n < A 1 by omega) (A 1) (Nat.le_refl _)]
      have hb1 := rkN_b hJ (b := n) (by omega)
      by_cases q : n = b
      · rw [if_pos (show nI (rkN A n) = nI k by rw [q, h.2]), q]
      · rw [if_neg (show ¬ nI (rkN A n) = nI k from fun z => by
          have := (nI_eq (by omega) (by omega)).mp z
          exact rkN_ne hJ hc hk (by omega) h.1 q (by omega))]
        exact ih (by omega) (by omega)
  exact key (A 1) (Nat.le_refl _) h.1
theorem a_rkd_no (hJ : HJ c A) (hc : c ≤ 512) (hk : A 0 ≤ 999999) (hE : EQ g t (arr A) (A 2)) (tm pt sm tl : Nat → Int32) : (if nI 1 ≤ nI (A 1 + 1) then c_rkd (sc_s3 g t (sc_r2 g t (A 1) tm pt (sc_ct tl (A 1)) (ncl A)).2.1 (ncl A) sm (A 1)) (sc_r2 g t (A 1) tm pt (sc_ct tl (A 1)) (ncl A)).2.2 (nI (A 1 + 1)) (A 1) (A 1) 0 else (-2)) = (-5) := by
  have h9 := hJ.1.1
  rw [if_pos (nI_le (by omega) (by omega)), q_ranked (Nat.le_refl 512) (hJ.iv hc hk) hE (q_cl hJ hE) ncl_le]
  have key : ∀ n, n ≤ A 1 → m_rkd (arr A) (nI (A 1 + 1)) (A 1) (ncl A) n = (-5) := by
    intro n
    induction n with
    | zero => intro _; rfl
    | succ n ih =>
      intro hn
      show (if m_rk (arr A) n (A 1) (ncl A) (A 1) = nI (A 1 + 1) then nI n else m_rkd (arr A) (nI (A 1 + 1)) (A 1) (ncl A) n) = (-5)
      rw [show m_rk (arr A) n (A 1) (ncl A) (A 1) = nI (rkN A n) from mrk_eq (hJ.iv hc hk) (n6 hJ) (show n < A 1 by omega) (A 1) (Nat.le_refl _)]
      have hb1 := rkN_b hJ (b := n) (by omega)
      rw [if_neg (show ¬ nI (rkN A n) = nI (A 1 + 1) from fun z => by
          have := (nI_eq (by omega) (by omega)).mp z
          omega)]
      exact ih (by omega)
  exact key (A 1) (Nat.le_refl _)
theorem a_mean_sum (hJ : HJ c A) (hc : c ≤ 512) (hk : A 0 ≤ 999999) (hE : EQ g t (arr A) (A 2)) {b : Nat} (hb : b < A 1) (tm pt sm tl : Nat → Int32) : tg 4 36 (sc_s3 g t (sc_r2 g t (A 1) tm pt (sc_ct tl (A 1)) (ncl A)).2.1 (ncl A) sm (A 1)) (nI b) (nI 0) = nI (smN A b (ncl A)) := by
  rw [(rec_ok (c := 512) (by omega) (hJ.iv hc hk) hE (q_cl hJ hE) ncl_le tm pt sm tl b hb).1]
  exact (sum_n hJ hc hk hb (ncl A) ncl_le).1
end Asks
