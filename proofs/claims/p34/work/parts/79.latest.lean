/-! the same, the latest race by its number -/
theorem a_line_go_r {c : Nat} {A : Nat → Nat} {g : Nat → Int32} {t : Nat → Nat → Int32} {r : Nat} (hr : r + 1 = A 2) (hJ : HJ c A) (hc : c ≤ 512) (hk : A 0 ≤ 999999) (ho : opn A) {b : Nat} (hb : b < A 1) (hs : eA A (r) b 0 ≤ 1) (hl : rA A (r) 2 ≤ A 0) (hE : EQ g t (arr A) (A 2)) : AR (s_X0_crossLine g t (nI b)) (nI 2) (ep A (r) b 0 2) := by
  obtain rfl : r = A 2 - 1 := by omega
  exact a_line_go hJ hc hk ho hb hs hl hE
theorem a_line_er_r {c : Nat} {A : Nat → Nat} {g : Nat → Int32} {t : Nat → Nat → Int32} {r : Nat} (hr : r + 1 = A 2) (hJ : HJ c A) (hc : c ≤ 512) (hk : A 0 ≤ 999999) (ho : opn A) {b : Nat} (hb : b < A 1) (hs : eA A (r) b 0 ≤ 1) (hl : A 0 < rA A (r) 2) (hE : EQ g t (arr A) (A 2)) : AR (s_X0_crossLine g t (nI b)) (nI (1 - eA A (r) b 0)) (ep A (r) b 0 (1 - eA A (r) b 0)) := by
  obtain rfl : r = A 2 - 1 := by omega
  exact a_line_er hJ hc hk ho hb hs hl hE
theorem a_line_fi_r {c : Nat} {A : Nat → Nat} {g : Nat → Int32} {t : Nat → Nat → Int32} {r : Nat} (hr : r + 1 = A 2) (hJ : HJ c A) (ho : opn A) {b : Nat} (hb : b < A 1) (hs : eA A (r) b 0 = 2) (ha : eA A (r) b 1 = rA A (r) 0 * rA A (r) 1) (hE : EQ g t (arr A) (A 2)) : AR (s_X0_crossLine g t (nI b)) (nI 3) (ep (ep A (r) b 5 (A 0)) (r) b 0 3) := by
  obtain rfl : r = A 2 - 1 := by omega
  exact a_line_fi hJ ho hb hs ha hE
theorem a_line_no_r {c : Nat} {A : Nat → Nat} {g : Nat → Int32} {t : Nat → Nat → Int32} {r : Nat} (hr : r + 1 = A 2) (hJ : HJ c A) {b : Nat} (hb : b < A 1) (hs : opn A → 3 ≤ eA A (r) b 0) (hE : EQ g t (arr A) (A 2)) : AR (s_X0_crossLine g t (nI b)) (-4) A := by
  obtain rfl : r = A 2 - 1 := by omega
  exact a_line_no hJ hb hs hE
theorem a_ret_ok_r {c : Nat} {A : Nat → Nat} {g : Nat → Int32} {t : Nat → Nat → Int32} {r : Nat} (hr : r + 1 = A 2) (hJ : HJ c A) (ho : opn A) {b : Nat} (hb : b < A 1) (hs : eA A (r) b 0 ≤ 2) (hE : EQ g t (arr A) (A 2)) : AR (s_X0_retireBoat g t (nI b)) (nI (eA A (r) b 0)) (ep A (r) b 0 4) := by
  obtain rfl : r = A 2 - 1 := by omega
  exact a_ret_ok hJ ho hb hs hE
theorem a_ret_no_r {c : Nat} {A : Nat → Nat} {g : Nat → Int32} {t : Nat → Nat → Int32} {r : Nat} (hr : r + 1 = A 2) (hJ : HJ c A) {b : Nat} (hb : b < A 1) (hs : opn A → 3 ≤ eA A (r) b 0) (hE : EQ g t (arr A) (A 2)) : AR (s_X0_retireBoat g t (nI b)) (-4) A := by
  obtain rfl : r = A 2 - 1 := by omega
  exact a_ret_no hJ hb hs hE
theorem a_buoy_no_r {c : Nat} {A : Nat → Nat} {g : Nat → Int32} {t : Nat → Nat → Int32} {r : Nat} (hr : r + 1 = A 2) (hJ : HJ c A) {b y : Nat} (hb : b < A 1) (hy : y < 9) (hs : opn A → rA A (r) 0 ≤ y) (hE : EQ g t (arr A) (A 2)) : AR (s_X0_passBuoy g t (nI b) (nI y)) (-2) A := by
  obtain rfl : r = A 2 - 1 := by omega
  exact a_buoy_no hJ hb hy hs hE
theorem a_buoy_ok_r {c : Nat} {A : Nat → Nat} {g : Nat → Int32} {t : Nat → Nat → Int32} {r : Nat} (hr : r + 1 = A 2) (hJ : HJ c A) (ho : opn A) {b y : Nat} (hb : b < A 1) (hy : y < rA A (r) 0) (hs : eA A (r) b 0 = 2) (h1 : y = eA A (r) b 1 % rA A (r) 0) (h2 : eA A (r) b 1 < rA A (r) 0 * rA A (r) 1) (hE : EQ g t (arr A) (A 2)) : AR (s_X0_passBuoy g t (nI b) (nI y)) (nI (eA A (r) b 1 + 1)) (ep A (r) b 1 (eA A (r) b 1 + 1)) := by
  obtain rfl : r = A 2 - 1 := by omega
  exact a_buoy_ok hJ ho hb hy hs h1 h2 hE
theorem a_buoy_mi_r {c : Nat} {A : Nat → Nat} {g : Nat → Int32} {t : Nat → Nat → Int32} {r : Nat} (hr : r + 1 = A 2) (hJ : HJ c A) (ho : opn A) {b y : Nat} (hb : b < A 1) (hy : y < rA A (r) 0) (hs : eA A (r) b 0 = 2) (h1 : ¬ y = eA A (r) b 1 % rA A (r) 0) (hE : EQ g t (arr A) (A 2)) : AR (s_X0_passBuoy g t (nI b) (nI y)) (nI (eA A (r) b 1)) (ep A (r) b 2 (eA A (r) b 2 + 1)) := by
  obtain rfl : r = A 2 - 1 := by omega
  exact a_buoy_mi hJ ho hb hy hs h1 hE
theorem a_post_ok_r {c : Nat} {A : Nat → Nat} {g : Nat → Int32} {t : Nat → Nat → Int32} {r : Nat} (hr : r + 1 = A 2) (hJ : HJ c A) (hc : c ≤ 512) (hk : A 0 ≤ 999999) (ho : opn A) {y : Nat} (h1 : 1 ≤ y) (h2 : y ≤ 3600) (hl : A 0 < rA A (r) 2) (hE : EQ g t (arr A) (A 2)) : AR (s_X0_postponeStart g t (nI y)) (nI (rA A (r) 2 + y)) (nup A (16 + 4 * (r) + 2) (rA A (r) 2 + y)) := by
  obtain rfl : r = A 2 - 1 := by omega
  exact a_post_ok hJ hc hk ho h1 h2 hl hE
theorem a_post_no_r {c : Nat} {A : Nat → Nat} {g : Nat → Int32} {t : Nat → Nat → Int32} {r : Nat} (hr : r + 1 = A 2) (hJ : HJ c A) (hk : A 0 ≤ 999999) {y : Nat} (h1 : 1 ≤ y) (h2 : y ≤ 3600) (hl : opn A → rA A (r) 2 ≤ A 0) (hE : EQ g t (arr A) (A 2)) : AR (s_X0_postponeStart g t (nI y)) (-4) A := by
  obtain rfl : r = A 2 - 1 := by omega
  exact a_post_no hJ hk h1 h2 hl hE
theorem a_rec_ok_r {c : Nat} {A : Nat → Nat} {g : Nat → Int32} {t : Nat → Nat → Int32} {r : Nat} (hr : r + 1 = A 2) (hJ : HJ c A) (hk : A 0 ≤ 999999) (ho : opn A) (hl : rA A (r) 2 ≤ A 0) (hl2 : A 0 ≤ rA A (r) 2 + 60) (hE : EQ g t (arr A) (A 2)) : AR (s_X0_recallBoats g t (A 1)) (nI (A 0 + 300)) (recA A) := by
  obtain rfl : r = A 2 - 1 := by omega
  exact a_rec_ok hJ hk ho hl hl2 hE
theorem a_rec_no_r {c : Nat} {A : Nat → Nat} {g : Nat → Int32} {t : Nat → Nat → Int32} {r : Nat} (hr : r + 1 = A 2) (hJ : HJ c A) (hc : c ≤ 512) (hk : A 0 ≤ 999999) (hl : opn A → A 0 < rA A (r) 2 ∨ rA A (r) 2 + 60 < A 0) (hE : EQ g t (arr A) (A 2)) : AR (s_X0_recallBoats g t (A 1)) (-4) A := by
  obtain rfl : r = A 2 - 1 := by omega
  exact a_rec_no hJ hc hk hl hE
theorem a_close_ok_r {c : Nat} {A : Nat → Nat} {g : Nat → Int32} {t : Nat → Nat → Int32} {r : Nat} (hr : r + 1 = A 2) (hJ : HJ c A) (hk : A 0 ≤ 999999) (ho : opn A) (hl : rA A (r) 2 ≤ A 0) (hE : EQ g t (arr A) (A 2)) : AR (s_X0_closeRace g t (A 1)) (nI (finN A (r) (A 1))) (nup A (16 + 4 * (r) + 3) 1) := by
  obtain rfl : r = A 2 - 1 := by omega
  exact a_close_ok hJ hk ho hl hE
theorem a_close_no_r {c : Nat} {A : Nat → Nat} {g : Nat → Int32} {t : Nat → Nat → Int32} {r : Nat} (hr : r + 1 = A 2) (hJ : HJ c A) (hc : c ≤ 512) (hk : A 0 ≤ 999999) (hl : opn A → A 0 < rA A (r) 2) (hE : EQ g t (arr A) (A 2)) : AR (s_X0_closeRace g t (A 1)) (-4) A := by
  obtain rfl : r = A 2 - 1 := by omega
  exact a_close_no hJ hc hk hl hE
theorem a_hail_np_r {c : Nat} {A : Nat → Nat} {g : Nat → Int32} {t : Nat → Nat → Int32} {r : Nat} (hr : r + 1 = A 2) (hJ : HJ c A) {x y : Nat} (hx : x < A 1) (hy : y < A 1) (hne : x ≠ y) (hl : opn A → ¬ (eA A (r) x 0 = 2 ∨ eA A (r) x 0 = 3) ∨ ¬ (eA A (r) y 0 = 2 ∨ eA A (r) y 0 = 3)) (hE : EQ g t (arr A) (A 2)) : AR (s_X2_hailProtest g t (nI x) (nI y)) (-4) A := by
  obtain rfl : r = A 2 - 1 := by omega
  exact a_hail_np hJ hx hy hne hl hE
theorem a_hail_full_r {c : Nat} {A : Nat → Nat} {g : Nat → Int32} {t : Nat → Nat → Int32} {r : Nat} (hr : r + 1 = A 2) (hJ : HJ c A) (ho : opn A) {x y : Nat} (hx : x < A 1) (hy : y < A 1) (hne : x ≠ y) (hox : eA A (r) x 0 = 2 ∨ eA A (r) x 0 = 3) (hoy : eA A (r) y 0 = 2 ∨ eA A (r) y 0 = 3) (h10 : A 3 = 10) (hE : EQ g t (arr A) (A 2)) : AR (s_X2_hailProtest g t (nI x) (nI y)) (-3) A := by
  obtain rfl : r = A 2 - 1 := by omega
  exact a_hail_full hJ ho hx hy hne hox hoy h10 hE
theorem a_hail_ok_r {c : Nat} {A : Nat → Nat} {g : Nat → Int32} {t : Nat → Nat → Int32} {r : Nat} (hr : r + 1 = A 2) (hJ : HJ c A) (ho : opn A) {x y : Nat} (hx : x < A 1) (hy : y < A 1) (hne : x ≠ y) (hox : eA A (r) x 0 = 2 ∨ eA A (r) x 0 = 3) (hoy : eA A (r) y 0 = 2 ∨ eA A (r) y 0 = 3) (h10 : A 3 < 10) (hE : EQ g t (arr A) (A 2)) : AR (s_X2_hailProtest g t (nI x) (nI y)) (nI (A 3)) (hlA A x y) := by
  obtain rfl : r = A 2 - 1 := by omega
  exact a_hail_ok hJ ho hx hy hne hox hoy h10 hE
theorem a_file_no_r {c : Nat} {A : Nat → Nat} {g : Nat → Int32} {t : Nat → Nat → Int32} {r : Nat} (hr : r + 1 = A 2) (hJ : HJ c A) (hk : A 0 ≤ 999999) {p : Nat} (hp : p < A 3) (hl : ¬ (pA A p 3 = 0 ∧ eA A (r) (pA A p 0) 0 = 3 ∧ A 0 ≤ eA A (r) (pA A p 0) 5 + A 4)) (hE : EQ g t (arr A) (A 2)) : AR (s_X2_fileProtest g t (nI p)) (-4) A := by
  obtain rfl : r = A 2 - 1 := by omega
  exact a_file_no hJ hk hp hl hE
theorem a_file_ok_r {c : Nat} {A : Nat → Nat} {g : Nat → Int32} {t : Nat → Nat → Int32} {r : Nat} (hr : r + 1 = A 2) (hJ : HJ c A) (hk : A 0 ≤ 999999) {p : Nat} (hp : p < A 3) (q1 : pA A p 3 = 0) (q2 : eA A (r) (pA A p 0) 0 = 3) (q3 : A 0 ≤ eA A (r) (pA A p 0) 5 + A 4) (hE : EQ g t (arr A) (A 2)) : AR (s_X2_fileProtest g t (nI p)) (nI (eA A (r) (pA A p 0) 5 + A 4 - A 0)) (nup A (40 + 4 * p + 3) 1) := by
  obtain rfl : r = A 2 - 1 := by omega
  exact a_file_ok hJ hk hp q1 q2 q3 hE
theorem a_acc_no_r {c : Nat} {A : Nat → Nat} {g : Nat → Int32} {t : Nat → Nat → Int32} {r : Nat} (hr : r + 1 = A 2) (hJ : HJ c A) {p : Nat} (hp : p < A 3) (hl : 2 ≤ pA A p 3 ∨ eA A (r) (pA A p 1) 0 = 4) (hE : EQ g t (arr A) (A 2)) : AR (s_X2_acceptProtest g t (nI p)) (-4) A := by
  obtain rfl : r = A 2 - 1 := by omega
  exact a_acc_no hJ hp hl hE
theorem a_acc_ok_r {c : Nat} {A : Nat → Nat} {g : Nat → Int32} {t : Nat → Nat → Int32} {r : Nat} (hr : r + 1 = A 2) (hJ : HJ c A) {p : Nat} (hp : p < A 3) (q1 : pA A p 3 < 2) (q2 : ¬ eA A (r) (pA A p 1) 0 = 4) (hE : EQ g t (arr A) (A 2)) : AR (s_X2_acceptProtest g t (nI p)) (nI (eA A (r) (pA A p 1) 3 + A 5)) (nup (ep A (r) (pA A p 1) 3 (eA A (r) (pA A p 1) 3 + A 5)) (40 + 4 * p + 3) 2) := by
  obtain rfl : r = A 2 - 1 := by omega
  exact a_acc_ok hJ hp q1 q2 hE
theorem a_dec_dis_r {c : Nat} {A : Nat → Nat} {g : Nat → Int32} {t : Nat → Nat → Int32} {r : Nat} (hr : r + 1 = A 2) (hJ : HJ c A) {p : Nat} (hp : p < A 3) (q1 : pA A p 3 = 1) (hE : EQ g t (arr A) (A 2)) : AR (s_X2_decideProtest g t (nI p) (nI 0) (A 1)) (nI (outN (nup A (40 + 4 * p + 3) 4) (r) (A 1))) (nup A (40 + 4 * p + 3) 4) := by
  obtain rfl : r = A 2 - 1 := by omega
  exact a_dec_dis hJ hp q1 hE
theorem j_kind_r {c : Nat} {A : Nat → Nat} {r : Nat} (hr : r + 1 = A 2) (h : HJ c A) (hn : 0 < A 2) {b v : Nat} (hb : b < A 1) (hv : v ≤ 4) (hv3 : v ≠ 3) (hs : eA A (r) b 0 ≠ 3) (h2 : v = 2 → rA A (r) 2 ≤ A 0) : HJ c (ep A (r) b 0 v) := by
  obtain rfl : r = A 2 - 1 := by omega
  exact j_kind h hn hb hv hv3 hs h2
theorem j_fin_r {c : Nat} {A : Nat → Nat} {r : Nat} (hr : r + 1 = A 2) (h : HJ c A) (ho : opn A) {b : Nat} (hb : b < A 1) (hs : eA A (r) b 0 = 2) (ha : eA A (r) b 1 = rA A (r) 0 * rA A (r) 1) : HJ c (ep (ep A (r) b 5 (A 0)) (r) b 0 3) := by
  obtain rfl : r = A 2 - 1 := by omega
  exact j_fin h ho hb hs ha
theorem j_made_r {c : Nat} {A : Nat → Nat} {r : Nat} (hr : r + 1 = A 2) (h : HJ c A) (ho : opn A) {b : Nat} (hb : b < A 1) (hs : eA A (r) b 0 = 2) (ha : eA A (r) b 1 < rA A (r) 0 * rA A (r) 1) : HJ c (ep A (r) b 1 (eA A (r) b 1 + 1)) := by
  obtain rfl : r = A 2 - 1 := by omega
  exact j_made h ho hb hs ha
theorem j_miss_r {c : Nat} {A : Nat → Nat} {r : Nat} (hr : r + 1 = A 2) (h : HJ c A) (ho : opn A) {b : Nat} (hb : b < A 1) : HJ (c + 1) (ep A (r) b 2 (eA A (r) b 2 + 1)) := by
  obtain rfl : r = A 2 - 1 := by omega
  exact j_miss h ho hb
theorem j_acc_r {c : Nat} {A : Nat → Nat} {r : Nat} (hr : r + 1 = A 2) (h : HJ c A) {p : Nat} (hp : p < A 3) (q1 : pA A p 3 < 2) : HJ (c + 1) (nup (ep A (r) (pA A p 1) 3 (eA A (r) (pA A p 1) 3 + A 5)) (40 + 4 * p + 3) 2) := by
  obtain rfl : r = A 2 - 1 := by omega
  exact j_acc h hp q1
theorem j_post_r {c : Nat} {A : Nat → Nat} {r : Nat} (hr : r + 1 = A 2) (h : HJ c A) (ho : opn A) {y : Nat} (hy : y ≤ 400) (hl : A 0 < rA A (r) 2) : HJ (c + 1) (nup A (16 + 4 * (r) + 2) (rA A (r) 2 + y)) := by
  obtain rfl : r = A 2 - 1 := by omega
  exact j_post h ho hy hl
theorem j_close_r {c : Nat} {A : Nat → Nat} {r : Nat} (hr : r + 1 = A 2) (h : HJ c A) (ho : opn A) : HJ c (nup A (16 + 4 * (r) + 3) 1) := by
  obtain rfl : r = A 2 - 1 := by omega
  exact j_close h ho
theorem j_rec_r {c : Nat} {A : Nat → Nat} {r : Nat} (hr : r + 1 = A 2) (h : HJ c A) (ho : opn A) (hl : rA A (r) 2 ≤ A 0) : HJ (c + 1) (recA A) := by
  obtain rfl : r = A 2 - 1 := by omega
  exact j_rec h ho hl
theorem a_plc_r {c : Nat} {A : Nat → Nat} {g : Nat → Int32} {t : Nat → Nat → Int32} {r : Nat} (hr : r + 1 = A 2) (hJ : HJ c A) (hc : c ≤ 512) (hk : A 0 ≤ 999999) (hE : EQ g t (arr A) (A 2)) (ho : opn A) {b : Nat} (hb : b < A 1) (tm : Nat → Int32) : s_X7_placeNow g t tm (nI b) (A 1) = if cnP A (r) b then nI (plN A (r) b) else (-5) := by
  obtain rfl : r = A 2 - 1 := by omega
  exact a_plc hJ hc hk hE ho hb tm
theorem a_sec_no_r {c : Nat} {A : Nat → Nat} {g : Nat → Int32} {t : Nat → Nat → Int32} {r : Nat} (hr : r + 1 = A 2) (hJ : HJ c A) (hc : c ≤ 512) (hk : A 0 ≤ 999999) (hE : EQ g t (arr A) (A 2)) {b : Nat} (hb : b < A 1) (ho : opn A → ¬ eA A (r) b 0 = 2) (tm : Nat → Int32) : s_X7_secondsLeft g t tm (nI b) (A 1) = (-4) := by
  obtain rfl : r = A 2 - 1 := by omega
  exact a_sec_no hJ hc hk hE hb ho tm
theorem a_sec_none_r {c : Nat} {A : Nat → Nat} {g : Nat → Int32} {t : Nat → Nat → Int32} {r : Nat} (hr : r + 1 = A 2) (hJ : HJ c A) (hc : c ≤ 512) (hk : A 0 ≤ 999999) (hE : EQ g t (arr A) (A 2)) (ho : opn A) {b : Nat} (hb : b < A 1) (hs : eA A (r) b 0 = 2) (hn : m_bst (arr A) (r) (A 1) = none) (tm : Nat → Int32) : s_X7_secondsLeft g t tm (nI b) (A 1) = (-5) := by
  obtain rfl : r = A 2 - 1 := by omega
  exact a_sec_none hJ hc hk hE ho hb hs hn tm
theorem a_sec_late_r {c : Nat} {A : Nat → Nat} {g : Nat → Int32} {t : Nat → Nat → Int32} {r : Nat} (hr : r + 1 = A 2) (hJ : HJ c A) (hc : c ≤ 512) (hk : A 0 ≤ 999999) (hE : EQ g t (arr A) (A 2)) (ho : opn A) {b j : Nat} (hb : b < A 1) (hs : eA A (r) b 0 = 2) (hj : m_bst (arr A) (r) (A 1) = some j) (hj1 : j < A 1) (hj2 : cnP A (r) j) (hl : coN A (r) j * A (7 + b) ≤ 100 * (A 0 - rA A r 2 + eA A r b 3)) (tm : Nat → Int32) : s_X7_secondsLeft g t tm (nI b) (A 1) = (-5) := by
  obtain rfl : r = A 2 - 1 := by omega
  exact a_sec_late hJ hc hk hE ho hb hs hj hj1 hj2 hl tm
theorem a_sec_ok_r {c : Nat} {A : Nat → Nat} {g : Nat → Int32} {t : Nat → Nat → Int32} {r : Nat} (hr : r + 1 = A 2) (hJ : HJ c A) (hc : c ≤ 512) (hk : A 0 ≤ 999999) (hE : EQ g t (arr A) (A 2)) (ho : opn A) {b j : Nat} (hb : b < A 1) (hs : eA A (r) b 0 = 2) (hj : m_bst (arr A) (r) (A 1) = some j) (hj1 : j < A 1) (hj2 : cnP A (r) j) (hl : 100 * (A 0 - rA A r 2 + eA A r b 3) < coN A (r) j * A (7 + b)) (tm : Nat → Int32) : s_X7_secondsLeft g t tm (nI b) (A 1) = nI ((coN A (r) j * A (7 + b) - 1) / 100 - (A 0 - rA A r 2 + eA A r b 3)) := by
  obtain rfl : r = A 2 - 1 := by omega
  exact a_sec_ok hJ hc hk hE ho hb hs hj hj1 hj2 hl tm
theorem opn_r {A : Nat → Nat} {r : Nat} (hr : r + 1 = A 2) : opn A ↔ rA A r 3 = 0 := by
  obtain rfl : r = A 2 - 1 := by omega
  exact ⟨fun q => q.2, fun q => ⟨by omega, q⟩⟩
theorem LJ.at {A : Nat → Nat} (h : LJ A) {r : Nat} (hr : r + 1 = A 2) {b : Nat} (hb : b < A 1) : (eA A r b 4 = 1 ↔ ∃ p, p < A 3 ∧ pA A p 1 = b ∧ pA A p 3 = 3) ∧ (0 < eA A r b 3 ↔ ∃ p, p < A 3 ∧ pA A p 1 = b ∧ pA A p 3 = 2) := by
  obtain rfl : r = A 2 - 1 := by omega
  exact h (by omega) b hb
/-- a boat that sails has made some roundings -/
theorem j_mk {c : Nat} {A : Nat → Nat} (h : HJ c A) {r : Nat} (hr : r + 1 = A 2) {b m : Nat} (hb : b < A 1) (hs : eA A r b 0 = 2) (hm : m ≤ rA A r 0 * rA A r 1) : HJ c (ep A r b 1 m) := by
  obtain rfl : r = A 2 - 1 := by omega
  have h6 := h.1.2.1
  obtain ⟨b1, b2, b3, b4, b5, b6, b7, b8, b9, b10⟩ := (h.2.1 (A 2 - 1) (by omega)).2.2.2.2.2.2.2 b hb
  refine j_ep h (Nat.le_refl _) (by omega) hb (by omega) (by omega) (by omega) ?_
  unfold BJ
  rw [ep_if, ep_if, ep_if, ep_if, ep_if, ep_if, ep_r (by omega) (by omega), ep_r (by omega) (by omega), ep_r (by omega) (by omega), ep_2, show ep A (A 2 - 1) b 1 m 0 = A 0 from ep_lo (by omega), if_neg (by decide), if_pos rfl, if_neg (by decide), if_neg (by decide), if_neg (by decide), if_neg (by decide)]
  exact ⟨b1, hm, fun q => absurd q (by omega), b4, b5, b6, b7, b8, b9, b10⟩
