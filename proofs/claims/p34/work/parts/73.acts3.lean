/-! the class' acts, on naturals: protests, settings, boats -/
section Acts3
variable {c : Nat} {A : Nat → Nat} {g : Nat → Int32} {t : Nat → Nat → Int32}
theorem q_onc (hJ : HJ c A) (hn : 0 < A 2) (hE : EQ g t (arr A) (A 2)) {b : Nat} (hb : b < A 1) : s_X2_isOnCourse g t (nI b) = if eA A (A 2 - 1) b 0 = 2 ∨ eA A (A 2 - 1) b 0 = 3 then nI 1 else nI 0 := by
  have h6 := hJ.1.2.1
  have h9 := hJ.1.1
  have h4 := ((hJ.2.1 (A 2 - 1) (by omega)).2.2.2.2.2.2.2 b hb).1
  unfold s_X2_isOnCourse
  rw [q_lat hE h6 hn (by omega) (by omega)]
  by_cases q2 : eA A (A 2 - 1) b 0 = 2
  · rw [if_pos (congrArg nI q2), if_pos (Or.inl q2)]
  · rw [if_neg (fun z => q2 ((nI_eq (by omega) (by omega)).mp z))]
    by_cases q3 : eA A (A 2 - 1) b 0 = 3
    · rw [if_pos (congrArg nI q3), if_pos (Or.inr q3)]
    · rw [if_neg (fun z => q3 ((nI_eq (by omega) (by omega)).mp z)), if_neg (by omega)]
theorem a_hail_same (hJ : HJ c A) {b : Nat} (hb : b < A 1) (hE : EQ g t (arr A) (A 2)) : AR (s_X2_hailProtest g t (nI b) (nI b)) (-2) A := by
  have h9 := hJ.1.1
  refine AR.mk (g := g) (t := t) ?_ hE
  unfold s_X2_hailProtest
  rw [if_pos (q_in hE h9 hb), if_pos (q_in hE h9 hb), if_pos rfl]
theorem a_hail_np (hJ : HJ c A) {x y : Nat} (hx : x < A 1) (hy : y < A 1) (hne : x ≠ y) (hl : opn A → ¬ (eA A (A 2 - 1) x 0 = 2 ∨ eA A (A 2 - 1) x 0 = 3) ∨ ¬ (eA A (A 2 - 1) y 0 = 2 ∨ eA A (A 2 - 1) y 0 = 3)) (hE : EQ g t (arr A) (A 2)) : AR (s_X2_hailProtest g t (nI x) (nI y)) (-4) A := by
  have h9 := hJ.1.1
  refine AR.mk (g := g) (t := t) ?_ hE
  unfold s_X2_hailProtest
  rw [if_pos (q_in hE h9 hx), if_pos (q_in hE h9 hy), if_neg (fun z => hne ((nI_eq (by omega) (by omega)).mp z))]
  by_cases ho : opn A
  · rw [if_pos ((hJ.opg hE).mpr ho), q_onc hJ ho.1 hE hx, q_onc hJ ho.1 hE hy]
    by_cases q : eA A (A 2 - 1) x 0 = 2 ∨ eA A (A 2 - 1) x 0 = 3
    · rw [if_pos q, if_neg (show ¬ (nI 1 : Int32) = 0 by decide), if_neg ((hl ho).resolve_left (fun z => z q)), if_pos (show (nI 0 : Int32) = 0 from rfl)]
    · rw [if_neg q, if_pos (show (nI 0 : Int32) = 0 from rfl)]
  · rw [if_neg (fun q => ho ((hJ.opg hE).mp q))]
theorem a_hail_full (hJ : HJ c A) (ho : opn A) {x y : Nat} (hx : x < A 1) (hy : y < A 1) (hne : x ≠ y) (hox : eA A (A 2 - 1) x 0 = 2 ∨ eA A (A 2 - 1) x 0 = 3) (hoy : eA A (A 2 - 1) y 0 = 2 ∨ eA A (A 2 - 1) y 0 = 3) (h10 : A 3 = 10) (hE : EQ g t (arr A) (A 2)) : AR (s_X2_hailProtest g t (nI x) (nI y)) (-3) A := by
  have h9 := hJ.1.1
  refine AR.mk (g := g) (t := t) ?_ hE
  unfold s_X2_hailProtest
  rw [if_pos (q_in hE h9 hx), if_pos (q_in hE h9 hy), if_neg (fun z => hne ((nI_eq (by omega) (by omega)).mp z)), if_pos ((hJ.opg hE).mpr ho), q_onc hJ ho.1 hE hx, q_onc hJ ho.1 hE hy, if_pos hox, if_pos hoy, if_neg (show ¬ (nI 1 : Int32) = 0 by decide), if_neg (show ¬ (nI 1 : Int32) = 0 by decide), hE.2.2.2.1, show arr A 3 = nI (A 3) from rfl, if_neg (nI_nlt (by omega) (by omega))]
abbrev hlA (A : Nat → Nat) (x y : Nat) : Nat → Nat := nup (nup (nup (nup (nup A (40 + 4 * A 3 + 0) x) (40 + 4 * A 3 + 1) y) (40 + 4 * A 3 + 2) (A 0)) (40 + 4 * A 3 + 3) 0) 3 (A 3 + 1)
theorem a_hail_ok (hJ : HJ c A) (ho : opn A) {x y : Nat} (hx : x < A 1) (hy : y < A 1) (hne : x ≠ y) (hox : eA A (A 2 - 1) x 0 = 2 ∨ eA A (A 2 - 1) x 0 = 3) (hoy : eA A (A 2 - 1) y 0 = 2 ∨ eA A (A 2 - 1) y 0 = 3) (h10 : A 3 < 10) (hE : EQ g t (arr A) (A 2)) : AR (s_X2_hailProtest g t (nI x) (nI y)) (nI (A 3)) (hlA A x y) := by
  have h9 := hJ.1.1
  have h6 := hJ.1.2.1
  have hE2 := (((hE.cas (p := A 3) (w := 0) (v := nI x) h6 h10 (by omega)).cas (p := A 3) (w := 1) (v := nI y) h6 h10 (by omega)).cas (p := A 3) (w := 2) (v := nI (A 0)) h6 h10 (by omega)).cas (p := A 3) (w := 3) (v := nI 0) h6 h10 (by omega)
  have E3 := hE2.gpro (v := nI (A 3 + 1))
  rw [arr_up, arr_up, arr_up, arr_up, arr_up] at E3
  have a2 : hlA A x y 2 = A 2 := (nup_ne (by omega)).trans ((nup_ne (by omega)).trans ((nup_ne (by omega)).trans ((nup_ne (by omega)).trans (nup_ne (by omega)))))
  refine AR.mk ?_ (by rw [a2]; exact E3)
  unfold s_X2_hailProtest
  rw [if_pos (q_in hE h9 hx), if_pos (q_in hE h9 hy), if_neg (fun z => hne ((nI_eq (by omega) (by omega)).mp z)), if_pos ((hJ.opg hE).mpr ho), q_onc hJ ho.1 hE hx, q_onc hJ ho.1 hE hy, if_pos hox, if_pos hoy, if_neg (show ¬ (nI 1 : Int32) = 0 by decide), if_neg (show ¬ (nI 1 : Int32) = 0 by decide), hE.2.2.2.1, show arr A 3 = nI (A 3) from rfl, if_pos (nI_lt h10 (by omega)), hE.1, show arr A 0 = nI (A 0) from rfl, nI_add]
theorem HJ.pr (hJ : HJ c A) {p : Nat} (hp : p < A 3) : PJ A p := hJ.2.2.2.1 p hp
theorem a_file_none (h0 : A 3 = 0) (hE : EQ g t (arr A) (A 2)) : AR (s_X2_fileProtest g t (nI 0)) (-1) A := by
  refine AR.mk (g := g) (t := t) ?_ hE
  unfold s_X2_fileProtest
  rw [if_neg (fun z => z.2 (by rw [hE.2.2.2.1, show arr A 3 = nI (A 3) from rfl, h0]; exact Int32.le_refl _))]
theorem a_file_no (hJ : HJ c A) (hk : A 0 ≤ 999999) {p : Nat} (hp : p < A 3) (hl : ¬ (pA A p 3 = 0 ∧ eA A (A 2 - 1) (pA A p 0) 0 = 3 ∧ A 0 ≤ eA A (A 2 - 1) (pA A p 0) 5 + A 4)) (hE : EQ g t (arr A) (A 2)) : AR (s_X2_fileProtest g t (nI p)) (-4) A := by
  have h9 := hJ.1.1
  have h6 := hJ.1.2.1
  have h10 := hJ.1.2.2.1
  have hn := hJ.1.2.2.2.1 (by omega)
  have hs := hJ.1.2.2.2.2.2.2.1
  obtain ⟨p1, p2, p3, p4, p5⟩ := hJ.pr hp
  obtain ⟨e1, e2, e3, e4, e5, e6, e7, e8, e9, e10⟩ := (hJ.2.1 (A 2 - 1) (by omega)).2.2.2.2.2.2.2 _ p1
  refine AR.mk (g := g) (t := t) ?_ hE
  unfold s_X2_fileProtest
  rw [if_pos (q_inp hE h10 hp), q_pro hE (by omega) (by omega), q_pro hE (by omega) (by omega)]
  by_cases q1 : pA A p 3 = 0
  · rw [if_pos (show nI (pA A p 3) = 0 by rw [q1]; rfl), q_lat hE h6 hn (by omega) (by omega), q_lat hE h6 hn (by omega) (by omega), show tg 1 3 (t 1) (nI 0) (nI 0) = nI (A 4) from q_set hE (j := 0) (by omega), hE.1, show arr A 0 = nI (A 0) from rfl]
    by_cases q2 : eA A (A 2 - 1) (pA A p 0) 0 = 3
    · rw [if_pos (congrArg nI q2), nI_add, if_neg (fun z => by
        have h := Int32.le_iff_toInt_le.mp z
        rw [pk_sub_toInt (by omega) (by omega)] at h
        have h0 : (0 : Int32).toInt = 0 := rfl
        rw [h0] at h
        exact hl ⟨q1, q2, by omega⟩)]
    · rw [if_neg (fun z => q2 ((nI_eq (by omega) (by omega)).mp z))]
  · rw [if_neg (show ¬ nI (pA A p 3) = 0 from fun z => q1 ((nI_eq (a := pA A p 3) (b := 0) (by omega) (by omega)).mp z))]
theorem a_file_ok (hJ : HJ c A) (hk : A 0 ≤ 999999) {p : Nat} (hp : p < A 3) (q1 : pA A p 3 = 0) (q2 : eA A (A 2 - 1) (pA A p 0) 0 = 3) (q3 : A 0 ≤ eA A (A 2 - 1) (pA A p 0) 5 + A 4) (hE : EQ g t (arr A) (A 2)) : AR (s_X2_fileProtest g t (nI p)) (nI (eA A (A 2 - 1) (pA A p 0) 5 + A 4 - A 0)) (nup A (40 + 4 * p + 3) 1) := by
  have h9 := hJ.1.1
  have h6 := hJ.1.2.1
  have h10 := hJ.1.2.2.1
  have hn := hJ.1.2.2.2.1 (by omega)
  have hs := hJ.1.2.2.2.2.2.2.1
  obtain ⟨p1, p2, p3, p4, p5⟩ := hJ.pr hp
  obtain ⟨e1, e2, e3, e4, e5, e6, e7, e8, e9, e10⟩ := (hJ.2.1 (A 2 - 1) (by omega)).2.2.2.2.2.2.2 _ p1
  refine AR.mk (g := g) ?_ (q_cas hE h6 (p := p) (w := 3) (v := 1) (by omega) (by omega))
  unfold s_X2_fileProtest
  rw [if_pos (q_inp hE h10 hp), q_pro hE (by omega) (by omega), q_pro hE (by omega) (by omega), if_pos (show nI (pA A p 3) = 0 by rw [q1]; rfl), q_lat hE h6 hn (by omega) (by omega), q_lat hE h6 hn (by omega) (by omega), show tg 1 3 (t 1) (nI 0) (nI 0) = nI (A 4) from q_set hE (j := 0) (by omega), hE.1, show arr A 0 = nI (A 0) from rfl, if_pos (congrArg nI q2), nI_add, pk_sub q3, if_pos (nI_pos' (by omega))]
theorem a_acc_no (hJ : HJ c A) {p : Nat} (hp : p < A 3) (hl : 2 ≤ pA A p 3 ∨ eA A (A 2 - 1) (pA A p 1) 0 = 4) (hE : EQ g t (arr A) (A 2)) : AR (s_X2_acceptProtest g t (nI p)) (-4) A := by
  have h9 := hJ.1.1
  have h6 := hJ.1.2.1
  have h10 := hJ.1.2.2.1
  have hn := hJ.1.2.2.2.1 (by omega)
  obtain ⟨p1, p2, p3, p4, p5⟩ := hJ.pr hp
  obtain ⟨e1, e2, e3, e4, e5, e6, e7, e8, e9, e10⟩ := (hJ.2.1 (A 2 - 1) (by omega)).2.2.2.2.2.2.2 _ p2
  refine AR.mk (g := g) (t := t) ?_ hE
  unfold s_X2_acceptProtest
  rw [if_pos (q_inp hE h10 hp), q_pro hE (p := p) (w := 3) (by omega) (by omega), q_pro hE (p := p) (w := 1) (by omega) (by omega), q_lat hE h6 hn (w := 0) (by omega) (by omega)]
  by_cases q2 : 2 ≤ pA A p 3
  · rw [if_neg (show ¬ nI (pA A p 3) = 0 from fun z => by have := (nI_eq (a := pA A p 3) (b := 0) (by omega) (by omega)).mp z; omega), if_neg (fun z => by have := (nI_eq (a := pA A p 3) (b := 1) (by omega) (by omega)).mp z; omega)]
  · have q4 : eA A (A 2 - 1) (pA A p 1) 0 = 4 := by omega
    rw [if_pos (congrArg nI q4)]
    rcases (show pA A p 3 = 0 ∨ pA A p 3 = 1 by omega) with e | e
    · rw [e, if_pos (show (nI 0 : Int32) = 0 from rfl)]
    · rw [e, if_neg (by decide), if_pos rfl]
theorem a_acc_ok (hJ : HJ c A) {p : Nat} (hp : p < A 3) (q1 : pA A p 3 < 2) (q2 : ¬ eA A (A 2 - 1) (pA A p 1) 0 = 4) (hE : EQ g t (arr A) (A 2)) : AR (s_X2_acceptProtest g t (nI p)) (nI (eA A (A 2 - 1) (pA A p 1) 3 + A 5)) (nup (ep A (A 2 - 1) (pA A p 1) 3 (eA A (A 2 - 1) (pA A p 1) 3 + A 5)) (40 + 4 * p + 3) 2) := by
  have h9 := hJ.1.1
  have h6 := hJ.1.2.1
  have h10 := hJ.1.2.2.1
  have hn := hJ.1.2.2.2.1 (by omega)
  obtain ⟨p1, p2, p3, p4, p5⟩ := hJ.pr hp
  obtain ⟨e1, e2, e3, e4, e5, e6, e7, e8, e9, e10⟩ := (hJ.2.1 (A 2 - 1) (by omega)).2.2.2.2.2.2.2 _ p2
  have E1 := q_put hE h6 hn (b := pA A p 1) (w := 3) (v := eA A (A 2 - 1) (pA A p 1) 3 + A 5) (by omega) (by omega)
  refine AR.mk (g := g) ?_ (q_cas E1 (by rw [ep_2]; exact h6) (p := p) (w := 3) (v := 2) (by omega) (by omega))
  unfold s_X2_acceptProtest
  rw [if_pos (q_inp hE h10 hp), q_pro hE (p := p) (w := 3) (by omega) (by omega), q_pro hE (p := p) (w := 1) (by omega) (by omega), q_lat hE h6 hn (w := 0) (by omega) (by omega), q_lat hE h6 hn (w := 3) (by omega) (by omega), show tg 1 3 (t 1) (nI 1) (nI 0) = nI (A 5) from q_set hE (j := 1) (by omega), nI_add, if_neg (fun z => q2 ((nI_eq (by omega) (by omega)).mp z))]
  rcases (show pA A p 3 = 0 ∨ pA A p 3 = 1 by omega) with e | e
  · rw [e, if_pos (show (nI 0 : Int32) = 0 from rfl)]
  · rw [e, if_neg (by decide), if_pos rfl]
theorem a_dec_no (hJ : HJ c A) {p : Nat} {y : Int32} (hp : p < A 3) (q1 : ¬ pA A p 3 = 1) (hE : EQ g t (arr A) (A 2)) : AR (s_X2_decideProtest g t (nI p) y (A 1)) (-4) A := by
  have h10 := hJ.1.2.2.1
  obtain ⟨p1, p2, p3, p4, p5⟩ := hJ.pr hp
  refine AR.mk (g := g) (t := t) ?_ hE
  unfold s_X2_decideProtest
  rw [if_pos (q_inp hE h10 hp), q_pro hE (p := p) (w := 3) (by omega) (by omega), if_neg (fun z => q1 ((nI_eq (by omega) (by omega)).mp z))]
theorem q_out {A : Nat → Nat} {g : Nat → Int32} {t : Nat → Nat → Int32} (hE : EQ g t (arr A) (A 2)) (h9 : A 1 ≤ 9) {r : Nat} (hr : r < 6) (h4 : ∀ b, b < A 1 → eA A r b 4 ≤ 1) : c_cnt t (nI r) (nI 4) (nI 1) (A 1) = nI (outN A r (A 1)) := by
  obtain ⟨n, hn, e5, e6⟩ := cnt_out hE hr (A 1) h9 (fun b hb => ⟨eA A r b 4, rfl, h4 b hb⟩)
  rw [e5, ← e6, (out_eq h4 (A 1) (Nat.le_refl _)).1]
theorem a_dec_dis (hJ : HJ c A) {p : Nat} (hp : p < A 3) (q1 : pA A p 3 = 1) (hE : EQ g t (arr A) (A 2)) : AR (s_X2_decideProtest g t (nI p) (nI 0) (A 1)) (nI (outN (nup A (40 + 4 * p + 3) 4) (A 2 - 1) (A 1))) (nup A (40 + 4 * p + 3) 4) := by
  have h9 := hJ.1.1
  have h6 := hJ.1.2.1
  have h10 := hJ.1.2.2.1
  have hn := hJ.1.2.2.2.1 (by omega)
  have E1 := q_cas hE h6 (p := p) (w := 3) (v := 4) (by omega) (by omega)
  have e2 : g 2 - nI 1 = nI (A 2 - 1) := hE.g2 rfl hn
  have ea1 : nup A (40 + 4 * p + 3) 4 1 = A 1 := nup_ne (by omega)
  refine AR.mk (g := g) ?_ E1
  unfold s_X2_decideProtest
  rw [if_pos (q_inp hE h10 hp), q_pro hE (p := p) (w := 3) (by omega) (by omega), if_pos (congrArg nI q1), if_pos (show (nI 0 : Int32) = 0 from rfl), if_pos (show (nI 0 : Int32) = 0 from rfl), e2]
  have h := q_out E1 (by rw [ea1]; exact h9) (r := A 2 - 1) (by omega) (fun b hb => by
    rw [ea1] at hb
    rw [show eA (nup A (40 + 4 * p + 3) 4) (A 2 - 1) b 4 = eA A (A 2 - 1) b 4 from nup_ne (by omega)]
    exact ((hJ.2.1 (A 2 - 1) (by omega)).2.2.2.2.2.2.2 b hb).2.2.2.2.2.1)
  rw [ea1] at h
  rw [h]
abbrev upA (A : Nat → Nat) (p : Nat) : Nat → Nat := ep (nup A (40 + 4 * p + 3) 3) (A 2 - 1) (pA A p 1) 4 1
theorem a_dec_up (hJ : HJ c A) {p : Nat} (hp : p < A 3) (q1 : pA A p 3 = 1) (hE : EQ g t (arr A) (A 2)) : AR (s_X2_decideProtest g t (nI p) (nI 1) (A 1)) (nI (outN (upA A p) (A 2 - 1) (A 1))) (upA A p) := by
  have h9 := hJ.1.1
  have h6 := hJ.1.2.1
  have h10 := hJ.1.2.2.1
  have hn := hJ.1.2.2.2.1 (by omega)
  obtain ⟨p1, p2, p3, p4, p5⟩ := hJ.pr hp
  have E1 := q_cas hE h6 (p := p) (w := 3) (v := 3) (by omega) (by omega)
  have en2 : nup A (40 + 4 * p + 3) 3 2 = A 2 := nup_ne (by omega)
  have E2 := q_put E1 (by rw [en2]; exact h6) (by rw [en2]; exact hn) (b := pA A p 1) (w := 4) (v := 1) (by omega) (by omega)
  rw [en2] at E2
  have e2 : g 2 - nI 1 = nI (A 2 - 1) := hE.g2 rfl hn
  have ea1 : ep (nup A (40 + 4 * p + 3) 3) (A 2 - 1) (pA A p 1) 4 1 1 = A 1 := (ep_lo (by omega)).trans (nup_ne (by omega))
  have e5 : tg 4 40 ((va_up t 4 (tp 4 40 (t 4) (nI p) (nI 3) (nI 3))) 4) (nI p) (nI 1) = nI (pA A p 1) := by
    rw [q_pro E1 (by omega) (by omega)]
    exact congrArg nI (nup_ne (by omega))
  refine AR.mk (g := g) ?_ E2
  unfold s_X2_decideProtest
  rw [if_pos (q_inp hE h10 hp), q_pro hE (p := p) (w := 3) (by omega) (by omega), if_pos (congrArg nI q1), if_neg (show ¬ (nI 1 : Int32) = 0 by decide), if_neg (show ¬ (nI 1 : Int32) = 0 by decide), e2, e5]
  have h := q_out E2 (by rw [ea1]; exact h9) (r := A 2 - 1) (by omega) (fun b hb => by
    rw [ea1] at hb
    by_cases q : b = pA A p 1
    · rw [q, ep_at]; exact Nat.le_refl _
    · rw [ep_ne (by omega) (by omega) (by omega) (by omega) (by omega), show eA (nup A (40 + 4 * p + 3) 3) (A 2 - 1) b 4 = eA A (A 2 - 1) b 4 from nup_ne (by omega)]
      exact ((hJ.2.1 (A 2 - 1) (by omega)).2.2.2.2.2.2.2 b hb).2.2.2.2.2.1)
  rw [ea1] at h
  rw [h]
theorem a_set (h6 : A 2 ≤ 6) {i v : Nat} (hi : i < 3) (h0 : v ≤ if i = 0 then 3600 else if i = 1 then 300 else 6) (h1 : (if i = 2 then 0 else 1) ≤ v) (hE : EQ g t (arr A) (A 2)) : AR (s_X0_changeSetting g t (nI i) (nI v)) (nI (A (4 + i))) (nup A (4 + i) v) := by
  have E1 := hE.stp (i := i) (v := nI v) h6 hi
  rw [arr_up] at E1
  have en2 : nup A (4 + i) v 2 = A 2 := nup_ne (by omega)
  have hv : v ≤ 3600 := by
    revert h0
    split
    · exact fun h => h
    · split <;> intro h <;> omega
  refine AR.mk (g := g) ?_ (by rw [en2]; exact E1)
  unfold s_X0_changeSetting
  rw [if_neg (nI_pos (by omega)), if_pos (nI_lt hi (by omega)), nI_clamp (by omega), q_set hE hi]
  rcases (show i = 0 ∨ i = 1 ∨ i = 2 by omega) with rfl | rfl | rfl
  · rw [if_neg (show ¬ nI v < (([1, 1, 0] : List Int32)).getD 0 0 from nI_nlt (b := 1) h1 (by omega)), if_pos (show nI v ≤ (([3600, 300, 6] : List Int32)).getD 0 0 from nI_le (b := 3600) h0 (by omega))]
  · rw [if_neg (show ¬ nI v < (([1, 1, 0] : List Int32)).getD 1 0 from nI_nlt (b := 1) h1 (by omega)), if_pos (show nI v ≤ (([3600, 300, 6] : List Int32)).getD 1 0 from nI_le (b := 300) h0 (by omega))]
  · rw [if_neg (show ¬ nI v < (([1, 1, 0] : List Int32)).getD 2 0 from nI_nlt (b := 0) h1 (by omega)), if_pos (show nI v ≤ (([3600, 300, 6] : List Int32)).getD 2 0 from nI_le (b := 6) h0 (by omega))]
theorem a_ent_ok (hJ : HJ c A) (h0 : A 2 = 0) (h8 : A 1 < 9) {v : Nat} (v1 : 50 ≤ v) (v2 : v ≤ 150) (hE : EQ g t (arr A) (A 2)) : AR (s_X0_enterBoat g t (nI v)) (nI (A 1)) (nup (nup A (7 + A 1) v) 1 (A 1 + 1)) := by
  have h6 := hJ.1.2.1
  have E1 := (hE.rtp (i := A 1) (v := nI v) h6 h8).gboat (v := nI (A 1 + 1))
  rw [arr_up, arr_up] at E1
  have en2 : nup (nup A (7 + A 1) v) 1 (A 1 + 1) 2 = A 2 := (nup_ne (by omega)).trans (nup_ne (by omega))
  refine AR.mk ?_ (by rw [en2]; exact E1)
  unfold s_X0_enterBoat
  rw [if_neg (nI_nlt v1 (by omega)), if_pos (nI_le v2 (by omega)), hE.2.2.1, show arr A 2 = nI (A 2) from rfl, h0, if_pos (show (nI 0 : Int32) ≤ 0 by decide), hE.2.1, show arr A 1 = nI (A 1) from rfl, if_pos (nI_lt h8 (by omega)), nI_add]
theorem a_ent_full (h0 : A 2 = 0) (h8 : A 1 = 9) {v : Nat} (v1 : 50 ≤ v) (v2 : v ≤ 150) (hE : EQ g t (arr A) (A 2)) : AR (s_X0_enterBoat g t (nI v)) (-3) A := by
  refine AR.mk (g := g) (t := t) ?_ hE
  unfold s_X0_enterBoat
  rw [if_neg (nI_nlt v1 (by omega)), if_pos (nI_le v2 (by omega)), hE.2.2.1, show arr A 2 = nI (A 2) from rfl, h0, if_pos (show (nI 0 : Int32) ≤ 0 by decide), hE.2.1, show arr A 1 = nI (A 1) from rfl, if_neg (nI_nlt (by omega) (by omega))]
end Acts3
