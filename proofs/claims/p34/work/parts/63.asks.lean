section Asks
variable {c : Nat} {g : Nat → Int32} {t : Nat → Nat → Int32} {a k : Nat → Int32} {nb nr np ck nc : Nat}
theorem q_result (hc : c ≤ 512) (hV : IV c a nb nr np ck) (hE : EQ g t a nr) (hcc : c_cl g = nI nc) (hnc : nc ≤ nr) (hr3 : ∀ r, r < nr → (m_r a r 3 = nI 1 ∧ r < nc) ∨ (m_r a r 3 = nI 0 ∧ nc ≤ r)) (x y w : Int32) (tm : Nat → Int32) : s_X7_result g t tm x y w nb = s_X8_result a x y w nb := by
  obtain ⟨h1, h2, h3, h4, h5, h6, h7, h8, h9, h10, h11, h12, h13, h14⟩ := id hV
  have hg1 : g 1 = nI nb := hE.2.1.trans h1
  have hg2 : g 2 = nI nr := hE.2.2.1.trans h3
  unfold s_X7_result s_X8_result
  rcases inN x (n := nr) (by omega) with ⟨r, hr, rfl, ec, cC, cM⟩ | ⟨cC, cM⟩
  · rw [← hg2] at cC; rw [← h3] at cM
    rw [if_pos cC, if_pos cM]
    rcases inN y (n := nb) (by omega) with ⟨b, hb, rfl, ec2, dC, dM⟩ | ⟨dC, dM⟩
    · rw [← hg1] at dC; rw [← h1] at dM
      rw [if_pos dC, if_pos dM, ec, ec2]
      have eW : ∀ j, j < 6 → tg 6 324 (t 3) (nI r * nI 9 + nI b) (nI j) = m_e a r b j := fun j hj => hE.ent (by omega) (by omega) hj
      have e5 := el_eq hV hE hr hb
      have e6 := co_eq hV hE hr hb
      have e7 := place_eq (c := c) (by omega) hV hE hr (tm := tm) hb
      have e8 := ptf_eq hV hE hr hb
      rw [e7, e8, e5, e6]
      have base : ∀ {A B : Int32}, A = B → (if w = 0 then tg 6 324 (t 3) (nI r * nI 9 + nI b) w else if w = 1 then tg 6 324 (t 3) (nI r * nI 9 + nI b) w else if w = 2 then tg 6 324 (t 3) (nI r * nI 9 + nI b) w else if w = 3 then tg 6 324 (t 3) (nI r * nI 9 + nI b) w else if w = 4 then tg 6 324 (t 3) (nI r * nI 9 + nI b) w else A) = (if w = 0 then m_e a r b 0 else if w = 1 then m_e a r b 1 else if w = 2 then m_e a r b 2 else if w = 3 then m_e a r b 3 else if w = 4 then m_e a r b 4 else B) := by
        intro A B hAB
        by_cases w0 : w = 0
        · rw [if_pos w0, if_pos w0, w0]; exact eW 0 (by omega)
        by_cases w1 : w = 1
        · rw [if_neg w0, if_pos w1, if_neg w0, if_pos w1, w1]; exact eW 1 (by omega)
        by_cases w2 : w = 2
        · rw [if_neg w0, if_neg w1, if_pos w2, if_neg w0, if_neg w1, if_pos w2, w2]; exact eW 2 (by omega)
        by_cases w3 : w = 3
        · rw [if_neg w0, if_neg w1, if_neg w2, if_pos w3, if_neg w0, if_neg w1, if_neg w2, if_pos w3, w3]; exact eW 3 (by omega)
        by_cases w4 : w = 4
        · rw [if_neg w0, if_neg w1, if_neg w2, if_neg w3, if_pos w4, if_neg w0, if_neg w1, if_neg w2, if_neg w3, if_pos w4, w4]; exact eW 4 (by omega)
        · rw [if_neg w0, if_neg w1, if_neg w2, if_neg w3, if_neg w4, if_neg w0, if_neg w1, if_neg w2, if_neg w3, if_neg w4]; exact hAB
      rcases hr3 r hr with ⟨q1, q2⟩ | ⟨q1, q2⟩
      · have kc : ¬ nI r < 0 ∧ ¬ c_cl g ≤ nI r := ⟨nI_pos (by omega), by rw [hcc]; exact nI_ge q2 (by omega)⟩
        rw [if_pos q1]
        refine base ?_
        rw [if_pos kc, if_pos kc]
      · have kc : ¬ (¬ nI r < 0 ∧ ¬ c_cl g ≤ nI r) := fun z => z.2 (by rw [hcc]; exact nI_le q2 (by omega))
        rw [if_neg (show ¬ m_r a r 3 = nI 1 by rw [q1]; decide)]
        refine base ?_
        rw [if_neg kc, if_neg kc]
    · rw [← hg1] at dC; rw [← h1] at dM
      rw [if_neg dC, if_neg dM]
  · rw [← hg2] at cC; rw [← h3] at cM
    rw [if_neg cC, if_neg cM]
theorem q_boat (hc : c ≤ 512) (hV : IV c a nb nr np ck) (hE : EQ g t a nr) (hcc : c_cl g = nI nc) (hnc : nc ≤ nr) (x w : Int32) (tm pt sm tl : Nat → Int32) : s_X7_boat g t tm pt sm tl x w nb nc = s_X8_boat a x w nb nc := by
  obtain ⟨h1, h2, h3, h4, h5, h6, h7, h8, h9, h10, h11, h12, h13, h14⟩ := id hV
  have hg1 : g 1 = nI nb := hE.2.1.trans h1
  unfold s_X7_boat s_X8_boat
  rcases inN x (n := nb) (by omega) with ⟨b, hb, rfl, ec, cC, cM⟩ | ⟨cC, cM⟩
  · rw [← hg1] at cC; rw [← h1] at cM
    have R := rec_ok (c := c) (by omega) hV hE hcc hnc tm pt sm tl
    obtain ⟨r0, r1, r2, r3, r4⟩ := R b hb
    rw [if_pos cC, if_pos cM, ec, hE.rat (by omega), r1, r2, r4 1 (by omega), crank_eq hV (by omega) hb (fun b hb => ⟨(R b hb).2.1, (R b hb).2.2.2.1, (R b hb).2.2.2.2⟩) nb (Nat.le_refl _), mrk_eq hV (by omega) hb nb (Nat.le_refl _)]
  · rw [← hg1] at cC; rw [← h1] at cM
    rw [if_neg cC, if_neg cM]
theorem q_ranked (hc : c ≤ 512) (hV : IV c a nb nr np ck) (hE : EQ g t a nr) (hcc : c_cl g = nI nc) (hnc : nc ≤ nr) (x : Int32) (tm pt sm tl : Nat → Int32) : c_rkd (sc_s3 g t (sc_r2 g t nb tm pt (sc_ct tl nb) nc).2.1 nc sm nb) (sc_r2 g t nb tm pt (sc_ct tl nb) nc).2.2 x nb nb 0 = m_rkd a x nb nc nb := by
  obtain ⟨h1, h2, h3, h4, h5, h6, h7, h8, h9, h10, h11, h12, h13, h14⟩ := id hV
  have R := rec_ok (c := c) (by omega) hV hE hcc hnc tm pt sm tl
  have eC : ∀ b, b < nb → sc_rank (sc_s3 g t (sc_r2 g t nb tm pt (sc_ct tl nb) nc).2.1 nc sm nb) (sc_r2 g t nb tm pt (sc_ct tl nb) nc).2.2 (nI b) nb = nI (rk (AH a nb nc) b nb) := fun b hb => crank_eq hV (by omega) hb (fun b hb => ⟨(R b hb).2.1, (R b hb).2.2.2.1, (R b hb).2.2.2.2⟩) nb (Nat.le_refl _)
  have eM : ∀ b, b < nb → m_rk a b nb nc nb = nI (rk (AH a nb nc) b nb) := fun b hb => mrk_eq hV (by omega) hb nb (Nat.le_refl _)
  by_cases q : ∃ b, b < nb ∧ nI (rk (AH a nb nc) b nb) = x
  · obtain ⟨b, hb, hx⟩ := q
    have un : ∀ i, i < nb → nI (rk (AH a nb nc) i nb) = x → i = b := fun i hi h => by
      by_cases w : i = b
      · exact w
      · have b1 := rk_b (AH a nb nc) i nb
        have b2 := rk_b (AH a nb nc) b nb
        exact absurd ((nI_eq (by omega) (by omega)).mp (h.trans hx.symm)) (rk_ne hV (by omega) hi hb w)
    have c1 : ∀ f i, i + f = nb → i ≤ b → c_rkd (sc_s3 g t (sc_r2 g t nb tm pt (sc_ct tl nb) nc).2.1 nc sm nb) (sc_r2 g t nb tm pt (sc_ct tl nb) nc).2.2 x nb f i = nI b := by
      intro f
      induction f with
      | zero => intro i h h'; omega
      | succ f ih =>
        intro i hi hib
        rw [c_rkd, eC i (by omega)]
        by_cases w : i = b
        · rw [w, if_pos hx]
        · rw [if_neg (fun z => w (un i (by omega) z))]; exact ih (i + 1) (by omega) (by omega)
    have m1 : ∀ n, n ≤ nb → b < n → m_rkd a x nb nc n = nI b := by
      intro n
      induction n with
      | zero => intro _ h; omega
      | succ n ih =>
        intro hn hbn
        rw [m_rkd, eM n (by omega)]
        by_cases w : n = b
        · rw [w, if_pos hx]
        · rw [if_neg (fun z => w (un n (by omega) z))]; exact ih (by omega) (by omega)
    rw [c1 nb 0 (by omega) (by omega), m1 nb (Nat.le_refl _) hb]
  · have c1 : ∀ f i, i + f = nb → c_rkd (sc_s3 g t (sc_r2 g t nb tm pt (sc_ct tl nb) nc).2.1 nc sm nb) (sc_r2 g t nb tm pt (sc_ct tl nb) nc).2.2 x nb f i = (-5) := by
      intro f
      induction f with
      | zero => intro i _; rfl
      | succ f ih =>
        intro i hi
        rw [c_rkd, eC i (by omega), if_neg (fun z => q ⟨i, by omega, z⟩)]; exact ih (i + 1) (by omega)
    have m1 : ∀ n, n ≤ nb → m_rkd a x nb nc n = (-5) := by
      intro n
      induction n with
      | zero => intro _; rfl
      | succ n ih =>
        intro hn
        rw [m_rkd, eM n (by omega), if_neg (fun z => q ⟨n, by omega, z⟩)]; exact ih (by omega)
    rw [c1 nb 0 (by omega), m1 nb (Nat.le_refl _)]
theorem q_race (hc : c ≤ 512) (hV : IV c a nb nr np ck) (hE : EQ g t a nr) (hcc : c_cl g = nI nc) (hnc : nc ≤ nr) (hr3 : ∀ r, r < nr → (m_r a r 3 = nI 1 ∧ r < nc) ∨ (m_r a r 3 = nI 0 ∧ nc ≤ r)) (x w : Int32) (tm : Nat → Int32) : s_X7_race g t tm x w nb = s_X8_race a x w nb := by
  obtain ⟨h1, h2, h3, h4, h5, h6, h7, h8, h9, h10, h11, h12, h13, h14⟩ := id hV
  have hg2 : g 2 = nI nr := hE.2.2.1.trans h3
  unfold s_X7_race s_X8_race
  rcases inN x (n := nr) (by omega) with ⟨r, hr, rfl, ec, cC, cM⟩ | ⟨cC, cM⟩
  · rw [← hg2] at cC; rw [← h3] at cM
    rw [if_pos cC, if_pos cM, ec]
    have e3 : (if ¬ nI r < 0 ∧ ¬ c_cl g ≤ nI r then nI 2 else nI 1) = m_r a r 3 + nI 1 := by
      rcases hr3 r hr with ⟨q1, q2⟩ | ⟨q1, q2⟩
      · rw [if_pos ⟨nI_pos (by omega), by rw [hcc]; exact nI_ge q2 (by omega)⟩, q1]; rfl
      · rw [if_neg (fun z => z.2 (by rw [hcc]; exact nI_le q2 (by omega))), q1]; rfl
    obtain ⟨n, _, n2, n3⟩ := cnt_fin hE (r := r) (by omega) nb h2
    obtain ⟨o, _, o2, o3⟩ := cnt_out hE (r := r) (by omega) nb h2 (hV.outs hr)
    rw [e3, n2, n3, o2, o3, lead_eq (c := c) (by omega) hV hE hr]
    have e0 := hE.crs (r := r) (w := 0) (by omega) (by omega)
    have e1 := hE.crs (r := r) (w := 1) (by omega) (by omega)
    have e2 := hE.crs (r := r) (w := 2) (by omega) (by omega)
    by_cases w0 : w = 0
    · rw [if_pos w0, if_pos w0, w0]; exact e0
    by_cases w1 : w = 1
    · rw [if_neg w0, if_pos w1, if_neg w0, if_pos w1, w1]; exact e1
    by_cases w2 : w = 2
    · rw [if_neg w0, if_neg w1, if_pos w2, if_neg w0, if_neg w1, if_pos w2, w2]; exact e2
    · rw [if_neg w0, if_neg w1, if_neg w2, if_neg w0, if_neg w1, if_neg w2]
  · rw [← hg2] at cC; rw [← h3] at cM
    rw [if_neg cC, if_neg cM]
theorem q_protest (hV : IV c a nb nr np ck) (hE : EQ g t a nr) (x w : Int32) : s_X7_protest g t x w = s_X8_protest a x w := by
  obtain ⟨h1, h2, h3, h4, h5, h6, h7, h8, h9, h10, h11, h12, h13, h14⟩ := id hV
  have hg4 : g 4 = nI np := hE.2.2.2.1.trans h5
  unfold s_X7_protest s_X8_protest
  rcases inN x (n := np) (by omega) with ⟨p, hp, rfl, ec, cC, cM⟩ | ⟨cC, cM⟩
  · rw [← hg4] at cC; rw [← h5] at cM
    rw [if_pos cC, if_pos cM, ec]
    have d3 : (nI 4 - nI 1 : Int32) = nI 3 := by decide
    rcases inN w (n := 4) (by omega) with ⟨j, hj, rfl, ej, dC, dM⟩ | ⟨dC, dM⟩
    · rw [d3] at dM
      rw [if_neg dC.1, if_pos (nlt_le dM.2), if_pos dM, ej]
      exact hE.pro (by omega) hj
    · rw [d3] at dM
      rw [if_neg dM]
      by_cases w0 : w < 0
      · rw [if_pos w0]
      · rw [if_neg w0, if_neg (fun z => dM ⟨w0, le_nlt z⟩)]
  · rw [← hg4] at cC; rw [← h5] at cM
    rw [if_neg cC, if_neg cM]
theorem q_placeNow (hc : c ≤ 512) (hV : IV c a nb nr np ck) (hE : EQ g t a nr) (x : Int32) (tm : Nat → Int32) : s_X7_placeNow g t tm x nb = s_X8_placeNow a x nb nr := by
  obtain ⟨h1, h2, h3, h4, h5, h6, h7, h8, h9, h10, h11, h12, h13, h14⟩ := id hV
  have hg1 : g 1 = nI nb := hE.2.1.trans h1
  unfold s_X7_placeNow s_X8_placeNow
  rcases inN x (n := nb) (by omega) with ⟨b, hb, rfl, ec, cC, cM⟩ | ⟨cC, cM⟩
  · rw [← hg1] at cC; rw [← h1] at cM
    rw [if_pos cC, if_pos cM, ec]
    by_cases hp : 0 < nr ∧ m_r a (nr - 1) 3 = 0
    · rw [if_pos ((prep_iff hV hE).mpr hp), if_pos hp, hE.g2 h3 hp.1]
      exact place_eq (c := c) (by omega) hV hE (by omega) hb
    · rw [if_neg (fun z => hp ((prep_iff hV hE).mp z)), if_neg hp]
  · rw [← hg1] at cC; rw [← h1] at cM
    rw [if_neg cC, if_neg cM]
/-- any race's entry is put -/
theorem EQ.putr (h : EQ g t a nr) (hr6 : nr ≤ 6) {r b w : Nat} {v : Int32} (hr : r < 6) (hb : b < 9) (hw : w < 6) : EQ g (va_up t 3 (tp 6 324 (t 3) (nI r * nI 9 + nI b) (nI w) v)) (ly a r b w v) nr := by
  rw [nI9, tp_at (by omega) (by omega)]
  have := h.wr3 (v := v) hr6 (i := (9 * r + b) * 6 + w) (by omega)
  unfold ly
  rw [show 80 + 6 * (9 * r + b) + w = 80 + ((9 * r + b) * 6 + w) by omega]
  exact this
theorem iv_dsq (hV : IV c a nb nr np ck) {r b : Nat} (hr : r < nr) (hb : b < nb) : IV c (ly a r b 4 (nI 1)) nb nr np ck := by
  obtain ⟨h1, h2, h3, h4, h5, h6, h7, h8, h9, h10, h11, h12, h13, h14⟩ := id hV
  refine ⟨(ly_lo (by omega)).trans h1, h2, (ly_lo (by omega)).trans h3, h4, (ly_lo (by omega)).trans h5, h6, h7, (ly_lo (by omega)).trans h8, h9, h10.ag (fun i _ _ => ly_lo (by omega)), fun b hb => ?_, fun r1 hr1 => ?_, fun r1 b1 w1 q1 q2 q3 q4 => (mE_o (by omega) (by omega) q3 q4 (by omega)).trans (h13 r1 b1 w1 q1 q2 q3 q4), fun p hp => (h14 p hp).ag (fun w hw => ly_lo (by omega))⟩
  · obtain ⟨v, hv, hv2⟩ := h11 b hb
    exact ⟨v, (ly_lo (by omega)).trans hv, hv2⟩
  · obtain ⟨bu, la, st, cl, g1, g2, g3, g4, g5, g6, g7, g8, g9, g10, g11, g12⟩ := h12 r1 hr1
    refine ⟨bu, la, st, cl, (ly_lo (by omega)).trans g1, g2, g3, (ly_lo (by omega)).trans g4, g5, g6, (ly_lo (by omega)).trans g7, g8, (ly_lo (by omega)).trans g9, g10, g11, fun b1 hb1 => ?_⟩
    obtain ⟨s, ro, pe, ou, fi, k1, k2, k3, k4, k5, k6, k7, k8, k9, k10, k11, k13, k12⟩ := g12 b1 hb1
    have o2 : ∀ w1, w1 < 6 → w1 ≠ 4 → m_e (ly a r b 4 (nI 1)) r1 b1 w1 = m_e a r1 b1 w1 := fun w1 q1 q2 => mE_o (by omega) (by omega) (by omega) q1 (by omega)
    by_cases q : r1 = r ∧ b1 = b
    · obtain ⟨rfl, rfl⟩ := q
      exact ⟨s, ro, pe, 1, fi, (o2 0 (by omega) (by omega)).trans k1, k2, (o2 1 (by omega) (by omega)).trans k3, k4, (o2 3 (by omega) (by omega)).trans k5, k6, mE_s, by omega, (o2 5 (by omega) (by omega)).trans k9, k10, k11, k13, k12⟩
    · exact ⟨s, ro, pe, ou, fi, (o2 0 (by omega) (by omega)).trans k1, k2, (o2 1 (by omega) (by omega)).trans k3, k4, (o2 3 (by omega) (by omega)).trans k5, k6, (mE_o (by omega) (by omega) (by omega) (by omega) (by omega)).trans k7, k8, (o2 5 (by omega) (by omega)).trans k9, k10, k11, k13, k12⟩
end Asks
