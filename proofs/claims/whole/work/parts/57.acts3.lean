/-! a race begins anew -/
theorem m_ci_at {a : Nat → Int32} {r b i : Nat} : ∀ j, m_ci a r b j i = if 80 + 6 * (9 * r + b) ≤ i ∧ i < 80 + 6 * (9 * r + b) + j then nI 0 else a i := by
  intro j
  induction j with
  | zero => rw [if_neg (by omega)]; rfl
  | succ j ih =>
    rw [m_ci]
    unfold ly
    by_cases q : i = 80 + 6 * (9 * r + b) + j
    · rw [q, pk_us, if_pos (by omega)]
    · rw [pk_un q, ih]
      by_cases w : 80 + 6 * (9 * r + b) ≤ i ∧ i < 80 + 6 * (9 * r + b) + j
      · rw [if_pos w, if_pos (by omega)]
      · rw [if_neg w, if_neg (by omega)]
theorem m_cc_at {a : Nat → Int32} {r i : Nat} : ∀ n, m_cc a r n i = if 80 + 54 * r ≤ i ∧ i < 80 + 54 * r + 6 * n then nI 0 else a i := by
  intro n
  induction n with
  | zero => rw [if_neg (by omega)]; rfl
  | succ n ih =>
    rw [m_cc, m_ci_at, ih]
    by_cases w : 80 + 54 * r ≤ i ∧ i < 80 + 54 * r + 6 * n
    · rw [if_pos w, if_pos (show 80 + 54 * r ≤ i ∧ i < 80 + 54 * r + 6 * (n + 1) by omega)]
      split <;> rfl
    · rw [if_neg w]
      by_cases w2 : 80 + 6 * (9 * r + n) ≤ i ∧ i < 80 + 6 * (9 * r + n) + 6
      · rw [if_pos w2, if_pos (by omega)]
      · rw [if_neg w2, if_neg (by omega)]
theorem m_clr_at {a : Nat → Int32} {r i : Nat} : m_clr a r i = if i = 3 then nI 0 else if 80 + 54 * r ≤ i ∧ i < 80 + 54 * r + 54 then nI 0 else a i := by
  unfold m_clr
  by_cases q : i = 3
  · rw [q, pk_us, if_pos rfl]
  · rw [pk_un q, if_neg q, m_cc_at]
theorem tcl_at {F : Nat → Int32} {r b i : Nat} (hr : r < 6) (hb : b < 9) : ∀ j, j ≤ 6 → tcl 6 324 F (nI r * nI 9 + nI b) j i = if 54 * r + 6 * b ≤ i ∧ i < 54 * r + 6 * b + j then nI 0 else F i := by
  intro j
  induction j with
  | zero => intro _; rw [if_neg (by omega)]; rfl
  | succ j ih =>
    intro hj
    rw [tcl, nI9, tp_at (by omega) (by omega)]
    by_cases q : i = (9 * r + b) * 6 + j
    · rw [q, pk_us, if_pos (by omega)]
    · rw [pk_un q]
      have := ih (by omega)
      rw [nI9] at this
      rw [this]
      by_cases w : 54 * r + 6 * b ≤ i ∧ i < 54 * r + 6 * b + j
      · rw [if_pos w, if_pos (by omega)]
      · rw [if_neg w, if_neg (by omega)]
theorem clrs_at {g F : Nat → Int32} {r i : Nat} (hg : g 2 - nI 1 = nI r) (hr : r < 6) : ∀ n, n ≤ 9 → c_clrs g F n i = if 54 * r ≤ i ∧ i < 54 * r + 6 * n then nI 0 else F i := by
  intro n
  induction n with
  | zero => intro _; rw [if_neg (by omega)]; rfl
  | succ n ih =>
    intro hn
    rw [c_clrs, hg, tcl_at hr (by omega) 6 (by omega), ih (by omega)]
    by_cases w : 54 * r ≤ i ∧ i < 54 * r + 6 * n
    · rw [if_pos w, if_pos (show 54 * r ≤ i ∧ i < 54 * r + 6 * (n + 1) by omega)]
      split <;> rfl
    · rw [if_neg w]
      by_cases w2 : 54 * r + 6 * n ≤ i ∧ i < 54 * r + 6 * n + 6
      · rw [if_pos w2, if_pos (by omega)]
      · rw [if_neg w2, if_neg (by omega)]
theorem clr_lo {a : Nat → Int32} {r i : Nat} (h : i < 80) (h3 : i ≠ 3) : m_clr a r i = a i := m_clr_lo h h3
theorem clr_r {a : Nat → Int32} {r r1 w : Nat} (hr : r1 < 6) (hw : w < 4) : m_r (m_clr a r) r1 w = m_r a r1 w := clr_lo (by omega) (by omega)
theorem clr_e {a : Nat → Int32} {r r1 b w : Nat} (hb : b < 9) (hw : w < 6) : m_e (m_clr a r) r1 b w = if r1 = r then nI 0 else m_e a r1 b w := by
  unfold m_e
  rw [m_clr_at, if_neg (by omega)]
  by_cases q : r1 = r
  · rw [if_pos q, if_pos (by omega)]
  · rw [if_neg q, if_neg (by omega)]
theorem EQ.clr {g g' : Nat → Int32} {t : Nat → Nat → Int32} {a : Nat → Int32} {nr nb : Nat} (h : EQ g t a nr) (hr6 : nr ≤ 6) (hn : 0 < nr) (hg : g' 2 - nI 1 = nI (nr - 1)) (hb : nb ≤ 9) (hz : ∀ b w, nb ≤ b → b < 9 → w < 6 → m_e a (nr - 1) b w = 0) : EQ (va_up g 4 (nI 0)) (va_up t 3 (c_clrs g' (t 3) nb)) (m_clr a (nr - 1)) nr := by
  obtain ⟨h1, h2, h3, h4, h5, h6, h7, h8, h9, h10, h11⟩ := h
  refine ⟨by rw [up_o (by omega), clr_lo (by omega) (by omega)]; exact h1, by rw [up_o (by omega), clr_lo (by omega) (by omega)]; exact h2, by rw [up_o (by omega), clr_lo (by omega) (by omega)]; exact h3, by rw [up_a, m_clr_at, if_pos rfl], fun q => absurd q (by omega), fun _ => by rw [up_o (by omega), clr_r (by omega) (by omega)]; exact h6 hn, fun j hj => ?_, fun j hj => ?_, fun r w hr hw => ?_, fun j hj => ?_, fun j hj => ?_⟩
  · rw [up_o (by omega), clr_lo (by omega) (by omega)]; exact h7 j hj
  · rw [up_o (by omega), clr_lo (by omega) (by omega)]; exact h8 j hj
  · rw [up_o (by omega), clr_r hr (by omega)]; exact h9 r w hr hw
  · rw [up_a, clrs_at hg (by omega) nb hb, m_clr_at, if_neg (show ¬ 80 + j = 3 by omega)]
    by_cases q : 54 * (nr - 1) ≤ j ∧ j < 54 * (nr - 1) + 6 * nb
    · rw [if_pos q, if_pos (by omega)]
    · rw [if_neg q]
      by_cases q2 : 80 + 54 * (nr - 1) ≤ 80 + j ∧ 80 + j < 80 + 54 * (nr - 1) + 54
      · rw [if_pos q2, h10 j hj]
        have e := hz ((j - 54 * (nr - 1)) / 6) ((j - 54 * (nr - 1)) % 6) (by omega) (by omega) (by omega)
        unfold m_e at e
        rw [show 80 + 6 * (9 * (nr - 1) + (j - 54 * (nr - 1)) / 6) + (j - 54 * (nr - 1)) % 6 = 80 + j by omega] at e
        exact e
      · rw [if_neg q2]; exact h10 j hj
  · rw [up_o (by omega), clr_lo (by omega) (by omega)]; exact h11 j hj
section Acts3
variable {c : Nat} {g : Nat → Int32} {t : Nat → Nat → Int32} {a h sn tx k : Nat → Int32} {nb nr np ck kp : Nat}
theorem BV0 {a' : Nat → Int32} {r b all st : Nat} {la : Prop} (q : ∀ w, w < 6 → m_e a' r b w = nI 0) : BV c a' r b all st la ck := ⟨0, 0, 0, 0, 0, q 0 (by omega), by omega, q 1 (by omega), by omega, q 3 (by omega), by omega, q 4 (by omega), by omega, q 5 (by omega), by omega, fun z => by omega, Or.inr rfl, fun _ z => by omega⟩
theorem st_recall (hc : c ≤ 512) (hV : IV c a nb nr np ck) (hE : EQ g t a nr) : StOK c g t a h sn tx k kp (s_X0_recallBoats g t nb) (s_X8_recall a h sn tx k nr kp) := by
  obtain ⟨h1, h2, h3, h4, h5, h6, h7, h8, h9, h10, h11, h12, h13, h14⟩ := id hV
  by_cases hp : 0 < nr ∧ m_r a (nr - 1) 3 = 0
  · have hg3 := (prep_iff hV hE).mpr hp
    have hn := hp.1
    obtain ⟨bu, la, st, cl, r1, r2, r3, r4, r5, r6, r7, r8, r9, r10, r11, r12⟩ := h12 (nr - 1) (by omega)
    have es : c_start g t = nI st := (hE.sta h3 h4 hn).trans r7
    have ea0 : g 0 = nI ck := hE.1.trans h8
    by_cases q : ck < st
    · refine e_err (e := (-4)) (by decide) ?_ ?_
      · unfold s_X0_recallBoats
        rw [if_pos hg3, es, ea0, if_neg (fun z => z (nI_lt q (by omega)))]
      · unfold s_X8_recall
        rw [if_pos hp, r7, h8, if_neg (fun z => z.1 (nI_lt q (by omega)))]
    · have nlt := nI_nlt (a := ck) (b := st) (by omega) (by omega)
      by_cases q2 : ck ≤ st + 60
      · have E1 := hE.crp (r := nr - 1) (w := 2) (v := nI ck + nI 300) h4 (by omega) (by omega)
        have e2 : g 2 - nI 1 = nI (nr - 1) := hE.g2 h3 hn
        have E2 := E1.clr (g' := g) (nb := nb) h4 hn e2 h2 (fun b w hb hb2 hw => (pk_un (by omega)).trans (h13 (nr - 1) b w (by omega) hb hb2 hw))
        have e4 : (va_up t 2 (tp 3 18 (t 2) (nI (nr - 1)) (nI 2) (nI ck + nI 300))) 3 = t 3 := up_o (by omega)
        rw [e4] at E2
        have eA : c_anew g t (nI 300) nb = va_up (va_up t 2 (tp 3 18 (t 2) (nI (nr - 1)) (nI 2) (nI ck + nI 300))) 3 (c_clrs g (t 3) nb) := by
          unfold c_anew
          rw [e2, ea0]
        rw [← eA] at E2
        have a2 : m_clr (upd a (16 + 4 * (nr - 1) + 2) (nI ck + nI 300)) (nr - 1) 2 = nI nr := (clr_lo (by omega) (by omega)).trans ((pk_un (by omega)).trans h3)
        have ms : m_r (m_clr (upd a (16 + 4 * (nr - 1) + 2) (nI ck + nI 300)) (nr - 1)) (nr - 1) 2 = nI (ck + 300) := (clr_r (by omega) (by omega)).trans (pk_us.trans (nI_add _ _))
        have es2 : c_start (va_up g 4 (nI 0)) (c_anew g t (nI 300) nb) = nI (ck + 300) := (E2.sta a2 h4 hn).trans ms
        have eR : s_X0_recallBoats g t nb = (nI (ck + 300), va_up g 4 (nI 0), c_anew g t (nI 300) nb) := by
          unfold s_X0_recallBoats
          rw [es2, if_pos hg3, es, ea0, if_pos nlt, nI_add, if_pos (nI_le q2 (by omega))]
        rw [eR]
        refine Or.inr ⟨nI_nn (by omega), m_clr (upd a (16 + 4 * (nr - 1) + 2) (nI ck + nI 300)) (nr - 1), ?_, nb, nr, 0, ck, ?_, E2⟩
        · unfold s_X8_recall
          rw [if_pos hp, r7, h8, nI_add st 60, if_pos ⟨nlt, nI_nlt q2 (by omega)⟩, ms]
        · refine ⟨(clr_lo (by omega) (by omega)).trans ((pk_un (by omega)).trans h1), h2, a2, h4, by rw [m_clr_at, if_pos rfl], by omega, fun z => by omega, (clr_lo (by omega) (by omega)).trans ((pk_un (by omega)).trans h8), h9, h10.ag (fun i _ _ => (clr_lo (by omega) (by omega)).trans (pk_un (by omega))), fun b hb => ?_, fun r hr => ?_, fun r b w hr hb hb2 hw => ?_, fun p hp => absurd hp (by omega)⟩
          · obtain ⟨v, hv, hv2⟩ := h11 b (by omega)
            exact ⟨v, (clr_lo (by omega) (by omega)).trans ((pk_un (by omega)).trans hv), hv2⟩
          · by_cases w : r = nr - 1
            · subst w
              exact ⟨bu, la, ck + 300, cl, (clr_r (by omega) (by omega)).trans ((mr_un (by omega)).trans r1), r2, r3, (clr_r (by omega) (by omega)).trans ((mr_un (by omega)).trans r4), r5, r6, ms, by omega, (clr_r (by omega) (by omega)).trans ((mr_un (by omega)).trans r9), r10, r11, fun b hb => BV0 (fun w hw => by rw [clr_e (by omega) hw, if_pos rfl])⟩
            · exact ((h12 r hr).mono (Nat.le_succ _)).ag (by omega) h2 (fun w1 hw1 => (clr_r (by omega) hw1).trans (mr_un (by omega))) (fun b1 w1 hb1 hw1 => by rw [clr_e hb1 hw1, if_neg w]; exact pk_un (by omega))
          · rw [clr_e hb2 hw]
            by_cases w1 : r = nr - 1
            · rw [if_pos w1]; rfl
            · rw [if_neg w1]; exact (pk_un (by omega)).trans (h13 r b w hr hb hb2 hw)
      · refine e_err (e := (-4)) (by decide) ?_ ?_
        · unfold s_X0_recallBoats
          rw [if_pos hg3, es, ea0, if_pos nlt, nI_add, if_neg (nI_ge (by omega) (by omega))]
        · unfold s_X8_recall
          rw [if_pos hp, r7, h8, nI_add st 60, if_neg (fun z => z.2 (nI_lt (by omega) (by omega)))]
  · have hg3 : ¬ g 3 = nI 1 := fun z => hp ((prep_iff hV hE).mp z)
    exact e_err (e := (-4)) (by decide) (if_neg hg3) (if_neg hp)
theorem EQ.next (hE : EQ g t a nr) (hr6 : nr < 6) {v : Int32} : EQ (va_up (va_up g 2 v) 3 (nI 1)) t (upd (upd a (16 + 4 * nr + 3) (nI 0)) 2 v) (nr + 1) := by
  obtain ⟨h1, h2, h3, h4, h5, h6, h7, h8, h9, h10, h11⟩ := hE
  have o2 : ∀ i, i ≠ 2 → i ≠ 16 + 4 * nr + 3 → upd (upd a (16 + 4 * nr + 3) (nI 0)) 2 v i = a i := fun i q1 q2 => (pk_un q1).trans (pk_un q2)
  refine ⟨by rw [up_o (by omega), up_o (by omega), o2 0 (by omega) (by omega)]; exact h1, by rw [up_o (by omega), up_o (by omega), o2 1 (by omega) (by omega)]; exact h2, by rw [up_o (by omega), up_a, pk_us], by rw [up_o (by omega), up_o (by omega), o2 3 (by omega) (by omega)]; exact h4, fun q => absurd q (by omega), fun _ => ?_, fun j hj => (h7 j hj).trans (o2 _ (by omega) (by omega)).symm, fun j hj => (h8 j hj).trans (o2 _ (by omega) (by omega)).symm, fun r w hr hw => (h9 r w hr hw).trans (o2 _ (by omega) (by omega)).symm, fun j hj => (h10 j hj).trans (o2 _ (by omega) (by omega)).symm, fun j hj => (h11 j hj).trans (o2 _ (by omega) (by omega)).symm⟩
  rw [up_a, Nat.add_sub_cancel]
  show nI 1 = upd _ _ _ (16 + 4 * nr + 3) + nI 1
  rw [pk_un (by omega), pk_us]; rfl
set_option maxRecDepth 100000 in
set_option maxHeartbeats 4000000 in
theorem st_prepare (hc : c ≤ 512) (hV : IV c a nb nr np ck) (hE : EQ g t a nr) (x y w : Int32) : StOK c g t a h sn tx k kp (s_X0_prepareRace g t x y w nb) (s_X8_prepare a h sn tx k x y w nr kp) := by
  obtain ⟨h1, h2, h3, h4, h5, h6, h7, h8, h9, h10, h11, h12, h13, h14⟩ := id hV
  by_cases c1 : x < nI 1
  · exact e_err (e := (-2)) (by decide) (if_pos c1) (if_neg (fun z => z.1 c1))
  by_cases c2 : nI 5 < x
  · exact e_err (e := (-2)) (by decide) ((if_neg c1).trans (if_pos c2)) (if_neg (fun z => z.2 c2))
  have m1 : ¬ x < nI 1 ∧ ¬ nI 5 < x := ⟨c1, c2⟩
  by_cases c3 : y < nI 1
  · exact e_err (e := (-2)) (by decide) ((if_neg c1).trans ((if_neg c2).trans (if_pos c3))) ((if_pos m1).trans (if_neg (fun z => z.1 c3)))
  by_cases c4 : nI 3 < y
  · exact e_err (e := (-2)) (by decide) ((if_neg c1).trans ((if_neg c2).trans ((if_neg c3).trans (if_pos c4)))) ((if_pos m1).trans (if_neg (fun z => z.2 c4)))
  have m2 : ¬ y < nI 1 ∧ ¬ nI 3 < y := ⟨c3, c4⟩
  by_cases c5 : w < nI 60
  · exact e_err (e := (-2)) (by decide) ((if_neg c1).trans ((if_neg c2).trans ((if_neg c3).trans ((if_neg c4).trans (if_pos c5))))) ((if_pos m1).trans ((if_pos m2).trans (if_neg (fun z => z.1 c5))))
  by_cases c6 : ¬ w ≤ nI 3600
  · exact e_err (e := (-2)) (by decide) ((if_neg c1).trans ((if_neg c2).trans ((if_neg c3).trans ((if_neg c4).trans ((if_neg c5).trans (if_neg c6)))))) ((if_pos m1).trans ((if_pos m2).trans (if_neg (fun z => z.2 (nle_lt c6)))))
  have c6 : w ≤ nI 3600 := Decidable.of_not_not c6
  have m3 : ¬ w < nI 60 ∧ ¬ nI 3600 < w := ⟨c5, le_nlt c6⟩
  have hg1 : g 1 = a 1 := hE.2.1
  have pC : ∀ {α : Type} {A B : α}, (if x < nI 1 then A else if nI 5 < x then A else if y < nI 1 then A else if nI 3 < y then A else if w < nI 60 then A else if w ≤ nI 3600 then B else A) = B := by
    intro α A B
    rw [if_neg c1, if_neg c2, if_neg c3, if_neg c4, if_neg c5, if_pos c6]
  by_cases c7 : a 1 = 0
  · refine e_err (e := (-4)) (by decide) ?_ ((if_pos m1).trans ((if_pos m2).trans ((if_pos m3).trans (if_pos c7))))
    unfold s_X0_prepareRace
    rw [pC, if_pos (hg1.trans c7)]
  by_cases hp : 0 < nr ∧ m_r a (nr - 1) 3 = 0
  · have hg3 := (prep_iff hV hE).mpr hp
    refine e_err (e := (-4)) (by decide) ?_ ((if_pos m1).trans ((if_pos m2).trans ((if_pos m3).trans ((if_neg c7).trans (if_pos hp)))))
    unfold s_X0_prepareRace
    rw [pC, if_neg (fun z => c7 (hg1.symm.trans z)), if_pos hg3]
  have hg3 : ¬ g 3 = nI 1 := fun z => hp ((prep_iff hV hE).mp z)
  have hg2 : g 2 = nI nr := hE.2.2.1.trans h3
  by_cases c8 : nr = 6
  · refine e_err (e := (-3)) (by decide) ?_ ((if_pos m1).trans ((if_pos m2).trans ((if_pos m3).trans ((if_neg c7).trans ((if_neg hp).trans (if_pos (by rw [h3, c8])))))))
    unfold s_X0_prepareRace
    rw [pC, if_neg (fun z => c7 (hg1.symm.trans z)), if_neg hg3, hg2, if_neg (nI_nlt (by omega) (by omega))]
  obtain ⟨xj, hxj, rfl⟩ := nI_of (x := x) (fun q => c1 (Int32.lt_of_lt_of_le q (by decide)))
  obtain ⟨yj, hyj, rfl⟩ := nI_of (x := y) (fun q => c3 (Int32.lt_of_lt_of_le q (by decide)))
  obtain ⟨wj, hwj, rfl⟩ := nI_of (x := w) (fun q => c5 (Int32.lt_of_lt_of_le q (by decide)))
  have x1 : 1 ≤ xj := Nat.le_of_not_lt fun q => c1 (nI_lt q (by omega))
  have x2 : xj ≤ 5 := Nat.le_of_not_lt fun q => c2 (nI_lt q (by omega))
  have y1 : 1 ≤ yj := Nat.le_of_not_lt fun q => c3 (nI_lt q (by omega))
  have y2 : yj ≤ 3 := Nat.le_of_not_lt fun q => c4 (nI_lt q (by omega))
  have w2 : wj ≤ 3600 := (nI_leI (by omega) (by omega)).mp c6
  have ea0 : g 0 = nI ck := hE.1.trans h8
  have E1 := hE.crp (r := nr) (w := 0) (v := nI xj) h4 (by omega) (by omega)
  have E2 := E1.crp (r := nr) (w := 1) (v := nI yj) h4 (by omega) (by omega)
  obtain ⟨X, hX⟩ : ∃ X, X = va_up (va_up t 2 (tp 3 18 (t 2) (nI nr) (nI 0) (nI xj))) 2 (tp 3 18 ((va_up t 2 (tp 3 18 (t 2) (nI nr) (nI 0) (nI xj))) 2) (nI nr) (nI 1) (nI yj)) := ⟨_, rfl⟩
  rw [← hX] at E2
  obtain ⟨G, hG⟩ : ∃ G, G = va_up (va_up g 2 (nI nr + nI 1)) 3 (nI 1) := ⟨_, rfl⟩
  have E3 := E2.crp (r := nr) (w := 2) (v := nI ck + nI wj) h4 (by omega) (by omega)
  have E4 := E3.next (v := nI nr + nI 1) (by omega)
  rw [← hG] at E4
  have eN : nr + 1 - 1 = nr := Nat.add_sub_cancel _ _
  have gn : G 2 - nI 1 = nI nr := by rw [hG, up_o (by omega), up_a, nI_add, pk_sub (by omega), eN]
  have g0' : G 0 = nI ck := by rw [hG, up_o (by omega), up_o (by omega), ea0]
  have E5 := E4.clr (g' := G) (nb := nb) (by omega) (by omega) (by rw [eN]; exact gn) h2 (fun b w hb hb2 hw => (pk_un (by omega)).trans ((pk_un (by omega)).trans ((pk_un (by omega)).trans ((pk_un (by omega)).trans ((pk_un (by omega)).trans (h13 (nr + 1 - 1) b w (by omega) hb hb2 hw))))))
  rw [eN] at E5
  have e4 : (va_up X 2 (tp 3 18 (X 2) (nI nr) (nI 2) (nI ck + nI wj))) 3 = X 3 := up_o (by omega)
  rw [e4] at E5
  have eA : c_anew G X (nI wj) nb = va_up (va_up X 2 (tp 3 18 (X 2) (nI nr) (nI 2) (nI ck + nI wj))) 3 (c_clrs G (X 3) nb) := by
    unfold c_anew
    rw [gn, g0']
  rw [← eA] at E5
  have eR : s_X0_prepareRace g t (nI xj) (nI yj) (nI wj) nb = (nI nr, va_up G 4 (nI 0), c_anew G X (nI wj) nb) := by
    unfold s_X0_prepareRace
    rw [pC, if_neg (fun z => c7 (hg1.symm.trans z)), if_neg hg3, hg2, if_pos (nI_lt (by omega) (by omega)), ← hX, ← hG]
  rw [eR]
  obtain ⟨Y, hY⟩ : ∃ Y, Y = upd (upd (upd (upd a (16 + 4 * nr + 0) (nI xj)) (16 + 4 * nr + 1) (nI yj)) (16 + 4 * nr + 2) (nI ck + nI wj)) (16 + 4 * nr + 3) (nI 0) := ⟨_, rfl⟩
  rw [← hY] at E5
  refine Or.inr ⟨nI_nn (by omega), m_clr (upd Y 2 (nI nr + nI 1)) nr, ?_, nb, nr + 1, 0, ck, ?_, E5⟩
  · have u0 : upd (upd a (16 + 4 * nr + 0) (nI xj)) (16 + 4 * nr + 1) (nI yj) 0 = nI ck := (pk_un (by omega)).trans ((pk_un (by omega)).trans h8)
    have u2 : Y 2 = nI nr := by rw [hY]; exact (pk_un (by omega)).trans ((pk_un (by omega)).trans ((pk_un (by omega)).trans ((pk_un (by omega)).trans h3)))
    unfold s_X8_prepare
    rw [if_pos m1, if_pos m2, if_pos m3, if_neg c7, if_neg hp, if_neg (fun z => c8 ((nI_eq (by omega) (by omega)).mp (h3.symm.trans z))), u0, ← hY, u2, eN]
  · rw [hY]
    clear E5 E4 E3 E2 E1 eR eA e4
    generalize hA : upd (upd (upd (upd (upd a (16 + 4 * nr + 0) (nI xj)) (16 + 4 * nr + 1) (nI yj)) (16 + 4 * nr + 2) (nI ck + nI wj)) (16 + 4 * nr + 3) (nI 0)) 2 (nI nr + nI 1) = A
    have o : ∀ i, i ≠ 2 → ¬ (16 + 4 * nr ≤ i ∧ i < 16 + 4 * nr + 4) → A i = a i := fun i q1 q2 => by
      rw [← hA]; exact (pk_un q1).trans ((pk_un (by omega)).trans ((pk_un (by omega)).trans ((pk_un (by omega)).trans (pk_un (by omega)))))
    have b0 : m_r A nr 0 = nI xj := by rw [← hA]; exact (mr_un (by omega)).trans ((mr_un (by omega)).trans ((mr_un (by omega)).trans ((mr_un (by omega)).trans pk_us)))
    have b1 : m_r A nr 1 = nI yj := by rw [← hA]; exact (mr_un (by omega)).trans ((mr_un (by omega)).trans ((mr_un (by omega)).trans pk_us))
    have b2 : m_r A nr 2 = nI (ck + wj) := by rw [← hA]; exact (mr_un (by omega)).trans ((mr_un (by omega)).trans (pk_us.trans (nI_add _ _)))
    have b3 : m_r A nr 3 = nI 0 := by rw [← hA]; exact (mr_un (by omega)).trans pk_us
    have a2 : A 2 = nI (nr + 1) := by rw [← hA]; exact pk_us.trans (nI_add _ _)
    refine ⟨(clr_lo (by omega) (by omega)).trans ((o 1 (by omega) (by omega)).trans h1), h2, (clr_lo (by omega) (by omega)).trans a2, by omega, by rw [m_clr_at, if_pos rfl], by omega, fun z => by omega, (clr_lo (by omega) (by omega)).trans ((o 0 (by omega) (by omega)).trans h8), h9, h10.ag (fun i _ _ => (clr_lo (by omega) (by omega)).trans (o i (by omega) (by omega))), fun b hb => ?_, fun r hr => ?_, fun r b w hr hb hb2 hw => ?_, fun p hp => absurd hp (by omega)⟩
    · obtain ⟨v, hv, hv2⟩ := h11 b (by omega)
      exact ⟨v, (clr_lo (by omega) (by omega)).trans ((o _ (by omega) (by omega)).trans hv), hv2⟩
    · by_cases q : r = nr
      · subst q
        exact ⟨xj, yj, ck + wj, 0, (clr_r (by omega) (by omega)).trans b0, x1, x2, (clr_r (by omega) (by omega)).trans b1, y1, y2, (clr_r (by omega) (by omega)).trans b2, by omega, (clr_r (by omega) (by omega)).trans b3, by omega, fun z => by omega, fun b hb => BV0 (fun w hw => by rw [clr_e (by omega) hw, if_pos rfl])⟩
      · obtain ⟨bu, la, st, cl, r1, r2, r3, r4, r5, r6, r7, r8, r9, r10, r11, r12⟩ := h12 r (by omega)
        have rr : ∀ w, w < 4 → m_r (m_clr A nr) r w = m_r a r w := fun w hw => (clr_r (by omega) hw).trans (o _ (by omega) (by omega))
        refine ⟨bu, la, st, cl, (rr 0 (by omega)).trans r1, r2, r3, (rr 1 (by omega)).trans r4, r5, r6, (rr 2 (by omega)).trans r7, by omega, (rr 3 (by omega)).trans r9, r10, fun _ => ?_, fun b hb => (((r12 b hb).mono (Nat.le_succ _)).ag (fun w hw => by rw [clr_e (by omega) hw, if_neg q]; exact o _ (by omega) (by omega))).cl (fun z => by omega)⟩
        by_cases q2 : r + 1 < nr
        · exact r11 q2
        · have : r = nr - 1 := by omega
          subst this
          have : ¬ cl = 0 := fun z => hp ⟨by omega, by rw [r9, z]; rfl⟩
          omega
    · rw [clr_e hb2 hw]
      by_cases q : r = nr
      · rw [if_pos q]; rfl
      · rw [if_neg q]; exact (o _ (by omega) (by omega)).trans (h13 r b w hr hb hb2 hw)
end Acts3
