section Acts
variable {c : Nat} {g : Nat → Int32} {t : Nat → Nat → Int32} {a h sn tx k : Nat → Int32} {nb nr np ck kp : Nat}
theorem e_err {e : Int32} {R : C3} {M : M6} (he : e < 0) (hR : R = (e, g, t)) (hM : M = (e, a, h, sn, tx, k)) : StOK c g t a h sn tx k kp R M := by
  subst hR; subst hM
  exact Or.inl ⟨he, rfl, rfl⟩
/-- the boats with a value in a column -/
theorem cnt_fin (hE : EQ g t a nr) {r : Nat} (hr : r < 6) : ∀ i, i ≤ 9 → ∃ n, n ≤ i ∧ c_cnt t (nI r) (nI 0) (nI 3) i = nI n ∧ m_fin a r i = nI n := by
  intro i
  induction i with
  | zero => intro _; exact ⟨0, Nat.le_refl _, rfl, rfl⟩
  | succ i ih =>
    intro hi
    obtain ⟨n, h1, h2, h3⟩ := ih (by omega)
    have e := hE.cent (r := r) (b := i) (w := 0) hr (by omega) (by omega)
    by_cases q : m_e a r i 0 = nI 3
    · refine ⟨n + 1, by omega, ?_, ?_⟩
      · rw [c_cnt, e, if_pos q, h2]; exact nI_add n 1
      · rw [m_fin, if_pos q, h3]; exact nI_add n 1
    · refine ⟨n, by omega, ?_, ?_⟩
      · rw [c_cnt, e, if_neg q, h2]
      · rw [m_fin, if_neg q, h3]; exact nI_add n 0
theorem cnt_out (hE : EQ g t a nr) {r : Nat} (hr : r < 6) : ∀ i, i ≤ 9 → (∀ b, b < i → ∃ ou, m_e a r b 4 = nI ou ∧ ou ≤ 1) → ∃ n, n ≤ i ∧ c_cnt t (nI r) (nI 4) (nI 1) i = nI n ∧ m_out a r i = nI n := by
  intro i
  induction i with
  | zero => intro _ _; exact ⟨0, Nat.le_refl _, rfl, rfl⟩
  | succ i ih =>
    intro hi ho
    obtain ⟨n, h1, h2, h3⟩ := ih (by omega) (fun b hb => ho b (by omega))
    have e := hE.cent (r := r) (b := i) (w := 4) hr (by omega) (by omega)
    obtain ⟨ou, o1, o2⟩ := ho i (by omega)
    rcases (show ou = 0 ∨ ou = 1 by omega) with rfl | rfl
    · refine ⟨n, by omega, ?_, ?_⟩
      · rw [c_cnt, e, o1, if_neg (by decide), h2]
      · rw [m_out, o1, h3]; exact nI_add n 0
    · refine ⟨n + 1, by omega, ?_, ?_⟩
      · rw [c_cnt, e, o1, if_pos rfl, h2]; exact nI_add n 1
      · rw [m_out, o1, h3]; exact nI_add n 1
theorem IV.outs (hV : IV c a nb nr np ck) {r : Nat} (hr : r < nr) : ∀ b, b < nb → ∃ ou, m_e a r b 4 = nI ou ∧ ou ≤ 1 := fun b hb => by
  obtain ⟨bu, la, st, cl, g1, g2, g3, g4, g5, g6, g7, g8, g9, g10, g11, g12⟩ := hV.2.2.2.2.2.2.2.2.2.2.2.1 r hr
  obtain ⟨s, ro, pe, ou, fi, k1, k2, k3, k4, k5, k6, k7, k8, k9⟩ := g12 b hb
  exact ⟨ou, k7, k8⟩
theorem st_enter (hV : IV c a nb nr np ck) (hE : EQ g t a nr) (x : Int32) : StOK c g t a h sn tx k kp (s_X0_enterBoat g t x) (s_X8_enter a h sn tx k x nb kp) := by
  obtain ⟨h1, h2, h3, h4, h5, h6, h7, h8, h9, h10, h11, h12, h13, h14⟩ := id hV
  have hg1 : g 1 = nI nb := hE.2.1.trans h1
  have hg2 : g 2 = nI nr := hE.2.2.1.trans h3
  by_cases c1 : x < nI 50
  · exact e_err (e := (-2)) (by decide) (if_pos c1) (if_neg (fun z => z.1 c1))
  by_cases c2 : ¬ x ≤ nI 150
  · exact e_err (e := (-2)) (by decide) ((if_neg c1).trans (if_neg c2)) (if_neg (fun z => z.2 (nle_lt c2)))
  have c2 : x ≤ nI 150 := Decidable.of_not_not c2
  have cM : ¬ x < nI 50 ∧ ¬ nI 150 < x := ⟨c1, le_nlt c2⟩
  by_cases c3 : nr = 0
  · subst c3
    have d3 : nI 0 ≤ 0 := by decide
    have e3 : a 2 ≤ 0 := by rw [h3]; exact d3
    have f3 : g 2 ≤ 0 := by rw [hg2]; exact d3
    by_cases c4 : nb = 9
    · refine e_err (e := (-3)) (by decide) ?_ ?_
      · unfold s_X0_enterBoat
        rw [if_neg c1, if_pos c2, if_pos f3, hg1, if_neg (nI_nlt (by omega) (by omega))]
      · unfold s_X8_enter
        rw [if_pos cM, if_pos e3, if_pos (by rw [h1, c4])]
    · obtain ⟨j, hj, rfl⟩ := nI_of (x := x) (fun q => c1 (Int32.lt_of_lt_of_le q (by decide)))
      have hj1 : 50 ≤ j := Nat.le_of_not_lt fun q => c1 (nI_lt q (by omega))
      have hj2 : j ≤ 150 := (nI_leI (by omega) (by omega)).mp c2
      have hnp : np = 0 := Nat.eq_zero_of_not_pos fun q => absurd (h7 q) (by omega)
      subst hnp
      have E1 := (hE.rtp (i := nb) (v := nI j) h4 (by omega)).gboat (v := nI nb + nI 1)
      have eR : s_X0_enterBoat g t (nI j) = (nI nb, va_up g 1 (nI nb + nI 1), va_up t 0 (tp 1 9 (t 0) (nI nb) (nI 0) (nI j))) := by
        unfold s_X0_enterBoat
        rw [if_neg c1, if_pos c2, if_pos f3, hg1, if_pos (nI_lt (by omega) (by omega))]
      rw [eR]
      refine Or.inr ⟨nI_nn (by omega), upd (upd a (7 + nb) (nI j)) 1 (nI nb + nI 1), ?_, nb + 1, 0, 0, ck, ?_, E1⟩
      · unfold s_X8_enter
        have e1 : upd a (7 + nb) (nI j) 1 = nI nb := (pk_un (by omega)).trans h1
        rw [if_pos cM, if_pos e3, if_neg (fun z => c4 ((nI_eq (by omega) (by omega)).mp (h1.symm.trans z))), e1, pk_us, nI_add, pk_sub (by omega)]
        rfl
      · refine ⟨pk_us.trans (nI_add _ _), by omega, (pk_un (by omega)).trans ((pk_un (by omega)).trans h3), h4, (pk_un (by omega)).trans ((pk_un (by omega)).trans h5), h6, h7, (pk_un (by omega)).trans ((pk_un (by omega)).trans h8), h9, h10.ag (fun i _ _ => (pk_un (by omega)).trans (pk_un (by omega))), fun b hb => ?_, fun r hr => absurd hr (by omega), fun r b w hr hb hb2 hw => (pk_un (by omega)).trans ((pk_un (by omega)).trans (h13 r b w hr (by omega) hb2 hw)), fun p hp => absurd hp (by omega)⟩
        by_cases q : b = nb
        · subst q; exact ⟨j, (pk_un (by omega)).trans pk_us, hj1, hj2⟩
        · obtain ⟨v, hv, hv2⟩ := h11 b (by omega)
          exact ⟨v, (pk_un (by omega)).trans ((pk_un (by omega)).trans hv), hv2⟩
  · have d3 : ¬ nI nr ≤ 0 := nI_ge (a := 0) (by omega) (by omega)
    have e3 : ¬ a 2 ≤ 0 := by rw [h3]; exact d3
    have f3 : ¬ g 2 ≤ 0 := by rw [hg2]; exact d3
    exact e_err (e := (-4)) (by decide) ((if_neg c1).trans ((if_pos c2).trans (if_neg f3))) ((if_pos cM).trans (if_neg e3))
theorem st_close (hc : c ≤ 512) (hV : IV c a nb nr np ck) (hE : EQ g t a nr) : StOK c g t a h sn tx k kp (s_X0_closeRace g t nb) (s_X8_close a h sn tx k nb nr kp) := by
  obtain ⟨h1, h2, h3, h4, h5, h6, h7, h8, h9, h10, h11, h12, h13, h14⟩ := id hV
  by_cases hp : 0 < nr ∧ m_r a (nr - 1) 3 = 0
  · have hg3 := (prep_iff hV hE).mpr hp
    have hn := hp.1
    obtain ⟨bu, la, st, cl, r1, r2, r3, r4, r5, r6, r7, r8, r9, r10, r11, r12⟩ := h12 (nr - 1) (by omega)
    have es : c_start g t = nI st := (hE.sta h3 h4 hn).trans r7
    have ea0 : g 0 = nI ck := hE.1.trans h8
    by_cases q : ck < st
    · refine e_err (e := (-4)) (by decide) ?_ ?_
      · unfold s_X0_closeRace
        rw [if_pos hg3, es, ea0, if_neg (fun z => z (nI_lt q (by omega)))]
      · unfold s_X8_close
        rw [if_pos hp, r7, h8, if_neg (nI_ge q (by omega))]
    · have E1 := hE.gcls h4 hn
      have e2 : va_up g 3 (nI 2) 2 - nI 1 = nI (nr - 1) := hE.g2 h3 hn
      obtain ⟨n, n1, n2, n3⟩ := cnt_fin E1 (r := nr - 1) (by omega) nb h2
      have eR : s_X0_closeRace g t nb = (nI n, va_up g 3 (nI 2), t) := by
        unfold s_X0_closeRace
        rw [if_pos hg3, es, ea0, if_pos (nI_nlt (by omega) (by omega)), e2, n2]
      rw [eR]
      refine Or.inr ⟨nI_nn (by omega), upd a (16 + 4 * (nr - 1) + 3) (nI 1), ?_, nb, nr, np, ck, ?_, E1⟩
      · unfold s_X8_close
        rw [if_pos hp, r7, h8, if_pos (nI_le (by omega) (by omega)), n3]
      · refine ⟨(pk_un (by omega)).trans h1, h2, (pk_un (by omega)).trans h3, h4, (pk_un (by omega)).trans h5, h6, h7, (pk_un (by omega)).trans h8, h9, h10.ag (fun i _ _ => pk_un (by omega)), fun b hb => ?_, fun r hr => ?_, fun r b w hr hb hb2 hw => (pk_un (by omega)).trans (h13 r b w hr hb hb2 hw), fun p hp => (h14 p hp).ag (fun w hw => mp_un (by omega))⟩
        · obtain ⟨v, hv, hv2⟩ := h11 b (by omega)
          exact ⟨v, (pk_un (by omega)).trans hv, hv2⟩
        · by_cases w : r = nr - 1
          · subst w
            exact ⟨bu, la, st, 1, (mr_un (by omega)).trans r1, r2, r3, (mr_un (by omega)).trans r4, r5, r6, (mr_un (by omega)).trans r7, by omega, pk_us, by omega, fun _ => rfl, fun b hb => ((r12 b hb).mono (Nat.le_succ _)).ag (fun w hw => pk_un (by omega))⟩
          · exact ((h12 r hr).mono (Nat.le_succ _)).ag (by omega) h2 (fun w1 hw1 => mr_un (by omega)) (fun b1 w1 hb1 hw1 => pk_un (by omega))
  · have hg3 : ¬ g 3 = nI 1 := fun z => hp ((prep_iff hV hE).mp z)
    exact e_err (e := (-4)) (by decide) (if_neg hg3) (if_neg hp)
theorem st_postpone (hc : c ≤ 512) (hV : IV c a nb nr np ck) (hE : EQ g t a nr) (x : Int32) : StOK c g t a h sn tx k kp (s_X0_postponeStart g t x) (s_X8_postpone a h sn tx k x nr kp) := by
  obtain ⟨h1, h2, h3, h4, h5, h6, h7, h8, h9, h10, h11, h12, h13, h14⟩ := id hV
  by_cases c1 : x < nI 1
  · exact e_err (e := (-2)) (by decide) (if_pos c1) (if_neg (fun z => z.1 c1))
  by_cases c2 : ¬ x ≤ nI 3600
  · exact e_err (e := (-2)) (by decide) ((if_neg c1).trans (if_neg c2)) (if_neg (fun z => z.2 (nle_lt c2)))
  have c2 : x ≤ nI 3600 := Decidable.of_not_not c2
  have cM : ¬ x < nI 1 ∧ ¬ nI 3600 < x := ⟨c1, le_nlt c2⟩
  by_cases hp : 0 < nr ∧ m_r a (nr - 1) 3 = 0
  · have hg3 := (prep_iff hV hE).mpr hp
    have hn := hp.1
    obtain ⟨bu, la, st, cl, r1, r2, r3, r4, r5, r6, r7, r8, r9, r10, r11, r12⟩ := h12 (nr - 1) (by omega)
    have es : c_start g t = nI st := (hE.sta h3 h4 hn).trans r7
    have ea0 : g 0 = nI ck := hE.1.trans h8
    by_cases q : ck < st
    · obtain ⟨j, hj, rfl⟩ := nI_of (x := x) (fun q => c1 (Int32.lt_of_lt_of_le q (by decide)))
      have hj2 : j ≤ 3600 := (nI_leI (by omega) (by omega)).mp c2
      have el : tg 3 18 (t 2) (g 2 - nI 1) (nI 2) = nI st := (hE.crl h3 h4 hn (by omega)).trans r7
      have E1 := hE.crp (r := nr - 1) (w := 2) (v := nI st + nI j) h4 (by omega) (by omega)
      have e2 : g 2 - nI 1 = nI (nr - 1) := hE.g2 h3 hn
      have es2 : c_start g (va_up t 2 (tp 3 18 (t 2) (nI (nr - 1)) (nI 2) (nI st + nI j))) = nI (st + j) := (E1.sta ((pk_un (by omega)).trans h3) h4 hn).trans (pk_us.trans (nI_add _ _))
      have eR : s_X0_postponeStart g t (nI j) = (nI (st + j), g, va_up t 2 (tp 3 18 (t 2) (nI (nr - 1)) (nI 2) (nI st + nI j))) := by
        unfold s_X0_postponeStart
        rw [if_neg c1, if_pos c2, if_pos hg3, es, ea0, if_neg (fun z => z (nI_lt q (by omega))), el, e2, es2]
      rw [eR]
      refine Or.inr ⟨nI_nn (by omega), upd a (16 + 4 * (nr - 1) + 2) (nI st + nI j), ?_, nb, nr, np, ck, ?_, E1⟩
      · unfold s_X8_postpone
        have e7 : a (16 + 4 * (nr - 1) + 2) = nI st := r7
        rw [if_pos cM, if_pos hp, r7, h8, if_pos (nI_lt q (by omega)), e7]
        refine Prod.ext ?_ rfl
        exact pk_us.trans (nI_add _ _)
      · refine ⟨(pk_un (by omega)).trans h1, h2, (pk_un (by omega)).trans h3, h4, (pk_un (by omega)).trans h5, h6, h7, (pk_un (by omega)).trans h8, h9, h10.ag (fun i _ _ => pk_un (by omega)), fun b hb => ?_, fun r hr => ?_, fun r b w hr hb hb2 hw => (pk_un (by omega)).trans (h13 r b w hr hb hb2 hw), fun p hp => (h14 p hp).ag (fun w hw => mp_un (by omega))⟩
        · obtain ⟨v, hv, hv2⟩ := h11 b (by omega)
          exact ⟨v, (pk_un (by omega)).trans hv, hv2⟩
        · by_cases w : r = nr - 1
          · subst w
            refine ⟨bu, la, st + j, cl, (mr_un (by omega)).trans r1, r2, r3, (mr_un (by omega)).trans r4, r5, r6, pk_us.trans (nI_add _ _), by omega, (mr_un (by omega)).trans r9, r10, r11, fun b hb => ?_⟩
            obtain ⟨s, ro, pe, ou, fi, k1, k2, k3, k4, k5, k6, k7, k8, k9, k10, k11, k13, k12⟩ := ((r12 b hb).mono (Nat.le_succ _)).ag (a' := upd a (16 + 4 * (nr - 1) + 2) (nI st + nI j)) (fun w hw => pk_un (by omega))
            have k14 := k12 (by omega)
            exact ⟨s, ro, pe, ou, fi, k1, k2, k3, k4, k5, k6, k7, k8, k9, k10, fun z => by have := k14 (Or.inr z); omega, k13, fun _ z => by have := k14 z; omega⟩
          · exact ((h12 r hr).mono (Nat.le_succ _)).ag (by omega) h2 (fun w1 hw1 => mr_un (by omega)) (fun b1 w1 hb1 hw1 => pk_un (by omega))
    · refine e_err (e := (-4)) (by decide) ?_ ?_
      · unfold s_X0_postponeStart
        rw [if_neg c1, if_pos c2, if_pos hg3, es, ea0, if_pos (nI_nlt (by omega) (by omega))]
      · unfold s_X8_postpone
        rw [if_pos cM, if_pos hp, r7, h8, if_neg (nI_nlt (by omega) (by omega))]
  · have hg3 : ¬ g 3 = nI 1 := fun z => hp ((prep_iff hV hE).mp z)
    exact e_err (e := (-4)) (by decide) ((if_neg c1).trans ((if_pos c2).trans (if_neg hg3))) ((if_pos cM).trans (if_neg hp))
end Acts
