section Ev2
variable {c : Nat} {g : Nat → Int32} {t : Nat → Nat → Int32} {a : Nat → Int32} {nb nr np ck : Nat}
theorem ev_retire (hc : c ≤ 512) (hV : IV c a nb nr np ck) (hE : EQ g t a nr) (x : Int32) : EvOK c g t nb nr (s_X0_retireBoat g t x) (s_X8_retireError a x nr) (fun h sn tx k => s_X8_doRetire a h sn tx k x.toNatClampNeg nr) := by
  obtain ⟨h1, h2, h3, h4, h5, h6, h7, h8, h9, h10, h11, h12, h13, h14⟩ := id hV
  have hg1 : g 1 = nI nb := hE.2.1.trans h1
  rcases inN x (n := nb) (by omega) with ⟨b, hb, rfl, ec, cC, cM⟩ | ⟨cC, cM⟩
  · rw [← hg1] at cC; rw [← h1] at cM
    rw [ec]
    by_cases hp : 0 < nr ∧ m_r a (nr - 1) 3 = 0
    · have hg3 := (prep_iff hV hE).mpr hp
      have hn := hp.1
      obtain ⟨bu, la, st, r1, r2, r3, r4, r5, r6, r7, r8, hB⟩ := hV.lat hn hb
      obtain ⟨s, ro, pe, ou, fi, k1, k2, k3, k4, k5, k6, k7, k8, k9, k10, k11, k13, k12⟩ := hB
      have e0 : c_lat g t (nI b) (nI 0) = nI s := (hE.lat h3 h4 hn (by omega) (by omega)).trans k1
      have eE : s_X8_retireError a (nI b) nr = if nI 3 ≤ nI s then (-4) else nI 0 := by
        unfold s_X8_retireError
        rw [if_pos cM, if_pos hp, ec, k1]
      have eR : s_X0_retireBoat g t (nI b) = if nI s = nI 3 then ((-4), g, t) else if nI s = nI 4 then ((-4), g, t) else (nI s, g, c_pl g t (nI b) (nI 0) (nI 4)) := by
        unfold s_X0_retireBoat
        rw [if_pos cC, if_pos hg3, e0]
      rw [eE, eR]
      by_cases q : 3 ≤ s
      · rw [if_pos (nI_le q (by omega))]
        refine Or.inl ⟨by decide, ?_⟩
        rcases (show s = 3 ∨ s = 4 by omega) with rfl | rfl
        · rfl
        · rfl
      · have n3 : ¬ nI s = nI 3 := fun z => by have := (nI_eq (by omega) (by omega)).mp z; omega
        have n4 : ¬ nI s = nI 4 := fun z => by have := (nI_eq (by omega) (by omega)).mp z; omega
        rw [if_neg (nI_ge (by omega) (by omega)), if_neg n3, if_neg n4]
        refine Or.inr ⟨rfl, nI_nn (by omega), ly a (nr - 1) b 0 (nI 4), np, ck, fun h sn tx k => ?_, iv_status hV hn hb (by omega) (by omega) (fun z => by omega) ⟨s, k1, k2, by omega⟩, hE.put h3 h4 hn (by omega) (by omega)⟩
        show s_X8_doRetire a h sn tx k b nr = _
        unfold s_X8_doRetire
        rw [k1]
    · have hg3 : ¬ g 3 = nI 1 := fun z => hp ((prep_iff hV hE).mp z)
      have eE : s_X8_retireError a (nI b) nr = (-4) := by
        unfold s_X8_retireError
        rw [if_pos cM, if_neg hp]
      rw [eE]
      refine Or.inl ⟨by decide, ?_⟩
      unfold s_X0_retireBoat
      rw [if_pos cC, if_neg hg3]
  · rw [← hg1] at cC; rw [← h1] at cM
    have eE : s_X8_retireError a x nr = (-1) := if_neg cM
    rw [eE]
    exact Or.inl ⟨by decide, if_neg cC⟩
/-- the roundings or the mistakes of a boat change -/
theorem iv_count1 (hV : IV c a nb nr np ck) (hn : 0 < nr) {b ro2 bu2 la2 : Nat} {v : Int32} (hb : b < nb) (q1 : m_r a (nr - 1) 0 = nI bu2) (q2 : m_r a (nr - 1) 1 = nI la2) (q3 : bu2 ≤ 5) (q4 : la2 ≤ 3) (q5 : v = nI ro2) (q6 : ro2 ≤ bu2 * la2) : IV c (ly a (nr - 1) b 1 v) nb nr np ck := by
  have hV0 := hV
  obtain ⟨_, h2, _, h4, _⟩ := hV0
  refine IV_ent (Nat.le_refl _) hV hn hb (fun i hi => ly_lo hi) (fun r b1 w1 hr hb1 hw1 q => mE_o (by omega) (by omega) hb1 hw1 (by omega)) (fun all st bu la g1 g0 g2 g3 g4 g5 g6 hB => ?_)
  obtain ⟨s, ro, pe, ou, fi, k1, k2, k3, k4, k5, k6, k7, k8, k9, k10, k11, k13, k12⟩ := hB
  have o2 : ∀ w1, w1 < 6 → w1 ≠ 1 → m_e (ly a (nr - 1) b 1 v) (nr - 1) b w1 = m_e a (nr - 1) b w1 := fun w1 h1 h2 => mE_o (by omega) (by omega) (by omega) h1 (by omega)
  have e1 : bu2 = bu := (nI_eq (by omega) (by omega)).mp (q1.symm.trans g2)
  have e2 : la2 = la := (nI_eq (by omega) (by omega)).mp (q2.symm.trans g3)
  subst e1; subst e2
  exact ⟨s, ro2, pe, ou, fi, (o2 0 (by omega) (by omega)).trans k1, k2, mE_s.trans q5, by rw [g6]; exact q6, (o2 3 (by omega) (by omega)).trans k5, k6, (o2 4 (by omega) (by omega)).trans k7, k8, (o2 5 (by omega) (by omega)).trans k9, k10, k11, k13, k12⟩
theorem iv_count2 (hV : IV c a nb nr np ck) (hn : 0 < nr) {b : Nat} {v : Int32} (hb : b < nb) : IV c (ly a (nr - 1) b 2 v) nb nr np ck := by
  have hV0 := hV
  obtain ⟨_, h2, _, h4, _⟩ := hV0
  refine IV_ent (Nat.le_refl _) hV hn hb (fun i hi => ly_lo hi) (fun r b1 w1 hr hb1 hw1 q => mE_o (by omega) (by omega) hb1 hw1 (by omega)) (fun all st bu la g1 g0 g2 g3 g4 g5 g6 hB => ?_)
  obtain ⟨s, ro, pe, ou, fi, k1, k2, k3, k4, k5, k6, k7, k8, k9, k10, k11, k13, k12⟩ := hB
  have o2 : ∀ w1, w1 < 6 → w1 ≠ 2 → m_e (ly a (nr - 1) b 2 v) (nr - 1) b w1 = m_e a (nr - 1) b w1 := fun w1 h1 h2 => mE_o (by omega) (by omega) (by omega) h1 (by omega)
  exact ⟨s, ro, pe, ou, fi, (o2 0 (by omega) (by omega)).trans k1, k2, (o2 1 (by omega) (by omega)).trans k3, k4, (o2 3 (by omega) (by omega)).trans k5, k6, (o2 4 (by omega) (by omega)).trans k7, k8, (o2 5 (by omega) (by omega)).trans k9, k10, k11, k13, k12⟩
theorem ev_buoy (hc : c ≤ 512) (hV : IV c a nb nr np ck) (hE : EQ g t a nr) (x y : Int32) : EvOK c g t nb nr (s_X0_passBuoy g t x y) (s_X8_buoyError a x y nr) (fun h sn tx k => s_X8_doBuoy a h sn tx k x.toNatClampNeg y nr) := by
  obtain ⟨h1, h2, h3, h4, h5, h6, h7, h8, h9, h10, h11, h12, h13, h14⟩ := id hV
  have hg1 : g 1 = nI nb := hE.2.1.trans h1
  rcases inN x (n := nb) (by omega) with ⟨b, hb, rfl, ec, cC, cM⟩ | ⟨cC, cM⟩
  · rw [← hg1] at cC; rw [← h1] at cM
    rw [ec]
    by_cases hp : 0 < nr ∧ m_r a (nr - 1) 3 = 0
    · have hg3 := (prep_iff hV hE).mpr hp
      have hn := hp.1
      obtain ⟨bu, la, st, r1, r2, r3, r4, r5, r6, r7, r8, hB⟩ := hV.lat hn hb
      obtain ⟨s, ro, pe, ou, fi, k1, k2, k3, k4, k5, k6, k7, k8, k9, k10, k11, k13, k12⟩ := hB
      have e0 : c_lat g t (nI b) (nI 0) = nI s := (hE.lat h3 h4 hn (by omega) (by omega)).trans k1
      have e1 : c_lat g t (nI b) (nI 1) = nI ro := (hE.lat h3 h4 hn (by omega) (by omega)).trans k3
      have e2 : c_lat g t (nI b) (nI 2) = m_e a (nr - 1) b 2 := hE.lat h3 h4 hn (by omega) (by omega)
      have eb : tg 3 18 (t 2) (g 2 - nI 1) (nI 0) = nI bu := (hE.crl h3 h4 hn (by omega)).trans r1
      have el : tg 3 18 (t 2) (g 2 - nI 1) (nI 1) = nI la := (hE.crl h3 h4 hn (by omega)).trans r4
      have hbl : bu * la ≤ 5 * 3 := Nat.mul_le_mul r3 r6
      have eAll : s_X0_hasAllRoundings g t (nI b) = if ro < bu * la then nI 0 else nI 1 := by
        unfold s_X0_hasAllRoundings
        rw [e1, eb, el, pk_mul]
        by_cases q : ro < bu * la
        · rw [if_pos (nI_lt q (by omega)), if_pos q]
        · rw [if_neg (nI_nlt (by omega) (by omega)), if_neg q]
      have hP : ∀ w v, w = 1 ∨ w = 2 → EQ g (c_pl g t (nI b) (nI w) v) (ly a (nr - 1) b w v) nr := fun w v q => hE.put h3 h4 hn (by omega) (by omega)
      have er1 : c_lat g (c_pl g t (nI b) (nI 1) (nI ro + nI 1)) (nI b) (nI 1) = nI ro + nI 1 := ((hP 1 _ (Or.inl rfl)).lat ((ly_lo (by omega)).trans h3) h4 hn (by omega) (by omega)).trans mE_s
      have er2 : ∀ v, c_lat g (c_pl g t (nI b) (nI 2) v) (nI b) (nI 1) = nI ro := fun v => ((hP 2 _ (Or.inr rfl)).lat ((ly_lo (by omega)).trans h3) h4 hn (by omega) (by omega)).trans ((mE_o (by omega) (by omega) (by omega) (by omega) (by omega)).trans k3)
      rcases inN y (n := bu) (by omega) with ⟨yb, hyb, rfl, ey, dC, dM⟩ | ⟨dC, dM⟩
      · have eE : s_X8_buoyError a (nI b) (nI yb) nr = if nI s = nI 2 then nI 0 else (-4) := by
          unfold s_X8_buoyError
          rw [if_pos cM, if_pos hp, r1, if_pos dM, ec, k1]
        have n0 : ¬ nI bu ≤ 0 := fun z => absurd ((nI_leI (a := bu) (b := 0) (by omega) (by omega)).mp z) (by omega)
        have eR : s_X0_passBuoy g t (nI b) (nI yb) = if nI s = nI 2 then (if nI yb = nI ro - nI ro / nI bu * nI bu then (if s_X0_hasAllRoundings g t (nI b) = 0 then (nI ro + nI 1, g, c_pl g t (nI b) (nI 1) (nI ro + nI 1)) else (nI ro, g, c_pl g t (nI b) (nI 2) (m_e a (nr - 1) b 2 + nI 1))) else (nI ro, g, c_pl g t (nI b) (nI 2) (m_e a (nr - 1) b 2 + nI 1))) else ((-4), g, t) := by
          unfold s_X0_passBuoy
          rw [if_pos cC, if_pos hg3, if_neg dC.1, eb, if_pos (nle_lt dC.2), e0, e1, e2, er1, er2, if_neg n0]
        rw [eE, eR]
        by_cases q : s = 2
        · subst q
          rw [if_pos (rfl : nI 2 = nI 2), if_pos (rfl : nI 2 = nI 2)]
          refine Or.inr ⟨rfl, ?_⟩
          have eDo : ∀ h sn tx k, s_X8_doBuoy a h sn tx k b (nI yb) nr = if nI ro = nI bu * nI la then (nI ro, ly a (nr - 1) b 2 (m_e a (nr - 1) b 2 + nI 1), h, sn, tx, k) else if nI ro - nI ro / nI bu * nI bu = nI yb then (nI ro + nI 1, ly a (nr - 1) b 1 (nI ro + nI 1), h, sn, tx, k) else (nI ro, ly a (nr - 1) b 2 (m_e a (nr - 1) b 2 + nI 1), h, sn, tx, k) := fun h sn tx k => by
            unfold s_X8_doBuoy
            rw [k3, r1, r4]
          rw [eAll]
          by_cases q : ro < bu * la
          · have q2 : ¬ nI ro = nI bu * nI la := fun z => by rw [pk_mul] at z; have := (nI_eq (by omega) (by omega)).mp z; omega
            rw [if_pos q, if_pos (show (nI 0 : Int32) = 0 from rfl)]
            by_cases q3 : nI yb = nI ro - nI ro / nI bu * nI bu
            · rw [if_pos q3]
              refine ⟨by rw [nI_add]; exact nI_nn (by omega), ly a (nr - 1) b 1 (nI ro + nI 1), np, ck, fun h sn tx k => ?_, iv_count1 hV hn hb r1 r4 r3 r6 (nI_add ro 1) q, hP 1 _ (Or.inl rfl)⟩
              show s_X8_doBuoy a h sn tx k b (nI yb) nr = _
              rw [eDo, if_neg q2, if_pos q3.symm]
            · rw [if_neg q3]
              refine ⟨nI_nn (by omega), ly a (nr - 1) b 2 (m_e a (nr - 1) b 2 + nI 1), np, ck, fun h sn tx k => ?_, iv_count2 hV hn hb, hP 2 _ (Or.inr rfl)⟩
              show s_X8_doBuoy a h sn tx k b (nI yb) nr = _
              rw [eDo, if_neg q2, if_neg (fun z => q3 z.symm)]
          · have q2 : nI ro = nI bu * nI la := by rw [pk_mul]; exact congrArg nI (by omega)
            rw [if_neg q, if_neg (show ¬ nI 1 = 0 by decide)]
            have eI : (if nI yb = nI ro - nI ro / nI bu * nI bu then (nI ro, g, c_pl g t (nI b) (nI 2) (m_e a (nr - 1) b 2 + nI 1)) else (nI ro, g, c_pl g t (nI b) (nI 2) (m_e a (nr - 1) b 2 + nI 1))) = (nI ro, g, c_pl g t (nI b) (nI 2) (m_e a (nr - 1) b 2 + nI 1)) := by split <;> rfl
            rw [eI]
            refine ⟨nI_nn (by omega), ly a (nr - 1) b 2 (m_e a (nr - 1) b 2 + nI 1), np, ck, fun h sn tx k => ?_, iv_count2 hV hn hb, hP 2 _ (Or.inr rfl)⟩
            show s_X8_doBuoy a h sn tx k b (nI yb) nr = _
            rw [eDo, if_pos q2]
        · have q2 : ¬ nI s = nI 2 := fun z => q ((nI_eq (by omega) (by omega)).mp z)
          rw [if_neg q2, if_neg q2]
          exact Or.inl ⟨by decide, rfl⟩
      · have eE : s_X8_buoyError a (nI b) y nr = (-2) := by
          unfold s_X8_buoyError
          rw [if_pos cM, if_pos hp, r1, if_neg dM]
        rw [eE]
        refine Or.inl ⟨by decide, ?_⟩
        unfold s_X0_passBuoy
        rw [if_pos cC, if_pos hg3, eb]
        by_cases y0 : y < 0
        · rw [if_pos y0]
        · rw [if_neg y0, if_neg (fun z => dC ⟨y0, lt_nle z⟩)]
    · have hg3 : ¬ g 3 = nI 1 := fun z => hp ((prep_iff hV hE).mp z)
      have eE : s_X8_buoyError a (nI b) y nr = (-2) := by
        unfold s_X8_buoyError
        rw [if_pos cM, if_neg hp]
      rw [eE]
      refine Or.inl ⟨by decide, ?_⟩
      unfold s_X0_passBuoy
      rw [if_pos cC, if_neg hg3]
  · rw [← hg1] at cC; rw [← h1] at cM
    have eE : s_X8_buoyError a x y nr = (-1) := if_neg cM
    rw [eE]
    exact Or.inl ⟨by decide, if_neg cC⟩
end Ev2
