/-! the events: both sides answer alike, and their states go on side by side -/
abbrev M6 : Type := Int32 × (Nat → Int32) × (Nat → Int32) × (Nat → Int32) × (Nat → Int32) × (Nat → Int32)
abbrev C3 : Type := Int32 × (Nat → Int32) × (Nat → Nat → Int32)
def EvOK (c : Nat) (g : Nat → Int32) (t : Nat → Nat → Int32) (nb nr : Nat) (R : C3) (er : Int32) (D : (Nat → Int32) → (Nat → Int32) → (Nat → Int32) → (Nat → Int32) → M6) : Prop :=
  (er < 0 ∧ R = (er, g, t)) ∨ (er = nI 0 ∧ 0 ≤ R.1 ∧ ∃ a' np' ck', (∀ h sn tx k, D h sn tx k = (R.1, a', h, sn, tx, k)) ∧ IV c a' nb nr np' ck' ∧ EQ R.2.1 R.2.2 a' nr)
section Ev
variable {c : Nat} {g : Nat → Int32} {t : Nat → Nat → Int32} {a : Nat → Int32} {nb nr np ck : Nat}
theorem ev_pass (hV : IV c a nb nr np ck) (hE : EQ g t a nr) (x : Int32) : EvOK c g t nb nr (s_X0_passTime g t x) (s_X8_passError a x) (fun h sn tx k => s_X8_doPass a h sn tx k x) := by
  obtain ⟨h1, h2, h3, h4, h5, h6, h7, h8, h9, h10, h11, h12, h13, h14⟩ := id hV
  by_cases c1 : x < nI 1
  · have e : s_X8_passError a x = (-2) := if_neg (fun h => h.1 c1)
    rw [e]; exact Or.inl ⟨by decide, if_pos c1⟩
  · obtain ⟨j, hj, rfl⟩ := nI_of (x := x) (fun q => c1 (Int32.lt_of_lt_of_le q (by decide)))
    have hj1 : 1 ≤ j := Nat.le_of_not_lt fun q => c1 (nI_lt q (by omega))
    by_cases c2 : j ≤ 9999
    · have d2 : nI j ≤ nI 9999 := nI_le c2 (by omega)
      have eg : g 0 + nI j = nI (ck + j) := by rw [hE.1, h8, nI_add]
      have ea : a 0 + nI j = nI (ck + j) := by rw [h8, nI_add]
      by_cases c3 : ck + j ≤ 999999
      · have d3 : nI (ck + j) ≤ nI 999999 := nI_le c3 (by omega)
        have eC : s_X0_passTime g t (nI j) = (nI (ck + j), va_up g 0 (nI (ck + j)), t) := by
          unfold s_X0_passTime
          rw [if_neg c1, if_pos d2, eg, if_pos d3, up_a]
        have eM : s_X8_passError a (nI j) = nI 0 := by
          unfold s_X8_passError
          rw [if_pos ⟨c1, le_nlt d2⟩, ea, if_pos d3]
        rw [eC, eM]
        refine Or.inr ⟨rfl, nI_nn (by omega), upd a 0 (nI (ck + j)), np, ck + j, fun h sn tx k => ?_, ?_, hE.gclk⟩
        · unfold s_X8_doPass
          rw [ea, pk_us]
        · exact IV_lo (Nat.le_refl _) hV (by omega) c3 pk_us ((pk_un (by omega)).trans h5) h6 h7 (h10.ag (fun i _ _ => pk_un (by omega))) (fun i _ q _ _ _ => pk_un (by omega)) (fun p hp => (h14 p hp).ag (fun w hw => pk_un (by omega)))
      · have d3 : ¬ nI (ck + j) ≤ nI 999999 := nI_ge (by omega) (by omega)
        have eM : s_X8_passError a (nI j) = (-3) := by
          unfold s_X8_passError
          rw [if_pos ⟨c1, le_nlt d2⟩, ea, if_neg d3]
        rw [eM]
        refine Or.inl ⟨by decide, ?_⟩
        unfold s_X0_passTime
        rw [if_neg c1, if_pos d2, eg, if_neg d3]
    · have d2 : ¬ nI j ≤ nI 9999 := nI_ge (by omega) (by omega)
      have eM : s_X8_passError a (nI j) = (-2) := if_neg (fun h => h.2 (nle_lt d2))
      rw [eM]
      refine Or.inl ⟨by decide, ?_⟩
      unfold s_X0_passTime
      rw [if_neg c1, if_neg d2]
/-- the boat's own entry, where a race is prepared -/
theorem IV.lat (hV : IV c a nb nr np ck) (hn : 0 < nr) {b : Nat} (hb : b < nb) : ∃ bu la st, m_r a (nr - 1) 0 = nI bu ∧ 0 < bu ∧ bu ≤ 5 ∧ m_r a (nr - 1) 1 = nI la ∧ 0 < la ∧ la ≤ 3 ∧ m_r a (nr - 1) 2 = nI st ∧ st ≤ 1003600 + 3600 * c ∧ BV c a (nr - 1) b (bu * la) st True ck := by
  obtain ⟨bu, la, st, cl, g1, g2, g3, g4, g5, g6, g7, g8, g9, g10, g11, g12⟩ := hV.2.2.2.2.2.2.2.2.2.2.2.1 (nr - 1) (by omega)
  exact ⟨bu, la, st, g1, g2, g3, g4, g5, g6, g7, g8, (g12 b hb).cl (fun _ => by omega)⟩
theorem upd_self {f : Nat → Int32} {i : Nat} {v : Int32} (h : f i = v) : upd f i v = f := by
  funext j
  by_cases q : j = i
  · rw [q, pk_us, h]
  · rw [pk_un q]
theorem upd_comm {f : Nat → Int32} {i j : Nat} {v w : Int32} (h : i ≠ j) : upd (upd f i v) j w = upd (upd f j w) i v := by
  funext k
  by_cases q : k = i
  · rw [q, pk_un h, pk_us, pk_us]
  · by_cases q2 : k = j
    · rw [q2, pk_us, pk_un (fun z => h z.symm), pk_us]
    · rw [pk_un q2, pk_un q, pk_un q, pk_un q2]
/-- the status of a boat becomes s2, its finish stays -/
theorem iv_status (hV : IV c a nb nr np ck) (hn : 0 < nr) {b s2 : Nat} (hb : b < nb) (hs : s2 ≤ 4) (h3 : s2 ≠ 3) (hst : s2 = 2 → ∀ st, m_r a (nr - 1) 2 = nI st → st ≤ 1003600 + 3600 * c → st ≤ ck) (hf : ∃ s, m_e a (nr - 1) b 0 = nI s ∧ s ≤ 4 ∧ s ≠ 3) : IV c (ly a (nr - 1) b 0 (nI s2)) nb nr np ck := by
  have hV0 := hV
  obtain ⟨_, h2, _, h4, _⟩ := hV0
  refine IV_ent (Nat.le_refl _) hV hn hb (fun i hi => ly_lo hi) (fun r b1 w hr hb1 hw q => mE_o (by omega) (by omega) hb1 hw (by omega)) (fun all st bu la g1 g0 g2 g3 g4 g5 g6 hB => ?_)
  obtain ⟨s, ro, pe, ou, fi, k1, k2, k3, k4, k5, k6, k7, k8, k9, k10, k11, k13, k12⟩ := hB
  obtain ⟨s', e1, e2, e3⟩ := hf
  have hss : s = s' := (nI_eq (by omega) (by omega)).mp (k1.symm.trans e1)
  exact ⟨s2, ro, pe, ou, fi, mE_s, hs, (mE_o (by omega) (by omega) (by omega) (by omega) (by omega)).trans k3, k4, (mE_o (by omega) (by omega) (by omega) (by omega) (by omega)).trans k5, k6, (mE_o (by omega) (by omega) (by omega) (by omega) (by omega)).trans k7, k8, (mE_o (by omega) (by omega) (by omega) (by omega) (by omega)).trans k9, k10, fun q => absurd q h3, Or.inr (by omega), fun _ q => q.elim (fun q => hst q st g1 g0) (fun q => absurd q h3)⟩
/-- the boat finishes -/
theorem iv_finish (hV : IV c a nb nr np ck) (hn : 0 < nr) {b : Nat} (hb : b < nb) (h2s : m_e a (nr - 1) b 0 = nI 2) : IV c (ly (ly a (nr - 1) b 0 (nI 3)) (nr - 1) b 5 (nI ck)) nb nr np ck := by
  have hV0 := hV
  obtain ⟨_, h2, _, h4, _, _, _, _, h9, _⟩ := hV0
  refine IV_ent (Nat.le_refl _) hV hn hb (fun i hi => (ly_lo hi).trans (ly_lo hi)) (fun r b1 w hr hb1 hw q => (mE_o (by omega) (by omega) hb1 hw (by omega)).trans (mE_o (by omega) (by omega) hb1 hw (by omega))) (fun all st bu la g1 g0 g2 g3 g4 g5 g6 hB => ?_)
  obtain ⟨s, ro, pe, ou, fi, k1, k2, k3, k4, k5, k6, k7, k8, k9, k10, k11, k13, k12⟩ := hB
  have hss : s = 2 := (nI_eq (by omega) (by omega)).mp (k1.symm.trans h2s)
  have o2 : ∀ w, w < 6 → w ≠ 0 → w ≠ 5 → m_e (ly (ly a (nr - 1) b 0 (nI 3)) (nr - 1) b 5 (nI ck)) (nr - 1) b w = m_e a (nr - 1) b w := fun w hw q1 q2 => (mE_o (by omega) (by omega) (by omega) hw (by omega)).trans (mE_o (by omega) (by omega) (by omega) hw (by omega))
  exact ⟨3, ro, pe, ou, ck, (mE_o (by omega) (by omega) (by omega) (by omega) (by omega)).trans mE_s, by omega, (o2 1 (by omega) (by omega) (by omega)).trans k3, k4, (o2 3 (by omega) (by omega) (by omega)).trans k5, k6, (o2 4 (by omega) (by omega) (by omega)).trans k7, k8, mE_s, h9, fun _ => k12 trivial (Or.inl hss), Or.inl rfl, fun _ _ => k12 trivial (Or.inl hss)⟩
theorem ev_line (hc : c ≤ 512) (hV : IV c a nb nr np ck) (hE : EQ g t a nr) (x : Int32) : EvOK c g t nb nr (s_X0_crossLine g t x) (s_X8_lineError a x nr) (fun h sn tx k => s_X8_doLine a h sn tx k x.toNatClampNeg nr) := by
  obtain ⟨h1, h2, h3, h4, h5, h6, h7, h8, h9, h10, h11, h12, h13, h14⟩ := id hV
  have hg1 : g 1 = nI nb := hE.2.1.trans h1
  rcases inN x (n := nb) (by omega) with ⟨b, hb, rfl, ec, cC, cM⟩ | ⟨cC, cM⟩
  · rw [← hg1] at cC; rw [← h1] at cM
    rw [ec]
    by_cases hp : 0 < nr ∧ m_r a (nr - 1) 3 = 0
    · have hg3 := (prep_iff hV hE).mpr hp
      have hn := hp.1
      obtain ⟨bu, la, st, r1, r2, r3, r4, r5, r6, r7, r8, hB⟩ := hV.lat hn hb
      obtain ⟨s, ro, pe, ou, fi, k1, k2, k3, k4, k5, k6, k7, k8, k9, k10, k11, k13, k12⟩ := hB
      have e0 : c_lat g t (nI b) (nI 0) = nI s := (hE.lat h3 h4 hn (by omega) (by omega)).trans k1
      have e1 : c_lat g t (nI b) (nI 1) = nI ro := (hE.lat h3 h4 hn (by omega) (by omega)).trans k3
      have es : c_start g t = nI st := (hE.sta h3 h4 hn).trans r7
      have eb : tg 3 18 (t 2) (g 2 - nI 1) (nI 0) = nI bu := (hE.crl h3 h4 hn (by omega)).trans r1
      have el : tg 3 18 (t 2) (g 2 - nI 1) (nI 1) = nI la := (hE.crl h3 h4 hn (by omega)).trans r4
      have ea0 : g 0 = nI ck := hE.1.trans h8
      have hbl : bu * la ≤ 5 * 3 := Nat.mul_le_mul r3 r6
      have eAll : s_X0_hasAllRoundings g t (nI b) = if ro < bu * la then nI 0 else nI 1 := by
        unfold s_X0_hasAllRoundings
        rw [e1, eb, el, pk_mul]
        by_cases q : ro < bu * la
        · rw [if_pos (nI_lt q (by omega)), if_pos q]
        · rw [if_neg (nI_nlt (by omega) (by omega)), if_neg q]
      have eE : s_X8_lineError a (nI b) nr = if nI s < nI 2 then nI 0 else if nI s = nI 2 then (if nI ro = nI bu * nI la then nI 0 else (-4)) else (-4) := by
        unfold s_X8_lineError
        rw [if_pos cM, if_pos hp, ec, k1, k3, r1, r4]
      have eR : s_X0_crossLine g t (nI b) = if s_X0_kindAfterLine g t (nI b) = (-4) then ((-4), g, t) else if s_X0_kindAfterLine g t (nI b) = nI 3 then (s_X0_kindAfterLine g t (nI b), g, c_pl g (c_pl g t (nI b) (nI 5) (g 0)) (nI b) (nI 0) (s_X0_kindAfterLine g t (nI b))) else (s_X0_kindAfterLine g t (nI b), g, c_pl g t (nI b) (nI 0) (s_X0_kindAfterLine g t (nI b))) := by
        unfold s_X0_crossLine
        rw [if_pos cC, if_pos hg3]
      have eK : s_X0_kindAfterLine g t (nI b) = if nI s = 0 then (if ¬ nI ck < nI st then nI 2 else nI 1) else if nI s = 1 then (if ¬ nI ck < nI st then nI 2 else nI 0) else if nI s = 2 then (if s_X0_hasAllRoundings g t (nI b) = 0 then (-4) else nI 3) else (-4) := by
        unfold s_X0_kindAfterLine
        rw [e0, es, ea0]
      have eDo : ∀ h sn tx k, s_X8_doLine a h sn tx k b nr = if nI s = nI 2 then (nI 3, ly (ly a (nr - 1) b 0 (nI 3)) (nr - 1) b 5 (ly a (nr - 1) b 0 (nI 3) 0), h, sn, tx, k) else if nI ck < nI st then (if nI s = 0 then (nI 1, ly (ly a (nr - 1) b 0 (nI 1)) (nr - 1) b 5 (nI 0), h, sn, tx, k) else (nI 0, ly (ly a (nr - 1) b 0 (nI 0)) (nr - 1) b 5 (nI 0), h, sn, tx, k)) else (nI 2, ly (ly a (nr - 1) b 0 (nI 2)) (nr - 1) b 5 (nI 0), h, sn, tx, k) := fun h sn tx k => by
        unfold s_X8_doLine
        rw [k1, h8, r7]
      have hz : ∀ v, s ≠ 3 → ly (ly a (nr - 1) b 0 v) (nr - 1) b 5 (nI 0) = ly a (nr - 1) b 0 v := fun v q => upd_self ((mE_o (by omega) (by omega) (by omega) (by omega) (by omega)).trans (by rw [k9, show fi = 0 by omega]))
      have fin : ∀ s2, s2 ≤ 2 → s ≠ 3 → (s2 = 2 → st ≤ ck) → EQ g (c_pl g t (nI b) (nI 0) (nI s2)) (ly a (nr - 1) b 0 (nI s2)) nr ∧ IV c (ly a (nr - 1) b 0 (nI s2)) nb nr np ck := fun s2 q1 q2 q3 => ⟨hE.put h3 h4 hn (by omega) (by omega), iv_status hV hn hb (by omega) (by omega) (fun q st' w1 w2 => by
        have : st' = st := (nI_eq (by omega) (by omega)).mp (w1.symm.trans r7)
        rw [this]; exact q3 q) ⟨s, k1, k2, q2⟩⟩
      rw [eE, eR, eK]
      rcases (show s = 0 ∨ s = 1 ∨ s = 2 ∨ s = 3 ∨ s = 4 by omega) with rfl | rfl | rfl | rfl | rfl
      · refine Or.inr ⟨if_pos (by decide), ?_⟩
        rw [if_pos (show (nI 0 : Int32) = 0 from rfl)]
        by_cases q : ck < st
        · have q1 := nI_lt (a := ck) (b := st) q (by omega)
          rw [if_neg (show ¬ ¬ nI ck < nI st from fun z => z q1), if_neg (show ¬ nI 1 = (-4) by decide), if_neg (show ¬ nI 1 = nI 3 by decide)]
          refine ⟨nI_nn (by omega), ly a (nr - 1) b 0 (nI 1), np, ck, fun h sn tx k => ?_, (fin 1 (by omega) (by omega) (by omega)).2, (fin 1 (by omega) (by omega) (by omega)).1⟩
          show s_X8_doLine a h sn tx k b nr = _
          rw [eDo, if_neg (show ¬ nI 0 = nI 2 by decide), if_pos q1, if_pos (show (nI 0 : Int32) = 0 from rfl), hz _ (by omega)]
        · have q1 := nI_nlt (a := ck) (b := st) (by omega) (by omega)
          rw [if_pos q1, if_neg (show ¬ nI 2 = (-4) by decide), if_neg (show ¬ nI 2 = nI 3 by decide)]
          refine ⟨nI_nn (by omega), ly a (nr - 1) b 0 (nI 2), np, ck, fun h sn tx k => ?_, (fin 2 (by omega) (by omega) (by omega)).2, (fin 2 (by omega) (by omega) (by omega)).1⟩
          show s_X8_doLine a h sn tx k b nr = _
          rw [eDo, if_neg (show ¬ nI 0 = nI 2 by decide), if_neg q1, hz _ (by omega)]
      · refine Or.inr ⟨if_pos (by decide), ?_⟩
        rw [if_neg (show ¬ nI 1 = 0 by decide), if_pos (show (nI 1 : Int32) = 1 from rfl)]
        by_cases q : ck < st
        · have q1 := nI_lt (a := ck) (b := st) q (by omega)
          rw [if_neg (show ¬ ¬ nI ck < nI st from fun z => z q1), if_neg (show ¬ nI 0 = (-4) by decide), if_neg (show ¬ nI 0 = nI 3 by decide)]
          refine ⟨nI_nn (by omega), ly a (nr - 1) b 0 (nI 0), np, ck, fun h sn tx k => ?_, (fin 0 (by omega) (by omega) (by omega)).2, (fin 0 (by omega) (by omega) (by omega)).1⟩
          show s_X8_doLine a h sn tx k b nr = _
          rw [eDo, if_neg (show ¬ nI 1 = nI 2 by decide), if_pos q1, if_neg (show ¬ nI 1 = 0 by decide), hz _ (by omega)]
        · have q1 := nI_nlt (a := ck) (b := st) (by omega) (by omega)
          rw [if_pos q1, if_neg (show ¬ nI 2 = (-4) by decide), if_neg (show ¬ nI 2 = nI 3 by decide)]
          refine ⟨nI_nn (by omega), ly a (nr - 1) b 0 (nI 2), np, ck, fun h sn tx k => ?_, (fin 2 (by omega) (by omega) (by omega)).2, (fin 2 (by omega) (by omega) (by omega)).1⟩
          show s_X8_doLine a h sn tx k b nr = _
          rw [eDo, if_neg (show ¬ nI 1 = nI 2 by decide), if_neg q1, hz _ (by omega)]
      · rw [if_neg (show ¬ nI 2 = 0 by decide), if_neg (show ¬ nI 2 = 1 by decide), if_pos (show (nI 2 : Int32) = 2 from rfl), if_neg (show ¬ nI 2 < nI 2 by decide), if_pos (rfl : nI 2 = nI 2), eAll, pk_mul]
        by_cases q : ro < bu * la
        · have q2 : ¬ nI ro = nI (bu * la) := fun z => by have := (nI_eq (by omega) (by omega)).mp z; omega
          rw [if_pos q, if_neg q2]
          exact Or.inl ⟨by decide, rfl⟩
        · have q2 : ro = bu * la := by omega
          rw [if_neg q, if_neg (show ¬ nI 1 = 0 by decide), if_pos (show nI ro = nI (bu * la) by rw [q2])]
          refine Or.inr ⟨rfl, ?_⟩
          rw [if_neg (show ¬ nI 3 = (-4) by decide), if_pos (rfl : nI 3 = nI 3)]
          refine ⟨nI_nn (by omega), ly (ly a (nr - 1) b 0 (nI 3)) (nr - 1) b 5 (nI ck), np, ck, fun h sn tx k => ?_, iv_finish hV hn hb k1, ?_⟩
          · show s_X8_doLine a h sn tx k b nr = _
            rw [eDo, if_pos (rfl : nI 2 = nI 2), ly_lo (by omega), h8]
          · have e5 := (hE.put (b := b) (w := 5) (v := g 0) h3 h4 hn (by omega) (by omega)).put (b := b) (w := 0) (v := nI 3) ((ly_lo (by omega)).trans h3) h4 hn (by omega) (by omega)
            rw [ea0] at e5
            have : ly (ly a (nr - 1) b 5 (nI ck)) (nr - 1) b 0 (nI 3) = ly (ly a (nr - 1) b 0 (nI 3)) (nr - 1) b 5 (nI ck) := upd_comm (by omega)
            rw [← this, ea0]
            exact e5
      · rw [if_neg (show ¬ nI 3 < nI 2 by decide), if_neg (show ¬ nI 3 = nI 2 by decide)]
        exact Or.inl ⟨by decide, rfl⟩
      · rw [if_neg (show ¬ nI 4 < nI 2 by decide), if_neg (show ¬ nI 4 = nI 2 by decide)]
        exact Or.inl ⟨by decide, rfl⟩
    · have hg3 : ¬ g 3 = nI 1 := fun z => hp ((prep_iff hV hE).mp z)
      have eE : s_X8_lineError a (nI b) nr = (-4) := by
        unfold s_X8_lineError
        rw [if_pos cM, if_neg hp]
      rw [eE]
      refine Or.inl ⟨by decide, ?_⟩
      unfold s_X0_crossLine
      rw [if_pos cC, if_neg hg3]
  · rw [← hg1] at cC; rw [← h1] at cM
    have eE : s_X8_lineError a x nr = (-1) := if_neg cM
    rw [eE]
    exact Or.inl ⟨by decide, if_neg cC⟩
end Ev
