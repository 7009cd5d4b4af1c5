section Acts2
variable {c : Nat} {g : Nat → Int32} {t : Nat → Nat → Int32} {a h sn tx k : Nat → Int32} {nb nr np ck kp : Nat}
/-- the stage of a protest -/
theorem iv_stage (hV : IV c a nb nr np ck) {p : Nat} (hp : p < np) {s2 : Nat} (hs : s2 ≤ 4) : IV c (sgp a p (nI s2)) nb nr np ck := by
  obtain ⟨h1, h2, h3, h4, h5, h6, h7, h8, h9, h10, h11, h12, h13, h14⟩ := id hV
  refine IV_lo (Nat.le_refl _) hV (Nat.le_refl _) h9 ((pk_un (by omega)).trans h8) ((pk_un (by omega)).trans h5) h6 h7 (h10.ag (fun i _ _ => pk_un (by omega))) (fun i hi q0 q3 q4 q5 => pk_un (by omega)) (fun p2 hp2 => ?_)
  obtain ⟨x, y, s, k1, k2, k3, k4, k5, k6⟩ := h14 p2 hp2
  by_cases q : p2 = p
  · subst q
    exact ⟨x, y, s2, (mp_un (by omega)).trans k1, k2, (mp_un (by omega)).trans k3, k4, pk_us, hs⟩
  · exact ⟨x, y, s, (mp_un (by omega)).trans k1, k2, (mp_un (by omega)).trans k3, k4, (mp_un (by omega)).trans k5, k6⟩
theorem st_file (hc : c ≤ 512) (hV : IV c a nb nr np ck) (hE : EQ g t a nr) (x : Int32) : StOK c g t a h sn tx k kp (s_X2_fileProtest g t x) (s_X8_file a h sn tx k x nr kp) := by
  obtain ⟨h1, h2, h3, h4, h5, h6, h7, h8, h9, h10, h11, h12, h13, h14⟩ := id hV
  have hg4 : g 4 = nI np := hE.2.2.2.1.trans h5
  rcases inN x (n := np) (by omega) with ⟨p, hp, rfl, ec, cC, cM⟩ | ⟨cC, cM⟩
  · rw [← hg4] at cC; rw [← h5] at cM
    have hn := h7 (by omega)
    obtain ⟨xb, yb, s, k1, k2, k3, k4, k5, k6⟩ := h14 p hp
    have e3 : tg 4 40 (t 4) (nI p) (nI 3) = nI s := (hE.pro (by omega) (by omega)).trans k5
    have e0 : tg 4 40 (t 4) (nI p) (nI 0) = nI xb := (hE.pro (by omega) (by omega)).trans k1
    have l0 : c_lat g t (nI xb) (nI 0) = m_e a (nr - 1) xb 0 := hE.lat h3 h4 hn (by omega) (by omega)
    have l5 : c_lat g t (nI xb) (nI 5) = m_e a (nr - 1) xb 5 := hE.lat h3 h4 hn (by omega) (by omega)
    have es : tg 1 3 (t 1) (nI 0) (nI 0) = a 4 := hE.set (by omega)
    have eR : s_X2_fileProtest g t (nI p) = if nI s = 0 then (if m_e a (nr - 1) xb 0 = nI 3 then (if 0 ≤ m_e a (nr - 1) xb 5 + a 4 - a 0 then (m_e a (nr - 1) xb 5 + a 4 - a 0, g, va_up t 4 (tp 4 40 (t 4) (nI p) (nI 3) (nI 1))) else ((-4), g, t)) else ((-4), g, t)) else ((-4), g, t) := by
      unfold s_X2_fileProtest
      rw [if_pos cC, e3, e0, l0, l5, es, hE.1]
    have eM : s_X8_file a h sn tx k (nI p) nr kp = if nI s = 0 then (if m_e a (nr - 1) xb 0 = nI 3 then (if 0 ≤ m_e a (nr - 1) xb 5 + a 4 - a 0 then (m_e a (nr - 1) xb 5 + a 4 - a 0, sgp a p (nI 1), m_hn a h kp, sn, tx, va_up k 0 (nI (m_kn kp))) else ((-4), a, h, sn, tx, k)) else ((-4), a, h, sn, tx, k)) else ((-4), a, h, sn, tx, k) := by
      unfold s_X8_file
      rw [if_pos cM, ec, k5, k1, nI_clamp (by omega)]
    rw [eR, eM]
    by_cases q1 : nI s = 0
    · rw [if_pos q1, if_pos q1]
      by_cases q2 : m_e a (nr - 1) xb 0 = nI 3
      · rw [if_pos q2, if_pos q2]
        by_cases q3 : 0 ≤ m_e a (nr - 1) xb 5 + a 4 - a 0
        · rw [if_pos q3, if_pos q3]
          exact Or.inr ⟨q3, _, rfl, nb, nr, np, ck, (iv_stage hV hp (by omega)).mono (Nat.le_succ _), hE.cas h4 (by omega) (by omega)⟩
        · rw [if_neg q3, if_neg q3]; exact e_err (by decide) rfl rfl
      · rw [if_neg q2, if_neg q2]; exact e_err (by decide) rfl rfl
    · rw [if_neg q1, if_neg q1]; exact e_err (by decide) rfl rfl
  · rw [← hg4] at cC; rw [← h5] at cM
    exact e_err (e := (-1)) (by decide) (if_neg cC) (if_neg cM)
theorem st_accept (hc : c ≤ 511) (hV : IV c a nb nr np ck) (hE : EQ g t a nr) (x : Int32) : StOK c g t a h sn tx k kp (s_X2_acceptProtest g t x) (s_X8_accept a h sn tx k x nr kp) := by
  obtain ⟨h1, h2, h3, h4, h5, h6, h7, h8, h9, h10, h11, h12, h13, h14⟩ := id hV
  have hg4 : g 4 = nI np := hE.2.2.2.1.trans h5
  rcases inN x (n := np) (by omega) with ⟨p, hp, rfl, ec, cC, cM⟩ | ⟨cC, cM⟩
  · rw [← hg4] at cC; rw [← h5] at cM
    have hn := h7 (by omega)
    obtain ⟨xb, yb, s, k1, k2, k3, k4, k5, k6⟩ := h14 p hp
    obtain ⟨s0, s1, s2, u1, u2, u3, u4, u5, u6⟩ := h10
    obtain ⟨bu, la, st, r1, r2, r3, r4, r5, r6, r7, r8, ss, ro, pe, ou, fi, j1, j2, j3, j4, j5, j6, j7⟩ := hV.lat hn k4
    have e3 : tg 4 40 (t 4) (nI p) (nI 3) = nI s := (hE.pro (by omega) (by omega)).trans k5
    have e1 : tg 4 40 (t 4) (nI p) (nI 1) = nI yb := (hE.pro (by omega) (by omega)).trans k3
    have l0 : c_lat g t (nI yb) (nI 0) = nI ss := (hE.lat h3 h4 hn (by omega) (by omega)).trans j1
    have l3 : c_lat g t (nI yb) (nI 3) = nI pe := (hE.lat h3 h4 hn (by omega) (by omega)).trans j5
    have es : tg 1 3 (t 1) (nI 1) (nI 0) = nI s1 := (hE.set (by omega)).trans u3
    have eR : s_X2_acceptProtest g t (nI p) = if nI s = 0 ∨ nI s = nI 1 then (if nI ss = nI 4 then ((-4), g, t) else (nI pe + nI s1, g, va_up (c_pl g t (nI yb) (nI 3) (nI pe + nI s1)) 4 (tp 4 40 ((c_pl g t (nI yb) (nI 3) (nI pe + nI s1)) 4) (nI p) (nI 3) (nI 2)))) else ((-4), g, t) := by
      unfold s_X2_acceptProtest
      rw [if_pos cC, e3, e1, l0, l3, es]
      by_cases q1 : nI s = 0
      · rw [if_pos q1, if_pos (Or.inl q1)]
      · rw [if_neg q1]
        by_cases q2 : nI s = nI 1
        · rw [if_pos q2, if_pos (Or.inr q2)]
        · rw [if_neg q2, if_neg (fun z => z.elim q1 q2)]
    have m3 : m_e (sgp a p (nI 2)) (nr - 1) yb 3 = nI pe := (pk_un (by omega)).trans j5
    have m5 : sgp a p (nI 2) 5 = nI s1 := (sgp_lo (by omega)).trans u3
    have eM : s_X8_accept a h sn tx k (nI p) nr kp = if nI 1 < nI s then ((-4), a, h, sn, tx, k) else if nI ss = nI 4 then ((-4), a, h, sn, tx, k) else (nI pe + nI s1, ly (sgp a p (nI 2)) (nr - 1) yb 3 (nI pe + nI s1), m_hn a h kp, sn, tx, va_up k 0 (nI (m_kn kp))) := by
      unfold s_X8_accept
      rw [if_pos cM, ec, k5, k3, nI_clamp (by omega), j1, m3, m5]
    rw [eR, eM]
    by_cases q1 : s ≤ 1
    · have q2 : nI s = 0 ∨ nI s = nI 1 := by
        rcases (show s = 0 ∨ s = 1 by omega) with rfl | rfl
        · exact Or.inl rfl
        · exact Or.inr rfl
      rw [if_pos q2, if_neg (nI_nlt q1 (by omega))]
      by_cases q3 : nI ss = nI 4
      · rw [if_pos q3, if_pos q3]; exact e_err (by decide) rfl rfl
      · rw [if_neg q3, if_neg q3]
        have E1 := (hE.put (b := yb) (w := 3) (v := nI pe + nI s1) h3 h4 hn (by omega) (by omega)).cas (p := p) (w := 3) (v := nI 2) h4 (by omega) (by omega)
        have eC : upd (ly a (nr - 1) yb 3 (nI pe + nI s1)) (40 + 4 * p + 3) (nI 2) = ly (sgp a p (nI 2)) (nr - 1) yb 3 (nI pe + nI s1) := upd_comm (by omega)
        rw [eC] at E1
        refine Or.inr ⟨by rw [nI_add]; exact nI_nn (by omega), _, rfl, nb, nr, np, ck, ?_, E1⟩
        refine IV_ent (Nat.le_succ _) (iv_stage hV hp (by omega)) hn k4 (fun i hi => ly_lo hi) (fun r b1 w1 hr hb1 hw1 q => mE_o (by omega) (by omega) hb1 hw1 (by omega)) (fun all st bu la g1 g0 g2 g3 g4 g5 g6 hB => ?_)
        obtain ⟨s', ro', pe', ou', fi', w1, w2, w3, w4, w5, w6, w7, w8, w9, w10, w11, w13, w12⟩ := hB
        have epe : pe' = pe := (nI_eq (by omega) (by omega)).mp (w5.symm.trans m3)
        have o2 : ∀ w1, w1 < 6 → w1 ≠ 3 → m_e (ly (sgp a p (nI 2)) (nr - 1) yb 3 (nI pe + nI s1)) (nr - 1) yb w1 = m_e (sgp a p (nI 2)) (nr - 1) yb w1 := fun w1 h1 h2 => mE_o (by omega) (by omega) (by omega) h1 (by omega)
        exact ⟨s', ro', pe + s1, ou', fi', (o2 0 (by omega) (by omega)).trans w1, w2, (o2 1 (by omega) (by omega)).trans w3, w4, mE_s.trans (nI_add _ _), by omega, (o2 4 (by omega) (by omega)).trans w7, w8, (o2 5 (by omega) (by omega)).trans w9, w10, w11, w13, w12⟩
    · have q2 : ¬ (nI s = 0 ∨ nI s = nI 1) := fun z => z.elim (fun z => absurd ((nI_eq (a := s) (b := 0) (by omega) (by omega)).mp z) (by omega)) (fun z => absurd ((nI_eq (by omega) (by omega)).mp z) (by omega))
      rw [if_neg q2, if_pos (nI_lt (by omega) (by omega))]
      exact e_err (by decide) rfl rfl
  · rw [← hg4] at cC; rw [← h5] at cM
    exact e_err (e := (-1)) (by decide) (if_neg cC) (if_neg cM)
/-- a boat is out -/
theorem iv_out (hV : IV c a nb nr np ck) (hn : 0 < nr) {b : Nat} (hb : b < nb) : IV c (ly a (nr - 1) b 4 (nI 1)) nb nr np ck := by
  have hV0 := hV
  obtain ⟨_, h2, _, h4, _⟩ := hV0
  refine IV_ent (Nat.le_refl _) hV hn hb (fun i hi => ly_lo hi) (fun r b1 w1 hr hb1 hw1 q => mE_o (by omega) (by omega) hb1 hw1 (by omega)) (fun all st bu la g1 g0 g2 g3 g4 g5 g6 hB => ?_)
  obtain ⟨s, ro, pe, ou, fi, k1, k2, k3, k4, k5, k6, k7, k8, k9, k10, k11, k13, k12⟩ := hB
  have o2 : ∀ w1, w1 < 6 → w1 ≠ 4 → m_e (ly a (nr - 1) b 4 (nI 1)) (nr - 1) b w1 = m_e a (nr - 1) b w1 := fun w1 h1 h2 => mE_o (by omega) (by omega) (by omega) h1 (by omega)
  exact ⟨s, ro, pe, 1, fi, (o2 0 (by omega) (by omega)).trans k1, k2, (o2 1 (by omega) (by omega)).trans k3, k4, (o2 3 (by omega) (by omega)).trans k5, k6, mE_s, by omega, (o2 5 (by omega) (by omega)).trans k9, k10, k11, k13, k12⟩
theorem st_decide (hV : IV c a nb nr np ck) (hE : EQ g t a nr) (x y : Int32) : StOK c g t a h sn tx k kp (s_X2_decideProtest g t x y nb) (s_X8_decide a h sn tx k x y nb nr kp) := by
  obtain ⟨h1, h2, h3, h4, h5, h6, h7, h8, h9, h10, h11, h12, h13, h14⟩ := id hV
  have hg4 : g 4 = nI np := hE.2.2.2.1.trans h5
  rcases inN x (n := np) (by omega) with ⟨p, hp, rfl, ec, cC, cM⟩ | ⟨cC, cM⟩
  · rw [← hg4] at cC; rw [← h5] at cM
    have hn := h7 (by omega)
    obtain ⟨xb, yb, s, k1, k2, k3, k4, k5, k6⟩ := h14 p hp
    have e3 : tg 4 40 (t 4) (nI p) (nI 3) = nI s := (hE.pro (by omega) (by omega)).trans k5
    have e2 : g 2 - nI 1 = nI (nr - 1) := hE.g2 h3 hn
    have ES : ∀ v, EQ g (va_up t 4 (tp 4 40 (t 4) (nI p) (nI 3) v)) (sgp a p v) nr := fun v => hE.cas h4 (by omega) (by omega)
    have e1 : ∀ v, tg 4 40 ((va_up t 4 (tp 4 40 (t 4) (nI p) (nI 3) v)) 4) (nI p) (nI 1) = nI yb := fun v => ((ES v).pro (by omega) (by omega)).trans ((mp_un (by omega)).trans k3)
    by_cases q1 : nI s = nI 1
    · by_cases q2 : y = 0
      · have hV1 : IV c (sgp a p (nI 4)) nb nr np ck := iv_stage hV hp (by omega)
        obtain ⟨n, n1, n2, n3⟩ := cnt_out (ES (nI 4)) (r := nr - 1) (by omega) nb h2 (hV1.outs (by omega))
        have eR : s_X2_decideProtest g t (nI p) y nb = (nI n, g, va_up t 4 (tp 4 40 (t 4) (nI p) (nI 3) (nI 4))) := by
          unfold s_X2_decideProtest
          rw [if_pos cC, e3, if_pos q1, if_pos q2, if_pos q2, e2, n2]
        have eM : s_X8_decide a h sn tx k (nI p) y nb nr kp = (nI n, sgp a p (nI 4), m_hn a h kp, sn, tx, va_up k 0 (nI (m_kn kp))) := by
          unfold s_X8_decide
          rw [if_pos cM, ec, k5, if_pos q1, if_pos q2, if_pos q2, n3]
        rw [eR, eM]
        exact Or.inr ⟨nI_nn (by omega), _, rfl, nb, nr, np, ck, hV1.mono (Nat.le_succ _), ES _⟩
      · have hV1 : IV c (sgp a p (nI 3)) nb nr np ck := iv_stage hV hp (by omega)
        have hV2 := iv_out hV1 hn k4
        have EP : EQ g (c_pl g (va_up t 4 (tp 4 40 (t 4) (nI p) (nI 3) (nI 3))) (nI yb) (nI 4) (nI 1)) (ly (sgp a p (nI 3)) (nr - 1) yb 4 (nI 1)) nr := (ES (nI 3)).put ((sgp_lo (by omega)).trans h3) h4 hn (by omega) (by omega)
        obtain ⟨n, n1, n2, n3⟩ := cnt_out EP (r := nr - 1) (by omega) nb h2 (hV2.outs (by omega))
        have eR : s_X2_decideProtest g t (nI p) y nb = (nI n, g, c_pl g (va_up t 4 (tp 4 40 (t 4) (nI p) (nI 3) (nI 3))) (nI yb) (nI 4) (nI 1)) := by
          unfold s_X2_decideProtest
          rw [if_pos cC, e3, if_pos q1, if_neg q2, if_neg q2, e1, e2, n2]
        have eM : s_X8_decide a h sn tx k (nI p) y nb nr kp = (nI n, ly (sgp a p (nI 3)) (nr - 1) yb 4 (nI 1), m_hn a h kp, sn, tx, va_up k 0 (nI (m_kn kp))) := by
          unfold s_X8_decide
          rw [if_pos cM, ec, k5, if_pos q1, if_neg q2, if_neg q2, k3, nI_clamp (by omega), n3]
        rw [eR, eM]
        exact Or.inr ⟨nI_nn (by omega), _, rfl, nb, nr, np, ck, hV2.mono (Nat.le_succ _), EP⟩
    · refine e_err (e := (-4)) (by decide) ?_ ?_
      · unfold s_X2_decideProtest
        rw [if_pos cC, e3, if_neg q1]
      · unfold s_X8_decide
        rw [if_pos cM, ec, k5, if_neg q1]
  · rw [← hg4] at cC; rw [← h5] at cM
    exact e_err (e := (-1)) (by decide) (if_neg cC) (if_neg cM)
theorem iv_set (hV : IV c a nb nr np ck) {i v : Nat} (hi : i < 3) (hv : v ≤ if i = 0 then 3600 else if i = 1 then 300 else 6) : IV c (upd a (4 + i) (nI v)) nb nr np ck := by
  obtain ⟨h1, h2, h3, h4, h5, h6, h7, h8, h9, h10, h11, h12, h13, h14⟩ := id hV
  refine IV_lo (Nat.le_refl _) hV (Nat.le_refl _) h9 ((pk_un (by omega)).trans h8) ((pk_un (by omega)).trans h5) h6 h7 ?_ (fun i hi q0 q3 q4 q5 => pk_un (by omega)) (fun p2 hp2 => (h14 p2 hp2).ag (fun w hw => mp_un (by omega)))
  obtain ⟨s0, s1, s2, u1, u2, u3, u4, u5, u6⟩ := h10
  rcases (show i = 0 ∨ i = 1 ∨ i = 2 by omega) with rfl | rfl | rfl
  · exact ⟨v, s1, s2, pk_us, hv, (pk_un (by omega)).trans u3, u4, (pk_un (by omega)).trans u5, u6⟩
  · exact ⟨s0, v, s2, (pk_un (by omega)).trans u1, u2, pk_us, hv, (pk_un (by omega)).trans u5, u6⟩
  · exact ⟨s0, s1, v, (pk_un (by omega)).trans u1, u2, (pk_un (by omega)).trans u3, u4, pk_us, hv⟩
theorem st_set1 (hV : IV c a nb nr np ck) (hE : EQ g t a nr) {i lo hi : Nat} (y : Int32) {R : C3} {M : M6} (hi3 : i < 3) (hh : hi ≤ if i = 0 then 3600 else if i = 1 then 300 else 6) (hlo : lo ≤ 1) (eR : R = if y < nI lo then ((-2), g, t) else if y ≤ nI hi then (a (4 + i), g, va_up t 1 (tp 1 3 (t 1) (nI i) (nI 0) y)) else ((-2), g, t)) (eM : M = if ¬ y < nI lo ∧ ¬ nI hi < y then (a (4 + i), upd a (4 + i) y, m_hn a h kp, sn, tx, va_up k 0 (nI (m_kn kp))) else ((-2), a, h, sn, tx, k)) : StOK c g t a h sn tx k kp R M := by
  have hhi : hi ≤ 3600 := by
    rcases (show i = 0 ∨ i = 1 ∨ i = 2 by omega) with rfl | rfl | rfl
    · exact hh
    · exact Nat.le_trans hh (by decide)
    · exact Nat.le_trans hh (by decide)
  by_cases c1 : y < nI lo
  · exact e_err (e := (-2)) (by decide) (eR.trans (if_pos c1)) (eM.trans (if_neg (fun z => z.1 c1)))
  by_cases c2 : ¬ y ≤ nI hi
  · exact e_err (e := (-2)) (by decide) (eR.trans ((if_neg c1).trans (if_neg c2))) (eM.trans (if_neg (fun z => z.2 (nle_lt c2))))
  have c2 : y ≤ nI hi := Decidable.of_not_not c2
  obtain ⟨j, hj, rfl⟩ := nI_of (x := y) (fun q => c1 (Int32.lt_of_lt_of_le q (nI_nn (by omega))))
  have hj2 : j ≤ hi := (nI_leI (by omega) (by omega)).mp c2
  rw [if_neg c1, if_pos c2] at eR
  rw [if_pos ⟨c1, le_nlt c2⟩] at eM
  subst eR; subst eM
  refine Or.inr ⟨?_, _, rfl, nb, nr, np, ck, (iv_set hV hi3 (Nat.le_trans hj2 hh)).mono (Nat.le_succ _), hE.stp hV.2.2.2.1 hi3⟩
  obtain ⟨s0, s1, s2, u1, u2, u3, u4, u5, u6⟩ := hV.2.2.2.2.2.2.2.2.2.1
  show 0 ≤ a (4 + i)
  rcases (show i = 0 ∨ i = 1 ∨ i = 2 by omega) with rfl | rfl | rfl
  · rw [u1]; exact nI_nn (by omega)
  · rw [u3]; exact nI_nn (by omega)
  · rw [u5]; exact nI_nn (by omega)
theorem st_set (hV : IV c a nb nr np ck) (hE : EQ g t a nr) (x y : Int32) : StOK c g t a h sn tx k kp (s_X0_changeSetting g t x y) (s_X8_set a h sn tx k x y kp) := by
  have d3 : (nI 3 - nI 1 : Int32) = nI 2 := by decide
  rcases inN x (n := 3) (by omega) with ⟨i, hi, rfl, ec, cC, cM⟩ | ⟨cC, cM⟩
  · rw [d3] at cM
    have es : tg 1 3 (t 1) (nI i) (nI 0) = a (4 + i) := hE.set hi
    rcases (show i = 0 ∨ i = 1 ∨ i = 2 by omega) with rfl | rfl | rfl
    · refine st_set1 hV hE (i := 0) (lo := 1) (hi := 3600) y (by omega) (by decide) (by omega) ?_ ?_
      · unfold s_X0_changeSetting
        rw [if_neg cC.1, if_pos (nle_lt cC.2), ec, es]
        rfl
      · unfold s_X8_set
        rw [if_pos cM, ec, if_neg (by decide), if_pos (by decide)]
    · refine st_set1 hV hE (i := 1) (lo := 1) (hi := 300) y (by omega) (by decide) (by omega) ?_ ?_
      · unfold s_X0_changeSetting
        rw [if_neg cC.1, if_pos (nle_lt cC.2), ec, es]
        rfl
      · unfold s_X8_set
        rw [if_pos cM, ec, if_neg (by decide), if_neg (by decide), if_pos (by decide)]
    · refine st_set1 hV hE (i := 2) (lo := 0) (hi := 6) y (by omega) (by decide) (by omega) ?_ ?_
      · unfold s_X0_changeSetting
        rw [if_neg cC.1, if_pos (nle_lt cC.2), ec, es]
        rfl
      · unfold s_X8_set
        rw [if_pos cM, ec, if_pos (by decide), if_neg (by decide), if_neg (by decide)]
  · rw [d3] at cM
    refine e_err (e := (-1)) (by decide) ?_ (if_neg cM)
    unfold s_X0_changeSetting
    by_cases x0 : x < 0
    · rw [if_pos x0]
    · rw [if_neg x0, if_neg (fun z => cC ⟨x0, lt_nle z⟩)]
end Acts2
