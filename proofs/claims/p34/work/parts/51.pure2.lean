theorem mr_un {a : Nat → Int32} {k r w : Nat} {v : Int32} (h : 16 + 4 * r + w ≠ k) : m_r (upd a k v) r w = m_r a r w := pk_un h
theorem EQ.wr3 {g : Nat → Int32} {t : Nat → Nat → Int32} {a : Nat → Int32} {nr i : Nat} {v : Int32} (h : EQ g t a nr) (hr6 : nr ≤ 6) (hi : i < 324) : EQ g (va_up t 3 (upd (t 3) i v)) (upd a (80 + i) v) nr := by
  obtain ⟨h1, h2, h3, h4, h5, h6, h7, h8, h9, h10, h11⟩ := h
  refine ⟨h1.trans (pk_un (by omega)).symm, h2.trans (pk_un (by omega)).symm, h3.trans (pk_un (by omega)).symm, h4.trans (pk_un (by omega)).symm, h5, fun hn => (h6 hn).trans (congrArg (· + nI 1) (mr_un (by omega)).symm), fun j hj => ?_, fun j hj => ?_, fun r w hr hw => ?_, fun j hj => ?_, fun j hj => ?_⟩
  · rw [up_o (by omega)]; exact (h7 j hj).trans (pk_un (by omega)).symm
  · rw [up_o (by omega)]; exact (h8 j hj).trans (pk_un (by omega)).symm
  · rw [up_o (by omega)]; exact (h9 r w hr hw).trans (mr_un (by omega)).symm
  · rw [up_a]
    by_cases q : j = i
    · rw [q, pk_us, pk_us]
    · rw [pk_un q, pk_un (by omega)]; exact h10 j hj
  · rw [up_o (by omega)]; exact (h11 j hj).trans (pk_un (by omega)).symm
theorem EQ.wr4 {g : Nat → Int32} {t : Nat → Nat → Int32} {a : Nat → Int32} {nr i : Nat} {v : Int32} (h : EQ g t a nr) (hr6 : nr ≤ 6) (hi : i < 40) : EQ g (va_up t 4 (upd (t 4) i v)) (upd a (40 + i) v) nr := by
  obtain ⟨h1, h2, h3, h4, h5, h6, h7, h8, h9, h10, h11⟩ := h
  refine ⟨h1.trans (pk_un (by omega)).symm, h2.trans (pk_un (by omega)).symm, h3.trans (pk_un (by omega)).symm, h4.trans (pk_un (by omega)).symm, h5, fun hn => (h6 hn).trans (congrArg (· + nI 1) (mr_un (by omega)).symm), fun j hj => ?_, fun j hj => ?_, fun r w hr hw => ?_, fun j hj => ?_, fun j hj => ?_⟩
  · rw [up_o (by omega)]; exact (h7 j hj).trans (pk_un (by omega)).symm
  · rw [up_o (by omega)]; exact (h8 j hj).trans (pk_un (by omega)).symm
  · rw [up_o (by omega)]; exact (h9 r w hr hw).trans (mr_un (by omega)).symm
  · rw [up_o (by omega)]; exact (h10 j hj).trans (pk_un (by omega)).symm
  · rw [up_a]
    by_cases q : j = i
    · rw [q, pk_us, pk_us]
    · rw [pk_un q, pk_un (by omega)]; exact h11 j hj
theorem EQ.wr2 {g : Nat → Int32} {t : Nat → Nat → Int32} {a : Nat → Int32} {nr r w : Nat} {v : Int32} (h : EQ g t a nr) (hr6 : nr ≤ 6) (hr : r < 6) (hw : w < 3) : EQ g (va_up t 2 (upd (t 2) (r * 3 + w) v)) (upd a (16 + 4 * r + w) v) nr := by
  obtain ⟨h1, h2, h3, h4, h5, h6, h7, h8, h9, h10, h11⟩ := h
  refine ⟨h1.trans (pk_un (by omega)).symm, h2.trans (pk_un (by omega)).symm, h3.trans (pk_un (by omega)).symm, h4.trans (pk_un (by omega)).symm, h5, fun hn => (h6 hn).trans (congrArg (· + nI 1) (mr_un (by omega)).symm), fun j hj => ?_, fun j hj => ?_, fun r1 w1 hr1 hw1 => ?_, fun j hj => ?_, fun j hj => ?_⟩
  · rw [up_o (by omega)]; exact (h7 j hj).trans (pk_un (by omega)).symm
  · rw [up_o (by omega)]; exact (h8 j hj).trans (pk_un (by omega)).symm
  · rw [up_a]
    by_cases q : r1 * 3 + w1 = r * 3 + w
    · rw [q, pk_us]; show v = upd _ _ _ (16 + 4 * r1 + w1)
      rw [show 16 + 4 * r1 + w1 = 16 + 4 * r + w by omega, pk_us]
    · rw [pk_un q]; exact (h9 r1 w1 hr1 hw1).trans (mr_un (by omega)).symm
  · rw [up_o (by omega)]; exact (h10 j hj).trans (pk_un (by omega)).symm
  · rw [up_o (by omega)]; exact (h11 j hj).trans (pk_un (by omega)).symm
theorem EQ.wr1 {g : Nat → Int32} {t : Nat → Nat → Int32} {a : Nat → Int32} {nr i : Nat} {v : Int32} (h : EQ g t a nr) (hr6 : nr ≤ 6) (hi : i < 3) : EQ g (va_up t 1 (upd (t 1) i v)) (upd a (4 + i) v) nr := by
  obtain ⟨h1, h2, h3, h4, h5, h6, h7, h8, h9, h10, h11⟩ := h
  refine ⟨h1.trans (pk_un (by omega)).symm, h2.trans (pk_un (by omega)).symm, h3.trans (pk_un (by omega)).symm, h4.trans (pk_un (by omega)).symm, h5, fun hn => (h6 hn).trans (congrArg (· + nI 1) (mr_un (by omega)).symm), fun j hj => ?_, fun j hj => ?_, fun r w hr hw => ?_, fun j hj => ?_, fun j hj => ?_⟩
  · rw [up_o (by omega)]; exact (h7 j hj).trans (pk_un (by omega)).symm
  · rw [up_a]
    by_cases q : j = i
    · rw [q, pk_us, pk_us]
    · rw [pk_un q, pk_un (by omega)]; exact h8 j hj
  · rw [up_o (by omega)]; exact (h9 r w hr hw).trans (mr_un (by omega)).symm
  · rw [up_o (by omega)]; exact (h10 j hj).trans (pk_un (by omega)).symm
  · rw [up_o (by omega)]; exact (h11 j hj).trans (pk_un (by omega)).symm
theorem EQ.wr0 {g : Nat → Int32} {t : Nat → Nat → Int32} {a : Nat → Int32} {nr i : Nat} {v : Int32} (h : EQ g t a nr) (hr6 : nr ≤ 6) (hi : i < 9) : EQ g (va_up t 0 (upd (t 0) i v)) (upd a (7 + i) v) nr := by
  obtain ⟨h1, h2, h3, h4, h5, h6, h7, h8, h9, h10, h11⟩ := h
  refine ⟨h1.trans (pk_un (by omega)).symm, h2.trans (pk_un (by omega)).symm, h3.trans (pk_un (by omega)).symm, h4.trans (pk_un (by omega)).symm, h5, fun hn => (h6 hn).trans (congrArg (· + nI 1) (mr_un (by omega)).symm), fun j hj => ?_, fun j hj => ?_, fun r w hr hw => ?_, fun j hj => ?_, fun j hj => ?_⟩
  · rw [up_a]
    by_cases q : j = i
    · rw [q, pk_us, pk_us]
    · rw [pk_un q, pk_un (by omega)]; exact h7 j hj
  · rw [up_o (by omega)]; exact (h8 j hj).trans (pk_un (by omega)).symm
  · rw [up_o (by omega)]; exact (h9 r w hr hw).trans (mr_un (by omega)).symm
  · rw [up_o (by omega)]; exact (h10 j hj).trans (pk_un (by omega)).symm
  · rw [up_o (by omega)]; exact (h11 j hj).trans (pk_un (by omega)).symm
theorem EQ.gclk {g : Nat → Int32} {t : Nat → Nat → Int32} {a : Nat → Int32} {nr : Nat} {v : Int32} (h : EQ g t a nr) : EQ (va_up g 0 v) t (upd a 0 v) nr := by
  obtain ⟨h1, h2, h3, h4, h5, h6, h7, h8, h9, h10, h11⟩ := h
  exact ⟨by rw [up_a, pk_us], by rw [up_o (by omega), pk_un (by omega)]; exact h2, by rw [up_o (by omega), pk_un (by omega)]; exact h3, by rw [up_o (by omega), pk_un (by omega)]; exact h4, fun hn => by rw [up_o (by omega)]; exact h5 hn, fun hn => by rw [up_o (by omega)]; exact (h6 hn).trans (congrArg (· + nI 1) (mr_un (by omega)).symm), fun j hj => (h7 j hj).trans (pk_un (by omega)).symm, fun j hj => (h8 j hj).trans (pk_un (by omega)).symm, fun r w hr hw => (h9 r w hr hw).trans (mr_un (by omega)).symm, fun j hj => (h10 j hj).trans (pk_un (by omega)).symm, fun j hj => (h11 j hj).trans (pk_un (by omega)).symm⟩
theorem EQ.gpro {g : Nat → Int32} {t : Nat → Nat → Int32} {a : Nat → Int32} {nr : Nat} {v : Int32} (h : EQ g t a nr) : EQ (va_up g 4 v) t (upd a 3 v) nr := by
  obtain ⟨h1, h2, h3, h4, h5, h6, h7, h8, h9, h10, h11⟩ := h
  exact ⟨by rw [up_o (by omega), pk_un (by omega)]; exact h1, by rw [up_o (by omega), pk_un (by omega)]; exact h2, by rw [up_o (by omega), pk_un (by omega)]; exact h3, by rw [up_a, pk_us], fun hn => by rw [up_o (by omega)]; exact h5 hn, fun hn => by rw [up_o (by omega)]; exact (h6 hn).trans (congrArg (· + nI 1) (mr_un (by omega)).symm), fun j hj => (h7 j hj).trans (pk_un (by omega)).symm, fun j hj => (h8 j hj).trans (pk_un (by omega)).symm, fun r w hr hw => (h9 r w hr hw).trans (mr_un (by omega)).symm, fun j hj => (h10 j hj).trans (pk_un (by omega)).symm, fun j hj => (h11 j hj).trans (pk_un (by omega)).symm⟩
theorem EQ.gboat {g : Nat → Int32} {t : Nat → Nat → Int32} {a : Nat → Int32} {nr : Nat} {v : Int32} (h : EQ g t a nr) : EQ (va_up g 1 v) t (upd a 1 v) nr := by
  obtain ⟨h1, h2, h3, h4, h5, h6, h7, h8, h9, h10, h11⟩ := h
  exact ⟨by rw [up_o (by omega), pk_un (by omega)]; exact h1, by rw [up_a, pk_us], by rw [up_o (by omega), pk_un (by omega)]; exact h3, by rw [up_o (by omega), pk_un (by omega)]; exact h4, fun hn => by rw [up_o (by omega)]; exact h5 hn, fun hn => by rw [up_o (by omega)]; exact (h6 hn).trans (congrArg (· + nI 1) (mr_un (by omega)).symm), fun j hj => (h7 j hj).trans (pk_un (by omega)).symm, fun j hj => (h8 j hj).trans (pk_un (by omega)).symm, fun r w hr hw => (h9 r w hr hw).trans (mr_un (by omega)).symm, fun j hj => (h10 j hj).trans (pk_un (by omega)).symm, fun j hj => (h11 j hj).trans (pk_un (by omega)).symm⟩
theorem EQ.gcls {g : Nat → Int32} {t : Nat → Nat → Int32} {a : Nat → Int32} {nr : Nat} (h : EQ g t a nr) (hr6 : nr ≤ 6) (hn : 0 < nr) : EQ (va_up g 3 (nI 2)) t (upd a (16 + 4 * (nr - 1) + 3) (nI 1)) nr := by
  obtain ⟨h1, h2, h3, h4, h5, h6, h7, h8, h9, h10, h11⟩ := h
  exact ⟨by rw [up_o (by omega), pk_un (by omega)]; exact h1, by rw [up_o (by omega), pk_un (by omega)]; exact h2, by rw [up_o (by omega), pk_un (by omega)]; exact h3, by rw [up_o (by omega), pk_un (by omega)]; exact h4, fun h0 => absurd h0 (by omega), fun _ => by rw [up_a]; show _ = upd _ _ _ (16 + 4 * (nr - 1) + 3) + _; rw [pk_us]; rfl, fun j hj => (h7 j hj).trans (pk_un (by omega)).symm, fun j hj => (h8 j hj).trans (pk_un (by omega)).symm, fun r w hr hw => (h9 r w hr hw).trans (mr_un (by omega)).symm, fun j hj => (h10 j hj).trans (pk_un (by omega)).symm, fun j hj => (h11 j hj).trans (pk_un (by omega)).symm⟩
section Wr
variable {g : Nat → Int32} {t : Nat → Nat → Int32} {a : Nat → Int32} {nr : Nat}
theorem EQ.put (h : EQ g t a nr) (h2 : a 2 = nI nr) (hr6 : nr ≤ 6) (hn : 0 < nr) {b w : Nat} {v : Int32} (hb : b < 9) (hw : w < 6) : EQ g (c_pl g t (nI b) (nI w) v) (ly a (nr - 1) b w v) nr := by
  unfold c_pl
  rw [h.g2 h2 hn, nI9, tp_at (by omega) (by omega)]
  have := h.wr3 (v := v) hr6 (i := (9 * (nr - 1) + b) * 6 + w) (by omega)
  unfold ly
  rw [show 80 + 6 * (9 * (nr - 1) + b) + w = 80 + ((9 * (nr - 1) + b) * 6 + w) by omega]
  exact this
theorem EQ.cas (h : EQ g t a nr) (hr6 : nr ≤ 6) {p w : Nat} {v : Int32} (hp : p < 10) (hw : w < 4) : EQ g (va_up t 4 (tp 4 40 (t 4) (nI p) (nI w) v)) (upd a (40 + 4 * p + w) v) nr := by
  rw [tp_at (by omega) (by omega), show 40 + 4 * p + w = 40 + (p * 4 + w) by omega]
  exact h.wr4 hr6 (by omega)
theorem EQ.crp (h : EQ g t a nr) (hr6 : nr ≤ 6) {r w : Nat} {v : Int32} (hr : r < 6) (hw : w < 3) : EQ g (va_up t 2 (tp 3 18 (t 2) (nI r) (nI w) v)) (upd a (16 + 4 * r + w) v) nr := by
  rw [tp_at (by omega) (by omega)]
  exact h.wr2 hr6 hr hw
theorem EQ.stp (h : EQ g t a nr) (hr6 : nr ≤ 6) {i : Nat} {v : Int32} (hi : i < 3) : EQ g (va_up t 1 (tp 1 3 (t 1) (nI i) (nI 0) v)) (upd a (4 + i) v) nr := by
  rw [tp_at (by omega) (by omega), show i * 1 + 0 = i by omega]
  exact h.wr1 hr6 hi
theorem EQ.rtp (h : EQ g t a nr) (hr6 : nr ≤ 6) {i : Nat} {v : Int32} (hi : i < 9) : EQ g (va_up t 0 (tp 1 9 (t 0) (nI i) (nI 0) v)) (upd a (7 + i) v) nr := by
  rw [tp_at (by omega) (by omega), show i * 1 + 0 = i by omega]
  exact h.wr0 hr6 hi
end Wr
theorem mE_s {a : Nat → Int32} {r b w : Nat} {v : Int32} : m_e (ly a r b w v) r b w = v := pk_us
theorem mE_o {a : Nat → Int32} {r b w r1 b1 w1 : Nat} {v : Int32} (hb : b < 9) (hw : w < 6) (hb1 : b1 < 9) (hw1 : w1 < 6) (h : ¬ (r1 = r ∧ b1 = b ∧ w1 = w)) : m_e (ly a r b w v) r1 b1 w1 = m_e a r1 b1 w1 := pk_un (by omega)
theorem BV.cl {c : Nat} {a : Nat → Int32} {r b all st ck : Nat} {la la' : Prop} (q : la' → la) (h : BV c a r b all st la ck) : BV c a r b all st la' ck := by
  obtain ⟨s, ro, pe, ou, fi, h1, h2, h3, h4, h5, h6, h7, h8, h9, h10, h11, h13, h12⟩ := h
  exact ⟨s, ro, pe, ou, fi, h1, h2, h3, h4, h5, h6, h7, h8, h9, h10, h11, h13, fun z => h12 (q z)⟩
theorem IV_ent {c c' : Nat} {a a' : Nat → Int32} {nb nr np ck b0 : Nat} (hc : c ≤ c') (hV : IV c a nb nr np ck) (hn : 0 < nr) (hb0 : b0 < nb) (hlo : ∀ i, i < 80 → a' i = a i) (ho : ∀ r b w, r < 6 → b < 9 → w < 6 → ¬ (r = nr - 1 ∧ b = b0) → m_e a' r b w = m_e a r b w)
    (hB : ∀ all st bu la, m_r a (nr - 1) 2 = nI st → st ≤ 1003600 + 3600 * c → m_r a (nr - 1) 0 = nI bu → m_r a (nr - 1) 1 = nI la → bu ≤ 5 → la ≤ 3 → all = bu * la → BV c a (nr - 1) b0 all st True ck → BV c' a' (nr - 1) b0 all st True ck) : IV c' a' nb nr np ck := by
  obtain ⟨h1, h2, h3, h4, h5, h6, h7, h8, h9, h10, h11, h12, h13, h14⟩ := hV
  refine ⟨(hlo 1 (by omega)).trans h1, h2, (hlo 2 (by omega)).trans h3, h4, (hlo 3 (by omega)).trans h5, h6, h7, (hlo 0 (by omega)).trans h8, h9, h10.ag (fun i _ _ => hlo i (by omega)), fun b hb => ?_, fun r hr => ?_, fun r b w hr hb hb2 hw => (ho r b w hr hb2 hw (by omega)).trans (h13 r b w hr hb hb2 hw), fun p hp => (h14 p hp).ag (fun w hw => hlo _ (by omega))⟩
  · obtain ⟨v, hv, hv2⟩ := h11 b hb
    exact ⟨v, (hlo _ (by omega)).trans hv, hv2⟩
  · obtain ⟨bu, la, st, cl, g1, g2, g3, g4, g5, g6, g7, g8, g9, g10, g11, g12⟩ := h12 r hr
    refine ⟨bu, la, st, cl, (hlo _ (by omega)).trans g1, g2, g3, (hlo _ (by omega)).trans g4, g5, g6, (hlo _ (by omega)).trans g7, by omega, (hlo _ (by omega)).trans g9, g10, g11, fun b hb => ?_⟩
    by_cases q : r = nr - 1 ∧ b = b0
    · obtain ⟨rfl, rfl⟩ := q
      exact (hB (bu * la) st bu la g7 g8 g1 g4 g3 g6 rfl ((g12 b hb).cl (fun _ => by omega))).cl (fun _ => trivial)
    · exact ((g12 b hb).mono hc).ag (fun w hw => ho r b w (by omega) (by omega) hw q)
theorem IV_lo {c c' : Nat} {a a' : Nat → Int32} {nb nr np np' ck ck' : Nat} (hc : c ≤ c') (hV : IV c a nb nr np ck) (hck : ck ≤ ck') (hck2 : ck' ≤ 999999) (h0 : a' 0 = nI ck') (h3 : a' 3 = nI np') (hnp : np' ≤ 10) (hnp2 : 0 < np' → 0 < nr) (hs : SV a') (ho : ∀ i, i < 404 → ¬ i = 0 → ¬ i = 3 → ¬ (4 ≤ i ∧ i < 7) → ¬ (40 ≤ i ∧ i < 80) → a' i = a i) (hp : ∀ p, p < np' → PV a' nb p) : IV c' a' nb nr np' ck' := by
  obtain ⟨h1, h2, h3', h4, h5, h6, h7, h8, h9, h10, h11, h12, h13, h14⟩ := hV
  refine ⟨(ho 1 (by omega) (by omega) (by omega) (by omega) (by omega)).trans h1, h2, (ho 2 (by omega) (by omega) (by omega) (by omega) (by omega)).trans h3', h4, h3, hnp, hnp2, h0, hck2, hs, fun b hb => ?_, fun r hr => ?_, fun r b w hr hb hb2 hw => (ho _ (by omega) (by omega) (by omega) (by omega) (by omega)).trans (h13 r b w hr hb hb2 hw), hp⟩
  · obtain ⟨v, hv, hv2⟩ := h11 b hb
    exact ⟨v, (ho _ (by omega) (by omega) (by omega) (by omega) (by omega)).trans hv, hv2⟩
  · obtain ⟨bu, la, st, cl, g1, g2, g3, g4, g5, g6, g7, g8, g9, g10, g11, g12⟩ := h12 r hr
    refine ⟨bu, la, st, cl, (ho _ (by omega) (by omega) (by omega) (by omega) (by omega)).trans g1, g2, g3, (ho _ (by omega) (by omega) (by omega) (by omega) (by omega)).trans g4, g5, g6, (ho _ (by omega) (by omega) (by omega) (by omega) (by omega)).trans g7, by omega, (ho _ (by omega) (by omega) (by omega) (by omega) (by omega)).trans g9, g10, g11, fun b hb => ?_⟩
    have hB := ((g12 b hb).mono hc).ag (a' := a') (fun w hw => ho _ (by omega) (by omega) (by omega) (by omega) (by omega))
    obtain ⟨s, ro, pe, ou, fi, k1, k2, k3, k4, k5, k6, k7, k8, k9, k10, k11, k13, k12⟩ := hB
    exact ⟨s, ro, pe, ou, fi, k1, k2, k3, k4, k5, k6, k7, k8, k9, k10, k11, k13, fun z y => Nat.le_trans (k12 z y) hck⟩
