def EQ (g : Nat → Int32) (t : Nat → Nat → Int32) (a : Nat → Int32) (nr : Nat) : Prop := g 0 = a 0 ∧ g 1 = a 1 ∧ g 2 = a 2 ∧ g 4 = a 3 ∧ (nr = 0 → g 3 = nI 0) ∧ (0 < nr → g 3 = m_r a (nr - 1) 3 + nI 1) ∧ (∀ j, j < 9 → t 0 j = a (7 + j)) ∧ (∀ j, j < 3 → t 1 j = a (4 + j)) ∧ (∀ r w, r < 6 → w < 3 → t 2 (r * 3 + w) = m_r a r w) ∧ (∀ i, i < 324 → t 3 i = a (80 + i)) ∧ (∀ i, i < 40 → t 4 i = a (40 + i))
/-- a boat's entry in a race; all: its roundings; st: the start; la: whether the race is the latest; ck: the clock -/
def BV (c : Nat) (a : Nat → Int32) (r b all st : Nat) (la : Prop) (ck : Nat) : Prop := ∃ s ro pe ou fi, m_e a r b 0 = nI s ∧ s ≤ 4 ∧ m_e a r b 1 = nI ro ∧ ro ≤ all ∧ m_e a r b 3 = nI pe ∧ pe ≤ 300 * c ∧ m_e a r b 4 = nI ou ∧ ou ≤ 1 ∧ m_e a r b 5 = nI fi ∧ fi ≤ 999999 ∧ (s = 3 → st ≤ fi) ∧ (s = 3 ∨ fi = 0) ∧ (la → s = 2 ∨ s = 3 → st ≤ ck)
def RV (c : Nat) (a : Nat → Int32) (nb nr ck r : Nat) : Prop := ∃ bu la st cl, m_r a r 0 = nI bu ∧ 0 < bu ∧ bu ≤ 5 ∧ m_r a r 1 = nI la ∧ 0 < la ∧ la ≤ 3 ∧ m_r a r 2 = nI st ∧ st ≤ 1003600 + 3600 * c ∧ m_r a r 3 = nI cl ∧ cl ≤ 1 ∧ (r + 1 < nr → cl = 1) ∧ ∀ b, b < nb → BV c a r b (bu * la) st (r + 1 = nr) ck
def PV (a : Nat → Int32) (nb p : Nat) : Prop := ∃ x y s, m_p a p 0 = nI x ∧ x < nb ∧ m_p a p 1 = nI y ∧ y < nb ∧ m_p a p 3 = nI s ∧ s ≤ 4
def SV (a : Nat → Int32) : Prop := ∃ s0 s1 s2, a 4 = nI s0 ∧ s0 ≤ 3600 ∧ a 5 = nI s1 ∧ s1 ≤ 300 ∧ a 6 = nI s2 ∧ s2 ≤ 6
/-- what always holds of the reference's row; c: how many calls there were -/
def IV (c : Nat) (a : Nat → Int32) (nb nr np ck : Nat) : Prop := a 1 = nI nb ∧ nb ≤ 9 ∧ a 2 = nI nr ∧ nr ≤ 6 ∧ a 3 = nI np ∧ np ≤ 10 ∧ (0 < np → 0 < nr) ∧ a 0 = nI ck ∧ ck ≤ 999999 ∧ SV a ∧ (∀ b, b < nb → ∃ v, a (7 + b) = nI v ∧ 50 ≤ v ∧ v ≤ 150) ∧ (∀ r, r < nr → RV c a nb nr ck r) ∧ (∀ r b w, r < 6 → nb ≤ b → b < 9 → w < 6 → m_e a r b w = 0) ∧ ∀ p, p < np → PV a nb p
def RS (c : Nat) (g : Nat → Int32) (t : Nat → Nat → Int32) (a : Nat → Int32) : Prop := ∃ nb nr np ck, IV c a nb nr np ck ∧ EQ g t a nr
theorem BV.mono {c c' : Nat} {a : Nat → Int32} {r b all st ck : Nat} {la : Prop} (hc : c ≤ c') (h : BV c a r b all st la ck) : BV c' a r b all st la ck := by
  obtain ⟨s, ro, pe, ou, fi, h1, h2, h3, h4, h5, h6, h7⟩ := h
  exact ⟨s, ro, pe, ou, fi, h1, h2, h3, h4, h5, by omega, h7⟩
theorem RV.mono {c c' : Nat} {a : Nat → Int32} {nb nr ck r : Nat} (hc : c ≤ c') (h : RV c a nb nr ck r) : RV c' a nb nr ck r := by
  obtain ⟨bu, la, st, cl, h1, h2, h3, h4, h5, h6, h7, h8, h9, h10, h11, h12⟩ := h
  exact ⟨bu, la, st, cl, h1, h2, h3, h4, h5, h6, h7, by omega, h9, h10, h11, fun b hb => (h12 b hb).mono hc⟩
theorem IV.mono {c c' : Nat} {a : Nat → Int32} {nb nr np ck : Nat} (hc : c ≤ c') (h : IV c a nb nr np ck) : IV c' a nb nr np ck := by
  obtain ⟨h1, h2, h3, h4, h5, h6, h7, h8, h9, h10, h11, h12, h13, h14⟩ := h
  exact ⟨h1, h2, h3, h4, h5, h6, h7, h8, h9, h10, h11, fun r hr => (h12 r hr).mono hc, h13, h14⟩
theorem RS.mono {c c' : Nat} {g : Nat → Int32} {t : Nat → Nat → Int32} {a : Nat → Int32} (hc : c ≤ c') (h : RS c g t a) : RS c' g t a := by
  obtain ⟨nb, nr, np, ck, h1, h2⟩ := h
  exact ⟨nb, nr, np, ck, h1.mono hc, h2⟩
def ag (a a' : Nat → Int32) : Prop := ∀ i, i < 404 → a' i = a i
theorem ag.r {a a' : Nat → Int32} (h : ag a a') {r w : Nat} (hr : r < 6) (hw : w < 4) : m_r a' r w = m_r a r w := h _ (by omega)
theorem ag.e {a a' : Nat → Int32} (h : ag a a') {r b w : Nat} (hr : r < 6) (hb : b < 9) (hw : w < 6) : m_e a' r b w = m_e a r b w := h _ (by omega)
theorem ag.p {a a' : Nat → Int32} (h : ag a a') {p w : Nat} (hp : p < 10) (hw : w < 4) : m_p a' p w = m_p a p w := h _ (by omega)
theorem BV.ag {c : Nat} {a a' : Nat → Int32} {r b all st ck : Nat} {la : Prop} (h : BV c a r b all st la ck) (q : ∀ w, w < 6 → m_e a' r b w = m_e a r b w) : BV c a' r b all st la ck := by
  obtain ⟨s, ro, pe, ou, fi, h1, h2, h3, h4, h5, h6, h7, h8, h9, h10⟩ := h
  exact ⟨s, ro, pe, ou, fi, (q 0 (by omega)).trans h1, h2, (q 1 (by omega)).trans h3, h4, (q 3 (by omega)).trans h5, h6, (q 4 (by omega)).trans h7, h8, (q 5 (by omega)).trans h9, h10⟩
theorem RV.ag {c : Nat} {a a' : Nat → Int32} {nb nr ck r : Nat} (h : RV c a nb nr ck r) (hr : r < 6) (hnb : nb ≤ 9) (q : ∀ w, w < 4 → m_r a' r w = m_r a r w) (q2 : ∀ b w, b < 9 → w < 6 → m_e a' r b w = m_e a r b w) : RV c a' nb nr ck r := by
  obtain ⟨bu, la, st, cl, h1, h2, h3, h4, h5, h6, h7, h8, h9, h10, h11, h12⟩ := h
  exact ⟨bu, la, st, cl, (q 0 (by omega)).trans h1, h2, h3, (q 1 (by omega)).trans h4, h5, h6, (q 2 (by omega)).trans h7, h8, (q 3 (by omega)).trans h9, h10, h11, fun b hb => (h12 b hb).ag (fun w hw => q2 b w (by omega) hw)⟩
theorem PV.ag {a a' : Nat → Int32} {nb p : Nat} (h : PV a nb p) (q : ∀ w, w < 4 → m_p a' p w = m_p a p w) : PV a' nb p := by
  obtain ⟨x, y, s, h1, h2, h3, h4, h5, h6⟩ := h
  exact ⟨x, y, s, (q 0 (by omega)).trans h1, h2, (q 1 (by omega)).trans h3, h4, (q 3 (by omega)).trans h5, h6⟩
theorem SV.ag {a a' : Nat → Int32} (h : SV a) (q : ∀ i, 4 ≤ i → i < 7 → a' i = a i) : SV a' := by
  obtain ⟨x, y, s, h1, h2, h3, h4, h5, h6⟩ := h
  exact ⟨x, y, s, (q 4 (by omega) (by omega)).trans h1, h2, (q 5 (by omega) (by omega)).trans h3, h4, (q 6 (by omega) (by omega)).trans h5, h6⟩
theorem IV.ag {c : Nat} {a a' : Nat → Int32} {nb nr np ck : Nat} (h : IV c a nb nr np ck) (q : ag a a') : IV c a' nb nr np ck := by
  obtain ⟨h1, h2, h3, h4, h5, h6, h7, h8, h9, h10, h11, h12, h13, h14⟩ := h
  refine ⟨(q 1 (by omega)).trans h1, h2, (q 2 (by omega)).trans h3, h4, (q 3 (by omega)).trans h5, h6, h7, (q 0 (by omega)).trans h8, h9, h10.ag (fun i h0 h1 => q i (by omega)), fun b hb => ?_, fun r hr => (h12 r hr).ag (by omega) h2 (fun w hw => q.r (by omega) hw) (fun b w hb hw => q.e (by omega) hb hw), fun r b w hr hb hb2 hw => (q.e hr hb2 hw).trans (h13 r b w hr hb hb2 hw), fun p hp => (h14 p hp).ag (fun w hw => q.p (by omega) hw)⟩
  obtain ⟨v, hv, hv2⟩ := h11 b hb
  exact ⟨v, (q _ (by omega)).trans hv, hv2⟩
theorem EQ.ag {g : Nat → Int32} {t : Nat → Nat → Int32} {a a' : Nat → Int32} {nr : Nat} (h : EQ g t a nr) (hr : nr ≤ 6) (q : ag a a') : EQ g t a' nr := by
  obtain ⟨h1, h2, h3, h4, h5, h6, h7, h8, h9, h10, h11⟩ := h
  exact ⟨h1.trans (q 0 (by omega)).symm, h2.trans (q 1 (by omega)).symm, h3.trans (q 2 (by omega)).symm, h4.trans (q 3 (by omega)).symm, h5, fun hn => (h6 hn).trans (by rw [q.r (by omega) (by omega)]), fun j hj => (h7 j hj).trans (q _ (by omega)).symm, fun j hj => (h8 j hj).trans (q _ (by omega)).symm, fun r w hr hw => (h9 r w hr hw).trans (q.r hr (by omega)).symm, fun i hi => (h10 i hi).trans (q _ (by omega)).symm, fun i hi => (h11 i hi).trans (q _ (by omega)).symm⟩
theorem RS.ag {c : Nat} {g : Nat → Int32} {t : Nat → Nat → Int32} {a a' : Nat → Int32} (h : RS c g t a) (q : ag a a') : RS c g t a' := by
  obtain ⟨nb, nr, np, ck, h1, h2⟩ := h
  exact ⟨nb, nr, np, ck, h1.ag q, h2.ag h1.2.2.2.1 q⟩
theorem tix {c r w : Nat} : tIx c (nI r) (nI w) = nI (r * c + w) := by rw [tIx, pk_mul, nI_add]
theorem tg_in {c n r w : Nat} {f : Nat → Int32} (h : r * c + w < n) (hn : n < 2 ^ 31) : tg c n f (nI r) (nI w) = f (r * c + w) := by
  unfold tg
  rw [tix, if_pos ⟨nI_pos' (by omega), nI_lt h hn⟩, nI_clamp (by omega)]
theorem tp_at {c n r w : Nat} {f : Nat → Int32} {v : Int32} (h : r * c + w < n) (hn : n < 2 ^ 31) : tp c n f (nI r) (nI w) v = upd f (r * c + w) v := by
  unfold tp
  rw [tix, if_pos ⟨nI_pos' (by omega), nI_lt h hn⟩, nI_clamp (by omega)]
theorem nI9 {r b : Nat} : nI r * nI 9 + nI b = nI (9 * r + b) := by rw [pk_mul, nI_add, Nat.mul_comm]
section Rd
variable {g : Nat → Int32} {t : Nat → Nat → Int32} {a : Nat → Int32} {nr : Nat}
theorem EQ.ent (h : EQ g t a nr) {r b w : Nat} (hr : r < 6) (hb : b < 9) (hw : w < 6) : tg 6 324 (t 3) (nI r * nI 9 + nI b) (nI w) = m_e a r b w := by
  rw [nI9, tg_in (by omega) (by omega), h.2.2.2.2.2.2.2.2.2.1 _ (by omega)]
  show a _ = a _
  congr 1; omega
theorem EQ.cent (h : EQ g t a nr) {r b w : Nat} (hr : r < 6) (hb : b < 9) (hw : w < 6) : c_ent t (nI r) (nI b) (nI w) = m_e a r b w := h.ent hr hb hw
theorem EQ.g2 (h : EQ g t a nr) (h2 : a 2 = nI nr) (hn : 0 < nr) : g 2 - nI 1 = nI (nr - 1) := by rw [h.2.2.1, h2, pk_sub (by omega)]
theorem EQ.lat (h : EQ g t a nr) (h2 : a 2 = nI nr) (hr6 : nr ≤ 6) (hn : 0 < nr) {b w : Nat} (hb : b < 9) (hw : w < 6) : c_lat g t (nI b) (nI w) = m_e a (nr - 1) b w := by
  unfold c_lat
  rw [h.g2 h2 hn]; exact h.ent (by omega) hb hw
theorem EQ.crs (h : EQ g t a nr) {r w : Nat} (hr : r < 6) (hw : w < 3) : tg 3 18 (t 2) (nI r) (nI w) = m_r a r w := by
  rw [tg_in (by omega) (by omega)]; exact h.2.2.2.2.2.2.2.2.1 r w hr hw
theorem EQ.crl (h : EQ g t a nr) (h2 : a 2 = nI nr) (hr6 : nr ≤ 6) (hn : 0 < nr) {w : Nat} (hw : w < 3) : tg 3 18 (t 2) (g 2 - nI 1) (nI w) = m_r a (nr - 1) w := by
  rw [h.g2 h2 hn]; exact h.crs (by omega) hw
theorem EQ.sta (h : EQ g t a nr) (h2 : a 2 = nI nr) (hr6 : nr ≤ 6) (hn : 0 < nr) : c_start g t = m_r a (nr - 1) 2 := h.crl h2 hr6 hn (by omega)
theorem EQ.rat (h : EQ g t a nr) {b : Nat} (hb : b < 9) : tg 1 9 (t 0) (nI b) (nI 0) = a (7 + b) := by
  rw [tg_in (by omega) (by omega), h.2.2.2.2.2.2.1 _ (by omega)]; congr 1; omega
theorem EQ.set (h : EQ g t a nr) {j : Nat} (hj : j < 3) : tg 1 3 (t 1) (nI j) (nI 0) = a (4 + j) := by
  rw [tg_in (by omega) (by omega), h.2.2.2.2.2.2.2.1 _ (by omega)]; congr 1; omega
theorem EQ.pro (h : EQ g t a nr) {p w : Nat} (hp : p < 10) (hw : w < 4) : tg 4 40 (t 4) (nI p) (nI w) = m_p a p w := by
  rw [tg_in (by omega) (by omega), h.2.2.2.2.2.2.2.2.2.2 _ (by omega)]
  show a _ = a _
  congr 1; omega
end Rd
/-- a race is prepared -/
theorem prep_iff {c : Nat} {g : Nat → Int32} {t : Nat → Nat → Int32} {a : Nat → Int32} {nb nr np ck : Nat} (hV : IV c a nb nr np ck) (hE : EQ g t a nr) : g 3 = nI 1 ↔ (0 < nr ∧ m_r a (nr - 1) 3 = 0) := by
  rcases Nat.eq_zero_or_pos nr with q | q
  · rw [hE.2.2.2.2.1 q]
    exact ⟨fun h => absurd h (by decide), fun h => absurd h.1 (by omega)⟩
  · rw [hE.2.2.2.2.2.1 q]
    obtain ⟨bu, la, st, cl, h1, h2, h3, h4, h5, h6, h7, h8, h9, h10, h11, h12⟩ := hV.2.2.2.2.2.2.2.2.2.2.2.1 (nr - 1) (by omega)
    rw [h9, nI_add, nI_eq (by omega) (by omega)]
    constructor
    · intro h; exact ⟨q, by rw [show cl = 0 by omega]; rfl⟩
    · intro h
      have : cl = 0 := (nI_eq (a := cl) (b := 0) (by omega) (by omega)).mp h.2
      omega
/-- a number below n, as both sides ask for it -/
theorem inN (x : Int32) {n : Nat} (hn : n ≤ 40) : (∃ b, b < n ∧ x = nI b ∧ x.toNatClampNeg = b ∧ (¬ x < 0 ∧ ¬ nI n ≤ x) ∧ (¬ x < nI 0 ∧ ¬ nI n - nI 1 < x)) ∨ (¬ (¬ x < 0 ∧ ¬ nI n ≤ x) ∧ ¬ (¬ x < nI 0 ∧ ¬ nI n - nI 1 < x)) := by
  have e0 : (nI 0 : Int32) = 0 := rfl
  by_cases h0 : x < 0
  · exact Or.inr ⟨fun h => h.1 h0, fun h => h.1 (by rw [e0]; exact h0)⟩
  · obtain ⟨j, hj, rfl⟩ := nI_of h0
    have hs : (nI n - nI 1 < nI j) ↔ (n : Int) - 1 < j := by rw [Int32.lt_iff_toInt_lt, pk_sub_toInt (by omega) (by omega), nI_toInt hj]; exact Iff.rfl
    by_cases q : j < n
    · exact Or.inl ⟨j, q, rfl, nI_clamp hj, ⟨h0, nI_ge q (by omega)⟩, h0, fun h => by have := hs.mp h; omega⟩
    · exact Or.inr ⟨fun h => h.2 ((nI_leI (by omega) hj).mpr (by omega)), fun h => h.2 (hs.mpr (by omega))⟩
theorem nI_nn {n : Nat} (h : n < 2 ^ 31) : 0 ≤ nI n := nI_pos' h
theorem nlt_le {x y : Int32} (h : ¬ x < y) : y ≤ x := Int32.not_lt.mp h
theorem nle_lt {x y : Int32} (h : ¬ x ≤ y) : y < x := Int32.not_le.mp h
theorem le_nlt {x y : Int32} (h : y ≤ x) : ¬ x < y := Int32.not_lt.mpr h
theorem lt_nle {x y : Int32} (h : y < x) : ¬ x ≤ y := Int32.not_le.mpr h
