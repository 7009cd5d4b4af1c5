theorem add0 (x : Int32) : x + nI 0 = x := by show x + 0 = x; exact Int32.add_zero x
theorem zadd (x : Int32) : (0 : Int32) + x = x := Int32.zero_add x
section Sco
variable {c : Nat} {g : Nat → Int32} {t : Nat → Nat → Int32} {a : Nat → Int32} {nb nr np ck : Nat}
theorem IV.bv (hV : IV c a nb nr np ck) {r b : Nat} (hr : r < nr) (hb : b < nb) : ∃ s fi st pe ou v, m_e a r b 0 = nI s ∧ s ≤ 4 ∧ m_e a r b 5 = nI fi ∧ fi ≤ 999999 ∧ m_r a r 2 = nI st ∧ st ≤ 1003600 + 3600 * c ∧ (s = 3 → st ≤ fi) ∧ m_e a r b 3 = nI pe ∧ pe ≤ 300 * c ∧ m_e a r b 4 = nI ou ∧ ou ≤ 1 ∧ a (7 + b) = nI v ∧ 50 ≤ v ∧ v ≤ 150 := by
  obtain ⟨bu, la, st, cl, g1, g2, g3, g4, g5, g6, g7, g8, g9, g10, g11, g12⟩ := hV.2.2.2.2.2.2.2.2.2.2.2.1 r hr
  obtain ⟨s, ro, pe, ou, fi, k1, k2, k3, k4, k5, k6, k7, k8, k9, k10, k11, k13, k12⟩ := g12 b hb
  obtain ⟨v, v1, v2, v3⟩ := hV.2.2.2.2.2.2.2.2.2.2.1 b hb
  exact ⟨s, fi, st, pe, ou, v, k1, k2, k9, k10, g7, g8, k11, k5, k6, k7, k8, v1, v2, v3⟩
theorem co_fin (hc : c ≤ 513) (hV : IV c a nb nr np ck) {r b : Nat} (hr : r < nr) (hb : b < nb) (hf : m_e a r b 0 = nI 3) : ∃ q, m_co a r b = nI q ∧ q < 2 ^ 22 := by
  obtain ⟨s, fi, st, pe, ou, v, k1, k2, k3, k4, k5, k6, k7, k8, k9, k10, k11, k12, k13, k14⟩ := hV.bv hr hb
  have hs : s = 3 := (nI_eq (by omega) (by omega)).mp (k1.symm.trans hf)
  have h7 := k7 hs
  have e : m_co a r b = nI (100 * (fi - st + pe) / v) := by
    unfold m_co m_el
    rw [if_pos hf, if_pos hf, k3, k5, k8, k12, pk_sub h7, nI_add, pk_mul, pk_div (by omega) (by omega) (by omega)]
  refine ⟨_, e, ?_⟩
  have : 100 * (fi - st + pe) / v ≤ 100 * (fi - st + pe) / 50 := Nat.div_le_div_left k13 (by omega)
  omega
theorem co_no {r b : Nat} (hf : ¬ m_e a r b 0 = nI 3) : m_co a r b = (-5) := if_neg hf
theorem co_eq (hV : IV c a nb nr np ck) (hE : EQ g t a nr) {r b : Nat} (hr : r < nr) (hb : b < nb) : c_co t (nI r) (nI b) = m_co a r b := by
  have h4 := hV.2.2.2.1
  have h2 := hV.2.1
  obtain ⟨s, fi, st, pe, ou, v, k1, k2, k3, k4, k5, k6, k7, k8, k9, k10, k11, k12, k13, k14⟩ := hV.bv hr hb
  have e0 := hE.cent (r := r) (b := b) (w := 0) (by omega) (by omega) (by omega)
  have e5 := hE.cent (r := r) (b := b) (w := 5) (by omega) (by omega) (by omega)
  have e3 := hE.cent (r := r) (b := b) (w := 3) (by omega) (by omega) (by omega)
  have er := hE.rat (b := b) (by omega)
  have es := hE.crs (r := r) (w := 2) (by omega) (by omega)
  unfold c_co m_co m_el c_eu
  rw [e0, e5, e3, er, es]
  by_cases q : m_e a r b 0 = nI 3
  · rw [if_pos ⟨q, by rw [k12]; exact nI_lt (a := 0) (by omega) (by omega)⟩, if_pos q, if_pos q]
  · rw [if_neg (fun z => q z.1), if_neg q]
theorem el_eq (hV : IV c a nb nr np ck) (hE : EQ g t a nr) {r b : Nat} (hr : r < nr) (hb : b < nb) : c_el t (nI r) (nI b) = m_el a r b := by
  have h4 := hV.2.2.2.1
  have h2 := hV.2.1
  have e0 := hE.cent (r := r) (b := b) (w := 0) (by omega) (by omega) (by omega)
  have e5 := hE.cent (r := r) (b := b) (w := 5) (by omega) (by omega) (by omega)
  have e3 := hE.cent (r := r) (b := b) (w := 3) (by omega) (by omega) (by omega)
  have es := hE.crs (r := r) (w := 2) (by omega) (by omega)
  unfold c_el m_el c_eu
  rw [e0, e5, e3, es]
/-- a boat's time, or none -/
def tmv (a : Nat → Int32) (r b : Nat) : Int32 := if m_e a r b 4 = nI 1 then (-5) else m_co a r b
theorem tmv_c (hc : c ≤ 513) (hV : IV c a nb nr np ck) {r b : Nat} (hr : r < nr) (hb : b < nb) (h : m_cnt a r b) : tmv a r b = m_co a r b ∧ ¬ m_co a r b = (-5) := by
  obtain ⟨q, e1, e2⟩ := co_fin hc hV hr hb h.1
  refine ⟨if_neg (fun z => ?_), by rw [e1]; exact nI_ne5 (by omega)⟩
  rw [h.2] at z; exact absurd z (by decide)
theorem tmv_n (hV : IV c a nb nr np ck) {r b : Nat} (hr : r < nr) (hb : b < nb) (h : ¬ m_cnt a r b) : tmv a r b = (-5) := by
  obtain ⟨s, fi, st, pe, ou, v, k1, k2, k3, k4, k5, k6, k7, k8, k9, k10, k11, k12, k13, k14⟩ := hV.bv hr hb
  unfold tmv
  by_cases q : m_e a r b 4 = nI 1
  · rw [if_pos q]
  · rw [if_neg q]
    refine co_no (fun z => h ⟨z, ?_⟩)
    rw [k10] at q ⊢
    rcases (show ou = 0 ∨ ou = 1 by omega) with rfl | rfl
    · rfl
    · exact absurd rfl q
theorem rt_at (hV : IV c a nb nr np ck) (hE : EQ g t a nr) {r : Nat} (hr : r < nr) {tm : Nat → Int32} : ∀ n, n ≤ nb → ∀ b, b < n → sc_rt t (nI r) tm n b = tmv a r b := by
  have h2 := hV.2.1
  have h4 := hV.2.2.2.1
  intro n
  induction n with
  | zero => intro _ b hb; exact absurd hb (by omega)
  | succ n ih =>
    intro hn b hb
    have e4 : tg 6 324 (t 3) (nI r * nI 9 + nI n) (nI 4) = m_e a r n 4 := hE.ent (by omega) (by omega) (by omega)
    have ec := co_eq hV hE hr (b := n) (by omega)
    have key : sc_rt t (nI r) tm (n + 1) = upd (sc_rt t (nI r) tm n) n (tmv a r n) := by
      rw [sc_rt, e4, ec]
      unfold tmv
      by_cases q : m_e a r n 4 = nI 1
      · rw [if_pos q, if_pos q, tp_at (by omega) (by omega), show n * 1 + 0 = n by omega]
      · rw [if_neg q, if_neg q, tp_at (by omega) (by omega), show n * 1 + 0 = n by omega]
    rw [key]
    by_cases q : b = n
    · rw [q, pk_us]
    · rw [pk_un q]; exact ih (by omega) b (by omega)
theorem rt_tg (hV : IV c a nb nr np ck) (hE : EQ g t a nr) {r : Nat} (hr : r < nr) {tm : Nat → Int32} {b : Nat} (hb : b < nb) : tg 1 9 (sc_rt t (nI r) tm nb) (nI b) (nI 0) = tmv a r b := by
  have h2 := hV.2.1
  rw [tg_in (by omega) (by omega), show b * 1 + 0 = b by omega]
  exact rt_at hV hE hr nb (Nat.le_refl _) b hb
theorem pl_eq (hc : c ≤ 513) (hV : IV c a nb nr np ck) (hE : EQ g t a nr) {r : Nat} (hr : r < nr) {tm : Nat → Int32} {b : Nat} : ∀ n, n ≤ nb → sc_pl (sc_rt t (nI r) tm nb) (m_co a r b) n = m_pl a r b n := by
  intro n
  induction n with
  | zero => intro _; rfl
  | succ n ih =>
    intro hn
    rw [sc_pl, m_pl, ih (by omega), rt_tg hV hE hr (by omega)]
    by_cases q : m_cnt a r n
    · obtain ⟨q1, q2⟩ := tmv_c hc hV hr (by omega) q
      rw [q1, if_neg q2, if_pos q]
      by_cases q3 : m_co a r b ≤ m_co a r n
      · rw [if_pos q3, if_pos q3, add0]
      · rw [if_neg q3, if_neg q3]; rfl
    · rw [tmv_n hV hr (by omega) q, if_pos rfl, if_neg q, add0]
theorem place_eq (hc : c ≤ 513) (hV : IV c a nb nr np ck) (hE : EQ g t a nr) {r : Nat} (hr : r < nr) {tm : Nat → Int32} {b : Nat} (hb : b < nb) : s_place (sc_rt t (nI r) tm nb) (nI b) nb = m_place a r b nb := by
  unfold s_place m_place
  rw [rt_tg hV hE hr hb]
  by_cases q : m_cnt a r b
  · obtain ⟨q1, q2⟩ := tmv_c hc hV hr hb q
    rw [q1, if_neg q2, if_pos q]
    exact pl_eq hc hV hE hr nb (Nat.le_refl _)
  · rw [tmv_n hV hr hb q, if_pos rfl, if_neg q]
theorem pl_nat (hV : IV c a nb nr np ck) {r b : Nat} : ∀ n, n ≤ nb → ∃ p, m_pl a r b n = nI p ∧ 1 ≤ p ∧ p ≤ n + 1 ∧ (b < n → p ≤ n) := by
  intro n
  induction n with
  | zero => intro _; exact ⟨1, rfl, Nat.le_refl _, Nat.le_refl _, fun h => absurd h (by omega)⟩
  | succ n ih =>
    intro hn
    obtain ⟨p, p1, p2, p3, p4⟩ := ih (by omega)
    rw [m_pl, p1]
    by_cases q : m_cnt a r n
    · rw [if_pos q]
      by_cases q2 : m_co a r b ≤ m_co a r n
      · rw [if_pos q2, add0]
        exact ⟨p, rfl, p2, by omega, fun _ => by omega⟩
      · rw [if_neg q2, nI_add]
        refine ⟨p + 1, rfl, by omega, by omega, fun h => ?_⟩
        have : b ≠ n := fun z => q2 (by rw [z]; exact Int32.le_refl _)
        have := p4 (by omega)
        omega
    · rw [if_neg q, add0]
      exact ⟨p, rfl, p2, by omega, fun h => by omega⟩
theorem place_nat (hV : IV c a nb nr np ck) {r b : Nat} (hb : b < nb) : (m_cnt a r b ∧ ∃ p, m_place a r b nb = nI p ∧ 1 ≤ p ∧ p ≤ nb) ∨ (¬ m_cnt a r b ∧ m_place a r b nb = (-5)) := by
  unfold m_place
  by_cases q : m_cnt a r b
  · rw [if_pos q]
    obtain ⟨p, p1, p2, p3, p4⟩ := pl_nat hV (r := r) (b := b) nb (Nat.le_refl _)
    exact Or.inl ⟨q, p, p1, p2, p4 hb⟩
  · rw [if_neg q]; exact Or.inr ⟨q, rfl⟩
theorem pts_nat (hV : IV c a nb nr np ck) {r b : Nat} (hb : b < nb) : ∃ p, m_pts a r b nb = nI p ∧ 1 ≤ p ∧ p ≤ 11 := by
  have h2 := hV.2.1
  unfold m_pts
  rcases place_nat hV (r := r) hb with ⟨q, p, p1, p2, p3⟩ | ⟨q, p1⟩
  · rw [p1, if_neg (nI_ne5 (by omega))]
    exact ⟨p, rfl, p2, by omega⟩
  · rw [p1, if_pos rfl, hV.1, nI_add, nI_add]
    split
    · exact ⟨nb + 2, rfl, by omega, by omega⟩
    · exact ⟨nb + 1, rfl, by omega, by omega⟩
theorem ptf_eq (hV : IV c a nb nr np ck) (hE : EQ g t a nr) {r : Nat} (hr : r < nr) {b : Nat} (hb : b < nb) : s_X4_pointsFor g t (nI r) (nI b) (m_place a r b nb) = m_pts a r b nb := by
  have h2 := hV.2.1
  have h4 := hV.2.2.2.1
  have e4 : tg 6 324 (t 3) (nI r * nI 9 + nI b) (nI 4) = m_e a r b 4 := hE.ent (by omega) (by omega) (by omega)
  unfold s_X4_pointsFor m_pts
  rw [e4, hE.2.1]
  by_cases q : m_e a r b 4 = nI 1
  · have : m_place a r b nb = (-5) := if_neg (fun z => by rw [z.2] at q; exact absurd q (by decide))
    rw [if_pos q, this, if_pos rfl, if_pos q]
  · rw [if_neg q, if_neg q]
theorem rr_at (hc : c ≤ 513) (hV : IV c a nb nr np ck) (hE : EQ g t a nr) {r : Nat} (hr : r < nr) {tm pt tl : Nat → Int32} : ∀ n, n ≤ nb → (∀ b, b < n → (sc_rr g t (nI r) (sc_rt t (nI r) tm nb) nb pt tl n).1 (r * 9 + b) = m_pts a r b nb) ∧ (∀ i, ¬ (r * 9 ≤ i ∧ i < r * 9 + n) → (sc_rr g t (nI r) (sc_rt t (nI r) tm nb) nb pt tl n).1 i = pt i) ∧ (∀ b w, b < 9 → w < 10 → (sc_rr g t (nI r) (sc_rt t (nI r) tm nb) nb pt tl n).2 (b * 10 + w) = tl (b * 10 + w) + (if b < n ∧ m_place a r b nb = nI w then nI 1 else nI 0)) := by
  have h2 := hV.2.1
  have h4 := hV.2.2.2.1
  intro n
  induction n with
  | zero =>
    intro _
    refine ⟨fun b hb => absurd hb (by omega), fun i _ => rfl, fun b w _ _ => ?_⟩
    rw [if_neg (fun z => absurd z.1 (by omega)), add0]; rfl
  | succ n ih =>
    intro hn
    obtain ⟨i1, i2, i3⟩ := ih (by omega)
    have ep := place_eq hc hV hE hr (tm := tm) (b := n) (by omega)
    have ef := ptf_eq hV hE hr (b := n) (by omega)
    have k1 : (sc_rr g t (nI r) (sc_rt t (nI r) tm nb) nb pt tl (n + 1)).1 = upd (sc_rr g t (nI r) (sc_rt t (nI r) tm nb) nb pt tl n).1 (r * 9 + n) (m_pts a r n nb) := by
      rw [sc_rr, ep, ef, tp_at (by omega) (by omega)]
      split <;> rfl
    refine ⟨fun b hb => ?_, fun i hi => ?_, fun b w hb hw => ?_⟩
    · rw [k1]
      by_cases q : b = n
      · rw [q, pk_us]
      · rw [pk_un (by omega)]; exact i1 b (by omega)
    · rw [k1, pk_un (by omega)]; exact i2 i (by omega)
    · rcases place_nat hV (r := r) (b := n) (by omega) with ⟨_, p, p1, p2, p3⟩ | ⟨_, p1⟩
      · have k2 : (sc_rr g t (nI r) (sc_rt t (nI r) tm nb) nb pt tl (n + 1)).2 = upd (sc_rr g t (nI r) (sc_rt t (nI r) tm nb) nb pt tl n).2 (n * 10 + p) ((sc_rr g t (nI r) (sc_rt t (nI r) tm nb) nb pt tl n).2 (n * 10 + p) + nI 1) := by
          rw [sc_rr, ep, p1, if_neg (nI_ne5 (by omega))]
          show tp 10 90 _ _ _ _ = _
          rw [tp_at (by omega) (by omega), tg_in (by omega) (by omega)]
        rw [k2]
        by_cases q : b = n
        · subst q
          by_cases q2 : w = p
          · subst q2
            rw [pk_us, i3 b w hb hw, if_neg (fun z => absurd z.1 (by omega)), add0, if_pos ⟨by omega, p1⟩]
          · rw [pk_un (by omega), i3 b w hb hw, if_neg (fun z => absurd z.1 (by omega)), if_neg (fun z => q2 ((nI_eq (by omega) (by omega)).mp (z.2.symm.trans p1)))]
        · rw [pk_un (by omega), i3 b w hb hw]
          by_cases q2 : b < n ∧ m_place a r b nb = nI w
          · rw [if_pos q2, if_pos ⟨by omega, q2.2⟩]
          · rw [if_neg q2, if_neg (fun z => q2 ⟨by omega, z.2⟩)]
      · have k2 : (sc_rr g t (nI r) (sc_rt t (nI r) tm nb) nb pt tl (n + 1)).2 = (sc_rr g t (nI r) (sc_rt t (nI r) tm nb) nb pt tl n).2 := by
          rw [sc_rr, ep, p1, if_pos rfl]
        rw [k2, i3 b w hb hw]
        by_cases q : b < n ∧ m_place a r b nb = nI w
        · rw [if_pos q, if_pos ⟨by omega, q.2⟩]
        · rw [if_neg q, if_neg (fun z => ?_)]
          by_cases q2 : b = n
          · rw [q2, p1] at z; exact nI_ne5 (j := w) (by omega) z.2.symm
          · exact q ⟨by omega, z.2⟩
theorem r2_at (hc : c ≤ 513) (hV : IV c a nb nr np ck) (hE : EQ g t a nr) {tm pt tl : Nat → Int32} : ∀ m, m ≤ nr → (∀ r b, r < m → b < nb → (sc_r2 g t nb tm pt tl m).2.1 (r * 9 + b) = m_pts a r b nb) ∧ (∀ b w, b < nb → w < 10 → (sc_r2 g t nb tm pt tl m).2.2 (b * 10 + w) = tl (b * 10 + w) + m_pof a b nb w m) := by
  have h2 := hV.2.1
  have h4 := hV.2.2.2.1
  intro m
  induction m with
  | zero =>
    intro _
    refine ⟨fun r b hr => absurd hr (by omega), fun b w _ _ => ?_⟩
    show tl _ = tl _ + nI 0
    rw [add0]
  | succ m ih =>
    intro hm
    obtain ⟨i1, i2⟩ := ih (by omega)
    obtain ⟨j1, j2, j3⟩ := rr_at hc hV hE (r := m) (by omega) (tm := (sc_r2 g t nb tm pt tl m).1) (pt := (sc_r2 g t nb tm pt tl m).2.1) (tl := (sc_r2 g t nb tm pt tl m).2.2) nb (Nat.le_refl _)
    refine ⟨fun r b hr hb => ?_, fun b w hb hw => ?_⟩
    · show (sc_rr g t (nI m) (sc_rt t (nI m) (sc_r2 g t nb tm pt tl m).1 nb) nb (sc_r2 g t nb tm pt tl m).2.1 (sc_r2 g t nb tm pt tl m).2.2 nb).1 (r * 9 + b) = _
      by_cases q : r = m
      · rw [q]; exact j1 b hb
      · rw [j2 _ (by omega)]; exact i1 r b (by omega) hb
    · show (sc_rr g t (nI m) (sc_rt t (nI m) (sc_r2 g t nb tm pt tl m).1 nb) nb (sc_r2 g t nb tm pt tl m).2.1 (sc_r2 g t nb tm pt tl m).2.2 nb).2 (b * 10 + w) = _
      rw [j3 b w (by omega) hw, i2 b w hb hw, m_pof]
      by_cases q : m_place a m b nb = nI w
      · rw [if_pos ⟨hb, q⟩, if_pos q, Int32.add_assoc]
      · rw [if_neg (fun z => q z.2), if_neg q, add0, add0]
end Sco
theorem tcl_gen {cc n r i : Nat} {F : Nat → Int32} (h : r * cc + cc ≤ n) (hn : n < 2 ^ 31) : ∀ j, j ≤ cc → tcl cc n F (nI r) j i = if r * cc ≤ i ∧ i < r * cc + j then nI 0 else F i := by
  intro j
  induction j with
  | zero => intro _; rw [if_neg (by omega)]; rfl
  | succ j ih =>
    intro hj
    rw [tcl, tp_at (by omega) hn]
    by_cases q : i = r * cc + j
    · rw [q, pk_us, if_pos (by omega)]
    · rw [pk_un q, ih (by omega)]
      by_cases w : r * cc ≤ i ∧ i < r * cc + j
      · rw [if_pos w, if_pos (by omega)]
      · rw [if_neg w, if_neg (by omega)]
theorem ct_at {tl : Nat → Int32} {i : Nat} : ∀ n, n ≤ 9 → sc_ct tl n i = if i < n * 10 then nI 0 else tl i := by
  intro n
  induction n with
  | zero => intro _; rw [if_neg (by omega)]; rfl
  | succ n ih =>
    intro hn
    rw [sc_ct, tcl_gen (by omega) (by omega) 10 (by omega), ih (by omega)]
    by_cases w : i < n * 10
    · rw [if_pos w, if_pos (show i < (n + 1) * 10 by omega)]
      split <;> rfl
    · rw [if_neg w]
      by_cases w2 : n * 10 ≤ i ∧ i < n * 10 + 10
      · rw [if_pos w2, if_pos (by omega)]
      · rw [if_neg w2, if_neg (by omega)]
