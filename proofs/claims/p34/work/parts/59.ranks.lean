section Sum
variable {c : Nat} {g : Nat → Int32} {t : Nat → Nat → Int32} {a : Nat → Int32} {nb nr np ck nc : Nat}
/-- how many races are closed -/
theorem closed_ok (hV : IV c a nb nr np ck) (hE : EQ g t a nr) : ∃ nc, nc ≤ nr ∧ c_cl g = nI nc ∧ m_cl a nr = nI nc ∧ (∀ r, r < nr → (m_r a r 3 = nI 1 ∧ r < nc) ∨ (m_r a r 3 = nI 0 ∧ nc ≤ r)) ∧ (g 3 = nI 1 → 0 < nr ∧ nc = nr - 1) := by
  obtain ⟨h1, h2, h3, h4, h5, h6, h7, h8, h9, h10, h11, h12, h13, h14⟩ := id hV
  have hcl : ∀ r, r + 1 < nr → m_r a r 3 = nI 1 := fun r hr => by
    obtain ⟨bu, la, st, cl, g1, g2, g3, g4, g5, g6, g7, g8, g9, g10, g11, g12⟩ := h12 r (by omega)
    rw [g9, g11 hr]
  have hs : ∀ m, m + 1 ≤ nr → m_cl a m = nI m := by
    intro m
    induction m with
    | zero => intro _; rfl
    | succ m ih => intro hm; rw [m_cl, ih (by omega), hcl m (by omega), nI_add]
  have hg2 : g 2 = nI nr := hE.2.2.1.trans h3
  by_cases hp : 0 < nr ∧ m_r a (nr - 1) 3 = 0
  · have hg3 := (prep_iff hV hE).mpr hp
    refine ⟨nr - 1, by omega, ?_, ?_, fun r hr => ?_, fun _ => ⟨hp.1, rfl⟩⟩
    · unfold c_cl; rw [if_pos hg3, hg2, pk_sub (by omega)]
    · rw [show nr = nr - 1 + 1 by omega, m_cl, hs (nr - 1) (by omega), show nr - 1 + 1 - 1 = nr - 1 by omega, hp.2]; exact add0 _
    · by_cases q : r = nr - 1
      · exact Or.inr ⟨by rw [q]; exact hp.2, by omega⟩
      · exact Or.inl ⟨hcl r (by omega), by omega⟩
  · have hg3 : ¬ g 3 = nI 1 := fun z => hp ((prep_iff hV hE).mp z)
    have hl : 0 < nr → m_r a (nr - 1) 3 = nI 1 := fun hn => by
      obtain ⟨bu, la, st, cl, g1, g2, g3, g4, g5, g6, g7, g8, g9, g10, g11, g12⟩ := h12 (nr - 1) (by omega)
      have : ¬ cl = 0 := fun z => hp ⟨hn, by rw [g9, z]; rfl⟩
      rw [g9, show cl = 1 by omega]
    refine ⟨nr, Nat.le_refl _, ?_, ?_, fun r hr => ?_, fun z => absurd z hg3⟩
    · unfold c_cl; rw [if_neg hg3, hg2]
    · rcases Nat.eq_zero_or_pos nr with q | q
      · rw [q]; rfl
      · rw [show nr = nr - 1 + 1 by omega, m_cl, hs (nr - 1) (by omega), hl q, nI_add]
    · by_cases q : r = nr - 1
      · exact Or.inl ⟨by rw [q]; exact hl (by omega), hr⟩
      · exact Or.inl ⟨hcl r (by omega), hr⟩
theorem su_at (hV : IV c a nb nr np ck) {pt : Nat → Int32} {b : Nat} (hb : b < nb) (hn : nc ≤ 6) (hp : ∀ r, r < nc → pt (r * 9 + b) = m_pts a r b nb) : ∀ n, n ≤ nc → (sc_su pt (nI b) n).1 = m_sum a b nb n ∧ (n = 0 → sc_su pt (nI b) n = (nI 0, (-5), nI 0, nI 0)) ∧ (0 < n → ∃ j, m_lf a b nb n = some j ∧ j < n ∧ (sc_su pt (nI b) n).2.1 = nI j ∧ (sc_su pt (nI b) n).2.2.1 = m_pts a j b nb ∧ (sc_su pt (nI b) n).2.2.2 = m_pts a (n - 1) b nb) := by
  have h2 := hV.2.1
  intro n
  induction n with
  | zero => intro _; exact ⟨rfl, fun _ => rfl, fun z => absurd z (by omega)⟩
  | succ n ih =>
    intro hn2
    obtain ⟨i1, i2, i3⟩ := ih (by omega)
    have ev : tg 9 54 pt (nI n) (nI b) = m_pts a n b nb := (tg_in (by omega) (by omega)).trans (hp n (by omega))
    rcases Nat.eq_zero_or_pos n with q | q
    · subst q
      obtain ⟨p, p1, p2, p3⟩ := pts_nat hV (r := 0) hb
      have e : sc_su pt (nI b) 1 = (nI 0 + m_pts a 0 b nb, nI 0, m_pts a 0 b nb, m_pts a 0 b nb) := by
        rw [sc_su, ev, i2 rfl, if_neg (by rw [p1]; exact nI_nlt (by omega) (by omega))]
      rw [e]
      exact ⟨rfl, fun z => absurd z (by omega), fun _ => ⟨0, rfl, by omega, rfl, rfl, rfl⟩⟩
    · obtain ⟨j, j1, j2, j3, j4, j5⟩ := i3 q
      by_cases w : m_pts a n b nb < m_pts a j b nb
      · have e : sc_su pt (nI b) (n + 1) = ((sc_su pt (nI b) n).1 + m_pts a n b nb, (sc_su pt (nI b) n).2.1, (sc_su pt (nI b) n).2.2.1, m_pts a n b nb) := by
          rw [sc_su, ev, j4, if_pos w]
        rw [e]
        refine ⟨by rw [i1]; rfl, fun z => absurd z (by omega), fun _ => ⟨j, ?_, by omega, j3, j4, rfl⟩⟩
        rw [m_lf, j1]; simp only []; rw [if_pos w]
      · have e : sc_su pt (nI b) (n + 1) = ((sc_su pt (nI b) n).1 + m_pts a n b nb, nI n, m_pts a n b nb, m_pts a n b nb) := by
          rw [sc_su, ev, j4, if_neg w]
        rw [e]
        refine ⟨by rw [i1]; rfl, fun z => absurd z (by omega), fun _ => ⟨n, ?_, by omega, rfl, rfl, rfl⟩⟩
        rw [m_lf, j1]; simp only []; rw [if_neg w]
def m_lst (a : Nat → Int32) (b nb nc : Nat) : Int32 := if nc = 0 then nI 0 else m_pts a (nc - 1) b nb
theorem drp_iff (hV : IV c a nb nr np ck) (hE : EQ g t a nr) (hc : c_cl g = nI nc) : c_drp g t ↔ m_is a nc := by
  obtain ⟨s0, s1, s2, u1, u2, u3, u4, u5, u6⟩ := hV.2.2.2.2.2.2.2.2.2.1
  have es : tg 1 3 (t 1) (nI 2) (nI 0) = a 6 := hE.set (by omega)
  unfold c_drp m_is
  rw [es, hc, u5]
  constructor
  · intro h
    refine ⟨?_, h.2⟩
    have : s2 ≠ 0 := fun z => h.1 (by rw [z]; rfl)
    exact nI_lt (a := 0) (by omega) (by omega)
  · intro h
    refine ⟨fun z => ?_, h.2⟩
    rw [z] at h; exact absurd h.1 (by decide)
theorem sum_at {pt sm : Nat → Int32} {b : Nat} (hb : b < 9) : sc_sum g t pt sm (nI b) nc (b * 4) = (sc_su pt (nI b) nc).1 ∧ sc_sum g t pt sm (nI b) nc (b * 4 + 1) = (if c_drp g t then (sc_su pt (nI b) nc).1 - (sc_su pt (nI b) nc).2.2.1 else (sc_su pt (nI b) nc).1) ∧ sc_sum g t pt sm (nI b) nc (b * 4 + 2) = (if c_drp g t then (sc_su pt (nI b) nc).2.1 else (-5)) ∧ sc_sum g t pt sm (nI b) nc (b * 4 + 3) = (sc_su pt (nI b) nc).2.2.2 ∧ ∀ i, ¬ (b * 4 ≤ i ∧ i < b * 4 + 4) → sc_sum g t pt sm (nI b) nc i = sm i := by
  unfold sc_sum
  rw [tp_at (by omega) (by omega), tp_at (by omega) (by omega), tp_at (by omega) (by omega), tp_at (by omega) (by omega)]
  refine ⟨?_, ?_, ?_, ?_, fun i hi => ?_⟩
  · rw [pk_un (by omega), pk_un (by omega), pk_un (by omega)]; exact pk_us
  · rw [pk_un (by omega), pk_un (by omega), pk_us]
  · rw [pk_un (by omega), pk_us]
  · rw [pk_us]
  · rw [pk_un (by omega), pk_un (by omega), pk_un (by omega), pk_un (by omega)]
theorem s3_at {pt sm : Nat → Int32} : ∀ n, n ≤ 9 → ∀ b, b < n → sc_s3 g t pt nc sm n (b * 4) = (sc_su pt (nI b) nc).1 ∧ sc_s3 g t pt nc sm n (b * 4 + 1) = (if c_drp g t then (sc_su pt (nI b) nc).1 - (sc_su pt (nI b) nc).2.2.1 else (sc_su pt (nI b) nc).1) ∧ sc_s3 g t pt nc sm n (b * 4 + 2) = (if c_drp g t then (sc_su pt (nI b) nc).2.1 else (-5)) ∧ sc_s3 g t pt nc sm n (b * 4 + 3) = (sc_su pt (nI b) nc).2.2.2 := by
  intro n
  induction n with
  | zero => intro _ b hb; exact absurd hb (by omega)
  | succ n ih =>
    intro hn b hb
    obtain ⟨k1, k2, k3, k4, k5⟩ := sum_at (g := g) (t := t) (nc := nc) (pt := pt) (sm := sc_s3 g t pt nc sm n) (b := n) (by omega)
    rw [sc_s3]
    by_cases q : b = n
    · subst q; exact ⟨k1, k2, k3, k4⟩
    · obtain ⟨i1, i2, i3, i4⟩ := ih (by omega) b (by omega)
      rw [k5 _ (by omega), k5 _ (by omega), k5 _ (by omega), k5 _ (by omega)]
      exact ⟨i1, i2, i3, i4⟩
/-- what the class has counted, in the reference's words -/
theorem rec_ok (hc : c ≤ 513) (hV : IV c a nb nr np ck) (hE : EQ g t a nr) (hcc : c_cl g = nI nc) (hnc : nc ≤ nr) (tm pt sm tl : Nat → Int32) : ∀ b, b < nb → tg 4 36 (sc_s3 g t (sc_r2 g t nb tm pt (sc_ct tl nb) nc).2.1 nc sm nb) (nI b) (nI 0) = m_sum a b nb nc ∧ tg 4 36 (sc_s3 g t (sc_r2 g t nb tm pt (sc_ct tl nb) nc).2.1 nc sm nb) (nI b) (nI 1) = m_tot a b nb nc ∧ tg 4 36 (sc_s3 g t (sc_r2 g t nb tm pt (sc_ct tl nb) nc).2.1 nc sm nb) (nI b) (nI 2) = oI (m_lo a b nb nc) ∧ tg 4 36 (sc_s3 g t (sc_r2 g t nb tm pt (sc_ct tl nb) nc).2.1 nc sm nb) (nI b) (nI 3) = m_lst a b nb nc ∧ ∀ w, w < 10 → tg 10 90 (sc_r2 g t nb tm pt (sc_ct tl nb) nc).2.2 (nI b) (nI w) = m_pof a b nb w nc := by
  intro b hb
  have h2 := hV.2.1
  have h4 := hV.2.2.2.1
  obtain ⟨r1, r2⟩ := r2_at hc hV hE (tm := tm) (pt := pt) (tl := sc_ct tl nb) nc hnc
  obtain ⟨s1, s2, s3, s4⟩ := s3_at (g := g) (t := t) (nc := nc) (pt := (sc_r2 g t nb tm pt (sc_ct tl nb) nc).2.1) (sm := sm) nb h2 b hb
  obtain ⟨u1, u2, u3⟩ := su_at hV (nc := nc) (pt := (sc_r2 g t nb tm pt (sc_ct tl nb) nc).2.1) hb (by omega) (fun r hr => r1 r b hr hb) nc (Nat.le_refl _)
  have hd := drp_iff hV hE hcc
  refine ⟨?_, ?_, ?_, ?_, fun w hw => ?_⟩
  · rw [tg_in (by omega) (by omega)]; exact s1.trans u1
  · rw [tg_in (by omega) (by omega), s2, u1]
    unfold m_tot m_lo
    by_cases q : m_is a nc
    · rw [if_pos (hd.mpr q), if_pos q]
      have hn0 : 0 < nc := by
        rcases Nat.eq_zero_or_pos nc with z | z
        · rw [z] at q; exact absurd q.1 q.2
        · exact z
      obtain ⟨j, j1, j2, j3, j4, j5⟩ := u3 hn0
      rw [j4, j1]
    · rw [if_neg (fun z => q (hd.mp z)), if_neg q]
      show _ = m_sum a b nb nc - nI 0
      show _ = m_sum a b nb nc - 0
      rw [Int32.sub_zero]
  · rw [tg_in (by omega) (by omega), s3]
    unfold m_lo
    by_cases q : m_is a nc
    · rw [if_pos (hd.mpr q), if_pos q]
      have hn0 : 0 < nc := by
        rcases Nat.eq_zero_or_pos nc with z | z
        · rw [z] at q; exact absurd q.1 q.2
        · exact z
      obtain ⟨j, j1, j2, j3, j4, j5⟩ := u3 hn0
      rw [j3, j1]; rfl
    · rw [if_neg (fun z => q (hd.mp z)), if_neg q]; rfl
  · rw [tg_in (by omega) (by omega), s4]
    unfold m_lst
    rcases Nat.eq_zero_or_pos nc with z | z
    · rw [if_pos z, u2 z]
    · obtain ⟨j, j1, j2, j3, j4, j5⟩ := u3 z
      rw [if_neg (by omega), j5]
  · rw [tg_in (by omega) (by omega), r2 b w hb hw, ct_at nb h2, if_pos (by omega)]
    exact zadd _
end Sum
