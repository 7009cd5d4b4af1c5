/-! the text's events, one after the other -/
def cEv (g : Nat → Int32) (t : Nat → Nat → Int32) (y : Ev) : C3 := if y.1 = 43 then s_X0_passTime g t (nI y.2.1) else if y.1 = 98 then s_X0_passBuoy g t (nI y.2.1) (nI y.2.2.1) else if y.1 = 104 then s_X2_hailProtest g t (nI y.2.1) (nI y.2.2.1) else if y.1 = 108 then s_X0_crossLine g t (nI y.2.1) else s_X0_retireBoat g t (nI y.2.1)
section Run
variable {c : Nat} {g : Nat → Int32} {t : Nat → Nat → Int32} {a : Nat → Int32} {nb nr np ck n : Nat} {tx : Nat → Nat}
theorem EvOK.fin {R : C3} {er : Int32} {D : (Nat → Int32) → (Nat → Int32) → (Nat → Int32) → (Nat → Int32) → M6} (q : EvOK c g t nb nr R er D) {er2 : Int32} {a2 h sn tx k : Nat → Int32} (he : er2 = er) (ha : a2 = (D h sn tx k).2.1) : (er2 < 0 ∧ R = (er2, g, t)) ∨ (¬ er2 < 0 ∧ 0 ≤ R.1 ∧ ∃ np' ck', IV c a2 nb nr np' ck' ∧ EQ R.2.1 R.2.2 a2 nr) := by
  subst he
  rcases q with ⟨q1, q2⟩ | ⟨q1, q2, a', np', ck', q3, q4, q5⟩
  · exact Or.inl ⟨q1, q2⟩
  · have : a2 = a' := by rw [ha, q3]
    subst this
    exact Or.inr ⟨by rw [q1]; decide, q2, np', ck', q4, q5⟩
theorem ev_any (hc : c ≤ 512) (hV : IV c a nb nr np ck) (hE : EQ g t a nr) {y : Ev} (hL : isL y.1) (hx : y.2.1 < 1000) : (erA a y nr < 0 ∧ cEv g t y = (erA a y nr, g, t)) ∨ (¬ erA a y nr < 0 ∧ 0 ≤ (cEv g t y).1 ∧ ∃ np' ck', IV c (dzA a y nr) nb nr np' ck' ∧ EQ (cEv g t y).2.1 (cEv g t y).2.2 (dzA a y nr) nr) := by
  have h5 := hV.2.2.2.2.1
  have h6 := hV.2.2.2.2.2.1
  obtain ⟨L, x, z, w⟩ := y
  simp only at hL hx
  have hcl : (nI x).toNatClampNeg = x := nI_clamp (by omega)
  have hn3 : (a 3).toNatClampNeg = np := by rw [h5, nI_clamp (by omega)]
  rcases hL with rfl | rfl | rfl | rfl | rfl
  · have e : erA a (43, x, z, w) nr = s_X8_passError a (nI x) := by
      unfold erA s_X8_errorOfEvent
      exact if_pos l43
    have hR : cEv g t (43, x, z, w) = s_X0_passTime g t (nI x) := if_pos rfl
    rw [hR]
    refine (ev_pass hV hE (nI x)).fin (h := a) (sn := a) (tx := a) (k := a) e ?_
    rcases dz_e (a := a) (y := (43, x, z, w)) (nr := nr) (Or.inl rfl) with ⟨-, q⟩ | ⟨q, -⟩ | ⟨q, -⟩ | ⟨q, -⟩ | ⟨q, -⟩
    · rw [q]; rfl
    all_goals exact absurd q (by simp)
  · have e : erA a (108, x, z, w) nr = s_X8_lineError a (nI x) nr := by
      unfold erA s_X8_errorOfEvent
      refine (if_neg n108_43).trans ?_
      refine (if_neg n108_98).trans ?_
      exact if_pos l108
    have hR : cEv g t (108, x, z, w) = s_X0_crossLine g t (nI x) := rfl
    rw [hR]
    refine (ev_line hc hV hE (nI x)).fin (h := a) (sn := a) (tx := a) (k := kk (108, x, z, w)) e ?_
    rcases dz_e (a := a) (y := (108, x, z, w)) (nr := nr) (Or.inr (Or.inl rfl)) with ⟨q, -⟩ | ⟨-, q⟩ | ⟨q, -⟩ | ⟨q, -⟩ | ⟨q, -⟩
    · exact absurd q (by simp)
    · rw [q, hcl]
    all_goals exact absurd q (by simp)
  · have e : erA a (114, x, z, w) nr = s_X8_retireError a (nI x) nr := by
      unfold erA s_X8_errorOfEvent
      refine (if_neg n114_43).trans ?_
      refine (if_neg n114_98).trans ?_
      refine (if_neg n114_108).trans ?_
      exact if_pos l114
    have hR : cEv g t (114, x, z, w) = s_X0_retireBoat g t (nI x) := rfl
    rw [hR]
    refine (ev_retire hc hV hE (nI x)).fin (h := a) (sn := a) (tx := a) (k := kk (114, x, z, w)) e ?_
    rcases dz_e (a := a) (y := (114, x, z, w)) (nr := nr) (Or.inr (Or.inr (Or.inl rfl))) with ⟨q, -⟩ | ⟨q, -⟩ | ⟨-, q⟩ | ⟨q, -⟩ | ⟨q, -⟩
    · exact absurd q (by simp)
    · exact absurd q (by simp)
    · rw [q, hcl]; rfl
    all_goals exact absurd q (by simp)
  · have e : erA a (98, x, z, w) nr = s_X8_buoyError a (nI x) (nI z) nr := by
      unfold erA s_X8_errorOfEvent
      refine (if_neg n98_43).trans ?_
      exact if_pos l98
    have hR : cEv g t (98, x, z, w) = s_X0_passBuoy g t (nI x) (nI z) := rfl
    rw [hR]
    refine (ev_buoy hc hV hE (nI x) (nI z)).fin (h := a) (sn := a) (tx := a) (k := kk (98, x, z, w)) e ?_
    rcases dz_e (a := a) (y := (98, x, z, w)) (nr := nr) (Or.inr (Or.inr (Or.inr (Or.inl rfl)))) with ⟨q, -⟩ | ⟨q, -⟩ | ⟨q, -⟩ | ⟨-, q⟩ | ⟨q, -⟩
    · exact absurd q (by simp)
    · exact absurd q (by simp)
    · exact absurd q (by simp)
    · rw [q, hcl]
    · exact absurd q (by simp)
  · have e : erA a (104, x, z, w) nr = s_X8_hailError a (nI x) (nI z) nr := by
      unfold erA s_X8_errorOfEvent
      refine (if_neg n104_43).trans ?_
      refine (if_neg n104_98).trans ?_
      refine (if_neg n104_108).trans ?_
      exact if_neg n104_114
    have hR : cEv g t (104, x, z, w) = s_X2_hailProtest g t (nI x) (nI z) := rfl
    rw [hR]
    refine (ev_hail hc hV hE (nI x) (nI z)).fin (h := a) (sn := a) (tx := a) (k := kk (104, x, z, w)) e ?_
    rcases dz_e (a := a) (y := (104, x, z, w)) (nr := nr) (Or.inr (Or.inr (Or.inr (Or.inr rfl)))) with ⟨q, -⟩ | ⟨q, -⟩ | ⟨q, -⟩ | ⟨q, -⟩ | ⟨-, q⟩
    · exact absurd q (by simp)
    · exact absurd q (by simp)
    · exact absurd q (by simp)
    · exact absurd q (by simp)
    · rw [q, hn3]
theorem rn_skip {u dn : Nat} : ∀ m f i, (∀ j, j < m → ¬ nI (sg tx n (i + j)) = nI 59) → rnS tx n (f + m) i u dn g t = rnS tx n f (i + m) u dn g t := by
  intro m
  induction m with
  | zero => intro f i _; rfl
  | succ m ih =>
    intro f i h
    rw [show f + (m + 1) = (f + m) + 1 by omega, rnS, if_neg (show ¬ nI (sg tx n i) = nI 59 from h 0 (by omega)), ih f (i + 1) (fun j hj => by rw [show i + 1 + j = i + (j + 1) by omega]; exact h (j + 1) (by omega)), show i + 1 + m = i + (m + 1) by omega]
/-- the class carries out the same event, and meets its end at the same place -/
theorem ev_txt (ht : ∀ j, j < n → tx j < 128) {p : Nat} {y : Ev} (hp : p ≤ n) (h : re tx n p = some y) : s_X7_carryOutEvent g t n tx p y.2.2.2 = cEv g t y ∧ ∀ j, p ≤ j → j < y.2.2.2 → ¬ tx j = 59 := by
  have hpn : p < n := by
    by_cases q : p < n
    · exact q
    · have hL : reL tx n p = 0 := if_neg q
      unfold re at h
      rw [hL] at h
      exact absurd h (by simp)
  have hL : reL tx n p = tx p := if_pos hpn
  have hs : ∀ j, j < n → sg tx n j = tx j := fun j hj => if_pos hj
  have eta : ∀ R : C3, (R.1, R.2.1, R.2.2) = R := fun R => rfl
  have dg : ∀ {q mo d : Nat}, rd tx n q mo = some d → mo ≤ 9 → nI (sg tx n q) - nI 48 = nI d ∧ q < n ∧ 48 ≤ tx q ∧ tx q ≤ 57 := fun {q mo d} hd hm => by
    have k := rd_some hd
    have := k.1.2.1
    have := k.1.2.2
    exact ⟨by rw [hs _ k.1.1, pk_sub (by omega), k.2], k.1.1, by omega, by omega⟩
  unfold re at h
  rw [hL] at h
  unfold s_X7_carryOutEvent
  rw [hs p hpn]
  by_cases c1 : tx p = 43
  · rw [if_pos c1] at h
    obtain ⟨v, hv, rfl⟩ := Option.map_eq_some_iff.mp h
    have w : isn tx n (p + 1) 49 57 := by unfold rsc at hv; split at hv; assumption; cases hv
    obtain ⟨q, v2, s1, s2, s3, s4, s5, s6, s7, s8⟩ := sec_ok ht w
    have ev : v = v2 := by unfold rsc at hv; rw [if_pos w, s1] at hv; exact (Option.some.inj hv).symm
    have eq : rsp tx n (p + 1) = q := by unfold rsp; rw [if_pos w, s1]
    subst ev
    refine ⟨?_, fun j j1 j2 => ?_⟩
    · rw [if_pos (show nI (tx p) = 43 by rw [c1]; rfl)]
      show ((s_X0_passTime g t (nuA tx n (p + 1) (rsp tx n (p + 1) - (p + 1)))).1, _, _) = s_X0_passTime g t (nI v)
      rw [eq, s8]
    · simp only [eq] at j2
      by_cases q0 : j = p
      · rw [q0]; omega
      · have := s7 j (by omega) j2; omega
  · have n43 : ¬ nI (tx p) = 43 := fun z => c1 ((nI_eq (a := tx p) (b := 43) (by have := ht p hpn; omega) (by omega)).mp z)
    rw [if_neg c1] at h
    by_cases c2 : tx p = 108 ∨ tx p = 114
    · rw [if_pos c2] at h
      obtain ⟨d, hd, rfl⟩ := Option.map_eq_some_iff.mp h
      obtain ⟨d1, d2, d3, d4⟩ := dg hd (by omega)
      refine ⟨?_, fun j j1 j2 => ?_⟩
      · rw [if_neg n43, d1]
        rcases c2 with c2 | c2
        · rw [c2, if_neg (show ¬ nI 108 = 98 by decide), if_neg (show ¬ nI 108 = 104 by decide), if_pos (show nI 108 = 108 from rfl)]; rfl
        · rw [c2, if_neg (show ¬ nI 114 = 98 by decide), if_neg (show ¬ nI 114 = 104 by decide), if_neg (show ¬ nI 114 = 108 by decide), if_pos (show nI 114 = 114 from rfl)]; rfl
      · have j2' : j < p + 2 := j2
        rcases (show j = p ∨ j = p + 1 by omega) with rfl | rfl <;> omega
    · rw [if_neg c2] at h
      by_cases c3 : tx p = 98 ∨ tx p = 104
      · rw [if_pos c3] at h
        obtain ⟨d, hd, h2⟩ := Option.bind_eq_some_iff.mp h
        obtain ⟨e, he, rfl⟩ := Option.map_eq_some_iff.mp h2
        obtain ⟨d1, d2, d3, d4⟩ := dg hd (by omega)
        obtain ⟨e1, e2, e3, e4⟩ := dg he (by split <;> omega)
        refine ⟨?_, fun j j1 j2 => ?_⟩
        · rw [if_neg n43, d1, e1]
          rcases c3 with c3 | c3
          · rw [c3, if_pos (show nI 98 = 98 from rfl)]; rfl
          · rw [c3, if_neg (show ¬ nI 104 = 98 by decide), if_pos (show nI 104 = 104 from rfl)]; rfl
        · have j2' : j < p + 3 := j2
          rcases (show j = p ∨ j = p + 1 ∨ j = p + 2 by omega) with rfl | rfl | rfl <;> omega
      · rw [if_neg c3] at h; cases h
theorem run_ok (hc : c ≤ 512) (hn : n ≤ 80) (ht : ∀ j, j < n → tx j < 128) : ∀ f p dn m g t a np ck, IV c a nb nr np ck → EQ g t a nr → p ≤ n → n < p + f → (pt tx n f p m).1 = true → ∃ dn' g' t' a' np' ck', rnS tx n (n + 1 - p) p p dn g t = (dn', g', t') ∧ pr tx n nr f p dn a = (true, dn', a') ∧ dn' ≤ dn + f ∧ IV c a' nb nr np' ck' ∧ EQ g' t' a' nr := by
  intro f
  induction f with
  | zero => intro p dn m g t a np ck _ _ h1 h2; omega
  | succ f ih =>
    intro p dn m g t a np ck hV hE h1 h2 h3
    rw [pt] at h3
    rw [pr]
    cases hr : re tx n p with
    | none => rw [hr] at h3; exact absurd (show false = true from h3) (by decide)
    | some y =>
      rw [hr] at h3
      simp only [] at h3 ⊢
      have hy := re_pos h1 hr
      obtain ⟨t1, t2⟩ := ev_txt (g := g) (t := t) ht h1 hr
      have hsk : rnS tx n (n + 1 - p) p p dn g t = rnS tx n (n + 1 - y.2.2.2) y.2.2.2 p dn g t := by
        have := rn_skip (tx := tx) (n := n) (g := g) (t := t) (u := p) (dn := dn) (y.2.2.2 - p) (n + 1 - y.2.2.2) p (fun j hj => by
          have e : sg tx n (p + j) = tx (p + j) := if_pos (by omega)
          rw [e]
          exact fun z => t2 (p + j) (by omega) (by omega) ((nI_eq (by have := ht (p + j) (by omega); omega) (by omega)).mp z))
        rw [show n + 1 - y.2.2.2 + (y.2.2.2 - p) = n + 1 - p by omega, show p + (y.2.2.2 - p) = y.2.2.2 by omega] at this
        exact this
      have h59 : nI (sg tx n y.2.2.2) = nI 59 := by
        by_cases w : y.2.2.2 = n
        · rw [show sg tx n y.2.2.2 = 59 from if_neg (by omega)]
        · rw [if_neg w] at h3
          by_cases w2 : isn tx n y.2.2.2 59 59
          · rw [show sg tx n y.2.2.2 = tx y.2.2.2 from if_pos w2.1, show tx y.2.2.2 = 59 by have := w2.2; omega]
          · rw [if_neg w2] at h3; exact absurd (show false = true from h3) (by decide)
      rw [hsk, show n + 1 - y.2.2.2 = (n - y.2.2.2) + 1 by omega, rnS, if_pos h59, t1]
      rcases ev_any hc hV hE (re_letter hr) (re_x ht hr) with ⟨q1, q2⟩ | ⟨q1, q2, np', ck', q3, q4⟩
      · rw [if_pos q1, q2, if_neg (lt_nle q1)]
        exact ⟨dn, g, t, a, np, ck, rfl, rfl, by omega, hV, hE⟩
      · rw [if_neg q1, if_pos q2]
        by_cases w : y.2.2.2 = n
        · rw [if_pos w, w, Nat.sub_self, rnS]
          exact ⟨dn + 1, _, _, _, np', ck', rfl, rfl, by omega, q3, q4⟩
        · rw [if_neg w] at h3 ⊢
          by_cases w2 : isn tx n y.2.2.2 59 59
          · rw [if_pos w2] at h3 ⊢
            obtain ⟨dn', g', t', a', np2, ck2, k1, k2, k3, k4, k5⟩ := ih (y.2.2.2 + 1) (dn + 1) (m + 1) _ _ _ np' ck' q3 q4 (by have := w2.1; omega) (by omega) h3
            rw [show n + 1 - (y.2.2.2 + 1) = n - y.2.2.2 by omega] at k1
            exact ⟨dn', g', t', a', np2, ck2, k1, k2, by omega, k4, k5⟩
          · rw [if_neg w2] at h3; exact absurd (show false = true from h3) (by decide)
end Run
