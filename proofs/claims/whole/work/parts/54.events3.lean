section Ev3
variable {c : Nat} {g : Nat → Int32} {t : Nat → Nat → Int32} {a : Nat → Int32} {nb nr np ck : Nat}
theorem onc {s : Nat} (hs : s ≤ 4) : (if nI s = nI 2 then nI 1 else if nI s = nI 3 then nI 1 else nI 0 : Int32) = 0 ↔ ¬ (¬ nI s < nI 2 ∧ ¬ nI 3 < nI s) := by
  rcases (show s = 0 ∨ s = 1 ∨ s = 2 ∨ s = 3 ∨ s = 4 by omega) with rfl | rfl | rfl | rfl | rfl <;> decide
theorem mp_un {k p w : Nat} {v : Int32} (h : 40 + 4 * p + w ≠ k) : m_p (upd a k v) p w = m_p a p w := pk_un h
theorem ev_hail (hc : c ≤ 512) (hV : IV c a nb nr np ck) (hE : EQ g t a nr) (x y : Int32) : EvOK c g t nb nr (s_X2_hailProtest g t x y) (s_X8_hailError a x y nr) (fun h sn tx k => s_X8_doHail a h sn tx k x y np) := by
  obtain ⟨h1, h2, h3, h4, h5, h6, h7, h8, h9, h10, h11, h12, h13, h14⟩ := id hV
  have hg1 : g 1 = nI nb := hE.2.1.trans h1
  have hg4 : g 4 = nI np := hE.2.2.2.1.trans h5
  rcases inN x (n := nb) (by omega) with ⟨b, hb, rfl, ec, cC, cM⟩ | ⟨cC, cM⟩
  · rcases inN y (n := nb) (by omega) with ⟨b2, hb2, rfl, ec2, dC, dM⟩ | ⟨dC, dM⟩
    · rw [← hg1] at cC dC; rw [← h1] at cM dM
      by_cases q : b = b2
      · have eE : s_X8_hailError a (nI b) (nI b2) nr = (-2) := by
          unfold s_X8_hailError
          rw [if_pos cM, if_pos dM, ec, ec2, if_pos (by rw [q])]
        rw [eE]
        refine Or.inl ⟨by decide, ?_⟩
        unfold s_X2_hailProtest
        rw [if_pos cC, if_pos dC, if_pos (by rw [q])]
      · have nq : ¬ nI b = nI b2 := fun z => q ((nI_eq (by omega) (by omega)).mp z)
        by_cases hp : 0 < nr ∧ m_r a (nr - 1) 3 = 0
        · have hg3 := (prep_iff hV hE).mpr hp
          have hn := hp.1
          obtain ⟨bu, la, st, r1, r2, r3, r4, r5, r6, r7, r8, s, ro, pe, ou, fi, k1, k2, -⟩ := hV.lat hn hb
          obtain ⟨bu2, la2, st2, -, -, -, -, -, -, -, -, s2, ro2, pe2, ou2, fi2, l1, l2, -⟩ := hV.lat hn hb2
          have e0 : c_lat g t (nI b) (nI 0) = nI s := (hE.lat h3 h4 hn (by omega) (by omega)).trans k1
          have e1 : c_lat g t (nI b2) (nI 0) = nI s2 := (hE.lat h3 h4 hn (by omega) (by omega)).trans l1
          have o1 := onc (s := s) k2
          have o2 := onc (s := s2) l2
          have eE : s_X8_hailError a (nI b) (nI b2) nr = if ¬ nI s < nI 2 ∧ ¬ nI 3 < nI s then (if ¬ nI s2 < nI 2 ∧ ¬ nI 3 < nI s2 then (if nI np = nI 10 then (-3) else nI 0) else (-4)) else (-4) := by
            unfold s_X8_hailError
            rw [if_pos cM, if_pos dM, ec, ec2, if_neg nq, if_pos hp, k1, l1, h5]
          rw [eE]
          by_cases q1 : ¬ nI s < nI 2 ∧ ¬ nI 3 < nI s
          · have p1 : ¬ s_X2_isOnCourse g t (nI b) = 0 := by unfold s_X2_isOnCourse; rw [e0]; exact fun z => o1.mp z q1
            rw [if_pos q1]
            by_cases q2 : ¬ nI s2 < nI 2 ∧ ¬ nI 3 < nI s2
            · have p2 : ¬ s_X2_isOnCourse g t (nI b2) = 0 := by unfold s_X2_isOnCourse; rw [e1]; exact fun z => o2.mp z q2
              rw [if_pos q2]
              by_cases q3 : np = 10
              · rw [if_pos (by rw [q3])]
                refine Or.inl ⟨by decide, ?_⟩
                unfold s_X2_hailProtest
                rw [if_pos cC, if_pos dC, if_neg nq, if_pos hg3, if_neg p1, if_neg p2, hg4, if_neg (nI_nlt (by omega) (by omega))]
              · rw [if_neg (fun z => q3 ((nI_eq (by omega) (by omega)).mp z))]
                have E1 := hE.cas (p := np) (w := 0) (v := nI b) h4 (by omega) (by omega)
                have E2 := E1.cas (p := np) (w := 1) (v := nI b2) h4 (by omega) (by omega)
                have E3 := E2.cas (p := np) (w := 2) (v := g 0) h4 (by omega) (by omega)
                have E4 := E3.cas (p := np) (w := 3) (v := nI 0) h4 (by omega) (by omega)
                have E5 := E4.gpro (v := nI np + nI 1)
                refine Or.inr ⟨rfl, ?_⟩
                have eR : s_X2_hailProtest g t (nI b) (nI b2) = (nI np, va_up g 4 (nI np + nI 1), va_up (va_up (va_up (va_up t 4 (tp 4 40 (t 4) (nI np) (nI 0) (nI b))) 4 (tp 4 40 ((va_up t 4 (tp 4 40 (t 4) (nI np) (nI 0) (nI b))) 4) (nI np) (nI 1) (nI b2))) 4 (tp 4 40 ((va_up (va_up t 4 (tp 4 40 (t 4) (nI np) (nI 0) (nI b))) 4 (tp 4 40 ((va_up t 4 (tp 4 40 (t 4) (nI np) (nI 0) (nI b))) 4) (nI np) (nI 1) (nI b2))) 4) (nI np) (nI 2) (g 0))) 4 (tp 4 40 ((va_up (va_up (va_up t 4 (tp 4 40 (t 4) (nI np) (nI 0) (nI b))) 4 (tp 4 40 ((va_up t 4 (tp 4 40 (t 4) (nI np) (nI 0) (nI b))) 4) (nI np) (nI 1) (nI b2))) 4 (tp 4 40 ((va_up (va_up t 4 (tp 4 40 (t 4) (nI np) (nI 0) (nI b))) 4 (tp 4 40 ((va_up t 4 (tp 4 40 (t 4) (nI np) (nI 0) (nI b))) 4) (nI np) (nI 1) (nI b2))) 4) (nI np) (nI 2) (g 0))) 4) (nI np) (nI 3) (nI 0))) := by
                  unfold s_X2_hailProtest
                  rw [if_pos cC, if_pos dC, if_neg nq, if_pos hg3, if_neg p1, if_neg p2, hg4, if_pos (nI_lt (by omega) (by omega))]
                rw [eR]
                refine ⟨nI_nn (by omega), upd (upd (upd (upd (upd a (40 + 4 * np + 0) (nI b)) (40 + 4 * np + 1) (nI b2)) (40 + 4 * np + 2) (g 0)) (40 + 4 * np + 3) (nI 0)) 3 (nI np + nI 1), np + 1, ck, fun h sn tx k => ?_, ?_, E5⟩
                · show s_X8_doHail a h sn tx k (nI b) (nI b2) np = _
                  unfold s_X8_doHail
                  have ez : upd (upd a (40 + 4 * np + 0) (nI b)) (40 + 4 * np + 1) (nI b2) 0 = g 0 := (pk_un (by omega)).trans ((pk_un (by omega)).trans hE.1.symm)
                  have e3 : upd (upd (upd (upd a (40 + 4 * np + 0) (nI b)) (40 + 4 * np + 1) (nI b2)) (40 + 4 * np + 2) (g 0)) (40 + 4 * np + 3) (nI 0) 3 = nI np := (pk_un (by omega)).trans ((pk_un (by omega)).trans ((pk_un (by omega)).trans ((pk_un (by omega)).trans h5)))
                  rw [ez, e3, pk_us, nI_add, pk_sub (by omega)]
                  rfl
                · refine IV_lo (Nat.le_refl _) hV (Nat.le_refl _) h9 ((pk_un (by omega)).trans ((pk_un (by omega)).trans ((pk_un (by omega)).trans ((pk_un (by omega)).trans ((pk_un (by omega)).trans h8))))) (pk_us.trans (nI_add _ _)) (by omega) (fun _ => hn) (h10.ag (fun i _ _ => (pk_un (by omega)).trans ((pk_un (by omega)).trans ((pk_un (by omega)).trans ((pk_un (by omega)).trans (pk_un (by omega))))))) (fun i _ q0 q3 q4 q5 => (pk_un q3).trans ((pk_un (by omega)).trans ((pk_un (by omega)).trans ((pk_un (by omega)).trans (pk_un (by omega)))))) (fun p hp2 => ?_)
                  by_cases w : p = np
                  · subst w
                    refine ⟨b, b2, 0, ?_, hb, ?_, hb2, ?_, by omega⟩
                    · exact (mp_un (by omega)).trans ((mp_un (by omega)).trans ((mp_un (by omega)).trans ((mp_un (by omega)).trans pk_us)))
                    · exact (mp_un (by omega)).trans ((mp_un (by omega)).trans ((mp_un (by omega)).trans pk_us))
                    · exact (mp_un (by omega)).trans pk_us
                  · exact (h14 p (by omega)).ag (fun w1 hw1 => (mp_un (by omega)).trans ((mp_un (by omega)).trans ((mp_un (by omega)).trans ((mp_un (by omega)).trans (mp_un (by omega))))))
            · have p2 : s_X2_isOnCourse g t (nI b2) = 0 := by unfold s_X2_isOnCourse; rw [e1]; exact o2.mpr q2
              rw [if_neg q2]
              refine Or.inl ⟨by decide, ?_⟩
              unfold s_X2_hailProtest
              rw [if_pos cC, if_pos dC, if_neg nq, if_pos hg3, if_neg p1, if_pos p2]
          · have p1 : s_X2_isOnCourse g t (nI b) = 0 := by unfold s_X2_isOnCourse; rw [e0]; exact o1.mpr q1
            rw [if_neg q1]
            refine Or.inl ⟨by decide, ?_⟩
            unfold s_X2_hailProtest
            rw [if_pos cC, if_pos dC, if_neg nq, if_pos hg3, if_pos p1]
        · have hg3 : ¬ g 3 = nI 1 := fun z => hp ((prep_iff hV hE).mp z)
          have eE : s_X8_hailError a (nI b) (nI b2) nr = (-4) := by
            unfold s_X8_hailError
            rw [if_pos cM, if_pos dM, ec, ec2, if_neg nq, if_neg hp]
          rw [eE]
          refine Or.inl ⟨by decide, ?_⟩
          unfold s_X2_hailProtest
          rw [if_pos cC, if_pos dC, if_neg nq, if_neg hg3]
    · rw [← hg1] at cC dC; rw [← h1] at cM dM
      have eE : s_X8_hailError a (nI b) y nr = (-1) := by
        unfold s_X8_hailError
        rw [if_pos cM, if_neg dM]
      rw [eE]
      refine Or.inl ⟨by decide, ?_⟩
      unfold s_X2_hailProtest
      rw [if_pos cC, if_neg dC]
  · rw [← hg1] at cC; rw [← h1] at cM
    have eE : s_X8_hailError a x y nr = (-1) := if_neg cM
    rw [eE]
    exact Or.inl ⟨by decide, if_neg cC⟩
end Ev3
/-! a step: an action is recorded where it answers no error -/
def StOK (c : Nat) (g : Nat → Int32) (t : Nat → Nat → Int32) (a h sn tx k : Nat → Int32) (kp : Nat) (R : C3) (M : M6) : Prop :=
  (R.1 < 0 ∧ R = (R.1, g, t) ∧ M = (R.1, a, h, sn, tx, k)) ∨ (0 ≤ R.1 ∧ ∃ a', M = (R.1, a', m_hn a h kp, sn, tx, va_up k 0 (nI (m_kn kp))) ∧ RS (c + 1) R.2.1 R.2.2 a')
theorem ev_st {c : Nat} {g : Nat → Int32} {t : Nat → Nat → Int32} {a h sn tx k : Nat → Int32} {kp nb nr : Nat} {R : C3} {er : Int32} {D : (Nat → Int32) → (Nat → Int32) → (Nat → Int32) → (Nat → Int32) → M6} {M : M6} (q : EvOK c g t nb nr R er D) (hM : M = if 0 ≤ er then ((D (m_hn a h kp) sn tx (va_up k 0 (nI (m_kn kp)))).1, (D (m_hn a h kp) sn tx (va_up k 0 (nI (m_kn kp)))).2.1, (D (m_hn a h kp) sn tx (va_up k 0 (nI (m_kn kp)))).2.2.1, (D (m_hn a h kp) sn tx (va_up k 0 (nI (m_kn kp)))).2.2.2.1, (D (m_hn a h kp) sn tx (va_up k 0 (nI (m_kn kp)))).2.2.2.2.1, (D (m_hn a h kp) sn tx (va_up k 0 (nI (m_kn kp)))).2.2.2.2.2) else (er, a, h, sn, tx, k)) : StOK c g t a h sn tx k kp R M := by
  rcases q with ⟨h1, h2⟩ | ⟨h1, h2, a', np', ck', h3, h4, h5⟩
  · rw [if_neg (lt_nle h1)] at hM
    rw [h2, hM]
    exact Or.inl ⟨h1, rfl, rfl⟩
  · rw [h1, if_pos (by decide), h3] at hM
    exact Or.inr ⟨h2, a', hM, nb, nr, np', ck', h4.mono (Nat.le_succ _), h5⟩
section St
variable {c : Nat} {g : Nat → Int32} {t : Nat → Nat → Int32} {a h sn tx k : Nat → Int32} {nb nr np ck kp : Nat}
theorem st_pass (hV : IV c a nb nr np ck) (hE : EQ g t a nr) (x : Int32) : StOK c g t a h sn tx k kp (s_X0_passTime g t x) (s_X8_pass a h sn tx k x kp) := ev_st (ev_pass hV hE x) rfl
theorem st_line (hc : c ≤ 512) (hV : IV c a nb nr np ck) (hE : EQ g t a nr) (x : Int32) : StOK c g t a h sn tx k kp (s_X0_crossLine g t x) (s_X8_line a h sn tx k x nr kp) := ev_st (ev_line hc hV hE x) rfl
theorem st_buoy (hc : c ≤ 512) (hV : IV c a nb nr np ck) (hE : EQ g t a nr) (x y : Int32) : StOK c g t a h sn tx k kp (s_X0_passBuoy g t x y) (s_X8_buoy a h sn tx k x y nr kp) := ev_st (ev_buoy hc hV hE x y) rfl
theorem st_retire (hc : c ≤ 512) (hV : IV c a nb nr np ck) (hE : EQ g t a nr) (x : Int32) : StOK c g t a h sn tx k kp (s_X0_retireBoat g t x) (s_X8_retire a h sn tx k x nr kp) := ev_st (ev_retire hc hV hE x) rfl
theorem st_hail (hc : c ≤ 512) (hV : IV c a nb nr np ck) (hE : EQ g t a nr) (x y : Int32) : StOK c g t a h sn tx k kp (s_X2_hailProtest g t x y) (s_X8_hail a h sn tx k x y nr np kp) := ev_st (ev_hail hc hV hE x y) rfl
end St
