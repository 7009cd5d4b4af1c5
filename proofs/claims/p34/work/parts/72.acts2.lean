/-! the class' acts, on naturals: races and protests -/
section Acts2
variable {c : Nat} {A : Nat → Nat} {g : Nat → Int32} {t : Nat → Nat → Int32}
theorem HJ.opn_r (hJ : HJ c A) (ho : opn A) : RJ c A (A 2 - 1) := hJ.2.1 (A 2 - 1) (by have := ho.1; omega)
theorem a_post_ok (hJ : HJ c A) (hc : c ≤ 512) (hk : A 0 ≤ 999999) (ho : opn A) {y : Nat} (h1 : 1 ≤ y) (h2 : y ≤ 3600) (hl : A 0 < rA A (A 2 - 1) 2) (hE : EQ g t (arr A) (A 2)) : AR (s_X0_postponeStart g t (nI y)) (nI (rA A (A 2 - 1) 2 + y)) (nup A (16 + 4 * (A 2 - 1) + 2) (rA A (A 2 - 1) 2 + y)) := by
  have h6 := hJ.1.2.1
  have hst := hJ.st hc hk ho.1
  have e2 : g 2 - nI 1 = nI (A 2 - 1) := hE.g2 rfl ho.1
  have hp := hE.crp (r := A 2 - 1) (w := 2) (v := nI (rA A (A 2 - 1) 2 + y)) h6 (by omega) (by omega)
  rw [arr_up] at hp
  have e3 : nup A (16 + 4 * (A 2 - 1) + 2) (rA A (A 2 - 1) 2 + y) 2 = A 2 := nup_ne (by omega)
  have hp2 : EQ g (va_up t 2 (tp 3 18 (t 2) (g 2 - nI 1) (nI 2) (tg 3 18 (t 2) (g 2 - nI 1) (nI 2) + nI y))) (arr (nup A (16 + 4 * (A 2 - 1) + 2) (rA A (A 2 - 1) 2 + y))) (nup A (16 + 4 * (A 2 - 1) + 2) (rA A (A 2 - 1) 2 + y) 2) := by
    rw [q_crl hE h6 ho.1 (by omega), nI_add, e2, e3]; exact hp
  refine AR.mk (g := g) ?_ hp2
  unfold s_X0_postponeStart
  rw [if_neg (nI_nlt h1 (by omega)), if_pos (nI_le h2 (by omega)), if_pos ((hJ.opg hE).mpr ho), q_sta hE h6 ho.1, hE.1, show arr A 0 = nI (A 0) from rfl, if_neg (fun q => q (nI_lt hl (by omega))), q_sta hp2 (by rw [e3]; exact h6) (by rw [e3]; exact ho.1)]
  rw [e3, show rA (nup A (16 + 4 * (A 2 - 1) + 2) (rA A (A 2 - 1) 2 + y)) (A 2 - 1) 2 = rA A (A 2 - 1) 2 + y from nup_at]
theorem a_post_no (hJ : HJ c A) (hk : A 0 ≤ 999999) {y : Nat} (h1 : 1 ≤ y) (h2 : y ≤ 3600) (hl : opn A → rA A (A 2 - 1) 2 ≤ A 0) (hE : EQ g t (arr A) (A 2)) : AR (s_X0_postponeStart g t (nI y)) (-4) A := by
  have h6 := hJ.1.2.1
  refine AR.mk (g := g) (t := t) ?_ hE
  unfold s_X0_postponeStart
  rw [if_neg (nI_nlt h1 (by omega)), if_pos (nI_le h2 (by omega))]
  by_cases ho : opn A
  · rw [if_pos ((hJ.opg hE).mpr ho), q_sta hE h6 ho.1, hE.1, show arr A 0 = nI (A 0) from rfl, if_pos (nI_nlt (hl ho) (by omega))]
  · rw [if_neg (fun q => ho ((hJ.opg hE).mp q))]
/-- the numbers without the entries of a race and the protests -/
def clrA (A : Nat → Nat) (r : Nat) : Nat → Nat := fun i => if i = 3 then 0 else if 80 + 54 * r ≤ i ∧ i < 80 + 54 * r + 54 then 0 else A i
theorem arr_clr {r : Nat} : m_clr (arr A) r = arr (clrA A r) := by
  funext i
  rw [m_clr_at]
  show _ = nI (if i = 3 then 0 else if 80 + 54 * r ≤ i ∧ i < 80 + 54 * r + 54 then 0 else A i)
  by_cases h1 : i = 3
  · rw [if_pos h1, if_pos h1]
  · rw [if_neg h1, if_neg h1]
    by_cases h2 : 80 + 54 * r ≤ i ∧ i < 80 + 54 * r + 54
    · rw [if_pos h2, if_pos h2]
    · rw [if_neg h2, if_neg h2]; rfl
theorem clrA_lo {r i : Nat} (h : i < 80) (h3 : i ≠ 3) : clrA A r i = A i := by
  unfold clrA
  rw [if_neg h3, if_neg (by omega)]
theorem clrA_3 {r : Nat} : clrA A r 3 = 0 := if_pos rfl
theorem clrA_e {r b w : Nat} (hb : b < 9) (hw : w < 6) : eA (clrA A r) r b w = 0 := by
  unfold eA clrA
  rw [if_neg (by omega), if_pos (by omega)]
theorem clrA_o {r r1 b w : Nat} (hb : b < 9) (hw : w < 6) (h : r1 ≠ r) : eA (clrA A r) r1 b w = eA A r1 b w := by
  unfold eA clrA
  rw [if_neg (by omega), if_neg (by omega)]
abbrev recA (A : Nat → Nat) : Nat → Nat := clrA (nup A (16 + 4 * (A 2 - 1) + 2) (A 0 + 300)) (A 2 - 1)
theorem a_rec_ok (hJ : HJ c A) (hk : A 0 ≤ 999999) (ho : opn A) (hl : rA A (A 2 - 1) 2 ≤ A 0) (hl2 : A 0 ≤ rA A (A 2 - 1) 2 + 60) (hE : EQ g t (arr A) (A 2)) : AR (s_X0_recallBoats g t (A 1)) (nI (A 0 + 300)) (recA A) := by
  have h6 := hJ.1.2.1
  have h9 := hJ.1.1
  have e2 : g 2 - nI 1 = nI (A 2 - 1) := hE.g2 rfl ho.1
  have E1 := hE.crp (r := A 2 - 1) (w := 2) (v := nI (A 0 + 300)) h6 (by omega) (by omega)
  have E2 := E1.clr (g' := g) (nb := A 1) h6 ho.1 e2 h9 (fun b w hb hb2 hw => (pk_un (by omega)).trans (by
    show nI (eA A (A 2 - 1) b w) = 0
    rw [hJ.2.2.1 (A 2 - 1) b w (by omega) hb hb2 hw]; rfl))
  have e4 : (va_up t 2 (tp 3 18 (t 2) (nI (A 2 - 1)) (nI 2) (nI (A 0 + 300)))) 3 = t 3 := up_o (by omega)
  rw [e4, arr_up, arr_clr] at E2
  have eA' : c_anew g t (nI 300) (A 1) = va_up (va_up t 2 (tp 3 18 (t 2) (nI (A 2 - 1)) (nI 2) (nI (A 0 + 300)))) 3 (c_clrs g (t 3) (A 1)) := by
    unfold c_anew
    rw [e2, hE.1, show arr A 0 = nI (A 0) from rfl, nI_add]
  rw [← eA'] at E2
  have a2 : recA A 2 = A 2 := (clrA_lo (by omega) (by omega)).trans (nup_ne (by omega))
  have E3 : EQ (va_up g 4 (nI 0)) (c_anew g t (nI 300) (A 1)) (arr (recA A)) (recA A 2) := by rw [a2]; exact E2
  refine AR.mk (g := va_up g 4 (nI 0)) (t := c_anew g t (nI 300) (A 1)) ?_ E3
  have es2 : c_start (va_up g 4 (nI 0)) (c_anew g t (nI 300) (A 1)) = nI (A 0 + 300) := by
    rw [q_sta E3 (by rw [a2]; exact h6) (by rw [a2]; exact ho.1), a2]
    exact congrArg nI ((clrA_lo (by omega) (by omega)).trans (nup_eq (by omega)))
  unfold s_X0_recallBoats
  rw [es2, if_pos ((hJ.opg hE).mpr ho), q_sta hE h6 ho.1, hE.1, show arr A 0 = nI (A 0) from rfl, if_pos (nI_nlt hl (by omega)), nI_add, if_pos (nI_le hl2 (by omega))]
theorem a_rec_no (hJ : HJ c A) (hc : c ≤ 512) (hk : A 0 ≤ 999999) (hl : opn A → A 0 < rA A (A 2 - 1) 2 ∨ rA A (A 2 - 1) 2 + 60 < A 0) (hE : EQ g t (arr A) (A 2)) : AR (s_X0_recallBoats g t (A 1)) (-4) A := by
  have h6 := hJ.1.2.1
  refine AR.mk (g := g) (t := t) ?_ hE
  unfold s_X0_recallBoats
  by_cases ho : opn A
  · have hst := hJ.st hc hk ho.1
    rw [if_pos ((hJ.opg hE).mpr ho), q_sta hE h6 ho.1, hE.1, show arr A 0 = nI (A 0) from rfl]
    by_cases q : A 0 < rA A (A 2 - 1) 2
    · rw [if_neg (fun z => z (nI_lt q (by omega)))]
    · have q2 : rA A (A 2 - 1) 2 + 60 < A 0 := by have := hl ho; omega
      rw [if_pos (nI_nlt (by omega) (by omega)), nI_add, if_neg (nI_ge q2 (by omega))]
  · rw [if_neg (fun q => ho ((hJ.opg hE).mp q))]
/-- the numbers behind prepare -/
abbrev prA (A : Nat → Nat) (x y w : Nat) : Nat → Nat := clrA (nup (nup (nup (nup (nup A (16 + 4 * A 2 + 0) x) (16 + 4 * A 2 + 1) y) (16 + 4 * A 2 + 3) 0) 2 (A 2 + 1)) (16 + 4 * A 2 + 2) (A 0 + w)) (A 2)
theorem a_prep_ok (hJ : HJ c A) (hk : A 0 ≤ 999999) (ho : ¬ opn A) (h5 : A 2 < 6) (hb : 0 < A 1) {x y w : Nat} (x1 : 1 ≤ x) (x2 : x ≤ 5) (y1 : 1 ≤ y) (y2 : y ≤ 3) (w1 : 60 ≤ w) (w2 : w ≤ 3600) (hE : EQ g t (arr A) (A 2)) : AR (s_X0_prepareRace g t (nI x) (nI y) (nI w) (A 1)) (nI (A 2)) (prA A x y w) := by
  have h6 := hJ.1.2.1
  have h9 := hJ.1.1
  have e2 : g 2 = nI (A 2) := hE.2.2.1
  have E1 := (hE.crp (r := A 2) (w := 0) (v := nI x) h6 h5 (by omega)).crp (r := A 2) (w := 1) (v := nI y) h6 h5 (by omega)
  have E2 := E1.next h5 (v := nI (A 2 + 1))
  have E3 := E2.crp (r := A 2) (w := 2) (v := nI (A 0 + w)) (by omega) h5 (by omega)
  have eg : (va_up (va_up g 2 (nI (A 2 + 1))) 3 (nI 1)) 2 - nI 1 = nI (A 2) := by
    rw [up_o (by omega), up_a, pk_sub (by omega)]; exact congrArg nI (by omega)
  have E4 := E3.clr (g' := va_up (va_up g 2 (nI (A 2 + 1))) 3 (nI 1)) (nb := A 1) (by omega) (by omega) (by rw [eg]; exact congrArg nI (by omega)) h9 (fun b w hb hb2 hw => by
    rw [show A 2 + 1 - 1 = A 2 by omega]
    refine (pk_un (by omega)).trans ((pk_un (by omega)).trans ((pk_un (by omega)).trans ((pk_un (by omega)).trans ((pk_un (by omega)).trans ?_))))
    show nI (eA A (A 2) b w) = 0
    rw [hJ.2.2.1 (A 2) b w h5 hb hb2 hw]; rfl)
  rw [show A 2 + 1 - 1 = A 2 by omega] at E4
  rw [show (nI 0 : Int32) = nI 0 from rfl, arr_up, arr_up, arr_up, arr_up, arr_up, arr_clr] at E4
  have a2 : prA A x y w 2 = A 2 + 1 := (clrA_lo (by omega) (by omega)).trans ((nup_ne (by omega)).trans nup_at)
  have e0 : (va_up (va_up g 2 (nI (A 2 + 1))) 3 (nI 1)) 0 = nI (A 0) := by
    rw [up_o (by omega), up_o (by omega), hE.1]; rfl
  have eT : ∀ (T : Nat → Nat → Int32), c_anew (va_up (va_up g 2 (nI (A 2 + 1))) 3 (nI 1)) T (nI w) (A 1) = va_up (va_up T 2 (tp 3 18 (T 2) (nI (A 2)) (nI 2) (nI (A 0 + w)))) 3 (c_clrs (va_up (va_up g 2 (nI (A 2 + 1))) 3 (nI 1)) (T 3) (A 1)) := by
    intro T
    unfold c_anew
    rw [eg, e0, nI_add]
  refine AR.mk (g := va_up (va_up (va_up g 2 (nI (A 2 + 1))) 3 (nI 1)) 4 (nI 0)) (t := c_anew (va_up (va_up g 2 (nI (A 2 + 1))) 3 (nI 1)) (va_up (va_up t 2 (tp 3 18 (t 2) (nI (A 2)) (nI 0) (nI x))) 2 (tp 3 18 ((va_up t 2 (tp 3 18 (t 2) (nI (A 2)) (nI 0) (nI x))) 2) (nI (A 2)) (nI 1) (nI y))) (nI w) (A 1)) ?_ ?_
  · unfold s_X0_prepareRace
    rw [if_neg (nI_nlt x1 (by omega)), if_neg (nI_nlt x2 (by omega)), if_neg (nI_nlt y1 (by omega)), if_neg (nI_nlt y2 (by omega)), if_neg (nI_nlt w1 (by omega)), if_pos (nI_le w2 (by omega)), hE.2.1, show arr A 1 = nI (A 1) from rfl, if_neg (show ¬ nI (A 1) = 0 from fun q => by have := (nI_eq (a := A 1) (b := 0) (by omega) (by omega)).mp q; omega), if_neg (fun q => ho ((hJ.opg hE).mp q)), e2, if_pos (nI_lt h5 (by omega)), nI_add]
  · rw [a2, eT]
    have e3 : ∀ (v : Nat → Int32), (va_up (va_up (va_up t 2 (tp 3 18 (t 2) (nI (A 2)) (nI 0) (nI x))) 2 v) 2 (tp 3 18 ((va_up (va_up t 2 (tp 3 18 (t 2) (nI (A 2)) (nI 0) (nI x))) 2 v) 2) (nI (A 2)) (nI 2) (nI (A 0 + w)))) 3 = t 3 := fun v => (up_o (by omega)).trans ((up_o (by omega)).trans (up_o (by omega)))
    have e3' : ∀ (v : Nat → Int32), (va_up (va_up t 2 (tp 3 18 (t 2) (nI (A 2)) (nI 0) (nI x))) 2 v) 3 = t 3 := fun v => (up_o (by omega)).trans (up_o (by omega))
    rw [e3] at E4
    rw [e3']
    exact E4
theorem a_prep_no (hJ : HJ c A) (ho : opn A) {x y w : Nat} (x1 : 1 ≤ x) (x2 : x ≤ 5) (y1 : 1 ≤ y) (y2 : y ≤ 3) (w1 : 60 ≤ w) (w2 : w ≤ 3600) (hE : EQ g t (arr A) (A 2)) : AR (s_X0_prepareRace g t (nI x) (nI y) (nI w) (A 1)) (-4) A := by
  refine AR.mk (g := g) (t := t) ?_ hE
  unfold s_X0_prepareRace
  rw [if_neg (nI_nlt x1 (by omega)), if_neg (nI_nlt x2 (by omega)), if_neg (nI_nlt y1 (by omega)), if_neg (nI_nlt y2 (by omega)), if_neg (nI_nlt w1 (by omega)), if_pos (nI_le w2 (by omega)), if_pos ((hJ.opg hE).mpr ho)]
  split <;> rfl
theorem a_prep_full (hJ : HJ c A) (ho : ¬ opn A) (h5 : A 2 = 6) {x y w : Nat} (x1 : 1 ≤ x) (x2 : x ≤ 5) (y1 : 1 ≤ y) (y2 : y ≤ 3) (w1 : 60 ≤ w) (w2 : w ≤ 3600) (hE : EQ g t (arr A) (A 2)) : AR (s_X0_prepareRace g t (nI x) (nI y) (nI w) (A 1)) (-3) A := by
  have h9 := hJ.1.1
  have hb := hJ.1.2.2.2.2.1 (by omega)
  refine AR.mk (g := g) (t := t) ?_ hE
  unfold s_X0_prepareRace
  rw [if_neg (nI_nlt x1 (by omega)), if_neg (nI_nlt x2 (by omega)), if_neg (nI_nlt y1 (by omega)), if_neg (nI_nlt y2 (by omega)), if_neg (nI_nlt w1 (by omega)), if_pos (nI_le w2 (by omega)), hE.2.1, show arr A 1 = nI (A 1) from rfl, if_neg (show ¬ nI (A 1) = 0 from fun q => by have := (nI_eq (a := A 1) (b := 0) (by omega) (by omega)).mp q; omega), if_neg (fun q => ho ((hJ.opg hE).mp q)), hE.2.2.1, show arr A 2 = nI (A 2) from rfl, if_neg (nI_nlt (by omega) (by omega))]
/-- finished boats, boats that are out -/
def finN (A : Nat → Nat) (r : Nat) : Nat → Nat
  | 0 => 0
  | i + 1 => finN A r i + if eA A r i 0 = 3 then 1 else 0
def outN (A : Nat → Nat) (r : Nat) : Nat → Nat
  | 0 => 0
  | i + 1 => outN A r i + eA A r i 4
theorem fin_eq {r : Nat} (h4 : ∀ b, b < A 1 → eA A r b 0 ≤ 4) : ∀ n, n ≤ A 1 → m_fin (arr A) r n = nI (finN A r n) ∧ finN A r n ≤ n := by
  intro n
  induction n with
  | zero => intro _; exact ⟨rfl, Nat.le_refl _⟩
  | succ n ih =>
    intro hn
    obtain ⟨i1, i2⟩ := ih (by omega)
    have h := h4 n (by omega)
    show (if nI (eA A r n 0) = nI 3 then m_fin (arr A) r n + nI 1 else m_fin (arr A) r n + nI 0) = nI (finN A r n + if eA A r n 0 = 3 then 1 else 0) ∧ (finN A r n + if eA A r n 0 = 3 then 1 else 0) ≤ n + 1
    by_cases q : eA A r n 0 = 3
    · rw [if_pos (congrArg nI q), if_pos q, i1, nI_add]; exact ⟨rfl, by omega⟩
    · rw [if_neg (fun z => q ((nI_eq (by omega) (by omega)).mp z)), if_neg q, i1, nI_add]; exact ⟨rfl, by omega⟩
theorem out_eq {r : Nat} (h4 : ∀ b, b < A 1 → eA A r b 4 ≤ 1) : ∀ n, n ≤ A 1 → m_out (arr A) r n = nI (outN A r n) ∧ outN A r n ≤ n := by
  intro n
  induction n with
  | zero => intro _; exact ⟨rfl, Nat.le_refl _⟩
  | succ n ih =>
    intro hn
    obtain ⟨i1, i2⟩ := ih (by omega)
    have h := h4 n (by omega)
    show m_out (arr A) r n + nI (eA A r n 4) = nI (outN A r n + eA A r n 4) ∧ outN A r n + eA A r n 4 ≤ n + 1
    rw [i1, nI_add]; exact ⟨rfl, by omega⟩
theorem a_close_ok (hJ : HJ c A) (hk : A 0 ≤ 999999) (ho : opn A) (hl : rA A (A 2 - 1) 2 ≤ A 0) (hE : EQ g t (arr A) (A 2)) : AR (s_X0_closeRace g t (A 1)) (nI (finN A (A 2 - 1) (A 1))) (nup A (16 + 4 * (A 2 - 1) + 3) 1) := by
  have h6 := hJ.1.2.1
  have h9 := hJ.1.1
  have e2 : g 2 - nI 1 = nI (A 2 - 1) := hE.g2 rfl ho.1
  have E1 := hE.gcls h6 ho.1
  rw [arr_up] at E1
  have a2 : nup A (16 + 4 * (A 2 - 1) + 3) 1 2 = A 2 := nup_ne (by omega)
  refine AR.mk (g := va_up g 3 (nI 2)) (t := t) ?_ (by rw [a2]; exact E1)
  unfold s_X0_closeRace
  rw [if_pos ((hJ.opg hE).mpr ho), q_sta hE h6 ho.1, hE.1, show arr A 0 = nI (A 0) from rfl, if_pos (nI_nlt hl (by omega)), up_o (by omega), e2]
  obtain ⟨n, hn, e5, e6⟩ := cnt_fin hE (r := A 2 - 1) (by omega) (A 1) h9
  rw [e5, ← e6, (fin_eq (fun b hb => ((hJ.opn_r ho).2.2.2.2.2.2.2 b hb).1) (A 1) (Nat.le_refl _)).1]
theorem a_close_no (hJ : HJ c A) (hc : c ≤ 512) (hk : A 0 ≤ 999999) (hl : opn A → A 0 < rA A (A 2 - 1) 2) (hE : EQ g t (arr A) (A 2)) : AR (s_X0_closeRace g t (A 1)) (-4) A := by
  have h6 := hJ.1.2.1
  refine AR.mk (g := g) (t := t) ?_ hE
  unfold s_X0_closeRace
  by_cases ho : opn A
  · have hst := hJ.st hc hk ho.1
    rw [if_pos ((hJ.opg hE).mpr ho), q_sta hE h6 ho.1, hE.1, show arr A 0 = nI (A 0) from rfl, if_neg (fun z => z (nI_lt (hl ho) (by omega)))]
  · rw [if_neg (fun q => ho ((hJ.opg hE).mp q))]
end Acts2
