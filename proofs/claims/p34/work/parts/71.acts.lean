/-! the class' acts, on naturals: the clock, the line, the buoys -/
abbrev ep (A : Nat → Nat) (r b w v : Nat) : Nat → Nat := nup A (80 + 6 * (9 * r + b) + w) v
theorem ep_2 {A : Nat → Nat} {r b w v : Nat} : ep A r b w v 2 = A 2 := nup_ne (by omega)
theorem ep_lo {A : Nat → Nat} {r b w v i : Nat} (h : i < 80) : ep A r b w v i = A i := nup_ne (by omega)
theorem ep_at {A : Nat → Nat} {r b w v : Nat} : eA (ep A r b w v) r b w = v := nup_at
theorem ep_ne {A : Nat → Nat} {r b w v r1 b1 w1 : Nat} (hb : b < 9) (hw : w < 6) (hb1 : b1 < 9) (hw1 : w1 < 6) (h : ¬ (r1 = r ∧ b1 = b ∧ w1 = w)) : eA (ep A r b w v) r1 b1 w1 = eA A r1 b1 w1 := nup_ne (by omega)
section Acts
variable {c : Nat} {A : Nat → Nat} {g : Nat → Int32} {t : Nat → Nat → Int32}
theorem q_lat (hE : EQ g t (arr A) (A 2)) (h6 : A 2 ≤ 6) (hn : 0 < A 2) {b w : Nat} (hb : b < 9) (hw : w < 6) : c_lat g t (nI b) (nI w) = nI (eA A (A 2 - 1) b w) := hE.lat rfl h6 hn hb hw
theorem q_sta (hE : EQ g t (arr A) (A 2)) (h6 : A 2 ≤ 6) (hn : 0 < A 2) : c_start g t = nI (rA A (A 2 - 1) 2) := hE.sta rfl h6 hn
theorem q_crl (hE : EQ g t (arr A) (A 2)) (h6 : A 2 ≤ 6) (hn : 0 < A 2) {w : Nat} (hw : w < 3) : tg 3 18 (t 2) (g 2 - nI 1) (nI w) = nI (rA A (A 2 - 1) w) := hE.crl rfl h6 hn hw
theorem q_pro (hE : EQ g t (arr A) (A 2)) {p w : Nat} (hp : p < 10) (hw : w < 4) : tg 4 40 (t 4) (nI p) (nI w) = nI (pA A p w) := hE.pro hp hw
theorem q_set (hE : EQ g t (arr A) (A 2)) {j : Nat} (hj : j < 3) : tg 1 3 (t 1) (nI j) (nI 0) = nI (A (4 + j)) := hE.set hj
theorem q_in (hE : EQ g t (arr A) (A 2)) (h9 : A 1 ≤ 9) {b : Nat} (hb : b < A 1) : ¬ nI b < 0 ∧ ¬ g 1 ≤ nI b := ⟨nI_pos (by omega), by rw [hE.2.1]; exact nI_ge hb (by omega)⟩
theorem q_inp (hE : EQ g t (arr A) (A 2)) (h9 : A 3 ≤ 10) {b : Nat} (hb : b < A 3) : ¬ nI b < 0 ∧ ¬ g 4 ≤ nI b := ⟨nI_pos (by omega), by rw [hE.2.2.2.1]; exact nI_ge hb (by omega)⟩
theorem q_put (hE : EQ g t (arr A) (A 2)) (h6 : A 2 ≤ 6) (hn : 0 < A 2) {b w v : Nat} (hb : b < 9) (hw : w < 6) : EQ g (c_pl g t (nI b) (nI w) (nI v)) (arr (ep A (A 2 - 1) b w v)) (ep A (A 2 - 1) b w v 2) := by
  have h := hE.put (v := nI v) rfl h6 hn hb hw
  rw [show ly (arr A) (A 2 - 1) b w (nI v) = arr (ep A (A 2 - 1) b w v) from arr_up] at h
  rw [ep_2]; exact h
theorem q_cas (hE : EQ g t (arr A) (A 2)) (h6 : A 2 ≤ 6) {p w v : Nat} (hp : p < 10) (hw : w < 4) : EQ g (va_up t 4 (tp 4 40 (t 4) (nI p) (nI w) (nI v))) (arr (nup A (40 + 4 * p + w) v)) (nup A (40 + 4 * p + w) v 2) := by
  have h := hE.cas (v := nI v) h6 hp hw
  rw [arr_up] at h
  rw [nup_ne (by omega)]; exact h
theorem HJ.st {c : Nat} {A : Nat → Nat} (h : HJ c A) (hc : c ≤ 512) (hk : A 0 ≤ 999999) (hn : 0 < A 2) : rA A (A 2 - 1) 2 ≤ 1204799 := by
  obtain ⟨hg, hr, -⟩ := h
  have := (hr (A 2 - 1) (by omega)).2.2.2.2.1
  omega
theorem a_pass (hk : A 0 ≤ 999999) (hE : EQ g t (arr A) (A 2)) {by' : Nat} (h1 : 1 ≤ by') (h2 : by' ≤ 9999) (h3 : A 0 + by' ≤ 999999) : AR (s_X0_passTime g t (nI by')) (nI (A 0 + by')) (nup A 0 (A 0 + by')) := by
  have e : g 0 + nI by' = nI (A 0 + by') := by rw [hE.1]; exact nI_add _ _
  refine AR.mk (g := va_up g 0 (nI (A 0 + by'))) (t := t) ?_ ?_
  · unfold s_X0_passTime
    rw [if_neg (nI_nlt h1 (by omega)), if_pos (nI_le h2 (by omega)), e, if_pos (nI_le h3 (by omega)), up_a]
  · have h := hE.gclk (v := nI (A 0 + by'))
    rw [arr_up] at h
    rw [nup_ne (by omega)]; exact h
theorem a_line_go (hJ : HJ c A) (hc : c ≤ 512) (hk : A 0 ≤ 999999) (ho : opn A) {b : Nat} (hb : b < A 1) (hs : eA A (A 2 - 1) b 0 ≤ 1) (hl : rA A (A 2 - 1) 2 ≤ A 0) (hE : EQ g t (arr A) (A 2)) : AR (s_X0_crossLine g t (nI b)) (nI 2) (ep A (A 2 - 1) b 0 2) := by
  have h9 := hJ.1.1
  have h6 := hJ.1.2.1
  have k : s_X0_kindAfterLine g t (nI b) = nI 2 := by
    unfold s_X0_kindAfterLine
    rw [q_lat hE h6 ho.1 (by omega) (by omega), q_sta hE h6 ho.1, hE.1, show arr A 0 = nI (A 0) from rfl]
    rcases (show eA A (A 2 - 1) b 0 = 0 ∨ eA A (A 2 - 1) b 0 = 1 by omega) with e | e
    · rw [e, if_pos (show (nI 0 : Int32) = 0 from rfl), if_pos (nI_nlt hl (by omega))]
    · rw [e, if_neg (by decide), if_pos (show (nI 1 : Int32) = 1 from rfl), if_pos (nI_nlt hl (by omega))]
  refine AR.mk (g := g) (t := c_pl g t (nI b) (nI 0) (nI 2)) ?_ (q_put hE h6 ho.1 (by omega) (by omega))
  unfold s_X0_crossLine
  rw [if_pos (q_in hE h9 hb), if_pos ((hJ.opg hE).mpr ho), k, if_neg (by decide), if_neg (by decide)]
theorem a_line_er (hJ : HJ c A) (hc : c ≤ 512) (hk : A 0 ≤ 999999) (ho : opn A) {b : Nat} (hb : b < A 1) (hs : eA A (A 2 - 1) b 0 ≤ 1) (hl : A 0 < rA A (A 2 - 1) 2) (hE : EQ g t (arr A) (A 2)) : AR (s_X0_crossLine g t (nI b)) (nI (1 - eA A (A 2 - 1) b 0)) (ep A (A 2 - 1) b 0 (1 - eA A (A 2 - 1) b 0)) := by
  have h9 := hJ.1.1
  have h6 := hJ.1.2.1
  have hst := hJ.st hc hk ho.1
  have k : s_X0_kindAfterLine g t (nI b) = nI (1 - eA A (A 2 - 1) b 0) := by
    unfold s_X0_kindAfterLine
    rw [q_lat hE h6 ho.1 (by omega) (by omega), q_sta hE h6 ho.1, hE.1, show arr A 0 = nI (A 0) from rfl]
    rcases (show eA A (A 2 - 1) b 0 = 0 ∨ eA A (A 2 - 1) b 0 = 1 by omega) with e | e
    · rw [e, if_pos (show (nI 0 : Int32) = 0 from rfl), if_neg (fun q => q (nI_lt hl (by omega)))]
    · rw [e, if_neg (by decide), if_pos (show (nI 1 : Int32) = 1 from rfl), if_neg (fun q => q (nI_lt hl (by omega)))]
  have n4 : ¬ nI (1 - eA A (A 2 - 1) b 0) = (-4) := by
    rcases (show 1 - eA A (A 2 - 1) b 0 = 0 ∨ 1 - eA A (A 2 - 1) b 0 = 1 by omega) with e | e <;> rw [e] <;> decide
  have n3 : ¬ nI (1 - eA A (A 2 - 1) b 0) = nI 3 := by
    rcases (show 1 - eA A (A 2 - 1) b 0 = 0 ∨ 1 - eA A (A 2 - 1) b 0 = 1 by omega) with e | e <;> rw [e] <;> decide
  refine AR.mk (g := g) (t := c_pl g t (nI b) (nI 0) (nI (1 - eA A (A 2 - 1) b 0))) ?_ (q_put hE h6 ho.1 (by omega) (by omega))
  unfold s_X0_crossLine
  rw [if_pos (q_in hE h9 hb), if_pos ((hJ.opg hE).mpr ho), k, if_neg n4, if_neg n3]
theorem q_all (hJ : HJ c A) (hn : 0 < A 2) (hE : EQ g t (arr A) (A 2)) {b : Nat} (hb : b < A 1) : s_X0_hasAllRoundings g t (nI b) = if eA A (A 2 - 1) b 1 < rA A (A 2 - 1) 0 * rA A (A 2 - 1) 1 then nI 0 else nI 1 := by
  have h9 := hJ.1.1
  have h6 := hJ.1.2.1
  obtain ⟨r1, r2, r3, r4, -, -, -, r8⟩ := hJ.2.1 (A 2 - 1) (by omega)
  have hbl : rA A (A 2 - 1) 0 * rA A (A 2 - 1) 1 ≤ 5 * 3 := Nat.mul_le_mul r2 r4
  have hro := (r8 b hb).2.1
  unfold s_X0_hasAllRoundings
  rw [q_lat hE h6 hn (by omega) (by omega), q_crl hE h6 hn (by omega), q_crl hE h6 hn (by omega), pk_mul]
  by_cases q : eA A (A 2 - 1) b 1 < rA A (A 2 - 1) 0 * rA A (A 2 - 1) 1
  · rw [if_pos (nI_lt q (by omega)), if_pos q]
  · rw [if_neg (nI_nlt (by omega) (by omega)), if_neg q]
theorem a_line_fi (hJ : HJ c A) (ho : opn A) {b : Nat} (hb : b < A 1) (hs : eA A (A 2 - 1) b 0 = 2) (ha : eA A (A 2 - 1) b 1 = rA A (A 2 - 1) 0 * rA A (A 2 - 1) 1) (hE : EQ g t (arr A) (A 2)) : AR (s_X0_crossLine g t (nI b)) (nI 3) (ep (ep A (A 2 - 1) b 5 (A 0)) (A 2 - 1) b 0 3) := by
  have h9 := hJ.1.1
  have h6 := hJ.1.2.1
  have qa : s_X0_hasAllRoundings g t (nI b) = nI 1 := by rw [q_all hJ ho.1 hE hb, if_neg (by omega)]
  have k : s_X0_kindAfterLine g t (nI b) = nI 3 := by
    unfold s_X0_kindAfterLine
    rw [q_lat hE h6 ho.1 (by omega) (by omega), hs, if_neg (by decide), if_neg (by decide), if_pos (show (nI 2 : Int32) = 2 from rfl), qa, if_neg (show ¬ (nI 1 : Int32) = 0 by decide)]
  have h1 := q_put hE h6 ho.1 (b := b) (w := 5) (v := A 0) (by omega) (by omega)
  have h2 := q_put h1 (by rw [ep_2]; exact h6) (by rw [ep_2]; exact ho.1) (b := b) (w := 0) (v := 3) (by omega) (by omega)
  rw [ep_2] at h2
  refine AR.mk (g := g) (t := c_pl g (c_pl g t (nI b) (nI 5) (nI (A 0))) (nI b) (nI 0) (nI 3)) ?_ h2
  unfold s_X0_crossLine
  rw [if_pos (q_in hE h9 hb), if_pos ((hJ.opg hE).mpr ho), k, if_neg (by decide), if_pos rfl, hE.1]
  rfl
theorem a_line_no (hJ : HJ c A) {b : Nat} (hb : b < A 1) (hs : opn A → 3 ≤ eA A (A 2 - 1) b 0) (hE : EQ g t (arr A) (A 2)) : AR (s_X0_crossLine g t (nI b)) (-4) A := by
  have h9 := hJ.1.1
  have h6 := hJ.1.2.1
  refine AR.mk (g := g) (t := t) ?_ hE
  unfold s_X0_crossLine
  rw [if_pos (q_in hE h9 hb)]
  by_cases ho : opn A
  · have k : s_X0_kindAfterLine g t (nI b) = (-4) := by
      unfold s_X0_kindAfterLine
      have h3 := hs ho
      have h4 := ((hJ.2.1 (A 2 - 1) (by have := ho.1; omega)).2.2.2.2.2.2.2 b hb).1
      rw [q_lat hE h6 ho.1 (by omega) (by omega)]
      rcases (show eA A (A 2 - 1) b 0 = 3 ∨ eA A (A 2 - 1) b 0 = 4 by omega) with e | e <;> rw [e, if_neg (by decide), if_neg (by decide), if_neg (by decide)]
    rw [if_pos ((hJ.opg hE).mpr ho), k, if_pos rfl]
  · rw [if_neg (fun q => ho ((hJ.opg hE).mp q))]
theorem a_ret_ok (hJ : HJ c A) (ho : opn A) {b : Nat} (hb : b < A 1) (hs : eA A (A 2 - 1) b 0 ≤ 2) (hE : EQ g t (arr A) (A 2)) : AR (s_X0_retireBoat g t (nI b)) (nI (eA A (A 2 - 1) b 0)) (ep A (A 2 - 1) b 0 4) := by
  have h9 := hJ.1.1
  have h6 := hJ.1.2.1
  refine AR.mk (g := g) (t := c_pl g t (nI b) (nI 0) (nI 4)) ?_ (q_put hE h6 ho.1 (by omega) (by omega))
  unfold s_X0_retireBoat
  rw [if_pos (q_in hE h9 hb), if_pos ((hJ.opg hE).mpr ho), q_lat hE h6 ho.1 (by omega) (by omega), if_neg (fun q => by have := (nI_eq (by omega) (by omega)).mp q; omega), if_neg (fun q => by have := (nI_eq (by omega) (by omega)).mp q; omega)]
theorem a_ret_no (hJ : HJ c A) {b : Nat} (hb : b < A 1) (hs : opn A → 3 ≤ eA A (A 2 - 1) b 0) (hE : EQ g t (arr A) (A 2)) : AR (s_X0_retireBoat g t (nI b)) (-4) A := by
  have h9 := hJ.1.1
  have h6 := hJ.1.2.1
  refine AR.mk (g := g) (t := t) ?_ hE
  unfold s_X0_retireBoat
  rw [if_pos (q_in hE h9 hb)]
  by_cases ho : opn A
  · have h3 := hs ho
    have h4 := ((hJ.2.1 (A 2 - 1) (by have := ho.1; omega)).2.2.2.2.2.2.2 b hb).1
    rw [if_pos ((hJ.opg hE).mpr ho), q_lat hE h6 ho.1 (by omega) (by omega)]
    rcases (show eA A (A 2 - 1) b 0 = 3 ∨ eA A (A 2 - 1) b 0 = 4 by omega) with e | e
    · rw [e, if_pos rfl]
    · rw [e, if_neg (by decide), if_pos rfl]
  · rw [if_neg (fun q => ho ((hJ.opg hE).mp q))]
theorem nI_mod {a b : Nat} (hb : 0 < b) (hb2 : b < 2 ^ 30) (ha : a < 2 ^ 30) : nI a - nI a / nI b * nI b = nI (a % b) := by
  have h1 : nI a / nI b = nI (a / b) := pk_div (by omega) hb (by omega)
  have h2 : a / b * b ≤ a := Nat.div_mul_le_self a b
  rw [h1, pk_mul, pk_sub h2]
  have h3 : a % b = a - a / b * b := by rw [Nat.mod_def, Nat.mul_comm]
  rw [h3]
theorem a_buoy_no (hJ : HJ c A) {b y : Nat} (hb : b < A 1) (hy : y < 9) (hs : opn A → rA A (A 2 - 1) 0 ≤ y) (hE : EQ g t (arr A) (A 2)) : AR (s_X0_passBuoy g t (nI b) (nI y)) (-2) A := by
  have h9 := hJ.1.1
  have h6 := hJ.1.2.1
  refine AR.mk (g := g) (t := t) ?_ hE
  unfold s_X0_passBuoy
  rw [if_pos (q_in hE h9 hb)]
  by_cases ho : opn A
  · rw [if_pos ((hJ.opg hE).mpr ho), if_neg (nI_pos (by omega)), q_crl hE h6 ho.1 (by omega), if_neg (nI_nlt (hs ho) (by omega))]
  · rw [if_neg (fun q => ho ((hJ.opg hE).mp q))]
theorem q_buoy (hJ : HJ c A) (ho : opn A) {b y : Nat} (hb : b < A 1) (hy : y < rA A (A 2 - 1) 0) (hs : eA A (A 2 - 1) b 0 = 2) (hE : EQ g t (arr A) (A 2)) : s_X0_passBuoy g t (nI b) (nI y) = if y = eA A (A 2 - 1) b 1 % rA A (A 2 - 1) 0 ∧ eA A (A 2 - 1) b 1 < rA A (A 2 - 1) 0 * rA A (A 2 - 1) 1 then (c_lat g (c_pl g t (nI b) (nI 1) (nI (eA A (A 2 - 1) b 1 + 1))) (nI b) (nI 1), g, c_pl g t (nI b) (nI 1) (nI (eA A (A 2 - 1) b 1 + 1))) else (c_lat g (c_pl g t (nI b) (nI 2) (nI (eA A (A 2 - 1) b 2 + 1))) (nI b) (nI 1), g, c_pl g t (nI b) (nI 2) (nI (eA A (A 2 - 1) b 2 + 1))) := by
  have h9 := hJ.1.1
  have h6 := hJ.1.2.1
  obtain ⟨r1, r2, r3, r4, -, -, -, r8⟩ := hJ.2.1 (A 2 - 1) (by have := ho.1; omega)
  have hbl : rA A (A 2 - 1) 0 * rA A (A 2 - 1) 1 ≤ 5 * 3 := Nat.mul_le_mul r2 r4
  have hro := (r8 b hb).2.1
  have hml : eA A (A 2 - 1) b 1 % rA A (A 2 - 1) 0 < rA A (A 2 - 1) 0 := Nat.mod_lt _ r1
  unfold s_X0_passBuoy
  rw [if_pos (q_in hE h9 hb), if_pos ((hJ.opg hE).mpr ho), if_neg (nI_pos (by omega)), q_crl hE h6 ho.1 (by omega), if_pos (nI_lt hy (by omega)), q_lat hE h6 ho.1 (by omega) (by omega), hs, if_pos rfl, if_neg (show ¬ nI (rA A (A 2 - 1) 0) ≤ 0 from nI_nle r1 (by omega)), q_lat hE h6 ho.1 (by omega) (by omega), nI_mod r1 (by omega) (by omega), q_lat hE h6 ho.1 (by omega) (by omega), q_all hJ ho.1 hE hb, nI_add, nI_add]
  by_cases q1 : y = eA A (A 2 - 1) b 1 % rA A (A 2 - 1) 0
  · rw [if_pos (congrArg nI q1)]
    by_cases q2 : eA A (A 2 - 1) b 1 < rA A (A 2 - 1) 0 * rA A (A 2 - 1) 1
    · rw [if_pos q2, if_pos (show (nI 0 : Int32) = 0 from rfl), if_pos ⟨q1, q2⟩]
    · rw [if_neg q2, if_neg (by decide), if_neg (fun z => q2 z.2)]
  · rw [if_neg (fun z => q1 ((nI_eq (by omega) (by omega)).mp z)), if_neg (fun z => q1 z.1)]
theorem a_buoy_ok (hJ : HJ c A) (ho : opn A) {b y : Nat} (hb : b < A 1) (hy : y < rA A (A 2 - 1) 0) (hs : eA A (A 2 - 1) b 0 = 2) (h1 : y = eA A (A 2 - 1) b 1 % rA A (A 2 - 1) 0) (h2 : eA A (A 2 - 1) b 1 < rA A (A 2 - 1) 0 * rA A (A 2 - 1) 1) (hE : EQ g t (arr A) (A 2)) : AR (s_X0_passBuoy g t (nI b) (nI y)) (nI (eA A (A 2 - 1) b 1 + 1)) (ep A (A 2 - 1) b 1 (eA A (A 2 - 1) b 1 + 1)) := by
  have h9 := hJ.1.1
  have h6 := hJ.1.2.1
  have hp := q_put hE h6 ho.1 (b := b) (w := 1) (v := eA A (A 2 - 1) b 1 + 1) (by omega) (by omega)
  refine AR.mk (g := g) (t := c_pl g t (nI b) (nI 1) (nI (eA A (A 2 - 1) b 1 + 1))) ?_ hp
  rw [q_buoy hJ ho hb hy hs hE, if_pos ⟨h1, h2⟩, q_lat hp (by rw [ep_2]; exact h6) (by rw [ep_2]; exact ho.1) (by omega) (by omega), ep_2, ep_at]
theorem a_buoy_mi (hJ : HJ c A) (ho : opn A) {b y : Nat} (hb : b < A 1) (hy : y < rA A (A 2 - 1) 0) (hs : eA A (A 2 - 1) b 0 = 2) (h1 : ¬ y = eA A (A 2 - 1) b 1 % rA A (A 2 - 1) 0) (hE : EQ g t (arr A) (A 2)) : AR (s_X0_passBuoy g t (nI b) (nI y)) (nI (eA A (A 2 - 1) b 1)) (ep A (A 2 - 1) b 2 (eA A (A 2 - 1) b 2 + 1)) := by
  have h9 := hJ.1.1
  have h6 := hJ.1.2.1
  have hp := q_put hE h6 ho.1 (b := b) (w := 2) (v := eA A (A 2 - 1) b 2 + 1) (by omega) (by omega)
  refine AR.mk (g := g) (t := c_pl g t (nI b) (nI 2) (nI (eA A (A 2 - 1) b 2 + 1))) ?_ hp
  rw [q_buoy hJ ho hb hy hs hE, if_neg (fun z => h1 z.1), q_lat hp (by rw [ep_2]; exact h6) (by rw [ep_2]; exact ho.1) (by omega) (by omega), ep_2, ep_ne (by omega) (by omega) (by omega) (by omega) (by omega)]
end Acts
