/-! history, snapshot, text: the two objects side by side -/
def HRel (c z d : Nat) (hg : Nat → Nat → Int32) (ht : Nat → Nat → Nat → Int32) (h : Nat → Int32) : Prop := ∀ j, j < z → RS c (hg ((d + 5 - z + j) % 5)) (ht ((d + 5 - z + j) % 5)) (fun i => h (404 * j + i))
def JR (c : Nat) (hs : Int32) (g : Nat → Int32) (t : Nat → Nat → Int32) (d z : Nat) (hg : Nat → Nat → Int32) (ht : Nat → Nat → Nat → Int32) (g3 : Nat → Int32) (t3 : Nat → Nat → Int32) (n : Nat) (tx : Nat → Nat) (a h sn txm k : Nat → Int32) : Prop :=
  d < 5 ∧ z ≤ 4 ∧ k 0 = nI z ∧ RS c g t a ∧ HRel c z d hg ht h ∧ (hs = 0 ↔ k 1 = 0) ∧ (¬ hs = 0 → RS c g3 t3 sn) ∧ n ≤ 80 ∧ k 2 = nI n ∧ ∀ j, j < n → txm j = nI (tx j) ∧ tx j < 128
theorem cpy_at {f0 f1 : Nat → Int32} {f t i : Nat} : ∀ n, cpy f0 f1 f t n i = if t ≤ i ∧ i < t + n then f0 (f + (i - t)) else f1 i := by
  intro n
  induction n with
  | zero => rw [if_neg (by omega)]; rfl
  | succ n ih =>
    rw [cpy]
    by_cases q : i = t + n
    · rw [q, pk_us, if_pos (by omega)]; congr 1; omega
    · rw [pk_un q, ih]
      by_cases w : t ≤ i ∧ i < t + n
      · rw [if_pos w, if_pos (by omega)]
      · rw [if_neg w, if_neg (by omega)]
theorem m_sh_at {h : Nat → Int32} : ∀ n i, m_sh h n i = if i < n then h (404 + i) else h i := by
  intro n
  induction n with
  | zero => intro i; rw [if_neg (by omega)]; rfl
  | succ n ih =>
    intro i
    rw [m_sh]
    by_cases q : i = n
    · rw [q, pk_us, ih, if_neg (by omega), if_pos (by omega)]
    · rw [pk_un q, ih]
      by_cases w : i < n
      · rw [if_pos w, if_pos (by omega)]
      · rw [if_neg w, if_neg (by omega)]
theorem up_s {α : Type} {f : Nat → α} {k j : Nat} {e : α} (h : j = k) : va_up f k e j = e := by rw [h]; exact up_a
section Joint
variable {c : Nat} {hs : Int32} {g : Nat → Int32} {t : Nat → Nat → Int32} {d z : Nat} {hg : Nat → Nat → Int32} {ht : Nat → Nat → Nat → Int32} {g3 : Nat → Int32} {t3 : Nat → Nat → Int32} {n : Nat} {tx : Nat → Nat} {a h sn txm k : Nat → Int32}
theorem HRel.mono {c' : Nat} (hc : c ≤ c') (q : HRel c z d hg ht h) : HRel c' z d hg ht h := fun j hj => (q j hj).mono hc
theorem JR.mono {c' : Nat} (hc : c ≤ c') (q : JR c hs g t d z hg ht g3 t3 n tx a h sn txm k) : JR c' hs g t d z hg ht g3 t3 n tx a h sn txm k := by
  obtain ⟨h1, h2, h3, h4, h5, h6, h7, h8⟩ := q
  exact ⟨h1, h2, h3, h4.mono hc, h5.mono hc, h6, fun w => (h7 w).mono hc, h8⟩
/-- the slot that is written isn't one of those that are kept -/
theorem HRel.held (hd : d < 5) (hz : z ≤ 4) (q : HRel c z d hg ht h) (g' : Nat → Int32) (t' : Nat → Nat → Int32) : HRel c z d (va_up hg d g') (va_up ht d t') h := fun j hj => by
  rw [up_o (by omega), up_o (by omega)]; exact q j hj
/-- a state is recorded -/
theorem HRel.rec (hd : d < 5) (hz : z ≤ 4) (q : HRel c z d hg ht h) (hr : RS c g t a) : HRel c (min (z + 1) 4) (hn d) (va_up hg d g) (va_up ht d t) (m_hn a h z) := by
  intro j hj
  have hnd : hn d = (d + 1) % 5 := by unfold hn; split <;> omega
  by_cases w : z = 4
  · subst w
    have hm : ∀ i, m_hn a h 4 i = if 1212 ≤ i ∧ i < 1212 + 404 then a (0 + (i - 1212)) else if i < 1212 then h (404 + i) else h i := fun i => by
      unfold m_hn; rw [if_pos rfl, cpy_at, m_sh_at]
    by_cases w2 : j = 3
    · subst w2
      have e : (hn d + 5 - min (4 + 1) 4 + 3) % 5 = d := by rw [hnd]; omega
      rw [e, up_a, up_a]
      refine hr.ag (fun i hi => ?_)
      show m_hn a h 4 (404 * 3 + i) = a i
      rw [hm, if_pos (by omega)]; exact congrArg a (by omega)
    · have e : (hn d + 5 - min (4 + 1) 4 + j) % 5 = (d + 5 - 4 + (j + 1)) % 5 := by rw [hnd]; omega
      rw [e, up_o (by omega), up_o (by omega)]
      refine (q (j + 1) (by omega)).ag (fun i hi => ?_)
      show m_hn a h 4 (404 * j + i) = h (404 * (j + 1) + i)
      rw [hm, if_neg (by omega), if_pos (by omega)]; exact congrArg h (by omega)
  · have hm : ∀ i, m_hn a h z i = if 404 * z ≤ i ∧ i < 404 * z + 404 then a (0 + (i - 404 * z)) else h i := fun i => by
      unfold m_hn; rw [if_neg w, cpy_at]
    by_cases w2 : j = z
    · subst w2
      have e : (hn d + 5 - min (j + 1) 4 + j) % 5 = d := by rw [hnd]; omega
      rw [e, up_a, up_a]
      refine hr.ag (fun i hi => ?_)
      show m_hn a h j (404 * j + i) = a i
      rw [hm, if_pos (by omega)]; exact congrArg a (by omega)
    · have e : (hn d + 5 - min (z + 1) 4 + j) % 5 = (d + 5 - z + j) % 5 := by rw [hnd]; omega
      rw [e, up_o (by omega), up_o (by omega)]
      refine (q j (by omega)).ag (fun i hi => ?_)
      show m_hn a h z (404 * j + i) = h (404 * j + i)
      rw [hm, if_neg (by omega)]
theorem m_kn_min (hz : z ≤ 4) : m_kn z = min (z + 1) 4 := by unfold m_kn; split <;> omega
theorem jr_step (hJ : JR c hs g t d z hg ht g3 t3 n tx a h sn txm k) {R : C3} {M : M6} (hS : StOK c g t a h sn txm k z R M) : R.1 = M.1 ∧ JR (c + 1) hs R.2.1 R.2.2 (if R.1 < 0 then d else hn d) (if R.1 < 0 then z else min (z + 1) 4) (va_up hg d g) (va_up ht d t) g3 t3 n tx M.2.1 M.2.2.1 M.2.2.2.1 M.2.2.2.2.1 M.2.2.2.2.2 := by
  obtain ⟨h1, h2, h3, h4, h5, h6, h7, h8, h9, h10⟩ := hJ
  rcases hS with ⟨q1, q2, q3⟩ | ⟨q1, a', q3, q4⟩
  · have e1 : R.2.1 = g := congrArg (fun x : C3 => x.2.1) q2
    have e2 : R.2.2 = t := congrArg (fun x : C3 => x.2.2) q2
    rw [q3, if_pos q1, if_pos q1, e1, e2]
    exact ⟨rfl, h1, h2, h3, h4.mono (Nat.le_succ _), (h5.held h1 h2 g t).mono (Nat.le_succ _), h6, fun w => (h7 w).mono (Nat.le_succ _), h8, h9, h10⟩
  · rw [q3, if_neg (le_nlt q1), if_neg (le_nlt q1)]
    refine ⟨rfl, hn_lt d, by omega, ?_, q4, (h5.rec h1 h2 h4).mono (Nat.le_succ _), h6, fun w => (h7 w).mono (Nat.le_succ _), h8, h9, h10⟩
    show va_up k 0 (nI (m_kn z)) 0 = _
    rw [up_a, m_kn_min h2]
theorem jr_undo (hJ : JR c hs g t d z hg ht g3 t3 n tx a h sn txm k) : (z = 0 → s_X8_undo a h sn txm k z = ((-5), a, h, sn, txm, k)) ∧ (0 < z → ∃ a', s_X8_undo a h sn txm k z = (nI (z - 1), a', h, sn, txm, va_up k 0 (nI (z - 1))) ∧ JR c hs (hg (hp d)) (ht (hp d)) (hp d) (z - 1) hg ht g3 t3 n tx a' h sn txm (va_up k 0 (nI (z - 1)))) := by
  obtain ⟨h1, h2, h3, h4, h5, h6, h7, h8, h9, h10⟩ := hJ
  refine ⟨fun w => ?_, fun w => ?_⟩
  · unfold s_X8_undo
    rw [if_pos (by rw [h3, w]; rfl)]
  · have nz : ¬ k 0 = 0 := fun q => absurd ((nI_eq (a := z) (b := 0) (by omega) (by omega)).mp (h3.symm.trans q)) (by omega)
    have hpd : hp d = (d + 4) % 5 := by unfold hp; split <;> omega
    refine ⟨cpy h a (404 * (z - 1)) 0 404, ?_, hp_lt h1, by omega, up_a, ?_, fun j hj => ?_, h6, h7, h8, h9, h10⟩
    · unfold s_X8_undo
      rw [if_neg nz, up_a]
    · have e : (d + 5 - z + (z - 1)) % 5 = hp d := by rw [hpd]; omega
      have q := h5 (z - 1) (by omega)
      rw [e] at q
      refine q.ag (fun i hi => ?_)
      rw [cpy_at, if_pos (by omega)]; rfl
    · have e : (hp d + 5 - (z - 1) + j) % 5 = (d + 5 - z + j) % 5 := by rw [hpd]; omega
      rw [e]; exact h5 j (by omega)
theorem jr_save (hJ : JR c hs g t d z hg ht g3 t3 n tx a h sn txm k) : g 0 = a 0 ∧ JR c (nI 1) g t d z hg ht g t n tx a h (cpy a sn 0 0 404) txm (va_up k 1 (nI 1)) := by
  obtain ⟨h1, h2, h3, h4, h5, h6, h7, h8, h9, h10⟩ := hJ
  have h4' := h4
  obtain ⟨nb, nr, np, ck, hV, hE⟩ := h4'
  refine ⟨hE.1, h1, h2, (up_o (by omega)).trans h3, h4, h5, ?_, fun _ => h4.ag (fun i hi => ?_), h8, (up_o (by omega)).trans h9, h10⟩
  · rw [up_a]
  · rw [cpy_at, if_pos (by omega)]; congr 1; omega
theorem RS.clk (q : RS c g t a) : g 0 = a 0 ∧ 0 ≤ g 0 := by
  obtain ⟨nb, nr, np, ck, hV, hE⟩ := q
  have h8 := hV.2.2.2.2.2.2.2.1
  have h9 := hV.2.2.2.2.2.2.2.2.1
  exact ⟨hE.1, by rw [hE.1, h8]; exact nI_nn (by omega)⟩
theorem jr_restore (hJ : JR c hs g t d z hg ht g3 t3 n tx a h sn txm k) : (if hs = 0 then (-4) else g3 0) = (s_X8_restore a h sn txm k z).1 ∧ JR c hs (if hs = 0 then g else g3) (if hs = 0 then t else t3) (if hs = 0 then d else if g3 0 < 0 then d else hn d) (if hs = 0 then z else if g3 0 < 0 then z else min (z + 1) 4) (if hs = 0 then hg else va_up hg d g) (if hs = 0 then ht else va_up ht d t) g3 t3 n tx (s_X8_restore a h sn txm k z).2.1 (s_X8_restore a h sn txm k z).2.2.1 (s_X8_restore a h sn txm k z).2.2.2.1 (s_X8_restore a h sn txm k z).2.2.2.2.1 (s_X8_restore a h sn txm k z).2.2.2.2.2 := by
  have hJ0 := hJ
  obtain ⟨h1, h2, h3, h4, h5, h6, h7, h8, h9, h10⟩ := hJ
  by_cases w : hs = 0
  · have e : s_X8_restore a h sn txm k z = ((-4), a, h, sn, txm, k) := if_pos (h6.mp w)
    rw [e, if_pos w, if_pos w, if_pos w, if_pos w, if_pos w, if_pos w, if_pos w]
    exact ⟨rfl, hJ0⟩
  · have e : s_X8_restore a h sn txm k z = (cpy sn a 0 0 404 0, cpy sn a 0 0 404, m_hn a h z, sn, txm, va_up k 0 (nI (m_kn z))) := if_neg (fun q => w (h6.mpr q))
    have k1 := (h7 w).clk
    have ag3 : ag sn (cpy sn a 0 0 404) := fun i hi => by rw [cpy_at, if_pos (by omega)]; congr 1; omega
    obtain ⟨C, hC⟩ : ∃ C, C = cpy sn a 0 0 404 := ⟨_, rfl⟩
    rw [← hC] at e ag3
    rw [e, if_neg w, if_neg w, if_neg w, if_neg w, if_neg w, if_neg w, if_neg w, if_neg (le_nlt k1.2), if_neg (le_nlt k1.2)]
    refine ⟨k1.1.trans (ag3 0 (by omega)).symm, hn_lt d, by omega, ?_, (h7 w).ag ag3, h5.rec h1 h2 h4, h6, h7, h8, h9, h10⟩
    show va_up k 0 (nI (m_kn z)) 0 = _
    rw [up_a, m_kn_min h2]
theorem jr_append (hJ : JR c hs g t d z hg ht g3 t3 n tx a h sn txm k) (x : Int32) : as_r x n = (s_X8_append a h sn txm k x n).1 ∧ JR c hs g t d z hg ht g3 t3 (as_n x n) (as_t x n tx) (s_X8_append a h sn txm k x n).2.1 (s_X8_append a h sn txm k x n).2.2.1 (s_X8_append a h sn txm k x n).2.2.2.1 (s_X8_append a h sn txm k x n).2.2.2.2.1 (s_X8_append a h sn txm k x n).2.2.2.2.2 := by
  have hJ0 := hJ
  obtain ⟨h1, h2, h3, h4, h5, h6, h7, h8, h9, h10⟩ := hJ
  by_cases c1 : ¬ x < nI 32 ∧ ¬ nI 126 < x
  · by_cases c2 : n < 80
    · have hok : as_ok x n := ⟨c1.1, c1.2, c2⟩
      have e : s_X8_append a h sn txm k x n = (nI (n + 1), a, h, sn, upd txm n x, va_up k 2 (nI (n + 1))) := by
        unfold s_X8_append
        rw [if_pos c1, if_neg (fun q => absurd ((nI_eq (by omega) (by omega)).mp (h9.symm.trans q)) (by omega)), h9, nI_add, up_a]
      have er : as_r x n = nI (n + 1) := (if_neg c1.1).trans ((if_neg c1.2).trans (if_pos c2))
      obtain ⟨u1, u2⟩ := sg_of c1.1 c1.2
      rw [e, er]
      refine ⟨rfl, h1, h2, (show va_up k 2 (nI (n + 1)) 0 = nI z from (up_o (by omega)).trans h3), h4, h5, ?_, h7, ?_, ?_, ?_⟩
      · show hs = 0 ↔ va_up k 2 (nI (n + 1)) 1 = 0
        rw [up_o (by omega)]; exact h6
      · rw [as_n, if_pos hok]; omega
      · rw [as_n, if_pos hok]; show va_up k 2 (nI (n + 1)) 2 = _; exact up_a
      · rw [as_n, as_t, if_pos hok, if_pos hok]
        intro j hj
        by_cases w : j = n
        · subst w
          show upd txm j x j = nI (if j = j then x.toNatClampNeg else tx j) ∧ (if j = j then x.toNatClampNeg else tx j) < 128
          rw [pk_us, if_pos rfl]; exact ⟨u2, u1⟩
        · show upd txm n x j = nI (if j = n then x.toNatClampNeg else tx j) ∧ (if j = n then x.toNatClampNeg else tx j) < 128
          rw [pk_un w, if_neg w]; exact h10 j (by omega)
    · have hno : ¬ as_ok x n := fun q => c2 q.2.2
      have e : s_X8_append a h sn txm k x n = ((-3), a, h, sn, txm, k) := by
        unfold s_X8_append
        rw [if_pos c1, if_pos (by rw [h9, show n = 80 by omega])]
      have er : as_r x n = (-3) := (if_neg c1.1).trans ((if_neg c1.2).trans (if_neg c2))
      rw [e, er, as_n, as_t, if_neg hno, if_neg hno]
      exact ⟨rfl, hJ0⟩
  · have hno : ¬ as_ok x n := fun q => c1 ⟨q.1, q.2.1⟩
    have e : s_X8_append a h sn txm k x n = ((-2), a, h, sn, txm, k) := if_neg c1
    have er : as_r x n = (-2) := by
      unfold as_r
      by_cases q : x < nI 32
      · rw [if_pos q]
      · rw [if_neg q, if_pos (Decidable.of_not_not (fun w => c1 ⟨q, w⟩))]
    rw [e, er, as_n, as_t, if_neg hno, if_neg hno]
    exact ⟨rfl, hJ0⟩
theorem jr_clear (hJ : JR c hs g t d z hg ht g3 t3 n tx a h sn txm k) : nI n = k 2 ∧ JR c hs g t d z hg ht g3 t3 0 tx a h sn txm (va_up k 2 (nI 0)) := by
  obtain ⟨h1, h2, h3, h4, h5, h6, h7, h8, h9, h10⟩ := hJ
  refine ⟨h9.symm, h1, h2, (up_o (by omega)).trans h3, h4, h5, ?_, h7, by omega, up_a, fun j hj => absurd hj (by omega)⟩
  rw [up_o (by omega)]; exact h6
/-- where only the reference's own places were moved -/
theorem JR.ks {k' : Nat → Int32} (hJ : JR c hs g t d z hg ht g3 t3 n tx a h sn txm k) (e0 : k' 0 = k 0) (e1 : k' 1 = k 1) (e2 : k' 2 = nI n) : JR c hs g t d z hg ht g3 t3 n tx a h sn txm k' := by
  obtain ⟨h1, h2, h3, h4, h5, h6, h7, h8, h9, h10⟩ := hJ
  exact ⟨h1, h2, e0.trans h3, h4, h5, by rw [e1]; exact h6, h7, h8, e2, h10⟩
end Joint
