/-! places, points, totals on naturals -/
abbrev cnP (A : Nat → Nat) (r b : Nat) : Prop := eA A r b 0 = 3 ∧ eA A r b 4 = 0
def elN (A : Nat → Nat) (r b : Nat) : Nat := eA A r b 5 - rA A r 2 + eA A r b 3
def coN (A : Nat → Nat) (r b : Nat) : Nat := 100 * elN A r b / A (7 + b)
def ahN (A : Nat → Nat) (r b : Nat) : Nat → Nat
  | 0 => 0
  | i + 1 => ahN A r b i + if cnP A r i ∧ coN A r i < coN A r b then 1 else 0
def plN (A : Nat → Nat) (r b : Nat) : Nat := ahN A r b (A 1) + 1
def ptN (A : Nat → Nat) (r b : Nat) : Nat := if cnP A r b then plN A r b else A 1 + 1 + eA A r b 4
def smN (A : Nat → Nat) (b : Nat) : Nat → Nat
  | 0 => 0
  | i + 1 => smN A b i + ptN A i b
def pfN (A : Nat → Nat) (b w : Nat) : Nat → Nat
  | 0 => 0
  | i + 1 => pfN A b w i + if cnP A i b ∧ plN A i b = w then 1 else 0
def ncl (A : Nat → Nat) : Nat := if 0 < A 2 ∧ rA A (A 2 - 1) 3 = 0 then A 2 - 1 else A 2
def drp (A : Nat → Nat) : Prop := 0 < A 6 ∧ A 6 ≤ ncl A
def loN (A : Nat → Nat) (b : Nat) : Nat := (m_lf (arr A) b (A 1) (ncl A)).getD 0
def toN (A : Nat → Nat) (b : Nat) : Nat := smN A b (ncl A) - if 0 < A 6 ∧ A 6 ≤ ncl A then ptN A (loN A b) b else 0
def rkN (A : Nat → Nat) (b : Nat) : Nat := rk (AH (arr A) (A 1) (ncl A)) b (A 1)
section Score
variable {c : Nat} {A : Nat → Nat} {g : Nat → Int32} {t : Nat → Nat → Int32}
theorem HJ.bj (h : HJ c A) {r b : Nat} (hr : r < A 2) (hb : b < A 1) : BJ c A r b := (h.2.1 r hr).2.2.2.2.2.2.2 b hb
theorem HJ.rt (h : HJ c A) {b : Nat} (hb : b < A 1) : 50 ≤ A (7 + b) ∧ A (7 + b) ≤ 150 := h.1.2.2.2.2.2.2.2.2.2.2 b hb
theorem m_in {n b : Nat} (hb : b < n) (hn : n ≤ 40) : ¬ nI b < nI 0 ∧ ¬ nI n - nI 1 < nI b := by
  rw [pk_sub (by omega)]
  exact ⟨nI_nlt (Nat.zero_le _) (by omega), nI_nlt (by omega) (by omega)⟩
theorem q_cl (hJ : HJ c A) (hE : EQ g t (arr A) (A 2)) : c_cl g = nI (ncl A) := by
  unfold c_cl ncl
  by_cases ho : opn A
  · rw [if_pos ((hJ.opg hE).mpr ho), if_pos (show 0 < A 2 ∧ rA A (A 2 - 1) 3 = 0 from ho)]; exact hE.g2 rfl ho.1
  · rw [if_neg (fun q => ho ((hJ.opg hE).mp q)), if_neg (show ¬ (0 < A 2 ∧ rA A (A 2 - 1) 3 = 0) from ho)]; exact hE.2.2.1
theorem ncl_le : ncl A ≤ A 2 := by
  unfold ncl
  split <;> omega
theorem ncl_r (hJ : HJ c A) {r : Nat} (hr : r < A 2) : (rA A r 3 = 1 ∧ r < ncl A) ∨ (rA A r 3 = 0 ∧ ncl A ≤ r) := by
  obtain ⟨a1, a2, a3, a4, a5, a6, a7, a8⟩ := hJ.2.1 r hr
  unfold ncl
  by_cases q : r + 1 < A 2
  · refine Or.inl ⟨a7 q, ?_⟩
    split <;> omega
  · have e : A 2 - 1 = r := by omega
    rw [e]
    split
    · rename_i h; exact Or.inr ⟨h.2, Nat.le_refl _⟩
    · rename_i h; exact Or.inl ⟨by omega, hr⟩
theorem ncl_r3 (hJ : HJ c A) : ∀ r, r < A 2 → (m_r (arr A) r 3 = nI 1 ∧ r < ncl A) ∨ (m_r (arr A) r 3 = nI 0 ∧ ncl A ≤ r) := fun r hr => by
  rcases ncl_r hJ hr with h | h
  · exact Or.inl ⟨congrArg nI h.1, h.2⟩
  · exact Or.inr ⟨congrArg nI h.1, h.2⟩
theorem cn_iff (hJ : HJ c A) {r b : Nat} (hr : r < A 2) (hb : b < A 1) : m_cnt (arr A) r b ↔ cnP A r b := by
  obtain ⟨b1, b2, b3, b4, b5, b6, b7, b8, b9, b10⟩ := hJ.bj hr hb
  constructor
  · rintro ⟨h1, h2⟩
    exact ⟨(nI_eq (by omega) (by omega)).mp h1, (nI_eq (b := 0) (by omega) (by omega)).mp h2⟩
  · rintro ⟨h1, h2⟩
    exact ⟨congrArg nI h1, (congrArg nI h2 : nI (eA A r b 4) = nI 0)⟩
theorem el_b (hJ : HJ c A) (hc : c ≤ 512) (hk : A 0 ≤ 999999) {r b : Nat} (hr : r < A 2) (hb : b < A 1) : elN A r b ≤ 1153599 := by
  obtain ⟨b1, b2, b3, b4, b5, b6, b7, b8, b9, b10⟩ := hJ.bj hr hb
  unfold elN
  omega
theorem co_b (hJ : HJ c A) (hc : c ≤ 512) (hk : A 0 ≤ 999999) {r b : Nat} (hr : r < A 2) (hb : b < A 1) : coN A r b ≤ 2307198 := by
  have h1 := el_b hJ hc hk hr hb
  have h2 := hJ.rt hb
  unfold coN
  exact Nat.le_trans (Nat.div_le_div_left h2.1 (by omega)) (by omega)
theorem el_n (hJ : HJ c A) {r b : Nat} (hr : r < A 2) (hb : b < A 1) (hf : eA A r b 0 = 3) : m_el (arr A) r b = nI (elN A r b) := by
  obtain ⟨b1, b2, b3, b4, b5, b6, b7, b8, b9, b10⟩ := hJ.bj hr hb
  unfold m_el
  rw [if_pos (show m_e (arr A) r b 0 = nI 3 from congrArg nI hf)]
  show nI (eA A r b 5) - nI (rA A r 2) + nI (eA A r b 3) = _
  rw [pk_sub (b8 hf), nI_add]; rfl
theorem el_z (hJ : HJ c A) {r b : Nat} (hr : r < A 2) (hb : b < A 1) (hf : ¬ eA A r b 0 = 3) : m_el (arr A) r b = (-5) := by
  have h4 := (hJ.bj hr hb).1
  exact if_neg (fun z => hf ((nI_eq (by omega) (by omega)).mp z))
theorem co_n (hJ : HJ c A) (hc : c ≤ 512) (hk : A 0 ≤ 999999) {r b : Nat} (hr : r < A 2) (hb : b < A 1) (hf : eA A r b 0 = 3) : m_co (arr A) r b = nI (coN A r b) := by
  have h1 := el_b hJ hc hk hr hb
  have h2 := hJ.rt hb
  unfold m_co
  rw [if_pos (show m_e (arr A) r b 0 = nI 3 from congrArg nI hf), el_n hJ hr hb hf, pk_mul]
  exact pk_div (by omega) (by omega) (by omega)
theorem co_z (hJ : HJ c A) {r b : Nat} (hr : r < A 2) (hb : b < A 1) (hf : ¬ eA A r b 0 = 3) : m_co (arr A) r b = (-5) := by
  have h4 := (hJ.bj hr hb).1
  exact if_neg (fun z => hf ((nI_eq (by omega) (by omega)).mp z))
theorem ah_le {r b : Nat} : ∀ n, ahN A r b n ≤ n := by
  intro n
  induction n with
  | zero => exact Nat.le_refl _
  | succ n ih =>
    show ahN A r b n + (if cnP A r n ∧ coN A r n < coN A r b then 1 else 0) ≤ n + 1
    split <;> omega
theorem ah_lt {r b : Nat} : ∀ n, b < n → ahN A r b n + 1 ≤ n := by
  intro n
  induction n with
  | zero => intro h; omega
  | succ n ih =>
    intro h
    show ahN A r b n + (if cnP A r n ∧ coN A r n < coN A r b then 1 else 0) + 1 ≤ n + 1
    by_cases q : b = n
    · rw [if_neg (fun z => by rw [q] at z; omega)]
      have := ah_le (A := A) (r := r) (b := b) n
      omega
    · have := ih (by omega)
      split <;> omega
theorem pl_n (hJ : HJ c A) (hc : c ≤ 512) (hk : A 0 ≤ 999999) {r b : Nat} (hr : r < A 2) (hb : b < A 1) (hf : eA A r b 0 = 3) : ∀ n, n ≤ A 1 → m_pl (arr A) r b n = nI (ahN A r b n + 1) := by
  intro n
  induction n with
  | zero => intro _; rfl
  | succ n ih =>
    intro hn
    have hb2 := co_b hJ hc hk hr hb
    have hb3 := co_b hJ hc hk hr (b := n) (by omega)
    show (if m_cnt (arr A) r n then (if m_co (arr A) r b ≤ m_co (arr A) r n then m_pl (arr A) r b n + nI 0 else m_pl (arr A) r b n + nI 1) else m_pl (arr A) r b n + nI 0) = nI (ahN A r b n + (if cnP A r n ∧ coN A r n < coN A r b then 1 else 0) + 1)
    rw [ih (by omega)]
    by_cases q : cnP A r n
    · rw [if_pos ((cn_iff hJ hr (by omega)).mpr q), co_n hJ hc hk hr hb hf, co_n hJ hc hk hr (by omega) q.1]
      by_cases q2 : coN A r n < coN A r b
      · rw [if_neg (nI_ge q2 (by omega)), if_pos ⟨q, q2⟩, nI_add]
      · rw [if_pos (nI_le (by omega) (by omega)), if_neg (fun z => q2 z.2), nI_add]
    · rw [if_neg (fun z => q ((cn_iff hJ hr (by omega)).mp z)), if_neg (fun z => q z.1), nI_add]
theorem place_n (hJ : HJ c A) (hc : c ≤ 512) (hk : A 0 ≤ 999999) {r b : Nat} (hr : r < A 2) (hb : b < A 1) : m_place (arr A) r b (A 1) = if cnP A r b then nI (plN A r b) else (-5) := by
  unfold m_place
  by_cases q : cnP A r b
  · rw [if_pos ((cn_iff hJ hr hb).mpr q), if_pos q, pl_n hJ hc hk hr hb q.1 (A 1) (Nat.le_refl _)]; rfl
  · rw [if_neg (fun z => q ((cn_iff hJ hr hb).mp z)), if_neg q]
theorem plN_b (hJ : HJ c A) {r b : Nat} (hb : b < A 1) : 1 ≤ plN A r b ∧ plN A r b ≤ A 1 := ⟨Nat.succ_le_succ (Nat.zero_le _), ah_lt (A 1) hb⟩
theorem ptN_b (hJ : HJ c A) {r b : Nat} (hr : r < A 2) (hb : b < A 1) : 1 ≤ ptN A r b ∧ ptN A r b ≤ A 1 + 2 := by
  have h := plN_b hJ (r := r) hb
  have h6 := (hJ.bj hr hb).2.2.2.2.2.1
  unfold ptN
  split <;> omega
theorem pts_n (hJ : HJ c A) (hc : c ≤ 512) (hk : A 0 ≤ 999999) {r b : Nat} (hr : r < A 2) (hb : b < A 1) : m_pts (arr A) r b (A 1) = nI (ptN A r b) := by
  have h9 := hJ.1.1
  have h := plN_b hJ (r := r) hb
  have h6 := (hJ.bj hr hb).2.2.2.2.2.1
  unfold m_pts
  rw [place_n hJ hc hk hr hb]
  unfold ptN
  by_cases q : cnP A r b
  · rw [if_pos q, if_neg (nI_ne5 (by omega)), if_pos q]
  · rw [if_neg q, if_pos rfl, if_neg q]
    show (if nI (eA A r b 4) = nI 1 then nI (A 1) + nI 2 else nI (A 1) + nI 1) = _
    by_cases q2 : eA A r b 4 = 1
    · rw [if_pos (congrArg nI q2), q2, nI_add]
    · rw [if_neg (fun z => q2 ((nI_eq (by omega) (by omega)).mp z)), show eA A r b 4 = 0 by omega, nI_add]
theorem sum_n (hJ : HJ c A) (hc : c ≤ 512) (hk : A 0 ≤ 999999) {b : Nat} (hb : b < A 1) : ∀ n, n ≤ A 2 → m_sum (arr A) b (A 1) n = nI (smN A b n) ∧ smN A b n ≤ 11 * n := by
  intro n
  induction n with
  | zero => intro _; exact ⟨rfl, Nat.le_refl _⟩
  | succ n ih =>
    intro hn
    have h9 := hJ.1.1
    obtain ⟨i1, i2⟩ := ih (by omega)
    have h := ptN_b hJ (r := n) (by omega) hb
    show m_sum (arr A) b (A 1) n + m_pts (arr A) n b (A 1) = nI (smN A b n + ptN A n b) ∧ smN A b n + ptN A n b ≤ 11 * (n + 1)
    rw [i1, pts_n hJ hc hk (by omega) hb, nI_add]
    exact ⟨rfl, by omega⟩
theorem pof_n (hJ : HJ c A) (hc : c ≤ 512) (hk : A 0 ≤ 999999) {b w : Nat} (hb : b < A 1) (hw : w < 100) : ∀ n, n ≤ A 2 → m_pof (arr A) b (A 1) w n = nI (pfN A b w n) ∧ pfN A b w n ≤ n := by
  intro n
  induction n with
  | zero => intro _; exact ⟨rfl, Nat.le_refl _⟩
  | succ n ih =>
    intro hn
    have h9 := hJ.1.1
    obtain ⟨i1, i2⟩ := ih (by omega)
    have h := plN_b hJ (r := n) hb
    show (if m_place (arr A) n b (A 1) = nI w then m_pof (arr A) b (A 1) w n + nI 1 else m_pof (arr A) b (A 1) w n + nI 0) = nI (pfN A b w n + if cnP A n b ∧ plN A n b = w then 1 else 0) ∧ (pfN A b w n + if cnP A n b ∧ plN A n b = w then 1 else 0) ≤ n + 1
    rw [i1, place_n hJ hc hk (by omega) hb]
    by_cases q : cnP A n b
    · rw [if_pos q]
      by_cases q2 : plN A n b = w
      · rw [if_pos (congrArg nI q2), if_pos ⟨q, q2⟩, nI_add]; exact ⟨rfl, by omega⟩
      · rw [if_neg (fun z => q2 ((nI_eq (by omega) (by omega)).mp z)), if_neg (fun z => q2 z.2), nI_add]; exact ⟨rfl, by omega⟩
    · rw [if_neg q, if_neg (fun z : (-5) = nI w => nI_ne5 (by omega) z.symm), if_neg (fun z => q z.1), nI_add]; exact ⟨rfl, by omega⟩
theorem lf_n (hJ : HJ c A) (hc : c ≤ 512) (hk : A 0 ≤ 999999) {b : Nat} (hb : b < A 1) : ∀ n, n ≤ A 2 → (n = 0 ∧ m_lf (arr A) b (A 1) n = none) ∨ (∃ j, m_lf (arr A) b (A 1) n = some j ∧ j < n ∧ (∀ i, i < n → ptN A i b ≤ ptN A j b) ∧ ∀ i, j < i → i < n → ptN A i b < ptN A j b) := by
  intro n
  induction n with
  | zero => intro _; exact Or.inl ⟨rfl, rfl⟩
  | succ n ih =>
    intro hn
    have h9 := hJ.1.1
    refine Or.inr ?_
    show ∃ j, (match m_lf (arr A) b (A 1) n with
      | none => some n
      | some j => if m_pts (arr A) n b (A 1) < m_pts (arr A) j b (A 1) then some j else some n) = some j ∧ _
    rcases ih (by omega) with ⟨h0, h1⟩ | ⟨j, h1, h2, h3, h4⟩
    · rw [h1]
      exact ⟨n, rfl, by omega, fun i hi => by rw [show i = n by omega]; exact Nat.le_refl _, fun i h1 h2 => by omega⟩
    · rw [h1]
      show ∃ j', (if m_pts (arr A) n b (A 1) < m_pts (arr A) j b (A 1) then some j else some n) = some j' ∧ _
      rw [pts_n hJ hc hk (by omega) hb, pts_n hJ hc hk (by omega) hb]
      have hn2 := ptN_b hJ (r := n) (by omega) hb
      have hj2 := ptN_b hJ (r := j) (by omega) hb
      by_cases q : ptN A n b < ptN A j b
      · rw [if_pos (nI_lt q (by omega))]
        refine ⟨j, rfl, by omega, fun i hi => ?_, fun i k1 k2 => ?_⟩
        · by_cases q2 : i = n
          · rw [q2]; omega
          · exact h3 i (by omega)
        · by_cases q2 : i = n
          · rw [q2]; exact q
          · exact h4 i k1 (by omega)
      · rw [if_neg (nI_nlt (by omega) (by omega))]
        refine ⟨n, rfl, by omega, fun i hi => ?_, fun i k1 k2 => by omega⟩
        by_cases q2 : i = n
        · rw [q2]; exact Nat.le_refl _
        · have := h3 i (by omega)
          omega
theorem is_iff (hJ : HJ c A) : m_is (arr A) (ncl A) ↔ drp A := by
  have h6 := hJ.1.2.2.2.2.2.2.2.2.2.1
  have h2 := hJ.1.2.1
  have hn := ncl_le (A := A)
  constructor
  · rintro ⟨h1, h2'⟩
    refine ⟨Nat.pos_of_ne_zero fun z => ?_, Nat.le_of_not_lt fun z => h2' (nI_lt z (by omega))⟩
    have h3 : (0 : Int32) < nI (A 6) := h1
    rw [z] at h3
    exact absurd h3 (by decide)
  · rintro ⟨h1, h2'⟩
    exact ⟨nI_lt (a := 0) h1 (by omega), nI_nlt h2' (by omega)⟩
theorem lo_n (hJ : HJ c A) (hc : c ≤ 512) (hk : A 0 ≤ 999999) {b : Nat} (hb : b < A 1) (hd : drp A) : m_lf (arr A) b (A 1) (ncl A) = some (loN A b) ∧ loN A b < ncl A ∧ (∀ i, i < ncl A → ptN A i b ≤ ptN A (loN A b) b) ∧ ∀ i, loN A b < i → i < ncl A → ptN A i b < ptN A (loN A b) b := by
  rcases lf_n hJ hc hk hb (ncl A) ncl_le with ⟨h0, h1⟩ | ⟨j, h1, h2, h3, h4⟩
  · have := hd.1; have := hd.2; omega
  · have e : loN A b = j := by unfold loN; rw [h1]; rfl
    rw [e]
    exact ⟨h1, h2, h3, h4⟩
theorem pt_sm {b : Nat} : ∀ n i, i < n → ptN A i b ≤ smN A b n := by
  intro n
  induction n with
  | zero => intro i hi; omega
  | succ n ih =>
    intro i hi
    show ptN A i b ≤ smN A b n + ptN A n b
    by_cases q : i = n
    · rw [q]; omega
    · have := ih i (by omega); omega
theorem tot_n (hJ : HJ c A) (hc : c ≤ 512) (hk : A 0 ≤ 999999) {b : Nat} (hb : b < A 1) : m_tot (arr A) b (A 1) (ncl A) = nI (toN A b) ∧ toN A b ≤ 66 := by
  have h2 := hJ.1.2.1
  have hn := ncl_le (A := A)
  obtain ⟨s1, s2⟩ := sum_n hJ hc hk hb (ncl A) hn
  unfold m_tot m_lo toN
  by_cases hd : drp A
  · obtain ⟨l1, l2, l3, l4⟩ := lo_n hJ hc hk hb hd
    rw [if_pos ((is_iff hJ).mpr hd), l1, if_pos (show 0 < A 6 ∧ A 6 ≤ ncl A from hd)]
    show m_sum (arr A) b (A 1) (ncl A) - m_pts (arr A) (loN A b) b (A 1) = _ ∧ _
    rw [s1, pts_n hJ hc hk (by omega) hb, pk_sub (pt_sm _ _ l2)]
    exact ⟨rfl, by omega⟩
  · rw [if_neg (fun z => hd ((is_iff hJ).mp z)), if_neg (show ¬ (0 < A 6 ∧ A 6 ≤ ncl A) from hd)]
    show m_sum (arr A) b (A 1) (ncl A) - nI 0 = _ ∧ _
    rw [s1, pk_sub (by omega)]
    exact ⟨rfl, by omega⟩
theorem rkN_b (hJ : HJ c A) {b : Nat} (hb : b < A 1) : 1 ≤ rkN A b ∧ rkN A b ≤ A 1 := by
  have h1 : ∀ n, 1 ≤ rk (AH (arr A) (A 1) (ncl A)) b n := by
    intro n
    induction n with
    | zero => exact Nat.le_refl _
    | succ n ih =>
      show 1 ≤ (if AH (arr A) (A 1) (ncl A) n b = true then rk (AH (arr A) (A 1) (ncl A)) b n + 1 else rk (AH (arr A) (A 1) (ncl A)) b n)
      split <;> omega
  have h2 : ∀ n, b < n → rk (AH (arr A) (A 1) (ncl A)) b n ≤ n := by
    intro n
    induction n with
    | zero => intro h; omega
    | succ n ih =>
      intro h
      show (if AH (arr A) (A 1) (ncl A) n b = true then rk (AH (arr A) (A 1) (ncl A)) b n + 1 else rk (AH (arr A) (A 1) (ncl A)) b n) ≤ n + 1
      by_cases q : b = n
      · rw [← q, ah_self, if_neg (by decide)]
        exact rk_b _ _ _
      · have := ih (by omega)
        split <;> omega
  exact ⟨h1 _, h2 _ hb⟩
theorem rkN_ne (hJ : HJ c A) (hc : c ≤ 512) (hk : A 0 ≤ 999999) {x y : Nat} (hx : x < A 1) (hy : y < A 1) (hne : x ≠ y) : rkN A x ≠ rkN A y := rk_ne (hJ.iv hc hk) (by have := ncl_le (A := A); have := hJ.1.2.1; omega) hx hy hne
theorem rkN_lt (hJ : HJ c A) (hc : c ≤ 512) (hk : A 0 ≤ 999999) {x y : Nat} (hx : x < A 1) (hy : y < A 1) (ht : toN A x < toN A y) : rkN A x < rkN A y := by
  have hV := hJ.iv hc hk
  have h6 : ncl A ≤ 6 := by have := ncl_le (A := A); have := hJ.1.2.1; omega
  obtain ⟨K, k1, k2⟩ := K_ex hV h6
  have hah : AH (arr A) (A 1) (ncl A) x y = true := by
    have t1 : nT (arr A) (A 1) (ncl A) x = toN A x := by unfold nT; rw [(tot_n hJ hc hk hx).1, nI_clamp (by have := (tot_n hJ hc hk hx).2; omega)]
    have t2 : nT (arr A) (A 1) (ncl A) y = toN A y := by unfold nT; rw [(tot_n hJ hc hk hy).1, nI_clamp (by have := (tot_n hJ hc hk hy).2; omega)]
    show ah (nT (arr A) (A 1) (ncl A)) (nP (arr A) (A 1) (ncl A)) (nL (arr A) (A 1) (ncl A)) x y = true
    unfold ah
    rw [t1, t2, if_neg (by omega)]
    exact decide_eq_true ht
  rw [k1 x y hx hy] at hah
  have hK : K x < K y := of_decide_eq_true hah
  unfold rkN
  rw [rk_cong (B := fun i z => decide (K i < K z)) (fun i hi => k1 i x hi hx) (A 1) (Nat.le_refl _), rk_cong (B := fun i z => decide (K i < K z)) (fun i hi => k1 i y hi hy) (A 1) (Nat.le_refl _)]
  exact (rk_le hK (A 1) (fun i z _ => rfl)).2 hx
end Score
