/-! places, points, totals once more, where nothing is said of who is out by which protest -/
def QJ (c : Nat) (A : Nat → Nat) : Prop := GJ A ∧ (∀ r, r < A 2 → RJ c A r) ∧ (∀ r b w, r < 6 → A 1 ≤ b → b < 9 → w < 6 → eA A r b w = 0) ∧ ∀ p, p < A 3 → PJ A p
theorem QJ.bj {c : Nat} {A : Nat → Nat} (h : QJ c A) {r b : Nat} (hr : r < A 2) (hb : b < A 1) : BJ c A r b := (h.2.1 r hr).2.2.2.2.2.2.2 b hb
theorem QJ.rt {c : Nat} {A : Nat → Nat} (h : QJ c A) {b : Nat} (hb : b < A 1) : 50 ≤ A (7 + b) ∧ A (7 + b) ≤ 150 := h.1.2.2.2.2.2.2.2.2.2.2 b hb
theorem HJ.out {c : Nat} {A : Nat → Nat} (h : HJ c A) {r b : Nat} (hr : r < A 2) (hb : b < A 1) : QJ c (ep A r b 4 1) := by
  have h9 := h.1.1
  have h6 := h.1.2.1
  have h10 := h.1.2.2.1
  have e1 : ep A r b 4 1 1 = A 1 := ep_lo (by omega)
  have e2 : ep A r b 4 1 2 = A 2 := ep_2
  have e3 : ep A r b 4 1 3 = A 3 := ep_lo (by omega)
  have e0 : ep A r b 4 1 0 = A 0 := ep_lo (by omega)
  refine ⟨h.1.lo (fun i hi _ => ep_lo (by omega)), fun r1 hr1 => ?_, fun r1 b1 w q1 q2 q3 q4 => ?_, fun p hp => ?_⟩
  · rw [e2] at hr1
    obtain ⟨a1, a2, a3, a4, a5, a6, a7, a8⟩ := h.2.1 r1 hr1
    unfold RJ
    rw [ep_r (by omega) (by omega), ep_r (by omega) (by omega), ep_r (by omega) (by omega), ep_r (by omega) (by omega), e1, e2, e0]
    refine ⟨a1, a2, a3, a4, a5, a6, a7, fun b1 hb1 => ?_⟩
    by_cases q : r1 = r ∧ b1 = b
    · rw [q.1, q.2]
      obtain ⟨b1, b2, b3, b4, b5, b6, b7, b8, b9, b10⟩ := h.bj hr hb
      unfold BJ
      rw [ep_if, ep_if, ep_if, ep_if, ep_if, ep_if, ep_r (by omega) (by omega), ep_r (by omega) (by omega), ep_r (by omega) (by omega), e0, e2, if_neg (by decide), if_neg (by decide), if_neg (by decide), if_neg (by decide), if_pos rfl, if_neg (by decide)]
      exact ⟨b1, b2, b3, b4, b5, Nat.le_refl _, b7, b8, b9, b10⟩
    · exact (a8 b1 hb1).mv (Nat.le_refl _) (by omega) e2 (fun w hw => ep_r (by omega) hw) (fun w hw => ep_ne (by omega) (by omega) (by omega) hw (by omega))
  · rw [e1] at q2
    rw [ep_ne (by omega) (by omega) q3 q4 (by omega)]
    exact h.2.2.1 r1 b1 w q1 q2 q3 q4
  · rw [e3] at hp
    exact (h.2.2.2.1 p hp).mv e1 (by omega) (fun w hw => ep_lo (by omega))
section ScoreQ
variable {c : Nat} {A : Nat → Nat}
theorem cn_iff_q (hJ : QJ c A) {r b : Nat} (hr : r < A 2) (hb : b < A 1) : m_cnt (arr A) r b ↔ cnP A r b := by
  obtain ⟨b1, b2, b3, b4, b5, b6, b7, b8, b9, b10⟩ := hJ.bj hr hb
  constructor
  · rintro ⟨h1, h2⟩
    exact ⟨(nI_eq (by omega) (by omega)).mp h1, (nI_eq (b := 0) (by omega) (by omega)).mp h2⟩
  · rintro ⟨h1, h2⟩
    exact ⟨congrArg nI h1, (congrArg nI h2 : nI (eA A r b 4) = nI 0)⟩
theorem el_b_q (hJ : QJ c A) (hc : c ≤ 512) (hk : A 0 ≤ 999999) {r b : Nat} (hr : r < A 2) (hb : b < A 1) : elN A r b ≤ 1153599 := by
  obtain ⟨b1, b2, b3, b4, b5, b6, b7, b8, b9, b10⟩ := hJ.bj hr hb
  unfold elN
  omega
theorem co_b_q (hJ : QJ c A) (hc : c ≤ 512) (hk : A 0 ≤ 999999) {r b : Nat} (hr : r < A 2) (hb : b < A 1) : coN A r b ≤ 2307198 := by
  have h1 := el_b_q hJ hc hk hr hb
  have h2 := hJ.rt hb
  unfold coN
  exact Nat.le_trans (Nat.div_le_div_left h2.1 (by omega)) (by omega)
theorem el_n_q (hJ : QJ c A) {r b : Nat} (hr : r < A 2) (hb : b < A 1) (hf : eA A r b 0 = 3) : m_el (arr A) r b = nI (elN A r b) := by
  obtain ⟨b1, b2, b3, b4, b5, b6, b7, b8, b9, b10⟩ := hJ.bj hr hb
  unfold m_el
  rw [if_pos (show m_e (arr A) r b 0 = nI 3 from congrArg nI hf)]
  show nI (eA A r b 5) - nI (rA A r 2) + nI (eA A r b 3) = _
  rw [pk_sub (b8 hf), nI_add]; rfl
theorem co_n_q (hJ : QJ c A) (hc : c ≤ 512) (hk : A 0 ≤ 999999) {r b : Nat} (hr : r < A 2) (hb : b < A 1) (hf : eA A r b 0 = 3) : m_co (arr A) r b = nI (coN A r b) := by
  have h1 := el_b_q hJ hc hk hr hb
  have h2 := hJ.rt hb
  unfold m_co
  rw [if_pos (show m_e (arr A) r b 0 = nI 3 from congrArg nI hf), el_n_q hJ hr hb hf, pk_mul]
  exact pk_div (by omega) (by omega) (by omega)
theorem pl_n_q (hJ : QJ c A) (hc : c ≤ 512) (hk : A 0 ≤ 999999) {r b : Nat} (hr : r < A 2) (hb : b < A 1) (hf : eA A r b 0 = 3) : ∀ n, n ≤ A 1 → m_pl (arr A) r b n = nI (ahN A r b n + 1) := by
  intro n
  induction n with
  | zero => intro _; rfl
  | succ n ih =>
    intro hn
    have hb2 := co_b_q hJ hc hk hr hb
    have hb3 := co_b_q hJ hc hk hr (b := n) (by omega)
    show (if m_cnt (arr A) r n then (if m_co (arr A) r b ≤ m_co (arr A) r n then m_pl (arr A) r b n + nI 0 else m_pl (arr A) r b n + nI 1) else m_pl (arr A) r b n + nI 0) = nI (ahN A r b n + (if cnP A r n ∧ coN A r n < coN A r b then 1 else 0) + 1)
    rw [ih (by omega)]
    by_cases q : cnP A r n
    · rw [if_pos ((cn_iff_q hJ hr (by omega)).mpr q), co_n_q hJ hc hk hr hb hf, co_n_q hJ hc hk hr (by omega) q.1]
      by_cases q2 : coN A r n < coN A r b
      · rw [if_neg (nI_ge q2 (by omega)), if_pos ⟨q, q2⟩, nI_add]
      · rw [if_pos (nI_le (by omega) (by omega)), if_neg (fun z => q2 z.2), nI_add]
    · rw [if_neg (fun z => q ((cn_iff_q hJ hr (by omega)).mp z)), if_neg (fun z => q z.1), nI_add]
theorem place_n_q (hJ : QJ c A) (hc : c ≤ 512) (hk : A 0 ≤ 999999) {r b : Nat} (hr : r < A 2) (hb : b < A 1) : m_place (arr A) r b (A 1) = if cnP A r b then nI (plN A r b) else (-5) := by
  unfold m_place
  by_cases q : cnP A r b
  · rw [if_pos ((cn_iff_q hJ hr hb).mpr q), if_pos q, pl_n_q hJ hc hk hr hb q.1 (A 1) (Nat.le_refl _)]; rfl
  · rw [if_neg (fun z => q ((cn_iff_q hJ hr hb).mp z)), if_neg q]
theorem plN_b_q (hJ : QJ c A) {r b : Nat} (hb : b < A 1) : 1 ≤ plN A r b ∧ plN A r b ≤ A 1 := ⟨Nat.succ_le_succ (Nat.zero_le _), ah_lt (A 1) hb⟩
theorem ptN_b_q (hJ : QJ c A) {r b : Nat} (hr : r < A 2) (hb : b < A 1) : 1 ≤ ptN A r b ∧ ptN A r b ≤ A 1 + 2 := by
  have h := plN_b_q hJ (r := r) hb
  have h6 := (hJ.bj hr hb).2.2.2.2.2.1
  unfold ptN
  split <;> omega
theorem pts_n_q (hJ : QJ c A) (hc : c ≤ 512) (hk : A 0 ≤ 999999) {r b : Nat} (hr : r < A 2) (hb : b < A 1) : m_pts (arr A) r b (A 1) = nI (ptN A r b) := by
  have h9 := hJ.1.1
  have h := plN_b_q hJ (r := r) hb
  have h6 := (hJ.bj hr hb).2.2.2.2.2.1
  unfold m_pts
  rw [place_n_q hJ hc hk hr hb]
  unfold ptN
  by_cases q : cnP A r b
  · rw [if_pos q, if_neg (nI_ne5 (by omega)), if_pos q]
  · rw [if_neg q, if_pos rfl, if_neg q]
    show (if nI (eA A r b 4) = nI 1 then nI (A 1) + nI 2 else nI (A 1) + nI 1) = _
    by_cases q2 : eA A r b 4 = 1
    · rw [if_pos (congrArg nI q2), q2, nI_add]
    · rw [if_neg (fun z => q2 ((nI_eq (by omega) (by omega)).mp z)), show eA A r b 4 = 0 by omega, nI_add]
theorem sum_n_q (hJ : QJ c A) (hc : c ≤ 512) (hk : A 0 ≤ 999999) {b : Nat} (hb : b < A 1) : ∀ n, n ≤ A 2 → m_sum (arr A) b (A 1) n = nI (smN A b n) ∧ smN A b n ≤ 11 * n := by
  intro n
  induction n with
  | zero => intro _; exact ⟨rfl, Nat.le_refl _⟩
  | succ n ih =>
    intro hn
    have h9 := hJ.1.1
    obtain ⟨i1, i2⟩ := ih (by omega)
    have h := ptN_b_q hJ (r := n) (by omega) hb
    show m_sum (arr A) b (A 1) n + m_pts (arr A) n b (A 1) = nI (smN A b n + ptN A n b) ∧ smN A b n + ptN A n b ≤ 11 * (n + 1)
    rw [i1, pts_n_q hJ hc hk (by omega) hb, nI_add]
    exact ⟨rfl, by omega⟩
theorem pof_n_q (hJ : QJ c A) (hc : c ≤ 512) (hk : A 0 ≤ 999999) {b w : Nat} (hb : b < A 1) (hw : w < 100) : ∀ n, n ≤ A 2 → m_pof (arr A) b (A 1) w n = nI (pfN A b w n) ∧ pfN A b w n ≤ n := by
  intro n
  induction n with
  | zero => intro _; exact ⟨rfl, Nat.le_refl _⟩
  | succ n ih =>
    intro hn
    have h9 := hJ.1.1
    obtain ⟨i1, i2⟩ := ih (by omega)
    have h := plN_b_q hJ (r := n) hb
    show (if m_place (arr A) n b (A 1) = nI w then m_pof (arr A) b (A 1) w n + nI 1 else m_pof (arr A) b (A 1) w n + nI 0) = nI (pfN A b w n + if cnP A n b ∧ plN A n b = w then 1 else 0) ∧ (pfN A b w n + if cnP A n b ∧ plN A n b = w then 1 else 0) ≤ n + 1
    rw [i1, place_n_q hJ hc hk (by omega) hb]
    by_cases q : cnP A n b
    · rw [if_pos q]
      by_cases q2 : plN A n b = w
      · rw [if_pos (congrArg nI q2), if_pos ⟨q, q2⟩, nI_add]; exact ⟨rfl, by omega⟩
      · rw [if_neg (fun z => q2 ((nI_eq (by omega) (by omega)).mp z)), if_neg (fun z => q2 z.2), nI_add]; exact ⟨rfl, by omega⟩
    · rw [if_neg q, if_neg (fun z : (-5) = nI w => nI_ne5 (by omega) z.symm), if_neg (fun z => q z.1), nI_add]; exact ⟨rfl, by omega⟩
theorem lf_n_q (hJ : QJ c A) (hc : c ≤ 512) (hk : A 0 ≤ 999999) {b : Nat} (hb : b < A 1) : ∀ n, n ≤ A 2 → (n = 0 ∧ m_lf (arr A) b (A 1) n = none) ∨ (∃ j, m_lf (arr A) b (A 1) n = some j ∧ j < n ∧ (∀ i, i < n → ptN A i b ≤ ptN A j b) ∧ ∀ i, j < i → i < n → ptN A i b < ptN A j b) := by
  intro n
  induction n with
  | zero => intro _; exact Or.inl ⟨rfl, rfl⟩
  | succ n ih =>
    intro hn
    have h9 := hJ.1.1
    refine Or.inr ?_
    show ∃ j, (match m_lf (arr A) b (A 1) n with
      | none => some n
      | some j => if m_pts (arr A) n b (A 1) < m_pts (arr A) j b (A 1) then some j else some n) = some j ∧ _
    rcases ih (by omega) with ⟨h0, h1⟩ | ⟨j, h1, h2, h3, h4⟩
    · rw [h1]
      exact ⟨n, rfl, by omega, fun i hi => by rw [show i = n by omega]; exact Nat.le_refl _, fun i h1 h2 => by omega⟩
    · rw [h1]
      show ∃ j', (if m_pts (arr A) n b (A 1) < m_pts (arr A) j b (A 1) then some j else some n) = some j' ∧ _
      rw [pts_n_q hJ hc hk (by omega) hb, pts_n_q hJ hc hk (by omega) hb]
      have hn2 := ptN_b_q hJ (r := n) (by omega) hb
      have hj2 := ptN_b_q hJ (r := j) (by omega) hb
      by_cases q : ptN A n b < ptN A j b
      · rw [if_pos (nI_lt q (by omega))]
        refine ⟨j, rfl, by omega, fun i hi => ?_, fun i k1 k2 => ?_⟩
        · by_cases q2 : i = n
          · rw [q2]; omega
          · exact h3 i (by omega)
        · by_cases q2 : i = n
          · rw [q2]; exact q
          · exact h4 i k1 (by omega)
      · rw [if_neg (nI_nlt (by omega) (by omega))]
        refine ⟨n, rfl, by omega, fun i hi => ?_, fun i k1 k2 => by omega⟩
        by_cases q2 : i = n
        · rw [q2]; exact Nat.le_refl _
        · have := h3 i (by omega)
          omega
theorem is_iff_q (hJ : QJ c A) : m_is (arr A) (ncl A) ↔ drp A := by
  have h6 := hJ.1.2.2.2.2.2.2.2.2.2.1
  have h2 := hJ.1.2.1
  have hn := ncl_le (A := A)
  constructor
  · rintro ⟨h1, h2'⟩
    refine ⟨Nat.pos_of_ne_zero fun z => ?_, Nat.le_of_not_lt fun z => h2' (nI_lt z (by omega))⟩
    have h3 : (0 : Int32) < nI (A 6) := h1
    rw [z] at h3
    exact absurd h3 (by decide)
  · rintro ⟨h1, h2'⟩
    exact ⟨nI_lt (a := 0) h1 (by omega), nI_nlt h2' (by omega)⟩
theorem lo_n_q (hJ : QJ c A) (hc : c ≤ 512) (hk : A 0 ≤ 999999) {b : Nat} (hb : b < A 1) (hd : drp A) : m_lf (arr A) b (A 1) (ncl A) = some (loN A b) ∧ loN A b < ncl A ∧ (∀ i, i < ncl A → ptN A i b ≤ ptN A (loN A b) b) ∧ ∀ i, loN A b < i → i < ncl A → ptN A i b < ptN A (loN A b) b := by
  rcases lf_n_q hJ hc hk hb (ncl A) ncl_le with ⟨h0, h1⟩ | ⟨j, h1, h2, h3, h4⟩
  · have := hd.1; have := hd.2; omega
  · have e : loN A b = j := by unfold loN; rw [h1]; rfl
    rw [e]
    exact ⟨h1, h2, h3, h4⟩
theorem tot_n_q (hJ : QJ c A) (hc : c ≤ 512) (hk : A 0 ≤ 999999) {b : Nat} (hb : b < A 1) : m_tot (arr A) b (A 1) (ncl A) = nI (toN A b) ∧ toN A b ≤ 66 := by
  have h2 := hJ.1.2.1
  have hn := ncl_le (A := A)
  obtain ⟨s1, s2⟩ := sum_n_q hJ hc hk hb (ncl A) hn
  unfold m_tot m_lo toN
  by_cases hd : drp A
  · obtain ⟨l1, l2, l3, l4⟩ := lo_n_q hJ hc hk hb hd
    rw [if_pos ((is_iff_q hJ).mpr hd), l1, if_pos (show 0 < A 6 ∧ A 6 ≤ ncl A from hd)]
    show m_sum (arr A) b (A 1) (ncl A) - m_pts (arr A) (loN A b) b (A 1) = _ ∧ _
    rw [s1, pts_n_q hJ hc hk (by omega) hb, pk_sub (pt_sm _ _ l2)]
    exact ⟨rfl, by omega⟩
  · rw [if_neg (fun z => hd ((is_iff_q hJ).mp z)), if_neg (show ¬ (0 < A 6 ∧ A 6 ≤ ncl A) from hd)]
    show m_sum (arr A) b (A 1) (ncl A) - nI 0 = _ ∧ _
    rw [s1, pk_sub (by omega)]
    exact ⟨rfl, by omega⟩
end ScoreQ
