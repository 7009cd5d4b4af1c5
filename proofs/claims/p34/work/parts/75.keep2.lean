/-! what always holds goes on holding: races, protests, settings -/
theorem LJ.stage {A A' : Nat → Nat} {p0 v : Nat} (h : LJ A) (g1 : A' 1 = A 1) (g2 : A' 2 = A 2) (g3 : A' 3 = A 3) (hp0 : p0 < A 3) (h10 : A 3 ≤ 10) (hp1 : ∀ p, p < 10 → pA A' p 1 = pA A p 1) (hp3 : ∀ p, p < 10 → p ≠ p0 → pA A' p 3 = pA A p 3) (hv : pA A' p0 3 = v) (ho : pA A p0 3 ≠ 2 ∧ pA A p0 3 ≠ 3) (h3 : ∀ b, b < A 1 → 0 < A 2 → (0 < eA A' (A 2 - 1) b 3 ↔ (0 < eA A (A 2 - 1) b 3 ∨ (b = pA A p0 1 ∧ v = 2)))) (h4 : ∀ b, b < A 1 → 0 < A 2 → (eA A' (A 2 - 1) b 4 = 1 ↔ (eA A (A 2 - 1) b 4 = 1 ∨ (b = pA A p0 1 ∧ v = 3)))) : LJ A' := by
  unfold LJ
  rw [g1, g2, g3]
  intro hn b hb
  obtain ⟨q1, q2⟩ := h hn b hb
  rw [h3 b hb hn, h4 b hb hn, q1, q2]
  refine ⟨⟨?_, ?_⟩, ⟨?_, ?_⟩⟩
  · rintro (⟨p, k1, k2, k3⟩ | ⟨k1, k2⟩)
    · have hne : p ≠ p0 := fun q => ho.2 (by rw [← q]; exact k3)
      exact ⟨p, k1, (hp1 p (by omega)).trans k2, (hp3 p (by omega) hne).trans k3⟩
    · exact ⟨p0, hp0, (hp1 p0 (by omega)).trans k1.symm, hv.trans k2⟩
  · rintro ⟨p, k1, k2, k3⟩
    rw [hp1 p (by omega)] at k2
    by_cases q : p = p0
    · rw [q] at k2 k3
      exact Or.inr ⟨k2.symm, hv.symm.trans k3⟩
    · rw [hp3 p (by omega) q] at k3
      exact Or.inl ⟨p, k1, k2, k3⟩
  · rintro (⟨p, k1, k2, k3⟩ | ⟨k1, k2⟩)
    · have hne : p ≠ p0 := fun q => ho.1 (by rw [← q]; exact k3)
      exact ⟨p, k1, (hp1 p (by omega)).trans k2, (hp3 p (by omega) hne).trans k3⟩
    · exact ⟨p0, hp0, (hp1 p0 (by omega)).trans k1.symm, hv.trans k2⟩
  · rintro ⟨p, k1, k2, k3⟩
    rw [hp1 p (by omega)] at k2
    by_cases q : p = p0
    · rw [q] at k2 k3
      exact Or.inr ⟨k2.symm, hv.symm.trans k3⟩
    · rw [hp3 p (by omega) q] at k3
      exact Or.inl ⟨p, k1, k2, k3⟩
theorem GJ.lo {A A' : Nat → Nat} (h : GJ A) (hlo : ∀ i, i < 16 → i ≠ 0 → A' i = A i) : GJ A' := by
  have h9 := h.1
  unfold GJ at h ⊢
  rw [hlo 1 (by omega) (by omega), hlo 2 (by omega) (by omega), hlo 3 (by omega) (by omega), hlo 4 (by omega) (by omega), hlo 5 (by omega) (by omega), hlo 6 (by omega) (by omega)]
  refine ⟨h.1, h.2.1, h.2.2.1, h.2.2.2.1, h.2.2.2.2.1, h.2.2.2.2.2.1, h.2.2.2.2.2.2.1, h.2.2.2.2.2.2.2.1, h.2.2.2.2.2.2.2.2.1, h.2.2.2.2.2.2.2.2.2.1, fun b hb => ?_⟩
  rw [hlo (7 + b) (by omega) (by omega)]
  exact h.2.2.2.2.2.2.2.2.2.2 b hb
theorem PJ.stage {A A' : Nat → Nat} {p v : Nat} (h : PJ A p) (g1 : A' 1 = A 1) (g0 : A' 0 = A 0) (hp : ∀ w, w < 3 → pA A' p w = pA A p w) (hv : pA A' p 3 = v) (hv4 : v ≤ 4) : PJ A' p := by
  obtain ⟨p1, p2, p3, p4, p5⟩ := h
  unfold PJ
  rw [hp 0 (by omega), hp 1 (by omega), hp 2 (by omega), hv, g1, g0]
  exact ⟨p1, p2, p3, p4, hv4⟩
section Keep2
variable {c : Nat} {A : Nat → Nat}
/-- a protest's stage, and nothing else -/
theorem j_stage (h : HJ c A) {p v : Nat} (hp : p < A 3) (hv : v ≤ 4) (ho : pA A p 3 ≠ 2 ∧ pA A p 3 ≠ 3) (hv2 : v ≠ 2 ∧ v ≠ 3) : HJ c (nup A (40 + 4 * p + 3) v) := by
  have h9 := h.1.1
  have h10 := h.1.2.2.1
  have e : ∀ i, i ≠ 40 + 4 * p + 3 → nup A (40 + 4 * p + 3) v i = A i := fun i hi => nup_ne hi
  refine h.gen 9 (Nat.le_refl _) (Or.inr (Nat.le_refl _)) (e 1 (by omega)) (e 2 (by omega)) (by rw [e 0 (by omega)]; exact Nat.le_refl _) (h.1.lo (fun i hi _ => e i (by omega))) (fun i _ _ => e i (by omega)) (fun r b w _ _ _ _ => e _ (by omega)) (fun _ q => absurd q (by omega)) ?_ ?_
  · rw [e 3 (by omega)]
    intro p1 hp1
    by_cases q : p1 = p
    · rw [q]
      exact (h.2.2.2.1 p hp).stage (e 1 (by omega)) (e 0 (by omega)) (fun w hw => e _ (by omega)) nup_at hv
    · exact (h.2.2.2.1 p1 hp1).mv (e 1 (by omega)) (by rw [e 0 (by omega)]; exact Nat.le_refl _) (fun w hw => e _ (by omega))
  · refine h.2.2.2.2.stage (p0 := p) (v := v) (e 1 (by omega)) (e 2 (by omega)) (e 3 (by omega)) hp h10 (fun p1 hp1 => e _ (by omega)) (fun p1 hp1 hne => e _ (by omega)) nup_at ho (fun b hb hn => ?_) (fun b hb hn => ?_)
    · rw [show eA (nup A (40 + 4 * p + 3) v) (A 2 - 1) b 3 = eA A (A 2 - 1) b 3 from e _ (by omega)]
      exact ⟨Or.inl, fun q => q.elim id (fun q => absurd q.2 hv2.1)⟩
    · rw [show eA (nup A (40 + 4 * p + 3) v) (A 2 - 1) b 4 = eA A (A 2 - 1) b 4 from e _ (by omega)]
      exact ⟨Or.inl, fun q => q.elim id (fun q => absurd q.2 hv2.2)⟩
theorem j_acc (h : HJ c A) {p : Nat} (hp : p < A 3) (q1 : pA A p 3 < 2) : HJ (c + 1) (nup (ep A (A 2 - 1) (pA A p 1) 3 (eA A (A 2 - 1) (pA A p 1) 3 + A 5)) (40 + 4 * p + 3) 2) := by
  have h9 := h.1.1
  have h6 := h.1.2.1
  have h10 := h.1.2.2.1
  have hn := h.1.2.2.2.1 (by omega)
  have h51 := h.1.2.2.2.2.2.2.2.1
  have h52 := h.1.2.2.2.2.2.2.2.2.1
  obtain ⟨p1, p2, p3, p4, p5⟩ := h.pr hp
  obtain ⟨b1, b2, b3, b4, b5, b6, b7, b8, b9, b10⟩ := (h.2.1 (A 2 - 1) (by omega)).2.2.2.2.2.2.2 _ p2
  have e : ∀ i, i < 80 → i ≠ 40 + 4 * p + 3 → nup (ep A (A 2 - 1) (pA A p 1) 3 (eA A (A 2 - 1) (pA A p 1) 3 + A 5)) (40 + 4 * p + 3) 2 i = A i := fun i h1 h2 => (nup_ne h2).trans (ep_lo h1)
  have x : ∀ r b w, eA (nup (ep A (A 2 - 1) (pA A p 1) 3 (eA A (A 2 - 1) (pA A p 1) 3 + A 5)) (40 + 4 * p + 3) 2) r b w = eA (ep A (A 2 - 1) (pA A p 1) 3 (eA A (A 2 - 1) (pA A p 1) 3 + A 5)) r b w := fun r b w => nup_ne (by omega)
  have xo : ∀ r b w, r < 6 → b < 9 → w < 6 → ¬ (r = A 2 - 1 ∧ b = pA A p 1) → eA (nup (ep A (A 2 - 1) (pA A p 1) 3 (eA A (A 2 - 1) (pA A p 1) 3 + A 5)) (40 + 4 * p + 3) 2) r b w = eA A r b w := fun r b w _ hb hw hq => (x r b w).trans (ep_ne (by omega) (by omega) hb hw (by omega))
  refine h.gen (pA A p 1) (Nat.le_succ _) (Or.inl p2) (e 1 (by omega) (by omega)) (e 2 (by omega) (by omega)) (by rw [e 0 (by omega) (by omega)]; exact Nat.le_refl _) (h.1.lo (fun i hi _ => e i (by omega) (by omega))) (fun i _ _ => e i (by omega) (by omega)) xo (fun _ _ => ?_) ?_ ?_
  · unfold BJ
    rw [x, x, x, x, x, x, ep_if, ep_if, ep_if, ep_if, ep_if, ep_if, show rA (nup (ep A (A 2 - 1) (pA A p 1) 3 (eA A (A 2 - 1) (pA A p 1) 3 + A 5)) (40 + 4 * p + 3) 2) (A 2 - 1) 0 = rA A (A 2 - 1) 0 from e _ (by omega) (by omega), show rA (nup (ep A (A 2 - 1) (pA A p 1) 3 (eA A (A 2 - 1) (pA A p 1) 3 + A 5)) (40 + 4 * p + 3) 2) (A 2 - 1) 1 = rA A (A 2 - 1) 1 from e _ (by omega) (by omega), show rA (nup (ep A (A 2 - 1) (pA A p 1) 3 (eA A (A 2 - 1) (pA A p 1) 3 + A 5)) (40 + 4 * p + 3) 2) (A 2 - 1) 2 = rA A (A 2 - 1) 2 from e _ (by omega) (by omega), e 0 (by omega) (by omega), e 2 (by omega) (by omega), if_neg (by decide), if_neg (by decide), if_neg (by decide), if_pos rfl, if_neg (by decide), if_neg (by decide)]
    exact ⟨b1, b2, b3, by omega, by omega, b6, b7, b8, b9, b10⟩
  · rw [e 3 (by omega) (by omega)]
    intro p1 hp1
    by_cases q : p1 = p
    · rw [q]
      exact (h.2.2.2.1 p hp).stage (e 1 (by omega) (by omega)) (e 0 (by omega) (by omega)) (fun w hw => e _ (by omega) (by omega)) nup_at (by omega)
    · exact (h.2.2.2.1 p1 hp1).mv (e 1 (by omega) (by omega)) (by rw [e 0 (by omega) (by omega)]; exact Nat.le_refl _) (fun w hw => e _ (by omega) (by omega))
  · refine h.2.2.2.2.stage (p0 := p) (v := 2) (e 1 (by omega) (by omega)) (e 2 (by omega) (by omega)) (e 3 (by omega) (by omega)) hp h10 (fun p1 hp1 => e _ (by omega) (by omega)) (fun p1 hp1 hne => e _ (by omega) (by omega)) nup_at ⟨by omega, by omega⟩ (fun b hb hn => ?_) (fun b hb hn => ?_)
    · by_cases q : b = pA A p 1
      · rw [x, q, ep_if, if_pos rfl]
        exact ⟨fun _ => Or.inr ⟨rfl, rfl⟩, fun _ => by omega⟩
      · rw [xo _ _ _ (by omega) (by omega) (by omega) (by omega)]
        exact ⟨Or.inl, fun w => w.elim id (fun w => absurd w.1 q)⟩
    · by_cases q : b = pA A p 1
      · rw [x, q, ep_if, if_neg (by decide)]
        exact ⟨Or.inl, fun w => w.elim id (fun w => absurd w.2 (by decide))⟩
      · rw [xo _ _ _ (by omega) (by omega) (by omega) (by omega)]
        exact ⟨Or.inl, fun w => w.elim id (fun w => absurd w.1 q)⟩
theorem j_up (h : HJ c A) {p : Nat} (hp : p < A 3) (q1 : pA A p 3 = 1) : HJ c (upA A p) := by
  have h9 := h.1.1
  have h6 := h.1.2.1
  have h10 := h.1.2.2.1
  have hn := h.1.2.2.2.1 (by omega)
  obtain ⟨p1, p2, p3, p4, p5⟩ := h.pr hp
  obtain ⟨b1, b2, b3, b4, b5, b6, b7, b8, b9, b10⟩ := (h.2.1 (A 2 - 1) (by omega)).2.2.2.2.2.2.2 _ p2
  have e : ∀ i, i < 80 → i ≠ 40 + 4 * p + 3 → upA A p i = A i := fun i h1 h2 => (ep_lo h1).trans (nup_ne h2)
  have x : ∀ w, eA (upA A p) (A 2 - 1) (pA A p 1) w = if w = 4 then 1 else eA A (A 2 - 1) (pA A p 1) w := fun w => by
    rw [ep_if]
    split
    · rfl
    · exact nup_ne (by omega)
  have xo : ∀ r b w, r < 6 → b < 9 → w < 6 → ¬ (r = A 2 - 1 ∧ b = pA A p 1) → eA (upA A p) r b w = eA A r b w := fun r b w _ hb hw hq => (ep_ne (by omega) (by omega) hb hw (by omega)).trans (nup_ne (by omega))
  have x3 : pA (upA A p) p 3 = 3 := (ep_lo (by omega)).trans nup_at
  refine h.gen (pA A p 1) (Nat.le_refl _) (Or.inl p2) (e 1 (by omega) (by omega)) (e 2 (by omega) (by omega)) (by rw [e 0 (by omega) (by omega)]; exact Nat.le_refl _) (h.1.lo (fun i hi _ => e i (by omega) (by omega))) (fun i _ _ => e i (by omega) (by omega)) xo (fun _ _ => ?_) ?_ ?_
  · unfold BJ
    rw [x, x, x, x, x, x, show rA (upA A p) (A 2 - 1) 0 = rA A (A 2 - 1) 0 from e _ (by omega) (by omega), show rA (upA A p) (A 2 - 1) 1 = rA A (A 2 - 1) 1 from e _ (by omega) (by omega), show rA (upA A p) (A 2 - 1) 2 = rA A (A 2 - 1) 2 from e _ (by omega) (by omega), e 0 (by omega) (by omega), e 2 (by omega) (by omega), if_neg (by decide), if_neg (by decide), if_neg (by decide), if_neg (by decide), if_pos rfl, if_neg (by decide)]
    exact ⟨b1, b2, b3, b4, b5, Nat.le_refl _, b7, b8, b9, b10⟩
  · rw [e 3 (by omega) (by omega)]
    intro p1 hp1
    by_cases q : p1 = p
    · rw [q]
      exact (h.2.2.2.1 p hp).stage (e 1 (by omega) (by omega)) (e 0 (by omega) (by omega)) (fun w hw => e _ (by omega) (by omega)) x3 (by omega)
    · exact (h.2.2.2.1 p1 hp1).mv (e 1 (by omega) (by omega)) (by rw [e 0 (by omega) (by omega)]; exact Nat.le_refl _) (fun w hw => e _ (by omega) (by omega))
  · refine h.2.2.2.2.stage (p0 := p) (v := 3) (e 1 (by omega) (by omega)) (e 2 (by omega) (by omega)) (e 3 (by omega) (by omega)) hp h10 (fun p1 hp1 => e _ (by omega) (by omega)) (fun p1 hp1 hne => e _ (by omega) (by omega)) x3 ⟨by omega, by omega⟩ (fun b hb hn => ?_) (fun b hb hn => ?_)
    · by_cases q : b = pA A p 1
      · rw [q, x, if_neg (by decide)]
        exact ⟨Or.inl, fun w => w.elim id (fun w => absurd w.2 (by decide))⟩
      · rw [xo _ _ _ (by omega) (by omega) (by omega) (by omega)]
        exact ⟨Or.inl, fun w => w.elim id (fun w => absurd w.1 q)⟩
    · by_cases q : b = pA A p 1
      · rw [q, x, if_pos rfl]
        exact ⟨fun _ => Or.inr ⟨rfl, rfl⟩, fun _ => rfl⟩
      · rw [xo _ _ _ (by omega) (by omega) (by omega) (by omega)]
        exact ⟨Or.inl, fun w => w.elim id (fun w => absurd w.1 q)⟩
theorem j_hail (h : HJ c A) (ho : opn A) {x y : Nat} (hx : x < A 1) (hy : y < A 1) (hne : x ≠ y) (h10 : A 3 < 10) : HJ c (hlA A x y) := by
  have h9 := h.1.1
  have e : ∀ i, i ≠ 3 → ¬ (40 + 4 * A 3 ≤ i ∧ i < 44 + 4 * A 3) → hlA A x y i = A i := fun i h1 h2 => (nup_ne (by omega)).trans ((nup_ne (by omega)).trans ((nup_ne (by omega)).trans ((nup_ne (by omega)).trans (nup_ne (by omega)))))
  have g1 := e 1 (by omega) (by omega)
  have g2 := e 2 (by omega) (by omega)
  have g0 := e 0 (by omega) (by omega)
  have g3 : hlA A x y 3 = A 3 + 1 := nup_at
  have n0 : pA (hlA A x y) (A 3) 0 = x := (nup_ne (by omega)).trans ((nup_ne (by omega)).trans ((nup_ne (by omega)).trans ((nup_ne (by omega)).trans nup_at)))
  have n1 : pA (hlA A x y) (A 3) 1 = y := (nup_ne (by omega)).trans ((nup_ne (by omega)).trans ((nup_ne (by omega)).trans nup_at))
  have n2 : pA (hlA A x y) (A 3) 2 = A 0 := (nup_ne (by omega)).trans ((nup_ne (by omega)).trans nup_at)
  have n3 : pA (hlA A x y) (A 3) 3 = 0 := (nup_ne (by omega)).trans nup_at
  have po : ∀ p w, p < A 3 → w < 4 → pA (hlA A x y) p w = pA A p w := fun p w hp hw => e _ (by omega) (by omega)
  have eo : ∀ r b w, eA (hlA A x y) r b w = eA A r b w := fun r b w => e _ (by omega) (by omega)
  refine h.gen 9 (Nat.le_refl _) (Or.inr (Nat.le_refl _)) g1 g2 (by omega) ?_ (fun i _ _ => e i (by omega) (by omega)) (fun r b w _ _ _ _ => eo r b w) (fun _ q => absurd q (by omega)) ?_ ?_
  · have hG := h.1
    unfold GJ at hG ⊢
    rw [g1, g2, g3, e 4 (by omega) (by omega), e 5 (by omega) (by omega), e 6 (by omega) (by omega)]
    refine ⟨hG.1, hG.2.1, by omega, fun _ => ho.1, hG.2.2.2.2.1, hG.2.2.2.2.2.1, hG.2.2.2.2.2.2.1, hG.2.2.2.2.2.2.2.1, hG.2.2.2.2.2.2.2.2.1, hG.2.2.2.2.2.2.2.2.2.1, fun b hb => ?_⟩
    rw [e (7 + b) (by omega) (by omega)]
    exact hG.2.2.2.2.2.2.2.2.2.2 b hb
  · rw [g3]
    intro p hp
    by_cases q : p = A 3
    · rw [q]
      unfold PJ
      rw [n0, n1, n2, n3, g1, g0]
      exact ⟨hx, hy, hne, Nat.le_refl _, by omega⟩
    · exact (h.2.2.2.1 p (by omega)).mv g1 (by omega) (fun w hw => po p w (by omega) hw)
  · unfold LJ
    rw [g1, g2, g3]
    intro hn b hb
    obtain ⟨q1, q2⟩ := h.2.2.2.2 hn b hb
    rw [eo, eo, q1, q2]
    have key : ∀ v, v ≠ 0 → ((∃ p, p < A 3 ∧ pA A p 1 = b ∧ pA A p 3 = v) ↔ ∃ p, p < A 3 + 1 ∧ pA (hlA A x y) p 1 = b ∧ pA (hlA A x y) p 3 = v) := fun v hv => by
      constructor
      · rintro ⟨p, k1, k2, k3⟩
        exact ⟨p, by omega, (po p 1 k1 (by omega)).trans k2, (po p 3 k1 (by omega)).trans k3⟩
      · rintro ⟨p, k1, k2, k3⟩
        by_cases q : p = A 3
        · rw [q, n3] at k3
          exact absurd k3.symm hv
        · rw [po p 1 (by omega) (by omega)] at k2
          rw [po p 3 (by omega) (by omega)] at k3
          exact ⟨p, by omega, k2, k3⟩
    exact ⟨key 3 (by decide), key 2 (by decide)⟩
theorem j_set (h : HJ c A) {i v : Nat} (hi : i < 3) (h0 : v ≤ if i = 0 then 3600 else if i = 1 then 300 else 6) (h1 : (if i = 2 then 0 else 1) ≤ v) : HJ c (nup A (4 + i) v) := by
  have h9 := h.1.1
  have h10 := h.1.2.2.1
  have e : ∀ j, j ≠ 4 + i → nup A (4 + i) v j = A j := fun j hj => nup_ne hj
  refine h.gen 9 (Nat.le_refl _) (Or.inr (Nat.le_refl _)) (e 1 (by omega)) (e 2 (by omega)) (by rw [e 0 (by omega)]; exact Nat.le_refl _) ?_ (fun j _ _ => e j (by omega)) (fun r b w _ _ _ _ => e _ (by omega)) (fun _ q => absurd q (by omega)) ?_ ?_
  · have hG := h.1
    unfold GJ at hG ⊢
    rw [e 1 (by omega), e 2 (by omega), e 3 (by omega)]
    have hR : ∀ b, b < A 1 → 50 ≤ nup A (4 + i) v (7 + b) ∧ nup A (4 + i) v (7 + b) ≤ 150 := fun b hb => by
      rw [e (7 + b) (by omega)]
      exact hG.2.2.2.2.2.2.2.2.2.2 b hb
    rcases (show i = 0 ∨ i = 1 ∨ i = 2 by omega) with rfl | rfl | rfl
    · rw [show nup A (4 + 0) v 4 = v from nup_at, e 5 (by omega), e 6 (by omega)]
      exact ⟨hG.1, hG.2.1, hG.2.2.1, hG.2.2.2.1, hG.2.2.2.2.1, h1, h0, hG.2.2.2.2.2.2.2.1, hG.2.2.2.2.2.2.2.2.1, hG.2.2.2.2.2.2.2.2.2.1, hR⟩
    · rw [show nup A (4 + 1) v 5 = v from nup_at, e 4 (by omega), e 6 (by omega)]
      exact ⟨hG.1, hG.2.1, hG.2.2.1, hG.2.2.2.1, hG.2.2.2.2.1, hG.2.2.2.2.2.1, hG.2.2.2.2.2.2.1, h1, h0, hG.2.2.2.2.2.2.2.2.2.1, hR⟩
    · rw [show nup A (4 + 2) v 6 = v from nup_at, e 4 (by omega), e 5 (by omega)]
      exact ⟨hG.1, hG.2.1, hG.2.2.1, hG.2.2.2.1, hG.2.2.2.2.1, hG.2.2.2.2.2.1, hG.2.2.2.2.2.2.1, hG.2.2.2.2.2.2.2.1, hG.2.2.2.2.2.2.2.2.1, h0, hR⟩
  · rw [e 3 (by omega)]
    exact fun p hp => (h.2.2.2.1 p hp).mv (e 1 (by omega)) (by rw [e 0 (by omega)]; exact Nat.le_refl _) (fun w hw => e _ (by omega))
  · exact h.2.2.2.2.mv (e 1 (by omega)) (e 2 (by omega)) (e 3 (by omega)) h10 (fun p w hp hw => e _ (by omega)) (fun b hb => ⟨e _ (by omega), e _ (by omega)⟩)
theorem j_ent (h : HJ c A) (h0 : A 2 = 0) (h8 : A 1 < 9) {v : Nat} (v1 : 50 ≤ v) (v2 : v ≤ 150) : HJ c (nup (nup A (7 + A 1) v) 1 (A 1 + 1)) := by
  have e : ∀ j, j ≠ 1 → j ≠ 7 + A 1 → nup (nup A (7 + A 1) v) 1 (A 1 + 1) j = A j := fun j h1 h2 => (nup_ne h1).trans (nup_ne h2)
  have g1 : nup (nup A (7 + A 1) v) 1 (A 1 + 1) 1 = A 1 + 1 := nup_at
  have g2 := e 2 (by omega) (by omega)
  have g3 := e 3 (by omega) (by omega)
  have hG := h.1
  unfold GJ at hG
  have h3 : A 3 = 0 := Nat.le_antisymm (Nat.le_of_not_lt fun q => by have := hG.2.2.2.1 q; omega) (Nat.zero_le _)
  refine ⟨?_, fun r hr => ?_, fun r b w q1 q2 q3 q4 => ?_, fun p hp => ?_, fun q => ?_⟩
  · unfold GJ
    rw [g1, g2, g3, e 4 (by omega) (by omega), e 5 (by omega) (by omega), e 6 (by omega) (by omega)]
    refine ⟨by omega, hG.2.1, hG.2.2.1, hG.2.2.2.1, fun _ => by omega, hG.2.2.2.2.2.1, hG.2.2.2.2.2.2.1, hG.2.2.2.2.2.2.2.1, hG.2.2.2.2.2.2.2.2.1, hG.2.2.2.2.2.2.2.2.2.1, fun b hb => ?_⟩
    by_cases q : b = A 1
    · rw [q, show nup (nup A (7 + A 1) v) 1 (A 1 + 1) (7 + A 1) = v from (nup_ne (by omega)).trans nup_at]
      exact ⟨v1, v2⟩
    · rw [e (7 + b) (by omega) (by omega)]
      exact hG.2.2.2.2.2.2.2.2.2.2 b (by omega)
  · rw [g2] at hr; omega
  · rw [g1] at q2
    rw [show eA (nup (nup A (7 + A 1) v) 1 (A 1 + 1)) r b w = eA A r b w from e _ (by omega) (by omega)]
    exact h.2.2.1 r b w q1 (by omega) q3 q4
  · rw [g3] at hp; omega
  · rw [g2] at q; omega
theorem j_post (h : HJ c A) (ho : opn A) {y : Nat} (hy : y ≤ 400) (hl : A 0 < rA A (A 2 - 1) 2) : HJ (c + 1) (nup A (16 + 4 * (A 2 - 1) + 2) (rA A (A 2 - 1) 2 + y)) := by
  have h9 := h.1.1
  have h6 := h.1.2.1
  have h10 := h.1.2.2.1
  have hn := ho.1
  have e : ∀ i, i ≠ 16 + 4 * (A 2 - 1) + 2 → nup A (16 + 4 * (A 2 - 1) + 2) (rA A (A 2 - 1) 2 + y) i = A i := fun i hi => nup_ne hi
  have g0 := e 0 (by omega)
  have g1 := e 1 (by omega)
  have g2 := e 2 (by omega)
  have g3 := e 3 (by omega)
  have eo : ∀ r b w, eA (nup A (16 + 4 * (A 2 - 1) + 2) (rA A (A 2 - 1) 2 + y)) r b w = eA A r b w := fun r b w => e _ (by omega)
  refine ⟨h.1.lo (fun i hi _ => e i (by omega)), fun r hr => ?_, fun r b w q1 q2 q3 q4 => ?_, ?_, ?_⟩
  · rw [g2] at hr
    obtain ⟨a1, a2, a3, a4, a5, a6, a7, a8⟩ := h.2.1 r hr
    by_cases q : r = A 2 - 1
    · have r0 : rA (nup A (16 + 4 * (A 2 - 1) + 2) (rA A (A 2 - 1) 2 + y)) r 0 = rA A r 0 := e _ (by omega)
      have r1 : rA (nup A (16 + 4 * (A 2 - 1) + 2) (rA A (A 2 - 1) 2 + y)) r 1 = rA A r 1 := e _ (by omega)
      have r2 : rA (nup A (16 + 4 * (A 2 - 1) + 2) (rA A (A 2 - 1) 2 + y)) r 2 = rA A r 2 + y := by rw [q]; exact nup_at
      have r3 : rA (nup A (16 + 4 * (A 2 - 1) + 2) (rA A (A 2 - 1) 2 + y)) r 3 = rA A r 3 := e _ (by omega)
      unfold RJ
      rw [r0, r1, r2, r3, g1, g2, g0]
      refine ⟨a1, a2, a3, a4, by omega, a6, a7, fun b hb => ?_⟩
      obtain ⟨b1, b2, b3, b4, b5, b6, b7, b8, b9, b10⟩ := a8 b hb
      rw [← q] at hl
      unfold BJ
      rw [eo, eo, eo, eo, eo, eo, r0, r1, r2, g0, g2]
      exact ⟨b1, b2, b3, by omega, by omega, b6, b7, fun w => by have := b8 w; omega, b9, fun w1 w2 => by have := b10 w1 w2; omega⟩
    · have hw : ∀ w, w < 4 → rA (nup A (16 + 4 * (A 2 - 1) + 2) (rA A (A 2 - 1) 2 + y)) r w = rA A r w := fun w hw => e _ (by omega)
      unfold RJ
      rw [hw 0 (by omega), hw 1 (by omega), hw 2 (by omega), hw 3 (by omega), g1, g2, g0]
      exact ⟨a1, a2, a3, a4, by omega, a6, a7, fun b hb => (a8 b hb).mv (Nat.le_succ _) (by omega) g2 hw (fun w _ => eo r b w)⟩
  · rw [g1] at q2
    rw [eo]
    exact h.2.2.1 r b w q1 q2 q3 q4
  · rw [g3]
    exact fun p hp => (h.2.2.2.1 p hp).mv g1 (by omega) (fun w hw => e _ (by omega))
  · exact h.2.2.2.2.mv g1 g2 g3 h10 (fun p w hp hw => e _ (by omega)) (fun b hb => ⟨eo _ _ _, eo _ _ _⟩)
theorem j_close (h : HJ c A) (ho : opn A) : HJ c (nup A (16 + 4 * (A 2 - 1) + 3) 1) := by
  have h9 := h.1.1
  have h6 := h.1.2.1
  have h10 := h.1.2.2.1
  have hn := ho.1
  have e : ∀ i, i ≠ 16 + 4 * (A 2 - 1) + 3 → nup A (16 + 4 * (A 2 - 1) + 3) 1 i = A i := fun i hi => nup_ne hi
  have g0 := e 0 (by omega)
  have g1 := e 1 (by omega)
  have g2 := e 2 (by omega)
  have g3 := e 3 (by omega)
  have eo : ∀ r b w, eA (nup A (16 + 4 * (A 2 - 1) + 3) 1) r b w = eA A r b w := fun r b w => e _ (by omega)
  refine ⟨h.1.lo (fun i hi _ => e i (by omega)), fun r hr => ?_, fun r b w q1 q2 q3 q4 => ?_, ?_, ?_⟩
  · rw [g2] at hr
    obtain ⟨a1, a2, a3, a4, a5, a6, a7, a8⟩ := h.2.1 r hr
    have hw : ∀ w, w < 3 → rA (nup A (16 + 4 * (A 2 - 1) + 3) 1) r w = rA A r w := fun w hw => e _ (by omega)
    have hc3 : rA (nup A (16 + 4 * (A 2 - 1) + 3) 1) r 3 ≤ 1 ∧ (r + 1 < A 2 → rA (nup A (16 + 4 * (A 2 - 1) + 3) 1) r 3 = 1) := by
      by_cases q : r = A 2 - 1
      · rw [q, show rA (nup A (16 + 4 * (A 2 - 1) + 3) 1) (A 2 - 1) 3 = 1 from nup_at]
        exact ⟨Nat.le_refl _, fun _ => rfl⟩
      · rw [show rA (nup A (16 + 4 * (A 2 - 1) + 3) 1) r 3 = rA A r 3 from e _ (by omega)]
        exact ⟨a6, a7⟩
    unfold RJ
    rw [hw 0 (by omega), hw 1 (by omega), hw 2 (by omega), g1, g2, g0]
    refine ⟨a1, a2, a3, a4, a5, hc3.1, hc3.2, fun b hb => ?_⟩
    obtain ⟨b1, b2, b3, b4, b5, b6, b7, b8, b9, b10⟩ := a8 b hb
    unfold BJ
    rw [eo, eo, eo, eo, eo, eo, hw 0 (by omega), hw 1 (by omega), hw 2 (by omega), g0, g2]
    exact ⟨b1, b2, b3, b4, b5, b6, b7, b8, b9, b10⟩
  · rw [g1] at q2
    rw [eo]
    exact h.2.2.1 r b w q1 q2 q3 q4
  · rw [g3]
    exact fun p hp => (h.2.2.2.1 p hp).mv g1 (by omega) (fun w hw => e _ (by omega))
  · exact h.2.2.2.2.mv g1 g2 g3 h10 (fun p w hp hw => e _ (by omega)) (fun b hb => ⟨eo _ _ _, eo _ _ _⟩)
theorem j_rec (h : HJ c A) (ho : opn A) (hl : rA A (A 2 - 1) 2 ≤ A 0) : HJ (c + 1) (recA A) := by
  have h9 := h.1.1
  have h6 := h.1.2.1
  have hn := ho.1
  have e : ∀ i, i < 80 → i ≠ 3 → i ≠ 16 + 4 * (A 2 - 1) + 2 → recA A i = A i := fun i h1 h2 h3 => (clrA_lo h1 h2).trans (nup_ne h3)
  have g0 := e 0 (by omega) (by omega) (by omega)
  have g1 := e 1 (by omega) (by omega) (by omega)
  have g2 := e 2 (by omega) (by omega) (by omega)
  have g3 : recA A 3 = 0 := clrA_3
  have en : ∀ b w, b < 9 → w < 6 → eA (recA A) (A 2 - 1) b w = 0 := fun b w hb hw => clrA_e hb hw
  have eo : ∀ r b w, b < 9 → w < 6 → r ≠ A 2 - 1 → eA (recA A) r b w = eA A r b w := fun r b w hb hw hr => (clrA_o hb hw hr).trans (nup_ne (by omega))
  refine ⟨?_, fun r hr => ?_, fun r b w q1 q2 q3 q4 => ?_, fun p hp => ?_, fun _ b hb => ?_⟩
  · have hG := h.1
    unfold GJ at hG ⊢
    rw [g1, g2, g3, e 4 (by omega) (by omega) (by omega), e 5 (by omega) (by omega) (by omega), e 6 (by omega) (by omega) (by omega)]
    refine ⟨hG.1, hG.2.1, by omega, fun q => absurd q (by omega), hG.2.2.2.2.1, hG.2.2.2.2.2.1, hG.2.2.2.2.2.2.1, hG.2.2.2.2.2.2.2.1, hG.2.2.2.2.2.2.2.2.1, hG.2.2.2.2.2.2.2.2.2.1, fun b hb => ?_⟩
    rw [e (7 + b) (by omega) (by omega) (by omega)]
    exact hG.2.2.2.2.2.2.2.2.2.2 b hb
  · rw [g2] at hr
    obtain ⟨a1, a2, a3, a4, a5, a6, a7, a8⟩ := h.2.1 r hr
    have r0 : rA (recA A) r 0 = rA A r 0 := e _ (by omega) (by omega) (by omega)
    have r1 : rA (recA A) r 1 = rA A r 1 := e _ (by omega) (by omega) (by omega)
    have r3 : rA (recA A) r 3 = rA A r 3 := e _ (by omega) (by omega) (by omega)
    by_cases q : r = A 2 - 1
    · have r2 : rA (recA A) r 2 = A 0 + 300 := by rw [q]; exact (clrA_lo (by omega) (by omega)).trans nup_at
      unfold RJ
      rw [r0, r1, r2, r3, g1, g2, g0]
      refine ⟨a1, a2, a3, a4, by omega, a6, a7, fun b hb => ?_⟩
      unfold BJ
      rw [q, en b 0 (by omega) (by omega), en b 1 (by omega) (by omega), en b 2 (by omega) (by omega), en b 3 (by omega) (by omega), en b 4 (by omega) (by omega), en b 5 (by omega) (by omega)]
      exact ⟨by omega, by omega, fun w => absurd w (by omega), by omega, by omega, by omega, by omega, fun w => absurd w (by omega), Or.inr rfl, fun _ w => absurd w (by omega)⟩
    · have r2 : rA (recA A) r 2 = rA A r 2 := e _ (by omega) (by omega) (by omega)
      unfold RJ
      rw [r0, r1, r2, r3, g1, g2, g0]
      refine ⟨a1, a2, a3, a4, by omega, a6, a7, fun b hb => (a8 b hb).mv (Nat.le_succ _) (by omega) g2 (fun w hw => ?_) (fun w hw => eo r b w (by omega) hw q)⟩
      rcases (show w = 0 ∨ w = 1 ∨ w = 2 ∨ w = 3 by omega) with rfl | rfl | rfl | rfl
      · exact r0
      · exact r1
      · exact r2
      · exact r3
  · rw [g1] at q2
    by_cases q : r = A 2 - 1
    · rw [q]; exact en b w q3 q4
    · rw [eo r b w q3 q4 q]; exact h.2.2.1 r b w q1 q2 q3 q4
  · rw [g3] at hp; omega
  · rw [g1] at hb
    rw [g2, g3, en b 4 (by omega) (by omega), en b 3 (by omega) (by omega)]
    exact ⟨⟨fun q => absurd q (by decide), fun ⟨p, q, _⟩ => absurd q (by omega)⟩, ⟨fun q => absurd q (by decide), fun ⟨p, q, _⟩ => absurd q (by omega)⟩⟩
theorem j_prep (h : HJ c A) (ho : ¬ opn A) (h5 : A 2 < 6) (hb0 : 0 < A 1) {x y w : Nat} (x1 : 1 ≤ x) (x2 : x ≤ 5) (y1 : 1 ≤ y) (y2 : y ≤ 3) (w2 : w ≤ 400) : HJ (c + 1) (prA A x y w) := by
  have h9 := h.1.1
  have e : ∀ i, i < 80 → i ≠ 3 → i ≠ 2 → ¬ (16 + 4 * A 2 ≤ i ∧ i < 20 + 4 * A 2) → prA A x y w i = A i := fun i h1 h2 h3 h4 => (clrA_lo h1 h2).trans ((nup_ne (by omega)).trans ((nup_ne (by omega)).trans ((nup_ne (by omega)).trans ((nup_ne (by omega)).trans (nup_ne (by omega))))))
  have g0 := e 0 (by omega) (by omega) (by omega) (by omega)
  have g1 := e 1 (by omega) (by omega) (by omega) (by omega)
  have g2 : prA A x y w 2 = A 2 + 1 := (clrA_lo (by omega) (by omega)).trans ((nup_ne (by omega)).trans nup_at)
  have g3 : prA A x y w 3 = 0 := clrA_3
  have en : ∀ b v, b < 9 → v < 6 → eA (prA A x y w) (A 2) b v = 0 := fun b v hb hw => clrA_e hb hw
  have eo : ∀ r b v, b < 9 → v < 6 → r ≠ A 2 → eA (prA A x y w) r b v = eA A r b v := fun r b v hb hw hr => (clrA_o hb hw hr).trans ((nup_ne (by omega)).trans ((nup_ne (by omega)).trans ((nup_ne (by omega)).trans ((nup_ne (by omega)).trans (nup_ne (by omega))))))
  refine ⟨?_, fun r hr => ?_, fun r b v q1 q2 q3 q4 => ?_, fun p hp => ?_, fun _ b hb => ?_⟩
  · have hG := h.1
    unfold GJ at hG ⊢
    rw [g1, g2, g3, e 4 (by omega) (by omega) (by omega) (by omega), e 5 (by omega) (by omega) (by omega) (by omega), e 6 (by omega) (by omega) (by omega) (by omega)]
    refine ⟨hG.1, by omega, by omega, fun q => absurd q (by omega), fun _ => hb0, hG.2.2.2.2.2.1, hG.2.2.2.2.2.2.1, hG.2.2.2.2.2.2.2.1, hG.2.2.2.2.2.2.2.2.1, hG.2.2.2.2.2.2.2.2.2.1, fun b hb => ?_⟩
    rw [e (7 + b) (by omega) (by omega) (by omega) (by omega)]
    exact hG.2.2.2.2.2.2.2.2.2.2 b hb
  · rw [g2] at hr
    by_cases q : r = A 2
    · have r0 : rA (prA A x y w) (A 2) 0 = x := (clrA_lo (by omega) (by omega)).trans ((nup_ne (by omega)).trans ((nup_ne (by omega)).trans ((nup_ne (by omega)).trans ((nup_ne (by omega)).trans nup_at))))
      have r1 : rA (prA A x y w) (A 2) 1 = y := (clrA_lo (by omega) (by omega)).trans ((nup_ne (by omega)).trans ((nup_ne (by omega)).trans ((nup_ne (by omega)).trans nup_at)))
      have r2 : rA (prA A x y w) (A 2) 2 = A 0 + w := (clrA_lo (by omega) (by omega)).trans nup_at
      have r3 : rA (prA A x y w) (A 2) 3 = 0 := (clrA_lo (by omega) (by omega)).trans ((nup_ne (by omega)).trans ((nup_ne (by omega)).trans nup_at))
      rw [q]
      unfold RJ
      rw [r0, r1, r2, r3, g1, g2, g0]
      refine ⟨x1, x2, y1, y2, by omega, by omega, fun q => absurd q (by omega), fun b hb => ?_⟩
      unfold BJ
      rw [en b 0 (by omega) (by omega), en b 1 (by omega) (by omega), en b 2 (by omega) (by omega), en b 3 (by omega) (by omega), en b 4 (by omega) (by omega), en b 5 (by omega) (by omega)]
      exact ⟨by omega, by omega, fun w => absurd w (by omega), by omega, by omega, by omega, by omega, fun w => absurd w (by omega), Or.inr rfl, fun _ w => absurd w (by omega)⟩
    · obtain ⟨a1, a2, a3, a4, a5, a6, a7, a8⟩ := h.2.1 r (by omega)
      have hw : ∀ v, v < 4 → rA (prA A x y w) r v = rA A r v := fun v hv => e _ (by omega) (by omega) (by omega) (by omega)
      have hcl : rA A r 3 = 1 := by
        by_cases q2 : r + 1 = A 2
        · have : ¬ rA A r 3 = 0 := fun z => ho ⟨by omega, by rw [show A 2 - 1 = r by omega]; exact z⟩
          omega
        · exact a7 (by omega)
      unfold RJ
      rw [hw 0 (by omega), hw 1 (by omega), hw 2 (by omega), hw 3 (by omega), g1, g2, g0]
      refine ⟨a1, a2, a3, a4, by omega, a6, fun _ => hcl, fun b hb => ?_⟩
      obtain ⟨b1, b2, b3, b4, b5, b6, b7, b8, b9, b10⟩ := a8 b hb
      unfold BJ
      rw [eo r b 0 (by omega) (by omega) q, eo r b 1 (by omega) (by omega) q, eo r b 2 (by omega) (by omega) q, eo r b 3 (by omega) (by omega) q, eo r b 4 (by omega) (by omega) q, eo r b 5 (by omega) (by omega) q, hw 0 (by omega), hw 1 (by omega), hw 2 (by omega), g0, g2]
      exact ⟨b1, b2, b3, by omega, by omega, b6, b7, b8, b9, fun w => absurd w (by omega)⟩
  · rw [g1] at q2
    by_cases q : r = A 2
    · rw [q]; exact en b v q3 q4
    · rw [eo r b v q3 q4 q]; exact h.2.2.1 r b v q1 q2 q3 q4
  · rw [g3] at hp; omega
  · rw [g1] at hb
    rw [g2, g3, show A 2 + 1 - 1 = A 2 by omega, en b 4 (by omega) (by omega), en b 3 (by omega) (by omega)]
    exact ⟨⟨fun q => absurd q (by decide), fun ⟨p, q, _⟩ => absurd q (by omega)⟩, ⟨fun q => absurd q (by decide), fun ⟨p, q, _⟩ => absurd q (by omega)⟩⟩
end Keep2
