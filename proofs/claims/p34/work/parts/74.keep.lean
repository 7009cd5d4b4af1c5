/-! what always holds goes on holding -/
theorem BJ.mv {c c' : Nat} {A A' : Nat → Nat} {r b : Nat} (h : BJ c A r b) (hc : c ≤ c') (g0 : A 0 ≤ A' 0) (g2 : A' 2 = A 2) (hr : ∀ w, w < 4 → rA A' r w = rA A r w) (he : ∀ w, w < 6 → eA A' r b w = eA A r b w) : BJ c' A' r b := by
  obtain ⟨b1, b2, b3, b4, b5, b6, b7, b8, b9, b10⟩ := h
  unfold BJ
  rw [he 0 (by omega), he 1 (by omega), he 2 (by omega), he 3 (by omega), he 4 (by omega), he 5 (by omega), hr 0 (by omega), hr 1 (by omega), hr 2 (by omega), g2]
  exact ⟨b1, b2, b3, by omega, by omega, b6, by omega, b8, b9, fun q1 q2 => by have := b10 q1 q2; omega⟩
theorem HJ.gen {c c' : Nat} {A A' : Nat → Nat} (b0 : Nat) (h : HJ c A) (hc : c ≤ c') (hb0 : b0 < A 1 ∨ 9 ≤ b0) (g1 : A' 1 = A 1) (g2 : A' 2 = A 2) (g0 : A 0 ≤ A' 0) (hG : GJ A') (hr : ∀ i, 16 ≤ i → i < 40 → A' i = A i) (ho : ∀ r b w, r < 6 → b < 9 → w < 6 → ¬ (r = A 2 - 1 ∧ b = b0) → eA A' r b w = eA A r b w) (hB : 0 < A 2 → b0 < A 1 → BJ c' A' (A 2 - 1) b0) (hP : ∀ p, p < A' 3 → PJ A' p) (hL : LJ A') : HJ c' A' := by
  have h9 := h.1.1
  have h6 := h.1.2.1
  refine ⟨hG, fun r hr1 => ?_, fun r b w q1 q2 q3 q4 => ?_, hP, hL⟩
  · rw [g2] at hr1
    obtain ⟨a1, a2, a3, a4, a5, a6, a7, a8⟩ := h.2.1 r hr1
    have hw : ∀ w, w < 4 → rA A' r w = rA A r w := fun w hw => hr _ (by omega) (by omega)
    unfold RJ
    rw [hw 0 (by omega), hw 1 (by omega), hw 2 (by omega), hw 3 (by omega), g1, g2]
    refine ⟨a1, a2, a3, a4, by omega, a6, a7, fun b hb => ?_⟩
    by_cases q : r = A 2 - 1 ∧ b = b0
    · rw [q.1, q.2]; exact hB (by omega) (by omega)
    · exact (a8 b hb).mv hc g0 g2 hw (fun w hw => ho r b w (by omega) (by omega) hw q)
  · rw [g1] at q2
    rw [ho r b w q1 q3 q4 (by omega)]
    exact h.2.2.1 r b w q1 q2 q3 q4
theorem HJ.mono {c c' : Nat} {A : Nat → Nat} (h : HJ c A) (hc : c ≤ c') : HJ c' A := by
  refine h.gen 9 hc (Or.inr (Nat.le_refl _)) rfl rfl (Nat.le_refl _) h.1 (fun _ _ _ => rfl) (fun _ _ _ _ _ _ _ => rfl) (fun _ q => ?_) h.2.2.2.1 h.2.2.2.2
  have := h.1.1
  omega
theorem LJ.mv {A A' : Nat → Nat} (h : LJ A) (g1 : A' 1 = A 1) (g2 : A' 2 = A 2) (g3 : A' 3 = A 3) (h10 : A 3 ≤ 10) (hp : ∀ p w, p < 10 → w < 4 → pA A' p w = pA A p w) (he : ∀ b, b < A 1 → eA A' (A 2 - 1) b 3 = eA A (A 2 - 1) b 3 ∧ eA A' (A 2 - 1) b 4 = eA A (A 2 - 1) b 4) : LJ A' := by
  unfold LJ
  rw [g1, g2, g3]
  intro hn b hb
  obtain ⟨h1, h2⟩ := h hn b hb
  rw [(he b hb).1, (he b hb).2]
  refine ⟨h1.trans ⟨?_, ?_⟩, h2.trans ⟨?_, ?_⟩⟩
  · rintro ⟨p, q1, q2, q3⟩
    exact ⟨p, q1, by rw [hp p 1 (by omega) (by omega)]; exact q2, by rw [hp p 3 (by omega) (by omega)]; exact q3⟩
  · rintro ⟨p, q1, q2, q3⟩
    rw [hp p 1 (by omega) (by omega)] at q2
    rw [hp p 3 (by omega) (by omega)] at q3
    exact ⟨p, q1, q2, q3⟩
  · rintro ⟨p, q1, q2, q3⟩
    exact ⟨p, q1, by rw [hp p 1 (by omega) (by omega)]; exact q2, by rw [hp p 3 (by omega) (by omega)]; exact q3⟩
  · rintro ⟨p, q1, q2, q3⟩
    rw [hp p 1 (by omega) (by omega)] at q2
    rw [hp p 3 (by omega) (by omega)] at q3
    exact ⟨p, q1, q2, q3⟩
theorem PJ.mv {A A' : Nat → Nat} {p : Nat} (h : PJ A p) (g1 : A' 1 = A 1) (g0 : A 0 ≤ A' 0) (hp : ∀ w, w < 4 → pA A' p w = pA A p w) : PJ A' p := by
  obtain ⟨p1, p2, p3, p4, p5⟩ := h
  unfold PJ
  rw [hp 0 (by omega), hp 1 (by omega), hp 2 (by omega), hp 3 (by omega), g1]
  exact ⟨p1, p2, p3, by omega, p5⟩
/-- one entry of the latest race is put, neither who is out nor penalties -/
theorem HJ.ent {c c' : Nat} {A : Nat → Nat} {b0 : Nat} (A' : Nat → Nat) (h : HJ c A) (hc : c ≤ c') (hn : 0 < A 2) (hb0 : b0 < A 1) (hlo : ∀ i, i < 80 → A' i = A i) (ho : ∀ r b w, r < 6 → b < 9 → w < 6 → ¬ (r = A 2 - 1 ∧ b = b0) → eA A' r b w = eA A r b w) (h34 : eA A' (A 2 - 1) b0 3 = eA A (A 2 - 1) b0 3 ∧ eA A' (A 2 - 1) b0 4 = eA A (A 2 - 1) b0 4) (hB : BJ c' A' (A 2 - 1) b0) : HJ c' A' := by
  have h9 := h.1.1
  have h6 := h.1.2.1
  have h10 := h.1.2.2.1
  have g0 := hlo 0 (by omega)
  have g1 := hlo 1 (by omega)
  have g2 := hlo 2 (by omega)
  have g3 := hlo 3 (by omega)
  refine h.gen b0 hc (Or.inl hb0) g1 g2 (by omega) ?_ (fun i _ _ => hlo i (by omega)) ho (fun _ _ => hB) ?_ ?_
  · have hG := h.1
    unfold GJ at hG ⊢
    rw [g1, g2, g3, hlo 4 (by omega), hlo 5 (by omega), hlo 6 (by omega)]
    refine ⟨hG.1, hG.2.1, hG.2.2.1, hG.2.2.2.1, hG.2.2.2.2.1, hG.2.2.2.2.2.1, hG.2.2.2.2.2.2.1, hG.2.2.2.2.2.2.2.1, hG.2.2.2.2.2.2.2.2.1, hG.2.2.2.2.2.2.2.2.2.1, fun b hb => ?_⟩
    rw [hlo (7 + b) (by omega)]
    exact hG.2.2.2.2.2.2.2.2.2.2 b hb
  · rw [g3]
    exact fun p hp => (h.2.2.2.1 p hp).mv g1 (by omega) (fun w hw => hlo _ (by omega))
  · refine h.2.2.2.2.mv g1 g2 g3 h10 (fun p w hp hw => hlo _ (by omega)) (fun b hb => ?_)
    by_cases q : b = b0
    · rw [q]; exact h34
    · exact ⟨ho _ _ _ (by omega) (by omega) (by omega) (by omega), ho _ _ _ (by omega) (by omega) (by omega) (by omega)⟩
theorem ep_if {A : Nat → Nat} {r b w v w1 : Nat} : eA (ep A r b w v) r b w1 = if w1 = w then v else eA A r b w1 := by
  by_cases q : w1 = w
  · rw [if_pos q, q]; exact nup_at
  · rw [if_neg q]; exact nup_ne (by omega)
theorem ep_r {A : Nat → Nat} {r b w v r1 w1 : Nat} (hr : r1 < 6) (hw : w1 < 4) : rA (ep A r b w v) r1 w1 = rA A r1 w1 := ep_lo (by omega)
section Keep
variable {c : Nat} {A : Nat → Nat}
theorem j_pass (h : HJ c A) {y : Nat} : HJ c (nup A 0 (A 0 + y)) := by
  have h9 := h.1.1
  have h10 := h.1.2.2.1
  have e : ∀ i, i ≠ 0 → nup A 0 (A 0 + y) i = A i := fun i hi => nup_ne hi
  have g1 := e 1 (by omega)
  have g2 := e 2 (by omega)
  have g3 := e 3 (by omega)
  have g0 : A 0 ≤ nup A 0 (A 0 + y) 0 := by rw [nup_at]; omega
  refine h.gen 9 (Nat.le_refl _) (Or.inr (Nat.le_refl _)) g1 g2 g0 ?_ (fun i _ _ => e i (by omega)) (fun r b w _ _ _ _ => e _ (by omega)) (fun _ q => absurd q (by omega)) ?_ ?_
  · have hG := h.1
    unfold GJ at hG ⊢
    rw [g1, g2, g3, e 4 (by omega), e 5 (by omega), e 6 (by omega)]
    refine ⟨hG.1, hG.2.1, hG.2.2.1, hG.2.2.2.1, hG.2.2.2.2.1, hG.2.2.2.2.2.1, hG.2.2.2.2.2.2.1, hG.2.2.2.2.2.2.2.1, hG.2.2.2.2.2.2.2.2.1, hG.2.2.2.2.2.2.2.2.2.1, fun b hb => ?_⟩
    rw [e (7 + b) (by omega)]
    exact hG.2.2.2.2.2.2.2.2.2.2 b hb
  · rw [g3]
    exact fun p hp => (h.2.2.2.1 p hp).mv g1 g0 (fun w hw => e _ (by omega))
  · exact h.2.2.2.2.mv g1 g2 g3 h10 (fun p w hp hw => e _ (by omega)) (fun b hb => ⟨e _ (by omega), e _ (by omega)⟩)
theorem j_ep {c' : Nat} (h : HJ c A) (hc : c ≤ c') (hn : 0 < A 2) {b w v : Nat} (hb : b < A 1) (hw : w < 6) (hw3 : w ≠ 3) (hw4 : w ≠ 4) (hB : BJ c' (ep A (A 2 - 1) b w v) (A 2 - 1) b) : HJ c' (ep A (A 2 - 1) b w v) := by
  have h9 := h.1.1
  refine h.ent _ hc hn hb (fun i hi => ep_lo hi) (fun r b1 w1 _ hb1 hw1 hq => ep_ne (by omega) hw hb1 hw1 (by omega)) ⟨?_, ?_⟩ hB
  · rw [ep_if, if_neg (fun q => hw3 q.symm)]
  · rw [ep_if, if_neg (fun q => hw4 q.symm)]
/-- what a boat is, but finished -/
theorem j_kind (h : HJ c A) (hn : 0 < A 2) {b v : Nat} (hb : b < A 1) (hv : v ≤ 4) (hv3 : v ≠ 3) (hs : eA A (A 2 - 1) b 0 ≠ 3) (h2 : v = 2 → rA A (A 2 - 1) 2 ≤ A 0) : HJ c (ep A (A 2 - 1) b 0 v) := by
  have h6 := h.1.2.1
  obtain ⟨b1, b2, b3, b4, b5, b6, b7, b8, b9, b10⟩ := (h.2.1 (A 2 - 1) (by omega)).2.2.2.2.2.2.2 b hb
  refine j_ep h (Nat.le_refl _) hn hb (by omega) (by omega) (by omega) ?_
  unfold BJ
  rw [ep_if, ep_if, ep_if, ep_if, ep_if, ep_if, ep_r (by omega) (by omega), ep_r (by omega) (by omega), ep_r (by omega) (by omega), ep_2, show ep A (A 2 - 1) b 0 v 0 = A 0 from ep_lo (by omega), if_pos rfl, if_neg (by decide), if_neg (by decide), if_neg (by decide), if_neg (by decide), if_neg (by decide)]
  exact ⟨hv, b2, fun q => absurd q hv3, b4, b5, b6, b7, fun q => absurd q hv3, Or.inr (by omega), fun _ q => h2 (by omega)⟩
theorem j_fin (h : HJ c A) (ho : opn A) {b : Nat} (hb : b < A 1) (hs : eA A (A 2 - 1) b 0 = 2) (ha : eA A (A 2 - 1) b 1 = rA A (A 2 - 1) 0 * rA A (A 2 - 1) 1) : HJ c (ep (ep A (A 2 - 1) b 5 (A 0)) (A 2 - 1) b 0 3) := by
  have h6 := h.1.2.1
  have h9 := h.1.1
  have hn := ho.1
  obtain ⟨b1, b2, b3, b4, b5, b6, b7, b8, b9, b10⟩ := (h.2.1 (A 2 - 1) (by omega)).2.2.2.2.2.2.2 b hb
  have hst := b10 (by omega) (Or.inl hs)
  refine h.ent _ (Nat.le_refl _) hn hb (fun i hi => (ep_lo hi).trans (ep_lo hi)) (fun r b1 w1 _ hb1 hw1 hq => (ep_ne (by omega) (by omega) hb1 hw1 (by omega)).trans (ep_ne (by omega) (by omega) hb1 hw1 (by omega))) ⟨?_, ?_⟩ ?_
  · rw [ep_if, if_neg (by decide), ep_if, if_neg (by decide)]
  · rw [ep_if, if_neg (by decide), ep_if, if_neg (by decide)]
  · have e : ∀ w1, eA (ep (ep A (A 2 - 1) b 5 (A 0)) (A 2 - 1) b 0 3) (A 2 - 1) b w1 = if w1 = 0 then 3 else if w1 = 5 then A 0 else eA A (A 2 - 1) b w1 := fun w1 => by rw [ep_if, ep_if]
    have r : ∀ w1, w1 < 4 → rA (ep (ep A (A 2 - 1) b 5 (A 0)) (A 2 - 1) b 0 3) (A 2 - 1) w1 = rA A (A 2 - 1) w1 := fun w1 hw => (ep_r (by omega) hw).trans (ep_r (by omega) hw)
    unfold BJ
    rw [e 0, e 1, e 2, e 3, e 4, e 5, r 0 (by omega), r 1 (by omega), r 2 (by omega), show ep (ep A (A 2 - 1) b 5 (A 0)) (A 2 - 1) b 0 3 0 = A 0 from (ep_lo (by omega)).trans (ep_lo (by omega)), show ep (ep A (A 2 - 1) b 5 (A 0)) (A 2 - 1) b 0 3 2 = A 2 from (ep_lo (by omega)).trans (ep_lo (by omega))]
    exact ⟨(show 3 ≤ 4 by decide), b2, fun _ => ha, b4, b5, b6, Nat.le_refl _, fun _ => hst, Or.inl rfl, fun _ _ => hst⟩
theorem j_made (h : HJ c A) (ho : opn A) {b : Nat} (hb : b < A 1) (hs : eA A (A 2 - 1) b 0 = 2) (ha : eA A (A 2 - 1) b 1 < rA A (A 2 - 1) 0 * rA A (A 2 - 1) 1) : HJ c (ep A (A 2 - 1) b 1 (eA A (A 2 - 1) b 1 + 1)) := by
  have h6 := h.1.2.1
  have hn := ho.1
  obtain ⟨b1, b2, b3, b4, b5, b6, b7, b8, b9, b10⟩ := (h.2.1 (A 2 - 1) (by omega)).2.2.2.2.2.2.2 b hb
  refine j_ep h (Nat.le_refl _) hn hb (by omega) (by omega) (by omega) ?_
  unfold BJ
  rw [ep_if, ep_if, ep_if, ep_if, ep_if, ep_if, ep_r (by omega) (by omega), ep_r (by omega) (by omega), ep_r (by omega) (by omega), ep_2, show ep A (A 2 - 1) b 1 (eA A (A 2 - 1) b 1 + 1) 0 = A 0 from ep_lo (by omega), if_neg (by decide), if_pos rfl, if_neg (by decide), if_neg (by decide), if_neg (by decide), if_neg (by decide)]
  exact ⟨b1, ha, fun q => absurd q (by omega), b4, b5, b6, b7, b8, b9, b10⟩
theorem j_miss (h : HJ c A) (ho : opn A) {b : Nat} (hb : b < A 1) : HJ (c + 1) (ep A (A 2 - 1) b 2 (eA A (A 2 - 1) b 2 + 1)) := by
  have h6 := h.1.2.1
  have hn := ho.1
  obtain ⟨b1, b2, b3, b4, b5, b6, b7, b8, b9, b10⟩ := (h.2.1 (A 2 - 1) (by omega)).2.2.2.2.2.2.2 b hb
  refine j_ep h (Nat.le_succ _) hn hb (by omega) (by omega) (by omega) ?_
  unfold BJ
  rw [ep_if, ep_if, ep_if, ep_if, ep_if, ep_if, ep_r (by omega) (by omega), ep_r (by omega) (by omega), ep_r (by omega) (by omega), ep_2, show ep A (A 2 - 1) b 2 (eA A (A 2 - 1) b 2 + 1) 0 = A 0 from ep_lo (by omega), if_neg (by decide), if_neg (by decide), if_pos rfl, if_neg (by decide), if_neg (by decide), if_neg (by decide)]
  exact ⟨b1, b2, b3, by omega, by omega, b6, b7, b8, b9, b10⟩
end Keep
