/-! a boat that is out in the last closed race has no better rank -/
theorem rk_mono {A1 A2 : Nat → Nat → Bool} {x : Nat} : ∀ n, (∀ i, i < n → A1 i x = true → A2 i x = true) → rk A1 x n ≤ rk A2 x n := by
  intro n
  induction n with
  | zero => intro _; exact Nat.le_refl _
  | succ n ih =>
    intro h
    have i1 := ih (fun i hi => h i (by omega))
    rw [rk, rk]
    by_cases q : A1 n x = true
    · rw [if_pos q, if_pos (h n (by omega) q)]; omega
    · rw [if_neg q]
      split <;> omega
def lge (x' x : Nat → Nat) : Nat → Nat → Prop
  | 0, _ => True
  | f + 1, i => x i < x' i ∨ (x' i = x i ∧ lge x' x f (i + 1))
theorem lge_eq {x' x : Nat → Nat} : ∀ f i, (∀ w, i ≤ w → x' w = x w) → lge x' x f i := by
  intro f
  induction f with
  | zero => intro i _; trivial
  | succ f ih => intro i h; exact Or.inr ⟨h i (Nat.le_refl _), ih (i + 1) (fun w hw => h w (by omega))⟩
theorem lge_at {x' x : Nat → Nat} {q : Nat} (hq : x q < x' q) : ∀ f i, i ≤ q → q < i + f → (∀ w, i ≤ w → w < q → x' w = x w) → lge x' x f i := by
  intro f
  induction f with
  | zero => intro i h1 h2 _; omega
  | succ f ih =>
    intro i h1 h2 h
    by_cases e : i = q
    · rw [e]; exact Or.inl hq
    · exact Or.inr ⟨h i (Nat.le_refl _) (by omega), ih (i + 1) (by omega) (by omega) (fun w h3 h4 => h w (by omega) h4)⟩
theorem lex_mono {x x' y y' : Nat → Nat} {z z' : Bool} (hz : z = true → z' = true) : ∀ f i, lge x' x f i → lge y y' f i → lexP x y z f i = true → lexP x' y' z' f i = true := by
  intro f
  induction f with
  | zero => intro i _ _ h; exact hz h
  | succ f ih =>
    intro i hx hy h
    rw [lexP] at h ⊢
    by_cases e : x i = y i
    · rw [if_pos e] at h
      rcases hx with q | ⟨q1, q2⟩
      · have : y' i < x' i := by rcases hy with w | ⟨w, _⟩ <;> omega
        rw [if_neg (by omega)]; exact decide_eq_true this
      · rcases hy with w | ⟨w1, w2⟩
        · rw [if_neg (by omega)]; exact decide_eq_true (by omega)
        · rw [if_pos (by omega)]; exact ih (i + 1) q2 w2 h
    · rw [if_neg e] at h
      have h2 : y i < x i := of_decide_eq_true h
      have : y' i < x' i := by rcases hx with q | ⟨q, _⟩ <;> rcases hy with w | ⟨w, _⟩ <;> omega
      rw [if_neg (by omega)]; exact decide_eq_true this
theorem ah_mono {T T' : Nat → Nat} {P P' : Nat → Nat → Nat} {L L' : Nat → Nat} {k b : Nat} (t1 : T' k ≤ T k) (t2 : T b ≤ T' b) (l1 : L' k ≤ L k) (l2 : L b ≤ L' b) (p1 : lge (P' k) (P k) 9 1) (p2 : lge (P b) (P' b) 9 1) (h : ah T P L k b = true) : ah T' P' L' k b = true := by
  unfold ah at h ⊢
  by_cases e' : T' k = T' b
  · have hle : T k ≤ T b := by
      by_cases e : T k = T b
      · omega
      · rw [if_neg e] at h
        have := of_decide_eq_true h
        omega
    have e : T k = T b := by omega
    rw [if_pos e] at h
    rw [if_pos e']
    refine lex_mono (fun q => ?_) 9 1 p1 p2 h
    by_cases w' : L' k = L' b
    · rw [if_pos w']
      by_cases w : L k = L b
      · rw [if_pos w] at q; exact q
      · rw [if_neg w] at q
        have := of_decide_eq_true q
        omega
    · rw [if_neg w']
      refine decide_eq_true ?_
      by_cases w : L k = L b
      · omega
      · rw [if_neg w] at q
        have := of_decide_eq_true q
        omega
  · rw [if_neg e']
    refine decide_eq_true ?_
    by_cases e : T k = T b
    · omega
    · rw [if_neg e] at h
      have := of_decide_eq_true h
      omega
/-- sums where one is left out -/
def suN (f : Nat → Nat) : Nat → Nat
  | 0 => 0
  | i + 1 => suN f i + f i
theorem sm_su {A : Nat → Nat} {b : Nat} : ∀ n, smN A b n = suN (fun i => ptN A i b) n := by
  intro n
  induction n with
  | zero => rfl
  | succ n ih => show smN A b n + ptN A n b = suN (fun i => ptN A i b) n + ptN A n b; rw [ih]
theorem su_le {f g : Nat → Nat} : ∀ n, (∀ i, i < n → f i ≤ g i) → suN f n ≤ suN g n := by
  intro n
  induction n with
  | zero => intro _; exact Nat.le_refl _
  | succ n ih =>
    intro h
    have := ih (fun i hi => h i (by omega))
    have := h n (by omega)
    show suN f n + f n ≤ suN g n + g n
    omega
theorem su_sw {f g : Nat → Nat} {j : Nat} : ∀ n, j < n → (∀ i, i < n → f i ≤ g i) → suN f n + g j ≤ suN g n + f j := by
  intro n
  induction n with
  | zero => intro h _; omega
  | succ n ih =>
    intro hj h
    show suN f n + f n + g j ≤ suN g n + g n + f j
    have h1 := h n (by omega)
    by_cases q : j = n
    · have := su_le n (fun i hi => h i (by omega))
      rw [q]; omega
    · have := ih (by omega) (fun i hi => h i (by omega))
      omega
theorem su_one {f : Nat → Nat} {j : Nat} : ∀ n, j < n → f j ≤ suN f n := by
  intro n
  induction n with
  | zero => intro h; omega
  | succ n ih =>
    intro hj
    show f j ≤ suN f n + f n
    by_cases q : j = n
    · rw [q]; omega
    · have := ih (by omega); omega
/-- of two rows of points, the less ones give no more -/
theorem tot_le {f g : Nat → Nat} {n j j' : Nat} (hj : j < n) (hj' : j' < n) (hf : ∀ i, i < n → f i ≤ f j') (h : ∀ i, i < n → f i ≤ g i) : suN f n - f j' ≤ suN g n - g j := by
  have h1 := su_sw n hj h
  have h2 := hf j hj
  have h3 := su_one (f := g) n hj
  omega
theorem HJ.qj {c : Nat} {A : Nat → Nat} (h : HJ c A) : QJ c A := ⟨h.1, h.2.1, h.2.2.1, h.2.2.2.1⟩
theorem to_mono {c : Nat} {A B : Nat → Nat} (QA : QJ c A) (QB : QJ c B) (hc : c ≤ 512) (hkA : A 0 ≤ 999999) (hkB : B 0 ≤ 999999) (e1 : B 1 = A 1) (e6 : B 6 = A 6) (en : ncl B = ncl A) {k : Nat} (hk : k < A 1) (h : ∀ i, i < ncl A → ptN B i k ≤ ptN A i k) : toN B k ≤ toN A k := by
  unfold toN
  rw [en, e6, sm_su, sm_su]
  by_cases hd : 0 < A 6 ∧ A 6 ≤ ncl A
  · rw [if_pos hd, if_pos hd]
    obtain ⟨a1, a2, a3, a4⟩ := lo_n_q QA hc hkA hk hd
    obtain ⟨b1, b2, b3, b4⟩ := lo_n_q QB hc hkB (b := k) (by omega) (show 0 < B 6 ∧ B 6 ≤ ncl B by rw [e6, en]; exact hd)
    rw [en] at b2 b3
    exact tot_le (f := fun i => ptN B i k) (g := fun i => ptN A i k) (n := ncl A) (j := loN A k) (j' := loN B k) a2 b2 b3 h
  · rw [if_neg hd, if_neg hd]
    have := su_le (f := fun i => ptN B i k) (g := fun i => ptN A i k) (ncl A) h
    omega
theorem nT_to {c : Nat} {A : Nat → Nat} (QA : QJ c A) (hc : c ≤ 512) (hk : A 0 ≤ 999999) {k : Nat} (hb : k < A 1) : nT (arr A) (A 1) (ncl A) k = toN A k := by
  obtain ⟨h1, h2⟩ := tot_n_q QA hc hk hb
  unfold nT
  rw [h1, nI_clamp (by omega)]
theorem nP_pf {c : Nat} {A : Nat → Nat} (QA : QJ c A) (hc : c ≤ 512) (hk : A 0 ≤ 999999) {k w : Nat} (hb : k < A 1) (hw : w < 100) : nP (arr A) (A 1) (ncl A) k w = pfN A k w (ncl A) := by
  have h2 := QA.1.2.1
  have hn := ncl_le (A := A)
  obtain ⟨h1, h3⟩ := pof_n_q QA hc hk hb hw (ncl A) ncl_le
  unfold nP
  rw [h1, nI_clamp (by omega)]
theorem nL_pt {c : Nat} {A : Nat → Nat} (QA : QJ c A) (hc : c ≤ 512) (hk : A 0 ≤ 999999) {k r : Nat} (hb : k < A 1) (hr : r + 1 = ncl A) : nL (arr A) (A 1) (ncl A) k = ptN A r k := by
  have hn := ncl_le (A := A)
  have h9 := QA.1.1
  have h := ptN_b_q QA (r := r) (b := k) (by omega) hb
  unfold nL m_lst
  rw [if_neg (by omega), show ncl A - 1 = r by omega, pts_n_q QA hc hk (by omega) hb, nI_clamp (by omega)]
theorem lge_cg {x x' y y' : Nat → Nat} : ∀ f i, (∀ w, i ≤ w → w < i + f → x' w = y' w ∧ x w = y w) → lge y' y f i → lge x' x f i := by
  intro f
  induction f with
  | zero => intro i _ _; trivial
  | succ f ih =>
    intro i h hl
    obtain ⟨e1, e2⟩ := h i (Nat.le_refl _) (by omega)
    rcases hl with q | ⟨q1, q2⟩
    · exact Or.inl (by omega)
    · exact Or.inr ⟨by omega, ih (i + 1) (fun w h1 h2 => h w (by omega) (by omega)) q2⟩
theorem rank_out {c : Nat} {A : Nat → Nat} {r b : Nat} (hJ : HJ c A) (hc : c ≤ 512) (hk : A 0 ≤ 999999) (hr : r + 1 = ncl A) (hb : b < A 1) : rkN A b ≤ rk (AH (arr (ep A r b 4 1)) (A 1) (ncl A)) b (A 1) := by
  have h9 := hJ.1.1
  have h6 := hJ.1.2.1
  have hn := ncl_le (A := A)
  have QB := hJ.out (r := r) (b := b) (by omega) hb
  have QA := hJ.qj
  obtain ⟨B, hB⟩ : ∃ y, y = ep A r b 4 1 := ⟨_, rfl⟩
  rw [← hB] at QB ⊢
  have lo : ∀ i, i < 80 → B i = A i := fun i hi => by rw [hB]; exact ep_lo hi
  have e1 : B 1 = A 1 := lo 1 (by omega)
  have e0 : B 0 = A 0 := lo 0 (by omega)
  have e6 : B 6 = A 6 := lo 6 (by omega)
  have en : ncl B = ncl A := by
    unfold ncl
    rw [lo 2 (by omega), show rA B (A 2 - 1) 3 = rA A (A 2 - 1) 3 from lo _ (by omega)]
  have eo : ∀ r1 k w, k < 9 → w < 6 → ¬ (r1 = r ∧ k = b ∧ w = 4) → eA B r1 k w = eA A r1 k w := fun r1 k w h1 h2 h3 => by rw [hB]; exact ep_ne (by omega) (by omega) h1 h2 h3
  have eb : eA B r b 4 = 1 := by rw [hB]; exact ep_at
  have eco : ∀ r1 k, r1 < 6 → k < 9 → coN B r1 k = coN A r1 k := fun r1 k h1 h2 => by
    unfold coN elN
    rw [eo r1 k 5 h2 (by omega) (by omega), eo r1 k 3 h2 (by omega) (by omega), show rA B r1 2 = rA A r1 2 from lo _ (by omega), lo (7 + k) (by omega)]
  have ecn : ∀ r1 k, k < 9 → ¬ (r1 = r ∧ k = b) → (cnP B r1 k ↔ cnP A r1 k) := fun r1 k h1 h2 => by
    unfold cnP
    rw [eo r1 k 0 h1 (by omega) (by omega), eo r1 k 4 h1 (by omega) (by omega)]
  have ebn : ¬ cnP B r b := fun z => by have := z.2; omega
  have ah1 : ∀ r1 k, r1 < 6 → k < 9 → r1 ≠ r → ∀ n, n ≤ 9 → ahN B r1 k n = ahN A r1 k n := by
    intro r1 k h1 h2 h3 n
    induction n with
    | zero => intro _; rfl
    | succ n ih =>
      intro hn9
      show ahN B r1 k n + (if cnP B r1 n ∧ coN B r1 n < coN B r1 k then 1 else 0) = ahN A r1 k n + (if cnP A r1 n ∧ coN A r1 n < coN A r1 k then 1 else 0)
      rw [ih (by omega), eco r1 n h1 (by omega), eco r1 k h1 h2]
      by_cases q : cnP A r1 n ∧ coN A r1 n < coN A r1 k
      · rw [if_pos q, if_pos ⟨(ecn r1 n (by omega) (by omega)).mpr q.1, q.2⟩]
      · rw [if_neg q, if_neg (fun z => q ⟨(ecn r1 n (by omega) (by omega)).mp z.1, z.2⟩)]
  have ah2 : ∀ k, k < 9 → ∀ n, n ≤ 9 → (n ≤ b → ahN B r k n = ahN A r k n) ∧ ahN B r k n ≤ ahN A r k n ∧ ahN A r k n ≤ ahN B r k n + 1 := by
    intro k h2 n
    induction n with
    | zero => intro _; exact ⟨fun _ => rfl, Nat.le_refl _, Nat.zero_le _⟩
    | succ n ih =>
      intro hn9
      obtain ⟨i1, i2, i3⟩ := ih (by omega)
      show (n + 1 ≤ b → ahN B r k n + (if cnP B r n ∧ coN B r n < coN B r k then 1 else 0) = ahN A r k n + (if cnP A r n ∧ coN A r n < coN A r k then 1 else 0)) ∧ ahN B r k n + (if cnP B r n ∧ coN B r n < coN B r k then 1 else 0) ≤ ahN A r k n + (if cnP A r n ∧ coN A r n < coN A r k then 1 else 0) ∧ ahN A r k n + (if cnP A r n ∧ coN A r n < coN A r k then 1 else 0) ≤ ahN B r k n + (if cnP B r n ∧ coN B r n < coN B r k then 1 else 0) + 1
      rw [eco r n (by omega) (by omega), eco r k (by omega) h2]
      by_cases w : n = b
      · have i4 := i1 (by omega)
        rw [if_neg (fun z : cnP B r n ∧ coN A r n < coN A r k => ebn (by rw [← w]; exact z.1))]
        refine ⟨fun q => by omega, ?_, ?_⟩ <;> split <;> omega
      · have e : (cnP B r n ∧ coN A r n < coN A r k) ↔ (cnP A r n ∧ coN A r n < coN A r k) := by rw [ecn r n (by omega) (by omega)]
        by_cases q : cnP A r n ∧ coN A r n < coN A r k
        · rw [if_pos q, if_pos (e.mpr q)]
          exact ⟨fun z => by rw [i1 (by omega)], by omega, by omega⟩
        · rw [if_neg q, if_neg (fun z => q (e.mp z))]
          exact ⟨fun z => by rw [i1 (by omega)], by omega, by omega⟩
  have pl1 : ∀ r1 k, r1 < 6 → k < 9 → r1 ≠ r → plN B r1 k = plN A r1 k := fun r1 k h1 h2 h3 => by
    unfold plN
    rw [e1, ah1 r1 k h1 h2 h3 (A 1) h9]
  have pl2 : ∀ k, k < 9 → plN B r k ≤ plN A r k ∧ plN A r k ≤ plN B r k + 1 := fun k h2 => by
    unfold plN
    rw [e1]
    have := ah2 k h2 (A 1) h9
    omega
  have pt1 : ∀ r1 k, r1 < 6 → k < 9 → r1 ≠ r → ptN B r1 k = ptN A r1 k := fun r1 k h1 h2 h3 => by
    unfold ptN
    by_cases q : cnP A r1 k
    · rw [if_pos q, if_pos ((ecn r1 k h2 (by omega)).mpr q)]; exact pl1 r1 k h1 h2 h3
    · rw [if_neg q, if_neg (fun z => q ((ecn r1 k h2 (by omega)).mp z)), e1, eo r1 k 4 h2 (by omega) (by omega)]
  have pt2 : ∀ k, k < 9 → k ≠ b → ptN B r k ≤ ptN A r k := fun k h2 h3 => by
    unfold ptN
    by_cases q : cnP A r k
    · rw [if_pos q, if_pos ((ecn r k h2 (by omega)).mpr q)]; exact (pl2 k h2).1
    · rw [if_neg q, if_neg (fun z => q ((ecn r k h2 (by omega)).mp z)), e1, eo r k 4 h2 (by omega) (by omega)]; exact Nat.le_refl _
  have pt3 : ptN A r b ≤ ptN B r b := by
    have h1 := (ptN_b hJ (r := r) (by omega) hb).2
    have h2 : ptN B r b = A 1 + 1 + 1 := by unfold ptN; rw [if_neg ebn, e1, eb]
    omega
  have pf1 : ∀ k w, k < 9 → ∀ n, n ≤ r → pfN B k w n = pfN A k w n := by
    intro k w h2 n
    induction n with
    | zero => intro _; rfl
    | succ n ih =>
      intro hnr
      show pfN B k w n + (if cnP B n k ∧ plN B n k = w then 1 else 0) = pfN A k w n + (if cnP A n k ∧ plN A n k = w then 1 else 0)
      rw [ih (by omega), pl1 n k (by omega) h2 (by omega)]
      by_cases q : cnP A n k ∧ plN A n k = w
      · rw [if_pos q, if_pos ⟨(ecn n k h2 (by omega)).mpr q.1, q.2⟩]
      · rw [if_neg q, if_neg (fun z => q ⟨(ecn n k h2 (by omega)).mp z.1, z.2⟩)]
  have pfA : ∀ k w, pfN A k w (ncl A) = pfN A k w r + if cnP A r k ∧ plN A r k = w then 1 else 0 := fun k w => by rw [← hr]; rfl
  have pfB : ∀ k w, k < 9 → pfN B k w (ncl A) = pfN A k w r + if cnP B r k ∧ plN B r k = w then 1 else 0 := fun k w h2 => by
    rw [← hr]
    show pfN B k w r + _ = _
    rw [pf1 k w h2 r (Nat.le_refl _)]
  refine rk_mono (A 1) (fun k hk1 hkb => ?_)
  by_cases kb : k = b
  · rw [kb, ah_self] at hkb; cases hkb
  have TA : ∀ x, x < A 1 → nT (arr A) (A 1) (ncl A) x = toN A x := fun x hx => nT_to QA hc hk hx
  have TB : ∀ x, x < A 1 → nT (arr B) (A 1) (ncl A) x = toN B x := fun x hx => by
    have := nT_to QB hc (by omega) (k := x) (by omega)
    rw [e1, en] at this; exact this
  have PA : ∀ x w, x < A 1 → w < 100 → nP (arr A) (A 1) (ncl A) x w = pfN A x w (ncl A) := fun x w hx hw => nP_pf QA hc hk hx hw
  have PB : ∀ x w, x < A 1 → w < 100 → nP (arr B) (A 1) (ncl A) x w = pfN B x w (ncl A) := fun x w hx hw => by
    have := nP_pf QB hc (by omega) (k := x) (w := w) (by omega) hw
    rw [e1, en] at this; exact this
  have LA : ∀ x, x < A 1 → nL (arr A) (A 1) (ncl A) x = ptN A r x := fun x hx => nL_pt QA hc hk hx hr
  have LB : ∀ x, x < A 1 → nL (arr B) (A 1) (ncl A) x = ptN B r x := fun x hx => by
    have := nL_pt QB hc (by omega) (k := x) (r := r) (by omega) (by omega)
    rw [e1, en] at this; exact this
  refine ah_mono (T := nT (arr A) (A 1) (ncl A)) (P := nP (arr A) (A 1) (ncl A)) (L := nL (arr A) (A 1) (ncl A)) ?_ ?_ ?_ ?_ ?_ ?_ hkb
  · rw [TA k hk1, TB k hk1]
    refine to_mono QA QB hc hk (by omega) e1 e6 en hk1 (fun i hi => ?_)
    by_cases q : i = r
    · rw [q]; exact pt2 k (by omega) kb
    · rw [pt1 i k (by omega) (by omega) q]; exact Nat.le_refl _
  · rw [TA b hb, TB b hb]
    refine to_mono QB QA hc (by omega) hk e1.symm e6.symm en.symm (by omega) (fun i hi => ?_)
    by_cases q : i = r
    · rw [q]; exact pt3
    · rw [pt1 i b (by omega) (by omega) q]; exact Nat.le_refl _
  · rw [LA k hk1, LB k hk1]; exact pt2 k (by omega) kb
  · rw [LA b hb, LB b hb]; exact pt3
  · refine lge_cg (y' := fun w => pfN B k w (ncl A)) (y := fun w => pfN A k w (ncl A)) 9 1 (fun w h1 h2 => ⟨PB k w hk1 (by omega), PA k w hk1 (by omega)⟩) ?_
    have p2 := pl2 k (by omega)
    have p3 := plN_b hJ (r := r) hk1
    by_cases q : cnP A r k
    · have qB := (ecn r k (by omega) (by omega)).mpr q
      by_cases w : plN B r k = plN A r k
      · refine lge_eq 9 1 (fun u _ => ?_)
        show pfN B k u (ncl A) = pfN A k u (ncl A)
        rw [pfA, pfB k u (by omega), w]
        by_cases q5 : plN A r k = u
        · rw [if_pos ⟨qB, q5⟩, if_pos ⟨q, q5⟩]
        · rw [if_neg (fun z => q5 z.2), if_neg (fun z => q5 z.2)]
      · have w2 : plN B r k + 1 = plN A r k := by omega
        have w3 : 1 ≤ plN B r k := Nat.succ_le_succ (Nat.zero_le _)
        refine lge_at (q := plN B r k) ?_ 9 1 w3 (by omega) (fun u h1 h2 => ?_)
        · show pfN A k (plN B r k) (ncl A) < pfN B k (plN B r k) (ncl A)
          rw [pfA, pfB k _ (by omega), if_neg (fun z => by have := z.2; omega), if_pos ⟨qB, rfl⟩]; omega
        · show pfN B k u (ncl A) = pfN A k u (ncl A)
          rw [pfA, pfB k u (by omega), if_neg (fun z => by have := z.2; omega), if_neg (fun z => by have := z.2; omega)]
    · exact lge_eq 9 1 (fun u _ => by show pfN B k u (ncl A) = pfN A k u (ncl A); rw [pfA, pfB k u (by omega), if_neg (fun z => q ((ecn r k (by omega) (by omega)).mp z.1)), if_neg (fun z => q z.1)])
  · refine lge_cg (y' := fun w => pfN A b w (ncl A)) (y := fun w => pfN B b w (ncl A)) 9 1 (fun w h1 h2 => ⟨PA b w hb (by omega), PB b w hb (by omega)⟩) ?_
    have p3 := plN_b hJ (r := r) hb
    by_cases q : cnP A r b
    · refine lge_at (q := plN A r b) ?_ 9 1 (by omega) (by omega) (fun u h1 h2 => ?_)
      · show pfN B b (plN A r b) (ncl A) < pfN A b (plN A r b) (ncl A)
        rw [pfA, pfB b _ (by omega), if_neg (fun z => ebn z.1), if_pos ⟨q, rfl⟩]; omega
      · show pfN A b u (ncl A) = pfN B b u (ncl A)
        rw [pfA, pfB b u (by omega), if_neg (fun z => by have := z.2; omega), if_neg (fun z => ebn z.1)]
    · exact lge_eq 9 1 (fun u _ => by show pfN A b u (ncl A) = pfN B b u (ncl A); rw [pfA, pfB b u (by omega), if_neg (fun z => q z.1), if_neg (fun z => ebn z.1)])
