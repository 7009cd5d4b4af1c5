def lexP (px py : Nat → Nat) (z : Bool) : Nat → Nat → Bool
  | 0, _ => z
  | f + 1, i => if px i = py i then lexP px py z f (i + 1) else decide (py i < px i)
def ah (T : Nat → Nat) (P : Nat → Nat → Nat) (L : Nat → Nat) (x y : Nat) : Bool := if T x = T y then lexP (P x) (P y) (if L x = L y then decide (x < y) else decide (L x < L y)) 9 1 else decide (T x < T y)
def rk (A : Nat → Nat → Bool) (x : Nat) : Nat → Nat
  | 0 => 1
  | i + 1 => if A i x then rk A x i + 1 else rk A x i
def encP (px : Nat → Nat) (z : Nat) : Nat → Nat → Nat
  | 0, _ => z
  | f + 1, i => (9 - px i) * 1000 ^ (f + 1) + encP px z f (i + 1)
theorem enc_lt {px : Nat → Nat} {z : Nat} (hz : z < 1000) : ∀ f i, encP px z f i < 1000 ^ (f + 1) := by
  intro f
  induction f with
  | zero => intro i; simpa [encP] using hz
  | succ f ih =>
    intro i
    have := ih (i + 1)
    rw [encP, Nat.pow_succ 1000 (f + 1)]
    have h9 : (9 - px i) * 1000 ^ (f + 1) ≤ 9 * 1000 ^ (f + 1) := Nat.mul_le_mul_right _ (by omega)
    omega
theorem lex_enc {px py : Nat → Nat} {zx zy : Nat} (hx : zx < 1000) (hy : zy < 1000) : ∀ f i, (∀ j, i ≤ j → j < i + f → px j ≤ 9 ∧ py j ≤ 9) → lexP px py (decide (zx < zy)) f i = decide (encP px zx f i < encP py zy f i) := by
  intro f
  induction f with
  | zero => intro i _; rfl
  | succ f ih =>
    intro i hp
    have h1 := ih (i + 1) (fun j q1 q2 => hp j (by omega) (by omega))
    have ⟨p1, p2⟩ := hp i (Nat.le_refl _) (by omega)
    have b1 := enc_lt (px := px) hx f (i + 1)
    have b2 := enc_lt (px := py) hy f (i + 1)
    rw [lexP, encP, encP]
    by_cases q : px i = py i
    · rw [if_pos q, h1, q]
      apply decide_eq_decide.mpr
      omega
    · rw [if_neg q]
      apply decide_eq_decide.mpr
      by_cases w : py i < px i
      · have : (9 - px i) * 1000 ^ (f + 1) + 1000 ^ (f + 1) ≤ (9 - py i) * 1000 ^ (f + 1) := by
          rw [← Nat.succ_mul]; exact Nat.mul_le_mul_right _ (by omega)
        exact ⟨fun _ => by omega, fun _ => w⟩
      · have : (9 - py i) * 1000 ^ (f + 1) + 1000 ^ (f + 1) ≤ (9 - px i) * 1000 ^ (f + 1) := by
          rw [← Nat.succ_mul]; exact Nat.mul_le_mul_right _ (by omega)
        exact ⟨fun z => absurd z w, fun z => by omega⟩
/-- one number that says it all -/
def encK (T : Nat → Nat) (P : Nat → Nat → Nat) (L : Nat → Nat) (x : Nat) : Nat := T x * 1000 ^ 10 + encP (P x) (L x * 10 + x) 9 1
theorem ah_enc {T : Nat → Nat} {P : Nat → Nat → Nat} {L : Nat → Nat} {x y : Nat} (hx : x < 9) (hy : y < 9) (hLx : L x ≤ 11) (hLy : L y ≤ 11) (hP : ∀ j, j < 10 → P x j ≤ 9 ∧ P y j ≤ 9) : ah T P L x y = decide (encK T P L x < encK T P L y) := by
  have e : (if L x = L y then decide (x < y) else decide (L x < L y)) = decide (L x * 10 + x < L y * 10 + y) := by
    by_cases q : L x = L y
    · rw [if_pos q]; apply decide_eq_decide.mpr; omega
    · rw [if_neg q]; apply decide_eq_decide.mpr; omega
  have b1 := enc_lt (px := P x) (z := L x * 10 + x) (by omega) 9 1
  have b2 := enc_lt (px := P y) (z := L y * 10 + y) (by omega) 9 1
  unfold ah encK
  rw [e, lex_enc (by omega) (by omega) 9 1 (fun j q1 q2 => hP j (by omega))]
  generalize encP (P x) (L x * 10 + x) 9 1 = u at *
  generalize encP (P y) (L y * 10 + y) 9 1 = v at *
  rw [show (9 + 1 : Nat) = 10 from rfl] at b1 b2
  generalize (1000 : Nat) ^ 10 = B at *
  by_cases q : T x = T y
  · rw [if_pos q, q]; apply decide_eq_decide.mpr; omega
  · rw [if_neg q]
    apply decide_eq_decide.mpr
    by_cases w : T x < T y
    · have : T x * B + B ≤ T y * B := by rw [← Nat.succ_mul]; exact Nat.mul_le_mul_right _ w
      exact ⟨fun _ => by omega, fun _ => w⟩
    · have : T y * B + B ≤ T x * B := by rw [← Nat.succ_mul]; exact Nat.mul_le_mul_right _ (by omega)
      exact ⟨fun z => absurd z w, fun z => by omega⟩
theorem enc_inj {T : Nat → Nat} {P : Nat → Nat → Nat} {L : Nat → Nat} {x y : Nat} (hx : x < 9) (hy : y < 9) (hLx : L x ≤ 11) (hLy : L y ≤ 11) (hP : ∀ j, j < 10 → P x j ≤ 9 ∧ P y j ≤ 9) (hne : x ≠ y) : encK T P L x ≠ encK T P L y := by
  have key : ∀ f i, (∀ j, i ≤ j → j < i + f → P x j ≤ 9 ∧ P y j ≤ 9) → encP (P x) (L x * 10 + x) f i ≠ encP (P y) (L y * 10 + y) f i := by
    intro f
    induction f with
    | zero => intro i _ h; simp only [encP] at h; omega
    | succ f ih =>
      intro i hp h
      have b1 := enc_lt (px := P x) (z := L x * 10 + x) (by omega) f (i + 1)
      have b2 := enc_lt (px := P y) (z := L y * 10 + y) (by omega) f (i + 1)
      have h1 := ih (i + 1) (fun j q1 q2 => hp j (by omega) (by omega))
      rw [encP, encP] at h
      rcases Nat.lt_trichotomy (9 - P x i) (9 - P y i) with w | w | w
      · have : (9 - P x i) * 1000 ^ (f + 1) + 1000 ^ (f + 1) ≤ (9 - P y i) * 1000 ^ (f + 1) := by
          rw [← Nat.succ_mul]; exact Nat.mul_le_mul_right _ w
        omega
      · rw [w] at h; exact h1 (by omega)
      · have : (9 - P y i) * 1000 ^ (f + 1) + 1000 ^ (f + 1) ≤ (9 - P x i) * 1000 ^ (f + 1) := by
          rw [← Nat.succ_mul]; exact Nat.mul_le_mul_right _ w
        omega
  have b1 := enc_lt (px := P x) (z := L x * 10 + x) (by omega) 9 1
  have b2 := enc_lt (px := P y) (z := L y * 10 + y) (by omega) 9 1
  have k := key 9 1 (fun j q1 q2 => hP j (by omega))
  intro h
  unfold encK at h
  generalize encP (P x) (L x * 10 + x) 9 1 = u at *
  generalize encP (P y) (L y * 10 + y) 9 1 = v at *
  rw [show (9 + 1 : Nat) = 10 from rfl] at b1 b2
  generalize (1000 : Nat) ^ 10 = B at *
  rcases Nat.lt_trichotomy (T x) (T y) with w | w | w
  · have : T x * B + B ≤ T y * B := by rw [← Nat.succ_mul]; exact Nat.mul_le_mul_right _ w
    omega
  · rw [w] at h; omega
  · have : T y * B + B ≤ T x * B := by rw [← Nat.succ_mul]; exact Nat.mul_le_mul_right _ w
    omega
/-- ranks by one number are each once -/
theorem rk_le {A : Nat → Nat → Bool} {K : Nat → Nat} {x y : Nat} (hxy : K x < K y) : ∀ n, (∀ i z, i < n → A i z = decide (K i < K z)) → rk A x n ≤ rk A y n ∧ (x < n → rk A x n < rk A y n) := by
  intro n
  induction n with
  | zero => intro _; exact ⟨Nat.le_refl _, fun h => absurd h (by omega)⟩
  | succ n ih =>
    intro h
    obtain ⟨i1, i2⟩ := ih (fun i z hi => h i z (by omega))
    rw [rk, rk, h n x (by omega), h n y (by omega)]
    by_cases q : x = n
    · subst q
      rw [if_neg (by simp), if_pos (by simpa using hxy)]
      exact ⟨by omega, fun _ => by omega⟩
    · by_cases w1 : K n < K x
      · rw [if_pos (by simpa using w1), if_pos (by simp; omega)]
        exact ⟨by omega, fun z => by have := i2 (by omega); omega⟩
      · rw [if_neg (by simpa using w1)]
        split
        · exact ⟨by omega, fun z => by have := i2 (by omega); omega⟩
        · exact ⟨i1, fun z => i2 (by omega)⟩
section Rank
variable {c : Nat} {g : Nat → Int32} {t : Nat → Nat → Int32} {a : Nat → Int32} {nb nr np ck nc : Nat}
theorem sum_nat (hV : IV c a nb nr np ck) {b : Nat} (hb : b < nb) : ∀ n, ∃ s, m_sum a b nb n = nI s ∧ s ≤ 11 * n ∧ ∀ j, j < n → ∃ p, m_pts a j b nb = nI p ∧ p ≤ s := by
  intro n
  induction n with
  | zero => exact ⟨0, rfl, by omega, fun j hj => absurd hj (by omega)⟩
  | succ n ih =>
    obtain ⟨s, s1, s2, s3⟩ := ih
    obtain ⟨p, p1, p2, p3⟩ := pts_nat hV (r := n) hb
    refine ⟨s + p, by rw [m_sum, s1, p1, nI_add], by omega, fun j hj => ?_⟩
    by_cases q : j = n
    · exact ⟨p, by rw [q]; exact p1, by omega⟩
    · obtain ⟨p', q1, q2⟩ := s3 j (by omega)
      exact ⟨p', q1, by omega⟩
theorem tot_nat (hV : IV c a nb nr np ck) {b : Nat} (hb : b < nb) (hn : nc ≤ 6) : ∃ s, m_tot a b nb nc = nI s ∧ s ≤ 66 := by
  obtain ⟨s, s1, s2, s3⟩ := sum_nat hV hb nc
  unfold m_tot
  cases h : m_lo a b nb nc with
  | none => exact ⟨s, by show m_sum a b nb nc - 0 = _; rw [Int32.sub_zero, s1], by omega⟩
  | some j =>
    obtain ⟨p, p1, p2⟩ := s3 j (m_lo_lt h)
    exact ⟨s - p, by show m_sum a b nb nc - m_pts a j b nb = _; rw [s1, p1, pk_sub p2], by omega⟩
theorem pof_nat {b w : Nat} : ∀ n, ∃ p, m_pof a b nb w n = nI p ∧ p ≤ n := by
  intro n
  induction n with
  | zero => exact ⟨0, rfl, Nat.le_refl _⟩
  | succ n ih =>
    obtain ⟨p, p1, p2⟩ := ih
    rw [m_pof]
    split
    · exact ⟨p + 1, by rw [p1, nI_add], by omega⟩
    · exact ⟨p, by rw [p1, add0], by omega⟩
theorem lst_nat (hV : IV c a nb nr np ck) {b : Nat} (hb : b < nb) : ∃ p, m_lst a b nb nc = nI p ∧ p ≤ 11 := by
  unfold m_lst
  split
  · exact ⟨0, rfl, by omega⟩
  · obtain ⟨p, p1, p2, p3⟩ := pts_nat hV (r := nc - 1) hb
    exact ⟨p, p1, p3⟩
/-- the reference's numbers -/
def nT (a : Nat → Int32) (nb nc b : Nat) : Nat := (m_tot a b nb nc).toNatClampNeg
def nP (a : Nat → Int32) (nb nc b w : Nat) : Nat := (m_pof a b nb w nc).toNatClampNeg
def nL (a : Nat → Int32) (nb nc b : Nat) : Nat := (m_lst a b nb nc).toNatClampNeg
abbrev AH (a : Nat → Int32) (nb nc : Nat) : Nat → Nat → Bool := ah (nT a nb nc) (nP a nb nc) (nL a nb nc)
theorem nT_ok (hV : IV c a nb nr np ck) {b : Nat} (hb : b < nb) (hn : nc ≤ 6) : m_tot a b nb nc = nI (nT a nb nc b) ∧ nT a nb nc b ≤ 66 := by
  obtain ⟨s, s1, s2⟩ := tot_nat hV hb hn
  unfold nT
  rw [s1, nI_clamp (by omega)]; exact ⟨rfl, s2⟩
theorem nP_ok {b w : Nat} (hn : nc ≤ 6) : m_pof a b nb w nc = nI (nP a nb nc b w) ∧ nP a nb nc b w ≤ 6 := by
  obtain ⟨s, s1, s2⟩ := pof_nat (a := a) (nb := nb) (b := b) (w := w) nc
  unfold nP
  rw [s1, nI_clamp (by omega)]; exact ⟨rfl, by omega⟩
theorem nL_ok (hV : IV c a nb nr np ck) {b : Nat} (hb : b < nb) : m_lst a b nb nc = nI (nL a nb nc b) ∧ nL a nb nc b ≤ 11 := by
  obtain ⟨s, s1, s2⟩ := lst_nat hV (nc := nc) hb
  unfold nL
  rw [s1, nI_clamp (by omega)]; exact ⟨rfl, s2⟩
/-- the class says so -/
theorem ap_eq {tl : Nat → Int32} {sm : Nat → Int32} {x y : Nat} (hn : nc ≤ 6) (hx : ∀ w, w < 10 → tg 10 90 tl (nI x) (nI w) = m_pof a x nb w nc) (hy : ∀ w, w < 10 → tg 10 90 tl (nI y) (nI w) = m_pof a y nb w nc) {z : Bool} (hz : sc_ah sm tl (nI x) (nI y) = bI z) : ∀ f i, i + f ≤ 10 → sc_ap sm tl (nI x) (nI y) f i = bI (lexP (nP a nb nc x) (nP a nb nc y) z f i) := by
  intro f
  induction f with
  | zero => intro i _; exact hz
  | succ f ih =>
    intro i hi
    rw [sc_ap, lexP, hx i (by omega), hy i (by omega), (nP_ok hn).1, (nP_ok (b := y) hn).1]
    have b1 := (nP_ok (a := a) (nb := nb) (b := x) (w := i) hn).2
    have b2 := (nP_ok (a := a) (nb := nb) (b := y) (w := i) hn).2
    by_cases q : nP a nb nc x i = nP a nb nc y i
    · rw [if_pos (by rw [q]), if_pos q]; exact ih (i + 1) (by omega)
    · rw [if_neg (fun z => q ((nI_eq (by omega) (by omega)).mp z)), if_neg q]
      by_cases w : nP a nb nc x i ≤ nP a nb nc y i
      · rw [if_pos (nI_le w (by omega))]; simp [bI, show ¬ nP a nb nc y i < nP a nb nc x i by omega]
      · rw [if_neg (nI_ge (by omega) (by omega))]; simp [bI, show nP a nb nc y i < nP a nb nc x i by omega]
theorem ahead_eq (hV : IV c a nb nr np ck) {tl sm : Nat → Int32} {x y : Nat} (hn : nc ≤ 6) (hx : x < nb) (hy : y < nb) (hR : ∀ b, b < nb → tg 4 36 sm (nI b) (nI 1) = m_tot a b nb nc ∧ tg 4 36 sm (nI b) (nI 3) = m_lst a b nb nc ∧ ∀ w, w < 10 → tg 10 90 tl (nI b) (nI w) = m_pof a b nb w nc) : sc_ahead sm tl (nI x) (nI y) = bI (AH a nb nc x y) := by
  have h2 := hV.2.1
  have ⟨x1, x2⟩ := nT_ok hV hx hn
  have ⟨y1, y2⟩ := nT_ok hV hy hn
  have ⟨lx1, lx2⟩ := nL_ok hV (nc := nc) hx
  have ⟨ly1, ly2⟩ := nL_ok hV (nc := nc) hy
  have hz : sc_ah sm tl (nI x) (nI y) = bI (if nL a nb nc x = nL a nb nc y then decide (x < y) else decide (nL a nb nc x < nL a nb nc y)) := by
    unfold sc_ah
    rw [(hR x hx).2.1, (hR y hy).2.1, lx1, ly1]
    by_cases q : nL a nb nc x = nL a nb nc y
    · rw [if_pos (by rw [q]), if_pos q]
      by_cases w : y ≤ x
      · rw [if_pos (nI_le w (by omega))]; simp [bI, show ¬ x < y by omega]
      · rw [if_neg (nI_ge (by omega) (by omega))]; simp [bI, show x < y by omega]
    · rw [if_neg (fun z => q ((nI_eq (by omega) (by omega)).mp z)), if_neg q]
      by_cases w : nL a nb nc y ≤ nL a nb nc x
      · rw [if_pos (nI_le w (by omega))]; simp [bI, show ¬ nL a nb nc x < nL a nb nc y by omega]
      · rw [if_neg (nI_ge (by omega) (by omega))]; simp [bI, show nL a nb nc x < nL a nb nc y by omega]
  unfold sc_ahead AH ah
  rw [(hR x hx).1, (hR y hy).1, x1, y1]
  by_cases q : nT a nb nc x = nT a nb nc y
  · rw [if_pos (by rw [q]), if_pos q]
    exact ap_eq hn (hR x hx).2.2 (hR y hy).2.2 hz 9 1 (by omega)
  · rw [if_neg (fun z => q ((nI_eq (by omega) (by omega)).mp z)), if_neg q]
    by_cases w : nT a nb nc y ≤ nT a nb nc x
    · rw [if_pos (nI_le w (by omega))]; simp [bI, show ¬ nT a nb nc x < nT a nb nc y by omega]
    · rw [if_neg (nI_ge (by omega) (by omega))]; simp [bI, show nT a nb nc x < nT a nb nc y by omega]
theorem crank_eq (hV : IV c a nb nr np ck) {tl sm : Nat → Int32} {x : Nat} (hn : nc ≤ 6) (hx : x < nb) (hR : ∀ b, b < nb → tg 4 36 sm (nI b) (nI 1) = m_tot a b nb nc ∧ tg 4 36 sm (nI b) (nI 3) = m_lst a b nb nc ∧ ∀ w, w < 10 → tg 10 90 tl (nI b) (nI w) = m_pof a b nb w nc) : ∀ n, n ≤ nb → sc_rank sm tl (nI x) n = nI (rk (AH a nb nc) x n) := by
  intro n
  induction n with
  | zero => intro _; rfl
  | succ n ih =>
    intro h
    rw [sc_rank, rk, ahead_eq hV hn (show n < nb by omega) hx hR, ih (by omega)]
    cases AH a nb nc n x with
    | false => rw [if_pos (show bI false = 0 from rfl)]; rfl
    | true => rw [if_neg (show ¬ bI true = 0 by decide)]; exact nI_add _ 1
end Rank
