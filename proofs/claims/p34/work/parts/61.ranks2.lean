theorem sub_pos {u v : Nat} (hu : u < 2 ^ 30) (hv : v < 2 ^ 30) : 0 < nI u - nI v ↔ v < u := by
  rw [Int32.lt_iff_toInt_lt, pk_sub_toInt hu hv]
  show (0 : Int) < _ ↔ _
  omega
theorem sub_z {u v : Nat} (hu : u < 2 ^ 30) (hv : v < 2 ^ 30) : nI u - nI v = 0 ↔ u = v := by
  constructor
  · intro h
    have := congrArg Int32.toInt h
    rw [pk_sub_toInt hu hv] at this
    have e0 : (0 : Int32).toInt = 0 := rfl
    omega
  · intro h; rw [h]; exact Int32.sub_self _
section Rank2
variable {c : Nat} {g : Nat → Int32} {t : Nat → Nat → Int32} {a : Nat → Int32} {nb nr np ck nc : Nat}
abbrev zL (a : Nat → Int32) (nb nc x y : Nat) : Bool := if nL a nb nc x = nL a nb nc y then decide (x < y) else decide (nL a nb nc x < nL a nb nc y)
theorem by_eq (hV : IV c a nb nr np ck) {x y : Nat} (hn : nc ≤ 6) (hx : x < nb) (hy : y < nb) : ∀ i, i ≤ 9 → ∃ u v, u ≤ 66 ∧ v ≤ 66 ∧ m_by a x y nb nc i = nI u - nI v ∧ (u = v → AH a nb nc x y = lexP (nP a nb nc x) (nP a nb nc y) (zL a nb nc x y) (9 - i) (i + 1)) ∧ (u ≠ v → AH a nb nc x y = decide (v < u)) := by
  have ⟨x1, x2⟩ := nT_ok hV hx hn
  have ⟨y1, y2⟩ := nT_ok hV hy hn
  intro i
  induction i with
  | zero =>
    intro _
    refine ⟨nT a nb nc y, nT a nb nc x, y2, x2, by rw [m_by, x1, y1], fun h => ?_, fun h => ?_⟩
    · unfold AH ah; rw [if_pos h.symm]
    · unfold AH ah; rw [if_neg (fun z => h z.symm)]
  | succ i ih =>
    intro hi
    obtain ⟨u, v, hu, hv, e, e1, e2⟩ := ih (by omega)
    by_cases q : u = v
    · have z0 : m_by a x y nb nc i = 0 := by rw [e]; exact (sub_z (by omega) (by omega)).mpr q
      have ⟨p1, p2⟩ := nP_ok (a := a) (nb := nb) (b := x) (w := i + 1) hn
      have ⟨q1, q2⟩ := nP_ok (a := a) (nb := nb) (b := y) (w := i + 1) hn
      have k := e1 q
      rw [show 9 - i = (9 - (i + 1)) + 1 by omega, lexP] at k
      refine ⟨nP a nb nc x (i + 1), nP a nb nc y (i + 1), by omega, by omega, by rw [m_by, if_pos z0, p1, q1], fun h => ?_, fun h => ?_⟩
      · rw [k, if_pos h]
      · rw [k, if_neg h]
    · have z0 : ¬ m_by a x y nb nc i = 0 := by rw [e]; exact fun z => q ((sub_z (by omega) (by omega)).mp z)
      exact ⟨u, v, hu, hv, by rw [m_by, if_neg z0, e], fun h => absurd h q, e2⟩
theorem mahead_eq (hV : IV c a nb nr np ck) {x y : Nat} (hn : nc ≤ 6) (hx : x < nb) (hy : y < nb) : m_ahead a x y nb nc = bI (AH a nb nc x y) := by
  have h2 := hV.2.1
  obtain ⟨u, v, hu, hv, e, e1, e2⟩ := by_eq hV hn hx hy 9 (Nat.le_refl _)
  have ⟨lx1, lx2⟩ := nL_ok hV (nc := nc) hx
  have ⟨ly1, ly2⟩ := nL_ok hV (nc := nc) hy
  have fin : ∀ w1 w2, w1 ≤ 66 → w2 ≤ 66 → m_ahd x y (nI w1 - nI w2) = bI (if w1 = w2 then decide (x < y) else decide (w2 < w1)) := fun w1 w2 q1 q2 => by
    unfold m_ahd
    by_cases w : w2 < w1
    · rw [if_pos ((sub_pos (by omega) (by omega)).mpr w), if_neg (show ¬ w1 = w2 by omega)]; simp [bI, w]
    · rw [if_neg (fun z => w ((sub_pos (by omega) (by omega)).mp z))]
      by_cases q : w1 = w2
      · rw [if_pos ((sub_z (by omega) (by omega)).mpr q), if_pos q]
        by_cases o : y ≤ x
        · rw [if_pos (nI_le o (by omega))]; simp [bI, show ¬ x < y by omega]
        · rw [if_neg (nI_ge (by omega) (by omega))]; simp [bI, show x < y by omega]
      · rw [if_neg (fun z => q ((sub_z (by omega) (by omega)).mp z)), if_neg q]; simp [bI, w]
  unfold m_ahead m_last
  rw [e]
  by_cases q : u = v
  · rw [if_pos ((sub_z (by omega) (by omega)).mpr q)]
    have k : AH a nb nc x y = zL a nb nc x y := (e1 q).trans rfl
    rw [k]
    unfold m_lst at lx1 ly1
    by_cases hc0 : nc = 0
    · rw [if_neg (by omega), fin u v hu hv, if_pos q]
      rw [if_pos hc0] at lx1 ly1
      have : nL a nb nc x = nL a nb nc y := (nI_eq (by omega) (by omega)).mp (lx1.symm.trans ly1)
      unfold zL
      rw [if_pos this]
    · rw [if_neg hc0] at lx1 ly1
      rw [if_pos (by omega), lx1, ly1, fin _ _ (by omega) (by omega)]
      unfold zL
      by_cases w : nL a nb nc x = nL a nb nc y
      · rw [if_pos w, if_pos w.symm]
      · rw [if_neg w, if_neg (fun z => w z.symm)]
  · rw [if_neg (fun z => q ((sub_z (by omega) (by omega)).mp z)), fin u v hu hv, if_neg q, e2 q]
theorem ah_self {x : Nat} : AH a nb nc x x = false := by
  have : ∀ f i, lexP (nP a nb nc x) (nP a nb nc x) false f i = false := by
    intro f
    induction f with
    | zero => intro i; rfl
    | succ f ih => intro i; rw [lexP, if_pos rfl]; exact ih _
  unfold AH ah
  rw [if_pos rfl, if_pos rfl]
  simp [this]
theorem mrk_eq (hV : IV c a nb nr np ck) {x : Nat} (hn : nc ≤ 6) (hx : x < nb) : ∀ n, n ≤ nb → m_rk a x nb nc n = nI (rk (AH a nb nc) x n) := by
  have h2 := hV.2.1
  intro n
  induction n with
  | zero => intro _; rfl
  | succ n ih =>
    intro h
    rw [m_rk, rk, ih (by omega)]
    by_cases q : n = x
    · subst q
      rw [if_pos rfl, ah_self, add0]; rfl
    · rw [if_neg (fun z => q ((nI_eq (by omega) (by omega)).mp z)), mahead_eq hV hn (show n < nb by omega) hx]
      cases AH a nb nc n x with
      | false => rw [if_pos (show bI false = 0 from rfl), add0]; rfl
      | true => rw [if_neg (show ¬ bI true = 0 by decide), nI_add]; rfl
theorem K_ex (hV : IV c a nb nr np ck) (hn : nc ≤ 6) : ∃ K : Nat → Nat, (∀ i z, i < nb → z < nb → AH a nb nc i z = decide (K i < K z)) ∧ ∀ x y, x < nb → y < nb → x ≠ y → K x ≠ K y := by
  have h2 := hV.2.1
  have hP : ∀ x y j, j < 10 → nP a nb nc x j ≤ 9 ∧ nP a nb nc y j ≤ 9 := fun x y j _ => by
    have b1 := (nP_ok (a := a) (nb := nb) (b := x) (w := j) hn).2
    have b2 := (nP_ok (a := a) (nb := nb) (b := y) (w := j) hn).2
    omega
  exact ⟨encK (nT a nb nc) (nP a nb nc) (nL a nb nc), fun i z hi hz => ah_enc (by omega) (by omega) (nL_ok hV (nc := nc) hi).2 (nL_ok hV (nc := nc) hz).2 (hP i z), fun x y hx hy hne => enc_inj (by omega) (by omega) (nL_ok hV (nc := nc) hx).2 (nL_ok hV (nc := nc) hy).2 (hP x y) hne⟩
theorem rk_cong {A B : Nat → Nat → Bool} {nb z : Nat} (h : ∀ i, i < nb → A i z = B i z) : ∀ n, n ≤ nb → rk A z n = rk B z n := by
  intro n
  induction n with
  | zero => intro _; rfl
  | succ n ih => intro hn1; rw [rk, rk, h n (by omega), ih (by omega)]
theorem rk_ne (hV : IV c a nb nr np ck) (hn : nc ≤ 6) {x y : Nat} (hx : x < nb) (hy : y < nb) (hne : x ≠ y) : rk (AH a nb nc) x nb ≠ rk (AH a nb nc) y nb := by
  obtain ⟨K, hA, hK⟩ := K_ex hV hn
  have hlt : ∀ x y, x < nb → y < nb → K x < K y → rk (AH a nb nc) x nb < rk (AH a nb nc) y nb := fun x y hx hy h => by
    rw [rk_cong (B := fun i z => decide (K i < K z)) (fun i hi => hA i x hi hx) nb (Nat.le_refl _), rk_cong (B := fun i z => decide (K i < K z)) (fun i hi => hA i y hi hy) nb (Nat.le_refl _)]
    exact (rk_le h nb (fun i z _ => rfl)).2 hx
  rcases Nat.lt_trichotomy (K x) (K y) with w | w | w
  · exact Nat.ne_of_lt (hlt x y hx hy w)
  · exact absurd w (hK x y hx hy hne)
  · exact fun z => Nat.ne_of_lt (hlt y x hy hx w) z.symm
theorem rk_b (A : Nat → Nat → Bool) (x : Nat) : ∀ n, rk A x n ≤ n + 1 := by
  intro n
  induction n with
  | zero => exact Nat.le_refl _
  | succ n ih => rw [rk]; split <;> omega
end Rank2
