/-! ranks are each once -/
theorem nodup {f : Nat → Nat} : ∀ n, ∀ f : Nat → Nat, (∀ i, i < n + 1 → 1 ≤ f i ∧ f i ≤ n) → ∃ i k, i < k ∧ k < n + 1 ∧ f i = f k := by
  intro n
  induction n with
  | zero => intro f h; have := h 0 (by omega); omega
  | succ n ih =>
    intro f h
    by_cases q : ∃ i, i < n + 1 ∧ f i = f (n + 1)
    · obtain ⟨i, h1, h2⟩ := q
      exact ⟨i, n + 1, h1, by omega, h2⟩
    · have hne : ∀ i, i < n + 1 → f i ≠ f (n + 1) := fun i hi e => q ⟨i, hi, e⟩
      have hv := h (n + 1) (by omega)
      obtain ⟨i, k, h1, h2, h3⟩ := ih (fun i => if f (n + 1) < f i then f i - 1 else f i) (fun i hi => by
        have := h i (by omega)
        have := hne i hi
        show 1 ≤ (if f (n + 1) < f i then f i - 1 else f i) ∧ (if f (n + 1) < f i then f i - 1 else f i) ≤ n
        split <;> omega)
      refine ⟨i, k, h1, by omega, ?_⟩
      have a1 := hne i (by omega)
      have a2 := hne k h2
      have h3' : (if f (n + 1) < f i then f i - 1 else f i) = (if f (n + 1) < f k then f k - 1 else f k) := h3
      by_cases w1 : f (n + 1) < f i <;> by_cases w2 : f (n + 1) < f k
      · rw [if_pos w1, if_pos w2] at h3'; omega
      · rw [if_pos w1, if_neg w2] at h3'; omega
      · rw [if_neg w1, if_pos w2] at h3'; omega
      · rw [if_neg w1, if_neg w2] at h3'; omega
theorem onto {f : Nat → Nat} {n : Nat} (hb : ∀ i, i < n → 1 ≤ f i ∧ f i ≤ n) (hi : ∀ i k, i < n → k < n → i ≠ k → f i ≠ f k) {j : Nat} (h1 : 1 ≤ j) (h2 : j ≤ n) : ∃ i, i < n ∧ f i = j := by
  by_cases q : ∃ i, i < n ∧ f i = j
  · exact q
  · exfalso
    obtain ⟨i, k, a1, a2, a3⟩ := nodup (f := f) n (fun i => if i = n then j else f i) (fun i hi => by
      show 1 ≤ (if i = n then j else f i) ∧ (if i = n then j else f i) ≤ n
      split
      · exact ⟨h1, h2⟩
      · exact hb i (by omega))
    have a3' : (if i = n then j else f i) = (if k = n then j else f k) := a3
    rw [if_neg (by omega)] at a3'
    by_cases w : k = n
    · rw [if_pos w] at a3'; exact q ⟨i, by omega, a3'⟩
    · rw [if_neg w] at a3'; exact hi i k (by omega) (by omega) (by omega) a3'
def orN (A : Nat → Nat) : Nat → Nat
  | 0 => 0
  | i + 1 => orN A i ||| 2 ^ rkN A i
theorem or_bit {A : Nat → Nat} {j : Nat} : ∀ n, (orN A n).testBit j = true ↔ ∃ i, i < n ∧ rkN A i = j := by
  intro n
  induction n with
  | zero => exact ⟨fun h => absurd h (by rw [show orN A 0 = 0 from rfl, Nat.zero_testBit]; decide), fun ⟨i, h, _⟩ => absurd h (Nat.not_lt_zero _)⟩
  | succ n ih =>
    rw [show orN A (n + 1) = orN A n ||| 2 ^ rkN A n from rfl, Nat.testBit_or, Nat.testBit_two_pow, Bool.or_eq_true, ih, decide_eq_true_eq]
    constructor
    · rintro (⟨i, h1, h2⟩ | h)
      · exact ⟨i, by omega, h2⟩
      · exact ⟨n, by omega, h⟩
    · rintro ⟨i, h1, h2⟩
      by_cases q : i = n
      · rw [q] at h2; exact Or.inr h2
      · exact Or.inl ⟨i, by omega, h2⟩
theorem or_b {c : Nat} {A : Nat → Nat} (hJ : HJ c A) : ∀ n, n ≤ A 1 → orN A n < 1024 := by
  intro n
  induction n with
  | zero => intro _; exact Nat.lt_of_lt_of_le (show orN A 0 < 1 from Nat.lt_succ_self 0) (by omega)
  | succ n ih =>
    intro hn
    have h9 := hJ.1.1
    have h := rkN_b hJ (b := n) (by omega)
    exact Nat.or_lt_two_pow (n := 10) (ih (by omega)) (Nat.pow_lt_pow_right (by omega) (by omega))
theorem or_all {c : Nat} {A : Nat → Nat} (hJ : HJ c A) (hc : c ≤ 512) (hk : A 0 ≤ 999999) : orN A (A 1) + 2 = 2 ^ (A 1 + 1) := by
  have e : orN A (A 1) = 2 ^ (A 1 + 1) - (1 + 1) := by
    refine Nat.eq_of_testBit_eq (fun j => ?_)
    rw [Nat.testBit_two_pow_sub_succ (show 1 < 2 ^ (A 1 + 1) from Nat.lt_of_lt_of_le (show 1 < 2 ^ 1 by decide) (Nat.pow_le_pow_right (by omega) (by omega)))]
    have h1 : (1 : Nat).testBit j = decide (0 = j) := by rw [show (1 : Nat) = 2 ^ 0 from rfl, Nat.testBit_two_pow]
    rw [h1]
    have h2 := or_bit (A := A) (j := j) (A 1)
    by_cases q : 1 ≤ j ∧ j ≤ A 1
    · have h3 := onto (f := rkN A) (n := A 1) (fun i hi => rkN_b hJ hi) (fun i k h1 h2 h3 => rkN_ne hJ hc hk h1 h2 h3) q.1 q.2
      rw [h2.mpr h3, decide_eq_true (show j < A 1 + 1 by omega), decide_eq_false (show ¬ 0 = j by omega)]; rfl
    · have h4 : ¬ (orN A (A 1)).testBit j = true := fun z => by
        obtain ⟨i, k1, k2⟩ := h2.mp z
        have := rkN_b hJ k1
        omega
      have h5 : (orN A (A 1)).testBit j = false := by
        revert h4
        cases (orN A (A 1)).testBit j <;> simp
      rw [h5]
      by_cases w : j = 0
      · rw [decide_eq_true (show 0 = j by omega)]; simp
      · rw [decide_eq_false (show ¬ j < A 1 + 1 by omega)]; rfl
  have h5 : 2 ≤ 2 ^ (A 1 + 1) := Nat.le_trans (show 2 ≤ 2 ^ 1 by decide) (Nat.pow_le_pow_right (by omega) (by omega))
  omega
theorem shl1 {k : Nat} (h : k < 31) : nI 1 <<< (nI k &&& 31) = nI (2 ^ k) := (show ∀ k : Fin 31, nI 1 <<< (nI k.val &&& 31) = nI (2 ^ k.val) by decide +kernel) ⟨k, h⟩
theorem or_nI (a b : Nat) : nI a ||| nI b = nI (a ||| b) := by
  apply Int32.toBitVec_inj.mp
  rw [Int32.toBitVec_or]
  show BitVec.ofNat 32 a ||| BitVec.ofNat 32 b = BitVec.ofNat 32 (a ||| b)
  rw [BitVec.ofNat_or]
def mxN (A : Nat → Nat) (b : Nat) : Nat → Nat
  | 0 => 0
  | i + 1 => if ptN A i b ≤ mxN A b i then mxN A b i else ptN A i b
theorem mx_y {A : Nat → Nat} {b i : Nat} (h : ptN A i b ≤ mxN A b i) : mxN A b i = mxN A b (i + 1) := by
  show _ = if ptN A i b ≤ mxN A b i then mxN A b i else ptN A i b
  rw [if_pos h]
theorem mx_n {A : Nat → Nat} {b i : Nat} (h : ¬ ptN A i b ≤ mxN A b i) : ptN A i b = mxN A b (i + 1) := by
  show _ = if ptN A i b ≤ mxN A b i then mxN A b i else ptN A i b
  rw [if_neg h]
theorem mx_le {A : Nat → Nat} {b : Nat} : ∀ n, (∀ i, i < n → ptN A i b ≤ mxN A b n) ∧ mxN A b n ≤ smN A b n ∧ (mxN A b n = 0 ∨ ∃ i, i < n ∧ mxN A b n = ptN A i b) := by
  intro n
  induction n with
  | zero => exact ⟨fun i h => absurd h (Nat.not_lt_zero _), Nat.le_refl _, Or.inl rfl⟩
  | succ n ih =>
    obtain ⟨h1, h2, h3⟩ := ih
    have hs : smN A b (n + 1) = smN A b n + ptN A n b := rfl
    by_cases q : ptN A n b ≤ mxN A b n
    · rw [← mx_y q]
      refine ⟨fun i hi => ?_, by omega, ?_⟩
      · by_cases w : i = n
        · rw [w]; exact q
        · exact h1 i (by omega)
      · rcases h3 with h | ⟨i, h, e⟩
        · exact Or.inl h
        · exact Or.inr ⟨i, by omega, e⟩
    · rw [← mx_n q]
      refine ⟨fun i hi => ?_, by omega, Or.inr ⟨n, by omega, rfl⟩⟩
      by_cases w : i = n
      · rw [w]; exact Nat.le_refl _
      · have := h1 i (by omega); omega
theorem pf_y {A : Nat → Nat} {b w i : Nat} (h : cnP A i b ∧ plN A i b = w) : pfN A b w i + 1 = pfN A b w (i + 1) := by
  show _ = pfN A b w i + _
  rw [if_pos h]
theorem pf_z {A : Nat → Nat} {b w i : Nat} (h : ¬ (cnP A i b ∧ plN A i b = w)) : pfN A b w i + 0 = pfN A b w (i + 1) := by
  show _ = pfN A b w i + _
  rw [if_neg h]
theorem mn_ff : ∀ a : Fin 100, ∀ c : Fin 7, c.val = 0 ∨ Op.cmpValue (FP.fcmp (mnF a.val c.val) (mnF a.val c.val)) .l = 0 := by decide +kernel
theorem mn_fc {a c : Nat} (ha : a < 100) (hc : 0 < c) (hc6 : c ≤ 6) : Op.cmpValue (FP.fcmp (mnF a c) (mnF a c)) .l = nI 0 := by
  rcases mn_ff ⟨a, ha⟩ ⟨c, by omega⟩ with h | h
  · exact absurd h (by show ¬ c = 0; omega)
  · exact h
theorem mn_fz : Op.cmpValue (FP.fcmp FP.fconst0 FP.fconst0) .l = nI 0 := by decide +kernel
theorem x_callVf {p : Program} {l : Launch} {e : Env} {R : Room} {s : State} {m : MethodId} {args : Array Value} {below : List Frame} {meth : Method} {c : Code} {H : Heap} {locs : List Loc} {cells slots : Nat} {Q : State → Prop} {cc : ByteArray} {nL pc : Nat} {own : String} {ls : Array Slot} {rest : List Value} {D : va_G} {cI cB cS : ClassId} {ad : Nat → Nat} {N : Nat} {F : Nat → va_E} {A : Nat → Prop} (X : CallFix p m c cc nL s args lw_g own) (hK : KW D cI cB cS A s) (hw : HW D A ad N F s H locs) {y : MethodName} {b : ByteArray} {n : Nat} {ret : Option FieldType} {fr lo k : Nat} {As : List Value} {post : UInt32 → (Nat → va_E) → Prop} (hC : Cf l D cI cB cS ad N y b n ret fr lo (.ref (ad k) :: As) F post) {C : String} {index na : Nat} (cw : CallW R s args own C index y b n ret (Cond.code y b n ret :: lw_g) { frames := fr, cells := 0, slots := 0, locals := lo } 0 0 na) (hk : k < N) {ci : Nat} {fs : List Value} (he : F k = .inr (ci, fs)) {T : u_T} {nf : Nat} (hc : vwCl[ci]? = some (C, T, nf)) (hn : As.length = na) (hl : ls.size = nL) {st : List Value} (hst : st = As.reverse ++ .ref (ad k) :: rest) (hr : (rest.map fun v => v.category).sum ≤ 8) (hdg : decode cc pc = .ok (.invokevirtual index, 3)) (hf : cells ≤ R.cells ∧ slots ≤ R.slots)
    (kk : ∀ (r : UInt32) (F' : Nat → va_E) (H' : Heap) (locs' : List Loc), post r F' → HW D A ad N F' s H' locs' → W p l e R s m args below meth c H' locs' cells slots Q (F0 m (pc + 3) ls (.float r :: rest))) : W p l e R s m args below meth c H locs cells slots Q (F0 m pc ls st) :=
  va_callf (va_runV (As := As) (rest := rest) X (hC H.size) cw ⟨PW_blind, va_recv hK.1 hw.1 hc (wl_getE hk he), fun U hU hW => ⟨rfl, by rw [hU], by rw [hU]; exact hw.1, hK.at hw hU hW⟩⟩ rfl hn hl hst (lv_room hr) hdg hf) hw.2.1 (fun q _ h => Af_all hw h) (fun q h => Af_all hw h) (fun r F' t H1 locs1 ht _ hpost hB _ _ hS => kk r F' H1 locs1 hpost ⟨by rw [← ht]; exact hB, hS, hw.2.2⟩)
