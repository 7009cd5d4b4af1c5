/-! the text's fault: the class reads sign by sign, the reference event by event -/
section Txt
variable {tx : Nat → Nat} {n : Nat}
abbrev FF (tx : Nat → Nat) (n i : Nat) (x : Int32) : Int32 := ffl tx n (n - i) i x
theorem FF_lt {i : Nat} {x : Int32} (h : i < n) : FF tx n i x = if s_X3_expectedAfter x (nI (tx i)) = 0 then nI i else FF tx n (i + 1) (s_X3_expectedAfter x (nI (tx i))) := by
  unfold FF
  rw [show n - i = (n - (i + 1)) + 1 by omega, ffl]
theorem FF_end {x : Int32} : FF tx n n x = if s_X3_canEnd x = 0 then nI n else (-5) := by
  unfold FF
  rw [Nat.sub_self, ffl]
theorem dig_iff {u lo hi : Nat} (hu : u < 128) (hl : lo < 128) (hh : hi < 128) : (¬ nI u < nI lo ∧ ¬ nI hi < nI u) ↔ lo ≤ u ∧ u ≤ hi := by
  rw [nI_ltI (by omega) (by omega), nI_ltI (by omega) (by omega)]
  omega
theorem aft_eq {u : Nat} (hu : u < 128) : s_X3_expectedAfterEvent (nI u) = if u = 59 then nI 1 else nI 0 := by
  unfold s_X3_expectedAfterEvent
  by_cases q : u = 59
  · rw [if_pos (by rw [q]), if_pos q]
  · rw [if_neg (fun z => q ((nI_eq (by omega) (by omega)).mp z)), if_neg q]
theorem ex1 {y : Int32} : s_X3_expectedAfter (nI 1) y = s_X3_expectedAfterLetter y := if_pos rfl
theorem ex2 {y : Int32} : s_X3_expectedAfter (nI 2) y = if ¬ y < nI 49 ∧ ¬ nI 57 < y then nI 3 else nI 0 := by
  unfold s_X3_expectedAfter; rw [if_neg (show ¬ nI 2 = 1 by decide), if_pos (show nI 2 = 2 from rfl)]
theorem ex3 {y : Int32} : s_X3_expectedAfter (nI 3) y = if ¬ y < nI 48 ∧ ¬ nI 57 < y then nI 4 else s_X3_expectedAfterEvent y := by
  unfold s_X3_expectedAfter; rw [if_neg (show ¬ nI 3 = 1 by decide), if_neg (show ¬ nI 3 = 2 by decide), if_pos (show nI 3 = 3 from rfl)]
theorem ex4 {y : Int32} : s_X3_expectedAfter (nI 4) y = if ¬ y < nI 48 ∧ ¬ nI 57 < y then nI 5 else s_X3_expectedAfterEvent y := by
  unfold s_X3_expectedAfter; rw [if_neg (show ¬ nI 4 = 1 by decide), if_neg (show ¬ nI 4 = 2 by decide), if_neg (show ¬ nI 4 = 3 by decide), if_pos (show nI 4 = 4 from rfl)]
theorem ex5 {y : Int32} : s_X3_expectedAfter (nI 5) y = s_X3_expectedAfterEvent y := by
  unfold s_X3_expectedAfter; rw [if_neg (show ¬ nI 5 = 1 by decide), if_neg (show ¬ nI 5 = 2 by decide), if_neg (show ¬ nI 5 = 3 by decide), if_neg (show ¬ nI 5 = 4 by decide), if_pos (show nI 5 = 5 from rfl)]
theorem ex6 {y : Int32} : s_X3_expectedAfter (nI 6) y = if ¬ y < nI 48 ∧ ¬ nI 56 < y then nI 5 else nI 0 := by
  unfold s_X3_expectedAfter; rw [if_neg (show ¬ nI 6 = 1 by decide), if_neg (show ¬ nI 6 = 2 by decide), if_neg (show ¬ nI 6 = 3 by decide), if_neg (show ¬ nI 6 = 4 by decide), if_neg (show ¬ nI 6 = 5 by decide), if_pos (show nI 6 = 6 from rfl)]
theorem ex7 {y : Int32} : s_X3_expectedAfter (nI 7) y = if ¬ y < nI 48 ∧ ¬ nI 56 < y then nI 6 else nI 0 := by
  unfold s_X3_expectedAfter; rw [if_neg (show ¬ nI 7 = 1 by decide), if_neg (show ¬ nI 7 = 2 by decide), if_neg (show ¬ nI 7 = 3 by decide), if_neg (show ¬ nI 7 = 4 by decide), if_neg (show ¬ nI 7 = 5 by decide), if_neg (show ¬ nI 7 = 6 by decide), if_pos (show nI 7 = 7 from rfl)]
theorem ex8 {y : Int32} : s_X3_expectedAfter (nI 8) y = if ¬ y < nI 48 ∧ ¬ nI 56 < y then nI 9 else nI 0 := by
  unfold s_X3_expectedAfter; rw [if_neg (show ¬ nI 8 = 1 by decide), if_neg (show ¬ nI 8 = 2 by decide), if_neg (show ¬ nI 8 = 3 by decide), if_neg (show ¬ nI 8 = 4 by decide), if_neg (show ¬ nI 8 = 5 by decide), if_neg (show ¬ nI 8 = 6 by decide), if_neg (show ¬ nI 8 = 7 by decide), if_pos (show nI 8 = 8 from rfl)]
theorem ex9 {y : Int32} : s_X3_expectedAfter (nI 9) y = if ¬ y < nI 48 ∧ ¬ nI 52 < y then nI 5 else nI 0 := by
  unfold s_X3_expectedAfter; rw [if_neg (show ¬ nI 9 = 1 by decide), if_neg (show ¬ nI 9 = 2 by decide), if_neg (show ¬ nI 9 = 3 by decide), if_neg (show ¬ nI 9 = 4 by decide), if_neg (show ¬ nI 9 = 5 by decide), if_neg (show ¬ nI 9 = 6 by decide), if_neg (show ¬ nI 9 = 7 by decide), if_neg (show ¬ nI 9 = 8 by decide), if_pos (show nI 9 = 9 from rfl)]
/-- a state that wants a digit from lo to hi -/
theorem F_dig (ht : ∀ j, j < n → tx j < 128) {p lo hi : Nat} {e e2 : Int32} (hp : p ≤ n) (hl : lo < 128) (hh : hi < 128) (he : ∀ y, s_X3_expectedAfter e y = if ¬ y < nI lo ∧ ¬ nI hi < y then e2 else nI 0) (h2 : ¬ e2 = 0) (hc : s_X3_canEnd e = 0) : FF tx n p e = if isn tx n p lo hi then FF tx n (p + 1) e2 else nI p := by
  by_cases q : p < n
  · rw [FF_lt q, he]
    by_cases w : lo ≤ tx p ∧ tx p ≤ hi
    · rw [if_pos ((dig_iff (ht p q) hl hh).mpr w), if_neg h2, if_pos ⟨q, w⟩]
    · rw [if_neg (fun z => w ((dig_iff (ht p q) hl hh).mp z)), if_pos (show (nI 0 : Int32) = 0 from rfl), if_neg (fun z => w z.2)]
  · obtain rfl : p = n := by omega
    rw [FF_end, if_pos hc, if_neg (fun z => q z.1)]
theorem F_5 (ht : ∀ j, j < n → tx j < 128) {p : Nat} (hp : p ≤ n) : FF tx n p (nI 5) = if p = n then (-5) else if isn tx n p 59 59 then FF tx n (p + 1) (nI 1) else nI p := by
  by_cases q : p < n
  · rw [FF_lt q, ex5, aft_eq (ht p q), if_neg (show ¬ p = n by omega)]
    by_cases w : tx p = 59
    · rw [if_pos w, if_neg (show ¬ nI 1 = 0 by decide), if_pos ⟨q, by omega, by omega⟩]
    · rw [if_neg w, if_pos (show (nI 0 : Int32) = 0 from rfl), if_neg (fun z => w (by omega))]
  · obtain rfl : p = n := by omega
    rw [FF_end, if_pos rfl, if_neg (show ¬ s_X3_canEnd (nI 5) = 0 by decide)]
theorem F_opt (ht : ∀ j, j < n → tx j < 128) {p : Nat} {e e2 : Int32} (hp : p ≤ n) (he : ∀ y, s_X3_expectedAfter e y = if ¬ y < nI 48 ∧ ¬ nI 57 < y then e2 else s_X3_expectedAfterEvent y) (h2 : ¬ e2 = 0) (hc : ¬ s_X3_canEnd e = 0) : FF tx n p e = if isn tx n p 48 57 then FF tx n (p + 1) e2 else FF tx n p (nI 5) := by
  by_cases q : p < n
  · rw [FF_lt q, he]
    by_cases w : 48 ≤ tx p ∧ tx p ≤ 57
    · rw [if_pos ((dig_iff (ht p q) (by omega) (by omega)).mpr w), if_neg h2, if_pos ⟨q, w⟩]
    · rw [if_neg (fun z => w ((dig_iff (ht p q) (by omega) (by omega)).mp z)), if_neg (show ¬ isn tx n p 48 57 from fun z => w z.2), FF_lt q, ex5]
  · obtain rfl : p = n := by omega
    rw [FF_end, if_neg hc, if_neg (fun z => q z.1), FF_end, if_neg (show ¬ s_X3_canEnd (nI 5) = 0 by decide)]
/-- the seconds -/
theorem sec_ok (ht : ∀ j, j < n → tx j < 128) {p : Nat} (hp : isn tx n p 49 57) : ∃ q v, rsl tx n (n - p) p 0 = (q, v) ∧ p + 1 ≤ q ∧ q ≤ p + 3 ∧ q ≤ n ∧ FF tx n p (nI 2) = FF tx n q (nI 5) ∧ v ≤ 999 ∧ (∀ j, p ≤ j → j < q → 48 ≤ tx j ∧ tx j ≤ 57) ∧ nuA tx n p (q - p) = nI v := by
  have e2 := F_dig ht (p := p) (Nat.le_of_lt hp.1) (by omega) (by omega) (fun y => ex2 (y := y)) (by decide) (by decide)
  rw [if_pos hp] at e2
  have hsg : ∀ j, j < n → sg tx n j = tx j := fun j hj => if_pos hj
  have s1 : rsl tx n (n - p) p 0 = rsl tx n (n - (p + 1)) (p + 1) (tx p - 48) := by
    rw [show n - p = (n - (p + 1)) + 1 by have := hp.1; omega, rsl, if_pos ⟨hp.1, by omega, hp.2.2⟩, if_neg (show ¬ nI 100 ≤ nI 0 by decide)]
    congr 1; omega
  have d1 := hp.2
  have e3 := F_opt ht (p := p + 1) (e := nI 3) (by have := hp.1; omega) (fun y => ex3 (y := y)) (by decide) (by decide)
  have n1 : nuA tx n p 1 = nI (tx p - 48) := by
    rw [nuA, nuA, Nat.add_zero, hsg p hp.1, pk_sub (by omega), pk_mul, nI_add]
    congr 1; omega
  by_cases w : isn tx n (p + 1) 48 57
  · rw [if_pos w] at e3
    have s2 : rsl tx n (n - (p + 1)) (p + 1) (tx p - 48) = rsl tx n (n - (p + 2)) (p + 2) (10 * (tx p - 48) + (tx (p + 1) - 48)) := by
      rw [show n - (p + 1) = (n - (p + 2)) + 1 by have := w.1; omega, rsl, if_pos w, if_neg (nI_ge (by omega) (by omega))]
      congr 1; have := w.2; omega
    have e4 := F_opt ht (p := p + 2) (e := nI 4) (by have := w.1; omega) (fun y => ex4 (y := y)) (by decide) (by decide)
    have d2 := w.2
    have n2 : nuA tx n p 2 = nI (10 * (tx p - 48) + (tx (p + 1) - 48)) := by
      rw [nuA, n1, hsg _ w.1, pk_sub (by omega), pk_mul, nI_add]
    by_cases w2 : isn tx n (p + 2) 48 57
    · rw [if_pos w2] at e4
      have d3 := w2.2
      have s3 : rsl tx n (n - (p + 2)) (p + 2) (10 * (tx p - 48) + (tx (p + 1) - 48)) = (p + 3, 100 * (tx p - 48) + 10 * (tx (p + 1) - 48) + (tx (p + 2) - 48)) := by
        rw [show n - (p + 2) = (n - (p + 3)) + 1 by have := w2.1; omega, rsl, if_pos w2, if_neg (nI_ge (by omega) (by omega))]
        have : ∀ f v, 100 ≤ v → v < 2000 → rsl tx n f (p + 3) v = (p + 3, v) := by
          intro f v hv hv2
          cases f with
          | zero => rfl
          | succ f =>
            rw [rsl]
            split
            · rw [if_pos (nI_le hv (by omega))]
            · rfl
        rw [show p + 2 + 1 = p + 3 by omega, this _ _ (by omega) (by omega)]
        congr 1; omega
      refine ⟨p + 3, _, s1.trans (s2.trans s3), by omega, by omega, by have := w2.1; omega, e2.trans (e3.trans e4), by omega, fun j j1 j2 => ?_, ?_⟩
      · rcases (show j = p ∨ j = p + 1 ∨ j = p + 2 by omega) with rfl | rfl | rfl
        · omega
        · exact d2
        · exact d3
      · rw [show p + 3 - p = 2 + 1 by omega, nuA, n2, hsg _ w2.1, pk_sub (by omega), pk_mul, nI_add]
        congr 1; omega
    · rw [if_neg w2] at e4
      have s3 : rsl tx n (n - (p + 2)) (p + 2) (10 * (tx p - 48) + (tx (p + 1) - 48)) = (p + 2, 10 * (tx p - 48) + (tx (p + 1) - 48)) := by
        cases n - (p + 2) with
        | zero => rfl
        | succ f => rw [rsl, if_neg w2]
      refine ⟨p + 2, _, s1.trans (s2.trans s3), by omega, by omega, by have := w.1; omega, e2.trans (e3.trans e4), by omega, fun j j1 j2 => ?_, ?_⟩
      · rcases (show j = p ∨ j = p + 1 by omega) with rfl | rfl
        · omega
        · exact d2
      · rw [show p + 2 - p = 2 by omega, n2]
  · rw [if_neg w] at e3
    have s2 : rsl tx n (n - (p + 1)) (p + 1) (tx p - 48) = (p + 1, tx p - 48) := by
      cases n - (p + 1) with
      | zero => rfl
      | succ f => rw [rsl, if_neg w]
    refine ⟨p + 1, _, s1.trans s2, by omega, by omega, by have := hp.1; omega, e2.trans e3, by omega, fun j j1 j2 => ?_, ?_⟩
    · obtain rfl : j = p := by omega
      omega
    · rw [show p + 1 - p = 1 by omega, n1]
theorem F_rd (ht : ∀ j, j < n → tx j < 128) {p mo : Nat} {e e2 : Int32} (hp : p ≤ n) (hm : mo ≤ 9) (he : ∀ y, s_X3_expectedAfter e y = if ¬ y < nI 48 ∧ ¬ nI (48 + mo) < y then e2 else nI 0) (h2 : ¬ e2 = 0) (hc : s_X3_canEnd e = 0) : FF tx n p e = match rd tx n p mo with | none => nI p | some _ => FF tx n (p + 1) e2 := by
  rw [F_dig ht hp (by omega) (by omega) he h2 hc]
  unfold rd
  by_cases q : isn tx n p 48 (48 + mo)
  · rw [if_pos q, if_pos q]
  · rw [if_neg q, if_neg q]
/-- one event -/
theorem F_ev (ht : ∀ j, j < n → tx j < 128) {p : Nat} (hp : p ≤ n) : FF tx n p (nI 1) = match re tx n p with | none => nI (rf tx n p) | some y => FF tx n y.2.2.2 (nI 5) := by
  by_cases q : p < n
  · have hL : reL tx n p = tx p := if_pos q
    have u := ht p q
    rw [FF_lt q, ex1]
    unfold re rf
    rw [hL]
    have nz : ∀ m, m < 128 → (nI (tx p) = nI m ↔ tx p = m) := fun m hm => nI_eq (by omega) (by omega)
    by_cases c1 : tx p = 43
    · have e : s_X3_expectedAfterLetter (nI (tx p)) = nI 2 := by unfold s_X3_expectedAfterLetter; rw [c1]; rfl
      rw [e, if_neg (show ¬ nI 2 = 0 by decide), if_pos c1, if_pos c1]
      by_cases w : isn tx n (p + 1) 49 57
      · obtain ⟨q2, v, s1, s2, s3, s4, s5, s6, s7, s8⟩ := sec_ok ht w
        rw [s5]
        unfold rsc rsp
        rw [if_pos w, if_pos w, s1]
        rfl
      · rw [F_dig ht (by omega) (by omega) (by omega) (fun y => ex2 (y := y)) (by decide) (by decide), if_neg w]
        unfold rsc
        rw [if_neg w]
        rfl
    by_cases c2 : tx p = 108 ∨ tx p = 114
    · have e : s_X3_expectedAfterLetter (nI (tx p)) = nI 6 := by
        unfold s_X3_expectedAfterLetter
        rcases c2 with c2 | c2 <;> rw [c2] <;> rfl
      rw [e, if_neg (show ¬ nI 6 = 0 by decide), if_neg c1, if_pos c2, if_neg c1, if_pos c2, F_rd ht (mo := 8) (by omega) (by omega) (fun y => ex6 (y := y)) (by decide) (by decide)]
      cases rd tx n (p + 1) 8 with
      | none => rfl
      | some d => rfl
    by_cases c3 : tx p = 98 ∨ tx p = 104
    · rw [if_neg c1, if_neg c2, if_pos c3, if_neg c1, if_neg c2, if_pos c3]
      rcases c3 with c3 | c3
      · have e : s_X3_expectedAfterLetter (nI (tx p)) = nI 8 := by unfold s_X3_expectedAfterLetter; rw [c3]; rfl
        rw [e, if_neg (show ¬ nI 8 = 0 by decide), F_rd ht (mo := 8) (by omega) (by omega) (fun y => ex8 (y := y)) (by decide) (by decide), if_pos c3]
        cases h1 : rd tx n (p + 1) 8 with
        | none => rfl
        | some d =>
          have := (rd_some h1).1.1
          show FF tx n (p + 1 + 1) (nI 9) = _
          rw [F_rd ht (mo := 4) (by omega) (by omega) (fun y => ex9 (y := y)) (by decide) (by decide)]
          show (match rd tx n (p + 2) 4 with | none => nI (p + 2) | some _ => FF tx n (p + 3) (nI 5)) = _
          cases h2 : rd tx n (p + 2) 4 with
          | none => rfl
          | some d2 => rfl
      · have e : s_X3_expectedAfterLetter (nI (tx p)) = nI 7 := by unfold s_X3_expectedAfterLetter; rw [c3]; rfl
        rw [e, if_neg (show ¬ nI 7 = 0 by decide), F_rd ht (mo := 8) (by omega) (by omega) (fun y => ex7 (y := y)) (by decide) (by decide), if_neg (show ¬ tx p = 98 by omega)]
        cases h1 : rd tx n (p + 1) 8 with
        | none => rfl
        | some d =>
          have := (rd_some h1).1.1
          show FF tx n (p + 1 + 1) (nI 6) = _
          rw [F_rd ht (mo := 8) (by omega) (by omega) (fun y => ex6 (y := y)) (by decide) (by decide)]
          show (match rd tx n (p + 2) 8 with | none => nI (p + 2) | some _ => FF tx n (p + 3) (nI 5)) = _
          cases h2 : rd tx n (p + 2) 8 with
          | none => rfl
          | some d2 => rfl
    · have e : s_X3_expectedAfterLetter (nI (tx p)) = nI 0 := by
        unfold s_X3_expectedAfterLetter
        rw [if_neg (show ¬ nI (tx p) = 43 from fun z => c1 ((nz 43 (by omega)).mp z)), if_neg (show ¬ nI (tx p) = 98 from fun z => c3 (Or.inl ((nz 98 (by omega)).mp z))), if_neg (show ¬ nI (tx p) = 104 from fun z => c3 (Or.inr ((nz 104 (by omega)).mp z))), if_neg (show ¬ nI (tx p) = 108 from fun z => c2 (Or.inl ((nz 108 (by omega)).mp z))), if_neg (show ¬ nI (tx p) = 114 from fun z => c2 (Or.inr ((nz 114 (by omega)).mp z)))]
      rw [e, if_pos (show (nI 0 : Int32) = 0 from rfl), if_neg c1, if_neg c2, if_neg c3, if_neg c1, if_neg c2, if_neg c3]
  · obtain rfl : p = n := by omega
    have hL : reL tx p p = 0 := if_neg q
    rw [FF_end, if_pos (by decide)]
    unfold re rf
    rw [hL]
    rfl
theorem fault_eq (hn : n ≤ 80) (ht : ∀ j, j < n → tx j < 128) : ∀ f p m, p ≤ n → n < p + f → (FF tx n p (nI 1) = (-5) ↔ (pt tx n f p m).1 = true) ∧ (¬ (pt tx n f p m).1 = true → FF tx n p (nI 1) = nI (pt tx n f p m).2.1) ∧ (pt tx n f p m).2.1 ≤ n := by
  intro f
  induction f with
  | zero => intro p m h1 h2; omega
  | succ f ih =>
    intro p m h1 h2
    rw [F_ev ht h1, pt]
    cases hr : re tx n p with
    | none =>
      have hf : rf tx n p ≤ n := by
        unfold rf
        by_cases q : p < n
        · split
          · omega
          · split
            · omega
            · split
              · split
                · rename_i hs
                  obtain ⟨d, hd⟩ := Option.isSome_iff_exists.mp hs
                  have := (rd_some hd).1.1; omega
                · omega
              · omega
        · have hL : reL tx n p = 0 := if_neg q
          rw [hL]; simp; omega
      show (nI (rf tx n p) = (-5) ↔ (false = true)) ∧ _
      exact ⟨⟨fun z => absurd z (nI_ne5 (by omega)), fun z => absurd (show false = true from z) (by decide)⟩, fun _ => rfl, hf⟩
    | some y =>
      have hy := re_pos h1 hr
      simp only []
      rw [F_5 ht hy.2]
      by_cases w : y.2.2.2 = n
      · rw [if_pos w, if_pos w]
        exact ⟨⟨fun _ => rfl, fun _ => rfl⟩, fun z => absurd rfl z, Nat.le_refl _⟩
      · rw [if_neg w, if_neg w]
        by_cases w2 : isn tx n y.2.2.2 59 59
        · rw [if_pos w2, if_pos w2]
          exact ih (y.2.2.2 + 1) (m + 1) (by have := w2.1; omega) (by omega)
        · rw [if_neg w2, if_neg w2]
          exact ⟨⟨fun z => absurd z (nI_ne5 (by omega)), fun z => absurd (show false = true from z) (by decide)⟩, fun _ => rfl, hy.2⟩
end Txt
