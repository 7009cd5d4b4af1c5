/-! what the law's start gives -/
theorem lw_gok {args : Array Value} {s : State} (hts : ∀ w ∈ lw_tbl, w.before args s = true) : ∀ w ∈ lw_g, w.before args s = true := by
  intro w hw
  rcases List.mem_append.mp hw with h | h
  · have h2 : w ∈ ([] : List Cond) := h
    cases h2
  · exact hts w (List.mem_filter.mp h).1
abbrev lA (s : State) : Nat → Prop := fun q => s.heap.size ≤ q
theorem za_of {args : Array Value} {s : State} {n : String} {z : List Int32} (hl : (Cond.laysStatic "RegattaTimes" n "[I").before args s = true) (hini : (Cond.initialized "RegattaTimes").before args s = true) (harr : (Cond.arrayOf (.static "RegattaTimes" n "[I") .int).before args s = true) (hlen : (Cond.eq (.length (.static "RegattaTimes" n "[I")) (.int 3)).before args s = true) (h0 : (Cond.eq (.elem (.static "RegattaTimes" n "[I") (.int 0)) (.int (z.getD 0 0))).before args s = true) (h1 : (Cond.eq (.elem (.static "RegattaTimes" n "[I") (.int 1)) (.int (z.getD 1 0))).before args s = true) (h2 : (Cond.eq (.elem (.static "RegattaTimes" n "[I") (.int 2)) (.int (z.getD 2 0))).before args s = true) : ZA n z (lA s) s s.heap := by
  have hA : ∀ a : Nat, a < s.heap.size → ¬ lA s a := fun a h => Nat.not_le.mpr h
  obtain ⟨t, ht, hT⟩ := va_Tof (tm := .static "RegattaTimes" n "[I") (ty := .int) (N := 3) (f := zv z) (A := lA s) (by omega) harr (Cond.eq_int hlen rfl) (fun j hj => by
    rcases (show j = 0 ∨ j = 1 ∨ j = 2 by omega) with rfl | rfl | rfl
    · exact Cond.eq_int h0 rfl
    · exact Cond.eq_int h1 rfl
    · exact Cond.eq_int h2 rfl) hA
  exact ⟨t, va_Zref hl hini ht hA, hT⟩
theorem ra_of {args : Array Value} {s : State} {ty : FieldType} (h : (Cond.arrayClass ty).before args s = true) : ∃ c k comp, s.vm.findClass ("[" ++ ty.toString) = some c ∧ s.vm.classes[c]? = some k ∧ k.kind = .array comp ty := Cond.arrayClass_spec h
theorem kw_start {b : Addr} {s : State} (hts : ∀ w ∈ lw_tbl, w.before #[Value.ref b] s = true) (hgv : (Jvm.Cond.and given_1 narrow_1).before #[Value.ref b] s = true) : ∃ D cI cB cS, KW D cI cB cS (lA s) s ∧ AO s := by
  have hg := lw_gok hts
  have hs := flat_of_before _ hgv
  have hT : ∀ (i : Nat) (w : Cond), lw_tbl[i]? = some w → w.before #[Value.ref b] s = true := fun i w h => hts w (List.mem_of_getElem? h)
  obtain ⟨c0, i0, k0⟩ := u_known (C := RJ4) (T := TJ4) (N := 4) (n := 4) hg inJ4 (hg _ q183)
  obtain ⟨c1, i1, k1⟩ := u_known (C := RX0) (T := TX0) (N := 1) (n := 1) hg inX0 (hg _ q114)
  obtain ⟨c2, i2, k2⟩ := u_known (C := RX1) (T := TX1) (N := 3) (n := 3) hg inX1 (hg _ q158)
  obtain ⟨c3, i3, k3⟩ := u_known (C := RX2) (T := TX2) (N := 1) (n := 1) hg inX2 (hg _ q124)
  obtain ⟨c4, i4, k4⟩ := u_known (C := RX3) (T := TX3) (N := 1) (n := 1) hg inX3 (hg _ q177)
  obtain ⟨c5, i5, k5⟩ := u_known (C := RX4) (T := TX4) (N := 5) (n := 5) hg inX4 (hg _ q134)
  obtain ⟨c6, i6, k6⟩ := u_known (C := RX5) (T := TX5) (N := 10) (n := 10) hg inX5 (hg _ q29)
  obtain ⟨c7, i7, k7⟩ := u_known (C := RX6) (T := TX6) (N := 2) (n := 2) hg inX6 (hg _ q35)
  obtain ⟨c8, i8, k8⟩ := u_known (C := RX7) (T := TX7) (N := 10) (n := 10) hg inX7 (hg _ q21)
  obtain ⟨dC, dI, hKc⟩ : ∃ (dC : Nat → ClassId) (dI : Nat → Nat → Nat), ∀ (k : Nat) (q : vw_C), vwCl[k]? = some q → u_Kn s q.1 q.2.1 q.2.2 (dC k) (dI k) := by
    refine ⟨fun k => if k = 0 then c0 else if k = 1 then c1 else if k = 2 then c2 else if k = 3 then c3 else if k = 4 then c4 else if k = 5 then c5 else if k = 6 then c6 else if k = 7 then c7 else c8, fun k => if k = 0 then i0 else if k = 1 then i1 else if k = 2 then i2 else if k = 3 then i3 else if k = 4 then i4 else if k = 5 then i5 else if k = 6 then i6 else if k = 7 then i7 else i8, ?_⟩
    intro k q hq
    match k, hq with
    | 0, hq => cases hq; exact k0
    | 1, hq => cases hq; exact k1
    | 2, hq => cases hq; exact k2
    | 3, hq => cases hq; exact k3
    | 4, hq => cases hq; exact k4
    | 5, hq => cases hq; exact k5
    | 6, hq => cases hq; exact k6
    | 7, hq => cases hq; exact k7
    | 8, hq => cases hq; exact k8
    | k + 9, hq => simp [vwCl] at hq
  obtain ⟨cI, kI, cpI, f1, f2, f3⟩ := ra_of (hg _ q50)
  obtain ⟨cB, kB, cpB, b1, b2, b3⟩ := ra_of (hg _ q213)
  have hAO : (Cond.arrayOver (.object "RegattaTimes$State")).before #[Value.ref b] s = true := hT 171 _ (by decide +kernel)
  obtain ⟨cpS, cS, kS, s1, s2, s3, s4, s5⟩ := Cond.arrayOver_spec hAO
  have hA : ∀ a : Nat, a < s.heap.size → ¬ lA s a := fun a h => Nat.not_le.mpr h
  have hini : (Cond.initialized "RegattaTimes").before #[Value.ref b] s = true := hg _ q1
  refine ⟨(dC, dI), cI, cB, cS, ⟨⟨hKc, fun k q hk => ?_⟩, ⟨?_, ?_, ?_, ?_⟩, ?_, ?_, ?_⟩, va_AO.of hAO⟩
  · match k, hk with
    | 0, hk => cases hk; exact ⟨fun N z => ⟨fun k h => (by cases h), kI, f2, cpI, f3⟩, f1⟩
    | 1, hk => cases hk; exact ⟨fun N z => ⟨fun k h => (by cases h), kB, b2, cpB, b3⟩, b1⟩
    | 2, hk => cases hk; exact ⟨fun N z => ⟨fun k h => (by cases h), kS, s3, cpS, s4⟩, kS, cpS, s3, s4, s1, s5⟩
    | k + 3, hk => simp [tyL] at hk
  · exact za_of (hT 59 _ (by decide +kernel)) hini (hs _ (by decide +kernel)) (hs _ (by decide +kernel)) (hs _ (by decide +kernel)) (hs _ (by decide +kernel)) (hs _ (by decide +kernel))
  · exact za_of (hT 662 _ (by decide +kernel)) hini (hs _ (by decide +kernel)) (hs _ (by decide +kernel)) (hs _ (by decide +kernel)) (hs _ (by decide +kernel)) (hs _ (by decide +kernel))
  · exact za_of (hT 664 _ (by decide +kernel)) hini (hs _ (by decide +kernel)) (hs _ (by decide +kernel)) (hs _ (by decide +kernel)) (hs _ (by decide +kernel)) (hs _ (by decide +kernel))
  · exact va_Zof (hT 199 _ (by decide +kernel)) (hg _ q12) (Cond.eq_int (hs (.eq (.static "java/lang/String" "COMPACT_STRINGS" "Z") (.int 1)) (by decide +kernel)) rfl) hA
  · exact va_Nw.of rfl (hT 58 _ (by decide +kernel))
  · exact va_Nw.of rfl (hT 661 _ (by decide +kernel))
  · exact va_Nw.of rfl (hT 663 _ (by decide +kernel))
/-! the numbers of a new series -/
def A0 : Nat → Nat := nup (nup (nup (fun _ => 0) 4 600) 5 60) 6 4
theorem A0_o {j : Nat} (h4 : j ≠ 4) (h5 : j ≠ 5) (h6 : j ≠ 6) : A0 j = 0 := by
  unfold A0
  rw [nup_ne h6, nup_ne h5, nup_ne h4]
theorem arr_A0 : arr A0 = a0 := by
  unfold A0 a0
  rw [← arr_up, ← arr_up, ← arr_up]
  rfl
theorem a0_o {j : Nat} (h4 : j ≠ 4) (h5 : j ≠ 5) (h6 : j ≠ 6) : a0 j = 0 := by
  unfold a0
  rw [pk_un h6, pk_un h5, pk_un h4]
theorem a0_3 : t0 1 0 = a0 4 ∧ t0 1 1 = a0 5 ∧ t0 1 2 = a0 6 := by decide +kernel
theorem eq0 : EQ g0 t0 (arr A0) (A0 2) := by
  rw [arr_A0]
  refine ⟨rfl, rfl, rfl, rfl, fun _ => rfl, fun q => absurd q (by decide), fun j hj => ?_, fun j hj => ?_, fun r w h1 h2 => ?_, fun i hi => ?_, fun i hi => ?_⟩
  · show (0 : Int32) = _; exact (a0_o (by omega) (by omega) (by omega)).symm
  · rcases (show j = 0 ∨ j = 1 ∨ j = 2 by omega) with rfl | rfl | rfl
    · exact a0_3.1
    · exact a0_3.2.1
    · exact a0_3.2.2
  · unfold m_r; show (0 : Int32) = _; exact (a0_o (by omega) (by omega) (by omega)).symm
  · show (0 : Int32) = _; exact (a0_o (by omega) (by omega) (by omega)).symm
  · show (0 : Int32) = _; exact (a0_o (by omega) (by omega) (by omega)).symm
theorem hj0 : HJ 0 A0 :=
  ⟨⟨by decide, by decide, by decide, by decide, by decide, by decide, by decide, by decide, by decide, by decide, fun b hb => absurd hb (show ¬ b < A0 1 from Nat.not_lt_zero b)⟩, fun r hr => absurd hr (show ¬ r < A0 2 from Nat.not_lt_zero r), fun r b w _ _ _ _ => A0_o (by omega) (by omega) (by omega), fun p hp => absurd hp (show ¬ p < A0 3 from Nat.not_lt_zero p), fun q => absurd q (by decide)⟩
theorem hi_X7_init : yX7_init.name = "<init>" ∧ yX7_init.cls ≠ "java/lang/invoke/MethodHandle" ∧ yX7_init.cls ≠ "java/lang/invoke/VarHandle" ∧ (parseMethodDescriptor yX7_init.desc).map (fun d => d.parameters.length) = some 0 := by decide +kernel
