theorem sw_0_30 (x : Int32) : x = 0 ∨ x = 1 ∨ x = 2 ∨ x = 3 ∨ x = 4 ∨ x = 5 ∨ x = 6 ∨ x = 7 ∨ x = 8 ∨ x = 9 ∨ x = 10 ∨ x = 11 ∨ x = 12 ∨ x = 13 ∨ x = 14 ∨ x = 15 ∨ x = 16 ∨ x = 17 ∨ x = 18 ∨ x = 19 ∨ x = 20 ∨ x = 21 ∨ x = 22 ∨ x = 23 ∨ x = 24 ∨ x = 25 ∨ x = 26 ∨ x = 27 ∨ x = 28 ∨ x = 29 ∨ x = 30 ∨ (x.toInt < 0 ∨ 30 < x.toInt) := by
  by_cases h : x.toInt < 0 ∨ 30 < x.toInt
  · simp [h]
  · have h1 : 0 ≤ x.toInt ∧ x.toInt ≤ 30 := by omega
    obtain ⟨k, rfl⟩ : ∃ k : Fin 31, x = Int32.ofInt (0 + (k.val : Int)) := ⟨⟨(x.toInt - 0).toNat, by omega⟩, by
      show x = Int32.ofInt (0 + (((x.toInt - 0).toNat : Nat) : Int))
      rw [show (0 + (((x.toInt - 0).toNat : Nat) : Int)) = x.toInt by omega]
      simp⟩
    clear h h1; revert k; decide +kernel
theorem le4 {i L : Nat} (hi : i ≤ 2100) (hL : L ≤ 2048) (h : ¬ nI L - nI 4 < nI i) : i + 4 ≤ L := by
  have h1 := pk_sub_toInt (a := L) (b := 4) (by omega) (by omega)
  have h3 := pk_sub_toInt (a := i) (b := 0) (by omega) (by omega)
  rw [pk_sub (Nat.zero_le _), Nat.sub_zero] at h3
  rw [Int32.lt_iff_toInt_lt, h1, h3] at h
  omega
theorem LI.step {D : va_G} {cI cB cS : ClassId} {s : State} {b cn i : Nat} {ad : Nat → Nat} {F : Nat → va_E} {H : Heap} {locs : List Loc} {ls : Array Slot} (h : LI D cI cB cS s b cn i ad F H locs ls) : LI D cI cB cS s b (cn + 1) i ad F H locs ls := by
  obtain ⟨hI, hw, hl, hs, g, t, d, z, hg, ht, g3, t3, n, tx, a, h, sn, txm, k, hC, hLg, hMo, hJ⟩ := h
  exact ⟨hI, hw, hl, hs, g, t, d, z, hg, ht, g3, t3, n, tx, a, h, sn, txm, k, hC, hLg, hMo, hJ.mono (Nat.le_succ _)⟩
theorem lw_head {p : Program} {l : Launch} {e : Env} {s : State} {m : MethodId} {below : List Frame} {meth : Method} {c : Code} {Q : State → Prop} {D : va_G} {cI cB cS : ClassId} {b L cn i cells slots : Nat} {xs : Nat → Int32} (X : CallFix p m c cL_law 8 s #[Value.ref b] lw_g "RegattaTimesLaw") (hX : va_X b L xs s s.heap) (hbs : b < s.heap.size) (hL : L ≤ 2048) (hi : i ≤ 2100) (kend : LK p l e s m below meth c Q D cI cB cS b cn i cells slots 977) (kbody : i + 4 ≤ L → LK p l e s m below meth c Q D cI cB cS b cn i cells slots 26) : LK p l e s m below meth c Q D cI cB cS b cn i cells slots 18 := by
  intro ad F H locs ls hh
  have hh0 := hh
  obtain ⟨hI, hw, hl, -⟩ := hh0
  refine lv_iload_n X.1 X.2.1 dL_law_18 rfl (lv_at hl 3 rfl) ?_
  refine lv_aload_n X.1 X.2.1 dL_law_19 rfl (lv_at hl 0 rfl) ?_
  refine x_slen X hX hbs hw dL_law_20 ?_
  refine lv_iconst (v := nI 4) X.1 X.2.1 dL_law_21 (by decide) ?_
  refine lv_isub X.1 X.2.1 dL_law_22 ?_
  exact lv_icmp_gt (tgt := 977) X.1 X.2.1 dL_law_23 (by decide) (fun c9 => kend _ _ _ _ _ hh) (fun c9 => kbody (le4 hi hL c9) _ _ _ _ _ hh)
theorem lw_next {p : Program} {l : Launch} {e : Env} {s : State} {m : MethodId} {below : List Frame} {meth : Method} {c : Code} {Q : State → Prop} {D : va_G} {cI cB cS : ClassId} {b L cn i cells slots : Nat} {xs : Nat → Int32} (X : CallFix p m c cL_law 8 s #[Value.ref b] lw_g "RegattaTimesLaw") (kk : LK p l e s m below meth c Q D cI cB cS b cn (i + 4) cells slots 18) : LK p l e s m below meth c Q D cI cB cS b cn i cells slots 971 := by
  intro ad F H locs ls hh
  obtain ⟨hI, hw, hl, hR⟩ := hh
  refine lv_iinc (v := nI (i + 4)) (lv' := [(3, .int (nI (i + 4))), (0, .ref b), (1, .ref (ad 0)), (2, .ref (ad 114))]) X.1 X.2.1 dL_law_971 hl (k := 3) rfl (show nI i + nI 4 = nI (i + 4) from nI_add _ _) (by decide) rfl (fun ls hl => ?_)
  refine lv_goto (tgt := 18) X.1 X.2.1 dL_law_974 (by decide) ?_
  exact kk _ _ _ _ _ ⟨hI, hw, lv_sub hl [1, 2, 3, 0] rfl, hR⟩
set_option maxHeartbeats 4000000 in
set_option maxRecDepth 100000 in
theorem lw_body {p : Program} {l : Launch} {e : Env} {s : State} {m : MethodId} {below : List Frame} {meth : Method} {c : Code} {Q : State → Prop} {D : va_G} {cI cB cS : ClassId} {b L cn i cells slots : Nat} {xs : Nat → Int32} (X : CallFix p m c cL_law 8 s #[Value.ref b] lw_g "RegattaTimesLaw") (hK : KW D cI cB cS (lA s) s) (hX : va_X b L xs s s.heap) (hbs : b < s.heap.size) (hcn : cn < 512) (hiL : i + 4 ≤ L) (hL : L ≤ 2048) (hf : cells + 1 ≤ room_1.cells ∧ slots + 162 ≤ room_1.slots) (kk : LK p l e s m below meth c Q D cI cB cS b (cn + 1) i (cells + 1) (slots + 162) 971) : LK p l e s m below meth c Q D cI cB cS b cn i cells slots 26 := by
  intro ad F H locs ls hh
  have hh0 := hh
  obtain ⟨hI, hw, hl, -⟩ := hh0
  refine lv_aload_n X.1 X.2.1 dL_law_26 rfl (lv_at hl 0 rfl) ?_
  refine lv_iload_n X.1 X.2.1 dL_law_27 rfl (lv_at hl 3 rfl) ?_
  refine x_sld X hX hbs hw (i := nI i) (j := i) rfl (by omega) hL dL_law_28 ?_
  refine lv_bipush (v := nI 31) X.1 X.2.1 dL_law_29 (by decide) ?_
  refine lv_iand X.1 X.2.1 dL_law_31 ?_
  rcases sw_0_30 (xs i &&& nI 31) with c9 | c9 | c9 | c9 | c9 | c9 | c9 | c9 | c9 | c9 | c9 | c9 | c9 | c9 | c9 | c9 | c9 | c9 | c9 | c9 | c9 | c9 | c9 | c9 | c9 | c9 | c9 | c9 | c9 | c9 | c9 | c9
  · refine lv_tableIn (tgt := 172) X.1 X.2.1 dL_law_32 (by rw [c9]; decide) (by rw [c9]; decide) (by rw [c9]; rfl) (by decide) ?_
    exact lc_enter X hK hX hbs hcn hiL hL hf kk _ _ _ _ _ hh
  · refine lv_tableIn (tgt := 195) X.1 X.2.1 dL_law_32 (by rw [c9]; decide) (by rw [c9]; decide) (by rw [c9]; rfl) (by decide) ?_
    exact lc_prepare X hK hX hbs hcn hiL hL hf kk _ _ _ _ _ hh
  · refine lv_tableIn (tgt := 238) X.1 X.2.1 dL_law_32 (by rw [c9]; decide) (by rw [c9]; decide) (by rw [c9]; rfl) (by decide) ?_
    exact lc_postpone X hK hX hbs hcn hiL hL hf kk _ _ _ _ _ hh
  · refine lv_tableIn (tgt := 261) X.1 X.2.1 dL_law_32 (by rw [c9]; decide) (by rw [c9]; decide) (by rw [c9]; rfl) (by decide) ?_
    exact lc_recall X hK hX hbs hcn hiL hL hf kk _ _ _ _ _ hh
  · refine lv_tableIn (tgt := 274) X.1 X.2.1 dL_law_32 (by rw [c9]; decide) (by rw [c9]; decide) (by rw [c9]; rfl) (by decide) ?_
    exact lc_pass X hK hX hbs hcn hiL hL hf kk _ _ _ _ _ hh
  · refine lv_tableIn (tgt := 297) X.1 X.2.1 dL_law_32 (by rw [c9]; decide) (by rw [c9]; decide) (by rw [c9]; rfl) (by decide) ?_
    exact lc_line X hK hX hbs hcn hiL hL hf kk _ _ _ _ _ hh
  · refine lv_tableIn (tgt := 320) X.1 X.2.1 dL_law_32 (by rw [c9]; decide) (by rw [c9]; decide) (by rw [c9]; rfl) (by decide) ?_
    exact lc_buoy X hK hX hbs hcn hiL hL hf kk _ _ _ _ _ hh
  · refine lv_tableIn (tgt := 353) X.1 X.2.1 dL_law_32 (by rw [c9]; decide) (by rw [c9]; decide) (by rw [c9]; rfl) (by decide) ?_
    exact lc_retire X hK hX hbs hcn hiL hL hf kk _ _ _ _ _ hh
  · refine lv_tableIn (tgt := 376) X.1 X.2.1 dL_law_32 (by rw [c9]; decide) (by rw [c9]; decide) (by rw [c9]; rfl) (by decide) ?_
    exact lc_close X hK hX hbs hcn hiL hL hf kk _ _ _ _ _ hh
  · refine lv_tableIn (tgt := 389) X.1 X.2.1 dL_law_32 (by rw [c9]; decide) (by rw [c9]; decide) (by rw [c9]; rfl) (by decide) ?_
    exact lc_hail X hK hX hbs hcn hiL hL hf kk _ _ _ _ _ hh
  · refine lv_tableIn (tgt := 422) X.1 X.2.1 dL_law_32 (by rw [c9]; decide) (by rw [c9]; decide) (by rw [c9]; rfl) (by decide) ?_
    exact lc_file X hK hX hbs hcn hiL hL hf kk _ _ _ _ _ hh
  · refine lv_tableIn (tgt := 445) X.1 X.2.1 dL_law_32 (by rw [c9]; decide) (by rw [c9]; decide) (by rw [c9]; rfl) (by decide) ?_
    exact lc_accept X hK hX hbs hcn hiL hL hf kk _ _ _ _ _ hh
  · refine lv_tableIn (tgt := 468) X.1 X.2.1 dL_law_32 (by rw [c9]; decide) (by rw [c9]; decide) (by rw [c9]; rfl) (by decide) ?_
    exact lc_decide X hK hX hbs hcn hiL hL hf kk _ _ _ _ _ hh
  · refine lv_tableIn (tgt := 517) X.1 X.2.1 dL_law_32 (by rw [c9]; decide) (by rw [c9]; decide) (by rw [c9]; rfl) (by decide) ?_
    exact lc_set X hK hX hbs hcn hiL hL hf kk _ _ _ _ _ hh
  · refine lv_tableIn (tgt := 550) X.1 X.2.1 dL_law_32 (by rw [c9]; decide) (by rw [c9]; decide) (by rw [c9]; rfl) (by decide) ?_
    exact lc_append X hK hX hbs hcn hiL hL hf kk _ _ _ _ _ hh
  · refine lv_tableIn (tgt := 573) X.1 X.2.1 dL_law_32 (by rw [c9]; decide) (by rw [c9]; decide) (by rw [c9]; rfl) (by decide) ?_
    exact lc_clearText X hK hX hbs hcn hiL hL hf kk _ _ _ _ _ hh
  · refine lv_tableIn (tgt := 586) X.1 X.2.1 dL_law_32 (by rw [c9]; decide) (by rw [c9]; decide) (by rw [c9]; rfl) (by decide) ?_
    exact lc_fault X hK hX hbs hcn hiL hL hf kk _ _ _ _ _ hh
  · refine lv_tableIn (tgt := 599) X.1 X.2.1 dL_law_32 (by rw [c9]; decide) (by rw [c9]; decide) (by rw [c9]; rfl) (by decide) ?_
    exact lc_run X hK hX hbs hcn hiL hL hf kk _ _ _ _ _ hh
  · refine lv_tableIn (tgt := 612) X.1 X.2.1 dL_law_32 (by rw [c9]; decide) (by rw [c9]; decide) (by rw [c9]; rfl) (by decide) ?_
    exact lc_undo X hK hX hbs hcn hiL hL hf kk _ _ _ _ _ hh
  · refine lv_tableIn (tgt := 625) X.1 X.2.1 dL_law_32 (by rw [c9]; decide) (by rw [c9]; decide) (by rw [c9]; rfl) (by decide) ?_
    exact lc_save X hK hX hbs hcn hiL hL hf kk _ _ _ _ _ hh
  · refine lv_tableIn (tgt := 638) X.1 X.2.1 dL_law_32 (by rw [c9]; decide) (by rw [c9]; decide) (by rw [c9]; rfl) (by decide) ?_
    exact lc_restore X hK hX hbs hcn hiL hL hf kk _ _ _ _ _ hh
  · refine lv_tableIn (tgt := 651) X.1 X.2.1 dL_law_32 (by rw [c9]; decide) (by rw [c9]; decide) (by rw [c9]; rfl) (by decide) ?_
    exact lc_result X hK hX hbs hcn hiL hL hf kk _ _ _ _ _ hh
  · refine lv_tableIn (tgt := 694) X.1 X.2.1 dL_law_32 (by rw [c9]; decide) (by rw [c9]; decide) (by rw [c9]; rfl) (by decide) ?_
    exact lc_boat X hK hX hbs hcn hiL hL hf kk _ _ _ _ _ hh
  · refine lv_tableIn (tgt := 727) X.1 X.2.1 dL_law_32 (by rw [c9]; decide) (by rw [c9]; decide) (by rw [c9]; rfl) (by decide) ?_
    exact lc_ranked X hK hX hbs hcn hiL hL hf kk _ _ _ _ _ hh
  · refine lv_tableIn (tgt := 750) X.1 X.2.1 dL_law_32 (by rw [c9]; decide) (by rw [c9]; decide) (by rw [c9]; rfl) (by decide) ?_
    exact lc_race X hK hX hbs hcn hiL hL hf kk _ _ _ _ _ hh
  · refine lv_tableIn (tgt := 783) X.1 X.2.1 dL_law_32 (by rw [c9]; decide) (by rw [c9]; decide) (by rw [c9]; rfl) (by decide) ?_
    exact lc_protest X hK hX hbs hcn hiL hL hf kk _ _ _ _ _ hh
  · refine lv_tableIn (tgt := 816) X.1 X.2.1 dL_law_32 (by rw [c9]; decide) (by rw [c9]; decide) (by rw [c9]; rfl) (by decide) ?_
    exact lc_count X hK hX hbs hcn hiL hL hf kk _ _ _ _ _ hh
  · refine lv_tableIn (tgt := 839) X.1 X.2.1 dL_law_32 (by rw [c9]; decide) (by rw [c9]; decide) (by rw [c9]; rfl) (by decide) ?_
    exact lc_placeNow X hK hX hbs hcn hiL hL hf kk _ _ _ _ _ hh
  · refine lv_tableIn (tgt := 862) X.1 X.2.1 dL_law_32 (by rw [c9]; decide) (by rw [c9]; decide) (by rw [c9]; rfl) (by decide) ?_
    exact lc_secondsLeft X hK hX hbs hcn hiL hL hf kk _ _ _ _ _ hh
  · refine lv_tableIn (tgt := 885) X.1 X.2.1 dL_law_32 (by rw [c9]; decide) (by rw [c9]; decide) (by rw [c9]; rfl) (by decide) ?_
    exact lc_rankIfDisqualified X hK hX hbs hcn hiL hL hf kk _ _ _ _ _ hh
  · refine lv_tableIn (tgt := 918) X.1 X.2.1 dL_law_32 (by rw [c9]; decide) (by rw [c9]; decide) (by rw [c9]; rfl) (by decide) ?_
    exact lc_mean X hK hX hbs hcn hiL hL hf kk _ _ _ _ _ hh
  · refine lv_tableOut (tgt := 971) X.1 X.2.1 dL_law_32 c9 (by decide) ?_
    exact W.widen (Nat.le_succ _) (by omega) (kk _ _ _ _ _ hh.step)
theorem lw_loop {p : Program} {l : Launch} {e : Env} {s : State} {m : MethodId} {below : List Frame} {meth : Method} {c : Code} {Q : State → Prop} {D : va_G} {cI cB cS : ClassId} {b L : Nat} {xs : Nat → Int32} (X : CallFix p m c cL_law 8 s #[Value.ref b] lw_g "RegattaTimesLaw") (hK : KW D cI cB cS (lA s) s) (hX : va_X b L xs s s.heap) (hbs : b < s.heap.size) (hL : L ≤ 2048) (kend : ∀ cn, cn ≤ 513 → LK p l e s m below meth c Q D cI cB cS b cn (4 * cn) (119 + cn) (6273 + 162 * cn) 977) : ∀ fu cn, cn + fu = 513 → LK p l e s m below meth c Q D cI cB cS b cn (4 * cn) (119 + cn) (6273 + 162 * cn) 18 := by
  intro fu
  induction fu with
  | zero => exact fun cn hc => lw_head X hX hbs hL (by omega) (kend cn (by omega)) (fun q => absurd q (by omega))
  | succ fu ih =>
    intro cn hc
    have ih2 := ih (cn + 1) (by omega)
    rw [show 4 * (cn + 1) = 4 * cn + 4 by omega, show 119 + (cn + 1) = 119 + cn + 1 by omega, show 6273 + 162 * (cn + 1) = 6273 + 162 * cn + 162 by omega] at ih2
    exact lw_head X hX hbs hL (by omega) (kend cn (by omega)) (fun q => lw_body X hK hX hbs (by omega) q hL (by show 119 + cn + 1 ≤ 600000 ∧ 6273 + 162 * cn + 162 ≤ 7302250; omega) (lw_next (L := L) (xs := xs) X ih2))
theorem a0_o {j : Nat} (h4 : j ≠ 4) (h5 : j ≠ 5) (h6 : j ≠ 6) : a0 j = 0 := by
  unfold a0
  rw [pk_un h6, pk_un h5, pk_un h4]
theorem a0_3 : t0 1 0 = a0 4 ∧ t0 1 1 = a0 5 ∧ t0 1 2 = a0 6 := by decide +kernel
theorem rs0 : RS 0 g0 t0 a0 := by
  refine ⟨0, 0, 0, 0, ⟨rfl, by omega, rfl, by omega, rfl, by omega, fun q => q, rfl, by omega, ⟨600, 60, 4, rfl, by omega, rfl, by omega, rfl, by omega⟩, fun b hb => absurd hb (by omega), fun r hr => absurd hr (by omega), fun r b w h1 h2 h3 h4 => ?_, fun p hp => absurd hp (by omega)⟩, rfl, rfl, rfl, rfl, fun _ => rfl, fun q => absurd q (by omega), fun j hj => ?_, fun j hj => ?_, fun r w h1 h2 => ?_, fun i hi => ?_, fun i hi => ?_⟩
  · unfold m_e; exact a0_o (by omega) (by omega) (by omega)
  · show (0 : Int32) = _; exact (a0_o (by omega) (by omega) (by omega)).symm
  · rcases (show j = 0 ∨ j = 1 ∨ j = 2 by omega) with rfl | rfl | rfl
    · exact a0_3.1
    · exact a0_3.2.1
    · exact a0_3.2.2
  · unfold m_r; show (0 : Int32) = _; exact (a0_o (by omega) (by omega) (by omega)).symm
  · show (0 : Int32) = _; exact (a0_o (by omega) (by omega) (by omega)).symm
  · show (0 : Int32) = _; exact (a0_o (by omega) (by omega) (by omega)).symm
theorem jr0 : JR 0 (nI 0) g0 t0 0 0 (fun _ => g0) (fun _ => t0) g0 t0 0 (fun _ => 0) a0 (fun _ => 0) (fun _ => 0) (fun _ => 0) (fun _ => nI 0) :=
  ⟨by omega, by omega, rfl, rs0, fun j hj => absurd hj (by omega), Iff.rfl, fun q => absurd rfl q, by omega, rfl, fun j hj => absurd hj (by omega)⟩
theorem hi_X7_init : yX7_init.name = "<init>" ∧ yX7_init.cls ≠ "java/lang/invoke/MethodHandle" ∧ yX7_init.cls ≠ "java/lang/invoke/VarHandle" ∧ (parseMethodDescriptor yX7_init.desc).map (fun d => d.parameters.length) = some 0 := by decide +kernel
theorem hi_X8_init : yX8_init.name = "<init>" ∧ yX8_init.cls ≠ "java/lang/invoke/MethodHandle" ∧ yX8_init.cls ≠ "java/lang/invoke/VarHandle" ∧ (parseMethodDescriptor yX8_init.desc).map (fun d => d.parameters.length) = some 0 := by decide +kernel
set_option maxHeartbeats 4000000 in
set_option maxRecDepth 100000 in
theorem lw_run {p : Program} {l : Launch} {e : Env} {s : State} {m : MethodId} {below : List Frame} {meth : Method} {c : Code} {Q : State → Prop} {D : va_G} {cI cB cS : ClassId} {b L : Nat} {xs : Nat → Int32} {ls : Array Slot} (X : CallFix p m c cL_law 8 s #[Value.ref b] lw_g "RegattaTimesLaw") (hK : KW D cI cB cS (lA s) s) (hAO : AO s) (hX : va_X b L xs s s.heap) (hbs : b < s.heap.size) (hL : L ≤ 2048) (hl : lv_has ls 8 [(0, .ref b)]) (kend : ∀ cn, cn ≤ 513 → LK p l e s m below meth c Q D cI cB cS b cn (4 * cn) (119 + cn) (6273 + 162 * cn) 977) : W p l e room_1 s m #[Value.ref b] below meth c s.heap [] 0 0 Q (F0 m 0 ls []) := by
  obtain ⟨ad, had⟩ : ∃ ad : Nat → Nat, ad = fun k => s.heap.size + k := ⟨_, rfl⟩
  have hA : hAd ad := by rw [had]; intro k; rfl
  have hs0 : s.heap.size = ad 0 := by rw [had]; rfl
  have hw : HW D (lA s) ad 0 (fun _ => .inr (0, [])) s s.heap [] := ⟨fun k q h => absurd (wl_mem h).1 (Nat.not_lt_zero _), va_S.rf, fun k h => absurd h (Nat.not_lt_zero _), fun q h => h⟩
  refine x_new X hA hK hw (N0 := 0) hs0 rfl (C := RX7) (T := TX7) (nf := 10) (ci := 8) (fs := [.null, .null, .null, .null, .null, .null, .null, .null, .int (nI 0), .null]) inX7 tyX7 tyX7_ok q20 q21 q1 rfl (fun j hj => by rcases (show j = 0 ∨ j = 1 ∨ j = 2 ∨ j = 3 ∨ j = 4 ∨ j = 5 ∨ j = 6 ∨ j = 7 ∨ j = 8 ∨ j = 9 by omega) with rfl | rfl | rfl | rfl | rfl | rfl | rfl | rfl | rfl | rfl <;> rfl) (Nat.le_of_ble_eq_true rfl) (Nat.le_of_ble_eq_true rfl) dL_law_0 (fun F1 H eF1 hw => ?_)
  refine lv_dup X.1 X.2.1 dL_law_3 rfl ?_
  have e0 : F1 0 = .inr (8, [.null, .null, .null, .null, .null, .null, .null, .null, .int (nI 0), .null]) := by rw [eF1]; exact up_at
  refine x_callI X hA hK hAO hw (N0 := 0) hs0 rfl (k := 0) (As := []) (rest := [.ref (ad 0)]) (k_X7_init hA 0 e0) (x_cwI yX7_init cX7_init 1 0 X q22 q23 q1 q24 hi_X7_init ⟨(Nat.le_of_ble_eq_true rfl), (Nat.le_of_ble_eq_true rfl)⟩) rfl hl.1 rfl (Nat.le_of_ble_eq_true rfl) dL_law_4 ⟨(Nat.le_of_ble_eq_true rfl), (Nat.le_of_ble_eq_true rfl)⟩ (fun F2 H locs hp hw => ?_)
  obtain ⟨c1, c2, c3, c4, c5, c6, c7, c8, c9, c10, c11, -⟩ := hp
  have hC : ClF ad cI cS F2 0 (nI 0) g0 t0 0 0 (fun _ => g0) (fun _ => t0) g0 t0 := ⟨c1, c2, c3, c4, c8, c9, ⟨_, _, _, _, c5⟩, ⟨_, _, c6⟩, _, _, _, _, c7⟩
  have hLg : LgF ad cB F2 (0 + 111) 0 (fun _ => 0) := ⟨c10, 16, nI 0, fun _ => 0, c11, by omega, by omega, fun j hj => absurd hj (by omega), fun j hj => ⟨0, by omega, rfl⟩⟩
  refine lv_astore_n (lv' := [(1, .ref (ad 0)), (0, .ref b)]) X.1 X.2.1 dL_law_7 rfl hl (by decide) rfl (fun ls hl => ?_)
  refine x_new X hA hK hw (N0 := 0) hs0 rfl (C := RX8) (T := TX8) (nf := 12) (ci := 9) (fs := [.null, .null, .int (nI 0), .null, .int (nI 0), .null, .int (nI 0), .int (nI 0), .int (nI 0), .int (nI 0), .int (nI 0), .int (nI 0)]) inX8 tyX8 tyX8_ok q862 q863 q14 rfl (fun j hj => by rcases (show j = 0 ∨ j = 1 ∨ j = 2 ∨ j = 3 ∨ j = 4 ∨ j = 5 ∨ j = 6 ∨ j = 7 ∨ j = 8 ∨ j = 9 ∨ j = 10 ∨ j = 11 by omega) with rfl | rfl | rfl | rfl | rfl | rfl | rfl | rfl | rfl | rfl | rfl | rfl <;> rfl) (Nat.le_of_ble_eq_true rfl) (Nat.le_of_ble_eq_true rfl) dL_law_8 (fun F3 H eF3 hw => ?_)
  refine lv_dup X.1 X.2.1 dL_law_11 rfl ?_
  have e1 : F3 114 = .inr (9, [.null, .null, .int (nI 0), .null, .int (nI 0), .null, .int (nI 0), .int (nI 0), .int (nI 0), .int (nI 0), .int (nI 0), .int (nI 0)]) := by rw [eF3]; exact up_at
  have hr3 : Fr F2 F3 114 115 := fr_eq eF3 (Nat.le_refl _) (Nat.lt_succ_self _)
  refine x_callI X hA hK hAO hw (N0 := 0) hs0 rfl (k := 114) (As := []) (rest := [.ref (ad 114)]) (k_X8_init hA 114 e1) (x_cwI yX8_init cX8_init 1 0 X q864 q865 q14 q866 hi_X8_init ⟨(Nat.le_of_ble_eq_true rfl), (Nat.le_of_ble_eq_true rfl)⟩) rfl hl.1 rfl (Nat.le_of_ble_eq_true rfl) dL_law_12 ⟨(Nat.le_of_ble_eq_true rfl), (Nat.le_of_ble_eq_true rfl)⟩ (fun F4 H locs hp hw => ?_)
  obtain ⟨hMo, hr4⟩ := hp
  refine lv_astore_n (lv' := [(2, .ref (ad 114)), (1, .ref (ad 0)), (0, .ref b)]) X.1 X.2.1 dL_law_15 rfl hl (by decide) rfl (fun ls hl => ?_)
  refine lv_iconst (v := nI 0) X.1 X.2.1 dL_law_16 (by decide) ?_
  refine lv_istore_n (lv' := [(3, .int (nI 0)), (2, .ref (ad 114)), (1, .ref (ad 0)), (0, .ref b)]) X.1 X.2.1 dL_law_17 rfl hl (by decide) rfl (fun ls hl => ?_)
  exact lw_loop X hK hX hbs hL kend 513 0 rfl ad F4 H locs ls ⟨hA.iN, hw, lv_sub hl [3, 2, 1, 0] rfl, _, _, _, _, _, _, _, _, _, _, _, _, _, _, _, _, (hC.cg hr3 (by omega)).cg hr4 (by omega), (hLg.cg hr3 (by omega)).cg hr4 (by omega), hMo, jr0⟩
