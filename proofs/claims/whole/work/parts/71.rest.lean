theorem hd_X7_decide : yX7_decide.cls = RX7 ∧ yX7_decide.cls ≠ "java/lang/invoke/MethodHandle" ∧ yX7_decide.cls ≠ "java/lang/invoke/VarHandle" ∧ (parseMethodDescriptor yX7_decide.desc).map (fun d => d.parameters.length) = some 2 := by decide +kernel
theorem hd_X8_decide : yX8_decide.cls = RX8 ∧ yX8_decide.cls ≠ "java/lang/invoke/MethodHandle" ∧ yX8_decide.cls ≠ "java/lang/invoke/VarHandle" ∧ (parseMethodDescriptor yX8_decide.desc).map (fun d => d.parameters.length) = some 2 := by decide +kernel
theorem hd_X7_append : yX7_append.cls = RX7 ∧ yX7_append.cls ≠ "java/lang/invoke/MethodHandle" ∧ yX7_append.cls ≠ "java/lang/invoke/VarHandle" ∧ (parseMethodDescriptor yX7_append.desc).map (fun d => d.parameters.length) = some 1 := by decide +kernel
theorem hd_X8_append : yX8_append.cls = RX8 ∧ yX8_append.cls ≠ "java/lang/invoke/MethodHandle" ∧ yX8_append.cls ≠ "java/lang/invoke/VarHandle" ∧ (parseMethodDescriptor yX8_append.desc).map (fun d => d.parameters.length) = some 1 := by decide +kernel
theorem hd_X7_clearText : yX7_clearText.cls = RX7 ∧ yX7_clearText.cls ≠ "java/lang/invoke/MethodHandle" ∧ yX7_clearText.cls ≠ "java/lang/invoke/VarHandle" ∧ (parseMethodDescriptor yX7_clearText.desc).map (fun d => d.parameters.length) = some 0 := by decide +kernel
theorem hd_X8_clearText : yX8_clearText.cls = RX8 ∧ yX8_clearText.cls ≠ "java/lang/invoke/MethodHandle" ∧ yX8_clearText.cls ≠ "java/lang/invoke/VarHandle" ∧ (parseMethodDescriptor yX8_clearText.desc).map (fun d => d.parameters.length) = some 0 := by decide +kernel
theorem hd_X7_fault : yX7_fault.cls = RX7 ∧ yX7_fault.cls ≠ "java/lang/invoke/MethodHandle" ∧ yX7_fault.cls ≠ "java/lang/invoke/VarHandle" ∧ (parseMethodDescriptor yX7_fault.desc).map (fun d => d.parameters.length) = some 0 := by decide +kernel
theorem hd_X8_fault : yX8_fault.cls = RX8 ∧ yX8_fault.cls ≠ "java/lang/invoke/MethodHandle" ∧ yX8_fault.cls ≠ "java/lang/invoke/VarHandle" ∧ (parseMethodDescriptor yX8_fault.desc).map (fun d => d.parameters.length) = some 0 := by decide +kernel
theorem hd_X7_run : yX7_run.cls = RX7 ∧ yX7_run.cls ≠ "java/lang/invoke/MethodHandle" ∧ yX7_run.cls ≠ "java/lang/invoke/VarHandle" ∧ (parseMethodDescriptor yX7_run.desc).map (fun d => d.parameters.length) = some 0 := by decide +kernel
theorem hd_X8_run : yX8_run.cls = RX8 ∧ yX8_run.cls ≠ "java/lang/invoke/MethodHandle" ∧ yX8_run.cls ≠ "java/lang/invoke/VarHandle" ∧ (parseMethodDescriptor yX8_run.desc).map (fun d => d.parameters.length) = some 0 := by decide +kernel
theorem hd_X7_undo : yX7_undo.cls = RX7 ∧ yX7_undo.cls ≠ "java/lang/invoke/MethodHandle" ∧ yX7_undo.cls ≠ "java/lang/invoke/VarHandle" ∧ (parseMethodDescriptor yX7_undo.desc).map (fun d => d.parameters.length) = some 0 := by decide +kernel
theorem hd_X8_undo : yX8_undo.cls = RX8 ∧ yX8_undo.cls ≠ "java/lang/invoke/MethodHandle" ∧ yX8_undo.cls ≠ "java/lang/invoke/VarHandle" ∧ (parseMethodDescriptor yX8_undo.desc).map (fun d => d.parameters.length) = some 0 := by decide +kernel
theorem hd_X7_save : yX7_save.cls = RX7 ∧ yX7_save.cls ≠ "java/lang/invoke/MethodHandle" ∧ yX7_save.cls ≠ "java/lang/invoke/VarHandle" ∧ (parseMethodDescriptor yX7_save.desc).map (fun d => d.parameters.length) = some 0 := by decide +kernel
theorem hd_X8_save : yX8_save.cls = RX8 ∧ yX8_save.cls ≠ "java/lang/invoke/MethodHandle" ∧ yX8_save.cls ≠ "java/lang/invoke/VarHandle" ∧ (parseMethodDescriptor yX8_save.desc).map (fun d => d.parameters.length) = some 0 := by decide +kernel
theorem hd_X7_restore : yX7_restore.cls = RX7 ∧ yX7_restore.cls ≠ "java/lang/invoke/MethodHandle" ∧ yX7_restore.cls ≠ "java/lang/invoke/VarHandle" ∧ (parseMethodDescriptor yX7_restore.desc).map (fun d => d.parameters.length) = some 0 := by decide +kernel
theorem hd_X8_restore : yX8_restore.cls = RX8 ∧ yX8_restore.cls ≠ "java/lang/invoke/MethodHandle" ∧ yX8_restore.cls ≠ "java/lang/invoke/VarHandle" ∧ (parseMethodDescriptor yX8_restore.desc).map (fun d => d.parameters.length) = some 0 := by decide +kernel
set_option maxHeartbeats 4000000 in
set_option maxRecDepth 100000 in
theorem lc_decide {p : Program} {l : Launch} {e : Env} {s : State} {m : MethodId} {below : List Frame} {meth : Method} {c : Code} {Q : State → Prop} {D : va_G} {cI cB cS : ClassId} {b L cn i cells slots : Nat} {xs : Nat → Int32} (X : CallFix p m c cL_law 8 s #[Value.ref b] lw_g "RegattaTimesLaw") (hK : KW D cI cB cS (lA s) s) (hX : va_X b L xs s s.heap) (hbs : b < s.heap.size) (hcn : cn < 512) (hiL : i + 4 ≤ L) (hL : L ≤ 2048) (hf : cells + 1 ≤ room_1.cells ∧ slots + 162 ≤ room_1.slots) (kk : LK p l e s m below meth c Q D cI cB cS b (cn + 1) i (cells + 1) (slots + 162) 971) : LK p l e s m below meth c Q D cI cB cS b cn i cells slots 468 := by
  intro ad F H locs ls hh
  obtain ⟨hI, hw, hl, hs, g, t, d, z, hg, ht, g3, t3, n, tx, a, h, sn, txm, k, hC, hLg, hMo, hJ⟩ := hh
  have hJ0 := hJ
  obtain ⟨hd5, hz4, hkz, ⟨nb, nr, np, ck, hV, hE⟩, -, -, -, hn80, hkn, htx⟩ := hJ0
  have hC0 := hC
  obtain ⟨hxMa, hxF, hxCo, hxJu, hxHi, hxF3, ⟨tm1, pt1, sm1, tl1, hxS1⟩, ⟨g2, t2, hxF2⟩, tm2, pt2, sm2, tl2, hxS2⟩ := hC0
  have hV0 := hV
  obtain ⟨h1, hb9, h2, hr6, h3, hp10, hpr, -⟩ := hV0
  have hg1 : g 1 = nI nb := hE.2.1.trans h1
  have hf1 : cells ≤ room_1.cells := by omega
  have hf2 : slots ≤ room_1.slots := by omega
  refine lv_aload_n X.1 X.2.1 dL_law_468 rfl (lv_at hl 1 rfl) ?_
  refine lv_aload_n X.1 X.2.1 dL_law_469 rfl (lv_at hl 0 rfl) ?_
  refine lv_iload_n X.1 X.2.1 dL_law_470 rfl (lv_at hl 3 rfl) ?_
  refine lv_iconst (v := nI 1) X.1 X.2.1 dL_law_471 (by decide) ?_
  refine lv_iadd X.1 X.2.1 dL_law_472 ?_
  refine x_top (nI_add _ _) ?_
  refine x_sld X hX hbs hw (i := nI (i + 1)) (j := i + 1) rfl (by omega) hL dL_law_473 ?_
  refine lv_aload_n X.1 X.2.1 dL_law_474 rfl (lv_at hl 0 rfl) ?_
  refine lv_iload_n X.1 X.2.1 dL_law_475 rfl (lv_at hl 3 rfl) ?_
  refine lv_iconst (v := nI 2) X.1 X.2.1 dL_law_476 (by decide) ?_
  refine lv_iadd X.1 X.2.1 dL_law_477 ?_
  refine x_top (nI_add _ _) ?_
  refine x_sld X hX hbs hw (i := nI (i + 2)) (j := i + 2) rfl (by omega) hL dL_law_478 ?_
  refine lv_if_eq (tgt := 486) X.1 X.2.1 dL_law_479 (by decide) (fun c7 => ?_) (fun c7 => ?_)
  · refine lv_iconst (v := nI 0) X.1 X.2.1 dL_law_486 (by decide) ?_
    refine x_callV X hK hw (k := 0) (As := [.int (xs (i + 1)), .int (nI 0)]) (rest := []) (k_X7_decide hI 0 hs g t d z hg ht g3 t3 tm1 pt1 sm1 tl1 g2 t2 tm2 pt2 sm2 tl2 (xs (i + 1)) (nI 0) nb (by omega) hd5 hz4 hxMa hxF hxCo hxJu hxHi hxF3 hxS1 hxF2 hxS2 hg1 (by omega)) (x_cwV yX7_decide cX7_decide 3 (some .int) 2 X q453 q454 q455 q1 q456 hd_X7_decide ⟨Nat.le_of_ble_eq_true rfl, Nat.le_of_ble_eq_true rfl⟩) (by omega) hxMa rfl rfl hl.1 rfl (Nat.le_of_ble_eq_true rfl) dL_law_487 ⟨by omega, by omega⟩ (fun r1 F1 H locs hp hw => ?_)
    obtain ⟨er, hC1, hr1⟩ := hp
    have hLg1 := hLg.cg hr1 (by omega)
    have hMo1 := hMo.cg hr1 (by omega)
    refine lv_aload_n X.1 X.2.1 dL_law_490 rfl (lv_at hl 2 rfl) ?_
    refine lv_aload_n X.1 X.2.1 dL_law_491 rfl (lv_at hl 0 rfl) ?_
    refine lv_iload_n X.1 X.2.1 dL_law_492 rfl (lv_at hl 3 rfl) ?_
    refine lv_iconst (v := nI 1) X.1 X.2.1 dL_law_493 (by decide) ?_
    refine lv_iadd X.1 X.2.1 dL_law_494 ?_
    refine x_top (nI_add _ _) ?_
    refine x_sld X hX hbs hw (i := nI (i + 1)) (j := i + 1) rfl (by omega) hL dL_law_495 ?_
    refine lv_aload_n X.1 X.2.1 dL_law_496 rfl (lv_at hl 0 rfl) ?_
    refine lv_iload_n X.1 X.2.1 dL_law_497 rfl (lv_at hl 3 rfl) ?_
    refine lv_iconst (v := nI 2) X.1 X.2.1 dL_law_498 (by decide) ?_
    refine lv_iadd X.1 X.2.1 dL_law_499 ?_
    refine x_top (nI_add _ _) ?_
    refine x_sld X hX hbs hw (i := nI (i + 2)) (j := i + 2) rfl (by omega) hL dL_law_500 ?_
    refine lv_if_eq (tgt := 508) X.1 X.2.1 dL_law_501 (by decide) (fun c8 => ?_) (fun c8 => absurd c7 c8)
    refine lv_iconst (v := nI 0) X.1 X.2.1 dL_law_508 (by decide) ?_
    refine x_callV X hK hw (k := 114) (As := [.int (xs (i + 1)), .int (nI 0)]) (rest := [.int r1]) (k_X8_decide hI 114 a h sn txm k (xs (i + 1)) (nI 0) nb nr np z (by omega) hMo1 h1 hb9 h2 hr6 h3 hp10 hpr hV.pb1 hkz hz4) (x_cwV yX8_decide cX8_decide 3 (some .int) 2 X q1064 q1065 q1066 q14 q1067 hd_X8_decide ⟨Nat.le_of_ble_eq_true rfl, Nat.le_of_ble_eq_true rfl⟩) (by omega) hMo1.1 rfl rfl hl.1 rfl (Nat.le_of_ble_eq_true rfl) dL_law_509 ⟨by omega, by omega⟩ (fun r2 F2 H locs hp hw => ?_)
    obtain ⟨er2, hMo2, hr2⟩ := hp
    have hC2 := hC1.cg hr2 (by omega)
    have hLg2 := hLg1.cg hr2 (by omega)
    obtain ⟨er3, hJ2⟩ := jr_step hJ (st_decide hV hE (xs (i + 1)) (nI 0))
    refine lv_icmp_eq (tgt := 971) X.1 X.2.1 dL_law_512 (by decide) (fun c9 => ?_) (fun c9 => absurd (er.trans (er3.trans er2.symm)) c9)
    exact W.widen (Nat.le_succ _) (by omega) (kk _ _ _ _ _ ⟨hI, hw, hl, _, _, _, _, _, _, _, _, _, _, _, _, _, _, _, _, hC2, hLg2, hMo2, hJ2⟩)
  · refine lv_iconst (v := nI 1) X.1 X.2.1 dL_law_482 (by decide) ?_
    refine lv_goto (tgt := 487) X.1 X.2.1 dL_law_483 (by decide) ?_
    refine x_callV X hK hw (k := 0) (As := [.int (xs (i + 1)), .int (nI 1)]) (rest := []) (k_X7_decide hI 0 hs g t d z hg ht g3 t3 tm1 pt1 sm1 tl1 g2 t2 tm2 pt2 sm2 tl2 (xs (i + 1)) (nI 1) nb (by omega) hd5 hz4 hxMa hxF hxCo hxJu hxHi hxF3 hxS1 hxF2 hxS2 hg1 (by omega)) (x_cwV yX7_decide cX7_decide 3 (some .int) 2 X q453 q454 q455 q1 q456 hd_X7_decide ⟨Nat.le_of_ble_eq_true rfl, Nat.le_of_ble_eq_true rfl⟩) (by omega) hxMa rfl rfl hl.1 rfl (Nat.le_of_ble_eq_true rfl) dL_law_487 ⟨by omega, by omega⟩ (fun r1 F1 H locs hp hw => ?_)
    obtain ⟨er, hC1, hr1⟩ := hp
    have hLg1 := hLg.cg hr1 (by omega)
    have hMo1 := hMo.cg hr1 (by omega)
    refine lv_aload_n X.1 X.2.1 dL_law_490 rfl (lv_at hl 2 rfl) ?_
    refine lv_aload_n X.1 X.2.1 dL_law_491 rfl (lv_at hl 0 rfl) ?_
    refine lv_iload_n X.1 X.2.1 dL_law_492 rfl (lv_at hl 3 rfl) ?_
    refine lv_iconst (v := nI 1) X.1 X.2.1 dL_law_493 (by decide) ?_
    refine lv_iadd X.1 X.2.1 dL_law_494 ?_
    refine x_top (nI_add _ _) ?_
    refine x_sld X hX hbs hw (i := nI (i + 1)) (j := i + 1) rfl (by omega) hL dL_law_495 ?_
    refine lv_aload_n X.1 X.2.1 dL_law_496 rfl (lv_at hl 0 rfl) ?_
    refine lv_iload_n X.1 X.2.1 dL_law_497 rfl (lv_at hl 3 rfl) ?_
    refine lv_iconst (v := nI 2) X.1 X.2.1 dL_law_498 (by decide) ?_
    refine lv_iadd X.1 X.2.1 dL_law_499 ?_
    refine x_top (nI_add _ _) ?_
    refine x_sld X hX hbs hw (i := nI (i + 2)) (j := i + 2) rfl (by omega) hL dL_law_500 ?_
    refine lv_if_eq (tgt := 508) X.1 X.2.1 dL_law_501 (by decide) (fun c8 => absurd c8 c7) (fun c8 => ?_)
    refine lv_iconst (v := nI 1) X.1 X.2.1 dL_law_504 (by decide) ?_
    refine lv_goto (tgt := 509) X.1 X.2.1 dL_law_505 (by decide) ?_
    refine x_callV X hK hw (k := 114) (As := [.int (xs (i + 1)), .int (nI 1)]) (rest := [.int r1]) (k_X8_decide hI 114 a h sn txm k (xs (i + 1)) (nI 1) nb nr np z (by omega) hMo1 h1 hb9 h2 hr6 h3 hp10 hpr hV.pb1 hkz hz4) (x_cwV yX8_decide cX8_decide 3 (some .int) 2 X q1064 q1065 q1066 q14 q1067 hd_X8_decide ⟨Nat.le_of_ble_eq_true rfl, Nat.le_of_ble_eq_true rfl⟩) (by omega) hMo1.1 rfl rfl hl.1 rfl (Nat.le_of_ble_eq_true rfl) dL_law_509 ⟨by omega, by omega⟩ (fun r2 F2 H locs hp hw => ?_)
    obtain ⟨er2, hMo2, hr2⟩ := hp
    have hC2 := hC1.cg hr2 (by omega)
    have hLg2 := hLg1.cg hr2 (by omega)
    obtain ⟨er3, hJ2⟩ := jr_step hJ (st_decide hV hE (xs (i + 1)) (nI 1))
    refine lv_icmp_eq (tgt := 971) X.1 X.2.1 dL_law_512 (by decide) (fun c9 => ?_) (fun c9 => absurd (er.trans (er3.trans er2.symm)) c9)
    exact W.widen (Nat.le_succ _) (by omega) (kk _ _ _ _ _ ⟨hI, hw, hl, _, _, _, _, _, _, _, _, _, _, _, _, _, _, _, _, hC2, hLg2, hMo2, hJ2⟩)
set_option maxHeartbeats 4000000 in
set_option maxRecDepth 100000 in
theorem lc_append {p : Program} {l : Launch} {e : Env} {s : State} {m : MethodId} {below : List Frame} {meth : Method} {c : Code} {Q : State → Prop} {D : va_G} {cI cB cS : ClassId} {b L cn i cells slots : Nat} {xs : Nat → Int32} (X : CallFix p m c cL_law 8 s #[Value.ref b] lw_g "RegattaTimesLaw") (hK : KW D cI cB cS (lA s) s) (hX : va_X b L xs s s.heap) (hbs : b < s.heap.size) (hcn : cn < 512) (hiL : i + 4 ≤ L) (hL : L ≤ 2048) (hf : cells + 1 ≤ room_1.cells ∧ slots + 162 ≤ room_1.slots) (kk : LK p l e s m below meth c Q D cI cB cS b (cn + 1) i (cells + 1) (slots + 162) 971) : LK p l e s m below meth c Q D cI cB cS b cn i cells slots 550 := by
  intro ad F H locs ls hh
  obtain ⟨hI, hw, hl, hs, g, t, d, z, hg, ht, g3, t3, n, tx, a, h, sn, txm, k, hC, hLg, hMo, hJ⟩ := hh
  have hJ0 := hJ
  obtain ⟨hd5, hz4, hkz, ⟨nb, nr, np, ck, hV, hE⟩, -, -, -, hn80, hkn, htx⟩ := hJ0
  have hC0 := hC
  obtain ⟨hxMa, hxF, hxCo, hxJu, hxHi, hxF3, ⟨tm1, pt1, sm1, tl1, hxS1⟩, ⟨g2, t2, hxF2⟩, tm2, pt2, sm2, tl2, hxS2⟩ := hC0
  have hV0 := hV
  obtain ⟨h1, hb9, h2, hr6, h3, hp10, hpr, -⟩ := hV0
  have hg1 : g 1 = nI nb := hE.2.1.trans h1
  have hf1 : cells ≤ room_1.cells := by omega
  have hf2 : slots ≤ room_1.slots := by omega
  refine lv_aload_n X.1 X.2.1 dL_law_550 rfl (lv_at hl 1 rfl) ?_
  refine lv_aload_n X.1 X.2.1 dL_law_551 rfl (lv_at hl 0 rfl) ?_
  refine lv_iload_n X.1 X.2.1 dL_law_552 rfl (lv_at hl 3 rfl) ?_
  refine lv_iconst (v := nI 1) X.1 X.2.1 dL_law_553 (by decide) ?_
  refine lv_iadd X.1 X.2.1 dL_law_554 ?_
  refine x_top (nI_add _ _) ?_
  refine x_sld X hX hbs hw (i := nI (i + 1)) (j := i + 1) rfl (by omega) hL dL_law_555 ?_
  refine x_callVgi X hK hw (k := 0) (As := [.int (xs (i + 1))]) (rest := []) (k_X7_append hI 0 n hs tx (xs (i + 1)) (by omega) hn80 hxMa hLg) (x_cwV2 yX7_append cX7_append 2 (some .int) 1 X q476 q477 q478 q1 q479 hd_X7_append ⟨Nat.le_of_ble_eq_true rfl, Nat.le_of_ble_eq_true rfl⟩) (by omega) hxMa rfl rfl hl.1 rfl (Nat.le_of_ble_eq_true rfl) dL_law_556 hf (fun r1 ad1 F1 H1 locs1 hp hI1 hA1 hw1 => ?_)
  obtain ⟨er, hLg1, hA, hFF⟩ := hp
  have hw := hw1
  have hC1 := hC.adc (fun k hk => hA k (by omega)) (fun k hk1 hk2 => hFF k (by omega) (by omega))
  have hMo1 := hMo.adc (fun k hk => hA k (by omega)) (fun k hk1 hk2 => hFF k (by omega) (by omega))
  rw [← hA 0 (by omega), ← hA 114 (by omega)] at hl
  refine lv_aload_n X.1 X.2.1 dL_law_559 rfl (lv_at hl 2 rfl) ?_
  refine lv_aload_n X.1 X.2.1 dL_law_560 rfl (lv_at hl 0 rfl) ?_
  refine lv_iload_n X.1 X.2.1 dL_law_561 rfl (lv_at hl 3 rfl) ?_
  refine lv_iconst (v := nI 1) X.1 X.2.1 dL_law_562 (by decide) ?_
  refine lv_iadd X.1 X.2.1 dL_law_563 ?_
  refine x_top (nI_add _ _) ?_
  refine x_sld X hX hbs hw (i := nI (i + 1)) (j := i + 1) rfl (by omega) hL dL_law_564 ?_
  refine x_callV X hK hw (k := 114) (As := [.int (xs (i + 1))]) (rest := [.int r1]) (k_X8_append hI1 114 a h sn txm k (xs (i + 1)) n (by omega) hMo1 hkn hn80) (x_cwV yX8_append cX8_append 2 (some .int) 1 X q1076 q1077 q1078 q14 q1079 hd_X8_append ⟨Nat.le_of_ble_eq_true rfl, Nat.le_of_ble_eq_true rfl⟩) (by omega) hMo1.1 rfl rfl hl.1 rfl (Nat.le_of_ble_eq_true rfl) dL_law_565 ⟨by omega, by omega⟩ (fun r2 F2 H2 locs2 hp hw2 => ?_)
  obtain ⟨er2, hMo2, hr2⟩ := hp
  have hw := hw2
  have hC2 := hC1.cg hr2 (by omega)
  have hLg2 := hLg1.cg hr2 (by omega)
  obtain ⟨er3, hJ2⟩ := jr_append hJ (xs (i + 1))
  refine lv_icmp_eq (tgt := 971) X.1 X.2.1 dL_law_568 (by decide) (fun c9 => ?_) (fun c9 => absurd (er.trans (er3.trans er2.symm)) c9)
  exact kk _ _ _ _ _ ⟨hI1, hw, hl, _, _, _, _, _, _, _, _, _, _, _, _, _, _, _, _, hC2, hLg2, hMo2, hJ2.mono (Nat.le_succ _)⟩
set_option maxHeartbeats 4000000 in
set_option maxRecDepth 100000 in
theorem lc_clearText {p : Program} {l : Launch} {e : Env} {s : State} {m : MethodId} {below : List Frame} {meth : Method} {c : Code} {Q : State → Prop} {D : va_G} {cI cB cS : ClassId} {b L cn i cells slots : Nat} {xs : Nat → Int32} (X : CallFix p m c cL_law 8 s #[Value.ref b] lw_g "RegattaTimesLaw") (hK : KW D cI cB cS (lA s) s) (hX : va_X b L xs s s.heap) (hbs : b < s.heap.size) (hcn : cn < 512) (hiL : i + 4 ≤ L) (hL : L ≤ 2048) (hf : cells + 1 ≤ room_1.cells ∧ slots + 162 ≤ room_1.slots) (kk : LK p l e s m below meth c Q D cI cB cS b (cn + 1) i (cells + 1) (slots + 162) 971) : LK p l e s m below meth c Q D cI cB cS b cn i cells slots 573 := by
  intro ad F H locs ls hh
  obtain ⟨hI, hw, hl, hs, g, t, d, z, hg, ht, g3, t3, n, tx, a, h, sn, txm, k, hC, hLg, hMo, hJ⟩ := hh
  have hJ0 := hJ
  obtain ⟨hd5, hz4, hkz, ⟨nb, nr, np, ck, hV, hE⟩, -, -, -, hn80, hkn, htx⟩ := hJ0
  have hC0 := hC
  obtain ⟨hxMa, hxF, hxCo, hxJu, hxHi, hxF3, ⟨tm1, pt1, sm1, tl1, hxS1⟩, ⟨g2, t2, hxF2⟩, tm2, pt2, sm2, tl2, hxS2⟩ := hC0
  have hV0 := hV
  obtain ⟨h1, hb9, h2, hr6, h3, hp10, hpr, -⟩ := hV0
  have hg1 : g 1 = nI nb := hE.2.1.trans h1
  have hf1 : cells ≤ room_1.cells := by omega
  have hf2 : slots ≤ room_1.slots := by omega
  refine lv_aload_n X.1 X.2.1 dL_law_573 rfl (lv_at hl 1 rfl) ?_
  refine x_callV X hK hw (k := 0) (As := []) (rest := []) (k_X7_clearText hI 0 n hs tx (by omega) hxMa hLg) (x_cwV yX7_clearText cX7_clearText 1 (some .int) 0 X q580 q581 q582 q1 q583 hd_X7_clearText ⟨Nat.le_of_ble_eq_true rfl, Nat.le_of_ble_eq_true rfl⟩) (by omega) hxMa rfl rfl hl.1 rfl (Nat.le_of_ble_eq_true rfl) dL_law_574 ⟨by omega, by omega⟩ (fun r1 F1 H1 locs1 hp hw1 => ?_)
  obtain ⟨er, hLg1, hr1⟩ := hp
  have hw := hw1
  have hC1 := hC.cg hr1 (by omega)
  have hMo1 := hMo.cg hr1 (by omega)
  refine lv_aload_n X.1 X.2.1 dL_law_577 rfl (lv_at hl 2 rfl) ?_
  refine x_callV X hK hw (k := 114) (As := []) (rest := [.int r1]) (k_X8_clearText hI 114 a h sn txm k (by omega) hMo1) (x_cwV yX8_clearText cX8_clearText 2 (some .int) 0 X q1080 q1081 q1082 q14 q1083 hd_X8_clearText ⟨Nat.le_of_ble_eq_true rfl, Nat.le_of_ble_eq_true rfl⟩) (by omega) hMo1.1 rfl rfl hl.1 rfl (Nat.le_of_ble_eq_true rfl) dL_law_578 ⟨by omega, by omega⟩ (fun r2 F2 H2 locs2 hp hw2 => ?_)
  obtain ⟨er2, hMo2, hr2⟩ := hp
  have hw := hw2
  have hC2 := hC1.cg hr2 (by omega)
  have hLg2 := hLg1.cg hr2 (by omega)
  obtain ⟨er3, hJ2⟩ := jr_clear hJ
  refine lv_icmp_eq (tgt := 971) X.1 X.2.1 dL_law_581 (by decide) (fun c9 => ?_) (fun c9 => absurd (er.trans (er3.trans er2.symm)) c9)
  exact W.widen (Nat.le_succ _) (by omega) (kk _ _ _ _ _ ⟨hI, hw, hl, _, _, _, _, _, _, _, _, _, _, _, _, _, _, _, _, hC2, hLg2, hMo2, hJ2.mono (Nat.le_succ _)⟩)
set_option maxHeartbeats 4000000 in
set_option maxRecDepth 100000 in
theorem lc_save {p : Program} {l : Launch} {e : Env} {s : State} {m : MethodId} {below : List Frame} {meth : Method} {c : Code} {Q : State → Prop} {D : va_G} {cI cB cS : ClassId} {b L cn i cells slots : Nat} {xs : Nat → Int32} (X : CallFix p m c cL_law 8 s #[Value.ref b] lw_g "RegattaTimesLaw") (hK : KW D cI cB cS (lA s) s) (hX : va_X b L xs s s.heap) (hbs : b < s.heap.size) (hcn : cn < 512) (hiL : i + 4 ≤ L) (hL : L ≤ 2048) (hf : cells + 1 ≤ room_1.cells ∧ slots + 162 ≤ room_1.slots) (kk : LK p l e s m below meth c Q D cI cB cS b (cn + 1) i (cells + 1) (slots + 162) 971) : LK p l e s m below meth c Q D cI cB cS b cn i cells slots 625 := by
  intro ad F H locs ls hh
  obtain ⟨hI, hw, hl, hs, g, t, d, z, hg, ht, g3, t3, n, tx, a, h, sn, txm, k, hC, hLg, hMo, hJ⟩ := hh
  have hJ0 := hJ
  obtain ⟨hd5, hz4, hkz, ⟨nb, nr, np, ck, hV, hE⟩, -, -, -, hn80, hkn, htx⟩ := hJ0
  have hC0 := hC
  obtain ⟨hxMa, hxF, hxCo, hxJu, hxHi, hxF3, ⟨tm1, pt1, sm1, tl1, hxS1⟩, ⟨g2, t2, hxF2⟩, tm2, pt2, sm2, tl2, hxS2⟩ := hC0
  have hV0 := hV
  obtain ⟨h1, hb9, h2, hr6, h3, hp10, hpr, -⟩ := hV0
  have hg1 : g 1 = nI nb := hE.2.1.trans h1
  have hf1 : cells ≤ room_1.cells := by omega
  have hf2 : slots ≤ room_1.slots := by omega
  refine lv_aload_n X.1 X.2.1 dL_law_625 rfl (lv_at hl 1 rfl) ?_
  refine x_callV X hK hw (k := 0) (As := []) (rest := []) (k_X7_save hI 0 hs g t d z hg ht g3 t3 tm1 pt1 sm1 tl1 g2 t2 tm2 pt2 sm2 tl2 (by omega) hd5 hz4 hxMa hxF hxCo hxJu hxHi hxF3 hxS1 hxF2 hxS2) (x_cwV yX7_save cX7_save 1 (some .int) 0 X q686 q687 q688 q1 q689 hd_X7_save ⟨Nat.le_of_ble_eq_true rfl, Nat.le_of_ble_eq_true rfl⟩) (by omega) hxMa rfl rfl hl.1 rfl (Nat.le_of_ble_eq_true rfl) dL_law_626 ⟨by omega, by omega⟩ (fun r1 F1 H1 locs1 hp hw1 => ?_)
  obtain ⟨er, hC1, hr1⟩ := hp
  have hw := hw1
  have hLg1 := hLg.cg hr1 (by omega)
  have hMo1 := hMo.cg hr1 (by omega)
  refine lv_aload_n X.1 X.2.1 dL_law_629 rfl (lv_at hl 2 rfl) ?_
  refine x_callV X hK hw (k := 114) (As := []) (rest := [.int r1]) (k_X8_save hI 114 a h sn txm k (by omega) hMo1) (x_cwV yX8_save cX8_save 1 (some .int) 0 X q1128 q1129 q1130 q14 q1131 hd_X8_save ⟨Nat.le_of_ble_eq_true rfl, Nat.le_of_ble_eq_true rfl⟩) (by omega) hMo1.1 rfl rfl hl.1 rfl (Nat.le_of_ble_eq_true rfl) dL_law_630 ⟨by omega, by omega⟩ (fun r2 F2 H2 locs2 hp hw2 => ?_)
  obtain ⟨er2, hMo2, hr2⟩ := hp
  have hw := hw2
  have hC2 := hC1.cg hr2 (by omega)
  have hLg2 := hLg1.cg hr2 (by omega)
  obtain ⟨er3, hJ2⟩ := jr_save hJ
  refine lv_icmp_eq (tgt := 971) X.1 X.2.1 dL_law_633 (by decide) (fun c9 => ?_) (fun c9 => absurd (er.trans (er3.trans er2.symm)) c9)
  exact W.widen (Nat.le_succ _) (by omega) (kk _ _ _ _ _ ⟨hI, hw, hl, _, _, _, _, _, _, _, _, _, _, _, _, _, _, _, _, hC2, hLg2, hMo2, hJ2.mono (Nat.le_succ _)⟩)
set_option maxHeartbeats 4000000 in
set_option maxRecDepth 100000 in
theorem lc_restore {p : Program} {l : Launch} {e : Env} {s : State} {m : MethodId} {below : List Frame} {meth : Method} {c : Code} {Q : State → Prop} {D : va_G} {cI cB cS : ClassId} {b L cn i cells slots : Nat} {xs : Nat → Int32} (X : CallFix p m c cL_law 8 s #[Value.ref b] lw_g "RegattaTimesLaw") (hK : KW D cI cB cS (lA s) s) (hX : va_X b L xs s s.heap) (hbs : b < s.heap.size) (hcn : cn < 512) (hiL : i + 4 ≤ L) (hL : L ≤ 2048) (hf : cells + 1 ≤ room_1.cells ∧ slots + 162 ≤ room_1.slots) (kk : LK p l e s m below meth c Q D cI cB cS b (cn + 1) i (cells + 1) (slots + 162) 971) : LK p l e s m below meth c Q D cI cB cS b cn i cells slots 638 := by
  intro ad F H locs ls hh
  obtain ⟨hI, hw, hl, hs, g, t, d, z, hg, ht, g3, t3, n, tx, a, h, sn, txm, k, hC, hLg, hMo, hJ⟩ := hh
  have hJ0 := hJ
  obtain ⟨hd5, hz4, hkz, ⟨nb, nr, np, ck, hV, hE⟩, -, -, -, hn80, hkn, htx⟩ := hJ0
  have hC0 := hC
  obtain ⟨hxMa, hxF, hxCo, hxJu, hxHi, hxF3, ⟨tm1, pt1, sm1, tl1, hxS1⟩, ⟨g2, t2, hxF2⟩, tm2, pt2, sm2, tl2, hxS2⟩ := hC0
  have hV0 := hV
  obtain ⟨h1, hb9, h2, hr6, h3, hp10, hpr, -⟩ := hV0
  have hg1 : g 1 = nI nb := hE.2.1.trans h1
  have hf1 : cells ≤ room_1.cells := by omega
  have hf2 : slots ≤ room_1.slots := by omega
  refine lv_aload_n X.1 X.2.1 dL_law_638 rfl (lv_at hl 1 rfl) ?_
  refine x_callV X hK hw (k := 0) (As := []) (rest := []) (k_X7_restore hI 0 hs g t d z hg ht g3 t3 tm1 pt1 sm1 tl1 g2 t2 tm2 pt2 sm2 tl2 (by omega) hd5 hz4 hxMa hxF hxCo hxJu hxHi hxF3 hxS1 hxF2 hxS2) (x_cwV yX7_restore cX7_restore 1 (some .int) 0 X q691 q692 q693 q1 q694 hd_X7_restore ⟨Nat.le_of_ble_eq_true rfl, Nat.le_of_ble_eq_true rfl⟩) (by omega) hxMa rfl rfl hl.1 rfl (Nat.le_of_ble_eq_true rfl) dL_law_639 ⟨by omega, by omega⟩ (fun r1 F1 H1 locs1 hp hw1 => ?_)
  obtain ⟨er, hC1, hr1⟩ := hp
  have hw := hw1
  have hLg1 := hLg.cg hr1 (by omega)
  have hMo1 := hMo.cg hr1 (by omega)
  refine lv_aload_n X.1 X.2.1 dL_law_642 rfl (lv_at hl 2 rfl) ?_
  refine x_callV X hK hw (k := 114) (As := []) (rest := [.int r1]) (k_X8_restore hI 114 a h sn txm k z (by omega) hMo1 hkz hz4) (x_cwV yX8_restore cX8_restore 1 (some .int) 0 X q1132 q1133 q1134 q14 q1135 hd_X8_restore ⟨Nat.le_of_ble_eq_true rfl, Nat.le_of_ble_eq_true rfl⟩) (by omega) hMo1.1 rfl rfl hl.1 rfl (Nat.le_of_ble_eq_true rfl) dL_law_643 ⟨by omega, by omega⟩ (fun r2 F2 H2 locs2 hp hw2 => ?_)
  obtain ⟨er2, hMo2, hr2⟩ := hp
  have hw := hw2
  have hC2 := hC1.cg hr2 (by omega)
  have hLg2 := hLg1.cg hr2 (by omega)
  obtain ⟨er3, hJ2⟩ := jr_restore hJ
  refine lv_icmp_eq (tgt := 971) X.1 X.2.1 dL_law_646 (by decide) (fun c9 => ?_) (fun c9 => absurd (er.trans (er3.trans er2.symm)) c9)
  exact W.widen (Nat.le_succ _) (by omega) (kk _ _ _ _ _ ⟨hI, hw, hl, _, _, _, _, _, _, _, _, _, _, _, _, _, _, _, _, hC2, hLg2, hMo2, hJ2.mono (Nat.le_succ _)⟩)
set_option maxHeartbeats 4000000 in
set_option maxRecDepth 100000 in
theorem lc_undo {p : Program} {l : Launch} {e : Env} {s : State} {m : MethodId} {below : List Frame} {meth : Method} {c : Code} {Q : State → Prop} {D : va_G} {cI cB cS : ClassId} {b L cn i cells slots : Nat} {xs : Nat → Int32} (X : CallFix p m c cL_law 8 s #[Value.ref b] lw_g "RegattaTimesLaw") (hK : KW D cI cB cS (lA s) s) (hX : va_X b L xs s s.heap) (hbs : b < s.heap.size) (hcn : cn < 512) (hiL : i + 4 ≤ L) (hL : L ≤ 2048) (hf : cells + 1 ≤ room_1.cells ∧ slots + 162 ≤ room_1.slots) (kk : LK p l e s m below meth c Q D cI cB cS b (cn + 1) i (cells + 1) (slots + 162) 971) : LK p l e s m below meth c Q D cI cB cS b cn i cells slots 612 := by
  intro ad F H locs ls hh
  obtain ⟨hI, hw, hl, hs, g, t, d, z, hg, ht, g3, t3, n, tx, a, h, sn, txm, k, hC, hLg, hMo, hJ⟩ := hh
  have hJ0 := hJ
  obtain ⟨hd5, hz4, hkz, ⟨nb, nr, np, ck, hV, hE⟩, -, -, -, hn80, hkn, htx⟩ := hJ0
  have hC0 := hC
  obtain ⟨hxMa, hxF, hxCo, hxJu, hxHi, hxF3, ⟨tm1, pt1, sm1, tl1, hxS1⟩, ⟨g2, t2, hxF2⟩, tm2, pt2, sm2, tl2, hxS2⟩ := hC0
  have hV0 := hV
  obtain ⟨h1, hb9, h2, hr6, h3, hp10, hpr, -⟩ := hV0
  have hg1 : g 1 = nI nb := hE.2.1.trans h1
  have hf1 : cells ≤ room_1.cells := by omega
  have hf2 : slots ≤ room_1.slots := by omega
  refine lv_aload_n X.1 X.2.1 dL_law_612 rfl (lv_at hl 1 rfl) ?_
  refine x_callV X hK hw (k := 0) (As := []) (rest := []) (k_X7_undo hI 0 hs g t d z hg ht g3 t3 tm1 pt1 sm1 tl1 g2 t2 tm2 pt2 sm2 tl2 (by omega) hd5 hz4 hxMa hxF hxCo hxJu hxHi hxF3 hxS1 hxF2 hxS2) (x_cwV yX7_undo cX7_undo 1 (some .int) 0 X q678 q679 q680 q1 q681 hd_X7_undo ⟨Nat.le_of_ble_eq_true rfl, Nat.le_of_ble_eq_true rfl⟩) (by omega) hxMa rfl rfl hl.1 rfl (Nat.le_of_ble_eq_true rfl) dL_law_613 ⟨by omega, by omega⟩ (fun r1 F1 H1 locs1 hp hw1 => ?_)
  obtain ⟨u0, u1⟩ := jr_undo hJ
  rcases hp with ⟨z0, er, rfl⟩ | ⟨z0, er, hC1, hr1⟩
  · have hw := hw1
    refine lv_aload_n X.1 X.2.1 dL_law_616 rfl (lv_at hl 2 rfl) ?_
    refine x_callV X hK hw (k := 114) (As := []) (rest := [.int r1]) (k_X8_undo hI 114 a h sn txm k z (by omega) hMo hkz hz4) (x_cwV yX8_undo cX8_undo 1 (some .int) 0 X q1124 q1125 q1126 q14 q1127 hd_X8_undo ⟨Nat.le_of_ble_eq_true rfl, Nat.le_of_ble_eq_true rfl⟩) (by omega) hMo.1 rfl rfl hl.1 rfl (Nat.le_of_ble_eq_true rfl) dL_law_617 ⟨by omega, by omega⟩ (fun r2 F2 H2 locs2 hp hw2 => ?_)
    obtain ⟨er2, hMo2, hr2⟩ := hp
    have hw := hw2
    have hC2 := hC.cg hr2 (by omega)
    have hLg2 := hLg.cg hr2 (by omega)
    rw [u0 z0] at er2 hMo2
    refine lv_icmp_eq (tgt := 971) X.1 X.2.1 dL_law_620 (by decide) (fun c9 => ?_) (fun c9 => absurd (er.trans er2.symm) c9)
    exact W.widen (Nat.le_succ _) (by omega) (kk _ _ _ _ _ ⟨hI, hw, hl, _, _, _, _, _, _, _, _, _, _, _, _, _, _, _, _, hC2, hLg2, hMo2, hJ.mono (Nat.le_succ _)⟩)
  · have hw := hw1
    have hLg1 := hLg.cg hr1 (by omega)
    have hMo1 := hMo.cg hr1 (by omega)
    refine lv_aload_n X.1 X.2.1 dL_law_616 rfl (lv_at hl 2 rfl) ?_
    refine x_callV X hK hw (k := 114) (As := []) (rest := [.int r1]) (k_X8_undo hI 114 a h sn txm k z (by omega) hMo1 hkz hz4) (x_cwV yX8_undo cX8_undo 1 (some .int) 0 X q1124 q1125 q1126 q14 q1127 hd_X8_undo ⟨Nat.le_of_ble_eq_true rfl, Nat.le_of_ble_eq_true rfl⟩) (by omega) hMo1.1 rfl rfl hl.1 rfl (Nat.le_of_ble_eq_true rfl) dL_law_617 ⟨by omega, by omega⟩ (fun r2 F2 H2 locs2 hp hw2 => ?_)
    obtain ⟨er2, hMo2, hr2⟩ := hp
    have hw := hw2
    have hC2 := hC1.cg hr2 (by omega)
    have hLg2 := hLg1.cg hr2 (by omega)
    obtain ⟨a2, e2, hJ2⟩ := u1 z0
    rw [e2] at er2 hMo2
    refine lv_icmp_eq (tgt := 971) X.1 X.2.1 dL_law_620 (by decide) (fun c9 => ?_) (fun c9 => absurd (er.trans er2.symm) c9)
    exact W.widen (Nat.le_succ _) (by omega) (kk _ _ _ _ _ ⟨hI, hw, hl, _, _, _, _, _, _, _, _, _, _, _, _, _, _, _, _, hC2, hLg2, hMo2, hJ2.mono (Nat.le_succ _)⟩)
set_option maxHeartbeats 4000000 in
set_option maxRecDepth 100000 in
theorem lc_fault {p : Program} {l : Launch} {e : Env} {s : State} {m : MethodId} {below : List Frame} {meth : Method} {c : Code} {Q : State → Prop} {D : va_G} {cI cB cS : ClassId} {b L cn i cells slots : Nat} {xs : Nat → Int32} (X : CallFix p m c cL_law 8 s #[Value.ref b] lw_g "RegattaTimesLaw") (hK : KW D cI cB cS (lA s) s) (hX : va_X b L xs s s.heap) (hbs : b < s.heap.size) (hcn : cn < 512) (hiL : i + 4 ≤ L) (hL : L ≤ 2048) (hf : cells + 1 ≤ room_1.cells ∧ slots + 162 ≤ room_1.slots) (kk : LK p l e s m below meth c Q D cI cB cS b (cn + 1) i (cells + 1) (slots + 162) 971) : LK p l e s m below meth c Q D cI cB cS b cn i cells slots 586 := by
  intro ad F H locs ls hh
  obtain ⟨hI, hw, hl, hs, g, t, d, z, hg, ht, g3, t3, n, tx, a, h, sn, txm, k, hC, hLg, hMo, hJ⟩ := hh
  have hJ0 := hJ
  obtain ⟨hd5, hz4, hkz, ⟨nb, nr, np, ck, hV, hE⟩, -, -, -, hn80, hkn, htx⟩ := hJ0
  have hC0 := hC
  obtain ⟨hxMa, hxF, hxCo, hxJu, hxHi, hxF3, ⟨tm1, pt1, sm1, tl1, hxS1⟩, ⟨g2, t2, hxF2⟩, tm2, pt2, sm2, tl2, hxS2⟩ := hC0
  have hV0 := hV
  obtain ⟨h1, hb9, h2, hr6, h3, hp10, hpr, -⟩ := hV0
  have hg1 : g 1 = nI nb := hE.2.1.trans h1
  have hf1 : cells ≤ room_1.cells := by omega
  have hf2 : slots ≤ room_1.slots := by omega
  have hLg0 := hLg
  obtain ⟨hxL, cap, ml, f, hxS, hncap, hcap160, htx7, hbyt⟩ := hLg0
  obtain ⟨f1, f2⟩ := flt hJ
  refine lv_aload_n X.1 X.2.1 dL_law_586 rfl (lv_at hl 1 rfl) ?_
  refine x_callV X hK hw (k := 0) (As := []) (rest := []) (k_X7_fault hI 0 hs g t d z hg ht g3 t3 tm1 pt1 sm1 tl1 g2 t2 tm2 pt2 sm2 tl2 cap n ml f tx (by omega) hd5 hz4 hxMa hxF hxCo hxJu hxHi hxF3 hxS1 hxF2 hxS2 (by omega) hncap hxL hxS htx7) (x_cwV yX7_fault cX7_fault 1 (some .int) 0 X q608 q609 q610 q1 q611 hd_X7_fault ⟨Nat.le_of_ble_eq_true rfl, Nat.le_of_ble_eq_true rfl⟩) (by omega) hxMa rfl rfl hl.1 rfl (Nat.le_of_ble_eq_true rfl) dL_law_587 ⟨by omega, by omega⟩ (fun r1 F1 H1 locs1 hp hw1 => ?_)
  obtain ⟨er, rfl⟩ := hp
  have hw := hw1
  refine lv_aload_n X.1 X.2.1 dL_law_590 rfl (lv_at hl 2 rfl) ?_
  refine x_callV X hK hw (k := 114) (As := []) (rest := [.int r1]) (k_X8_fault hI 114 a h sn txm k n tx (by omega) hMo hkn hn80 htx) (x_cwV yX8_fault cX8_fault 1 (some .int) 0 X q1084 q1085 q1086 q14 q1087 hd_X8_fault ⟨Nat.le_of_ble_eq_true rfl, Nat.le_of_ble_eq_true rfl⟩) (by omega) hMo.1 rfl rfl hl.1 rfl (Nat.le_of_ble_eq_true rfl) dL_law_591 ⟨by omega, by omega⟩ (fun r2 F2 H2 locs2 hp hw2 => ?_)
  obtain ⟨er2, ⟨k', hMo2, e0, e1, e2⟩, hr2⟩ := hp
  have hw := hw2
  have hC2 := hC.cg hr2 (by omega)
  have hLg2 := hLg.cg hr2 (by omega)
  have er3 : ffl tx n n 0 (nI 1) = if (pt tx n (n + 1) 0 0).1 = true then (-5) else nI (pt tx n (n + 1) 0 0).2.1 := by
    by_cases q : (pt tx n (n + 1) 0 0).1 = true
    · rw [if_pos q]; exact f1.mpr q
    · rw [if_neg q]; exact f2 q
  refine lv_icmp_eq (tgt := 971) X.1 X.2.1 dL_law_594 (by decide) (fun c9 => ?_) (fun c9 => absurd (er.trans (er3.trans er2.symm)) c9)
  exact W.widen (Nat.le_succ _) (by omega) (kk _ _ _ _ _ ⟨hI, hw, hl, _, _, _, _, _, _, _, _, _, _, _, _, _, _, _, _, hC2, hLg2, hMo2, (hJ.mono (Nat.le_succ _)).ks e0 e1 e2⟩)
set_option maxHeartbeats 4000000 in
set_option maxRecDepth 100000 in
theorem lc_run {p : Program} {l : Launch} {e : Env} {s : State} {m : MethodId} {below : List Frame} {meth : Method} {c : Code} {Q : State → Prop} {D : va_G} {cI cB cS : ClassId} {b L cn i cells slots : Nat} {xs : Nat → Int32} (X : CallFix p m c cL_law 8 s #[Value.ref b] lw_g "RegattaTimesLaw") (hK : KW D cI cB cS (lA s) s) (hX : va_X b L xs s s.heap) (hbs : b < s.heap.size) (hcn : cn < 512) (hiL : i + 4 ≤ L) (hL : L ≤ 2048) (hf : cells + 1 ≤ room_1.cells ∧ slots + 162 ≤ room_1.slots) (kk : LK p l e s m below meth c Q D cI cB cS b (cn + 1) i (cells + 1) (slots + 162) 971) : LK p l e s m below meth c Q D cI cB cS b cn i cells slots 599 := by
  intro ad F H locs ls hh
  obtain ⟨hI, hw, hl, hs, g, t, d, z, hg, ht, g3, t3, n, tx, a, h, sn, txm, k, hC, hLg, hMo, hJ⟩ := hh
  have hJ0 := hJ
  obtain ⟨hd5, hz4, hkz, ⟨nb, nr, np, ck, hV, hE⟩, -, -, -, hn80, hkn, htx⟩ := hJ0
  have hC0 := hC
  obtain ⟨hxMa, hxF, hxCo, hxJu, hxHi, hxF3, ⟨tm1, pt1, sm1, tl1, hxS1⟩, ⟨g2, t2, hxF2⟩, tm2, pt2, sm2, tl2, hxS2⟩ := hC0
  have hV0 := hV
  obtain ⟨h1, hb9, h2, hr6, h3, hp10, hpr, -⟩ := hV0
  have hg1 : g 1 = nI nb := hE.2.1.trans h1
  have hf1 : cells ≤ room_1.cells := by omega
  have hf2 : slots ≤ room_1.slots := by omega
  have hLg0 := hLg
  obtain ⟨hxL, cap, ml, f, hxS, hncap, hcap160, htx7, hbyt⟩ := hLg0
  obtain ⟨f1, f2⟩ := flt hJ
  refine lv_aload_n X.1 X.2.1 dL_law_599 rfl (lv_at hl 1 rfl) ?_
  refine x_callV X hK hw (k := 0) (As := []) (rest := []) (k_X7_run hI 0 hs g t d z hg ht g3 t3 tm1 pt1 sm1 tl1 g2 t2 tm2 pt2 sm2 tl2 cap n ml f tx (by omega) hd5 hz4 hxMa hxF hxCo hxJu hxHi hxF3 hxS1 hxF2 hxS2 (by omega) hncap hxL hxS htx7 (by omega)) (x_cwV yX7_run cX7_run 5 (some .int) 0 X q648 q649 q650 q1 q651 hd_X7_run ⟨Nat.le_of_ble_eq_true rfl, Nat.le_of_ble_eq_true rfl⟩) (by omega) hxMa rfl rfl hl.1 rfl (Nat.le_of_ble_eq_true rfl) dL_law_600 ⟨by omega, by omega⟩ (fun r1 F1 H1 locs1 hp hw1 => ?_)
  rcases hp with ⟨hff, er, hC1, hr1⟩ | ⟨hff, er, hC1, hr1⟩
  · have hw := hw1
    have hLg1 := hLg.cg hr1 (by omega)
    have hMo1 := hMo.cg hr1 (by omega)
    refine lv_aload_n X.1 X.2.1 dL_law_603 rfl (lv_at hl 2 rfl) ?_
    refine x_callV X hK hw (k := 114) (As := []) (rest := [.int r1]) (k_X8_run hI 114 a h sn txm k n tx nb nr np z (by omega) hMo1 hkn hn80 htx h1 hb9 h2 hr6 h3 hp10 hV.bu hkz hz4) (x_cwV yX8_run cX8_run 1 (some .int) 0 X q1120 q1121 q1122 q14 q1123 hd_X8_run ⟨Nat.le_of_ble_eq_true rfl, Nat.le_of_ble_eq_true rfl⟩) (by omega) hMo1.1 rfl rfl hl.1 rfl (Nat.le_of_ble_eq_true rfl) dL_law_604 ⟨by omega, by omega⟩ (fun r2 F2 H2 locs2 hp hw2 => ?_)
    rcases hp with ⟨hpt, er2, ⟨k', hMo2, e0, e1, e2⟩, hr2⟩ | ⟨hpt, er2, ⟨k', hMo2, e0, e1, e2⟩, hr2⟩
    · have hw := hw2
      have hC2 := hC1.cg hr2 (by omega)
      have hLg2 := hLg1.cg hr2 (by omega)
      rw [f2 hpt] at er
      refine lv_icmp_eq (tgt := 971) X.1 X.2.1 dL_law_607 (by decide) (fun c9 => ?_) (fun c9 => absurd (er.trans er2.symm) c9)
      exact W.widen (Nat.le_succ _) (by omega) (kk _ _ _ _ _ ⟨hI, hw, hl, _, _, _, _, _, _, _, _, _, _, _, _, _, _, _, _, hC2, hLg2, hMo2, (hJ.mono (Nat.le_succ _)).ks e0 e1 e2⟩)
    · exact absurd (f1.mpr hpt) hff
  · have hw := hw1
    have hLg1 := hLg.cg hr1 (by omega)
    have hMo1 := hMo.cg hr1 (by omega)
    refine lv_aload_n X.1 X.2.1 dL_law_603 rfl (lv_at hl 2 rfl) ?_
    refine x_callV X hK hw (k := 114) (As := []) (rest := [.int r1]) (k_X8_run hI 114 a h sn txm k n tx nb nr np z (by omega) hMo1 hkn hn80 htx h1 hb9 h2 hr6 h3 hp10 hV.bu hkz hz4) (x_cwV yX8_run cX8_run 1 (some .int) 0 X q1120 q1121 q1122 q14 q1123 hd_X8_run ⟨Nat.le_of_ble_eq_true rfl, Nat.le_of_ble_eq_true rfl⟩) (by omega) hMo1.1 rfl rfl hl.1 rfl (Nat.le_of_ble_eq_true rfl) dL_law_604 ⟨by omega, by omega⟩ (fun r2 F2 H2 locs2 hp hw2 => ?_)
    rcases hp with ⟨hpt, er2, ⟨k', hMo2, e0, e1, e2⟩, hr2⟩ | ⟨hpt, er2, ⟨k', hMo2, e0, e1, e2⟩, hr2⟩
    · exact absurd (f1.mp hff) hpt
    · have hw := hw2
      have hC2 := hC1.cg hr2 (by omega)
      have hLg2 := hLg1.cg hr2 (by omega)
      obtain ⟨dn', g', t', a', np', ck', E1, E2, -, hV', hE'⟩ := run_ok (by omega) hn80 (fun j hj => (htx j hj).2) (n + 1) 0 0 0 g t a np ck hV hE (Nat.zero_le _) (by omega) hpt
      rw [Nat.sub_zero] at E1
      rw [E1] at er hC2
      rw [E2] at er2 hMo2
      have er4 : r2 = nI dn' := er2.trans (if_pos rfl)
      refine lv_icmp_eq (tgt := 971) X.1 X.2.1 dL_law_607 (by decide) (fun c9 => ?_) (fun c9 => absurd (er.trans er4.symm) c9)
      exact W.widen (Nat.le_succ _) (by omega) (kk _ _ _ _ _ ⟨hI, hw, hl, _, _, _, _, _, _, _, _, _, _, _, _, _, _, _, _, hC2, hLg2, hMo2, jr_run hJ hV' hE' e0 e1 e2⟩)
