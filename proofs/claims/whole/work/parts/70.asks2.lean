theorem hd_X7_result : yX7_result.cls = RX7 ∧ yX7_result.cls ≠ "java/lang/invoke/MethodHandle" ∧ yX7_result.cls ≠ "java/lang/invoke/VarHandle" ∧ (parseMethodDescriptor yX7_result.desc).map (fun d => d.parameters.length) = some 3 := by decide +kernel
theorem hd_X8_result : yX8_result.cls = RX8 ∧ yX8_result.cls ≠ "java/lang/invoke/MethodHandle" ∧ yX8_result.cls ≠ "java/lang/invoke/VarHandle" ∧ (parseMethodDescriptor yX8_result.desc).map (fun d => d.parameters.length) = some 3 := by decide +kernel
set_option maxHeartbeats 4000000 in
set_option maxRecDepth 100000 in
theorem lc_result {p : Program} {l : Launch} {e : Env} {s : State} {m : MethodId} {below : List Frame} {meth : Method} {c : Code} {Q : State → Prop} {D : va_G} {cI cB cS : ClassId} {b L cn i cells slots : Nat} {xs : Nat → Int32} (X : CallFix p m c cL_law 8 s #[Value.ref b] lw_g "RegattaTimesLaw") (hK : KW D cI cB cS (lA s) s) (hX : va_X b L xs s s.heap) (hbs : b < s.heap.size) (hcn : cn < 512) (hiL : i + 4 ≤ L) (hL : L ≤ 2048) (hf : cells + 1 ≤ room_1.cells ∧ slots + 162 ≤ room_1.slots) (kk : LK p l e s m below meth c Q D cI cB cS b (cn + 1) i (cells + 1) (slots + 162) 971) : LK p l e s m below meth c Q D cI cB cS b cn i cells slots 651 := by
  intro ad F H locs ls hh
  obtain ⟨hI, hw, hl, hs, g, t, d, z, hg, ht, g3, t3, n, tx, a, h, sn, txm, k, hC, hLg, hMo, hJ⟩ := hh
  have hJ0 := hJ
  obtain ⟨hd5, hz4, hkz, ⟨nb, nr, np, ck, hV, hE⟩, -, -, -, hn80, hkn, htx⟩ := hJ0
  have hC0 := hC
  obtain ⟨hxMa, hxF, hxCo, hxJu, hxHi, hxF3, ⟨tm1, pt1, sm1, tl1, hxS1⟩, ⟨g2, t2, hxF2⟩, tm2, pt2, sm2, tl2, hxS2⟩ := hC0
  have hV0 := hV
  obtain ⟨h1, hb9, h2, hr6, h3, hp10, hpr, -⟩ := hV0
  have hg1 : g 1 = nI nb := hE.2.1.trans h1
  have hf1 : cells ≤ room_1.cells := by omega
  have hf2 : slots ≤ room_1.slots := by omega
  obtain ⟨nc, hncr, hcc, hmc, hr3, -⟩ := closed_ok hV hE
  have hM := MI_of hV hmc hncr
  refine lv_aload_n X.1 X.2.1 dL_law_651 rfl (lv_at hl 1 rfl) ?_
  refine lv_aload_n X.1 X.2.1 dL_law_652 rfl (lv_at hl 0 rfl) ?_
  refine lv_iload_n X.1 X.2.1 dL_law_653 rfl (lv_at hl 3 rfl) ?_
  refine lv_iconst (v := nI 1) X.1 X.2.1 dL_law_654 (by decide) ?_
  refine lv_iadd X.1 X.2.1 dL_law_655 ?_
  refine x_top (nI_add _ _) ?_
  refine x_sld X hX hbs hw (i := nI (i + 1)) (j := i + 1) rfl (by omega) hL dL_law_656 ?_
  refine lv_aload_n X.1 X.2.1 dL_law_657 rfl (lv_at hl 0 rfl) ?_
  refine lv_iload_n X.1 X.2.1 dL_law_658 rfl (lv_at hl 3 rfl) ?_
  refine lv_iconst (v := nI 2) X.1 X.2.1 dL_law_659 (by decide) ?_
  refine lv_iadd X.1 X.2.1 dL_law_660 ?_
  refine x_top (nI_add _ _) ?_
  refine x_sld X hX hbs hw (i := nI (i + 2)) (j := i + 2) rfl (by omega) hL dL_law_661 ?_
  refine lv_aload_n X.1 X.2.1 dL_law_662 rfl (lv_at hl 0 rfl) ?_
  refine lv_iload_n X.1 X.2.1 dL_law_663 rfl (lv_at hl 3 rfl) ?_
  refine lv_iconst (v := nI 3) X.1 X.2.1 dL_law_664 (by decide) ?_
  refine lv_iadd X.1 X.2.1 dL_law_665 ?_
  refine x_top (nI_add _ _) ?_
  refine x_sld X hX hbs hw (i := nI (i + 3)) (j := i + 3) rfl (by omega) hL dL_law_666 ?_
  refine x_callV X hK hw (k := 0) (As := [.int (xs (i + 1)), .int (xs (i + 2)), .int (xs (i + 3))]) (rest := []) (k_X7_result hI 0 hs g t d z hg ht g3 t3 tm1 pt1 sm1 tl1 g2 t2 tm2 pt2 sm2 tl2 (xs (i + 1)) (xs (i + 2)) (xs (i + 3)) nb (by omega) hd5 hz4 hxMa hxF hxCo hxJu hxHi hxF3 hxS1 hxF2 hxS2 hg1 (by omega)) (x_cwV yX7_result cX7_result 4 (some .int) 3 X q695 q696 q697 q1 q698 hd_X7_result ⟨Nat.le_of_ble_eq_true rfl, Nat.le_of_ble_eq_true rfl⟩) (by omega) hxMa rfl rfl hl.1 rfl (Nat.le_of_ble_eq_true rfl) dL_law_667 ⟨by omega, by omega⟩ (fun r1 F1 H1 locs1 hp hw1 => ?_)
  obtain ⟨er, hC1, hr1⟩ := hp
  have hw := hw1
  have hLg1 := hLg.cg hr1 (by omega)
  have hMo1 := hMo.cg hr1 (by omega)
  refine lv_aload_n X.1 X.2.1 dL_law_670 rfl (lv_at hl 2 rfl) ?_
  refine lv_aload_n X.1 X.2.1 dL_law_671 rfl (lv_at hl 0 rfl) ?_
  refine lv_iload_n X.1 X.2.1 dL_law_672 rfl (lv_at hl 3 rfl) ?_
  refine lv_iconst (v := nI 1) X.1 X.2.1 dL_law_673 (by decide) ?_
  refine lv_iadd X.1 X.2.1 dL_law_674 ?_
  refine x_top (nI_add _ _) ?_
  refine x_sld X hX hbs hw (i := nI (i + 1)) (j := i + 1) rfl (by omega) hL dL_law_675 ?_
  refine lv_aload_n X.1 X.2.1 dL_law_676 rfl (lv_at hl 0 rfl) ?_
  refine lv_iload_n X.1 X.2.1 dL_law_677 rfl (lv_at hl 3 rfl) ?_
  refine lv_iconst (v := nI 2) X.1 X.2.1 dL_law_678 (by decide) ?_
  refine lv_iadd X.1 X.2.1 dL_law_679 ?_
  refine x_top (nI_add _ _) ?_
  refine x_sld X hX hbs hw (i := nI (i + 2)) (j := i + 2) rfl (by omega) hL dL_law_680 ?_
  refine lv_aload_n X.1 X.2.1 dL_law_681 rfl (lv_at hl 0 rfl) ?_
  refine lv_iload_n X.1 X.2.1 dL_law_682 rfl (lv_at hl 3 rfl) ?_
  refine lv_iconst (v := nI 3) X.1 X.2.1 dL_law_683 (by decide) ?_
  refine lv_iadd X.1 X.2.1 dL_law_684 ?_
  refine x_top (nI_add _ _) ?_
  refine x_sld X hX hbs hw (i := nI (i + 3)) (j := i + 3) rfl (by omega) hL dL_law_685 ?_
  refine x_callV X hK hw (k := 114) (As := [.int (xs (i + 1)), .int (xs (i + 2)), .int (xs (i + 3))]) (rest := [.int r1]) (k_X8_result hI 114 a h sn txm k (xs (i + 1)) (xs (i + 2)) (xs (i + 3)) nb nr np nc (by omega) hMo1 hM) (x_cwV yX8_result cX8_result 5 (some .int) 3 X q1136 q1137 q1138 q14 q1139 hd_X8_result ⟨Nat.le_of_ble_eq_true rfl, Nat.le_of_ble_eq_true rfl⟩) (by omega) hMo1.1 rfl rfl hl.1 rfl (Nat.le_of_ble_eq_true rfl) dL_law_686 ⟨by omega, by omega⟩ (fun r2 F2 H2 locs2 hp hw2 => ?_)
  obtain ⟨er2, rfl⟩ := hp
  have hw := hw2
  have er3 := q_result (by omega) hV hE hcc hncr hr3 (xs (i + 1)) (xs (i + 2)) (xs (i + 3)) tm1
  refine lv_icmp_eq (tgt := 971) X.1 X.2.1 dL_law_689 (by decide) (fun c9 => ?_) (fun c9 => absurd (er.trans (er3.trans er2.symm)) c9)
  exact W.widen (Nat.le_succ _) (by omega) (kk _ _ _ _ _ ⟨hI, hw, hl, _, _, _, _, _, _, _, _, _, _, _, _, _, _, _, _, hC1, hLg1, hMo1, hJ.mono (Nat.le_succ _)⟩)
theorem hd_X7_boat : yX7_boat.cls = RX7 ∧ yX7_boat.cls ≠ "java/lang/invoke/MethodHandle" ∧ yX7_boat.cls ≠ "java/lang/invoke/VarHandle" ∧ (parseMethodDescriptor yX7_boat.desc).map (fun d => d.parameters.length) = some 2 := by decide +kernel
theorem hd_X8_boat : yX8_boat.cls = RX8 ∧ yX8_boat.cls ≠ "java/lang/invoke/MethodHandle" ∧ yX8_boat.cls ≠ "java/lang/invoke/VarHandle" ∧ (parseMethodDescriptor yX8_boat.desc).map (fun d => d.parameters.length) = some 2 := by decide +kernel
set_option maxHeartbeats 4000000 in
set_option maxRecDepth 100000 in
theorem lc_boat {p : Program} {l : Launch} {e : Env} {s : State} {m : MethodId} {below : List Frame} {meth : Method} {c : Code} {Q : State → Prop} {D : va_G} {cI cB cS : ClassId} {b L cn i cells slots : Nat} {xs : Nat → Int32} (X : CallFix p m c cL_law 8 s #[Value.ref b] lw_g "RegattaTimesLaw") (hK : KW D cI cB cS (lA s) s) (hX : va_X b L xs s s.heap) (hbs : b < s.heap.size) (hcn : cn < 512) (hiL : i + 4 ≤ L) (hL : L ≤ 2048) (hf : cells + 1 ≤ room_1.cells ∧ slots + 162 ≤ room_1.slots) (kk : LK p l e s m below meth c Q D cI cB cS b (cn + 1) i (cells + 1) (slots + 162) 971) : LK p l e s m below meth c Q D cI cB cS b cn i cells slots 694 := by
  intro ad F H locs ls hh
  obtain ⟨hI, hw, hl, hs, g, t, d, z, hg, ht, g3, t3, n, tx, a, h, sn, txm, k, hC, hLg, hMo, hJ⟩ := hh
  have hJ0 := hJ
  obtain ⟨hd5, hz4, hkz, ⟨nb, nr, np, ck, hV, hE⟩, -, -, -, hn80, hkn, htx⟩ := hJ0
  have hC0 := hC
  obtain ⟨hxMa, hxF, hxCo, hxJu, hxHi, hxF3, ⟨tm1, pt1, sm1, tl1, hxS1⟩, ⟨g2, t2, hxF2⟩, tm2, pt2, sm2, tl2, hxS2⟩ := hC0
  have hV0 := hV
  obtain ⟨h1, hb9, h2, hr6, h3, hp10, hpr, -⟩ := hV0
  have hg1 : g 1 = nI nb := hE.2.1.trans h1
  have hf1 : cells ≤ room_1.cells := by omega
  have hf2 : slots ≤ room_1.slots := by omega
  obtain ⟨nc, hncr, hcc, hmc, hr3, -⟩ := closed_ok hV hE
  have hM := MI_of hV hmc hncr
  refine lv_aload_n X.1 X.2.1 dL_law_694 rfl (lv_at hl 1 rfl) ?_
  refine lv_aload_n X.1 X.2.1 dL_law_695 rfl (lv_at hl 0 rfl) ?_
  refine lv_iload_n X.1 X.2.1 dL_law_696 rfl (lv_at hl 3 rfl) ?_
  refine lv_iconst (v := nI 1) X.1 X.2.1 dL_law_697 (by decide) ?_
  refine lv_iadd X.1 X.2.1 dL_law_698 ?_
  refine x_top (nI_add _ _) ?_
  refine x_sld X hX hbs hw (i := nI (i + 1)) (j := i + 1) rfl (by omega) hL dL_law_699 ?_
  refine lv_aload_n X.1 X.2.1 dL_law_700 rfl (lv_at hl 0 rfl) ?_
  refine lv_iload_n X.1 X.2.1 dL_law_701 rfl (lv_at hl 3 rfl) ?_
  refine lv_iconst (v := nI 2) X.1 X.2.1 dL_law_702 (by decide) ?_
  refine lv_iadd X.1 X.2.1 dL_law_703 ?_
  refine x_top (nI_add _ _) ?_
  refine x_sld X hX hbs hw (i := nI (i + 2)) (j := i + 2) rfl (by omega) hL dL_law_704 ?_
  refine x_callV X hK hw (k := 0) (As := [.int (xs (i + 1)), .int (xs (i + 2))]) (rest := []) (k_X7_boat hI 0 hs g t d z hg ht g3 t3 tm1 pt1 sm1 tl1 g2 t2 tm2 pt2 sm2 tl2 (xs (i + 1)) (xs (i + 2)) nb nc (by omega) hd5 hz4 hxMa hxF hxCo hxJu hxHi hxF3 hxS1 hxF2 hxS2 hg1 (by omega) hcc (by omega)) (x_cwV yX7_boat cX7_boat 3 (some .int) 2 X q755 q756 q757 q1 q758 hd_X7_boat ⟨Nat.le_of_ble_eq_true rfl, Nat.le_of_ble_eq_true rfl⟩) (by omega) hxMa rfl rfl hl.1 rfl (Nat.le_of_ble_eq_true rfl) dL_law_705 ⟨by omega, by omega⟩ (fun r1 F1 H1 locs1 hp hw1 => ?_)
  obtain ⟨er, hC1, hr1⟩ := hp
  have hw := hw1
  have hLg1 := hLg.cg hr1 (by omega)
  have hMo1 := hMo.cg hr1 (by omega)
  refine lv_aload_n X.1 X.2.1 dL_law_708 rfl (lv_at hl 2 rfl) ?_
  refine lv_aload_n X.1 X.2.1 dL_law_709 rfl (lv_at hl 0 rfl) ?_
  refine lv_iload_n X.1 X.2.1 dL_law_710 rfl (lv_at hl 3 rfl) ?_
  refine lv_iconst (v := nI 1) X.1 X.2.1 dL_law_711 (by decide) ?_
  refine lv_iadd X.1 X.2.1 dL_law_712 ?_
  refine x_top (nI_add _ _) ?_
  refine x_sld X hX hbs hw (i := nI (i + 1)) (j := i + 1) rfl (by omega) hL dL_law_713 ?_
  refine lv_aload_n X.1 X.2.1 dL_law_714 rfl (lv_at hl 0 rfl) ?_
  refine lv_iload_n X.1 X.2.1 dL_law_715 rfl (lv_at hl 3 rfl) ?_
  refine lv_iconst (v := nI 2) X.1 X.2.1 dL_law_716 (by decide) ?_
  refine lv_iadd X.1 X.2.1 dL_law_717 ?_
  refine x_top (nI_add _ _) ?_
  refine x_sld X hX hbs hw (i := nI (i + 2)) (j := i + 2) rfl (by omega) hL dL_law_718 ?_
  refine x_callV X hK hw (k := 114) (As := [.int (xs (i + 1)), .int (xs (i + 2))]) (rest := [.int r1]) (k_X8_boat hI 114 a h sn txm k (xs (i + 1)) (xs (i + 2)) nb nr np nc (by omega) hMo1 hM) (x_cwV yX8_boat cX8_boat 3 (some .int) 2 X q1164 q1165 q1166 q14 q1167 hd_X8_boat ⟨Nat.le_of_ble_eq_true rfl, Nat.le_of_ble_eq_true rfl⟩) (by omega) hMo1.1 rfl rfl hl.1 rfl (Nat.le_of_ble_eq_true rfl) dL_law_719 ⟨by omega, by omega⟩ (fun r2 F2 H2 locs2 hp hw2 => ?_)
  obtain ⟨er2, rfl⟩ := hp
  have hw := hw2
  have er3 := q_boat (by omega) hV hE hcc hncr (xs (i + 1)) (xs (i + 2)) tm1 pt1 sm1 tl1
  refine lv_icmp_eq (tgt := 971) X.1 X.2.1 dL_law_722 (by decide) (fun c9 => ?_) (fun c9 => absurd (er.trans (er3.trans er2.symm)) c9)
  exact W.widen (Nat.le_succ _) (by omega) (kk _ _ _ _ _ ⟨hI, hw, hl, _, _, _, _, _, _, _, _, _, _, _, _, _, _, _, _, hC1, hLg1, hMo1, hJ.mono (Nat.le_succ _)⟩)
theorem hd_X7_ranked : yX7_ranked.cls = RX7 ∧ yX7_ranked.cls ≠ "java/lang/invoke/MethodHandle" ∧ yX7_ranked.cls ≠ "java/lang/invoke/VarHandle" ∧ (parseMethodDescriptor yX7_ranked.desc).map (fun d => d.parameters.length) = some 1 := by decide +kernel
theorem hd_X8_ranked : yX8_ranked.cls = RX8 ∧ yX8_ranked.cls ≠ "java/lang/invoke/MethodHandle" ∧ yX8_ranked.cls ≠ "java/lang/invoke/VarHandle" ∧ (parseMethodDescriptor yX8_ranked.desc).map (fun d => d.parameters.length) = some 1 := by decide +kernel
set_option maxHeartbeats 4000000 in
set_option maxRecDepth 100000 in
theorem lc_ranked {p : Program} {l : Launch} {e : Env} {s : State} {m : MethodId} {below : List Frame} {meth : Method} {c : Code} {Q : State → Prop} {D : va_G} {cI cB cS : ClassId} {b L cn i cells slots : Nat} {xs : Nat → Int32} (X : CallFix p m c cL_law 8 s #[Value.ref b] lw_g "RegattaTimesLaw") (hK : KW D cI cB cS (lA s) s) (hX : va_X b L xs s s.heap) (hbs : b < s.heap.size) (hcn : cn < 512) (hiL : i + 4 ≤ L) (hL : L ≤ 2048) (hf : cells + 1 ≤ room_1.cells ∧ slots + 162 ≤ room_1.slots) (kk : LK p l e s m below meth c Q D cI cB cS b (cn + 1) i (cells + 1) (slots + 162) 971) : LK p l e s m below meth c Q D cI cB cS b cn i cells slots 727 := by
  intro ad F H locs ls hh
  obtain ⟨hI, hw, hl, hs, g, t, d, z, hg, ht, g3, t3, n, tx, a, h, sn, txm, k, hC, hLg, hMo, hJ⟩ := hh
  have hJ0 := hJ
  obtain ⟨hd5, hz4, hkz, ⟨nb, nr, np, ck, hV, hE⟩, -, -, -, hn80, hkn, htx⟩ := hJ0
  have hC0 := hC
  obtain ⟨hxMa, hxF, hxCo, hxJu, hxHi, hxF3, ⟨tm1, pt1, sm1, tl1, hxS1⟩, ⟨g2, t2, hxF2⟩, tm2, pt2, sm2, tl2, hxS2⟩ := hC0
  have hV0 := hV
  obtain ⟨h1, hb9, h2, hr6, h3, hp10, hpr, -⟩ := hV0
  have hg1 : g 1 = nI nb := hE.2.1.trans h1
  have hf1 : cells ≤ room_1.cells := by omega
  have hf2 : slots ≤ room_1.slots := by omega
  obtain ⟨nc, hncr, hcc, hmc, hr3, -⟩ := closed_ok hV hE
  have hM := MI_of hV hmc hncr
  refine lv_aload_n X.1 X.2.1 dL_law_727 rfl (lv_at hl 1 rfl) ?_
  refine lv_aload_n X.1 X.2.1 dL_law_728 rfl (lv_at hl 0 rfl) ?_
  refine lv_iload_n X.1 X.2.1 dL_law_729 rfl (lv_at hl 3 rfl) ?_
  refine lv_iconst (v := nI 1) X.1 X.2.1 dL_law_730 (by decide) ?_
  refine lv_iadd X.1 X.2.1 dL_law_731 ?_
  refine x_top (nI_add _ _) ?_
  refine x_sld X hX hbs hw (i := nI (i + 1)) (j := i + 1) rfl (by omega) hL dL_law_732 ?_
  refine x_callV X hK hw (k := 0) (As := [.int (xs (i + 1))]) (rest := []) (k_X7_ranked hI 0 hs g t d z hg ht g3 t3 tm1 pt1 sm1 tl1 g2 t2 tm2 pt2 sm2 tl2 (xs (i + 1)) nb nc (by omega) hd5 hz4 hxMa hxF hxCo hxJu hxHi hxF3 hxS1 hxF2 hxS2 hg1 (by omega) hcc (by omega)) (x_cwV yX7_ranked cX7_ranked 3 (some .int) 1 X q800 q801 q802 q1 q803 hd_X7_ranked ⟨Nat.le_of_ble_eq_true rfl, Nat.le_of_ble_eq_true rfl⟩) (by omega) hxMa rfl rfl hl.1 rfl (Nat.le_of_ble_eq_true rfl) dL_law_733 ⟨by omega, by omega⟩ (fun r1 F1 H1 locs1 hp hw1 => ?_)
  obtain ⟨er, hC1, hr1⟩ := hp
  have hw := hw1
  have hLg1 := hLg.cg hr1 (by omega)
  have hMo1 := hMo.cg hr1 (by omega)
  refine lv_aload_n X.1 X.2.1 dL_law_736 rfl (lv_at hl 2 rfl) ?_
  refine lv_aload_n X.1 X.2.1 dL_law_737 rfl (lv_at hl 0 rfl) ?_
  refine lv_iload_n X.1 X.2.1 dL_law_738 rfl (lv_at hl 3 rfl) ?_
  refine lv_iconst (v := nI 1) X.1 X.2.1 dL_law_739 (by decide) ?_
  refine lv_iadd X.1 X.2.1 dL_law_740 ?_
  refine x_top (nI_add _ _) ?_
  refine x_sld X hX hbs hw (i := nI (i + 1)) (j := i + 1) rfl (by omega) hL dL_law_741 ?_
  refine x_callV X hK hw (k := 114) (As := [.int (xs (i + 1))]) (rest := [.int r1]) (k_X8_ranked hI 114 a h sn txm k (xs (i + 1)) nb nr np nc (by omega) hMo1 hM) (x_cwV yX8_ranked cX8_ranked 4 (some .int) 1 X q1196 q1197 q1198 q14 q1199 hd_X8_ranked ⟨Nat.le_of_ble_eq_true rfl, Nat.le_of_ble_eq_true rfl⟩) (by omega) hMo1.1 rfl rfl hl.1 rfl (Nat.le_of_ble_eq_true rfl) dL_law_742 ⟨by omega, by omega⟩ (fun r2 F2 H2 locs2 hp hw2 => ?_)
  obtain ⟨er2, rfl⟩ := hp
  have hw := hw2
  have er3 := (congrArg (fun u => if nI 1 ≤ (xs (i + 1)) then u else (-2)) (q_ranked (by omega) hV hE hcc hncr (xs (i + 1)) tm1 pt1 sm1 tl1))
  refine lv_icmp_eq (tgt := 971) X.1 X.2.1 dL_law_745 (by decide) (fun c9 => ?_) (fun c9 => absurd (er.trans (er3.trans er2.symm)) c9)
  exact W.widen (Nat.le_succ _) (by omega) (kk _ _ _ _ _ ⟨hI, hw, hl, _, _, _, _, _, _, _, _, _, _, _, _, _, _, _, _, hC1, hLg1, hMo1, hJ.mono (Nat.le_succ _)⟩)
theorem hd_X7_race : yX7_race.cls = RX7 ∧ yX7_race.cls ≠ "java/lang/invoke/MethodHandle" ∧ yX7_race.cls ≠ "java/lang/invoke/VarHandle" ∧ (parseMethodDescriptor yX7_race.desc).map (fun d => d.parameters.length) = some 2 := by decide +kernel
theorem hd_X8_race : yX8_race.cls = RX8 ∧ yX8_race.cls ≠ "java/lang/invoke/MethodHandle" ∧ yX8_race.cls ≠ "java/lang/invoke/VarHandle" ∧ (parseMethodDescriptor yX8_race.desc).map (fun d => d.parameters.length) = some 2 := by decide +kernel
set_option maxHeartbeats 4000000 in
set_option maxRecDepth 100000 in
theorem lc_race {p : Program} {l : Launch} {e : Env} {s : State} {m : MethodId} {below : List Frame} {meth : Method} {c : Code} {Q : State → Prop} {D : va_G} {cI cB cS : ClassId} {b L cn i cells slots : Nat} {xs : Nat → Int32} (X : CallFix p m c cL_law 8 s #[Value.ref b] lw_g "RegattaTimesLaw") (hK : KW D cI cB cS (lA s) s) (hX : va_X b L xs s s.heap) (hbs : b < s.heap.size) (hcn : cn < 512) (hiL : i + 4 ≤ L) (hL : L ≤ 2048) (hf : cells + 1 ≤ room_1.cells ∧ slots + 162 ≤ room_1.slots) (kk : LK p l e s m below meth c Q D cI cB cS b (cn + 1) i (cells + 1) (slots + 162) 971) : LK p l e s m below meth c Q D cI cB cS b cn i cells slots 750 := by
  intro ad F H locs ls hh
  obtain ⟨hI, hw, hl, hs, g, t, d, z, hg, ht, g3, t3, n, tx, a, h, sn, txm, k, hC, hLg, hMo, hJ⟩ := hh
  have hJ0 := hJ
  obtain ⟨hd5, hz4, hkz, ⟨nb, nr, np, ck, hV, hE⟩, -, -, -, hn80, hkn, htx⟩ := hJ0
  have hC0 := hC
  obtain ⟨hxMa, hxF, hxCo, hxJu, hxHi, hxF3, ⟨tm1, pt1, sm1, tl1, hxS1⟩, ⟨g2, t2, hxF2⟩, tm2, pt2, sm2, tl2, hxS2⟩ := hC0
  have hV0 := hV
  obtain ⟨h1, hb9, h2, hr6, h3, hp10, hpr, -⟩ := hV0
  have hg1 : g 1 = nI nb := hE.2.1.trans h1
  have hf1 : cells ≤ room_1.cells := by omega
  have hf2 : slots ≤ room_1.slots := by omega
  obtain ⟨nc, hncr, hcc, hmc, hr3, -⟩ := closed_ok hV hE
  have hM := MI_of hV hmc hncr
  refine lv_aload_n X.1 X.2.1 dL_law_750 rfl (lv_at hl 1 rfl) ?_
  refine lv_aload_n X.1 X.2.1 dL_law_751 rfl (lv_at hl 0 rfl) ?_
  refine lv_iload_n X.1 X.2.1 dL_law_752 rfl (lv_at hl 3 rfl) ?_
  refine lv_iconst (v := nI 1) X.1 X.2.1 dL_law_753 (by decide) ?_
  refine lv_iadd X.1 X.2.1 dL_law_754 ?_
  refine x_top (nI_add _ _) ?_
  refine x_sld X hX hbs hw (i := nI (i + 1)) (j := i + 1) rfl (by omega) hL dL_law_755 ?_
  refine lv_aload_n X.1 X.2.1 dL_law_756 rfl (lv_at hl 0 rfl) ?_
  refine lv_iload_n X.1 X.2.1 dL_law_757 rfl (lv_at hl 3 rfl) ?_
  refine lv_iconst (v := nI 2) X.1 X.2.1 dL_law_758 (by decide) ?_
  refine lv_iadd X.1 X.2.1 dL_law_759 ?_
  refine x_top (nI_add _ _) ?_
  refine x_sld X hX hbs hw (i := nI (i + 2)) (j := i + 2) rfl (by omega) hL dL_law_760 ?_
  refine x_callV X hK hw (k := 0) (As := [.int (xs (i + 1)), .int (xs (i + 2))]) (rest := []) (k_X7_race hI 0 hs g t d z hg ht g3 t3 tm1 pt1 sm1 tl1 g2 t2 tm2 pt2 sm2 tl2 (xs (i + 1)) (xs (i + 2)) nb (by omega) hd5 hz4 hxMa hxF hxCo hxJu hxHi hxF3 hxS1 hxF2 hxS2 hg1 (by omega)) (x_cwV yX7_race cX7_race 3 (some .int) 2 X q804 q805 q806 q1 q807 hd_X7_race ⟨Nat.le_of_ble_eq_true rfl, Nat.le_of_ble_eq_true rfl⟩) (by omega) hxMa rfl rfl hl.1 rfl (Nat.le_of_ble_eq_true rfl) dL_law_761 ⟨by omega, by omega⟩ (fun r1 F1 H1 locs1 hp hw1 => ?_)
  obtain ⟨er, hC1, hr1⟩ := hp
  have hw := hw1
  have hLg1 := hLg.cg hr1 (by omega)
  have hMo1 := hMo.cg hr1 (by omega)
  refine lv_aload_n X.1 X.2.1 dL_law_764 rfl (lv_at hl 2 rfl) ?_
  refine lv_aload_n X.1 X.2.1 dL_law_765 rfl (lv_at hl 0 rfl) ?_
  refine lv_iload_n X.1 X.2.1 dL_law_766 rfl (lv_at hl 3 rfl) ?_
  refine lv_iconst (v := nI 1) X.1 X.2.1 dL_law_767 (by decide) ?_
  refine lv_iadd X.1 X.2.1 dL_law_768 ?_
  refine x_top (nI_add _ _) ?_
  refine x_sld X hX hbs hw (i := nI (i + 1)) (j := i + 1) rfl (by omega) hL dL_law_769 ?_
  refine lv_aload_n X.1 X.2.1 dL_law_770 rfl (lv_at hl 0 rfl) ?_
  refine lv_iload_n X.1 X.2.1 dL_law_771 rfl (lv_at hl 3 rfl) ?_
  refine lv_iconst (v := nI 2) X.1 X.2.1 dL_law_772 (by decide) ?_
  refine lv_iadd X.1 X.2.1 dL_law_773 ?_
  refine x_top (nI_add _ _) ?_
  refine x_sld X hX hbs hw (i := nI (i + 2)) (j := i + 2) rfl (by omega) hL dL_law_774 ?_
  refine x_callV X hK hw (k := 114) (As := [.int (xs (i + 1)), .int (xs (i + 2))]) (rest := [.int r1]) (k_X8_race hI 114 a h sn txm k (xs (i + 1)) (xs (i + 2)) nb nr np nc (by omega) hMo1 hM) (x_cwV yX8_race cX8_race 3 (some .int) 2 X q1200 q1201 q1202 q14 q1203 hd_X8_race ⟨Nat.le_of_ble_eq_true rfl, Nat.le_of_ble_eq_true rfl⟩) (by omega) hMo1.1 rfl rfl hl.1 rfl (Nat.le_of_ble_eq_true rfl) dL_law_775 ⟨by omega, by omega⟩ (fun r2 F2 H2 locs2 hp hw2 => ?_)
  obtain ⟨er2, rfl⟩ := hp
  have hw := hw2
  have er3 := q_race (by omega) hV hE hcc hncr hr3 (xs (i + 1)) (xs (i + 2)) tm1
  refine lv_icmp_eq (tgt := 971) X.1 X.2.1 dL_law_778 (by decide) (fun c9 => ?_) (fun c9 => absurd (er.trans (er3.trans er2.symm)) c9)
  exact W.widen (Nat.le_succ _) (by omega) (kk _ _ _ _ _ ⟨hI, hw, hl, _, _, _, _, _, _, _, _, _, _, _, _, _, _, _, _, hC1, hLg1, hMo1, hJ.mono (Nat.le_succ _)⟩)
theorem hd_X7_protest : yX7_protest.cls = RX7 ∧ yX7_protest.cls ≠ "java/lang/invoke/MethodHandle" ∧ yX7_protest.cls ≠ "java/lang/invoke/VarHandle" ∧ (parseMethodDescriptor yX7_protest.desc).map (fun d => d.parameters.length) = some 2 := by decide +kernel
theorem hd_X8_protest : yX8_protest.cls = RX8 ∧ yX8_protest.cls ≠ "java/lang/invoke/MethodHandle" ∧ yX8_protest.cls ≠ "java/lang/invoke/VarHandle" ∧ (parseMethodDescriptor yX8_protest.desc).map (fun d => d.parameters.length) = some 2 := by decide +kernel
set_option maxHeartbeats 4000000 in
set_option maxRecDepth 100000 in
theorem lc_protest {p : Program} {l : Launch} {e : Env} {s : State} {m : MethodId} {below : List Frame} {meth : Method} {c : Code} {Q : State → Prop} {D : va_G} {cI cB cS : ClassId} {b L cn i cells slots : Nat} {xs : Nat → Int32} (X : CallFix p m c cL_law 8 s #[Value.ref b] lw_g "RegattaTimesLaw") (hK : KW D cI cB cS (lA s) s) (hX : va_X b L xs s s.heap) (hbs : b < s.heap.size) (hcn : cn < 512) (hiL : i + 4 ≤ L) (hL : L ≤ 2048) (hf : cells + 1 ≤ room_1.cells ∧ slots + 162 ≤ room_1.slots) (kk : LK p l e s m below meth c Q D cI cB cS b (cn + 1) i (cells + 1) (slots + 162) 971) : LK p l e s m below meth c Q D cI cB cS b cn i cells slots 783 := by
  intro ad F H locs ls hh
  obtain ⟨hI, hw, hl, hs, g, t, d, z, hg, ht, g3, t3, n, tx, a, h, sn, txm, k, hC, hLg, hMo, hJ⟩ := hh
  have hJ0 := hJ
  obtain ⟨hd5, hz4, hkz, ⟨nb, nr, np, ck, hV, hE⟩, -, -, -, hn80, hkn, htx⟩ := hJ0
  have hC0 := hC
  obtain ⟨hxMa, hxF, hxCo, hxJu, hxHi, hxF3, ⟨tm1, pt1, sm1, tl1, hxS1⟩, ⟨g2, t2, hxF2⟩, tm2, pt2, sm2, tl2, hxS2⟩ := hC0
  have hV0 := hV
  obtain ⟨h1, hb9, h2, hr6, h3, hp10, hpr, -⟩ := hV0
  have hg1 : g 1 = nI nb := hE.2.1.trans h1
  have hf1 : cells ≤ room_1.cells := by omega
  have hf2 : slots ≤ room_1.slots := by omega
  obtain ⟨nc, hncr, hcc, hmc, hr3, -⟩ := closed_ok hV hE
  have hM := MI_of hV hmc hncr
  refine lv_aload_n X.1 X.2.1 dL_law_783 rfl (lv_at hl 1 rfl) ?_
  refine lv_aload_n X.1 X.2.1 dL_law_784 rfl (lv_at hl 0 rfl) ?_
  refine lv_iload_n X.1 X.2.1 dL_law_785 rfl (lv_at hl 3 rfl) ?_
  refine lv_iconst (v := nI 1) X.1 X.2.1 dL_law_786 (by decide) ?_
  refine lv_iadd X.1 X.2.1 dL_law_787 ?_
  refine x_top (nI_add _ _) ?_
  refine x_sld X hX hbs hw (i := nI (i + 1)) (j := i + 1) rfl (by omega) hL dL_law_788 ?_
  refine lv_aload_n X.1 X.2.1 dL_law_789 rfl (lv_at hl 0 rfl) ?_
  refine lv_iload_n X.1 X.2.1 dL_law_790 rfl (lv_at hl 3 rfl) ?_
  refine lv_iconst (v := nI 2) X.1 X.2.1 dL_law_791 (by decide) ?_
  refine lv_iadd X.1 X.2.1 dL_law_792 ?_
  refine x_top (nI_add _ _) ?_
  refine x_sld X hX hbs hw (i := nI (i + 2)) (j := i + 2) rfl (by omega) hL dL_law_793 ?_
  refine x_callV X hK hw (k := 0) (As := [.int (xs (i + 1)), .int (xs (i + 2))]) (rest := []) (k_X7_protest hI 0 hs g t d z hg ht g3 t3 tm1 pt1 sm1 tl1 g2 t2 tm2 pt2 sm2 tl2 (xs (i + 1)) (xs (i + 2)) (by omega) hd5 hz4 hxMa hxF hxCo hxJu hxHi hxF3 hxS1 hxF2 hxS2) (x_cwV yX7_protest cX7_protest 3 (some .int) 2 X q813 q814 q815 q1 q816 hd_X7_protest ⟨Nat.le_of_ble_eq_true rfl, Nat.le_of_ble_eq_true rfl⟩) (by omega) hxMa rfl rfl hl.1 rfl (Nat.le_of_ble_eq_true rfl) dL_law_794 ⟨by omega, by omega⟩ (fun r1 F1 H1 locs1 hp hw1 => ?_)
  obtain ⟨er, hC1, hr1⟩ := hp
  have hw := hw1
  have hLg1 := hLg.cg hr1 (by omega)
  have hMo1 := hMo.cg hr1 (by omega)
  refine lv_aload_n X.1 X.2.1 dL_law_797 rfl (lv_at hl 2 rfl) ?_
  refine lv_aload_n X.1 X.2.1 dL_law_798 rfl (lv_at hl 0 rfl) ?_
  refine lv_iload_n X.1 X.2.1 dL_law_799 rfl (lv_at hl 3 rfl) ?_
  refine lv_iconst (v := nI 1) X.1 X.2.1 dL_law_800 (by decide) ?_
  refine lv_iadd X.1 X.2.1 dL_law_801 ?_
  refine x_top (nI_add _ _) ?_
  refine x_sld X hX hbs hw (i := nI (i + 1)) (j := i + 1) rfl (by omega) hL dL_law_802 ?_
  refine lv_aload_n X.1 X.2.1 dL_law_803 rfl (lv_at hl 0 rfl) ?_
  refine lv_iload_n X.1 X.2.1 dL_law_804 rfl (lv_at hl 3 rfl) ?_
  refine lv_iconst (v := nI 2) X.1 X.2.1 dL_law_805 (by decide) ?_
  refine lv_iadd X.1 X.2.1 dL_law_806 ?_
  refine x_top (nI_add _ _) ?_
  refine x_sld X hX hbs hw (i := nI (i + 2)) (j := i + 2) rfl (by omega) hL dL_law_807 ?_
  refine x_callV X hK hw (k := 114) (As := [.int (xs (i + 1)), .int (xs (i + 2))]) (rest := [.int r1]) (k_X8_protest hI 114 a h sn txm k (xs (i + 1)) (xs (i + 2)) nb nr np nc (by omega) hMo1 hM) (x_cwV yX8_protest cX8_protest 3 (some .int) 2 X q1208 q1209 q1210 q14 q1211 hd_X8_protest ⟨Nat.le_of_ble_eq_true rfl, Nat.le_of_ble_eq_true rfl⟩) (by omega) hMo1.1 rfl rfl hl.1 rfl (Nat.le_of_ble_eq_true rfl) dL_law_808 ⟨by omega, by omega⟩ (fun r2 F2 H2 locs2 hp hw2 => ?_)
  obtain ⟨er2, rfl⟩ := hp
  have hw := hw2
  have er3 := q_protest hV hE (xs (i + 1)) (xs (i + 2))
  refine lv_icmp_eq (tgt := 971) X.1 X.2.1 dL_law_811 (by decide) (fun c9 => ?_) (fun c9 => absurd (er.trans (er3.trans er2.symm)) c9)
  exact W.widen (Nat.le_succ _) (by omega) (kk _ _ _ _ _ ⟨hI, hw, hl, _, _, _, _, _, _, _, _, _, _, _, _, _, _, _, _, hC1, hLg1, hMo1, hJ.mono (Nat.le_succ _)⟩)
theorem hd_X7_count : yX7_count.cls = RX7 ∧ yX7_count.cls ≠ "java/lang/invoke/MethodHandle" ∧ yX7_count.cls ≠ "java/lang/invoke/VarHandle" ∧ (parseMethodDescriptor yX7_count.desc).map (fun d => d.parameters.length) = some 1 := by decide +kernel
theorem hd_X8_count : yX8_count.cls = RX8 ∧ yX8_count.cls ≠ "java/lang/invoke/MethodHandle" ∧ yX8_count.cls ≠ "java/lang/invoke/VarHandle" ∧ (parseMethodDescriptor yX8_count.desc).map (fun d => d.parameters.length) = some 1 := by decide +kernel
set_option maxHeartbeats 4000000 in
set_option maxRecDepth 100000 in
theorem lc_count {p : Program} {l : Launch} {e : Env} {s : State} {m : MethodId} {below : List Frame} {meth : Method} {c : Code} {Q : State → Prop} {D : va_G} {cI cB cS : ClassId} {b L cn i cells slots : Nat} {xs : Nat → Int32} (X : CallFix p m c cL_law 8 s #[Value.ref b] lw_g "RegattaTimesLaw") (hK : KW D cI cB cS (lA s) s) (hX : va_X b L xs s s.heap) (hbs : b < s.heap.size) (hcn : cn < 512) (hiL : i + 4 ≤ L) (hL : L ≤ 2048) (hf : cells + 1 ≤ room_1.cells ∧ slots + 162 ≤ room_1.slots) (kk : LK p l e s m below meth c Q D cI cB cS b (cn + 1) i (cells + 1) (slots + 162) 971) : LK p l e s m below meth c Q D cI cB cS b cn i cells slots 816 := by
  intro ad F H locs ls hh
  obtain ⟨hI, hw, hl, hs, g, t, d, z, hg, ht, g3, t3, n, tx, a, h, sn, txm, k, hC, hLg, hMo, hJ⟩ := hh
  have hJ0 := hJ
  obtain ⟨hd5, hz4, hkz, ⟨nb, nr, np, ck, hV, hE⟩, -, -, -, hn80, hkn, htx⟩ := hJ0
  have hC0 := hC
  obtain ⟨hxMa, hxF, hxCo, hxJu, hxHi, hxF3, ⟨tm1, pt1, sm1, tl1, hxS1⟩, ⟨g2, t2, hxF2⟩, tm2, pt2, sm2, tl2, hxS2⟩ := hC0
  have hV0 := hV
  obtain ⟨h1, hb9, h2, hr6, h3, hp10, hpr, -⟩ := hV0
  have hg1 : g 1 = nI nb := hE.2.1.trans h1
  have hf1 : cells ≤ room_1.cells := by omega
  have hf2 : slots ≤ room_1.slots := by omega
  obtain ⟨nc, hncr, hcc, hmc, hr3, -⟩ := closed_ok hV hE
  have hM := MI_of hV hmc hncr
  have hLg0 := hLg
  obtain ⟨hxL, cap, ml, f, hxS, hncap, hcap160, htx7, hbyt⟩ := hLg0
  refine lv_aload_n X.1 X.2.1 dL_law_816 rfl (lv_at hl 1 rfl) ?_
  refine lv_aload_n X.1 X.2.1 dL_law_817 rfl (lv_at hl 0 rfl) ?_
  refine lv_iload_n X.1 X.2.1 dL_law_818 rfl (lv_at hl 3 rfl) ?_
  refine lv_iconst (v := nI 1) X.1 X.2.1 dL_law_819 (by decide) ?_
  refine lv_iadd X.1 X.2.1 dL_law_820 ?_
  refine x_top (nI_add _ _) ?_
  refine x_sld X hX hbs hw (i := nI (i + 1)) (j := i + 1) rfl (by omega) hL dL_law_821 ?_
  refine x_callV X hK hw (k := 0) (As := [.int (xs (i + 1))]) (rest := []) (k_X7_count hI 0 hs g t d z hg ht g3 t3 tm1 pt1 sm1 tl1 g2 t2 tm2 pt2 sm2 tl2 cap n ml f tx (xs (i + 1)) (by omega) hd5 hz4 hxMa hxF hxCo hxJu hxHi hxF3 hxS1 hxF2 hxS2 (by omega) hncap hxL hxS htx7) (x_cwV yX7_count cX7_count 2 (some .int) 1 X q818 q819 q820 q1 q821 hd_X7_count ⟨Nat.le_of_ble_eq_true rfl, Nat.le_of_ble_eq_true rfl⟩) (by omega) hxMa rfl rfl hl.1 rfl (Nat.le_of_ble_eq_true rfl) dL_law_822 ⟨by omega, by omega⟩ (fun r1 F1 H1 locs1 hp hw1 => ?_)
  obtain ⟨er, rfl⟩ := hp
  have hw := hw1
  refine lv_aload_n X.1 X.2.1 dL_law_825 rfl (lv_at hl 2 rfl) ?_
  refine lv_aload_n X.1 X.2.1 dL_law_826 rfl (lv_at hl 0 rfl) ?_
  refine lv_iload_n X.1 X.2.1 dL_law_827 rfl (lv_at hl 3 rfl) ?_
  refine lv_iconst (v := nI 1) X.1 X.2.1 dL_law_828 (by decide) ?_
  refine lv_iadd X.1 X.2.1 dL_law_829 ?_
  refine x_top (nI_add _ _) ?_
  refine x_sld X hX hbs hw (i := nI (i + 1)) (j := i + 1) rfl (by omega) hL dL_law_830 ?_
  refine x_callV X hK hw (k := 114) (As := [.int (xs (i + 1))]) (rest := [.int r1]) (k_X8_count hI 114 a h sn txm k (xs (i + 1)) nb nr np nc (by omega) hMo hM) (x_cwV yX8_count cX8_count 2 (some .int) 1 X q1212 q1213 q1214 q14 q1215 hd_X8_count ⟨Nat.le_of_ble_eq_true rfl, Nat.le_of_ble_eq_true rfl⟩) (by omega) hMo.1 rfl rfl hl.1 rfl (Nat.le_of_ble_eq_true rfl) dL_law_831 ⟨by omega, by omega⟩ (fun r2 F2 H2 locs2 hp hw2 => ?_)
  obtain ⟨er2, rfl⟩ := hp
  have hw := hw2
  have er3 := q_count hV hE hcc (xs (i + 1)) hkz hkn
  refine lv_icmp_eq (tgt := 971) X.1 X.2.1 dL_law_834 (by decide) (fun c9 => ?_) (fun c9 => absurd (er.trans (er3.trans er2.symm)) c9)
  exact W.widen (Nat.le_succ _) (by omega) (kk _ _ _ _ _ ⟨hI, hw, hl, _, _, _, _, _, _, _, _, _, _, _, _, _, _, _, _, hC, hLg, hMo, hJ.mono (Nat.le_succ _)⟩)
theorem hd_X7_placeNow : yX7_placeNow.cls = RX7 ∧ yX7_placeNow.cls ≠ "java/lang/invoke/MethodHandle" ∧ yX7_placeNow.cls ≠ "java/lang/invoke/VarHandle" ∧ (parseMethodDescriptor yX7_placeNow.desc).map (fun d => d.parameters.length) = some 1 := by decide +kernel
theorem hd_X8_placeNow : yX8_placeNow.cls = RX8 ∧ yX8_placeNow.cls ≠ "java/lang/invoke/MethodHandle" ∧ yX8_placeNow.cls ≠ "java/lang/invoke/VarHandle" ∧ (parseMethodDescriptor yX8_placeNow.desc).map (fun d => d.parameters.length) = some 1 := by decide +kernel
set_option maxHeartbeats 4000000 in
set_option maxRecDepth 100000 in
theorem lc_placeNow {p : Program} {l : Launch} {e : Env} {s : State} {m : MethodId} {below : List Frame} {meth : Method} {c : Code} {Q : State → Prop} {D : va_G} {cI cB cS : ClassId} {b L cn i cells slots : Nat} {xs : Nat → Int32} (X : CallFix p m c cL_law 8 s #[Value.ref b] lw_g "RegattaTimesLaw") (hK : KW D cI cB cS (lA s) s) (hX : va_X b L xs s s.heap) (hbs : b < s.heap.size) (hcn : cn < 512) (hiL : i + 4 ≤ L) (hL : L ≤ 2048) (hf : cells + 1 ≤ room_1.cells ∧ slots + 162 ≤ room_1.slots) (kk : LK p l e s m below meth c Q D cI cB cS b (cn + 1) i (cells + 1) (slots + 162) 971) : LK p l e s m below meth c Q D cI cB cS b cn i cells slots 839 := by
  intro ad F H locs ls hh
  obtain ⟨hI, hw, hl, hs, g, t, d, z, hg, ht, g3, t3, n, tx, a, h, sn, txm, k, hC, hLg, hMo, hJ⟩ := hh
  have hJ0 := hJ
  obtain ⟨hd5, hz4, hkz, ⟨nb, nr, np, ck, hV, hE⟩, -, -, -, hn80, hkn, htx⟩ := hJ0
  have hC0 := hC
  obtain ⟨hxMa, hxF, hxCo, hxJu, hxHi, hxF3, ⟨tm1, pt1, sm1, tl1, hxS1⟩, ⟨g2, t2, hxF2⟩, tm2, pt2, sm2, tl2, hxS2⟩ := hC0
  have hV0 := hV
  obtain ⟨h1, hb9, h2, hr6, h3, hp10, hpr, -⟩ := hV0
  have hg1 : g 1 = nI nb := hE.2.1.trans h1
  have hf1 : cells ≤ room_1.cells := by omega
  have hf2 : slots ≤ room_1.slots := by omega
  obtain ⟨nc, hncr, hcc, hmc, hr3, -⟩ := closed_ok hV hE
  have hM := MI_of hV hmc hncr
  refine lv_aload_n X.1 X.2.1 dL_law_839 rfl (lv_at hl 1 rfl) ?_
  refine lv_aload_n X.1 X.2.1 dL_law_840 rfl (lv_at hl 0 rfl) ?_
  refine lv_iload_n X.1 X.2.1 dL_law_841 rfl (lv_at hl 3 rfl) ?_
  refine lv_iconst (v := nI 1) X.1 X.2.1 dL_law_842 (by decide) ?_
  refine lv_iadd X.1 X.2.1 dL_law_843 ?_
  refine x_top (nI_add _ _) ?_
  refine x_sld X hX hbs hw (i := nI (i + 1)) (j := i + 1) rfl (by omega) hL dL_law_844 ?_
  refine x_callV X hK hw (k := 0) (As := [.int (xs (i + 1))]) (rest := []) (k_X7_placeNow hI 0 hs g t d z hg ht g3 t3 tm1 pt1 sm1 tl1 g2 t2 tm2 pt2 sm2 tl2 (xs (i + 1)) nb (by omega) hd5 hz4 hxMa hxF hxCo hxJu hxHi hxF3 hxS1 hxF2 hxS2 hg1 (by omega)) (x_cwV yX7_placeNow cX7_placeNow 2 (some .int) 1 X q828 q829 q830 q1 q831 hd_X7_placeNow ⟨Nat.le_of_ble_eq_true rfl, Nat.le_of_ble_eq_true rfl⟩) (by omega) hxMa rfl rfl hl.1 rfl (Nat.le_of_ble_eq_true rfl) dL_law_845 ⟨by omega, by omega⟩ (fun r1 F1 H1 locs1 hp hw1 => ?_)
  obtain ⟨er, hC1, hr1⟩ := hp
  have hw := hw1
  have hLg1 := hLg.cg hr1 (by omega)
  have hMo1 := hMo.cg hr1 (by omega)
  refine lv_aload_n X.1 X.2.1 dL_law_848 rfl (lv_at hl 2 rfl) ?_
  refine lv_aload_n X.1 X.2.1 dL_law_849 rfl (lv_at hl 0 rfl) ?_
  refine lv_iload_n X.1 X.2.1 dL_law_850 rfl (lv_at hl 3 rfl) ?_
  refine lv_iconst (v := nI 1) X.1 X.2.1 dL_law_851 (by decide) ?_
  refine lv_iadd X.1 X.2.1 dL_law_852 ?_
  refine x_top (nI_add _ _) ?_
  refine x_sld X hX hbs hw (i := nI (i + 1)) (j := i + 1) rfl (by omega) hL dL_law_853 ?_
  refine x_callV X hK hw (k := 114) (As := [.int (xs (i + 1))]) (rest := [.int r1]) (k_X8_placeNow hI 114 a h sn txm k (xs (i + 1)) nb nr np nc (by omega) hMo1 hM) (x_cwV yX8_placeNow cX8_placeNow 2 (some .int) 1 X q1216 q1217 q1218 q14 q1219 hd_X8_placeNow ⟨Nat.le_of_ble_eq_true rfl, Nat.le_of_ble_eq_true rfl⟩) (by omega) hMo1.1 rfl rfl hl.1 rfl (Nat.le_of_ble_eq_true rfl) dL_law_854 ⟨by omega, by omega⟩ (fun r2 F2 H2 locs2 hp hw2 => ?_)
  obtain ⟨er2, rfl⟩ := hp
  have hw := hw2
  have er3 := q_placeNow (by omega) hV hE (xs (i + 1)) tm1
  refine lv_icmp_eq (tgt := 971) X.1 X.2.1 dL_law_857 (by decide) (fun c9 => ?_) (fun c9 => absurd (er.trans (er3.trans er2.symm)) c9)
  exact W.widen (Nat.le_succ _) (by omega) (kk _ _ _ _ _ ⟨hI, hw, hl, _, _, _, _, _, _, _, _, _, _, _, _, _, _, _, _, hC1, hLg1, hMo1, hJ.mono (Nat.le_succ _)⟩)
theorem hd_X7_secondsLeft : yX7_secondsLeft.cls = RX7 ∧ yX7_secondsLeft.cls ≠ "java/lang/invoke/MethodHandle" ∧ yX7_secondsLeft.cls ≠ "java/lang/invoke/VarHandle" ∧ (parseMethodDescriptor yX7_secondsLeft.desc).map (fun d => d.parameters.length) = some 1 := by decide +kernel
theorem hd_X8_secondsLeft : yX8_secondsLeft.cls = RX8 ∧ yX8_secondsLeft.cls ≠ "java/lang/invoke/MethodHandle" ∧ yX8_secondsLeft.cls ≠ "java/lang/invoke/VarHandle" ∧ (parseMethodDescriptor yX8_secondsLeft.desc).map (fun d => d.parameters.length) = some 1 := by decide +kernel
set_option maxHeartbeats 4000000 in
set_option maxRecDepth 100000 in
theorem lc_secondsLeft {p : Program} {l : Launch} {e : Env} {s : State} {m : MethodId} {below : List Frame} {meth : Method} {c : Code} {Q : State → Prop} {D : va_G} {cI cB cS : ClassId} {b L cn i cells slots : Nat} {xs : Nat → Int32} (X : CallFix p m c cL_law 8 s #[Value.ref b] lw_g "RegattaTimesLaw") (hK : KW D cI cB cS (lA s) s) (hX : va_X b L xs s s.heap) (hbs : b < s.heap.size) (hcn : cn < 512) (hiL : i + 4 ≤ L) (hL : L ≤ 2048) (hf : cells + 1 ≤ room_1.cells ∧ slots + 162 ≤ room_1.slots) (kk : LK p l e s m below meth c Q D cI cB cS b (cn + 1) i (cells + 1) (slots + 162) 971) : LK p l e s m below meth c Q D cI cB cS b cn i cells slots 862 := by
  intro ad F H locs ls hh
  obtain ⟨hI, hw, hl, hs, g, t, d, z, hg, ht, g3, t3, n, tx, a, h, sn, txm, k, hC, hLg, hMo, hJ⟩ := hh
  have hJ0 := hJ
  obtain ⟨hd5, hz4, hkz, ⟨nb, nr, np, ck, hV, hE⟩, -, -, -, hn80, hkn, htx⟩ := hJ0
  have hC0 := hC
  obtain ⟨hxMa, hxF, hxCo, hxJu, hxHi, hxF3, ⟨tm1, pt1, sm1, tl1, hxS1⟩, ⟨g2, t2, hxF2⟩, tm2, pt2, sm2, tl2, hxS2⟩ := hC0
  have hV0 := hV
  obtain ⟨h1, hb9, h2, hr6, h3, hp10, hpr, -⟩ := hV0
  have hg1 : g 1 = nI nb := hE.2.1.trans h1
  have hf1 : cells ≤ room_1.cells := by omega
  have hf2 : slots ≤ room_1.slots := by omega
  obtain ⟨nc, hncr, hcc, hmc, hr3, -⟩ := closed_ok hV hE
  have hM := MI_of hV hmc hncr
  refine lv_aload_n X.1 X.2.1 dL_law_862 rfl (lv_at hl 1 rfl) ?_
  refine lv_aload_n X.1 X.2.1 dL_law_863 rfl (lv_at hl 0 rfl) ?_
  refine lv_iload_n X.1 X.2.1 dL_law_864 rfl (lv_at hl 3 rfl) ?_
  refine lv_iconst (v := nI 1) X.1 X.2.1 dL_law_865 (by decide) ?_
  refine lv_iadd X.1 X.2.1 dL_law_866 ?_
  refine x_top (nI_add _ _) ?_
  refine x_sld X hX hbs hw (i := nI (i + 1)) (j := i + 1) rfl (by omega) hL dL_law_867 ?_
  refine x_callV X hK hw (k := 0) (As := [.int (xs (i + 1))]) (rest := []) (k_X7_secondsLeft hI 0 hs g t d z hg ht g3 t3 tm1 pt1 sm1 tl1 g2 t2 tm2 pt2 sm2 tl2 (xs (i + 1)) nb (by omega) hd5 hz4 hxMa hxF hxCo hxJu hxHi hxF3 hxS1 hxF2 hxS2 hg1 (by omega)) (x_cwV yX7_secondsLeft cX7_secondsLeft 2 (some .int) 1 X q834 q835 q836 q1 q837 hd_X7_secondsLeft ⟨Nat.le_of_ble_eq_true rfl, Nat.le_of_ble_eq_true rfl⟩) (by omega) hxMa rfl rfl hl.1 rfl (Nat.le_of_ble_eq_true rfl) dL_law_868 ⟨by omega, by omega⟩ (fun r1 F1 H1 locs1 hp hw1 => ?_)
  obtain ⟨er, hC1, hr1⟩ := hp
  have hw := hw1
  have hLg1 := hLg.cg hr1 (by omega)
  have hMo1 := hMo.cg hr1 (by omega)
  refine lv_aload_n X.1 X.2.1 dL_law_871 rfl (lv_at hl 2 rfl) ?_
  refine lv_aload_n X.1 X.2.1 dL_law_872 rfl (lv_at hl 0 rfl) ?_
  refine lv_iload_n X.1 X.2.1 dL_law_873 rfl (lv_at hl 3 rfl) ?_
  refine lv_iconst (v := nI 1) X.1 X.2.1 dL_law_874 (by decide) ?_
  refine lv_iadd X.1 X.2.1 dL_law_875 ?_
  refine x_top (nI_add _ _) ?_
  refine x_sld X hX hbs hw (i := nI (i + 1)) (j := i + 1) rfl (by omega) hL dL_law_876 ?_
  refine x_callV X hK hw (k := 114) (As := [.int (xs (i + 1))]) (rest := [.int r1]) (k_X8_secondsLeft hI 114 a h sn txm k (xs (i + 1)) nb nr np nc (by omega) hMo1 hM) (x_cwV yX8_secondsLeft cX8_secondsLeft 5 (some .int) 1 X q1220 q1221 q1222 q14 q1223 hd_X8_secondsLeft ⟨Nat.le_of_ble_eq_true rfl, Nat.le_of_ble_eq_true rfl⟩) (by omega) hMo1.1 rfl rfl hl.1 rfl (Nat.le_of_ble_eq_true rfl) dL_law_877 ⟨by omega, by omega⟩ (fun r2 F2 H2 locs2 hp hw2 => ?_)
  obtain ⟨er2, rfl⟩ := hp
  have hw := hw2
  have er3 := q_seconds (by omega) hV hE (xs (i + 1)) tm1
  refine lv_icmp_eq (tgt := 971) X.1 X.2.1 dL_law_880 (by decide) (fun c9 => ?_) (fun c9 => absurd (er.trans (er3.trans er2.symm)) c9)
  exact W.widen (Nat.le_succ _) (by omega) (kk _ _ _ _ _ ⟨hI, hw, hl, _, _, _, _, _, _, _, _, _, _, _, _, _, _, _, _, hC1, hLg1, hMo1, hJ.mono (Nat.le_succ _)⟩)
theorem hd_X7_rankIfDisqualified : yX7_rankIfDisqualified.cls = RX7 ∧ yX7_rankIfDisqualified.cls ≠ "java/lang/invoke/MethodHandle" ∧ yX7_rankIfDisqualified.cls ≠ "java/lang/invoke/VarHandle" ∧ (parseMethodDescriptor yX7_rankIfDisqualified.desc).map (fun d => d.parameters.length) = some 2 := by decide +kernel
theorem hd_X8_rankIfDisqualified : yX8_rankIfDisqualified.cls = RX8 ∧ yX8_rankIfDisqualified.cls ≠ "java/lang/invoke/MethodHandle" ∧ yX8_rankIfDisqualified.cls ≠ "java/lang/invoke/VarHandle" ∧ (parseMethodDescriptor yX8_rankIfDisqualified.desc).map (fun d => d.parameters.length) = some 2 := by decide +kernel
set_option maxHeartbeats 4000000 in
set_option maxRecDepth 100000 in
theorem lc_rankIfDisqualified {p : Program} {l : Launch} {e : Env} {s : State} {m : MethodId} {below : List Frame} {meth : Method} {c : Code} {Q : State → Prop} {D : va_G} {cI cB cS : ClassId} {b L cn i cells slots : Nat} {xs : Nat → Int32} (X : CallFix p m c cL_law 8 s #[Value.ref b] lw_g "RegattaTimesLaw") (hK : KW D cI cB cS (lA s) s) (hX : va_X b L xs s s.heap) (hbs : b < s.heap.size) (hcn : cn < 512) (hiL : i + 4 ≤ L) (hL : L ≤ 2048) (hf : cells + 1 ≤ room_1.cells ∧ slots + 162 ≤ room_1.slots) (kk : LK p l e s m below meth c Q D cI cB cS b (cn + 1) i (cells + 1) (slots + 162) 971) : LK p l e s m below meth c Q D cI cB cS b cn i cells slots 885 := by
  intro ad F H locs ls hh
  obtain ⟨hI, hw, hl, hs, g, t, d, z, hg, ht, g3, t3, n, tx, a, h, sn, txm, k, hC, hLg, hMo, hJ⟩ := hh
  have hJ0 := hJ
  obtain ⟨hd5, hz4, hkz, ⟨nb, nr, np, ck, hV, hE⟩, -, -, -, hn80, hkn, htx⟩ := hJ0
  have hC0 := hC
  obtain ⟨hxMa, hxF, hxCo, hxJu, hxHi, hxF3, ⟨tm1, pt1, sm1, tl1, hxS1⟩, ⟨g2, t2, hxF2⟩, tm2, pt2, sm2, tl2, hxS2⟩ := hC0
  have hV0 := hV
  obtain ⟨h1, hb9, h2, hr6, h3, hp10, hpr, -⟩ := hV0
  have hg1 : g 1 = nI nb := hE.2.1.trans h1
  have hf1 : cells ≤ room_1.cells := by omega
  have hf2 : slots ≤ room_1.slots := by omega
  obtain ⟨nc, hncr, hcc, hmc, hr3, -⟩ := closed_ok hV hE
  have hM := MI_of hV hmc hncr
  refine lv_aload_n X.1 X.2.1 dL_law_885 rfl (lv_at hl 1 rfl) ?_
  refine lv_aload_n X.1 X.2.1 dL_law_886 rfl (lv_at hl 0 rfl) ?_
  refine lv_iload_n X.1 X.2.1 dL_law_887 rfl (lv_at hl 3 rfl) ?_
  refine lv_iconst (v := nI 1) X.1 X.2.1 dL_law_888 (by decide) ?_
  refine lv_iadd X.1 X.2.1 dL_law_889 ?_
  refine x_top (nI_add _ _) ?_
  refine x_sld X hX hbs hw (i := nI (i + 1)) (j := i + 1) rfl (by omega) hL dL_law_890 ?_
  refine lv_aload_n X.1 X.2.1 dL_law_891 rfl (lv_at hl 0 rfl) ?_
  refine lv_iload_n X.1 X.2.1 dL_law_892 rfl (lv_at hl 3 rfl) ?_
  refine lv_iconst (v := nI 2) X.1 X.2.1 dL_law_893 (by decide) ?_
  refine lv_iadd X.1 X.2.1 dL_law_894 ?_
  refine x_top (nI_add _ _) ?_
  refine x_sld X hX hbs hw (i := nI (i + 2)) (j := i + 2) rfl (by omega) hL dL_law_895 ?_
  refine x_callV X hK hw (k := 0) (As := [.int (xs (i + 1)), .int (xs (i + 2))]) (rest := []) (k_X7_rankIfDisqualified hI 0 hs g t d z hg ht g3 t3 tm1 pt1 sm1 tl1 g2 t2 tm2 pt2 sm2 tl2 (xs (i + 1)) (xs (i + 2)) nb nc (by omega) hd5 hz4 hxMa hxF hxCo hxJu hxHi hxF3 hxS1 hxF2 hxS2 hg1 (by omega) hcc (by omega)) (x_cwV yX7_rankIfDisqualified cX7_rankIfDisqualified 3 (some .int) 2 X q849 q850 q851 q1 q852 hd_X7_rankIfDisqualified ⟨Nat.le_of_ble_eq_true rfl, Nat.le_of_ble_eq_true rfl⟩) (by omega) hxMa rfl rfl hl.1 rfl (Nat.le_of_ble_eq_true rfl) dL_law_896 ⟨by omega, by omega⟩ (fun r1 F1 H1 locs1 hp hw1 => ?_)
  obtain ⟨er, hC1, hr1⟩ := hp
  have hw := hw1
  have hLg1 := hLg.cg hr1 (by omega)
  have hMo1 := hMo.cg hr1 (by omega)
  refine lv_aload_n X.1 X.2.1 dL_law_899 rfl (lv_at hl 2 rfl) ?_
  refine lv_aload_n X.1 X.2.1 dL_law_900 rfl (lv_at hl 0 rfl) ?_
  refine lv_iload_n X.1 X.2.1 dL_law_901 rfl (lv_at hl 3 rfl) ?_
  refine lv_iconst (v := nI 1) X.1 X.2.1 dL_law_902 (by decide) ?_
  refine lv_iadd X.1 X.2.1 dL_law_903 ?_
  refine x_top (nI_add _ _) ?_
  refine x_sld X hX hbs hw (i := nI (i + 1)) (j := i + 1) rfl (by omega) hL dL_law_904 ?_
  refine lv_aload_n X.1 X.2.1 dL_law_905 rfl (lv_at hl 0 rfl) ?_
  refine lv_iload_n X.1 X.2.1 dL_law_906 rfl (lv_at hl 3 rfl) ?_
  refine lv_iconst (v := nI 2) X.1 X.2.1 dL_law_907 (by decide) ?_
  refine lv_iadd X.1 X.2.1 dL_law_908 ?_
  refine x_top (nI_add _ _) ?_
  refine x_sld X hX hbs hw (i := nI (i + 2)) (j := i + 2) rfl (by omega) hL dL_law_909 ?_
  refine x_callV X hK hw (k := 114) (As := [.int (xs (i + 1)), .int (xs (i + 2))]) (rest := [.int r1]) (k_X8_rankIfDisqualified hI 114 a h sn txm k (xs (i + 1)) (xs (i + 2)) nb nr np nc (by omega) hMo1 hM) (x_cwV yX8_rankIfDisqualified cX8_rankIfDisqualified 5 (some .int) 2 X q1224 q1225 q1226 q14 q1227 hd_X8_rankIfDisqualified ⟨Nat.le_of_ble_eq_true rfl, Nat.le_of_ble_eq_true rfl⟩) (by omega) hMo1.1 rfl rfl hl.1 rfl (Nat.le_of_ble_eq_true rfl) dL_law_910 ⟨by omega, by omega⟩ (fun r2 F2 H2 locs2 hp hw2 => ?_)
  obtain ⟨er2, hMo2, hr2⟩ := hp
  have hw := hw2
  have er3 := q_rid (by omega) hV hE hcc hncr hr3 (xs (i + 1)) (xs (i + 2)) tm2 pt2 sm2 tl2 h sn txm (k := k)
  rw [er3] at er2 hMo2
  have hC2 := hC1.cg hr2 (by omega)
  have hLg2 := hLg1.cg hr2 (by omega)
  refine lv_icmp_eq (tgt := 971) X.1 X.2.1 dL_law_913 (by decide) (fun c9 => ?_) (fun c9 => absurd (er.trans er2.symm) c9)
  exact W.widen (Nat.le_succ _) (by omega) (kk _ _ _ _ _ ⟨hI, hw, hl, _, _, _, _, _, _, _, _, _, _, _, _, _, _, _, _, hC2, hLg2, hMo2, hJ.mono (Nat.le_succ _)⟩)
