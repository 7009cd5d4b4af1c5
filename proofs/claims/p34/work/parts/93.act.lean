/-! the law's method 'act' -/
theorem hd_X7_enter : yX7_enter.cls = RX7 ∧ yX7_enter.cls ≠ "java/lang/invoke/MethodHandle" ∧ yX7_enter.cls ≠ "java/lang/invoke/VarHandle" ∧ (parseMethodDescriptor yX7_enter.desc).map (fun d => d.parameters.length) = some 1 := by decide +kernel
theorem hd_X7_hail : yX7_hail.cls = RX7 ∧ yX7_hail.cls ≠ "java/lang/invoke/MethodHandle" ∧ yX7_hail.cls ≠ "java/lang/invoke/VarHandle" ∧ (parseMethodDescriptor yX7_hail.desc).map (fun d => d.parameters.length) = some 2 := by decide +kernel
theorem hd_X7_set : yX7_set.cls = RX7 ∧ yX7_set.cls ≠ "java/lang/invoke/MethodHandle" ∧ yX7_set.cls ≠ "java/lang/invoke/VarHandle" ∧ (parseMethodDescriptor yX7_set.desc).map (fun d => d.parameters.length) = some 2 := by decide +kernel
theorem hd_L_protests : yL_protests.cls = RL ∧ yL_protests.cls ≠ "java/lang/invoke/MethodHandle" ∧ yL_protests.cls ≠ "java/lang/invoke/VarHandle" ∧ (parseMethodDescriptor yL_protests.desc).map (fun d => d.parameters.length) = some 2 := by decide +kernel
theorem hd_L_races : yL_races.cls = RL ∧ yL_races.cls ≠ "java/lang/invoke/MethodHandle" ∧ yL_races.cls ≠ "java/lang/invoke/VarHandle" ∧ (parseMethodDescriptor yL_races.desc).map (fun d => d.parameters.length) = some 4 := by decide +kernel
theorem hd_L_sails : yL_sails.cls = RL ∧ yL_sails.cls ≠ "java/lang/invoke/MethodHandle" ∧ yL_sails.cls ≠ "java/lang/invoke/VarHandle" ∧ (parseMethodDescriptor yL_sails.desc).map (fun d => d.parameters.length) = some 3 := by decide +kernel
set_option maxHeartbeats 4000000 in
set_option maxRecDepth 100000 in
theorem k_L_act {l : Launch} {D : va_G} {cI cB cS : ClassId} {ad : Nat → Nat} {F : Nat → va_E} (hI : iN ad 115) {ca : Nat} {hs : Int32} {A A3 : Nat → Nat} (hJ : HJ ca A) (hc : ca ≤ 200) (hk : A 0 ≤ 999999) (hO : OB ad cI cB cS F hs A A3) (hkk : A 0 ≤ 100000) (v w : Int32) : Cn l D cI cB cS ad 115 yL_act cL_act 10 (some .boolean) 9 257 [.ref (ad 0), .int v, .int w, .ref (ad 114)] F (fun z F' => z = nI 1 ∧ ACT ad cI cB cS F' ca A ∧ ∀ k, 111 ≤ k → F' k = F k) := by
  refine fun sz => x_metg (Qc := fun sz => va_Qi (fun z F' => z = nI 1 ∧ ACT ad cI cB cS F' ca A ∧ ∀ k, 111 ≤ k → F' k = F k) (fun F' t => PO D ad 115 F' t) (Af ad 115 sz)) (by decide +kernel) (Nat.le_of_ble_eq_true rfl) ?_ sz
  intro p e s m below meth c X hr hlk hK hw ls hl
  have hN : 115 ≤ 115 := Nat.le_refl _
  replace hl : lv_has ls 10 [(0, .ref (ad 0)), (1, .int v), (2, .int w), (3, .ref (ad 114))] := hl
  have hfr : Fr F F 0 111 := Fr.rf
  have h9 := hJ.1.1
  have h6 := hJ.1.2.1
  have h10 := hJ.1.2.2.1
  have hs4 := hJ.1.2.2.2.2.2.2.1
  have hs5 := hJ.1.2.2.2.2.2.2.2.2.1
  have hs6 := hJ.1.2.2.2.2.2.2.2.2.2.1
  refine lv_aload_n X.1 X.2.1 dL_act_0 rfl (lv_at hl 0 rfl) ?_
  refine lv_iconst (v := nI 0) X.1 X.2.1 dL_act_1 (by decide) ?_
  refine x_callV X hK hw (k := 0) (As := [.int (nI 0)]) (rest := []) (w_count hI (by omega) hO (nI 0) (fun g t z n hE => a_cou0 hJ (by omega) hk hE z n)) (x_cwV yX7_count cX7_count 2 (some .int) 1 X q818 q819 q820 q1 q821 hd_X7_count ⟨(Nat.le_of_ble_eq_true rfl), (Nat.le_of_ble_eq_true rfl)⟩) (by omega) hO.ma rfl rfl hl.1 rfl (Nat.le_of_ble_eq_true rfl) dL_act_2 ⟨(Nat.le_of_ble_eq_true rfl), (Nat.le_of_ble_eq_true rfl)⟩ (fun v1 F2 H locs hp hw => ?_)
  obtain ⟨e3, hO4, hf5⟩ := hp
  refine x_top e3 ?_
  replace hfr := hfr.tr hf5 (by omega) (by omega)
  refine lv_istore (lv' := [(4, .int (nI (A 1))), (0, .ref (ad 0)), (1, .int v), (2, .int w), (3, .ref (ad 114))]) X.1 X.2.1 dL_act_5 hl (by decide) rfl (fun ls hl => ?_)
  refine lv_iload_n X.1 X.2.1 dL_act_7 rfl (lv_at hl 2 rfl) ?_
  refine lv_bipush (v := nI 30) X.1 X.2.1 dL_act_8 (by decide) ?_
  refine x_callSP X hK hw (As := [.int v, .int (nI 30)]) (rest := []) (k_L_low v 30 (by omega) (by omega)) (x_cwS yL_low cL_low 2 (some .int) 2 X q1394 q1395 q0 q1396 hd_L_low ⟨(Nat.le_of_ble_eq_true rfl), (Nat.le_of_ble_eq_true rfl)⟩) rfl hl.1 rfl (Nat.le_of_ble_eq_true rfl) dL_act_10 ⟨(Nat.le_of_ble_eq_true rfl), (Nat.le_of_ble_eq_true rfl)⟩ (fun H locs hw => ?_)
  have hw6 := lowN_lt (v := v) (n := 30) (by omega)
  refine lv_istore (lv' := [(5, .int (nI (lowN v 30))), (4, .int (nI (A 1))), (0, .ref (ad 0)), (1, .int v), (2, .int w), (3, .ref (ad 114))]) X.1 X.2.1 dL_act_13 hl (by decide) rfl (fun ls hl => ?_)
  refine lv_iload X.1 X.2.1 dL_act_15 (lv_at hl 1 rfl) ?_
  refine lv_if_eq (tgt := 35) X.1 X.2.1 dL_act_17 (by decide) (fun c7 => ?_) (fun c7 => ?_)
  · have n8 := (bz_eq (by omega)).mp c7
    refine lv_bipush (v := nI 50) X.1 X.2.1 dL_act_35 (by decide) ?_
    refine lv_iload_n X.1 X.2.1 dL_act_37 rfl (lv_at hl 4 rfl) ?_
    refine lv_bipush (v := nI 101) X.1 X.2.1 dL_act_38 (by decide) ?_
    refine x_callSP X hK hw (As := [.int w, .int (nI 101)]) (rest := [.int (nI 50)]) (k_L_low w 101 (by omega) (by omega)) (x_cwS yL_low cL_low 2 (some .int) 2 X q1394 q1395 q0 q1396 hd_L_low ⟨(Nat.le_of_ble_eq_true rfl), (Nat.le_of_ble_eq_true rfl)⟩) rfl hl.1 rfl (Nat.le_of_ble_eq_true rfl) dL_act_40 ⟨(Nat.le_of_ble_eq_true rfl), (Nat.le_of_ble_eq_true rfl)⟩ (fun H locs hw => ?_)
    have hw9 := lowN_lt (v := w) (n := 101) (by omega)
    refine lv_iadd X.1 X.2.1 dL_act_43 ?_
    refine x_top (nI_add _ _) ?_
    refine lv_istore (lv' := [(6, .int (nI (50 + (lowN w 101)))), (5, .int (nI (lowN v 30))), (4, .int (nI (A 1))), (0, .ref (ad 0)), (1, .int v), (2, .int w), (3, .ref (ad 114))]) X.1 X.2.1 dL_act_44 hl (by decide) rfl (fun ls hl => ?_)
    have hz2 : A 2 = 0 := by rcases Nat.eq_zero_or_pos (A 2) with q | q; (exact q); exact absurd (hJ.1.2.2.2.2.1 q) (by omega)
    by_cases he : A 1 = 9
    · refine lv_aload_n X.1 X.2.1 dL_act_46 rfl (lv_at hl 3 rfl) ?_
      refine lv_iload X.1 X.2.1 dL_act_47 (lv_at hl 0 rfl) ?_
      refine x_callV X hK hw (k := 0) (As := [.int (nI (50 + (lowN w 101)))]) (rest := []) (w_enter hI (by omega) hO4 (nI (50 + (lowN w 101))) (fun g t hE => a_ent_full (by omega) he (by omega) (by omega) hE)) (x_cwV yX7_enter cX7_enter 2 (some .int) 1 X q249 q250 q251 q1 q252 hd_X7_enter ⟨(Nat.le_of_ble_eq_true rfl), (Nat.le_of_ble_eq_true rfl)⟩) (by omega) hO4.ma rfl rfl hl.1 rfl (Nat.le_of_ble_eq_true rfl) dL_act_49 ⟨(Nat.le_of_ble_eq_true rfl), (Nat.le_of_ble_eq_true rfl)⟩ (fun v10 F11 H locs hp hw => ?_)
      obtain ⟨e12, hO13, hf14⟩ := hp
      refine x_top e12 ?_
      replace hfr := hfr.tr hf14 (by omega) (by omega)
      refine lv_iload X.1 X.2.1 dL_act_52 (lv_at hl 2 rfl) ?_
      refine lv_bipush (v := nI 9) X.1 X.2.1 dL_act_54 (by decide) ?_
      refine lv_icmp_ne (tgt := 64) X.1 X.2.1 dL_act_56 (by decide) (fun c15 => ?_) (fun c15 => ?_)
      · exact absurd ((nI_eq (by omega) (by omega)).mpr (by omega)) c15
      · have n16 := (nI_eq (by omega) (by omega)).mp c15
        refine lv_bipush (v := (-3)) X.1 X.2.1 dL_act_59 (by decide) ?_
        refine lv_goto (tgt := 66) X.1 X.2.1 dL_act_61 (by decide) ?_
        refine lv_icmp_ne (tgt := 92) X.1 X.2.1 dL_act_66 (by decide) (fun c17 => ?_) (fun c17 => ?_)
        · exact absurd (by decide) c17
        · refine lv_iload X.1 X.2.1 dL_act_69 (lv_at hl 2 rfl) ?_
          refine lv_bipush (v := nI 9) X.1 X.2.1 dL_act_71 (by decide) ?_
          refine lv_icmp_eq (tgt := 88) X.1 X.2.1 dL_act_73 (by decide) (fun c18 => ?_) (fun c18 => ?_)
          · have n19 := (nI_eq (by omega) (by omega)).mp c18
            refine lv_iconst (v := nI 1) X.1 X.2.1 dL_act_88 (by decide) ?_
            refine lv_goto (tgt := 93) X.1 X.2.1 dL_act_89 (by decide) ?_
            refine W.widen (k := 1) (n := 9) (by omega) (by omega) ?_
            exact x_iret X hr hlk hK hw (v := nI 1) rfl ⟨rfl, ACT.same hJ hO13, fun k hk => hfr k (Or.inr hk)⟩ dL_act_93
          · exact absurd ((nI_eq (by omega) (by omega)).mpr (by omega)) c18
    · refine lv_aload_n X.1 X.2.1 dL_act_46 rfl (lv_at hl 3 rfl) ?_
      refine lv_iload X.1 X.2.1 dL_act_47 (lv_at hl 0 rfl) ?_
      refine x_callV X hK hw (k := 0) (As := [.int (nI (50 + (lowN w 101)))]) (rest := []) (w_enter hI (by omega) hO4 (nI (50 + (lowN w 101))) (fun g t hE => a_ent_ok hJ (by omega) (by omega) (by omega) (by omega) hE)) (x_cwV yX7_enter cX7_enter 2 (some .int) 1 X q249 q250 q251 q1 q252 hd_X7_enter ⟨(Nat.le_of_ble_eq_true rfl), (Nat.le_of_ble_eq_true rfl)⟩) (by omega) hO4.ma rfl rfl hl.1 rfl (Nat.le_of_ble_eq_true rfl) dL_act_49 ⟨(Nat.le_of_ble_eq_true rfl), (Nat.le_of_ble_eq_true rfl)⟩ (fun v20 F21 H locs hp hw => ?_)
      obtain ⟨e22, hO23, hf24⟩ := hp
      refine x_top e22 ?_
      replace hfr := hfr.tr hf24 (by omega) (by omega)
      obtain ⟨B25, hB25⟩ : ∃ y, y = nup (nup A (7 + A 1) (50 + (lowN w 101))) 1 (A 1 + 1) := ⟨_, rfl⟩
      rw [← hB25] at hO23
      have jB25 : HJ ca B25 := by rw [hB25]; exact j_ent hJ (by omega) (by omega) (by omega) (by omega)
      have eB25 : ∀ i, i ≠ 1 → i ≠ 7 + A 1 → B25 i = A i := fun i h1 h2 => by rw [hB25]; exact (nup_ne h1).trans (nup_ne h2)
      have b0B25 : B25 0 = A 0 := eB25 0 (by omega) (by omega)
      have b1B25 : B25 1 = A 1 + 1 := by rw [hB25]; exact nup_at
      have vB25 : B25 (7 + A 1) = 50 + (lowN w 101) := by rw [hB25]; exact (nup_ne (by omega)).trans nup_at
      have mB25 : ∀ k, k < A 3 → pA A k 3 ≤ pA B25 k 3 := fun k hk => by rw [show pA B25 k 3 = pA A k 3 from eB25 _ (by omega) (by omega)]; exact Nat.le_refl _
      refine lv_iload X.1 X.2.1 dL_act_52 (lv_at hl 2 rfl) ?_
      refine lv_bipush (v := nI 9) X.1 X.2.1 dL_act_54 (by decide) ?_
      refine lv_icmp_ne (tgt := 64) X.1 X.2.1 dL_act_56 (by decide) (fun c26 => ?_) (fun c26 => ?_)
      · have n27 : ¬ (A 1) = 9 := fun z => c26 ((nI_eq (by omega) (by omega)).mpr z)
        refine lv_iload X.1 X.2.1 dL_act_64 (lv_at hl 2 rfl) ?_
        refine lv_icmp_ne (tgt := 92) X.1 X.2.1 dL_act_66 (by decide) (fun c28 => ?_) (fun c28 => ?_)
        · exact absurd ((nI_eq (by omega) (by omega)).mpr (by omega)) c28
        · have n29 := (nI_eq (by omega) (by omega)).mp c28
          refine lv_iload X.1 X.2.1 dL_act_69 (lv_at hl 2 rfl) ?_
          refine lv_bipush (v := nI 9) X.1 X.2.1 dL_act_71 (by decide) ?_
          refine lv_icmp_eq (tgt := 88) X.1 X.2.1 dL_act_73 (by decide) (fun c30 => ?_) (fun c30 => ?_)
          · exact absurd ((nI_eq (by omega) (by omega)).mp c30) (by omega)
          · have n31 : ¬ (A 1) = 9 := fun z => c30 ((nI_eq (by omega) (by omega)).mpr z)
            refine lv_aload_n X.1 X.2.1 dL_act_76 rfl (lv_at hl 3 rfl) ?_
            refine lv_iload X.1 X.2.1 dL_act_77 (lv_at hl 2 rfl) ?_
            refine lv_iconst (v := nI 0) X.1 X.2.1 dL_act_79 (by decide) ?_
            refine x_callV X hK hw (k := 0) (As := [.int (nI (A 1)), .int (nI 0)]) (rest := []) (w_boat hI (by omega) jB25 hO23 (nI (A 1)) (nI 0) (fun g t tm pt sm tl hE => a_boa0 jB25 (by omega) (by omega) hE (by omega) tm pt sm tl)) (x_cwV yX7_boat cX7_boat 3 (some .int) 2 X q755 q756 q757 q1 q758 hd_X7_boat ⟨(Nat.le_of_ble_eq_true rfl), (Nat.le_of_ble_eq_true rfl)⟩) (by omega) hO23.ma rfl rfl hl.1 rfl (Nat.le_of_ble_eq_true rfl) dL_act_80 ⟨(Nat.le_of_ble_eq_true rfl), (Nat.le_of_ble_eq_true rfl)⟩ (fun v32 F33 H locs hp hw => ?_)
            obtain ⟨e34, hO35, hf36⟩ := hp
            refine x_top e34 ?_
            replace hfr := hfr.tr hf36 (by omega) (by omega)
            refine lv_iload X.1 X.2.1 dL_act_83 (lv_at hl 0 rfl) ?_
            refine lv_icmp_ne (tgt := 92) X.1 X.2.1 dL_act_85 (by decide) (fun c37 => ?_) (fun c37 => ?_)
            · exact absurd ((nI_eq (by omega) (by omega)).mpr (by omega)) c37
            · have n38 := (nI_eq (by omega) (by omega)).mp c37
              refine lv_iconst (v := nI 1) X.1 X.2.1 dL_act_88 (by decide) ?_
              refine lv_goto (tgt := 93) X.1 X.2.1 dL_act_89 (by decide) ?_
              refine W.widen (k := 1) (n := 9) (by omega) (by omega) ?_
              exact x_iret X hr hlk hK hw (v := nI 1) rfl ⟨rfl, ACT.mk1 jB25 (by omega) (by omega) mB25 hO35, fun k hk => hfr k (Or.inr hk)⟩ dL_act_93
      · exact absurd ((nI_eq (by omega) (by omega)).mp c26) (by omega)
  · have n39 : ¬ (A 1) = 0 := fun z => c7 ((bz_eq (by omega)).mpr z)
    refine lv_aload_n X.1 X.2.1 dL_act_20 rfl (lv_at hl 2 rfl) ?_
    refine lv_iconst (v := nI 1) X.1 X.2.1 dL_act_21 (by decide) ?_
    refine x_callV X hK hw (k := 0) (As := [.int (nI 1)]) (rest := []) (w_count hI (by omega) hO4 (nI 1) (fun g t z n hE => a_cou1 hJ (by omega) hk hE z n)) (x_cwV yX7_count cX7_count 2 (some .int) 1 X q818 q819 q820 q1 q821 hd_X7_count ⟨(Nat.le_of_ble_eq_true rfl), (Nat.le_of_ble_eq_true rfl)⟩) (by omega) hO4.ma rfl rfl hl.1 rfl (Nat.le_of_ble_eq_true rfl) dL_act_22 ⟨(Nat.le_of_ble_eq_true rfl), (Nat.le_of_ble_eq_true rfl)⟩ (fun v40 F41 H locs hp hw => ?_)
    obtain ⟨e42, hO43, hf44⟩ := hp
    refine x_top e42 ?_
    replace hfr := hfr.tr hf44 (by omega) (by omega)
    refine lv_if_ne (tgt := 94) X.1 X.2.1 dL_act_25 (by decide) (fun c45 => ?_) (fun c45 => ?_)
    · have n46 : ¬ (A 2) = 0 := fun z => c45 ((bz_eq (by omega)).mpr z)
      refine lv_iload X.1 X.2.1 dL_act_94 (lv_at hl 0 rfl) ?_
      refine lv_bipush (v := nI 14) X.1 X.2.1 dL_act_96 (by decide) ?_
      refine lv_icmp_ge (tgt := 115) X.1 X.2.1 dL_act_98 (by decide) (fun c47 => ?_) (fun c47 => ?_)
      · have n48 := (nI_leI (by omega) (by omega)).mp c47
        refine lv_iload X.1 X.2.1 dL_act_115 (lv_at hl 0 rfl) ?_
        refine lv_bipush (v := nI 18) X.1 X.2.1 dL_act_117 (by decide) ?_
        refine lv_icmp_ge (tgt := 176) X.1 X.2.1 dL_act_119 (by decide) (fun c49 => ?_) (fun c49 => ?_)
        · have n50 := (nI_leI (by omega) (by omega)).mp c49
          refine lv_iload X.1 X.2.1 dL_act_176 (lv_at hl 0 rfl) ?_
          refine lv_bipush (v := nI 23) X.1 X.2.1 dL_act_178 (by decide) ?_
          refine lv_icmp_ge (tgt := 206) X.1 X.2.1 dL_act_180 (by decide) (fun c51 => ?_) (fun c51 => ?_)
          · have n52 := (nI_leI (by omega) (by omega)).mp c51
            refine lv_iload X.1 X.2.1 dL_act_206 (lv_at hl 0 rfl) ?_
            refine lv_bipush (v := nI 23) X.1 X.2.1 dL_act_208 (by decide) ?_
            refine lv_icmp_ne (tgt := 312) X.1 X.2.1 dL_act_210 (by decide) (fun c53 => ?_) (fun c53 => ?_)
            · have n54 : ¬ (lowN v 30) = 23 := fun z => c53 ((nI_eq (by omega) (by omega)).mpr z)
              refine lv_iload X.1 X.2.1 dL_act_312 (lv_at hl 0 rfl) ?_
              refine lv_bipush (v := nI 27) X.1 X.2.1 dL_act_314 (by decide) ?_
              refine lv_icmp_ge (tgt := 451) X.1 X.2.1 dL_act_316 (by decide) (fun c55 => ?_) (fun c55 => ?_)
              · have n56 := (nI_leI (by omega) (by omega)).mp c55
                refine lv_aload_n X.1 X.2.1 dL_act_451 rfl (lv_at hl 2 rfl) ?_
                refine lv_iload_n X.1 X.2.1 dL_act_452 rfl (lv_at hl 4 rfl) ?_
                refine x_callS X hK hw (As := [.ref (ad 0), .int w]) (rest := []) (k_L_protests hI (by omega) hJ hc hk hO43 w) (x_cwS yL_protests cL_protests 9 (some .boolean) 2 X q1413 q1414 q0 q1415 hd_L_protests ⟨(Nat.le_of_ble_eq_true rfl), (Nat.le_of_ble_eq_true rfl)⟩) rfl hl.1 rfl (Nat.le_of_ble_eq_true rfl) dL_act_453 ⟨(Nat.le_of_ble_eq_true rfl), (Nat.le_of_ble_eq_true rfl)⟩ (fun v57 F58 H locs hp hw => ?_)
                obtain ⟨e59, hA60, hf61⟩ := hp
                refine x_top e59 ?_
                replace hfr := hfr.tr hf61 (by omega) (by omega)
                refine W.widen (k := 1) (n := 9) (by omega) (by omega) ?_
                exact x_iret X hr hlk hK hw (v := nI 1) rfl ⟨rfl, hA60, fun k hk => hfr k (Or.inr hk)⟩ dL_act_456
              · have n62 : ¬ 27 ≤ (lowN v 30) := fun z => c55 ((nI_leI (by omega) (by omega)).mpr z)
                refine lv_iload_n X.1 X.2.1 dL_act_319 rfl (lv_at hl 4 rfl) ?_
                refine lv_iload X.1 X.2.1 dL_act_320 (lv_at hl 1 rfl) ?_
                refine x_callSP X hK hw (As := [.int w, .int (nI (A 1))]) (rest := []) (k_L_low w (A 1) (by omega) (by omega)) (x_cwS yL_low cL_low 2 (some .int) 2 X q1394 q1395 q0 q1396 hd_L_low ⟨(Nat.le_of_ble_eq_true rfl), (Nat.le_of_ble_eq_true rfl)⟩) rfl hl.1 rfl (Nat.le_of_ble_eq_true rfl) dL_act_322 ⟨(Nat.le_of_ble_eq_true rfl), (Nat.le_of_ble_eq_true rfl)⟩ (fun H locs hw => ?_)
                have hw63 := lowN_lt (v := w) (n := A 1) (by omega)
                refine lv_istore (lv' := [(6, .int (nI (lowN w (A 1)))), (5, .int (nI (lowN v 30))), (4, .int (nI (A 1))), (0, .ref (ad 0)), (1, .int v), (2, .int w), (3, .ref (ad 114))]) X.1 X.2.1 dL_act_325 hl (by decide) rfl (fun ls hl => ?_)
                refine lv_iload_n X.1 X.2.1 dL_act_327 rfl (lv_at hl 5 rfl) ?_
                refine lv_iconst (v := nI 4) X.1 X.2.1 dL_act_328 (by decide) ?_
                refine lv_ishr X.1 X.2.1 dL_act_329 ?_
                refine lv_iload X.1 X.2.1 dL_act_330 (lv_at hl 2 rfl) ?_
                refine x_callSP X hK hw (As := [.int (w >>> ((nI 4) &&& 31)), .int (nI (A 1))]) (rest := []) (k_L_low (w >>> ((nI 4) &&& 31)) (A 1) (by omega) (by omega)) (x_cwS yL_low cL_low 2 (some .int) 2 X q1394 q1395 q0 q1396 hd_L_low ⟨(Nat.le_of_ble_eq_true rfl), (Nat.le_of_ble_eq_true rfl)⟩) rfl hl.1 rfl (Nat.le_of_ble_eq_true rfl) dL_act_332 ⟨(Nat.le_of_ble_eq_true rfl), (Nat.le_of_ble_eq_true rfl)⟩ (fun H locs hw => ?_)
                have hw64 := lowN_lt (v := w >>> ((nI 4) &&& 31)) (n := A 1) (by omega)
                refine lv_istore (lv' := [(7, .int (nI (lowN (w >>> ((nI 4) &&& 31)) (A 1)))), (6, .int (nI (lowN w (A 1)))), (5, .int (nI (lowN v 30))), (4, .int (nI (A 1))), (0, .ref (ad 0)), (1, .int v), (2, .int w), (3, .ref (ad 114))]) X.1 X.2.1 dL_act_335 hl (by decide) rfl (fun ls hl => ?_)
                refine lv_aload_n X.1 X.2.1 dL_act_337 rfl (lv_at hl 4 rfl) ?_
                refine lv_iconst (v := nI 5) X.1 X.2.1 dL_act_338 (by decide) ?_
                refine x_callV X hK hw (k := 0) (As := [.int (nI 5)]) (rest := []) (w_count hI (by omega) hO43 (nI 5) (fun g t z n hE => a_cou5 hJ (by omega) hk hE z n)) (x_cwV yX7_count cX7_count 2 (some .int) 1 X q818 q819 q820 q1 q821 hd_X7_count ⟨(Nat.le_of_ble_eq_true rfl), (Nat.le_of_ble_eq_true rfl)⟩) (by omega) hO43.ma rfl rfl hl.1 rfl (Nat.le_of_ble_eq_true rfl) dL_act_339 ⟨(Nat.le_of_ble_eq_true rfl), (Nat.le_of_ble_eq_true rfl)⟩ (fun v65 F66 H locs hp hw => ?_)
                obtain ⟨e67, hO68, hf69⟩ := hp
                refine x_top e67 ?_
                replace hfr := hfr.tr hf69 (by omega) (by omega)
                refine lv_istore (lv' := [(8, .int (nI (A 3))), (7, .int (nI (lowN (w >>> ((nI 4) &&& 31)) (A 1)))), (6, .int (nI (lowN w (A 1)))), (5, .int (nI (lowN v 30))), (4, .int (nI (A 1))), (0, .ref (ad 0)), (1, .int v), (2, .int w), (3, .ref (ad 114))]) X.1 X.2.1 dL_act_342 hl (by decide) rfl (fun ls hl => ?_)
                have hx : lowN w (A 1) < A 1 := by omega
                have hy : lowN (w >>> ((nI 4) &&& 31)) (A 1) < A 1 := by omega
                by_cases hne : lowN w (A 1) = lowN (w >>> ((nI 4) &&& 31)) (A 1)
                · refine lv_aload_n X.1 X.2.1 dL_act_344 rfl (lv_at hl 5 rfl) ?_
                  refine lv_iload X.1 X.2.1 dL_act_345 (lv_at hl 2 rfl) ?_
                  refine lv_iload X.1 X.2.1 dL_act_347 (lv_at hl 1 rfl) ?_
                  refine x_callV X hK hw (k := 0) (As := [.int (nI (lowN w (A 1))), .int (nI (lowN (w >>> ((nI 4) &&& 31)) (A 1)))]) (rest := []) (w_hail hI (by omega) hO68 (nI (lowN w (A 1))) (nI (lowN (w >>> ((nI 4) &&& 31)) (A 1))) (fun g t hE => by rw [← hne]; exact a_hail_same hJ hx hE)) (x_cwV yX7_hail cX7_hail 3 (some .int) 2 X q411 q412 q413 q1 q414 hd_X7_hail ⟨(Nat.le_of_ble_eq_true rfl), (Nat.le_of_ble_eq_true rfl)⟩) (by omega) hO68.ma rfl rfl hl.1 rfl (Nat.le_of_ble_eq_true rfl) dL_act_349 ⟨(Nat.le_of_ble_eq_true rfl), (Nat.le_of_ble_eq_true rfl)⟩ (fun v70 F71 H locs hp hw => ?_)
                  obtain ⟨e72, hO73, hf74⟩ := hp
                  refine x_top e72 ?_
                  replace hfr := hfr.tr hf74 (by omega) (by omega)
                  refine lv_istore (lv' := [(9, .int ((-2))), (8, .int (nI (A 3))), (7, .int (nI (lowN (w >>> ((nI 4) &&& 31)) (A 1)))), (6, .int (nI (lowN w (A 1)))), (5, .int (nI (lowN v 30))), (4, .int (nI (A 1))), (0, .ref (ad 0)), (1, .int v), (2, .int w), (3, .ref (ad 114))]) X.1 X.2.1 dL_act_352 hl (by decide) rfl (fun ls hl => ?_)
                  refine lv_iload X.1 X.2.1 dL_act_354 (lv_at hl 0 rfl) ?_
                  refine lv_if_ge (tgt := 404) X.1 X.2.1 dL_act_356 (by decide) (fun c75 => ?_) (fun c75 => ?_)
                  · exact absurd c75 (by decide)
                  · refine lv_iload X.1 X.2.1 dL_act_359 (lv_at hl 0 rfl) ?_
                    refine lv_bipush (v := (-2)) X.1 X.2.1 dL_act_361 (by decide) ?_
                    refine lv_icmp_ne (tgt := 370) X.1 X.2.1 dL_act_363 (by decide) (fun c76 => ?_) (fun c76 => ?_)
                    · exact absurd (by decide) c76
                    · refine lv_iconst (v := nI 1) X.1 X.2.1 dL_act_366 (by decide) ?_
                      refine lv_goto (tgt := 371) X.1 X.2.1 dL_act_367 (by decide) ?_
                      refine lv_iload X.1 X.2.1 dL_act_371 (lv_at hl 3 rfl) ?_
                      refine lv_iload X.1 X.2.1 dL_act_373 (lv_at hl 2 rfl) ?_
                      refine lv_icmp_ne (tgt := 382) X.1 X.2.1 dL_act_375 (by decide) (fun c77 => ?_) (fun c77 => ?_)
                      · exact absurd ((nI_eq (by omega) (by omega)).mpr (by omega)) c77
                      · have n78 := (nI_eq (by omega) (by omega)).mp c77
                        refine lv_iconst (v := nI 1) X.1 X.2.1 dL_act_378 (by decide) ?_
                        refine lv_goto (tgt := 383) X.1 X.2.1 dL_act_379 (by decide) ?_
                        refine lv_icmp_ne (tgt := 400) X.1 X.2.1 dL_act_383 (by decide) (fun c79 => ?_) (fun c79 => ?_)
                        · exact absurd (by decide) c79
                        · refine lv_aload_n X.1 X.2.1 dL_act_386 rfl (lv_at hl 6 rfl) ?_
                          refine lv_iconst (v := nI 5) X.1 X.2.1 dL_act_387 (by decide) ?_
                          refine x_callV X hK hw (k := 0) (As := [.int (nI 5)]) (rest := []) (w_count hI (by omega) hO73 (nI 5) (fun g t z n hE => a_cou5 hJ (by omega) hk hE z n)) (x_cwV yX7_count cX7_count 2 (some .int) 1 X q818 q819 q820 q1 q821 hd_X7_count ⟨(Nat.le_of_ble_eq_true rfl), (Nat.le_of_ble_eq_true rfl)⟩) (by omega) hO73.ma rfl rfl hl.1 rfl (Nat.le_of_ble_eq_true rfl) dL_act_388 ⟨(Nat.le_of_ble_eq_true rfl), (Nat.le_of_ble_eq_true rfl)⟩ (fun v80 F81 H locs hp hw => ?_)
                          obtain ⟨e82, hO83, hf84⟩ := hp
                          refine x_top e82 ?_
                          replace hfr := hfr.tr hf84 (by omega) (by omega)
                          refine lv_iload X.1 X.2.1 dL_act_391 (lv_at hl 1 rfl) ?_
                          refine lv_icmp_ne (tgt := 400) X.1 X.2.1 dL_act_393 (by decide) (fun c85 => ?_) (fun c85 => ?_)
                          · exact absurd ((nI_eq (by omega) (by omega)).mpr (by omega)) c85
                          · have n86 := (nI_eq (by omega) (by omega)).mp c85
                            refine lv_iconst (v := nI 1) X.1 X.2.1 dL_act_396 (by decide) ?_
                            refine lv_goto (tgt := 450) X.1 X.2.1 dL_act_397 (by decide) ?_
                            refine W.widen (k := 1) (n := 9) (by omega) (by omega) ?_
                            exact x_iret X hr hlk hK hw (v := nI 1) rfl ⟨rfl, ACT.same hJ hO83, fun k hk => hfr k (Or.inr hk)⟩ dL_act_450
                · by_cases hopn : opn A
                  · obtain ⟨r, hrA⟩ : ∃ r, r + 1 = A 2 := ⟨A 2 - 1, by have := hopn.1; omega⟩
                    by_cases hon : (eA A r (lowN w (A 1)) 0 = 2 ∨ eA A r (lowN w (A 1)) 0 = 3) ∧ (eA A r (lowN (w >>> ((nI 4) &&& 31)) (A 1)) 0 = 2 ∨ eA A r (lowN (w >>> ((nI 4) &&& 31)) (A 1)) 0 = 3)
                    · by_cases h310 : A 3 = 10
                      · refine lv_aload_n X.1 X.2.1 dL_act_344 rfl (lv_at hl 5 rfl) ?_
                        refine lv_iload X.1 X.2.1 dL_act_345 (lv_at hl 2 rfl) ?_
                        refine lv_iload X.1 X.2.1 dL_act_347 (lv_at hl 1 rfl) ?_
                        refine x_callV X hK hw (k := 0) (As := [.int (nI (lowN w (A 1))), .int (nI (lowN (w >>> ((nI 4) &&& 31)) (A 1)))]) (rest := []) (w_hail hI (by omega) hO68 (nI (lowN w (A 1))) (nI (lowN (w >>> ((nI 4) &&& 31)) (A 1))) (fun g t hE => a_hail_full_r hrA hJ hopn hx hy hne hon.1 hon.2 h310 hE)) (x_cwV yX7_hail cX7_hail 3 (some .int) 2 X q411 q412 q413 q1 q414 hd_X7_hail ⟨(Nat.le_of_ble_eq_true rfl), (Nat.le_of_ble_eq_true rfl)⟩) (by omega) hO68.ma rfl rfl hl.1 rfl (Nat.le_of_ble_eq_true rfl) dL_act_349 ⟨(Nat.le_of_ble_eq_true rfl), (Nat.le_of_ble_eq_true rfl)⟩ (fun v87 F88 H locs hp hw => ?_)
                        obtain ⟨e89, hO90, hf91⟩ := hp
                        refine x_top e89 ?_
                        replace hfr := hfr.tr hf91 (by omega) (by omega)
                        refine lv_istore (lv' := [(9, .int ((-3))), (8, .int (nI (A 3))), (7, .int (nI (lowN (w >>> ((nI 4) &&& 31)) (A 1)))), (6, .int (nI (lowN w (A 1)))), (5, .int (nI (lowN v 30))), (4, .int (nI (A 1))), (0, .ref (ad 0)), (1, .int v), (2, .int w), (3, .ref (ad 114))]) X.1 X.2.1 dL_act_352 hl (by decide) rfl (fun ls hl => ?_)
                        refine lv_iload X.1 X.2.1 dL_act_354 (lv_at hl 0 rfl) ?_
                        refine lv_if_ge (tgt := 404) X.1 X.2.1 dL_act_356 (by decide) (fun c92 => ?_) (fun c92 => ?_)
                        · exact absurd c92 (by decide)
                        · refine lv_iload X.1 X.2.1 dL_act_359 (lv_at hl 0 rfl) ?_
                          refine lv_bipush (v := (-2)) X.1 X.2.1 dL_act_361 (by decide) ?_
                          refine lv_icmp_ne (tgt := 370) X.1 X.2.1 dL_act_363 (by decide) (fun c93 => ?_) (fun c93 => ?_)
                          · refine lv_iconst (v := nI 0) X.1 X.2.1 dL_act_370 (by decide) ?_
                            refine lv_iload X.1 X.2.1 dL_act_371 (lv_at hl 3 rfl) ?_
                            refine lv_iload X.1 X.2.1 dL_act_373 (lv_at hl 2 rfl) ?_
                            refine lv_icmp_ne (tgt := 382) X.1 X.2.1 dL_act_375 (by decide) (fun c94 => ?_) (fun c94 => ?_)
                            · have n95 : ¬ (lowN w (A 1)) = (lowN (w >>> ((nI 4) &&& 31)) (A 1)) := fun z => c94 ((nI_eq (by omega) (by omega)).mpr z)
                              refine lv_iconst (v := nI 0) X.1 X.2.1 dL_act_382 (by decide) ?_
                              refine lv_icmp_ne (tgt := 400) X.1 X.2.1 dL_act_383 (by decide) (fun c96 => ?_) (fun c96 => ?_)
                              · exact absurd (by decide) c96
                              · refine lv_aload_n X.1 X.2.1 dL_act_386 rfl (lv_at hl 6 rfl) ?_
                                refine lv_iconst (v := nI 5) X.1 X.2.1 dL_act_387 (by decide) ?_
                                refine x_callV X hK hw (k := 0) (As := [.int (nI 5)]) (rest := []) (w_count hI (by omega) hO90 (nI 5) (fun g t z n hE => a_cou5 hJ (by omega) hk hE z n)) (x_cwV yX7_count cX7_count 2 (some .int) 1 X q818 q819 q820 q1 q821 hd_X7_count ⟨(Nat.le_of_ble_eq_true rfl), (Nat.le_of_ble_eq_true rfl)⟩) (by omega) hO90.ma rfl rfl hl.1 rfl (Nat.le_of_ble_eq_true rfl) dL_act_388 ⟨(Nat.le_of_ble_eq_true rfl), (Nat.le_of_ble_eq_true rfl)⟩ (fun v97 F98 H locs hp hw => ?_)
                                obtain ⟨e99, hO100, hf101⟩ := hp
                                refine x_top e99 ?_
                                replace hfr := hfr.tr hf101 (by omega) (by omega)
                                refine lv_iload X.1 X.2.1 dL_act_391 (lv_at hl 1 rfl) ?_
                                refine lv_icmp_ne (tgt := 400) X.1 X.2.1 dL_act_393 (by decide) (fun c102 => ?_) (fun c102 => ?_)
                                · exact absurd ((nI_eq (by omega) (by omega)).mpr (by omega)) c102
                                · have n103 := (nI_eq (by omega) (by omega)).mp c102
                                  refine lv_iconst (v := nI 1) X.1 X.2.1 dL_act_396 (by decide) ?_
                                  refine lv_goto (tgt := 450) X.1 X.2.1 dL_act_397 (by decide) ?_
                                  refine W.widen (k := 1) (n := 9) (by omega) (by omega) ?_
                                  exact x_iret X hr hlk hK hw (v := nI 1) rfl ⟨rfl, ACT.same hJ hO100, fun k hk => hfr k (Or.inr hk)⟩ dL_act_450
                            · exact absurd ((nI_eq (by omega) (by omega)).mp c94) (by omega)
                          · exact absurd c93 (by decide)
                      · refine lv_aload_n X.1 X.2.1 dL_act_344 rfl (lv_at hl 5 rfl) ?_
                        refine lv_iload X.1 X.2.1 dL_act_345 (lv_at hl 2 rfl) ?_
                        refine lv_iload X.1 X.2.1 dL_act_347 (lv_at hl 1 rfl) ?_
                        refine x_callV X hK hw (k := 0) (As := [.int (nI (lowN w (A 1))), .int (nI (lowN (w >>> ((nI 4) &&& 31)) (A 1)))]) (rest := []) (w_hail hI (by omega) hO68 (nI (lowN w (A 1))) (nI (lowN (w >>> ((nI 4) &&& 31)) (A 1))) (fun g t hE => a_hail_ok_r hrA hJ hopn hx hy hne hon.1 hon.2 (by omega) hE)) (x_cwV yX7_hail cX7_hail 3 (some .int) 2 X q411 q412 q413 q1 q414 hd_X7_hail ⟨(Nat.le_of_ble_eq_true rfl), (Nat.le_of_ble_eq_true rfl)⟩) (by omega) hO68.ma rfl rfl hl.1 rfl (Nat.le_of_ble_eq_true rfl) dL_act_349 ⟨(Nat.le_of_ble_eq_true rfl), (Nat.le_of_ble_eq_true rfl)⟩ (fun v104 F105 H locs hp hw => ?_)
                        obtain ⟨e106, hO107, hf108⟩ := hp
                        refine x_top e106 ?_
                        replace hfr := hfr.tr hf108 (by omega) (by omega)
                        obtain ⟨B109, hB109⟩ : ∃ y, y = hlA A (lowN w (A 1)) (lowN (w >>> ((nI 4) &&& 31)) (A 1)) := ⟨_, rfl⟩
                        rw [← hB109] at hO107
                        have jB109 : HJ ca B109 := by rw [hB109]; exact j_hail hJ hopn hx hy hne (by omega)
                        have eB109 : ∀ i, i ≠ 3 → ¬ (40 + 4 * A 3 ≤ i ∧ i < 44 + 4 * A 3) → B109 i = A i := fun i h1 h2 => by rw [hB109]; exact (nup_ne (by omega)).trans ((nup_ne (by omega)).trans ((nup_ne (by omega)).trans ((nup_ne (by omega)).trans (nup_ne (by omega)))))
                        have b0B109 : B109 0 = A 0 := eB109 0 (by omega) (by omega)
                        have b3B109 : B109 3 = A 3 + 1 := by rw [hB109]; exact nup_at
                        have n0B109 : pA B109 (A 3) 0 = lowN w (A 1) := by rw [hB109]; exact (nup_ne (by omega)).trans ((nup_ne (by omega)).trans ((nup_ne (by omega)).trans ((nup_ne (by omega)).trans nup_at)))
                        have n1B109 : pA B109 (A 3) 1 = lowN (w >>> ((nI 4) &&& 31)) (A 1) := by rw [hB109]; exact (nup_ne (by omega)).trans ((nup_ne (by omega)).trans ((nup_ne (by omega)).trans nup_at))
                        have n3B109 : pA B109 (A 3) 3 = 0 := by rw [hB109]; exact (nup_ne (by omega)).trans nup_at
                        have mB109 : ∀ k, k < A 3 → pA A k 3 ≤ pA B109 k 3 := fun k hk => by rw [show pA B109 k 3 = pA A k 3 from eB109 _ (by omega) (by omega)]; exact Nat.le_refl _
                        refine lv_istore (lv' := [(9, .int (nI (A 3))), (8, .int (nI (A 3))), (7, .int (nI (lowN (w >>> ((nI 4) &&& 31)) (A 1)))), (6, .int (nI (lowN w (A 1)))), (5, .int (nI (lowN v 30))), (4, .int (nI (A 1))), (0, .ref (ad 0)), (1, .int v), (2, .int w), (3, .ref (ad 114))]) X.1 X.2.1 dL_act_352 hl (by decide) rfl (fun ls hl => ?_)
                        refine lv_iload X.1 X.2.1 dL_act_354 (lv_at hl 0 rfl) ?_
                        refine lv_if_ge (tgt := 404) X.1 X.2.1 dL_act_356 (by decide) (fun c110 => ?_) (fun c110 => ?_)
                        · have n111 := (bz_ge (by omega)).mp c110
                          refine lv_iload X.1 X.2.1 dL_act_404 (lv_at hl 0 rfl) ?_
                          refine lv_iload X.1 X.2.1 dL_act_406 (lv_at hl 1 rfl) ?_
                          refine lv_icmp_ne (tgt := 449) X.1 X.2.1 dL_act_408 (by decide) (fun c112 => ?_) (fun c112 => ?_)
                          · exact absurd ((nI_eq (by omega) (by omega)).mpr (by omega)) c112
                          · have n113 := (nI_eq (by omega) (by omega)).mp c112
                            refine lv_aload_n X.1 X.2.1 dL_act_411 rfl (lv_at hl 6 rfl) ?_
                            refine lv_iload X.1 X.2.1 dL_act_412 (lv_at hl 1 rfl) ?_
                            refine lv_iconst (v := nI 0) X.1 X.2.1 dL_act_414 (by decide) ?_
                            refine x_callV X hK hw (k := 0) (As := [.int (nI (A 3)), .int (nI 0)]) (rest := []) (w_protest hI (by omega) hO107 (nI (A 3)) (nI 0) (fun g t hE => a_pro0 jB109 (by omega) (by omega) hE (by omega))) (x_cwV yX7_protest cX7_protest 3 (some .int) 2 X q813 q814 q815 q1 q816 hd_X7_protest ⟨(Nat.le_of_ble_eq_true rfl), (Nat.le_of_ble_eq_true rfl)⟩) (by omega) hO107.ma rfl rfl hl.1 rfl (Nat.le_of_ble_eq_true rfl) dL_act_415 ⟨(Nat.le_of_ble_eq_true rfl), (Nat.le_of_ble_eq_true rfl)⟩ (fun v114 F115 H locs hp hw => ?_)
                            obtain ⟨e116, hO117, hf118⟩ := hp
                            refine x_top e116 ?_
                            replace hfr := hfr.tr hf118 (by omega) (by omega)
                            refine lv_iload X.1 X.2.1 dL_act_418 (lv_at hl 3 rfl) ?_
                            refine lv_icmp_ne (tgt := 449) X.1 X.2.1 dL_act_420 (by decide) (fun c119 => ?_) (fun c119 => ?_)
                            · exact absurd ((nI_eq (by omega) (by omega)).mpr (by omega)) c119
                            · have n120 := (nI_eq (by omega) (by omega)).mp c119
                              refine lv_aload_n X.1 X.2.1 dL_act_423 rfl (lv_at hl 6 rfl) ?_
                              refine lv_iload X.1 X.2.1 dL_act_424 (lv_at hl 1 rfl) ?_
                              refine lv_iconst (v := nI 1) X.1 X.2.1 dL_act_426 (by decide) ?_
                              refine x_callV X hK hw (k := 0) (As := [.int (nI (A 3)), .int (nI 1)]) (rest := []) (w_protest hI (by omega) hO117 (nI (A 3)) (nI 1) (fun g t hE => a_pro1 jB109 (by omega) (by omega) hE (by omega))) (x_cwV yX7_protest cX7_protest 3 (some .int) 2 X q813 q814 q815 q1 q816 hd_X7_protest ⟨(Nat.le_of_ble_eq_true rfl), (Nat.le_of_ble_eq_true rfl)⟩) (by omega) hO117.ma rfl rfl hl.1 rfl (Nat.le_of_ble_eq_true rfl) dL_act_427 ⟨(Nat.le_of_ble_eq_true rfl), (Nat.le_of_ble_eq_true rfl)⟩ (fun v121 F122 H locs hp hw => ?_)
                              obtain ⟨e123, hO124, hf125⟩ := hp
                              refine x_top e123 ?_
                              replace hfr := hfr.tr hf125 (by omega) (by omega)
                              refine lv_iload X.1 X.2.1 dL_act_430 (lv_at hl 2 rfl) ?_
                              refine lv_icmp_ne (tgt := 449) X.1 X.2.1 dL_act_432 (by decide) (fun c126 => ?_) (fun c126 => ?_)
                              · exact absurd ((nI_eq (by omega) (by omega)).mpr (by omega)) c126
                              · have n127 := (nI_eq (by omega) (by omega)).mp c126
                                refine lv_aload_n X.1 X.2.1 dL_act_435 rfl (lv_at hl 6 rfl) ?_
                                refine lv_iload X.1 X.2.1 dL_act_436 (lv_at hl 1 rfl) ?_
                                refine lv_iconst (v := nI 3) X.1 X.2.1 dL_act_438 (by decide) ?_
                                refine x_callV X hK hw (k := 0) (As := [.int (nI (A 3)), .int (nI 3)]) (rest := []) (w_protest hI (by omega) hO124 (nI (A 3)) (nI 3) (fun g t hE => a_pro3 jB109 (by omega) (by omega) hE (by omega))) (x_cwV yX7_protest cX7_protest 3 (some .int) 2 X q813 q814 q815 q1 q816 hd_X7_protest ⟨(Nat.le_of_ble_eq_true rfl), (Nat.le_of_ble_eq_true rfl)⟩) (by omega) hO124.ma rfl rfl hl.1 rfl (Nat.le_of_ble_eq_true rfl) dL_act_439 ⟨(Nat.le_of_ble_eq_true rfl), (Nat.le_of_ble_eq_true rfl)⟩ (fun v128 F129 H locs hp hw => ?_)
                                obtain ⟨e130, hO131, hf132⟩ := hp
                                refine x_top e130 ?_
                                replace hfr := hfr.tr hf132 (by omega) (by omega)
                                refine lv_if_ne (tgt := 449) X.1 X.2.1 dL_act_442 (by decide) (fun c133 => ?_) (fun c133 => ?_)
                                · exact absurd ((bz_eq (by omega)).mpr (by omega)) c133
                                · have n134 := (bz_eq (by omega)).mp c133
                                  refine lv_iconst (v := nI 1) X.1 X.2.1 dL_act_445 (by decide) ?_
                                  refine lv_goto (tgt := 450) X.1 X.2.1 dL_act_446 (by decide) ?_
                                  refine W.widen (k := 1) (n := 9) (by omega) (by omega) ?_
                                  exact x_iret X hr hlk hK hw (v := nI 1) rfl ⟨rfl, ACT.mk1 jB109 (by omega) (by omega) mB109 hO131, fun k hk => hfr k (Or.inr hk)⟩ dL_act_450
                        · exact absurd ((bz_ge (by omega)).mpr (by omega)) c110
                    · refine lv_aload_n X.1 X.2.1 dL_act_344 rfl (lv_at hl 5 rfl) ?_
                      refine lv_iload X.1 X.2.1 dL_act_345 (lv_at hl 2 rfl) ?_
                      refine lv_iload X.1 X.2.1 dL_act_347 (lv_at hl 1 rfl) ?_
                      refine x_callV X hK hw (k := 0) (As := [.int (nI (lowN w (A 1))), .int (nI (lowN (w >>> ((nI 4) &&& 31)) (A 1)))]) (rest := []) (w_hail hI (by omega) hO68 (nI (lowN w (A 1))) (nI (lowN (w >>> ((nI 4) &&& 31)) (A 1))) (fun g t hE => a_hail_np_r hrA hJ hx hy hne (fun _ => by omega) hE)) (x_cwV yX7_hail cX7_hail 3 (some .int) 2 X q411 q412 q413 q1 q414 hd_X7_hail ⟨(Nat.le_of_ble_eq_true rfl), (Nat.le_of_ble_eq_true rfl)⟩) (by omega) hO68.ma rfl rfl hl.1 rfl (Nat.le_of_ble_eq_true rfl) dL_act_349 ⟨(Nat.le_of_ble_eq_true rfl), (Nat.le_of_ble_eq_true rfl)⟩ (fun v135 F136 H locs hp hw => ?_)
                      obtain ⟨e137, hO138, hf139⟩ := hp
                      refine x_top e137 ?_
                      replace hfr := hfr.tr hf139 (by omega) (by omega)
                      refine lv_istore (lv' := [(9, .int ((-4))), (8, .int (nI (A 3))), (7, .int (nI (lowN (w >>> ((nI 4) &&& 31)) (A 1)))), (6, .int (nI (lowN w (A 1)))), (5, .int (nI (lowN v 30))), (4, .int (nI (A 1))), (0, .ref (ad 0)), (1, .int v), (2, .int w), (3, .ref (ad 114))]) X.1 X.2.1 dL_act_352 hl (by decide) rfl (fun ls hl => ?_)
                      refine lv_iload X.1 X.2.1 dL_act_354 (lv_at hl 0 rfl) ?_
                      refine lv_if_ge (tgt := 404) X.1 X.2.1 dL_act_356 (by decide) (fun c140 => ?_) (fun c140 => ?_)
                      · exact absurd c140 (by decide)
                      · refine lv_iload X.1 X.2.1 dL_act_359 (lv_at hl 0 rfl) ?_
                        refine lv_bipush (v := (-2)) X.1 X.2.1 dL_act_361 (by decide) ?_
                        refine lv_icmp_ne (tgt := 370) X.1 X.2.1 dL_act_363 (by decide) (fun c141 => ?_) (fun c141 => ?_)
                        · refine lv_iconst (v := nI 0) X.1 X.2.1 dL_act_370 (by decide) ?_
                          refine lv_iload X.1 X.2.1 dL_act_371 (lv_at hl 3 rfl) ?_
                          refine lv_iload X.1 X.2.1 dL_act_373 (lv_at hl 2 rfl) ?_
                          refine lv_icmp_ne (tgt := 382) X.1 X.2.1 dL_act_375 (by decide) (fun c142 => ?_) (fun c142 => ?_)
                          · have n143 : ¬ (lowN w (A 1)) = (lowN (w >>> ((nI 4) &&& 31)) (A 1)) := fun z => c142 ((nI_eq (by omega) (by omega)).mpr z)
                            refine lv_iconst (v := nI 0) X.1 X.2.1 dL_act_382 (by decide) ?_
                            refine lv_icmp_ne (tgt := 400) X.1 X.2.1 dL_act_383 (by decide) (fun c144 => ?_) (fun c144 => ?_)
                            · exact absurd (by decide) c144
                            · refine lv_aload_n X.1 X.2.1 dL_act_386 rfl (lv_at hl 6 rfl) ?_
                              refine lv_iconst (v := nI 5) X.1 X.2.1 dL_act_387 (by decide) ?_
                              refine x_callV X hK hw (k := 0) (As := [.int (nI 5)]) (rest := []) (w_count hI (by omega) hO138 (nI 5) (fun g t z n hE => a_cou5 hJ (by omega) hk hE z n)) (x_cwV yX7_count cX7_count 2 (some .int) 1 X q818 q819 q820 q1 q821 hd_X7_count ⟨(Nat.le_of_ble_eq_true rfl), (Nat.le_of_ble_eq_true rfl)⟩) (by omega) hO138.ma rfl rfl hl.1 rfl (Nat.le_of_ble_eq_true rfl) dL_act_388 ⟨(Nat.le_of_ble_eq_true rfl), (Nat.le_of_ble_eq_true rfl)⟩ (fun v145 F146 H locs hp hw => ?_)
                              obtain ⟨e147, hO148, hf149⟩ := hp
                              refine x_top e147 ?_
                              replace hfr := hfr.tr hf149 (by omega) (by omega)
                              refine lv_iload X.1 X.2.1 dL_act_391 (lv_at hl 1 rfl) ?_
                              refine lv_icmp_ne (tgt := 400) X.1 X.2.1 dL_act_393 (by decide) (fun c150 => ?_) (fun c150 => ?_)
                              · exact absurd ((nI_eq (by omega) (by omega)).mpr (by omega)) c150
                              · have n151 := (nI_eq (by omega) (by omega)).mp c150
                                refine lv_iconst (v := nI 1) X.1 X.2.1 dL_act_396 (by decide) ?_
                                refine lv_goto (tgt := 450) X.1 X.2.1 dL_act_397 (by decide) ?_
                                refine W.widen (k := 1) (n := 9) (by omega) (by omega) ?_
                                exact x_iret X hr hlk hK hw (v := nI 1) rfl ⟨rfl, ACT.same hJ hO148, fun k hk => hfr k (Or.inr hk)⟩ dL_act_450
                          · exact absurd ((nI_eq (by omega) (by omega)).mp c142) (by omega)
                        · exact absurd c141 (by decide)
                  · refine lv_aload_n X.1 X.2.1 dL_act_344 rfl (lv_at hl 5 rfl) ?_
                    refine lv_iload X.1 X.2.1 dL_act_345 (lv_at hl 2 rfl) ?_
                    refine lv_iload X.1 X.2.1 dL_act_347 (lv_at hl 1 rfl) ?_
                    refine x_callV X hK hw (k := 0) (As := [.int (nI (lowN w (A 1))), .int (nI (lowN (w >>> ((nI 4) &&& 31)) (A 1)))]) (rest := []) (w_hail hI (by omega) hO68 (nI (lowN w (A 1))) (nI (lowN (w >>> ((nI 4) &&& 31)) (A 1))) (fun g t hE => a_hail_np hJ hx hy hne (fun ho => absurd ho hopn) hE)) (x_cwV yX7_hail cX7_hail 3 (some .int) 2 X q411 q412 q413 q1 q414 hd_X7_hail ⟨(Nat.le_of_ble_eq_true rfl), (Nat.le_of_ble_eq_true rfl)⟩) (by omega) hO68.ma rfl rfl hl.1 rfl (Nat.le_of_ble_eq_true rfl) dL_act_349 ⟨(Nat.le_of_ble_eq_true rfl), (Nat.le_of_ble_eq_true rfl)⟩ (fun v152 F153 H locs hp hw => ?_)
                    obtain ⟨e154, hO155, hf156⟩ := hp
                    refine x_top e154 ?_
                    replace hfr := hfr.tr hf156 (by omega) (by omega)
                    refine lv_istore (lv' := [(9, .int ((-4))), (8, .int (nI (A 3))), (7, .int (nI (lowN (w >>> ((nI 4) &&& 31)) (A 1)))), (6, .int (nI (lowN w (A 1)))), (5, .int (nI (lowN v 30))), (4, .int (nI (A 1))), (0, .ref (ad 0)), (1, .int v), (2, .int w), (3, .ref (ad 114))]) X.1 X.2.1 dL_act_352 hl (by decide) rfl (fun ls hl => ?_)
                    refine lv_iload X.1 X.2.1 dL_act_354 (lv_at hl 0 rfl) ?_
                    refine lv_if_ge (tgt := 404) X.1 X.2.1 dL_act_356 (by decide) (fun c157 => ?_) (fun c157 => ?_)
                    · exact absurd c157 (by decide)
                    · refine lv_iload X.1 X.2.1 dL_act_359 (lv_at hl 0 rfl) ?_
                      refine lv_bipush (v := (-2)) X.1 X.2.1 dL_act_361 (by decide) ?_
                      refine lv_icmp_ne (tgt := 370) X.1 X.2.1 dL_act_363 (by decide) (fun c158 => ?_) (fun c158 => ?_)
                      · refine lv_iconst (v := nI 0) X.1 X.2.1 dL_act_370 (by decide) ?_
                        refine lv_iload X.1 X.2.1 dL_act_371 (lv_at hl 3 rfl) ?_
                        refine lv_iload X.1 X.2.1 dL_act_373 (lv_at hl 2 rfl) ?_
                        refine lv_icmp_ne (tgt := 382) X.1 X.2.1 dL_act_375 (by decide) (fun c159 => ?_) (fun c159 => ?_)
                        · have n160 : ¬ (lowN w (A 1)) = (lowN (w >>> ((nI 4) &&& 31)) (A 1)) := fun z => c159 ((nI_eq (by omega) (by omega)).mpr z)
                          refine lv_iconst (v := nI 0) X.1 X.2.1 dL_act_382 (by decide) ?_
                          refine lv_icmp_ne (tgt := 400) X.1 X.2.1 dL_act_383 (by decide) (fun c161 => ?_) (fun c161 => ?_)
                          · exact absurd (by decide) c161
                          · refine lv_aload_n X.1 X.2.1 dL_act_386 rfl (lv_at hl 6 rfl) ?_
                            refine lv_iconst (v := nI 5) X.1 X.2.1 dL_act_387 (by decide) ?_
                            refine x_callV X hK hw (k := 0) (As := [.int (nI 5)]) (rest := []) (w_count hI (by omega) hO155 (nI 5) (fun g t z n hE => a_cou5 hJ (by omega) hk hE z n)) (x_cwV yX7_count cX7_count 2 (some .int) 1 X q818 q819 q820 q1 q821 hd_X7_count ⟨(Nat.le_of_ble_eq_true rfl), (Nat.le_of_ble_eq_true rfl)⟩) (by omega) hO155.ma rfl rfl hl.1 rfl (Nat.le_of_ble_eq_true rfl) dL_act_388 ⟨(Nat.le_of_ble_eq_true rfl), (Nat.le_of_ble_eq_true rfl)⟩ (fun v162 F163 H locs hp hw => ?_)
                            obtain ⟨e164, hO165, hf166⟩ := hp
                            refine x_top e164 ?_
                            replace hfr := hfr.tr hf166 (by omega) (by omega)
                            refine lv_iload X.1 X.2.1 dL_act_391 (lv_at hl 1 rfl) ?_
                            refine lv_icmp_ne (tgt := 400) X.1 X.2.1 dL_act_393 (by decide) (fun c167 => ?_) (fun c167 => ?_)
                            · exact absurd ((nI_eq (by omega) (by omega)).mpr (by omega)) c167
                            · have n168 := (nI_eq (by omega) (by omega)).mp c167
                              refine lv_iconst (v := nI 1) X.1 X.2.1 dL_act_396 (by decide) ?_
                              refine lv_goto (tgt := 450) X.1 X.2.1 dL_act_397 (by decide) ?_
                              refine W.widen (k := 1) (n := 9) (by omega) (by omega) ?_
                              exact x_iret X hr hlk hK hw (v := nI 1) rfl ⟨rfl, ACT.same hJ hO165, fun k hk => hfr k (Or.inr hk)⟩ dL_act_450
                        · exact absurd ((nI_eq (by omega) (by omega)).mp c159) (by omega)
                      · exact absurd c158 (by decide)
            · have n169 := (nI_eq (by omega) (by omega)).mp c53
              refine lv_iload_n X.1 X.2.1 dL_act_213 rfl (lv_at hl 4 rfl) ?_
              refine lv_iconst (v := nI 3) X.1 X.2.1 dL_act_214 (by decide) ?_
              refine x_callSP X hK hw (As := [.int w, .int (nI 3)]) (rest := []) (k_L_low w 3 (by omega) (by omega)) (x_cwS yL_low cL_low 2 (some .int) 2 X q1394 q1395 q0 q1396 hd_L_low ⟨(Nat.le_of_ble_eq_true rfl), (Nat.le_of_ble_eq_true rfl)⟩) rfl hl.1 rfl (Nat.le_of_ble_eq_true rfl) dL_act_215 ⟨(Nat.le_of_ble_eq_true rfl), (Nat.le_of_ble_eq_true rfl)⟩ (fun H locs hw => ?_)
              have hw170 := lowN_lt (v := w) (n := 3) (by omega)
              refine lv_istore (lv' := [(6, .int (nI (lowN w 3))), (5, .int (nI (lowN v 30))), (4, .int (nI (A 1))), (0, .ref (ad 0)), (1, .int v), (2, .int w), (3, .ref (ad 114))]) X.1 X.2.1 dL_act_218 hl (by decide) rfl (fun ls hl => ?_)
              rcases (show lowN w 3 = 0 ∨ lowN w 3 = 1 ∨ lowN w 3 = 2 by omega) with hq | hq | hq
              · rw [hq] at hl
                refine lv_iload X.1 X.2.1 dL_act_220 (lv_at hl 0 rfl) ?_
                refine lv_if_ne (tgt := 238) X.1 X.2.1 dL_act_222 (by decide) (fun c171 => ?_) (fun c171 => ?_)
                · exact absurd (by decide) c171
                · refine lv_iconst (v := nI 1) X.1 X.2.1 dL_act_225 (by decide) ?_
                  refine lv_iload_n X.1 X.2.1 dL_act_226 rfl (lv_at hl 5 rfl) ?_
                  refine lv_iconst (v := nI 2) X.1 X.2.1 dL_act_227 (by decide) ?_
                  refine lv_ishr X.1 X.2.1 dL_act_228 ?_
                  refine lv_bipush (v := nI 100) X.1 X.2.1 dL_act_229 (by decide) ?_
                  refine x_callSP X hK hw (As := [.int (w >>> ((nI 2) &&& 31)), .int (nI 100)]) (rest := [.int (nI 1)]) (k_L_low (w >>> ((nI 2) &&& 31)) 100 (by omega) (by omega)) (x_cwS yL_low cL_low 2 (some .int) 2 X q1394 q1395 q0 q1396 hd_L_low ⟨(Nat.le_of_ble_eq_true rfl), (Nat.le_of_ble_eq_true rfl)⟩) rfl hl.1 rfl (Nat.le_of_ble_eq_true rfl) dL_act_231 ⟨(Nat.le_of_ble_eq_true rfl), (Nat.le_of_ble_eq_true rfl)⟩ (fun H locs hw => ?_)
                  have hw172 := lowN_lt (v := w >>> ((nI 2) &&& 31)) (n := 100) (by omega)
                  refine lv_iadd X.1 X.2.1 dL_act_234 ?_
                  refine x_top (nI_add _ _) ?_
                  refine lv_goto (tgt := 266) X.1 X.2.1 dL_act_235 (by decide) ?_
                  refine lv_istore (lv' := [(7, .int (nI (1 + (lowN (w >>> ((nI 2) &&& 31)) 100)))), (6, .int (nI 0)), (5, .int (nI (lowN v 30))), (4, .int (nI (A 1))), (0, .ref (ad 0)), (1, .int v), (2, .int w), (3, .ref (ad 114))]) X.1 X.2.1 dL_act_266 hl (by decide) rfl (fun ls hl => ?_)
                  refine lv_aload_n X.1 X.2.1 dL_act_268 rfl (lv_at hl 4 rfl) ?_
                  refine lv_bipush (v := nI 6) X.1 X.2.1 dL_act_269 (by decide) ?_
                  refine lv_iload X.1 X.2.1 dL_act_271 (lv_at hl 1 rfl) ?_
                  refine lv_iadd X.1 X.2.1 dL_act_273 ?_
                  refine x_top (nI_add _ _) ?_
                  refine x_top (y := nI 6) (show nI (6 + 0) = nI 6 from rfl) ?_
                  refine x_callV X hK hw (k := 0) (As := [.int (nI 6)]) (rest := []) (w_count hI (by omega) hO43 (nI 6) (fun g t z n hE => a_cou6 hJ (by omega) hk hE z n)) (x_cwV yX7_count cX7_count 2 (some .int) 1 X q818 q819 q820 q1 q821 hd_X7_count ⟨(Nat.le_of_ble_eq_true rfl), (Nat.le_of_ble_eq_true rfl)⟩) (by omega) hO43.ma rfl rfl hl.1 rfl (Nat.le_of_ble_eq_true rfl) dL_act_274 ⟨(Nat.le_of_ble_eq_true rfl), (Nat.le_of_ble_eq_true rfl)⟩ (fun v173 F174 H locs hp hw => ?_)
                  obtain ⟨e175, hO176, hf177⟩ := hp
                  refine x_top e175 ?_
                  replace hfr := hfr.tr hf177 (by omega) (by omega)
                  refine lv_istore (lv' := [(8, .int (nI (A 4))), (7, .int (nI (1 + (lowN (w >>> ((nI 2) &&& 31)) 100)))), (6, .int (nI 0)), (5, .int (nI (lowN v 30))), (4, .int (nI (A 1))), (0, .ref (ad 0)), (1, .int v), (2, .int w), (3, .ref (ad 114))]) X.1 X.2.1 dL_act_277 hl (by decide) rfl (fun ls hl => ?_)
                  refine lv_aload_n X.1 X.2.1 dL_act_279 rfl (lv_at hl 5 rfl) ?_
                  refine lv_iload X.1 X.2.1 dL_act_280 (lv_at hl 2 rfl) ?_
                  refine lv_iload X.1 X.2.1 dL_act_282 (lv_at hl 1 rfl) ?_
                  refine x_callV X hK hw (k := 0) (As := [.int (nI 0), .int (nI (1 + (lowN (w >>> ((nI 2) &&& 31)) 100)))]) (rest := []) (w_set hI (by omega) hO176 (nI 0) (nI (1 + (lowN (w >>> ((nI 2) &&& 31)) 100))) (fun g t hE => (show AR (s_X0_changeSetting g t (nI 0) (nI (1 + (lowN (w >>> ((nI 2) &&& 31)) 100)))) (nI (A 4)) (nup A (4 + 0) (1 + (lowN (w >>> ((nI 2) &&& 31)) 100))) from a_set hJ.1.2.1 (i := 0) (v := 1 + (lowN (w >>> ((nI 2) &&& 31)) 100)) (by omega) (by simp; omega) (by simp; try omega) hE))) (x_cwV yX7_set cX7_set 3 (some .int) 2 X q463 q464 q465 q1 q466 hd_X7_set ⟨(Nat.le_of_ble_eq_true rfl), (Nat.le_of_ble_eq_true rfl)⟩) (by omega) hO176.ma rfl rfl hl.1 rfl (Nat.le_of_ble_eq_true rfl) dL_act_284 ⟨(Nat.le_of_ble_eq_true rfl), (Nat.le_of_ble_eq_true rfl)⟩ (fun v178 F179 H locs hp hw => ?_)
                  obtain ⟨e180, hO181, hf182⟩ := hp
                  refine x_top e180 ?_
                  replace hfr := hfr.tr hf182 (by omega) (by omega)
                  obtain ⟨B183, hB183⟩ : ∃ y, y = nup A (4 + 0) (1 + (lowN (w >>> ((nI 2) &&& 31)) 100)) := ⟨_, rfl⟩
                  rw [← hB183] at hO181
                  have jB183 : HJ ca B183 := by rw [hB183]; exact j_set hJ (i := 0) (v := 1 + (lowN (w >>> ((nI 2) &&& 31)) 100)) (by omega) (by simp; omega) (by simp; try omega)
                  have eB183 : ∀ j, j ≠ 4 + 0 → B183 j = A j := fun j hj => by rw [hB183]; exact nup_ne hj
                  have b0B183 : B183 0 = A 0 := eB183 0 (by omega)
                  have vB183 : B183 4 = 1 + (lowN (w >>> ((nI 2) &&& 31)) 100) := by rw [hB183]; exact nup_at
                  have mB183 : ∀ k, k < A 3 → pA A k 3 ≤ pA B183 k 3 := fun k hk => by rw [show pA B183 k 3 = pA A k 3 from eB183 _ (by omega)]; exact Nat.le_refl _
                  refine lv_iload X.1 X.2.1 dL_act_287 (lv_at hl 0 rfl) ?_
                  refine lv_icmp_ne (tgt := 310) X.1 X.2.1 dL_act_289 (by decide) (fun c184 => ?_) (fun c184 => ?_)
                  · exact absurd ((nI_eq (by omega) (by omega)).mpr (by omega)) c184
                  · have n185 := (nI_eq (by omega) (by omega)).mp c184
                    refine lv_aload_n X.1 X.2.1 dL_act_292 rfl (lv_at hl 5 rfl) ?_
                    refine lv_bipush (v := nI 6) X.1 X.2.1 dL_act_293 (by decide) ?_
                    refine lv_iload X.1 X.2.1 dL_act_295 (lv_at hl 2 rfl) ?_
                    refine lv_iadd X.1 X.2.1 dL_act_297 ?_
                    refine x_top (nI_add _ _) ?_
                    refine x_top (y := nI 6) (show nI (6 + 0) = nI 6 from rfl) ?_
                    refine x_callV X hK hw (k := 0) (As := [.int (nI 6)]) (rest := []) (w_count hI (by omega) hO181 (nI 6) (fun g t z n hE => a_cou6 jB183 (by omega) (by omega) hE z n)) (x_cwV yX7_count cX7_count 2 (some .int) 1 X q818 q819 q820 q1 q821 hd_X7_count ⟨(Nat.le_of_ble_eq_true rfl), (Nat.le_of_ble_eq_true rfl)⟩) (by omega) hO181.ma rfl rfl hl.1 rfl (Nat.le_of_ble_eq_true rfl) dL_act_298 ⟨(Nat.le_of_ble_eq_true rfl), (Nat.le_of_ble_eq_true rfl)⟩ (fun v186 F187 H locs hp hw => ?_)
                    obtain ⟨e188, hO189, hf190⟩ := hp
                    refine x_top e188 ?_
                    replace hfr := hfr.tr hf190 (by omega) (by omega)
                    refine lv_iload X.1 X.2.1 dL_act_301 (lv_at hl 1 rfl) ?_
                    refine lv_icmp_ne (tgt := 310) X.1 X.2.1 dL_act_303 (by decide) (fun c191 => ?_) (fun c191 => ?_)
                    · exact absurd ((nI_eq (by omega) (by omega)).mpr (by omega)) c191
                    · have n192 := (nI_eq (by omega) (by omega)).mp c191
                      refine lv_iconst (v := nI 1) X.1 X.2.1 dL_act_306 (by decide) ?_
                      refine lv_goto (tgt := 311) X.1 X.2.1 dL_act_307 (by decide) ?_
                      refine W.widen (k := 1) (n := 9) (by omega) (by omega) ?_
                      exact x_iret X hr hlk hK hw (v := nI 1) rfl ⟨rfl, ACT.mk1 jB183 (by omega) (by omega) mB183 hO189, fun k hk => hfr k (Or.inr hk)⟩ dL_act_311
              · rw [hq] at hl
                refine lv_iload X.1 X.2.1 dL_act_220 (lv_at hl 0 rfl) ?_
                refine lv_if_ne (tgt := 238) X.1 X.2.1 dL_act_222 (by decide) (fun c193 => ?_) (fun c193 => ?_)
                · refine lv_iload X.1 X.2.1 dL_act_238 (lv_at hl 0 rfl) ?_
                  refine lv_iconst (v := nI 1) X.1 X.2.1 dL_act_240 (by decide) ?_
                  refine lv_icmp_ne (tgt := 258) X.1 X.2.1 dL_act_241 (by decide) (fun c194 => ?_) (fun c194 => ?_)
                  · exact absurd (by decide) c194
                  · refine lv_iconst (v := nI 1) X.1 X.2.1 dL_act_244 (by decide) ?_
                    refine lv_iload_n X.1 X.2.1 dL_act_245 rfl (lv_at hl 5 rfl) ?_
                    refine lv_iconst (v := nI 2) X.1 X.2.1 dL_act_246 (by decide) ?_
                    refine lv_ishr X.1 X.2.1 dL_act_247 ?_
                    refine lv_sipush (v := nI 300) X.1 X.2.1 dL_act_248 (by decide) ?_
                    refine x_callSP X hK hw (As := [.int (w >>> ((nI 2) &&& 31)), .int (nI 300)]) (rest := [.int (nI 1)]) (k_L_low (w >>> ((nI 2) &&& 31)) 300 (by omega) (by omega)) (x_cwS yL_low cL_low 2 (some .int) 2 X q1394 q1395 q0 q1396 hd_L_low ⟨(Nat.le_of_ble_eq_true rfl), (Nat.le_of_ble_eq_true rfl)⟩) rfl hl.1 rfl (Nat.le_of_ble_eq_true rfl) dL_act_251 ⟨(Nat.le_of_ble_eq_true rfl), (Nat.le_of_ble_eq_true rfl)⟩ (fun H locs hw => ?_)
                    have hw195 := lowN_lt (v := w >>> ((nI 2) &&& 31)) (n := 300) (by omega)
                    refine lv_iadd X.1 X.2.1 dL_act_254 ?_
                    refine x_top (nI_add _ _) ?_
                    refine lv_goto (tgt := 266) X.1 X.2.1 dL_act_255 (by decide) ?_
                    refine lv_istore (lv' := [(7, .int (nI (1 + (lowN (w >>> ((nI 2) &&& 31)) 300)))), (6, .int (nI 1)), (5, .int (nI (lowN v 30))), (4, .int (nI (A 1))), (0, .ref (ad 0)), (1, .int v), (2, .int w), (3, .ref (ad 114))]) X.1 X.2.1 dL_act_266 hl (by decide) rfl (fun ls hl => ?_)
                    refine lv_aload_n X.1 X.2.1 dL_act_268 rfl (lv_at hl 4 rfl) ?_
                    refine lv_bipush (v := nI 6) X.1 X.2.1 dL_act_269 (by decide) ?_
                    refine lv_iload X.1 X.2.1 dL_act_271 (lv_at hl 1 rfl) ?_
                    refine lv_iadd X.1 X.2.1 dL_act_273 ?_
                    refine x_top (nI_add _ _) ?_
                    refine x_top (y := nI 7) (show nI (6 + 1) = nI 7 from rfl) ?_
                    refine x_callV X hK hw (k := 0) (As := [.int (nI 7)]) (rest := []) (w_count hI (by omega) hO43 (nI 7) (fun g t z n hE => a_cou7 hJ (by omega) hk hE z n)) (x_cwV yX7_count cX7_count 2 (some .int) 1 X q818 q819 q820 q1 q821 hd_X7_count ⟨(Nat.le_of_ble_eq_true rfl), (Nat.le_of_ble_eq_true rfl)⟩) (by omega) hO43.ma rfl rfl hl.1 rfl (Nat.le_of_ble_eq_true rfl) dL_act_274 ⟨(Nat.le_of_ble_eq_true rfl), (Nat.le_of_ble_eq_true rfl)⟩ (fun v196 F197 H locs hp hw => ?_)
                    obtain ⟨e198, hO199, hf200⟩ := hp
                    refine x_top e198 ?_
                    replace hfr := hfr.tr hf200 (by omega) (by omega)
                    refine lv_istore (lv' := [(8, .int (nI (A 5))), (7, .int (nI (1 + (lowN (w >>> ((nI 2) &&& 31)) 300)))), (6, .int (nI 1)), (5, .int (nI (lowN v 30))), (4, .int (nI (A 1))), (0, .ref (ad 0)), (1, .int v), (2, .int w), (3, .ref (ad 114))]) X.1 X.2.1 dL_act_277 hl (by decide) rfl (fun ls hl => ?_)
                    refine lv_aload_n X.1 X.2.1 dL_act_279 rfl (lv_at hl 5 rfl) ?_
                    refine lv_iload X.1 X.2.1 dL_act_280 (lv_at hl 2 rfl) ?_
                    refine lv_iload X.1 X.2.1 dL_act_282 (lv_at hl 1 rfl) ?_
                    refine x_callV X hK hw (k := 0) (As := [.int (nI 1), .int (nI (1 + (lowN (w >>> ((nI 2) &&& 31)) 300)))]) (rest := []) (w_set hI (by omega) hO199 (nI 1) (nI (1 + (lowN (w >>> ((nI 2) &&& 31)) 300))) (fun g t hE => (show AR (s_X0_changeSetting g t (nI 1) (nI (1 + (lowN (w >>> ((nI 2) &&& 31)) 300)))) (nI (A 5)) (nup A (4 + 1) (1 + (lowN (w >>> ((nI 2) &&& 31)) 300))) from a_set hJ.1.2.1 (i := 1) (v := 1 + (lowN (w >>> ((nI 2) &&& 31)) 300)) (by omega) (by simp; omega) (by simp; try omega) hE))) (x_cwV yX7_set cX7_set 3 (some .int) 2 X q463 q464 q465 q1 q466 hd_X7_set ⟨(Nat.le_of_ble_eq_true rfl), (Nat.le_of_ble_eq_true rfl)⟩) (by omega) hO199.ma rfl rfl hl.1 rfl (Nat.le_of_ble_eq_true rfl) dL_act_284 ⟨(Nat.le_of_ble_eq_true rfl), (Nat.le_of_ble_eq_true rfl)⟩ (fun v201 F202 H locs hp hw => ?_)
                    obtain ⟨e203, hO204, hf205⟩ := hp
                    refine x_top e203 ?_
                    replace hfr := hfr.tr hf205 (by omega) (by omega)
                    obtain ⟨B206, hB206⟩ : ∃ y, y = nup A (4 + 1) (1 + (lowN (w >>> ((nI 2) &&& 31)) 300)) := ⟨_, rfl⟩
                    rw [← hB206] at hO204
                    have jB206 : HJ ca B206 := by rw [hB206]; exact j_set hJ (i := 1) (v := 1 + (lowN (w >>> ((nI 2) &&& 31)) 300)) (by omega) (by simp; omega) (by simp; try omega)
                    have eB206 : ∀ j, j ≠ 4 + 1 → B206 j = A j := fun j hj => by rw [hB206]; exact nup_ne hj
                    have b0B206 : B206 0 = A 0 := eB206 0 (by omega)
                    have vB206 : B206 5 = 1 + (lowN (w >>> ((nI 2) &&& 31)) 300) := by rw [hB206]; exact nup_at
                    have mB206 : ∀ k, k < A 3 → pA A k 3 ≤ pA B206 k 3 := fun k hk => by rw [show pA B206 k 3 = pA A k 3 from eB206 _ (by omega)]; exact Nat.le_refl _
                    refine lv_iload X.1 X.2.1 dL_act_287 (lv_at hl 0 rfl) ?_
                    refine lv_icmp_ne (tgt := 310) X.1 X.2.1 dL_act_289 (by decide) (fun c207 => ?_) (fun c207 => ?_)
                    · exact absurd ((nI_eq (by omega) (by omega)).mpr (by omega)) c207
                    · have n208 := (nI_eq (by omega) (by omega)).mp c207
                      refine lv_aload_n X.1 X.2.1 dL_act_292 rfl (lv_at hl 5 rfl) ?_
                      refine lv_bipush (v := nI 6) X.1 X.2.1 dL_act_293 (by decide) ?_
                      refine lv_iload X.1 X.2.1 dL_act_295 (lv_at hl 2 rfl) ?_
                      refine lv_iadd X.1 X.2.1 dL_act_297 ?_
                      refine x_top (nI_add _ _) ?_
                      refine x_top (y := nI 7) (show nI (6 + 1) = nI 7 from rfl) ?_
                      refine x_callV X hK hw (k := 0) (As := [.int (nI 7)]) (rest := []) (w_count hI (by omega) hO204 (nI 7) (fun g t z n hE => a_cou7 jB206 (by omega) (by omega) hE z n)) (x_cwV yX7_count cX7_count 2 (some .int) 1 X q818 q819 q820 q1 q821 hd_X7_count ⟨(Nat.le_of_ble_eq_true rfl), (Nat.le_of_ble_eq_true rfl)⟩) (by omega) hO204.ma rfl rfl hl.1 rfl (Nat.le_of_ble_eq_true rfl) dL_act_298 ⟨(Nat.le_of_ble_eq_true rfl), (Nat.le_of_ble_eq_true rfl)⟩ (fun v209 F210 H locs hp hw => ?_)
                      obtain ⟨e211, hO212, hf213⟩ := hp
                      refine x_top e211 ?_
                      replace hfr := hfr.tr hf213 (by omega) (by omega)
                      refine lv_iload X.1 X.2.1 dL_act_301 (lv_at hl 1 rfl) ?_
                      refine lv_icmp_ne (tgt := 310) X.1 X.2.1 dL_act_303 (by decide) (fun c214 => ?_) (fun c214 => ?_)
                      · exact absurd ((nI_eq (by omega) (by omega)).mpr (by omega)) c214
                      · have n215 := (nI_eq (by omega) (by omega)).mp c214
                        refine lv_iconst (v := nI 1) X.1 X.2.1 dL_act_306 (by decide) ?_
                        refine lv_goto (tgt := 311) X.1 X.2.1 dL_act_307 (by decide) ?_
                        refine W.widen (k := 1) (n := 9) (by omega) (by omega) ?_
                        exact x_iret X hr hlk hK hw (v := nI 1) rfl ⟨rfl, ACT.mk1 jB206 (by omega) (by omega) mB206 hO212, fun k hk => hfr k (Or.inr hk)⟩ dL_act_311
                · exact absurd c193 (by decide)
              · rw [hq] at hl
                refine lv_iload X.1 X.2.1 dL_act_220 (lv_at hl 0 rfl) ?_
                refine lv_if_ne (tgt := 238) X.1 X.2.1 dL_act_222 (by decide) (fun c216 => ?_) (fun c216 => ?_)
                · refine lv_iload X.1 X.2.1 dL_act_238 (lv_at hl 0 rfl) ?_
                  refine lv_iconst (v := nI 1) X.1 X.2.1 dL_act_240 (by decide) ?_
                  refine lv_icmp_ne (tgt := 258) X.1 X.2.1 dL_act_241 (by decide) (fun c217 => ?_) (fun c217 => ?_)
                  · refine lv_iload_n X.1 X.2.1 dL_act_258 rfl (lv_at hl 5 rfl) ?_
                    refine lv_iconst (v := nI 2) X.1 X.2.1 dL_act_259 (by decide) ?_
                    refine lv_ishr X.1 X.2.1 dL_act_260 ?_
                    refine lv_bipush (v := nI 7) X.1 X.2.1 dL_act_261 (by decide) ?_
                    refine x_callSP X hK hw (As := [.int (w >>> ((nI 2) &&& 31)), .int (nI 7)]) (rest := []) (k_L_low (w >>> ((nI 2) &&& 31)) 7 (by omega) (by omega)) (x_cwS yL_low cL_low 2 (some .int) 2 X q1394 q1395 q0 q1396 hd_L_low ⟨(Nat.le_of_ble_eq_true rfl), (Nat.le_of_ble_eq_true rfl)⟩) rfl hl.1 rfl (Nat.le_of_ble_eq_true rfl) dL_act_263 ⟨(Nat.le_of_ble_eq_true rfl), (Nat.le_of_ble_eq_true rfl)⟩ (fun H locs hw => ?_)
                    have hw218 := lowN_lt (v := w >>> ((nI 2) &&& 31)) (n := 7) (by omega)
                    refine lv_istore (lv' := [(7, .int (nI (lowN (w >>> ((nI 2) &&& 31)) 7))), (6, .int (nI 2)), (5, .int (nI (lowN v 30))), (4, .int (nI (A 1))), (0, .ref (ad 0)), (1, .int v), (2, .int w), (3, .ref (ad 114))]) X.1 X.2.1 dL_act_266 hl (by decide) rfl (fun ls hl => ?_)
                    refine lv_aload_n X.1 X.2.1 dL_act_268 rfl (lv_at hl 4 rfl) ?_
                    refine lv_bipush (v := nI 6) X.1 X.2.1 dL_act_269 (by decide) ?_
                    refine lv_iload X.1 X.2.1 dL_act_271 (lv_at hl 1 rfl) ?_
                    refine lv_iadd X.1 X.2.1 dL_act_273 ?_
                    refine x_top (nI_add _ _) ?_
                    refine x_top (y := nI 8) (show nI (6 + 2) = nI 8 from rfl) ?_
                    refine x_callV X hK hw (k := 0) (As := [.int (nI 8)]) (rest := []) (w_count hI (by omega) hO43 (nI 8) (fun g t z n hE => a_cou8 hJ (by omega) hk hE z n)) (x_cwV yX7_count cX7_count 2 (some .int) 1 X q818 q819 q820 q1 q821 hd_X7_count ⟨(Nat.le_of_ble_eq_true rfl), (Nat.le_of_ble_eq_true rfl)⟩) (by omega) hO43.ma rfl rfl hl.1 rfl (Nat.le_of_ble_eq_true rfl) dL_act_274 ⟨(Nat.le_of_ble_eq_true rfl), (Nat.le_of_ble_eq_true rfl)⟩ (fun v219 F220 H locs hp hw => ?_)
                    obtain ⟨e221, hO222, hf223⟩ := hp
                    refine x_top e221 ?_
                    replace hfr := hfr.tr hf223 (by omega) (by omega)
                    refine lv_istore (lv' := [(8, .int (nI (A 6))), (7, .int (nI (lowN (w >>> ((nI 2) &&& 31)) 7))), (6, .int (nI 2)), (5, .int (nI (lowN v 30))), (4, .int (nI (A 1))), (0, .ref (ad 0)), (1, .int v), (2, .int w), (3, .ref (ad 114))]) X.1 X.2.1 dL_act_277 hl (by decide) rfl (fun ls hl => ?_)
                    refine lv_aload_n X.1 X.2.1 dL_act_279 rfl (lv_at hl 5 rfl) ?_
                    refine lv_iload X.1 X.2.1 dL_act_280 (lv_at hl 2 rfl) ?_
                    refine lv_iload X.1 X.2.1 dL_act_282 (lv_at hl 1 rfl) ?_
                    refine x_callV X hK hw (k := 0) (As := [.int (nI 2), .int (nI (lowN (w >>> ((nI 2) &&& 31)) 7))]) (rest := []) (w_set hI (by omega) hO222 (nI 2) (nI (lowN (w >>> ((nI 2) &&& 31)) 7)) (fun g t hE => (show AR (s_X0_changeSetting g t (nI 2) (nI (lowN (w >>> ((nI 2) &&& 31)) 7))) (nI (A 6)) (nup A (4 + 2) (lowN (w >>> ((nI 2) &&& 31)) 7)) from a_set hJ.1.2.1 (i := 2) (v := lowN (w >>> ((nI 2) &&& 31)) 7) (by omega) (by simp; omega) (by simp; try omega) hE))) (x_cwV yX7_set cX7_set 3 (some .int) 2 X q463 q464 q465 q1 q466 hd_X7_set ⟨(Nat.le_of_ble_eq_true rfl), (Nat.le_of_ble_eq_true rfl)⟩) (by omega) hO222.ma rfl rfl hl.1 rfl (Nat.le_of_ble_eq_true rfl) dL_act_284 ⟨(Nat.le_of_ble_eq_true rfl), (Nat.le_of_ble_eq_true rfl)⟩ (fun v224 F225 H locs hp hw => ?_)
                    obtain ⟨e226, hO227, hf228⟩ := hp
                    refine x_top e226 ?_
                    replace hfr := hfr.tr hf228 (by omega) (by omega)
                    obtain ⟨B229, hB229⟩ : ∃ y, y = nup A (4 + 2) (lowN (w >>> ((nI 2) &&& 31)) 7) := ⟨_, rfl⟩
                    rw [← hB229] at hO227
                    have jB229 : HJ ca B229 := by rw [hB229]; exact j_set hJ (i := 2) (v := lowN (w >>> ((nI 2) &&& 31)) 7) (by omega) (by simp; omega) (by simp; try omega)
                    have eB229 : ∀ j, j ≠ 4 + 2 → B229 j = A j := fun j hj => by rw [hB229]; exact nup_ne hj
                    have b0B229 : B229 0 = A 0 := eB229 0 (by omega)
                    have vB229 : B229 6 = lowN (w >>> ((nI 2) &&& 31)) 7 := by rw [hB229]; exact nup_at
                    have mB229 : ∀ k, k < A 3 → pA A k 3 ≤ pA B229 k 3 := fun k hk => by rw [show pA B229 k 3 = pA A k 3 from eB229 _ (by omega)]; exact Nat.le_refl _
                    refine lv_iload X.1 X.2.1 dL_act_287 (lv_at hl 0 rfl) ?_
                    refine lv_icmp_ne (tgt := 310) X.1 X.2.1 dL_act_289 (by decide) (fun c230 => ?_) (fun c230 => ?_)
                    · exact absurd ((nI_eq (by omega) (by omega)).mpr (by omega)) c230
                    · have n231 := (nI_eq (by omega) (by omega)).mp c230
                      refine lv_aload_n X.1 X.2.1 dL_act_292 rfl (lv_at hl 5 rfl) ?_
                      refine lv_bipush (v := nI 6) X.1 X.2.1 dL_act_293 (by decide) ?_
                      refine lv_iload X.1 X.2.1 dL_act_295 (lv_at hl 2 rfl) ?_
                      refine lv_iadd X.1 X.2.1 dL_act_297 ?_
                      refine x_top (nI_add _ _) ?_
                      refine x_top (y := nI 8) (show nI (6 + 2) = nI 8 from rfl) ?_
                      refine x_callV X hK hw (k := 0) (As := [.int (nI 8)]) (rest := []) (w_count hI (by omega) hO227 (nI 8) (fun g t z n hE => a_cou8 jB229 (by omega) (by omega) hE z n)) (x_cwV yX7_count cX7_count 2 (some .int) 1 X q818 q819 q820 q1 q821 hd_X7_count ⟨(Nat.le_of_ble_eq_true rfl), (Nat.le_of_ble_eq_true rfl)⟩) (by omega) hO227.ma rfl rfl hl.1 rfl (Nat.le_of_ble_eq_true rfl) dL_act_298 ⟨(Nat.le_of_ble_eq_true rfl), (Nat.le_of_ble_eq_true rfl)⟩ (fun v232 F233 H locs hp hw => ?_)
                      obtain ⟨e234, hO235, hf236⟩ := hp
                      refine x_top e234 ?_
                      replace hfr := hfr.tr hf236 (by omega) (by omega)
                      refine lv_iload X.1 X.2.1 dL_act_301 (lv_at hl 1 rfl) ?_
                      refine lv_icmp_ne (tgt := 310) X.1 X.2.1 dL_act_303 (by decide) (fun c237 => ?_) (fun c237 => ?_)
                      · exact absurd ((nI_eq (by omega) (by omega)).mpr (by omega)) c237
                      · have n238 := (nI_eq (by omega) (by omega)).mp c237
                        refine lv_iconst (v := nI 1) X.1 X.2.1 dL_act_306 (by decide) ?_
                        refine lv_goto (tgt := 311) X.1 X.2.1 dL_act_307 (by decide) ?_
                        refine W.widen (k := 1) (n := 9) (by omega) (by omega) ?_
                        exact x_iret X hr hlk hK hw (v := nI 1) rfl ⟨rfl, ACT.mk1 jB229 (by omega) (by omega) mB229 hO235, fun k hk => hfr k (Or.inr hk)⟩ dL_act_311
                  · exact absurd c217 (by decide)
                · exact absurd c216 (by decide)
          · have n239 : ¬ 23 ≤ (lowN v 30) := fun z => c51 ((nI_leI (by omega) (by omega)).mpr z)
            refine lv_aload_n X.1 X.2.1 dL_act_183 rfl (lv_at hl 2 rfl) ?_
            refine lv_iload X.1 X.2.1 dL_act_184 (lv_at hl 0 rfl) ?_
            refine lv_bipush (v := nI 20) X.1 X.2.1 dL_act_186 (by decide) ?_
            refine lv_icmp_ge (tgt := 195) X.1 X.2.1 dL_act_188 (by decide) (fun c240 => ?_) (fun c240 => ?_)
            · have n241 := (nI_leI (by omega) (by omega)).mp c240
              refine lv_iload X.1 X.2.1 dL_act_195 (lv_at hl 0 rfl) ?_
              refine lv_bipush (v := nI 19) X.1 X.2.1 dL_act_197 (by decide) ?_
              refine lv_isub X.1 X.2.1 dL_act_199 ?_
              refine x_top (pk_sub (by omega)) ?_
              refine lv_iload_n X.1 X.2.1 dL_act_200 rfl (lv_at hl 4 rfl) ?_
              refine lv_aload_n X.1 X.2.1 dL_act_201 rfl (lv_at hl 5 rfl) ?_
              refine x_callSn X hK hw (As := [.ref (ad 0), .int (nI ((lowN v 30) - 19)), .int w, .ref (ad 114)]) (rest := []) (k_L_races hI hJ hc hk hO43 (by omega) ((lowN v 30) - 19) (by omega) w) (x_cwSn yL_races cL_races 11 (some .boolean) 4 X q1407 q1408 q0 q1409 hd_L_races ⟨(Nat.le_of_ble_eq_true rfl), (Nat.le_of_ble_eq_true rfl)⟩) rfl hl.1 rfl (Nat.le_of_ble_eq_true rfl) dL_act_202 ⟨(Nat.le_of_ble_eq_true rfl), (Nat.le_of_ble_eq_true rfl)⟩ (fun v242 F243 H locs hp hw => ?_)
              obtain ⟨hv, hA, hf⟩ := hp
              refine x_top hv ?_
              exact x_iret X hr hlk hK hw (v := nI 1) rfl ⟨rfl, hA, fun k hk => (hf k hk).trans (hfr k (Or.inr hk))⟩ dL_act_205
            · have n244 : ¬ 20 ≤ (lowN v 30) := fun z => c240 ((nI_leI (by omega) (by omega)).mpr z)
              refine lv_iconst (v := nI 0) X.1 X.2.1 dL_act_191 (by decide) ?_
              refine lv_goto (tgt := 200) X.1 X.2.1 dL_act_192 (by decide) ?_
              refine lv_iload_n X.1 X.2.1 dL_act_200 rfl (lv_at hl 4 rfl) ?_
              refine lv_aload_n X.1 X.2.1 dL_act_201 rfl (lv_at hl 5 rfl) ?_
              refine x_callSn X hK hw (As := [.ref (ad 0), .int (nI 0), .int w, .ref (ad 114)]) (rest := []) (k_L_races hI hJ hc hk hO43 (by omega) (0) (by omega) w) (x_cwSn yL_races cL_races 11 (some .boolean) 4 X q1407 q1408 q0 q1409 hd_L_races ⟨(Nat.le_of_ble_eq_true rfl), (Nat.le_of_ble_eq_true rfl)⟩) rfl hl.1 rfl (Nat.le_of_ble_eq_true rfl) dL_act_202 ⟨(Nat.le_of_ble_eq_true rfl), (Nat.le_of_ble_eq_true rfl)⟩ (fun v245 F246 H locs hp hw => ?_)
              obtain ⟨hv, hA, hf⟩ := hp
              refine x_top hv ?_
              exact x_iret X hr hlk hK hw (v := nI 1) rfl ⟨rfl, hA, fun k hk => (hf k hk).trans (hfr k (Or.inr hk))⟩ dL_act_205
        · have n247 : ¬ 18 ≤ (lowN v 30) := fun z => c49 ((nI_leI (by omega) (by omega)).mpr z)
          refine lv_aload_n X.1 X.2.1 dL_act_122 rfl (lv_at hl 2 rfl) ?_
          refine lv_iconst (v := nI 3) X.1 X.2.1 dL_act_123 (by decide) ?_
          refine x_callV X hK hw (k := 0) (As := [.int (nI 3)]) (rest := []) (w_count hI (by omega) hO43 (nI 3) (fun g t z n hE => a_cou3 hJ (by omega) hk hE z n)) (x_cwV yX7_count cX7_count 2 (some .int) 1 X q818 q819 q820 q1 q821 hd_X7_count ⟨(Nat.le_of_ble_eq_true rfl), (Nat.le_of_ble_eq_true rfl)⟩) (by omega) hO43.ma rfl rfl hl.1 rfl (Nat.le_of_ble_eq_true rfl) dL_act_124 ⟨(Nat.le_of_ble_eq_true rfl), (Nat.le_of_ble_eq_true rfl)⟩ (fun v248 F249 H locs hp hw => ?_)
          obtain ⟨e250, hO251, hf252⟩ := hp
          refine x_top e250 ?_
          replace hfr := hfr.tr hf252 (by omega) (by omega)
          refine lv_istore (lv' := [(6, .int (nI (A 0))), (5, .int (nI (lowN v 30))), (4, .int (nI (A 1))), (0, .ref (ad 0)), (1, .int v), (2, .int w), (3, .ref (ad 114))]) X.1 X.2.1 dL_act_127 hl (by decide) rfl (fun ls hl => ?_)
          refine lv_iconst (v := nI 1) X.1 X.2.1 dL_act_129 (by decide) ?_
          refine lv_iload_n X.1 X.2.1 dL_act_130 rfl (lv_at hl 5 rfl) ?_
          refine lv_iload_n X.1 X.2.1 dL_act_131 rfl (lv_at hl 5 rfl) ?_
          refine lv_bipush (v := nI 8) X.1 X.2.1 dL_act_132 (by decide) ?_
          refine lv_ishr X.1 X.2.1 dL_act_134 ?_
          refine lv_iconst (v := nI 2) X.1 X.2.1 dL_act_135 (by decide) ?_
          refine x_callSP X hK hw (As := [.int (w >>> ((nI 8) &&& 31)), .int (nI 2)]) (rest := [.int w, .int (nI 1)]) (k_L_low (w >>> ((nI 8) &&& 31)) 2 (by omega) (by omega)) (x_cwS yL_low cL_low 2 (some .int) 2 X q1394 q1395 q0 q1396 hd_L_low ⟨(Nat.le_of_ble_eq_true rfl), (Nat.le_of_ble_eq_true rfl)⟩) rfl hl.1 rfl (Nat.le_of_ble_eq_true rfl) dL_act_136 ⟨(Nat.le_of_ble_eq_true rfl), (Nat.le_of_ble_eq_true rfl)⟩ (fun H locs hw => ?_)
          have hw253 := lowN_lt (v := w >>> ((nI 8) &&& 31)) (n := 2) (by omega)
          refine lv_if_ne (tgt := 147) X.1 X.2.1 dL_act_139 (by decide) (fun c254 => ?_) (fun c254 => ?_)
          · have n255 : ¬ (lowN (w >>> ((nI 8) &&& 31)) 2) = 0 := fun z => c254 ((bz_eq (by omega)).mpr z)
            refine lv_sipush (v := nI 130) X.1 X.2.1 dL_act_147 (by decide) ?_
            refine x_callSP X hK hw (As := [.int w, .int (nI 130)]) (rest := [.int (nI 1)]) (k_L_low w 130 (by omega) (by omega)) (x_cwS yL_low cL_low 2 (some .int) 2 X q1394 q1395 q0 q1396 hd_L_low ⟨(Nat.le_of_ble_eq_true rfl), (Nat.le_of_ble_eq_true rfl)⟩) rfl hl.1 rfl (Nat.le_of_ble_eq_true rfl) dL_act_150 ⟨(Nat.le_of_ble_eq_true rfl), (Nat.le_of_ble_eq_true rfl)⟩ (fun H locs hw => ?_)
            have hw256 := lowN_lt (v := w) (n := 130) (by omega)
            refine lv_iadd X.1 X.2.1 dL_act_153 ?_
            refine x_top (nI_add _ _) ?_
            refine lv_istore (lv' := [(7, .int (nI (1 + (lowN w 130)))), (6, .int (nI (A 0))), (5, .int (nI (lowN v 30))), (4, .int (nI (A 1))), (0, .ref (ad 0)), (1, .int v), (2, .int w), (3, .ref (ad 114))]) X.1 X.2.1 dL_act_154 hl (by decide) rfl (fun ls hl => ?_)
            refine lv_aload_n X.1 X.2.1 dL_act_156 rfl (lv_at hl 4 rfl) ?_
            refine lv_iload X.1 X.2.1 dL_act_157 (lv_at hl 0 rfl) ?_
            refine x_callV X hK hw (k := 0) (As := [.int (nI (1 + (lowN w 130)))]) (rest := []) (w_pass hI (by omega) hO251 (nI (1 + (lowN w 130))) (fun g t hE => a_pass hk hE (by omega) (by omega) (by omega))) (x_cwV yX7_pass cX7_pass 2 (some .int) 1 X q344 q345 q346 q1 q347 hd_X7_pass ⟨(Nat.le_of_ble_eq_true rfl), (Nat.le_of_ble_eq_true rfl)⟩) (by omega) hO251.ma rfl rfl hl.1 rfl (Nat.le_of_ble_eq_true rfl) dL_act_159 ⟨(Nat.le_of_ble_eq_true rfl), (Nat.le_of_ble_eq_true rfl)⟩ (fun v257 F258 H locs hp hw => ?_)
            obtain ⟨e259, hO260, hf261⟩ := hp
            refine x_top e259 ?_
            replace hfr := hfr.tr hf261 (by omega) (by omega)
            obtain ⟨B262, hB262⟩ : ∃ y, y = nup A 0 (A 0 + (1 + (lowN w 130))) := ⟨_, rfl⟩
            rw [← hB262] at hO260
            have jB262 : HJ ca B262 := by rw [hB262]; exact j_pass hJ
            have eB262 : ∀ i, i ≠ 0 → B262 i = A i := fun i hi => by rw [hB262]; exact nup_ne hi
            have b0B262 : B262 0 = A 0 + (1 + (lowN w 130)) := by rw [hB262]; exact nup_at
            have mB262 : ∀ k, k < A 3 → pA A k 3 ≤ pA B262 k 3 := fun k hk => by rw [show pA B262 k 3 = pA A k 3 from eB262 _ (by omega)]; exact Nat.le_refl _
            refine lv_iload X.1 X.2.1 dL_act_162 (lv_at hl 1 rfl) ?_
            refine lv_iload X.1 X.2.1 dL_act_164 (lv_at hl 0 rfl) ?_
            refine lv_iadd X.1 X.2.1 dL_act_166 ?_
            refine x_top (nI_add _ _) ?_
            refine lv_icmp_ne (tgt := 174) X.1 X.2.1 dL_act_167 (by decide) (fun c263 => ?_) (fun c263 => ?_)
            · exact absurd ((nI_eq (by omega) (by omega)).mpr (by omega)) c263
            · have n264 := (nI_eq (by omega) (by omega)).mp c263
              refine lv_iconst (v := nI 1) X.1 X.2.1 dL_act_170 (by decide) ?_
              refine lv_goto (tgt := 175) X.1 X.2.1 dL_act_171 (by decide) ?_
              refine W.widen (k := 1) (n := 9) (by omega) (by omega) ?_
              exact x_iret X hr hlk hK hw (v := nI 1) rfl ⟨rfl, ACT.mk1 jB262 (by omega) (by omega) mB262 hO260, fun k hk => hfr k (Or.inr hk)⟩ dL_act_175
          · have n265 := (bz_eq (by omega)).mp c254
            refine lv_bipush (v := nI 20) X.1 X.2.1 dL_act_142 (by decide) ?_
            refine lv_goto (tgt := 150) X.1 X.2.1 dL_act_144 (by decide) ?_
            refine x_callSP X hK hw (As := [.int w, .int (nI 20)]) (rest := [.int (nI 1)]) (k_L_low w 20 (by omega) (by omega)) (x_cwS yL_low cL_low 2 (some .int) 2 X q1394 q1395 q0 q1396 hd_L_low ⟨(Nat.le_of_ble_eq_true rfl), (Nat.le_of_ble_eq_true rfl)⟩) rfl hl.1 rfl (Nat.le_of_ble_eq_true rfl) dL_act_150 ⟨(Nat.le_of_ble_eq_true rfl), (Nat.le_of_ble_eq_true rfl)⟩ (fun H locs hw => ?_)
            have hw266 := lowN_lt (v := w) (n := 20) (by omega)
            refine lv_iadd X.1 X.2.1 dL_act_153 ?_
            refine x_top (nI_add _ _) ?_
            refine lv_istore (lv' := [(7, .int (nI (1 + (lowN w 20)))), (6, .int (nI (A 0))), (5, .int (nI (lowN v 30))), (4, .int (nI (A 1))), (0, .ref (ad 0)), (1, .int v), (2, .int w), (3, .ref (ad 114))]) X.1 X.2.1 dL_act_154 hl (by decide) rfl (fun ls hl => ?_)
            refine lv_aload_n X.1 X.2.1 dL_act_156 rfl (lv_at hl 4 rfl) ?_
            refine lv_iload X.1 X.2.1 dL_act_157 (lv_at hl 0 rfl) ?_
            refine x_callV X hK hw (k := 0) (As := [.int (nI (1 + (lowN w 20)))]) (rest := []) (w_pass hI (by omega) hO251 (nI (1 + (lowN w 20))) (fun g t hE => a_pass hk hE (by omega) (by omega) (by omega))) (x_cwV yX7_pass cX7_pass 2 (some .int) 1 X q344 q345 q346 q1 q347 hd_X7_pass ⟨(Nat.le_of_ble_eq_true rfl), (Nat.le_of_ble_eq_true rfl)⟩) (by omega) hO251.ma rfl rfl hl.1 rfl (Nat.le_of_ble_eq_true rfl) dL_act_159 ⟨(Nat.le_of_ble_eq_true rfl), (Nat.le_of_ble_eq_true rfl)⟩ (fun v267 F268 H locs hp hw => ?_)
            obtain ⟨e269, hO270, hf271⟩ := hp
            refine x_top e269 ?_
            replace hfr := hfr.tr hf271 (by omega) (by omega)
            obtain ⟨B272, hB272⟩ : ∃ y, y = nup A 0 (A 0 + (1 + (lowN w 20))) := ⟨_, rfl⟩
            rw [← hB272] at hO270
            have jB272 : HJ ca B272 := by rw [hB272]; exact j_pass hJ
            have eB272 : ∀ i, i ≠ 0 → B272 i = A i := fun i hi => by rw [hB272]; exact nup_ne hi
            have b0B272 : B272 0 = A 0 + (1 + (lowN w 20)) := by rw [hB272]; exact nup_at
            have mB272 : ∀ k, k < A 3 → pA A k 3 ≤ pA B272 k 3 := fun k hk => by rw [show pA B272 k 3 = pA A k 3 from eB272 _ (by omega)]; exact Nat.le_refl _
            refine lv_iload X.1 X.2.1 dL_act_162 (lv_at hl 1 rfl) ?_
            refine lv_iload X.1 X.2.1 dL_act_164 (lv_at hl 0 rfl) ?_
            refine lv_iadd X.1 X.2.1 dL_act_166 ?_
            refine x_top (nI_add _ _) ?_
            refine lv_icmp_ne (tgt := 174) X.1 X.2.1 dL_act_167 (by decide) (fun c273 => ?_) (fun c273 => ?_)
            · exact absurd ((nI_eq (by omega) (by omega)).mpr (by omega)) c273
            · have n274 := (nI_eq (by omega) (by omega)).mp c273
              refine lv_iconst (v := nI 1) X.1 X.2.1 dL_act_170 (by decide) ?_
              refine lv_goto (tgt := 175) X.1 X.2.1 dL_act_171 (by decide) ?_
              refine W.widen (k := 1) (n := 9) (by omega) (by omega) ?_
              exact x_iret X hr hlk hK hw (v := nI 1) rfl ⟨rfl, ACT.mk1 jB272 (by omega) (by omega) mB272 hO270, fun k hk => hfr k (Or.inr hk)⟩ dL_act_175
      · have n275 : ¬ 14 ≤ (lowN v 30) := fun z => c47 ((nI_leI (by omega) (by omega)).mpr z)
        refine lv_aload_n X.1 X.2.1 dL_act_101 rfl (lv_at hl 2 rfl) ?_
        refine lv_iload_n X.1 X.2.1 dL_act_102 rfl (lv_at hl 4 rfl) ?_
        refine lv_iload X.1 X.2.1 dL_act_103 (lv_at hl 1 rfl) ?_
        refine x_callSP X hK hw (As := [.int w, .int (nI (A 1))]) (rest := [.ref (ad 0)]) (k_L_low w (A 1) (by omega) (by omega)) (x_cwS yL_low cL_low 2 (some .int) 2 X q1394 q1395 q0 q1396 hd_L_low ⟨(Nat.le_of_ble_eq_true rfl), (Nat.le_of_ble_eq_true rfl)⟩) rfl hl.1 rfl (Nat.le_of_ble_eq_true rfl) dL_act_105 ⟨(Nat.le_of_ble_eq_true rfl), (Nat.le_of_ble_eq_true rfl)⟩ (fun H locs hw => ?_)
        have hw276 := lowN_lt (v := w) (n := A 1) (by omega)
        refine lv_iload_n X.1 X.2.1 dL_act_108 rfl (lv_at hl 4 rfl) ?_
        refine lv_iconst (v := nI 4) X.1 X.2.1 dL_act_109 (by decide) ?_
        refine lv_ishr X.1 X.2.1 dL_act_110 ?_
        refine x_callS X hK hw (As := [.ref (ad 0), .int (nI (lowN w (A 1))), .int (w >>> ((nI 4) &&& 31))]) (rest := []) (k_L_sails hI (by omega) hJ hc hk hO43 hkk (by omega) (b := lowN w (A 1)) (by omega) (w >>> ((nI 4) &&& 31))) (x_cwS yL_sails cL_sails 10 (some .boolean) 3 X q1398 q1399 q0 q1400 hd_L_sails ⟨(Nat.le_of_ble_eq_true rfl), (Nat.le_of_ble_eq_true rfl)⟩) rfl hl.1 rfl (Nat.le_of_ble_eq_true rfl) dL_act_111 ⟨(Nat.le_of_ble_eq_true rfl), (Nat.le_of_ble_eq_true rfl)⟩ (fun v277 F278 H locs hp hw => ?_)
        obtain ⟨e279, hA280, hf281⟩ := hp
        refine x_top e279 ?_
        replace hfr := hfr.tr hf281 (by omega) (by omega)
        refine W.widen (k := 1) (n := 9) (by omega) (by omega) ?_
        exact x_iret X hr hlk hK hw (v := nI 1) rfl ⟨rfl, hA280, fun k hk => hfr k (Or.inr hk)⟩ dL_act_114
    · have n282 := (bz_eq (by omega)).mp c45
      refine lv_iload X.1 X.2.1 dL_act_28 (lv_at hl 0 rfl) ?_
      refine lv_bipush (v := nI 15) X.1 X.2.1 dL_act_30 (by decide) ?_
      refine lv_icmp_ge (tgt := 94) X.1 X.2.1 dL_act_32 (by decide) (fun c283 => ?_) (fun c283 => ?_)
      · have n284 := (nI_leI (by omega) (by omega)).mp c283
        refine lv_iload X.1 X.2.1 dL_act_94 (lv_at hl 0 rfl) ?_
        refine lv_bipush (v := nI 14) X.1 X.2.1 dL_act_96 (by decide) ?_
        refine lv_icmp_ge (tgt := 115) X.1 X.2.1 dL_act_98 (by decide) (fun c285 => ?_) (fun c285 => ?_)
        · have n286 := (nI_leI (by omega) (by omega)).mp c285
          refine lv_iload X.1 X.2.1 dL_act_115 (lv_at hl 0 rfl) ?_
          refine lv_bipush (v := nI 18) X.1 X.2.1 dL_act_117 (by decide) ?_
          refine lv_icmp_ge (tgt := 176) X.1 X.2.1 dL_act_119 (by decide) (fun c287 => ?_) (fun c287 => ?_)
          · have n288 := (nI_leI (by omega) (by omega)).mp c287
            refine lv_iload X.1 X.2.1 dL_act_176 (lv_at hl 0 rfl) ?_
            refine lv_bipush (v := nI 23) X.1 X.2.1 dL_act_178 (by decide) ?_
            refine lv_icmp_ge (tgt := 206) X.1 X.2.1 dL_act_180 (by decide) (fun c289 => ?_) (fun c289 => ?_)
            · have n290 := (nI_leI (by omega) (by omega)).mp c289
              refine lv_iload X.1 X.2.1 dL_act_206 (lv_at hl 0 rfl) ?_
              refine lv_bipush (v := nI 23) X.1 X.2.1 dL_act_208 (by decide) ?_
              refine lv_icmp_ne (tgt := 312) X.1 X.2.1 dL_act_210 (by decide) (fun c291 => ?_) (fun c291 => ?_)
              · have n292 : ¬ (lowN v 30) = 23 := fun z => c291 ((nI_eq (by omega) (by omega)).mpr z)
                refine lv_iload X.1 X.2.1 dL_act_312 (lv_at hl 0 rfl) ?_
                refine lv_bipush (v := nI 27) X.1 X.2.1 dL_act_314 (by decide) ?_
                refine lv_icmp_ge (tgt := 451) X.1 X.2.1 dL_act_316 (by decide) (fun c293 => ?_) (fun c293 => ?_)
                · have n294 := (nI_leI (by omega) (by omega)).mp c293
                  refine lv_aload_n X.1 X.2.1 dL_act_451 rfl (lv_at hl 2 rfl) ?_
                  refine lv_iload_n X.1 X.2.1 dL_act_452 rfl (lv_at hl 4 rfl) ?_
                  refine x_callS X hK hw (As := [.ref (ad 0), .int w]) (rest := []) (k_L_protests hI (by omega) hJ hc hk hO43 w) (x_cwS yL_protests cL_protests 9 (some .boolean) 2 X q1413 q1414 q0 q1415 hd_L_protests ⟨(Nat.le_of_ble_eq_true rfl), (Nat.le_of_ble_eq_true rfl)⟩) rfl hl.1 rfl (Nat.le_of_ble_eq_true rfl) dL_act_453 ⟨(Nat.le_of_ble_eq_true rfl), (Nat.le_of_ble_eq_true rfl)⟩ (fun v295 F296 H locs hp hw => ?_)
                  obtain ⟨e297, hA298, hf299⟩ := hp
                  refine x_top e297 ?_
                  replace hfr := hfr.tr hf299 (by omega) (by omega)
                  refine W.widen (k := 1) (n := 9) (by omega) (by omega) ?_
                  exact x_iret X hr hlk hK hw (v := nI 1) rfl ⟨rfl, hA298, fun k hk => hfr k (Or.inr hk)⟩ dL_act_456
                · have n300 : ¬ 27 ≤ (lowN v 30) := fun z => c293 ((nI_leI (by omega) (by omega)).mpr z)
                  refine lv_iload_n X.1 X.2.1 dL_act_319 rfl (lv_at hl 4 rfl) ?_
                  refine lv_iload X.1 X.2.1 dL_act_320 (lv_at hl 1 rfl) ?_
                  refine x_callSP X hK hw (As := [.int w, .int (nI (A 1))]) (rest := []) (k_L_low w (A 1) (by omega) (by omega)) (x_cwS yL_low cL_low 2 (some .int) 2 X q1394 q1395 q0 q1396 hd_L_low ⟨(Nat.le_of_ble_eq_true rfl), (Nat.le_of_ble_eq_true rfl)⟩) rfl hl.1 rfl (Nat.le_of_ble_eq_true rfl) dL_act_322 ⟨(Nat.le_of_ble_eq_true rfl), (Nat.le_of_ble_eq_true rfl)⟩ (fun H locs hw => ?_)
                  have hw301 := lowN_lt (v := w) (n := A 1) (by omega)
                  refine lv_istore (lv' := [(6, .int (nI (lowN w (A 1)))), (5, .int (nI (lowN v 30))), (4, .int (nI (A 1))), (0, .ref (ad 0)), (1, .int v), (2, .int w), (3, .ref (ad 114))]) X.1 X.2.1 dL_act_325 hl (by decide) rfl (fun ls hl => ?_)
                  refine lv_iload_n X.1 X.2.1 dL_act_327 rfl (lv_at hl 5 rfl) ?_
                  refine lv_iconst (v := nI 4) X.1 X.2.1 dL_act_328 (by decide) ?_
                  refine lv_ishr X.1 X.2.1 dL_act_329 ?_
                  refine lv_iload X.1 X.2.1 dL_act_330 (lv_at hl 2 rfl) ?_
                  refine x_callSP X hK hw (As := [.int (w >>> ((nI 4) &&& 31)), .int (nI (A 1))]) (rest := []) (k_L_low (w >>> ((nI 4) &&& 31)) (A 1) (by omega) (by omega)) (x_cwS yL_low cL_low 2 (some .int) 2 X q1394 q1395 q0 q1396 hd_L_low ⟨(Nat.le_of_ble_eq_true rfl), (Nat.le_of_ble_eq_true rfl)⟩) rfl hl.1 rfl (Nat.le_of_ble_eq_true rfl) dL_act_332 ⟨(Nat.le_of_ble_eq_true rfl), (Nat.le_of_ble_eq_true rfl)⟩ (fun H locs hw => ?_)
                  have hw302 := lowN_lt (v := w >>> ((nI 4) &&& 31)) (n := A 1) (by omega)
                  refine lv_istore (lv' := [(7, .int (nI (lowN (w >>> ((nI 4) &&& 31)) (A 1)))), (6, .int (nI (lowN w (A 1)))), (5, .int (nI (lowN v 30))), (4, .int (nI (A 1))), (0, .ref (ad 0)), (1, .int v), (2, .int w), (3, .ref (ad 114))]) X.1 X.2.1 dL_act_335 hl (by decide) rfl (fun ls hl => ?_)
                  refine lv_aload_n X.1 X.2.1 dL_act_337 rfl (lv_at hl 4 rfl) ?_
                  refine lv_iconst (v := nI 5) X.1 X.2.1 dL_act_338 (by decide) ?_
                  refine x_callV X hK hw (k := 0) (As := [.int (nI 5)]) (rest := []) (w_count hI (by omega) hO43 (nI 5) (fun g t z n hE => a_cou5 hJ (by omega) hk hE z n)) (x_cwV yX7_count cX7_count 2 (some .int) 1 X q818 q819 q820 q1 q821 hd_X7_count ⟨(Nat.le_of_ble_eq_true rfl), (Nat.le_of_ble_eq_true rfl)⟩) (by omega) hO43.ma rfl rfl hl.1 rfl (Nat.le_of_ble_eq_true rfl) dL_act_339 ⟨(Nat.le_of_ble_eq_true rfl), (Nat.le_of_ble_eq_true rfl)⟩ (fun v303 F304 H locs hp hw => ?_)
                  obtain ⟨e305, hO306, hf307⟩ := hp
                  refine x_top e305 ?_
                  replace hfr := hfr.tr hf307 (by omega) (by omega)
                  refine lv_istore (lv' := [(8, .int (nI (A 3))), (7, .int (nI (lowN (w >>> ((nI 4) &&& 31)) (A 1)))), (6, .int (nI (lowN w (A 1)))), (5, .int (nI (lowN v 30))), (4, .int (nI (A 1))), (0, .ref (ad 0)), (1, .int v), (2, .int w), (3, .ref (ad 114))]) X.1 X.2.1 dL_act_342 hl (by decide) rfl (fun ls hl => ?_)
                  have hx : lowN w (A 1) < A 1 := by omega
                  have hy : lowN (w >>> ((nI 4) &&& 31)) (A 1) < A 1 := by omega
                  by_cases hne : lowN w (A 1) = lowN (w >>> ((nI 4) &&& 31)) (A 1)
                  · refine lv_aload_n X.1 X.2.1 dL_act_344 rfl (lv_at hl 5 rfl) ?_
                    refine lv_iload X.1 X.2.1 dL_act_345 (lv_at hl 2 rfl) ?_
                    refine lv_iload X.1 X.2.1 dL_act_347 (lv_at hl 1 rfl) ?_
                    refine x_callV X hK hw (k := 0) (As := [.int (nI (lowN w (A 1))), .int (nI (lowN (w >>> ((nI 4) &&& 31)) (A 1)))]) (rest := []) (w_hail hI (by omega) hO306 (nI (lowN w (A 1))) (nI (lowN (w >>> ((nI 4) &&& 31)) (A 1))) (fun g t hE => by rw [← hne]; exact a_hail_same hJ hx hE)) (x_cwV yX7_hail cX7_hail 3 (some .int) 2 X q411 q412 q413 q1 q414 hd_X7_hail ⟨(Nat.le_of_ble_eq_true rfl), (Nat.le_of_ble_eq_true rfl)⟩) (by omega) hO306.ma rfl rfl hl.1 rfl (Nat.le_of_ble_eq_true rfl) dL_act_349 ⟨(Nat.le_of_ble_eq_true rfl), (Nat.le_of_ble_eq_true rfl)⟩ (fun v308 F309 H locs hp hw => ?_)
                    obtain ⟨e310, hO311, hf312⟩ := hp
                    refine x_top e310 ?_
                    replace hfr := hfr.tr hf312 (by omega) (by omega)
                    refine lv_istore (lv' := [(9, .int ((-2))), (8, .int (nI (A 3))), (7, .int (nI (lowN (w >>> ((nI 4) &&& 31)) (A 1)))), (6, .int (nI (lowN w (A 1)))), (5, .int (nI (lowN v 30))), (4, .int (nI (A 1))), (0, .ref (ad 0)), (1, .int v), (2, .int w), (3, .ref (ad 114))]) X.1 X.2.1 dL_act_352 hl (by decide) rfl (fun ls hl => ?_)
                    refine lv_iload X.1 X.2.1 dL_act_354 (lv_at hl 0 rfl) ?_
                    refine lv_if_ge (tgt := 404) X.1 X.2.1 dL_act_356 (by decide) (fun c313 => ?_) (fun c313 => ?_)
                    · exact absurd c313 (by decide)
                    · refine lv_iload X.1 X.2.1 dL_act_359 (lv_at hl 0 rfl) ?_
                      refine lv_bipush (v := (-2)) X.1 X.2.1 dL_act_361 (by decide) ?_
                      refine lv_icmp_ne (tgt := 370) X.1 X.2.1 dL_act_363 (by decide) (fun c314 => ?_) (fun c314 => ?_)
                      · exact absurd (by decide) c314
                      · refine lv_iconst (v := nI 1) X.1 X.2.1 dL_act_366 (by decide) ?_
                        refine lv_goto (tgt := 371) X.1 X.2.1 dL_act_367 (by decide) ?_
                        refine lv_iload X.1 X.2.1 dL_act_371 (lv_at hl 3 rfl) ?_
                        refine lv_iload X.1 X.2.1 dL_act_373 (lv_at hl 2 rfl) ?_
                        refine lv_icmp_ne (tgt := 382) X.1 X.2.1 dL_act_375 (by decide) (fun c315 => ?_) (fun c315 => ?_)
                        · exact absurd ((nI_eq (by omega) (by omega)).mpr (by omega)) c315
                        · have n316 := (nI_eq (by omega) (by omega)).mp c315
                          refine lv_iconst (v := nI 1) X.1 X.2.1 dL_act_378 (by decide) ?_
                          refine lv_goto (tgt := 383) X.1 X.2.1 dL_act_379 (by decide) ?_
                          refine lv_icmp_ne (tgt := 400) X.1 X.2.1 dL_act_383 (by decide) (fun c317 => ?_) (fun c317 => ?_)
                          · exact absurd (by decide) c317
                          · refine lv_aload_n X.1 X.2.1 dL_act_386 rfl (lv_at hl 6 rfl) ?_
                            refine lv_iconst (v := nI 5) X.1 X.2.1 dL_act_387 (by decide) ?_
                            refine x_callV X hK hw (k := 0) (As := [.int (nI 5)]) (rest := []) (w_count hI (by omega) hO311 (nI 5) (fun g t z n hE => a_cou5 hJ (by omega) hk hE z n)) (x_cwV yX7_count cX7_count 2 (some .int) 1 X q818 q819 q820 q1 q821 hd_X7_count ⟨(Nat.le_of_ble_eq_true rfl), (Nat.le_of_ble_eq_true rfl)⟩) (by omega) hO311.ma rfl rfl hl.1 rfl (Nat.le_of_ble_eq_true rfl) dL_act_388 ⟨(Nat.le_of_ble_eq_true rfl), (Nat.le_of_ble_eq_true rfl)⟩ (fun v318 F319 H locs hp hw => ?_)
                            obtain ⟨e320, hO321, hf322⟩ := hp
                            refine x_top e320 ?_
                            replace hfr := hfr.tr hf322 (by omega) (by omega)
                            refine lv_iload X.1 X.2.1 dL_act_391 (lv_at hl 1 rfl) ?_
                            refine lv_icmp_ne (tgt := 400) X.1 X.2.1 dL_act_393 (by decide) (fun c323 => ?_) (fun c323 => ?_)
                            · exact absurd ((nI_eq (by omega) (by omega)).mpr (by omega)) c323
                            · have n324 := (nI_eq (by omega) (by omega)).mp c323
                              refine lv_iconst (v := nI 1) X.1 X.2.1 dL_act_396 (by decide) ?_
                              refine lv_goto (tgt := 450) X.1 X.2.1 dL_act_397 (by decide) ?_
                              refine W.widen (k := 1) (n := 9) (by omega) (by omega) ?_
                              exact x_iret X hr hlk hK hw (v := nI 1) rfl ⟨rfl, ACT.same hJ hO321, fun k hk => hfr k (Or.inr hk)⟩ dL_act_450
                  · by_cases hopn : opn A
                    · obtain ⟨r, hrA⟩ : ∃ r, r + 1 = A 2 := ⟨A 2 - 1, by have := hopn.1; omega⟩
                      by_cases hon : (eA A r (lowN w (A 1)) 0 = 2 ∨ eA A r (lowN w (A 1)) 0 = 3) ∧ (eA A r (lowN (w >>> ((nI 4) &&& 31)) (A 1)) 0 = 2 ∨ eA A r (lowN (w >>> ((nI 4) &&& 31)) (A 1)) 0 = 3)
                      · by_cases h310 : A 3 = 10
                        · refine lv_aload_n X.1 X.2.1 dL_act_344 rfl (lv_at hl 5 rfl) ?_
                          refine lv_iload X.1 X.2.1 dL_act_345 (lv_at hl 2 rfl) ?_
                          refine lv_iload X.1 X.2.1 dL_act_347 (lv_at hl 1 rfl) ?_
                          refine x_callV X hK hw (k := 0) (As := [.int (nI (lowN w (A 1))), .int (nI (lowN (w >>> ((nI 4) &&& 31)) (A 1)))]) (rest := []) (w_hail hI (by omega) hO306 (nI (lowN w (A 1))) (nI (lowN (w >>> ((nI 4) &&& 31)) (A 1))) (fun g t hE => a_hail_full_r hrA hJ hopn hx hy hne hon.1 hon.2 h310 hE)) (x_cwV yX7_hail cX7_hail 3 (some .int) 2 X q411 q412 q413 q1 q414 hd_X7_hail ⟨(Nat.le_of_ble_eq_true rfl), (Nat.le_of_ble_eq_true rfl)⟩) (by omega) hO306.ma rfl rfl hl.1 rfl (Nat.le_of_ble_eq_true rfl) dL_act_349 ⟨(Nat.le_of_ble_eq_true rfl), (Nat.le_of_ble_eq_true rfl)⟩ (fun v325 F326 H locs hp hw => ?_)
                          obtain ⟨e327, hO328, hf329⟩ := hp
                          refine x_top e327 ?_
                          replace hfr := hfr.tr hf329 (by omega) (by omega)
                          refine lv_istore (lv' := [(9, .int ((-3))), (8, .int (nI (A 3))), (7, .int (nI (lowN (w >>> ((nI 4) &&& 31)) (A 1)))), (6, .int (nI (lowN w (A 1)))), (5, .int (nI (lowN v 30))), (4, .int (nI (A 1))), (0, .ref (ad 0)), (1, .int v), (2, .int w), (3, .ref (ad 114))]) X.1 X.2.1 dL_act_352 hl (by decide) rfl (fun ls hl => ?_)
                          refine lv_iload X.1 X.2.1 dL_act_354 (lv_at hl 0 rfl) ?_
                          refine lv_if_ge (tgt := 404) X.1 X.2.1 dL_act_356 (by decide) (fun c330 => ?_) (fun c330 => ?_)
                          · exact absurd c330 (by decide)
                          · refine lv_iload X.1 X.2.1 dL_act_359 (lv_at hl 0 rfl) ?_
                            refine lv_bipush (v := (-2)) X.1 X.2.1 dL_act_361 (by decide) ?_
                            refine lv_icmp_ne (tgt := 370) X.1 X.2.1 dL_act_363 (by decide) (fun c331 => ?_) (fun c331 => ?_)
                            · refine lv_iconst (v := nI 0) X.1 X.2.1 dL_act_370 (by decide) ?_
                              refine lv_iload X.1 X.2.1 dL_act_371 (lv_at hl 3 rfl) ?_
                              refine lv_iload X.1 X.2.1 dL_act_373 (lv_at hl 2 rfl) ?_
                              refine lv_icmp_ne (tgt := 382) X.1 X.2.1 dL_act_375 (by decide) (fun c332 => ?_) (fun c332 => ?_)
                              · have n333 : ¬ (lowN w (A 1)) = (lowN (w >>> ((nI 4) &&& 31)) (A 1)) := fun z => c332 ((nI_eq (by omega) (by omega)).mpr z)
                                refine lv_iconst (v := nI 0) X.1 X.2.1 dL_act_382 (by decide) ?_
                                refine lv_icmp_ne (tgt := 400) X.1 X.2.1 dL_act_383 (by decide) (fun c334 => ?_) (fun c334 => ?_)
                                · exact absurd (by decide) c334
                                · refine lv_aload_n X.1 X.2.1 dL_act_386 rfl (lv_at hl 6 rfl) ?_
                                  refine lv_iconst (v := nI 5) X.1 X.2.1 dL_act_387 (by decide) ?_
                                  refine x_callV X hK hw (k := 0) (As := [.int (nI 5)]) (rest := []) (w_count hI (by omega) hO328 (nI 5) (fun g t z n hE => a_cou5 hJ (by omega) hk hE z n)) (x_cwV yX7_count cX7_count 2 (some .int) 1 X q818 q819 q820 q1 q821 hd_X7_count ⟨(Nat.le_of_ble_eq_true rfl), (Nat.le_of_ble_eq_true rfl)⟩) (by omega) hO328.ma rfl rfl hl.1 rfl (Nat.le_of_ble_eq_true rfl) dL_act_388 ⟨(Nat.le_of_ble_eq_true rfl), (Nat.le_of_ble_eq_true rfl)⟩ (fun v335 F336 H locs hp hw => ?_)
                                  obtain ⟨e337, hO338, hf339⟩ := hp
                                  refine x_top e337 ?_
                                  replace hfr := hfr.tr hf339 (by omega) (by omega)
                                  refine lv_iload X.1 X.2.1 dL_act_391 (lv_at hl 1 rfl) ?_
                                  refine lv_icmp_ne (tgt := 400) X.1 X.2.1 dL_act_393 (by decide) (fun c340 => ?_) (fun c340 => ?_)
                                  · exact absurd ((nI_eq (by omega) (by omega)).mpr (by omega)) c340
                                  · have n341 := (nI_eq (by omega) (by omega)).mp c340
                                    refine lv_iconst (v := nI 1) X.1 X.2.1 dL_act_396 (by decide) ?_
                                    refine lv_goto (tgt := 450) X.1 X.2.1 dL_act_397 (by decide) ?_
                                    refine W.widen (k := 1) (n := 9) (by omega) (by omega) ?_
                                    exact x_iret X hr hlk hK hw (v := nI 1) rfl ⟨rfl, ACT.same hJ hO338, fun k hk => hfr k (Or.inr hk)⟩ dL_act_450
                              · exact absurd ((nI_eq (by omega) (by omega)).mp c332) (by omega)
                            · exact absurd c331 (by decide)
                        · refine lv_aload_n X.1 X.2.1 dL_act_344 rfl (lv_at hl 5 rfl) ?_
                          refine lv_iload X.1 X.2.1 dL_act_345 (lv_at hl 2 rfl) ?_
                          refine lv_iload X.1 X.2.1 dL_act_347 (lv_at hl 1 rfl) ?_
                          refine x_callV X hK hw (k := 0) (As := [.int (nI (lowN w (A 1))), .int (nI (lowN (w >>> ((nI 4) &&& 31)) (A 1)))]) (rest := []) (w_hail hI (by omega) hO306 (nI (lowN w (A 1))) (nI (lowN (w >>> ((nI 4) &&& 31)) (A 1))) (fun g t hE => a_hail_ok_r hrA hJ hopn hx hy hne hon.1 hon.2 (by omega) hE)) (x_cwV yX7_hail cX7_hail 3 (some .int) 2 X q411 q412 q413 q1 q414 hd_X7_hail ⟨(Nat.le_of_ble_eq_true rfl), (Nat.le_of_ble_eq_true rfl)⟩) (by omega) hO306.ma rfl rfl hl.1 rfl (Nat.le_of_ble_eq_true rfl) dL_act_349 ⟨(Nat.le_of_ble_eq_true rfl), (Nat.le_of_ble_eq_true rfl)⟩ (fun v342 F343 H locs hp hw => ?_)
                          obtain ⟨e344, hO345, hf346⟩ := hp
                          refine x_top e344 ?_
                          replace hfr := hfr.tr hf346 (by omega) (by omega)
                          obtain ⟨B347, hB347⟩ : ∃ y, y = hlA A (lowN w (A 1)) (lowN (w >>> ((nI 4) &&& 31)) (A 1)) := ⟨_, rfl⟩
                          rw [← hB347] at hO345
                          have jB347 : HJ ca B347 := by rw [hB347]; exact j_hail hJ hopn hx hy hne (by omega)
                          have eB347 : ∀ i, i ≠ 3 → ¬ (40 + 4 * A 3 ≤ i ∧ i < 44 + 4 * A 3) → B347 i = A i := fun i h1 h2 => by rw [hB347]; exact (nup_ne (by omega)).trans ((nup_ne (by omega)).trans ((nup_ne (by omega)).trans ((nup_ne (by omega)).trans (nup_ne (by omega)))))
                          have b0B347 : B347 0 = A 0 := eB347 0 (by omega) (by omega)
                          have b3B347 : B347 3 = A 3 + 1 := by rw [hB347]; exact nup_at
                          have n0B347 : pA B347 (A 3) 0 = lowN w (A 1) := by rw [hB347]; exact (nup_ne (by omega)).trans ((nup_ne (by omega)).trans ((nup_ne (by omega)).trans ((nup_ne (by omega)).trans nup_at)))
                          have n1B347 : pA B347 (A 3) 1 = lowN (w >>> ((nI 4) &&& 31)) (A 1) := by rw [hB347]; exact (nup_ne (by omega)).trans ((nup_ne (by omega)).trans ((nup_ne (by omega)).trans nup_at))
                          have n3B347 : pA B347 (A 3) 3 = 0 := by rw [hB347]; exact (nup_ne (by omega)).trans nup_at
                          have mB347 : ∀ k, k < A 3 → pA A k 3 ≤ pA B347 k 3 := fun k hk => by rw [show pA B347 k 3 = pA A k 3 from eB347 _ (by omega) (by omega)]; exact Nat.le_refl _
                          refine lv_istore (lv' := [(9, .int (nI (A 3))), (8, .int (nI (A 3))), (7, .int (nI (lowN (w >>> ((nI 4) &&& 31)) (A 1)))), (6, .int (nI (lowN w (A 1)))), (5, .int (nI (lowN v 30))), (4, .int (nI (A 1))), (0, .ref (ad 0)), (1, .int v), (2, .int w), (3, .ref (ad 114))]) X.1 X.2.1 dL_act_352 hl (by decide) rfl (fun ls hl => ?_)
                          refine lv_iload X.1 X.2.1 dL_act_354 (lv_at hl 0 rfl) ?_
                          refine lv_if_ge (tgt := 404) X.1 X.2.1 dL_act_356 (by decide) (fun c348 => ?_) (fun c348 => ?_)
                          · have n349 := (bz_ge (by omega)).mp c348
                            refine lv_iload X.1 X.2.1 dL_act_404 (lv_at hl 0 rfl) ?_
                            refine lv_iload X.1 X.2.1 dL_act_406 (lv_at hl 1 rfl) ?_
                            refine lv_icmp_ne (tgt := 449) X.1 X.2.1 dL_act_408 (by decide) (fun c350 => ?_) (fun c350 => ?_)
                            · exact absurd ((nI_eq (by omega) (by omega)).mpr (by omega)) c350
                            · have n351 := (nI_eq (by omega) (by omega)).mp c350
                              refine lv_aload_n X.1 X.2.1 dL_act_411 rfl (lv_at hl 6 rfl) ?_
                              refine lv_iload X.1 X.2.1 dL_act_412 (lv_at hl 1 rfl) ?_
                              refine lv_iconst (v := nI 0) X.1 X.2.1 dL_act_414 (by decide) ?_
                              refine x_callV X hK hw (k := 0) (As := [.int (nI (A 3)), .int (nI 0)]) (rest := []) (w_protest hI (by omega) hO345 (nI (A 3)) (nI 0) (fun g t hE => a_pro0 jB347 (by omega) (by omega) hE (by omega))) (x_cwV yX7_protest cX7_protest 3 (some .int) 2 X q813 q814 q815 q1 q816 hd_X7_protest ⟨(Nat.le_of_ble_eq_true rfl), (Nat.le_of_ble_eq_true rfl)⟩) (by omega) hO345.ma rfl rfl hl.1 rfl (Nat.le_of_ble_eq_true rfl) dL_act_415 ⟨(Nat.le_of_ble_eq_true rfl), (Nat.le_of_ble_eq_true rfl)⟩ (fun v352 F353 H locs hp hw => ?_)
                              obtain ⟨e354, hO355, hf356⟩ := hp
                              refine x_top e354 ?_
                              replace hfr := hfr.tr hf356 (by omega) (by omega)
                              refine lv_iload X.1 X.2.1 dL_act_418 (lv_at hl 3 rfl) ?_
                              refine lv_icmp_ne (tgt := 449) X.1 X.2.1 dL_act_420 (by decide) (fun c357 => ?_) (fun c357 => ?_)
                              · exact absurd ((nI_eq (by omega) (by omega)).mpr (by omega)) c357
                              · have n358 := (nI_eq (by omega) (by omega)).mp c357
                                refine lv_aload_n X.1 X.2.1 dL_act_423 rfl (lv_at hl 6 rfl) ?_
                                refine lv_iload X.1 X.2.1 dL_act_424 (lv_at hl 1 rfl) ?_
                                refine lv_iconst (v := nI 1) X.1 X.2.1 dL_act_426 (by decide) ?_
                                refine x_callV X hK hw (k := 0) (As := [.int (nI (A 3)), .int (nI 1)]) (rest := []) (w_protest hI (by omega) hO355 (nI (A 3)) (nI 1) (fun g t hE => a_pro1 jB347 (by omega) (by omega) hE (by omega))) (x_cwV yX7_protest cX7_protest 3 (some .int) 2 X q813 q814 q815 q1 q816 hd_X7_protest ⟨(Nat.le_of_ble_eq_true rfl), (Nat.le_of_ble_eq_true rfl)⟩) (by omega) hO355.ma rfl rfl hl.1 rfl (Nat.le_of_ble_eq_true rfl) dL_act_427 ⟨(Nat.le_of_ble_eq_true rfl), (Nat.le_of_ble_eq_true rfl)⟩ (fun v359 F360 H locs hp hw => ?_)
                                obtain ⟨e361, hO362, hf363⟩ := hp
                                refine x_top e361 ?_
                                replace hfr := hfr.tr hf363 (by omega) (by omega)
                                refine lv_iload X.1 X.2.1 dL_act_430 (lv_at hl 2 rfl) ?_
                                refine lv_icmp_ne (tgt := 449) X.1 X.2.1 dL_act_432 (by decide) (fun c364 => ?_) (fun c364 => ?_)
                                · exact absurd ((nI_eq (by omega) (by omega)).mpr (by omega)) c364
                                · have n365 := (nI_eq (by omega) (by omega)).mp c364
                                  refine lv_aload_n X.1 X.2.1 dL_act_435 rfl (lv_at hl 6 rfl) ?_
                                  refine lv_iload X.1 X.2.1 dL_act_436 (lv_at hl 1 rfl) ?_
                                  refine lv_iconst (v := nI 3) X.1 X.2.1 dL_act_438 (by decide) ?_
                                  refine x_callV X hK hw (k := 0) (As := [.int (nI (A 3)), .int (nI 3)]) (rest := []) (w_protest hI (by omega) hO362 (nI (A 3)) (nI 3) (fun g t hE => a_pro3 jB347 (by omega) (by omega) hE (by omega))) (x_cwV yX7_protest cX7_protest 3 (some .int) 2 X q813 q814 q815 q1 q816 hd_X7_protest ⟨(Nat.le_of_ble_eq_true rfl), (Nat.le_of_ble_eq_true rfl)⟩) (by omega) hO362.ma rfl rfl hl.1 rfl (Nat.le_of_ble_eq_true rfl) dL_act_439 ⟨(Nat.le_of_ble_eq_true rfl), (Nat.le_of_ble_eq_true rfl)⟩ (fun v366 F367 H locs hp hw => ?_)
                                  obtain ⟨e368, hO369, hf370⟩ := hp
                                  refine x_top e368 ?_
                                  replace hfr := hfr.tr hf370 (by omega) (by omega)
                                  refine lv_if_ne (tgt := 449) X.1 X.2.1 dL_act_442 (by decide) (fun c371 => ?_) (fun c371 => ?_)
                                  · exact absurd ((bz_eq (by omega)).mpr (by omega)) c371
                                  · have n372 := (bz_eq (by omega)).mp c371
                                    refine lv_iconst (v := nI 1) X.1 X.2.1 dL_act_445 (by decide) ?_
                                    refine lv_goto (tgt := 450) X.1 X.2.1 dL_act_446 (by decide) ?_
                                    refine W.widen (k := 1) (n := 9) (by omega) (by omega) ?_
                                    exact x_iret X hr hlk hK hw (v := nI 1) rfl ⟨rfl, ACT.mk1 jB347 (by omega) (by omega) mB347 hO369, fun k hk => hfr k (Or.inr hk)⟩ dL_act_450
                          · exact absurd ((bz_ge (by omega)).mpr (by omega)) c348
                      · refine lv_aload_n X.1 X.2.1 dL_act_344 rfl (lv_at hl 5 rfl) ?_
                        refine lv_iload X.1 X.2.1 dL_act_345 (lv_at hl 2 rfl) ?_
                        refine lv_iload X.1 X.2.1 dL_act_347 (lv_at hl 1 rfl) ?_
                        refine x_callV X hK hw (k := 0) (As := [.int (nI (lowN w (A 1))), .int (nI (lowN (w >>> ((nI 4) &&& 31)) (A 1)))]) (rest := []) (w_hail hI (by omega) hO306 (nI (lowN w (A 1))) (nI (lowN (w >>> ((nI 4) &&& 31)) (A 1))) (fun g t hE => a_hail_np_r hrA hJ hx hy hne (fun _ => by omega) hE)) (x_cwV yX7_hail cX7_hail 3 (some .int) 2 X q411 q412 q413 q1 q414 hd_X7_hail ⟨(Nat.le_of_ble_eq_true rfl), (Nat.le_of_ble_eq_true rfl)⟩) (by omega) hO306.ma rfl rfl hl.1 rfl (Nat.le_of_ble_eq_true rfl) dL_act_349 ⟨(Nat.le_of_ble_eq_true rfl), (Nat.le_of_ble_eq_true rfl)⟩ (fun v373 F374 H locs hp hw => ?_)
                        obtain ⟨e375, hO376, hf377⟩ := hp
                        refine x_top e375 ?_
                        replace hfr := hfr.tr hf377 (by omega) (by omega)
                        refine lv_istore (lv' := [(9, .int ((-4))), (8, .int (nI (A 3))), (7, .int (nI (lowN (w >>> ((nI 4) &&& 31)) (A 1)))), (6, .int (nI (lowN w (A 1)))), (5, .int (nI (lowN v 30))), (4, .int (nI (A 1))), (0, .ref (ad 0)), (1, .int v), (2, .int w), (3, .ref (ad 114))]) X.1 X.2.1 dL_act_352 hl (by decide) rfl (fun ls hl => ?_)
                        refine lv_iload X.1 X.2.1 dL_act_354 (lv_at hl 0 rfl) ?_
                        refine lv_if_ge (tgt := 404) X.1 X.2.1 dL_act_356 (by decide) (fun c378 => ?_) (fun c378 => ?_)
                        · exact absurd c378 (by decide)
                        · refine lv_iload X.1 X.2.1 dL_act_359 (lv_at hl 0 rfl) ?_
                          refine lv_bipush (v := (-2)) X.1 X.2.1 dL_act_361 (by decide) ?_
                          refine lv_icmp_ne (tgt := 370) X.1 X.2.1 dL_act_363 (by decide) (fun c379 => ?_) (fun c379 => ?_)
                          · refine lv_iconst (v := nI 0) X.1 X.2.1 dL_act_370 (by decide) ?_
                            refine lv_iload X.1 X.2.1 dL_act_371 (lv_at hl 3 rfl) ?_
                            refine lv_iload X.1 X.2.1 dL_act_373 (lv_at hl 2 rfl) ?_
                            refine lv_icmp_ne (tgt := 382) X.1 X.2.1 dL_act_375 (by decide) (fun c380 => ?_) (fun c380 => ?_)
                            · have n381 : ¬ (lowN w (A 1)) = (lowN (w >>> ((nI 4) &&& 31)) (A 1)) := fun z => c380 ((nI_eq (by omega) (by omega)).mpr z)
                              refine lv_iconst (v := nI 0) X.1 X.2.1 dL_act_382 (by decide) ?_
                              refine lv_icmp_ne (tgt := 400) X.1 X.2.1 dL_act_383 (by decide) (fun c382 => ?_) (fun c382 => ?_)
                              · exact absurd (by decide) c382
                              · refine lv_aload_n X.1 X.2.1 dL_act_386 rfl (lv_at hl 6 rfl) ?_
                                refine lv_iconst (v := nI 5) X.1 X.2.1 dL_act_387 (by decide) ?_
                                refine x_callV X hK hw (k := 0) (As := [.int (nI 5)]) (rest := []) (w_count hI (by omega) hO376 (nI 5) (fun g t z n hE => a_cou5 hJ (by omega) hk hE z n)) (x_cwV yX7_count cX7_count 2 (some .int) 1 X q818 q819 q820 q1 q821 hd_X7_count ⟨(Nat.le_of_ble_eq_true rfl), (Nat.le_of_ble_eq_true rfl)⟩) (by omega) hO376.ma rfl rfl hl.1 rfl (Nat.le_of_ble_eq_true rfl) dL_act_388 ⟨(Nat.le_of_ble_eq_true rfl), (Nat.le_of_ble_eq_true rfl)⟩ (fun v383 F384 H locs hp hw => ?_)
                                obtain ⟨e385, hO386, hf387⟩ := hp
                                refine x_top e385 ?_
                                replace hfr := hfr.tr hf387 (by omega) (by omega)
                                refine lv_iload X.1 X.2.1 dL_act_391 (lv_at hl 1 rfl) ?_
                                refine lv_icmp_ne (tgt := 400) X.1 X.2.1 dL_act_393 (by decide) (fun c388 => ?_) (fun c388 => ?_)
                                · exact absurd ((nI_eq (by omega) (by omega)).mpr (by omega)) c388
                                · have n389 := (nI_eq (by omega) (by omega)).mp c388
                                  refine lv_iconst (v := nI 1) X.1 X.2.1 dL_act_396 (by decide) ?_
                                  refine lv_goto (tgt := 450) X.1 X.2.1 dL_act_397 (by decide) ?_
                                  refine W.widen (k := 1) (n := 9) (by omega) (by omega) ?_
                                  exact x_iret X hr hlk hK hw (v := nI 1) rfl ⟨rfl, ACT.same hJ hO386, fun k hk => hfr k (Or.inr hk)⟩ dL_act_450
                            · exact absurd ((nI_eq (by omega) (by omega)).mp c380) (by omega)
                          · exact absurd c379 (by decide)
                    · refine lv_aload_n X.1 X.2.1 dL_act_344 rfl (lv_at hl 5 rfl) ?_
                      refine lv_iload X.1 X.2.1 dL_act_345 (lv_at hl 2 rfl) ?_
                      refine lv_iload X.1 X.2.1 dL_act_347 (lv_at hl 1 rfl) ?_
                      refine x_callV X hK hw (k := 0) (As := [.int (nI (lowN w (A 1))), .int (nI (lowN (w >>> ((nI 4) &&& 31)) (A 1)))]) (rest := []) (w_hail hI (by omega) hO306 (nI (lowN w (A 1))) (nI (lowN (w >>> ((nI 4) &&& 31)) (A 1))) (fun g t hE => a_hail_np hJ hx hy hne (fun ho => absurd ho hopn) hE)) (x_cwV yX7_hail cX7_hail 3 (some .int) 2 X q411 q412 q413 q1 q414 hd_X7_hail ⟨(Nat.le_of_ble_eq_true rfl), (Nat.le_of_ble_eq_true rfl)⟩) (by omega) hO306.ma rfl rfl hl.1 rfl (Nat.le_of_ble_eq_true rfl) dL_act_349 ⟨(Nat.le_of_ble_eq_true rfl), (Nat.le_of_ble_eq_true rfl)⟩ (fun v390 F391 H locs hp hw => ?_)
                      obtain ⟨e392, hO393, hf394⟩ := hp
                      refine x_top e392 ?_
                      replace hfr := hfr.tr hf394 (by omega) (by omega)
                      refine lv_istore (lv' := [(9, .int ((-4))), (8, .int (nI (A 3))), (7, .int (nI (lowN (w >>> ((nI 4) &&& 31)) (A 1)))), (6, .int (nI (lowN w (A 1)))), (5, .int (nI (lowN v 30))), (4, .int (nI (A 1))), (0, .ref (ad 0)), (1, .int v), (2, .int w), (3, .ref (ad 114))]) X.1 X.2.1 dL_act_352 hl (by decide) rfl (fun ls hl => ?_)
                      refine lv_iload X.1 X.2.1 dL_act_354 (lv_at hl 0 rfl) ?_
                      refine lv_if_ge (tgt := 404) X.1 X.2.1 dL_act_356 (by decide) (fun c395 => ?_) (fun c395 => ?_)
                      · exact absurd c395 (by decide)
                      · refine lv_iload X.1 X.2.1 dL_act_359 (lv_at hl 0 rfl) ?_
                        refine lv_bipush (v := (-2)) X.1 X.2.1 dL_act_361 (by decide) ?_
                        refine lv_icmp_ne (tgt := 370) X.1 X.2.1 dL_act_363 (by decide) (fun c396 => ?_) (fun c396 => ?_)
                        · refine lv_iconst (v := nI 0) X.1 X.2.1 dL_act_370 (by decide) ?_
                          refine lv_iload X.1 X.2.1 dL_act_371 (lv_at hl 3 rfl) ?_
                          refine lv_iload X.1 X.2.1 dL_act_373 (lv_at hl 2 rfl) ?_
                          refine lv_icmp_ne (tgt := 382) X.1 X.2.1 dL_act_375 (by decide) (fun c397 => ?_) (fun c397 => ?_)
                          · have n398 : ¬ (lowN w (A 1)) = (lowN (w >>> ((nI 4) &&& 31)) (A 1)) := fun z => c397 ((nI_eq (by omega) (by omega)).mpr z)
                            refine lv_iconst (v := nI 0) X.1 X.2.1 dL_act_382 (by decide) ?_
                            refine lv_icmp_ne (tgt := 400) X.1 X.2.1 dL_act_383 (by decide) (fun c399 => ?_) (fun c399 => ?_)
                            · exact absurd (by decide) c399
                            · refine lv_aload_n X.1 X.2.1 dL_act_386 rfl (lv_at hl 6 rfl) ?_
                              refine lv_iconst (v := nI 5) X.1 X.2.1 dL_act_387 (by decide) ?_
                              refine x_callV X hK hw (k := 0) (As := [.int (nI 5)]) (rest := []) (w_count hI (by omega) hO393 (nI 5) (fun g t z n hE => a_cou5 hJ (by omega) hk hE z n)) (x_cwV yX7_count cX7_count 2 (some .int) 1 X q818 q819 q820 q1 q821 hd_X7_count ⟨(Nat.le_of_ble_eq_true rfl), (Nat.le_of_ble_eq_true rfl)⟩) (by omega) hO393.ma rfl rfl hl.1 rfl (Nat.le_of_ble_eq_true rfl) dL_act_388 ⟨(Nat.le_of_ble_eq_true rfl), (Nat.le_of_ble_eq_true rfl)⟩ (fun v400 F401 H locs hp hw => ?_)
                              obtain ⟨e402, hO403, hf404⟩ := hp
                              refine x_top e402 ?_
                              replace hfr := hfr.tr hf404 (by omega) (by omega)
                              refine lv_iload X.1 X.2.1 dL_act_391 (lv_at hl 1 rfl) ?_
                              refine lv_icmp_ne (tgt := 400) X.1 X.2.1 dL_act_393 (by decide) (fun c405 => ?_) (fun c405 => ?_)
                              · exact absurd ((nI_eq (by omega) (by omega)).mpr (by omega)) c405
                              · have n406 := (nI_eq (by omega) (by omega)).mp c405
                                refine lv_iconst (v := nI 1) X.1 X.2.1 dL_act_396 (by decide) ?_
                                refine lv_goto (tgt := 450) X.1 X.2.1 dL_act_397 (by decide) ?_
                                refine W.widen (k := 1) (n := 9) (by omega) (by omega) ?_
                                exact x_iret X hr hlk hK hw (v := nI 1) rfl ⟨rfl, ACT.same hJ hO403, fun k hk => hfr k (Or.inr hk)⟩ dL_act_450
                          · exact absurd ((nI_eq (by omega) (by omega)).mp c397) (by omega)
                        · exact absurd c396 (by decide)
              · have n407 := (nI_eq (by omega) (by omega)).mp c291
                refine lv_iload_n X.1 X.2.1 dL_act_213 rfl (lv_at hl 4 rfl) ?_
                refine lv_iconst (v := nI 3) X.1 X.2.1 dL_act_214 (by decide) ?_
                refine x_callSP X hK hw (As := [.int w, .int (nI 3)]) (rest := []) (k_L_low w 3 (by omega) (by omega)) (x_cwS yL_low cL_low 2 (some .int) 2 X q1394 q1395 q0 q1396 hd_L_low ⟨(Nat.le_of_ble_eq_true rfl), (Nat.le_of_ble_eq_true rfl)⟩) rfl hl.1 rfl (Nat.le_of_ble_eq_true rfl) dL_act_215 ⟨(Nat.le_of_ble_eq_true rfl), (Nat.le_of_ble_eq_true rfl)⟩ (fun H locs hw => ?_)
                have hw408 := lowN_lt (v := w) (n := 3) (by omega)
                refine lv_istore (lv' := [(6, .int (nI (lowN w 3))), (5, .int (nI (lowN v 30))), (4, .int (nI (A 1))), (0, .ref (ad 0)), (1, .int v), (2, .int w), (3, .ref (ad 114))]) X.1 X.2.1 dL_act_218 hl (by decide) rfl (fun ls hl => ?_)
                rcases (show lowN w 3 = 0 ∨ lowN w 3 = 1 ∨ lowN w 3 = 2 by omega) with hq | hq | hq
                · rw [hq] at hl
                  refine lv_iload X.1 X.2.1 dL_act_220 (lv_at hl 0 rfl) ?_
                  refine lv_if_ne (tgt := 238) X.1 X.2.1 dL_act_222 (by decide) (fun c409 => ?_) (fun c409 => ?_)
                  · exact absurd (by decide) c409
                  · refine lv_iconst (v := nI 1) X.1 X.2.1 dL_act_225 (by decide) ?_
                    refine lv_iload_n X.1 X.2.1 dL_act_226 rfl (lv_at hl 5 rfl) ?_
                    refine lv_iconst (v := nI 2) X.1 X.2.1 dL_act_227 (by decide) ?_
                    refine lv_ishr X.1 X.2.1 dL_act_228 ?_
                    refine lv_bipush (v := nI 100) X.1 X.2.1 dL_act_229 (by decide) ?_
                    refine x_callSP X hK hw (As := [.int (w >>> ((nI 2) &&& 31)), .int (nI 100)]) (rest := [.int (nI 1)]) (k_L_low (w >>> ((nI 2) &&& 31)) 100 (by omega) (by omega)) (x_cwS yL_low cL_low 2 (some .int) 2 X q1394 q1395 q0 q1396 hd_L_low ⟨(Nat.le_of_ble_eq_true rfl), (Nat.le_of_ble_eq_true rfl)⟩) rfl hl.1 rfl (Nat.le_of_ble_eq_true rfl) dL_act_231 ⟨(Nat.le_of_ble_eq_true rfl), (Nat.le_of_ble_eq_true rfl)⟩ (fun H locs hw => ?_)
                    have hw410 := lowN_lt (v := w >>> ((nI 2) &&& 31)) (n := 100) (by omega)
                    refine lv_iadd X.1 X.2.1 dL_act_234 ?_
                    refine x_top (nI_add _ _) ?_
                    refine lv_goto (tgt := 266) X.1 X.2.1 dL_act_235 (by decide) ?_
                    refine lv_istore (lv' := [(7, .int (nI (1 + (lowN (w >>> ((nI 2) &&& 31)) 100)))), (6, .int (nI 0)), (5, .int (nI (lowN v 30))), (4, .int (nI (A 1))), (0, .ref (ad 0)), (1, .int v), (2, .int w), (3, .ref (ad 114))]) X.1 X.2.1 dL_act_266 hl (by decide) rfl (fun ls hl => ?_)
                    refine lv_aload_n X.1 X.2.1 dL_act_268 rfl (lv_at hl 4 rfl) ?_
                    refine lv_bipush (v := nI 6) X.1 X.2.1 dL_act_269 (by decide) ?_
                    refine lv_iload X.1 X.2.1 dL_act_271 (lv_at hl 1 rfl) ?_
                    refine lv_iadd X.1 X.2.1 dL_act_273 ?_
                    refine x_top (nI_add _ _) ?_
                    refine x_top (y := nI 6) (show nI (6 + 0) = nI 6 from rfl) ?_
                    refine x_callV X hK hw (k := 0) (As := [.int (nI 6)]) (rest := []) (w_count hI (by omega) hO43 (nI 6) (fun g t z n hE => a_cou6 hJ (by omega) hk hE z n)) (x_cwV yX7_count cX7_count 2 (some .int) 1 X q818 q819 q820 q1 q821 hd_X7_count ⟨(Nat.le_of_ble_eq_true rfl), (Nat.le_of_ble_eq_true rfl)⟩) (by omega) hO43.ma rfl rfl hl.1 rfl (Nat.le_of_ble_eq_true rfl) dL_act_274 ⟨(Nat.le_of_ble_eq_true rfl), (Nat.le_of_ble_eq_true rfl)⟩ (fun v411 F412 H locs hp hw => ?_)
                    obtain ⟨e413, hO414, hf415⟩ := hp
                    refine x_top e413 ?_
                    replace hfr := hfr.tr hf415 (by omega) (by omega)
                    refine lv_istore (lv' := [(8, .int (nI (A 4))), (7, .int (nI (1 + (lowN (w >>> ((nI 2) &&& 31)) 100)))), (6, .int (nI 0)), (5, .int (nI (lowN v 30))), (4, .int (nI (A 1))), (0, .ref (ad 0)), (1, .int v), (2, .int w), (3, .ref (ad 114))]) X.1 X.2.1 dL_act_277 hl (by decide) rfl (fun ls hl => ?_)
                    refine lv_aload_n X.1 X.2.1 dL_act_279 rfl (lv_at hl 5 rfl) ?_
                    refine lv_iload X.1 X.2.1 dL_act_280 (lv_at hl 2 rfl) ?_
                    refine lv_iload X.1 X.2.1 dL_act_282 (lv_at hl 1 rfl) ?_
                    refine x_callV X hK hw (k := 0) (As := [.int (nI 0), .int (nI (1 + (lowN (w >>> ((nI 2) &&& 31)) 100)))]) (rest := []) (w_set hI (by omega) hO414 (nI 0) (nI (1 + (lowN (w >>> ((nI 2) &&& 31)) 100))) (fun g t hE => (show AR (s_X0_changeSetting g t (nI 0) (nI (1 + (lowN (w >>> ((nI 2) &&& 31)) 100)))) (nI (A 4)) (nup A (4 + 0) (1 + (lowN (w >>> ((nI 2) &&& 31)) 100))) from a_set hJ.1.2.1 (i := 0) (v := 1 + (lowN (w >>> ((nI 2) &&& 31)) 100)) (by omega) (by simp; omega) (by simp; try omega) hE))) (x_cwV yX7_set cX7_set 3 (some .int) 2 X q463 q464 q465 q1 q466 hd_X7_set ⟨(Nat.le_of_ble_eq_true rfl), (Nat.le_of_ble_eq_true rfl)⟩) (by omega) hO414.ma rfl rfl hl.1 rfl (Nat.le_of_ble_eq_true rfl) dL_act_284 ⟨(Nat.le_of_ble_eq_true rfl), (Nat.le_of_ble_eq_true rfl)⟩ (fun v416 F417 H locs hp hw => ?_)
                    obtain ⟨e418, hO419, hf420⟩ := hp
                    refine x_top e418 ?_
                    replace hfr := hfr.tr hf420 (by omega) (by omega)
                    obtain ⟨B421, hB421⟩ : ∃ y, y = nup A (4 + 0) (1 + (lowN (w >>> ((nI 2) &&& 31)) 100)) := ⟨_, rfl⟩
                    rw [← hB421] at hO419
                    have jB421 : HJ ca B421 := by rw [hB421]; exact j_set hJ (i := 0) (v := 1 + (lowN (w >>> ((nI 2) &&& 31)) 100)) (by omega) (by simp; omega) (by simp; try omega)
                    have eB421 : ∀ j, j ≠ 4 + 0 → B421 j = A j := fun j hj => by rw [hB421]; exact nup_ne hj
                    have b0B421 : B421 0 = A 0 := eB421 0 (by omega)
                    have vB421 : B421 4 = 1 + (lowN (w >>> ((nI 2) &&& 31)) 100) := by rw [hB421]; exact nup_at
                    have mB421 : ∀ k, k < A 3 → pA A k 3 ≤ pA B421 k 3 := fun k hk => by rw [show pA B421 k 3 = pA A k 3 from eB421 _ (by omega)]; exact Nat.le_refl _
                    refine lv_iload X.1 X.2.1 dL_act_287 (lv_at hl 0 rfl) ?_
                    refine lv_icmp_ne (tgt := 310) X.1 X.2.1 dL_act_289 (by decide) (fun c422 => ?_) (fun c422 => ?_)
                    · exact absurd ((nI_eq (by omega) (by omega)).mpr (by omega)) c422
                    · have n423 := (nI_eq (by omega) (by omega)).mp c422
                      refine lv_aload_n X.1 X.2.1 dL_act_292 rfl (lv_at hl 5 rfl) ?_
                      refine lv_bipush (v := nI 6) X.1 X.2.1 dL_act_293 (by decide) ?_
                      refine lv_iload X.1 X.2.1 dL_act_295 (lv_at hl 2 rfl) ?_
                      refine lv_iadd X.1 X.2.1 dL_act_297 ?_
                      refine x_top (nI_add _ _) ?_
                      refine x_top (y := nI 6) (show nI (6 + 0) = nI 6 from rfl) ?_
                      refine x_callV X hK hw (k := 0) (As := [.int (nI 6)]) (rest := []) (w_count hI (by omega) hO419 (nI 6) (fun g t z n hE => a_cou6 jB421 (by omega) (by omega) hE z n)) (x_cwV yX7_count cX7_count 2 (some .int) 1 X q818 q819 q820 q1 q821 hd_X7_count ⟨(Nat.le_of_ble_eq_true rfl), (Nat.le_of_ble_eq_true rfl)⟩) (by omega) hO419.ma rfl rfl hl.1 rfl (Nat.le_of_ble_eq_true rfl) dL_act_298 ⟨(Nat.le_of_ble_eq_true rfl), (Nat.le_of_ble_eq_true rfl)⟩ (fun v424 F425 H locs hp hw => ?_)
                      obtain ⟨e426, hO427, hf428⟩ := hp
                      refine x_top e426 ?_
                      replace hfr := hfr.tr hf428 (by omega) (by omega)
                      refine lv_iload X.1 X.2.1 dL_act_301 (lv_at hl 1 rfl) ?_
                      refine lv_icmp_ne (tgt := 310) X.1 X.2.1 dL_act_303 (by decide) (fun c429 => ?_) (fun c429 => ?_)
                      · exact absurd ((nI_eq (by omega) (by omega)).mpr (by omega)) c429
                      · have n430 := (nI_eq (by omega) (by omega)).mp c429
                        refine lv_iconst (v := nI 1) X.1 X.2.1 dL_act_306 (by decide) ?_
                        refine lv_goto (tgt := 311) X.1 X.2.1 dL_act_307 (by decide) ?_
                        refine W.widen (k := 1) (n := 9) (by omega) (by omega) ?_
                        exact x_iret X hr hlk hK hw (v := nI 1) rfl ⟨rfl, ACT.mk1 jB421 (by omega) (by omega) mB421 hO427, fun k hk => hfr k (Or.inr hk)⟩ dL_act_311
                · rw [hq] at hl
                  refine lv_iload X.1 X.2.1 dL_act_220 (lv_at hl 0 rfl) ?_
                  refine lv_if_ne (tgt := 238) X.1 X.2.1 dL_act_222 (by decide) (fun c431 => ?_) (fun c431 => ?_)
                  · refine lv_iload X.1 X.2.1 dL_act_238 (lv_at hl 0 rfl) ?_
                    refine lv_iconst (v := nI 1) X.1 X.2.1 dL_act_240 (by decide) ?_
                    refine lv_icmp_ne (tgt := 258) X.1 X.2.1 dL_act_241 (by decide) (fun c432 => ?_) (fun c432 => ?_)
                    · exact absurd (by decide) c432
                    · refine lv_iconst (v := nI 1) X.1 X.2.1 dL_act_244 (by decide) ?_
                      refine lv_iload_n X.1 X.2.1 dL_act_245 rfl (lv_at hl 5 rfl) ?_
                      refine lv_iconst (v := nI 2) X.1 X.2.1 dL_act_246 (by decide) ?_
                      refine lv_ishr X.1 X.2.1 dL_act_247 ?_
                      refine lv_sipush (v := nI 300) X.1 X.2.1 dL_act_248 (by decide) ?_
                      refine x_callSP X hK hw (As := [.int (w >>> ((nI 2) &&& 31)), .int (nI 300)]) (rest := [.int (nI 1)]) (k_L_low (w >>> ((nI 2) &&& 31)) 300 (by omega) (by omega)) (x_cwS yL_low cL_low 2 (some .int) 2 X q1394 q1395 q0 q1396 hd_L_low ⟨(Nat.le_of_ble_eq_true rfl), (Nat.le_of_ble_eq_true rfl)⟩) rfl hl.1 rfl (Nat.le_of_ble_eq_true rfl) dL_act_251 ⟨(Nat.le_of_ble_eq_true rfl), (Nat.le_of_ble_eq_true rfl)⟩ (fun H locs hw => ?_)
                      have hw433 := lowN_lt (v := w >>> ((nI 2) &&& 31)) (n := 300) (by omega)
                      refine lv_iadd X.1 X.2.1 dL_act_254 ?_
                      refine x_top (nI_add _ _) ?_
                      refine lv_goto (tgt := 266) X.1 X.2.1 dL_act_255 (by decide) ?_
                      refine lv_istore (lv' := [(7, .int (nI (1 + (lowN (w >>> ((nI 2) &&& 31)) 300)))), (6, .int (nI 1)), (5, .int (nI (lowN v 30))), (4, .int (nI (A 1))), (0, .ref (ad 0)), (1, .int v), (2, .int w), (3, .ref (ad 114))]) X.1 X.2.1 dL_act_266 hl (by decide) rfl (fun ls hl => ?_)
                      refine lv_aload_n X.1 X.2.1 dL_act_268 rfl (lv_at hl 4 rfl) ?_
                      refine lv_bipush (v := nI 6) X.1 X.2.1 dL_act_269 (by decide) ?_
                      refine lv_iload X.1 X.2.1 dL_act_271 (lv_at hl 1 rfl) ?_
                      refine lv_iadd X.1 X.2.1 dL_act_273 ?_
                      refine x_top (nI_add _ _) ?_
                      refine x_top (y := nI 7) (show nI (6 + 1) = nI 7 from rfl) ?_
                      refine x_callV X hK hw (k := 0) (As := [.int (nI 7)]) (rest := []) (w_count hI (by omega) hO43 (nI 7) (fun g t z n hE => a_cou7 hJ (by omega) hk hE z n)) (x_cwV yX7_count cX7_count 2 (some .int) 1 X q818 q819 q820 q1 q821 hd_X7_count ⟨(Nat.le_of_ble_eq_true rfl), (Nat.le_of_ble_eq_true rfl)⟩) (by omega) hO43.ma rfl rfl hl.1 rfl (Nat.le_of_ble_eq_true rfl) dL_act_274 ⟨(Nat.le_of_ble_eq_true rfl), (Nat.le_of_ble_eq_true rfl)⟩ (fun v434 F435 H locs hp hw => ?_)
                      obtain ⟨e436, hO437, hf438⟩ := hp
                      refine x_top e436 ?_
                      replace hfr := hfr.tr hf438 (by omega) (by omega)
                      refine lv_istore (lv' := [(8, .int (nI (A 5))), (7, .int (nI (1 + (lowN (w >>> ((nI 2) &&& 31)) 300)))), (6, .int (nI 1)), (5, .int (nI (lowN v 30))), (4, .int (nI (A 1))), (0, .ref (ad 0)), (1, .int v), (2, .int w), (3, .ref (ad 114))]) X.1 X.2.1 dL_act_277 hl (by decide) rfl (fun ls hl => ?_)
                      refine lv_aload_n X.1 X.2.1 dL_act_279 rfl (lv_at hl 5 rfl) ?_
                      refine lv_iload X.1 X.2.1 dL_act_280 (lv_at hl 2 rfl) ?_
                      refine lv_iload X.1 X.2.1 dL_act_282 (lv_at hl 1 rfl) ?_
                      refine x_callV X hK hw (k := 0) (As := [.int (nI 1), .int (nI (1 + (lowN (w >>> ((nI 2) &&& 31)) 300)))]) (rest := []) (w_set hI (by omega) hO437 (nI 1) (nI (1 + (lowN (w >>> ((nI 2) &&& 31)) 300))) (fun g t hE => (show AR (s_X0_changeSetting g t (nI 1) (nI (1 + (lowN (w >>> ((nI 2) &&& 31)) 300)))) (nI (A 5)) (nup A (4 + 1) (1 + (lowN (w >>> ((nI 2) &&& 31)) 300))) from a_set hJ.1.2.1 (i := 1) (v := 1 + (lowN (w >>> ((nI 2) &&& 31)) 300)) (by omega) (by simp; omega) (by simp; try omega) hE))) (x_cwV yX7_set cX7_set 3 (some .int) 2 X q463 q464 q465 q1 q466 hd_X7_set ⟨(Nat.le_of_ble_eq_true rfl), (Nat.le_of_ble_eq_true rfl)⟩) (by omega) hO437.ma rfl rfl hl.1 rfl (Nat.le_of_ble_eq_true rfl) dL_act_284 ⟨(Nat.le_of_ble_eq_true rfl), (Nat.le_of_ble_eq_true rfl)⟩ (fun v439 F440 H locs hp hw => ?_)
                      obtain ⟨e441, hO442, hf443⟩ := hp
                      refine x_top e441 ?_
                      replace hfr := hfr.tr hf443 (by omega) (by omega)
                      obtain ⟨B444, hB444⟩ : ∃ y, y = nup A (4 + 1) (1 + (lowN (w >>> ((nI 2) &&& 31)) 300)) := ⟨_, rfl⟩
                      rw [← hB444] at hO442
                      have jB444 : HJ ca B444 := by rw [hB444]; exact j_set hJ (i := 1) (v := 1 + (lowN (w >>> ((nI 2) &&& 31)) 300)) (by omega) (by simp; omega) (by simp; try omega)
                      have eB444 : ∀ j, j ≠ 4 + 1 → B444 j = A j := fun j hj => by rw [hB444]; exact nup_ne hj
                      have b0B444 : B444 0 = A 0 := eB444 0 (by omega)
                      have vB444 : B444 5 = 1 + (lowN (w >>> ((nI 2) &&& 31)) 300) := by rw [hB444]; exact nup_at
                      have mB444 : ∀ k, k < A 3 → pA A k 3 ≤ pA B444 k 3 := fun k hk => by rw [show pA B444 k 3 = pA A k 3 from eB444 _ (by omega)]; exact Nat.le_refl _
                      refine lv_iload X.1 X.2.1 dL_act_287 (lv_at hl 0 rfl) ?_
                      refine lv_icmp_ne (tgt := 310) X.1 X.2.1 dL_act_289 (by decide) (fun c445 => ?_) (fun c445 => ?_)
                      · exact absurd ((nI_eq (by omega) (by omega)).mpr (by omega)) c445
                      · have n446 := (nI_eq (by omega) (by omega)).mp c445
                        refine lv_aload_n X.1 X.2.1 dL_act_292 rfl (lv_at hl 5 rfl) ?_
                        refine lv_bipush (v := nI 6) X.1 X.2.1 dL_act_293 (by decide) ?_
                        refine lv_iload X.1 X.2.1 dL_act_295 (lv_at hl 2 rfl) ?_
                        refine lv_iadd X.1 X.2.1 dL_act_297 ?_
                        refine x_top (nI_add _ _) ?_
                        refine x_top (y := nI 7) (show nI (6 + 1) = nI 7 from rfl) ?_
                        refine x_callV X hK hw (k := 0) (As := [.int (nI 7)]) (rest := []) (w_count hI (by omega) hO442 (nI 7) (fun g t z n hE => a_cou7 jB444 (by omega) (by omega) hE z n)) (x_cwV yX7_count cX7_count 2 (some .int) 1 X q818 q819 q820 q1 q821 hd_X7_count ⟨(Nat.le_of_ble_eq_true rfl), (Nat.le_of_ble_eq_true rfl)⟩) (by omega) hO442.ma rfl rfl hl.1 rfl (Nat.le_of_ble_eq_true rfl) dL_act_298 ⟨(Nat.le_of_ble_eq_true rfl), (Nat.le_of_ble_eq_true rfl)⟩ (fun v447 F448 H locs hp hw => ?_)
                        obtain ⟨e449, hO450, hf451⟩ := hp
                        refine x_top e449 ?_
                        replace hfr := hfr.tr hf451 (by omega) (by omega)
                        refine lv_iload X.1 X.2.1 dL_act_301 (lv_at hl 1 rfl) ?_
                        refine lv_icmp_ne (tgt := 310) X.1 X.2.1 dL_act_303 (by decide) (fun c452 => ?_) (fun c452 => ?_)
                        · exact absurd ((nI_eq (by omega) (by omega)).mpr (by omega)) c452
                        · have n453 := (nI_eq (by omega) (by omega)).mp c452
                          refine lv_iconst (v := nI 1) X.1 X.2.1 dL_act_306 (by decide) ?_
                          refine lv_goto (tgt := 311) X.1 X.2.1 dL_act_307 (by decide) ?_
                          refine W.widen (k := 1) (n := 9) (by omega) (by omega) ?_
                          exact x_iret X hr hlk hK hw (v := nI 1) rfl ⟨rfl, ACT.mk1 jB444 (by omega) (by omega) mB444 hO450, fun k hk => hfr k (Or.inr hk)⟩ dL_act_311
                  · exact absurd c431 (by decide)
                · rw [hq] at hl
                  refine lv_iload X.1 X.2.1 dL_act_220 (lv_at hl 0 rfl) ?_
                  refine lv_if_ne (tgt := 238) X.1 X.2.1 dL_act_222 (by decide) (fun c454 => ?_) (fun c454 => ?_)
                  · refine lv_iload X.1 X.2.1 dL_act_238 (lv_at hl 0 rfl) ?_
                    refine lv_iconst (v := nI 1) X.1 X.2.1 dL_act_240 (by decide) ?_
                    refine lv_icmp_ne (tgt := 258) X.1 X.2.1 dL_act_241 (by decide) (fun c455 => ?_) (fun c455 => ?_)
                    · refine lv_iload_n X.1 X.2.1 dL_act_258 rfl (lv_at hl 5 rfl) ?_
                      refine lv_iconst (v := nI 2) X.1 X.2.1 dL_act_259 (by decide) ?_
                      refine lv_ishr X.1 X.2.1 dL_act_260 ?_
                      refine lv_bipush (v := nI 7) X.1 X.2.1 dL_act_261 (by decide) ?_
                      refine x_callSP X hK hw (As := [.int (w >>> ((nI 2) &&& 31)), .int (nI 7)]) (rest := []) (k_L_low (w >>> ((nI 2) &&& 31)) 7 (by omega) (by omega)) (x_cwS yL_low cL_low 2 (some .int) 2 X q1394 q1395 q0 q1396 hd_L_low ⟨(Nat.le_of_ble_eq_true rfl), (Nat.le_of_ble_eq_true rfl)⟩) rfl hl.1 rfl (Nat.le_of_ble_eq_true rfl) dL_act_263 ⟨(Nat.le_of_ble_eq_true rfl), (Nat.le_of_ble_eq_true rfl)⟩ (fun H locs hw => ?_)
                      have hw456 := lowN_lt (v := w >>> ((nI 2) &&& 31)) (n := 7) (by omega)
                      refine lv_istore (lv' := [(7, .int (nI (lowN (w >>> ((nI 2) &&& 31)) 7))), (6, .int (nI 2)), (5, .int (nI (lowN v 30))), (4, .int (nI (A 1))), (0, .ref (ad 0)), (1, .int v), (2, .int w), (3, .ref (ad 114))]) X.1 X.2.1 dL_act_266 hl (by decide) rfl (fun ls hl => ?_)
                      refine lv_aload_n X.1 X.2.1 dL_act_268 rfl (lv_at hl 4 rfl) ?_
                      refine lv_bipush (v := nI 6) X.1 X.2.1 dL_act_269 (by decide) ?_
                      refine lv_iload X.1 X.2.1 dL_act_271 (lv_at hl 1 rfl) ?_
                      refine lv_iadd X.1 X.2.1 dL_act_273 ?_
                      refine x_top (nI_add _ _) ?_
                      refine x_top (y := nI 8) (show nI (6 + 2) = nI 8 from rfl) ?_
                      refine x_callV X hK hw (k := 0) (As := [.int (nI 8)]) (rest := []) (w_count hI (by omega) hO43 (nI 8) (fun g t z n hE => a_cou8 hJ (by omega) hk hE z n)) (x_cwV yX7_count cX7_count 2 (some .int) 1 X q818 q819 q820 q1 q821 hd_X7_count ⟨(Nat.le_of_ble_eq_true rfl), (Nat.le_of_ble_eq_true rfl)⟩) (by omega) hO43.ma rfl rfl hl.1 rfl (Nat.le_of_ble_eq_true rfl) dL_act_274 ⟨(Nat.le_of_ble_eq_true rfl), (Nat.le_of_ble_eq_true rfl)⟩ (fun v457 F458 H locs hp hw => ?_)
                      obtain ⟨e459, hO460, hf461⟩ := hp
                      refine x_top e459 ?_
                      replace hfr := hfr.tr hf461 (by omega) (by omega)
                      refine lv_istore (lv' := [(8, .int (nI (A 6))), (7, .int (nI (lowN (w >>> ((nI 2) &&& 31)) 7))), (6, .int (nI 2)), (5, .int (nI (lowN v 30))), (4, .int (nI (A 1))), (0, .ref (ad 0)), (1, .int v), (2, .int w), (3, .ref (ad 114))]) X.1 X.2.1 dL_act_277 hl (by decide) rfl (fun ls hl => ?_)
                      refine lv_aload_n X.1 X.2.1 dL_act_279 rfl (lv_at hl 5 rfl) ?_
                      refine lv_iload X.1 X.2.1 dL_act_280 (lv_at hl 2 rfl) ?_
                      refine lv_iload X.1 X.2.1 dL_act_282 (lv_at hl 1 rfl) ?_
                      refine x_callV X hK hw (k := 0) (As := [.int (nI 2), .int (nI (lowN (w >>> ((nI 2) &&& 31)) 7))]) (rest := []) (w_set hI (by omega) hO460 (nI 2) (nI (lowN (w >>> ((nI 2) &&& 31)) 7)) (fun g t hE => (show AR (s_X0_changeSetting g t (nI 2) (nI (lowN (w >>> ((nI 2) &&& 31)) 7))) (nI (A 6)) (nup A (4 + 2) (lowN (w >>> ((nI 2) &&& 31)) 7)) from a_set hJ.1.2.1 (i := 2) (v := lowN (w >>> ((nI 2) &&& 31)) 7) (by omega) (by simp; omega) (by simp; try omega) hE))) (x_cwV yX7_set cX7_set 3 (some .int) 2 X q463 q464 q465 q1 q466 hd_X7_set ⟨(Nat.le_of_ble_eq_true rfl), (Nat.le_of_ble_eq_true rfl)⟩) (by omega) hO460.ma rfl rfl hl.1 rfl (Nat.le_of_ble_eq_true rfl) dL_act_284 ⟨(Nat.le_of_ble_eq_true rfl), (Nat.le_of_ble_eq_true rfl)⟩ (fun v462 F463 H locs hp hw => ?_)
                      obtain ⟨e464, hO465, hf466⟩ := hp
                      refine x_top e464 ?_
                      replace hfr := hfr.tr hf466 (by omega) (by omega)
                      obtain ⟨B467, hB467⟩ : ∃ y, y = nup A (4 + 2) (lowN (w >>> ((nI 2) &&& 31)) 7) := ⟨_, rfl⟩
                      rw [← hB467] at hO465
                      have jB467 : HJ ca B467 := by rw [hB467]; exact j_set hJ (i := 2) (v := lowN (w >>> ((nI 2) &&& 31)) 7) (by omega) (by simp; omega) (by simp; try omega)
                      have eB467 : ∀ j, j ≠ 4 + 2 → B467 j = A j := fun j hj => by rw [hB467]; exact nup_ne hj
                      have b0B467 : B467 0 = A 0 := eB467 0 (by omega)
                      have vB467 : B467 6 = lowN (w >>> ((nI 2) &&& 31)) 7 := by rw [hB467]; exact nup_at
                      have mB467 : ∀ k, k < A 3 → pA A k 3 ≤ pA B467 k 3 := fun k hk => by rw [show pA B467 k 3 = pA A k 3 from eB467 _ (by omega)]; exact Nat.le_refl _
                      refine lv_iload X.1 X.2.1 dL_act_287 (lv_at hl 0 rfl) ?_
                      refine lv_icmp_ne (tgt := 310) X.1 X.2.1 dL_act_289 (by decide) (fun c468 => ?_) (fun c468 => ?_)
                      · exact absurd ((nI_eq (by omega) (by omega)).mpr (by omega)) c468
                      · have n469 := (nI_eq (by omega) (by omega)).mp c468
                        refine lv_aload_n X.1 X.2.1 dL_act_292 rfl (lv_at hl 5 rfl) ?_
                        refine lv_bipush (v := nI 6) X.1 X.2.1 dL_act_293 (by decide) ?_
                        refine lv_iload X.1 X.2.1 dL_act_295 (lv_at hl 2 rfl) ?_
                        refine lv_iadd X.1 X.2.1 dL_act_297 ?_
                        refine x_top (nI_add _ _) ?_
                        refine x_top (y := nI 8) (show nI (6 + 2) = nI 8 from rfl) ?_
                        refine x_callV X hK hw (k := 0) (As := [.int (nI 8)]) (rest := []) (w_count hI (by omega) hO465 (nI 8) (fun g t z n hE => a_cou8 jB467 (by omega) (by omega) hE z n)) (x_cwV yX7_count cX7_count 2 (some .int) 1 X q818 q819 q820 q1 q821 hd_X7_count ⟨(Nat.le_of_ble_eq_true rfl), (Nat.le_of_ble_eq_true rfl)⟩) (by omega) hO465.ma rfl rfl hl.1 rfl (Nat.le_of_ble_eq_true rfl) dL_act_298 ⟨(Nat.le_of_ble_eq_true rfl), (Nat.le_of_ble_eq_true rfl)⟩ (fun v470 F471 H locs hp hw => ?_)
                        obtain ⟨e472, hO473, hf474⟩ := hp
                        refine x_top e472 ?_
                        replace hfr := hfr.tr hf474 (by omega) (by omega)
                        refine lv_iload X.1 X.2.1 dL_act_301 (lv_at hl 1 rfl) ?_
                        refine lv_icmp_ne (tgt := 310) X.1 X.2.1 dL_act_303 (by decide) (fun c475 => ?_) (fun c475 => ?_)
                        · exact absurd ((nI_eq (by omega) (by omega)).mpr (by omega)) c475
                        · have n476 := (nI_eq (by omega) (by omega)).mp c475
                          refine lv_iconst (v := nI 1) X.1 X.2.1 dL_act_306 (by decide) ?_
                          refine lv_goto (tgt := 311) X.1 X.2.1 dL_act_307 (by decide) ?_
                          refine W.widen (k := 1) (n := 9) (by omega) (by omega) ?_
                          exact x_iret X hr hlk hK hw (v := nI 1) rfl ⟨rfl, ACT.mk1 jB467 (by omega) (by omega) mB467 hO473, fun k hk => hfr k (Or.inr hk)⟩ dL_act_311
                    · exact absurd c455 (by decide)
                  · exact absurd c454 (by decide)
            · have n477 : ¬ 23 ≤ (lowN v 30) := fun z => c289 ((nI_leI (by omega) (by omega)).mpr z)
              refine lv_aload_n X.1 X.2.1 dL_act_183 rfl (lv_at hl 2 rfl) ?_
              refine lv_iload X.1 X.2.1 dL_act_184 (lv_at hl 0 rfl) ?_
              refine lv_bipush (v := nI 20) X.1 X.2.1 dL_act_186 (by decide) ?_
              refine lv_icmp_ge (tgt := 195) X.1 X.2.1 dL_act_188 (by decide) (fun c478 => ?_) (fun c478 => ?_)
              · have n479 := (nI_leI (by omega) (by omega)).mp c478
                refine lv_iload X.1 X.2.1 dL_act_195 (lv_at hl 0 rfl) ?_
                refine lv_bipush (v := nI 19) X.1 X.2.1 dL_act_197 (by decide) ?_
                refine lv_isub X.1 X.2.1 dL_act_199 ?_
                refine x_top (pk_sub (by omega)) ?_
                refine lv_iload_n X.1 X.2.1 dL_act_200 rfl (lv_at hl 4 rfl) ?_
                refine lv_aload_n X.1 X.2.1 dL_act_201 rfl (lv_at hl 5 rfl) ?_
                refine x_callSn X hK hw (As := [.ref (ad 0), .int (nI ((lowN v 30) - 19)), .int w, .ref (ad 114)]) (rest := []) (k_L_races hI hJ hc hk hO43 (by omega) ((lowN v 30) - 19) (by omega) w) (x_cwSn yL_races cL_races 11 (some .boolean) 4 X q1407 q1408 q0 q1409 hd_L_races ⟨(Nat.le_of_ble_eq_true rfl), (Nat.le_of_ble_eq_true rfl)⟩) rfl hl.1 rfl (Nat.le_of_ble_eq_true rfl) dL_act_202 ⟨(Nat.le_of_ble_eq_true rfl), (Nat.le_of_ble_eq_true rfl)⟩ (fun v480 F481 H locs hp hw => ?_)
                obtain ⟨hv, hA, hf⟩ := hp
                refine x_top hv ?_
                exact x_iret X hr hlk hK hw (v := nI 1) rfl ⟨rfl, hA, fun k hk => (hf k hk).trans (hfr k (Or.inr hk))⟩ dL_act_205
              · have n482 : ¬ 20 ≤ (lowN v 30) := fun z => c478 ((nI_leI (by omega) (by omega)).mpr z)
                refine lv_iconst (v := nI 0) X.1 X.2.1 dL_act_191 (by decide) ?_
                refine lv_goto (tgt := 200) X.1 X.2.1 dL_act_192 (by decide) ?_
                refine lv_iload_n X.1 X.2.1 dL_act_200 rfl (lv_at hl 4 rfl) ?_
                refine lv_aload_n X.1 X.2.1 dL_act_201 rfl (lv_at hl 5 rfl) ?_
                refine x_callSn X hK hw (As := [.ref (ad 0), .int (nI 0), .int w, .ref (ad 114)]) (rest := []) (k_L_races hI hJ hc hk hO43 (by omega) (0) (by omega) w) (x_cwSn yL_races cL_races 11 (some .boolean) 4 X q1407 q1408 q0 q1409 hd_L_races ⟨(Nat.le_of_ble_eq_true rfl), (Nat.le_of_ble_eq_true rfl)⟩) rfl hl.1 rfl (Nat.le_of_ble_eq_true rfl) dL_act_202 ⟨(Nat.le_of_ble_eq_true rfl), (Nat.le_of_ble_eq_true rfl)⟩ (fun v483 F484 H locs hp hw => ?_)
                obtain ⟨hv, hA, hf⟩ := hp
                refine x_top hv ?_
                exact x_iret X hr hlk hK hw (v := nI 1) rfl ⟨rfl, hA, fun k hk => (hf k hk).trans (hfr k (Or.inr hk))⟩ dL_act_205
          · have n485 : ¬ 18 ≤ (lowN v 30) := fun z => c287 ((nI_leI (by omega) (by omega)).mpr z)
            refine lv_aload_n X.1 X.2.1 dL_act_122 rfl (lv_at hl 2 rfl) ?_
            refine lv_iconst (v := nI 3) X.1 X.2.1 dL_act_123 (by decide) ?_
            refine x_callV X hK hw (k := 0) (As := [.int (nI 3)]) (rest := []) (w_count hI (by omega) hO43 (nI 3) (fun g t z n hE => a_cou3 hJ (by omega) hk hE z n)) (x_cwV yX7_count cX7_count 2 (some .int) 1 X q818 q819 q820 q1 q821 hd_X7_count ⟨(Nat.le_of_ble_eq_true rfl), (Nat.le_of_ble_eq_true rfl)⟩) (by omega) hO43.ma rfl rfl hl.1 rfl (Nat.le_of_ble_eq_true rfl) dL_act_124 ⟨(Nat.le_of_ble_eq_true rfl), (Nat.le_of_ble_eq_true rfl)⟩ (fun v486 F487 H locs hp hw => ?_)
            obtain ⟨e488, hO489, hf490⟩ := hp
            refine x_top e488 ?_
            replace hfr := hfr.tr hf490 (by omega) (by omega)
            refine lv_istore (lv' := [(6, .int (nI (A 0))), (5, .int (nI (lowN v 30))), (4, .int (nI (A 1))), (0, .ref (ad 0)), (1, .int v), (2, .int w), (3, .ref (ad 114))]) X.1 X.2.1 dL_act_127 hl (by decide) rfl (fun ls hl => ?_)
            refine lv_iconst (v := nI 1) X.1 X.2.1 dL_act_129 (by decide) ?_
            refine lv_iload_n X.1 X.2.1 dL_act_130 rfl (lv_at hl 5 rfl) ?_
            refine lv_iload_n X.1 X.2.1 dL_act_131 rfl (lv_at hl 5 rfl) ?_
            refine lv_bipush (v := nI 8) X.1 X.2.1 dL_act_132 (by decide) ?_
            refine lv_ishr X.1 X.2.1 dL_act_134 ?_
            refine lv_iconst (v := nI 2) X.1 X.2.1 dL_act_135 (by decide) ?_
            refine x_callSP X hK hw (As := [.int (w >>> ((nI 8) &&& 31)), .int (nI 2)]) (rest := [.int w, .int (nI 1)]) (k_L_low (w >>> ((nI 8) &&& 31)) 2 (by omega) (by omega)) (x_cwS yL_low cL_low 2 (some .int) 2 X q1394 q1395 q0 q1396 hd_L_low ⟨(Nat.le_of_ble_eq_true rfl), (Nat.le_of_ble_eq_true rfl)⟩) rfl hl.1 rfl (Nat.le_of_ble_eq_true rfl) dL_act_136 ⟨(Nat.le_of_ble_eq_true rfl), (Nat.le_of_ble_eq_true rfl)⟩ (fun H locs hw => ?_)
            have hw491 := lowN_lt (v := w >>> ((nI 8) &&& 31)) (n := 2) (by omega)
            refine lv_if_ne (tgt := 147) X.1 X.2.1 dL_act_139 (by decide) (fun c492 => ?_) (fun c492 => ?_)
            · have n493 : ¬ (lowN (w >>> ((nI 8) &&& 31)) 2) = 0 := fun z => c492 ((bz_eq (by omega)).mpr z)
              refine lv_sipush (v := nI 130) X.1 X.2.1 dL_act_147 (by decide) ?_
              refine x_callSP X hK hw (As := [.int w, .int (nI 130)]) (rest := [.int (nI 1)]) (k_L_low w 130 (by omega) (by omega)) (x_cwS yL_low cL_low 2 (some .int) 2 X q1394 q1395 q0 q1396 hd_L_low ⟨(Nat.le_of_ble_eq_true rfl), (Nat.le_of_ble_eq_true rfl)⟩) rfl hl.1 rfl (Nat.le_of_ble_eq_true rfl) dL_act_150 ⟨(Nat.le_of_ble_eq_true rfl), (Nat.le_of_ble_eq_true rfl)⟩ (fun H locs hw => ?_)
              have hw494 := lowN_lt (v := w) (n := 130) (by omega)
              refine lv_iadd X.1 X.2.1 dL_act_153 ?_
              refine x_top (nI_add _ _) ?_
              refine lv_istore (lv' := [(7, .int (nI (1 + (lowN w 130)))), (6, .int (nI (A 0))), (5, .int (nI (lowN v 30))), (4, .int (nI (A 1))), (0, .ref (ad 0)), (1, .int v), (2, .int w), (3, .ref (ad 114))]) X.1 X.2.1 dL_act_154 hl (by decide) rfl (fun ls hl => ?_)
              refine lv_aload_n X.1 X.2.1 dL_act_156 rfl (lv_at hl 4 rfl) ?_
              refine lv_iload X.1 X.2.1 dL_act_157 (lv_at hl 0 rfl) ?_
              refine x_callV X hK hw (k := 0) (As := [.int (nI (1 + (lowN w 130)))]) (rest := []) (w_pass hI (by omega) hO489 (nI (1 + (lowN w 130))) (fun g t hE => a_pass hk hE (by omega) (by omega) (by omega))) (x_cwV yX7_pass cX7_pass 2 (some .int) 1 X q344 q345 q346 q1 q347 hd_X7_pass ⟨(Nat.le_of_ble_eq_true rfl), (Nat.le_of_ble_eq_true rfl)⟩) (by omega) hO489.ma rfl rfl hl.1 rfl (Nat.le_of_ble_eq_true rfl) dL_act_159 ⟨(Nat.le_of_ble_eq_true rfl), (Nat.le_of_ble_eq_true rfl)⟩ (fun v495 F496 H locs hp hw => ?_)
              obtain ⟨e497, hO498, hf499⟩ := hp
              refine x_top e497 ?_
              replace hfr := hfr.tr hf499 (by omega) (by omega)
              obtain ⟨B500, hB500⟩ : ∃ y, y = nup A 0 (A 0 + (1 + (lowN w 130))) := ⟨_, rfl⟩
              rw [← hB500] at hO498
              have jB500 : HJ ca B500 := by rw [hB500]; exact j_pass hJ
              have eB500 : ∀ i, i ≠ 0 → B500 i = A i := fun i hi => by rw [hB500]; exact nup_ne hi
              have b0B500 : B500 0 = A 0 + (1 + (lowN w 130)) := by rw [hB500]; exact nup_at
              have mB500 : ∀ k, k < A 3 → pA A k 3 ≤ pA B500 k 3 := fun k hk => by rw [show pA B500 k 3 = pA A k 3 from eB500 _ (by omega)]; exact Nat.le_refl _
              refine lv_iload X.1 X.2.1 dL_act_162 (lv_at hl 1 rfl) ?_
              refine lv_iload X.1 X.2.1 dL_act_164 (lv_at hl 0 rfl) ?_
              refine lv_iadd X.1 X.2.1 dL_act_166 ?_
              refine x_top (nI_add _ _) ?_
              refine lv_icmp_ne (tgt := 174) X.1 X.2.1 dL_act_167 (by decide) (fun c501 => ?_) (fun c501 => ?_)
              · exact absurd ((nI_eq (by omega) (by omega)).mpr (by omega)) c501
              · have n502 := (nI_eq (by omega) (by omega)).mp c501
                refine lv_iconst (v := nI 1) X.1 X.2.1 dL_act_170 (by decide) ?_
                refine lv_goto (tgt := 175) X.1 X.2.1 dL_act_171 (by decide) ?_
                refine W.widen (k := 1) (n := 9) (by omega) (by omega) ?_
                exact x_iret X hr hlk hK hw (v := nI 1) rfl ⟨rfl, ACT.mk1 jB500 (by omega) (by omega) mB500 hO498, fun k hk => hfr k (Or.inr hk)⟩ dL_act_175
            · have n503 := (bz_eq (by omega)).mp c492
              refine lv_bipush (v := nI 20) X.1 X.2.1 dL_act_142 (by decide) ?_
              refine lv_goto (tgt := 150) X.1 X.2.1 dL_act_144 (by decide) ?_
              refine x_callSP X hK hw (As := [.int w, .int (nI 20)]) (rest := [.int (nI 1)]) (k_L_low w 20 (by omega) (by omega)) (x_cwS yL_low cL_low 2 (some .int) 2 X q1394 q1395 q0 q1396 hd_L_low ⟨(Nat.le_of_ble_eq_true rfl), (Nat.le_of_ble_eq_true rfl)⟩) rfl hl.1 rfl (Nat.le_of_ble_eq_true rfl) dL_act_150 ⟨(Nat.le_of_ble_eq_true rfl), (Nat.le_of_ble_eq_true rfl)⟩ (fun H locs hw => ?_)
              have hw504 := lowN_lt (v := w) (n := 20) (by omega)
              refine lv_iadd X.1 X.2.1 dL_act_153 ?_
              refine x_top (nI_add _ _) ?_
              refine lv_istore (lv' := [(7, .int (nI (1 + (lowN w 20)))), (6, .int (nI (A 0))), (5, .int (nI (lowN v 30))), (4, .int (nI (A 1))), (0, .ref (ad 0)), (1, .int v), (2, .int w), (3, .ref (ad 114))]) X.1 X.2.1 dL_act_154 hl (by decide) rfl (fun ls hl => ?_)
              refine lv_aload_n X.1 X.2.1 dL_act_156 rfl (lv_at hl 4 rfl) ?_
              refine lv_iload X.1 X.2.1 dL_act_157 (lv_at hl 0 rfl) ?_
              refine x_callV X hK hw (k := 0) (As := [.int (nI (1 + (lowN w 20)))]) (rest := []) (w_pass hI (by omega) hO489 (nI (1 + (lowN w 20))) (fun g t hE => a_pass hk hE (by omega) (by omega) (by omega))) (x_cwV yX7_pass cX7_pass 2 (some .int) 1 X q344 q345 q346 q1 q347 hd_X7_pass ⟨(Nat.le_of_ble_eq_true rfl), (Nat.le_of_ble_eq_true rfl)⟩) (by omega) hO489.ma rfl rfl hl.1 rfl (Nat.le_of_ble_eq_true rfl) dL_act_159 ⟨(Nat.le_of_ble_eq_true rfl), (Nat.le_of_ble_eq_true rfl)⟩ (fun v505 F506 H locs hp hw => ?_)
              obtain ⟨e507, hO508, hf509⟩ := hp
              refine x_top e507 ?_
              replace hfr := hfr.tr hf509 (by omega) (by omega)
              obtain ⟨B510, hB510⟩ : ∃ y, y = nup A 0 (A 0 + (1 + (lowN w 20))) := ⟨_, rfl⟩
              rw [← hB510] at hO508
              have jB510 : HJ ca B510 := by rw [hB510]; exact j_pass hJ
              have eB510 : ∀ i, i ≠ 0 → B510 i = A i := fun i hi => by rw [hB510]; exact nup_ne hi
              have b0B510 : B510 0 = A 0 + (1 + (lowN w 20)) := by rw [hB510]; exact nup_at
              have mB510 : ∀ k, k < A 3 → pA A k 3 ≤ pA B510 k 3 := fun k hk => by rw [show pA B510 k 3 = pA A k 3 from eB510 _ (by omega)]; exact Nat.le_refl _
              refine lv_iload X.1 X.2.1 dL_act_162 (lv_at hl 1 rfl) ?_
              refine lv_iload X.1 X.2.1 dL_act_164 (lv_at hl 0 rfl) ?_
              refine lv_iadd X.1 X.2.1 dL_act_166 ?_
              refine x_top (nI_add _ _) ?_
              refine lv_icmp_ne (tgt := 174) X.1 X.2.1 dL_act_167 (by decide) (fun c511 => ?_) (fun c511 => ?_)
              · exact absurd ((nI_eq (by omega) (by omega)).mpr (by omega)) c511
              · have n512 := (nI_eq (by omega) (by omega)).mp c511
                refine lv_iconst (v := nI 1) X.1 X.2.1 dL_act_170 (by decide) ?_
                refine lv_goto (tgt := 175) X.1 X.2.1 dL_act_171 (by decide) ?_
                refine W.widen (k := 1) (n := 9) (by omega) (by omega) ?_
                exact x_iret X hr hlk hK hw (v := nI 1) rfl ⟨rfl, ACT.mk1 jB510 (by omega) (by omega) mB510 hO508, fun k hk => hfr k (Or.inr hk)⟩ dL_act_175
        · exact absurd ((nI_leI (by omega) (by omega)).mpr (by omega)) c285
      · have n513 : ¬ 15 ≤ (lowN v 30) := fun z => c283 ((nI_leI (by omega) (by omega)).mpr z)
        refine lv_bipush (v := nI 50) X.1 X.2.1 dL_act_35 (by decide) ?_
        refine lv_iload_n X.1 X.2.1 dL_act_37 rfl (lv_at hl 4 rfl) ?_
        refine lv_bipush (v := nI 101) X.1 X.2.1 dL_act_38 (by decide) ?_
        refine x_callSP X hK hw (As := [.int w, .int (nI 101)]) (rest := [.int (nI 50)]) (k_L_low w 101 (by omega) (by omega)) (x_cwS yL_low cL_low 2 (some .int) 2 X q1394 q1395 q0 q1396 hd_L_low ⟨(Nat.le_of_ble_eq_true rfl), (Nat.le_of_ble_eq_true rfl)⟩) rfl hl.1 rfl (Nat.le_of_ble_eq_true rfl) dL_act_40 ⟨(Nat.le_of_ble_eq_true rfl), (Nat.le_of_ble_eq_true rfl)⟩ (fun H locs hw => ?_)
        have hw514 := lowN_lt (v := w) (n := 101) (by omega)
        refine lv_iadd X.1 X.2.1 dL_act_43 ?_
        refine x_top (nI_add _ _) ?_
        refine lv_istore (lv' := [(6, .int (nI (50 + (lowN w 101)))), (5, .int (nI (lowN v 30))), (4, .int (nI (A 1))), (0, .ref (ad 0)), (1, .int v), (2, .int w), (3, .ref (ad 114))]) X.1 X.2.1 dL_act_44 hl (by decide) rfl (fun ls hl => ?_)
        have hz2 : A 2 = 0 := by rcases Nat.eq_zero_or_pos (A 2) with q | q; (exact q); exact absurd (hJ.1.2.2.2.2.1 q) (by omega)
        by_cases he : A 1 = 9
        · refine lv_aload_n X.1 X.2.1 dL_act_46 rfl (lv_at hl 3 rfl) ?_
          refine lv_iload X.1 X.2.1 dL_act_47 (lv_at hl 0 rfl) ?_
          refine x_callV X hK hw (k := 0) (As := [.int (nI (50 + (lowN w 101)))]) (rest := []) (w_enter hI (by omega) hO43 (nI (50 + (lowN w 101))) (fun g t hE => a_ent_full (by omega) he (by omega) (by omega) hE)) (x_cwV yX7_enter cX7_enter 2 (some .int) 1 X q249 q250 q251 q1 q252 hd_X7_enter ⟨(Nat.le_of_ble_eq_true rfl), (Nat.le_of_ble_eq_true rfl)⟩) (by omega) hO43.ma rfl rfl hl.1 rfl (Nat.le_of_ble_eq_true rfl) dL_act_49 ⟨(Nat.le_of_ble_eq_true rfl), (Nat.le_of_ble_eq_true rfl)⟩ (fun v515 F516 H locs hp hw => ?_)
          obtain ⟨e517, hO518, hf519⟩ := hp
          refine x_top e517 ?_
          replace hfr := hfr.tr hf519 (by omega) (by omega)
          refine lv_iload X.1 X.2.1 dL_act_52 (lv_at hl 2 rfl) ?_
          refine lv_bipush (v := nI 9) X.1 X.2.1 dL_act_54 (by decide) ?_
          refine lv_icmp_ne (tgt := 64) X.1 X.2.1 dL_act_56 (by decide) (fun c520 => ?_) (fun c520 => ?_)
          · exact absurd ((nI_eq (by omega) (by omega)).mpr (by omega)) c520
          · have n521 := (nI_eq (by omega) (by omega)).mp c520
            refine lv_bipush (v := (-3)) X.1 X.2.1 dL_act_59 (by decide) ?_
            refine lv_goto (tgt := 66) X.1 X.2.1 dL_act_61 (by decide) ?_
            refine lv_icmp_ne (tgt := 92) X.1 X.2.1 dL_act_66 (by decide) (fun c522 => ?_) (fun c522 => ?_)
            · exact absurd (by decide) c522
            · refine lv_iload X.1 X.2.1 dL_act_69 (lv_at hl 2 rfl) ?_
              refine lv_bipush (v := nI 9) X.1 X.2.1 dL_act_71 (by decide) ?_
              refine lv_icmp_eq (tgt := 88) X.1 X.2.1 dL_act_73 (by decide) (fun c523 => ?_) (fun c523 => ?_)
              · have n524 := (nI_eq (by omega) (by omega)).mp c523
                refine lv_iconst (v := nI 1) X.1 X.2.1 dL_act_88 (by decide) ?_
                refine lv_goto (tgt := 93) X.1 X.2.1 dL_act_89 (by decide) ?_
                refine W.widen (k := 1) (n := 9) (by omega) (by omega) ?_
                exact x_iret X hr hlk hK hw (v := nI 1) rfl ⟨rfl, ACT.same hJ hO518, fun k hk => hfr k (Or.inr hk)⟩ dL_act_93
              · exact absurd ((nI_eq (by omega) (by omega)).mpr (by omega)) c523
        · refine lv_aload_n X.1 X.2.1 dL_act_46 rfl (lv_at hl 3 rfl) ?_
          refine lv_iload X.1 X.2.1 dL_act_47 (lv_at hl 0 rfl) ?_
          refine x_callV X hK hw (k := 0) (As := [.int (nI (50 + (lowN w 101)))]) (rest := []) (w_enter hI (by omega) hO43 (nI (50 + (lowN w 101))) (fun g t hE => a_ent_ok hJ (by omega) (by omega) (by omega) (by omega) hE)) (x_cwV yX7_enter cX7_enter 2 (some .int) 1 X q249 q250 q251 q1 q252 hd_X7_enter ⟨(Nat.le_of_ble_eq_true rfl), (Nat.le_of_ble_eq_true rfl)⟩) (by omega) hO43.ma rfl rfl hl.1 rfl (Nat.le_of_ble_eq_true rfl) dL_act_49 ⟨(Nat.le_of_ble_eq_true rfl), (Nat.le_of_ble_eq_true rfl)⟩ (fun v525 F526 H locs hp hw => ?_)
          obtain ⟨e527, hO528, hf529⟩ := hp
          refine x_top e527 ?_
          replace hfr := hfr.tr hf529 (by omega) (by omega)
          obtain ⟨B530, hB530⟩ : ∃ y, y = nup (nup A (7 + A 1) (50 + (lowN w 101))) 1 (A 1 + 1) := ⟨_, rfl⟩
          rw [← hB530] at hO528
          have jB530 : HJ ca B530 := by rw [hB530]; exact j_ent hJ (by omega) (by omega) (by omega) (by omega)
          have eB530 : ∀ i, i ≠ 1 → i ≠ 7 + A 1 → B530 i = A i := fun i h1 h2 => by rw [hB530]; exact (nup_ne h1).trans (nup_ne h2)
          have b0B530 : B530 0 = A 0 := eB530 0 (by omega) (by omega)
          have b1B530 : B530 1 = A 1 + 1 := by rw [hB530]; exact nup_at
          have vB530 : B530 (7 + A 1) = 50 + (lowN w 101) := by rw [hB530]; exact (nup_ne (by omega)).trans nup_at
          have mB530 : ∀ k, k < A 3 → pA A k 3 ≤ pA B530 k 3 := fun k hk => by rw [show pA B530 k 3 = pA A k 3 from eB530 _ (by omega) (by omega)]; exact Nat.le_refl _
          refine lv_iload X.1 X.2.1 dL_act_52 (lv_at hl 2 rfl) ?_
          refine lv_bipush (v := nI 9) X.1 X.2.1 dL_act_54 (by decide) ?_
          refine lv_icmp_ne (tgt := 64) X.1 X.2.1 dL_act_56 (by decide) (fun c531 => ?_) (fun c531 => ?_)
          · have n532 : ¬ (A 1) = 9 := fun z => c531 ((nI_eq (by omega) (by omega)).mpr z)
            refine lv_iload X.1 X.2.1 dL_act_64 (lv_at hl 2 rfl) ?_
            refine lv_icmp_ne (tgt := 92) X.1 X.2.1 dL_act_66 (by decide) (fun c533 => ?_) (fun c533 => ?_)
            · exact absurd ((nI_eq (by omega) (by omega)).mpr (by omega)) c533
            · have n534 := (nI_eq (by omega) (by omega)).mp c533
              refine lv_iload X.1 X.2.1 dL_act_69 (lv_at hl 2 rfl) ?_
              refine lv_bipush (v := nI 9) X.1 X.2.1 dL_act_71 (by decide) ?_
              refine lv_icmp_eq (tgt := 88) X.1 X.2.1 dL_act_73 (by decide) (fun c535 => ?_) (fun c535 => ?_)
              · exact absurd ((nI_eq (by omega) (by omega)).mp c535) (by omega)
              · have n536 : ¬ (A 1) = 9 := fun z => c535 ((nI_eq (by omega) (by omega)).mpr z)
                refine lv_aload_n X.1 X.2.1 dL_act_76 rfl (lv_at hl 3 rfl) ?_
                refine lv_iload X.1 X.2.1 dL_act_77 (lv_at hl 2 rfl) ?_
                refine lv_iconst (v := nI 0) X.1 X.2.1 dL_act_79 (by decide) ?_
                refine x_callV X hK hw (k := 0) (As := [.int (nI (A 1)), .int (nI 0)]) (rest := []) (w_boat hI (by omega) jB530 hO528 (nI (A 1)) (nI 0) (fun g t tm pt sm tl hE => a_boa0 jB530 (by omega) (by omega) hE (by omega) tm pt sm tl)) (x_cwV yX7_boat cX7_boat 3 (some .int) 2 X q755 q756 q757 q1 q758 hd_X7_boat ⟨(Nat.le_of_ble_eq_true rfl), (Nat.le_of_ble_eq_true rfl)⟩) (by omega) hO528.ma rfl rfl hl.1 rfl (Nat.le_of_ble_eq_true rfl) dL_act_80 ⟨(Nat.le_of_ble_eq_true rfl), (Nat.le_of_ble_eq_true rfl)⟩ (fun v537 F538 H locs hp hw => ?_)
                obtain ⟨e539, hO540, hf541⟩ := hp
                refine x_top e539 ?_
                replace hfr := hfr.tr hf541 (by omega) (by omega)
                refine lv_iload X.1 X.2.1 dL_act_83 (lv_at hl 0 rfl) ?_
                refine lv_icmp_ne (tgt := 92) X.1 X.2.1 dL_act_85 (by decide) (fun c542 => ?_) (fun c542 => ?_)
                · exact absurd ((nI_eq (by omega) (by omega)).mpr (by omega)) c542
                · have n543 := (nI_eq (by omega) (by omega)).mp c542
                  refine lv_iconst (v := nI 1) X.1 X.2.1 dL_act_88 (by decide) ?_
                  refine lv_goto (tgt := 93) X.1 X.2.1 dL_act_89 (by decide) ?_
                  refine W.widen (k := 1) (n := 9) (by omega) (by omega) ?_
                  exact x_iret X hr hlk hK hw (v := nI 1) rfl ⟨rfl, ACT.mk1 jB530 (by omega) (by omega) mB530 hO540, fun k hk => hfr k (Or.inr hk)⟩ dL_act_93
          · exact absurd ((nI_eq (by omega) (by omega)).mp c531) (by omega)
