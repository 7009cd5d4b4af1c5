/-! the law's method 'sails' -/
theorem hd_X7_retire : yX7_retire.cls = RX7 ∧ yX7_retire.cls ≠ "java/lang/invoke/MethodHandle" ∧ yX7_retire.cls ≠ "java/lang/invoke/VarHandle" ∧ (parseMethodDescriptor yX7_retire.desc).map (fun d => d.parameters.length) = some 1 := by decide +kernel
theorem hd_L_finishes : yL_finishes.cls = RL ∧ yL_finishes.cls ≠ "java/lang/invoke/MethodHandle" ∧ yL_finishes.cls ≠ "java/lang/invoke/VarHandle" ∧ (parseMethodDescriptor yL_finishes.desc).map (fun d => d.parameters.length) = some 2 := by decide +kernel
set_option maxHeartbeats 4000000 in
set_option maxRecDepth 100000 in
theorem k_L_sails {l : Launch} {D : va_G} {cI cB cS : ClassId} {ad : Nat → Nat} {N : Nat} {F : Nat → va_E} (hI : iN ad N) (hN : 114 ≤ N) {ca : Nat} {hs : Int32} {A A3 : Nat → Nat} (hJ : HJ ca A) (hc : ca ≤ 200) (hk : A 0 ≤ 999999) (hO : OB ad cI cB cS F hs A A3) (hkk : A 0 ≤ 100000) (h2 : 0 < A 2) {b : Nat} (hb : b < A 1) (v : Int32) : Ci l D cI cB cS ad N yL_sails cL_sails 10 (some .boolean) 8 200 [.ref (ad 0), .int (nI b), .int v] F (fun z F' => z = nI 1 ∧ ACT ad cI cB cS F' ca A ∧ Fr F F' 0 111) := by
  refine x_met (by decide +kernel) (Nat.le_of_ble_eq_true rfl) ?_
  intro p e s m below meth c X hr hlk hK hw ls hl
  replace hl : lv_has ls 10 [(0, .ref (ad 0)), (1, .int (nI b)), (2, .int v)] := hl
  have hfr : Fr F F 0 111 := Fr.rf
  have h9 := hJ.1.1
  have h6 := hJ.1.2.1
  have h10 := hJ.1.2.2.1
  have hl2 := (lat_le hJ).1
  obtain ⟨r, hrA⟩ : ∃ r, r + 1 = A 2 := ⟨A 2 - 1, by omega⟩
  obtain ⟨b1, b2, b3, b4, b5, b6, b7, b8, b9, b10⟩ := hJ.bj (r := r) (by omega) hb
  obtain ⟨l1, l2, l3, l4⟩ := al_b hJ (r := r) (by omega)
  have hst := (hJ.2.1 r (by omega)).2.2.2.2.1
  have hmd : eA A r b 1 % rA A r 0 < rA A r 0 := Nat.mod_lt _ l1
  by_cases hop : rA A r 3 = 0
  · have hl1 : latN A = 1 := (lat_op hJ).mpr ((opn_r hrA).mpr hop)
    refine lv_aload_n X.1 X.2.1 dL_sails_0 rfl (lv_at hl 0 rfl) ?_
    refine lv_iconst (v := nI 1) X.1 X.2.1 dL_sails_1 (by decide) ?_
    refine x_callV X hK hw (k := 0) (As := [.int (nI 1)]) (rest := []) (w_count hI (by omega) hO (nI 1) (fun g t z n hE => a_cou1 hJ (by omega) hk hE z n)) (x_cwV yX7_count cX7_count 2 (some .int) 1 X q818 q819 q820 q1 q821 hd_X7_count ⟨(Nat.le_of_ble_eq_true rfl), (Nat.le_of_ble_eq_true rfl)⟩) (by omega) hO.ma rfl rfl hl.1 rfl (Nat.le_of_ble_eq_true rfl) dL_sails_2 ⟨(Nat.le_of_ble_eq_true rfl), (Nat.le_of_ble_eq_true rfl)⟩ (fun v1 F2 H locs hp hw => ?_)
    obtain ⟨e3, hO4, hf5⟩ := hp
    refine x_top e3 ?_
    replace hfr := hfr.tr hf5 (by omega) (by omega)
    refine lv_iconst (v := nI 1) X.1 X.2.1 dL_sails_5 (by decide) ?_
    refine lv_isub X.1 X.2.1 dL_sails_6 ?_
    refine x_top (pk_sub (by omega)) ?_
    refine x_top (y := nI r) (congrArg nI (show A 2 - 1 = r by omega)) ?_
    refine lv_istore_n (lv' := [(3, .int (nI r)), (0, .ref (ad 0)), (1, .int (nI b)), (2, .int v)]) X.1 X.2.1 dL_sails_7 rfl hl (by decide) rfl (fun ls hl => ?_)
    refine lv_aload_n X.1 X.2.1 dL_sails_8 rfl (lv_at hl 1 rfl) ?_
    refine lv_iconst (v := nI 4) X.1 X.2.1 dL_sails_9 (by decide) ?_
    refine x_callV X hK hw (k := 0) (As := [.int (nI 4)]) (rest := []) (w_count hI (by omega) hO4 (nI 4) (fun g t z n hE => a_cou4 hJ (by omega) hk hE z n)) (x_cwV yX7_count cX7_count 2 (some .int) 1 X q818 q819 q820 q1 q821 hd_X7_count ⟨(Nat.le_of_ble_eq_true rfl), (Nat.le_of_ble_eq_true rfl)⟩) (by omega) hO4.ma rfl rfl hl.1 rfl (Nat.le_of_ble_eq_true rfl) dL_sails_10 ⟨(Nat.le_of_ble_eq_true rfl), (Nat.le_of_ble_eq_true rfl)⟩ (fun v6 F7 H locs hp hw => ?_)
    obtain ⟨e8, hO9, hf10⟩ := hp
    refine x_top e8 ?_
    replace hfr := hfr.tr hf10 (by omega) (by omega)
    refine lv_iconst (v := nI 1) X.1 X.2.1 dL_sails_13 (by decide) ?_
    refine lv_icmp_eq (tgt := 64) X.1 X.2.1 dL_sails_14 (by decide) (fun c11 => ?_) (fun c11 => ?_)
    · have n12 := (nI_eq (by omega) (by omega)).mp c11
      refine lv_aload_n X.1 X.2.1 dL_sails_64 rfl (lv_at hl 1 rfl) ?_
      refine lv_iload_n X.1 X.2.1 dL_sails_65 rfl (lv_at hl 0 rfl) ?_
      refine lv_iload_n X.1 X.2.1 dL_sails_66 rfl (lv_at hl 2 rfl) ?_
      refine lv_iconst (v := nI 0) X.1 X.2.1 dL_sails_67 (by decide) ?_
      refine x_callV X hK hw (k := 0) (As := [.int (nI r), .int (nI b), .int (nI 0)]) (rest := []) (w_result hI (by omega) hJ.1.1 hO9 (nI r) (nI b) (nI 0) (fun g t tm hE => a_res0 hJ (by omega) hk hE (by omega) (by omega) tm)) (x_cwV yX7_result cX7_result 4 (some .int) 3 X q695 q696 q697 q1 q698 hd_X7_result ⟨(Nat.le_of_ble_eq_true rfl), (Nat.le_of_ble_eq_true rfl)⟩) (by omega) hO9.ma rfl rfl hl.1 rfl (Nat.le_of_ble_eq_true rfl) dL_sails_68 ⟨(Nat.le_of_ble_eq_true rfl), (Nat.le_of_ble_eq_true rfl)⟩ (fun v13 F14 H locs hp hw => ?_)
      obtain ⟨e15, hO16, hf17⟩ := hp
      refine x_top e15 ?_
      replace hfr := hfr.tr hf17 (by omega) (by omega)
      refine lv_istore (lv' := [(4, .int (nI (eA A r b 0))), (3, .int (nI r)), (0, .ref (ad 0)), (1, .int (nI b)), (2, .int v)]) X.1 X.2.1 dL_sails_71 hl (by decide) rfl (fun ls hl => ?_)
      refine lv_aload_n X.1 X.2.1 dL_sails_73 rfl (lv_at hl 2 rfl) ?_
      refine lv_iload_n X.1 X.2.1 dL_sails_74 rfl (lv_at hl 1 rfl) ?_
      refine lv_iload_n X.1 X.2.1 dL_sails_75 rfl (lv_at hl 3 rfl) ?_
      refine lv_iconst (v := nI 1) X.1 X.2.1 dL_sails_76 (by decide) ?_
      refine x_callV X hK hw (k := 0) (As := [.int (nI r), .int (nI b), .int (nI 1)]) (rest := []) (w_result hI (by omega) hJ.1.1 hO16 (nI r) (nI b) (nI 1) (fun g t tm hE => a_res1 hJ (by omega) hk hE (by omega) (by omega) tm)) (x_cwV yX7_result cX7_result 4 (some .int) 3 X q695 q696 q697 q1 q698 hd_X7_result ⟨(Nat.le_of_ble_eq_true rfl), (Nat.le_of_ble_eq_true rfl)⟩) (by omega) hO16.ma rfl rfl hl.1 rfl (Nat.le_of_ble_eq_true rfl) dL_sails_77 ⟨(Nat.le_of_ble_eq_true rfl), (Nat.le_of_ble_eq_true rfl)⟩ (fun v18 F19 H locs hp hw => ?_)
      obtain ⟨e20, hO21, hf22⟩ := hp
      refine x_top e20 ?_
      replace hfr := hfr.tr hf22 (by omega) (by omega)
      refine lv_istore (lv' := [(5, .int (nI (eA A r b 1))), (4, .int (nI (eA A r b 0))), (3, .int (nI r)), (0, .ref (ad 0)), (1, .int (nI b)), (2, .int v)]) X.1 X.2.1 dL_sails_80 hl (by decide) rfl (fun ls hl => ?_)
      refine lv_aload_n X.1 X.2.1 dL_sails_82 rfl (lv_at hl 3 rfl) ?_
      refine lv_iload_n X.1 X.2.1 dL_sails_83 rfl (lv_at hl 2 rfl) ?_
      refine lv_iconst (v := nI 0) X.1 X.2.1 dL_sails_84 (by decide) ?_
      refine x_callV X hK hw (k := 0) (As := [.int (nI r), .int (nI 0)]) (rest := []) (w_race hI (by omega) hJ.1.1 hO21 (nI r) (nI 0) (fun g t tm hE => a_rac0 hJ (by omega) hk hE (by omega) tm)) (x_cwV yX7_race cX7_race 3 (some .int) 2 X q804 q805 q806 q1 q807 hd_X7_race ⟨(Nat.le_of_ble_eq_true rfl), (Nat.le_of_ble_eq_true rfl)⟩) (by omega) hO21.ma rfl rfl hl.1 rfl (Nat.le_of_ble_eq_true rfl) dL_sails_85 ⟨(Nat.le_of_ble_eq_true rfl), (Nat.le_of_ble_eq_true rfl)⟩ (fun v23 F24 H locs hp hw => ?_)
      obtain ⟨e25, hO26, hf27⟩ := hp
      refine x_top e25 ?_
      replace hfr := hfr.tr hf27 (by omega) (by omega)
      refine lv_aload_n X.1 X.2.1 dL_sails_88 rfl (lv_at hl 3 rfl) ?_
      refine lv_iload_n X.1 X.2.1 dL_sails_89 rfl (lv_at hl 2 rfl) ?_
      refine lv_iconst (v := nI 1) X.1 X.2.1 dL_sails_90 (by decide) ?_
      refine x_callV X hK hw (k := 0) (As := [.int (nI r), .int (nI 1)]) (rest := [.int (nI (rA A r 0))]) (w_race hI (by omega) hJ.1.1 hO26 (nI r) (nI 1) (fun g t tm hE => a_rac1 hJ (by omega) hk hE (by omega) tm)) (x_cwV yX7_race cX7_race 3 (some .int) 2 X q804 q805 q806 q1 q807 hd_X7_race ⟨(Nat.le_of_ble_eq_true rfl), (Nat.le_of_ble_eq_true rfl)⟩) (by omega) hO26.ma rfl rfl hl.1 rfl (Nat.le_of_ble_eq_true rfl) dL_sails_91 ⟨(Nat.le_of_ble_eq_true rfl), (Nat.le_of_ble_eq_true rfl)⟩ (fun v28 F29 H locs hp hw => ?_)
      obtain ⟨e30, hO31, hf32⟩ := hp
      refine x_top e30 ?_
      replace hfr := hfr.tr hf32 (by omega) (by omega)
      refine lv_imul X.1 X.2.1 dL_sails_94 ?_
      refine x_top (pk_mul _ _) ?_
      refine lv_istore (lv' := [(6, .int (nI ((rA A r 0) * (rA A r 1)))), (5, .int (nI (eA A r b 1))), (4, .int (nI (eA A r b 0))), (3, .int (nI r)), (0, .ref (ad 0)), (1, .int (nI b)), (2, .int v)]) X.1 X.2.1 dL_sails_95 hl (by decide) rfl (fun ls hl => ?_)
      refine lv_iload_n X.1 X.2.1 dL_sails_97 rfl (lv_at hl 6 rfl) ?_
      refine lv_bipush (v := nI 12) X.1 X.2.1 dL_sails_98 (by decide) ?_
      refine x_callSP X hK hw (As := [.int v, .int (nI 12)]) (rest := []) (k_L_low v 12 (by omega) (by omega)) (x_cwS yL_low cL_low 2 (some .int) 2 X q1394 q1395 q0 q1396 hd_L_low ⟨(Nat.le_of_ble_eq_true rfl), (Nat.le_of_ble_eq_true rfl)⟩) rfl hl.1 rfl (Nat.le_of_ble_eq_true rfl) dL_sails_100 ⟨(Nat.le_of_ble_eq_true rfl), (Nat.le_of_ble_eq_true rfl)⟩ (fun H locs hw => ?_)
      have hw33 := lowN_lt (v := v) (n := 12) (by omega)
      refine lv_if_ne (tgt := 159) X.1 X.2.1 dL_sails_103 (by decide) (fun c34 => ?_) (fun c34 => ?_)
      · have n35 : ¬ (lowN v 12) = 0 := fun z => c34 ((bz_eq (by omega)).mpr z)
        refine lv_iload_n X.1 X.2.1 dL_sails_159 rfl (lv_at hl 6 rfl) ?_
        refine lv_bipush (v := nI 12) X.1 X.2.1 dL_sails_160 (by decide) ?_
        refine x_callSP X hK hw (As := [.int v, .int (nI 12)]) (rest := []) (k_L_low v 12 (by omega) (by omega)) (x_cwS yL_low cL_low 2 (some .int) 2 X q1394 q1395 q0 q1396 hd_L_low ⟨(Nat.le_of_ble_eq_true rfl), (Nat.le_of_ble_eq_true rfl)⟩) rfl hl.1 rfl (Nat.le_of_ble_eq_true rfl) dL_sails_162 ⟨(Nat.le_of_ble_eq_true rfl), (Nat.le_of_ble_eq_true rfl)⟩ (fun H locs hw => ?_)
        have hw36 := lowN_lt (v := v) (n := 12) (by omega)
        refine lv_iconst (v := nI 1) X.1 X.2.1 dL_sails_165 (by decide) ?_
        refine lv_icmp_ne (tgt := 181) X.1 X.2.1 dL_sails_166 (by decide) (fun c37 => ?_) (fun c37 => ?_)
        · have n38 : ¬ (lowN v 12) = 1 := fun z => c37 ((nI_eq (by omega) (by omega)).mpr z)
          refine lv_iload X.1 X.2.1 dL_sails_181 (lv_at hl 2 rfl) ?_
          refine lv_iconst (v := nI 2) X.1 X.2.1 dL_sails_183 (by decide) ?_
          refine lv_icmp_ne (tgt := 194) X.1 X.2.1 dL_sails_184 (by decide) (fun c39 => ?_) (fun c39 => ?_)
          · have n40 : ¬ (eA A r b 0) = 2 := fun z => c39 ((nI_eq (by omega) (by omega)).mpr z)
            rcases (show 3 ≤ eA A r b 0 ∨ (eA A r b 0 ≤ 1 ∧ rA A r 2 ≤ A 0) ∨ (eA A r b 0 ≤ 1 ∧ A 0 < rA A r 2) by omega) with hq | hq | hq
            · refine lv_aload_n X.1 X.2.1 dL_sails_194 rfl (lv_at hl 4 rfl) ?_
              refine lv_iload_n X.1 X.2.1 dL_sails_195 rfl (lv_at hl 5 rfl) ?_
              refine x_callV X hK hw (k := 0) (As := [.int (nI b)]) (rest := []) (w_line hI (by omega) hO31 (nI b) (fun g t hE => a_line_no_r hrA hJ hb (fun _ => by omega) hE)) (x_cwV yX7_line cX7_line 2 (some .int) 1 X q353 q354 q355 q1 q356 hd_X7_line ⟨(Nat.le_of_ble_eq_true rfl), (Nat.le_of_ble_eq_true rfl)⟩) (by omega) hO31.ma rfl rfl hl.1 rfl (Nat.le_of_ble_eq_true rfl) dL_sails_196 ⟨(Nat.le_of_ble_eq_true rfl), (Nat.le_of_ble_eq_true rfl)⟩ (fun v41 F42 H locs hp hw => ?_)
              obtain ⟨e43, hO44, hf45⟩ := hp
              refine x_top e43 ?_
              replace hfr := hfr.tr hf45 (by omega) (by omega)
              refine lv_istore (lv' := [(7, .int ((-4))), (6, .int (nI ((rA A r 0) * (rA A r 1)))), (5, .int (nI (eA A r b 1))), (4, .int (nI (eA A r b 0))), (3, .int (nI r)), (0, .ref (ad 0)), (1, .int (nI b)), (2, .int v)]) X.1 X.2.1 dL_sails_199 hl (by decide) rfl (fun ls hl => ?_)
              refine lv_aload_n X.1 X.2.1 dL_sails_201 rfl (lv_at hl 5 rfl) ?_
              refine lv_iconst (v := nI 3) X.1 X.2.1 dL_sails_202 (by decide) ?_
              refine x_callV X hK hw (k := 0) (As := [.int (nI 3)]) (rest := []) (w_count hI (by omega) hO44 (nI 3) (fun g t z n hE => a_cou3 hJ (by omega) hk hE z n)) (x_cwV yX7_count cX7_count 2 (some .int) 1 X q818 q819 q820 q1 q821 hd_X7_count ⟨(Nat.le_of_ble_eq_true rfl), (Nat.le_of_ble_eq_true rfl)⟩) (by omega) hO44.ma rfl rfl hl.1 rfl (Nat.le_of_ble_eq_true rfl) dL_sails_203 ⟨(Nat.le_of_ble_eq_true rfl), (Nat.le_of_ble_eq_true rfl)⟩ (fun v46 F47 H locs hp hw => ?_)
              obtain ⟨e48, hO49, hf50⟩ := hp
              refine x_top e48 ?_
              replace hfr := hfr.tr hf50 (by omega) (by omega)
              refine lv_aload_n X.1 X.2.1 dL_sails_206 rfl (lv_at hl 5 rfl) ?_
              refine lv_iload_n X.1 X.2.1 dL_sails_207 rfl (lv_at hl 4 rfl) ?_
              refine lv_iconst (v := nI 2) X.1 X.2.1 dL_sails_208 (by decide) ?_
              refine x_callV X hK hw (k := 0) (As := [.int (nI r), .int (nI 2)]) (rest := [.int (nI (A 0))]) (w_race hI (by omega) hJ.1.1 hO49 (nI r) (nI 2) (fun g t tm hE => a_rac2 hJ (by omega) hk hE (by omega) tm)) (x_cwV yX7_race cX7_race 3 (some .int) 2 X q804 q805 q806 q1 q807 hd_X7_race ⟨(Nat.le_of_ble_eq_true rfl), (Nat.le_of_ble_eq_true rfl)⟩) (by omega) hO49.ma rfl rfl hl.1 rfl (Nat.le_of_ble_eq_true rfl) dL_sails_209 ⟨(Nat.le_of_ble_eq_true rfl), (Nat.le_of_ble_eq_true rfl)⟩ (fun v51 F52 H locs hp hw => ?_)
              obtain ⟨e53, hO54, hf55⟩ := hp
              refine x_top e53 ?_
              replace hfr := hfr.tr hf55 (by omega) (by omega)
              refine lv_icmp_lt (tgt := 219) X.1 X.2.1 dL_sails_212 (by decide) (fun c56 => ?_) (fun c56 => ?_)
              · have n57 := (br_lt (by omega) (by omega)).mp c56
                refine lv_iconst (v := nI 0) X.1 X.2.1 dL_sails_219 (by decide) ?_
                refine lv_istore (lv' := [(8, .int (nI 0)), (7, .int ((-4))), (6, .int (nI ((rA A r 0) * (rA A r 1)))), (5, .int (nI (eA A r b 1))), (4, .int (nI (eA A r b 0))), (3, .int (nI r)), (0, .ref (ad 0)), (1, .int (nI b)), (2, .int v)]) X.1 X.2.1 dL_sails_220 hl (by decide) rfl (fun ls hl => ?_)
                refine lv_iload X.1 X.2.1 dL_sails_222 (lv_at hl 1 rfl) ?_
                refine lv_iload X.1 X.2.1 dL_sails_224 (lv_at hl 4 rfl) ?_
                refine lv_iconst (v := nI 2) X.1 X.2.1 dL_sails_226 (by decide) ?_
                refine lv_icmp_le (tgt := 235) X.1 X.2.1 dL_sails_227 (by decide) (fun c58 => ?_) (fun c58 => ?_)
                · exact absurd ((nI_leI (by omega) (by omega)).mp c58) (by omega)
                · have n59 : ¬ (eA A r b 0) ≤ 2 := fun z => c58 ((nI_leI (by omega) (by omega)).mpr z)
                  refine lv_bipush (v := (-4)) X.1 X.2.1 dL_sails_230 (by decide) ?_
                  refine lv_goto (tgt := 258) X.1 X.2.1 dL_sails_232 (by decide) ?_
                  refine lv_icmp_ne (tgt := 287) X.1 X.2.1 dL_sails_258 (by decide) (fun c60 => ?_) (fun c60 => ?_)
                  · exact absurd (by decide) c60
                  · refine lv_aload_n X.1 X.2.1 dL_sails_261 rfl (lv_at hl 6 rfl) ?_
                    refine lv_iload_n X.1 X.2.1 dL_sails_262 rfl (lv_at hl 5 rfl) ?_
                    refine lv_iload_n X.1 X.2.1 dL_sails_263 rfl (lv_at hl 7 rfl) ?_
                    refine lv_iconst (v := nI 0) X.1 X.2.1 dL_sails_264 (by decide) ?_
                    refine x_callV X hK hw (k := 0) (As := [.int (nI r), .int (nI b), .int (nI 0)]) (rest := []) (w_result hI (by omega) hJ.1.1 hO54 (nI r) (nI b) (nI 0) (fun g t tm hE => a_res0 hJ (by omega) hk hE (by omega) (by omega) tm)) (x_cwV yX7_result cX7_result 4 (some .int) 3 X q695 q696 q697 q1 q698 hd_X7_result ⟨(Nat.le_of_ble_eq_true rfl), (Nat.le_of_ble_eq_true rfl)⟩) (by omega) hO54.ma rfl rfl hl.1 rfl (Nat.le_of_ble_eq_true rfl) dL_sails_265 ⟨(Nat.le_of_ble_eq_true rfl), (Nat.le_of_ble_eq_true rfl)⟩ (fun v61 F62 H locs hp hw => ?_)
                    obtain ⟨e63, hO64, hf65⟩ := hp
                    refine x_top e63 ?_
                    replace hfr := hfr.tr hf65 (by omega) (by omega)
                    refine lv_iload X.1 X.2.1 dL_sails_268 (lv_at hl 1 rfl) ?_
                    refine lv_if_ge (tgt := 278) X.1 X.2.1 dL_sails_270 (by decide) (fun c66 => ?_) (fun c66 => ?_)
                    · exact absurd c66 (by decide)
                    · refine lv_iload X.1 X.2.1 dL_sails_273 (lv_at hl 4 rfl) ?_
                      refine lv_goto (tgt := 280) X.1 X.2.1 dL_sails_275 (by decide) ?_
                      refine lv_icmp_ne (tgt := 287) X.1 X.2.1 dL_sails_280 (by decide) (fun c67 => ?_) (fun c67 => ?_)
                      · exact absurd ((nI_eq (by omega) (by omega)).mpr (by omega)) c67
                      · have n68 := (nI_eq (by omega) (by omega)).mp c67
                        refine lv_iconst (v := nI 1) X.1 X.2.1 dL_sails_283 (by decide) ?_
                        refine lv_goto (tgt := 288) X.1 X.2.1 dL_sails_284 (by decide) ?_
                        exact x_iret X hr hlk hK hw (v := nI 1) (by first | rfl | exact nr_b _ | decide) (⟨rfl, ACT.same hJ hO64, hfr⟩) dL_sails_288
              · have n69 : ¬ (A 0) < (rA A r 2) := fun z => c56 ((br_lt (by omega) (by omega)).mpr z)
                refine lv_iconst (v := nI 1) X.1 X.2.1 dL_sails_215 (by decide) ?_
                refine lv_goto (tgt := 220) X.1 X.2.1 dL_sails_216 (by decide) ?_
                refine lv_istore (lv' := [(8, .int (nI 1)), (7, .int ((-4))), (6, .int (nI ((rA A r 0) * (rA A r 1)))), (5, .int (nI (eA A r b 1))), (4, .int (nI (eA A r b 0))), (3, .int (nI r)), (0, .ref (ad 0)), (1, .int (nI b)), (2, .int v)]) X.1 X.2.1 dL_sails_220 hl (by decide) rfl (fun ls hl => ?_)
                refine lv_iload X.1 X.2.1 dL_sails_222 (lv_at hl 1 rfl) ?_
                refine lv_iload X.1 X.2.1 dL_sails_224 (lv_at hl 4 rfl) ?_
                refine lv_iconst (v := nI 2) X.1 X.2.1 dL_sails_226 (by decide) ?_
                refine lv_icmp_le (tgt := 235) X.1 X.2.1 dL_sails_227 (by decide) (fun c70 => ?_) (fun c70 => ?_)
                · exact absurd ((nI_leI (by omega) (by omega)).mp c70) (by omega)
                · have n71 : ¬ (eA A r b 0) ≤ 2 := fun z => c70 ((nI_leI (by omega) (by omega)).mpr z)
                  refine lv_bipush (v := (-4)) X.1 X.2.1 dL_sails_230 (by decide) ?_
                  refine lv_goto (tgt := 258) X.1 X.2.1 dL_sails_232 (by decide) ?_
                  refine lv_icmp_ne (tgt := 287) X.1 X.2.1 dL_sails_258 (by decide) (fun c72 => ?_) (fun c72 => ?_)
                  · exact absurd (by decide) c72
                  · refine lv_aload_n X.1 X.2.1 dL_sails_261 rfl (lv_at hl 6 rfl) ?_
                    refine lv_iload_n X.1 X.2.1 dL_sails_262 rfl (lv_at hl 5 rfl) ?_
                    refine lv_iload_n X.1 X.2.1 dL_sails_263 rfl (lv_at hl 7 rfl) ?_
                    refine lv_iconst (v := nI 0) X.1 X.2.1 dL_sails_264 (by decide) ?_
                    refine x_callV X hK hw (k := 0) (As := [.int (nI r), .int (nI b), .int (nI 0)]) (rest := []) (w_result hI (by omega) hJ.1.1 hO54 (nI r) (nI b) (nI 0) (fun g t tm hE => a_res0 hJ (by omega) hk hE (by omega) (by omega) tm)) (x_cwV yX7_result cX7_result 4 (some .int) 3 X q695 q696 q697 q1 q698 hd_X7_result ⟨(Nat.le_of_ble_eq_true rfl), (Nat.le_of_ble_eq_true rfl)⟩) (by omega) hO54.ma rfl rfl hl.1 rfl (Nat.le_of_ble_eq_true rfl) dL_sails_265 ⟨(Nat.le_of_ble_eq_true rfl), (Nat.le_of_ble_eq_true rfl)⟩ (fun v73 F74 H locs hp hw => ?_)
                    obtain ⟨e75, hO76, hf77⟩ := hp
                    refine x_top e75 ?_
                    replace hfr := hfr.tr hf77 (by omega) (by omega)
                    refine lv_iload X.1 X.2.1 dL_sails_268 (lv_at hl 1 rfl) ?_
                    refine lv_if_ge (tgt := 278) X.1 X.2.1 dL_sails_270 (by decide) (fun c78 => ?_) (fun c78 => ?_)
                    · exact absurd c78 (by decide)
                    · refine lv_iload X.1 X.2.1 dL_sails_273 (lv_at hl 4 rfl) ?_
                      refine lv_goto (tgt := 280) X.1 X.2.1 dL_sails_275 (by decide) ?_
                      refine lv_icmp_ne (tgt := 287) X.1 X.2.1 dL_sails_280 (by decide) (fun c79 => ?_) (fun c79 => ?_)
                      · exact absurd ((nI_eq (by omega) (by omega)).mpr (by omega)) c79
                      · have n80 := (nI_eq (by omega) (by omega)).mp c79
                        refine lv_iconst (v := nI 1) X.1 X.2.1 dL_sails_283 (by decide) ?_
                        refine lv_goto (tgt := 288) X.1 X.2.1 dL_sails_284 (by decide) ?_
                        exact x_iret X hr hlk hK hw (v := nI 1) (by first | rfl | exact nr_b _ | decide) (⟨rfl, ACT.same hJ hO76, hfr⟩) dL_sails_288
            · refine lv_aload_n X.1 X.2.1 dL_sails_194 rfl (lv_at hl 4 rfl) ?_
              refine lv_iload_n X.1 X.2.1 dL_sails_195 rfl (lv_at hl 5 rfl) ?_
              refine x_callV X hK hw (k := 0) (As := [.int (nI b)]) (rest := []) (w_line hI (by omega) hO31 (nI b) (fun g t hE => a_line_go_r hrA hJ (by omega) hk ((opn_r hrA).mpr hop) hb (by omega) (by omega) hE)) (x_cwV yX7_line cX7_line 2 (some .int) 1 X q353 q354 q355 q1 q356 hd_X7_line ⟨(Nat.le_of_ble_eq_true rfl), (Nat.le_of_ble_eq_true rfl)⟩) (by omega) hO31.ma rfl rfl hl.1 rfl (Nat.le_of_ble_eq_true rfl) dL_sails_196 ⟨(Nat.le_of_ble_eq_true rfl), (Nat.le_of_ble_eq_true rfl)⟩ (fun v81 F82 H locs hp hw => ?_)
              obtain ⟨e83, hO84, hf85⟩ := hp
              refine x_top e83 ?_
              replace hfr := hfr.tr hf85 (by omega) (by omega)
              obtain ⟨B86, hB86⟩ : ∃ y, y = ep A r b 0 2 := ⟨_, rfl⟩
              rw [← hB86] at hO84
              have jB86 : HJ ca B86 := by rw [hB86]; exact j_kind_r hrA hJ (by omega) hb (by omega) (by omega) (by omega) (fun _ => by omega)
              have eB86 : ∀ i, i ≠ 80 + 6 * (9 * r + b) + 0 → B86 i = A i := fun i h0 => by rw [hB86]; exact nup_ne h0
              have vB86 : eA B86 r b 0 = 2 := by rw [hB86]; exact ep_at
              have b0B86 : B86 0 = A 0 := eB86 0 (by omega)
              have b1B86 : B86 1 = A 1 := eB86 1 (by omega)
              have b2B86 : B86 2 = A 2 := eB86 2 (by omega)
              have b3B86 : B86 3 = A 3 := eB86 3 (by omega)
              have x1B86 : eA B86 r b 1 = eA A r b 1 := eB86 _ (by omega)
              have x2B86 : eA B86 r b 2 = eA A r b 2 := eB86 _ (by omega)
              have x3B86 : eA B86 r b 3 = eA A r b 3 := eB86 _ (by omega)
              have x4B86 : eA B86 r b 4 = eA A r b 4 := eB86 _ (by omega)
              have r0B86 : rA B86 r 0 = rA A r 0 := eB86 _ (by omega)
              have r1B86 : rA B86 r 1 = rA A r 1 := eB86 _ (by omega)
              have r2B86 : rA B86 r 2 = rA A r 2 := eB86 _ (by omega)
              have mB86 : ∀ k, k < A 3 → pA A k 3 ≤ pA B86 k 3 := fun k hk => by rw [show pA B86 k 3 = pA A k 3 from eB86 _ (by omega)]; exact Nat.le_refl _
              have qB86 : eA A r b 1 % rA B86 r 0 = eA A r b 1 % rA A r 0 := by rw [r0B86]
              refine lv_istore (lv' := [(7, .int (nI 2)), (6, .int (nI ((rA A r 0) * (rA A r 1)))), (5, .int (nI (eA A r b 1))), (4, .int (nI (eA A r b 0))), (3, .int (nI r)), (0, .ref (ad 0)), (1, .int (nI b)), (2, .int v)]) X.1 X.2.1 dL_sails_199 hl (by decide) rfl (fun ls hl => ?_)
              refine lv_aload_n X.1 X.2.1 dL_sails_201 rfl (lv_at hl 5 rfl) ?_
              refine lv_iconst (v := nI 3) X.1 X.2.1 dL_sails_202 (by decide) ?_
              refine x_callV X hK hw (k := 0) (As := [.int (nI 3)]) (rest := []) (w_count hI (by omega) hO84 (nI 3) (fun g t z n hE => a_cou3 jB86 (by omega) (by omega) hE z n)) (x_cwV yX7_count cX7_count 2 (some .int) 1 X q818 q819 q820 q1 q821 hd_X7_count ⟨(Nat.le_of_ble_eq_true rfl), (Nat.le_of_ble_eq_true rfl)⟩) (by omega) hO84.ma rfl rfl hl.1 rfl (Nat.le_of_ble_eq_true rfl) dL_sails_203 ⟨(Nat.le_of_ble_eq_true rfl), (Nat.le_of_ble_eq_true rfl)⟩ (fun v87 F88 H locs hp hw => ?_)
              obtain ⟨e89, hO90, hf91⟩ := hp
              refine x_top e89 ?_
              replace hfr := hfr.tr hf91 (by omega) (by omega)
              refine lv_aload_n X.1 X.2.1 dL_sails_206 rfl (lv_at hl 5 rfl) ?_
              refine lv_iload_n X.1 X.2.1 dL_sails_207 rfl (lv_at hl 4 rfl) ?_
              refine lv_iconst (v := nI 2) X.1 X.2.1 dL_sails_208 (by decide) ?_
              refine x_callV X hK hw (k := 0) (As := [.int (nI r), .int (nI 2)]) (rest := [.int (nI (B86 0))]) (w_race hI (by omega) jB86.1.1 hO90 (nI r) (nI 2) (fun g t tm hE => a_rac2 jB86 (by omega) (by omega) hE (by omega) tm)) (x_cwV yX7_race cX7_race 3 (some .int) 2 X q804 q805 q806 q1 q807 hd_X7_race ⟨(Nat.le_of_ble_eq_true rfl), (Nat.le_of_ble_eq_true rfl)⟩) (by omega) hO90.ma rfl rfl hl.1 rfl (Nat.le_of_ble_eq_true rfl) dL_sails_209 ⟨(Nat.le_of_ble_eq_true rfl), (Nat.le_of_ble_eq_true rfl)⟩ (fun v92 F93 H locs hp hw => ?_)
              obtain ⟨e94, hO95, hf96⟩ := hp
              refine x_top e94 ?_
              replace hfr := hfr.tr hf96 (by omega) (by omega)
              refine lv_icmp_lt (tgt := 219) X.1 X.2.1 dL_sails_212 (by decide) (fun c97 => ?_) (fun c97 => ?_)
              · exact absurd ((br_lt (by omega) (by omega)).mp c97) (by omega)
              · have n98 : ¬ (B86 0) < (rA B86 r 2) := fun z => c97 ((br_lt (by omega) (by omega)).mpr z)
                refine lv_iconst (v := nI 1) X.1 X.2.1 dL_sails_215 (by decide) ?_
                refine lv_goto (tgt := 220) X.1 X.2.1 dL_sails_216 (by decide) ?_
                refine lv_istore (lv' := [(8, .int (nI 1)), (7, .int (nI 2)), (6, .int (nI ((rA A r 0) * (rA A r 1)))), (5, .int (nI (eA A r b 1))), (4, .int (nI (eA A r b 0))), (3, .int (nI r)), (0, .ref (ad 0)), (1, .int (nI b)), (2, .int v)]) X.1 X.2.1 dL_sails_220 hl (by decide) rfl (fun ls hl => ?_)
                refine lv_iload X.1 X.2.1 dL_sails_222 (lv_at hl 1 rfl) ?_
                refine lv_iload X.1 X.2.1 dL_sails_224 (lv_at hl 4 rfl) ?_
                refine lv_iconst (v := nI 2) X.1 X.2.1 dL_sails_226 (by decide) ?_
                refine lv_icmp_le (tgt := 235) X.1 X.2.1 dL_sails_227 (by decide) (fun c99 => ?_) (fun c99 => ?_)
                · have n100 := (nI_leI (by omega) (by omega)).mp c99
                  refine lv_iload X.1 X.2.1 dL_sails_235 (lv_at hl 4 rfl) ?_
                  refine lv_iconst (v := nI 2) X.1 X.2.1 dL_sails_237 (by decide) ?_
                  refine lv_icmp_ne (tgt := 245) X.1 X.2.1 dL_sails_238 (by decide) (fun c101 => ?_) (fun c101 => ?_)
                  · have n102 : ¬ (eA A r b 0) = 2 := fun z => c101 ((nI_eq (by omega) (by omega)).mpr z)
                    refine lv_iload X.1 X.2.1 dL_sails_245 (lv_at hl 0 rfl) ?_
                    refine lv_if_eq (tgt := 254) X.1 X.2.1 dL_sails_247 (by decide) (fun c103 => ?_) (fun c103 => ?_)
                    · exact absurd c103 (by decide)
                    · refine lv_iconst (v := nI 2) X.1 X.2.1 dL_sails_250 (by decide) ?_
                      refine lv_goto (tgt := 258) X.1 X.2.1 dL_sails_251 (by decide) ?_
                      refine lv_icmp_ne (tgt := 287) X.1 X.2.1 dL_sails_258 (by decide) (fun c104 => ?_) (fun c104 => ?_)
                      · exact absurd (by decide) c104
                      · refine lv_aload_n X.1 X.2.1 dL_sails_261 rfl (lv_at hl 6 rfl) ?_
                        refine lv_iload_n X.1 X.2.1 dL_sails_262 rfl (lv_at hl 5 rfl) ?_
                        refine lv_iload_n X.1 X.2.1 dL_sails_263 rfl (lv_at hl 7 rfl) ?_
                        refine lv_iconst (v := nI 0) X.1 X.2.1 dL_sails_264 (by decide) ?_
                        refine x_callV X hK hw (k := 0) (As := [.int (nI r), .int (nI b), .int (nI 0)]) (rest := []) (w_result hI (by omega) jB86.1.1 hO95 (nI r) (nI b) (nI 0) (fun g t tm hE => a_res0 jB86 (by omega) (by omega) hE (by omega) (by omega) tm)) (x_cwV yX7_result cX7_result 4 (some .int) 3 X q695 q696 q697 q1 q698 hd_X7_result ⟨(Nat.le_of_ble_eq_true rfl), (Nat.le_of_ble_eq_true rfl)⟩) (by omega) hO95.ma rfl rfl hl.1 rfl (Nat.le_of_ble_eq_true rfl) dL_sails_265 ⟨(Nat.le_of_ble_eq_true rfl), (Nat.le_of_ble_eq_true rfl)⟩ (fun v105 F106 H locs hp hw => ?_)
                        obtain ⟨e107, hO108, hf109⟩ := hp
                        refine x_top e107 ?_
                        replace hfr := hfr.tr hf109 (by omega) (by omega)
                        refine lv_iload X.1 X.2.1 dL_sails_268 (lv_at hl 1 rfl) ?_
                        refine lv_if_ge (tgt := 278) X.1 X.2.1 dL_sails_270 (by decide) (fun c110 => ?_) (fun c110 => ?_)
                        · refine lv_iload X.1 X.2.1 dL_sails_278 (lv_at hl 1 rfl) ?_
                          refine lv_icmp_ne (tgt := 287) X.1 X.2.1 dL_sails_280 (by decide) (fun c111 => ?_) (fun c111 => ?_)
                          · exact absurd ((nI_eq (by omega) (by omega)).mpr (by omega)) c111
                          · have n112 := (nI_eq (by omega) (by omega)).mp c111
                            refine lv_iconst (v := nI 1) X.1 X.2.1 dL_sails_283 (by decide) ?_
                            refine lv_goto (tgt := 288) X.1 X.2.1 dL_sails_284 (by decide) ?_
                            exact x_iret X hr hlk hK hw (v := nI 1) (by first | rfl | exact nr_b _ | decide) (⟨rfl, ACT.mk1 jB86 (by omega) (by omega) mB86 hO108, hfr⟩) dL_sails_288
                        · exact absurd (by decide) c110
                  · exact absurd ((nI_eq (by omega) (by omega)).mp c101) (by omega)
                · exact absurd ((nI_leI (by omega) (by omega)).mpr (by omega)) c99
            · refine lv_aload_n X.1 X.2.1 dL_sails_194 rfl (lv_at hl 4 rfl) ?_
              refine lv_iload_n X.1 X.2.1 dL_sails_195 rfl (lv_at hl 5 rfl) ?_
              refine x_callV X hK hw (k := 0) (As := [.int (nI b)]) (rest := []) (w_line hI (by omega) hO31 (nI b) (fun g t hE => a_line_er_r hrA hJ (by omega) hk ((opn_r hrA).mpr hop) hb (by omega) (by omega) hE)) (x_cwV yX7_line cX7_line 2 (some .int) 1 X q353 q354 q355 q1 q356 hd_X7_line ⟨(Nat.le_of_ble_eq_true rfl), (Nat.le_of_ble_eq_true rfl)⟩) (by omega) hO31.ma rfl rfl hl.1 rfl (Nat.le_of_ble_eq_true rfl) dL_sails_196 ⟨(Nat.le_of_ble_eq_true rfl), (Nat.le_of_ble_eq_true rfl)⟩ (fun v113 F114 H locs hp hw => ?_)
              obtain ⟨e115, hO116, hf117⟩ := hp
              refine x_top e115 ?_
              replace hfr := hfr.tr hf117 (by omega) (by omega)
              obtain ⟨B118, hB118⟩ : ∃ y, y = ep A r b 0 (1 - eA A r b 0) := ⟨_, rfl⟩
              rw [← hB118] at hO116
              have jB118 : HJ ca B118 := by rw [hB118]; exact j_kind_r hrA hJ (by omega) hb (by omega) (by omega) (by omega) (fun q => absurd q (by omega))
              have eB118 : ∀ i, i ≠ 80 + 6 * (9 * r + b) + 0 → B118 i = A i := fun i h0 => by rw [hB118]; exact nup_ne h0
              have vB118 : eA B118 r b 0 = 1 - eA A r b 0 := by rw [hB118]; exact ep_at
              have b0B118 : B118 0 = A 0 := eB118 0 (by omega)
              have b1B118 : B118 1 = A 1 := eB118 1 (by omega)
              have b2B118 : B118 2 = A 2 := eB118 2 (by omega)
              have b3B118 : B118 3 = A 3 := eB118 3 (by omega)
              have x1B118 : eA B118 r b 1 = eA A r b 1 := eB118 _ (by omega)
              have x2B118 : eA B118 r b 2 = eA A r b 2 := eB118 _ (by omega)
              have x3B118 : eA B118 r b 3 = eA A r b 3 := eB118 _ (by omega)
              have x4B118 : eA B118 r b 4 = eA A r b 4 := eB118 _ (by omega)
              have r0B118 : rA B118 r 0 = rA A r 0 := eB118 _ (by omega)
              have r1B118 : rA B118 r 1 = rA A r 1 := eB118 _ (by omega)
              have r2B118 : rA B118 r 2 = rA A r 2 := eB118 _ (by omega)
              have mB118 : ∀ k, k < A 3 → pA A k 3 ≤ pA B118 k 3 := fun k hk => by rw [show pA B118 k 3 = pA A k 3 from eB118 _ (by omega)]; exact Nat.le_refl _
              have qB118 : eA A r b 1 % rA B118 r 0 = eA A r b 1 % rA A r 0 := by rw [r0B118]
              refine lv_istore (lv' := [(7, .int (nI (1 - eA A r b 0))), (6, .int (nI ((rA A r 0) * (rA A r 1)))), (5, .int (nI (eA A r b 1))), (4, .int (nI (eA A r b 0))), (3, .int (nI r)), (0, .ref (ad 0)), (1, .int (nI b)), (2, .int v)]) X.1 X.2.1 dL_sails_199 hl (by decide) rfl (fun ls hl => ?_)
              refine lv_aload_n X.1 X.2.1 dL_sails_201 rfl (lv_at hl 5 rfl) ?_
              refine lv_iconst (v := nI 3) X.1 X.2.1 dL_sails_202 (by decide) ?_
              refine x_callV X hK hw (k := 0) (As := [.int (nI 3)]) (rest := []) (w_count hI (by omega) hO116 (nI 3) (fun g t z n hE => a_cou3 jB118 (by omega) (by omega) hE z n)) (x_cwV yX7_count cX7_count 2 (some .int) 1 X q818 q819 q820 q1 q821 hd_X7_count ⟨(Nat.le_of_ble_eq_true rfl), (Nat.le_of_ble_eq_true rfl)⟩) (by omega) hO116.ma rfl rfl hl.1 rfl (Nat.le_of_ble_eq_true rfl) dL_sails_203 ⟨(Nat.le_of_ble_eq_true rfl), (Nat.le_of_ble_eq_true rfl)⟩ (fun v119 F120 H locs hp hw => ?_)
              obtain ⟨e121, hO122, hf123⟩ := hp
              refine x_top e121 ?_
              replace hfr := hfr.tr hf123 (by omega) (by omega)
              refine lv_aload_n X.1 X.2.1 dL_sails_206 rfl (lv_at hl 5 rfl) ?_
              refine lv_iload_n X.1 X.2.1 dL_sails_207 rfl (lv_at hl 4 rfl) ?_
              refine lv_iconst (v := nI 2) X.1 X.2.1 dL_sails_208 (by decide) ?_
              refine x_callV X hK hw (k := 0) (As := [.int (nI r), .int (nI 2)]) (rest := [.int (nI (B118 0))]) (w_race hI (by omega) jB118.1.1 hO122 (nI r) (nI 2) (fun g t tm hE => a_rac2 jB118 (by omega) (by omega) hE (by omega) tm)) (x_cwV yX7_race cX7_race 3 (some .int) 2 X q804 q805 q806 q1 q807 hd_X7_race ⟨(Nat.le_of_ble_eq_true rfl), (Nat.le_of_ble_eq_true rfl)⟩) (by omega) hO122.ma rfl rfl hl.1 rfl (Nat.le_of_ble_eq_true rfl) dL_sails_209 ⟨(Nat.le_of_ble_eq_true rfl), (Nat.le_of_ble_eq_true rfl)⟩ (fun v124 F125 H locs hp hw => ?_)
              obtain ⟨e126, hO127, hf128⟩ := hp
              refine x_top e126 ?_
              replace hfr := hfr.tr hf128 (by omega) (by omega)
              refine lv_icmp_lt (tgt := 219) X.1 X.2.1 dL_sails_212 (by decide) (fun c129 => ?_) (fun c129 => ?_)
              · have n130 := (br_lt (by omega) (by omega)).mp c129
                refine lv_iconst (v := nI 0) X.1 X.2.1 dL_sails_219 (by decide) ?_
                refine lv_istore (lv' := [(8, .int (nI 0)), (7, .int (nI (1 - eA A r b 0))), (6, .int (nI ((rA A r 0) * (rA A r 1)))), (5, .int (nI (eA A r b 1))), (4, .int (nI (eA A r b 0))), (3, .int (nI r)), (0, .ref (ad 0)), (1, .int (nI b)), (2, .int v)]) X.1 X.2.1 dL_sails_220 hl (by decide) rfl (fun ls hl => ?_)
                refine lv_iload X.1 X.2.1 dL_sails_222 (lv_at hl 1 rfl) ?_
                refine lv_iload X.1 X.2.1 dL_sails_224 (lv_at hl 4 rfl) ?_
                refine lv_iconst (v := nI 2) X.1 X.2.1 dL_sails_226 (by decide) ?_
                refine lv_icmp_le (tgt := 235) X.1 X.2.1 dL_sails_227 (by decide) (fun c131 => ?_) (fun c131 => ?_)
                · have n132 := (nI_leI (by omega) (by omega)).mp c131
                  refine lv_iload X.1 X.2.1 dL_sails_235 (lv_at hl 4 rfl) ?_
                  refine lv_iconst (v := nI 2) X.1 X.2.1 dL_sails_237 (by decide) ?_
                  refine lv_icmp_ne (tgt := 245) X.1 X.2.1 dL_sails_238 (by decide) (fun c133 => ?_) (fun c133 => ?_)
                  · have n134 : ¬ (eA A r b 0) = 2 := fun z => c133 ((nI_eq (by omega) (by omega)).mpr z)
                    refine lv_iload X.1 X.2.1 dL_sails_245 (lv_at hl 0 rfl) ?_
                    refine lv_if_eq (tgt := 254) X.1 X.2.1 dL_sails_247 (by decide) (fun c135 => ?_) (fun c135 => ?_)
                    · refine lv_iconst (v := nI 1) X.1 X.2.1 dL_sails_254 (by decide) ?_
                      refine lv_iload X.1 X.2.1 dL_sails_255 (lv_at hl 4 rfl) ?_
                      refine lv_isub X.1 X.2.1 dL_sails_257 ?_
                      refine x_top (pk_sub (by omega)) ?_
                      refine lv_icmp_ne (tgt := 287) X.1 X.2.1 dL_sails_258 (by decide) (fun c136 => ?_) (fun c136 => ?_)
                      · exact absurd ((nI_eq (by omega) (by omega)).mpr (by omega)) c136
                      · have n137 := (nI_eq (by omega) (by omega)).mp c136
                        refine lv_aload_n X.1 X.2.1 dL_sails_261 rfl (lv_at hl 6 rfl) ?_
                        refine lv_iload_n X.1 X.2.1 dL_sails_262 rfl (lv_at hl 5 rfl) ?_
                        refine lv_iload_n X.1 X.2.1 dL_sails_263 rfl (lv_at hl 7 rfl) ?_
                        refine lv_iconst (v := nI 0) X.1 X.2.1 dL_sails_264 (by decide) ?_
                        refine x_callV X hK hw (k := 0) (As := [.int (nI r), .int (nI b), .int (nI 0)]) (rest := []) (w_result hI (by omega) jB118.1.1 hO127 (nI r) (nI b) (nI 0) (fun g t tm hE => a_res0 jB118 (by omega) (by omega) hE (by omega) (by omega) tm)) (x_cwV yX7_result cX7_result 4 (some .int) 3 X q695 q696 q697 q1 q698 hd_X7_result ⟨(Nat.le_of_ble_eq_true rfl), (Nat.le_of_ble_eq_true rfl)⟩) (by omega) hO127.ma rfl rfl hl.1 rfl (Nat.le_of_ble_eq_true rfl) dL_sails_265 ⟨(Nat.le_of_ble_eq_true rfl), (Nat.le_of_ble_eq_true rfl)⟩ (fun v138 F139 H locs hp hw => ?_)
                        obtain ⟨e140, hO141, hf142⟩ := hp
                        refine x_top e140 ?_
                        replace hfr := hfr.tr hf142 (by omega) (by omega)
                        refine lv_iload X.1 X.2.1 dL_sails_268 (lv_at hl 1 rfl) ?_
                        refine lv_if_ge (tgt := 278) X.1 X.2.1 dL_sails_270 (by decide) (fun c143 => ?_) (fun c143 => ?_)
                        · have n144 := (bz_ge (by omega)).mp c143
                          refine lv_iload X.1 X.2.1 dL_sails_278 (lv_at hl 1 rfl) ?_
                          refine lv_icmp_ne (tgt := 287) X.1 X.2.1 dL_sails_280 (by decide) (fun c145 => ?_) (fun c145 => ?_)
                          · exact absurd ((nI_eq (by omega) (by omega)).mpr (by omega)) c145
                          · have n146 := (nI_eq (by omega) (by omega)).mp c145
                            refine lv_iconst (v := nI 1) X.1 X.2.1 dL_sails_283 (by decide) ?_
                            refine lv_goto (tgt := 288) X.1 X.2.1 dL_sails_284 (by decide) ?_
                            exact x_iret X hr hlk hK hw (v := nI 1) (by first | rfl | exact nr_b _ | decide) (⟨rfl, ACT.mk1 jB118 (by omega) (by omega) mB118 hO141, hfr⟩) dL_sails_288
                        · exact absurd ((bz_ge (by omega)).mpr (by omega)) c143
                    · exact absurd (by decide) c135
                  · exact absurd ((nI_eq (by omega) (by omega)).mp c133) (by omega)
                · exact absurd ((nI_leI (by omega) (by omega)).mpr (by omega)) c131
              · exact absurd ((br_lt (by omega) (by omega)).mpr (by omega)) c129
          · have n147 := (nI_eq (by omega) (by omega)).mp c39
            refine lv_iload X.1 X.2.1 dL_sails_187 (lv_at hl 1 rfl) ?_
            refine lv_iload X.1 X.2.1 dL_sails_189 (lv_at hl 0 rfl) ?_
            refine lv_icmp_ne (tgt := 289) X.1 X.2.1 dL_sails_191 (by decide) (fun c148 => ?_) (fun c148 => ?_)
            · have n149 : ¬ (eA A r b 1) = ((rA A r 0) * (rA A r 1)) := fun z => c148 ((nI_eq (by omega) (by omega)).mpr z)
              refine lv_iload_n X.1 X.2.1 dL_sails_289 rfl (lv_at hl 6 rfl) ?_
              refine lv_bipush (v := nI 12) X.1 X.2.1 dL_sails_290 (by decide) ?_
              refine x_callSP X hK hw (As := [.int v, .int (nI 12)]) (rest := []) (k_L_low v 12 (by omega) (by omega)) (x_cwS yL_low cL_low 2 (some .int) 2 X q1394 q1395 q0 q1396 hd_L_low ⟨(Nat.le_of_ble_eq_true rfl), (Nat.le_of_ble_eq_true rfl)⟩) rfl hl.1 rfl (Nat.le_of_ble_eq_true rfl) dL_sails_292 ⟨(Nat.le_of_ble_eq_true rfl), (Nat.le_of_ble_eq_true rfl)⟩ (fun H locs hw => ?_)
              have hw150 := lowN_lt (v := v) (n := 12) (by omega)
              refine lv_iconst (v := nI 2) X.1 X.2.1 dL_sails_295 (by decide) ?_
              refine lv_icmp_ne (tgt := 309) X.1 X.2.1 dL_sails_296 (by decide) (fun c151 => ?_) (fun c151 => ?_)
              · have n152 : ¬ (lowN v 12) = 2 := fun z => c151 ((nI_eq (by omega) (by omega)).mpr z)
                refine lv_iload X.1 X.2.1 dL_sails_309 (lv_at hl 1 rfl) ?_
                refine lv_aload_n X.1 X.2.1 dL_sails_311 rfl (lv_at hl 4 rfl) ?_
                refine lv_iload_n X.1 X.2.1 dL_sails_312 rfl (lv_at hl 3 rfl) ?_
                refine lv_iconst (v := nI 0) X.1 X.2.1 dL_sails_313 (by decide) ?_
                refine x_callV X hK hw (k := 0) (As := [.int (nI r), .int (nI 0)]) (rest := [.int (nI (eA A r b 1))]) (w_race hI (by omega) hJ.1.1 hO31 (nI r) (nI 0) (fun g t tm hE => a_rac0 hJ (by omega) hk hE (by omega) tm)) (x_cwV yX7_race cX7_race 3 (some .int) 2 X q804 q805 q806 q1 q807 hd_X7_race ⟨(Nat.le_of_ble_eq_true rfl), (Nat.le_of_ble_eq_true rfl)⟩) (by omega) hO31.ma rfl rfl hl.1 rfl (Nat.le_of_ble_eq_true rfl) dL_sails_314 ⟨(Nat.le_of_ble_eq_true rfl), (Nat.le_of_ble_eq_true rfl)⟩ (fun v153 F154 H locs hp hw => ?_)
                obtain ⟨e155, hO156, hf157⟩ := hp
                refine x_top e155 ?_
                replace hfr := hfr.tr hf157 (by omega) (by omega)
                refine lv_irem X.1 X.2.1 dL_sails_317 (fun z => by have := (bz_eq (by omega)).mp z; omega) ?_
                refine x_top (nI_mod (by omega) (by omega) (by omega)) ?_
                refine lv_istore (lv' := [(7, .int (nI ((eA A r b 1) % (rA A r 0)))), (6, .int (nI ((rA A r 0) * (rA A r 1)))), (5, .int (nI (eA A r b 1))), (4, .int (nI (eA A r b 0))), (3, .int (nI r)), (0, .ref (ad 0)), (1, .int (nI b)), (2, .int v)]) X.1 X.2.1 dL_sails_318 hl (by decide) rfl (fun ls hl => ?_)
                refine lv_aload_n X.1 X.2.1 dL_sails_320 rfl (lv_at hl 5 rfl) ?_
                refine lv_iload_n X.1 X.2.1 dL_sails_321 rfl (lv_at hl 4 rfl) ?_
                refine lv_iload_n X.1 X.2.1 dL_sails_322 rfl (lv_at hl 6 rfl) ?_
                refine lv_iconst (v := nI 2) X.1 X.2.1 dL_sails_323 (by decide) ?_
                refine x_callV X hK hw (k := 0) (As := [.int (nI r), .int (nI b), .int (nI 2)]) (rest := []) (w_result hI (by omega) hJ.1.1 hO156 (nI r) (nI b) (nI 2) (fun g t tm hE => a_res2 hJ (by omega) hk hE (by omega) (by omega) tm)) (x_cwV yX7_result cX7_result 4 (some .int) 3 X q695 q696 q697 q1 q698 hd_X7_result ⟨(Nat.le_of_ble_eq_true rfl), (Nat.le_of_ble_eq_true rfl)⟩) (by omega) hO156.ma rfl rfl hl.1 rfl (Nat.le_of_ble_eq_true rfl) dL_sails_324 ⟨(Nat.le_of_ble_eq_true rfl), (Nat.le_of_ble_eq_true rfl)⟩ (fun v158 F159 H locs hp hw => ?_)
                obtain ⟨e160, hO161, hf162⟩ := hp
                refine x_top e160 ?_
                replace hfr := hfr.tr hf162 (by omega) (by omega)
                refine lv_istore (lv' := [(8, .int (nI (eA A r b 2))), (7, .int (nI ((eA A r b 1) % (rA A r 0)))), (6, .int (nI ((rA A r 0) * (rA A r 1)))), (5, .int (nI (eA A r b 1))), (4, .int (nI (eA A r b 0))), (3, .int (nI r)), (0, .ref (ad 0)), (1, .int (nI b)), (2, .int v)]) X.1 X.2.1 dL_sails_327 hl (by decide) rfl (fun ls hl => ?_)
                rcases (show rA A r 0 ≤ ((eA A r b 1) % (rA A r 0)) ∨ (((eA A r b 1) % (rA A r 0)) < rA A r 0 ∧ ((eA A r b 1) % (rA A r 0)) = eA A r b 1 % rA A r 0) ∨ (((eA A r b 1) % (rA A r 0)) < rA A r 0 ∧ ¬ ((eA A r b 1) % (rA A r 0)) = eA A r b 1 % rA A r 0) by omega) with hq | hq | hq
                · refine lv_aload_n X.1 X.2.1 dL_sails_329 rfl (lv_at hl 6 rfl) ?_
                  refine lv_iload_n X.1 X.2.1 dL_sails_330 rfl (lv_at hl 7 rfl) ?_
                  refine lv_iload X.1 X.2.1 dL_sails_331 (lv_at hl 1 rfl) ?_
                  refine x_callV X hK hw (k := 0) (As := [.int (nI b), .int (nI ((eA A r b 1) % (rA A r 0)))]) (rest := []) (w_buoy hI (by omega) hO161 (nI b) (nI ((eA A r b 1) % (rA A r 0))) (fun g t hE => a_buoy_no_r hrA hJ hb (by omega) (fun _ => by omega) hE)) (x_cwV yX7_buoy cX7_buoy 3 (some .int) 2 X q383 q384 q385 q1 q386 hd_X7_buoy ⟨(Nat.le_of_ble_eq_true rfl), (Nat.le_of_ble_eq_true rfl)⟩) (by omega) hO161.ma rfl rfl hl.1 rfl (Nat.le_of_ble_eq_true rfl) dL_sails_333 ⟨(Nat.le_of_ble_eq_true rfl), (Nat.le_of_ble_eq_true rfl)⟩ (fun v163 F164 H locs hp hw => ?_)
                  obtain ⟨e165, hO166, hf167⟩ := hp
                  refine x_top e165 ?_
                  replace hfr := hfr.tr hf167 (by omega) (by omega)
                  refine lv_istore (lv' := [(9, .int ((-2))), (8, .int (nI (eA A r b 2))), (7, .int (nI ((eA A r b 1) % (rA A r 0)))), (6, .int (nI ((rA A r 0) * (rA A r 1)))), (5, .int (nI (eA A r b 1))), (4, .int (nI (eA A r b 0))), (3, .int (nI r)), (0, .ref (ad 0)), (1, .int (nI b)), (2, .int v)]) X.1 X.2.1 dL_sails_336 hl (by decide) rfl (fun ls hl => ?_)
                  refine lv_iload X.1 X.2.1 dL_sails_338 (lv_at hl 2 rfl) ?_
                  refine lv_aload_n X.1 X.2.1 dL_sails_340 rfl (lv_at hl 7 rfl) ?_
                  refine lv_iload_n X.1 X.2.1 dL_sails_341 rfl (lv_at hl 6 rfl) ?_
                  refine lv_iconst (v := nI 0) X.1 X.2.1 dL_sails_342 (by decide) ?_
                  refine x_callV X hK hw (k := 0) (As := [.int (nI r), .int (nI 0)]) (rest := [.int (nI ((eA A r b 1) % (rA A r 0)))]) (w_race hI (by omega) hJ.1.1 hO166 (nI r) (nI 0) (fun g t tm hE => a_rac0 hJ (by omega) hk hE (by omega) tm)) (x_cwV yX7_race cX7_race 3 (some .int) 2 X q804 q805 q806 q1 q807 hd_X7_race ⟨(Nat.le_of_ble_eq_true rfl), (Nat.le_of_ble_eq_true rfl)⟩) (by omega) hO166.ma rfl rfl hl.1 rfl (Nat.le_of_ble_eq_true rfl) dL_sails_343 ⟨(Nat.le_of_ble_eq_true rfl), (Nat.le_of_ble_eq_true rfl)⟩ (fun v168 F169 H locs hp hw => ?_)
                  obtain ⟨e170, hO171, hf172⟩ := hp
                  refine x_top e170 ?_
                  replace hfr := hfr.tr hf172 (by omega) (by omega)
                  refine lv_icmp_lt (tgt := 364) X.1 X.2.1 dL_sails_346 (by decide) (fun c173 => ?_) (fun c173 => ?_)
                  · exact absurd ((br_lt (by omega) (by omega)).mp c173) (by omega)
                  · have n174 : ¬ ((eA A r b 1) % (rA A r 0)) < (rA A r 0) := fun z => c173 ((br_lt (by omega) (by omega)).mpr z)
                    refine lv_iload X.1 X.2.1 dL_sails_349 (lv_at hl 0 rfl) ?_
                    refine lv_bipush (v := (-2)) X.1 X.2.1 dL_sails_351 (by decide) ?_
                    refine lv_icmp_ne (tgt := 360) X.1 X.2.1 dL_sails_353 (by decide) (fun c175 => ?_) (fun c175 => ?_)
                    · exact absurd (by decide) c175
                    · refine lv_iconst (v := nI 1) X.1 X.2.1 dL_sails_356 (by decide) ?_
                      refine lv_goto (tgt := 433) X.1 X.2.1 dL_sails_357 (by decide) ?_
                      exact x_iret X hr hlk hK hw (v := nI 1) (by first | rfl | exact nr_b _ | decide) (⟨rfl, ACT.same hJ hO171, hfr⟩) dL_sails_433
                · refine lv_aload_n X.1 X.2.1 dL_sails_329 rfl (lv_at hl 6 rfl) ?_
                  refine lv_iload_n X.1 X.2.1 dL_sails_330 rfl (lv_at hl 7 rfl) ?_
                  refine lv_iload X.1 X.2.1 dL_sails_331 (lv_at hl 1 rfl) ?_
                  refine x_callV X hK hw (k := 0) (As := [.int (nI b), .int (nI ((eA A r b 1) % (rA A r 0)))]) (rest := []) (w_buoy hI (by omega) hO161 (nI b) (nI ((eA A r b 1) % (rA A r 0))) (fun g t hE => a_buoy_ok_r hrA hJ ((opn_r hrA).mpr hop) hb (by omega) (by omega) (by omega) (by omega) hE)) (x_cwV yX7_buoy cX7_buoy 3 (some .int) 2 X q383 q384 q385 q1 q386 hd_X7_buoy ⟨(Nat.le_of_ble_eq_true rfl), (Nat.le_of_ble_eq_true rfl)⟩) (by omega) hO161.ma rfl rfl hl.1 rfl (Nat.le_of_ble_eq_true rfl) dL_sails_333 ⟨(Nat.le_of_ble_eq_true rfl), (Nat.le_of_ble_eq_true rfl)⟩ (fun v176 F177 H locs hp hw => ?_)
                  obtain ⟨e178, hO179, hf180⟩ := hp
                  refine x_top e178 ?_
                  replace hfr := hfr.tr hf180 (by omega) (by omega)
                  obtain ⟨B181, hB181⟩ : ∃ y, y = ep A r b 1 (eA A r b 1 + 1) := ⟨_, rfl⟩
                  rw [← hB181] at hO179
                  have jB181 : HJ ca B181 := by rw [hB181]; exact j_made_r hrA hJ ((opn_r hrA).mpr hop) hb (by omega) (by omega)
                  have eB181 : ∀ i, i ≠ 80 + 6 * (9 * r + b) + 1 → B181 i = A i := fun i h1 => by rw [hB181]; exact nup_ne h1
                  have vB181 : eA B181 r b 1 = eA A r b 1 + 1 := by rw [hB181]; exact ep_at
                  have b0B181 : B181 0 = A 0 := eB181 0 (by omega)
                  have b1B181 : B181 1 = A 1 := eB181 1 (by omega)
                  have b2B181 : B181 2 = A 2 := eB181 2 (by omega)
                  have b3B181 : B181 3 = A 3 := eB181 3 (by omega)
                  have x0B181 : eA B181 r b 0 = eA A r b 0 := eB181 _ (by omega)
                  have x2B181 : eA B181 r b 2 = eA A r b 2 := eB181 _ (by omega)
                  have x3B181 : eA B181 r b 3 = eA A r b 3 := eB181 _ (by omega)
                  have x4B181 : eA B181 r b 4 = eA A r b 4 := eB181 _ (by omega)
                  have r0B181 : rA B181 r 0 = rA A r 0 := eB181 _ (by omega)
                  have r1B181 : rA B181 r 1 = rA A r 1 := eB181 _ (by omega)
                  have r2B181 : rA B181 r 2 = rA A r 2 := eB181 _ (by omega)
                  have mB181 : ∀ k, k < A 3 → pA A k 3 ≤ pA B181 k 3 := fun k hk => by rw [show pA B181 k 3 = pA A k 3 from eB181 _ (by omega)]; exact Nat.le_refl _
                  have qB181 : eA A r b 1 % rA B181 r 0 = eA A r b 1 % rA A r 0 := by rw [r0B181]
                  refine lv_istore (lv' := [(9, .int (nI (eA A r b 1 + 1))), (8, .int (nI (eA A r b 2))), (7, .int (nI ((eA A r b 1) % (rA A r 0)))), (6, .int (nI ((rA A r 0) * (rA A r 1)))), (5, .int (nI (eA A r b 1))), (4, .int (nI (eA A r b 0))), (3, .int (nI r)), (0, .ref (ad 0)), (1, .int (nI b)), (2, .int v)]) X.1 X.2.1 dL_sails_336 hl (by decide) rfl (fun ls hl => ?_)
                  refine lv_iload X.1 X.2.1 dL_sails_338 (lv_at hl 2 rfl) ?_
                  refine lv_aload_n X.1 X.2.1 dL_sails_340 rfl (lv_at hl 7 rfl) ?_
                  refine lv_iload_n X.1 X.2.1 dL_sails_341 rfl (lv_at hl 6 rfl) ?_
                  refine lv_iconst (v := nI 0) X.1 X.2.1 dL_sails_342 (by decide) ?_
                  refine x_callV X hK hw (k := 0) (As := [.int (nI r), .int (nI 0)]) (rest := [.int (nI ((eA A r b 1) % (rA A r 0)))]) (w_race hI (by omega) jB181.1.1 hO179 (nI r) (nI 0) (fun g t tm hE => a_rac0 jB181 (by omega) (by omega) hE (by omega) tm)) (x_cwV yX7_race cX7_race 3 (some .int) 2 X q804 q805 q806 q1 q807 hd_X7_race ⟨(Nat.le_of_ble_eq_true rfl), (Nat.le_of_ble_eq_true rfl)⟩) (by omega) hO179.ma rfl rfl hl.1 rfl (Nat.le_of_ble_eq_true rfl) dL_sails_343 ⟨(Nat.le_of_ble_eq_true rfl), (Nat.le_of_ble_eq_true rfl)⟩ (fun v182 F183 H locs hp hw => ?_)
                  obtain ⟨e184, hO185, hf186⟩ := hp
                  refine x_top e184 ?_
                  replace hfr := hfr.tr hf186 (by omega) (by omega)
                  refine lv_icmp_lt (tgt := 364) X.1 X.2.1 dL_sails_346 (by decide) (fun c187 => ?_) (fun c187 => ?_)
                  · have n188 := (br_lt (by omega) (by omega)).mp c187
                    refine lv_iload X.1 X.2.1 dL_sails_364 (lv_at hl 2 rfl) ?_
                    refine lv_iload X.1 X.2.1 dL_sails_366 (lv_at hl 4 rfl) ?_
                    refine lv_aload_n X.1 X.2.1 dL_sails_368 rfl (lv_at hl 7 rfl) ?_
                    refine lv_iload_n X.1 X.2.1 dL_sails_369 rfl (lv_at hl 6 rfl) ?_
                    refine lv_iconst (v := nI 0) X.1 X.2.1 dL_sails_370 (by decide) ?_
                    refine x_callV X hK hw (k := 0) (As := [.int (nI r), .int (nI 0)]) (rest := [.int (nI (eA A r b 1)), .int (nI ((eA A r b 1) % (rA A r 0)))]) (w_race hI (by omega) jB181.1.1 hO185 (nI r) (nI 0) (fun g t tm hE => a_rac0 jB181 (by omega) (by omega) hE (by omega) tm)) (x_cwV yX7_race cX7_race 3 (some .int) 2 X q804 q805 q806 q1 q807 hd_X7_race ⟨(Nat.le_of_ble_eq_true rfl), (Nat.le_of_ble_eq_true rfl)⟩) (by omega) hO185.ma rfl rfl hl.1 rfl (Nat.le_of_ble_eq_true rfl) dL_sails_371 ⟨(Nat.le_of_ble_eq_true rfl), (Nat.le_of_ble_eq_true rfl)⟩ (fun v189 F190 H locs hp hw => ?_)
                    obtain ⟨e191, hO192, hf193⟩ := hp
                    refine x_top e191 ?_
                    replace hfr := hfr.tr hf193 (by omega) (by omega)
                    refine lv_irem X.1 X.2.1 dL_sails_374 (fun z => by have := (bz_eq (by omega)).mp z; omega) ?_
                    refine x_top (nI_mod (by omega) (by omega) (by omega)) ?_
                    refine lv_icmp_ne (tgt := 407) X.1 X.2.1 dL_sails_375 (by decide) (fun c194 => ?_) (fun c194 => ?_)
                    · exact absurd ((nI_eq (by omega) (by omega)).mpr (by omega)) c194
                    · have n195 := (nI_eq (by omega) (by omega)).mp c194
                      refine lv_iload X.1 X.2.1 dL_sails_378 (lv_at hl 0 rfl) ?_
                      refine lv_iload X.1 X.2.1 dL_sails_380 (lv_at hl 4 rfl) ?_
                      refine lv_iconst (v := nI 1) X.1 X.2.1 dL_sails_382 (by decide) ?_
                      refine lv_iadd X.1 X.2.1 dL_sails_383 ?_
                      refine x_top (nI_add _ _) ?_
                      refine lv_icmp_ne (tgt := 403) X.1 X.2.1 dL_sails_384 (by decide) (fun c196 => ?_) (fun c196 => ?_)
                      · exact absurd ((nI_eq (by omega) (by omega)).mpr (by omega)) c196
                      · have n197 := (nI_eq (by omega) (by omega)).mp c196
                        refine lv_aload_n X.1 X.2.1 dL_sails_387 rfl (lv_at hl 7 rfl) ?_
                        refine lv_iload_n X.1 X.2.1 dL_sails_388 rfl (lv_at hl 6 rfl) ?_
                        refine lv_iload_n X.1 X.2.1 dL_sails_389 rfl (lv_at hl 8 rfl) ?_
                        refine lv_iconst (v := nI 2) X.1 X.2.1 dL_sails_390 (by decide) ?_
                        refine x_callV X hK hw (k := 0) (As := [.int (nI r), .int (nI b), .int (nI 2)]) (rest := []) (w_result hI (by omega) jB181.1.1 hO192 (nI r) (nI b) (nI 2) (fun g t tm hE => a_res2 jB181 (by omega) (by omega) hE (by omega) (by omega) tm)) (x_cwV yX7_result cX7_result 4 (some .int) 3 X q695 q696 q697 q1 q698 hd_X7_result ⟨(Nat.le_of_ble_eq_true rfl), (Nat.le_of_ble_eq_true rfl)⟩) (by omega) hO192.ma rfl rfl hl.1 rfl (Nat.le_of_ble_eq_true rfl) dL_sails_391 ⟨(Nat.le_of_ble_eq_true rfl), (Nat.le_of_ble_eq_true rfl)⟩ (fun v198 F199 H locs hp hw => ?_)
                        obtain ⟨e200, hO201, hf202⟩ := hp
                        refine x_top e200 ?_
                        replace hfr := hfr.tr hf202 (by omega) (by omega)
                        refine lv_iload X.1 X.2.1 dL_sails_394 (lv_at hl 1 rfl) ?_
                        refine lv_icmp_ne (tgt := 403) X.1 X.2.1 dL_sails_396 (by decide) (fun c203 => ?_) (fun c203 => ?_)
                        · exact absurd ((nI_eq (by omega) (by omega)).mpr (by omega)) c203
                        · have n204 := (nI_eq (by omega) (by omega)).mp c203
                          refine lv_iconst (v := nI 1) X.1 X.2.1 dL_sails_399 (by decide) ?_
                          refine lv_goto (tgt := 433) X.1 X.2.1 dL_sails_400 (by decide) ?_
                          exact x_iret X hr hlk hK hw (v := nI 1) (by first | rfl | exact nr_b _ | decide) (⟨rfl, ACT.mk1 jB181 (by omega) (by omega) mB181 hO201, hfr⟩) dL_sails_433
                  · exact absurd ((br_lt (by omega) (by omega)).mpr (by omega)) c187
                · refine lv_aload_n X.1 X.2.1 dL_sails_329 rfl (lv_at hl 6 rfl) ?_
                  refine lv_iload_n X.1 X.2.1 dL_sails_330 rfl (lv_at hl 7 rfl) ?_
                  refine lv_iload X.1 X.2.1 dL_sails_331 (lv_at hl 1 rfl) ?_
                  refine x_callV X hK hw (k := 0) (As := [.int (nI b), .int (nI ((eA A r b 1) % (rA A r 0)))]) (rest := []) (w_buoy hI (by omega) hO161 (nI b) (nI ((eA A r b 1) % (rA A r 0))) (fun g t hE => a_buoy_mi_r hrA hJ ((opn_r hrA).mpr hop) hb (by omega) (by omega) (by omega) hE)) (x_cwV yX7_buoy cX7_buoy 3 (some .int) 2 X q383 q384 q385 q1 q386 hd_X7_buoy ⟨(Nat.le_of_ble_eq_true rfl), (Nat.le_of_ble_eq_true rfl)⟩) (by omega) hO161.ma rfl rfl hl.1 rfl (Nat.le_of_ble_eq_true rfl) dL_sails_333 ⟨(Nat.le_of_ble_eq_true rfl), (Nat.le_of_ble_eq_true rfl)⟩ (fun v205 F206 H locs hp hw => ?_)
                  obtain ⟨e207, hO208, hf209⟩ := hp
                  refine x_top e207 ?_
                  replace hfr := hfr.tr hf209 (by omega) (by omega)
                  obtain ⟨B210, hB210⟩ : ∃ y, y = ep A r b 2 (eA A r b 2 + 1) := ⟨_, rfl⟩
                  rw [← hB210] at hO208
                  have jB210 : HJ (ca + 1) B210 := by rw [hB210]; exact j_miss_r hrA hJ ((opn_r hrA).mpr hop) hb
                  have eB210 : ∀ i, i ≠ 80 + 6 * (9 * r + b) + 2 → B210 i = A i := fun i h2 => by rw [hB210]; exact nup_ne h2
                  have vB210 : eA B210 r b 2 = eA A r b 2 + 1 := by rw [hB210]; exact ep_at
                  have b0B210 : B210 0 = A 0 := eB210 0 (by omega)
                  have b1B210 : B210 1 = A 1 := eB210 1 (by omega)
                  have b2B210 : B210 2 = A 2 := eB210 2 (by omega)
                  have b3B210 : B210 3 = A 3 := eB210 3 (by omega)
                  have x0B210 : eA B210 r b 0 = eA A r b 0 := eB210 _ (by omega)
                  have x1B210 : eA B210 r b 1 = eA A r b 1 := eB210 _ (by omega)
                  have x3B210 : eA B210 r b 3 = eA A r b 3 := eB210 _ (by omega)
                  have x4B210 : eA B210 r b 4 = eA A r b 4 := eB210 _ (by omega)
                  have r0B210 : rA B210 r 0 = rA A r 0 := eB210 _ (by omega)
                  have r1B210 : rA B210 r 1 = rA A r 1 := eB210 _ (by omega)
                  have r2B210 : rA B210 r 2 = rA A r 2 := eB210 _ (by omega)
                  have mB210 : ∀ k, k < A 3 → pA A k 3 ≤ pA B210 k 3 := fun k hk => by rw [show pA B210 k 3 = pA A k 3 from eB210 _ (by omega)]; exact Nat.le_refl _
                  have qB210 : eA A r b 1 % rA B210 r 0 = eA A r b 1 % rA A r 0 := by rw [r0B210]
                  refine lv_istore (lv' := [(9, .int (nI (eA A r b 1))), (8, .int (nI (eA A r b 2))), (7, .int (nI ((eA A r b 1) % (rA A r 0)))), (6, .int (nI ((rA A r 0) * (rA A r 1)))), (5, .int (nI (eA A r b 1))), (4, .int (nI (eA A r b 0))), (3, .int (nI r)), (0, .ref (ad 0)), (1, .int (nI b)), (2, .int v)]) X.1 X.2.1 dL_sails_336 hl (by decide) rfl (fun ls hl => ?_)
                  refine lv_iload X.1 X.2.1 dL_sails_338 (lv_at hl 2 rfl) ?_
                  refine lv_aload_n X.1 X.2.1 dL_sails_340 rfl (lv_at hl 7 rfl) ?_
                  refine lv_iload_n X.1 X.2.1 dL_sails_341 rfl (lv_at hl 6 rfl) ?_
                  refine lv_iconst (v := nI 0) X.1 X.2.1 dL_sails_342 (by decide) ?_
                  refine x_callV X hK hw (k := 0) (As := [.int (nI r), .int (nI 0)]) (rest := [.int (nI ((eA A r b 1) % (rA A r 0)))]) (w_race hI (by omega) jB210.1.1 hO208 (nI r) (nI 0) (fun g t tm hE => a_rac0 jB210 (by omega) (by omega) hE (by omega) tm)) (x_cwV yX7_race cX7_race 3 (some .int) 2 X q804 q805 q806 q1 q807 hd_X7_race ⟨(Nat.le_of_ble_eq_true rfl), (Nat.le_of_ble_eq_true rfl)⟩) (by omega) hO208.ma rfl rfl hl.1 rfl (Nat.le_of_ble_eq_true rfl) dL_sails_343 ⟨(Nat.le_of_ble_eq_true rfl), (Nat.le_of_ble_eq_true rfl)⟩ (fun v211 F212 H locs hp hw => ?_)
                  obtain ⟨e213, hO214, hf215⟩ := hp
                  refine x_top e213 ?_
                  replace hfr := hfr.tr hf215 (by omega) (by omega)
                  refine lv_icmp_lt (tgt := 364) X.1 X.2.1 dL_sails_346 (by decide) (fun c216 => ?_) (fun c216 => ?_)
                  · have n217 := (br_lt (by omega) (by omega)).mp c216
                    refine lv_iload X.1 X.2.1 dL_sails_364 (lv_at hl 2 rfl) ?_
                    refine lv_iload X.1 X.2.1 dL_sails_366 (lv_at hl 4 rfl) ?_
                    refine lv_aload_n X.1 X.2.1 dL_sails_368 rfl (lv_at hl 7 rfl) ?_
                    refine lv_iload_n X.1 X.2.1 dL_sails_369 rfl (lv_at hl 6 rfl) ?_
                    refine lv_iconst (v := nI 0) X.1 X.2.1 dL_sails_370 (by decide) ?_
                    refine x_callV X hK hw (k := 0) (As := [.int (nI r), .int (nI 0)]) (rest := [.int (nI (eA A r b 1)), .int (nI ((eA A r b 1) % (rA A r 0)))]) (w_race hI (by omega) jB210.1.1 hO214 (nI r) (nI 0) (fun g t tm hE => a_rac0 jB210 (by omega) (by omega) hE (by omega) tm)) (x_cwV yX7_race cX7_race 3 (some .int) 2 X q804 q805 q806 q1 q807 hd_X7_race ⟨(Nat.le_of_ble_eq_true rfl), (Nat.le_of_ble_eq_true rfl)⟩) (by omega) hO214.ma rfl rfl hl.1 rfl (Nat.le_of_ble_eq_true rfl) dL_sails_371 ⟨(Nat.le_of_ble_eq_true rfl), (Nat.le_of_ble_eq_true rfl)⟩ (fun v218 F219 H locs hp hw => ?_)
                    obtain ⟨e220, hO221, hf222⟩ := hp
                    refine x_top e220 ?_
                    replace hfr := hfr.tr hf222 (by omega) (by omega)
                    refine lv_irem X.1 X.2.1 dL_sails_374 (fun z => by have := (bz_eq (by omega)).mp z; omega) ?_
                    refine x_top (nI_mod (by omega) (by omega) (by omega)) ?_
                    refine lv_icmp_ne (tgt := 407) X.1 X.2.1 dL_sails_375 (by decide) (fun c223 => ?_) (fun c223 => ?_)
                    · have n224 : ¬ ((eA A r b 1) % (rA A r 0)) = ((eA A r b 1) % (rA B210 r 0)) := fun z => c223 ((nI_eq (by omega) (by omega)).mpr z)
                      refine lv_iload X.1 X.2.1 dL_sails_407 (lv_at hl 0 rfl) ?_
                      refine lv_iload X.1 X.2.1 dL_sails_409 (lv_at hl 4 rfl) ?_
                      refine lv_icmp_ne (tgt := 432) X.1 X.2.1 dL_sails_411 (by decide) (fun c225 => ?_) (fun c225 => ?_)
                      · exact absurd ((nI_eq (by omega) (by omega)).mpr (by omega)) c225
                      · have n226 := (nI_eq (by omega) (by omega)).mp c225
                        refine lv_aload_n X.1 X.2.1 dL_sails_414 rfl (lv_at hl 7 rfl) ?_
                        refine lv_iload_n X.1 X.2.1 dL_sails_415 rfl (lv_at hl 6 rfl) ?_
                        refine lv_iload_n X.1 X.2.1 dL_sails_416 rfl (lv_at hl 8 rfl) ?_
                        refine lv_iconst (v := nI 2) X.1 X.2.1 dL_sails_417 (by decide) ?_
                        refine x_callV X hK hw (k := 0) (As := [.int (nI r), .int (nI b), .int (nI 2)]) (rest := []) (w_result hI (by omega) jB210.1.1 hO221 (nI r) (nI b) (nI 2) (fun g t tm hE => a_res2 jB210 (by omega) (by omega) hE (by omega) (by omega) tm)) (x_cwV yX7_result cX7_result 4 (some .int) 3 X q695 q696 q697 q1 q698 hd_X7_result ⟨(Nat.le_of_ble_eq_true rfl), (Nat.le_of_ble_eq_true rfl)⟩) (by omega) hO221.ma rfl rfl hl.1 rfl (Nat.le_of_ble_eq_true rfl) dL_sails_418 ⟨(Nat.le_of_ble_eq_true rfl), (Nat.le_of_ble_eq_true rfl)⟩ (fun v227 F228 H locs hp hw => ?_)
                        obtain ⟨e229, hO230, hf231⟩ := hp
                        refine x_top e229 ?_
                        replace hfr := hfr.tr hf231 (by omega) (by omega)
                        refine lv_iload X.1 X.2.1 dL_sails_421 (lv_at hl 1 rfl) ?_
                        refine lv_iconst (v := nI 1) X.1 X.2.1 dL_sails_423 (by decide) ?_
                        refine lv_iadd X.1 X.2.1 dL_sails_424 ?_
                        refine x_top (nI_add _ _) ?_
                        refine lv_icmp_ne (tgt := 432) X.1 X.2.1 dL_sails_425 (by decide) (fun c232 => ?_) (fun c232 => ?_)
                        · exact absurd ((nI_eq (by omega) (by omega)).mpr (by omega)) c232
                        · have n233 := (nI_eq (by omega) (by omega)).mp c232
                          refine lv_iconst (v := nI 1) X.1 X.2.1 dL_sails_428 (by decide) ?_
                          refine lv_goto (tgt := 433) X.1 X.2.1 dL_sails_429 (by decide) ?_
                          exact x_iret X hr hlk hK hw (v := nI 1) (by first | rfl | exact nr_b _ | decide) (⟨rfl, ACT.mk1 jB210 (by omega) (by omega) mB210 hO230, hfr⟩) dL_sails_433
                    · exact absurd ((nI_eq (by omega) (by omega)).mp c223) (by omega)
                  · exact absurd ((br_lt (by omega) (by omega)).mpr (by omega)) c216
              · have n234 := (nI_eq (by omega) (by omega)).mp c151
                refine lv_iload_n X.1 X.2.1 dL_sails_299 rfl (lv_at hl 6 rfl) ?_
                refine lv_iconst (v := nI 4) X.1 X.2.1 dL_sails_300 (by decide) ?_
                refine lv_ishr X.1 X.2.1 dL_sails_301 ?_
                refine lv_iconst (v := nI 5) X.1 X.2.1 dL_sails_302 (by decide) ?_
                refine x_callSP X hK hw (As := [.int (v >>> ((nI 4) &&& 31)), .int (nI 5)]) (rest := []) (k_L_low (v >>> ((nI 4) &&& 31)) 5 (by omega) (by omega)) (x_cwS yL_low cL_low 2 (some .int) 2 X q1394 q1395 q0 q1396 hd_L_low ⟨(Nat.le_of_ble_eq_true rfl), (Nat.le_of_ble_eq_true rfl)⟩) rfl hl.1 rfl (Nat.le_of_ble_eq_true rfl) dL_sails_303 ⟨(Nat.le_of_ble_eq_true rfl), (Nat.le_of_ble_eq_true rfl)⟩ (fun H locs hw => ?_)
                have hw235 := lowN_lt (v := v >>> ((nI 4) &&& 31)) (n := 5) (by omega)
                refine lv_goto (tgt := 318) X.1 X.2.1 dL_sails_306 (by decide) ?_
                refine lv_istore (lv' := [(7, .int (nI (lowN (v >>> ((nI 4) &&& 31)) 5))), (6, .int (nI ((rA A r 0) * (rA A r 1)))), (5, .int (nI (eA A r b 1))), (4, .int (nI (eA A r b 0))), (3, .int (nI r)), (0, .ref (ad 0)), (1, .int (nI b)), (2, .int v)]) X.1 X.2.1 dL_sails_318 hl (by decide) rfl (fun ls hl => ?_)
                refine lv_aload_n X.1 X.2.1 dL_sails_320 rfl (lv_at hl 5 rfl) ?_
                refine lv_iload_n X.1 X.2.1 dL_sails_321 rfl (lv_at hl 4 rfl) ?_
                refine lv_iload_n X.1 X.2.1 dL_sails_322 rfl (lv_at hl 6 rfl) ?_
                refine lv_iconst (v := nI 2) X.1 X.2.1 dL_sails_323 (by decide) ?_
                refine x_callV X hK hw (k := 0) (As := [.int (nI r), .int (nI b), .int (nI 2)]) (rest := []) (w_result hI (by omega) hJ.1.1 hO31 (nI r) (nI b) (nI 2) (fun g t tm hE => a_res2 hJ (by omega) hk hE (by omega) (by omega) tm)) (x_cwV yX7_result cX7_result 4 (some .int) 3 X q695 q696 q697 q1 q698 hd_X7_result ⟨(Nat.le_of_ble_eq_true rfl), (Nat.le_of_ble_eq_true rfl)⟩) (by omega) hO31.ma rfl rfl hl.1 rfl (Nat.le_of_ble_eq_true rfl) dL_sails_324 ⟨(Nat.le_of_ble_eq_true rfl), (Nat.le_of_ble_eq_true rfl)⟩ (fun v236 F237 H locs hp hw => ?_)
                obtain ⟨e238, hO239, hf240⟩ := hp
                refine x_top e238 ?_
                replace hfr := hfr.tr hf240 (by omega) (by omega)
                refine lv_istore (lv' := [(8, .int (nI (eA A r b 2))), (7, .int (nI (lowN (v >>> ((nI 4) &&& 31)) 5))), (6, .int (nI ((rA A r 0) * (rA A r 1)))), (5, .int (nI (eA A r b 1))), (4, .int (nI (eA A r b 0))), (3, .int (nI r)), (0, .ref (ad 0)), (1, .int (nI b)), (2, .int v)]) X.1 X.2.1 dL_sails_327 hl (by decide) rfl (fun ls hl => ?_)
                rcases (show rA A r 0 ≤ (lowN (v >>> ((nI 4) &&& 31)) 5) ∨ ((lowN (v >>> ((nI 4) &&& 31)) 5) < rA A r 0 ∧ (lowN (v >>> ((nI 4) &&& 31)) 5) = eA A r b 1 % rA A r 0) ∨ ((lowN (v >>> ((nI 4) &&& 31)) 5) < rA A r 0 ∧ ¬ (lowN (v >>> ((nI 4) &&& 31)) 5) = eA A r b 1 % rA A r 0) by omega) with hq | hq | hq
                · refine lv_aload_n X.1 X.2.1 dL_sails_329 rfl (lv_at hl 6 rfl) ?_
                  refine lv_iload_n X.1 X.2.1 dL_sails_330 rfl (lv_at hl 7 rfl) ?_
                  refine lv_iload X.1 X.2.1 dL_sails_331 (lv_at hl 1 rfl) ?_
                  refine x_callV X hK hw (k := 0) (As := [.int (nI b), .int (nI (lowN (v >>> ((nI 4) &&& 31)) 5))]) (rest := []) (w_buoy hI (by omega) hO239 (nI b) (nI (lowN (v >>> ((nI 4) &&& 31)) 5)) (fun g t hE => a_buoy_no_r hrA hJ hb (by omega) (fun _ => by omega) hE)) (x_cwV yX7_buoy cX7_buoy 3 (some .int) 2 X q383 q384 q385 q1 q386 hd_X7_buoy ⟨(Nat.le_of_ble_eq_true rfl), (Nat.le_of_ble_eq_true rfl)⟩) (by omega) hO239.ma rfl rfl hl.1 rfl (Nat.le_of_ble_eq_true rfl) dL_sails_333 ⟨(Nat.le_of_ble_eq_true rfl), (Nat.le_of_ble_eq_true rfl)⟩ (fun v241 F242 H locs hp hw => ?_)
                  obtain ⟨e243, hO244, hf245⟩ := hp
                  refine x_top e243 ?_
                  replace hfr := hfr.tr hf245 (by omega) (by omega)
                  refine lv_istore (lv' := [(9, .int ((-2))), (8, .int (nI (eA A r b 2))), (7, .int (nI (lowN (v >>> ((nI 4) &&& 31)) 5))), (6, .int (nI ((rA A r 0) * (rA A r 1)))), (5, .int (nI (eA A r b 1))), (4, .int (nI (eA A r b 0))), (3, .int (nI r)), (0, .ref (ad 0)), (1, .int (nI b)), (2, .int v)]) X.1 X.2.1 dL_sails_336 hl (by decide) rfl (fun ls hl => ?_)
                  refine lv_iload X.1 X.2.1 dL_sails_338 (lv_at hl 2 rfl) ?_
                  refine lv_aload_n X.1 X.2.1 dL_sails_340 rfl (lv_at hl 7 rfl) ?_
                  refine lv_iload_n X.1 X.2.1 dL_sails_341 rfl (lv_at hl 6 rfl) ?_
                  refine lv_iconst (v := nI 0) X.1 X.2.1 dL_sails_342 (by decide) ?_
                  refine x_callV X hK hw (k := 0) (As := [.int (nI r), .int (nI 0)]) (rest := [.int (nI (lowN (v >>> ((nI 4) &&& 31)) 5))]) (w_race hI (by omega) hJ.1.1 hO244 (nI r) (nI 0) (fun g t tm hE => a_rac0 hJ (by omega) hk hE (by omega) tm)) (x_cwV yX7_race cX7_race 3 (some .int) 2 X q804 q805 q806 q1 q807 hd_X7_race ⟨(Nat.le_of_ble_eq_true rfl), (Nat.le_of_ble_eq_true rfl)⟩) (by omega) hO244.ma rfl rfl hl.1 rfl (Nat.le_of_ble_eq_true rfl) dL_sails_343 ⟨(Nat.le_of_ble_eq_true rfl), (Nat.le_of_ble_eq_true rfl)⟩ (fun v246 F247 H locs hp hw => ?_)
                  obtain ⟨e248, hO249, hf250⟩ := hp
                  refine x_top e248 ?_
                  replace hfr := hfr.tr hf250 (by omega) (by omega)
                  refine lv_icmp_lt (tgt := 364) X.1 X.2.1 dL_sails_346 (by decide) (fun c251 => ?_) (fun c251 => ?_)
                  · exact absurd ((br_lt (by omega) (by omega)).mp c251) (by omega)
                  · have n252 : ¬ (lowN (v >>> ((nI 4) &&& 31)) 5) < (rA A r 0) := fun z => c251 ((br_lt (by omega) (by omega)).mpr z)
                    refine lv_iload X.1 X.2.1 dL_sails_349 (lv_at hl 0 rfl) ?_
                    refine lv_bipush (v := (-2)) X.1 X.2.1 dL_sails_351 (by decide) ?_
                    refine lv_icmp_ne (tgt := 360) X.1 X.2.1 dL_sails_353 (by decide) (fun c253 => ?_) (fun c253 => ?_)
                    · exact absurd (by decide) c253
                    · refine lv_iconst (v := nI 1) X.1 X.2.1 dL_sails_356 (by decide) ?_
                      refine lv_goto (tgt := 433) X.1 X.2.1 dL_sails_357 (by decide) ?_
                      exact x_iret X hr hlk hK hw (v := nI 1) (by first | rfl | exact nr_b _ | decide) (⟨rfl, ACT.same hJ hO249, hfr⟩) dL_sails_433
                · refine lv_aload_n X.1 X.2.1 dL_sails_329 rfl (lv_at hl 6 rfl) ?_
                  refine lv_iload_n X.1 X.2.1 dL_sails_330 rfl (lv_at hl 7 rfl) ?_
                  refine lv_iload X.1 X.2.1 dL_sails_331 (lv_at hl 1 rfl) ?_
                  refine x_callV X hK hw (k := 0) (As := [.int (nI b), .int (nI (lowN (v >>> ((nI 4) &&& 31)) 5))]) (rest := []) (w_buoy hI (by omega) hO239 (nI b) (nI (lowN (v >>> ((nI 4) &&& 31)) 5)) (fun g t hE => a_buoy_ok_r hrA hJ ((opn_r hrA).mpr hop) hb (by omega) (by omega) (by omega) (by omega) hE)) (x_cwV yX7_buoy cX7_buoy 3 (some .int) 2 X q383 q384 q385 q1 q386 hd_X7_buoy ⟨(Nat.le_of_ble_eq_true rfl), (Nat.le_of_ble_eq_true rfl)⟩) (by omega) hO239.ma rfl rfl hl.1 rfl (Nat.le_of_ble_eq_true rfl) dL_sails_333 ⟨(Nat.le_of_ble_eq_true rfl), (Nat.le_of_ble_eq_true rfl)⟩ (fun v254 F255 H locs hp hw => ?_)
                  obtain ⟨e256, hO257, hf258⟩ := hp
                  refine x_top e256 ?_
                  replace hfr := hfr.tr hf258 (by omega) (by omega)
                  obtain ⟨B259, hB259⟩ : ∃ y, y = ep A r b 1 (eA A r b 1 + 1) := ⟨_, rfl⟩
                  rw [← hB259] at hO257
                  have jB259 : HJ ca B259 := by rw [hB259]; exact j_made_r hrA hJ ((opn_r hrA).mpr hop) hb (by omega) (by omega)
                  have eB259 : ∀ i, i ≠ 80 + 6 * (9 * r + b) + 1 → B259 i = A i := fun i h1 => by rw [hB259]; exact nup_ne h1
                  have vB259 : eA B259 r b 1 = eA A r b 1 + 1 := by rw [hB259]; exact ep_at
                  have b0B259 : B259 0 = A 0 := eB259 0 (by omega)
                  have b1B259 : B259 1 = A 1 := eB259 1 (by omega)
                  have b2B259 : B259 2 = A 2 := eB259 2 (by omega)
                  have b3B259 : B259 3 = A 3 := eB259 3 (by omega)
                  have x0B259 : eA B259 r b 0 = eA A r b 0 := eB259 _ (by omega)
                  have x2B259 : eA B259 r b 2 = eA A r b 2 := eB259 _ (by omega)
                  have x3B259 : eA B259 r b 3 = eA A r b 3 := eB259 _ (by omega)
                  have x4B259 : eA B259 r b 4 = eA A r b 4 := eB259 _ (by omega)
                  have r0B259 : rA B259 r 0 = rA A r 0 := eB259 _ (by omega)
                  have r1B259 : rA B259 r 1 = rA A r 1 := eB259 _ (by omega)
                  have r2B259 : rA B259 r 2 = rA A r 2 := eB259 _ (by omega)
                  have mB259 : ∀ k, k < A 3 → pA A k 3 ≤ pA B259 k 3 := fun k hk => by rw [show pA B259 k 3 = pA A k 3 from eB259 _ (by omega)]; exact Nat.le_refl _
                  have qB259 : eA A r b 1 % rA B259 r 0 = eA A r b 1 % rA A r 0 := by rw [r0B259]
                  refine lv_istore (lv' := [(9, .int (nI (eA A r b 1 + 1))), (8, .int (nI (eA A r b 2))), (7, .int (nI (lowN (v >>> ((nI 4) &&& 31)) 5))), (6, .int (nI ((rA A r 0) * (rA A r 1)))), (5, .int (nI (eA A r b 1))), (4, .int (nI (eA A r b 0))), (3, .int (nI r)), (0, .ref (ad 0)), (1, .int (nI b)), (2, .int v)]) X.1 X.2.1 dL_sails_336 hl (by decide) rfl (fun ls hl => ?_)
                  refine lv_iload X.1 X.2.1 dL_sails_338 (lv_at hl 2 rfl) ?_
                  refine lv_aload_n X.1 X.2.1 dL_sails_340 rfl (lv_at hl 7 rfl) ?_
                  refine lv_iload_n X.1 X.2.1 dL_sails_341 rfl (lv_at hl 6 rfl) ?_
                  refine lv_iconst (v := nI 0) X.1 X.2.1 dL_sails_342 (by decide) ?_
                  refine x_callV X hK hw (k := 0) (As := [.int (nI r), .int (nI 0)]) (rest := [.int (nI (lowN (v >>> ((nI 4) &&& 31)) 5))]) (w_race hI (by omega) jB259.1.1 hO257 (nI r) (nI 0) (fun g t tm hE => a_rac0 jB259 (by omega) (by omega) hE (by omega) tm)) (x_cwV yX7_race cX7_race 3 (some .int) 2 X q804 q805 q806 q1 q807 hd_X7_race ⟨(Nat.le_of_ble_eq_true rfl), (Nat.le_of_ble_eq_true rfl)⟩) (by omega) hO257.ma rfl rfl hl.1 rfl (Nat.le_of_ble_eq_true rfl) dL_sails_343 ⟨(Nat.le_of_ble_eq_true rfl), (Nat.le_of_ble_eq_true rfl)⟩ (fun v260 F261 H locs hp hw => ?_)
                  obtain ⟨e262, hO263, hf264⟩ := hp
                  refine x_top e262 ?_
                  replace hfr := hfr.tr hf264 (by omega) (by omega)
                  refine lv_icmp_lt (tgt := 364) X.1 X.2.1 dL_sails_346 (by decide) (fun c265 => ?_) (fun c265 => ?_)
                  · have n266 := (br_lt (by omega) (by omega)).mp c265
                    refine lv_iload X.1 X.2.1 dL_sails_364 (lv_at hl 2 rfl) ?_
                    refine lv_iload X.1 X.2.1 dL_sails_366 (lv_at hl 4 rfl) ?_
                    refine lv_aload_n X.1 X.2.1 dL_sails_368 rfl (lv_at hl 7 rfl) ?_
                    refine lv_iload_n X.1 X.2.1 dL_sails_369 rfl (lv_at hl 6 rfl) ?_
                    refine lv_iconst (v := nI 0) X.1 X.2.1 dL_sails_370 (by decide) ?_
                    refine x_callV X hK hw (k := 0) (As := [.int (nI r), .int (nI 0)]) (rest := [.int (nI (eA A r b 1)), .int (nI (lowN (v >>> ((nI 4) &&& 31)) 5))]) (w_race hI (by omega) jB259.1.1 hO263 (nI r) (nI 0) (fun g t tm hE => a_rac0 jB259 (by omega) (by omega) hE (by omega) tm)) (x_cwV yX7_race cX7_race 3 (some .int) 2 X q804 q805 q806 q1 q807 hd_X7_race ⟨(Nat.le_of_ble_eq_true rfl), (Nat.le_of_ble_eq_true rfl)⟩) (by omega) hO263.ma rfl rfl hl.1 rfl (Nat.le_of_ble_eq_true rfl) dL_sails_371 ⟨(Nat.le_of_ble_eq_true rfl), (Nat.le_of_ble_eq_true rfl)⟩ (fun v267 F268 H locs hp hw => ?_)
                    obtain ⟨e269, hO270, hf271⟩ := hp
                    refine x_top e269 ?_
                    replace hfr := hfr.tr hf271 (by omega) (by omega)
                    refine lv_irem X.1 X.2.1 dL_sails_374 (fun z => by have := (bz_eq (by omega)).mp z; omega) ?_
                    refine x_top (nI_mod (by omega) (by omega) (by omega)) ?_
                    refine lv_icmp_ne (tgt := 407) X.1 X.2.1 dL_sails_375 (by decide) (fun c272 => ?_) (fun c272 => ?_)
                    · exact absurd ((nI_eq (by omega) (by omega)).mpr (by omega)) c272
                    · have n273 := (nI_eq (by omega) (by omega)).mp c272
                      refine lv_iload X.1 X.2.1 dL_sails_378 (lv_at hl 0 rfl) ?_
                      refine lv_iload X.1 X.2.1 dL_sails_380 (lv_at hl 4 rfl) ?_
                      refine lv_iconst (v := nI 1) X.1 X.2.1 dL_sails_382 (by decide) ?_
                      refine lv_iadd X.1 X.2.1 dL_sails_383 ?_
                      refine x_top (nI_add _ _) ?_
                      refine lv_icmp_ne (tgt := 403) X.1 X.2.1 dL_sails_384 (by decide) (fun c274 => ?_) (fun c274 => ?_)
                      · exact absurd ((nI_eq (by omega) (by omega)).mpr (by omega)) c274
                      · have n275 := (nI_eq (by omega) (by omega)).mp c274
                        refine lv_aload_n X.1 X.2.1 dL_sails_387 rfl (lv_at hl 7 rfl) ?_
                        refine lv_iload_n X.1 X.2.1 dL_sails_388 rfl (lv_at hl 6 rfl) ?_
                        refine lv_iload_n X.1 X.2.1 dL_sails_389 rfl (lv_at hl 8 rfl) ?_
                        refine lv_iconst (v := nI 2) X.1 X.2.1 dL_sails_390 (by decide) ?_
                        refine x_callV X hK hw (k := 0) (As := [.int (nI r), .int (nI b), .int (nI 2)]) (rest := []) (w_result hI (by omega) jB259.1.1 hO270 (nI r) (nI b) (nI 2) (fun g t tm hE => a_res2 jB259 (by omega) (by omega) hE (by omega) (by omega) tm)) (x_cwV yX7_result cX7_result 4 (some .int) 3 X q695 q696 q697 q1 q698 hd_X7_result ⟨(Nat.le_of_ble_eq_true rfl), (Nat.le_of_ble_eq_true rfl)⟩) (by omega) hO270.ma rfl rfl hl.1 rfl (Nat.le_of_ble_eq_true rfl) dL_sails_391 ⟨(Nat.le_of_ble_eq_true rfl), (Nat.le_of_ble_eq_true rfl)⟩ (fun v276 F277 H locs hp hw => ?_)
                        obtain ⟨e278, hO279, hf280⟩ := hp
                        refine x_top e278 ?_
                        replace hfr := hfr.tr hf280 (by omega) (by omega)
                        refine lv_iload X.1 X.2.1 dL_sails_394 (lv_at hl 1 rfl) ?_
                        refine lv_icmp_ne (tgt := 403) X.1 X.2.1 dL_sails_396 (by decide) (fun c281 => ?_) (fun c281 => ?_)
                        · exact absurd ((nI_eq (by omega) (by omega)).mpr (by omega)) c281
                        · have n282 := (nI_eq (by omega) (by omega)).mp c281
                          refine lv_iconst (v := nI 1) X.1 X.2.1 dL_sails_399 (by decide) ?_
                          refine lv_goto (tgt := 433) X.1 X.2.1 dL_sails_400 (by decide) ?_
                          exact x_iret X hr hlk hK hw (v := nI 1) (by first | rfl | exact nr_b _ | decide) (⟨rfl, ACT.mk1 jB259 (by omega) (by omega) mB259 hO279, hfr⟩) dL_sails_433
                  · exact absurd ((br_lt (by omega) (by omega)).mpr (by omega)) c265
                · refine lv_aload_n X.1 X.2.1 dL_sails_329 rfl (lv_at hl 6 rfl) ?_
                  refine lv_iload_n X.1 X.2.1 dL_sails_330 rfl (lv_at hl 7 rfl) ?_
                  refine lv_iload X.1 X.2.1 dL_sails_331 (lv_at hl 1 rfl) ?_
                  refine x_callV X hK hw (k := 0) (As := [.int (nI b), .int (nI (lowN (v >>> ((nI 4) &&& 31)) 5))]) (rest := []) (w_buoy hI (by omega) hO239 (nI b) (nI (lowN (v >>> ((nI 4) &&& 31)) 5)) (fun g t hE => a_buoy_mi_r hrA hJ ((opn_r hrA).mpr hop) hb (by omega) (by omega) (by omega) hE)) (x_cwV yX7_buoy cX7_buoy 3 (some .int) 2 X q383 q384 q385 q1 q386 hd_X7_buoy ⟨(Nat.le_of_ble_eq_true rfl), (Nat.le_of_ble_eq_true rfl)⟩) (by omega) hO239.ma rfl rfl hl.1 rfl (Nat.le_of_ble_eq_true rfl) dL_sails_333 ⟨(Nat.le_of_ble_eq_true rfl), (Nat.le_of_ble_eq_true rfl)⟩ (fun v283 F284 H locs hp hw => ?_)
                  obtain ⟨e285, hO286, hf287⟩ := hp
                  refine x_top e285 ?_
                  replace hfr := hfr.tr hf287 (by omega) (by omega)
                  obtain ⟨B288, hB288⟩ : ∃ y, y = ep A r b 2 (eA A r b 2 + 1) := ⟨_, rfl⟩
                  rw [← hB288] at hO286
                  have jB288 : HJ (ca + 1) B288 := by rw [hB288]; exact j_miss_r hrA hJ ((opn_r hrA).mpr hop) hb
                  have eB288 : ∀ i, i ≠ 80 + 6 * (9 * r + b) + 2 → B288 i = A i := fun i h2 => by rw [hB288]; exact nup_ne h2
                  have vB288 : eA B288 r b 2 = eA A r b 2 + 1 := by rw [hB288]; exact ep_at
                  have b0B288 : B288 0 = A 0 := eB288 0 (by omega)
                  have b1B288 : B288 1 = A 1 := eB288 1 (by omega)
                  have b2B288 : B288 2 = A 2 := eB288 2 (by omega)
                  have b3B288 : B288 3 = A 3 := eB288 3 (by omega)
                  have x0B288 : eA B288 r b 0 = eA A r b 0 := eB288 _ (by omega)
                  have x1B288 : eA B288 r b 1 = eA A r b 1 := eB288 _ (by omega)
                  have x3B288 : eA B288 r b 3 = eA A r b 3 := eB288 _ (by omega)
                  have x4B288 : eA B288 r b 4 = eA A r b 4 := eB288 _ (by omega)
                  have r0B288 : rA B288 r 0 = rA A r 0 := eB288 _ (by omega)
                  have r1B288 : rA B288 r 1 = rA A r 1 := eB288 _ (by omega)
                  have r2B288 : rA B288 r 2 = rA A r 2 := eB288 _ (by omega)
                  have mB288 : ∀ k, k < A 3 → pA A k 3 ≤ pA B288 k 3 := fun k hk => by rw [show pA B288 k 3 = pA A k 3 from eB288 _ (by omega)]; exact Nat.le_refl _
                  have qB288 : eA A r b 1 % rA B288 r 0 = eA A r b 1 % rA A r 0 := by rw [r0B288]
                  refine lv_istore (lv' := [(9, .int (nI (eA A r b 1))), (8, .int (nI (eA A r b 2))), (7, .int (nI (lowN (v >>> ((nI 4) &&& 31)) 5))), (6, .int (nI ((rA A r 0) * (rA A r 1)))), (5, .int (nI (eA A r b 1))), (4, .int (nI (eA A r b 0))), (3, .int (nI r)), (0, .ref (ad 0)), (1, .int (nI b)), (2, .int v)]) X.1 X.2.1 dL_sails_336 hl (by decide) rfl (fun ls hl => ?_)
                  refine lv_iload X.1 X.2.1 dL_sails_338 (lv_at hl 2 rfl) ?_
                  refine lv_aload_n X.1 X.2.1 dL_sails_340 rfl (lv_at hl 7 rfl) ?_
                  refine lv_iload_n X.1 X.2.1 dL_sails_341 rfl (lv_at hl 6 rfl) ?_
                  refine lv_iconst (v := nI 0) X.1 X.2.1 dL_sails_342 (by decide) ?_
                  refine x_callV X hK hw (k := 0) (As := [.int (nI r), .int (nI 0)]) (rest := [.int (nI (lowN (v >>> ((nI 4) &&& 31)) 5))]) (w_race hI (by omega) jB288.1.1 hO286 (nI r) (nI 0) (fun g t tm hE => a_rac0 jB288 (by omega) (by omega) hE (by omega) tm)) (x_cwV yX7_race cX7_race 3 (some .int) 2 X q804 q805 q806 q1 q807 hd_X7_race ⟨(Nat.le_of_ble_eq_true rfl), (Nat.le_of_ble_eq_true rfl)⟩) (by omega) hO286.ma rfl rfl hl.1 rfl (Nat.le_of_ble_eq_true rfl) dL_sails_343 ⟨(Nat.le_of_ble_eq_true rfl), (Nat.le_of_ble_eq_true rfl)⟩ (fun v289 F290 H locs hp hw => ?_)
                  obtain ⟨e291, hO292, hf293⟩ := hp
                  refine x_top e291 ?_
                  replace hfr := hfr.tr hf293 (by omega) (by omega)
                  refine lv_icmp_lt (tgt := 364) X.1 X.2.1 dL_sails_346 (by decide) (fun c294 => ?_) (fun c294 => ?_)
                  · have n295 := (br_lt (by omega) (by omega)).mp c294
                    refine lv_iload X.1 X.2.1 dL_sails_364 (lv_at hl 2 rfl) ?_
                    refine lv_iload X.1 X.2.1 dL_sails_366 (lv_at hl 4 rfl) ?_
                    refine lv_aload_n X.1 X.2.1 dL_sails_368 rfl (lv_at hl 7 rfl) ?_
                    refine lv_iload_n X.1 X.2.1 dL_sails_369 rfl (lv_at hl 6 rfl) ?_
                    refine lv_iconst (v := nI 0) X.1 X.2.1 dL_sails_370 (by decide) ?_
                    refine x_callV X hK hw (k := 0) (As := [.int (nI r), .int (nI 0)]) (rest := [.int (nI (eA A r b 1)), .int (nI (lowN (v >>> ((nI 4) &&& 31)) 5))]) (w_race hI (by omega) jB288.1.1 hO292 (nI r) (nI 0) (fun g t tm hE => a_rac0 jB288 (by omega) (by omega) hE (by omega) tm)) (x_cwV yX7_race cX7_race 3 (some .int) 2 X q804 q805 q806 q1 q807 hd_X7_race ⟨(Nat.le_of_ble_eq_true rfl), (Nat.le_of_ble_eq_true rfl)⟩) (by omega) hO292.ma rfl rfl hl.1 rfl (Nat.le_of_ble_eq_true rfl) dL_sails_371 ⟨(Nat.le_of_ble_eq_true rfl), (Nat.le_of_ble_eq_true rfl)⟩ (fun v296 F297 H locs hp hw => ?_)
                    obtain ⟨e298, hO299, hf300⟩ := hp
                    refine x_top e298 ?_
                    replace hfr := hfr.tr hf300 (by omega) (by omega)
                    refine lv_irem X.1 X.2.1 dL_sails_374 (fun z => by have := (bz_eq (by omega)).mp z; omega) ?_
                    refine x_top (nI_mod (by omega) (by omega) (by omega)) ?_
                    refine lv_icmp_ne (tgt := 407) X.1 X.2.1 dL_sails_375 (by decide) (fun c301 => ?_) (fun c301 => ?_)
                    · have n302 : ¬ (lowN (v >>> ((nI 4) &&& 31)) 5) = ((eA A r b 1) % (rA B288 r 0)) := fun z => c301 ((nI_eq (by omega) (by omega)).mpr z)
                      refine lv_iload X.1 X.2.1 dL_sails_407 (lv_at hl 0 rfl) ?_
                      refine lv_iload X.1 X.2.1 dL_sails_409 (lv_at hl 4 rfl) ?_
                      refine lv_icmp_ne (tgt := 432) X.1 X.2.1 dL_sails_411 (by decide) (fun c303 => ?_) (fun c303 => ?_)
                      · exact absurd ((nI_eq (by omega) (by omega)).mpr (by omega)) c303
                      · have n304 := (nI_eq (by omega) (by omega)).mp c303
                        refine lv_aload_n X.1 X.2.1 dL_sails_414 rfl (lv_at hl 7 rfl) ?_
                        refine lv_iload_n X.1 X.2.1 dL_sails_415 rfl (lv_at hl 6 rfl) ?_
                        refine lv_iload_n X.1 X.2.1 dL_sails_416 rfl (lv_at hl 8 rfl) ?_
                        refine lv_iconst (v := nI 2) X.1 X.2.1 dL_sails_417 (by decide) ?_
                        refine x_callV X hK hw (k := 0) (As := [.int (nI r), .int (nI b), .int (nI 2)]) (rest := []) (w_result hI (by omega) jB288.1.1 hO299 (nI r) (nI b) (nI 2) (fun g t tm hE => a_res2 jB288 (by omega) (by omega) hE (by omega) (by omega) tm)) (x_cwV yX7_result cX7_result 4 (some .int) 3 X q695 q696 q697 q1 q698 hd_X7_result ⟨(Nat.le_of_ble_eq_true rfl), (Nat.le_of_ble_eq_true rfl)⟩) (by omega) hO299.ma rfl rfl hl.1 rfl (Nat.le_of_ble_eq_true rfl) dL_sails_418 ⟨(Nat.le_of_ble_eq_true rfl), (Nat.le_of_ble_eq_true rfl)⟩ (fun v305 F306 H locs hp hw => ?_)
                        obtain ⟨e307, hO308, hf309⟩ := hp
                        refine x_top e307 ?_
                        replace hfr := hfr.tr hf309 (by omega) (by omega)
                        refine lv_iload X.1 X.2.1 dL_sails_421 (lv_at hl 1 rfl) ?_
                        refine lv_iconst (v := nI 1) X.1 X.2.1 dL_sails_423 (by decide) ?_
                        refine lv_iadd X.1 X.2.1 dL_sails_424 ?_
                        refine x_top (nI_add _ _) ?_
                        refine lv_icmp_ne (tgt := 432) X.1 X.2.1 dL_sails_425 (by decide) (fun c310 => ?_) (fun c310 => ?_)
                        · exact absurd ((nI_eq (by omega) (by omega)).mpr (by omega)) c310
                        · have n311 := (nI_eq (by omega) (by omega)).mp c310
                          refine lv_iconst (v := nI 1) X.1 X.2.1 dL_sails_428 (by decide) ?_
                          refine lv_goto (tgt := 433) X.1 X.2.1 dL_sails_429 (by decide) ?_
                          exact x_iret X hr hlk hK hw (v := nI 1) (by first | rfl | exact nr_b _ | decide) (⟨rfl, ACT.mk1 jB288 (by omega) (by omega) mB288 hO308, hfr⟩) dL_sails_433
                    · exact absurd ((nI_eq (by omega) (by omega)).mp c301) (by omega)
                  · exact absurd ((br_lt (by omega) (by omega)).mpr (by omega)) c294
            · have n312 := (nI_eq (by omega) (by omega)).mp c148
              refine lv_aload_n X.1 X.2.1 dL_sails_194 rfl (lv_at hl 4 rfl) ?_
              refine lv_iload_n X.1 X.2.1 dL_sails_195 rfl (lv_at hl 5 rfl) ?_
              refine x_callV X hK hw (k := 0) (As := [.int (nI b)]) (rest := []) (w_line hI (by omega) hO31 (nI b) (fun g t hE => a_line_fi_r hrA hJ ((opn_r hrA).mpr hop) hb (by omega) (by omega) hE)) (x_cwV yX7_line cX7_line 2 (some .int) 1 X q353 q354 q355 q1 q356 hd_X7_line ⟨(Nat.le_of_ble_eq_true rfl), (Nat.le_of_ble_eq_true rfl)⟩) (by omega) hO31.ma rfl rfl hl.1 rfl (Nat.le_of_ble_eq_true rfl) dL_sails_196 ⟨(Nat.le_of_ble_eq_true rfl), (Nat.le_of_ble_eq_true rfl)⟩ (fun v313 F314 H locs hp hw => ?_)
              obtain ⟨e315, hO316, hf317⟩ := hp
              refine x_top e315 ?_
              replace hfr := hfr.tr hf317 (by omega) (by omega)
              obtain ⟨B318, hB318⟩ : ∃ y, y = ep (ep A r b 5 (A 0)) r b 0 3 := ⟨_, rfl⟩
              rw [← hB318] at hO316
              have jB318 : HJ ca B318 := by rw [hB318]; exact j_fin_r hrA hJ ((opn_r hrA).mpr hop) hb (by omega) (by omega)
              have eB318 : ∀ i, i ≠ 80 + 6 * (9 * r + b) + 0 → i ≠ 80 + 6 * (9 * r + b) + 5 → B318 i = A i := fun i h0 h5 => by rw [hB318]; exact (nup_ne h0).trans (nup_ne h5)
              have vB318 : eA B318 r b 0 = 3 := by rw [hB318]; exact ep_at
              have b0B318 : B318 0 = A 0 := eB318 0 (by omega) (by omega)
              have b1B318 : B318 1 = A 1 := eB318 1 (by omega) (by omega)
              have b2B318 : B318 2 = A 2 := eB318 2 (by omega) (by omega)
              have b3B318 : B318 3 = A 3 := eB318 3 (by omega) (by omega)
              have x1B318 : eA B318 r b 1 = eA A r b 1 := eB318 _ (by omega) (by omega)
              have x2B318 : eA B318 r b 2 = eA A r b 2 := eB318 _ (by omega) (by omega)
              have x3B318 : eA B318 r b 3 = eA A r b 3 := eB318 _ (by omega) (by omega)
              have x4B318 : eA B318 r b 4 = eA A r b 4 := eB318 _ (by omega) (by omega)
              have r0B318 : rA B318 r 0 = rA A r 0 := eB318 _ (by omega) (by omega)
              have r1B318 : rA B318 r 1 = rA A r 1 := eB318 _ (by omega) (by omega)
              have r2B318 : rA B318 r 2 = rA A r 2 := eB318 _ (by omega) (by omega)
              have mB318 : ∀ k, k < A 3 → pA A k 3 ≤ pA B318 k 3 := fun k hk => by rw [show pA B318 k 3 = pA A k 3 from eB318 _ (by omega) (by omega)]; exact Nat.le_refl _
              have qB318 : eA A r b 1 % rA B318 r 0 = eA A r b 1 % rA A r 0 := by rw [r0B318]
              refine lv_istore (lv' := [(7, .int (nI 3)), (6, .int (nI ((rA A r 0) * (rA A r 1)))), (5, .int (nI (eA A r b 1))), (4, .int (nI (eA A r b 0))), (3, .int (nI r)), (0, .ref (ad 0)), (1, .int (nI b)), (2, .int v)]) X.1 X.2.1 dL_sails_199 hl (by decide) rfl (fun ls hl => ?_)
              refine lv_aload_n X.1 X.2.1 dL_sails_201 rfl (lv_at hl 5 rfl) ?_
              refine lv_iconst (v := nI 3) X.1 X.2.1 dL_sails_202 (by decide) ?_
              refine x_callV X hK hw (k := 0) (As := [.int (nI 3)]) (rest := []) (w_count hI (by omega) hO316 (nI 3) (fun g t z n hE => a_cou3 jB318 (by omega) (by omega) hE z n)) (x_cwV yX7_count cX7_count 2 (some .int) 1 X q818 q819 q820 q1 q821 hd_X7_count ⟨(Nat.le_of_ble_eq_true rfl), (Nat.le_of_ble_eq_true rfl)⟩) (by omega) hO316.ma rfl rfl hl.1 rfl (Nat.le_of_ble_eq_true rfl) dL_sails_203 ⟨(Nat.le_of_ble_eq_true rfl), (Nat.le_of_ble_eq_true rfl)⟩ (fun v319 F320 H locs hp hw => ?_)
              obtain ⟨e321, hO322, hf323⟩ := hp
              refine x_top e321 ?_
              replace hfr := hfr.tr hf323 (by omega) (by omega)
              refine lv_aload_n X.1 X.2.1 dL_sails_206 rfl (lv_at hl 5 rfl) ?_
              refine lv_iload_n X.1 X.2.1 dL_sails_207 rfl (lv_at hl 4 rfl) ?_
              refine lv_iconst (v := nI 2) X.1 X.2.1 dL_sails_208 (by decide) ?_
              refine x_callV X hK hw (k := 0) (As := [.int (nI r), .int (nI 2)]) (rest := [.int (nI (B318 0))]) (w_race hI (by omega) jB318.1.1 hO322 (nI r) (nI 2) (fun g t tm hE => a_rac2 jB318 (by omega) (by omega) hE (by omega) tm)) (x_cwV yX7_race cX7_race 3 (some .int) 2 X q804 q805 q806 q1 q807 hd_X7_race ⟨(Nat.le_of_ble_eq_true rfl), (Nat.le_of_ble_eq_true rfl)⟩) (by omega) hO322.ma rfl rfl hl.1 rfl (Nat.le_of_ble_eq_true rfl) dL_sails_209 ⟨(Nat.le_of_ble_eq_true rfl), (Nat.le_of_ble_eq_true rfl)⟩ (fun v324 F325 H locs hp hw => ?_)
              obtain ⟨e326, hO327, hf328⟩ := hp
              refine x_top e326 ?_
              replace hfr := hfr.tr hf328 (by omega) (by omega)
              refine lv_icmp_lt (tgt := 219) X.1 X.2.1 dL_sails_212 (by decide) (fun c329 => ?_) (fun c329 => ?_)
              · have n330 := (br_lt (by omega) (by omega)).mp c329
                refine lv_iconst (v := nI 0) X.1 X.2.1 dL_sails_219 (by decide) ?_
                refine lv_istore (lv' := [(8, .int (nI 0)), (7, .int (nI 3)), (6, .int (nI ((rA A r 0) * (rA A r 1)))), (5, .int (nI (eA A r b 1))), (4, .int (nI (eA A r b 0))), (3, .int (nI r)), (0, .ref (ad 0)), (1, .int (nI b)), (2, .int v)]) X.1 X.2.1 dL_sails_220 hl (by decide) rfl (fun ls hl => ?_)
                refine lv_iload X.1 X.2.1 dL_sails_222 (lv_at hl 1 rfl) ?_
                refine lv_iload X.1 X.2.1 dL_sails_224 (lv_at hl 4 rfl) ?_
                refine lv_iconst (v := nI 2) X.1 X.2.1 dL_sails_226 (by decide) ?_
                refine lv_icmp_le (tgt := 235) X.1 X.2.1 dL_sails_227 (by decide) (fun c331 => ?_) (fun c331 => ?_)
                · have n332 := (nI_leI (by omega) (by omega)).mp c331
                  refine lv_iload X.1 X.2.1 dL_sails_235 (lv_at hl 4 rfl) ?_
                  refine lv_iconst (v := nI 2) X.1 X.2.1 dL_sails_237 (by decide) ?_
                  refine lv_icmp_ne (tgt := 245) X.1 X.2.1 dL_sails_238 (by decide) (fun c333 => ?_) (fun c333 => ?_)
                  · exact absurd ((nI_eq (by omega) (by omega)).mpr (by omega)) c333
                  · have n334 := (nI_eq (by omega) (by omega)).mp c333
                    refine lv_iconst (v := nI 3) X.1 X.2.1 dL_sails_241 (by decide) ?_
                    refine lv_goto (tgt := 258) X.1 X.2.1 dL_sails_242 (by decide) ?_
                    refine lv_icmp_ne (tgt := 287) X.1 X.2.1 dL_sails_258 (by decide) (fun c335 => ?_) (fun c335 => ?_)
                    · exact absurd (by decide) c335
                    · refine lv_aload_n X.1 X.2.1 dL_sails_261 rfl (lv_at hl 6 rfl) ?_
                      refine lv_iload_n X.1 X.2.1 dL_sails_262 rfl (lv_at hl 5 rfl) ?_
                      refine lv_iload_n X.1 X.2.1 dL_sails_263 rfl (lv_at hl 7 rfl) ?_
                      refine lv_iconst (v := nI 0) X.1 X.2.1 dL_sails_264 (by decide) ?_
                      refine x_callV X hK hw (k := 0) (As := [.int (nI r), .int (nI b), .int (nI 0)]) (rest := []) (w_result hI (by omega) jB318.1.1 hO327 (nI r) (nI b) (nI 0) (fun g t tm hE => a_res0 jB318 (by omega) (by omega) hE (by omega) (by omega) tm)) (x_cwV yX7_result cX7_result 4 (some .int) 3 X q695 q696 q697 q1 q698 hd_X7_result ⟨(Nat.le_of_ble_eq_true rfl), (Nat.le_of_ble_eq_true rfl)⟩) (by omega) hO327.ma rfl rfl hl.1 rfl (Nat.le_of_ble_eq_true rfl) dL_sails_265 ⟨(Nat.le_of_ble_eq_true rfl), (Nat.le_of_ble_eq_true rfl)⟩ (fun v336 F337 H locs hp hw => ?_)
                      obtain ⟨e338, hO339, hf340⟩ := hp
                      refine x_top e338 ?_
                      replace hfr := hfr.tr hf340 (by omega) (by omega)
                      refine lv_iload X.1 X.2.1 dL_sails_268 (lv_at hl 1 rfl) ?_
                      refine lv_if_ge (tgt := 278) X.1 X.2.1 dL_sails_270 (by decide) (fun c341 => ?_) (fun c341 => ?_)
                      · refine lv_iload X.1 X.2.1 dL_sails_278 (lv_at hl 1 rfl) ?_
                        refine lv_icmp_ne (tgt := 287) X.1 X.2.1 dL_sails_280 (by decide) (fun c342 => ?_) (fun c342 => ?_)
                        · exact absurd ((nI_eq (by omega) (by omega)).mpr (by omega)) c342
                        · have n343 := (nI_eq (by omega) (by omega)).mp c342
                          refine lv_iconst (v := nI 1) X.1 X.2.1 dL_sails_283 (by decide) ?_
                          refine lv_goto (tgt := 288) X.1 X.2.1 dL_sails_284 (by decide) ?_
                          exact x_iret X hr hlk hK hw (v := nI 1) (by first | rfl | exact nr_b _ | decide) (⟨rfl, ACT.mk1 jB318 (by omega) (by omega) mB318 hO339, hfr⟩) dL_sails_288
                      · exact absurd (by decide) c341
                · exact absurd ((nI_leI (by omega) (by omega)).mpr (by omega)) c331
              · have n344 : ¬ (B318 0) < (rA B318 r 2) := fun z => c329 ((br_lt (by omega) (by omega)).mpr z)
                refine lv_iconst (v := nI 1) X.1 X.2.1 dL_sails_215 (by decide) ?_
                refine lv_goto (tgt := 220) X.1 X.2.1 dL_sails_216 (by decide) ?_
                refine lv_istore (lv' := [(8, .int (nI 1)), (7, .int (nI 3)), (6, .int (nI ((rA A r 0) * (rA A r 1)))), (5, .int (nI (eA A r b 1))), (4, .int (nI (eA A r b 0))), (3, .int (nI r)), (0, .ref (ad 0)), (1, .int (nI b)), (2, .int v)]) X.1 X.2.1 dL_sails_220 hl (by decide) rfl (fun ls hl => ?_)
                refine lv_iload X.1 X.2.1 dL_sails_222 (lv_at hl 1 rfl) ?_
                refine lv_iload X.1 X.2.1 dL_sails_224 (lv_at hl 4 rfl) ?_
                refine lv_iconst (v := nI 2) X.1 X.2.1 dL_sails_226 (by decide) ?_
                refine lv_icmp_le (tgt := 235) X.1 X.2.1 dL_sails_227 (by decide) (fun c345 => ?_) (fun c345 => ?_)
                · have n346 := (nI_leI (by omega) (by omega)).mp c345
                  refine lv_iload X.1 X.2.1 dL_sails_235 (lv_at hl 4 rfl) ?_
                  refine lv_iconst (v := nI 2) X.1 X.2.1 dL_sails_237 (by decide) ?_
                  refine lv_icmp_ne (tgt := 245) X.1 X.2.1 dL_sails_238 (by decide) (fun c347 => ?_) (fun c347 => ?_)
                  · exact absurd ((nI_eq (by omega) (by omega)).mpr (by omega)) c347
                  · have n348 := (nI_eq (by omega) (by omega)).mp c347
                    refine lv_iconst (v := nI 3) X.1 X.2.1 dL_sails_241 (by decide) ?_
                    refine lv_goto (tgt := 258) X.1 X.2.1 dL_sails_242 (by decide) ?_
                    refine lv_icmp_ne (tgt := 287) X.1 X.2.1 dL_sails_258 (by decide) (fun c349 => ?_) (fun c349 => ?_)
                    · exact absurd (by decide) c349
                    · refine lv_aload_n X.1 X.2.1 dL_sails_261 rfl (lv_at hl 6 rfl) ?_
                      refine lv_iload_n X.1 X.2.1 dL_sails_262 rfl (lv_at hl 5 rfl) ?_
                      refine lv_iload_n X.1 X.2.1 dL_sails_263 rfl (lv_at hl 7 rfl) ?_
                      refine lv_iconst (v := nI 0) X.1 X.2.1 dL_sails_264 (by decide) ?_
                      refine x_callV X hK hw (k := 0) (As := [.int (nI r), .int (nI b), .int (nI 0)]) (rest := []) (w_result hI (by omega) jB318.1.1 hO327 (nI r) (nI b) (nI 0) (fun g t tm hE => a_res0 jB318 (by omega) (by omega) hE (by omega) (by omega) tm)) (x_cwV yX7_result cX7_result 4 (some .int) 3 X q695 q696 q697 q1 q698 hd_X7_result ⟨(Nat.le_of_ble_eq_true rfl), (Nat.le_of_ble_eq_true rfl)⟩) (by omega) hO327.ma rfl rfl hl.1 rfl (Nat.le_of_ble_eq_true rfl) dL_sails_265 ⟨(Nat.le_of_ble_eq_true rfl), (Nat.le_of_ble_eq_true rfl)⟩ (fun v350 F351 H locs hp hw => ?_)
                      obtain ⟨e352, hO353, hf354⟩ := hp
                      refine x_top e352 ?_
                      replace hfr := hfr.tr hf354 (by omega) (by omega)
                      refine lv_iload X.1 X.2.1 dL_sails_268 (lv_at hl 1 rfl) ?_
                      refine lv_if_ge (tgt := 278) X.1 X.2.1 dL_sails_270 (by decide) (fun c355 => ?_) (fun c355 => ?_)
                      · refine lv_iload X.1 X.2.1 dL_sails_278 (lv_at hl 1 rfl) ?_
                        refine lv_icmp_ne (tgt := 287) X.1 X.2.1 dL_sails_280 (by decide) (fun c356 => ?_) (fun c356 => ?_)
                        · exact absurd ((nI_eq (by omega) (by omega)).mpr (by omega)) c356
                        · have n357 := (nI_eq (by omega) (by omega)).mp c356
                          refine lv_iconst (v := nI 1) X.1 X.2.1 dL_sails_283 (by decide) ?_
                          refine lv_goto (tgt := 288) X.1 X.2.1 dL_sails_284 (by decide) ?_
                          exact x_iret X hr hlk hK hw (v := nI 1) (by first | rfl | exact nr_b _ | decide) (⟨rfl, ACT.mk1 jB318 (by omega) (by omega) mB318 hO353, hfr⟩) dL_sails_288
                      · exact absurd (by decide) c355
                · exact absurd ((nI_leI (by omega) (by omega)).mpr (by omega)) c345
        · have n358 := (nI_eq (by omega) (by omega)).mp c37
          refine lv_iload X.1 X.2.1 dL_sails_169 (lv_at hl 2 rfl) ?_
          refine lv_iconst (v := nI 2) X.1 X.2.1 dL_sails_171 (by decide) ?_
          refine lv_icmp_ne (tgt := 181) X.1 X.2.1 dL_sails_172 (by decide) (fun c359 => ?_) (fun c359 => ?_)
          · have n360 : ¬ (eA A r b 0) = 2 := fun z => c359 ((nI_eq (by omega) (by omega)).mpr z)
            refine lv_iload X.1 X.2.1 dL_sails_181 (lv_at hl 2 rfl) ?_
            refine lv_iconst (v := nI 2) X.1 X.2.1 dL_sails_183 (by decide) ?_
            refine lv_icmp_ne (tgt := 194) X.1 X.2.1 dL_sails_184 (by decide) (fun c361 => ?_) (fun c361 => ?_)
            · have n362 : ¬ (eA A r b 0) = 2 := fun z => c361 ((nI_eq (by omega) (by omega)).mpr z)
              rcases (show 3 ≤ eA A r b 0 ∨ (eA A r b 0 ≤ 1 ∧ rA A r 2 ≤ A 0) ∨ (eA A r b 0 ≤ 1 ∧ A 0 < rA A r 2) by omega) with hq | hq | hq
              · refine lv_aload_n X.1 X.2.1 dL_sails_194 rfl (lv_at hl 4 rfl) ?_
                refine lv_iload_n X.1 X.2.1 dL_sails_195 rfl (lv_at hl 5 rfl) ?_
                refine x_callV X hK hw (k := 0) (As := [.int (nI b)]) (rest := []) (w_line hI (by omega) hO31 (nI b) (fun g t hE => a_line_no_r hrA hJ hb (fun _ => by omega) hE)) (x_cwV yX7_line cX7_line 2 (some .int) 1 X q353 q354 q355 q1 q356 hd_X7_line ⟨(Nat.le_of_ble_eq_true rfl), (Nat.le_of_ble_eq_true rfl)⟩) (by omega) hO31.ma rfl rfl hl.1 rfl (Nat.le_of_ble_eq_true rfl) dL_sails_196 ⟨(Nat.le_of_ble_eq_true rfl), (Nat.le_of_ble_eq_true rfl)⟩ (fun v363 F364 H locs hp hw => ?_)
                obtain ⟨e365, hO366, hf367⟩ := hp
                refine x_top e365 ?_
                replace hfr := hfr.tr hf367 (by omega) (by omega)
                refine lv_istore (lv' := [(7, .int ((-4))), (6, .int (nI ((rA A r 0) * (rA A r 1)))), (5, .int (nI (eA A r b 1))), (4, .int (nI (eA A r b 0))), (3, .int (nI r)), (0, .ref (ad 0)), (1, .int (nI b)), (2, .int v)]) X.1 X.2.1 dL_sails_199 hl (by decide) rfl (fun ls hl => ?_)
                refine lv_aload_n X.1 X.2.1 dL_sails_201 rfl (lv_at hl 5 rfl) ?_
                refine lv_iconst (v := nI 3) X.1 X.2.1 dL_sails_202 (by decide) ?_
                refine x_callV X hK hw (k := 0) (As := [.int (nI 3)]) (rest := []) (w_count hI (by omega) hO366 (nI 3) (fun g t z n hE => a_cou3 hJ (by omega) hk hE z n)) (x_cwV yX7_count cX7_count 2 (some .int) 1 X q818 q819 q820 q1 q821 hd_X7_count ⟨(Nat.le_of_ble_eq_true rfl), (Nat.le_of_ble_eq_true rfl)⟩) (by omega) hO366.ma rfl rfl hl.1 rfl (Nat.le_of_ble_eq_true rfl) dL_sails_203 ⟨(Nat.le_of_ble_eq_true rfl), (Nat.le_of_ble_eq_true rfl)⟩ (fun v368 F369 H locs hp hw => ?_)
                obtain ⟨e370, hO371, hf372⟩ := hp
                refine x_top e370 ?_
                replace hfr := hfr.tr hf372 (by omega) (by omega)
                refine lv_aload_n X.1 X.2.1 dL_sails_206 rfl (lv_at hl 5 rfl) ?_
                refine lv_iload_n X.1 X.2.1 dL_sails_207 rfl (lv_at hl 4 rfl) ?_
                refine lv_iconst (v := nI 2) X.1 X.2.1 dL_sails_208 (by decide) ?_
                refine x_callV X hK hw (k := 0) (As := [.int (nI r), .int (nI 2)]) (rest := [.int (nI (A 0))]) (w_race hI (by omega) hJ.1.1 hO371 (nI r) (nI 2) (fun g t tm hE => a_rac2 hJ (by omega) hk hE (by omega) tm)) (x_cwV yX7_race cX7_race 3 (some .int) 2 X q804 q805 q806 q1 q807 hd_X7_race ⟨(Nat.le_of_ble_eq_true rfl), (Nat.le_of_ble_eq_true rfl)⟩) (by omega) hO371.ma rfl rfl hl.1 rfl (Nat.le_of_ble_eq_true rfl) dL_sails_209 ⟨(Nat.le_of_ble_eq_true rfl), (Nat.le_of_ble_eq_true rfl)⟩ (fun v373 F374 H locs hp hw => ?_)
                obtain ⟨e375, hO376, hf377⟩ := hp
                refine x_top e375 ?_
                replace hfr := hfr.tr hf377 (by omega) (by omega)
                refine lv_icmp_lt (tgt := 219) X.1 X.2.1 dL_sails_212 (by decide) (fun c378 => ?_) (fun c378 => ?_)
                · have n379 := (br_lt (by omega) (by omega)).mp c378
                  refine lv_iconst (v := nI 0) X.1 X.2.1 dL_sails_219 (by decide) ?_
                  refine lv_istore (lv' := [(8, .int (nI 0)), (7, .int ((-4))), (6, .int (nI ((rA A r 0) * (rA A r 1)))), (5, .int (nI (eA A r b 1))), (4, .int (nI (eA A r b 0))), (3, .int (nI r)), (0, .ref (ad 0)), (1, .int (nI b)), (2, .int v)]) X.1 X.2.1 dL_sails_220 hl (by decide) rfl (fun ls hl => ?_)
                  refine lv_iload X.1 X.2.1 dL_sails_222 (lv_at hl 1 rfl) ?_
                  refine lv_iload X.1 X.2.1 dL_sails_224 (lv_at hl 4 rfl) ?_
                  refine lv_iconst (v := nI 2) X.1 X.2.1 dL_sails_226 (by decide) ?_
                  refine lv_icmp_le (tgt := 235) X.1 X.2.1 dL_sails_227 (by decide) (fun c380 => ?_) (fun c380 => ?_)
                  · exact absurd ((nI_leI (by omega) (by omega)).mp c380) (by omega)
                  · have n381 : ¬ (eA A r b 0) ≤ 2 := fun z => c380 ((nI_leI (by omega) (by omega)).mpr z)
                    refine lv_bipush (v := (-4)) X.1 X.2.1 dL_sails_230 (by decide) ?_
                    refine lv_goto (tgt := 258) X.1 X.2.1 dL_sails_232 (by decide) ?_
                    refine lv_icmp_ne (tgt := 287) X.1 X.2.1 dL_sails_258 (by decide) (fun c382 => ?_) (fun c382 => ?_)
                    · exact absurd (by decide) c382
                    · refine lv_aload_n X.1 X.2.1 dL_sails_261 rfl (lv_at hl 6 rfl) ?_
                      refine lv_iload_n X.1 X.2.1 dL_sails_262 rfl (lv_at hl 5 rfl) ?_
                      refine lv_iload_n X.1 X.2.1 dL_sails_263 rfl (lv_at hl 7 rfl) ?_
                      refine lv_iconst (v := nI 0) X.1 X.2.1 dL_sails_264 (by decide) ?_
                      refine x_callV X hK hw (k := 0) (As := [.int (nI r), .int (nI b), .int (nI 0)]) (rest := []) (w_result hI (by omega) hJ.1.1 hO376 (nI r) (nI b) (nI 0) (fun g t tm hE => a_res0 hJ (by omega) hk hE (by omega) (by omega) tm)) (x_cwV yX7_result cX7_result 4 (some .int) 3 X q695 q696 q697 q1 q698 hd_X7_result ⟨(Nat.le_of_ble_eq_true rfl), (Nat.le_of_ble_eq_true rfl)⟩) (by omega) hO376.ma rfl rfl hl.1 rfl (Nat.le_of_ble_eq_true rfl) dL_sails_265 ⟨(Nat.le_of_ble_eq_true rfl), (Nat.le_of_ble_eq_true rfl)⟩ (fun v383 F384 H locs hp hw => ?_)
                      obtain ⟨e385, hO386, hf387⟩ := hp
                      refine x_top e385 ?_
                      replace hfr := hfr.tr hf387 (by omega) (by omega)
                      refine lv_iload X.1 X.2.1 dL_sails_268 (lv_at hl 1 rfl) ?_
                      refine lv_if_ge (tgt := 278) X.1 X.2.1 dL_sails_270 (by decide) (fun c388 => ?_) (fun c388 => ?_)
                      · exact absurd c388 (by decide)
                      · refine lv_iload X.1 X.2.1 dL_sails_273 (lv_at hl 4 rfl) ?_
                        refine lv_goto (tgt := 280) X.1 X.2.1 dL_sails_275 (by decide) ?_
                        refine lv_icmp_ne (tgt := 287) X.1 X.2.1 dL_sails_280 (by decide) (fun c389 => ?_) (fun c389 => ?_)
                        · exact absurd ((nI_eq (by omega) (by omega)).mpr (by omega)) c389
                        · have n390 := (nI_eq (by omega) (by omega)).mp c389
                          refine lv_iconst (v := nI 1) X.1 X.2.1 dL_sails_283 (by decide) ?_
                          refine lv_goto (tgt := 288) X.1 X.2.1 dL_sails_284 (by decide) ?_
                          exact x_iret X hr hlk hK hw (v := nI 1) (by first | rfl | exact nr_b _ | decide) (⟨rfl, ACT.same hJ hO386, hfr⟩) dL_sails_288
                · have n391 : ¬ (A 0) < (rA A r 2) := fun z => c378 ((br_lt (by omega) (by omega)).mpr z)
                  refine lv_iconst (v := nI 1) X.1 X.2.1 dL_sails_215 (by decide) ?_
                  refine lv_goto (tgt := 220) X.1 X.2.1 dL_sails_216 (by decide) ?_
                  refine lv_istore (lv' := [(8, .int (nI 1)), (7, .int ((-4))), (6, .int (nI ((rA A r 0) * (rA A r 1)))), (5, .int (nI (eA A r b 1))), (4, .int (nI (eA A r b 0))), (3, .int (nI r)), (0, .ref (ad 0)), (1, .int (nI b)), (2, .int v)]) X.1 X.2.1 dL_sails_220 hl (by decide) rfl (fun ls hl => ?_)
                  refine lv_iload X.1 X.2.1 dL_sails_222 (lv_at hl 1 rfl) ?_
                  refine lv_iload X.1 X.2.1 dL_sails_224 (lv_at hl 4 rfl) ?_
                  refine lv_iconst (v := nI 2) X.1 X.2.1 dL_sails_226 (by decide) ?_
                  refine lv_icmp_le (tgt := 235) X.1 X.2.1 dL_sails_227 (by decide) (fun c392 => ?_) (fun c392 => ?_)
                  · exact absurd ((nI_leI (by omega) (by omega)).mp c392) (by omega)
                  · have n393 : ¬ (eA A r b 0) ≤ 2 := fun z => c392 ((nI_leI (by omega) (by omega)).mpr z)
                    refine lv_bipush (v := (-4)) X.1 X.2.1 dL_sails_230 (by decide) ?_
                    refine lv_goto (tgt := 258) X.1 X.2.1 dL_sails_232 (by decide) ?_
                    refine lv_icmp_ne (tgt := 287) X.1 X.2.1 dL_sails_258 (by decide) (fun c394 => ?_) (fun c394 => ?_)
                    · exact absurd (by decide) c394
                    · refine lv_aload_n X.1 X.2.1 dL_sails_261 rfl (lv_at hl 6 rfl) ?_
                      refine lv_iload_n X.1 X.2.1 dL_sails_262 rfl (lv_at hl 5 rfl) ?_
                      refine lv_iload_n X.1 X.2.1 dL_sails_263 rfl (lv_at hl 7 rfl) ?_
                      refine lv_iconst (v := nI 0) X.1 X.2.1 dL_sails_264 (by decide) ?_
                      refine x_callV X hK hw (k := 0) (As := [.int (nI r), .int (nI b), .int (nI 0)]) (rest := []) (w_result hI (by omega) hJ.1.1 hO376 (nI r) (nI b) (nI 0) (fun g t tm hE => a_res0 hJ (by omega) hk hE (by omega) (by omega) tm)) (x_cwV yX7_result cX7_result 4 (some .int) 3 X q695 q696 q697 q1 q698 hd_X7_result ⟨(Nat.le_of_ble_eq_true rfl), (Nat.le_of_ble_eq_true rfl)⟩) (by omega) hO376.ma rfl rfl hl.1 rfl (Nat.le_of_ble_eq_true rfl) dL_sails_265 ⟨(Nat.le_of_ble_eq_true rfl), (Nat.le_of_ble_eq_true rfl)⟩ (fun v395 F396 H locs hp hw => ?_)
                      obtain ⟨e397, hO398, hf399⟩ := hp
                      refine x_top e397 ?_
                      replace hfr := hfr.tr hf399 (by omega) (by omega)
                      refine lv_iload X.1 X.2.1 dL_sails_268 (lv_at hl 1 rfl) ?_
                      refine lv_if_ge (tgt := 278) X.1 X.2.1 dL_sails_270 (by decide) (fun c400 => ?_) (fun c400 => ?_)
                      · exact absurd c400 (by decide)
                      · refine lv_iload X.1 X.2.1 dL_sails_273 (lv_at hl 4 rfl) ?_
                        refine lv_goto (tgt := 280) X.1 X.2.1 dL_sails_275 (by decide) ?_
                        refine lv_icmp_ne (tgt := 287) X.1 X.2.1 dL_sails_280 (by decide) (fun c401 => ?_) (fun c401 => ?_)
                        · exact absurd ((nI_eq (by omega) (by omega)).mpr (by omega)) c401
                        · have n402 := (nI_eq (by omega) (by omega)).mp c401
                          refine lv_iconst (v := nI 1) X.1 X.2.1 dL_sails_283 (by decide) ?_
                          refine lv_goto (tgt := 288) X.1 X.2.1 dL_sails_284 (by decide) ?_
                          exact x_iret X hr hlk hK hw (v := nI 1) (by first | rfl | exact nr_b _ | decide) (⟨rfl, ACT.same hJ hO398, hfr⟩) dL_sails_288
              · refine lv_aload_n X.1 X.2.1 dL_sails_194 rfl (lv_at hl 4 rfl) ?_
                refine lv_iload_n X.1 X.2.1 dL_sails_195 rfl (lv_at hl 5 rfl) ?_
                refine x_callV X hK hw (k := 0) (As := [.int (nI b)]) (rest := []) (w_line hI (by omega) hO31 (nI b) (fun g t hE => a_line_go_r hrA hJ (by omega) hk ((opn_r hrA).mpr hop) hb (by omega) (by omega) hE)) (x_cwV yX7_line cX7_line 2 (some .int) 1 X q353 q354 q355 q1 q356 hd_X7_line ⟨(Nat.le_of_ble_eq_true rfl), (Nat.le_of_ble_eq_true rfl)⟩) (by omega) hO31.ma rfl rfl hl.1 rfl (Nat.le_of_ble_eq_true rfl) dL_sails_196 ⟨(Nat.le_of_ble_eq_true rfl), (Nat.le_of_ble_eq_true rfl)⟩ (fun v403 F404 H locs hp hw => ?_)
                obtain ⟨e405, hO406, hf407⟩ := hp
                refine x_top e405 ?_
                replace hfr := hfr.tr hf407 (by omega) (by omega)
                obtain ⟨B408, hB408⟩ : ∃ y, y = ep A r b 0 2 := ⟨_, rfl⟩
                rw [← hB408] at hO406
                have jB408 : HJ ca B408 := by rw [hB408]; exact j_kind_r hrA hJ (by omega) hb (by omega) (by omega) (by omega) (fun _ => by omega)
                have eB408 : ∀ i, i ≠ 80 + 6 * (9 * r + b) + 0 → B408 i = A i := fun i h0 => by rw [hB408]; exact nup_ne h0
                have vB408 : eA B408 r b 0 = 2 := by rw [hB408]; exact ep_at
                have b0B408 : B408 0 = A 0 := eB408 0 (by omega)
                have b1B408 : B408 1 = A 1 := eB408 1 (by omega)
                have b2B408 : B408 2 = A 2 := eB408 2 (by omega)
                have b3B408 : B408 3 = A 3 := eB408 3 (by omega)
                have x1B408 : eA B408 r b 1 = eA A r b 1 := eB408 _ (by omega)
                have x2B408 : eA B408 r b 2 = eA A r b 2 := eB408 _ (by omega)
                have x3B408 : eA B408 r b 3 = eA A r b 3 := eB408 _ (by omega)
                have x4B408 : eA B408 r b 4 = eA A r b 4 := eB408 _ (by omega)
                have r0B408 : rA B408 r 0 = rA A r 0 := eB408 _ (by omega)
                have r1B408 : rA B408 r 1 = rA A r 1 := eB408 _ (by omega)
                have r2B408 : rA B408 r 2 = rA A r 2 := eB408 _ (by omega)
                have mB408 : ∀ k, k < A 3 → pA A k 3 ≤ pA B408 k 3 := fun k hk => by rw [show pA B408 k 3 = pA A k 3 from eB408 _ (by omega)]; exact Nat.le_refl _
                have qB408 : eA A r b 1 % rA B408 r 0 = eA A r b 1 % rA A r 0 := by rw [r0B408]
                refine lv_istore (lv' := [(7, .int (nI 2)), (6, .int (nI ((rA A r 0) * (rA A r 1)))), (5, .int (nI (eA A r b 1))), (4, .int (nI (eA A r b 0))), (3, .int (nI r)), (0, .ref (ad 0)), (1, .int (nI b)), (2, .int v)]) X.1 X.2.1 dL_sails_199 hl (by decide) rfl (fun ls hl => ?_)
                refine lv_aload_n X.1 X.2.1 dL_sails_201 rfl (lv_at hl 5 rfl) ?_
                refine lv_iconst (v := nI 3) X.1 X.2.1 dL_sails_202 (by decide) ?_
                refine x_callV X hK hw (k := 0) (As := [.int (nI 3)]) (rest := []) (w_count hI (by omega) hO406 (nI 3) (fun g t z n hE => a_cou3 jB408 (by omega) (by omega) hE z n)) (x_cwV yX7_count cX7_count 2 (some .int) 1 X q818 q819 q820 q1 q821 hd_X7_count ⟨(Nat.le_of_ble_eq_true rfl), (Nat.le_of_ble_eq_true rfl)⟩) (by omega) hO406.ma rfl rfl hl.1 rfl (Nat.le_of_ble_eq_true rfl) dL_sails_203 ⟨(Nat.le_of_ble_eq_true rfl), (Nat.le_of_ble_eq_true rfl)⟩ (fun v409 F410 H locs hp hw => ?_)
                obtain ⟨e411, hO412, hf413⟩ := hp
                refine x_top e411 ?_
                replace hfr := hfr.tr hf413 (by omega) (by omega)
                refine lv_aload_n X.1 X.2.1 dL_sails_206 rfl (lv_at hl 5 rfl) ?_
                refine lv_iload_n X.1 X.2.1 dL_sails_207 rfl (lv_at hl 4 rfl) ?_
                refine lv_iconst (v := nI 2) X.1 X.2.1 dL_sails_208 (by decide) ?_
                refine x_callV X hK hw (k := 0) (As := [.int (nI r), .int (nI 2)]) (rest := [.int (nI (B408 0))]) (w_race hI (by omega) jB408.1.1 hO412 (nI r) (nI 2) (fun g t tm hE => a_rac2 jB408 (by omega) (by omega) hE (by omega) tm)) (x_cwV yX7_race cX7_race 3 (some .int) 2 X q804 q805 q806 q1 q807 hd_X7_race ⟨(Nat.le_of_ble_eq_true rfl), (Nat.le_of_ble_eq_true rfl)⟩) (by omega) hO412.ma rfl rfl hl.1 rfl (Nat.le_of_ble_eq_true rfl) dL_sails_209 ⟨(Nat.le_of_ble_eq_true rfl), (Nat.le_of_ble_eq_true rfl)⟩ (fun v414 F415 H locs hp hw => ?_)
                obtain ⟨e416, hO417, hf418⟩ := hp
                refine x_top e416 ?_
                replace hfr := hfr.tr hf418 (by omega) (by omega)
                refine lv_icmp_lt (tgt := 219) X.1 X.2.1 dL_sails_212 (by decide) (fun c419 => ?_) (fun c419 => ?_)
                · exact absurd ((br_lt (by omega) (by omega)).mp c419) (by omega)
                · have n420 : ¬ (B408 0) < (rA B408 r 2) := fun z => c419 ((br_lt (by omega) (by omega)).mpr z)
                  refine lv_iconst (v := nI 1) X.1 X.2.1 dL_sails_215 (by decide) ?_
                  refine lv_goto (tgt := 220) X.1 X.2.1 dL_sails_216 (by decide) ?_
                  refine lv_istore (lv' := [(8, .int (nI 1)), (7, .int (nI 2)), (6, .int (nI ((rA A r 0) * (rA A r 1)))), (5, .int (nI (eA A r b 1))), (4, .int (nI (eA A r b 0))), (3, .int (nI r)), (0, .ref (ad 0)), (1, .int (nI b)), (2, .int v)]) X.1 X.2.1 dL_sails_220 hl (by decide) rfl (fun ls hl => ?_)
                  refine lv_iload X.1 X.2.1 dL_sails_222 (lv_at hl 1 rfl) ?_
                  refine lv_iload X.1 X.2.1 dL_sails_224 (lv_at hl 4 rfl) ?_
                  refine lv_iconst (v := nI 2) X.1 X.2.1 dL_sails_226 (by decide) ?_
                  refine lv_icmp_le (tgt := 235) X.1 X.2.1 dL_sails_227 (by decide) (fun c421 => ?_) (fun c421 => ?_)
                  · have n422 := (nI_leI (by omega) (by omega)).mp c421
                    refine lv_iload X.1 X.2.1 dL_sails_235 (lv_at hl 4 rfl) ?_
                    refine lv_iconst (v := nI 2) X.1 X.2.1 dL_sails_237 (by decide) ?_
                    refine lv_icmp_ne (tgt := 245) X.1 X.2.1 dL_sails_238 (by decide) (fun c423 => ?_) (fun c423 => ?_)
                    · have n424 : ¬ (eA A r b 0) = 2 := fun z => c423 ((nI_eq (by omega) (by omega)).mpr z)
                      refine lv_iload X.1 X.2.1 dL_sails_245 (lv_at hl 0 rfl) ?_
                      refine lv_if_eq (tgt := 254) X.1 X.2.1 dL_sails_247 (by decide) (fun c425 => ?_) (fun c425 => ?_)
                      · exact absurd c425 (by decide)
                      · refine lv_iconst (v := nI 2) X.1 X.2.1 dL_sails_250 (by decide) ?_
                        refine lv_goto (tgt := 258) X.1 X.2.1 dL_sails_251 (by decide) ?_
                        refine lv_icmp_ne (tgt := 287) X.1 X.2.1 dL_sails_258 (by decide) (fun c426 => ?_) (fun c426 => ?_)
                        · exact absurd (by decide) c426
                        · refine lv_aload_n X.1 X.2.1 dL_sails_261 rfl (lv_at hl 6 rfl) ?_
                          refine lv_iload_n X.1 X.2.1 dL_sails_262 rfl (lv_at hl 5 rfl) ?_
                          refine lv_iload_n X.1 X.2.1 dL_sails_263 rfl (lv_at hl 7 rfl) ?_
                          refine lv_iconst (v := nI 0) X.1 X.2.1 dL_sails_264 (by decide) ?_
                          refine x_callV X hK hw (k := 0) (As := [.int (nI r), .int (nI b), .int (nI 0)]) (rest := []) (w_result hI (by omega) jB408.1.1 hO417 (nI r) (nI b) (nI 0) (fun g t tm hE => a_res0 jB408 (by omega) (by omega) hE (by omega) (by omega) tm)) (x_cwV yX7_result cX7_result 4 (some .int) 3 X q695 q696 q697 q1 q698 hd_X7_result ⟨(Nat.le_of_ble_eq_true rfl), (Nat.le_of_ble_eq_true rfl)⟩) (by omega) hO417.ma rfl rfl hl.1 rfl (Nat.le_of_ble_eq_true rfl) dL_sails_265 ⟨(Nat.le_of_ble_eq_true rfl), (Nat.le_of_ble_eq_true rfl)⟩ (fun v427 F428 H locs hp hw => ?_)
                          obtain ⟨e429, hO430, hf431⟩ := hp
                          refine x_top e429 ?_
                          replace hfr := hfr.tr hf431 (by omega) (by omega)
                          refine lv_iload X.1 X.2.1 dL_sails_268 (lv_at hl 1 rfl) ?_
                          refine lv_if_ge (tgt := 278) X.1 X.2.1 dL_sails_270 (by decide) (fun c432 => ?_) (fun c432 => ?_)
                          · refine lv_iload X.1 X.2.1 dL_sails_278 (lv_at hl 1 rfl) ?_
                            refine lv_icmp_ne (tgt := 287) X.1 X.2.1 dL_sails_280 (by decide) (fun c433 => ?_) (fun c433 => ?_)
                            · exact absurd ((nI_eq (by omega) (by omega)).mpr (by omega)) c433
                            · have n434 := (nI_eq (by omega) (by omega)).mp c433
                              refine lv_iconst (v := nI 1) X.1 X.2.1 dL_sails_283 (by decide) ?_
                              refine lv_goto (tgt := 288) X.1 X.2.1 dL_sails_284 (by decide) ?_
                              exact x_iret X hr hlk hK hw (v := nI 1) (by first | rfl | exact nr_b _ | decide) (⟨rfl, ACT.mk1 jB408 (by omega) (by omega) mB408 hO430, hfr⟩) dL_sails_288
                          · exact absurd (by decide) c432
                    · exact absurd ((nI_eq (by omega) (by omega)).mp c423) (by omega)
                  · exact absurd ((nI_leI (by omega) (by omega)).mpr (by omega)) c421
              · refine lv_aload_n X.1 X.2.1 dL_sails_194 rfl (lv_at hl 4 rfl) ?_
                refine lv_iload_n X.1 X.2.1 dL_sails_195 rfl (lv_at hl 5 rfl) ?_
                refine x_callV X hK hw (k := 0) (As := [.int (nI b)]) (rest := []) (w_line hI (by omega) hO31 (nI b) (fun g t hE => a_line_er_r hrA hJ (by omega) hk ((opn_r hrA).mpr hop) hb (by omega) (by omega) hE)) (x_cwV yX7_line cX7_line 2 (some .int) 1 X q353 q354 q355 q1 q356 hd_X7_line ⟨(Nat.le_of_ble_eq_true rfl), (Nat.le_of_ble_eq_true rfl)⟩) (by omega) hO31.ma rfl rfl hl.1 rfl (Nat.le_of_ble_eq_true rfl) dL_sails_196 ⟨(Nat.le_of_ble_eq_true rfl), (Nat.le_of_ble_eq_true rfl)⟩ (fun v435 F436 H locs hp hw => ?_)
                obtain ⟨e437, hO438, hf439⟩ := hp
                refine x_top e437 ?_
                replace hfr := hfr.tr hf439 (by omega) (by omega)
                obtain ⟨B440, hB440⟩ : ∃ y, y = ep A r b 0 (1 - eA A r b 0) := ⟨_, rfl⟩
                rw [← hB440] at hO438
                have jB440 : HJ ca B440 := by rw [hB440]; exact j_kind_r hrA hJ (by omega) hb (by omega) (by omega) (by omega) (fun q => absurd q (by omega))
                have eB440 : ∀ i, i ≠ 80 + 6 * (9 * r + b) + 0 → B440 i = A i := fun i h0 => by rw [hB440]; exact nup_ne h0
                have vB440 : eA B440 r b 0 = 1 - eA A r b 0 := by rw [hB440]; exact ep_at
                have b0B440 : B440 0 = A 0 := eB440 0 (by omega)
                have b1B440 : B440 1 = A 1 := eB440 1 (by omega)
                have b2B440 : B440 2 = A 2 := eB440 2 (by omega)
                have b3B440 : B440 3 = A 3 := eB440 3 (by omega)
                have x1B440 : eA B440 r b 1 = eA A r b 1 := eB440 _ (by omega)
                have x2B440 : eA B440 r b 2 = eA A r b 2 := eB440 _ (by omega)
                have x3B440 : eA B440 r b 3 = eA A r b 3 := eB440 _ (by omega)
                have x4B440 : eA B440 r b 4 = eA A r b 4 := eB440 _ (by omega)
                have r0B440 : rA B440 r 0 = rA A r 0 := eB440 _ (by omega)
                have r1B440 : rA B440 r 1 = rA A r 1 := eB440 _ (by omega)
                have r2B440 : rA B440 r 2 = rA A r 2 := eB440 _ (by omega)
                have mB440 : ∀ k, k < A 3 → pA A k 3 ≤ pA B440 k 3 := fun k hk => by rw [show pA B440 k 3 = pA A k 3 from eB440 _ (by omega)]; exact Nat.le_refl _
                have qB440 : eA A r b 1 % rA B440 r 0 = eA A r b 1 % rA A r 0 := by rw [r0B440]
                refine lv_istore (lv' := [(7, .int (nI (1 - eA A r b 0))), (6, .int (nI ((rA A r 0) * (rA A r 1)))), (5, .int (nI (eA A r b 1))), (4, .int (nI (eA A r b 0))), (3, .int (nI r)), (0, .ref (ad 0)), (1, .int (nI b)), (2, .int v)]) X.1 X.2.1 dL_sails_199 hl (by decide) rfl (fun ls hl => ?_)
                refine lv_aload_n X.1 X.2.1 dL_sails_201 rfl (lv_at hl 5 rfl) ?_
                refine lv_iconst (v := nI 3) X.1 X.2.1 dL_sails_202 (by decide) ?_
                refine x_callV X hK hw (k := 0) (As := [.int (nI 3)]) (rest := []) (w_count hI (by omega) hO438 (nI 3) (fun g t z n hE => a_cou3 jB440 (by omega) (by omega) hE z n)) (x_cwV yX7_count cX7_count 2 (some .int) 1 X q818 q819 q820 q1 q821 hd_X7_count ⟨(Nat.le_of_ble_eq_true rfl), (Nat.le_of_ble_eq_true rfl)⟩) (by omega) hO438.ma rfl rfl hl.1 rfl (Nat.le_of_ble_eq_true rfl) dL_sails_203 ⟨(Nat.le_of_ble_eq_true rfl), (Nat.le_of_ble_eq_true rfl)⟩ (fun v441 F442 H locs hp hw => ?_)
                obtain ⟨e443, hO444, hf445⟩ := hp
                refine x_top e443 ?_
                replace hfr := hfr.tr hf445 (by omega) (by omega)
                refine lv_aload_n X.1 X.2.1 dL_sails_206 rfl (lv_at hl 5 rfl) ?_
                refine lv_iload_n X.1 X.2.1 dL_sails_207 rfl (lv_at hl 4 rfl) ?_
                refine lv_iconst (v := nI 2) X.1 X.2.1 dL_sails_208 (by decide) ?_
                refine x_callV X hK hw (k := 0) (As := [.int (nI r), .int (nI 2)]) (rest := [.int (nI (B440 0))]) (w_race hI (by omega) jB440.1.1 hO444 (nI r) (nI 2) (fun g t tm hE => a_rac2 jB440 (by omega) (by omega) hE (by omega) tm)) (x_cwV yX7_race cX7_race 3 (some .int) 2 X q804 q805 q806 q1 q807 hd_X7_race ⟨(Nat.le_of_ble_eq_true rfl), (Nat.le_of_ble_eq_true rfl)⟩) (by omega) hO444.ma rfl rfl hl.1 rfl (Nat.le_of_ble_eq_true rfl) dL_sails_209 ⟨(Nat.le_of_ble_eq_true rfl), (Nat.le_of_ble_eq_true rfl)⟩ (fun v446 F447 H locs hp hw => ?_)
                obtain ⟨e448, hO449, hf450⟩ := hp
                refine x_top e448 ?_
                replace hfr := hfr.tr hf450 (by omega) (by omega)
                refine lv_icmp_lt (tgt := 219) X.1 X.2.1 dL_sails_212 (by decide) (fun c451 => ?_) (fun c451 => ?_)
                · have n452 := (br_lt (by omega) (by omega)).mp c451
                  refine lv_iconst (v := nI 0) X.1 X.2.1 dL_sails_219 (by decide) ?_
                  refine lv_istore (lv' := [(8, .int (nI 0)), (7, .int (nI (1 - eA A r b 0))), (6, .int (nI ((rA A r 0) * (rA A r 1)))), (5, .int (nI (eA A r b 1))), (4, .int (nI (eA A r b 0))), (3, .int (nI r)), (0, .ref (ad 0)), (1, .int (nI b)), (2, .int v)]) X.1 X.2.1 dL_sails_220 hl (by decide) rfl (fun ls hl => ?_)
                  refine lv_iload X.1 X.2.1 dL_sails_222 (lv_at hl 1 rfl) ?_
                  refine lv_iload X.1 X.2.1 dL_sails_224 (lv_at hl 4 rfl) ?_
                  refine lv_iconst (v := nI 2) X.1 X.2.1 dL_sails_226 (by decide) ?_
                  refine lv_icmp_le (tgt := 235) X.1 X.2.1 dL_sails_227 (by decide) (fun c453 => ?_) (fun c453 => ?_)
                  · have n454 := (nI_leI (by omega) (by omega)).mp c453
                    refine lv_iload X.1 X.2.1 dL_sails_235 (lv_at hl 4 rfl) ?_
                    refine lv_iconst (v := nI 2) X.1 X.2.1 dL_sails_237 (by decide) ?_
                    refine lv_icmp_ne (tgt := 245) X.1 X.2.1 dL_sails_238 (by decide) (fun c455 => ?_) (fun c455 => ?_)
                    · have n456 : ¬ (eA A r b 0) = 2 := fun z => c455 ((nI_eq (by omega) (by omega)).mpr z)
                      refine lv_iload X.1 X.2.1 dL_sails_245 (lv_at hl 0 rfl) ?_
                      refine lv_if_eq (tgt := 254) X.1 X.2.1 dL_sails_247 (by decide) (fun c457 => ?_) (fun c457 => ?_)
                      · refine lv_iconst (v := nI 1) X.1 X.2.1 dL_sails_254 (by decide) ?_
                        refine lv_iload X.1 X.2.1 dL_sails_255 (lv_at hl 4 rfl) ?_
                        refine lv_isub X.1 X.2.1 dL_sails_257 ?_
                        refine x_top (pk_sub (by omega)) ?_
                        refine lv_icmp_ne (tgt := 287) X.1 X.2.1 dL_sails_258 (by decide) (fun c458 => ?_) (fun c458 => ?_)
                        · exact absurd ((nI_eq (by omega) (by omega)).mpr (by omega)) c458
                        · have n459 := (nI_eq (by omega) (by omega)).mp c458
                          refine lv_aload_n X.1 X.2.1 dL_sails_261 rfl (lv_at hl 6 rfl) ?_
                          refine lv_iload_n X.1 X.2.1 dL_sails_262 rfl (lv_at hl 5 rfl) ?_
                          refine lv_iload_n X.1 X.2.1 dL_sails_263 rfl (lv_at hl 7 rfl) ?_
                          refine lv_iconst (v := nI 0) X.1 X.2.1 dL_sails_264 (by decide) ?_
                          refine x_callV X hK hw (k := 0) (As := [.int (nI r), .int (nI b), .int (nI 0)]) (rest := []) (w_result hI (by omega) jB440.1.1 hO449 (nI r) (nI b) (nI 0) (fun g t tm hE => a_res0 jB440 (by omega) (by omega) hE (by omega) (by omega) tm)) (x_cwV yX7_result cX7_result 4 (some .int) 3 X q695 q696 q697 q1 q698 hd_X7_result ⟨(Nat.le_of_ble_eq_true rfl), (Nat.le_of_ble_eq_true rfl)⟩) (by omega) hO449.ma rfl rfl hl.1 rfl (Nat.le_of_ble_eq_true rfl) dL_sails_265 ⟨(Nat.le_of_ble_eq_true rfl), (Nat.le_of_ble_eq_true rfl)⟩ (fun v460 F461 H locs hp hw => ?_)
                          obtain ⟨e462, hO463, hf464⟩ := hp
                          refine x_top e462 ?_
                          replace hfr := hfr.tr hf464 (by omega) (by omega)
                          refine lv_iload X.1 X.2.1 dL_sails_268 (lv_at hl 1 rfl) ?_
                          refine lv_if_ge (tgt := 278) X.1 X.2.1 dL_sails_270 (by decide) (fun c465 => ?_) (fun c465 => ?_)
                          · have n466 := (bz_ge (by omega)).mp c465
                            refine lv_iload X.1 X.2.1 dL_sails_278 (lv_at hl 1 rfl) ?_
                            refine lv_icmp_ne (tgt := 287) X.1 X.2.1 dL_sails_280 (by decide) (fun c467 => ?_) (fun c467 => ?_)
                            · exact absurd ((nI_eq (by omega) (by omega)).mpr (by omega)) c467
                            · have n468 := (nI_eq (by omega) (by omega)).mp c467
                              refine lv_iconst (v := nI 1) X.1 X.2.1 dL_sails_283 (by decide) ?_
                              refine lv_goto (tgt := 288) X.1 X.2.1 dL_sails_284 (by decide) ?_
                              exact x_iret X hr hlk hK hw (v := nI 1) (by first | rfl | exact nr_b _ | decide) (⟨rfl, ACT.mk1 jB440 (by omega) (by omega) mB440 hO463, hfr⟩) dL_sails_288
                          · exact absurd ((bz_ge (by omega)).mpr (by omega)) c465
                      · exact absurd (by decide) c457
                    · exact absurd ((nI_eq (by omega) (by omega)).mp c455) (by omega)
                  · exact absurd ((nI_leI (by omega) (by omega)).mpr (by omega)) c453
                · exact absurd ((br_lt (by omega) (by omega)).mpr (by omega)) c451
            · have n469 := (nI_eq (by omega) (by omega)).mp c361
              refine lv_iload X.1 X.2.1 dL_sails_187 (lv_at hl 1 rfl) ?_
              refine lv_iload X.1 X.2.1 dL_sails_189 (lv_at hl 0 rfl) ?_
              refine lv_icmp_ne (tgt := 289) X.1 X.2.1 dL_sails_191 (by decide) (fun c470 => ?_) (fun c470 => ?_)
              · have n471 : ¬ (eA A r b 1) = ((rA A r 0) * (rA A r 1)) := fun z => c470 ((nI_eq (by omega) (by omega)).mpr z)
                refine lv_iload_n X.1 X.2.1 dL_sails_289 rfl (lv_at hl 6 rfl) ?_
                refine lv_bipush (v := nI 12) X.1 X.2.1 dL_sails_290 (by decide) ?_
                refine x_callSP X hK hw (As := [.int v, .int (nI 12)]) (rest := []) (k_L_low v 12 (by omega) (by omega)) (x_cwS yL_low cL_low 2 (some .int) 2 X q1394 q1395 q0 q1396 hd_L_low ⟨(Nat.le_of_ble_eq_true rfl), (Nat.le_of_ble_eq_true rfl)⟩) rfl hl.1 rfl (Nat.le_of_ble_eq_true rfl) dL_sails_292 ⟨(Nat.le_of_ble_eq_true rfl), (Nat.le_of_ble_eq_true rfl)⟩ (fun H locs hw => ?_)
                have hw472 := lowN_lt (v := v) (n := 12) (by omega)
                refine lv_iconst (v := nI 2) X.1 X.2.1 dL_sails_295 (by decide) ?_
                refine lv_icmp_ne (tgt := 309) X.1 X.2.1 dL_sails_296 (by decide) (fun c473 => ?_) (fun c473 => ?_)
                · have n474 : ¬ (lowN v 12) = 2 := fun z => c473 ((nI_eq (by omega) (by omega)).mpr z)
                  refine lv_iload X.1 X.2.1 dL_sails_309 (lv_at hl 1 rfl) ?_
                  refine lv_aload_n X.1 X.2.1 dL_sails_311 rfl (lv_at hl 4 rfl) ?_
                  refine lv_iload_n X.1 X.2.1 dL_sails_312 rfl (lv_at hl 3 rfl) ?_
                  refine lv_iconst (v := nI 0) X.1 X.2.1 dL_sails_313 (by decide) ?_
                  refine x_callV X hK hw (k := 0) (As := [.int (nI r), .int (nI 0)]) (rest := [.int (nI (eA A r b 1))]) (w_race hI (by omega) hJ.1.1 hO31 (nI r) (nI 0) (fun g t tm hE => a_rac0 hJ (by omega) hk hE (by omega) tm)) (x_cwV yX7_race cX7_race 3 (some .int) 2 X q804 q805 q806 q1 q807 hd_X7_race ⟨(Nat.le_of_ble_eq_true rfl), (Nat.le_of_ble_eq_true rfl)⟩) (by omega) hO31.ma rfl rfl hl.1 rfl (Nat.le_of_ble_eq_true rfl) dL_sails_314 ⟨(Nat.le_of_ble_eq_true rfl), (Nat.le_of_ble_eq_true rfl)⟩ (fun v475 F476 H locs hp hw => ?_)
                  obtain ⟨e477, hO478, hf479⟩ := hp
                  refine x_top e477 ?_
                  replace hfr := hfr.tr hf479 (by omega) (by omega)
                  refine lv_irem X.1 X.2.1 dL_sails_317 (fun z => by have := (bz_eq (by omega)).mp z; omega) ?_
                  refine x_top (nI_mod (by omega) (by omega) (by omega)) ?_
                  refine lv_istore (lv' := [(7, .int (nI ((eA A r b 1) % (rA A r 0)))), (6, .int (nI ((rA A r 0) * (rA A r 1)))), (5, .int (nI (eA A r b 1))), (4, .int (nI (eA A r b 0))), (3, .int (nI r)), (0, .ref (ad 0)), (1, .int (nI b)), (2, .int v)]) X.1 X.2.1 dL_sails_318 hl (by decide) rfl (fun ls hl => ?_)
                  refine lv_aload_n X.1 X.2.1 dL_sails_320 rfl (lv_at hl 5 rfl) ?_
                  refine lv_iload_n X.1 X.2.1 dL_sails_321 rfl (lv_at hl 4 rfl) ?_
                  refine lv_iload_n X.1 X.2.1 dL_sails_322 rfl (lv_at hl 6 rfl) ?_
                  refine lv_iconst (v := nI 2) X.1 X.2.1 dL_sails_323 (by decide) ?_
                  refine x_callV X hK hw (k := 0) (As := [.int (nI r), .int (nI b), .int (nI 2)]) (rest := []) (w_result hI (by omega) hJ.1.1 hO478 (nI r) (nI b) (nI 2) (fun g t tm hE => a_res2 hJ (by omega) hk hE (by omega) (by omega) tm)) (x_cwV yX7_result cX7_result 4 (some .int) 3 X q695 q696 q697 q1 q698 hd_X7_result ⟨(Nat.le_of_ble_eq_true rfl), (Nat.le_of_ble_eq_true rfl)⟩) (by omega) hO478.ma rfl rfl hl.1 rfl (Nat.le_of_ble_eq_true rfl) dL_sails_324 ⟨(Nat.le_of_ble_eq_true rfl), (Nat.le_of_ble_eq_true rfl)⟩ (fun v480 F481 H locs hp hw => ?_)
                  obtain ⟨e482, hO483, hf484⟩ := hp
                  refine x_top e482 ?_
                  replace hfr := hfr.tr hf484 (by omega) (by omega)
                  refine lv_istore (lv' := [(8, .int (nI (eA A r b 2))), (7, .int (nI ((eA A r b 1) % (rA A r 0)))), (6, .int (nI ((rA A r 0) * (rA A r 1)))), (5, .int (nI (eA A r b 1))), (4, .int (nI (eA A r b 0))), (3, .int (nI r)), (0, .ref (ad 0)), (1, .int (nI b)), (2, .int v)]) X.1 X.2.1 dL_sails_327 hl (by decide) rfl (fun ls hl => ?_)
                  rcases (show rA A r 0 ≤ ((eA A r b 1) % (rA A r 0)) ∨ (((eA A r b 1) % (rA A r 0)) < rA A r 0 ∧ ((eA A r b 1) % (rA A r 0)) = eA A r b 1 % rA A r 0) ∨ (((eA A r b 1) % (rA A r 0)) < rA A r 0 ∧ ¬ ((eA A r b 1) % (rA A r 0)) = eA A r b 1 % rA A r 0) by omega) with hq | hq | hq
                  · refine lv_aload_n X.1 X.2.1 dL_sails_329 rfl (lv_at hl 6 rfl) ?_
                    refine lv_iload_n X.1 X.2.1 dL_sails_330 rfl (lv_at hl 7 rfl) ?_
                    refine lv_iload X.1 X.2.1 dL_sails_331 (lv_at hl 1 rfl) ?_
                    refine x_callV X hK hw (k := 0) (As := [.int (nI b), .int (nI ((eA A r b 1) % (rA A r 0)))]) (rest := []) (w_buoy hI (by omega) hO483 (nI b) (nI ((eA A r b 1) % (rA A r 0))) (fun g t hE => a_buoy_no_r hrA hJ hb (by omega) (fun _ => by omega) hE)) (x_cwV yX7_buoy cX7_buoy 3 (some .int) 2 X q383 q384 q385 q1 q386 hd_X7_buoy ⟨(Nat.le_of_ble_eq_true rfl), (Nat.le_of_ble_eq_true rfl)⟩) (by omega) hO483.ma rfl rfl hl.1 rfl (Nat.le_of_ble_eq_true rfl) dL_sails_333 ⟨(Nat.le_of_ble_eq_true rfl), (Nat.le_of_ble_eq_true rfl)⟩ (fun v485 F486 H locs hp hw => ?_)
                    obtain ⟨e487, hO488, hf489⟩ := hp
                    refine x_top e487 ?_
                    replace hfr := hfr.tr hf489 (by omega) (by omega)
                    refine lv_istore (lv' := [(9, .int ((-2))), (8, .int (nI (eA A r b 2))), (7, .int (nI ((eA A r b 1) % (rA A r 0)))), (6, .int (nI ((rA A r 0) * (rA A r 1)))), (5, .int (nI (eA A r b 1))), (4, .int (nI (eA A r b 0))), (3, .int (nI r)), (0, .ref (ad 0)), (1, .int (nI b)), (2, .int v)]) X.1 X.2.1 dL_sails_336 hl (by decide) rfl (fun ls hl => ?_)
                    refine lv_iload X.1 X.2.1 dL_sails_338 (lv_at hl 2 rfl) ?_
                    refine lv_aload_n X.1 X.2.1 dL_sails_340 rfl (lv_at hl 7 rfl) ?_
                    refine lv_iload_n X.1 X.2.1 dL_sails_341 rfl (lv_at hl 6 rfl) ?_
                    refine lv_iconst (v := nI 0) X.1 X.2.1 dL_sails_342 (by decide) ?_
                    refine x_callV X hK hw (k := 0) (As := [.int (nI r), .int (nI 0)]) (rest := [.int (nI ((eA A r b 1) % (rA A r 0)))]) (w_race hI (by omega) hJ.1.1 hO488 (nI r) (nI 0) (fun g t tm hE => a_rac0 hJ (by omega) hk hE (by omega) tm)) (x_cwV yX7_race cX7_race 3 (some .int) 2 X q804 q805 q806 q1 q807 hd_X7_race ⟨(Nat.le_of_ble_eq_true rfl), (Nat.le_of_ble_eq_true rfl)⟩) (by omega) hO488.ma rfl rfl hl.1 rfl (Nat.le_of_ble_eq_true rfl) dL_sails_343 ⟨(Nat.le_of_ble_eq_true rfl), (Nat.le_of_ble_eq_true rfl)⟩ (fun v490 F491 H locs hp hw => ?_)
                    obtain ⟨e492, hO493, hf494⟩ := hp
                    refine x_top e492 ?_
                    replace hfr := hfr.tr hf494 (by omega) (by omega)
                    refine lv_icmp_lt (tgt := 364) X.1 X.2.1 dL_sails_346 (by decide) (fun c495 => ?_) (fun c495 => ?_)
                    · exact absurd ((br_lt (by omega) (by omega)).mp c495) (by omega)
                    · have n496 : ¬ ((eA A r b 1) % (rA A r 0)) < (rA A r 0) := fun z => c495 ((br_lt (by omega) (by omega)).mpr z)
                      refine lv_iload X.1 X.2.1 dL_sails_349 (lv_at hl 0 rfl) ?_
                      refine lv_bipush (v := (-2)) X.1 X.2.1 dL_sails_351 (by decide) ?_
                      refine lv_icmp_ne (tgt := 360) X.1 X.2.1 dL_sails_353 (by decide) (fun c497 => ?_) (fun c497 => ?_)
                      · exact absurd (by decide) c497
                      · refine lv_iconst (v := nI 1) X.1 X.2.1 dL_sails_356 (by decide) ?_
                        refine lv_goto (tgt := 433) X.1 X.2.1 dL_sails_357 (by decide) ?_
                        exact x_iret X hr hlk hK hw (v := nI 1) (by first | rfl | exact nr_b _ | decide) (⟨rfl, ACT.same hJ hO493, hfr⟩) dL_sails_433
                  · refine lv_aload_n X.1 X.2.1 dL_sails_329 rfl (lv_at hl 6 rfl) ?_
                    refine lv_iload_n X.1 X.2.1 dL_sails_330 rfl (lv_at hl 7 rfl) ?_
                    refine lv_iload X.1 X.2.1 dL_sails_331 (lv_at hl 1 rfl) ?_
                    refine x_callV X hK hw (k := 0) (As := [.int (nI b), .int (nI ((eA A r b 1) % (rA A r 0)))]) (rest := []) (w_buoy hI (by omega) hO483 (nI b) (nI ((eA A r b 1) % (rA A r 0))) (fun g t hE => a_buoy_ok_r hrA hJ ((opn_r hrA).mpr hop) hb (by omega) (by omega) (by omega) (by omega) hE)) (x_cwV yX7_buoy cX7_buoy 3 (some .int) 2 X q383 q384 q385 q1 q386 hd_X7_buoy ⟨(Nat.le_of_ble_eq_true rfl), (Nat.le_of_ble_eq_true rfl)⟩) (by omega) hO483.ma rfl rfl hl.1 rfl (Nat.le_of_ble_eq_true rfl) dL_sails_333 ⟨(Nat.le_of_ble_eq_true rfl), (Nat.le_of_ble_eq_true rfl)⟩ (fun v498 F499 H locs hp hw => ?_)
                    obtain ⟨e500, hO501, hf502⟩ := hp
                    refine x_top e500 ?_
                    replace hfr := hfr.tr hf502 (by omega) (by omega)
                    obtain ⟨B503, hB503⟩ : ∃ y, y = ep A r b 1 (eA A r b 1 + 1) := ⟨_, rfl⟩
                    rw [← hB503] at hO501
                    have jB503 : HJ ca B503 := by rw [hB503]; exact j_made_r hrA hJ ((opn_r hrA).mpr hop) hb (by omega) (by omega)
                    have eB503 : ∀ i, i ≠ 80 + 6 * (9 * r + b) + 1 → B503 i = A i := fun i h1 => by rw [hB503]; exact nup_ne h1
                    have vB503 : eA B503 r b 1 = eA A r b 1 + 1 := by rw [hB503]; exact ep_at
                    have b0B503 : B503 0 = A 0 := eB503 0 (by omega)
                    have b1B503 : B503 1 = A 1 := eB503 1 (by omega)
                    have b2B503 : B503 2 = A 2 := eB503 2 (by omega)
                    have b3B503 : B503 3 = A 3 := eB503 3 (by omega)
                    have x0B503 : eA B503 r b 0 = eA A r b 0 := eB503 _ (by omega)
                    have x2B503 : eA B503 r b 2 = eA A r b 2 := eB503 _ (by omega)
                    have x3B503 : eA B503 r b 3 = eA A r b 3 := eB503 _ (by omega)
                    have x4B503 : eA B503 r b 4 = eA A r b 4 := eB503 _ (by omega)
                    have r0B503 : rA B503 r 0 = rA A r 0 := eB503 _ (by omega)
                    have r1B503 : rA B503 r 1 = rA A r 1 := eB503 _ (by omega)
                    have r2B503 : rA B503 r 2 = rA A r 2 := eB503 _ (by omega)
                    have mB503 : ∀ k, k < A 3 → pA A k 3 ≤ pA B503 k 3 := fun k hk => by rw [show pA B503 k 3 = pA A k 3 from eB503 _ (by omega)]; exact Nat.le_refl _
                    have qB503 : eA A r b 1 % rA B503 r 0 = eA A r b 1 % rA A r 0 := by rw [r0B503]
                    refine lv_istore (lv' := [(9, .int (nI (eA A r b 1 + 1))), (8, .int (nI (eA A r b 2))), (7, .int (nI ((eA A r b 1) % (rA A r 0)))), (6, .int (nI ((rA A r 0) * (rA A r 1)))), (5, .int (nI (eA A r b 1))), (4, .int (nI (eA A r b 0))), (3, .int (nI r)), (0, .ref (ad 0)), (1, .int (nI b)), (2, .int v)]) X.1 X.2.1 dL_sails_336 hl (by decide) rfl (fun ls hl => ?_)
                    refine lv_iload X.1 X.2.1 dL_sails_338 (lv_at hl 2 rfl) ?_
                    refine lv_aload_n X.1 X.2.1 dL_sails_340 rfl (lv_at hl 7 rfl) ?_
                    refine lv_iload_n X.1 X.2.1 dL_sails_341 rfl (lv_at hl 6 rfl) ?_
                    refine lv_iconst (v := nI 0) X.1 X.2.1 dL_sails_342 (by decide) ?_
                    refine x_callV X hK hw (k := 0) (As := [.int (nI r), .int (nI 0)]) (rest := [.int (nI ((eA A r b 1) % (rA A r 0)))]) (w_race hI (by omega) jB503.1.1 hO501 (nI r) (nI 0) (fun g t tm hE => a_rac0 jB503 (by omega) (by omega) hE (by omega) tm)) (x_cwV yX7_race cX7_race 3 (some .int) 2 X q804 q805 q806 q1 q807 hd_X7_race ⟨(Nat.le_of_ble_eq_true rfl), (Nat.le_of_ble_eq_true rfl)⟩) (by omega) hO501.ma rfl rfl hl.1 rfl (Nat.le_of_ble_eq_true rfl) dL_sails_343 ⟨(Nat.le_of_ble_eq_true rfl), (Nat.le_of_ble_eq_true rfl)⟩ (fun v504 F505 H locs hp hw => ?_)
                    obtain ⟨e506, hO507, hf508⟩ := hp
                    refine x_top e506 ?_
                    replace hfr := hfr.tr hf508 (by omega) (by omega)
                    refine lv_icmp_lt (tgt := 364) X.1 X.2.1 dL_sails_346 (by decide) (fun c509 => ?_) (fun c509 => ?_)
                    · have n510 := (br_lt (by omega) (by omega)).mp c509
                      refine lv_iload X.1 X.2.1 dL_sails_364 (lv_at hl 2 rfl) ?_
                      refine lv_iload X.1 X.2.1 dL_sails_366 (lv_at hl 4 rfl) ?_
                      refine lv_aload_n X.1 X.2.1 dL_sails_368 rfl (lv_at hl 7 rfl) ?_
                      refine lv_iload_n X.1 X.2.1 dL_sails_369 rfl (lv_at hl 6 rfl) ?_
                      refine lv_iconst (v := nI 0) X.1 X.2.1 dL_sails_370 (by decide) ?_
                      refine x_callV X hK hw (k := 0) (As := [.int (nI r), .int (nI 0)]) (rest := [.int (nI (eA A r b 1)), .int (nI ((eA A r b 1) % (rA A r 0)))]) (w_race hI (by omega) jB503.1.1 hO507 (nI r) (nI 0) (fun g t tm hE => a_rac0 jB503 (by omega) (by omega) hE (by omega) tm)) (x_cwV yX7_race cX7_race 3 (some .int) 2 X q804 q805 q806 q1 q807 hd_X7_race ⟨(Nat.le_of_ble_eq_true rfl), (Nat.le_of_ble_eq_true rfl)⟩) (by omega) hO507.ma rfl rfl hl.1 rfl (Nat.le_of_ble_eq_true rfl) dL_sails_371 ⟨(Nat.le_of_ble_eq_true rfl), (Nat.le_of_ble_eq_true rfl)⟩ (fun v511 F512 H locs hp hw => ?_)
                      obtain ⟨e513, hO514, hf515⟩ := hp
                      refine x_top e513 ?_
                      replace hfr := hfr.tr hf515 (by omega) (by omega)
                      refine lv_irem X.1 X.2.1 dL_sails_374 (fun z => by have := (bz_eq (by omega)).mp z; omega) ?_
                      refine x_top (nI_mod (by omega) (by omega) (by omega)) ?_
                      refine lv_icmp_ne (tgt := 407) X.1 X.2.1 dL_sails_375 (by decide) (fun c516 => ?_) (fun c516 => ?_)
                      · exact absurd ((nI_eq (by omega) (by omega)).mpr (by omega)) c516
                      · have n517 := (nI_eq (by omega) (by omega)).mp c516
                        refine lv_iload X.1 X.2.1 dL_sails_378 (lv_at hl 0 rfl) ?_
                        refine lv_iload X.1 X.2.1 dL_sails_380 (lv_at hl 4 rfl) ?_
                        refine lv_iconst (v := nI 1) X.1 X.2.1 dL_sails_382 (by decide) ?_
                        refine lv_iadd X.1 X.2.1 dL_sails_383 ?_
                        refine x_top (nI_add _ _) ?_
                        refine lv_icmp_ne (tgt := 403) X.1 X.2.1 dL_sails_384 (by decide) (fun c518 => ?_) (fun c518 => ?_)
                        · exact absurd ((nI_eq (by omega) (by omega)).mpr (by omega)) c518
                        · have n519 := (nI_eq (by omega) (by omega)).mp c518
                          refine lv_aload_n X.1 X.2.1 dL_sails_387 rfl (lv_at hl 7 rfl) ?_
                          refine lv_iload_n X.1 X.2.1 dL_sails_388 rfl (lv_at hl 6 rfl) ?_
                          refine lv_iload_n X.1 X.2.1 dL_sails_389 rfl (lv_at hl 8 rfl) ?_
                          refine lv_iconst (v := nI 2) X.1 X.2.1 dL_sails_390 (by decide) ?_
                          refine x_callV X hK hw (k := 0) (As := [.int (nI r), .int (nI b), .int (nI 2)]) (rest := []) (w_result hI (by omega) jB503.1.1 hO514 (nI r) (nI b) (nI 2) (fun g t tm hE => a_res2 jB503 (by omega) (by omega) hE (by omega) (by omega) tm)) (x_cwV yX7_result cX7_result 4 (some .int) 3 X q695 q696 q697 q1 q698 hd_X7_result ⟨(Nat.le_of_ble_eq_true rfl), (Nat.le_of_ble_eq_true rfl)⟩) (by omega) hO514.ma rfl rfl hl.1 rfl (Nat.le_of_ble_eq_true rfl) dL_sails_391 ⟨(Nat.le_of_ble_eq_true rfl), (Nat.le_of_ble_eq_true rfl)⟩ (fun v520 F521 H locs hp hw => ?_)
                          obtain ⟨e522, hO523, hf524⟩ := hp
                          refine x_top e522 ?_
                          replace hfr := hfr.tr hf524 (by omega) (by omega)
                          refine lv_iload X.1 X.2.1 dL_sails_394 (lv_at hl 1 rfl) ?_
                          refine lv_icmp_ne (tgt := 403) X.1 X.2.1 dL_sails_396 (by decide) (fun c525 => ?_) (fun c525 => ?_)
                          · exact absurd ((nI_eq (by omega) (by omega)).mpr (by omega)) c525
                          · have n526 := (nI_eq (by omega) (by omega)).mp c525
                            refine lv_iconst (v := nI 1) X.1 X.2.1 dL_sails_399 (by decide) ?_
                            refine lv_goto (tgt := 433) X.1 X.2.1 dL_sails_400 (by decide) ?_
                            exact x_iret X hr hlk hK hw (v := nI 1) (by first | rfl | exact nr_b _ | decide) (⟨rfl, ACT.mk1 jB503 (by omega) (by omega) mB503 hO523, hfr⟩) dL_sails_433
                    · exact absurd ((br_lt (by omega) (by omega)).mpr (by omega)) c509
                  · refine lv_aload_n X.1 X.2.1 dL_sails_329 rfl (lv_at hl 6 rfl) ?_
                    refine lv_iload_n X.1 X.2.1 dL_sails_330 rfl (lv_at hl 7 rfl) ?_
                    refine lv_iload X.1 X.2.1 dL_sails_331 (lv_at hl 1 rfl) ?_
                    refine x_callV X hK hw (k := 0) (As := [.int (nI b), .int (nI ((eA A r b 1) % (rA A r 0)))]) (rest := []) (w_buoy hI (by omega) hO483 (nI b) (nI ((eA A r b 1) % (rA A r 0))) (fun g t hE => a_buoy_mi_r hrA hJ ((opn_r hrA).mpr hop) hb (by omega) (by omega) (by omega) hE)) (x_cwV yX7_buoy cX7_buoy 3 (some .int) 2 X q383 q384 q385 q1 q386 hd_X7_buoy ⟨(Nat.le_of_ble_eq_true rfl), (Nat.le_of_ble_eq_true rfl)⟩) (by omega) hO483.ma rfl rfl hl.1 rfl (Nat.le_of_ble_eq_true rfl) dL_sails_333 ⟨(Nat.le_of_ble_eq_true rfl), (Nat.le_of_ble_eq_true rfl)⟩ (fun v527 F528 H locs hp hw => ?_)
                    obtain ⟨e529, hO530, hf531⟩ := hp
                    refine x_top e529 ?_
                    replace hfr := hfr.tr hf531 (by omega) (by omega)
                    obtain ⟨B532, hB532⟩ : ∃ y, y = ep A r b 2 (eA A r b 2 + 1) := ⟨_, rfl⟩
                    rw [← hB532] at hO530
                    have jB532 : HJ (ca + 1) B532 := by rw [hB532]; exact j_miss_r hrA hJ ((opn_r hrA).mpr hop) hb
                    have eB532 : ∀ i, i ≠ 80 + 6 * (9 * r + b) + 2 → B532 i = A i := fun i h2 => by rw [hB532]; exact nup_ne h2
                    have vB532 : eA B532 r b 2 = eA A r b 2 + 1 := by rw [hB532]; exact ep_at
                    have b0B532 : B532 0 = A 0 := eB532 0 (by omega)
                    have b1B532 : B532 1 = A 1 := eB532 1 (by omega)
                    have b2B532 : B532 2 = A 2 := eB532 2 (by omega)
                    have b3B532 : B532 3 = A 3 := eB532 3 (by omega)
                    have x0B532 : eA B532 r b 0 = eA A r b 0 := eB532 _ (by omega)
                    have x1B532 : eA B532 r b 1 = eA A r b 1 := eB532 _ (by omega)
                    have x3B532 : eA B532 r b 3 = eA A r b 3 := eB532 _ (by omega)
                    have x4B532 : eA B532 r b 4 = eA A r b 4 := eB532 _ (by omega)
                    have r0B532 : rA B532 r 0 = rA A r 0 := eB532 _ (by omega)
                    have r1B532 : rA B532 r 1 = rA A r 1 := eB532 _ (by omega)
                    have r2B532 : rA B532 r 2 = rA A r 2 := eB532 _ (by omega)
                    have mB532 : ∀ k, k < A 3 → pA A k 3 ≤ pA B532 k 3 := fun k hk => by rw [show pA B532 k 3 = pA A k 3 from eB532 _ (by omega)]; exact Nat.le_refl _
                    have qB532 : eA A r b 1 % rA B532 r 0 = eA A r b 1 % rA A r 0 := by rw [r0B532]
                    refine lv_istore (lv' := [(9, .int (nI (eA A r b 1))), (8, .int (nI (eA A r b 2))), (7, .int (nI ((eA A r b 1) % (rA A r 0)))), (6, .int (nI ((rA A r 0) * (rA A r 1)))), (5, .int (nI (eA A r b 1))), (4, .int (nI (eA A r b 0))), (3, .int (nI r)), (0, .ref (ad 0)), (1, .int (nI b)), (2, .int v)]) X.1 X.2.1 dL_sails_336 hl (by decide) rfl (fun ls hl => ?_)
                    refine lv_iload X.1 X.2.1 dL_sails_338 (lv_at hl 2 rfl) ?_
                    refine lv_aload_n X.1 X.2.1 dL_sails_340 rfl (lv_at hl 7 rfl) ?_
                    refine lv_iload_n X.1 X.2.1 dL_sails_341 rfl (lv_at hl 6 rfl) ?_
                    refine lv_iconst (v := nI 0) X.1 X.2.1 dL_sails_342 (by decide) ?_
                    refine x_callV X hK hw (k := 0) (As := [.int (nI r), .int (nI 0)]) (rest := [.int (nI ((eA A r b 1) % (rA A r 0)))]) (w_race hI (by omega) jB532.1.1 hO530 (nI r) (nI 0) (fun g t tm hE => a_rac0 jB532 (by omega) (by omega) hE (by omega) tm)) (x_cwV yX7_race cX7_race 3 (some .int) 2 X q804 q805 q806 q1 q807 hd_X7_race ⟨(Nat.le_of_ble_eq_true rfl), (Nat.le_of_ble_eq_true rfl)⟩) (by omega) hO530.ma rfl rfl hl.1 rfl (Nat.le_of_ble_eq_true rfl) dL_sails_343 ⟨(Nat.le_of_ble_eq_true rfl), (Nat.le_of_ble_eq_true rfl)⟩ (fun v533 F534 H locs hp hw => ?_)
                    obtain ⟨e535, hO536, hf537⟩ := hp
                    refine x_top e535 ?_
                    replace hfr := hfr.tr hf537 (by omega) (by omega)
                    refine lv_icmp_lt (tgt := 364) X.1 X.2.1 dL_sails_346 (by decide) (fun c538 => ?_) (fun c538 => ?_)
                    · have n539 := (br_lt (by omega) (by omega)).mp c538
                      refine lv_iload X.1 X.2.1 dL_sails_364 (lv_at hl 2 rfl) ?_
                      refine lv_iload X.1 X.2.1 dL_sails_366 (lv_at hl 4 rfl) ?_
                      refine lv_aload_n X.1 X.2.1 dL_sails_368 rfl (lv_at hl 7 rfl) ?_
                      refine lv_iload_n X.1 X.2.1 dL_sails_369 rfl (lv_at hl 6 rfl) ?_
                      refine lv_iconst (v := nI 0) X.1 X.2.1 dL_sails_370 (by decide) ?_
                      refine x_callV X hK hw (k := 0) (As := [.int (nI r), .int (nI 0)]) (rest := [.int (nI (eA A r b 1)), .int (nI ((eA A r b 1) % (rA A r 0)))]) (w_race hI (by omega) jB532.1.1 hO536 (nI r) (nI 0) (fun g t tm hE => a_rac0 jB532 (by omega) (by omega) hE (by omega) tm)) (x_cwV yX7_race cX7_race 3 (some .int) 2 X q804 q805 q806 q1 q807 hd_X7_race ⟨(Nat.le_of_ble_eq_true rfl), (Nat.le_of_ble_eq_true rfl)⟩) (by omega) hO536.ma rfl rfl hl.1 rfl (Nat.le_of_ble_eq_true rfl) dL_sails_371 ⟨(Nat.le_of_ble_eq_true rfl), (Nat.le_of_ble_eq_true rfl)⟩ (fun v540 F541 H locs hp hw => ?_)
                      obtain ⟨e542, hO543, hf544⟩ := hp
                      refine x_top e542 ?_
                      replace hfr := hfr.tr hf544 (by omega) (by omega)
                      refine lv_irem X.1 X.2.1 dL_sails_374 (fun z => by have := (bz_eq (by omega)).mp z; omega) ?_
                      refine x_top (nI_mod (by omega) (by omega) (by omega)) ?_
                      refine lv_icmp_ne (tgt := 407) X.1 X.2.1 dL_sails_375 (by decide) (fun c545 => ?_) (fun c545 => ?_)
                      · have n546 : ¬ ((eA A r b 1) % (rA A r 0)) = ((eA A r b 1) % (rA B532 r 0)) := fun z => c545 ((nI_eq (by omega) (by omega)).mpr z)
                        refine lv_iload X.1 X.2.1 dL_sails_407 (lv_at hl 0 rfl) ?_
                        refine lv_iload X.1 X.2.1 dL_sails_409 (lv_at hl 4 rfl) ?_
                        refine lv_icmp_ne (tgt := 432) X.1 X.2.1 dL_sails_411 (by decide) (fun c547 => ?_) (fun c547 => ?_)
                        · exact absurd ((nI_eq (by omega) (by omega)).mpr (by omega)) c547
                        · have n548 := (nI_eq (by omega) (by omega)).mp c547
                          refine lv_aload_n X.1 X.2.1 dL_sails_414 rfl (lv_at hl 7 rfl) ?_
                          refine lv_iload_n X.1 X.2.1 dL_sails_415 rfl (lv_at hl 6 rfl) ?_
                          refine lv_iload_n X.1 X.2.1 dL_sails_416 rfl (lv_at hl 8 rfl) ?_
                          refine lv_iconst (v := nI 2) X.1 X.2.1 dL_sails_417 (by decide) ?_
                          refine x_callV X hK hw (k := 0) (As := [.int (nI r), .int (nI b), .int (nI 2)]) (rest := []) (w_result hI (by omega) jB532.1.1 hO543 (nI r) (nI b) (nI 2) (fun g t tm hE => a_res2 jB532 (by omega) (by omega) hE (by omega) (by omega) tm)) (x_cwV yX7_result cX7_result 4 (some .int) 3 X q695 q696 q697 q1 q698 hd_X7_result ⟨(Nat.le_of_ble_eq_true rfl), (Nat.le_of_ble_eq_true rfl)⟩) (by omega) hO543.ma rfl rfl hl.1 rfl (Nat.le_of_ble_eq_true rfl) dL_sails_418 ⟨(Nat.le_of_ble_eq_true rfl), (Nat.le_of_ble_eq_true rfl)⟩ (fun v549 F550 H locs hp hw => ?_)
                          obtain ⟨e551, hO552, hf553⟩ := hp
                          refine x_top e551 ?_
                          replace hfr := hfr.tr hf553 (by omega) (by omega)
                          refine lv_iload X.1 X.2.1 dL_sails_421 (lv_at hl 1 rfl) ?_
                          refine lv_iconst (v := nI 1) X.1 X.2.1 dL_sails_423 (by decide) ?_
                          refine lv_iadd X.1 X.2.1 dL_sails_424 ?_
                          refine x_top (nI_add _ _) ?_
                          refine lv_icmp_ne (tgt := 432) X.1 X.2.1 dL_sails_425 (by decide) (fun c554 => ?_) (fun c554 => ?_)
                          · exact absurd ((nI_eq (by omega) (by omega)).mpr (by omega)) c554
                          · have n555 := (nI_eq (by omega) (by omega)).mp c554
                            refine lv_iconst (v := nI 1) X.1 X.2.1 dL_sails_428 (by decide) ?_
                            refine lv_goto (tgt := 433) X.1 X.2.1 dL_sails_429 (by decide) ?_
                            exact x_iret X hr hlk hK hw (v := nI 1) (by first | rfl | exact nr_b _ | decide) (⟨rfl, ACT.mk1 jB532 (by omega) (by omega) mB532 hO552, hfr⟩) dL_sails_433
                      · exact absurd ((nI_eq (by omega) (by omega)).mp c545) (by omega)
                    · exact absurd ((br_lt (by omega) (by omega)).mpr (by omega)) c538
                · have n556 := (nI_eq (by omega) (by omega)).mp c473
                  refine lv_iload_n X.1 X.2.1 dL_sails_299 rfl (lv_at hl 6 rfl) ?_
                  refine lv_iconst (v := nI 4) X.1 X.2.1 dL_sails_300 (by decide) ?_
                  refine lv_ishr X.1 X.2.1 dL_sails_301 ?_
                  refine lv_iconst (v := nI 5) X.1 X.2.1 dL_sails_302 (by decide) ?_
                  refine x_callSP X hK hw (As := [.int (v >>> ((nI 4) &&& 31)), .int (nI 5)]) (rest := []) (k_L_low (v >>> ((nI 4) &&& 31)) 5 (by omega) (by omega)) (x_cwS yL_low cL_low 2 (some .int) 2 X q1394 q1395 q0 q1396 hd_L_low ⟨(Nat.le_of_ble_eq_true rfl), (Nat.le_of_ble_eq_true rfl)⟩) rfl hl.1 rfl (Nat.le_of_ble_eq_true rfl) dL_sails_303 ⟨(Nat.le_of_ble_eq_true rfl), (Nat.le_of_ble_eq_true rfl)⟩ (fun H locs hw => ?_)
                  have hw557 := lowN_lt (v := v >>> ((nI 4) &&& 31)) (n := 5) (by omega)
                  refine lv_goto (tgt := 318) X.1 X.2.1 dL_sails_306 (by decide) ?_
                  refine lv_istore (lv' := [(7, .int (nI (lowN (v >>> ((nI 4) &&& 31)) 5))), (6, .int (nI ((rA A r 0) * (rA A r 1)))), (5, .int (nI (eA A r b 1))), (4, .int (nI (eA A r b 0))), (3, .int (nI r)), (0, .ref (ad 0)), (1, .int (nI b)), (2, .int v)]) X.1 X.2.1 dL_sails_318 hl (by decide) rfl (fun ls hl => ?_)
                  refine lv_aload_n X.1 X.2.1 dL_sails_320 rfl (lv_at hl 5 rfl) ?_
                  refine lv_iload_n X.1 X.2.1 dL_sails_321 rfl (lv_at hl 4 rfl) ?_
                  refine lv_iload_n X.1 X.2.1 dL_sails_322 rfl (lv_at hl 6 rfl) ?_
                  refine lv_iconst (v := nI 2) X.1 X.2.1 dL_sails_323 (by decide) ?_
                  refine x_callV X hK hw (k := 0) (As := [.int (nI r), .int (nI b), .int (nI 2)]) (rest := []) (w_result hI (by omega) hJ.1.1 hO31 (nI r) (nI b) (nI 2) (fun g t tm hE => a_res2 hJ (by omega) hk hE (by omega) (by omega) tm)) (x_cwV yX7_result cX7_result 4 (some .int) 3 X q695 q696 q697 q1 q698 hd_X7_result ⟨(Nat.le_of_ble_eq_true rfl), (Nat.le_of_ble_eq_true rfl)⟩) (by omega) hO31.ma rfl rfl hl.1 rfl (Nat.le_of_ble_eq_true rfl) dL_sails_324 ⟨(Nat.le_of_ble_eq_true rfl), (Nat.le_of_ble_eq_true rfl)⟩ (fun v558 F559 H locs hp hw => ?_)
                  obtain ⟨e560, hO561, hf562⟩ := hp
                  refine x_top e560 ?_
                  replace hfr := hfr.tr hf562 (by omega) (by omega)
                  refine lv_istore (lv' := [(8, .int (nI (eA A r b 2))), (7, .int (nI (lowN (v >>> ((nI 4) &&& 31)) 5))), (6, .int (nI ((rA A r 0) * (rA A r 1)))), (5, .int (nI (eA A r b 1))), (4, .int (nI (eA A r b 0))), (3, .int (nI r)), (0, .ref (ad 0)), (1, .int (nI b)), (2, .int v)]) X.1 X.2.1 dL_sails_327 hl (by decide) rfl (fun ls hl => ?_)
                  rcases (show rA A r 0 ≤ (lowN (v >>> ((nI 4) &&& 31)) 5) ∨ ((lowN (v >>> ((nI 4) &&& 31)) 5) < rA A r 0 ∧ (lowN (v >>> ((nI 4) &&& 31)) 5) = eA A r b 1 % rA A r 0) ∨ ((lowN (v >>> ((nI 4) &&& 31)) 5) < rA A r 0 ∧ ¬ (lowN (v >>> ((nI 4) &&& 31)) 5) = eA A r b 1 % rA A r 0) by omega) with hq | hq | hq
                  · refine lv_aload_n X.1 X.2.1 dL_sails_329 rfl (lv_at hl 6 rfl) ?_
                    refine lv_iload_n X.1 X.2.1 dL_sails_330 rfl (lv_at hl 7 rfl) ?_
                    refine lv_iload X.1 X.2.1 dL_sails_331 (lv_at hl 1 rfl) ?_
                    refine x_callV X hK hw (k := 0) (As := [.int (nI b), .int (nI (lowN (v >>> ((nI 4) &&& 31)) 5))]) (rest := []) (w_buoy hI (by omega) hO561 (nI b) (nI (lowN (v >>> ((nI 4) &&& 31)) 5)) (fun g t hE => a_buoy_no_r hrA hJ hb (by omega) (fun _ => by omega) hE)) (x_cwV yX7_buoy cX7_buoy 3 (some .int) 2 X q383 q384 q385 q1 q386 hd_X7_buoy ⟨(Nat.le_of_ble_eq_true rfl), (Nat.le_of_ble_eq_true rfl)⟩) (by omega) hO561.ma rfl rfl hl.1 rfl (Nat.le_of_ble_eq_true rfl) dL_sails_333 ⟨(Nat.le_of_ble_eq_true rfl), (Nat.le_of_ble_eq_true rfl)⟩ (fun v563 F564 H locs hp hw => ?_)
                    obtain ⟨e565, hO566, hf567⟩ := hp
                    refine x_top e565 ?_
                    replace hfr := hfr.tr hf567 (by omega) (by omega)
                    refine lv_istore (lv' := [(9, .int ((-2))), (8, .int (nI (eA A r b 2))), (7, .int (nI (lowN (v >>> ((nI 4) &&& 31)) 5))), (6, .int (nI ((rA A r 0) * (rA A r 1)))), (5, .int (nI (eA A r b 1))), (4, .int (nI (eA A r b 0))), (3, .int (nI r)), (0, .ref (ad 0)), (1, .int (nI b)), (2, .int v)]) X.1 X.2.1 dL_sails_336 hl (by decide) rfl (fun ls hl => ?_)
                    refine lv_iload X.1 X.2.1 dL_sails_338 (lv_at hl 2 rfl) ?_
                    refine lv_aload_n X.1 X.2.1 dL_sails_340 rfl (lv_at hl 7 rfl) ?_
                    refine lv_iload_n X.1 X.2.1 dL_sails_341 rfl (lv_at hl 6 rfl) ?_
                    refine lv_iconst (v := nI 0) X.1 X.2.1 dL_sails_342 (by decide) ?_
                    refine x_callV X hK hw (k := 0) (As := [.int (nI r), .int (nI 0)]) (rest := [.int (nI (lowN (v >>> ((nI 4) &&& 31)) 5))]) (w_race hI (by omega) hJ.1.1 hO566 (nI r) (nI 0) (fun g t tm hE => a_rac0 hJ (by omega) hk hE (by omega) tm)) (x_cwV yX7_race cX7_race 3 (some .int) 2 X q804 q805 q806 q1 q807 hd_X7_race ⟨(Nat.le_of_ble_eq_true rfl), (Nat.le_of_ble_eq_true rfl)⟩) (by omega) hO566.ma rfl rfl hl.1 rfl (Nat.le_of_ble_eq_true rfl) dL_sails_343 ⟨(Nat.le_of_ble_eq_true rfl), (Nat.le_of_ble_eq_true rfl)⟩ (fun v568 F569 H locs hp hw => ?_)
                    obtain ⟨e570, hO571, hf572⟩ := hp
                    refine x_top e570 ?_
                    replace hfr := hfr.tr hf572 (by omega) (by omega)
                    refine lv_icmp_lt (tgt := 364) X.1 X.2.1 dL_sails_346 (by decide) (fun c573 => ?_) (fun c573 => ?_)
                    · exact absurd ((br_lt (by omega) (by omega)).mp c573) (by omega)
                    · have n574 : ¬ (lowN (v >>> ((nI 4) &&& 31)) 5) < (rA A r 0) := fun z => c573 ((br_lt (by omega) (by omega)).mpr z)
                      refine lv_iload X.1 X.2.1 dL_sails_349 (lv_at hl 0 rfl) ?_
                      refine lv_bipush (v := (-2)) X.1 X.2.1 dL_sails_351 (by decide) ?_
                      refine lv_icmp_ne (tgt := 360) X.1 X.2.1 dL_sails_353 (by decide) (fun c575 => ?_) (fun c575 => ?_)
                      · exact absurd (by decide) c575
                      · refine lv_iconst (v := nI 1) X.1 X.2.1 dL_sails_356 (by decide) ?_
                        refine lv_goto (tgt := 433) X.1 X.2.1 dL_sails_357 (by decide) ?_
                        exact x_iret X hr hlk hK hw (v := nI 1) (by first | rfl | exact nr_b _ | decide) (⟨rfl, ACT.same hJ hO571, hfr⟩) dL_sails_433
                  · refine lv_aload_n X.1 X.2.1 dL_sails_329 rfl (lv_at hl 6 rfl) ?_
                    refine lv_iload_n X.1 X.2.1 dL_sails_330 rfl (lv_at hl 7 rfl) ?_
                    refine lv_iload X.1 X.2.1 dL_sails_331 (lv_at hl 1 rfl) ?_
                    refine x_callV X hK hw (k := 0) (As := [.int (nI b), .int (nI (lowN (v >>> ((nI 4) &&& 31)) 5))]) (rest := []) (w_buoy hI (by omega) hO561 (nI b) (nI (lowN (v >>> ((nI 4) &&& 31)) 5)) (fun g t hE => a_buoy_ok_r hrA hJ ((opn_r hrA).mpr hop) hb (by omega) (by omega) (by omega) (by omega) hE)) (x_cwV yX7_buoy cX7_buoy 3 (some .int) 2 X q383 q384 q385 q1 q386 hd_X7_buoy ⟨(Nat.le_of_ble_eq_true rfl), (Nat.le_of_ble_eq_true rfl)⟩) (by omega) hO561.ma rfl rfl hl.1 rfl (Nat.le_of_ble_eq_true rfl) dL_sails_333 ⟨(Nat.le_of_ble_eq_true rfl), (Nat.le_of_ble_eq_true rfl)⟩ (fun v576 F577 H locs hp hw => ?_)
                    obtain ⟨e578, hO579, hf580⟩ := hp
                    refine x_top e578 ?_
                    replace hfr := hfr.tr hf580 (by omega) (by omega)
                    obtain ⟨B581, hB581⟩ : ∃ y, y = ep A r b 1 (eA A r b 1 + 1) := ⟨_, rfl⟩
                    rw [← hB581] at hO579
                    have jB581 : HJ ca B581 := by rw [hB581]; exact j_made_r hrA hJ ((opn_r hrA).mpr hop) hb (by omega) (by omega)
                    have eB581 : ∀ i, i ≠ 80 + 6 * (9 * r + b) + 1 → B581 i = A i := fun i h1 => by rw [hB581]; exact nup_ne h1
                    have vB581 : eA B581 r b 1 = eA A r b 1 + 1 := by rw [hB581]; exact ep_at
                    have b0B581 : B581 0 = A 0 := eB581 0 (by omega)
                    have b1B581 : B581 1 = A 1 := eB581 1 (by omega)
                    have b2B581 : B581 2 = A 2 := eB581 2 (by omega)
                    have b3B581 : B581 3 = A 3 := eB581 3 (by omega)
                    have x0B581 : eA B581 r b 0 = eA A r b 0 := eB581 _ (by omega)
                    have x2B581 : eA B581 r b 2 = eA A r b 2 := eB581 _ (by omega)
                    have x3B581 : eA B581 r b 3 = eA A r b 3 := eB581 _ (by omega)
                    have x4B581 : eA B581 r b 4 = eA A r b 4 := eB581 _ (by omega)
                    have r0B581 : rA B581 r 0 = rA A r 0 := eB581 _ (by omega)
                    have r1B581 : rA B581 r 1 = rA A r 1 := eB581 _ (by omega)
                    have r2B581 : rA B581 r 2 = rA A r 2 := eB581 _ (by omega)
                    have mB581 : ∀ k, k < A 3 → pA A k 3 ≤ pA B581 k 3 := fun k hk => by rw [show pA B581 k 3 = pA A k 3 from eB581 _ (by omega)]; exact Nat.le_refl _
                    have qB581 : eA A r b 1 % rA B581 r 0 = eA A r b 1 % rA A r 0 := by rw [r0B581]
                    refine lv_istore (lv' := [(9, .int (nI (eA A r b 1 + 1))), (8, .int (nI (eA A r b 2))), (7, .int (nI (lowN (v >>> ((nI 4) &&& 31)) 5))), (6, .int (nI ((rA A r 0) * (rA A r 1)))), (5, .int (nI (eA A r b 1))), (4, .int (nI (eA A r b 0))), (3, .int (nI r)), (0, .ref (ad 0)), (1, .int (nI b)), (2, .int v)]) X.1 X.2.1 dL_sails_336 hl (by decide) rfl (fun ls hl => ?_)
                    refine lv_iload X.1 X.2.1 dL_sails_338 (lv_at hl 2 rfl) ?_
                    refine lv_aload_n X.1 X.2.1 dL_sails_340 rfl (lv_at hl 7 rfl) ?_
                    refine lv_iload_n X.1 X.2.1 dL_sails_341 rfl (lv_at hl 6 rfl) ?_
                    refine lv_iconst (v := nI 0) X.1 X.2.1 dL_sails_342 (by decide) ?_
                    refine x_callV X hK hw (k := 0) (As := [.int (nI r), .int (nI 0)]) (rest := [.int (nI (lowN (v >>> ((nI 4) &&& 31)) 5))]) (w_race hI (by omega) jB581.1.1 hO579 (nI r) (nI 0) (fun g t tm hE => a_rac0 jB581 (by omega) (by omega) hE (by omega) tm)) (x_cwV yX7_race cX7_race 3 (some .int) 2 X q804 q805 q806 q1 q807 hd_X7_race ⟨(Nat.le_of_ble_eq_true rfl), (Nat.le_of_ble_eq_true rfl)⟩) (by omega) hO579.ma rfl rfl hl.1 rfl (Nat.le_of_ble_eq_true rfl) dL_sails_343 ⟨(Nat.le_of_ble_eq_true rfl), (Nat.le_of_ble_eq_true rfl)⟩ (fun v582 F583 H locs hp hw => ?_)
                    obtain ⟨e584, hO585, hf586⟩ := hp
                    refine x_top e584 ?_
                    replace hfr := hfr.tr hf586 (by omega) (by omega)
                    refine lv_icmp_lt (tgt := 364) X.1 X.2.1 dL_sails_346 (by decide) (fun c587 => ?_) (fun c587 => ?_)
                    · have n588 := (br_lt (by omega) (by omega)).mp c587
                      refine lv_iload X.1 X.2.1 dL_sails_364 (lv_at hl 2 rfl) ?_
                      refine lv_iload X.1 X.2.1 dL_sails_366 (lv_at hl 4 rfl) ?_
                      refine lv_aload_n X.1 X.2.1 dL_sails_368 rfl (lv_at hl 7 rfl) ?_
                      refine lv_iload_n X.1 X.2.1 dL_sails_369 rfl (lv_at hl 6 rfl) ?_
                      refine lv_iconst (v := nI 0) X.1 X.2.1 dL_sails_370 (by decide) ?_
                      refine x_callV X hK hw (k := 0) (As := [.int (nI r), .int (nI 0)]) (rest := [.int (nI (eA A r b 1)), .int (nI (lowN (v >>> ((nI 4) &&& 31)) 5))]) (w_race hI (by omega) jB581.1.1 hO585 (nI r) (nI 0) (fun g t tm hE => a_rac0 jB581 (by omega) (by omega) hE (by omega) tm)) (x_cwV yX7_race cX7_race 3 (some .int) 2 X q804 q805 q806 q1 q807 hd_X7_race ⟨(Nat.le_of_ble_eq_true rfl), (Nat.le_of_ble_eq_true rfl)⟩) (by omega) hO585.ma rfl rfl hl.1 rfl (Nat.le_of_ble_eq_true rfl) dL_sails_371 ⟨(Nat.le_of_ble_eq_true rfl), (Nat.le_of_ble_eq_true rfl)⟩ (fun v589 F590 H locs hp hw => ?_)
                      obtain ⟨e591, hO592, hf593⟩ := hp
                      refine x_top e591 ?_
                      replace hfr := hfr.tr hf593 (by omega) (by omega)
                      refine lv_irem X.1 X.2.1 dL_sails_374 (fun z => by have := (bz_eq (by omega)).mp z; omega) ?_
                      refine x_top (nI_mod (by omega) (by omega) (by omega)) ?_
                      refine lv_icmp_ne (tgt := 407) X.1 X.2.1 dL_sails_375 (by decide) (fun c594 => ?_) (fun c594 => ?_)
                      · exact absurd ((nI_eq (by omega) (by omega)).mpr (by omega)) c594
                      · have n595 := (nI_eq (by omega) (by omega)).mp c594
                        refine lv_iload X.1 X.2.1 dL_sails_378 (lv_at hl 0 rfl) ?_
                        refine lv_iload X.1 X.2.1 dL_sails_380 (lv_at hl 4 rfl) ?_
                        refine lv_iconst (v := nI 1) X.1 X.2.1 dL_sails_382 (by decide) ?_
                        refine lv_iadd X.1 X.2.1 dL_sails_383 ?_
                        refine x_top (nI_add _ _) ?_
                        refine lv_icmp_ne (tgt := 403) X.1 X.2.1 dL_sails_384 (by decide) (fun c596 => ?_) (fun c596 => ?_)
                        · exact absurd ((nI_eq (by omega) (by omega)).mpr (by omega)) c596
                        · have n597 := (nI_eq (by omega) (by omega)).mp c596
                          refine lv_aload_n X.1 X.2.1 dL_sails_387 rfl (lv_at hl 7 rfl) ?_
                          refine lv_iload_n X.1 X.2.1 dL_sails_388 rfl (lv_at hl 6 rfl) ?_
                          refine lv_iload_n X.1 X.2.1 dL_sails_389 rfl (lv_at hl 8 rfl) ?_
                          refine lv_iconst (v := nI 2) X.1 X.2.1 dL_sails_390 (by decide) ?_
                          refine x_callV X hK hw (k := 0) (As := [.int (nI r), .int (nI b), .int (nI 2)]) (rest := []) (w_result hI (by omega) jB581.1.1 hO592 (nI r) (nI b) (nI 2) (fun g t tm hE => a_res2 jB581 (by omega) (by omega) hE (by omega) (by omega) tm)) (x_cwV yX7_result cX7_result 4 (some .int) 3 X q695 q696 q697 q1 q698 hd_X7_result ⟨(Nat.le_of_ble_eq_true rfl), (Nat.le_of_ble_eq_true rfl)⟩) (by omega) hO592.ma rfl rfl hl.1 rfl (Nat.le_of_ble_eq_true rfl) dL_sails_391 ⟨(Nat.le_of_ble_eq_true rfl), (Nat.le_of_ble_eq_true rfl)⟩ (fun v598 F599 H locs hp hw => ?_)
                          obtain ⟨e600, hO601, hf602⟩ := hp
                          refine x_top e600 ?_
                          replace hfr := hfr.tr hf602 (by omega) (by omega)
                          refine lv_iload X.1 X.2.1 dL_sails_394 (lv_at hl 1 rfl) ?_
                          refine lv_icmp_ne (tgt := 403) X.1 X.2.1 dL_sails_396 (by decide) (fun c603 => ?_) (fun c603 => ?_)
                          · exact absurd ((nI_eq (by omega) (by omega)).mpr (by omega)) c603
                          · have n604 := (nI_eq (by omega) (by omega)).mp c603
                            refine lv_iconst (v := nI 1) X.1 X.2.1 dL_sails_399 (by decide) ?_
                            refine lv_goto (tgt := 433) X.1 X.2.1 dL_sails_400 (by decide) ?_
                            exact x_iret X hr hlk hK hw (v := nI 1) (by first | rfl | exact nr_b _ | decide) (⟨rfl, ACT.mk1 jB581 (by omega) (by omega) mB581 hO601, hfr⟩) dL_sails_433
                    · exact absurd ((br_lt (by omega) (by omega)).mpr (by omega)) c587
                  · refine lv_aload_n X.1 X.2.1 dL_sails_329 rfl (lv_at hl 6 rfl) ?_
                    refine lv_iload_n X.1 X.2.1 dL_sails_330 rfl (lv_at hl 7 rfl) ?_
                    refine lv_iload X.1 X.2.1 dL_sails_331 (lv_at hl 1 rfl) ?_
                    refine x_callV X hK hw (k := 0) (As := [.int (nI b), .int (nI (lowN (v >>> ((nI 4) &&& 31)) 5))]) (rest := []) (w_buoy hI (by omega) hO561 (nI b) (nI (lowN (v >>> ((nI 4) &&& 31)) 5)) (fun g t hE => a_buoy_mi_r hrA hJ ((opn_r hrA).mpr hop) hb (by omega) (by omega) (by omega) hE)) (x_cwV yX7_buoy cX7_buoy 3 (some .int) 2 X q383 q384 q385 q1 q386 hd_X7_buoy ⟨(Nat.le_of_ble_eq_true rfl), (Nat.le_of_ble_eq_true rfl)⟩) (by omega) hO561.ma rfl rfl hl.1 rfl (Nat.le_of_ble_eq_true rfl) dL_sails_333 ⟨(Nat.le_of_ble_eq_true rfl), (Nat.le_of_ble_eq_true rfl)⟩ (fun v605 F606 H locs hp hw => ?_)
                    obtain ⟨e607, hO608, hf609⟩ := hp
                    refine x_top e607 ?_
                    replace hfr := hfr.tr hf609 (by omega) (by omega)
                    obtain ⟨B610, hB610⟩ : ∃ y, y = ep A r b 2 (eA A r b 2 + 1) := ⟨_, rfl⟩
                    rw [← hB610] at hO608
                    have jB610 : HJ (ca + 1) B610 := by rw [hB610]; exact j_miss_r hrA hJ ((opn_r hrA).mpr hop) hb
                    have eB610 : ∀ i, i ≠ 80 + 6 * (9 * r + b) + 2 → B610 i = A i := fun i h2 => by rw [hB610]; exact nup_ne h2
                    have vB610 : eA B610 r b 2 = eA A r b 2 + 1 := by rw [hB610]; exact ep_at
                    have b0B610 : B610 0 = A 0 := eB610 0 (by omega)
                    have b1B610 : B610 1 = A 1 := eB610 1 (by omega)
                    have b2B610 : B610 2 = A 2 := eB610 2 (by omega)
                    have b3B610 : B610 3 = A 3 := eB610 3 (by omega)
                    have x0B610 : eA B610 r b 0 = eA A r b 0 := eB610 _ (by omega)
                    have x1B610 : eA B610 r b 1 = eA A r b 1 := eB610 _ (by omega)
                    have x3B610 : eA B610 r b 3 = eA A r b 3 := eB610 _ (by omega)
                    have x4B610 : eA B610 r b 4 = eA A r b 4 := eB610 _ (by omega)
                    have r0B610 : rA B610 r 0 = rA A r 0 := eB610 _ (by omega)
                    have r1B610 : rA B610 r 1 = rA A r 1 := eB610 _ (by omega)
                    have r2B610 : rA B610 r 2 = rA A r 2 := eB610 _ (by omega)
                    have mB610 : ∀ k, k < A 3 → pA A k 3 ≤ pA B610 k 3 := fun k hk => by rw [show pA B610 k 3 = pA A k 3 from eB610 _ (by omega)]; exact Nat.le_refl _
                    have qB610 : eA A r b 1 % rA B610 r 0 = eA A r b 1 % rA A r 0 := by rw [r0B610]
                    refine lv_istore (lv' := [(9, .int (nI (eA A r b 1))), (8, .int (nI (eA A r b 2))), (7, .int (nI (lowN (v >>> ((nI 4) &&& 31)) 5))), (6, .int (nI ((rA A r 0) * (rA A r 1)))), (5, .int (nI (eA A r b 1))), (4, .int (nI (eA A r b 0))), (3, .int (nI r)), (0, .ref (ad 0)), (1, .int (nI b)), (2, .int v)]) X.1 X.2.1 dL_sails_336 hl (by decide) rfl (fun ls hl => ?_)
                    refine lv_iload X.1 X.2.1 dL_sails_338 (lv_at hl 2 rfl) ?_
                    refine lv_aload_n X.1 X.2.1 dL_sails_340 rfl (lv_at hl 7 rfl) ?_
                    refine lv_iload_n X.1 X.2.1 dL_sails_341 rfl (lv_at hl 6 rfl) ?_
                    refine lv_iconst (v := nI 0) X.1 X.2.1 dL_sails_342 (by decide) ?_
                    refine x_callV X hK hw (k := 0) (As := [.int (nI r), .int (nI 0)]) (rest := [.int (nI (lowN (v >>> ((nI 4) &&& 31)) 5))]) (w_race hI (by omega) jB610.1.1 hO608 (nI r) (nI 0) (fun g t tm hE => a_rac0 jB610 (by omega) (by omega) hE (by omega) tm)) (x_cwV yX7_race cX7_race 3 (some .int) 2 X q804 q805 q806 q1 q807 hd_X7_race ⟨(Nat.le_of_ble_eq_true rfl), (Nat.le_of_ble_eq_true rfl)⟩) (by omega) hO608.ma rfl rfl hl.1 rfl (Nat.le_of_ble_eq_true rfl) dL_sails_343 ⟨(Nat.le_of_ble_eq_true rfl), (Nat.le_of_ble_eq_true rfl)⟩ (fun v611 F612 H locs hp hw => ?_)
                    obtain ⟨e613, hO614, hf615⟩ := hp
                    refine x_top e613 ?_
                    replace hfr := hfr.tr hf615 (by omega) (by omega)
                    refine lv_icmp_lt (tgt := 364) X.1 X.2.1 dL_sails_346 (by decide) (fun c616 => ?_) (fun c616 => ?_)
                    · have n617 := (br_lt (by omega) (by omega)).mp c616
                      refine lv_iload X.1 X.2.1 dL_sails_364 (lv_at hl 2 rfl) ?_
                      refine lv_iload X.1 X.2.1 dL_sails_366 (lv_at hl 4 rfl) ?_
                      refine lv_aload_n X.1 X.2.1 dL_sails_368 rfl (lv_at hl 7 rfl) ?_
                      refine lv_iload_n X.1 X.2.1 dL_sails_369 rfl (lv_at hl 6 rfl) ?_
                      refine lv_iconst (v := nI 0) X.1 X.2.1 dL_sails_370 (by decide) ?_
                      refine x_callV X hK hw (k := 0) (As := [.int (nI r), .int (nI 0)]) (rest := [.int (nI (eA A r b 1)), .int (nI (lowN (v >>> ((nI 4) &&& 31)) 5))]) (w_race hI (by omega) jB610.1.1 hO614 (nI r) (nI 0) (fun g t tm hE => a_rac0 jB610 (by omega) (by omega) hE (by omega) tm)) (x_cwV yX7_race cX7_race 3 (some .int) 2 X q804 q805 q806 q1 q807 hd_X7_race ⟨(Nat.le_of_ble_eq_true rfl), (Nat.le_of_ble_eq_true rfl)⟩) (by omega) hO614.ma rfl rfl hl.1 rfl (Nat.le_of_ble_eq_true rfl) dL_sails_371 ⟨(Nat.le_of_ble_eq_true rfl), (Nat.le_of_ble_eq_true rfl)⟩ (fun v618 F619 H locs hp hw => ?_)
                      obtain ⟨e620, hO621, hf622⟩ := hp
                      refine x_top e620 ?_
                      replace hfr := hfr.tr hf622 (by omega) (by omega)
                      refine lv_irem X.1 X.2.1 dL_sails_374 (fun z => by have := (bz_eq (by omega)).mp z; omega) ?_
                      refine x_top (nI_mod (by omega) (by omega) (by omega)) ?_
                      refine lv_icmp_ne (tgt := 407) X.1 X.2.1 dL_sails_375 (by decide) (fun c623 => ?_) (fun c623 => ?_)
                      · have n624 : ¬ (lowN (v >>> ((nI 4) &&& 31)) 5) = ((eA A r b 1) % (rA B610 r 0)) := fun z => c623 ((nI_eq (by omega) (by omega)).mpr z)
                        refine lv_iload X.1 X.2.1 dL_sails_407 (lv_at hl 0 rfl) ?_
                        refine lv_iload X.1 X.2.1 dL_sails_409 (lv_at hl 4 rfl) ?_
                        refine lv_icmp_ne (tgt := 432) X.1 X.2.1 dL_sails_411 (by decide) (fun c625 => ?_) (fun c625 => ?_)
                        · exact absurd ((nI_eq (by omega) (by omega)).mpr (by omega)) c625
                        · have n626 := (nI_eq (by omega) (by omega)).mp c625
                          refine lv_aload_n X.1 X.2.1 dL_sails_414 rfl (lv_at hl 7 rfl) ?_
                          refine lv_iload_n X.1 X.2.1 dL_sails_415 rfl (lv_at hl 6 rfl) ?_
                          refine lv_iload_n X.1 X.2.1 dL_sails_416 rfl (lv_at hl 8 rfl) ?_
                          refine lv_iconst (v := nI 2) X.1 X.2.1 dL_sails_417 (by decide) ?_
                          refine x_callV X hK hw (k := 0) (As := [.int (nI r), .int (nI b), .int (nI 2)]) (rest := []) (w_result hI (by omega) jB610.1.1 hO621 (nI r) (nI b) (nI 2) (fun g t tm hE => a_res2 jB610 (by omega) (by omega) hE (by omega) (by omega) tm)) (x_cwV yX7_result cX7_result 4 (some .int) 3 X q695 q696 q697 q1 q698 hd_X7_result ⟨(Nat.le_of_ble_eq_true rfl), (Nat.le_of_ble_eq_true rfl)⟩) (by omega) hO621.ma rfl rfl hl.1 rfl (Nat.le_of_ble_eq_true rfl) dL_sails_418 ⟨(Nat.le_of_ble_eq_true rfl), (Nat.le_of_ble_eq_true rfl)⟩ (fun v627 F628 H locs hp hw => ?_)
                          obtain ⟨e629, hO630, hf631⟩ := hp
                          refine x_top e629 ?_
                          replace hfr := hfr.tr hf631 (by omega) (by omega)
                          refine lv_iload X.1 X.2.1 dL_sails_421 (lv_at hl 1 rfl) ?_
                          refine lv_iconst (v := nI 1) X.1 X.2.1 dL_sails_423 (by decide) ?_
                          refine lv_iadd X.1 X.2.1 dL_sails_424 ?_
                          refine x_top (nI_add _ _) ?_
                          refine lv_icmp_ne (tgt := 432) X.1 X.2.1 dL_sails_425 (by decide) (fun c632 => ?_) (fun c632 => ?_)
                          · exact absurd ((nI_eq (by omega) (by omega)).mpr (by omega)) c632
                          · have n633 := (nI_eq (by omega) (by omega)).mp c632
                            refine lv_iconst (v := nI 1) X.1 X.2.1 dL_sails_428 (by decide) ?_
                            refine lv_goto (tgt := 433) X.1 X.2.1 dL_sails_429 (by decide) ?_
                            exact x_iret X hr hlk hK hw (v := nI 1) (by first | rfl | exact nr_b _ | decide) (⟨rfl, ACT.mk1 jB610 (by omega) (by omega) mB610 hO630, hfr⟩) dL_sails_433
                      · exact absurd ((nI_eq (by omega) (by omega)).mp c623) (by omega)
                    · exact absurd ((br_lt (by omega) (by omega)).mpr (by omega)) c616
              · have n634 := (nI_eq (by omega) (by omega)).mp c470
                refine lv_aload_n X.1 X.2.1 dL_sails_194 rfl (lv_at hl 4 rfl) ?_
                refine lv_iload_n X.1 X.2.1 dL_sails_195 rfl (lv_at hl 5 rfl) ?_
                refine x_callV X hK hw (k := 0) (As := [.int (nI b)]) (rest := []) (w_line hI (by omega) hO31 (nI b) (fun g t hE => a_line_fi_r hrA hJ ((opn_r hrA).mpr hop) hb (by omega) (by omega) hE)) (x_cwV yX7_line cX7_line 2 (some .int) 1 X q353 q354 q355 q1 q356 hd_X7_line ⟨(Nat.le_of_ble_eq_true rfl), (Nat.le_of_ble_eq_true rfl)⟩) (by omega) hO31.ma rfl rfl hl.1 rfl (Nat.le_of_ble_eq_true rfl) dL_sails_196 ⟨(Nat.le_of_ble_eq_true rfl), (Nat.le_of_ble_eq_true rfl)⟩ (fun v635 F636 H locs hp hw => ?_)
                obtain ⟨e637, hO638, hf639⟩ := hp
                refine x_top e637 ?_
                replace hfr := hfr.tr hf639 (by omega) (by omega)
                obtain ⟨B640, hB640⟩ : ∃ y, y = ep (ep A r b 5 (A 0)) r b 0 3 := ⟨_, rfl⟩
                rw [← hB640] at hO638
                have jB640 : HJ ca B640 := by rw [hB640]; exact j_fin_r hrA hJ ((opn_r hrA).mpr hop) hb (by omega) (by omega)
                have eB640 : ∀ i, i ≠ 80 + 6 * (9 * r + b) + 0 → i ≠ 80 + 6 * (9 * r + b) + 5 → B640 i = A i := fun i h0 h5 => by rw [hB640]; exact (nup_ne h0).trans (nup_ne h5)
                have vB640 : eA B640 r b 0 = 3 := by rw [hB640]; exact ep_at
                have b0B640 : B640 0 = A 0 := eB640 0 (by omega) (by omega)
                have b1B640 : B640 1 = A 1 := eB640 1 (by omega) (by omega)
                have b2B640 : B640 2 = A 2 := eB640 2 (by omega) (by omega)
                have b3B640 : B640 3 = A 3 := eB640 3 (by omega) (by omega)
                have x1B640 : eA B640 r b 1 = eA A r b 1 := eB640 _ (by omega) (by omega)
                have x2B640 : eA B640 r b 2 = eA A r b 2 := eB640 _ (by omega) (by omega)
                have x3B640 : eA B640 r b 3 = eA A r b 3 := eB640 _ (by omega) (by omega)
                have x4B640 : eA B640 r b 4 = eA A r b 4 := eB640 _ (by omega) (by omega)
                have r0B640 : rA B640 r 0 = rA A r 0 := eB640 _ (by omega) (by omega)
                have r1B640 : rA B640 r 1 = rA A r 1 := eB640 _ (by omega) (by omega)
                have r2B640 : rA B640 r 2 = rA A r 2 := eB640 _ (by omega) (by omega)
                have mB640 : ∀ k, k < A 3 → pA A k 3 ≤ pA B640 k 3 := fun k hk => by rw [show pA B640 k 3 = pA A k 3 from eB640 _ (by omega) (by omega)]; exact Nat.le_refl _
                have qB640 : eA A r b 1 % rA B640 r 0 = eA A r b 1 % rA A r 0 := by rw [r0B640]
                refine lv_istore (lv' := [(7, .int (nI 3)), (6, .int (nI ((rA A r 0) * (rA A r 1)))), (5, .int (nI (eA A r b 1))), (4, .int (nI (eA A r b 0))), (3, .int (nI r)), (0, .ref (ad 0)), (1, .int (nI b)), (2, .int v)]) X.1 X.2.1 dL_sails_199 hl (by decide) rfl (fun ls hl => ?_)
                refine lv_aload_n X.1 X.2.1 dL_sails_201 rfl (lv_at hl 5 rfl) ?_
                refine lv_iconst (v := nI 3) X.1 X.2.1 dL_sails_202 (by decide) ?_
                refine x_callV X hK hw (k := 0) (As := [.int (nI 3)]) (rest := []) (w_count hI (by omega) hO638 (nI 3) (fun g t z n hE => a_cou3 jB640 (by omega) (by omega) hE z n)) (x_cwV yX7_count cX7_count 2 (some .int) 1 X q818 q819 q820 q1 q821 hd_X7_count ⟨(Nat.le_of_ble_eq_true rfl), (Nat.le_of_ble_eq_true rfl)⟩) (by omega) hO638.ma rfl rfl hl.1 rfl (Nat.le_of_ble_eq_true rfl) dL_sails_203 ⟨(Nat.le_of_ble_eq_true rfl), (Nat.le_of_ble_eq_true rfl)⟩ (fun v641 F642 H locs hp hw => ?_)
                obtain ⟨e643, hO644, hf645⟩ := hp
                refine x_top e643 ?_
                replace hfr := hfr.tr hf645 (by omega) (by omega)
                refine lv_aload_n X.1 X.2.1 dL_sails_206 rfl (lv_at hl 5 rfl) ?_
                refine lv_iload_n X.1 X.2.1 dL_sails_207 rfl (lv_at hl 4 rfl) ?_
                refine lv_iconst (v := nI 2) X.1 X.2.1 dL_sails_208 (by decide) ?_
                refine x_callV X hK hw (k := 0) (As := [.int (nI r), .int (nI 2)]) (rest := [.int (nI (B640 0))]) (w_race hI (by omega) jB640.1.1 hO644 (nI r) (nI 2) (fun g t tm hE => a_rac2 jB640 (by omega) (by omega) hE (by omega) tm)) (x_cwV yX7_race cX7_race 3 (some .int) 2 X q804 q805 q806 q1 q807 hd_X7_race ⟨(Nat.le_of_ble_eq_true rfl), (Nat.le_of_ble_eq_true rfl)⟩) (by omega) hO644.ma rfl rfl hl.1 rfl (Nat.le_of_ble_eq_true rfl) dL_sails_209 ⟨(Nat.le_of_ble_eq_true rfl), (Nat.le_of_ble_eq_true rfl)⟩ (fun v646 F647 H locs hp hw => ?_)
                obtain ⟨e648, hO649, hf650⟩ := hp
                refine x_top e648 ?_
                replace hfr := hfr.tr hf650 (by omega) (by omega)
                refine lv_icmp_lt (tgt := 219) X.1 X.2.1 dL_sails_212 (by decide) (fun c651 => ?_) (fun c651 => ?_)
                · have n652 := (br_lt (by omega) (by omega)).mp c651
                  refine lv_iconst (v := nI 0) X.1 X.2.1 dL_sails_219 (by decide) ?_
                  refine lv_istore (lv' := [(8, .int (nI 0)), (7, .int (nI 3)), (6, .int (nI ((rA A r 0) * (rA A r 1)))), (5, .int (nI (eA A r b 1))), (4, .int (nI (eA A r b 0))), (3, .int (nI r)), (0, .ref (ad 0)), (1, .int (nI b)), (2, .int v)]) X.1 X.2.1 dL_sails_220 hl (by decide) rfl (fun ls hl => ?_)
                  refine lv_iload X.1 X.2.1 dL_sails_222 (lv_at hl 1 rfl) ?_
                  refine lv_iload X.1 X.2.1 dL_sails_224 (lv_at hl 4 rfl) ?_
                  refine lv_iconst (v := nI 2) X.1 X.2.1 dL_sails_226 (by decide) ?_
                  refine lv_icmp_le (tgt := 235) X.1 X.2.1 dL_sails_227 (by decide) (fun c653 => ?_) (fun c653 => ?_)
                  · have n654 := (nI_leI (by omega) (by omega)).mp c653
                    refine lv_iload X.1 X.2.1 dL_sails_235 (lv_at hl 4 rfl) ?_
                    refine lv_iconst (v := nI 2) X.1 X.2.1 dL_sails_237 (by decide) ?_
                    refine lv_icmp_ne (tgt := 245) X.1 X.2.1 dL_sails_238 (by decide) (fun c655 => ?_) (fun c655 => ?_)
                    · exact absurd ((nI_eq (by omega) (by omega)).mpr (by omega)) c655
                    · have n656 := (nI_eq (by omega) (by omega)).mp c655
                      refine lv_iconst (v := nI 3) X.1 X.2.1 dL_sails_241 (by decide) ?_
                      refine lv_goto (tgt := 258) X.1 X.2.1 dL_sails_242 (by decide) ?_
                      refine lv_icmp_ne (tgt := 287) X.1 X.2.1 dL_sails_258 (by decide) (fun c657 => ?_) (fun c657 => ?_)
                      · exact absurd (by decide) c657
                      · refine lv_aload_n X.1 X.2.1 dL_sails_261 rfl (lv_at hl 6 rfl) ?_
                        refine lv_iload_n X.1 X.2.1 dL_sails_262 rfl (lv_at hl 5 rfl) ?_
                        refine lv_iload_n X.1 X.2.1 dL_sails_263 rfl (lv_at hl 7 rfl) ?_
                        refine lv_iconst (v := nI 0) X.1 X.2.1 dL_sails_264 (by decide) ?_
                        refine x_callV X hK hw (k := 0) (As := [.int (nI r), .int (nI b), .int (nI 0)]) (rest := []) (w_result hI (by omega) jB640.1.1 hO649 (nI r) (nI b) (nI 0) (fun g t tm hE => a_res0 jB640 (by omega) (by omega) hE (by omega) (by omega) tm)) (x_cwV yX7_result cX7_result 4 (some .int) 3 X q695 q696 q697 q1 q698 hd_X7_result ⟨(Nat.le_of_ble_eq_true rfl), (Nat.le_of_ble_eq_true rfl)⟩) (by omega) hO649.ma rfl rfl hl.1 rfl (Nat.le_of_ble_eq_true rfl) dL_sails_265 ⟨(Nat.le_of_ble_eq_true rfl), (Nat.le_of_ble_eq_true rfl)⟩ (fun v658 F659 H locs hp hw => ?_)
                        obtain ⟨e660, hO661, hf662⟩ := hp
                        refine x_top e660 ?_
                        replace hfr := hfr.tr hf662 (by omega) (by omega)
                        refine lv_iload X.1 X.2.1 dL_sails_268 (lv_at hl 1 rfl) ?_
                        refine lv_if_ge (tgt := 278) X.1 X.2.1 dL_sails_270 (by decide) (fun c663 => ?_) (fun c663 => ?_)
                        · refine lv_iload X.1 X.2.1 dL_sails_278 (lv_at hl 1 rfl) ?_
                          refine lv_icmp_ne (tgt := 287) X.1 X.2.1 dL_sails_280 (by decide) (fun c664 => ?_) (fun c664 => ?_)
                          · exact absurd ((nI_eq (by omega) (by omega)).mpr (by omega)) c664
                          · have n665 := (nI_eq (by omega) (by omega)).mp c664
                            refine lv_iconst (v := nI 1) X.1 X.2.1 dL_sails_283 (by decide) ?_
                            refine lv_goto (tgt := 288) X.1 X.2.1 dL_sails_284 (by decide) ?_
                            exact x_iret X hr hlk hK hw (v := nI 1) (by first | rfl | exact nr_b _ | decide) (⟨rfl, ACT.mk1 jB640 (by omega) (by omega) mB640 hO661, hfr⟩) dL_sails_288
                        · exact absurd (by decide) c663
                  · exact absurd ((nI_leI (by omega) (by omega)).mpr (by omega)) c653
                · have n666 : ¬ (B640 0) < (rA B640 r 2) := fun z => c651 ((br_lt (by omega) (by omega)).mpr z)
                  refine lv_iconst (v := nI 1) X.1 X.2.1 dL_sails_215 (by decide) ?_
                  refine lv_goto (tgt := 220) X.1 X.2.1 dL_sails_216 (by decide) ?_
                  refine lv_istore (lv' := [(8, .int (nI 1)), (7, .int (nI 3)), (6, .int (nI ((rA A r 0) * (rA A r 1)))), (5, .int (nI (eA A r b 1))), (4, .int (nI (eA A r b 0))), (3, .int (nI r)), (0, .ref (ad 0)), (1, .int (nI b)), (2, .int v)]) X.1 X.2.1 dL_sails_220 hl (by decide) rfl (fun ls hl => ?_)
                  refine lv_iload X.1 X.2.1 dL_sails_222 (lv_at hl 1 rfl) ?_
                  refine lv_iload X.1 X.2.1 dL_sails_224 (lv_at hl 4 rfl) ?_
                  refine lv_iconst (v := nI 2) X.1 X.2.1 dL_sails_226 (by decide) ?_
                  refine lv_icmp_le (tgt := 235) X.1 X.2.1 dL_sails_227 (by decide) (fun c667 => ?_) (fun c667 => ?_)
                  · have n668 := (nI_leI (by omega) (by omega)).mp c667
                    refine lv_iload X.1 X.2.1 dL_sails_235 (lv_at hl 4 rfl) ?_
                    refine lv_iconst (v := nI 2) X.1 X.2.1 dL_sails_237 (by decide) ?_
                    refine lv_icmp_ne (tgt := 245) X.1 X.2.1 dL_sails_238 (by decide) (fun c669 => ?_) (fun c669 => ?_)
                    · exact absurd ((nI_eq (by omega) (by omega)).mpr (by omega)) c669
                    · have n670 := (nI_eq (by omega) (by omega)).mp c669
                      refine lv_iconst (v := nI 3) X.1 X.2.1 dL_sails_241 (by decide) ?_
                      refine lv_goto (tgt := 258) X.1 X.2.1 dL_sails_242 (by decide) ?_
                      refine lv_icmp_ne (tgt := 287) X.1 X.2.1 dL_sails_258 (by decide) (fun c671 => ?_) (fun c671 => ?_)
                      · exact absurd (by decide) c671
                      · refine lv_aload_n X.1 X.2.1 dL_sails_261 rfl (lv_at hl 6 rfl) ?_
                        refine lv_iload_n X.1 X.2.1 dL_sails_262 rfl (lv_at hl 5 rfl) ?_
                        refine lv_iload_n X.1 X.2.1 dL_sails_263 rfl (lv_at hl 7 rfl) ?_
                        refine lv_iconst (v := nI 0) X.1 X.2.1 dL_sails_264 (by decide) ?_
                        refine x_callV X hK hw (k := 0) (As := [.int (nI r), .int (nI b), .int (nI 0)]) (rest := []) (w_result hI (by omega) jB640.1.1 hO649 (nI r) (nI b) (nI 0) (fun g t tm hE => a_res0 jB640 (by omega) (by omega) hE (by omega) (by omega) tm)) (x_cwV yX7_result cX7_result 4 (some .int) 3 X q695 q696 q697 q1 q698 hd_X7_result ⟨(Nat.le_of_ble_eq_true rfl), (Nat.le_of_ble_eq_true rfl)⟩) (by omega) hO649.ma rfl rfl hl.1 rfl (Nat.le_of_ble_eq_true rfl) dL_sails_265 ⟨(Nat.le_of_ble_eq_true rfl), (Nat.le_of_ble_eq_true rfl)⟩ (fun v672 F673 H locs hp hw => ?_)
                        obtain ⟨e674, hO675, hf676⟩ := hp
                        refine x_top e674 ?_
                        replace hfr := hfr.tr hf676 (by omega) (by omega)
                        refine lv_iload X.1 X.2.1 dL_sails_268 (lv_at hl 1 rfl) ?_
                        refine lv_if_ge (tgt := 278) X.1 X.2.1 dL_sails_270 (by decide) (fun c677 => ?_) (fun c677 => ?_)
                        · refine lv_iload X.1 X.2.1 dL_sails_278 (lv_at hl 1 rfl) ?_
                          refine lv_icmp_ne (tgt := 287) X.1 X.2.1 dL_sails_280 (by decide) (fun c678 => ?_) (fun c678 => ?_)
                          · exact absurd ((nI_eq (by omega) (by omega)).mpr (by omega)) c678
                          · have n679 := (nI_eq (by omega) (by omega)).mp c678
                            refine lv_iconst (v := nI 1) X.1 X.2.1 dL_sails_283 (by decide) ?_
                            refine lv_goto (tgt := 288) X.1 X.2.1 dL_sails_284 (by decide) ?_
                            exact x_iret X hr hlk hK hw (v := nI 1) (by first | rfl | exact nr_b _ | decide) (⟨rfl, ACT.mk1 jB640 (by omega) (by omega) mB640 hO675, hfr⟩) dL_sails_288
                        · exact absurd (by decide) c677
                  · exact absurd ((nI_leI (by omega) (by omega)).mpr (by omega)) c667
          · have n680 := (nI_eq (by omega) (by omega)).mp c359
            refine lv_aload_n X.1 X.2.1 dL_sails_175 rfl (lv_at hl 4 rfl) ?_
            refine lv_iload_n X.1 X.2.1 dL_sails_176 rfl (lv_at hl 5 rfl) ?_
            refine x_callS X hK hw (As := [.ref (ad 0), .int (nI b)]) (rest := []) (k_L_finishes hI (by omega) hJ (by omega) hk hO31 (by omega) (by omega) hrA hop hb (by omega)) (x_cwS yL_finishes cL_finishes 10 (some .boolean) 2 X q1401 q1402 q0 q1403 hd_L_finishes ⟨(Nat.le_of_ble_eq_true rfl), (Nat.le_of_ble_eq_true rfl)⟩) rfl hl.1 rfl (Nat.le_of_ble_eq_true rfl) dL_sails_177 ⟨(Nat.le_of_ble_eq_true rfl), (Nat.le_of_ble_eq_true rfl)⟩ (fun v681 F682 H locs hp hw => ?_)
            obtain ⟨e683, hO684, hf685⟩ := hp
            refine x_top e683 ?_
            replace hfr := hfr.tr hf685 (by omega) (by omega)
            exact x_iret X hr hlk hK hw (v := nI 1) (by first | rfl | exact nr_b _ | decide) (⟨rfl, ACT.same hJ hO684, hfr⟩) dL_sails_180
      · have n686 := (bz_eq (by omega)).mp c34
        by_cases hq : eA A r b 0 < 3
        · refine lv_aload_n X.1 X.2.1 dL_sails_106 rfl (lv_at hl 4 rfl) ?_
          refine lv_iload_n X.1 X.2.1 dL_sails_107 rfl (lv_at hl 5 rfl) ?_
          refine x_callV X hK hw (k := 0) (As := [.int (nI b)]) (rest := []) (w_retire hI (by omega) hO31 (nI b) (fun g t hE => a_ret_ok_r hrA hJ ((opn_r hrA).mpr hop) hb (by omega) hE)) (x_cwV yX7_retire cX7_retire 2 (some .int) 1 X q391 q392 q393 q1 q394 hd_X7_retire ⟨(Nat.le_of_ble_eq_true rfl), (Nat.le_of_ble_eq_true rfl)⟩) (by omega) hO31.ma rfl rfl hl.1 rfl (Nat.le_of_ble_eq_true rfl) dL_sails_108 ⟨(Nat.le_of_ble_eq_true rfl), (Nat.le_of_ble_eq_true rfl)⟩ (fun v687 F688 H locs hp hw => ?_)
          obtain ⟨e689, hO690, hf691⟩ := hp
          refine x_top e689 ?_
          replace hfr := hfr.tr hf691 (by omega) (by omega)
          obtain ⟨B692, hB692⟩ : ∃ y, y = ep A r b 0 4 := ⟨_, rfl⟩
          rw [← hB692] at hO690
          have jB692 : HJ ca B692 := by rw [hB692]; exact j_kind_r hrA hJ (by omega) hb (by omega) (by omega) (by omega) (fun q => absurd q (by omega))
          have eB692 : ∀ i, i ≠ 80 + 6 * (9 * r + b) + 0 → B692 i = A i := fun i h0 => by rw [hB692]; exact nup_ne h0
          have vB692 : eA B692 r b 0 = 4 := by rw [hB692]; exact ep_at
          have b0B692 : B692 0 = A 0 := eB692 0 (by omega)
          have b1B692 : B692 1 = A 1 := eB692 1 (by omega)
          have b2B692 : B692 2 = A 2 := eB692 2 (by omega)
          have b3B692 : B692 3 = A 3 := eB692 3 (by omega)
          have x1B692 : eA B692 r b 1 = eA A r b 1 := eB692 _ (by omega)
          have x2B692 : eA B692 r b 2 = eA A r b 2 := eB692 _ (by omega)
          have x3B692 : eA B692 r b 3 = eA A r b 3 := eB692 _ (by omega)
          have x4B692 : eA B692 r b 4 = eA A r b 4 := eB692 _ (by omega)
          have r0B692 : rA B692 r 0 = rA A r 0 := eB692 _ (by omega)
          have r1B692 : rA B692 r 1 = rA A r 1 := eB692 _ (by omega)
          have r2B692 : rA B692 r 2 = rA A r 2 := eB692 _ (by omega)
          have mB692 : ∀ k, k < A 3 → pA A k 3 ≤ pA B692 k 3 := fun k hk => by rw [show pA B692 k 3 = pA A k 3 from eB692 _ (by omega)]; exact Nat.le_refl _
          have qB692 : eA A r b 1 % rA B692 r 0 = eA A r b 1 % rA A r 0 := by rw [r0B692]
          refine lv_istore (lv' := [(7, .int (nI (eA A r b 0))), (6, .int (nI ((rA A r 0) * (rA A r 1)))), (5, .int (nI (eA A r b 1))), (4, .int (nI (eA A r b 0))), (3, .int (nI r)), (0, .ref (ad 0)), (1, .int (nI b)), (2, .int v)]) X.1 X.2.1 dL_sails_111 hl (by decide) rfl (fun ls hl => ?_)
          refine lv_iload X.1 X.2.1 dL_sails_113 (lv_at hl 0 rfl) ?_
          refine lv_iload X.1 X.2.1 dL_sails_115 (lv_at hl 3 rfl) ?_
          refine lv_iconst (v := nI 3) X.1 X.2.1 dL_sails_117 (by decide) ?_
          refine lv_icmp_ge (tgt := 126) X.1 X.2.1 dL_sails_118 (by decide) (fun c693 => ?_) (fun c693 => ?_)
          · exact absurd ((nI_leI (by omega) (by omega)).mp c693) (by omega)
          · have n694 : ¬ 3 ≤ (eA A r b 0) := fun z => c693 ((nI_leI (by omega) (by omega)).mpr z)
            refine lv_iload X.1 X.2.1 dL_sails_121 (lv_at hl 3 rfl) ?_
            refine lv_goto (tgt := 128) X.1 X.2.1 dL_sails_123 (by decide) ?_
            refine lv_icmp_ne (tgt := 157) X.1 X.2.1 dL_sails_128 (by decide) (fun c695 => ?_) (fun c695 => ?_)
            · exact absurd ((nI_eq (by omega) (by omega)).mpr (by omega)) c695
            · have n696 := (nI_eq (by omega) (by omega)).mp c695
              refine lv_aload_n X.1 X.2.1 dL_sails_131 rfl (lv_at hl 5 rfl) ?_
              refine lv_iload_n X.1 X.2.1 dL_sails_132 rfl (lv_at hl 4 rfl) ?_
              refine lv_iload_n X.1 X.2.1 dL_sails_133 rfl (lv_at hl 6 rfl) ?_
              refine lv_iconst (v := nI 0) X.1 X.2.1 dL_sails_134 (by decide) ?_
              refine x_callV X hK hw (k := 0) (As := [.int (nI r), .int (nI b), .int (nI 0)]) (rest := []) (w_result hI (by omega) jB692.1.1 hO690 (nI r) (nI b) (nI 0) (fun g t tm hE => a_res0 jB692 (by omega) (by omega) hE (by omega) (by omega) tm)) (x_cwV yX7_result cX7_result 4 (some .int) 3 X q695 q696 q697 q1 q698 hd_X7_result ⟨(Nat.le_of_ble_eq_true rfl), (Nat.le_of_ble_eq_true rfl)⟩) (by omega) hO690.ma rfl rfl hl.1 rfl (Nat.le_of_ble_eq_true rfl) dL_sails_135 ⟨(Nat.le_of_ble_eq_true rfl), (Nat.le_of_ble_eq_true rfl)⟩ (fun v697 F698 H locs hp hw => ?_)
              obtain ⟨e699, hO700, hf701⟩ := hp
              refine x_top e699 ?_
              replace hfr := hfr.tr hf701 (by omega) (by omega)
              refine lv_iload X.1 X.2.1 dL_sails_138 (lv_at hl 3 rfl) ?_
              refine lv_iconst (v := nI 3) X.1 X.2.1 dL_sails_140 (by decide) ?_
              refine lv_icmp_ge (tgt := 148) X.1 X.2.1 dL_sails_141 (by decide) (fun c702 => ?_) (fun c702 => ?_)
              · exact absurd ((nI_leI (by omega) (by omega)).mp c702) (by omega)
              · have n703 : ¬ 3 ≤ (eA A r b 0) := fun z => c702 ((nI_leI (by omega) (by omega)).mpr z)
                refine lv_iconst (v := nI 4) X.1 X.2.1 dL_sails_144 (by decide) ?_
                refine lv_goto (tgt := 150) X.1 X.2.1 dL_sails_145 (by decide) ?_
                refine lv_icmp_ne (tgt := 157) X.1 X.2.1 dL_sails_150 (by decide) (fun c704 => ?_) (fun c704 => ?_)
                · exact absurd ((nI_eq (by omega) (by omega)).mpr (by omega)) c704
                · have n705 := (nI_eq (by omega) (by omega)).mp c704
                  refine lv_iconst (v := nI 1) X.1 X.2.1 dL_sails_153 (by decide) ?_
                  refine lv_goto (tgt := 158) X.1 X.2.1 dL_sails_154 (by decide) ?_
                  exact x_iret X hr hlk hK hw (v := nI 1) (by first | rfl | exact nr_b _ | decide) (⟨rfl, ACT.mk1 jB692 (by omega) (by omega) mB692 hO700, hfr⟩) dL_sails_158
        · refine lv_aload_n X.1 X.2.1 dL_sails_106 rfl (lv_at hl 4 rfl) ?_
          refine lv_iload_n X.1 X.2.1 dL_sails_107 rfl (lv_at hl 5 rfl) ?_
          refine x_callV X hK hw (k := 0) (As := [.int (nI b)]) (rest := []) (w_retire hI (by omega) hO31 (nI b) (fun g t hE => a_ret_no_r hrA hJ hb (fun _ => by omega) hE)) (x_cwV yX7_retire cX7_retire 2 (some .int) 1 X q391 q392 q393 q1 q394 hd_X7_retire ⟨(Nat.le_of_ble_eq_true rfl), (Nat.le_of_ble_eq_true rfl)⟩) (by omega) hO31.ma rfl rfl hl.1 rfl (Nat.le_of_ble_eq_true rfl) dL_sails_108 ⟨(Nat.le_of_ble_eq_true rfl), (Nat.le_of_ble_eq_true rfl)⟩ (fun v706 F707 H locs hp hw => ?_)
          obtain ⟨e708, hO709, hf710⟩ := hp
          refine x_top e708 ?_
          replace hfr := hfr.tr hf710 (by omega) (by omega)
          refine lv_istore (lv' := [(7, .int ((-4))), (6, .int (nI ((rA A r 0) * (rA A r 1)))), (5, .int (nI (eA A r b 1))), (4, .int (nI (eA A r b 0))), (3, .int (nI r)), (0, .ref (ad 0)), (1, .int (nI b)), (2, .int v)]) X.1 X.2.1 dL_sails_111 hl (by decide) rfl (fun ls hl => ?_)
          refine lv_iload X.1 X.2.1 dL_sails_113 (lv_at hl 0 rfl) ?_
          refine lv_iload X.1 X.2.1 dL_sails_115 (lv_at hl 3 rfl) ?_
          refine lv_iconst (v := nI 3) X.1 X.2.1 dL_sails_117 (by decide) ?_
          refine lv_icmp_ge (tgt := 126) X.1 X.2.1 dL_sails_118 (by decide) (fun c711 => ?_) (fun c711 => ?_)
          · have n712 := (nI_leI (by omega) (by omega)).mp c711
            refine lv_bipush (v := (-4)) X.1 X.2.1 dL_sails_126 (by decide) ?_
            refine lv_icmp_ne (tgt := 157) X.1 X.2.1 dL_sails_128 (by decide) (fun c713 => ?_) (fun c713 => ?_)
            · exact absurd (by decide) c713
            · refine lv_aload_n X.1 X.2.1 dL_sails_131 rfl (lv_at hl 5 rfl) ?_
              refine lv_iload_n X.1 X.2.1 dL_sails_132 rfl (lv_at hl 4 rfl) ?_
              refine lv_iload_n X.1 X.2.1 dL_sails_133 rfl (lv_at hl 6 rfl) ?_
              refine lv_iconst (v := nI 0) X.1 X.2.1 dL_sails_134 (by decide) ?_
              refine x_callV X hK hw (k := 0) (As := [.int (nI r), .int (nI b), .int (nI 0)]) (rest := []) (w_result hI (by omega) hJ.1.1 hO709 (nI r) (nI b) (nI 0) (fun g t tm hE => a_res0 hJ (by omega) hk hE (by omega) (by omega) tm)) (x_cwV yX7_result cX7_result 4 (some .int) 3 X q695 q696 q697 q1 q698 hd_X7_result ⟨(Nat.le_of_ble_eq_true rfl), (Nat.le_of_ble_eq_true rfl)⟩) (by omega) hO709.ma rfl rfl hl.1 rfl (Nat.le_of_ble_eq_true rfl) dL_sails_135 ⟨(Nat.le_of_ble_eq_true rfl), (Nat.le_of_ble_eq_true rfl)⟩ (fun v714 F715 H locs hp hw => ?_)
              obtain ⟨e716, hO717, hf718⟩ := hp
              refine x_top e716 ?_
              replace hfr := hfr.tr hf718 (by omega) (by omega)
              refine lv_iload X.1 X.2.1 dL_sails_138 (lv_at hl 3 rfl) ?_
              refine lv_iconst (v := nI 3) X.1 X.2.1 dL_sails_140 (by decide) ?_
              refine lv_icmp_ge (tgt := 148) X.1 X.2.1 dL_sails_141 (by decide) (fun c719 => ?_) (fun c719 => ?_)
              · have n720 := (nI_leI (by omega) (by omega)).mp c719
                refine lv_iload X.1 X.2.1 dL_sails_148 (lv_at hl 3 rfl) ?_
                refine lv_icmp_ne (tgt := 157) X.1 X.2.1 dL_sails_150 (by decide) (fun c721 => ?_) (fun c721 => ?_)
                · exact absurd ((nI_eq (by omega) (by omega)).mpr (by omega)) c721
                · have n722 := (nI_eq (by omega) (by omega)).mp c721
                  refine lv_iconst (v := nI 1) X.1 X.2.1 dL_sails_153 (by decide) ?_
                  refine lv_goto (tgt := 158) X.1 X.2.1 dL_sails_154 (by decide) ?_
                  exact x_iret X hr hlk hK hw (v := nI 1) (by first | rfl | exact nr_b _ | decide) (⟨rfl, ACT.same hJ hO717, hfr⟩) dL_sails_158
              · exact absurd ((nI_leI (by omega) (by omega)).mpr (by omega)) c719
          · exact absurd ((nI_leI (by omega) (by omega)).mpr (by omega)) c711
    · exact absurd ((nI_eq (by omega) (by omega)).mpr (by omega)) c11
  · have hl1 : ¬ latN A = 1 := fun q => hop ((opn_r hrA).mp ((lat_op hJ).mp q))
    refine lv_aload_n X.1 X.2.1 dL_sails_0 rfl (lv_at hl 0 rfl) ?_
    refine lv_iconst (v := nI 1) X.1 X.2.1 dL_sails_1 (by decide) ?_
    refine x_callV X hK hw (k := 0) (As := [.int (nI 1)]) (rest := []) (w_count hI (by omega) hO (nI 1) (fun g t z n hE => a_cou1 hJ (by omega) hk hE z n)) (x_cwV yX7_count cX7_count 2 (some .int) 1 X q818 q819 q820 q1 q821 hd_X7_count ⟨(Nat.le_of_ble_eq_true rfl), (Nat.le_of_ble_eq_true rfl)⟩) (by omega) hO.ma rfl rfl hl.1 rfl (Nat.le_of_ble_eq_true rfl) dL_sails_2 ⟨(Nat.le_of_ble_eq_true rfl), (Nat.le_of_ble_eq_true rfl)⟩ (fun v723 F724 H locs hp hw => ?_)
    obtain ⟨e725, hO726, hf727⟩ := hp
    refine x_top e725 ?_
    replace hfr := hfr.tr hf727 (by omega) (by omega)
    refine lv_iconst (v := nI 1) X.1 X.2.1 dL_sails_5 (by decide) ?_
    refine lv_isub X.1 X.2.1 dL_sails_6 ?_
    refine x_top (pk_sub (by omega)) ?_
    refine x_top (y := nI r) (congrArg nI (show A 2 - 1 = r by omega)) ?_
    refine lv_istore_n (lv' := [(3, .int (nI r)), (0, .ref (ad 0)), (1, .int (nI b)), (2, .int v)]) X.1 X.2.1 dL_sails_7 rfl hl (by decide) rfl (fun ls hl => ?_)
    refine lv_aload_n X.1 X.2.1 dL_sails_8 rfl (lv_at hl 1 rfl) ?_
    refine lv_iconst (v := nI 4) X.1 X.2.1 dL_sails_9 (by decide) ?_
    refine x_callV X hK hw (k := 0) (As := [.int (nI 4)]) (rest := []) (w_count hI (by omega) hO726 (nI 4) (fun g t z n hE => a_cou4 hJ (by omega) hk hE z n)) (x_cwV yX7_count cX7_count 2 (some .int) 1 X q818 q819 q820 q1 q821 hd_X7_count ⟨(Nat.le_of_ble_eq_true rfl), (Nat.le_of_ble_eq_true rfl)⟩) (by omega) hO726.ma rfl rfl hl.1 rfl (Nat.le_of_ble_eq_true rfl) dL_sails_10 ⟨(Nat.le_of_ble_eq_true rfl), (Nat.le_of_ble_eq_true rfl)⟩ (fun v728 F729 H locs hp hw => ?_)
    obtain ⟨e730, hO731, hf732⟩ := hp
    refine x_top e730 ?_
    replace hfr := hfr.tr hf732 (by omega) (by omega)
    refine lv_iconst (v := nI 1) X.1 X.2.1 dL_sails_13 (by decide) ?_
    refine lv_icmp_eq (tgt := 64) X.1 X.2.1 dL_sails_14 (by decide) (fun c733 => ?_) (fun c733 => ?_)
    · exact absurd ((nI_eq (by omega) (by omega)).mp c733) (by omega)
    · have n734 : ¬ (latN A) = 1 := fun z => c733 ((nI_eq (by omega) (by omega)).mpr z)
      refine lv_aload_n X.1 X.2.1 dL_sails_17 rfl (lv_at hl 1 rfl) ?_
      refine lv_iload_n X.1 X.2.1 dL_sails_18 rfl (lv_at hl 2 rfl) ?_
      refine x_callV X hK hw (k := 0) (As := [.int (nI b)]) (rest := []) (w_line hI (by omega) hO731 (nI b) (fun g t hE => a_line_no_r hrA hJ hb (fun q => absurd ((opn_r hrA).mp q) hop) hE)) (x_cwV yX7_line cX7_line 2 (some .int) 1 X q353 q354 q355 q1 q356 hd_X7_line ⟨(Nat.le_of_ble_eq_true rfl), (Nat.le_of_ble_eq_true rfl)⟩) (by omega) hO731.ma rfl rfl hl.1 rfl (Nat.le_of_ble_eq_true rfl) dL_sails_19 ⟨(Nat.le_of_ble_eq_true rfl), (Nat.le_of_ble_eq_true rfl)⟩ (fun v735 F736 H locs hp hw => ?_)
      obtain ⟨e737, hO738, hf739⟩ := hp
      refine x_top e737 ?_
      replace hfr := hfr.tr hf739 (by omega) (by omega)
      refine lv_bipush (v := (-4)) X.1 X.2.1 dL_sails_22 (by decide) ?_
      refine lv_icmp_ne (tgt := 62) X.1 X.2.1 dL_sails_24 (by decide) (fun c740 => ?_) (fun c740 => ?_)
      · exact absurd (by decide) c740
      · refine lv_aload_n X.1 X.2.1 dL_sails_27 rfl (lv_at hl 1 rfl) ?_
        refine lv_iload_n X.1 X.2.1 dL_sails_28 rfl (lv_at hl 2 rfl) ?_
        refine lv_iconst (v := nI 0) X.1 X.2.1 dL_sails_29 (by decide) ?_
        refine x_callV X hK hw (k := 0) (As := [.int (nI b), .int (nI 0)]) (rest := []) (w_buoy hI (by omega) hO738 (nI b) (nI 0) (fun g t hE => a_buoy_no_r hrA hJ hb (by omega) (fun q => absurd ((opn_r hrA).mp q) hop) hE)) (x_cwV yX7_buoy cX7_buoy 3 (some .int) 2 X q383 q384 q385 q1 q386 hd_X7_buoy ⟨(Nat.le_of_ble_eq_true rfl), (Nat.le_of_ble_eq_true rfl)⟩) (by omega) hO738.ma rfl rfl hl.1 rfl (Nat.le_of_ble_eq_true rfl) dL_sails_30 ⟨(Nat.le_of_ble_eq_true rfl), (Nat.le_of_ble_eq_true rfl)⟩ (fun v741 F742 H locs hp hw => ?_)
        obtain ⟨e743, hO744, hf745⟩ := hp
        refine x_top e743 ?_
        replace hfr := hfr.tr hf745 (by omega) (by omega)
        refine lv_bipush (v := (-2)) X.1 X.2.1 dL_sails_33 (by decide) ?_
        refine lv_icmp_ne (tgt := 62) X.1 X.2.1 dL_sails_35 (by decide) (fun c746 => ?_) (fun c746 => ?_)
        · exact absurd (by decide) c746
        · refine lv_aload_n X.1 X.2.1 dL_sails_38 rfl (lv_at hl 1 rfl) ?_
          refine lv_iload_n X.1 X.2.1 dL_sails_39 rfl (lv_at hl 2 rfl) ?_
          refine x_callV X hK hw (k := 0) (As := [.int (nI b)]) (rest := []) (w_retire hI (by omega) hO744 (nI b) (fun g t hE => a_ret_no_r hrA hJ hb (fun q => absurd ((opn_r hrA).mp q) hop) hE)) (x_cwV yX7_retire cX7_retire 2 (some .int) 1 X q391 q392 q393 q1 q394 hd_X7_retire ⟨(Nat.le_of_ble_eq_true rfl), (Nat.le_of_ble_eq_true rfl)⟩) (by omega) hO744.ma rfl rfl hl.1 rfl (Nat.le_of_ble_eq_true rfl) dL_sails_40 ⟨(Nat.le_of_ble_eq_true rfl), (Nat.le_of_ble_eq_true rfl)⟩ (fun v747 F748 H locs hp hw => ?_)
          obtain ⟨e749, hO750, hf751⟩ := hp
          refine x_top e749 ?_
          replace hfr := hfr.tr hf751 (by omega) (by omega)
          refine lv_bipush (v := (-4)) X.1 X.2.1 dL_sails_43 (by decide) ?_
          refine lv_icmp_ne (tgt := 62) X.1 X.2.1 dL_sails_45 (by decide) (fun c752 => ?_) (fun c752 => ?_)
          · exact absurd (by decide) c752
          · refine lv_aload_n X.1 X.2.1 dL_sails_48 rfl (lv_at hl 1 rfl) ?_
            refine lv_iload_n X.1 X.2.1 dL_sails_49 rfl (lv_at hl 2 rfl) ?_
            refine x_callV X hK hw (k := 0) (As := [.int (nI b)]) (rest := []) (w_secondsLeft hI (by omega) hJ.1.1 hO750 (nI b) (fun g t tm hE => a_sec_no_r hrA hJ (by omega) hk hE hb (fun q => absurd ((opn_r hrA).mp q) hop) tm)) (x_cwV yX7_secondsLeft cX7_secondsLeft 2 (some .int) 1 X q834 q835 q836 q1 q837 hd_X7_secondsLeft ⟨(Nat.le_of_ble_eq_true rfl), (Nat.le_of_ble_eq_true rfl)⟩) (by omega) hO750.ma rfl rfl hl.1 rfl (Nat.le_of_ble_eq_true rfl) dL_sails_50 ⟨(Nat.le_of_ble_eq_true rfl), (Nat.le_of_ble_eq_true rfl)⟩ (fun v753 F754 H locs hp hw => ?_)
            obtain ⟨e755, hO756, hf757⟩ := hp
            refine x_top e755 ?_
            replace hfr := hfr.tr hf757 (by omega) (by omega)
            refine lv_bipush (v := (-4)) X.1 X.2.1 dL_sails_53 (by decide) ?_
            refine lv_icmp_ne (tgt := 62) X.1 X.2.1 dL_sails_55 (by decide) (fun c758 => ?_) (fun c758 => ?_)
            · exact absurd (by decide) c758
            · refine lv_iconst (v := nI 1) X.1 X.2.1 dL_sails_58 (by decide) ?_
              refine lv_goto (tgt := 63) X.1 X.2.1 dL_sails_59 (by decide) ?_
              exact x_iret X hr hlk hK hw (v := nI 1) (by first | rfl | exact nr_b _ | decide) (⟨rfl, ACT.same hJ hO756, hfr⟩) dL_sails_63
