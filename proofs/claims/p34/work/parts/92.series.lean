/-! the law's method 'races' -/
theorem ACT.mk3 {ad : Nat → Nat} {cI cB cS : ClassId} {F : Nat → va_E} {c c' : Nat} {A B A3 : Nat → Nat} {hs : Int32} (hJ : HJ c' B) (hc : c' ≤ c + 1) (h0 : B 0 ≤ A 0 + 130) (h : B 3 = 0) (hO : OB ad cI cB cS F hs B A3) : ACT ad cI cB cS F c A := by
  rcases Nat.eq_zero_or_pos (A 3) with q | q
  · exact ACT.mk1 hJ hc h0 (fun k hk => absurd hk (by omega)) hO
  · exact ACT.mk2 hJ hc h0 (Or.inr (by omega)) hO
theorem hd_X7_postpone : yX7_postpone.cls = RX7 ∧ yX7_postpone.cls ≠ "java/lang/invoke/MethodHandle" ∧ yX7_postpone.cls ≠ "java/lang/invoke/VarHandle" ∧ (parseMethodDescriptor yX7_postpone.desc).map (fun d => d.parameters.length) = some 1 := by decide +kernel
theorem hd_X7_prepare : yX7_prepare.cls = RX7 ∧ yX7_prepare.cls ≠ "java/lang/invoke/MethodHandle" ∧ yX7_prepare.cls ≠ "java/lang/invoke/VarHandle" ∧ (parseMethodDescriptor yX7_prepare.desc).map (fun d => d.parameters.length) = some 3 := by decide +kernel
theorem hd_X7_recall : yX7_recall.cls = RX7 ∧ yX7_recall.cls ≠ "java/lang/invoke/MethodHandle" ∧ yX7_recall.cls ≠ "java/lang/invoke/VarHandle" ∧ (parseMethodDescriptor yX7_recall.desc).map (fun d => d.parameters.length) = some 0 := by decide +kernel
theorem hd_L_closes : yL_closes.cls = RL ∧ yL_closes.cls ≠ "java/lang/invoke/MethodHandle" ∧ yL_closes.cls ≠ "java/lang/invoke/VarHandle" ∧ (parseMethodDescriptor yL_closes.desc).map (fun d => d.parameters.length) = some 1 := by decide +kernel
set_option maxHeartbeats 4000000 in
set_option maxRecDepth 100000 in
theorem k_L_races {l : Launch} {D : va_G} {cI cB cS : ClassId} {ad : Nat → Nat} {F : Nat → va_E} (hI : iN ad 115) {ca : Nat} {hs : Int32} {A A3 : Nat → Nat} (hJ : HJ ca A) (hc : ca ≤ 200) (hk : A 0 ≤ 999999) (hO : OB ad cI cB cS F hs A A3) (hb1 : 0 < A 1) (so : Nat) (hso : so < 100) (w : Int32) : Cn l D cI cB cS ad 115 yL_races cL_races 11 (some .boolean) 8 227 [.ref (ad 0), .int (nI so), .int w, .ref (ad 114)] F (fun v F' => v = nI 1 ∧ ACT ad cI cB cS F' ca A ∧ ∀ k, 111 ≤ k → F' k = F k) := by
  refine fun sz => x_metg (Qc := fun sz => va_Qi (fun v F' => v = nI 1 ∧ ACT ad cI cB cS F' ca A ∧ ∀ k, 111 ≤ k → F' k = F k) (fun F' t => PO D ad 115 F' t) (Af ad 115 sz)) (by decide +kernel) (Nat.le_of_ble_eq_true rfl) ?_ sz
  intro p e s m below meth c X hr hlk hK hw ls hl
  have hN : 115 ≤ 115 := Nat.le_refl _
  replace hl : lv_has ls 11 [(0, .ref (ad 0)), (1, .int (nI so)), (2, .int w), (3, .ref (ad 114))] := hl
  have hfr : Fr F F 0 111 := Fr.rf
  have h9 := hJ.1.1
  have h6 := hJ.1.2.1
  have h10 := hJ.1.2.2.1
  have hl2 := (lat_le hJ).1
  have hnb := hb1
  rcases (show A 2 = 0 ∨ ∃ r, r + 1 = A 2 from by rcases Nat.eq_zero_or_pos (A 2) with q | q; (exact Or.inl q); exact Or.inr ⟨A 2 - 1, by omega⟩) with h0 | ⟨r, hrA⟩
  · have hopn : ¬ opn A := fun q => by have := q.1; omega
    have hl1 : ¬ latN A = 1 := fun q => hopn ((lat_op hJ).mp q)
    refine lv_aload_n X.1 X.2.1 dL_races_0 rfl (lv_at hl 0 rfl) ?_
    refine lv_iconst (v := nI 1) X.1 X.2.1 dL_races_1 (by decide) ?_
    refine x_callV X hK hw (k := 0) (As := [.int (nI 1)]) (rest := []) (w_count hI (by omega) hO (nI 1) (fun g t z n hE => a_cou1 hJ (by omega) hk hE z n)) (x_cwV yX7_count cX7_count 2 (some .int) 1 X q818 q819 q820 q1 q821 hd_X7_count ⟨(Nat.le_of_ble_eq_true rfl), (Nat.le_of_ble_eq_true rfl)⟩) (by omega) hO.ma rfl rfl hl.1 rfl (Nat.le_of_ble_eq_true rfl) dL_races_2 ⟨(Nat.le_of_ble_eq_true rfl), (Nat.le_of_ble_eq_true rfl)⟩ (fun v1 F2 H locs hp hw => ?_)
    obtain ⟨e3, hO4, hf5⟩ := hp
    refine x_top e3 ?_
    replace hfr := hfr.tr hf5 (by omega) (by omega)
    refine lv_iconst (v := nI 1) X.1 X.2.1 dL_races_5 (by decide) ?_
    refine lv_isub X.1 X.2.1 dL_races_6 ?_
    refine x_top (show nI (A 2) - nI 1 = (-1) by rw [h0]; rfl) ?_
    refine lv_istore (lv' := [(4, .int ((-1))), (0, .ref (ad 0)), (1, .int (nI so)), (2, .int w), (3, .ref (ad 114))]) X.1 X.2.1 dL_races_7 hl (by decide) rfl (fun ls hl => ?_)
    refine lv_aload_n X.1 X.2.1 dL_races_9 rfl (lv_at hl 1 rfl) ?_
    refine lv_iconst (v := nI 3) X.1 X.2.1 dL_races_10 (by decide) ?_
    refine x_callV X hK hw (k := 0) (As := [.int (nI 3)]) (rest := []) (w_count hI (by omega) hO4 (nI 3) (fun g t z n hE => a_cou3 hJ (by omega) hk hE z n)) (x_cwV yX7_count cX7_count 2 (some .int) 1 X q818 q819 q820 q1 q821 hd_X7_count ⟨(Nat.le_of_ble_eq_true rfl), (Nat.le_of_ble_eq_true rfl)⟩) (by omega) hO4.ma rfl rfl hl.1 rfl (Nat.le_of_ble_eq_true rfl) dL_races_11 ⟨(Nat.le_of_ble_eq_true rfl), (Nat.le_of_ble_eq_true rfl)⟩ (fun v6 F7 H locs hp hw => ?_)
    obtain ⟨e8, hO9, hf10⟩ := hp
    refine x_top e8 ?_
    replace hfr := hfr.tr hf10 (by omega) (by omega)
    refine lv_istore (lv' := [(5, .int (nI (A 0))), (4, .int ((-1))), (0, .ref (ad 0)), (1, .int (nI so)), (2, .int w), (3, .ref (ad 114))]) X.1 X.2.1 dL_races_14 hl (by decide) rfl (fun ls hl => ?_)
    refine lv_aload_n X.1 X.2.1 dL_races_16 rfl (lv_at hl 2 rfl) ?_
    refine lv_iconst (v := nI 4) X.1 X.2.1 dL_races_17 (by decide) ?_
    refine x_callV X hK hw (k := 0) (As := [.int (nI 4)]) (rest := []) (w_count hI (by omega) hO9 (nI 4) (fun g t z n hE => a_cou4 hJ (by omega) hk hE z n)) (x_cwV yX7_count cX7_count 2 (some .int) 1 X q818 q819 q820 q1 q821 hd_X7_count ⟨(Nat.le_of_ble_eq_true rfl), (Nat.le_of_ble_eq_true rfl)⟩) (by omega) hO9.ma rfl rfl hl.1 rfl (Nat.le_of_ble_eq_true rfl) dL_races_18 ⟨(Nat.le_of_ble_eq_true rfl), (Nat.le_of_ble_eq_true rfl)⟩ (fun v11 F12 H locs hp hw => ?_)
    obtain ⟨e13, hO14, hf15⟩ := hp
    refine x_top e13 ?_
    replace hfr := hfr.tr hf15 (by omega) (by omega)
    refine lv_iconst (v := nI 1) X.1 X.2.1 dL_races_21 (by decide) ?_
    refine lv_icmp_ne (tgt := 29) X.1 X.2.1 dL_races_22 (by decide) (fun c16 => ?_) (fun c16 => ?_)
    · have n17 : ¬ (latN A) = 1 := fun z => c16 ((nI_eq (by omega) (by omega)).mpr z)
      refine lv_iconst (v := nI 0) X.1 X.2.1 dL_races_29 (by decide) ?_
      refine lv_istore (lv' := [(6, .int (nI 0)), (5, .int (nI (A 0))), (4, .int ((-1))), (0, .ref (ad 0)), (1, .int (nI so)), (2, .int w), (3, .ref (ad 114))]) X.1 X.2.1 dL_races_30 hl (by decide) rfl (fun ls hl => ?_)
      refine lv_iload X.1 X.2.1 dL_races_32 (lv_at hl 2 rfl) ?_
      refine lv_if_ge (tgt := 41) X.1 X.2.1 dL_races_34 (by decide) (fun c18 => ?_) (fun c18 => ?_)
      · exact absurd c18 (by decide)
      · refine lv_iconst (v := nI 0) X.1 X.2.1 dL_races_37 (by decide) ?_
        refine lv_goto (tgt := 48) X.1 X.2.1 dL_races_38 (by decide) ?_
        refine lv_istore (lv' := [(7, .int (nI 0)), (6, .int (nI 0)), (5, .int (nI (A 0))), (4, .int ((-1))), (0, .ref (ad 0)), (1, .int (nI so)), (2, .int w), (3, .ref (ad 114))]) X.1 X.2.1 dL_races_48 hl (by decide) rfl (fun ls hl => ?_)
        refine lv_iload_n X.1 X.2.1 dL_races_50 rfl (lv_at hl 5 rfl) ?_
        refine lv_if_ne (tgt := 175) X.1 X.2.1 dL_races_51 (by decide) (fun c19 => ?_) (fun c19 => ?_)
        · have n20 : ¬ so = 0 := fun z => c19 ((bz_eq (by omega)).mpr z)
          refine lv_iload_n X.1 X.2.1 dL_races_175 rfl (lv_at hl 5 rfl) ?_
          refine lv_iconst (v := nI 1) X.1 X.2.1 dL_races_176 (by decide) ?_
          refine lv_icmp_ne (tgt := 227) X.1 X.2.1 dL_races_177 (by decide) (fun c21 => ?_) (fun c21 => ?_)
          · have n22 : ¬ so = 1 := fun z => c21 ((nI_eq (by omega) (by omega)).mpr z)
            refine lv_iload_n X.1 X.2.1 dL_races_227 rfl (lv_at hl 5 rfl) ?_
            refine lv_iconst (v := nI 2) X.1 X.2.1 dL_races_228 (by decide) ?_
            refine lv_icmp_ne (tgt := 398) X.1 X.2.1 dL_races_229 (by decide) (fun c23 => ?_) (fun c23 => ?_)
            · have n24 : ¬ so = 2 := fun z => c23 ((nI_eq (by omega) (by omega)).mpr z)
              refine lv_aload_n X.1 X.2.1 dL_races_398 rfl (lv_at hl 4 rfl) ?_
              refine x_callSn X hK hw (As := [.ref (ad 0)]) (rest := []) (k_L_closes hI hJ hc hk hO14) (x_cwSn yL_closes cL_closes 8 (some .boolean) 1 X q1410 q1411 q0 q1412 hd_L_closes ⟨(Nat.le_of_ble_eq_true rfl), (Nat.le_of_ble_eq_true rfl)⟩) rfl hl.1 rfl (Nat.le_of_ble_eq_true rfl) dL_races_399 ⟨(Nat.le_of_ble_eq_true rfl), (Nat.le_of_ble_eq_true rfl)⟩ (fun v25 F26 H locs hp hw => ?_)
              obtain ⟨hv, hA, hf⟩ := hp
              refine x_top hv ?_
              exact x_iret X hr hlk hK hw (v := nI 1) rfl ⟨rfl, hA, fun k hk => (hf k hk).trans (hfr k (Or.inr hk))⟩ dL_races_402
            · have n27 := (nI_eq (by omega) (by omega)).mp c23
              refine lv_iload X.1 X.2.1 dL_races_232 (lv_at hl 1 rfl) ?_
              refine lv_if_eq (tgt := 258) X.1 X.2.1 dL_races_234 (by decide) (fun c28 => ?_) (fun c28 => ?_)
              · refine lv_iconst (v := nI 0) X.1 X.2.1 dL_races_258 (by decide) ?_
                refine lv_istore (lv' := [(8, .int (nI 0)), (7, .int (nI 0)), (6, .int (nI 0)), (5, .int (nI (A 0))), (4, .int ((-1))), (0, .ref (ad 0)), (1, .int (nI so)), (2, .int w), (3, .ref (ad 114))]) X.1 X.2.1 dL_races_259 hl (by decide) rfl (fun ls hl => ?_)
                refine lv_aload_n X.1 X.2.1 dL_races_261 rfl (lv_at hl 5 rfl) ?_
                refine x_callV X hK hw (k := 0) (As := []) (rest := []) (w_recall hI (by omega) hO14 hJ.1.1 (fun g t hE => a_rec_no hJ (by omega) hk (fun q => absurd q hopn) hE)) (x_cwV yX7_recall cX7_recall 1 (some .int) 0 X q336 q337 q338 q1 q339 hd_X7_recall ⟨(Nat.le_of_ble_eq_true rfl), (Nat.le_of_ble_eq_true rfl)⟩) (by omega) hO14.ma rfl rfl hl.1 rfl (Nat.le_of_ble_eq_true rfl) dL_races_262 ⟨(Nat.le_of_ble_eq_true rfl), (Nat.le_of_ble_eq_true rfl)⟩ (fun v29 F30 H locs hp hw => ?_)
                obtain ⟨e31, hO32, hf33⟩ := hp
                refine x_top e31 ?_
                replace hfr := hfr.tr hf33 (by omega) (by omega)
                refine lv_istore (lv' := [(9, .int ((-4))), (8, .int (nI 0)), (7, .int (nI 0)), (6, .int (nI 0)), (5, .int (nI (A 0))), (4, .int ((-1))), (0, .ref (ad 0)), (1, .int (nI so)), (2, .int w), (3, .ref (ad 114))]) X.1 X.2.1 dL_races_265 hl (by decide) rfl (fun ls hl => ?_)
                refine lv_iconst (v := nI 0) X.1 X.2.1 dL_races_267 (by decide) ?_
                refine lv_istore (lv' := [(10, .int (nI 0)), (9, .int ((-4))), (8, .int (nI 0)), (7, .int (nI 0)), (6, .int (nI 0)), (5, .int (nI (A 0))), (4, .int ((-1))), (0, .ref (ad 0)), (1, .int (nI so)), (2, .int w), (3, .ref (ad 114))]) X.1 X.2.1 dL_races_268 hl (by decide) rfl (fun ls hl => ?_)
                refine lv_iload X.1 X.2.1 dL_races_270 (lv_at hl 0 rfl) ?_
                refine lv_aload_n X.1 X.2.1 dL_races_272 rfl (lv_at hl 7 rfl) ?_
                refine lv_iconst (v := nI 0) X.1 X.2.1 dL_races_273 (by decide) ?_
                refine x_callV X hK hw (k := 0) (As := [.int (nI 0)]) (rest := [.int (nI 0)]) (w_count hI (by omega) hO32 (nI 0) (fun g t z n hE => a_cou0 hJ (by omega) hk hE z n)) (x_cwV yX7_count cX7_count 2 (some .int) 1 X q818 q819 q820 q1 q821 hd_X7_count ⟨(Nat.le_of_ble_eq_true rfl), (Nat.le_of_ble_eq_true rfl)⟩) (by omega) hO32.ma rfl rfl hl.1 rfl (Nat.le_of_ble_eq_true rfl) dL_races_274 ⟨(Nat.le_of_ble_eq_true rfl), (Nat.le_of_ble_eq_true rfl)⟩ (fun v34 F35 H locs hp hw => ?_)
                obtain ⟨e36, hO37, hf38⟩ := hp
                refine x_top e36 ?_
                replace hfr := hfr.tr hf38 (by omega) (by omega)
                refine lv_icmp_ge (tgt := 353) X.1 X.2.1 dL_races_277 (by decide) (fun c39 => ?_) (fun c39 => ?_)
                · have n40 := (nI_leI (by omega) (by omega)).mp c39
                  refine lv_iload X.1 X.2.1 dL_races_353 (lv_at hl 2 rfl) ?_
                  refine lv_if_eq (tgt := 385) X.1 X.2.1 dL_races_355 (by decide) (fun c41 => ?_) (fun c41 => ?_)
                  · refine lv_iload X.1 X.2.1 dL_races_385 (lv_at hl 1 rfl) ?_
                    refine lv_bipush (v := (-4)) X.1 X.2.1 dL_races_387 (by decide) ?_
                    refine lv_icmp_ne (tgt := 396) X.1 X.2.1 dL_races_389 (by decide) (fun c42 => ?_) (fun c42 => ?_)
                    · exact absurd (by decide) c42
                    · refine lv_iconst (v := nI 1) X.1 X.2.1 dL_races_392 (by decide) ?_
                      refine lv_goto (tgt := 397) X.1 X.2.1 dL_races_393 (by decide) ?_
                      refine W.widen (k := 1) (n := 9) (by omega) (by omega) ?_
                      exact x_iret X hr hlk hK hw (v := nI 1) rfl ⟨rfl, ACT.same hJ hO37, fun k hk => hfr k (Or.inr hk)⟩ dL_races_397
                  · exact absurd (by decide) c41
                · have n43 : ¬ (A 1) ≤ 0 := fun z => c39 ((nI_leI (by omega) (by omega)).mpr z)
                  refine lv_iload X.1 X.2.1 dL_races_280 (lv_at hl 2 rfl) ?_
                  refine lv_if_eq (tgt := 353) X.1 X.2.1 dL_races_282 (by decide) (fun c44 => ?_) (fun c44 => ?_)
                  · refine lv_iload X.1 X.2.1 dL_races_353 (lv_at hl 2 rfl) ?_
                    refine lv_if_eq (tgt := 385) X.1 X.2.1 dL_races_355 (by decide) (fun c45 => ?_) (fun c45 => ?_)
                    · refine lv_iload X.1 X.2.1 dL_races_385 (lv_at hl 1 rfl) ?_
                      refine lv_bipush (v := (-4)) X.1 X.2.1 dL_races_387 (by decide) ?_
                      refine lv_icmp_ne (tgt := 396) X.1 X.2.1 dL_races_389 (by decide) (fun c46 => ?_) (fun c46 => ?_)
                      · exact absurd (by decide) c46
                      · refine lv_iconst (v := nI 1) X.1 X.2.1 dL_races_392 (by decide) ?_
                        refine lv_goto (tgt := 397) X.1 X.2.1 dL_races_393 (by decide) ?_
                        refine W.widen (k := 1) (n := 9) (by omega) (by omega) ?_
                        exact x_iret X hr hlk hK hw (v := nI 1) rfl ⟨rfl, ACT.same hJ hO37, fun k hk => hfr k (Or.inr hk)⟩ dL_races_397
                    · exact absurd (by decide) c45
                  · exact absurd (by decide) c44
              · exact absurd (by decide) c28
          · have n47 := (nI_eq (by omega) (by omega)).mp c21
            refine lv_iconst (v := nI 1) X.1 X.2.1 dL_races_180 (by decide) ?_
            refine lv_iload_n X.1 X.2.1 dL_races_181 rfl (lv_at hl 6 rfl) ?_
            refine lv_bipush (v := nI 40) X.1 X.2.1 dL_races_182 (by decide) ?_
            refine x_callSP X hK hw (As := [.int w, .int (nI 40)]) (rest := [.int (nI 1)]) (k_L_low w 40 (by omega) (by omega)) (x_cwS yL_low cL_low 2 (some .int) 2 X q1394 q1395 q0 q1396 hd_L_low ⟨(Nat.le_of_ble_eq_true rfl), (Nat.le_of_ble_eq_true rfl)⟩) rfl hl.1 rfl (Nat.le_of_ble_eq_true rfl) dL_races_184 ⟨(Nat.le_of_ble_eq_true rfl), (Nat.le_of_ble_eq_true rfl)⟩ (fun H locs hw => ?_)
            have hw48 := lowN_lt (v := w) (n := 40) (by omega)
            refine lv_iadd X.1 X.2.1 dL_races_187 ?_
            refine x_top (nI_add _ _) ?_
            refine lv_istore (lv' := [(8, .int (nI (1 + (lowN w 40)))), (7, .int (nI 0)), (6, .int (nI 0)), (5, .int (nI (A 0))), (4, .int ((-1))), (0, .ref (ad 0)), (1, .int (nI so)), (2, .int w), (3, .ref (ad 114))]) X.1 X.2.1 dL_races_188 hl (by decide) rfl (fun ls hl => ?_)
            refine lv_aload_n X.1 X.2.1 dL_races_190 rfl (lv_at hl 5 rfl) ?_
            refine lv_iload X.1 X.2.1 dL_races_191 (lv_at hl 0 rfl) ?_
            refine x_callV X hK hw (k := 0) (As := [.int (nI (1 + (lowN w 40)))]) (rest := []) (w_postpone hI (by omega) hO14 (nI (1 + (lowN w 40))) (fun g t hE => a_post_no hJ hk (by omega) (by omega) (fun q => absurd q hopn) hE)) (x_cwV yX7_postpone cX7_postpone 2 (some .int) 1 X q310 q311 q312 q1 q313 hd_X7_postpone ⟨(Nat.le_of_ble_eq_true rfl), (Nat.le_of_ble_eq_true rfl)⟩) (by omega) hO14.ma rfl rfl hl.1 rfl (Nat.le_of_ble_eq_true rfl) dL_races_193 ⟨(Nat.le_of_ble_eq_true rfl), (Nat.le_of_ble_eq_true rfl)⟩ (fun v49 F50 H locs hp hw => ?_)
            obtain ⟨e51, hO52, hf53⟩ := hp
            refine x_top e51 ?_
            replace hfr := hfr.tr hf53 (by omega) (by omega)
            refine lv_iload X.1 X.2.1 dL_races_196 (lv_at hl 2 rfl) ?_
            refine lv_if_eq (tgt := 216) X.1 X.2.1 dL_races_198 (by decide) (fun c54 => ?_) (fun c54 => ?_)
            · refine lv_bipush (v := (-4)) X.1 X.2.1 dL_races_216 (by decide) ?_
              refine lv_icmp_ne (tgt := 225) X.1 X.2.1 dL_races_218 (by decide) (fun c55 => ?_) (fun c55 => ?_)
              · exact absurd (by decide) c55
              · refine lv_iconst (v := nI 1) X.1 X.2.1 dL_races_221 (by decide) ?_
                refine lv_goto (tgt := 226) X.1 X.2.1 dL_races_222 (by decide) ?_
                refine W.widen (k := 1) (n := 9) (by omega) (by omega) ?_
                exact x_iret X hr hlk hK hw (v := nI 1) rfl ⟨rfl, ACT.same hJ hO52, fun k hk => hfr k (Or.inr hk)⟩ dL_races_226
            · exact absurd (by decide) c54
        · have n56 := (bz_eq (by omega)).mp c19
          refine lv_aload_n X.1 X.2.1 dL_races_54 rfl (lv_at hl 4 rfl) ?_
          refine lv_iconst (v := nI 1) X.1 X.2.1 dL_races_55 (by decide) ?_
          refine lv_iload_n X.1 X.2.1 dL_races_56 rfl (lv_at hl 6 rfl) ?_
          refine lv_iconst (v := nI 2) X.1 X.2.1 dL_races_57 (by decide) ?_
          refine x_callSP X hK hw (As := [.int w, .int (nI 2)]) (rest := [.int (nI 1), .ref (ad 0)]) (k_L_low w 2 (by omega) (by omega)) (x_cwS yL_low cL_low 2 (some .int) 2 X q1394 q1395 q0 q1396 hd_L_low ⟨(Nat.le_of_ble_eq_true rfl), (Nat.le_of_ble_eq_true rfl)⟩) rfl hl.1 rfl (Nat.le_of_ble_eq_true rfl) dL_races_58 ⟨(Nat.le_of_ble_eq_true rfl), (Nat.le_of_ble_eq_true rfl)⟩ (fun H locs hw => ?_)
          have hw57 := lowN_lt (v := w) (n := 2) (by omega)
          refine lv_iadd X.1 X.2.1 dL_races_61 ?_
          refine x_top (nI_add _ _) ?_
          refine lv_iconst (v := nI 1) X.1 X.2.1 dL_races_62 (by decide) ?_
          refine lv_iload_n X.1 X.2.1 dL_races_63 rfl (lv_at hl 6 rfl) ?_
          refine lv_iconst (v := nI 2) X.1 X.2.1 dL_races_64 (by decide) ?_
          refine lv_ishr X.1 X.2.1 dL_races_65 ?_
          refine lv_iconst (v := nI 2) X.1 X.2.1 dL_races_66 (by decide) ?_
          refine x_callSP X hK hw (As := [.int (w >>> ((nI 2) &&& 31)), .int (nI 2)]) (rest := [.int (nI 1), .int (nI (1 + (lowN w 2))), .ref (ad 0)]) (k_L_low (w >>> ((nI 2) &&& 31)) 2 (by omega) (by omega)) (x_cwS yL_low cL_low 2 (some .int) 2 X q1394 q1395 q0 q1396 hd_L_low ⟨(Nat.le_of_ble_eq_true rfl), (Nat.le_of_ble_eq_true rfl)⟩) rfl hl.1 rfl (Nat.le_of_ble_eq_true rfl) dL_races_67 ⟨(Nat.le_of_ble_eq_true rfl), (Nat.le_of_ble_eq_true rfl)⟩ (fun H locs hw => ?_)
          have hw58 := lowN_lt (v := w >>> ((nI 2) &&& 31)) (n := 2) (by omega)
          refine lv_iadd X.1 X.2.1 dL_races_70 ?_
          refine x_top (nI_add _ _) ?_
          refine lv_bipush (v := nI 60) X.1 X.2.1 dL_races_71 (by decide) ?_
          refine lv_iload_n X.1 X.2.1 dL_races_73 rfl (lv_at hl 6 rfl) ?_
          refine lv_iconst (v := nI 4) X.1 X.2.1 dL_races_74 (by decide) ?_
          refine lv_ishr X.1 X.2.1 dL_races_75 ?_
          refine lv_bipush (v := nI 60) X.1 X.2.1 dL_races_76 (by decide) ?_
          refine x_callSP X hK hw (As := [.int (w >>> ((nI 4) &&& 31)), .int (nI 60)]) (rest := [.int (nI 60), .int (nI (1 + (lowN (w >>> ((nI 2) &&& 31)) 2))), .int (nI (1 + (lowN w 2))), .ref (ad 0)]) (k_L_low (w >>> ((nI 4) &&& 31)) 60 (by omega) (by omega)) (x_cwS yL_low cL_low 2 (some .int) 2 X q1394 q1395 q0 q1396 hd_L_low ⟨(Nat.le_of_ble_eq_true rfl), (Nat.le_of_ble_eq_true rfl)⟩) rfl hl.1 rfl (Nat.le_of_ble_eq_true rfl) dL_races_78 ⟨(Nat.le_of_ble_eq_true rfl), (Nat.le_of_ble_eq_true rfl)⟩ (fun H locs hw => ?_)
          have hw59 := lowN_lt (v := w >>> ((nI 4) &&& 31)) (n := 60) (by omega)
          refine lv_iadd X.1 X.2.1 dL_races_81 ?_
          refine x_top (nI_add _ _) ?_
          refine x_callV X hK hw (k := 0) (As := [.int (nI (1 + (lowN w 2))), .int (nI (1 + (lowN (w >>> ((nI 2) &&& 31)) 2))), .int (nI (60 + (lowN (w >>> ((nI 4) &&& 31)) 60)))]) (rest := []) (w_prepare hI (by omega) hO14 hJ.1.1 (nI (1 + (lowN w 2))) (nI (1 + (lowN (w >>> ((nI 2) &&& 31)) 2))) (nI (60 + (lowN (w >>> ((nI 4) &&& 31)) 60))) (fun g t hE => a_prep_ok hJ hk hopn (by omega) hnb (by omega) (by omega) (by omega) (by omega) (by omega) (by omega) hE)) (x_cwV yX7_prepare cX7_prepare 4 (some .int) 3 X q281 q282 q283 q1 q284 hd_X7_prepare ⟨(Nat.le_of_ble_eq_true rfl), (Nat.le_of_ble_eq_true rfl)⟩) (by omega) hO14.ma rfl rfl hl.1 rfl (Nat.le_of_ble_eq_true rfl) dL_races_82 ⟨(Nat.le_of_ble_eq_true rfl), (Nat.le_of_ble_eq_true rfl)⟩ (fun v60 F61 H locs hp hw => ?_)
          obtain ⟨e62, hO63, hf64⟩ := hp
          refine x_top e62 ?_
          replace hfr := hfr.tr hf64 (by omega) (by omega)
          obtain ⟨B65, hB65⟩ : ∃ y, y = prA A (1 + (lowN w 2)) (1 + (lowN (w >>> ((nI 2) &&& 31)) 2)) (60 + (lowN (w >>> ((nI 4) &&& 31)) 60)) := ⟨_, rfl⟩
          rw [← hB65] at hO63
          have jB65 : HJ (ca + 1) B65 := by rw [hB65]; exact j_prep hJ hopn (by omega) hnb (by omega) (by omega) (by omega) (by omega) (by omega)
          have b0B65 : B65 0 = A 0 := by rw [hB65]; exact (clrA_lo (by omega) (by omega)).trans ((nup_ne (by omega)).trans ((nup_ne (by omega)).trans ((nup_ne (by omega)).trans ((nup_ne (by omega)).trans (nup_ne (by omega))))))
          have b1B65 : B65 1 = A 1 := by rw [hB65]; exact (clrA_lo (by omega) (by omega)).trans ((nup_ne (by omega)).trans ((nup_ne (by omega)).trans ((nup_ne (by omega)).trans ((nup_ne (by omega)).trans (nup_ne (by omega))))))
          have b2B65 : B65 2 = A 2 + 1 := by rw [hB65]; exact (clrA_lo (by omega) (by omega)).trans ((nup_ne (by omega)).trans nup_at)
          have b3B65 : B65 3 = 0 := by rw [hB65]; exact clrA_3
          have sB65 : rA B65 (A 2) 2 = A 0 + (60 + (lowN (w >>> ((nI 4) &&& 31)) 60)) := by rw [hB65]; exact (clrA_lo (by omega) (by omega)).trans nup_at
          refine lv_istore (lv' := [(8, .int (nI (A 2))), (7, .int (nI 0)), (6, .int (nI 0)), (5, .int (nI (A 0))), (4, .int ((-1))), (0, .ref (ad 0)), (1, .int (nI so)), (2, .int w), (3, .ref (ad 114))]) X.1 X.2.1 dL_races_85 hl (by decide) rfl (fun ls hl => ?_)
          refine lv_iload X.1 X.2.1 dL_races_87 (lv_at hl 2 rfl) ?_
          refine lv_if_eq (tgt := 107) X.1 X.2.1 dL_races_89 (by decide) (fun c66 => ?_) (fun c66 => ?_)
          · refine lv_iload X.1 X.2.1 dL_races_107 (lv_at hl 4 rfl) ?_
            refine lv_iconst (v := nI 5) X.1 X.2.1 dL_races_109 (by decide) ?_
            refine lv_icmp_ne (tgt := 128) X.1 X.2.1 dL_races_110 (by decide) (fun c67 => ?_) (fun c67 => ?_)
            · refine lv_iload X.1 X.2.1 dL_races_128 (lv_at hl 0 rfl) ?_
              refine lv_iload X.1 X.2.1 dL_races_130 (lv_at hl 4 rfl) ?_
              refine lv_iconst (v := nI 1) X.1 X.2.1 dL_races_132 (by decide) ?_
              refine lv_iadd X.1 X.2.1 dL_races_133 ?_
              refine x_top (show (-1) + nI 1 = nI 0 by decide) ?_
              refine lv_icmp_ne (tgt := 173) X.1 X.2.1 dL_races_134 (by decide) (fun c68 => ?_) (fun c68 => ?_)
              · exact absurd ((nI_eq (by omega) (by omega)).mpr (by omega)) c68
              · have n69 := (nI_eq (by omega) (by omega)).mp c68
                refine lv_aload_n X.1 X.2.1 dL_races_137 rfl (lv_at hl 5 rfl) ?_
                refine lv_iload X.1 X.2.1 dL_races_138 (lv_at hl 0 rfl) ?_
                refine lv_iconst (v := nI 2) X.1 X.2.1 dL_races_140 (by decide) ?_
                refine x_callV X hK hw (k := 0) (As := [.int (nI (A 2)), .int (nI 2)]) (rest := []) (w_race hI (by omega) jB65.1.1 hO63 (nI (A 2)) (nI 2) (fun g t tm hE => a_rac2 jB65 (by omega) (by omega) hE (by omega) tm)) (x_cwV yX7_race cX7_race 3 (some .int) 2 X q804 q805 q806 q1 q807 hd_X7_race ⟨(Nat.le_of_ble_eq_true rfl), (Nat.le_of_ble_eq_true rfl)⟩) (by omega) hO63.ma rfl rfl hl.1 rfl (Nat.le_of_ble_eq_true rfl) dL_races_141 ⟨(Nat.le_of_ble_eq_true rfl), (Nat.le_of_ble_eq_true rfl)⟩ (fun v70 F71 H locs hp hw => ?_)
                obtain ⟨e72, hO73, hf74⟩ := hp
                refine x_top e72 ?_
                replace hfr := hfr.tr hf74 (by omega) (by omega)
                refine lv_iload X.1 X.2.1 dL_races_144 (lv_at hl 3 rfl) ?_
                refine lv_bipush (v := nI 60) X.1 X.2.1 dL_races_146 (by decide) ?_
                refine lv_iadd X.1 X.2.1 dL_races_148 ?_
                refine x_top (nI_add _ _) ?_
                refine lv_iload_n X.1 X.2.1 dL_races_149 rfl (lv_at hl 7 rfl) ?_
                refine lv_iconst (v := nI 4) X.1 X.2.1 dL_races_150 (by decide) ?_
                refine lv_ishr X.1 X.2.1 dL_races_151 ?_
                refine lv_bipush (v := nI 60) X.1 X.2.1 dL_races_152 (by decide) ?_
                refine x_callSP X hK hw (As := [.int (w >>> ((nI 4) &&& 31)), .int (nI 60)]) (rest := [.int (nI ((A 0) + 60)), .int (nI (rA B65 (A 2) 2))]) (k_L_low (w >>> ((nI 4) &&& 31)) 60 (by omega) (by omega)) (x_cwS yL_low cL_low 2 (some .int) 2 X q1394 q1395 q0 q1396 hd_L_low ⟨(Nat.le_of_ble_eq_true rfl), (Nat.le_of_ble_eq_true rfl)⟩) rfl hl.1 rfl (Nat.le_of_ble_eq_true rfl) dL_races_154 ⟨(Nat.le_of_ble_eq_true rfl), (Nat.le_of_ble_eq_true rfl)⟩ (fun H locs hw => ?_)
                have hw75 := lowN_lt (v := w >>> ((nI 4) &&& 31)) (n := 60) (by omega)
                refine lv_iadd X.1 X.2.1 dL_races_157 ?_
                refine x_top (nI_add _ _) ?_
                refine lv_icmp_ne (tgt := 173) X.1 X.2.1 dL_races_158 (by decide) (fun c76 => ?_) (fun c76 => ?_)
                · exact absurd ((nI_eq (by omega) (by omega)).mpr (by omega)) c76
                · have n77 := (nI_eq (by omega) (by omega)).mp c76
                  refine lv_aload_n X.1 X.2.1 dL_races_161 rfl (lv_at hl 5 rfl) ?_
                  refine lv_iconst (v := nI 5) X.1 X.2.1 dL_races_162 (by decide) ?_
                  refine x_callV X hK hw (k := 0) (As := [.int (nI 5)]) (rest := []) (w_count hI (by omega) hO73 (nI 5) (fun g t z n hE => a_cou5 jB65 (by omega) (by omega) hE z n)) (x_cwV yX7_count cX7_count 2 (some .int) 1 X q818 q819 q820 q1 q821 hd_X7_count ⟨(Nat.le_of_ble_eq_true rfl), (Nat.le_of_ble_eq_true rfl)⟩) (by omega) hO73.ma rfl rfl hl.1 rfl (Nat.le_of_ble_eq_true rfl) dL_races_163 ⟨(Nat.le_of_ble_eq_true rfl), (Nat.le_of_ble_eq_true rfl)⟩ (fun v78 F79 H locs hp hw => ?_)
                  obtain ⟨e80, hO81, hf82⟩ := hp
                  refine x_top e80 ?_
                  replace hfr := hfr.tr hf82 (by omega) (by omega)
                  refine lv_if_ne (tgt := 173) X.1 X.2.1 dL_races_166 (by decide) (fun c83 => ?_) (fun c83 => ?_)
                  · exact absurd ((bz_eq (by omega)).mpr (by omega)) c83
                  · have n84 := (bz_eq (by omega)).mp c83
                    refine lv_iconst (v := nI 1) X.1 X.2.1 dL_races_169 (by decide) ?_
                    refine lv_goto (tgt := 174) X.1 X.2.1 dL_races_170 (by decide) ?_
                    refine W.widen (k := 1) (n := 9) (by omega) (by omega) ?_
                    exact x_iret X hr hlk hK hw (v := nI 1) rfl ⟨rfl, ACT.mk2 jB65 (by omega) (by omega) (Or.inl (by omega)) hO81, fun k hk => hfr k (Or.inr hk)⟩ dL_races_174
            · exact absurd c67 (by decide)
          · exact absurd (by decide) c66
    · exact absurd ((nI_eq (by omega) (by omega)).mp c16) (by omega)
  · have hst := hJ.st (by omega) hk (by omega)
    rw [show A 2 - 1 = r by omega] at hst
    by_cases hopn : opn A
    · have hl1 : latN A = 1 := (lat_op hJ).mpr hopn
      refine lv_aload_n X.1 X.2.1 dL_races_0 rfl (lv_at hl 0 rfl) ?_
      refine lv_iconst (v := nI 1) X.1 X.2.1 dL_races_1 (by decide) ?_
      refine x_callV X hK hw (k := 0) (As := [.int (nI 1)]) (rest := []) (w_count hI (by omega) hO (nI 1) (fun g t z n hE => a_cou1 hJ (by omega) hk hE z n)) (x_cwV yX7_count cX7_count 2 (some .int) 1 X q818 q819 q820 q1 q821 hd_X7_count ⟨(Nat.le_of_ble_eq_true rfl), (Nat.le_of_ble_eq_true rfl)⟩) (by omega) hO.ma rfl rfl hl.1 rfl (Nat.le_of_ble_eq_true rfl) dL_races_2 ⟨(Nat.le_of_ble_eq_true rfl), (Nat.le_of_ble_eq_true rfl)⟩ (fun v85 F86 H locs hp hw => ?_)
      obtain ⟨e87, hO88, hf89⟩ := hp
      refine x_top e87 ?_
      replace hfr := hfr.tr hf89 (by omega) (by omega)
      refine lv_iconst (v := nI 1) X.1 X.2.1 dL_races_5 (by decide) ?_
      refine lv_isub X.1 X.2.1 dL_races_6 ?_
      refine x_top (show nI (A 2) - nI 1 = nI r by rw [pk_sub (by omega)]; exact congrArg nI (by omega)) ?_
      refine lv_istore (lv' := [(4, .int (nI r)), (0, .ref (ad 0)), (1, .int (nI so)), (2, .int w), (3, .ref (ad 114))]) X.1 X.2.1 dL_races_7 hl (by decide) rfl (fun ls hl => ?_)
      refine lv_aload_n X.1 X.2.1 dL_races_9 rfl (lv_at hl 1 rfl) ?_
      refine lv_iconst (v := nI 3) X.1 X.2.1 dL_races_10 (by decide) ?_
      refine x_callV X hK hw (k := 0) (As := [.int (nI 3)]) (rest := []) (w_count hI (by omega) hO88 (nI 3) (fun g t z n hE => a_cou3 hJ (by omega) hk hE z n)) (x_cwV yX7_count cX7_count 2 (some .int) 1 X q818 q819 q820 q1 q821 hd_X7_count ⟨(Nat.le_of_ble_eq_true rfl), (Nat.le_of_ble_eq_true rfl)⟩) (by omega) hO88.ma rfl rfl hl.1 rfl (Nat.le_of_ble_eq_true rfl) dL_races_11 ⟨(Nat.le_of_ble_eq_true rfl), (Nat.le_of_ble_eq_true rfl)⟩ (fun v90 F91 H locs hp hw => ?_)
      obtain ⟨e92, hO93, hf94⟩ := hp
      refine x_top e92 ?_
      replace hfr := hfr.tr hf94 (by omega) (by omega)
      refine lv_istore (lv' := [(5, .int (nI (A 0))), (4, .int (nI r)), (0, .ref (ad 0)), (1, .int (nI so)), (2, .int w), (3, .ref (ad 114))]) X.1 X.2.1 dL_races_14 hl (by decide) rfl (fun ls hl => ?_)
      refine lv_aload_n X.1 X.2.1 dL_races_16 rfl (lv_at hl 2 rfl) ?_
      refine lv_iconst (v := nI 4) X.1 X.2.1 dL_races_17 (by decide) ?_
      refine x_callV X hK hw (k := 0) (As := [.int (nI 4)]) (rest := []) (w_count hI (by omega) hO93 (nI 4) (fun g t z n hE => a_cou4 hJ (by omega) hk hE z n)) (x_cwV yX7_count cX7_count 2 (some .int) 1 X q818 q819 q820 q1 q821 hd_X7_count ⟨(Nat.le_of_ble_eq_true rfl), (Nat.le_of_ble_eq_true rfl)⟩) (by omega) hO93.ma rfl rfl hl.1 rfl (Nat.le_of_ble_eq_true rfl) dL_races_18 ⟨(Nat.le_of_ble_eq_true rfl), (Nat.le_of_ble_eq_true rfl)⟩ (fun v95 F96 H locs hp hw => ?_)
      obtain ⟨e97, hO98, hf99⟩ := hp
      refine x_top e97 ?_
      replace hfr := hfr.tr hf99 (by omega) (by omega)
      refine lv_iconst (v := nI 1) X.1 X.2.1 dL_races_21 (by decide) ?_
      refine lv_icmp_ne (tgt := 29) X.1 X.2.1 dL_races_22 (by decide) (fun c100 => ?_) (fun c100 => ?_)
      · exact absurd ((nI_eq (by omega) (by omega)).mpr (by omega)) c100
      · have n101 := (nI_eq (by omega) (by omega)).mp c100
        refine lv_iconst (v := nI 1) X.1 X.2.1 dL_races_25 (by decide) ?_
        refine lv_goto (tgt := 30) X.1 X.2.1 dL_races_26 (by decide) ?_
        refine lv_istore (lv' := [(6, .int (nI 1)), (5, .int (nI (A 0))), (4, .int (nI r)), (0, .ref (ad 0)), (1, .int (nI so)), (2, .int w), (3, .ref (ad 114))]) X.1 X.2.1 dL_races_30 hl (by decide) rfl (fun ls hl => ?_)
        refine lv_iload X.1 X.2.1 dL_races_32 (lv_at hl 2 rfl) ?_
        refine lv_if_ge (tgt := 41) X.1 X.2.1 dL_races_34 (by decide) (fun c102 => ?_) (fun c102 => ?_)
        · have n103 := (bz_ge (by omega)).mp c102
          refine lv_aload_n X.1 X.2.1 dL_races_41 rfl (lv_at hl 3 rfl) ?_
          refine lv_iload X.1 X.2.1 dL_races_42 (lv_at hl 2 rfl) ?_
          refine lv_iconst (v := nI 2) X.1 X.2.1 dL_races_44 (by decide) ?_
          refine x_callV X hK hw (k := 0) (As := [.int (nI r), .int (nI 2)]) (rest := []) (w_race hI (by omega) hJ.1.1 hO98 (nI r) (nI 2) (fun g t tm hE => a_rac2 hJ (by omega) hk hE (by omega) tm)) (x_cwV yX7_race cX7_race 3 (some .int) 2 X q804 q805 q806 q1 q807 hd_X7_race ⟨(Nat.le_of_ble_eq_true rfl), (Nat.le_of_ble_eq_true rfl)⟩) (by omega) hO98.ma rfl rfl hl.1 rfl (Nat.le_of_ble_eq_true rfl) dL_races_45 ⟨(Nat.le_of_ble_eq_true rfl), (Nat.le_of_ble_eq_true rfl)⟩ (fun v104 F105 H locs hp hw => ?_)
          obtain ⟨e106, hO107, hf108⟩ := hp
          refine x_top e106 ?_
          replace hfr := hfr.tr hf108 (by omega) (by omega)
          refine lv_istore (lv' := [(7, .int (nI (rA A r 2))), (6, .int (nI 1)), (5, .int (nI (A 0))), (4, .int (nI r)), (0, .ref (ad 0)), (1, .int (nI so)), (2, .int w), (3, .ref (ad 114))]) X.1 X.2.1 dL_races_48 hl (by decide) rfl (fun ls hl => ?_)
          refine lv_iload_n X.1 X.2.1 dL_races_50 rfl (lv_at hl 5 rfl) ?_
          refine lv_if_ne (tgt := 175) X.1 X.2.1 dL_races_51 (by decide) (fun c109 => ?_) (fun c109 => ?_)
          · have n110 : ¬ so = 0 := fun z => c109 ((bz_eq (by omega)).mpr z)
            refine lv_iload_n X.1 X.2.1 dL_races_175 rfl (lv_at hl 5 rfl) ?_
            refine lv_iconst (v := nI 1) X.1 X.2.1 dL_races_176 (by decide) ?_
            refine lv_icmp_ne (tgt := 227) X.1 X.2.1 dL_races_177 (by decide) (fun c111 => ?_) (fun c111 => ?_)
            · have n112 : ¬ so = 1 := fun z => c111 ((nI_eq (by omega) (by omega)).mpr z)
              refine lv_iload_n X.1 X.2.1 dL_races_227 rfl (lv_at hl 5 rfl) ?_
              refine lv_iconst (v := nI 2) X.1 X.2.1 dL_races_228 (by decide) ?_
              refine lv_icmp_ne (tgt := 398) X.1 X.2.1 dL_races_229 (by decide) (fun c113 => ?_) (fun c113 => ?_)
              · have n114 : ¬ so = 2 := fun z => c113 ((nI_eq (by omega) (by omega)).mpr z)
                refine lv_aload_n X.1 X.2.1 dL_races_398 rfl (lv_at hl 4 rfl) ?_
                refine x_callSn X hK hw (As := [.ref (ad 0)]) (rest := []) (k_L_closes hI hJ hc hk hO107) (x_cwSn yL_closes cL_closes 8 (some .boolean) 1 X q1410 q1411 q0 q1412 hd_L_closes ⟨(Nat.le_of_ble_eq_true rfl), (Nat.le_of_ble_eq_true rfl)⟩) rfl hl.1 rfl (Nat.le_of_ble_eq_true rfl) dL_races_399 ⟨(Nat.le_of_ble_eq_true rfl), (Nat.le_of_ble_eq_true rfl)⟩ (fun v115 F116 H locs hp hw => ?_)
                obtain ⟨hv, hA, hf⟩ := hp
                refine x_top hv ?_
                exact x_iret X hr hlk hK hw (v := nI 1) rfl ⟨rfl, hA, fun k hk => (hf k hk).trans (hfr k (Or.inr hk))⟩ dL_races_402
              · have n117 := (nI_eq (by omega) (by omega)).mp c113
                refine lv_iload X.1 X.2.1 dL_races_232 (lv_at hl 1 rfl) ?_
                refine lv_if_eq (tgt := 258) X.1 X.2.1 dL_races_234 (by decide) (fun c118 => ?_) (fun c118 => ?_)
                · exact absurd c118 (by decide)
                · refine lv_iload X.1 X.2.1 dL_races_237 (lv_at hl 2 rfl) ?_
                  refine lv_iload X.1 X.2.1 dL_races_239 (lv_at hl 0 rfl) ?_
                  refine lv_icmp_lt (tgt := 258) X.1 X.2.1 dL_races_241 (by decide) (fun c119 => ?_) (fun c119 => ?_)
                  · have n120 := (br_lt (by omega) (by omega)).mp c119
                    refine lv_iconst (v := nI 0) X.1 X.2.1 dL_races_258 (by decide) ?_
                    refine lv_istore (lv' := [(8, .int (nI 0)), (7, .int (nI (rA A r 2))), (6, .int (nI 1)), (5, .int (nI (A 0))), (4, .int (nI r)), (0, .ref (ad 0)), (1, .int (nI so)), (2, .int w), (3, .ref (ad 114))]) X.1 X.2.1 dL_races_259 hl (by decide) rfl (fun ls hl => ?_)
                    refine lv_aload_n X.1 X.2.1 dL_races_261 rfl (lv_at hl 5 rfl) ?_
                    refine x_callV X hK hw (k := 0) (As := []) (rest := []) (w_recall hI (by omega) hO107 hJ.1.1 (fun g t hE => a_rec_no hJ (by omega) hk (fun _ => by rw [show A 2 - 1 = r by omega]; omega) hE)) (x_cwV yX7_recall cX7_recall 1 (some .int) 0 X q336 q337 q338 q1 q339 hd_X7_recall ⟨(Nat.le_of_ble_eq_true rfl), (Nat.le_of_ble_eq_true rfl)⟩) (by omega) hO107.ma rfl rfl hl.1 rfl (Nat.le_of_ble_eq_true rfl) dL_races_262 ⟨(Nat.le_of_ble_eq_true rfl), (Nat.le_of_ble_eq_true rfl)⟩ (fun v121 F122 H locs hp hw => ?_)
                    obtain ⟨e123, hO124, hf125⟩ := hp
                    refine x_top e123 ?_
                    replace hfr := hfr.tr hf125 (by omega) (by omega)
                    refine lv_istore (lv' := [(9, .int ((-4))), (8, .int (nI 0)), (7, .int (nI (rA A r 2))), (6, .int (nI 1)), (5, .int (nI (A 0))), (4, .int (nI r)), (0, .ref (ad 0)), (1, .int (nI so)), (2, .int w), (3, .ref (ad 114))]) X.1 X.2.1 dL_races_265 hl (by decide) rfl (fun ls hl => ?_)
                    refine lv_iconst (v := nI 0) X.1 X.2.1 dL_races_267 (by decide) ?_
                    refine lv_istore (lv' := [(10, .int (nI 0)), (9, .int ((-4))), (8, .int (nI 0)), (7, .int (nI (rA A r 2))), (6, .int (nI 1)), (5, .int (nI (A 0))), (4, .int (nI r)), (0, .ref (ad 0)), (1, .int (nI so)), (2, .int w), (3, .ref (ad 114))]) X.1 X.2.1 dL_races_268 hl (by decide) rfl (fun ls hl => ?_)
                    refine lv_iload X.1 X.2.1 dL_races_270 (lv_at hl 0 rfl) ?_
                    refine lv_aload_n X.1 X.2.1 dL_races_272 rfl (lv_at hl 7 rfl) ?_
                    refine lv_iconst (v := nI 0) X.1 X.2.1 dL_races_273 (by decide) ?_
                    refine x_callV X hK hw (k := 0) (As := [.int (nI 0)]) (rest := [.int (nI 0)]) (w_count hI (by omega) hO124 (nI 0) (fun g t z n hE => a_cou0 hJ (by omega) hk hE z n)) (x_cwV yX7_count cX7_count 2 (some .int) 1 X q818 q819 q820 q1 q821 hd_X7_count ⟨(Nat.le_of_ble_eq_true rfl), (Nat.le_of_ble_eq_true rfl)⟩) (by omega) hO124.ma rfl rfl hl.1 rfl (Nat.le_of_ble_eq_true rfl) dL_races_274 ⟨(Nat.le_of_ble_eq_true rfl), (Nat.le_of_ble_eq_true rfl)⟩ (fun v126 F127 H locs hp hw => ?_)
                    obtain ⟨e128, hO129, hf130⟩ := hp
                    refine x_top e128 ?_
                    replace hfr := hfr.tr hf130 (by omega) (by omega)
                    refine lv_icmp_ge (tgt := 353) X.1 X.2.1 dL_races_277 (by decide) (fun c131 => ?_) (fun c131 => ?_)
                    · have n132 := (nI_leI (by omega) (by omega)).mp c131
                      refine lv_iload X.1 X.2.1 dL_races_353 (lv_at hl 2 rfl) ?_
                      refine lv_if_eq (tgt := 385) X.1 X.2.1 dL_races_355 (by decide) (fun c133 => ?_) (fun c133 => ?_)
                      · refine lv_iload X.1 X.2.1 dL_races_385 (lv_at hl 1 rfl) ?_
                        refine lv_bipush (v := (-4)) X.1 X.2.1 dL_races_387 (by decide) ?_
                        refine lv_icmp_ne (tgt := 396) X.1 X.2.1 dL_races_389 (by decide) (fun c134 => ?_) (fun c134 => ?_)
                        · exact absurd (by decide) c134
                        · refine lv_iconst (v := nI 1) X.1 X.2.1 dL_races_392 (by decide) ?_
                          refine lv_goto (tgt := 397) X.1 X.2.1 dL_races_393 (by decide) ?_
                          refine W.widen (k := 1) (n := 9) (by omega) (by omega) ?_
                          exact x_iret X hr hlk hK hw (v := nI 1) rfl ⟨rfl, ACT.same hJ hO129, fun k hk => hfr k (Or.inr hk)⟩ dL_races_397
                      · exact absurd (by decide) c133
                    · have n135 : ¬ (A 1) ≤ 0 := fun z => c131 ((nI_leI (by omega) (by omega)).mpr z)
                      refine lv_iload X.1 X.2.1 dL_races_280 (lv_at hl 2 rfl) ?_
                      refine lv_if_eq (tgt := 353) X.1 X.2.1 dL_races_282 (by decide) (fun c136 => ?_) (fun c136 => ?_)
                      · refine lv_iload X.1 X.2.1 dL_races_353 (lv_at hl 2 rfl) ?_
                        refine lv_if_eq (tgt := 385) X.1 X.2.1 dL_races_355 (by decide) (fun c137 => ?_) (fun c137 => ?_)
                        · refine lv_iload X.1 X.2.1 dL_races_385 (lv_at hl 1 rfl) ?_
                          refine lv_bipush (v := (-4)) X.1 X.2.1 dL_races_387 (by decide) ?_
                          refine lv_icmp_ne (tgt := 396) X.1 X.2.1 dL_races_389 (by decide) (fun c138 => ?_) (fun c138 => ?_)
                          · exact absurd (by decide) c138
                          · refine lv_iconst (v := nI 1) X.1 X.2.1 dL_races_392 (by decide) ?_
                            refine lv_goto (tgt := 397) X.1 X.2.1 dL_races_393 (by decide) ?_
                            refine W.widen (k := 1) (n := 9) (by omega) (by omega) ?_
                            exact x_iret X hr hlk hK hw (v := nI 1) rfl ⟨rfl, ACT.same hJ hO129, fun k hk => hfr k (Or.inr hk)⟩ dL_races_397
                        · exact absurd (by decide) c137
                      · exact absurd (by decide) c136
                  · have n139 : ¬ (A 0) < (rA A r 2) := fun z => c119 ((br_lt (by omega) (by omega)).mpr z)
                    refine lv_iload X.1 X.2.1 dL_races_244 (lv_at hl 2 rfl) ?_
                    refine lv_iload X.1 X.2.1 dL_races_246 (lv_at hl 0 rfl) ?_
                    refine lv_bipush (v := nI 60) X.1 X.2.1 dL_races_248 (by decide) ?_
                    refine lv_iadd X.1 X.2.1 dL_races_250 ?_
                    refine x_top (nI_add _ _) ?_
                    refine lv_icmp_gt (tgt := 258) X.1 X.2.1 dL_races_251 (by decide) (fun c140 => ?_) (fun c140 => ?_)
                    · have n141 := (br_lt (by omega) (by omega)).mp c140
                      refine lv_iconst (v := nI 0) X.1 X.2.1 dL_races_258 (by decide) ?_
                      refine lv_istore (lv' := [(8, .int (nI 0)), (7, .int (nI (rA A r 2))), (6, .int (nI 1)), (5, .int (nI (A 0))), (4, .int (nI r)), (0, .ref (ad 0)), (1, .int (nI so)), (2, .int w), (3, .ref (ad 114))]) X.1 X.2.1 dL_races_259 hl (by decide) rfl (fun ls hl => ?_)
                      refine lv_aload_n X.1 X.2.1 dL_races_261 rfl (lv_at hl 5 rfl) ?_
                      refine x_callV X hK hw (k := 0) (As := []) (rest := []) (w_recall hI (by omega) hO107 hJ.1.1 (fun g t hE => a_rec_no hJ (by omega) hk (fun _ => by rw [show A 2 - 1 = r by omega]; omega) hE)) (x_cwV yX7_recall cX7_recall 1 (some .int) 0 X q336 q337 q338 q1 q339 hd_X7_recall ⟨(Nat.le_of_ble_eq_true rfl), (Nat.le_of_ble_eq_true rfl)⟩) (by omega) hO107.ma rfl rfl hl.1 rfl (Nat.le_of_ble_eq_true rfl) dL_races_262 ⟨(Nat.le_of_ble_eq_true rfl), (Nat.le_of_ble_eq_true rfl)⟩ (fun v142 F143 H locs hp hw => ?_)
                      obtain ⟨e144, hO145, hf146⟩ := hp
                      refine x_top e144 ?_
                      replace hfr := hfr.tr hf146 (by omega) (by omega)
                      refine lv_istore (lv' := [(9, .int ((-4))), (8, .int (nI 0)), (7, .int (nI (rA A r 2))), (6, .int (nI 1)), (5, .int (nI (A 0))), (4, .int (nI r)), (0, .ref (ad 0)), (1, .int (nI so)), (2, .int w), (3, .ref (ad 114))]) X.1 X.2.1 dL_races_265 hl (by decide) rfl (fun ls hl => ?_)
                      refine lv_iconst (v := nI 0) X.1 X.2.1 dL_races_267 (by decide) ?_
                      refine lv_istore (lv' := [(10, .int (nI 0)), (9, .int ((-4))), (8, .int (nI 0)), (7, .int (nI (rA A r 2))), (6, .int (nI 1)), (5, .int (nI (A 0))), (4, .int (nI r)), (0, .ref (ad 0)), (1, .int (nI so)), (2, .int w), (3, .ref (ad 114))]) X.1 X.2.1 dL_races_268 hl (by decide) rfl (fun ls hl => ?_)
                      refine lv_iload X.1 X.2.1 dL_races_270 (lv_at hl 0 rfl) ?_
                      refine lv_aload_n X.1 X.2.1 dL_races_272 rfl (lv_at hl 7 rfl) ?_
                      refine lv_iconst (v := nI 0) X.1 X.2.1 dL_races_273 (by decide) ?_
                      refine x_callV X hK hw (k := 0) (As := [.int (nI 0)]) (rest := [.int (nI 0)]) (w_count hI (by omega) hO145 (nI 0) (fun g t z n hE => a_cou0 hJ (by omega) hk hE z n)) (x_cwV yX7_count cX7_count 2 (some .int) 1 X q818 q819 q820 q1 q821 hd_X7_count ⟨(Nat.le_of_ble_eq_true rfl), (Nat.le_of_ble_eq_true rfl)⟩) (by omega) hO145.ma rfl rfl hl.1 rfl (Nat.le_of_ble_eq_true rfl) dL_races_274 ⟨(Nat.le_of_ble_eq_true rfl), (Nat.le_of_ble_eq_true rfl)⟩ (fun v147 F148 H locs hp hw => ?_)
                      obtain ⟨e149, hO150, hf151⟩ := hp
                      refine x_top e149 ?_
                      replace hfr := hfr.tr hf151 (by omega) (by omega)
                      refine lv_icmp_ge (tgt := 353) X.1 X.2.1 dL_races_277 (by decide) (fun c152 => ?_) (fun c152 => ?_)
                      · have n153 := (nI_leI (by omega) (by omega)).mp c152
                        refine lv_iload X.1 X.2.1 dL_races_353 (lv_at hl 2 rfl) ?_
                        refine lv_if_eq (tgt := 385) X.1 X.2.1 dL_races_355 (by decide) (fun c154 => ?_) (fun c154 => ?_)
                        · refine lv_iload X.1 X.2.1 dL_races_385 (lv_at hl 1 rfl) ?_
                          refine lv_bipush (v := (-4)) X.1 X.2.1 dL_races_387 (by decide) ?_
                          refine lv_icmp_ne (tgt := 396) X.1 X.2.1 dL_races_389 (by decide) (fun c155 => ?_) (fun c155 => ?_)
                          · exact absurd (by decide) c155
                          · refine lv_iconst (v := nI 1) X.1 X.2.1 dL_races_392 (by decide) ?_
                            refine lv_goto (tgt := 397) X.1 X.2.1 dL_races_393 (by decide) ?_
                            refine W.widen (k := 1) (n := 9) (by omega) (by omega) ?_
                            exact x_iret X hr hlk hK hw (v := nI 1) rfl ⟨rfl, ACT.same hJ hO150, fun k hk => hfr k (Or.inr hk)⟩ dL_races_397
                        · exact absurd (by decide) c154
                      · have n156 : ¬ (A 1) ≤ 0 := fun z => c152 ((nI_leI (by omega) (by omega)).mpr z)
                        refine lv_iload X.1 X.2.1 dL_races_280 (lv_at hl 2 rfl) ?_
                        refine lv_if_eq (tgt := 353) X.1 X.2.1 dL_races_282 (by decide) (fun c157 => ?_) (fun c157 => ?_)
                        · refine lv_iload X.1 X.2.1 dL_races_353 (lv_at hl 2 rfl) ?_
                          refine lv_if_eq (tgt := 385) X.1 X.2.1 dL_races_355 (by decide) (fun c158 => ?_) (fun c158 => ?_)
                          · refine lv_iload X.1 X.2.1 dL_races_385 (lv_at hl 1 rfl) ?_
                            refine lv_bipush (v := (-4)) X.1 X.2.1 dL_races_387 (by decide) ?_
                            refine lv_icmp_ne (tgt := 396) X.1 X.2.1 dL_races_389 (by decide) (fun c159 => ?_) (fun c159 => ?_)
                            · exact absurd (by decide) c159
                            · refine lv_iconst (v := nI 1) X.1 X.2.1 dL_races_392 (by decide) ?_
                              refine lv_goto (tgt := 397) X.1 X.2.1 dL_races_393 (by decide) ?_
                              refine W.widen (k := 1) (n := 9) (by omega) (by omega) ?_
                              exact x_iret X hr hlk hK hw (v := nI 1) rfl ⟨rfl, ACT.same hJ hO150, fun k hk => hfr k (Or.inr hk)⟩ dL_races_397
                          · exact absurd (by decide) c158
                        · exact absurd (by decide) c157
                    · have n160 : ¬ ((rA A r 2) + 60) < (A 0) := fun z => c140 ((br_lt (by omega) (by omega)).mpr z)
                      refine lv_iconst (v := nI 1) X.1 X.2.1 dL_races_254 (by decide) ?_
                      refine lv_goto (tgt := 259) X.1 X.2.1 dL_races_255 (by decide) ?_
                      refine lv_istore (lv' := [(8, .int (nI 1)), (7, .int (nI (rA A r 2))), (6, .int (nI 1)), (5, .int (nI (A 0))), (4, .int (nI r)), (0, .ref (ad 0)), (1, .int (nI so)), (2, .int w), (3, .ref (ad 114))]) X.1 X.2.1 dL_races_259 hl (by decide) rfl (fun ls hl => ?_)
                      refine lv_aload_n X.1 X.2.1 dL_races_261 rfl (lv_at hl 5 rfl) ?_
                      refine x_callV X hK hw (k := 0) (As := []) (rest := []) (w_recall hI (by omega) hO107 hJ.1.1 (fun g t hE => a_rec_ok_r hrA hJ hk hopn (by omega) (by omega) hE)) (x_cwV yX7_recall cX7_recall 1 (some .int) 0 X q336 q337 q338 q1 q339 hd_X7_recall ⟨(Nat.le_of_ble_eq_true rfl), (Nat.le_of_ble_eq_true rfl)⟩) (by omega) hO107.ma rfl rfl hl.1 rfl (Nat.le_of_ble_eq_true rfl) dL_races_262 ⟨(Nat.le_of_ble_eq_true rfl), (Nat.le_of_ble_eq_true rfl)⟩ (fun v161 F162 H locs hp hw => ?_)
                      obtain ⟨e163, hO164, hf165⟩ := hp
                      refine x_top e163 ?_
                      replace hfr := hfr.tr hf165 (by omega) (by omega)
                      obtain ⟨B166, hB166⟩ : ∃ y, y = recA A := ⟨_, rfl⟩
                      rw [← hB166] at hO164
                      have jB166 : HJ (ca + 1) B166 := by rw [hB166]; exact j_rec_r hrA hJ hopn (by omega)
                      have eB166 : ∀ i, i < 80 → i ≠ 3 → i ≠ 16 + 4 * r + 2 → B166 i = A i := fun i h1 h2 h3 => by rw [hB166]; exact (clrA_lo h1 h2).trans (nup_ne (by omega))
                      have b0B166 : B166 0 = A 0 := eB166 0 (by omega) (by omega) (by omega)
                      have b1B166 : B166 1 = A 1 := eB166 1 (by omega) (by omega) (by omega)
                      have b2B166 : B166 2 = A 2 := eB166 2 (by omega) (by omega) (by omega)
                      have b3B166 : B166 3 = 0 := by rw [hB166]; exact clrA_3
                      have zB166 : ∀ b w, b < 9 → w < 6 → eA B166 r b w = 0 := fun b w h1 h2 => by rw [hB166, show r = A 2 - 1 by omega]; exact clrA_e h1 h2
                      refine lv_istore (lv' := [(9, .int (nI (A 0 + 300))), (8, .int (nI 1)), (7, .int (nI (rA A r 2))), (6, .int (nI 1)), (5, .int (nI (A 0))), (4, .int (nI r)), (0, .ref (ad 0)), (1, .int (nI so)), (2, .int w), (3, .ref (ad 114))]) X.1 X.2.1 dL_races_265 hl (by decide) rfl (fun ls hl => ?_)
                      refine lv_iconst (v := nI 0) X.1 X.2.1 dL_races_267 (by decide) ?_
                      refine lv_istore (lv' := [(10, .int (nI 0)), (9, .int (nI (A 0 + 300))), (8, .int (nI 1)), (7, .int (nI (rA A r 2))), (6, .int (nI 1)), (5, .int (nI (A 0))), (4, .int (nI r)), (0, .ref (ad 0)), (1, .int (nI so)), (2, .int w), (3, .ref (ad 114))]) X.1 X.2.1 dL_races_268 hl (by decide) rfl (fun ls hl => ?_)
                      have way270 : ∀ (b : Nat) (F1 : Nat → va_E) (hb1 : b ≤ B166 1) (hOB : OB ad cI cB cS F1 hs B166 A3) (hfr : Fr F F1 0 111) (hx : B166 1 ≤ b) (H : Heap) (locs : List Loc) (hw : HW D (Af ad 115 s.heap.size) ad 115 F1 s H locs) (ls : Array Slot) (hl : lv_has ls 11 [(10, .int (nI b)), (9, .int (nI (A 0 + 300))), (8, .int (nI 1)), (7, .int (nI (rA A r 2))), (6, .int (nI 1)), (5, .int (nI (A 0))), (4, .int (nI r)), (0, .ref (ad 0)), (1, .int (nI so)), (2, .int w), (3, .ref (ad 114))]), W p l e { frames := 8, cells := 1, slots := 9, locals := 227 } s m [.ref (ad 0), .int (nI so), .int w, .ref (ad 114)].toArray below meth c H locs 0 0 (MQ below (va_Qi (fun v F' => v = nI 1 ∧ ACT ad cI cB cS F' ca A ∧ ∀ k, 111 ≤ k → F' k = F k) (fun F' t => PO D ad 115 F' t) (Af ad 115 s.heap.size)) [.ref (ad 0), .int (nI so), .int w, .ref (ad 114)].toArray s 1 9 (Af ad 115 s.heap.size)) (F0 m 353 ls []) := by
                        intro b F1 hb1 hOB hfr hx H locs hw ls hl
                        refine lv_iload X.1 X.2.1 dL_races_353 (lv_at hl 2 rfl) ?_
                        refine lv_if_eq (tgt := 385) X.1 X.2.1 dL_races_355 (by decide) (fun c167 => ?_) (fun c167 => ?_)
                        · exact absurd c167 (by decide)
                        · refine lv_iload X.1 X.2.1 dL_races_358 (lv_at hl 1 rfl) ?_
                          refine lv_iload X.1 X.2.1 dL_races_360 (lv_at hl 5 rfl) ?_
                          refine lv_sipush (v := nI 300) X.1 X.2.1 dL_races_362 (by decide) ?_
                          refine lv_iadd X.1 X.2.1 dL_races_365 ?_
                          refine x_top (nI_add _ _) ?_
                          refine lv_icmp_ne (tgt := 381) X.1 X.2.1 dL_races_366 (by decide) (fun c168 => ?_) (fun c168 => ?_)
                          · exact absurd ((nI_eq (by omega) (by omega)).mpr (by omega)) c168
                          · have n169 := (nI_eq (by omega) (by omega)).mp c168
                            refine lv_aload_n X.1 X.2.1 dL_races_369 rfl (lv_at hl 7 rfl) ?_
                            refine lv_iconst (v := nI 5) X.1 X.2.1 dL_races_370 (by decide) ?_
                            refine x_callV X hK hw (k := 0) (As := [.int (nI 5)]) (rest := []) (w_count hI (by omega) hOB (nI 5) (fun g t z n hE => a_cou5 jB166 (by omega) (by omega) hE z n)) (x_cwV yX7_count cX7_count 2 (some .int) 1 X q818 q819 q820 q1 q821 hd_X7_count ⟨(Nat.le_of_ble_eq_true rfl), (Nat.le_of_ble_eq_true rfl)⟩) (by omega) hOB.ma rfl rfl hl.1 rfl (Nat.le_of_ble_eq_true rfl) dL_races_371 ⟨(Nat.le_of_ble_eq_true rfl), (Nat.le_of_ble_eq_true rfl)⟩ (fun v170 F171 H locs hp hw => ?_)
                            obtain ⟨e172, hO173, hf174⟩ := hp
                            refine x_top e172 ?_
                            replace hfr := hfr.tr hf174 (by omega) (by omega)
                            refine lv_if_ne (tgt := 381) X.1 X.2.1 dL_races_374 (by decide) (fun c175 => ?_) (fun c175 => ?_)
                            · exact absurd ((bz_eq (by omega)).mpr (by omega)) c175
                            · have n176 := (bz_eq (by omega)).mp c175
                              refine lv_iconst (v := nI 1) X.1 X.2.1 dL_races_377 (by decide) ?_
                              refine lv_goto (tgt := 397) X.1 X.2.1 dL_races_378 (by decide) ?_
                              refine W.widen (k := 1) (n := 9) (by omega) (by omega) ?_
                              exact x_iret X hr hlk hK hw (v := nI 1) rfl ⟨rfl, ACT.mk3 jB166 (by omega) (by omega) b3B166 hO173, fun k hk => hfr k (Or.inr hk)⟩ dL_races_397
                      have loop270 : ∀ (fu : Nat) (b : Nat) (F1 : Nat → va_E) (hfu : B166 1 ≤ b + fu) (hb1 : b ≤ B166 1) (hOB : OB ad cI cB cS F1 hs B166 A3) (hfr : Fr F F1 0 111) (H : Heap) (locs : List Loc) (hw : HW D (Af ad 115 s.heap.size) ad 115 F1 s H locs) (ls : Array Slot) (hl : lv_has ls 11 [(10, .int (nI b)), (9, .int (nI (A 0 + 300))), (8, .int (nI 1)), (7, .int (nI (rA A r 2))), (6, .int (nI 1)), (5, .int (nI (A 0))), (4, .int (nI r)), (0, .ref (ad 0)), (1, .int (nI so)), (2, .int w), (3, .ref (ad 114))]), W p l e { frames := 8, cells := 1, slots := 9, locals := 227 } s m [.ref (ad 0), .int (nI so), .int w, .ref (ad 114)].toArray below meth c H locs 0 0 (MQ below (va_Qi (fun v F' => v = nI 1 ∧ ACT ad cI cB cS F' ca A ∧ ∀ k, 111 ≤ k → F' k = F k) (fun F' t => PO D ad 115 F' t) (Af ad 115 s.heap.size)) [.ref (ad 0), .int (nI so), .int w, .ref (ad 114)].toArray s 1 9 (Af ad 115 s.heap.size)) (F0 m 270 ls []) := by
                        intro fu
                        induction fu with
                        | zero =>
                          intro b F1 hfu hb1 hOB hfr H locs hw ls hl
                          refine lv_iload X.1 X.2.1 dL_races_270 (lv_at hl 0 rfl) ?_
                          refine lv_aload_n X.1 X.2.1 dL_races_272 rfl (lv_at hl 7 rfl) ?_
                          refine lv_iconst (v := nI 0) X.1 X.2.1 dL_races_273 (by decide) ?_
                          refine x_callV X hK hw (k := 0) (As := [.int (nI 0)]) (rest := [.int (nI b)]) (w_count hI (by omega) hOB (nI 0) (fun g t z n hE => a_cou0 jB166 (by omega) (by omega) hE z n)) (x_cwV yX7_count cX7_count 2 (some .int) 1 X q818 q819 q820 q1 q821 hd_X7_count ⟨(Nat.le_of_ble_eq_true rfl), (Nat.le_of_ble_eq_true rfl)⟩) (by omega) hOB.ma rfl rfl hl.1 rfl (Nat.le_of_ble_eq_true rfl) dL_races_274 ⟨(Nat.le_of_ble_eq_true rfl), (Nat.le_of_ble_eq_true rfl)⟩ (fun v177 F178 H locs hp hw => ?_)
                          obtain ⟨e179, hO180, hf181⟩ := hp
                          refine x_top e179 ?_
                          replace hfr := hfr.tr hf181 (by omega) (by omega)
                          refine lv_icmp_ge (tgt := 353) X.1 X.2.1 dL_races_277 (by decide) (fun c182 => ?_) (fun c182 => ?_)
                          · have n183 := (nI_leI (by omega) (by omega)).mp c182
                            exact way270 b F178 hb1 hO180 hfr n183 _ _ hw _ (lv_sub hl [0, 1, 2, 3, 4, 5, 6, 7, 8, 9, 10] rfl)
                          · exact absurd ((nI_leI (by omega) (by omega)).mpr (by omega)) c182
                        | succ fu ih =>
                          intro b F1 hfu hb1 hOB hfr H locs hw ls hl
                          refine lv_iload X.1 X.2.1 dL_races_270 (lv_at hl 0 rfl) ?_
                          refine lv_aload_n X.1 X.2.1 dL_races_272 rfl (lv_at hl 7 rfl) ?_
                          refine lv_iconst (v := nI 0) X.1 X.2.1 dL_races_273 (by decide) ?_
                          refine x_callV X hK hw (k := 0) (As := [.int (nI 0)]) (rest := [.int (nI b)]) (w_count hI (by omega) hOB (nI 0) (fun g t z n hE => a_cou0 jB166 (by omega) (by omega) hE z n)) (x_cwV yX7_count cX7_count 2 (some .int) 1 X q818 q819 q820 q1 q821 hd_X7_count ⟨(Nat.le_of_ble_eq_true rfl), (Nat.le_of_ble_eq_true rfl)⟩) (by omega) hOB.ma rfl rfl hl.1 rfl (Nat.le_of_ble_eq_true rfl) dL_races_274 ⟨(Nat.le_of_ble_eq_true rfl), (Nat.le_of_ble_eq_true rfl)⟩ (fun v184 F185 H locs hp hw => ?_)
                          obtain ⟨e186, hO187, hf188⟩ := hp
                          refine x_top e186 ?_
                          replace hfr := hfr.tr hf188 (by omega) (by omega)
                          refine lv_icmp_ge (tgt := 353) X.1 X.2.1 dL_races_277 (by decide) (fun c189 => ?_) (fun c189 => ?_)
                          · have n190 := (nI_leI (by omega) (by omega)).mp c189
                            exact way270 b F185 hb1 hO187 hfr n190 _ _ hw _ (lv_sub hl [0, 1, 2, 3, 4, 5, 6, 7, 8, 9, 10] rfl)
                          · have n191 : ¬ (B166 1) ≤ b := fun z => c189 ((nI_leI (by omega) (by omega)).mpr z)
                            refine lv_iload X.1 X.2.1 dL_races_280 (lv_at hl 2 rfl) ?_
                            refine lv_if_eq (tgt := 353) X.1 X.2.1 dL_races_282 (by decide) (fun c192 => ?_) (fun c192 => ?_)
                            · exact absurd c192 (by decide)
                            · have z0 := zB166 b 0 (by omega) (by omega)
                              have z1 := zB166 b 1 (by omega) (by omega)
                              have z2 := zB166 b 2 (by omega) (by omega)
                              have z3 := zB166 b 3 (by omega) (by omega)
                              have z4 := zB166 b 4 (by omega) (by omega)
                              refine lv_aload_n X.1 X.2.1 dL_races_285 rfl (lv_at hl 7 rfl) ?_
                              refine lv_iload X.1 X.2.1 dL_races_286 (lv_at hl 6 rfl) ?_
                              refine lv_iload X.1 X.2.1 dL_races_288 (lv_at hl 0 rfl) ?_
                              refine lv_iconst (v := nI 0) X.1 X.2.1 dL_races_290 (by decide) ?_
                              refine x_callV X hK hw (k := 0) (As := [.int (nI r), .int (nI b), .int (nI 0)]) (rest := []) (w_result hI (by omega) jB166.1.1 hO187 (nI r) (nI b) (nI 0) (fun g t tm hE => a_res0 jB166 (by omega) (by omega) hE (by omega) (by omega) tm)) (x_cwV yX7_result cX7_result 4 (some .int) 3 X q695 q696 q697 q1 q698 hd_X7_result ⟨(Nat.le_of_ble_eq_true rfl), (Nat.le_of_ble_eq_true rfl)⟩) (by omega) hO187.ma rfl rfl hl.1 rfl (Nat.le_of_ble_eq_true rfl) dL_races_291 ⟨(Nat.le_of_ble_eq_true rfl), (Nat.le_of_ble_eq_true rfl)⟩ (fun v193 F194 H locs hp hw => ?_)
                              obtain ⟨e195, hO196, hf197⟩ := hp
                              refine x_top e195 ?_
                              replace hfr := hfr.tr hf197 (by omega) (by omega)
                              refine lv_if_ne (tgt := 345) X.1 X.2.1 dL_races_294 (by decide) (fun c198 => ?_) (fun c198 => ?_)
                              · exact absurd ((bz_eq (by omega)).mpr (by omega)) c198
                              · have n199 := (bz_eq (by omega)).mp c198
                                refine lv_aload_n X.1 X.2.1 dL_races_297 rfl (lv_at hl 7 rfl) ?_
                                refine lv_iload X.1 X.2.1 dL_races_298 (lv_at hl 6 rfl) ?_
                                refine lv_iload X.1 X.2.1 dL_races_300 (lv_at hl 0 rfl) ?_
                                refine lv_iconst (v := nI 1) X.1 X.2.1 dL_races_302 (by decide) ?_
                                refine x_callV X hK hw (k := 0) (As := [.int (nI r), .int (nI b), .int (nI 1)]) (rest := []) (w_result hI (by omega) jB166.1.1 hO196 (nI r) (nI b) (nI 1) (fun g t tm hE => a_res1 jB166 (by omega) (by omega) hE (by omega) (by omega) tm)) (x_cwV yX7_result cX7_result 4 (some .int) 3 X q695 q696 q697 q1 q698 hd_X7_result ⟨(Nat.le_of_ble_eq_true rfl), (Nat.le_of_ble_eq_true rfl)⟩) (by omega) hO196.ma rfl rfl hl.1 rfl (Nat.le_of_ble_eq_true rfl) dL_races_303 ⟨(Nat.le_of_ble_eq_true rfl), (Nat.le_of_ble_eq_true rfl)⟩ (fun v200 F201 H locs hp hw => ?_)
                                obtain ⟨e202, hO203, hf204⟩ := hp
                                refine x_top e202 ?_
                                replace hfr := hfr.tr hf204 (by omega) (by omega)
                                refine lv_if_ne (tgt := 345) X.1 X.2.1 dL_races_306 (by decide) (fun c205 => ?_) (fun c205 => ?_)
                                · exact absurd ((bz_eq (by omega)).mpr (by omega)) c205
                                · have n206 := (bz_eq (by omega)).mp c205
                                  refine lv_aload_n X.1 X.2.1 dL_races_309 rfl (lv_at hl 7 rfl) ?_
                                  refine lv_iload X.1 X.2.1 dL_races_310 (lv_at hl 6 rfl) ?_
                                  refine lv_iload X.1 X.2.1 dL_races_312 (lv_at hl 0 rfl) ?_
                                  refine lv_iconst (v := nI 2) X.1 X.2.1 dL_races_314 (by decide) ?_
                                  refine x_callV X hK hw (k := 0) (As := [.int (nI r), .int (nI b), .int (nI 2)]) (rest := []) (w_result hI (by omega) jB166.1.1 hO203 (nI r) (nI b) (nI 2) (fun g t tm hE => a_res2 jB166 (by omega) (by omega) hE (by omega) (by omega) tm)) (x_cwV yX7_result cX7_result 4 (some .int) 3 X q695 q696 q697 q1 q698 hd_X7_result ⟨(Nat.le_of_ble_eq_true rfl), (Nat.le_of_ble_eq_true rfl)⟩) (by omega) hO203.ma rfl rfl hl.1 rfl (Nat.le_of_ble_eq_true rfl) dL_races_315 ⟨(Nat.le_of_ble_eq_true rfl), (Nat.le_of_ble_eq_true rfl)⟩ (fun v207 F208 H locs hp hw => ?_)
                                  obtain ⟨e209, hO210, hf211⟩ := hp
                                  refine x_top e209 ?_
                                  replace hfr := hfr.tr hf211 (by omega) (by omega)
                                  refine lv_if_ne (tgt := 345) X.1 X.2.1 dL_races_318 (by decide) (fun c212 => ?_) (fun c212 => ?_)
                                  · exact absurd ((bz_eq (by omega)).mpr (by omega)) c212
                                  · have n213 := (bz_eq (by omega)).mp c212
                                    refine lv_aload_n X.1 X.2.1 dL_races_321 rfl (lv_at hl 7 rfl) ?_
                                    refine lv_iload X.1 X.2.1 dL_races_322 (lv_at hl 6 rfl) ?_
                                    refine lv_iload X.1 X.2.1 dL_races_324 (lv_at hl 0 rfl) ?_
                                    refine lv_iconst (v := nI 3) X.1 X.2.1 dL_races_326 (by decide) ?_
                                    refine x_callV X hK hw (k := 0) (As := [.int (nI r), .int (nI b), .int (nI 3)]) (rest := []) (w_result hI (by omega) jB166.1.1 hO210 (nI r) (nI b) (nI 3) (fun g t tm hE => a_res3 jB166 (by omega) (by omega) hE (by omega) (by omega) tm)) (x_cwV yX7_result cX7_result 4 (some .int) 3 X q695 q696 q697 q1 q698 hd_X7_result ⟨(Nat.le_of_ble_eq_true rfl), (Nat.le_of_ble_eq_true rfl)⟩) (by omega) hO210.ma rfl rfl hl.1 rfl (Nat.le_of_ble_eq_true rfl) dL_races_327 ⟨(Nat.le_of_ble_eq_true rfl), (Nat.le_of_ble_eq_true rfl)⟩ (fun v214 F215 H locs hp hw => ?_)
                                    obtain ⟨e216, hO217, hf218⟩ := hp
                                    refine x_top e216 ?_
                                    replace hfr := hfr.tr hf218 (by omega) (by omega)
                                    refine lv_if_ne (tgt := 345) X.1 X.2.1 dL_races_330 (by decide) (fun c219 => ?_) (fun c219 => ?_)
                                    · exact absurd ((bz_eq (by omega)).mpr (by omega)) c219
                                    · have n220 := (bz_eq (by omega)).mp c219
                                      refine lv_aload_n X.1 X.2.1 dL_races_333 rfl (lv_at hl 7 rfl) ?_
                                      refine lv_iload X.1 X.2.1 dL_races_334 (lv_at hl 6 rfl) ?_
                                      refine lv_iload X.1 X.2.1 dL_races_336 (lv_at hl 0 rfl) ?_
                                      refine lv_iconst (v := nI 4) X.1 X.2.1 dL_races_338 (by decide) ?_
                                      refine x_callV X hK hw (k := 0) (As := [.int (nI r), .int (nI b), .int (nI 4)]) (rest := []) (w_result hI (by omega) jB166.1.1 hO217 (nI r) (nI b) (nI 4) (fun g t tm hE => a_res4 jB166 (by omega) (by omega) hE (by omega) (by omega) tm)) (x_cwV yX7_result cX7_result 4 (some .int) 3 X q695 q696 q697 q1 q698 hd_X7_result ⟨(Nat.le_of_ble_eq_true rfl), (Nat.le_of_ble_eq_true rfl)⟩) (by omega) hO217.ma rfl rfl hl.1 rfl (Nat.le_of_ble_eq_true rfl) dL_races_339 ⟨(Nat.le_of_ble_eq_true rfl), (Nat.le_of_ble_eq_true rfl)⟩ (fun v221 F222 H locs hp hw => ?_)
                                      obtain ⟨e223, hO224, hf225⟩ := hp
                                      refine x_top e223 ?_
                                      replace hfr := hfr.tr hf225 (by omega) (by omega)
                                      refine lv_if_eq (tgt := 347) X.1 X.2.1 dL_races_342 (by decide) (fun c226 => ?_) (fun c226 => ?_)
                                      · have n227 := (bz_eq (by omega)).mp c226
                                        refine lv_iinc (v := nI (b + 1)) (lv' := [(10, .int (nI (b + 1))), (9, .int (nI (A 0 + 300))), (8, .int (nI 1)), (7, .int (nI (rA A r 2))), (6, .int (nI 1)), (5, .int (nI (A 0))), (4, .int (nI r)), (0, .ref (ad 0)), (1, .int (nI so)), (2, .int w), (3, .ref (ad 114))]) X.1 X.2.1 dL_races_347 hl (k := 0) rfl (by first | exact nI_1 _ | exact nI_add _ _ | rfl) (by decide) rfl (fun ls hl => ?_)
                                        refine lv_goto (tgt := 270) X.1 X.2.1 dL_races_350 (by decide) ?_
                                        exact ih (b + 1) F222 (by omega) (by omega) hO224 hfr _ _ hw _ (lv_sub hl [0, 1, 2, 3, 4, 5, 6, 7, 8, 9, 10] rfl)
                                      · exact absurd ((bz_eq (by omega)).mpr (by omega)) c226
                      exact loop270 (B166 1) 0 F162 (by omega) (by omega) hO164 hfr _ _ hw _ (lv_sub hl [0, 1, 2, 3, 4, 5, 6, 7, 8, 9, 10] rfl)
            · have n228 := (nI_eq (by omega) (by omega)).mp c111
              refine lv_iconst (v := nI 1) X.1 X.2.1 dL_races_180 (by decide) ?_
              refine lv_iload_n X.1 X.2.1 dL_races_181 rfl (lv_at hl 6 rfl) ?_
              refine lv_bipush (v := nI 40) X.1 X.2.1 dL_races_182 (by decide) ?_
              refine x_callSP X hK hw (As := [.int w, .int (nI 40)]) (rest := [.int (nI 1)]) (k_L_low w 40 (by omega) (by omega)) (x_cwS yL_low cL_low 2 (some .int) 2 X q1394 q1395 q0 q1396 hd_L_low ⟨(Nat.le_of_ble_eq_true rfl), (Nat.le_of_ble_eq_true rfl)⟩) rfl hl.1 rfl (Nat.le_of_ble_eq_true rfl) dL_races_184 ⟨(Nat.le_of_ble_eq_true rfl), (Nat.le_of_ble_eq_true rfl)⟩ (fun H locs hw => ?_)
              have hw229 := lowN_lt (v := w) (n := 40) (by omega)
              refine lv_iadd X.1 X.2.1 dL_races_187 ?_
              refine x_top (nI_add _ _) ?_
              refine lv_istore (lv' := [(8, .int (nI (1 + (lowN w 40)))), (7, .int (nI (rA A r 2))), (6, .int (nI 1)), (5, .int (nI (A 0))), (4, .int (nI r)), (0, .ref (ad 0)), (1, .int (nI so)), (2, .int w), (3, .ref (ad 114))]) X.1 X.2.1 dL_races_188 hl (by decide) rfl (fun ls hl => ?_)
              by_cases hpp : A 0 < rA A r 2
              · refine lv_aload_n X.1 X.2.1 dL_races_190 rfl (lv_at hl 5 rfl) ?_
                refine lv_iload X.1 X.2.1 dL_races_191 (lv_at hl 0 rfl) ?_
                refine x_callV X hK hw (k := 0) (As := [.int (nI (1 + (lowN w 40)))]) (rest := []) (w_postpone hI (by omega) hO107 (nI (1 + (lowN w 40))) (fun g t hE => a_post_ok_r hrA hJ (by omega) hk hopn (by omega) (by omega) (by omega) hE)) (x_cwV yX7_postpone cX7_postpone 2 (some .int) 1 X q310 q311 q312 q1 q313 hd_X7_postpone ⟨(Nat.le_of_ble_eq_true rfl), (Nat.le_of_ble_eq_true rfl)⟩) (by omega) hO107.ma rfl rfl hl.1 rfl (Nat.le_of_ble_eq_true rfl) dL_races_193 ⟨(Nat.le_of_ble_eq_true rfl), (Nat.le_of_ble_eq_true rfl)⟩ (fun v230 F231 H locs hp hw => ?_)
                obtain ⟨e232, hO233, hf234⟩ := hp
                refine x_top e232 ?_
                replace hfr := hfr.tr hf234 (by omega) (by omega)
                obtain ⟨B235, hB235⟩ : ∃ y, y = nup A (16 + 4 * r + 2) (rA A r 2 + (1 + (lowN w 40))) := ⟨_, rfl⟩
                rw [← hB235] at hO233
                have jB235 : HJ (ca + 1) B235 := by rw [hB235]; exact j_post_r hrA hJ hopn (by omega) (by omega)
                have eB235 : ∀ i, i ≠ 16 + 4 * r + 2 → B235 i = A i := fun i hi => by rw [hB235]; exact nup_ne hi
                have b0B235 : B235 0 = A 0 := eB235 0 (by omega)
                have mB235 : ∀ k, k < A 3 → pA A k 3 ≤ pA B235 k 3 := fun k hk => by rw [show pA B235 k 3 = pA A k 3 from eB235 _ (by omega)]; exact Nat.le_refl _
                refine lv_iload X.1 X.2.1 dL_races_196 (lv_at hl 2 rfl) ?_
                refine lv_if_eq (tgt := 216) X.1 X.2.1 dL_races_198 (by decide) (fun c236 => ?_) (fun c236 => ?_)
                · exact absurd c236 (by decide)
                · refine lv_iload X.1 X.2.1 dL_races_201 (lv_at hl 3 rfl) ?_
                  refine lv_iload X.1 X.2.1 dL_races_203 (lv_at hl 1 rfl) ?_
                  refine lv_icmp_ge (tgt := 216) X.1 X.2.1 dL_races_205 (by decide) (fun c237 => ?_) (fun c237 => ?_)
                  · exact absurd ((nI_leI (by omega) (by omega)).mp c237) (by omega)
                  · have n238 : ¬ (rA A r 2) ≤ (A 0) := fun z => c237 ((nI_leI (by omega) (by omega)).mpr z)
                    refine lv_iload X.1 X.2.1 dL_races_208 (lv_at hl 1 rfl) ?_
                    refine lv_iload X.1 X.2.1 dL_races_210 (lv_at hl 0 rfl) ?_
                    refine lv_iadd X.1 X.2.1 dL_races_212 ?_
                    refine x_top (nI_add _ _) ?_
                    refine lv_goto (tgt := 218) X.1 X.2.1 dL_races_213 (by decide) ?_
                    refine lv_icmp_ne (tgt := 225) X.1 X.2.1 dL_races_218 (by decide) (fun c239 => ?_) (fun c239 => ?_)
                    · exact absurd ((nI_eq (by omega) (by omega)).mpr (by omega)) c239
                    · have n240 := (nI_eq (by omega) (by omega)).mp c239
                      refine lv_iconst (v := nI 1) X.1 X.2.1 dL_races_221 (by decide) ?_
                      refine lv_goto (tgt := 226) X.1 X.2.1 dL_races_222 (by decide) ?_
                      refine W.widen (k := 1) (n := 9) (by omega) (by omega) ?_
                      exact x_iret X hr hlk hK hw (v := nI 1) rfl ⟨rfl, ACT.mk1 jB235 (by omega) (by omega) mB235 hO233, fun k hk => hfr k (Or.inr hk)⟩ dL_races_226
              · refine lv_aload_n X.1 X.2.1 dL_races_190 rfl (lv_at hl 5 rfl) ?_
                refine lv_iload X.1 X.2.1 dL_races_191 (lv_at hl 0 rfl) ?_
                refine x_callV X hK hw (k := 0) (As := [.int (nI (1 + (lowN w 40)))]) (rest := []) (w_postpone hI (by omega) hO107 (nI (1 + (lowN w 40))) (fun g t hE => a_post_no hJ hk (by omega) (by omega) (fun _ => by rw [show A 2 - 1 = r by omega]; omega) hE)) (x_cwV yX7_postpone cX7_postpone 2 (some .int) 1 X q310 q311 q312 q1 q313 hd_X7_postpone ⟨(Nat.le_of_ble_eq_true rfl), (Nat.le_of_ble_eq_true rfl)⟩) (by omega) hO107.ma rfl rfl hl.1 rfl (Nat.le_of_ble_eq_true rfl) dL_races_193 ⟨(Nat.le_of_ble_eq_true rfl), (Nat.le_of_ble_eq_true rfl)⟩ (fun v241 F242 H locs hp hw => ?_)
                obtain ⟨e243, hO244, hf245⟩ := hp
                refine x_top e243 ?_
                replace hfr := hfr.tr hf245 (by omega) (by omega)
                refine lv_iload X.1 X.2.1 dL_races_196 (lv_at hl 2 rfl) ?_
                refine lv_if_eq (tgt := 216) X.1 X.2.1 dL_races_198 (by decide) (fun c246 => ?_) (fun c246 => ?_)
                · exact absurd c246 (by decide)
                · refine lv_iload X.1 X.2.1 dL_races_201 (lv_at hl 3 rfl) ?_
                  refine lv_iload X.1 X.2.1 dL_races_203 (lv_at hl 1 rfl) ?_
                  refine lv_icmp_ge (tgt := 216) X.1 X.2.1 dL_races_205 (by decide) (fun c247 => ?_) (fun c247 => ?_)
                  · have n248 := (nI_leI (by omega) (by omega)).mp c247
                    refine lv_bipush (v := (-4)) X.1 X.2.1 dL_races_216 (by decide) ?_
                    refine lv_icmp_ne (tgt := 225) X.1 X.2.1 dL_races_218 (by decide) (fun c249 => ?_) (fun c249 => ?_)
                    · exact absurd (by decide) c249
                    · refine lv_iconst (v := nI 1) X.1 X.2.1 dL_races_221 (by decide) ?_
                      refine lv_goto (tgt := 226) X.1 X.2.1 dL_races_222 (by decide) ?_
                      refine W.widen (k := 1) (n := 9) (by omega) (by omega) ?_
                      exact x_iret X hr hlk hK hw (v := nI 1) rfl ⟨rfl, ACT.same hJ hO244, fun k hk => hfr k (Or.inr hk)⟩ dL_races_226
                  · exact absurd ((nI_leI (by omega) (by omega)).mpr (by omega)) c247
          · have n250 := (bz_eq (by omega)).mp c109
            refine lv_aload_n X.1 X.2.1 dL_races_54 rfl (lv_at hl 4 rfl) ?_
            refine lv_iconst (v := nI 1) X.1 X.2.1 dL_races_55 (by decide) ?_
            refine lv_iload_n X.1 X.2.1 dL_races_56 rfl (lv_at hl 6 rfl) ?_
            refine lv_iconst (v := nI 2) X.1 X.2.1 dL_races_57 (by decide) ?_
            refine x_callSP X hK hw (As := [.int w, .int (nI 2)]) (rest := [.int (nI 1), .ref (ad 0)]) (k_L_low w 2 (by omega) (by omega)) (x_cwS yL_low cL_low 2 (some .int) 2 X q1394 q1395 q0 q1396 hd_L_low ⟨(Nat.le_of_ble_eq_true rfl), (Nat.le_of_ble_eq_true rfl)⟩) rfl hl.1 rfl (Nat.le_of_ble_eq_true rfl) dL_races_58 ⟨(Nat.le_of_ble_eq_true rfl), (Nat.le_of_ble_eq_true rfl)⟩ (fun H locs hw => ?_)
            have hw251 := lowN_lt (v := w) (n := 2) (by omega)
            refine lv_iadd X.1 X.2.1 dL_races_61 ?_
            refine x_top (nI_add _ _) ?_
            refine lv_iconst (v := nI 1) X.1 X.2.1 dL_races_62 (by decide) ?_
            refine lv_iload_n X.1 X.2.1 dL_races_63 rfl (lv_at hl 6 rfl) ?_
            refine lv_iconst (v := nI 2) X.1 X.2.1 dL_races_64 (by decide) ?_
            refine lv_ishr X.1 X.2.1 dL_races_65 ?_
            refine lv_iconst (v := nI 2) X.1 X.2.1 dL_races_66 (by decide) ?_
            refine x_callSP X hK hw (As := [.int (w >>> ((nI 2) &&& 31)), .int (nI 2)]) (rest := [.int (nI 1), .int (nI (1 + (lowN w 2))), .ref (ad 0)]) (k_L_low (w >>> ((nI 2) &&& 31)) 2 (by omega) (by omega)) (x_cwS yL_low cL_low 2 (some .int) 2 X q1394 q1395 q0 q1396 hd_L_low ⟨(Nat.le_of_ble_eq_true rfl), (Nat.le_of_ble_eq_true rfl)⟩) rfl hl.1 rfl (Nat.le_of_ble_eq_true rfl) dL_races_67 ⟨(Nat.le_of_ble_eq_true rfl), (Nat.le_of_ble_eq_true rfl)⟩ (fun H locs hw => ?_)
            have hw252 := lowN_lt (v := w >>> ((nI 2) &&& 31)) (n := 2) (by omega)
            refine lv_iadd X.1 X.2.1 dL_races_70 ?_
            refine x_top (nI_add _ _) ?_
            refine lv_bipush (v := nI 60) X.1 X.2.1 dL_races_71 (by decide) ?_
            refine lv_iload_n X.1 X.2.1 dL_races_73 rfl (lv_at hl 6 rfl) ?_
            refine lv_iconst (v := nI 4) X.1 X.2.1 dL_races_74 (by decide) ?_
            refine lv_ishr X.1 X.2.1 dL_races_75 ?_
            refine lv_bipush (v := nI 60) X.1 X.2.1 dL_races_76 (by decide) ?_
            refine x_callSP X hK hw (As := [.int (w >>> ((nI 4) &&& 31)), .int (nI 60)]) (rest := [.int (nI 60), .int (nI (1 + (lowN (w >>> ((nI 2) &&& 31)) 2))), .int (nI (1 + (lowN w 2))), .ref (ad 0)]) (k_L_low (w >>> ((nI 4) &&& 31)) 60 (by omega) (by omega)) (x_cwS yL_low cL_low 2 (some .int) 2 X q1394 q1395 q0 q1396 hd_L_low ⟨(Nat.le_of_ble_eq_true rfl), (Nat.le_of_ble_eq_true rfl)⟩) rfl hl.1 rfl (Nat.le_of_ble_eq_true rfl) dL_races_78 ⟨(Nat.le_of_ble_eq_true rfl), (Nat.le_of_ble_eq_true rfl)⟩ (fun H locs hw => ?_)
            have hw253 := lowN_lt (v := w >>> ((nI 4) &&& 31)) (n := 60) (by omega)
            refine lv_iadd X.1 X.2.1 dL_races_81 ?_
            refine x_top (nI_add _ _) ?_
            refine x_callV X hK hw (k := 0) (As := [.int (nI (1 + (lowN w 2))), .int (nI (1 + (lowN (w >>> ((nI 2) &&& 31)) 2))), .int (nI (60 + (lowN (w >>> ((nI 4) &&& 31)) 60)))]) (rest := []) (w_prepare hI (by omega) hO107 hJ.1.1 (nI (1 + (lowN w 2))) (nI (1 + (lowN (w >>> ((nI 2) &&& 31)) 2))) (nI (60 + (lowN (w >>> ((nI 4) &&& 31)) 60))) (fun g t hE => a_prep_no hJ hopn (by omega) (by omega) (by omega) (by omega) (by omega) (by omega) hE)) (x_cwV yX7_prepare cX7_prepare 4 (some .int) 3 X q281 q282 q283 q1 q284 hd_X7_prepare ⟨(Nat.le_of_ble_eq_true rfl), (Nat.le_of_ble_eq_true rfl)⟩) (by omega) hO107.ma rfl rfl hl.1 rfl (Nat.le_of_ble_eq_true rfl) dL_races_82 ⟨(Nat.le_of_ble_eq_true rfl), (Nat.le_of_ble_eq_true rfl)⟩ (fun v254 F255 H locs hp hw => ?_)
            obtain ⟨e256, hO257, hf258⟩ := hp
            refine x_top e256 ?_
            replace hfr := hfr.tr hf258 (by omega) (by omega)
            refine lv_istore (lv' := [(8, .int ((-4))), (7, .int (nI (rA A r 2))), (6, .int (nI 1)), (5, .int (nI (A 0))), (4, .int (nI r)), (0, .ref (ad 0)), (1, .int (nI so)), (2, .int w), (3, .ref (ad 114))]) X.1 X.2.1 dL_races_85 hl (by decide) rfl (fun ls hl => ?_)
            refine lv_iload X.1 X.2.1 dL_races_87 (lv_at hl 2 rfl) ?_
            refine lv_if_eq (tgt := 107) X.1 X.2.1 dL_races_89 (by decide) (fun c259 => ?_) (fun c259 => ?_)
            · exact absurd c259 (by decide)
            · refine lv_iload X.1 X.2.1 dL_races_92 (lv_at hl 0 rfl) ?_
              refine lv_bipush (v := (-4)) X.1 X.2.1 dL_races_94 (by decide) ?_
              refine lv_icmp_ne (tgt := 103) X.1 X.2.1 dL_races_96 (by decide) (fun c260 => ?_) (fun c260 => ?_)
              · exact absurd (by decide) c260
              · refine lv_iconst (v := nI 1) X.1 X.2.1 dL_races_99 (by decide) ?_
                refine lv_goto (tgt := 174) X.1 X.2.1 dL_races_100 (by decide) ?_
                refine W.widen (k := 1) (n := 9) (by omega) (by omega) ?_
                exact x_iret X hr hlk hK hw (v := nI 1) rfl ⟨rfl, ACT.same hJ hO257, fun k hk => hfr k (Or.inr hk)⟩ dL_races_174
        · exact absurd ((bz_ge (by omega)).mpr (by omega)) c102
    · have hl1 : ¬ latN A = 1 := fun q => hopn ((lat_op hJ).mp q)
      refine lv_aload_n X.1 X.2.1 dL_races_0 rfl (lv_at hl 0 rfl) ?_
      refine lv_iconst (v := nI 1) X.1 X.2.1 dL_races_1 (by decide) ?_
      refine x_callV X hK hw (k := 0) (As := [.int (nI 1)]) (rest := []) (w_count hI (by omega) hO (nI 1) (fun g t z n hE => a_cou1 hJ (by omega) hk hE z n)) (x_cwV yX7_count cX7_count 2 (some .int) 1 X q818 q819 q820 q1 q821 hd_X7_count ⟨(Nat.le_of_ble_eq_true rfl), (Nat.le_of_ble_eq_true rfl)⟩) (by omega) hO.ma rfl rfl hl.1 rfl (Nat.le_of_ble_eq_true rfl) dL_races_2 ⟨(Nat.le_of_ble_eq_true rfl), (Nat.le_of_ble_eq_true rfl)⟩ (fun v261 F262 H locs hp hw => ?_)
      obtain ⟨e263, hO264, hf265⟩ := hp
      refine x_top e263 ?_
      replace hfr := hfr.tr hf265 (by omega) (by omega)
      refine lv_iconst (v := nI 1) X.1 X.2.1 dL_races_5 (by decide) ?_
      refine lv_isub X.1 X.2.1 dL_races_6 ?_
      refine x_top (show nI (A 2) - nI 1 = nI r by rw [pk_sub (by omega)]; exact congrArg nI (by omega)) ?_
      refine lv_istore (lv' := [(4, .int (nI r)), (0, .ref (ad 0)), (1, .int (nI so)), (2, .int w), (3, .ref (ad 114))]) X.1 X.2.1 dL_races_7 hl (by decide) rfl (fun ls hl => ?_)
      refine lv_aload_n X.1 X.2.1 dL_races_9 rfl (lv_at hl 1 rfl) ?_
      refine lv_iconst (v := nI 3) X.1 X.2.1 dL_races_10 (by decide) ?_
      refine x_callV X hK hw (k := 0) (As := [.int (nI 3)]) (rest := []) (w_count hI (by omega) hO264 (nI 3) (fun g t z n hE => a_cou3 hJ (by omega) hk hE z n)) (x_cwV yX7_count cX7_count 2 (some .int) 1 X q818 q819 q820 q1 q821 hd_X7_count ⟨(Nat.le_of_ble_eq_true rfl), (Nat.le_of_ble_eq_true rfl)⟩) (by omega) hO264.ma rfl rfl hl.1 rfl (Nat.le_of_ble_eq_true rfl) dL_races_11 ⟨(Nat.le_of_ble_eq_true rfl), (Nat.le_of_ble_eq_true rfl)⟩ (fun v266 F267 H locs hp hw => ?_)
      obtain ⟨e268, hO269, hf270⟩ := hp
      refine x_top e268 ?_
      replace hfr := hfr.tr hf270 (by omega) (by omega)
      refine lv_istore (lv' := [(5, .int (nI (A 0))), (4, .int (nI r)), (0, .ref (ad 0)), (1, .int (nI so)), (2, .int w), (3, .ref (ad 114))]) X.1 X.2.1 dL_races_14 hl (by decide) rfl (fun ls hl => ?_)
      refine lv_aload_n X.1 X.2.1 dL_races_16 rfl (lv_at hl 2 rfl) ?_
      refine lv_iconst (v := nI 4) X.1 X.2.1 dL_races_17 (by decide) ?_
      refine x_callV X hK hw (k := 0) (As := [.int (nI 4)]) (rest := []) (w_count hI (by omega) hO269 (nI 4) (fun g t z n hE => a_cou4 hJ (by omega) hk hE z n)) (x_cwV yX7_count cX7_count 2 (some .int) 1 X q818 q819 q820 q1 q821 hd_X7_count ⟨(Nat.le_of_ble_eq_true rfl), (Nat.le_of_ble_eq_true rfl)⟩) (by omega) hO269.ma rfl rfl hl.1 rfl (Nat.le_of_ble_eq_true rfl) dL_races_18 ⟨(Nat.le_of_ble_eq_true rfl), (Nat.le_of_ble_eq_true rfl)⟩ (fun v271 F272 H locs hp hw => ?_)
      obtain ⟨e273, hO274, hf275⟩ := hp
      refine x_top e273 ?_
      replace hfr := hfr.tr hf275 (by omega) (by omega)
      refine lv_iconst (v := nI 1) X.1 X.2.1 dL_races_21 (by decide) ?_
      refine lv_icmp_ne (tgt := 29) X.1 X.2.1 dL_races_22 (by decide) (fun c276 => ?_) (fun c276 => ?_)
      · have n277 : ¬ (latN A) = 1 := fun z => c276 ((nI_eq (by omega) (by omega)).mpr z)
        refine lv_iconst (v := nI 0) X.1 X.2.1 dL_races_29 (by decide) ?_
        refine lv_istore (lv' := [(6, .int (nI 0)), (5, .int (nI (A 0))), (4, .int (nI r)), (0, .ref (ad 0)), (1, .int (nI so)), (2, .int w), (3, .ref (ad 114))]) X.1 X.2.1 dL_races_30 hl (by decide) rfl (fun ls hl => ?_)
        refine lv_iload X.1 X.2.1 dL_races_32 (lv_at hl 2 rfl) ?_
        refine lv_if_ge (tgt := 41) X.1 X.2.1 dL_races_34 (by decide) (fun c278 => ?_) (fun c278 => ?_)
        · have n279 := (bz_ge (by omega)).mp c278
          refine lv_aload_n X.1 X.2.1 dL_races_41 rfl (lv_at hl 3 rfl) ?_
          refine lv_iload X.1 X.2.1 dL_races_42 (lv_at hl 2 rfl) ?_
          refine lv_iconst (v := nI 2) X.1 X.2.1 dL_races_44 (by decide) ?_
          refine x_callV X hK hw (k := 0) (As := [.int (nI r), .int (nI 2)]) (rest := []) (w_race hI (by omega) hJ.1.1 hO274 (nI r) (nI 2) (fun g t tm hE => a_rac2 hJ (by omega) hk hE (by omega) tm)) (x_cwV yX7_race cX7_race 3 (some .int) 2 X q804 q805 q806 q1 q807 hd_X7_race ⟨(Nat.le_of_ble_eq_true rfl), (Nat.le_of_ble_eq_true rfl)⟩) (by omega) hO274.ma rfl rfl hl.1 rfl (Nat.le_of_ble_eq_true rfl) dL_races_45 ⟨(Nat.le_of_ble_eq_true rfl), (Nat.le_of_ble_eq_true rfl)⟩ (fun v280 F281 H locs hp hw => ?_)
          obtain ⟨e282, hO283, hf284⟩ := hp
          refine x_top e282 ?_
          replace hfr := hfr.tr hf284 (by omega) (by omega)
          refine lv_istore (lv' := [(7, .int (nI (rA A r 2))), (6, .int (nI 0)), (5, .int (nI (A 0))), (4, .int (nI r)), (0, .ref (ad 0)), (1, .int (nI so)), (2, .int w), (3, .ref (ad 114))]) X.1 X.2.1 dL_races_48 hl (by decide) rfl (fun ls hl => ?_)
          refine lv_iload_n X.1 X.2.1 dL_races_50 rfl (lv_at hl 5 rfl) ?_
          refine lv_if_ne (tgt := 175) X.1 X.2.1 dL_races_51 (by decide) (fun c285 => ?_) (fun c285 => ?_)
          · have n286 : ¬ so = 0 := fun z => c285 ((bz_eq (by omega)).mpr z)
            refine lv_iload_n X.1 X.2.1 dL_races_175 rfl (lv_at hl 5 rfl) ?_
            refine lv_iconst (v := nI 1) X.1 X.2.1 dL_races_176 (by decide) ?_
            refine lv_icmp_ne (tgt := 227) X.1 X.2.1 dL_races_177 (by decide) (fun c287 => ?_) (fun c287 => ?_)
            · have n288 : ¬ so = 1 := fun z => c287 ((nI_eq (by omega) (by omega)).mpr z)
              refine lv_iload_n X.1 X.2.1 dL_races_227 rfl (lv_at hl 5 rfl) ?_
              refine lv_iconst (v := nI 2) X.1 X.2.1 dL_races_228 (by decide) ?_
              refine lv_icmp_ne (tgt := 398) X.1 X.2.1 dL_races_229 (by decide) (fun c289 => ?_) (fun c289 => ?_)
              · have n290 : ¬ so = 2 := fun z => c289 ((nI_eq (by omega) (by omega)).mpr z)
                refine lv_aload_n X.1 X.2.1 dL_races_398 rfl (lv_at hl 4 rfl) ?_
                refine x_callSn X hK hw (As := [.ref (ad 0)]) (rest := []) (k_L_closes hI hJ hc hk hO283) (x_cwSn yL_closes cL_closes 8 (some .boolean) 1 X q1410 q1411 q0 q1412 hd_L_closes ⟨(Nat.le_of_ble_eq_true rfl), (Nat.le_of_ble_eq_true rfl)⟩) rfl hl.1 rfl (Nat.le_of_ble_eq_true rfl) dL_races_399 ⟨(Nat.le_of_ble_eq_true rfl), (Nat.le_of_ble_eq_true rfl)⟩ (fun v291 F292 H locs hp hw => ?_)
                obtain ⟨hv, hA, hf⟩ := hp
                refine x_top hv ?_
                exact x_iret X hr hlk hK hw (v := nI 1) rfl ⟨rfl, hA, fun k hk => (hf k hk).trans (hfr k (Or.inr hk))⟩ dL_races_402
              · have n293 := (nI_eq (by omega) (by omega)).mp c289
                refine lv_iload X.1 X.2.1 dL_races_232 (lv_at hl 1 rfl) ?_
                refine lv_if_eq (tgt := 258) X.1 X.2.1 dL_races_234 (by decide) (fun c294 => ?_) (fun c294 => ?_)
                · refine lv_iconst (v := nI 0) X.1 X.2.1 dL_races_258 (by decide) ?_
                  refine lv_istore (lv' := [(8, .int (nI 0)), (7, .int (nI (rA A r 2))), (6, .int (nI 0)), (5, .int (nI (A 0))), (4, .int (nI r)), (0, .ref (ad 0)), (1, .int (nI so)), (2, .int w), (3, .ref (ad 114))]) X.1 X.2.1 dL_races_259 hl (by decide) rfl (fun ls hl => ?_)
                  refine lv_aload_n X.1 X.2.1 dL_races_261 rfl (lv_at hl 5 rfl) ?_
                  refine x_callV X hK hw (k := 0) (As := []) (rest := []) (w_recall hI (by omega) hO283 hJ.1.1 (fun g t hE => a_rec_no hJ (by omega) hk (fun q => absurd q hopn) hE)) (x_cwV yX7_recall cX7_recall 1 (some .int) 0 X q336 q337 q338 q1 q339 hd_X7_recall ⟨(Nat.le_of_ble_eq_true rfl), (Nat.le_of_ble_eq_true rfl)⟩) (by omega) hO283.ma rfl rfl hl.1 rfl (Nat.le_of_ble_eq_true rfl) dL_races_262 ⟨(Nat.le_of_ble_eq_true rfl), (Nat.le_of_ble_eq_true rfl)⟩ (fun v295 F296 H locs hp hw => ?_)
                  obtain ⟨e297, hO298, hf299⟩ := hp
                  refine x_top e297 ?_
                  replace hfr := hfr.tr hf299 (by omega) (by omega)
                  refine lv_istore (lv' := [(9, .int ((-4))), (8, .int (nI 0)), (7, .int (nI (rA A r 2))), (6, .int (nI 0)), (5, .int (nI (A 0))), (4, .int (nI r)), (0, .ref (ad 0)), (1, .int (nI so)), (2, .int w), (3, .ref (ad 114))]) X.1 X.2.1 dL_races_265 hl (by decide) rfl (fun ls hl => ?_)
                  refine lv_iconst (v := nI 0) X.1 X.2.1 dL_races_267 (by decide) ?_
                  refine lv_istore (lv' := [(10, .int (nI 0)), (9, .int ((-4))), (8, .int (nI 0)), (7, .int (nI (rA A r 2))), (6, .int (nI 0)), (5, .int (nI (A 0))), (4, .int (nI r)), (0, .ref (ad 0)), (1, .int (nI so)), (2, .int w), (3, .ref (ad 114))]) X.1 X.2.1 dL_races_268 hl (by decide) rfl (fun ls hl => ?_)
                  refine lv_iload X.1 X.2.1 dL_races_270 (lv_at hl 0 rfl) ?_
                  refine lv_aload_n X.1 X.2.1 dL_races_272 rfl (lv_at hl 7 rfl) ?_
                  refine lv_iconst (v := nI 0) X.1 X.2.1 dL_races_273 (by decide) ?_
                  refine x_callV X hK hw (k := 0) (As := [.int (nI 0)]) (rest := [.int (nI 0)]) (w_count hI (by omega) hO298 (nI 0) (fun g t z n hE => a_cou0 hJ (by omega) hk hE z n)) (x_cwV yX7_count cX7_count 2 (some .int) 1 X q818 q819 q820 q1 q821 hd_X7_count ⟨(Nat.le_of_ble_eq_true rfl), (Nat.le_of_ble_eq_true rfl)⟩) (by omega) hO298.ma rfl rfl hl.1 rfl (Nat.le_of_ble_eq_true rfl) dL_races_274 ⟨(Nat.le_of_ble_eq_true rfl), (Nat.le_of_ble_eq_true rfl)⟩ (fun v300 F301 H locs hp hw => ?_)
                  obtain ⟨e302, hO303, hf304⟩ := hp
                  refine x_top e302 ?_
                  replace hfr := hfr.tr hf304 (by omega) (by omega)
                  refine lv_icmp_ge (tgt := 353) X.1 X.2.1 dL_races_277 (by decide) (fun c305 => ?_) (fun c305 => ?_)
                  · have n306 := (nI_leI (by omega) (by omega)).mp c305
                    refine lv_iload X.1 X.2.1 dL_races_353 (lv_at hl 2 rfl) ?_
                    refine lv_if_eq (tgt := 385) X.1 X.2.1 dL_races_355 (by decide) (fun c307 => ?_) (fun c307 => ?_)
                    · refine lv_iload X.1 X.2.1 dL_races_385 (lv_at hl 1 rfl) ?_
                      refine lv_bipush (v := (-4)) X.1 X.2.1 dL_races_387 (by decide) ?_
                      refine lv_icmp_ne (tgt := 396) X.1 X.2.1 dL_races_389 (by decide) (fun c308 => ?_) (fun c308 => ?_)
                      · exact absurd (by decide) c308
                      · refine lv_iconst (v := nI 1) X.1 X.2.1 dL_races_392 (by decide) ?_
                        refine lv_goto (tgt := 397) X.1 X.2.1 dL_races_393 (by decide) ?_
                        refine W.widen (k := 1) (n := 9) (by omega) (by omega) ?_
                        exact x_iret X hr hlk hK hw (v := nI 1) rfl ⟨rfl, ACT.same hJ hO303, fun k hk => hfr k (Or.inr hk)⟩ dL_races_397
                    · exact absurd (by decide) c307
                  · have n309 : ¬ (A 1) ≤ 0 := fun z => c305 ((nI_leI (by omega) (by omega)).mpr z)
                    refine lv_iload X.1 X.2.1 dL_races_280 (lv_at hl 2 rfl) ?_
                    refine lv_if_eq (tgt := 353) X.1 X.2.1 dL_races_282 (by decide) (fun c310 => ?_) (fun c310 => ?_)
                    · refine lv_iload X.1 X.2.1 dL_races_353 (lv_at hl 2 rfl) ?_
                      refine lv_if_eq (tgt := 385) X.1 X.2.1 dL_races_355 (by decide) (fun c311 => ?_) (fun c311 => ?_)
                      · refine lv_iload X.1 X.2.1 dL_races_385 (lv_at hl 1 rfl) ?_
                        refine lv_bipush (v := (-4)) X.1 X.2.1 dL_races_387 (by decide) ?_
                        refine lv_icmp_ne (tgt := 396) X.1 X.2.1 dL_races_389 (by decide) (fun c312 => ?_) (fun c312 => ?_)
                        · exact absurd (by decide) c312
                        · refine lv_iconst (v := nI 1) X.1 X.2.1 dL_races_392 (by decide) ?_
                          refine lv_goto (tgt := 397) X.1 X.2.1 dL_races_393 (by decide) ?_
                          refine W.widen (k := 1) (n := 9) (by omega) (by omega) ?_
                          exact x_iret X hr hlk hK hw (v := nI 1) rfl ⟨rfl, ACT.same hJ hO303, fun k hk => hfr k (Or.inr hk)⟩ dL_races_397
                      · exact absurd (by decide) c311
                    · exact absurd (by decide) c310
                · exact absurd (by decide) c294
            · have n313 := (nI_eq (by omega) (by omega)).mp c287
              refine lv_iconst (v := nI 1) X.1 X.2.1 dL_races_180 (by decide) ?_
              refine lv_iload_n X.1 X.2.1 dL_races_181 rfl (lv_at hl 6 rfl) ?_
              refine lv_bipush (v := nI 40) X.1 X.2.1 dL_races_182 (by decide) ?_
              refine x_callSP X hK hw (As := [.int w, .int (nI 40)]) (rest := [.int (nI 1)]) (k_L_low w 40 (by omega) (by omega)) (x_cwS yL_low cL_low 2 (some .int) 2 X q1394 q1395 q0 q1396 hd_L_low ⟨(Nat.le_of_ble_eq_true rfl), (Nat.le_of_ble_eq_true rfl)⟩) rfl hl.1 rfl (Nat.le_of_ble_eq_true rfl) dL_races_184 ⟨(Nat.le_of_ble_eq_true rfl), (Nat.le_of_ble_eq_true rfl)⟩ (fun H locs hw => ?_)
              have hw314 := lowN_lt (v := w) (n := 40) (by omega)
              refine lv_iadd X.1 X.2.1 dL_races_187 ?_
              refine x_top (nI_add _ _) ?_
              refine lv_istore (lv' := [(8, .int (nI (1 + (lowN w 40)))), (7, .int (nI (rA A r 2))), (6, .int (nI 0)), (5, .int (nI (A 0))), (4, .int (nI r)), (0, .ref (ad 0)), (1, .int (nI so)), (2, .int w), (3, .ref (ad 114))]) X.1 X.2.1 dL_races_188 hl (by decide) rfl (fun ls hl => ?_)
              refine lv_aload_n X.1 X.2.1 dL_races_190 rfl (lv_at hl 5 rfl) ?_
              refine lv_iload X.1 X.2.1 dL_races_191 (lv_at hl 0 rfl) ?_
              refine x_callV X hK hw (k := 0) (As := [.int (nI (1 + (lowN w 40)))]) (rest := []) (w_postpone hI (by omega) hO283 (nI (1 + (lowN w 40))) (fun g t hE => a_post_no hJ hk (by omega) (by omega) (fun q => absurd q hopn) hE)) (x_cwV yX7_postpone cX7_postpone 2 (some .int) 1 X q310 q311 q312 q1 q313 hd_X7_postpone ⟨(Nat.le_of_ble_eq_true rfl), (Nat.le_of_ble_eq_true rfl)⟩) (by omega) hO283.ma rfl rfl hl.1 rfl (Nat.le_of_ble_eq_true rfl) dL_races_193 ⟨(Nat.le_of_ble_eq_true rfl), (Nat.le_of_ble_eq_true rfl)⟩ (fun v315 F316 H locs hp hw => ?_)
              obtain ⟨e317, hO318, hf319⟩ := hp
              refine x_top e317 ?_
              replace hfr := hfr.tr hf319 (by omega) (by omega)
              refine lv_iload X.1 X.2.1 dL_races_196 (lv_at hl 2 rfl) ?_
              refine lv_if_eq (tgt := 216) X.1 X.2.1 dL_races_198 (by decide) (fun c320 => ?_) (fun c320 => ?_)
              · refine lv_bipush (v := (-4)) X.1 X.2.1 dL_races_216 (by decide) ?_
                refine lv_icmp_ne (tgt := 225) X.1 X.2.1 dL_races_218 (by decide) (fun c321 => ?_) (fun c321 => ?_)
                · exact absurd (by decide) c321
                · refine lv_iconst (v := nI 1) X.1 X.2.1 dL_races_221 (by decide) ?_
                  refine lv_goto (tgt := 226) X.1 X.2.1 dL_races_222 (by decide) ?_
                  refine W.widen (k := 1) (n := 9) (by omega) (by omega) ?_
                  exact x_iret X hr hlk hK hw (v := nI 1) rfl ⟨rfl, ACT.same hJ hO318, fun k hk => hfr k (Or.inr hk)⟩ dL_races_226
              · exact absurd (by decide) c320
          · have n322 := (bz_eq (by omega)).mp c285
            by_cases hfull : A 2 = 6
            · refine lv_aload_n X.1 X.2.1 dL_races_54 rfl (lv_at hl 4 rfl) ?_
              refine lv_iconst (v := nI 1) X.1 X.2.1 dL_races_55 (by decide) ?_
              refine lv_iload_n X.1 X.2.1 dL_races_56 rfl (lv_at hl 6 rfl) ?_
              refine lv_iconst (v := nI 2) X.1 X.2.1 dL_races_57 (by decide) ?_
              refine x_callSP X hK hw (As := [.int w, .int (nI 2)]) (rest := [.int (nI 1), .ref (ad 0)]) (k_L_low w 2 (by omega) (by omega)) (x_cwS yL_low cL_low 2 (some .int) 2 X q1394 q1395 q0 q1396 hd_L_low ⟨(Nat.le_of_ble_eq_true rfl), (Nat.le_of_ble_eq_true rfl)⟩) rfl hl.1 rfl (Nat.le_of_ble_eq_true rfl) dL_races_58 ⟨(Nat.le_of_ble_eq_true rfl), (Nat.le_of_ble_eq_true rfl)⟩ (fun H locs hw => ?_)
              have hw323 := lowN_lt (v := w) (n := 2) (by omega)
              refine lv_iadd X.1 X.2.1 dL_races_61 ?_
              refine x_top (nI_add _ _) ?_
              refine lv_iconst (v := nI 1) X.1 X.2.1 dL_races_62 (by decide) ?_
              refine lv_iload_n X.1 X.2.1 dL_races_63 rfl (lv_at hl 6 rfl) ?_
              refine lv_iconst (v := nI 2) X.1 X.2.1 dL_races_64 (by decide) ?_
              refine lv_ishr X.1 X.2.1 dL_races_65 ?_
              refine lv_iconst (v := nI 2) X.1 X.2.1 dL_races_66 (by decide) ?_
              refine x_callSP X hK hw (As := [.int (w >>> ((nI 2) &&& 31)), .int (nI 2)]) (rest := [.int (nI 1), .int (nI (1 + (lowN w 2))), .ref (ad 0)]) (k_L_low (w >>> ((nI 2) &&& 31)) 2 (by omega) (by omega)) (x_cwS yL_low cL_low 2 (some .int) 2 X q1394 q1395 q0 q1396 hd_L_low ⟨(Nat.le_of_ble_eq_true rfl), (Nat.le_of_ble_eq_true rfl)⟩) rfl hl.1 rfl (Nat.le_of_ble_eq_true rfl) dL_races_67 ⟨(Nat.le_of_ble_eq_true rfl), (Nat.le_of_ble_eq_true rfl)⟩ (fun H locs hw => ?_)
              have hw324 := lowN_lt (v := w >>> ((nI 2) &&& 31)) (n := 2) (by omega)
              refine lv_iadd X.1 X.2.1 dL_races_70 ?_
              refine x_top (nI_add _ _) ?_
              refine lv_bipush (v := nI 60) X.1 X.2.1 dL_races_71 (by decide) ?_
              refine lv_iload_n X.1 X.2.1 dL_races_73 rfl (lv_at hl 6 rfl) ?_
              refine lv_iconst (v := nI 4) X.1 X.2.1 dL_races_74 (by decide) ?_
              refine lv_ishr X.1 X.2.1 dL_races_75 ?_
              refine lv_bipush (v := nI 60) X.1 X.2.1 dL_races_76 (by decide) ?_
              refine x_callSP X hK hw (As := [.int (w >>> ((nI 4) &&& 31)), .int (nI 60)]) (rest := [.int (nI 60), .int (nI (1 + (lowN (w >>> ((nI 2) &&& 31)) 2))), .int (nI (1 + (lowN w 2))), .ref (ad 0)]) (k_L_low (w >>> ((nI 4) &&& 31)) 60 (by omega) (by omega)) (x_cwS yL_low cL_low 2 (some .int) 2 X q1394 q1395 q0 q1396 hd_L_low ⟨(Nat.le_of_ble_eq_true rfl), (Nat.le_of_ble_eq_true rfl)⟩) rfl hl.1 rfl (Nat.le_of_ble_eq_true rfl) dL_races_78 ⟨(Nat.le_of_ble_eq_true rfl), (Nat.le_of_ble_eq_true rfl)⟩ (fun H locs hw => ?_)
              have hw325 := lowN_lt (v := w >>> ((nI 4) &&& 31)) (n := 60) (by omega)
              refine lv_iadd X.1 X.2.1 dL_races_81 ?_
              refine x_top (nI_add _ _) ?_
              refine x_callV X hK hw (k := 0) (As := [.int (nI (1 + (lowN w 2))), .int (nI (1 + (lowN (w >>> ((nI 2) &&& 31)) 2))), .int (nI (60 + (lowN (w >>> ((nI 4) &&& 31)) 60)))]) (rest := []) (w_prepare hI (by omega) hO283 hJ.1.1 (nI (1 + (lowN w 2))) (nI (1 + (lowN (w >>> ((nI 2) &&& 31)) 2))) (nI (60 + (lowN (w >>> ((nI 4) &&& 31)) 60))) (fun g t hE => a_prep_full hJ hopn hfull (by omega) (by omega) (by omega) (by omega) (by omega) (by omega) hE)) (x_cwV yX7_prepare cX7_prepare 4 (some .int) 3 X q281 q282 q283 q1 q284 hd_X7_prepare ⟨(Nat.le_of_ble_eq_true rfl), (Nat.le_of_ble_eq_true rfl)⟩) (by omega) hO283.ma rfl rfl hl.1 rfl (Nat.le_of_ble_eq_true rfl) dL_races_82 ⟨(Nat.le_of_ble_eq_true rfl), (Nat.le_of_ble_eq_true rfl)⟩ (fun v326 F327 H locs hp hw => ?_)
              obtain ⟨e328, hO329, hf330⟩ := hp
              refine x_top e328 ?_
              replace hfr := hfr.tr hf330 (by omega) (by omega)
              refine lv_istore (lv' := [(8, .int ((-3))), (7, .int (nI (rA A r 2))), (6, .int (nI 0)), (5, .int (nI (A 0))), (4, .int (nI r)), (0, .ref (ad 0)), (1, .int (nI so)), (2, .int w), (3, .ref (ad 114))]) X.1 X.2.1 dL_races_85 hl (by decide) rfl (fun ls hl => ?_)
              refine lv_iload X.1 X.2.1 dL_races_87 (lv_at hl 2 rfl) ?_
              refine lv_if_eq (tgt := 107) X.1 X.2.1 dL_races_89 (by decide) (fun c331 => ?_) (fun c331 => ?_)
              · refine lv_iload X.1 X.2.1 dL_races_107 (lv_at hl 4 rfl) ?_
                refine lv_iconst (v := nI 5) X.1 X.2.1 dL_races_109 (by decide) ?_
                refine lv_icmp_ne (tgt := 128) X.1 X.2.1 dL_races_110 (by decide) (fun c332 => ?_) (fun c332 => ?_)
                · exact absurd ((nI_eq (by omega) (by omega)).mpr (by omega)) c332
                · have n333 := (nI_eq (by omega) (by omega)).mp c332
                  refine lv_iload X.1 X.2.1 dL_races_113 (lv_at hl 0 rfl) ?_
                  refine lv_bipush (v := (-3)) X.1 X.2.1 dL_races_115 (by decide) ?_
                  refine lv_icmp_ne (tgt := 124) X.1 X.2.1 dL_races_117 (by decide) (fun c334 => ?_) (fun c334 => ?_)
                  · exact absurd (by decide) c334
                  · refine lv_iconst (v := nI 1) X.1 X.2.1 dL_races_120 (by decide) ?_
                    refine lv_goto (tgt := 174) X.1 X.2.1 dL_races_121 (by decide) ?_
                    refine W.widen (k := 1) (n := 9) (by omega) (by omega) ?_
                    exact x_iret X hr hlk hK hw (v := nI 1) rfl ⟨rfl, ACT.same hJ hO329, fun k hk => hfr k (Or.inr hk)⟩ dL_races_174
              · exact absurd (by decide) c331
            · refine lv_aload_n X.1 X.2.1 dL_races_54 rfl (lv_at hl 4 rfl) ?_
              refine lv_iconst (v := nI 1) X.1 X.2.1 dL_races_55 (by decide) ?_
              refine lv_iload_n X.1 X.2.1 dL_races_56 rfl (lv_at hl 6 rfl) ?_
              refine lv_iconst (v := nI 2) X.1 X.2.1 dL_races_57 (by decide) ?_
              refine x_callSP X hK hw (As := [.int w, .int (nI 2)]) (rest := [.int (nI 1), .ref (ad 0)]) (k_L_low w 2 (by omega) (by omega)) (x_cwS yL_low cL_low 2 (some .int) 2 X q1394 q1395 q0 q1396 hd_L_low ⟨(Nat.le_of_ble_eq_true rfl), (Nat.le_of_ble_eq_true rfl)⟩) rfl hl.1 rfl (Nat.le_of_ble_eq_true rfl) dL_races_58 ⟨(Nat.le_of_ble_eq_true rfl), (Nat.le_of_ble_eq_true rfl)⟩ (fun H locs hw => ?_)
              have hw335 := lowN_lt (v := w) (n := 2) (by omega)
              refine lv_iadd X.1 X.2.1 dL_races_61 ?_
              refine x_top (nI_add _ _) ?_
              refine lv_iconst (v := nI 1) X.1 X.2.1 dL_races_62 (by decide) ?_
              refine lv_iload_n X.1 X.2.1 dL_races_63 rfl (lv_at hl 6 rfl) ?_
              refine lv_iconst (v := nI 2) X.1 X.2.1 dL_races_64 (by decide) ?_
              refine lv_ishr X.1 X.2.1 dL_races_65 ?_
              refine lv_iconst (v := nI 2) X.1 X.2.1 dL_races_66 (by decide) ?_
              refine x_callSP X hK hw (As := [.int (w >>> ((nI 2) &&& 31)), .int (nI 2)]) (rest := [.int (nI 1), .int (nI (1 + (lowN w 2))), .ref (ad 0)]) (k_L_low (w >>> ((nI 2) &&& 31)) 2 (by omega) (by omega)) (x_cwS yL_low cL_low 2 (some .int) 2 X q1394 q1395 q0 q1396 hd_L_low ⟨(Nat.le_of_ble_eq_true rfl), (Nat.le_of_ble_eq_true rfl)⟩) rfl hl.1 rfl (Nat.le_of_ble_eq_true rfl) dL_races_67 ⟨(Nat.le_of_ble_eq_true rfl), (Nat.le_of_ble_eq_true rfl)⟩ (fun H locs hw => ?_)
              have hw336 := lowN_lt (v := w >>> ((nI 2) &&& 31)) (n := 2) (by omega)
              refine lv_iadd X.1 X.2.1 dL_races_70 ?_
              refine x_top (nI_add _ _) ?_
              refine lv_bipush (v := nI 60) X.1 X.2.1 dL_races_71 (by decide) ?_
              refine lv_iload_n X.1 X.2.1 dL_races_73 rfl (lv_at hl 6 rfl) ?_
              refine lv_iconst (v := nI 4) X.1 X.2.1 dL_races_74 (by decide) ?_
              refine lv_ishr X.1 X.2.1 dL_races_75 ?_
              refine lv_bipush (v := nI 60) X.1 X.2.1 dL_races_76 (by decide) ?_
              refine x_callSP X hK hw (As := [.int (w >>> ((nI 4) &&& 31)), .int (nI 60)]) (rest := [.int (nI 60), .int (nI (1 + (lowN (w >>> ((nI 2) &&& 31)) 2))), .int (nI (1 + (lowN w 2))), .ref (ad 0)]) (k_L_low (w >>> ((nI 4) &&& 31)) 60 (by omega) (by omega)) (x_cwS yL_low cL_low 2 (some .int) 2 X q1394 q1395 q0 q1396 hd_L_low ⟨(Nat.le_of_ble_eq_true rfl), (Nat.le_of_ble_eq_true rfl)⟩) rfl hl.1 rfl (Nat.le_of_ble_eq_true rfl) dL_races_78 ⟨(Nat.le_of_ble_eq_true rfl), (Nat.le_of_ble_eq_true rfl)⟩ (fun H locs hw => ?_)
              have hw337 := lowN_lt (v := w >>> ((nI 4) &&& 31)) (n := 60) (by omega)
              refine lv_iadd X.1 X.2.1 dL_races_81 ?_
              refine x_top (nI_add _ _) ?_
              refine x_callV X hK hw (k := 0) (As := [.int (nI (1 + (lowN w 2))), .int (nI (1 + (lowN (w >>> ((nI 2) &&& 31)) 2))), .int (nI (60 + (lowN (w >>> ((nI 4) &&& 31)) 60)))]) (rest := []) (w_prepare hI (by omega) hO283 hJ.1.1 (nI (1 + (lowN w 2))) (nI (1 + (lowN (w >>> ((nI 2) &&& 31)) 2))) (nI (60 + (lowN (w >>> ((nI 4) &&& 31)) 60))) (fun g t hE => a_prep_ok hJ hk hopn (by omega) hnb (by omega) (by omega) (by omega) (by omega) (by omega) (by omega) hE)) (x_cwV yX7_prepare cX7_prepare 4 (some .int) 3 X q281 q282 q283 q1 q284 hd_X7_prepare ⟨(Nat.le_of_ble_eq_true rfl), (Nat.le_of_ble_eq_true rfl)⟩) (by omega) hO283.ma rfl rfl hl.1 rfl (Nat.le_of_ble_eq_true rfl) dL_races_82 ⟨(Nat.le_of_ble_eq_true rfl), (Nat.le_of_ble_eq_true rfl)⟩ (fun v338 F339 H locs hp hw => ?_)
              obtain ⟨e340, hO341, hf342⟩ := hp
              refine x_top e340 ?_
              replace hfr := hfr.tr hf342 (by omega) (by omega)
              obtain ⟨B343, hB343⟩ : ∃ y, y = prA A (1 + (lowN w 2)) (1 + (lowN (w >>> ((nI 2) &&& 31)) 2)) (60 + (lowN (w >>> ((nI 4) &&& 31)) 60)) := ⟨_, rfl⟩
              rw [← hB343] at hO341
              have jB343 : HJ (ca + 1) B343 := by rw [hB343]; exact j_prep hJ hopn (by omega) hnb (by omega) (by omega) (by omega) (by omega) (by omega)
              have b0B343 : B343 0 = A 0 := by rw [hB343]; exact (clrA_lo (by omega) (by omega)).trans ((nup_ne (by omega)).trans ((nup_ne (by omega)).trans ((nup_ne (by omega)).trans ((nup_ne (by omega)).trans (nup_ne (by omega))))))
              have b1B343 : B343 1 = A 1 := by rw [hB343]; exact (clrA_lo (by omega) (by omega)).trans ((nup_ne (by omega)).trans ((nup_ne (by omega)).trans ((nup_ne (by omega)).trans ((nup_ne (by omega)).trans (nup_ne (by omega))))))
              have b2B343 : B343 2 = A 2 + 1 := by rw [hB343]; exact (clrA_lo (by omega) (by omega)).trans ((nup_ne (by omega)).trans nup_at)
              have b3B343 : B343 3 = 0 := by rw [hB343]; exact clrA_3
              have sB343 : rA B343 (A 2) 2 = A 0 + (60 + (lowN (w >>> ((nI 4) &&& 31)) 60)) := by rw [hB343]; exact (clrA_lo (by omega) (by omega)).trans nup_at
              refine lv_istore (lv' := [(8, .int (nI (A 2))), (7, .int (nI (rA A r 2))), (6, .int (nI 0)), (5, .int (nI (A 0))), (4, .int (nI r)), (0, .ref (ad 0)), (1, .int (nI so)), (2, .int w), (3, .ref (ad 114))]) X.1 X.2.1 dL_races_85 hl (by decide) rfl (fun ls hl => ?_)
              refine lv_iload X.1 X.2.1 dL_races_87 (lv_at hl 2 rfl) ?_
              refine lv_if_eq (tgt := 107) X.1 X.2.1 dL_races_89 (by decide) (fun c344 => ?_) (fun c344 => ?_)
              · refine lv_iload X.1 X.2.1 dL_races_107 (lv_at hl 4 rfl) ?_
                refine lv_iconst (v := nI 5) X.1 X.2.1 dL_races_109 (by decide) ?_
                refine lv_icmp_ne (tgt := 128) X.1 X.2.1 dL_races_110 (by decide) (fun c345 => ?_) (fun c345 => ?_)
                · have n346 : ¬ r = 5 := fun z => c345 ((nI_eq (by omega) (by omega)).mpr z)
                  refine lv_iload X.1 X.2.1 dL_races_128 (lv_at hl 0 rfl) ?_
                  refine lv_iload X.1 X.2.1 dL_races_130 (lv_at hl 4 rfl) ?_
                  refine lv_iconst (v := nI 1) X.1 X.2.1 dL_races_132 (by decide) ?_
                  refine lv_iadd X.1 X.2.1 dL_races_133 ?_
                  refine x_top (nI_add _ _) ?_
                  refine lv_icmp_ne (tgt := 173) X.1 X.2.1 dL_races_134 (by decide) (fun c347 => ?_) (fun c347 => ?_)
                  · exact absurd ((nI_eq (by omega) (by omega)).mpr (by omega)) c347
                  · have n348 := (nI_eq (by omega) (by omega)).mp c347
                    refine lv_aload_n X.1 X.2.1 dL_races_137 rfl (lv_at hl 5 rfl) ?_
                    refine lv_iload X.1 X.2.1 dL_races_138 (lv_at hl 0 rfl) ?_
                    refine lv_iconst (v := nI 2) X.1 X.2.1 dL_races_140 (by decide) ?_
                    refine x_callV X hK hw (k := 0) (As := [.int (nI (A 2)), .int (nI 2)]) (rest := []) (w_race hI (by omega) jB343.1.1 hO341 (nI (A 2)) (nI 2) (fun g t tm hE => a_rac2 jB343 (by omega) (by omega) hE (by omega) tm)) (x_cwV yX7_race cX7_race 3 (some .int) 2 X q804 q805 q806 q1 q807 hd_X7_race ⟨(Nat.le_of_ble_eq_true rfl), (Nat.le_of_ble_eq_true rfl)⟩) (by omega) hO341.ma rfl rfl hl.1 rfl (Nat.le_of_ble_eq_true rfl) dL_races_141 ⟨(Nat.le_of_ble_eq_true rfl), (Nat.le_of_ble_eq_true rfl)⟩ (fun v349 F350 H locs hp hw => ?_)
                    obtain ⟨e351, hO352, hf353⟩ := hp
                    refine x_top e351 ?_
                    replace hfr := hfr.tr hf353 (by omega) (by omega)
                    refine lv_iload X.1 X.2.1 dL_races_144 (lv_at hl 3 rfl) ?_
                    refine lv_bipush (v := nI 60) X.1 X.2.1 dL_races_146 (by decide) ?_
                    refine lv_iadd X.1 X.2.1 dL_races_148 ?_
                    refine x_top (nI_add _ _) ?_
                    refine lv_iload_n X.1 X.2.1 dL_races_149 rfl (lv_at hl 7 rfl) ?_
                    refine lv_iconst (v := nI 4) X.1 X.2.1 dL_races_150 (by decide) ?_
                    refine lv_ishr X.1 X.2.1 dL_races_151 ?_
                    refine lv_bipush (v := nI 60) X.1 X.2.1 dL_races_152 (by decide) ?_
                    refine x_callSP X hK hw (As := [.int (w >>> ((nI 4) &&& 31)), .int (nI 60)]) (rest := [.int (nI ((A 0) + 60)), .int (nI (rA B343 (A 2) 2))]) (k_L_low (w >>> ((nI 4) &&& 31)) 60 (by omega) (by omega)) (x_cwS yL_low cL_low 2 (some .int) 2 X q1394 q1395 q0 q1396 hd_L_low ⟨(Nat.le_of_ble_eq_true rfl), (Nat.le_of_ble_eq_true rfl)⟩) rfl hl.1 rfl (Nat.le_of_ble_eq_true rfl) dL_races_154 ⟨(Nat.le_of_ble_eq_true rfl), (Nat.le_of_ble_eq_true rfl)⟩ (fun H locs hw => ?_)
                    have hw354 := lowN_lt (v := w >>> ((nI 4) &&& 31)) (n := 60) (by omega)
                    refine lv_iadd X.1 X.2.1 dL_races_157 ?_
                    refine x_top (nI_add _ _) ?_
                    refine lv_icmp_ne (tgt := 173) X.1 X.2.1 dL_races_158 (by decide) (fun c355 => ?_) (fun c355 => ?_)
                    · exact absurd ((nI_eq (by omega) (by omega)).mpr (by omega)) c355
                    · have n356 := (nI_eq (by omega) (by omega)).mp c355
                      refine lv_aload_n X.1 X.2.1 dL_races_161 rfl (lv_at hl 5 rfl) ?_
                      refine lv_iconst (v := nI 5) X.1 X.2.1 dL_races_162 (by decide) ?_
                      refine x_callV X hK hw (k := 0) (As := [.int (nI 5)]) (rest := []) (w_count hI (by omega) hO352 (nI 5) (fun g t z n hE => a_cou5 jB343 (by omega) (by omega) hE z n)) (x_cwV yX7_count cX7_count 2 (some .int) 1 X q818 q819 q820 q1 q821 hd_X7_count ⟨(Nat.le_of_ble_eq_true rfl), (Nat.le_of_ble_eq_true rfl)⟩) (by omega) hO352.ma rfl rfl hl.1 rfl (Nat.le_of_ble_eq_true rfl) dL_races_163 ⟨(Nat.le_of_ble_eq_true rfl), (Nat.le_of_ble_eq_true rfl)⟩ (fun v357 F358 H locs hp hw => ?_)
                      obtain ⟨e359, hO360, hf361⟩ := hp
                      refine x_top e359 ?_
                      replace hfr := hfr.tr hf361 (by omega) (by omega)
                      refine lv_if_ne (tgt := 173) X.1 X.2.1 dL_races_166 (by decide) (fun c362 => ?_) (fun c362 => ?_)
                      · exact absurd ((bz_eq (by omega)).mpr (by omega)) c362
                      · have n363 := (bz_eq (by omega)).mp c362
                        refine lv_iconst (v := nI 1) X.1 X.2.1 dL_races_169 (by decide) ?_
                        refine lv_goto (tgt := 174) X.1 X.2.1 dL_races_170 (by decide) ?_
                        refine W.widen (k := 1) (n := 9) (by omega) (by omega) ?_
                        exact x_iret X hr hlk hK hw (v := nI 1) rfl ⟨rfl, ACT.mk2 jB343 (by omega) (by omega) (Or.inl (by omega)) hO360, fun k hk => hfr k (Or.inr hk)⟩ dL_races_174
                · exact absurd ((nI_eq (by omega) (by omega)).mp c345) (by omega)
              · exact absurd (by decide) c344
        · exact absurd ((bz_ge (by omega)).mpr (by omega)) c278
      · exact absurd ((nI_eq (by omega) (by omega)).mp c276) (by omega)
