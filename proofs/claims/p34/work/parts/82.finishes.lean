/-! the law's method 'finishes' -/
theorem co_b2 {c : Nat} {A : Nat → Nat} (hJ : HJ c A) {r b : Nat} (hr : r < A 2) (hb : b < A 1) : coN A r b ≤ 2 * (A 0 + 300 * c) := by
  obtain ⟨b1, b2, b3, b4, b5, b6, b7, b8, b9, b10⟩ := hJ.bj hr hb
  have h2 := hJ.rt hb
  have h1 : elN A r b ≤ A 0 + 300 * c := by unfold elN; omega
  unfold coN
  exact Nat.le_trans (Nat.div_le_div_left h2.1 (by omega)) (by omega)
theorem al_b {c : Nat} {A : Nat → Nat} (hJ : HJ c A) {r : Nat} (hr : r < A 2) : 0 < rA A r 0 ∧ rA A r 0 ≤ 5 ∧ 0 < rA A r 0 * rA A r 1 ∧ rA A r 0 * rA A r 1 ≤ 15 := by
  obtain ⟨r1, r2, r3, r4, -⟩ := hJ.2.1 r hr
  exact ⟨r1, r2, Nat.mul_pos r1 r3, Nat.mul_le_mul r2 r4⟩
theorem hd_X7_buoy : yX7_buoy.cls = RX7 ∧ yX7_buoy.cls ≠ "java/lang/invoke/MethodHandle" ∧ yX7_buoy.cls ≠ "java/lang/invoke/VarHandle" ∧ (parseMethodDescriptor yX7_buoy.desc).map (fun d => d.parameters.length) = some 2 := by decide +kernel
theorem hd_X7_line : yX7_line.cls = RX7 ∧ yX7_line.cls ≠ "java/lang/invoke/MethodHandle" ∧ yX7_line.cls ≠ "java/lang/invoke/VarHandle" ∧ (parseMethodDescriptor yX7_line.desc).map (fun d => d.parameters.length) = some 1 := by decide +kernel
theorem hd_X7_race : yX7_race.cls = RX7 ∧ yX7_race.cls ≠ "java/lang/invoke/MethodHandle" ∧ yX7_race.cls ≠ "java/lang/invoke/VarHandle" ∧ (parseMethodDescriptor yX7_race.desc).map (fun d => d.parameters.length) = some 2 := by decide +kernel
theorem hd_X7_restore : yX7_restore.cls = RX7 ∧ yX7_restore.cls ≠ "java/lang/invoke/MethodHandle" ∧ yX7_restore.cls ≠ "java/lang/invoke/VarHandle" ∧ (parseMethodDescriptor yX7_restore.desc).map (fun d => d.parameters.length) = some 0 := by decide +kernel
theorem hd_X7_result : yX7_result.cls = RX7 ∧ yX7_result.cls ≠ "java/lang/invoke/MethodHandle" ∧ yX7_result.cls ≠ "java/lang/invoke/VarHandle" ∧ (parseMethodDescriptor yX7_result.desc).map (fun d => d.parameters.length) = some 3 := by decide +kernel
theorem hd_X7_save : yX7_save.cls = RX7 ∧ yX7_save.cls ≠ "java/lang/invoke/MethodHandle" ∧ yX7_save.cls ≠ "java/lang/invoke/VarHandle" ∧ (parseMethodDescriptor yX7_save.desc).map (fun d => d.parameters.length) = some 0 := by decide +kernel
theorem hd_X7_secondsLeft : yX7_secondsLeft.cls = RX7 ∧ yX7_secondsLeft.cls ≠ "java/lang/invoke/MethodHandle" ∧ yX7_secondsLeft.cls ≠ "java/lang/invoke/VarHandle" ∧ (parseMethodDescriptor yX7_secondsLeft.desc).map (fun d => d.parameters.length) = some 1 := by decide +kernel
theorem hd_L_waits : yL_waits.cls = RL ∧ yL_waits.cls ≠ "java/lang/invoke/MethodHandle" ∧ yL_waits.cls ≠ "java/lang/invoke/VarHandle" ∧ (parseMethodDescriptor yL_waits.desc).map (fun d => d.parameters.length) = some 2 := by decide +kernel
set_option maxHeartbeats 4000000 in
set_option maxRecDepth 100000 in
theorem k_L_finishes {l : Launch} {D : va_G} {cI cB cS : ClassId} {ad : Nat → Nat} {N : Nat} {F : Nat → va_E} (hI : iN ad N) (hN : 114 ≤ N) {ca : Nat} {hs : Int32} {A A3 : Nat → Nat} (hJ : HJ ca A) (hc : ca ≤ 512) (hk : A 0 ≤ 999999) (hO : OB ad cI cB cS F hs A A3) (hkk : A 0 ≤ 100000) (hcc : ca ≤ 200) {r : Nat} (hrA : r + 1 = A 2) (hop : rA A r 3 = 0) {b : Nat} (hb : b < A 1) (hs : eA A r b 0 = 2) : Ci l D cI cB cS ad N yL_finishes cL_finishes 10 (some .boolean) 7 171 [.ref (ad 0), .int (nI b)] F (fun v F' => v = nI 1 ∧ OB ad cI cB cS F' (nI 1) A A ∧ Fr F F' 0 111) := by
  refine x_met (by decide +kernel) (Nat.le_of_ble_eq_true rfl) ?_
  intro p e s m below meth c X hr hlk hK hw ls hl
  replace hl : lv_has ls 10 [(0, .ref (ad 0)), (1, .int (nI b))] := hl
  have hfr : Fr F F 0 111 := Fr.rf
  have h9 := hJ.1.1
  have h6 := hJ.1.2.1
  obtain ⟨b1, b2, b3, b4, b5, b6, b7, b8, b9, b10⟩ := hJ.bj (r := r) (by omega) hb
  have hst := b10 (by omega) (Or.inl hs)
  have hrt := hJ.rt hb
  obtain ⟨l1, l2, l3, l4⟩ := al_b hJ (r := r) (by omega)
  rcases bst_n hJ hc hk (r := r) (by omega) with ⟨hbn, hbz⟩ | ⟨j, hj, hj1, hj2, hj3⟩
  · refine lv_aload_n X.1 X.2.1 dL_finishes_0 rfl (lv_at hl 0 rfl) ?_
    refine lv_iload_n X.1 X.2.1 dL_finishes_1 rfl (lv_at hl 1 rfl) ?_
    refine x_callV X hK hw (k := 0) (As := [.int (nI b)]) (rest := []) (w_secondsLeft hI (by omega) hJ.1.1 hO (nI b) (fun g t tm hE => a_sec_none_r hrA hJ hc hk hE ((opn_r hrA).mpr hop) hb hs hbn tm)) (x_cwV yX7_secondsLeft cX7_secondsLeft 2 (some .int) 1 X q834 q835 q836 q1 q837 hd_X7_secondsLeft ⟨(Nat.le_of_ble_eq_true rfl), (Nat.le_of_ble_eq_true rfl)⟩) (by omega) hO.ma rfl rfl hl.1 rfl (Nat.le_of_ble_eq_true rfl) dL_finishes_2 ⟨(Nat.le_of_ble_eq_true rfl), (Nat.le_of_ble_eq_true rfl)⟩ (fun v1 F2 H locs hp hw => ?_)
    obtain ⟨e3, hO4, hf5⟩ := hp
    refine x_top e3 ?_
    replace hfr := hfr.tr hf5 (by omega) (by omega)
    refine lv_istore_n (lv' := [(2, .int ((-5))), (0, .ref (ad 0)), (1, .int (nI b))]) X.1 X.2.1 dL_finishes_5 rfl hl (by decide) rfl (fun ls hl => ?_)
    refine lv_aload_n X.1 X.2.1 dL_finishes_6 rfl (lv_at hl 1 rfl) ?_
    refine lv_iconst (v := nI 1) X.1 X.2.1 dL_finishes_7 (by decide) ?_
    refine x_callV X hK hw (k := 0) (As := [.int (nI 1)]) (rest := []) (w_count hI (by omega) hO4 (nI 1) (fun g t z n hE => a_cou1 hJ hc hk hE z n)) (x_cwV yX7_count cX7_count 2 (some .int) 1 X q818 q819 q820 q1 q821 hd_X7_count ⟨(Nat.le_of_ble_eq_true rfl), (Nat.le_of_ble_eq_true rfl)⟩) (by omega) hO4.ma rfl rfl hl.1 rfl (Nat.le_of_ble_eq_true rfl) dL_finishes_8 ⟨(Nat.le_of_ble_eq_true rfl), (Nat.le_of_ble_eq_true rfl)⟩ (fun v6 F7 H locs hp hw => ?_)
    obtain ⟨e8, hO9, hf10⟩ := hp
    refine x_top e8 ?_
    replace hfr := hfr.tr hf10 (by omega) (by omega)
    refine lv_iconst (v := nI 1) X.1 X.2.1 dL_finishes_11 (by decide) ?_
    refine lv_isub X.1 X.2.1 dL_finishes_12 ?_
    refine x_top (pk_sub (by omega)) ?_
    refine x_top (y := nI r) (congrArg nI (show A 2 - 1 = r by omega)) ?_
    refine lv_istore_n (lv' := [(3, .int (nI r)), (2, .int ((-5))), (0, .ref (ad 0)), (1, .int (nI b))]) X.1 X.2.1 dL_finishes_13 rfl hl (by decide) rfl (fun ls hl => ?_)
    refine lv_aload_n X.1 X.2.1 dL_finishes_14 rfl (lv_at hl 2 rfl) ?_
    refine x_callV X hK hw (k := 0) (As := []) (rest := []) (w_save hI (by omega) hO9) (x_cwV yX7_save cX7_save 1 (some .int) 0 X q686 q687 q688 q1 q689 hd_X7_save ⟨(Nat.le_of_ble_eq_true rfl), (Nat.le_of_ble_eq_true rfl)⟩) (by omega) hO9.ma rfl rfl hl.1 rfl (Nat.le_of_ble_eq_true rfl) dL_finishes_15 ⟨(Nat.le_of_ble_eq_true rfl), (Nat.le_of_ble_eq_true rfl)⟩ (fun v11 F12 H locs hp hw => ?_)
    obtain ⟨e13, hO14, hf15⟩ := hp
    refine x_top e13 ?_
    replace hfr := hfr.tr hf15 (by omega) (by omega)
    refine lv_istore (lv' := [(4, .int (nI (A 0))), (3, .int (nI r)), (2, .int ((-5))), (0, .ref (ad 0)), (1, .int (nI b))]) X.1 X.2.1 dL_finishes_18 hl (by decide) rfl (fun ls hl => ?_)
    refine lv_aload_n X.1 X.2.1 dL_finishes_20 rfl (lv_at hl 3 rfl) ?_
    refine lv_iload_n X.1 X.2.1 dL_finishes_21 rfl (lv_at hl 1 rfl) ?_
    refine lv_iconst (v := nI 0) X.1 X.2.1 dL_finishes_22 (by decide) ?_
    refine x_callV X hK hw (k := 0) (As := [.int (nI r), .int (nI 0)]) (rest := []) (w_race hI (by omega) hJ.1.1 hO14 (nI r) (nI 0) (fun g t tm hE => a_rac0 hJ hc hk hE (by omega) tm)) (x_cwV yX7_race cX7_race 3 (some .int) 2 X q804 q805 q806 q1 q807 hd_X7_race ⟨(Nat.le_of_ble_eq_true rfl), (Nat.le_of_ble_eq_true rfl)⟩) (by omega) hO14.ma rfl rfl hl.1 rfl (Nat.le_of_ble_eq_true rfl) dL_finishes_23 ⟨(Nat.le_of_ble_eq_true rfl), (Nat.le_of_ble_eq_true rfl)⟩ (fun v16 F17 H locs hp hw => ?_)
    obtain ⟨e18, hO19, hf20⟩ := hp
    refine x_top e18 ?_
    replace hfr := hfr.tr hf20 (by omega) (by omega)
    refine lv_aload_n X.1 X.2.1 dL_finishes_26 rfl (lv_at hl 3 rfl) ?_
    refine lv_iload_n X.1 X.2.1 dL_finishes_27 rfl (lv_at hl 1 rfl) ?_
    refine lv_iconst (v := nI 1) X.1 X.2.1 dL_finishes_28 (by decide) ?_
    refine x_callV X hK hw (k := 0) (As := [.int (nI r), .int (nI 1)]) (rest := [.int (nI (rA A r 0))]) (w_race hI (by omega) hJ.1.1 hO19 (nI r) (nI 1) (fun g t tm hE => a_rac1 hJ hc hk hE (by omega) tm)) (x_cwV yX7_race cX7_race 3 (some .int) 2 X q804 q805 q806 q1 q807 hd_X7_race ⟨(Nat.le_of_ble_eq_true rfl), (Nat.le_of_ble_eq_true rfl)⟩) (by omega) hO19.ma rfl rfl hl.1 rfl (Nat.le_of_ble_eq_true rfl) dL_finishes_29 ⟨(Nat.le_of_ble_eq_true rfl), (Nat.le_of_ble_eq_true rfl)⟩ (fun v21 F22 H locs hp hw => ?_)
    obtain ⟨e23, hO24, hf25⟩ := hp
    refine x_top e23 ?_
    replace hfr := hfr.tr hf25 (by omega) (by omega)
    refine lv_imul X.1 X.2.1 dL_finishes_32 ?_
    refine x_top (pk_mul _ _) ?_
    refine lv_istore (lv' := [(5, .int (nI ((rA A r 0) * (rA A r 1)))), (4, .int (nI (A 0))), (3, .int (nI r)), (2, .int ((-5))), (0, .ref (ad 0)), (1, .int (nI b))]) X.1 X.2.1 dL_finishes_33 hl (by decide) rfl (fun ls hl => ?_)
    refine lv_aload_n X.1 X.2.1 dL_finishes_35 rfl (lv_at hl 4 rfl) ?_
    refine lv_iload_n X.1 X.2.1 dL_finishes_36 rfl (lv_at hl 2 rfl) ?_
    refine lv_bipush (v := nI 6) X.1 X.2.1 dL_finishes_37 (by decide) ?_
    refine x_callV X hK hw (k := 0) (As := [.int (nI r), .int (nI 6)]) (rest := []) (w_race hI (by omega) hJ.1.1 hO24 (nI r) (nI 6) (fun g t tm hE => (a_rac6 hJ hc hk hE (by omega) tm).trans (congrArg oI hbn))) (x_cwV yX7_race cX7_race 3 (some .int) 2 X q804 q805 q806 q1 q807 hd_X7_race ⟨(Nat.le_of_ble_eq_true rfl), (Nat.le_of_ble_eq_true rfl)⟩) (by omega) hO24.ma rfl rfl hl.1 rfl (Nat.le_of_ble_eq_true rfl) dL_finishes_39 ⟨(Nat.le_of_ble_eq_true rfl), (Nat.le_of_ble_eq_true rfl)⟩ (fun v26 F27 H locs hp hw => ?_)
    obtain ⟨e28, hO29, hf30⟩ := hp
    refine x_top e28 ?_
    replace hfr := hfr.tr hf30 (by omega) (by omega)
    refine lv_istore (lv' := [(6, .int ((-5))), (5, .int (nI ((rA A r 0) * (rA A r 1)))), (4, .int (nI (A 0))), (3, .int (nI r)), (2, .int ((-5))), (0, .ref (ad 0)), (1, .int (nI b))]) X.1 X.2.1 dL_finishes_42 hl (by decide) rfl (fun ls hl => ?_)
    refine lv_iload X.1 X.2.1 dL_finishes_44 (lv_at hl 0 rfl) ?_
    refine lv_if_ge (tgt := 53) X.1 X.2.1 dL_finishes_46 (by decide) (fun c31 => ?_) (fun c31 => ?_)
    · exact absurd c31 (by decide)
    · refine lv_iconst (v := (-1)) X.1 X.2.1 dL_finishes_49 (by decide) ?_
      refine lv_goto (tgt := 62) X.1 X.2.1 dL_finishes_50 (by decide) ?_
      refine lv_istore (lv' := [(7, .int ((-1))), (6, .int ((-5))), (5, .int (nI ((rA A r 0) * (rA A r 1)))), (4, .int (nI (A 0))), (3, .int (nI r)), (2, .int ((-5))), (0, .ref (ad 0)), (1, .int (nI b))]) X.1 X.2.1 dL_finishes_62 hl (by decide) rfl (fun ls hl => ?_)
      have way64 : ∀ (B : Nat → Nat) (F1 : Nat → va_E) (hJB : HJ ca B) (hBe : ∀ i, i ≠ 80 + 6 * (9 * r + b) + 1 → B i = A i) (hm : eA B r b 1 ≤ rA A r 0 * rA A r 1) (hOB : OB ad cI cB cS F1 (nI 1) B A) (hfr : Fr F F1 0 111) (hx : rA A r 0 * rA A r 1 ≤ eA B r b 1) (H : Heap) (locs : List Loc) (hw : HW D (Af ad N s.heap.size) ad N F1 s H locs) (ls : Array Slot) (hl : lv_has ls 10 [(7, .int ((-1))), (6, .int ((-5))), (5, .int (nI ((rA A r 0) * (rA A r 1)))), (4, .int (nI (A 0))), (3, .int (nI r)), (2, .int ((-5))), (0, .ref (ad 0)), (1, .int (nI b))]), W p l e { frames := 7, cells := 0, slots := 0, locals := 171 } s m [.ref (ad 0), .int (nI b)].toArray below meth c H locs 0 0 (MQ below (va_Qi (fun v F' => v = nI 1 ∧ OB ad cI cB cS F' (nI 1) A A ∧ Fr F F' 0 111) (fun F' t => PO D ad N F' t) (Af ad N s.heap.size)) [.ref (ad 0), .int (nI b)].toArray s 0 0 (Af ad N s.heap.size)) (F0 m 100 ls []) := by
        intro B F1 hJB hBe hm hOB hfr hx H locs hw ls hl
        have hB0 : B 0 = A 0 := hBe 0 (by omega)
        have hB1 : B 1 = A 1 := hBe 1 (by omega)
        have hB2 : B 2 = A 2 := hBe 2 (by omega)
        have hrB : r + 1 = B 2 := by omega
        have hs2 : eA B r b 0 = 2 := (hBe _ (by omega)).trans hs
        have hr0 : rA B r 0 = rA A r 0 := hBe _ (by omega)
        have hr1 : rA B r 1 = rA A r 1 := hBe _ (by omega)
        have hop2 : opn B := (opn_r hrB).mpr ((hBe _ (by omega)).trans hop)
        have hal2 : rA B r 0 * rA B r 1 = rA A r 0 * rA A r 1 := by rw [hr0, hr1]
        refine lv_iload_n X.1 X.2.1 dL_finishes_100 rfl (lv_at hl 5 rfl) ?_
        refine lv_bipush (v := (-5)) X.1 X.2.1 dL_finishes_101 (by decide) ?_
        refine lv_icmp_eq (tgt := 115) X.1 X.2.1 dL_finishes_103 (by decide) (fun c32 => ?_) (fun c32 => ?_)
        · refine lv_iconst (v := nI 1) X.1 X.2.1 dL_finishes_115 (by decide) ?_
          refine lv_goto (tgt := 120) X.1 X.2.1 dL_finishes_116 (by decide) ?_
          refine lv_istore (lv' := [(8, .int (nI 1)), (7, .int ((-1))), (6, .int ((-5))), (5, .int (nI ((rA A r 0) * (rA A r 1)))), (4, .int (nI (A 0))), (3, .int (nI r)), (2, .int ((-5))), (0, .ref (ad 0)), (1, .int (nI b))]) X.1 X.2.1 dL_finishes_120 hl (by decide) rfl (fun ls hl => ?_)
          refine lv_iload_n X.1 X.2.1 dL_finishes_122 rfl (lv_at hl 6 rfl) ?_
          refine lv_if_le (tgt := 146) X.1 X.2.1 dL_finishes_123 (by decide) (fun c33 => ?_) (fun c33 => ?_)
          · refine lv_iload X.1 X.2.1 dL_finishes_146 (lv_at hl 0 rfl) ?_
            refine lv_if_eq (tgt := 208) X.1 X.2.1 dL_finishes_148 (by decide) (fun c34 => ?_) (fun c34 => ?_)
            · exact absurd c34 (by decide)
            · have xB : ∀ i, i ≠ 0 → i ≠ 80 + 6 * (9 * r + b) + 1 → B i = A i := fun i h1 h2 => hBe i h2
              have hrB : r + 1 = B 2 := by omega
              have s2B : eA B r b 0 = 2 := hs2
              have opB : opn B := hop2
              have alB : eA B r b 1 = rA B r 0 * rA B r 1 := by rw [hr0, hr1]; omega
              refine lv_aload_n X.1 X.2.1 dL_finishes_151 rfl (lv_at hl 7 rfl) ?_
              refine lv_iload_n X.1 X.2.1 dL_finishes_152 rfl (lv_at hl 8 rfl) ?_
              refine x_callV X hK hw (k := 0) (As := [.int (nI b)]) (rest := []) (w_line hI (by omega) hOB (nI b) (fun g t hE => a_line_fi_r hrB hJB opB (by omega) s2B alB hE)) (x_cwV yX7_line cX7_line 2 (some .int) 1 X q353 q354 q355 q1 q356 hd_X7_line ⟨(Nat.le_of_ble_eq_true rfl), (Nat.le_of_ble_eq_true rfl)⟩) (by omega) hOB.ma rfl rfl hl.1 rfl (Nat.le_of_ble_eq_true rfl) dL_finishes_153 ⟨(Nat.le_of_ble_eq_true rfl), (Nat.le_of_ble_eq_true rfl)⟩ (fun v35 F36 H locs hp hw => ?_)
              obtain ⟨e37, hO38, hf39⟩ := hp
              refine x_top e37 ?_
              replace hfr := hfr.tr hf39 (by omega) (by omega)
              obtain ⟨B40, hB40⟩ : ∃ y, y = ep (ep B r b 5 (B 0)) r b 0 3 := ⟨_, rfl⟩
              rw [← hB40] at hO38
              have jB40 : HJ ca B40 := by rw [hB40]; exact j_fin_r hrB hJB opB (by omega) s2B alB
              have qB40 : ∀ i, i ≠ 80 + 6 * (9 * r + b) + 0 → i ≠ 80 + 6 * (9 * r + b) + 5 → B40 i = B i := fun i h1 h2 => by rw [hB40]; exact (nup_ne h1).trans (nup_ne h2)
              have hDfB40 : eA B40 r b 0 = 3 := by rw [hB40]; exact ep_at
              have d5B40 : eA B40 r b 5 = B 0 := by rw [hB40]; exact (nup_ne (by omega)).trans ep_at
              have d0B40 : B40 0 = B 0 := qB40 0 (by omega) (by omega)
              have d1B40 : B40 1 = A 1 := (qB40 1 (by omega) (by omega)).trans (by omega)
              have d2B40 : B40 2 = A 2 := (qB40 2 (by omega) (by omega)).trans (by omega)
              have d3B40 : eA B40 r b 3 = eA A r b 3 := (qB40 _ (by omega) (by omega)).trans (xB _ (by omega) (by omega))
              have dsB40 : rA B40 r 2 = rA A r 2 := (qB40 _ (by omega) (by omega)).trans (xB _ (by omega) (by omega))
              have d7B40 : B40 (7 + b) = A (7 + b) := (qB40 _ (by omega) (by omega)).trans (xB _ (by omega) (by omega))
              have dcB40 : coN B40 r b = 100 * (B 0 - rA A r 2 + eA A r b 3) / A (7 + b) := by unfold coN elN; rw [d5B40, d3B40, dsB40, d7B40]
              have dbB40 := co_b jB40 hc (by omega) (r := r) (b := b) (by omega) (by omega)
              refine lv_iconst (v := nI 3) X.1 X.2.1 dL_finishes_156 (by decide) ?_
              refine lv_icmp_ne (tgt := 208) X.1 X.2.1 dL_finishes_157 (by decide) (fun c41 => ?_) (fun c41 => ?_)
              · exact absurd (by decide) c41
              · refine lv_iload X.1 X.2.1 dL_finishes_160 (lv_at hl 1 rfl) ?_
                refine lv_if_lt (tgt := 195) X.1 X.2.1 dL_finishes_162 (by decide) (fun c42 => ?_) (fun c42 => ?_)
                · refine lv_aload_n X.1 X.2.1 dL_finishes_195 rfl (lv_at hl 7 rfl) ?_
                  refine x_callV X hK hw (k := 0) (As := []) (rest := []) (w_restore hI (by omega) hO38) (x_cwV yX7_restore cX7_restore 1 (some .int) 0 X q691 q692 q693 q1 q694 hd_X7_restore ⟨(Nat.le_of_ble_eq_true rfl), (Nat.le_of_ble_eq_true rfl)⟩) (by omega) hO38.ma rfl rfl hl.1 rfl (Nat.le_of_ble_eq_true rfl) dL_finishes_196 ⟨(Nat.le_of_ble_eq_true rfl), (Nat.le_of_ble_eq_true rfl)⟩ (fun v43 F44 H locs hp hw => ?_)
                  obtain ⟨e45, hO46, hf47⟩ := hp
                  refine x_top e45 ?_
                  replace hfr := hfr.tr hf47 (by omega) (by omega)
                  refine lv_iload X.1 X.2.1 dL_finishes_199 (lv_at hl 4 rfl) ?_
                  refine lv_icmp_ne (tgt := 208) X.1 X.2.1 dL_finishes_201 (by decide) (fun c48 => ?_) (fun c48 => ?_)
                  · exact absurd ((nI_eq (by omega) (by omega)).mpr (by omega)) c48
                  · have n49 := (nI_eq (by omega) (by omega)).mp c48
                    refine lv_iconst (v := nI 1) X.1 X.2.1 dL_finishes_204 (by decide) ?_
                    refine lv_goto (tgt := 209) X.1 X.2.1 dL_finishes_205 (by decide) ?_
                    refine lv_istore (lv' := [(8, .int (nI 1)), (7, .int ((-1))), (6, .int ((-5))), (5, .int (nI ((rA A r 0) * (rA A r 1)))), (4, .int (nI (A 0))), (3, .int (nI r)), (2, .int ((-5))), (0, .ref (ad 0)), (1, .int (nI b))]) X.1 X.2.1 dL_finishes_209 hl (by decide) rfl (fun ls hl => ?_)
                    refine lv_iload X.1 X.2.1 dL_finishes_211 (lv_at hl 0 rfl) ?_
                    refine lv_if_eq (tgt := 220) X.1 X.2.1 dL_finishes_213 (by decide) (fun c50 => ?_) (fun c50 => ?_)
                    · exact absurd c50 (by decide)
                    · refine lv_iload_n X.1 X.2.1 dL_finishes_216 rfl (lv_at hl 6 rfl) ?_
                      refine lv_if_ge (tgt := 223) X.1 X.2.1 dL_finishes_217 (by decide) (fun c51 => ?_) (fun c51 => ?_)
                      · exact absurd c51 (by decide)
                      · refine lv_iload X.1 X.2.1 dL_finishes_220 (lv_at hl 0 rfl) ?_
                        exact x_iret X hr hlk hK hw (v := nI 1) (by first | rfl | exact nr_b _ | decide) (⟨rfl, hO46, hfr⟩) dL_finishes_222
                · exact absurd (by decide) c42
          · exact absurd (by decide) c33
        · exact absurd (by decide) c32
      have loop64 : ∀ (fu : Nat) (B : Nat → Nat) (F1 : Nat → va_E) (hfu : rA A r 0 * rA A r 1 ≤ eA B r b 1 + fu) (hJB : HJ ca B) (hBe : ∀ i, i ≠ 80 + 6 * (9 * r + b) + 1 → B i = A i) (hm : eA B r b 1 ≤ rA A r 0 * rA A r 1) (hOB : OB ad cI cB cS F1 (nI 1) B A) (hfr : Fr F F1 0 111) (H : Heap) (locs : List Loc) (hw : HW D (Af ad N s.heap.size) ad N F1 s H locs) (ls : Array Slot) (hl : lv_has ls 10 [(7, .int ((-1))), (6, .int ((-5))), (5, .int (nI ((rA A r 0) * (rA A r 1)))), (4, .int (nI (A 0))), (3, .int (nI r)), (2, .int ((-5))), (0, .ref (ad 0)), (1, .int (nI b))]), W p l e { frames := 7, cells := 0, slots := 0, locals := 171 } s m [.ref (ad 0), .int (nI b)].toArray below meth c H locs 0 0 (MQ below (va_Qi (fun v F' => v = nI 1 ∧ OB ad cI cB cS F' (nI 1) A A ∧ Fr F F' 0 111) (fun F' t => PO D ad N F' t) (Af ad N s.heap.size)) [.ref (ad 0), .int (nI b)].toArray s 0 0 (Af ad N s.heap.size)) (F0 m 64 ls []) := by
        intro fu
        induction fu with
        | zero =>
          intro B F1 hfu hJB hBe hm hOB hfr H locs hw ls hl
          have hB0 : B 0 = A 0 := hBe 0 (by omega)
          have hB1 : B 1 = A 1 := hBe 1 (by omega)
          have hB2 : B 2 = A 2 := hBe 2 (by omega)
          have hrB : r + 1 = B 2 := by omega
          have hs2 : eA B r b 0 = 2 := (hBe _ (by omega)).trans hs
          have hr0 : rA B r 0 = rA A r 0 := hBe _ (by omega)
          have hr1 : rA B r 1 = rA A r 1 := hBe _ (by omega)
          have hop2 : opn B := (opn_r hrB).mpr ((hBe _ (by omega)).trans hop)
          have hal2 : rA B r 0 * rA B r 1 = rA A r 0 * rA A r 1 := by rw [hr0, hr1]
          refine lv_aload_n X.1 X.2.1 dL_finishes_64 rfl (lv_at hl 6 rfl) ?_
          refine lv_iload_n X.1 X.2.1 dL_finishes_65 rfl (lv_at hl 4 rfl) ?_
          refine lv_iload_n X.1 X.2.1 dL_finishes_66 rfl (lv_at hl 7 rfl) ?_
          refine lv_iconst (v := nI 1) X.1 X.2.1 dL_finishes_67 (by decide) ?_
          refine x_callV X hK hw (k := 0) (As := [.int (nI r), .int (nI b), .int (nI 1)]) (rest := []) (w_result hI (by omega) hJB.1.1 hOB (nI r) (nI b) (nI 1) (fun g t tm hE => a_res1 hJB hc (by omega) hE (by omega) (by omega) tm)) (x_cwV yX7_result cX7_result 4 (some .int) 3 X q695 q696 q697 q1 q698 hd_X7_result ⟨(Nat.le_of_ble_eq_true rfl), (Nat.le_of_ble_eq_true rfl)⟩) (by omega) hOB.ma rfl rfl hl.1 rfl (Nat.le_of_ble_eq_true rfl) dL_finishes_68 ⟨(Nat.le_of_ble_eq_true rfl), (Nat.le_of_ble_eq_true rfl)⟩ (fun v52 F53 H locs hp hw => ?_)
          obtain ⟨e54, hO55, hf56⟩ := hp
          refine x_top e54 ?_
          replace hfr := hfr.tr hf56 (by omega) (by omega)
          refine lv_iload X.1 X.2.1 dL_finishes_71 (lv_at hl 2 rfl) ?_
          refine lv_icmp_ge (tgt := 100) X.1 X.2.1 dL_finishes_73 (by decide) (fun c57 => ?_) (fun c57 => ?_)
          · have n58 := (nI_leI (by omega) (by omega)).mp c57
            exact way64 B F53 hJB hBe hm hO55 hfr n58 _ _ hw _ (lv_sub hl [0, 1, 2, 3, 4, 5, 6, 7] rfl)
          · exact absurd ((nI_leI (by omega) (by omega)).mpr (by omega)) c57
        | succ fu ih =>
          intro B F1 hfu hJB hBe hm hOB hfr H locs hw ls hl
          have hB0 : B 0 = A 0 := hBe 0 (by omega)
          have hB1 : B 1 = A 1 := hBe 1 (by omega)
          have hB2 : B 2 = A 2 := hBe 2 (by omega)
          have hrB : r + 1 = B 2 := by omega
          have hs2 : eA B r b 0 = 2 := (hBe _ (by omega)).trans hs
          have hr0 : rA B r 0 = rA A r 0 := hBe _ (by omega)
          have hr1 : rA B r 1 = rA A r 1 := hBe _ (by omega)
          have hop2 : opn B := (opn_r hrB).mpr ((hBe _ (by omega)).trans hop)
          have hal2 : rA B r 0 * rA B r 1 = rA A r 0 * rA A r 1 := by rw [hr0, hr1]
          refine lv_aload_n X.1 X.2.1 dL_finishes_64 rfl (lv_at hl 6 rfl) ?_
          refine lv_iload_n X.1 X.2.1 dL_finishes_65 rfl (lv_at hl 4 rfl) ?_
          refine lv_iload_n X.1 X.2.1 dL_finishes_66 rfl (lv_at hl 7 rfl) ?_
          refine lv_iconst (v := nI 1) X.1 X.2.1 dL_finishes_67 (by decide) ?_
          refine x_callV X hK hw (k := 0) (As := [.int (nI r), .int (nI b), .int (nI 1)]) (rest := []) (w_result hI (by omega) hJB.1.1 hOB (nI r) (nI b) (nI 1) (fun g t tm hE => a_res1 hJB hc (by omega) hE (by omega) (by omega) tm)) (x_cwV yX7_result cX7_result 4 (some .int) 3 X q695 q696 q697 q1 q698 hd_X7_result ⟨(Nat.le_of_ble_eq_true rfl), (Nat.le_of_ble_eq_true rfl)⟩) (by omega) hOB.ma rfl rfl hl.1 rfl (Nat.le_of_ble_eq_true rfl) dL_finishes_68 ⟨(Nat.le_of_ble_eq_true rfl), (Nat.le_of_ble_eq_true rfl)⟩ (fun v59 F60 H locs hp hw => ?_)
          obtain ⟨e61, hO62, hf63⟩ := hp
          refine x_top e61 ?_
          replace hfr := hfr.tr hf63 (by omega) (by omega)
          refine lv_iload X.1 X.2.1 dL_finishes_71 (lv_at hl 2 rfl) ?_
          refine lv_icmp_ge (tgt := 100) X.1 X.2.1 dL_finishes_73 (by decide) (fun c64 => ?_) (fun c64 => ?_)
          · have n65 := (nI_leI (by omega) (by omega)).mp c64
            exact way64 B F60 hJB hBe hm hO62 hfr n65 _ _ hw _ (lv_sub hl [0, 1, 2, 3, 4, 5, 6, 7] rfl)
          · have n66 : ¬ ((rA A r 0) * (rA A r 1)) ≤ (eA B r b 1) := fun z => c64 ((nI_leI (by omega) (by omega)).mpr z)
            refine lv_aload_n X.1 X.2.1 dL_finishes_76 rfl (lv_at hl 6 rfl) ?_
            refine lv_iload_n X.1 X.2.1 dL_finishes_77 rfl (lv_at hl 7 rfl) ?_
            refine lv_aload_n X.1 X.2.1 dL_finishes_78 rfl (lv_at hl 6 rfl) ?_
            refine lv_iload_n X.1 X.2.1 dL_finishes_79 rfl (lv_at hl 4 rfl) ?_
            refine lv_iload_n X.1 X.2.1 dL_finishes_80 rfl (lv_at hl 7 rfl) ?_
            refine lv_iconst (v := nI 1) X.1 X.2.1 dL_finishes_81 (by decide) ?_
            refine x_callV X hK hw (k := 0) (As := [.int (nI r), .int (nI b), .int (nI 1)]) (rest := [.int (nI b), .ref (ad 0)]) (w_result hI (by omega) hJB.1.1 hO62 (nI r) (nI b) (nI 1) (fun g t tm hE => a_res1 hJB hc (by omega) hE (by omega) (by omega) tm)) (x_cwV yX7_result cX7_result 4 (some .int) 3 X q695 q696 q697 q1 q698 hd_X7_result ⟨(Nat.le_of_ble_eq_true rfl), (Nat.le_of_ble_eq_true rfl)⟩) (by omega) hO62.ma rfl rfl hl.1 rfl (Nat.le_of_ble_eq_true rfl) dL_finishes_82 ⟨(Nat.le_of_ble_eq_true rfl), (Nat.le_of_ble_eq_true rfl)⟩ (fun v67 F68 H locs hp hw => ?_)
            obtain ⟨e69, hO70, hf71⟩ := hp
            refine x_top e69 ?_
            replace hfr := hfr.tr hf71 (by omega) (by omega)
            refine lv_aload_n X.1 X.2.1 dL_finishes_85 rfl (lv_at hl 6 rfl) ?_
            refine lv_iload_n X.1 X.2.1 dL_finishes_86 rfl (lv_at hl 4 rfl) ?_
            refine lv_iconst (v := nI 0) X.1 X.2.1 dL_finishes_87 (by decide) ?_
            refine x_callV X hK hw (k := 0) (As := [.int (nI r), .int (nI 0)]) (rest := [.int (nI (eA B r b 1)), .int (nI b), .ref (ad 0)]) (w_race hI (by omega) hJB.1.1 hO70 (nI r) (nI 0) (fun g t tm hE => a_rac0 hJB hc (by omega) hE (by omega) tm)) (x_cwV yX7_race cX7_race 3 (some .int) 2 X q804 q805 q806 q1 q807 hd_X7_race ⟨(Nat.le_of_ble_eq_true rfl), (Nat.le_of_ble_eq_true rfl)⟩) (by omega) hO70.ma rfl rfl hl.1 rfl (Nat.le_of_ble_eq_true rfl) dL_finishes_88 ⟨(Nat.le_of_ble_eq_true rfl), (Nat.le_of_ble_eq_true rfl)⟩ (fun v72 F73 H locs hp hw => ?_)
            obtain ⟨e74, hO75, hf76⟩ := hp
            refine x_top e74 ?_
            replace hfr := hfr.tr hf76 (by omega) (by omega)
            refine lv_irem X.1 X.2.1 dL_finishes_91 (fun z => by have := (bz_eq (by omega)).mp z; omega) ?_
            refine x_top (nI_mod (by omega) (by omega) (by omega)) ?_
            refine x_callV X hK hw (k := 0) (As := [.int (nI b), .int (nI ((eA B r b 1) % (rA B r 0)))]) (rest := []) (w_buoy hI (by omega) hO75 (nI b) (nI ((eA B r b 1) % (rA B r 0))) (fun g t hE => a_buoy_ok_r hrB hJB hop2 (by omega) (show (eA B r b 1) % (rA B r 0) < rA B r 0 from Nat.mod_lt _ (by omega)) hs2 rfl (by omega) hE)) (x_cwV yX7_buoy cX7_buoy 3 (some .int) 2 X q383 q384 q385 q1 q386 hd_X7_buoy ⟨(Nat.le_of_ble_eq_true rfl), (Nat.le_of_ble_eq_true rfl)⟩) (by omega) hO75.ma rfl rfl hl.1 rfl (Nat.le_of_ble_eq_true rfl) dL_finishes_92 ⟨(Nat.le_of_ble_eq_true rfl), (Nat.le_of_ble_eq_true rfl)⟩ (fun v77 F78 H locs hp hw => ?_)
            obtain ⟨e79, hO80, hf81⟩ := hp
            refine x_top e79 ?_
            replace hfr := hfr.tr hf81 (by omega) (by omega)
            obtain ⟨B82, hB82⟩ : ∃ y, y = ep B r b 1 (eA B r b 1 + 1) := ⟨_, rfl⟩
            rw [← hB82] at hO80
            have jB82 : HJ ca B82 := by rw [hB82]; exact j_made_r hrB hJB hop2 (by omega) hs2 (by omega)
            have eB82 : ∀ i, i ≠ 80 + 6 * (9 * r + b) + 1 → B82 i = A i := fun i hi => by rw [hB82]; exact (nup_ne hi).trans (hBe i hi)
            have mB82 : eA B82 r b 1 = eA B r b 1 + 1 := by rw [hB82]; exact ep_at
            refine lv_istore (lv' := [(8, .int (nI (eA B r b 1 + 1))), (7, .int ((-1))), (6, .int ((-5))), (5, .int (nI ((rA A r 0) * (rA A r 1)))), (4, .int (nI (A 0))), (3, .int (nI r)), (2, .int ((-5))), (0, .ref (ad 0)), (1, .int (nI b))]) X.1 X.2.1 dL_finishes_95 hl (by decide) rfl (fun ls hl => ?_)
            refine lv_goto (tgt := 64) X.1 X.2.1 dL_finishes_97 (by decide) ?_
            exact ih B82 F78 (by omega) jB82 eB82 (by omega) hO80 hfr _ _ hw _ (lv_sub hl [1, 2, 3, 4, 5, 6, 7, 8] rfl)
      exact loop64 (rA A r 0 * rA A r 1) A F27 (by omega) hJ (fun _ _ => rfl) (by omega) hO29 hfr _ _ hw _ (lv_sub hl [0, 1, 2, 3, 4, 5, 6, 7] rfl)
  · have hcj := co_b hJ hc hk (r := r) (by omega) hj1
    have hcj2 := co_b2 hJ (r := r) (b := j) (by omega) hj1
    obtain ⟨bd, hbd⟩ : ∃ y, y = coN A r j * A (7 + b) := ⟨_, rfl⟩
    have hbd2 : bd ≤ 2 * (A 0 + 300 * ca) * 150 := by rw [hbd]; exact Nat.mul_le_mul hcj2 hrt.2
    rcases Nat.lt_or_ge (100 * (A 0 - rA A r 2 + eA A r b 3)) (coN A r j * A (7 + b)) with hlt | hlt
    · obtain ⟨L, hL⟩ : ∃ y, y = (coN A r j * A (7 + b) - 1) / 100 - (A 0 - rA A r 2 + eA A r b 3) := ⟨_, rfl⟩
      have hL1 : 100 * (A 0 - rA A r 2 + eA A r b 3 + L) < bd ∧ bd ≤ 100 * (A 0 - rA A r 2 + eA A r b 3 + L + 1) := by rw [← hbd] at hL hlt; omega
      refine lv_aload_n X.1 X.2.1 dL_finishes_0 rfl (lv_at hl 0 rfl) ?_
      refine lv_iload_n X.1 X.2.1 dL_finishes_1 rfl (lv_at hl 1 rfl) ?_
      refine x_callV X hK hw (k := 0) (As := [.int (nI b)]) (rest := []) (w_secondsLeft hI (by omega) hJ.1.1 hO (nI b) (fun g t tm hE => (a_sec_ok_r hrA hJ hc hk hE ((opn_r hrA).mpr hop) hb hs hj hj1 hj2 hlt tm).trans (congrArg nI hL.symm))) (x_cwV yX7_secondsLeft cX7_secondsLeft 2 (some .int) 1 X q834 q835 q836 q1 q837 hd_X7_secondsLeft ⟨(Nat.le_of_ble_eq_true rfl), (Nat.le_of_ble_eq_true rfl)⟩) (by omega) hO.ma rfl rfl hl.1 rfl (Nat.le_of_ble_eq_true rfl) dL_finishes_2 ⟨(Nat.le_of_ble_eq_true rfl), (Nat.le_of_ble_eq_true rfl)⟩ (fun v83 F84 H locs hp hw => ?_)
      obtain ⟨e85, hO86, hf87⟩ := hp
      refine x_top e85 ?_
      replace hfr := hfr.tr hf87 (by omega) (by omega)
      refine lv_istore_n (lv' := [(2, .int (nI L)), (0, .ref (ad 0)), (1, .int (nI b))]) X.1 X.2.1 dL_finishes_5 rfl hl (by decide) rfl (fun ls hl => ?_)
      refine lv_aload_n X.1 X.2.1 dL_finishes_6 rfl (lv_at hl 1 rfl) ?_
      refine lv_iconst (v := nI 1) X.1 X.2.1 dL_finishes_7 (by decide) ?_
      refine x_callV X hK hw (k := 0) (As := [.int (nI 1)]) (rest := []) (w_count hI (by omega) hO86 (nI 1) (fun g t z n hE => a_cou1 hJ hc hk hE z n)) (x_cwV yX7_count cX7_count 2 (some .int) 1 X q818 q819 q820 q1 q821 hd_X7_count ⟨(Nat.le_of_ble_eq_true rfl), (Nat.le_of_ble_eq_true rfl)⟩) (by omega) hO86.ma rfl rfl hl.1 rfl (Nat.le_of_ble_eq_true rfl) dL_finishes_8 ⟨(Nat.le_of_ble_eq_true rfl), (Nat.le_of_ble_eq_true rfl)⟩ (fun v88 F89 H locs hp hw => ?_)
      obtain ⟨e90, hO91, hf92⟩ := hp
      refine x_top e90 ?_
      replace hfr := hfr.tr hf92 (by omega) (by omega)
      refine lv_iconst (v := nI 1) X.1 X.2.1 dL_finishes_11 (by decide) ?_
      refine lv_isub X.1 X.2.1 dL_finishes_12 ?_
      refine x_top (pk_sub (by omega)) ?_
      refine x_top (y := nI r) (congrArg nI (show A 2 - 1 = r by omega)) ?_
      refine lv_istore_n (lv' := [(3, .int (nI r)), (2, .int (nI L)), (0, .ref (ad 0)), (1, .int (nI b))]) X.1 X.2.1 dL_finishes_13 rfl hl (by decide) rfl (fun ls hl => ?_)
      refine lv_aload_n X.1 X.2.1 dL_finishes_14 rfl (lv_at hl 2 rfl) ?_
      refine x_callV X hK hw (k := 0) (As := []) (rest := []) (w_save hI (by omega) hO91) (x_cwV yX7_save cX7_save 1 (some .int) 0 X q686 q687 q688 q1 q689 hd_X7_save ⟨(Nat.le_of_ble_eq_true rfl), (Nat.le_of_ble_eq_true rfl)⟩) (by omega) hO91.ma rfl rfl hl.1 rfl (Nat.le_of_ble_eq_true rfl) dL_finishes_15 ⟨(Nat.le_of_ble_eq_true rfl), (Nat.le_of_ble_eq_true rfl)⟩ (fun v93 F94 H locs hp hw => ?_)
      obtain ⟨e95, hO96, hf97⟩ := hp
      refine x_top e95 ?_
      replace hfr := hfr.tr hf97 (by omega) (by omega)
      refine lv_istore (lv' := [(4, .int (nI (A 0))), (3, .int (nI r)), (2, .int (nI L)), (0, .ref (ad 0)), (1, .int (nI b))]) X.1 X.2.1 dL_finishes_18 hl (by decide) rfl (fun ls hl => ?_)
      refine lv_aload_n X.1 X.2.1 dL_finishes_20 rfl (lv_at hl 3 rfl) ?_
      refine lv_iload_n X.1 X.2.1 dL_finishes_21 rfl (lv_at hl 1 rfl) ?_
      refine lv_iconst (v := nI 0) X.1 X.2.1 dL_finishes_22 (by decide) ?_
      refine x_callV X hK hw (k := 0) (As := [.int (nI r), .int (nI 0)]) (rest := []) (w_race hI (by omega) hJ.1.1 hO96 (nI r) (nI 0) (fun g t tm hE => a_rac0 hJ hc hk hE (by omega) tm)) (x_cwV yX7_race cX7_race 3 (some .int) 2 X q804 q805 q806 q1 q807 hd_X7_race ⟨(Nat.le_of_ble_eq_true rfl), (Nat.le_of_ble_eq_true rfl)⟩) (by omega) hO96.ma rfl rfl hl.1 rfl (Nat.le_of_ble_eq_true rfl) dL_finishes_23 ⟨(Nat.le_of_ble_eq_true rfl), (Nat.le_of_ble_eq_true rfl)⟩ (fun v98 F99 H locs hp hw => ?_)
      obtain ⟨e100, hO101, hf102⟩ := hp
      refine x_top e100 ?_
      replace hfr := hfr.tr hf102 (by omega) (by omega)
      refine lv_aload_n X.1 X.2.1 dL_finishes_26 rfl (lv_at hl 3 rfl) ?_
      refine lv_iload_n X.1 X.2.1 dL_finishes_27 rfl (lv_at hl 1 rfl) ?_
      refine lv_iconst (v := nI 1) X.1 X.2.1 dL_finishes_28 (by decide) ?_
      refine x_callV X hK hw (k := 0) (As := [.int (nI r), .int (nI 1)]) (rest := [.int (nI (rA A r 0))]) (w_race hI (by omega) hJ.1.1 hO101 (nI r) (nI 1) (fun g t tm hE => a_rac1 hJ hc hk hE (by omega) tm)) (x_cwV yX7_race cX7_race 3 (some .int) 2 X q804 q805 q806 q1 q807 hd_X7_race ⟨(Nat.le_of_ble_eq_true rfl), (Nat.le_of_ble_eq_true rfl)⟩) (by omega) hO101.ma rfl rfl hl.1 rfl (Nat.le_of_ble_eq_true rfl) dL_finishes_29 ⟨(Nat.le_of_ble_eq_true rfl), (Nat.le_of_ble_eq_true rfl)⟩ (fun v103 F104 H locs hp hw => ?_)
      obtain ⟨e105, hO106, hf107⟩ := hp
      refine x_top e105 ?_
      replace hfr := hfr.tr hf107 (by omega) (by omega)
      refine lv_imul X.1 X.2.1 dL_finishes_32 ?_
      refine x_top (pk_mul _ _) ?_
      refine lv_istore (lv' := [(5, .int (nI ((rA A r 0) * (rA A r 1)))), (4, .int (nI (A 0))), (3, .int (nI r)), (2, .int (nI L)), (0, .ref (ad 0)), (1, .int (nI b))]) X.1 X.2.1 dL_finishes_33 hl (by decide) rfl (fun ls hl => ?_)
      refine lv_aload_n X.1 X.2.1 dL_finishes_35 rfl (lv_at hl 4 rfl) ?_
      refine lv_iload_n X.1 X.2.1 dL_finishes_36 rfl (lv_at hl 2 rfl) ?_
      refine lv_bipush (v := nI 6) X.1 X.2.1 dL_finishes_37 (by decide) ?_
      refine x_callV X hK hw (k := 0) (As := [.int (nI r), .int (nI 6)]) (rest := []) (w_race hI (by omega) hJ.1.1 hO106 (nI r) (nI 6) (fun g t tm hE => (a_rac6 hJ hc hk hE (by omega) tm).trans (congrArg oI hj))) (x_cwV yX7_race cX7_race 3 (some .int) 2 X q804 q805 q806 q1 q807 hd_X7_race ⟨(Nat.le_of_ble_eq_true rfl), (Nat.le_of_ble_eq_true rfl)⟩) (by omega) hO106.ma rfl rfl hl.1 rfl (Nat.le_of_ble_eq_true rfl) dL_finishes_39 ⟨(Nat.le_of_ble_eq_true rfl), (Nat.le_of_ble_eq_true rfl)⟩ (fun v108 F109 H locs hp hw => ?_)
      obtain ⟨e110, hO111, hf112⟩ := hp
      refine x_top e110 ?_
      replace hfr := hfr.tr hf112 (by omega) (by omega)
      refine lv_istore (lv' := [(6, .int (nI j)), (5, .int (nI ((rA A r 0) * (rA A r 1)))), (4, .int (nI (A 0))), (3, .int (nI r)), (2, .int (nI L)), (0, .ref (ad 0)), (1, .int (nI b))]) X.1 X.2.1 dL_finishes_42 hl (by decide) rfl (fun ls hl => ?_)
      refine lv_iload X.1 X.2.1 dL_finishes_44 (lv_at hl 0 rfl) ?_
      refine lv_if_ge (tgt := 53) X.1 X.2.1 dL_finishes_46 (by decide) (fun c113 => ?_) (fun c113 => ?_)
      · have n114 := (bz_ge (by omega)).mp c113
        refine lv_aload_n X.1 X.2.1 dL_finishes_53 rfl (lv_at hl 5 rfl) ?_
        refine lv_iload_n X.1 X.2.1 dL_finishes_54 rfl (lv_at hl 3 rfl) ?_
        refine lv_iload X.1 X.2.1 dL_finishes_55 (lv_at hl 0 rfl) ?_
        refine lv_bipush (v := nI 6) X.1 X.2.1 dL_finishes_57 (by decide) ?_
        refine x_callV X hK hw (k := 0) (As := [.int (nI r), .int (nI j), .int (nI 6)]) (rest := []) (w_result hI (by omega) hJ.1.1 hO111 (nI r) (nI j) (nI 6) (fun g t tm hE => (a_res6 hJ hc hk hE (by omega) hj1 tm).trans (co_n hJ hc hk (by omega) hj1 hj2.1))) (x_cwV yX7_result cX7_result 4 (some .int) 3 X q695 q696 q697 q1 q698 hd_X7_result ⟨(Nat.le_of_ble_eq_true rfl), (Nat.le_of_ble_eq_true rfl)⟩) (by omega) hO111.ma rfl rfl hl.1 rfl (Nat.le_of_ble_eq_true rfl) dL_finishes_59 ⟨(Nat.le_of_ble_eq_true rfl), (Nat.le_of_ble_eq_true rfl)⟩ (fun v115 F116 H locs hp hw => ?_)
        obtain ⟨e117, hO118, hf119⟩ := hp
        refine x_top e117 ?_
        replace hfr := hfr.tr hf119 (by omega) (by omega)
        refine lv_istore (lv' := [(7, .int (nI (coN A r j))), (6, .int (nI j)), (5, .int (nI ((rA A r 0) * (rA A r 1)))), (4, .int (nI (A 0))), (3, .int (nI r)), (2, .int (nI L)), (0, .ref (ad 0)), (1, .int (nI b))]) X.1 X.2.1 dL_finishes_62 hl (by decide) rfl (fun ls hl => ?_)
        have way64 : ∀ (B : Nat → Nat) (F1 : Nat → va_E) (hJB : HJ ca B) (hBe : ∀ i, i ≠ 80 + 6 * (9 * r + b) + 1 → B i = A i) (hm : eA B r b 1 ≤ rA A r 0 * rA A r 1) (hOB : OB ad cI cB cS F1 (nI 1) B A) (hfr : Fr F F1 0 111) (hx : rA A r 0 * rA A r 1 ≤ eA B r b 1) (H : Heap) (locs : List Loc) (hw : HW D (Af ad N s.heap.size) ad N F1 s H locs) (ls : Array Slot) (hl : lv_has ls 10 [(7, .int (nI (coN A r j))), (6, .int (nI j)), (5, .int (nI ((rA A r 0) * (rA A r 1)))), (4, .int (nI (A 0))), (3, .int (nI r)), (2, .int (nI L)), (0, .ref (ad 0)), (1, .int (nI b))]), W p l e { frames := 7, cells := 0, slots := 0, locals := 171 } s m [.ref (ad 0), .int (nI b)].toArray below meth c H locs 0 0 (MQ below (va_Qi (fun v F' => v = nI 1 ∧ OB ad cI cB cS F' (nI 1) A A ∧ Fr F F' 0 111) (fun F' t => PO D ad N F' t) (Af ad N s.heap.size)) [.ref (ad 0), .int (nI b)].toArray s 0 0 (Af ad N s.heap.size)) (F0 m 100 ls []) := by
          intro B F1 hJB hBe hm hOB hfr hx H locs hw ls hl
          have hB0 : B 0 = A 0 := hBe 0 (by omega)
          have hB1 : B 1 = A 1 := hBe 1 (by omega)
          have hB2 : B 2 = A 2 := hBe 2 (by omega)
          have hrB : r + 1 = B 2 := by omega
          have hs2 : eA B r b 0 = 2 := (hBe _ (by omega)).trans hs
          have hr0 : rA B r 0 = rA A r 0 := hBe _ (by omega)
          have hr1 : rA B r 1 = rA A r 1 := hBe _ (by omega)
          have hop2 : opn B := (opn_r hrB).mpr ((hBe _ (by omega)).trans hop)
          have hal2 : rA B r 0 * rA B r 1 = rA A r 0 * rA A r 1 := by rw [hr0, hr1]
          refine lv_iload_n X.1 X.2.1 dL_finishes_100 rfl (lv_at hl 5 rfl) ?_
          refine lv_bipush (v := (-5)) X.1 X.2.1 dL_finishes_101 (by decide) ?_
          refine lv_icmp_eq (tgt := 115) X.1 X.2.1 dL_finishes_103 (by decide) (fun c120 => ?_) (fun c120 => ?_)
          · exact absurd c120 (nI_neN (by omega) (by decide))
          · refine lv_iload_n X.1 X.2.1 dL_finishes_106 rfl (lv_at hl 5 rfl) ?_
            refine lv_if_lt (tgt := 119) X.1 X.2.1 dL_finishes_107 (by decide) (fun c121 => ?_) (fun c121 => ?_)
            · exact absurd ((bz_lt (by omega)).mp c121) (by omega)
            · have n122 : ¬ L < 0 := fun z => c121 ((bz_lt (by omega)).mpr z)
              refine lv_iload X.1 X.2.1 dL_finishes_110 (lv_at hl 1 rfl) ?_
              refine lv_if_lt (tgt := 119) X.1 X.2.1 dL_finishes_112 (by decide) (fun c123 => ?_) (fun c123 => ?_)
              · exact absurd ((bz_lt (by omega)).mp c123) (by omega)
              · have n124 : ¬ j < 0 := fun z => c123 ((bz_lt (by omega)).mpr z)
                refine lv_iconst (v := nI 1) X.1 X.2.1 dL_finishes_115 (by decide) ?_
                refine lv_goto (tgt := 120) X.1 X.2.1 dL_finishes_116 (by decide) ?_
                refine lv_istore (lv' := [(8, .int (nI 1)), (7, .int (nI (coN A r j))), (6, .int (nI j)), (5, .int (nI ((rA A r 0) * (rA A r 1)))), (4, .int (nI (A 0))), (3, .int (nI r)), (2, .int (nI L)), (0, .ref (ad 0)), (1, .int (nI b))]) X.1 X.2.1 dL_finishes_120 hl (by decide) rfl (fun ls hl => ?_)
                refine lv_iload_n X.1 X.2.1 dL_finishes_122 rfl (lv_at hl 6 rfl) ?_
                refine lv_if_le (tgt := 146) X.1 X.2.1 dL_finishes_123 (by decide) (fun c125 => ?_) (fun c125 => ?_)
                · have n126 := (bz_le (by omega)).mp c125
                  refine lv_iload X.1 X.2.1 dL_finishes_146 (lv_at hl 0 rfl) ?_
                  refine lv_if_eq (tgt := 208) X.1 X.2.1 dL_finishes_148 (by decide) (fun c127 => ?_) (fun c127 => ?_)
                  · exact absurd c127 (by decide)
                  · have xB : ∀ i, i ≠ 0 → i ≠ 80 + 6 * (9 * r + b) + 1 → B i = A i := fun i h1 h2 => hBe i h2
                    have hrB : r + 1 = B 2 := by omega
                    have s2B : eA B r b 0 = 2 := hs2
                    have opB : opn B := hop2
                    have alB : eA B r b 1 = rA B r 0 * rA B r 1 := by rw [hr0, hr1]; omega
                    refine lv_aload_n X.1 X.2.1 dL_finishes_151 rfl (lv_at hl 7 rfl) ?_
                    refine lv_iload_n X.1 X.2.1 dL_finishes_152 rfl (lv_at hl 8 rfl) ?_
                    refine x_callV X hK hw (k := 0) (As := [.int (nI b)]) (rest := []) (w_line hI (by omega) hOB (nI b) (fun g t hE => a_line_fi_r hrB hJB opB (by omega) s2B alB hE)) (x_cwV yX7_line cX7_line 2 (some .int) 1 X q353 q354 q355 q1 q356 hd_X7_line ⟨(Nat.le_of_ble_eq_true rfl), (Nat.le_of_ble_eq_true rfl)⟩) (by omega) hOB.ma rfl rfl hl.1 rfl (Nat.le_of_ble_eq_true rfl) dL_finishes_153 ⟨(Nat.le_of_ble_eq_true rfl), (Nat.le_of_ble_eq_true rfl)⟩ (fun v128 F129 H locs hp hw => ?_)
                    obtain ⟨e130, hO131, hf132⟩ := hp
                    refine x_top e130 ?_
                    replace hfr := hfr.tr hf132 (by omega) (by omega)
                    obtain ⟨B133, hB133⟩ : ∃ y, y = ep (ep B r b 5 (B 0)) r b 0 3 := ⟨_, rfl⟩
                    rw [← hB133] at hO131
                    have jB133 : HJ ca B133 := by rw [hB133]; exact j_fin_r hrB hJB opB (by omega) s2B alB
                    have qB133 : ∀ i, i ≠ 80 + 6 * (9 * r + b) + 0 → i ≠ 80 + 6 * (9 * r + b) + 5 → B133 i = B i := fun i h1 h2 => by rw [hB133]; exact (nup_ne h1).trans (nup_ne h2)
                    have hDfB133 : eA B133 r b 0 = 3 := by rw [hB133]; exact ep_at
                    have d5B133 : eA B133 r b 5 = B 0 := by rw [hB133]; exact (nup_ne (by omega)).trans ep_at
                    have d0B133 : B133 0 = B 0 := qB133 0 (by omega) (by omega)
                    have d1B133 : B133 1 = A 1 := (qB133 1 (by omega) (by omega)).trans (by omega)
                    have d2B133 : B133 2 = A 2 := (qB133 2 (by omega) (by omega)).trans (by omega)
                    have d3B133 : eA B133 r b 3 = eA A r b 3 := (qB133 _ (by omega) (by omega)).trans (xB _ (by omega) (by omega))
                    have dsB133 : rA B133 r 2 = rA A r 2 := (qB133 _ (by omega) (by omega)).trans (xB _ (by omega) (by omega))
                    have d7B133 : B133 (7 + b) = A (7 + b) := (qB133 _ (by omega) (by omega)).trans (xB _ (by omega) (by omega))
                    have dcB133 : coN B133 r b = 100 * (B 0 - rA A r 2 + eA A r b 3) / A (7 + b) := by unfold coN elN; rw [d5B133, d3B133, dsB133, d7B133]
                    have dbB133 := co_b jB133 hc (by omega) (r := r) (b := b) (by omega) (by omega)
                    have dw : coN B133 r b < coN A r j := by rw [dcB133]; exact (Nat.div_lt_iff_lt_mul (by omega)).mpr (by rw [← hbd]; omega)
                    refine lv_iconst (v := nI 3) X.1 X.2.1 dL_finishes_156 (by decide) ?_
                    refine lv_icmp_ne (tgt := 208) X.1 X.2.1 dL_finishes_157 (by decide) (fun c134 => ?_) (fun c134 => ?_)
                    · exact absurd (by decide) c134
                    · refine lv_iload X.1 X.2.1 dL_finishes_160 (lv_at hl 1 rfl) ?_
                      refine lv_if_lt (tgt := 195) X.1 X.2.1 dL_finishes_162 (by decide) (fun c135 => ?_) (fun c135 => ?_)
                      · exact absurd ((bz_lt (by omega)).mp c135) (by omega)
                      · have n136 : ¬ (coN A r j) < 0 := fun z => c135 ((bz_lt (by omega)).mpr z)
                        refine lv_aload_n X.1 X.2.1 dL_finishes_165 rfl (lv_at hl 7 rfl) ?_
                        refine lv_iload_n X.1 X.2.1 dL_finishes_166 rfl (lv_at hl 5 rfl) ?_
                        refine lv_iload_n X.1 X.2.1 dL_finishes_167 rfl (lv_at hl 8 rfl) ?_
                        refine lv_bipush (v := nI 6) X.1 X.2.1 dL_finishes_168 (by decide) ?_
                        refine x_callV X hK hw (k := 0) (As := [.int (nI r), .int (nI b), .int (nI 6)]) (rest := []) (w_result hI (by omega) jB133.1.1 hO131 (nI r) (nI b) (nI 6) (fun g t tm hE => (a_res6 jB133 hc (by omega) hE (by omega) (by omega) tm).trans (co_n jB133 hc (by omega) (by omega) (by omega) hDfB133))) (x_cwV yX7_result cX7_result 4 (some .int) 3 X q695 q696 q697 q1 q698 hd_X7_result ⟨(Nat.le_of_ble_eq_true rfl), (Nat.le_of_ble_eq_true rfl)⟩) (by omega) hO131.ma rfl rfl hl.1 rfl (Nat.le_of_ble_eq_true rfl) dL_finishes_170 ⟨(Nat.le_of_ble_eq_true rfl), (Nat.le_of_ble_eq_true rfl)⟩ (fun v137 F138 H locs hp hw => ?_)
                        obtain ⟨e139, hO140, hf141⟩ := hp
                        refine x_top e139 ?_
                        replace hfr := hfr.tr hf141 (by omega) (by omega)
                        refine lv_iload X.1 X.2.1 dL_finishes_173 (lv_at hl 1 rfl) ?_
                        refine lv_icmp_ge (tgt := 182) X.1 X.2.1 dL_finishes_175 (by decide) (fun c142 => ?_) (fun c142 => ?_)
                        · exact absurd ((nI_leI (by omega) (by omega)).mp c142) (by omega)
                        · have n143 : ¬ (coN A r j) ≤ (coN B133 r b) := fun z => c142 ((nI_leI (by omega) (by omega)).mpr z)
                          refine lv_iconst (v := nI 1) X.1 X.2.1 dL_finishes_178 (by decide) ?_
                          refine lv_goto (tgt := 183) X.1 X.2.1 dL_finishes_179 (by decide) ?_
                          refine lv_iload_n X.1 X.2.1 dL_finishes_183 rfl (lv_at hl 6 rfl) ?_
                          refine lv_if_lt (tgt := 191) X.1 X.2.1 dL_finishes_184 (by decide) (fun c144 => ?_) (fun c144 => ?_)
                          · exact absurd ((bz_lt (by omega)).mp c144) (by omega)
                          · have n145 : ¬ L < 0 := fun z => c144 ((bz_lt (by omega)).mpr z)
                            refine lv_iconst (v := nI 1) X.1 X.2.1 dL_finishes_187 (by decide) ?_
                            refine lv_goto (tgt := 192) X.1 X.2.1 dL_finishes_188 (by decide) ?_
                            refine lv_icmp_ne (tgt := 208) X.1 X.2.1 dL_finishes_192 (by decide) (fun c146 => ?_) (fun c146 => ?_)
                            · exact absurd (by decide) c146
                            · refine lv_aload_n X.1 X.2.1 dL_finishes_195 rfl (lv_at hl 7 rfl) ?_
                              refine x_callV X hK hw (k := 0) (As := []) (rest := []) (w_restore hI (by omega) hO140) (x_cwV yX7_restore cX7_restore 1 (some .int) 0 X q691 q692 q693 q1 q694 hd_X7_restore ⟨(Nat.le_of_ble_eq_true rfl), (Nat.le_of_ble_eq_true rfl)⟩) (by omega) hO140.ma rfl rfl hl.1 rfl (Nat.le_of_ble_eq_true rfl) dL_finishes_196 ⟨(Nat.le_of_ble_eq_true rfl), (Nat.le_of_ble_eq_true rfl)⟩ (fun v147 F148 H locs hp hw => ?_)
                              obtain ⟨e149, hO150, hf151⟩ := hp
                              refine x_top e149 ?_
                              replace hfr := hfr.tr hf151 (by omega) (by omega)
                              refine lv_iload X.1 X.2.1 dL_finishes_199 (lv_at hl 4 rfl) ?_
                              refine lv_icmp_ne (tgt := 208) X.1 X.2.1 dL_finishes_201 (by decide) (fun c152 => ?_) (fun c152 => ?_)
                              · exact absurd ((nI_eq (by omega) (by omega)).mpr (by omega)) c152
                              · have n153 := (nI_eq (by omega) (by omega)).mp c152
                                refine lv_iconst (v := nI 1) X.1 X.2.1 dL_finishes_204 (by decide) ?_
                                refine lv_goto (tgt := 209) X.1 X.2.1 dL_finishes_205 (by decide) ?_
                                refine lv_istore (lv' := [(8, .int (nI 1)), (7, .int (nI (coN A r j))), (6, .int (nI j)), (5, .int (nI ((rA A r 0) * (rA A r 1)))), (4, .int (nI (A 0))), (3, .int (nI r)), (2, .int (nI L)), (0, .ref (ad 0)), (1, .int (nI b))]) X.1 X.2.1 dL_finishes_209 hl (by decide) rfl (fun ls hl => ?_)
                                refine lv_iload X.1 X.2.1 dL_finishes_211 (lv_at hl 0 rfl) ?_
                                refine lv_if_eq (tgt := 220) X.1 X.2.1 dL_finishes_213 (by decide) (fun c154 => ?_) (fun c154 => ?_)
                                · exact absurd c154 (by decide)
                                · refine lv_iload_n X.1 X.2.1 dL_finishes_216 rfl (lv_at hl 6 rfl) ?_
                                  refine lv_if_ge (tgt := 223) X.1 X.2.1 dL_finishes_217 (by decide) (fun c155 => ?_) (fun c155 => ?_)
                                  · have n156 := (bz_ge (by omega)).mp c155
                                    have way223 : ∀ (B : Nat → Nat) (F1 : Nat → va_E) (hJB : HJ ca B) (hBe : ∀ i, i ≠ 80 + 6 * (9 * r + b) + 1 → B i = A i) (hm : eA B r b 1 ≤ rA A r 0 * rA A r 1) (hOB : OB ad cI cB cS F1 (nI 1) B A) (hfr : Fr F F1 0 111) (hx : rA A r 0 * rA A r 1 ≤ eA B r b 1) (H : Heap) (locs : List Loc) (hw : HW D (Af ad N s.heap.size) ad N F1 s H locs) (ls : Array Slot) (hl : lv_has ls 10 [(8, .int (nI 1)), (7, .int (nI (coN A r j))), (6, .int (nI j)), (5, .int (nI ((rA A r 0) * (rA A r 1)))), (4, .int (nI (A 0))), (3, .int (nI r)), (2, .int (nI L)), (0, .ref (ad 0)), (1, .int (nI b))]), W p l e { frames := 7, cells := 0, slots := 0, locals := 171 } s m [.ref (ad 0), .int (nI b)].toArray below meth c H locs 0 0 (MQ below (va_Qi (fun v F' => v = nI 1 ∧ OB ad cI cB cS F' (nI 1) A A ∧ Fr F F' 0 111) (fun F' t => PO D ad N F' t) (Af ad N s.heap.size)) [.ref (ad 0), .int (nI b)].toArray s 0 0 (Af ad N s.heap.size)) (F0 m 259 ls []) := by
                                      intro B F1 hJB hBe hm hOB hfr hx H locs hw ls hl
                                      have hB0 : B 0 = A 0 := hBe 0 (by omega)
                                      have hB1 : B 1 = A 1 := hBe 1 (by omega)
                                      have hB2 : B 2 = A 2 := hBe 2 (by omega)
                                      have hrB : r + 1 = B 2 := by omega
                                      have hs2 : eA B r b 0 = 2 := (hBe _ (by omega)).trans hs
                                      have hr0 : rA B r 0 = rA A r 0 := hBe _ (by omega)
                                      have hr1 : rA B r 1 = rA A r 1 := hBe _ (by omega)
                                      have hop2 : opn B := (opn_r hrB).mpr ((hBe _ (by omega)).trans hop)
                                      have hal2 : rA B r 0 * rA B r 1 = rA A r 0 * rA A r 1 := by rw [hr0, hr1]
                                      refine lv_aload_n X.1 X.2.1 dL_finishes_259 rfl (lv_at hl 7 rfl) ?_
                                      refine lv_iload_n X.1 X.2.1 dL_finishes_260 rfl (lv_at hl 6 rfl) ?_
                                      refine lv_iconst (v := nI 1) X.1 X.2.1 dL_finishes_261 (by decide) ?_
                                      refine lv_iadd X.1 X.2.1 dL_finishes_262 ?_
                                      refine x_top (nI_add _ _) ?_
                                      refine x_callS X hK hw (As := [.ref (ad 0), .int (nI (L + 1))]) (rest := []) (k_L_waits hI (by omega) hJB hc (by omega) hOB (n := L + 1) (by omega)) (x_cwS yL_waits cL_waits 6 (some .boolean) 2 X q1404 q1405 q0 q1406 hd_L_waits ⟨(Nat.le_of_ble_eq_true rfl), (Nat.le_of_ble_eq_true rfl)⟩) rfl hl.1 rfl (Nat.le_of_ble_eq_true rfl) dL_finishes_263 ⟨(Nat.le_of_ble_eq_true rfl), (Nat.le_of_ble_eq_true rfl)⟩ (fun v157 F158 H locs hp hw => ?_)
                                      obtain ⟨e159, hO160, hf161⟩ := hp
                                      refine x_top e159 ?_
                                      replace hfr := hfr.tr hf161 (by omega) (by omega)
                                      obtain ⟨B162, hB162⟩ : ∃ y, y = nup B 0 (B 0 + (L + 1)) := ⟨_, rfl⟩
                                      rw [← hB162] at hO160
                                      have jB162 : HJ ca B162 := by rw [hB162]; exact j_pass hJB
                                      have zB162 : B162 0 = B 0 + (L + 1) := by rw [hB162]; exact nup_at
                                      have yB162 : ∀ i, i ≠ 0 → B162 i = B i := fun i hi => by rw [hB162]; exact nup_ne hi
                                      have xB162 : ∀ i, i ≠ 0 → i ≠ 80 + 6 * (9 * r + b) + 1 → B162 i = A i := fun i h1 h2 => (yB162 i h1).trans (hBe i h2)
                                      have w1B162 : B162 1 = A 1 := xB162 1 (by omega) (by omega)
                                      have w2B162 : B162 2 = A 2 := xB162 2 (by omega) (by omega)
                                      have hrB162 : r + 1 = B162 2 := by omega
                                      have s2B162 : eA B162 r b 0 = 2 := (xB162 _ (by omega) (by omega)).trans hs
                                      have opB162 : opn B162 := (opn_r hrB162).mpr ((xB162 _ (by omega) (by omega)).trans hop)
                                      have alB162 : eA B162 r b 1 = rA B162 r 0 * rA B162 r 1 := by rw [show rA B162 r 0 = rA A r 0 from xB162 _ (by omega) (by omega), show rA B162 r 1 = rA A r 1 from xB162 _ (by omega) (by omega), show eA B162 r b 1 = eA B r b 1 from yB162 _ (by omega)]; omega
                                      refine lv_if_eq (tgt := 304) X.1 X.2.1 dL_finishes_266 (by decide) (fun c163 => ?_) (fun c163 => ?_)
                                      · exact absurd c163 (by decide)
                                      · refine lv_aload_n X.1 X.2.1 dL_finishes_269 rfl (lv_at hl 7 rfl) ?_
                                        refine lv_iload_n X.1 X.2.1 dL_finishes_270 rfl (lv_at hl 8 rfl) ?_
                                        refine x_callV X hK hw (k := 0) (As := [.int (nI b)]) (rest := []) (w_line hI (by omega) hO160 (nI b) (fun g t hE => a_line_fi_r hrB162 jB162 opB162 (by omega) s2B162 alB162 hE)) (x_cwV yX7_line cX7_line 2 (some .int) 1 X q353 q354 q355 q1 q356 hd_X7_line ⟨(Nat.le_of_ble_eq_true rfl), (Nat.le_of_ble_eq_true rfl)⟩) (by omega) hO160.ma rfl rfl hl.1 rfl (Nat.le_of_ble_eq_true rfl) dL_finishes_271 ⟨(Nat.le_of_ble_eq_true rfl), (Nat.le_of_ble_eq_true rfl)⟩ (fun v164 F165 H locs hp hw => ?_)
                                        obtain ⟨e166, hO167, hf168⟩ := hp
                                        refine x_top e166 ?_
                                        replace hfr := hfr.tr hf168 (by omega) (by omega)
                                        obtain ⟨B169, hB169⟩ : ∃ y, y = ep (ep B162 r b 5 (B162 0)) r b 0 3 := ⟨_, rfl⟩
                                        rw [← hB169] at hO167
                                        have jB169 : HJ ca B169 := by rw [hB169]; exact j_fin_r hrB162 jB162 opB162 (by omega) s2B162 alB162
                                        have qB169 : ∀ i, i ≠ 80 + 6 * (9 * r + b) + 0 → i ≠ 80 + 6 * (9 * r + b) + 5 → B169 i = B162 i := fun i h1 h2 => by rw [hB169]; exact (nup_ne h1).trans (nup_ne h2)
                                        have hDfB169 : eA B169 r b 0 = 3 := by rw [hB169]; exact ep_at
                                        have d5B169 : eA B169 r b 5 = B162 0 := by rw [hB169]; exact (nup_ne (by omega)).trans ep_at
                                        have d0B169 : B169 0 = B162 0 := qB169 0 (by omega) (by omega)
                                        have d1B169 : B169 1 = A 1 := (qB169 1 (by omega) (by omega)).trans (by omega)
                                        have d2B169 : B169 2 = A 2 := (qB169 2 (by omega) (by omega)).trans (by omega)
                                        have d3B169 : eA B169 r b 3 = eA A r b 3 := (qB169 _ (by omega) (by omega)).trans (xB162 _ (by omega) (by omega))
                                        have dsB169 : rA B169 r 2 = rA A r 2 := (qB169 _ (by omega) (by omega)).trans (xB162 _ (by omega) (by omega))
                                        have d7B169 : B169 (7 + b) = A (7 + b) := (qB169 _ (by omega) (by omega)).trans (xB162 _ (by omega) (by omega))
                                        have dcB169 : coN B169 r b = 100 * (B162 0 - rA A r 2 + eA A r b 3) / A (7 + b) := by unfold coN elN; rw [d5B169, d3B169, dsB169, d7B169]
                                        have dbB169 := co_b jB169 hc (by omega) (r := r) (b := b) (by omega) (by omega)
                                        have dw : coN A r j ≤ coN B169 r b := by rw [dcB169]; exact (Nat.le_div_iff_mul_le (by omega)).mpr (by rw [← hbd]; omega)
                                        refine lv_iconst (v := nI 3) X.1 X.2.1 dL_finishes_274 (by decide) ?_
                                        refine lv_icmp_ne (tgt := 304) X.1 X.2.1 dL_finishes_275 (by decide) (fun c170 => ?_) (fun c170 => ?_)
                                        · exact absurd (by decide) c170
                                        · refine lv_aload_n X.1 X.2.1 dL_finishes_278 rfl (lv_at hl 7 rfl) ?_
                                          refine lv_iload_n X.1 X.2.1 dL_finishes_279 rfl (lv_at hl 5 rfl) ?_
                                          refine lv_iload_n X.1 X.2.1 dL_finishes_280 rfl (lv_at hl 8 rfl) ?_
                                          refine lv_bipush (v := nI 6) X.1 X.2.1 dL_finishes_281 (by decide) ?_
                                          refine x_callV X hK hw (k := 0) (As := [.int (nI r), .int (nI b), .int (nI 6)]) (rest := []) (w_result hI (by omega) jB169.1.1 hO167 (nI r) (nI b) (nI 6) (fun g t tm hE => (a_res6 jB169 hc (by omega) hE (by omega) (by omega) tm).trans (co_n jB169 hc (by omega) (by omega) (by omega) hDfB169))) (x_cwV yX7_result cX7_result 4 (some .int) 3 X q695 q696 q697 q1 q698 hd_X7_result ⟨(Nat.le_of_ble_eq_true rfl), (Nat.le_of_ble_eq_true rfl)⟩) (by omega) hO167.ma rfl rfl hl.1 rfl (Nat.le_of_ble_eq_true rfl) dL_finishes_283 ⟨(Nat.le_of_ble_eq_true rfl), (Nat.le_of_ble_eq_true rfl)⟩ (fun v171 F172 H locs hp hw => ?_)
                                          obtain ⟨e173, hO174, hf175⟩ := hp
                                          refine x_top e173 ?_
                                          replace hfr := hfr.tr hf175 (by omega) (by omega)
                                          refine lv_iload X.1 X.2.1 dL_finishes_286 (lv_at hl 1 rfl) ?_
                                          refine lv_icmp_lt (tgt := 304) X.1 X.2.1 dL_finishes_288 (by decide) (fun c176 => ?_) (fun c176 => ?_)
                                          · exact absurd ((br_lt (by omega) (by omega)).mp c176) (by omega)
                                          · have n177 : ¬ (coN B169 r b) < (coN A r j) := fun z => c176 ((br_lt (by omega) (by omega)).mpr z)
                                            refine lv_aload_n X.1 X.2.1 dL_finishes_291 rfl (lv_at hl 7 rfl) ?_
                                            refine x_callV X hK hw (k := 0) (As := []) (rest := []) (w_restore hI (by omega) hO174) (x_cwV yX7_restore cX7_restore 1 (some .int) 0 X q691 q692 q693 q1 q694 hd_X7_restore ⟨(Nat.le_of_ble_eq_true rfl), (Nat.le_of_ble_eq_true rfl)⟩) (by omega) hO174.ma rfl rfl hl.1 rfl (Nat.le_of_ble_eq_true rfl) dL_finishes_292 ⟨(Nat.le_of_ble_eq_true rfl), (Nat.le_of_ble_eq_true rfl)⟩ (fun v178 F179 H locs hp hw => ?_)
                                            obtain ⟨e180, hO181, hf182⟩ := hp
                                            refine x_top e180 ?_
                                            replace hfr := hfr.tr hf182 (by omega) (by omega)
                                            refine lv_iload X.1 X.2.1 dL_finishes_295 (lv_at hl 4 rfl) ?_
                                            refine lv_icmp_ne (tgt := 304) X.1 X.2.1 dL_finishes_297 (by decide) (fun c183 => ?_) (fun c183 => ?_)
                                            · exact absurd ((nI_eq (by omega) (by omega)).mpr (by omega)) c183
                                            · have n184 := (nI_eq (by omega) (by omega)).mp c183
                                              refine lv_iconst (v := nI 1) X.1 X.2.1 dL_finishes_300 (by decide) ?_
                                              refine lv_goto (tgt := 305) X.1 X.2.1 dL_finishes_301 (by decide) ?_
                                              exact x_iret X hr hlk hK hw (v := nI 1) (by first | rfl | exact nr_b _ | decide) (⟨rfl, hO181, hfr⟩) dL_finishes_305
                                    have loop223 : ∀ (fu : Nat) (B : Nat → Nat) (F1 : Nat → va_E) (hfu : rA A r 0 * rA A r 1 ≤ eA B r b 1 + fu) (hJB : HJ ca B) (hBe : ∀ i, i ≠ 80 + 6 * (9 * r + b) + 1 → B i = A i) (hm : eA B r b 1 ≤ rA A r 0 * rA A r 1) (hOB : OB ad cI cB cS F1 (nI 1) B A) (hfr : Fr F F1 0 111) (H : Heap) (locs : List Loc) (hw : HW D (Af ad N s.heap.size) ad N F1 s H locs) (ls : Array Slot) (hl : lv_has ls 10 [(8, .int (nI 1)), (7, .int (nI (coN A r j))), (6, .int (nI j)), (5, .int (nI ((rA A r 0) * (rA A r 1)))), (4, .int (nI (A 0))), (3, .int (nI r)), (2, .int (nI L)), (0, .ref (ad 0)), (1, .int (nI b))]), W p l e { frames := 7, cells := 0, slots := 0, locals := 171 } s m [.ref (ad 0), .int (nI b)].toArray below meth c H locs 0 0 (MQ below (va_Qi (fun v F' => v = nI 1 ∧ OB ad cI cB cS F' (nI 1) A A ∧ Fr F F' 0 111) (fun F' t => PO D ad N F' t) (Af ad N s.heap.size)) [.ref (ad 0), .int (nI b)].toArray s 0 0 (Af ad N s.heap.size)) (F0 m 223 ls []) := by
                                      intro fu
                                      induction fu with
                                      | zero =>
                                        intro B F1 hfu hJB hBe hm hOB hfr H locs hw ls hl
                                        have hB0 : B 0 = A 0 := hBe 0 (by omega)
                                        have hB1 : B 1 = A 1 := hBe 1 (by omega)
                                        have hB2 : B 2 = A 2 := hBe 2 (by omega)
                                        have hrB : r + 1 = B 2 := by omega
                                        have hs2 : eA B r b 0 = 2 := (hBe _ (by omega)).trans hs
                                        have hr0 : rA B r 0 = rA A r 0 := hBe _ (by omega)
                                        have hr1 : rA B r 1 = rA A r 1 := hBe _ (by omega)
                                        have hop2 : opn B := (opn_r hrB).mpr ((hBe _ (by omega)).trans hop)
                                        have hal2 : rA B r 0 * rA B r 1 = rA A r 0 * rA A r 1 := by rw [hr0, hr1]
                                        refine lv_aload_n X.1 X.2.1 dL_finishes_223 rfl (lv_at hl 7 rfl) ?_
                                        refine lv_iload_n X.1 X.2.1 dL_finishes_224 rfl (lv_at hl 5 rfl) ?_
                                        refine lv_iload_n X.1 X.2.1 dL_finishes_225 rfl (lv_at hl 8 rfl) ?_
                                        refine lv_iconst (v := nI 1) X.1 X.2.1 dL_finishes_226 (by decide) ?_
                                        refine x_callV X hK hw (k := 0) (As := [.int (nI r), .int (nI b), .int (nI 1)]) (rest := []) (w_result hI (by omega) hJB.1.1 hOB (nI r) (nI b) (nI 1) (fun g t tm hE => a_res1 hJB hc (by omega) hE (by omega) (by omega) tm)) (x_cwV yX7_result cX7_result 4 (some .int) 3 X q695 q696 q697 q1 q698 hd_X7_result ⟨(Nat.le_of_ble_eq_true rfl), (Nat.le_of_ble_eq_true rfl)⟩) (by omega) hOB.ma rfl rfl hl.1 rfl (Nat.le_of_ble_eq_true rfl) dL_finishes_227 ⟨(Nat.le_of_ble_eq_true rfl), (Nat.le_of_ble_eq_true rfl)⟩ (fun v185 F186 H locs hp hw => ?_)
                                        obtain ⟨e187, hO188, hf189⟩ := hp
                                        refine x_top e187 ?_
                                        replace hfr := hfr.tr hf189 (by omega) (by omega)
                                        refine lv_iload X.1 X.2.1 dL_finishes_230 (lv_at hl 3 rfl) ?_
                                        refine lv_icmp_ge (tgt := 259) X.1 X.2.1 dL_finishes_232 (by decide) (fun c190 => ?_) (fun c190 => ?_)
                                        · have n191 := (nI_leI (by omega) (by omega)).mp c190
                                          exact way223 B F186 hJB hBe hm hO188 hfr n191 _ _ hw _ (lv_sub hl [0, 1, 2, 3, 4, 5, 6, 7, 8] rfl)
                                        · exact absurd ((nI_leI (by omega) (by omega)).mpr (by omega)) c190
                                      | succ fu ih =>
                                        intro B F1 hfu hJB hBe hm hOB hfr H locs hw ls hl
                                        have hB0 : B 0 = A 0 := hBe 0 (by omega)
                                        have hB1 : B 1 = A 1 := hBe 1 (by omega)
                                        have hB2 : B 2 = A 2 := hBe 2 (by omega)
                                        have hrB : r + 1 = B 2 := by omega
                                        have hs2 : eA B r b 0 = 2 := (hBe _ (by omega)).trans hs
                                        have hr0 : rA B r 0 = rA A r 0 := hBe _ (by omega)
                                        have hr1 : rA B r 1 = rA A r 1 := hBe _ (by omega)
                                        have hop2 : opn B := (opn_r hrB).mpr ((hBe _ (by omega)).trans hop)
                                        have hal2 : rA B r 0 * rA B r 1 = rA A r 0 * rA A r 1 := by rw [hr0, hr1]
                                        refine lv_aload_n X.1 X.2.1 dL_finishes_223 rfl (lv_at hl 7 rfl) ?_
                                        refine lv_iload_n X.1 X.2.1 dL_finishes_224 rfl (lv_at hl 5 rfl) ?_
                                        refine lv_iload_n X.1 X.2.1 dL_finishes_225 rfl (lv_at hl 8 rfl) ?_
                                        refine lv_iconst (v := nI 1) X.1 X.2.1 dL_finishes_226 (by decide) ?_
                                        refine x_callV X hK hw (k := 0) (As := [.int (nI r), .int (nI b), .int (nI 1)]) (rest := []) (w_result hI (by omega) hJB.1.1 hOB (nI r) (nI b) (nI 1) (fun g t tm hE => a_res1 hJB hc (by omega) hE (by omega) (by omega) tm)) (x_cwV yX7_result cX7_result 4 (some .int) 3 X q695 q696 q697 q1 q698 hd_X7_result ⟨(Nat.le_of_ble_eq_true rfl), (Nat.le_of_ble_eq_true rfl)⟩) (by omega) hOB.ma rfl rfl hl.1 rfl (Nat.le_of_ble_eq_true rfl) dL_finishes_227 ⟨(Nat.le_of_ble_eq_true rfl), (Nat.le_of_ble_eq_true rfl)⟩ (fun v192 F193 H locs hp hw => ?_)
                                        obtain ⟨e194, hO195, hf196⟩ := hp
                                        refine x_top e194 ?_
                                        replace hfr := hfr.tr hf196 (by omega) (by omega)
                                        refine lv_iload X.1 X.2.1 dL_finishes_230 (lv_at hl 3 rfl) ?_
                                        refine lv_icmp_ge (tgt := 259) X.1 X.2.1 dL_finishes_232 (by decide) (fun c197 => ?_) (fun c197 => ?_)
                                        · have n198 := (nI_leI (by omega) (by omega)).mp c197
                                          exact way223 B F193 hJB hBe hm hO195 hfr n198 _ _ hw _ (lv_sub hl [0, 1, 2, 3, 4, 5, 6, 7, 8] rfl)
                                        · have n199 : ¬ ((rA A r 0) * (rA A r 1)) ≤ (eA B r b 1) := fun z => c197 ((nI_leI (by omega) (by omega)).mpr z)
                                          refine lv_aload_n X.1 X.2.1 dL_finishes_235 rfl (lv_at hl 7 rfl) ?_
                                          refine lv_iload_n X.1 X.2.1 dL_finishes_236 rfl (lv_at hl 8 rfl) ?_
                                          refine lv_aload_n X.1 X.2.1 dL_finishes_237 rfl (lv_at hl 7 rfl) ?_
                                          refine lv_iload_n X.1 X.2.1 dL_finishes_238 rfl (lv_at hl 5 rfl) ?_
                                          refine lv_iload_n X.1 X.2.1 dL_finishes_239 rfl (lv_at hl 8 rfl) ?_
                                          refine lv_iconst (v := nI 1) X.1 X.2.1 dL_finishes_240 (by decide) ?_
                                          refine x_callV X hK hw (k := 0) (As := [.int (nI r), .int (nI b), .int (nI 1)]) (rest := [.int (nI b), .ref (ad 0)]) (w_result hI (by omega) hJB.1.1 hO195 (nI r) (nI b) (nI 1) (fun g t tm hE => a_res1 hJB hc (by omega) hE (by omega) (by omega) tm)) (x_cwV yX7_result cX7_result 4 (some .int) 3 X q695 q696 q697 q1 q698 hd_X7_result ⟨(Nat.le_of_ble_eq_true rfl), (Nat.le_of_ble_eq_true rfl)⟩) (by omega) hO195.ma rfl rfl hl.1 rfl (Nat.le_of_ble_eq_true rfl) dL_finishes_241 ⟨(Nat.le_of_ble_eq_true rfl), (Nat.le_of_ble_eq_true rfl)⟩ (fun v200 F201 H locs hp hw => ?_)
                                          obtain ⟨e202, hO203, hf204⟩ := hp
                                          refine x_top e202 ?_
                                          replace hfr := hfr.tr hf204 (by omega) (by omega)
                                          refine lv_aload_n X.1 X.2.1 dL_finishes_244 rfl (lv_at hl 7 rfl) ?_
                                          refine lv_iload_n X.1 X.2.1 dL_finishes_245 rfl (lv_at hl 5 rfl) ?_
                                          refine lv_iconst (v := nI 0) X.1 X.2.1 dL_finishes_246 (by decide) ?_
                                          refine x_callV X hK hw (k := 0) (As := [.int (nI r), .int (nI 0)]) (rest := [.int (nI (eA B r b 1)), .int (nI b), .ref (ad 0)]) (w_race hI (by omega) hJB.1.1 hO203 (nI r) (nI 0) (fun g t tm hE => a_rac0 hJB hc (by omega) hE (by omega) tm)) (x_cwV yX7_race cX7_race 3 (some .int) 2 X q804 q805 q806 q1 q807 hd_X7_race ⟨(Nat.le_of_ble_eq_true rfl), (Nat.le_of_ble_eq_true rfl)⟩) (by omega) hO203.ma rfl rfl hl.1 rfl (Nat.le_of_ble_eq_true rfl) dL_finishes_247 ⟨(Nat.le_of_ble_eq_true rfl), (Nat.le_of_ble_eq_true rfl)⟩ (fun v205 F206 H locs hp hw => ?_)
                                          obtain ⟨e207, hO208, hf209⟩ := hp
                                          refine x_top e207 ?_
                                          replace hfr := hfr.tr hf209 (by omega) (by omega)
                                          refine lv_irem X.1 X.2.1 dL_finishes_250 (fun z => by have := (bz_eq (by omega)).mp z; omega) ?_
                                          refine x_top (nI_mod (by omega) (by omega) (by omega)) ?_
                                          refine x_callV X hK hw (k := 0) (As := [.int (nI b), .int (nI ((eA B r b 1) % (rA B r 0)))]) (rest := []) (w_buoy hI (by omega) hO208 (nI b) (nI ((eA B r b 1) % (rA B r 0))) (fun g t hE => a_buoy_ok_r hrB hJB hop2 (by omega) (show (eA B r b 1) % (rA B r 0) < rA B r 0 from Nat.mod_lt _ (by omega)) hs2 rfl (by omega) hE)) (x_cwV yX7_buoy cX7_buoy 3 (some .int) 2 X q383 q384 q385 q1 q386 hd_X7_buoy ⟨(Nat.le_of_ble_eq_true rfl), (Nat.le_of_ble_eq_true rfl)⟩) (by omega) hO208.ma rfl rfl hl.1 rfl (Nat.le_of_ble_eq_true rfl) dL_finishes_251 ⟨(Nat.le_of_ble_eq_true rfl), (Nat.le_of_ble_eq_true rfl)⟩ (fun v210 F211 H locs hp hw => ?_)
                                          obtain ⟨e212, hO213, hf214⟩ := hp
                                          refine x_top e212 ?_
                                          replace hfr := hfr.tr hf214 (by omega) (by omega)
                                          obtain ⟨B215, hB215⟩ : ∃ y, y = ep B r b 1 (eA B r b 1 + 1) := ⟨_, rfl⟩
                                          rw [← hB215] at hO213
                                          have jB215 : HJ ca B215 := by rw [hB215]; exact j_made_r hrB hJB hop2 (by omega) hs2 (by omega)
                                          have eB215 : ∀ i, i ≠ 80 + 6 * (9 * r + b) + 1 → B215 i = A i := fun i hi => by rw [hB215]; exact (nup_ne hi).trans (hBe i hi)
                                          have mB215 : eA B215 r b 1 = eA B r b 1 + 1 := by rw [hB215]; exact ep_at
                                          refine lv_istore (lv' := [(9, .int (nI (eA B r b 1 + 1))), (8, .int (nI 1)), (7, .int (nI (coN A r j))), (6, .int (nI j)), (5, .int (nI ((rA A r 0) * (rA A r 1)))), (4, .int (nI (A 0))), (3, .int (nI r)), (2, .int (nI L)), (0, .ref (ad 0)), (1, .int (nI b))]) X.1 X.2.1 dL_finishes_254 hl (by decide) rfl (fun ls hl => ?_)
                                          refine lv_goto (tgt := 223) X.1 X.2.1 dL_finishes_256 (by decide) ?_
                                          exact ih B215 F211 (by omega) jB215 eB215 (by omega) hO213 hfr _ _ hw _ (lv_sub hl [1, 2, 3, 4, 5, 6, 7, 8, 9] rfl)
                                    exact loop223 (rA A r 0 * rA A r 1) A F148 (by omega) hJ (fun _ _ => rfl) (by omega) hO150 hfr _ _ hw _ (lv_sub hl [0, 1, 2, 3, 4, 5, 6, 7, 8] rfl)
                                  · exact absurd ((bz_ge (by omega)).mpr (by omega)) c155
                · have n216 : ¬ L ≤ 0 := fun z => c125 ((bz_le (by omega)).mpr z)
                  refine lv_iload X.1 X.2.1 dL_finishes_126 (lv_at hl 0 rfl) ?_
                  refine lv_if_eq (tgt := 143) X.1 X.2.1 dL_finishes_128 (by decide) (fun c217 => ?_) (fun c217 => ?_)
                  · exact absurd c217 (by decide)
                  · refine lv_aload_n X.1 X.2.1 dL_finishes_131 rfl (lv_at hl 7 rfl) ?_
                    refine lv_iload_n X.1 X.2.1 dL_finishes_132 rfl (lv_at hl 6 rfl) ?_
                    refine x_callS X hK hw (As := [.ref (ad 0), .int (nI L)]) (rest := []) (k_L_waits hI (by omega) hJB hc (by omega) hOB (n := L) (by omega)) (x_cwS yL_waits cL_waits 6 (some .boolean) 2 X q1404 q1405 q0 q1406 hd_L_waits ⟨(Nat.le_of_ble_eq_true rfl), (Nat.le_of_ble_eq_true rfl)⟩) rfl hl.1 rfl (Nat.le_of_ble_eq_true rfl) dL_finishes_133 ⟨(Nat.le_of_ble_eq_true rfl), (Nat.le_of_ble_eq_true rfl)⟩ (fun v218 F219 H locs hp hw => ?_)
                    obtain ⟨e220, hO221, hf222⟩ := hp
                    refine x_top e220 ?_
                    replace hfr := hfr.tr hf222 (by omega) (by omega)
                    obtain ⟨B223, hB223⟩ : ∃ y, y = nup B 0 (B 0 + L) := ⟨_, rfl⟩
                    rw [← hB223] at hO221
                    have jB223 : HJ ca B223 := by rw [hB223]; exact j_pass hJB
                    have zB223 : B223 0 = B 0 + L := by rw [hB223]; exact nup_at
                    have yB223 : ∀ i, i ≠ 0 → B223 i = B i := fun i hi => by rw [hB223]; exact nup_ne hi
                    have xB223 : ∀ i, i ≠ 0 → i ≠ 80 + 6 * (9 * r + b) + 1 → B223 i = A i := fun i h1 h2 => (yB223 i h1).trans (hBe i h2)
                    have w1B223 : B223 1 = A 1 := xB223 1 (by omega) (by omega)
                    have w2B223 : B223 2 = A 2 := xB223 2 (by omega) (by omega)
                    have hrB223 : r + 1 = B223 2 := by omega
                    have s2B223 : eA B223 r b 0 = 2 := (xB223 _ (by omega) (by omega)).trans hs
                    have opB223 : opn B223 := (opn_r hrB223).mpr ((xB223 _ (by omega) (by omega)).trans hop)
                    have alB223 : eA B223 r b 1 = rA B223 r 0 * rA B223 r 1 := by rw [show rA B223 r 0 = rA A r 0 from xB223 _ (by omega) (by omega), show rA B223 r 1 = rA A r 1 from xB223 _ (by omega) (by omega), show eA B223 r b 1 = eA B r b 1 from yB223 _ (by omega)]; omega
                    refine lv_if_eq (tgt := 143) X.1 X.2.1 dL_finishes_136 (by decide) (fun c224 => ?_) (fun c224 => ?_)
                    · exact absurd c224 (by decide)
                    · refine lv_iconst (v := nI 1) X.1 X.2.1 dL_finishes_139 (by decide) ?_
                      refine lv_goto (tgt := 144) X.1 X.2.1 dL_finishes_140 (by decide) ?_
                      refine lv_istore (lv' := [(8, .int (nI 1)), (7, .int (nI (coN A r j))), (6, .int (nI j)), (5, .int (nI ((rA A r 0) * (rA A r 1)))), (4, .int (nI (A 0))), (3, .int (nI r)), (2, .int (nI L)), (0, .ref (ad 0)), (1, .int (nI b))]) X.1 X.2.1 dL_finishes_144 hl (by decide) rfl (fun ls hl => ?_)
                      refine lv_iload X.1 X.2.1 dL_finishes_146 (lv_at hl 0 rfl) ?_
                      refine lv_if_eq (tgt := 208) X.1 X.2.1 dL_finishes_148 (by decide) (fun c225 => ?_) (fun c225 => ?_)
                      · exact absurd c225 (by decide)
                      · refine lv_aload_n X.1 X.2.1 dL_finishes_151 rfl (lv_at hl 7 rfl) ?_
                        refine lv_iload_n X.1 X.2.1 dL_finishes_152 rfl (lv_at hl 8 rfl) ?_
                        refine x_callV X hK hw (k := 0) (As := [.int (nI b)]) (rest := []) (w_line hI (by omega) hO221 (nI b) (fun g t hE => a_line_fi_r hrB223 jB223 opB223 (by omega) s2B223 alB223 hE)) (x_cwV yX7_line cX7_line 2 (some .int) 1 X q353 q354 q355 q1 q356 hd_X7_line ⟨(Nat.le_of_ble_eq_true rfl), (Nat.le_of_ble_eq_true rfl)⟩) (by omega) hO221.ma rfl rfl hl.1 rfl (Nat.le_of_ble_eq_true rfl) dL_finishes_153 ⟨(Nat.le_of_ble_eq_true rfl), (Nat.le_of_ble_eq_true rfl)⟩ (fun v226 F227 H locs hp hw => ?_)
                        obtain ⟨e228, hO229, hf230⟩ := hp
                        refine x_top e228 ?_
                        replace hfr := hfr.tr hf230 (by omega) (by omega)
                        obtain ⟨B231, hB231⟩ : ∃ y, y = ep (ep B223 r b 5 (B223 0)) r b 0 3 := ⟨_, rfl⟩
                        rw [← hB231] at hO229
                        have jB231 : HJ ca B231 := by rw [hB231]; exact j_fin_r hrB223 jB223 opB223 (by omega) s2B223 alB223
                        have qB231 : ∀ i, i ≠ 80 + 6 * (9 * r + b) + 0 → i ≠ 80 + 6 * (9 * r + b) + 5 → B231 i = B223 i := fun i h1 h2 => by rw [hB231]; exact (nup_ne h1).trans (nup_ne h2)
                        have hDfB231 : eA B231 r b 0 = 3 := by rw [hB231]; exact ep_at
                        have d5B231 : eA B231 r b 5 = B223 0 := by rw [hB231]; exact (nup_ne (by omega)).trans ep_at
                        have d0B231 : B231 0 = B223 0 := qB231 0 (by omega) (by omega)
                        have d1B231 : B231 1 = A 1 := (qB231 1 (by omega) (by omega)).trans (by omega)
                        have d2B231 : B231 2 = A 2 := (qB231 2 (by omega) (by omega)).trans (by omega)
                        have d3B231 : eA B231 r b 3 = eA A r b 3 := (qB231 _ (by omega) (by omega)).trans (xB223 _ (by omega) (by omega))
                        have dsB231 : rA B231 r 2 = rA A r 2 := (qB231 _ (by omega) (by omega)).trans (xB223 _ (by omega) (by omega))
                        have d7B231 : B231 (7 + b) = A (7 + b) := (qB231 _ (by omega) (by omega)).trans (xB223 _ (by omega) (by omega))
                        have dcB231 : coN B231 r b = 100 * (B223 0 - rA A r 2 + eA A r b 3) / A (7 + b) := by unfold coN elN; rw [d5B231, d3B231, dsB231, d7B231]
                        have dbB231 := co_b jB231 hc (by omega) (r := r) (b := b) (by omega) (by omega)
                        have dw : coN B231 r b < coN A r j := by rw [dcB231]; exact (Nat.div_lt_iff_lt_mul (by omega)).mpr (by rw [← hbd]; omega)
                        refine lv_iconst (v := nI 3) X.1 X.2.1 dL_finishes_156 (by decide) ?_
                        refine lv_icmp_ne (tgt := 208) X.1 X.2.1 dL_finishes_157 (by decide) (fun c232 => ?_) (fun c232 => ?_)
                        · exact absurd (by decide) c232
                        · refine lv_iload X.1 X.2.1 dL_finishes_160 (lv_at hl 1 rfl) ?_
                          refine lv_if_lt (tgt := 195) X.1 X.2.1 dL_finishes_162 (by decide) (fun c233 => ?_) (fun c233 => ?_)
                          · exact absurd ((bz_lt (by omega)).mp c233) (by omega)
                          · have n234 : ¬ (coN A r j) < 0 := fun z => c233 ((bz_lt (by omega)).mpr z)
                            refine lv_aload_n X.1 X.2.1 dL_finishes_165 rfl (lv_at hl 7 rfl) ?_
                            refine lv_iload_n X.1 X.2.1 dL_finishes_166 rfl (lv_at hl 5 rfl) ?_
                            refine lv_iload_n X.1 X.2.1 dL_finishes_167 rfl (lv_at hl 8 rfl) ?_
                            refine lv_bipush (v := nI 6) X.1 X.2.1 dL_finishes_168 (by decide) ?_
                            refine x_callV X hK hw (k := 0) (As := [.int (nI r), .int (nI b), .int (nI 6)]) (rest := []) (w_result hI (by omega) jB231.1.1 hO229 (nI r) (nI b) (nI 6) (fun g t tm hE => (a_res6 jB231 hc (by omega) hE (by omega) (by omega) tm).trans (co_n jB231 hc (by omega) (by omega) (by omega) hDfB231))) (x_cwV yX7_result cX7_result 4 (some .int) 3 X q695 q696 q697 q1 q698 hd_X7_result ⟨(Nat.le_of_ble_eq_true rfl), (Nat.le_of_ble_eq_true rfl)⟩) (by omega) hO229.ma rfl rfl hl.1 rfl (Nat.le_of_ble_eq_true rfl) dL_finishes_170 ⟨(Nat.le_of_ble_eq_true rfl), (Nat.le_of_ble_eq_true rfl)⟩ (fun v235 F236 H locs hp hw => ?_)
                            obtain ⟨e237, hO238, hf239⟩ := hp
                            refine x_top e237 ?_
                            replace hfr := hfr.tr hf239 (by omega) (by omega)
                            refine lv_iload X.1 X.2.1 dL_finishes_173 (lv_at hl 1 rfl) ?_
                            refine lv_icmp_ge (tgt := 182) X.1 X.2.1 dL_finishes_175 (by decide) (fun c240 => ?_) (fun c240 => ?_)
                            · exact absurd ((nI_leI (by omega) (by omega)).mp c240) (by omega)
                            · have n241 : ¬ (coN A r j) ≤ (coN B231 r b) := fun z => c240 ((nI_leI (by omega) (by omega)).mpr z)
                              refine lv_iconst (v := nI 1) X.1 X.2.1 dL_finishes_178 (by decide) ?_
                              refine lv_goto (tgt := 183) X.1 X.2.1 dL_finishes_179 (by decide) ?_
                              refine lv_iload_n X.1 X.2.1 dL_finishes_183 rfl (lv_at hl 6 rfl) ?_
                              refine lv_if_lt (tgt := 191) X.1 X.2.1 dL_finishes_184 (by decide) (fun c242 => ?_) (fun c242 => ?_)
                              · exact absurd ((bz_lt (by omega)).mp c242) (by omega)
                              · have n243 : ¬ L < 0 := fun z => c242 ((bz_lt (by omega)).mpr z)
                                refine lv_iconst (v := nI 1) X.1 X.2.1 dL_finishes_187 (by decide) ?_
                                refine lv_goto (tgt := 192) X.1 X.2.1 dL_finishes_188 (by decide) ?_
                                refine lv_icmp_ne (tgt := 208) X.1 X.2.1 dL_finishes_192 (by decide) (fun c244 => ?_) (fun c244 => ?_)
                                · exact absurd (by decide) c244
                                · refine lv_aload_n X.1 X.2.1 dL_finishes_195 rfl (lv_at hl 7 rfl) ?_
                                  refine x_callV X hK hw (k := 0) (As := []) (rest := []) (w_restore hI (by omega) hO238) (x_cwV yX7_restore cX7_restore 1 (some .int) 0 X q691 q692 q693 q1 q694 hd_X7_restore ⟨(Nat.le_of_ble_eq_true rfl), (Nat.le_of_ble_eq_true rfl)⟩) (by omega) hO238.ma rfl rfl hl.1 rfl (Nat.le_of_ble_eq_true rfl) dL_finishes_196 ⟨(Nat.le_of_ble_eq_true rfl), (Nat.le_of_ble_eq_true rfl)⟩ (fun v245 F246 H locs hp hw => ?_)
                                  obtain ⟨e247, hO248, hf249⟩ := hp
                                  refine x_top e247 ?_
                                  replace hfr := hfr.tr hf249 (by omega) (by omega)
                                  refine lv_iload X.1 X.2.1 dL_finishes_199 (lv_at hl 4 rfl) ?_
                                  refine lv_icmp_ne (tgt := 208) X.1 X.2.1 dL_finishes_201 (by decide) (fun c250 => ?_) (fun c250 => ?_)
                                  · exact absurd ((nI_eq (by omega) (by omega)).mpr (by omega)) c250
                                  · have n251 := (nI_eq (by omega) (by omega)).mp c250
                                    refine lv_iconst (v := nI 1) X.1 X.2.1 dL_finishes_204 (by decide) ?_
                                    refine lv_goto (tgt := 209) X.1 X.2.1 dL_finishes_205 (by decide) ?_
                                    refine lv_istore (lv' := [(8, .int (nI 1)), (7, .int (nI (coN A r j))), (6, .int (nI j)), (5, .int (nI ((rA A r 0) * (rA A r 1)))), (4, .int (nI (A 0))), (3, .int (nI r)), (2, .int (nI L)), (0, .ref (ad 0)), (1, .int (nI b))]) X.1 X.2.1 dL_finishes_209 hl (by decide) rfl (fun ls hl => ?_)
                                    refine lv_iload X.1 X.2.1 dL_finishes_211 (lv_at hl 0 rfl) ?_
                                    refine lv_if_eq (tgt := 220) X.1 X.2.1 dL_finishes_213 (by decide) (fun c252 => ?_) (fun c252 => ?_)
                                    · exact absurd c252 (by decide)
                                    · refine lv_iload_n X.1 X.2.1 dL_finishes_216 rfl (lv_at hl 6 rfl) ?_
                                      refine lv_if_ge (tgt := 223) X.1 X.2.1 dL_finishes_217 (by decide) (fun c253 => ?_) (fun c253 => ?_)
                                      · have n254 := (bz_ge (by omega)).mp c253
                                        have way223 : ∀ (B : Nat → Nat) (F1 : Nat → va_E) (hJB : HJ ca B) (hBe : ∀ i, i ≠ 80 + 6 * (9 * r + b) + 1 → B i = A i) (hm : eA B r b 1 ≤ rA A r 0 * rA A r 1) (hOB : OB ad cI cB cS F1 (nI 1) B A) (hfr : Fr F F1 0 111) (hx : rA A r 0 * rA A r 1 ≤ eA B r b 1) (H : Heap) (locs : List Loc) (hw : HW D (Af ad N s.heap.size) ad N F1 s H locs) (ls : Array Slot) (hl : lv_has ls 10 [(8, .int (nI 1)), (7, .int (nI (coN A r j))), (6, .int (nI j)), (5, .int (nI ((rA A r 0) * (rA A r 1)))), (4, .int (nI (A 0))), (3, .int (nI r)), (2, .int (nI L)), (0, .ref (ad 0)), (1, .int (nI b))]), W p l e { frames := 7, cells := 0, slots := 0, locals := 171 } s m [.ref (ad 0), .int (nI b)].toArray below meth c H locs 0 0 (MQ below (va_Qi (fun v F' => v = nI 1 ∧ OB ad cI cB cS F' (nI 1) A A ∧ Fr F F' 0 111) (fun F' t => PO D ad N F' t) (Af ad N s.heap.size)) [.ref (ad 0), .int (nI b)].toArray s 0 0 (Af ad N s.heap.size)) (F0 m 259 ls []) := by
                                          intro B F1 hJB hBe hm hOB hfr hx H locs hw ls hl
                                          have hB0 : B 0 = A 0 := hBe 0 (by omega)
                                          have hB1 : B 1 = A 1 := hBe 1 (by omega)
                                          have hB2 : B 2 = A 2 := hBe 2 (by omega)
                                          have hrB : r + 1 = B 2 := by omega
                                          have hs2 : eA B r b 0 = 2 := (hBe _ (by omega)).trans hs
                                          have hr0 : rA B r 0 = rA A r 0 := hBe _ (by omega)
                                          have hr1 : rA B r 1 = rA A r 1 := hBe _ (by omega)
                                          have hop2 : opn B := (opn_r hrB).mpr ((hBe _ (by omega)).trans hop)
                                          have hal2 : rA B r 0 * rA B r 1 = rA A r 0 * rA A r 1 := by rw [hr0, hr1]
                                          refine lv_aload_n X.1 X.2.1 dL_finishes_259 rfl (lv_at hl 7 rfl) ?_
                                          refine lv_iload_n X.1 X.2.1 dL_finishes_260 rfl (lv_at hl 6 rfl) ?_
                                          refine lv_iconst (v := nI 1) X.1 X.2.1 dL_finishes_261 (by decide) ?_
                                          refine lv_iadd X.1 X.2.1 dL_finishes_262 ?_
                                          refine x_top (nI_add _ _) ?_
                                          refine x_callS X hK hw (As := [.ref (ad 0), .int (nI (L + 1))]) (rest := []) (k_L_waits hI (by omega) hJB hc (by omega) hOB (n := L + 1) (by omega)) (x_cwS yL_waits cL_waits 6 (some .boolean) 2 X q1404 q1405 q0 q1406 hd_L_waits ⟨(Nat.le_of_ble_eq_true rfl), (Nat.le_of_ble_eq_true rfl)⟩) rfl hl.1 rfl (Nat.le_of_ble_eq_true rfl) dL_finishes_263 ⟨(Nat.le_of_ble_eq_true rfl), (Nat.le_of_ble_eq_true rfl)⟩ (fun v255 F256 H locs hp hw => ?_)
                                          obtain ⟨e257, hO258, hf259⟩ := hp
                                          refine x_top e257 ?_
                                          replace hfr := hfr.tr hf259 (by omega) (by omega)
                                          obtain ⟨B260, hB260⟩ : ∃ y, y = nup B 0 (B 0 + (L + 1)) := ⟨_, rfl⟩
                                          rw [← hB260] at hO258
                                          have jB260 : HJ ca B260 := by rw [hB260]; exact j_pass hJB
                                          have zB260 : B260 0 = B 0 + (L + 1) := by rw [hB260]; exact nup_at
                                          have yB260 : ∀ i, i ≠ 0 → B260 i = B i := fun i hi => by rw [hB260]; exact nup_ne hi
                                          have xB260 : ∀ i, i ≠ 0 → i ≠ 80 + 6 * (9 * r + b) + 1 → B260 i = A i := fun i h1 h2 => (yB260 i h1).trans (hBe i h2)
                                          have w1B260 : B260 1 = A 1 := xB260 1 (by omega) (by omega)
                                          have w2B260 : B260 2 = A 2 := xB260 2 (by omega) (by omega)
                                          have hrB260 : r + 1 = B260 2 := by omega
                                          have s2B260 : eA B260 r b 0 = 2 := (xB260 _ (by omega) (by omega)).trans hs
                                          have opB260 : opn B260 := (opn_r hrB260).mpr ((xB260 _ (by omega) (by omega)).trans hop)
                                          have alB260 : eA B260 r b 1 = rA B260 r 0 * rA B260 r 1 := by rw [show rA B260 r 0 = rA A r 0 from xB260 _ (by omega) (by omega), show rA B260 r 1 = rA A r 1 from xB260 _ (by omega) (by omega), show eA B260 r b 1 = eA B r b 1 from yB260 _ (by omega)]; omega
                                          refine lv_if_eq (tgt := 304) X.1 X.2.1 dL_finishes_266 (by decide) (fun c261 => ?_) (fun c261 => ?_)
                                          · exact absurd c261 (by decide)
                                          · refine lv_aload_n X.1 X.2.1 dL_finishes_269 rfl (lv_at hl 7 rfl) ?_
                                            refine lv_iload_n X.1 X.2.1 dL_finishes_270 rfl (lv_at hl 8 rfl) ?_
                                            refine x_callV X hK hw (k := 0) (As := [.int (nI b)]) (rest := []) (w_line hI (by omega) hO258 (nI b) (fun g t hE => a_line_fi_r hrB260 jB260 opB260 (by omega) s2B260 alB260 hE)) (x_cwV yX7_line cX7_line 2 (some .int) 1 X q353 q354 q355 q1 q356 hd_X7_line ⟨(Nat.le_of_ble_eq_true rfl), (Nat.le_of_ble_eq_true rfl)⟩) (by omega) hO258.ma rfl rfl hl.1 rfl (Nat.le_of_ble_eq_true rfl) dL_finishes_271 ⟨(Nat.le_of_ble_eq_true rfl), (Nat.le_of_ble_eq_true rfl)⟩ (fun v262 F263 H locs hp hw => ?_)
                                            obtain ⟨e264, hO265, hf266⟩ := hp
                                            refine x_top e264 ?_
                                            replace hfr := hfr.tr hf266 (by omega) (by omega)
                                            obtain ⟨B267, hB267⟩ : ∃ y, y = ep (ep B260 r b 5 (B260 0)) r b 0 3 := ⟨_, rfl⟩
                                            rw [← hB267] at hO265
                                            have jB267 : HJ ca B267 := by rw [hB267]; exact j_fin_r hrB260 jB260 opB260 (by omega) s2B260 alB260
                                            have qB267 : ∀ i, i ≠ 80 + 6 * (9 * r + b) + 0 → i ≠ 80 + 6 * (9 * r + b) + 5 → B267 i = B260 i := fun i h1 h2 => by rw [hB267]; exact (nup_ne h1).trans (nup_ne h2)
                                            have hDfB267 : eA B267 r b 0 = 3 := by rw [hB267]; exact ep_at
                                            have d5B267 : eA B267 r b 5 = B260 0 := by rw [hB267]; exact (nup_ne (by omega)).trans ep_at
                                            have d0B267 : B267 0 = B260 0 := qB267 0 (by omega) (by omega)
                                            have d1B267 : B267 1 = A 1 := (qB267 1 (by omega) (by omega)).trans (by omega)
                                            have d2B267 : B267 2 = A 2 := (qB267 2 (by omega) (by omega)).trans (by omega)
                                            have d3B267 : eA B267 r b 3 = eA A r b 3 := (qB267 _ (by omega) (by omega)).trans (xB260 _ (by omega) (by omega))
                                            have dsB267 : rA B267 r 2 = rA A r 2 := (qB267 _ (by omega) (by omega)).trans (xB260 _ (by omega) (by omega))
                                            have d7B267 : B267 (7 + b) = A (7 + b) := (qB267 _ (by omega) (by omega)).trans (xB260 _ (by omega) (by omega))
                                            have dcB267 : coN B267 r b = 100 * (B260 0 - rA A r 2 + eA A r b 3) / A (7 + b) := by unfold coN elN; rw [d5B267, d3B267, dsB267, d7B267]
                                            have dbB267 := co_b jB267 hc (by omega) (r := r) (b := b) (by omega) (by omega)
                                            have dw : coN A r j ≤ coN B267 r b := by rw [dcB267]; exact (Nat.le_div_iff_mul_le (by omega)).mpr (by rw [← hbd]; omega)
                                            refine lv_iconst (v := nI 3) X.1 X.2.1 dL_finishes_274 (by decide) ?_
                                            refine lv_icmp_ne (tgt := 304) X.1 X.2.1 dL_finishes_275 (by decide) (fun c268 => ?_) (fun c268 => ?_)
                                            · exact absurd (by decide) c268
                                            · refine lv_aload_n X.1 X.2.1 dL_finishes_278 rfl (lv_at hl 7 rfl) ?_
                                              refine lv_iload_n X.1 X.2.1 dL_finishes_279 rfl (lv_at hl 5 rfl) ?_
                                              refine lv_iload_n X.1 X.2.1 dL_finishes_280 rfl (lv_at hl 8 rfl) ?_
                                              refine lv_bipush (v := nI 6) X.1 X.2.1 dL_finishes_281 (by decide) ?_
                                              refine x_callV X hK hw (k := 0) (As := [.int (nI r), .int (nI b), .int (nI 6)]) (rest := []) (w_result hI (by omega) jB267.1.1 hO265 (nI r) (nI b) (nI 6) (fun g t tm hE => (a_res6 jB267 hc (by omega) hE (by omega) (by omega) tm).trans (co_n jB267 hc (by omega) (by omega) (by omega) hDfB267))) (x_cwV yX7_result cX7_result 4 (some .int) 3 X q695 q696 q697 q1 q698 hd_X7_result ⟨(Nat.le_of_ble_eq_true rfl), (Nat.le_of_ble_eq_true rfl)⟩) (by omega) hO265.ma rfl rfl hl.1 rfl (Nat.le_of_ble_eq_true rfl) dL_finishes_283 ⟨(Nat.le_of_ble_eq_true rfl), (Nat.le_of_ble_eq_true rfl)⟩ (fun v269 F270 H locs hp hw => ?_)
                                              obtain ⟨e271, hO272, hf273⟩ := hp
                                              refine x_top e271 ?_
                                              replace hfr := hfr.tr hf273 (by omega) (by omega)
                                              refine lv_iload X.1 X.2.1 dL_finishes_286 (lv_at hl 1 rfl) ?_
                                              refine lv_icmp_lt (tgt := 304) X.1 X.2.1 dL_finishes_288 (by decide) (fun c274 => ?_) (fun c274 => ?_)
                                              · exact absurd ((br_lt (by omega) (by omega)).mp c274) (by omega)
                                              · have n275 : ¬ (coN B267 r b) < (coN A r j) := fun z => c274 ((br_lt (by omega) (by omega)).mpr z)
                                                refine lv_aload_n X.1 X.2.1 dL_finishes_291 rfl (lv_at hl 7 rfl) ?_
                                                refine x_callV X hK hw (k := 0) (As := []) (rest := []) (w_restore hI (by omega) hO272) (x_cwV yX7_restore cX7_restore 1 (some .int) 0 X q691 q692 q693 q1 q694 hd_X7_restore ⟨(Nat.le_of_ble_eq_true rfl), (Nat.le_of_ble_eq_true rfl)⟩) (by omega) hO272.ma rfl rfl hl.1 rfl (Nat.le_of_ble_eq_true rfl) dL_finishes_292 ⟨(Nat.le_of_ble_eq_true rfl), (Nat.le_of_ble_eq_true rfl)⟩ (fun v276 F277 H locs hp hw => ?_)
                                                obtain ⟨e278, hO279, hf280⟩ := hp
                                                refine x_top e278 ?_
                                                replace hfr := hfr.tr hf280 (by omega) (by omega)
                                                refine lv_iload X.1 X.2.1 dL_finishes_295 (lv_at hl 4 rfl) ?_
                                                refine lv_icmp_ne (tgt := 304) X.1 X.2.1 dL_finishes_297 (by decide) (fun c281 => ?_) (fun c281 => ?_)
                                                · exact absurd ((nI_eq (by omega) (by omega)).mpr (by omega)) c281
                                                · have n282 := (nI_eq (by omega) (by omega)).mp c281
                                                  refine lv_iconst (v := nI 1) X.1 X.2.1 dL_finishes_300 (by decide) ?_
                                                  refine lv_goto (tgt := 305) X.1 X.2.1 dL_finishes_301 (by decide) ?_
                                                  exact x_iret X hr hlk hK hw (v := nI 1) (by first | rfl | exact nr_b _ | decide) (⟨rfl, hO279, hfr⟩) dL_finishes_305
                                        have loop223 : ∀ (fu : Nat) (B : Nat → Nat) (F1 : Nat → va_E) (hfu : rA A r 0 * rA A r 1 ≤ eA B r b 1 + fu) (hJB : HJ ca B) (hBe : ∀ i, i ≠ 80 + 6 * (9 * r + b) + 1 → B i = A i) (hm : eA B r b 1 ≤ rA A r 0 * rA A r 1) (hOB : OB ad cI cB cS F1 (nI 1) B A) (hfr : Fr F F1 0 111) (H : Heap) (locs : List Loc) (hw : HW D (Af ad N s.heap.size) ad N F1 s H locs) (ls : Array Slot) (hl : lv_has ls 10 [(8, .int (nI 1)), (7, .int (nI (coN A r j))), (6, .int (nI j)), (5, .int (nI ((rA A r 0) * (rA A r 1)))), (4, .int (nI (A 0))), (3, .int (nI r)), (2, .int (nI L)), (0, .ref (ad 0)), (1, .int (nI b))]), W p l e { frames := 7, cells := 0, slots := 0, locals := 171 } s m [.ref (ad 0), .int (nI b)].toArray below meth c H locs 0 0 (MQ below (va_Qi (fun v F' => v = nI 1 ∧ OB ad cI cB cS F' (nI 1) A A ∧ Fr F F' 0 111) (fun F' t => PO D ad N F' t) (Af ad N s.heap.size)) [.ref (ad 0), .int (nI b)].toArray s 0 0 (Af ad N s.heap.size)) (F0 m 223 ls []) := by
                                          intro fu
                                          induction fu with
                                          | zero =>
                                            intro B F1 hfu hJB hBe hm hOB hfr H locs hw ls hl
                                            have hB0 : B 0 = A 0 := hBe 0 (by omega)
                                            have hB1 : B 1 = A 1 := hBe 1 (by omega)
                                            have hB2 : B 2 = A 2 := hBe 2 (by omega)
                                            have hrB : r + 1 = B 2 := by omega
                                            have hs2 : eA B r b 0 = 2 := (hBe _ (by omega)).trans hs
                                            have hr0 : rA B r 0 = rA A r 0 := hBe _ (by omega)
                                            have hr1 : rA B r 1 = rA A r 1 := hBe _ (by omega)
                                            have hop2 : opn B := (opn_r hrB).mpr ((hBe _ (by omega)).trans hop)
                                            have hal2 : rA B r 0 * rA B r 1 = rA A r 0 * rA A r 1 := by rw [hr0, hr1]
                                            refine lv_aload_n X.1 X.2.1 dL_finishes_223 rfl (lv_at hl 7 rfl) ?_
                                            refine lv_iload_n X.1 X.2.1 dL_finishes_224 rfl (lv_at hl 5 rfl) ?_
                                            refine lv_iload_n X.1 X.2.1 dL_finishes_225 rfl (lv_at hl 8 rfl) ?_
                                            refine lv_iconst (v := nI 1) X.1 X.2.1 dL_finishes_226 (by decide) ?_
                                            refine x_callV X hK hw (k := 0) (As := [.int (nI r), .int (nI b), .int (nI 1)]) (rest := []) (w_result hI (by omega) hJB.1.1 hOB (nI r) (nI b) (nI 1) (fun g t tm hE => a_res1 hJB hc (by omega) hE (by omega) (by omega) tm)) (x_cwV yX7_result cX7_result 4 (some .int) 3 X q695 q696 q697 q1 q698 hd_X7_result ⟨(Nat.le_of_ble_eq_true rfl), (Nat.le_of_ble_eq_true rfl)⟩) (by omega) hOB.ma rfl rfl hl.1 rfl (Nat.le_of_ble_eq_true rfl) dL_finishes_227 ⟨(Nat.le_of_ble_eq_true rfl), (Nat.le_of_ble_eq_true rfl)⟩ (fun v283 F284 H locs hp hw => ?_)
                                            obtain ⟨e285, hO286, hf287⟩ := hp
                                            refine x_top e285 ?_
                                            replace hfr := hfr.tr hf287 (by omega) (by omega)
                                            refine lv_iload X.1 X.2.1 dL_finishes_230 (lv_at hl 3 rfl) ?_
                                            refine lv_icmp_ge (tgt := 259) X.1 X.2.1 dL_finishes_232 (by decide) (fun c288 => ?_) (fun c288 => ?_)
                                            · have n289 := (nI_leI (by omega) (by omega)).mp c288
                                              exact way223 B F284 hJB hBe hm hO286 hfr n289 _ _ hw _ (lv_sub hl [0, 1, 2, 3, 4, 5, 6, 7, 8] rfl)
                                            · exact absurd ((nI_leI (by omega) (by omega)).mpr (by omega)) c288
                                          | succ fu ih =>
                                            intro B F1 hfu hJB hBe hm hOB hfr H locs hw ls hl
                                            have hB0 : B 0 = A 0 := hBe 0 (by omega)
                                            have hB1 : B 1 = A 1 := hBe 1 (by omega)
                                            have hB2 : B 2 = A 2 := hBe 2 (by omega)
                                            have hrB : r + 1 = B 2 := by omega
                                            have hs2 : eA B r b 0 = 2 := (hBe _ (by omega)).trans hs
                                            have hr0 : rA B r 0 = rA A r 0 := hBe _ (by omega)
                                            have hr1 : rA B r 1 = rA A r 1 := hBe _ (by omega)
                                            have hop2 : opn B := (opn_r hrB).mpr ((hBe _ (by omega)).trans hop)
                                            have hal2 : rA B r 0 * rA B r 1 = rA A r 0 * rA A r 1 := by rw [hr0, hr1]
                                            refine lv_aload_n X.1 X.2.1 dL_finishes_223 rfl (lv_at hl 7 rfl) ?_
                                            refine lv_iload_n X.1 X.2.1 dL_finishes_224 rfl (lv_at hl 5 rfl) ?_
                                            refine lv_iload_n X.1 X.2.1 dL_finishes_225 rfl (lv_at hl 8 rfl) ?_
                                            refine lv_iconst (v := nI 1) X.1 X.2.1 dL_finishes_226 (by decide) ?_
                                            refine x_callV X hK hw (k := 0) (As := [.int (nI r), .int (nI b), .int (nI 1)]) (rest := []) (w_result hI (by omega) hJB.1.1 hOB (nI r) (nI b) (nI 1) (fun g t tm hE => a_res1 hJB hc (by omega) hE (by omega) (by omega) tm)) (x_cwV yX7_result cX7_result 4 (some .int) 3 X q695 q696 q697 q1 q698 hd_X7_result ⟨(Nat.le_of_ble_eq_true rfl), (Nat.le_of_ble_eq_true rfl)⟩) (by omega) hOB.ma rfl rfl hl.1 rfl (Nat.le_of_ble_eq_true rfl) dL_finishes_227 ⟨(Nat.le_of_ble_eq_true rfl), (Nat.le_of_ble_eq_true rfl)⟩ (fun v290 F291 H locs hp hw => ?_)
                                            obtain ⟨e292, hO293, hf294⟩ := hp
                                            refine x_top e292 ?_
                                            replace hfr := hfr.tr hf294 (by omega) (by omega)
                                            refine lv_iload X.1 X.2.1 dL_finishes_230 (lv_at hl 3 rfl) ?_
                                            refine lv_icmp_ge (tgt := 259) X.1 X.2.1 dL_finishes_232 (by decide) (fun c295 => ?_) (fun c295 => ?_)
                                            · have n296 := (nI_leI (by omega) (by omega)).mp c295
                                              exact way223 B F291 hJB hBe hm hO293 hfr n296 _ _ hw _ (lv_sub hl [0, 1, 2, 3, 4, 5, 6, 7, 8] rfl)
                                            · have n297 : ¬ ((rA A r 0) * (rA A r 1)) ≤ (eA B r b 1) := fun z => c295 ((nI_leI (by omega) (by omega)).mpr z)
                                              refine lv_aload_n X.1 X.2.1 dL_finishes_235 rfl (lv_at hl 7 rfl) ?_
                                              refine lv_iload_n X.1 X.2.1 dL_finishes_236 rfl (lv_at hl 8 rfl) ?_
                                              refine lv_aload_n X.1 X.2.1 dL_finishes_237 rfl (lv_at hl 7 rfl) ?_
                                              refine lv_iload_n X.1 X.2.1 dL_finishes_238 rfl (lv_at hl 5 rfl) ?_
                                              refine lv_iload_n X.1 X.2.1 dL_finishes_239 rfl (lv_at hl 8 rfl) ?_
                                              refine lv_iconst (v := nI 1) X.1 X.2.1 dL_finishes_240 (by decide) ?_
                                              refine x_callV X hK hw (k := 0) (As := [.int (nI r), .int (nI b), .int (nI 1)]) (rest := [.int (nI b), .ref (ad 0)]) (w_result hI (by omega) hJB.1.1 hO293 (nI r) (nI b) (nI 1) (fun g t tm hE => a_res1 hJB hc (by omega) hE (by omega) (by omega) tm)) (x_cwV yX7_result cX7_result 4 (some .int) 3 X q695 q696 q697 q1 q698 hd_X7_result ⟨(Nat.le_of_ble_eq_true rfl), (Nat.le_of_ble_eq_true rfl)⟩) (by omega) hO293.ma rfl rfl hl.1 rfl (Nat.le_of_ble_eq_true rfl) dL_finishes_241 ⟨(Nat.le_of_ble_eq_true rfl), (Nat.le_of_ble_eq_true rfl)⟩ (fun v298 F299 H locs hp hw => ?_)
                                              obtain ⟨e300, hO301, hf302⟩ := hp
                                              refine x_top e300 ?_
                                              replace hfr := hfr.tr hf302 (by omega) (by omega)
                                              refine lv_aload_n X.1 X.2.1 dL_finishes_244 rfl (lv_at hl 7 rfl) ?_
                                              refine lv_iload_n X.1 X.2.1 dL_finishes_245 rfl (lv_at hl 5 rfl) ?_
                                              refine lv_iconst (v := nI 0) X.1 X.2.1 dL_finishes_246 (by decide) ?_
                                              refine x_callV X hK hw (k := 0) (As := [.int (nI r), .int (nI 0)]) (rest := [.int (nI (eA B r b 1)), .int (nI b), .ref (ad 0)]) (w_race hI (by omega) hJB.1.1 hO301 (nI r) (nI 0) (fun g t tm hE => a_rac0 hJB hc (by omega) hE (by omega) tm)) (x_cwV yX7_race cX7_race 3 (some .int) 2 X q804 q805 q806 q1 q807 hd_X7_race ⟨(Nat.le_of_ble_eq_true rfl), (Nat.le_of_ble_eq_true rfl)⟩) (by omega) hO301.ma rfl rfl hl.1 rfl (Nat.le_of_ble_eq_true rfl) dL_finishes_247 ⟨(Nat.le_of_ble_eq_true rfl), (Nat.le_of_ble_eq_true rfl)⟩ (fun v303 F304 H locs hp hw => ?_)
                                              obtain ⟨e305, hO306, hf307⟩ := hp
                                              refine x_top e305 ?_
                                              replace hfr := hfr.tr hf307 (by omega) (by omega)
                                              refine lv_irem X.1 X.2.1 dL_finishes_250 (fun z => by have := (bz_eq (by omega)).mp z; omega) ?_
                                              refine x_top (nI_mod (by omega) (by omega) (by omega)) ?_
                                              refine x_callV X hK hw (k := 0) (As := [.int (nI b), .int (nI ((eA B r b 1) % (rA B r 0)))]) (rest := []) (w_buoy hI (by omega) hO306 (nI b) (nI ((eA B r b 1) % (rA B r 0))) (fun g t hE => a_buoy_ok_r hrB hJB hop2 (by omega) (show (eA B r b 1) % (rA B r 0) < rA B r 0 from Nat.mod_lt _ (by omega)) hs2 rfl (by omega) hE)) (x_cwV yX7_buoy cX7_buoy 3 (some .int) 2 X q383 q384 q385 q1 q386 hd_X7_buoy ⟨(Nat.le_of_ble_eq_true rfl), (Nat.le_of_ble_eq_true rfl)⟩) (by omega) hO306.ma rfl rfl hl.1 rfl (Nat.le_of_ble_eq_true rfl) dL_finishes_251 ⟨(Nat.le_of_ble_eq_true rfl), (Nat.le_of_ble_eq_true rfl)⟩ (fun v308 F309 H locs hp hw => ?_)
                                              obtain ⟨e310, hO311, hf312⟩ := hp
                                              refine x_top e310 ?_
                                              replace hfr := hfr.tr hf312 (by omega) (by omega)
                                              obtain ⟨B313, hB313⟩ : ∃ y, y = ep B r b 1 (eA B r b 1 + 1) := ⟨_, rfl⟩
                                              rw [← hB313] at hO311
                                              have jB313 : HJ ca B313 := by rw [hB313]; exact j_made_r hrB hJB hop2 (by omega) hs2 (by omega)
                                              have eB313 : ∀ i, i ≠ 80 + 6 * (9 * r + b) + 1 → B313 i = A i := fun i hi => by rw [hB313]; exact (nup_ne hi).trans (hBe i hi)
                                              have mB313 : eA B313 r b 1 = eA B r b 1 + 1 := by rw [hB313]; exact ep_at
                                              refine lv_istore (lv' := [(9, .int (nI (eA B r b 1 + 1))), (8, .int (nI 1)), (7, .int (nI (coN A r j))), (6, .int (nI j)), (5, .int (nI ((rA A r 0) * (rA A r 1)))), (4, .int (nI (A 0))), (3, .int (nI r)), (2, .int (nI L)), (0, .ref (ad 0)), (1, .int (nI b))]) X.1 X.2.1 dL_finishes_254 hl (by decide) rfl (fun ls hl => ?_)
                                              refine lv_goto (tgt := 223) X.1 X.2.1 dL_finishes_256 (by decide) ?_
                                              exact ih B313 F309 (by omega) jB313 eB313 (by omega) hO311 hfr _ _ hw _ (lv_sub hl [1, 2, 3, 4, 5, 6, 7, 8, 9] rfl)
                                        exact loop223 (rA A r 0 * rA A r 1) A F246 (by omega) hJ (fun _ _ => rfl) (by omega) hO248 hfr _ _ hw _ (lv_sub hl [0, 1, 2, 3, 4, 5, 6, 7, 8] rfl)
                                      · exact absurd ((bz_ge (by omega)).mpr (by omega)) c253
        have loop64 : ∀ (fu : Nat) (B : Nat → Nat) (F1 : Nat → va_E) (hfu : rA A r 0 * rA A r 1 ≤ eA B r b 1 + fu) (hJB : HJ ca B) (hBe : ∀ i, i ≠ 80 + 6 * (9 * r + b) + 1 → B i = A i) (hm : eA B r b 1 ≤ rA A r 0 * rA A r 1) (hOB : OB ad cI cB cS F1 (nI 1) B A) (hfr : Fr F F1 0 111) (H : Heap) (locs : List Loc) (hw : HW D (Af ad N s.heap.size) ad N F1 s H locs) (ls : Array Slot) (hl : lv_has ls 10 [(7, .int (nI (coN A r j))), (6, .int (nI j)), (5, .int (nI ((rA A r 0) * (rA A r 1)))), (4, .int (nI (A 0))), (3, .int (nI r)), (2, .int (nI L)), (0, .ref (ad 0)), (1, .int (nI b))]), W p l e { frames := 7, cells := 0, slots := 0, locals := 171 } s m [.ref (ad 0), .int (nI b)].toArray below meth c H locs 0 0 (MQ below (va_Qi (fun v F' => v = nI 1 ∧ OB ad cI cB cS F' (nI 1) A A ∧ Fr F F' 0 111) (fun F' t => PO D ad N F' t) (Af ad N s.heap.size)) [.ref (ad 0), .int (nI b)].toArray s 0 0 (Af ad N s.heap.size)) (F0 m 64 ls []) := by
          intro fu
          induction fu with
          | zero =>
            intro B F1 hfu hJB hBe hm hOB hfr H locs hw ls hl
            have hB0 : B 0 = A 0 := hBe 0 (by omega)
            have hB1 : B 1 = A 1 := hBe 1 (by omega)
            have hB2 : B 2 = A 2 := hBe 2 (by omega)
            have hrB : r + 1 = B 2 := by omega
            have hs2 : eA B r b 0 = 2 := (hBe _ (by omega)).trans hs
            have hr0 : rA B r 0 = rA A r 0 := hBe _ (by omega)
            have hr1 : rA B r 1 = rA A r 1 := hBe _ (by omega)
            have hop2 : opn B := (opn_r hrB).mpr ((hBe _ (by omega)).trans hop)
            have hal2 : rA B r 0 * rA B r 1 = rA A r 0 * rA A r 1 := by rw [hr0, hr1]
            refine lv_aload_n X.1 X.2.1 dL_finishes_64 rfl (lv_at hl 6 rfl) ?_
            refine lv_iload_n X.1 X.2.1 dL_finishes_65 rfl (lv_at hl 4 rfl) ?_
            refine lv_iload_n X.1 X.2.1 dL_finishes_66 rfl (lv_at hl 7 rfl) ?_
            refine lv_iconst (v := nI 1) X.1 X.2.1 dL_finishes_67 (by decide) ?_
            refine x_callV X hK hw (k := 0) (As := [.int (nI r), .int (nI b), .int (nI 1)]) (rest := []) (w_result hI (by omega) hJB.1.1 hOB (nI r) (nI b) (nI 1) (fun g t tm hE => a_res1 hJB hc (by omega) hE (by omega) (by omega) tm)) (x_cwV yX7_result cX7_result 4 (some .int) 3 X q695 q696 q697 q1 q698 hd_X7_result ⟨(Nat.le_of_ble_eq_true rfl), (Nat.le_of_ble_eq_true rfl)⟩) (by omega) hOB.ma rfl rfl hl.1 rfl (Nat.le_of_ble_eq_true rfl) dL_finishes_68 ⟨(Nat.le_of_ble_eq_true rfl), (Nat.le_of_ble_eq_true rfl)⟩ (fun v314 F315 H locs hp hw => ?_)
            obtain ⟨e316, hO317, hf318⟩ := hp
            refine x_top e316 ?_
            replace hfr := hfr.tr hf318 (by omega) (by omega)
            refine lv_iload X.1 X.2.1 dL_finishes_71 (lv_at hl 2 rfl) ?_
            refine lv_icmp_ge (tgt := 100) X.1 X.2.1 dL_finishes_73 (by decide) (fun c319 => ?_) (fun c319 => ?_)
            · have n320 := (nI_leI (by omega) (by omega)).mp c319
              exact way64 B F315 hJB hBe hm hO317 hfr n320 _ _ hw _ (lv_sub hl [0, 1, 2, 3, 4, 5, 6, 7] rfl)
            · exact absurd ((nI_leI (by omega) (by omega)).mpr (by omega)) c319
          | succ fu ih =>
            intro B F1 hfu hJB hBe hm hOB hfr H locs hw ls hl
            have hB0 : B 0 = A 0 := hBe 0 (by omega)
            have hB1 : B 1 = A 1 := hBe 1 (by omega)
            have hB2 : B 2 = A 2 := hBe 2 (by omega)
            have hrB : r + 1 = B 2 := by omega
            have hs2 : eA B r b 0 = 2 := (hBe _ (by omega)).trans hs
            have hr0 : rA B r 0 = rA A r 0 := hBe _ (by omega)
            have hr1 : rA B r 1 = rA A r 1 := hBe _ (by omega)
            have hop2 : opn B := (opn_r hrB).mpr ((hBe _ (by omega)).trans hop)
            have hal2 : rA B r 0 * rA B r 1 = rA A r 0 * rA A r 1 := by rw [hr0, hr1]
            refine lv_aload_n X.1 X.2.1 dL_finishes_64 rfl (lv_at hl 6 rfl) ?_
            refine lv_iload_n X.1 X.2.1 dL_finishes_65 rfl (lv_at hl 4 rfl) ?_
            refine lv_iload_n X.1 X.2.1 dL_finishes_66 rfl (lv_at hl 7 rfl) ?_
            refine lv_iconst (v := nI 1) X.1 X.2.1 dL_finishes_67 (by decide) ?_
            refine x_callV X hK hw (k := 0) (As := [.int (nI r), .int (nI b), .int (nI 1)]) (rest := []) (w_result hI (by omega) hJB.1.1 hOB (nI r) (nI b) (nI 1) (fun g t tm hE => a_res1 hJB hc (by omega) hE (by omega) (by omega) tm)) (x_cwV yX7_result cX7_result 4 (some .int) 3 X q695 q696 q697 q1 q698 hd_X7_result ⟨(Nat.le_of_ble_eq_true rfl), (Nat.le_of_ble_eq_true rfl)⟩) (by omega) hOB.ma rfl rfl hl.1 rfl (Nat.le_of_ble_eq_true rfl) dL_finishes_68 ⟨(Nat.le_of_ble_eq_true rfl), (Nat.le_of_ble_eq_true rfl)⟩ (fun v321 F322 H locs hp hw => ?_)
            obtain ⟨e323, hO324, hf325⟩ := hp
            refine x_top e323 ?_
            replace hfr := hfr.tr hf325 (by omega) (by omega)
            refine lv_iload X.1 X.2.1 dL_finishes_71 (lv_at hl 2 rfl) ?_
            refine lv_icmp_ge (tgt := 100) X.1 X.2.1 dL_finishes_73 (by decide) (fun c326 => ?_) (fun c326 => ?_)
            · have n327 := (nI_leI (by omega) (by omega)).mp c326
              exact way64 B F322 hJB hBe hm hO324 hfr n327 _ _ hw _ (lv_sub hl [0, 1, 2, 3, 4, 5, 6, 7] rfl)
            · have n328 : ¬ ((rA A r 0) * (rA A r 1)) ≤ (eA B r b 1) := fun z => c326 ((nI_leI (by omega) (by omega)).mpr z)
              refine lv_aload_n X.1 X.2.1 dL_finishes_76 rfl (lv_at hl 6 rfl) ?_
              refine lv_iload_n X.1 X.2.1 dL_finishes_77 rfl (lv_at hl 7 rfl) ?_
              refine lv_aload_n X.1 X.2.1 dL_finishes_78 rfl (lv_at hl 6 rfl) ?_
              refine lv_iload_n X.1 X.2.1 dL_finishes_79 rfl (lv_at hl 4 rfl) ?_
              refine lv_iload_n X.1 X.2.1 dL_finishes_80 rfl (lv_at hl 7 rfl) ?_
              refine lv_iconst (v := nI 1) X.1 X.2.1 dL_finishes_81 (by decide) ?_
              refine x_callV X hK hw (k := 0) (As := [.int (nI r), .int (nI b), .int (nI 1)]) (rest := [.int (nI b), .ref (ad 0)]) (w_result hI (by omega) hJB.1.1 hO324 (nI r) (nI b) (nI 1) (fun g t tm hE => a_res1 hJB hc (by omega) hE (by omega) (by omega) tm)) (x_cwV yX7_result cX7_result 4 (some .int) 3 X q695 q696 q697 q1 q698 hd_X7_result ⟨(Nat.le_of_ble_eq_true rfl), (Nat.le_of_ble_eq_true rfl)⟩) (by omega) hO324.ma rfl rfl hl.1 rfl (Nat.le_of_ble_eq_true rfl) dL_finishes_82 ⟨(Nat.le_of_ble_eq_true rfl), (Nat.le_of_ble_eq_true rfl)⟩ (fun v329 F330 H locs hp hw => ?_)
              obtain ⟨e331, hO332, hf333⟩ := hp
              refine x_top e331 ?_
              replace hfr := hfr.tr hf333 (by omega) (by omega)
              refine lv_aload_n X.1 X.2.1 dL_finishes_85 rfl (lv_at hl 6 rfl) ?_
              refine lv_iload_n X.1 X.2.1 dL_finishes_86 rfl (lv_at hl 4 rfl) ?_
              refine lv_iconst (v := nI 0) X.1 X.2.1 dL_finishes_87 (by decide) ?_
              refine x_callV X hK hw (k := 0) (As := [.int (nI r), .int (nI 0)]) (rest := [.int (nI (eA B r b 1)), .int (nI b), .ref (ad 0)]) (w_race hI (by omega) hJB.1.1 hO332 (nI r) (nI 0) (fun g t tm hE => a_rac0 hJB hc (by omega) hE (by omega) tm)) (x_cwV yX7_race cX7_race 3 (some .int) 2 X q804 q805 q806 q1 q807 hd_X7_race ⟨(Nat.le_of_ble_eq_true rfl), (Nat.le_of_ble_eq_true rfl)⟩) (by omega) hO332.ma rfl rfl hl.1 rfl (Nat.le_of_ble_eq_true rfl) dL_finishes_88 ⟨(Nat.le_of_ble_eq_true rfl), (Nat.le_of_ble_eq_true rfl)⟩ (fun v334 F335 H locs hp hw => ?_)
              obtain ⟨e336, hO337, hf338⟩ := hp
              refine x_top e336 ?_
              replace hfr := hfr.tr hf338 (by omega) (by omega)
              refine lv_irem X.1 X.2.1 dL_finishes_91 (fun z => by have := (bz_eq (by omega)).mp z; omega) ?_
              refine x_top (nI_mod (by omega) (by omega) (by omega)) ?_
              refine x_callV X hK hw (k := 0) (As := [.int (nI b), .int (nI ((eA B r b 1) % (rA B r 0)))]) (rest := []) (w_buoy hI (by omega) hO337 (nI b) (nI ((eA B r b 1) % (rA B r 0))) (fun g t hE => a_buoy_ok_r hrB hJB hop2 (by omega) (show (eA B r b 1) % (rA B r 0) < rA B r 0 from Nat.mod_lt _ (by omega)) hs2 rfl (by omega) hE)) (x_cwV yX7_buoy cX7_buoy 3 (some .int) 2 X q383 q384 q385 q1 q386 hd_X7_buoy ⟨(Nat.le_of_ble_eq_true rfl), (Nat.le_of_ble_eq_true rfl)⟩) (by omega) hO337.ma rfl rfl hl.1 rfl (Nat.le_of_ble_eq_true rfl) dL_finishes_92 ⟨(Nat.le_of_ble_eq_true rfl), (Nat.le_of_ble_eq_true rfl)⟩ (fun v339 F340 H locs hp hw => ?_)
              obtain ⟨e341, hO342, hf343⟩ := hp
              refine x_top e341 ?_
              replace hfr := hfr.tr hf343 (by omega) (by omega)
              obtain ⟨B344, hB344⟩ : ∃ y, y = ep B r b 1 (eA B r b 1 + 1) := ⟨_, rfl⟩
              rw [← hB344] at hO342
              have jB344 : HJ ca B344 := by rw [hB344]; exact j_made_r hrB hJB hop2 (by omega) hs2 (by omega)
              have eB344 : ∀ i, i ≠ 80 + 6 * (9 * r + b) + 1 → B344 i = A i := fun i hi => by rw [hB344]; exact (nup_ne hi).trans (hBe i hi)
              have mB344 : eA B344 r b 1 = eA B r b 1 + 1 := by rw [hB344]; exact ep_at
              refine lv_istore (lv' := [(8, .int (nI (eA B r b 1 + 1))), (7, .int (nI (coN A r j))), (6, .int (nI j)), (5, .int (nI ((rA A r 0) * (rA A r 1)))), (4, .int (nI (A 0))), (3, .int (nI r)), (2, .int (nI L)), (0, .ref (ad 0)), (1, .int (nI b))]) X.1 X.2.1 dL_finishes_95 hl (by decide) rfl (fun ls hl => ?_)
              refine lv_goto (tgt := 64) X.1 X.2.1 dL_finishes_97 (by decide) ?_
              exact ih B344 F340 (by omega) jB344 eB344 (by omega) hO342 hfr _ _ hw _ (lv_sub hl [1, 2, 3, 4, 5, 6, 7, 8] rfl)
        exact loop64 (rA A r 0 * rA A r 1) A F116 (by omega) hJ (fun _ _ => rfl) (by omega) hO118 hfr _ _ hw _ (lv_sub hl [0, 1, 2, 3, 4, 5, 6, 7] rfl)
      · exact absurd ((bz_ge (by omega)).mpr (by omega)) c113
    · have hL1 : bd ≤ 100 * (A 0 - rA A r 2 + eA A r b 3) := by rw [← hbd] at hlt; exact hlt
      refine lv_aload_n X.1 X.2.1 dL_finishes_0 rfl (lv_at hl 0 rfl) ?_
      refine lv_iload_n X.1 X.2.1 dL_finishes_1 rfl (lv_at hl 1 rfl) ?_
      refine x_callV X hK hw (k := 0) (As := [.int (nI b)]) (rest := []) (w_secondsLeft hI (by omega) hJ.1.1 hO (nI b) (fun g t tm hE => a_sec_late_r hrA hJ hc hk hE ((opn_r hrA).mpr hop) hb hs hj hj1 hj2 hlt tm)) (x_cwV yX7_secondsLeft cX7_secondsLeft 2 (some .int) 1 X q834 q835 q836 q1 q837 hd_X7_secondsLeft ⟨(Nat.le_of_ble_eq_true rfl), (Nat.le_of_ble_eq_true rfl)⟩) (by omega) hO.ma rfl rfl hl.1 rfl (Nat.le_of_ble_eq_true rfl) dL_finishes_2 ⟨(Nat.le_of_ble_eq_true rfl), (Nat.le_of_ble_eq_true rfl)⟩ (fun v345 F346 H locs hp hw => ?_)
      obtain ⟨e347, hO348, hf349⟩ := hp
      refine x_top e347 ?_
      replace hfr := hfr.tr hf349 (by omega) (by omega)
      refine lv_istore_n (lv' := [(2, .int ((-5))), (0, .ref (ad 0)), (1, .int (nI b))]) X.1 X.2.1 dL_finishes_5 rfl hl (by decide) rfl (fun ls hl => ?_)
      refine lv_aload_n X.1 X.2.1 dL_finishes_6 rfl (lv_at hl 1 rfl) ?_
      refine lv_iconst (v := nI 1) X.1 X.2.1 dL_finishes_7 (by decide) ?_
      refine x_callV X hK hw (k := 0) (As := [.int (nI 1)]) (rest := []) (w_count hI (by omega) hO348 (nI 1) (fun g t z n hE => a_cou1 hJ hc hk hE z n)) (x_cwV yX7_count cX7_count 2 (some .int) 1 X q818 q819 q820 q1 q821 hd_X7_count ⟨(Nat.le_of_ble_eq_true rfl), (Nat.le_of_ble_eq_true rfl)⟩) (by omega) hO348.ma rfl rfl hl.1 rfl (Nat.le_of_ble_eq_true rfl) dL_finishes_8 ⟨(Nat.le_of_ble_eq_true rfl), (Nat.le_of_ble_eq_true rfl)⟩ (fun v350 F351 H locs hp hw => ?_)
      obtain ⟨e352, hO353, hf354⟩ := hp
      refine x_top e352 ?_
      replace hfr := hfr.tr hf354 (by omega) (by omega)
      refine lv_iconst (v := nI 1) X.1 X.2.1 dL_finishes_11 (by decide) ?_
      refine lv_isub X.1 X.2.1 dL_finishes_12 ?_
      refine x_top (pk_sub (by omega)) ?_
      refine x_top (y := nI r) (congrArg nI (show A 2 - 1 = r by omega)) ?_
      refine lv_istore_n (lv' := [(3, .int (nI r)), (2, .int ((-5))), (0, .ref (ad 0)), (1, .int (nI b))]) X.1 X.2.1 dL_finishes_13 rfl hl (by decide) rfl (fun ls hl => ?_)
      refine lv_aload_n X.1 X.2.1 dL_finishes_14 rfl (lv_at hl 2 rfl) ?_
      refine x_callV X hK hw (k := 0) (As := []) (rest := []) (w_save hI (by omega) hO353) (x_cwV yX7_save cX7_save 1 (some .int) 0 X q686 q687 q688 q1 q689 hd_X7_save ⟨(Nat.le_of_ble_eq_true rfl), (Nat.le_of_ble_eq_true rfl)⟩) (by omega) hO353.ma rfl rfl hl.1 rfl (Nat.le_of_ble_eq_true rfl) dL_finishes_15 ⟨(Nat.le_of_ble_eq_true rfl), (Nat.le_of_ble_eq_true rfl)⟩ (fun v355 F356 H locs hp hw => ?_)
      obtain ⟨e357, hO358, hf359⟩ := hp
      refine x_top e357 ?_
      replace hfr := hfr.tr hf359 (by omega) (by omega)
      refine lv_istore (lv' := [(4, .int (nI (A 0))), (3, .int (nI r)), (2, .int ((-5))), (0, .ref (ad 0)), (1, .int (nI b))]) X.1 X.2.1 dL_finishes_18 hl (by decide) rfl (fun ls hl => ?_)
      refine lv_aload_n X.1 X.2.1 dL_finishes_20 rfl (lv_at hl 3 rfl) ?_
      refine lv_iload_n X.1 X.2.1 dL_finishes_21 rfl (lv_at hl 1 rfl) ?_
      refine lv_iconst (v := nI 0) X.1 X.2.1 dL_finishes_22 (by decide) ?_
      refine x_callV X hK hw (k := 0) (As := [.int (nI r), .int (nI 0)]) (rest := []) (w_race hI (by omega) hJ.1.1 hO358 (nI r) (nI 0) (fun g t tm hE => a_rac0 hJ hc hk hE (by omega) tm)) (x_cwV yX7_race cX7_race 3 (some .int) 2 X q804 q805 q806 q1 q807 hd_X7_race ⟨(Nat.le_of_ble_eq_true rfl), (Nat.le_of_ble_eq_true rfl)⟩) (by omega) hO358.ma rfl rfl hl.1 rfl (Nat.le_of_ble_eq_true rfl) dL_finishes_23 ⟨(Nat.le_of_ble_eq_true rfl), (Nat.le_of_ble_eq_true rfl)⟩ (fun v360 F361 H locs hp hw => ?_)
      obtain ⟨e362, hO363, hf364⟩ := hp
      refine x_top e362 ?_
      replace hfr := hfr.tr hf364 (by omega) (by omega)
      refine lv_aload_n X.1 X.2.1 dL_finishes_26 rfl (lv_at hl 3 rfl) ?_
      refine lv_iload_n X.1 X.2.1 dL_finishes_27 rfl (lv_at hl 1 rfl) ?_
      refine lv_iconst (v := nI 1) X.1 X.2.1 dL_finishes_28 (by decide) ?_
      refine x_callV X hK hw (k := 0) (As := [.int (nI r), .int (nI 1)]) (rest := [.int (nI (rA A r 0))]) (w_race hI (by omega) hJ.1.1 hO363 (nI r) (nI 1) (fun g t tm hE => a_rac1 hJ hc hk hE (by omega) tm)) (x_cwV yX7_race cX7_race 3 (some .int) 2 X q804 q805 q806 q1 q807 hd_X7_race ⟨(Nat.le_of_ble_eq_true rfl), (Nat.le_of_ble_eq_true rfl)⟩) (by omega) hO363.ma rfl rfl hl.1 rfl (Nat.le_of_ble_eq_true rfl) dL_finishes_29 ⟨(Nat.le_of_ble_eq_true rfl), (Nat.le_of_ble_eq_true rfl)⟩ (fun v365 F366 H locs hp hw => ?_)
      obtain ⟨e367, hO368, hf369⟩ := hp
      refine x_top e367 ?_
      replace hfr := hfr.tr hf369 (by omega) (by omega)
      refine lv_imul X.1 X.2.1 dL_finishes_32 ?_
      refine x_top (pk_mul _ _) ?_
      refine lv_istore (lv' := [(5, .int (nI ((rA A r 0) * (rA A r 1)))), (4, .int (nI (A 0))), (3, .int (nI r)), (2, .int ((-5))), (0, .ref (ad 0)), (1, .int (nI b))]) X.1 X.2.1 dL_finishes_33 hl (by decide) rfl (fun ls hl => ?_)
      refine lv_aload_n X.1 X.2.1 dL_finishes_35 rfl (lv_at hl 4 rfl) ?_
      refine lv_iload_n X.1 X.2.1 dL_finishes_36 rfl (lv_at hl 2 rfl) ?_
      refine lv_bipush (v := nI 6) X.1 X.2.1 dL_finishes_37 (by decide) ?_
      refine x_callV X hK hw (k := 0) (As := [.int (nI r), .int (nI 6)]) (rest := []) (w_race hI (by omega) hJ.1.1 hO368 (nI r) (nI 6) (fun g t tm hE => (a_rac6 hJ hc hk hE (by omega) tm).trans (congrArg oI hj))) (x_cwV yX7_race cX7_race 3 (some .int) 2 X q804 q805 q806 q1 q807 hd_X7_race ⟨(Nat.le_of_ble_eq_true rfl), (Nat.le_of_ble_eq_true rfl)⟩) (by omega) hO368.ma rfl rfl hl.1 rfl (Nat.le_of_ble_eq_true rfl) dL_finishes_39 ⟨(Nat.le_of_ble_eq_true rfl), (Nat.le_of_ble_eq_true rfl)⟩ (fun v370 F371 H locs hp hw => ?_)
      obtain ⟨e372, hO373, hf374⟩ := hp
      refine x_top e372 ?_
      replace hfr := hfr.tr hf374 (by omega) (by omega)
      refine lv_istore (lv' := [(6, .int (nI j)), (5, .int (nI ((rA A r 0) * (rA A r 1)))), (4, .int (nI (A 0))), (3, .int (nI r)), (2, .int ((-5))), (0, .ref (ad 0)), (1, .int (nI b))]) X.1 X.2.1 dL_finishes_42 hl (by decide) rfl (fun ls hl => ?_)
      refine lv_iload X.1 X.2.1 dL_finishes_44 (lv_at hl 0 rfl) ?_
      refine lv_if_ge (tgt := 53) X.1 X.2.1 dL_finishes_46 (by decide) (fun c375 => ?_) (fun c375 => ?_)
      · have n376 := (bz_ge (by omega)).mp c375
        refine lv_aload_n X.1 X.2.1 dL_finishes_53 rfl (lv_at hl 5 rfl) ?_
        refine lv_iload_n X.1 X.2.1 dL_finishes_54 rfl (lv_at hl 3 rfl) ?_
        refine lv_iload X.1 X.2.1 dL_finishes_55 (lv_at hl 0 rfl) ?_
        refine lv_bipush (v := nI 6) X.1 X.2.1 dL_finishes_57 (by decide) ?_
        refine x_callV X hK hw (k := 0) (As := [.int (nI r), .int (nI j), .int (nI 6)]) (rest := []) (w_result hI (by omega) hJ.1.1 hO373 (nI r) (nI j) (nI 6) (fun g t tm hE => (a_res6 hJ hc hk hE (by omega) hj1 tm).trans (co_n hJ hc hk (by omega) hj1 hj2.1))) (x_cwV yX7_result cX7_result 4 (some .int) 3 X q695 q696 q697 q1 q698 hd_X7_result ⟨(Nat.le_of_ble_eq_true rfl), (Nat.le_of_ble_eq_true rfl)⟩) (by omega) hO373.ma rfl rfl hl.1 rfl (Nat.le_of_ble_eq_true rfl) dL_finishes_59 ⟨(Nat.le_of_ble_eq_true rfl), (Nat.le_of_ble_eq_true rfl)⟩ (fun v377 F378 H locs hp hw => ?_)
        obtain ⟨e379, hO380, hf381⟩ := hp
        refine x_top e379 ?_
        replace hfr := hfr.tr hf381 (by omega) (by omega)
        refine lv_istore (lv' := [(7, .int (nI (coN A r j))), (6, .int (nI j)), (5, .int (nI ((rA A r 0) * (rA A r 1)))), (4, .int (nI (A 0))), (3, .int (nI r)), (2, .int ((-5))), (0, .ref (ad 0)), (1, .int (nI b))]) X.1 X.2.1 dL_finishes_62 hl (by decide) rfl (fun ls hl => ?_)
        have way64 : ∀ (B : Nat → Nat) (F1 : Nat → va_E) (hJB : HJ ca B) (hBe : ∀ i, i ≠ 80 + 6 * (9 * r + b) + 1 → B i = A i) (hm : eA B r b 1 ≤ rA A r 0 * rA A r 1) (hOB : OB ad cI cB cS F1 (nI 1) B A) (hfr : Fr F F1 0 111) (hx : rA A r 0 * rA A r 1 ≤ eA B r b 1) (H : Heap) (locs : List Loc) (hw : HW D (Af ad N s.heap.size) ad N F1 s H locs) (ls : Array Slot) (hl : lv_has ls 10 [(7, .int (nI (coN A r j))), (6, .int (nI j)), (5, .int (nI ((rA A r 0) * (rA A r 1)))), (4, .int (nI (A 0))), (3, .int (nI r)), (2, .int ((-5))), (0, .ref (ad 0)), (1, .int (nI b))]), W p l e { frames := 7, cells := 0, slots := 0, locals := 171 } s m [.ref (ad 0), .int (nI b)].toArray below meth c H locs 0 0 (MQ below (va_Qi (fun v F' => v = nI 1 ∧ OB ad cI cB cS F' (nI 1) A A ∧ Fr F F' 0 111) (fun F' t => PO D ad N F' t) (Af ad N s.heap.size)) [.ref (ad 0), .int (nI b)].toArray s 0 0 (Af ad N s.heap.size)) (F0 m 100 ls []) := by
          intro B F1 hJB hBe hm hOB hfr hx H locs hw ls hl
          have hB0 : B 0 = A 0 := hBe 0 (by omega)
          have hB1 : B 1 = A 1 := hBe 1 (by omega)
          have hB2 : B 2 = A 2 := hBe 2 (by omega)
          have hrB : r + 1 = B 2 := by omega
          have hs2 : eA B r b 0 = 2 := (hBe _ (by omega)).trans hs
          have hr0 : rA B r 0 = rA A r 0 := hBe _ (by omega)
          have hr1 : rA B r 1 = rA A r 1 := hBe _ (by omega)
          have hop2 : opn B := (opn_r hrB).mpr ((hBe _ (by omega)).trans hop)
          have hal2 : rA B r 0 * rA B r 1 = rA A r 0 * rA A r 1 := by rw [hr0, hr1]
          refine lv_iload_n X.1 X.2.1 dL_finishes_100 rfl (lv_at hl 5 rfl) ?_
          refine lv_bipush (v := (-5)) X.1 X.2.1 dL_finishes_101 (by decide) ?_
          refine lv_icmp_eq (tgt := 115) X.1 X.2.1 dL_finishes_103 (by decide) (fun c382 => ?_) (fun c382 => ?_)
          · refine lv_iconst (v := nI 1) X.1 X.2.1 dL_finishes_115 (by decide) ?_
            refine lv_goto (tgt := 120) X.1 X.2.1 dL_finishes_116 (by decide) ?_
            refine lv_istore (lv' := [(8, .int (nI 1)), (7, .int (nI (coN A r j))), (6, .int (nI j)), (5, .int (nI ((rA A r 0) * (rA A r 1)))), (4, .int (nI (A 0))), (3, .int (nI r)), (2, .int ((-5))), (0, .ref (ad 0)), (1, .int (nI b))]) X.1 X.2.1 dL_finishes_120 hl (by decide) rfl (fun ls hl => ?_)
            refine lv_iload_n X.1 X.2.1 dL_finishes_122 rfl (lv_at hl 6 rfl) ?_
            refine lv_if_le (tgt := 146) X.1 X.2.1 dL_finishes_123 (by decide) (fun c383 => ?_) (fun c383 => ?_)
            · refine lv_iload X.1 X.2.1 dL_finishes_146 (lv_at hl 0 rfl) ?_
              refine lv_if_eq (tgt := 208) X.1 X.2.1 dL_finishes_148 (by decide) (fun c384 => ?_) (fun c384 => ?_)
              · exact absurd c384 (by decide)
              · have xB : ∀ i, i ≠ 0 → i ≠ 80 + 6 * (9 * r + b) + 1 → B i = A i := fun i h1 h2 => hBe i h2
                have hrB : r + 1 = B 2 := by omega
                have s2B : eA B r b 0 = 2 := hs2
                have opB : opn B := hop2
                have alB : eA B r b 1 = rA B r 0 * rA B r 1 := by rw [hr0, hr1]; omega
                refine lv_aload_n X.1 X.2.1 dL_finishes_151 rfl (lv_at hl 7 rfl) ?_
                refine lv_iload_n X.1 X.2.1 dL_finishes_152 rfl (lv_at hl 8 rfl) ?_
                refine x_callV X hK hw (k := 0) (As := [.int (nI b)]) (rest := []) (w_line hI (by omega) hOB (nI b) (fun g t hE => a_line_fi_r hrB hJB opB (by omega) s2B alB hE)) (x_cwV yX7_line cX7_line 2 (some .int) 1 X q353 q354 q355 q1 q356 hd_X7_line ⟨(Nat.le_of_ble_eq_true rfl), (Nat.le_of_ble_eq_true rfl)⟩) (by omega) hOB.ma rfl rfl hl.1 rfl (Nat.le_of_ble_eq_true rfl) dL_finishes_153 ⟨(Nat.le_of_ble_eq_true rfl), (Nat.le_of_ble_eq_true rfl)⟩ (fun v385 F386 H locs hp hw => ?_)
                obtain ⟨e387, hO388, hf389⟩ := hp
                refine x_top e387 ?_
                replace hfr := hfr.tr hf389 (by omega) (by omega)
                obtain ⟨B390, hB390⟩ : ∃ y, y = ep (ep B r b 5 (B 0)) r b 0 3 := ⟨_, rfl⟩
                rw [← hB390] at hO388
                have jB390 : HJ ca B390 := by rw [hB390]; exact j_fin_r hrB hJB opB (by omega) s2B alB
                have qB390 : ∀ i, i ≠ 80 + 6 * (9 * r + b) + 0 → i ≠ 80 + 6 * (9 * r + b) + 5 → B390 i = B i := fun i h1 h2 => by rw [hB390]; exact (nup_ne h1).trans (nup_ne h2)
                have hDfB390 : eA B390 r b 0 = 3 := by rw [hB390]; exact ep_at
                have d5B390 : eA B390 r b 5 = B 0 := by rw [hB390]; exact (nup_ne (by omega)).trans ep_at
                have d0B390 : B390 0 = B 0 := qB390 0 (by omega) (by omega)
                have d1B390 : B390 1 = A 1 := (qB390 1 (by omega) (by omega)).trans (by omega)
                have d2B390 : B390 2 = A 2 := (qB390 2 (by omega) (by omega)).trans (by omega)
                have d3B390 : eA B390 r b 3 = eA A r b 3 := (qB390 _ (by omega) (by omega)).trans (xB _ (by omega) (by omega))
                have dsB390 : rA B390 r 2 = rA A r 2 := (qB390 _ (by omega) (by omega)).trans (xB _ (by omega) (by omega))
                have d7B390 : B390 (7 + b) = A (7 + b) := (qB390 _ (by omega) (by omega)).trans (xB _ (by omega) (by omega))
                have dcB390 : coN B390 r b = 100 * (B 0 - rA A r 2 + eA A r b 3) / A (7 + b) := by unfold coN elN; rw [d5B390, d3B390, dsB390, d7B390]
                have dbB390 := co_b jB390 hc (by omega) (r := r) (b := b) (by omega) (by omega)
                have dw : coN A r j ≤ coN B390 r b := by rw [dcB390]; exact (Nat.le_div_iff_mul_le (by omega)).mpr (by rw [← hbd]; omega)
                refine lv_iconst (v := nI 3) X.1 X.2.1 dL_finishes_156 (by decide) ?_
                refine lv_icmp_ne (tgt := 208) X.1 X.2.1 dL_finishes_157 (by decide) (fun c391 => ?_) (fun c391 => ?_)
                · exact absurd (by decide) c391
                · refine lv_iload X.1 X.2.1 dL_finishes_160 (lv_at hl 1 rfl) ?_
                  refine lv_if_lt (tgt := 195) X.1 X.2.1 dL_finishes_162 (by decide) (fun c392 => ?_) (fun c392 => ?_)
                  · exact absurd ((bz_lt (by omega)).mp c392) (by omega)
                  · have n393 : ¬ (coN A r j) < 0 := fun z => c392 ((bz_lt (by omega)).mpr z)
                    refine lv_aload_n X.1 X.2.1 dL_finishes_165 rfl (lv_at hl 7 rfl) ?_
                    refine lv_iload_n X.1 X.2.1 dL_finishes_166 rfl (lv_at hl 5 rfl) ?_
                    refine lv_iload_n X.1 X.2.1 dL_finishes_167 rfl (lv_at hl 8 rfl) ?_
                    refine lv_bipush (v := nI 6) X.1 X.2.1 dL_finishes_168 (by decide) ?_
                    refine x_callV X hK hw (k := 0) (As := [.int (nI r), .int (nI b), .int (nI 6)]) (rest := []) (w_result hI (by omega) jB390.1.1 hO388 (nI r) (nI b) (nI 6) (fun g t tm hE => (a_res6 jB390 hc (by omega) hE (by omega) (by omega) tm).trans (co_n jB390 hc (by omega) (by omega) (by omega) hDfB390))) (x_cwV yX7_result cX7_result 4 (some .int) 3 X q695 q696 q697 q1 q698 hd_X7_result ⟨(Nat.le_of_ble_eq_true rfl), (Nat.le_of_ble_eq_true rfl)⟩) (by omega) hO388.ma rfl rfl hl.1 rfl (Nat.le_of_ble_eq_true rfl) dL_finishes_170 ⟨(Nat.le_of_ble_eq_true rfl), (Nat.le_of_ble_eq_true rfl)⟩ (fun v394 F395 H locs hp hw => ?_)
                    obtain ⟨e396, hO397, hf398⟩ := hp
                    refine x_top e396 ?_
                    replace hfr := hfr.tr hf398 (by omega) (by omega)
                    refine lv_iload X.1 X.2.1 dL_finishes_173 (lv_at hl 1 rfl) ?_
                    refine lv_icmp_ge (tgt := 182) X.1 X.2.1 dL_finishes_175 (by decide) (fun c399 => ?_) (fun c399 => ?_)
                    · have n400 := (nI_leI (by omega) (by omega)).mp c399
                      refine lv_iconst (v := nI 0) X.1 X.2.1 dL_finishes_182 (by decide) ?_
                      refine lv_iload_n X.1 X.2.1 dL_finishes_183 rfl (lv_at hl 6 rfl) ?_
                      refine lv_if_lt (tgt := 191) X.1 X.2.1 dL_finishes_184 (by decide) (fun c401 => ?_) (fun c401 => ?_)
                      · refine lv_iconst (v := nI 0) X.1 X.2.1 dL_finishes_191 (by decide) ?_
                        refine lv_icmp_ne (tgt := 208) X.1 X.2.1 dL_finishes_192 (by decide) (fun c402 => ?_) (fun c402 => ?_)
                        · exact absurd (by decide) c402
                        · refine lv_aload_n X.1 X.2.1 dL_finishes_195 rfl (lv_at hl 7 rfl) ?_
                          refine x_callV X hK hw (k := 0) (As := []) (rest := []) (w_restore hI (by omega) hO397) (x_cwV yX7_restore cX7_restore 1 (some .int) 0 X q691 q692 q693 q1 q694 hd_X7_restore ⟨(Nat.le_of_ble_eq_true rfl), (Nat.le_of_ble_eq_true rfl)⟩) (by omega) hO397.ma rfl rfl hl.1 rfl (Nat.le_of_ble_eq_true rfl) dL_finishes_196 ⟨(Nat.le_of_ble_eq_true rfl), (Nat.le_of_ble_eq_true rfl)⟩ (fun v403 F404 H locs hp hw => ?_)
                          obtain ⟨e405, hO406, hf407⟩ := hp
                          refine x_top e405 ?_
                          replace hfr := hfr.tr hf407 (by omega) (by omega)
                          refine lv_iload X.1 X.2.1 dL_finishes_199 (lv_at hl 4 rfl) ?_
                          refine lv_icmp_ne (tgt := 208) X.1 X.2.1 dL_finishes_201 (by decide) (fun c408 => ?_) (fun c408 => ?_)
                          · exact absurd ((nI_eq (by omega) (by omega)).mpr (by omega)) c408
                          · have n409 := (nI_eq (by omega) (by omega)).mp c408
                            refine lv_iconst (v := nI 1) X.1 X.2.1 dL_finishes_204 (by decide) ?_
                            refine lv_goto (tgt := 209) X.1 X.2.1 dL_finishes_205 (by decide) ?_
                            refine lv_istore (lv' := [(8, .int (nI 1)), (7, .int (nI (coN A r j))), (6, .int (nI j)), (5, .int (nI ((rA A r 0) * (rA A r 1)))), (4, .int (nI (A 0))), (3, .int (nI r)), (2, .int ((-5))), (0, .ref (ad 0)), (1, .int (nI b))]) X.1 X.2.1 dL_finishes_209 hl (by decide) rfl (fun ls hl => ?_)
                            refine lv_iload X.1 X.2.1 dL_finishes_211 (lv_at hl 0 rfl) ?_
                            refine lv_if_eq (tgt := 220) X.1 X.2.1 dL_finishes_213 (by decide) (fun c410 => ?_) (fun c410 => ?_)
                            · exact absurd c410 (by decide)
                            · refine lv_iload_n X.1 X.2.1 dL_finishes_216 rfl (lv_at hl 6 rfl) ?_
                              refine lv_if_ge (tgt := 223) X.1 X.2.1 dL_finishes_217 (by decide) (fun c411 => ?_) (fun c411 => ?_)
                              · exact absurd c411 (by decide)
                              · refine lv_iload X.1 X.2.1 dL_finishes_220 (lv_at hl 0 rfl) ?_
                                exact x_iret X hr hlk hK hw (v := nI 1) (by first | rfl | exact nr_b _ | decide) (⟨rfl, hO406, hfr⟩) dL_finishes_222
                      · exact absurd (by decide) c401
                    · exact absurd ((nI_leI (by omega) (by omega)).mpr (by omega)) c399
            · exact absurd (by decide) c383
          · exact absurd (by decide) c382
        have loop64 : ∀ (fu : Nat) (B : Nat → Nat) (F1 : Nat → va_E) (hfu : rA A r 0 * rA A r 1 ≤ eA B r b 1 + fu) (hJB : HJ ca B) (hBe : ∀ i, i ≠ 80 + 6 * (9 * r + b) + 1 → B i = A i) (hm : eA B r b 1 ≤ rA A r 0 * rA A r 1) (hOB : OB ad cI cB cS F1 (nI 1) B A) (hfr : Fr F F1 0 111) (H : Heap) (locs : List Loc) (hw : HW D (Af ad N s.heap.size) ad N F1 s H locs) (ls : Array Slot) (hl : lv_has ls 10 [(7, .int (nI (coN A r j))), (6, .int (nI j)), (5, .int (nI ((rA A r 0) * (rA A r 1)))), (4, .int (nI (A 0))), (3, .int (nI r)), (2, .int ((-5))), (0, .ref (ad 0)), (1, .int (nI b))]), W p l e { frames := 7, cells := 0, slots := 0, locals := 171 } s m [.ref (ad 0), .int (nI b)].toArray below meth c H locs 0 0 (MQ below (va_Qi (fun v F' => v = nI 1 ∧ OB ad cI cB cS F' (nI 1) A A ∧ Fr F F' 0 111) (fun F' t => PO D ad N F' t) (Af ad N s.heap.size)) [.ref (ad 0), .int (nI b)].toArray s 0 0 (Af ad N s.heap.size)) (F0 m 64 ls []) := by
          intro fu
          induction fu with
          | zero =>
            intro B F1 hfu hJB hBe hm hOB hfr H locs hw ls hl
            have hB0 : B 0 = A 0 := hBe 0 (by omega)
            have hB1 : B 1 = A 1 := hBe 1 (by omega)
            have hB2 : B 2 = A 2 := hBe 2 (by omega)
            have hrB : r + 1 = B 2 := by omega
            have hs2 : eA B r b 0 = 2 := (hBe _ (by omega)).trans hs
            have hr0 : rA B r 0 = rA A r 0 := hBe _ (by omega)
            have hr1 : rA B r 1 = rA A r 1 := hBe _ (by omega)
            have hop2 : opn B := (opn_r hrB).mpr ((hBe _ (by omega)).trans hop)
            have hal2 : rA B r 0 * rA B r 1 = rA A r 0 * rA A r 1 := by rw [hr0, hr1]
            refine lv_aload_n X.1 X.2.1 dL_finishes_64 rfl (lv_at hl 6 rfl) ?_
            refine lv_iload_n X.1 X.2.1 dL_finishes_65 rfl (lv_at hl 4 rfl) ?_
            refine lv_iload_n X.1 X.2.1 dL_finishes_66 rfl (lv_at hl 7 rfl) ?_
            refine lv_iconst (v := nI 1) X.1 X.2.1 dL_finishes_67 (by decide) ?_
            refine x_callV X hK hw (k := 0) (As := [.int (nI r), .int (nI b), .int (nI 1)]) (rest := []) (w_result hI (by omega) hJB.1.1 hOB (nI r) (nI b) (nI 1) (fun g t tm hE => a_res1 hJB hc (by omega) hE (by omega) (by omega) tm)) (x_cwV yX7_result cX7_result 4 (some .int) 3 X q695 q696 q697 q1 q698 hd_X7_result ⟨(Nat.le_of_ble_eq_true rfl), (Nat.le_of_ble_eq_true rfl)⟩) (by omega) hOB.ma rfl rfl hl.1 rfl (Nat.le_of_ble_eq_true rfl) dL_finishes_68 ⟨(Nat.le_of_ble_eq_true rfl), (Nat.le_of_ble_eq_true rfl)⟩ (fun v412 F413 H locs hp hw => ?_)
            obtain ⟨e414, hO415, hf416⟩ := hp
            refine x_top e414 ?_
            replace hfr := hfr.tr hf416 (by omega) (by omega)
            refine lv_iload X.1 X.2.1 dL_finishes_71 (lv_at hl 2 rfl) ?_
            refine lv_icmp_ge (tgt := 100) X.1 X.2.1 dL_finishes_73 (by decide) (fun c417 => ?_) (fun c417 => ?_)
            · have n418 := (nI_leI (by omega) (by omega)).mp c417
              exact way64 B F413 hJB hBe hm hO415 hfr n418 _ _ hw _ (lv_sub hl [0, 1, 2, 3, 4, 5, 6, 7] rfl)
            · exact absurd ((nI_leI (by omega) (by omega)).mpr (by omega)) c417
          | succ fu ih =>
            intro B F1 hfu hJB hBe hm hOB hfr H locs hw ls hl
            have hB0 : B 0 = A 0 := hBe 0 (by omega)
            have hB1 : B 1 = A 1 := hBe 1 (by omega)
            have hB2 : B 2 = A 2 := hBe 2 (by omega)
            have hrB : r + 1 = B 2 := by omega
            have hs2 : eA B r b 0 = 2 := (hBe _ (by omega)).trans hs
            have hr0 : rA B r 0 = rA A r 0 := hBe _ (by omega)
            have hr1 : rA B r 1 = rA A r 1 := hBe _ (by omega)
            have hop2 : opn B := (opn_r hrB).mpr ((hBe _ (by omega)).trans hop)
            have hal2 : rA B r 0 * rA B r 1 = rA A r 0 * rA A r 1 := by rw [hr0, hr1]
            refine lv_aload_n X.1 X.2.1 dL_finishes_64 rfl (lv_at hl 6 rfl) ?_
            refine lv_iload_n X.1 X.2.1 dL_finishes_65 rfl (lv_at hl 4 rfl) ?_
            refine lv_iload_n X.1 X.2.1 dL_finishes_66 rfl (lv_at hl 7 rfl) ?_
            refine lv_iconst (v := nI 1) X.1 X.2.1 dL_finishes_67 (by decide) ?_
            refine x_callV X hK hw (k := 0) (As := [.int (nI r), .int (nI b), .int (nI 1)]) (rest := []) (w_result hI (by omega) hJB.1.1 hOB (nI r) (nI b) (nI 1) (fun g t tm hE => a_res1 hJB hc (by omega) hE (by omega) (by omega) tm)) (x_cwV yX7_result cX7_result 4 (some .int) 3 X q695 q696 q697 q1 q698 hd_X7_result ⟨(Nat.le_of_ble_eq_true rfl), (Nat.le_of_ble_eq_true rfl)⟩) (by omega) hOB.ma rfl rfl hl.1 rfl (Nat.le_of_ble_eq_true rfl) dL_finishes_68 ⟨(Nat.le_of_ble_eq_true rfl), (Nat.le_of_ble_eq_true rfl)⟩ (fun v419 F420 H locs hp hw => ?_)
            obtain ⟨e421, hO422, hf423⟩ := hp
            refine x_top e421 ?_
            replace hfr := hfr.tr hf423 (by omega) (by omega)
            refine lv_iload X.1 X.2.1 dL_finishes_71 (lv_at hl 2 rfl) ?_
            refine lv_icmp_ge (tgt := 100) X.1 X.2.1 dL_finishes_73 (by decide) (fun c424 => ?_) (fun c424 => ?_)
            · have n425 := (nI_leI (by omega) (by omega)).mp c424
              exact way64 B F420 hJB hBe hm hO422 hfr n425 _ _ hw _ (lv_sub hl [0, 1, 2, 3, 4, 5, 6, 7] rfl)
            · have n426 : ¬ ((rA A r 0) * (rA A r 1)) ≤ (eA B r b 1) := fun z => c424 ((nI_leI (by omega) (by omega)).mpr z)
              refine lv_aload_n X.1 X.2.1 dL_finishes_76 rfl (lv_at hl 6 rfl) ?_
              refine lv_iload_n X.1 X.2.1 dL_finishes_77 rfl (lv_at hl 7 rfl) ?_
              refine lv_aload_n X.1 X.2.1 dL_finishes_78 rfl (lv_at hl 6 rfl) ?_
              refine lv_iload_n X.1 X.2.1 dL_finishes_79 rfl (lv_at hl 4 rfl) ?_
              refine lv_iload_n X.1 X.2.1 dL_finishes_80 rfl (lv_at hl 7 rfl) ?_
              refine lv_iconst (v := nI 1) X.1 X.2.1 dL_finishes_81 (by decide) ?_
              refine x_callV X hK hw (k := 0) (As := [.int (nI r), .int (nI b), .int (nI 1)]) (rest := [.int (nI b), .ref (ad 0)]) (w_result hI (by omega) hJB.1.1 hO422 (nI r) (nI b) (nI 1) (fun g t tm hE => a_res1 hJB hc (by omega) hE (by omega) (by omega) tm)) (x_cwV yX7_result cX7_result 4 (some .int) 3 X q695 q696 q697 q1 q698 hd_X7_result ⟨(Nat.le_of_ble_eq_true rfl), (Nat.le_of_ble_eq_true rfl)⟩) (by omega) hO422.ma rfl rfl hl.1 rfl (Nat.le_of_ble_eq_true rfl) dL_finishes_82 ⟨(Nat.le_of_ble_eq_true rfl), (Nat.le_of_ble_eq_true rfl)⟩ (fun v427 F428 H locs hp hw => ?_)
              obtain ⟨e429, hO430, hf431⟩ := hp
              refine x_top e429 ?_
              replace hfr := hfr.tr hf431 (by omega) (by omega)
              refine lv_aload_n X.1 X.2.1 dL_finishes_85 rfl (lv_at hl 6 rfl) ?_
              refine lv_iload_n X.1 X.2.1 dL_finishes_86 rfl (lv_at hl 4 rfl) ?_
              refine lv_iconst (v := nI 0) X.1 X.2.1 dL_finishes_87 (by decide) ?_
              refine x_callV X hK hw (k := 0) (As := [.int (nI r), .int (nI 0)]) (rest := [.int (nI (eA B r b 1)), .int (nI b), .ref (ad 0)]) (w_race hI (by omega) hJB.1.1 hO430 (nI r) (nI 0) (fun g t tm hE => a_rac0 hJB hc (by omega) hE (by omega) tm)) (x_cwV yX7_race cX7_race 3 (some .int) 2 X q804 q805 q806 q1 q807 hd_X7_race ⟨(Nat.le_of_ble_eq_true rfl), (Nat.le_of_ble_eq_true rfl)⟩) (by omega) hO430.ma rfl rfl hl.1 rfl (Nat.le_of_ble_eq_true rfl) dL_finishes_88 ⟨(Nat.le_of_ble_eq_true rfl), (Nat.le_of_ble_eq_true rfl)⟩ (fun v432 F433 H locs hp hw => ?_)
              obtain ⟨e434, hO435, hf436⟩ := hp
              refine x_top e434 ?_
              replace hfr := hfr.tr hf436 (by omega) (by omega)
              refine lv_irem X.1 X.2.1 dL_finishes_91 (fun z => by have := (bz_eq (by omega)).mp z; omega) ?_
              refine x_top (nI_mod (by omega) (by omega) (by omega)) ?_
              refine x_callV X hK hw (k := 0) (As := [.int (nI b), .int (nI ((eA B r b 1) % (rA B r 0)))]) (rest := []) (w_buoy hI (by omega) hO435 (nI b) (nI ((eA B r b 1) % (rA B r 0))) (fun g t hE => a_buoy_ok_r hrB hJB hop2 (by omega) (show (eA B r b 1) % (rA B r 0) < rA B r 0 from Nat.mod_lt _ (by omega)) hs2 rfl (by omega) hE)) (x_cwV yX7_buoy cX7_buoy 3 (some .int) 2 X q383 q384 q385 q1 q386 hd_X7_buoy ⟨(Nat.le_of_ble_eq_true rfl), (Nat.le_of_ble_eq_true rfl)⟩) (by omega) hO435.ma rfl rfl hl.1 rfl (Nat.le_of_ble_eq_true rfl) dL_finishes_92 ⟨(Nat.le_of_ble_eq_true rfl), (Nat.le_of_ble_eq_true rfl)⟩ (fun v437 F438 H locs hp hw => ?_)
              obtain ⟨e439, hO440, hf441⟩ := hp
              refine x_top e439 ?_
              replace hfr := hfr.tr hf441 (by omega) (by omega)
              obtain ⟨B442, hB442⟩ : ∃ y, y = ep B r b 1 (eA B r b 1 + 1) := ⟨_, rfl⟩
              rw [← hB442] at hO440
              have jB442 : HJ ca B442 := by rw [hB442]; exact j_made_r hrB hJB hop2 (by omega) hs2 (by omega)
              have eB442 : ∀ i, i ≠ 80 + 6 * (9 * r + b) + 1 → B442 i = A i := fun i hi => by rw [hB442]; exact (nup_ne hi).trans (hBe i hi)
              have mB442 : eA B442 r b 1 = eA B r b 1 + 1 := by rw [hB442]; exact ep_at
              refine lv_istore (lv' := [(8, .int (nI (eA B r b 1 + 1))), (7, .int (nI (coN A r j))), (6, .int (nI j)), (5, .int (nI ((rA A r 0) * (rA A r 1)))), (4, .int (nI (A 0))), (3, .int (nI r)), (2, .int ((-5))), (0, .ref (ad 0)), (1, .int (nI b))]) X.1 X.2.1 dL_finishes_95 hl (by decide) rfl (fun ls hl => ?_)
              refine lv_goto (tgt := 64) X.1 X.2.1 dL_finishes_97 (by decide) ?_
              exact ih B442 F438 (by omega) jB442 eB442 (by omega) hO440 hfr _ _ hw _ (lv_sub hl [1, 2, 3, 4, 5, 6, 7, 8] rfl)
        exact loop64 (rA A r 0 * rA A r 1) A F378 (by omega) hJ (fun _ _ => rfl) (by omega) hO380 hfr _ _ hw _ (lv_sub hl [0, 1, 2, 3, 4, 5, 6, 7] rfl)
      · exact absurd ((bz_ge (by omega)).mpr (by omega)) c375
