/-! the law's methods: numbers, waits -/
theorem br_lt {a b : Nat} (ha : a < 2 ^ 31) (hb : b < 2 ^ 31) : nI a < nI b ↔ a < b := ⟨fun q => Nat.lt_of_not_le fun z => nI_nlt z ha q, fun q => nI_lt q hb⟩
theorem bz_lt {a : Nat} (ha : a < 2 ^ 31) : nI a < 0 ↔ a < 0 := ⟨fun q => absurd q (nI_pos ha), fun q => absurd q (by omega)⟩
theorem bz_le {a : Nat} (ha : a < 2 ^ 31) : nI a ≤ 0 ↔ a ≤ 0 := ⟨fun q => Nat.le_of_not_lt fun z => nI_nle z ha q, fun q => by rw [show a = 0 by omega]; decide⟩
theorem bz_ge {a : Nat} (ha : a < 2 ^ 31) : 0 ≤ nI a ↔ 0 ≤ a := ⟨fun _ => by omega, fun _ => nI_pos' ha⟩
theorem bz_gt {a : Nat} (ha : a < 2 ^ 31) : 0 < nI a ↔ 0 < a := ⟨fun q => Nat.pos_of_ne_zero fun z => by rw [z] at q; exact absurd q (by decide), fun q => nI_lt (a := 0) q ha⟩
theorem bz_eq {a : Nat} (ha : a < 2 ^ 31) : nI a = 0 ↔ a = 0 := nI_eq (b := 0) ha (by omega)
theorem nI_neN {n : Nat} {x : Int32} (h : n < 2 ^ 31) (hx : x < 0) : ¬ nI n = x := fun q => by rw [← q] at hx; exact nI_pos h hx
theorem nI_nltN {n : Nat} {x : Int32} (h : n < 2 ^ 31) (hx : x < 0) : ¬ nI n < x := fun q => nI_pos h (Int32.lt_trans q hx)
theorem nI_ltN {n : Nat} {x : Int32} (h : n < 2 ^ 31) (hx : x < 0) : x < nI n := Int32.lt_of_lt_of_le hx (nI_pos' h)
theorem nI_leN {n : Nat} {x : Int32} (h : n < 2 ^ 31) (hx : x < 0) : x ≤ nI n := Int32.le_of_lt (nI_ltN h hx)
theorem nI_nleN {n : Nat} {x : Int32} (h : n < 2 ^ 31) (hx : x < 0) : ¬ nI n ≤ x := fun q => nI_pos h (Int32.lt_of_le_of_lt q hx)
theorem nup_fun {A B : Nat → Nat} {v : Nat} (h0 : B 0 = v) (h : ∀ i, i ≠ 0 → B i = A i) : B = nup A 0 v := by
  funext i
  by_cases q : i = 0
  · rw [q, nup_at]; exact h0
  · rw [nup_ne q]; exact h i q
theorem hd_X7_count : yX7_count.cls = RX7 ∧ yX7_count.cls ≠ "java/lang/invoke/MethodHandle" ∧ yX7_count.cls ≠ "java/lang/invoke/VarHandle" ∧ (parseMethodDescriptor yX7_count.desc).map (fun d => d.parameters.length) = some 1 := by decide +kernel
theorem hd_X7_pass : yX7_pass.cls = RX7 ∧ yX7_pass.cls ≠ "java/lang/invoke/MethodHandle" ∧ yX7_pass.cls ≠ "java/lang/invoke/VarHandle" ∧ (parseMethodDescriptor yX7_pass.desc).map (fun d => d.parameters.length) = some 1 := by decide +kernel
set_option maxHeartbeats 4000000 in
set_option maxRecDepth 100000 in
theorem k_L_waits {l : Launch} {D : va_G} {cI cB cS : ClassId} {ad : Nat → Nat} {N : Nat} {F : Nat → va_E} (hI : iN ad N) (hN : 114 ≤ N) {ca : Nat} {hs : Int32} {A A3 : Nat → Nat} (hJ : HJ ca A) (hc : ca ≤ 512) (hk : A 0 ≤ 999999) (hO : OB ad cI cB cS F hs A A3) {n : Nat} (hn : A 0 + n ≤ 999999) : Ci l D cI cB cS ad N yL_waits cL_waits 6 (some .boolean) 5 146 [.ref (ad 0), .int (nI n)] F (fun v F' => v = nI 1 ∧ OB ad cI cB cS F' hs (nup A 0 (A 0 + n)) A3 ∧ Fr F F' 0 111) := by
  refine x_met (by decide +kernel) (Nat.le_of_ble_eq_true rfl) ?_
  intro p e s m below meth c X hr hlk hK hw ls hl
  replace hl : lv_has ls 6 [(0, .ref (ad 0)), (1, .int (nI n))] := hl
  have hfr : Fr F F 0 111 := Fr.rf
  refine lv_iload_n X.1 X.2.1 dL_waits_0 rfl (lv_at hl 1 rfl) ?_
  refine lv_istore_n (lv' := [(2, .int (nI n)), (0, .ref (ad 0)), (1, .int (nI n))]) X.1 X.2.1 dL_waits_1 rfl hl (by decide) rfl (fun ls hl => ?_)
  refine lv_aload_n X.1 X.2.1 dL_waits_2 rfl (lv_at hl 1 rfl) ?_
  refine lv_iconst (v := nI 3) X.1 X.2.1 dL_waits_3 (by decide) ?_
  refine x_callV X hK hw (k := 0) (As := [.int (nI 3)]) (rest := []) (w_count hI (by omega) hO (nI 3) (fun g t z n hE => a_cou3 hJ hc (by omega) hE z n)) (x_cwV yX7_count cX7_count 2 (some .int) 1 X q818 q819 q820 q1 q821 hd_X7_count ⟨(Nat.le_of_ble_eq_true rfl), (Nat.le_of_ble_eq_true rfl)⟩) (by omega) hO.ma rfl rfl hl.1 rfl (Nat.le_of_ble_eq_true rfl) dL_waits_4 ⟨(Nat.le_of_ble_eq_true rfl), (Nat.le_of_ble_eq_true rfl)⟩ (fun v1 F2 H locs hp hw => ?_)
  obtain ⟨e3, hO4, hf5⟩ := hp
  refine x_top e3 ?_
  replace hfr := hfr.tr hf5 (by omega) (by omega)
  refine lv_iload_n X.1 X.2.1 dL_waits_7 rfl (lv_at hl 2 rfl) ?_
  refine lv_iadd X.1 X.2.1 dL_waits_8 ?_
  refine x_top (nI_add _ _) ?_
  refine lv_istore_n (lv' := [(3, .int (nI ((A 0) + n))), (2, .int (nI n)), (0, .ref (ad 0)), (1, .int (nI n))]) X.1 X.2.1 dL_waits_9 rfl hl (by decide) rfl (fun ls hl => ?_)
  refine lv_iconst (v := nI 1) X.1 X.2.1 dL_waits_10 (by decide) ?_
  refine lv_istore (lv' := [(4, .int (nI 1)), (3, .int (nI ((A 0) + n))), (2, .int (nI n)), (0, .ref (ad 0)), (1, .int (nI n))]) X.1 X.2.1 dL_waits_11 hl (by decide) rfl (fun ls hl => ?_)
  have loop13 : ∀ (fu : Nat) (left : Nat) (B : Nat → Nat) (F1 : Nat → va_E) (hfu : left ≤ fu) (hJ1 : HJ ca B) (hk1 : B 0 + left = A 0 + n) (hB1 : ∀ i, i ≠ 0 → B i = A i) (hO1 : OB ad cI cB cS F1 hs B A3) (hfr : Fr F F1 0 111) (H : Heap) (locs : List Loc) (hw : HW D (Af ad N s.heap.size) ad N F1 s H locs) (ls : Array Slot) (hl : lv_has ls 6 [(4, .int (nI 1)), (3, .int (nI (A 0 + n))), (2, .int (nI left)), (0, .ref (ad 0)), (1, .int (nI n))]), W p l e { frames := 5, cells := 0, slots := 0, locals := 146 } s m [.ref (ad 0), .int (nI n)].toArray below meth c H locs 0 0 (MQ below (va_Qi (fun v F' => v = nI 1 ∧ OB ad cI cB cS F' hs (nup A 0 (A 0 + n)) A3 ∧ Fr F F' 0 111) (fun F' t => PO D ad N F' t) (Af ad N s.heap.size)) [.ref (ad 0), .int (nI n)].toArray s 0 0 (Af ad N s.heap.size)) (F0 m 13 ls []) := by
    intro fu
    induction fu with
    | zero =>
      intro left B F1 hfu hJ1 hk1 hB1 hO1 hfr H locs hw ls hl
      refine lv_iload_n X.1 X.2.1 dL_waits_13 rfl (lv_at hl 2 rfl) ?_
      refine lv_if_le (tgt := 62) X.1 X.2.1 dL_waits_14 (by decide) (fun c6 => ?_) (fun c6 => ?_)
      · have n7 := (bz_le (by omega)).mp c6
        refine lv_iload X.1 X.2.1 dL_waits_62 (lv_at hl 0 rfl) ?_
        refine lv_if_eq (tgt := 80) X.1 X.2.1 dL_waits_64 (by decide) (fun c8 => ?_) (fun c8 => ?_)
        · exact absurd c8 (by decide)
        · refine lv_aload_n X.1 X.2.1 dL_waits_67 rfl (lv_at hl 3 rfl) ?_
          refine lv_iconst (v := nI 3) X.1 X.2.1 dL_waits_68 (by decide) ?_
          refine x_callV X hK hw (k := 0) (As := [.int (nI 3)]) (rest := []) (w_count hI (by omega) hO1 (nI 3) (fun g t z n hE => a_cou3 hJ1 hc (by omega) hE z n)) (x_cwV yX7_count cX7_count 2 (some .int) 1 X q818 q819 q820 q1 q821 hd_X7_count ⟨(Nat.le_of_ble_eq_true rfl), (Nat.le_of_ble_eq_true rfl)⟩) (by omega) hO1.ma rfl rfl hl.1 rfl (Nat.le_of_ble_eq_true rfl) dL_waits_69 ⟨(Nat.le_of_ble_eq_true rfl), (Nat.le_of_ble_eq_true rfl)⟩ (fun v9 F10 H locs hp hw => ?_)
          obtain ⟨e11, hO12, hf13⟩ := hp
          refine x_top e11 ?_
          replace hfr := hfr.tr hf13 (by omega) (by omega)
          refine lv_iload_n X.1 X.2.1 dL_waits_72 rfl (lv_at hl 1 rfl) ?_
          refine lv_icmp_ne (tgt := 80) X.1 X.2.1 dL_waits_73 (by decide) (fun c14 => ?_) (fun c14 => ?_)
          · exact absurd ((nI_eq (by omega) (by omega)).mpr (by omega)) c14
          · have n15 := (nI_eq (by omega) (by omega)).mp c14
            refine lv_iconst (v := nI 1) X.1 X.2.1 dL_waits_76 (by decide) ?_
            refine lv_goto (tgt := 81) X.1 X.2.1 dL_waits_77 (by decide) ?_
            exact x_iret X hr hlk hK hw (v := nI 1) (by first | rfl | exact nr_b _ | decide) (⟨rfl, by rw [← nup_fun (A := A) (B := B) (v := A 0 + n) (by omega) hB1]; exact hO12, hfr⟩) dL_waits_81
      · have n16 : ¬ left ≤ 0 := fun z => c6 ((bz_le (by omega)).mpr z)
        refine lv_iload X.1 X.2.1 dL_waits_17 (lv_at hl 0 rfl) ?_
        refine lv_if_eq (tgt := 62) X.1 X.2.1 dL_waits_19 (by decide) (fun c17 => ?_) (fun c17 => ?_)
        · exact absurd c17 (by decide)
        · refine lv_iload_n X.1 X.2.1 dL_waits_22 rfl (lv_at hl 2 rfl) ?_
          refine lv_sipush (v := nI 9999) X.1 X.2.1 dL_waits_23 (by decide) ?_
          refine lv_icmp_le (tgt := 35) X.1 X.2.1 dL_waits_26 (by decide) (fun c18 => ?_) (fun c18 => ?_)
          · have n19 := (nI_leI (by omega) (by omega)).mp c18
            refine lv_iload_n X.1 X.2.1 dL_waits_35 rfl (lv_at hl 2 rfl) ?_
            refine lv_istore (lv' := [(5, .int (nI left)), (4, .int (nI 1)), (3, .int (nI (A 0 + n))), (2, .int (nI left)), (0, .ref (ad 0)), (1, .int (nI n))]) X.1 X.2.1 dL_waits_36 hl (by decide) rfl (fun ls hl => ?_)
            refine lv_aload_n X.1 X.2.1 dL_waits_38 rfl (lv_at hl 4 rfl) ?_
            refine lv_iload X.1 X.2.1 dL_waits_39 (lv_at hl 0 rfl) ?_
            refine x_callV X hK hw (k := 0) (As := [.int (nI left)]) (rest := []) (w_pass hI (by omega) hO1 (nI left) (fun g t hE => a_pass (by omega) hE (by omega) (by omega) (by omega))) (x_cwV yX7_pass cX7_pass 2 (some .int) 1 X q344 q345 q346 q1 q347 hd_X7_pass ⟨(Nat.le_of_ble_eq_true rfl), (Nat.le_of_ble_eq_true rfl)⟩) (by omega) hO1.ma rfl rfl hl.1 rfl (Nat.le_of_ble_eq_true rfl) dL_waits_41 ⟨(Nat.le_of_ble_eq_true rfl), (Nat.le_of_ble_eq_true rfl)⟩ (fun v20 F21 H locs hp hw => ?_)
            obtain ⟨e22, hO23, hf24⟩ := hp
            refine x_top e22 ?_
            replace hfr := hfr.tr hf24 (by omega) (by omega)
            obtain ⟨B25, hB25⟩ : ∃ y, y = nup B 0 (B 0 + left) := ⟨_, rfl⟩
            rw [← hB25] at hO23
            have hjB25 : HJ ca B25 := by rw [hB25]; exact j_pass hJ1
            have hkB25 : B25 0 = B 0 + left := by rw [hB25]; exact nup_at
            have hBB25 : ∀ i, i ≠ 0 → B25 i = B i := fun i hi => by rw [hB25]; exact nup_ne hi
            refine lv_if_lt (tgt := 51) X.1 X.2.1 dL_waits_44 (by decide) (fun c26 => ?_) (fun c26 => ?_)
            · exact absurd ((bz_lt (by omega)).mp c26) (by omega)
            · have n27 : ¬ (B 0 + left) < 0 := fun z => c26 ((bz_lt (by omega)).mpr z)
              refine lv_iconst (v := nI 1) X.1 X.2.1 dL_waits_47 (by decide) ?_
              refine lv_goto (tgt := 52) X.1 X.2.1 dL_waits_48 (by decide) ?_
              refine lv_istore (lv' := [(4, .int (nI 1)), (5, .int (nI left)), (3, .int (nI (A 0 + n))), (2, .int (nI left)), (0, .ref (ad 0)), (1, .int (nI n))]) X.1 X.2.1 dL_waits_52 hl (by decide) rfl (fun ls hl => ?_)
              refine lv_iload_n X.1 X.2.1 dL_waits_54 rfl (lv_at hl 3 rfl) ?_
              refine lv_iload X.1 X.2.1 dL_waits_55 (lv_at hl 1 rfl) ?_
              refine lv_isub X.1 X.2.1 dL_waits_57 ?_
              refine x_top (pk_sub (by omega)) ?_
              refine lv_istore_n (lv' := [(2, .int (nI (left - left))), (4, .int (nI 1)), (5, .int (nI left)), (3, .int (nI (A 0 + n))), (0, .ref (ad 0)), (1, .int (nI n))]) X.1 X.2.1 dL_waits_58 rfl hl (by decide) rfl (fun ls hl => ?_)
              refine lv_goto (tgt := 13) X.1 X.2.1 dL_waits_59 (by decide) ?_
              exact absurd hfu (by omega)
          · have n28 : ¬ left ≤ 9999 := fun z => c18 ((nI_leI (by omega) (by omega)).mpr z)
            refine lv_sipush (v := nI 9999) X.1 X.2.1 dL_waits_29 (by decide) ?_
            refine lv_goto (tgt := 36) X.1 X.2.1 dL_waits_32 (by decide) ?_
            refine lv_istore (lv' := [(5, .int (nI 9999)), (4, .int (nI 1)), (3, .int (nI (A 0 + n))), (2, .int (nI left)), (0, .ref (ad 0)), (1, .int (nI n))]) X.1 X.2.1 dL_waits_36 hl (by decide) rfl (fun ls hl => ?_)
            refine lv_aload_n X.1 X.2.1 dL_waits_38 rfl (lv_at hl 4 rfl) ?_
            refine lv_iload X.1 X.2.1 dL_waits_39 (lv_at hl 0 rfl) ?_
            refine x_callV X hK hw (k := 0) (As := [.int (nI 9999)]) (rest := []) (w_pass hI (by omega) hO1 (nI 9999) (fun g t hE => a_pass (by omega) hE (by omega) (by omega) (by omega))) (x_cwV yX7_pass cX7_pass 2 (some .int) 1 X q344 q345 q346 q1 q347 hd_X7_pass ⟨(Nat.le_of_ble_eq_true rfl), (Nat.le_of_ble_eq_true rfl)⟩) (by omega) hO1.ma rfl rfl hl.1 rfl (Nat.le_of_ble_eq_true rfl) dL_waits_41 ⟨(Nat.le_of_ble_eq_true rfl), (Nat.le_of_ble_eq_true rfl)⟩ (fun v29 F30 H locs hp hw => ?_)
            obtain ⟨e31, hO32, hf33⟩ := hp
            refine x_top e31 ?_
            replace hfr := hfr.tr hf33 (by omega) (by omega)
            obtain ⟨B34, hB34⟩ : ∃ y, y = nup B 0 (B 0 + 9999) := ⟨_, rfl⟩
            rw [← hB34] at hO32
            have hjB34 : HJ ca B34 := by rw [hB34]; exact j_pass hJ1
            have hkB34 : B34 0 = B 0 + 9999 := by rw [hB34]; exact nup_at
            have hBB34 : ∀ i, i ≠ 0 → B34 i = B i := fun i hi => by rw [hB34]; exact nup_ne hi
            refine lv_if_lt (tgt := 51) X.1 X.2.1 dL_waits_44 (by decide) (fun c35 => ?_) (fun c35 => ?_)
            · exact absurd ((bz_lt (by omega)).mp c35) (by omega)
            · have n36 : ¬ (B 0 + 9999) < 0 := fun z => c35 ((bz_lt (by omega)).mpr z)
              refine lv_iconst (v := nI 1) X.1 X.2.1 dL_waits_47 (by decide) ?_
              refine lv_goto (tgt := 52) X.1 X.2.1 dL_waits_48 (by decide) ?_
              refine lv_istore (lv' := [(4, .int (nI 1)), (5, .int (nI 9999)), (3, .int (nI (A 0 + n))), (2, .int (nI left)), (0, .ref (ad 0)), (1, .int (nI n))]) X.1 X.2.1 dL_waits_52 hl (by decide) rfl (fun ls hl => ?_)
              refine lv_iload_n X.1 X.2.1 dL_waits_54 rfl (lv_at hl 3 rfl) ?_
              refine lv_iload X.1 X.2.1 dL_waits_55 (lv_at hl 1 rfl) ?_
              refine lv_isub X.1 X.2.1 dL_waits_57 ?_
              refine x_top (pk_sub (by omega)) ?_
              refine lv_istore_n (lv' := [(2, .int (nI (left - 9999))), (4, .int (nI 1)), (5, .int (nI 9999)), (3, .int (nI (A 0 + n))), (0, .ref (ad 0)), (1, .int (nI n))]) X.1 X.2.1 dL_waits_58 rfl hl (by decide) rfl (fun ls hl => ?_)
              refine lv_goto (tgt := 13) X.1 X.2.1 dL_waits_59 (by decide) ?_
              exact absurd hfu (by omega)
    | succ fu ih =>
      intro left B F1 hfu hJ1 hk1 hB1 hO1 hfr H locs hw ls hl
      refine lv_iload_n X.1 X.2.1 dL_waits_13 rfl (lv_at hl 2 rfl) ?_
      refine lv_if_le (tgt := 62) X.1 X.2.1 dL_waits_14 (by decide) (fun c37 => ?_) (fun c37 => ?_)
      · have n38 := (bz_le (by omega)).mp c37
        refine lv_iload X.1 X.2.1 dL_waits_62 (lv_at hl 0 rfl) ?_
        refine lv_if_eq (tgt := 80) X.1 X.2.1 dL_waits_64 (by decide) (fun c39 => ?_) (fun c39 => ?_)
        · exact absurd c39 (by decide)
        · refine lv_aload_n X.1 X.2.1 dL_waits_67 rfl (lv_at hl 3 rfl) ?_
          refine lv_iconst (v := nI 3) X.1 X.2.1 dL_waits_68 (by decide) ?_
          refine x_callV X hK hw (k := 0) (As := [.int (nI 3)]) (rest := []) (w_count hI (by omega) hO1 (nI 3) (fun g t z n hE => a_cou3 hJ1 hc (by omega) hE z n)) (x_cwV yX7_count cX7_count 2 (some .int) 1 X q818 q819 q820 q1 q821 hd_X7_count ⟨(Nat.le_of_ble_eq_true rfl), (Nat.le_of_ble_eq_true rfl)⟩) (by omega) hO1.ma rfl rfl hl.1 rfl (Nat.le_of_ble_eq_true rfl) dL_waits_69 ⟨(Nat.le_of_ble_eq_true rfl), (Nat.le_of_ble_eq_true rfl)⟩ (fun v40 F41 H locs hp hw => ?_)
          obtain ⟨e42, hO43, hf44⟩ := hp
          refine x_top e42 ?_
          replace hfr := hfr.tr hf44 (by omega) (by omega)
          refine lv_iload_n X.1 X.2.1 dL_waits_72 rfl (lv_at hl 1 rfl) ?_
          refine lv_icmp_ne (tgt := 80) X.1 X.2.1 dL_waits_73 (by decide) (fun c45 => ?_) (fun c45 => ?_)
          · exact absurd ((nI_eq (by omega) (by omega)).mpr (by omega)) c45
          · have n46 := (nI_eq (by omega) (by omega)).mp c45
            refine lv_iconst (v := nI 1) X.1 X.2.1 dL_waits_76 (by decide) ?_
            refine lv_goto (tgt := 81) X.1 X.2.1 dL_waits_77 (by decide) ?_
            exact x_iret X hr hlk hK hw (v := nI 1) (by first | rfl | exact nr_b _ | decide) (⟨rfl, by rw [← nup_fun (A := A) (B := B) (v := A 0 + n) (by omega) hB1]; exact hO43, hfr⟩) dL_waits_81
      · have n47 : ¬ left ≤ 0 := fun z => c37 ((bz_le (by omega)).mpr z)
        refine lv_iload X.1 X.2.1 dL_waits_17 (lv_at hl 0 rfl) ?_
        refine lv_if_eq (tgt := 62) X.1 X.2.1 dL_waits_19 (by decide) (fun c48 => ?_) (fun c48 => ?_)
        · exact absurd c48 (by decide)
        · refine lv_iload_n X.1 X.2.1 dL_waits_22 rfl (lv_at hl 2 rfl) ?_
          refine lv_sipush (v := nI 9999) X.1 X.2.1 dL_waits_23 (by decide) ?_
          refine lv_icmp_le (tgt := 35) X.1 X.2.1 dL_waits_26 (by decide) (fun c49 => ?_) (fun c49 => ?_)
          · have n50 := (nI_leI (by omega) (by omega)).mp c49
            refine lv_iload_n X.1 X.2.1 dL_waits_35 rfl (lv_at hl 2 rfl) ?_
            refine lv_istore (lv' := [(5, .int (nI left)), (4, .int (nI 1)), (3, .int (nI (A 0 + n))), (2, .int (nI left)), (0, .ref (ad 0)), (1, .int (nI n))]) X.1 X.2.1 dL_waits_36 hl (by decide) rfl (fun ls hl => ?_)
            refine lv_aload_n X.1 X.2.1 dL_waits_38 rfl (lv_at hl 4 rfl) ?_
            refine lv_iload X.1 X.2.1 dL_waits_39 (lv_at hl 0 rfl) ?_
            refine x_callV X hK hw (k := 0) (As := [.int (nI left)]) (rest := []) (w_pass hI (by omega) hO1 (nI left) (fun g t hE => a_pass (by omega) hE (by omega) (by omega) (by omega))) (x_cwV yX7_pass cX7_pass 2 (some .int) 1 X q344 q345 q346 q1 q347 hd_X7_pass ⟨(Nat.le_of_ble_eq_true rfl), (Nat.le_of_ble_eq_true rfl)⟩) (by omega) hO1.ma rfl rfl hl.1 rfl (Nat.le_of_ble_eq_true rfl) dL_waits_41 ⟨(Nat.le_of_ble_eq_true rfl), (Nat.le_of_ble_eq_true rfl)⟩ (fun v51 F52 H locs hp hw => ?_)
            obtain ⟨e53, hO54, hf55⟩ := hp
            refine x_top e53 ?_
            replace hfr := hfr.tr hf55 (by omega) (by omega)
            obtain ⟨B56, hB56⟩ : ∃ y, y = nup B 0 (B 0 + left) := ⟨_, rfl⟩
            rw [← hB56] at hO54
            have hjB56 : HJ ca B56 := by rw [hB56]; exact j_pass hJ1
            have hkB56 : B56 0 = B 0 + left := by rw [hB56]; exact nup_at
            have hBB56 : ∀ i, i ≠ 0 → B56 i = B i := fun i hi => by rw [hB56]; exact nup_ne hi
            refine lv_if_lt (tgt := 51) X.1 X.2.1 dL_waits_44 (by decide) (fun c57 => ?_) (fun c57 => ?_)
            · exact absurd ((bz_lt (by omega)).mp c57) (by omega)
            · have n58 : ¬ (B 0 + left) < 0 := fun z => c57 ((bz_lt (by omega)).mpr z)
              refine lv_iconst (v := nI 1) X.1 X.2.1 dL_waits_47 (by decide) ?_
              refine lv_goto (tgt := 52) X.1 X.2.1 dL_waits_48 (by decide) ?_
              refine lv_istore (lv' := [(4, .int (nI 1)), (5, .int (nI left)), (3, .int (nI (A 0 + n))), (2, .int (nI left)), (0, .ref (ad 0)), (1, .int (nI n))]) X.1 X.2.1 dL_waits_52 hl (by decide) rfl (fun ls hl => ?_)
              refine lv_iload_n X.1 X.2.1 dL_waits_54 rfl (lv_at hl 3 rfl) ?_
              refine lv_iload X.1 X.2.1 dL_waits_55 (lv_at hl 1 rfl) ?_
              refine lv_isub X.1 X.2.1 dL_waits_57 ?_
              refine x_top (pk_sub (by omega)) ?_
              refine lv_istore_n (lv' := [(2, .int (nI (left - left))), (4, .int (nI 1)), (5, .int (nI left)), (3, .int (nI (A 0 + n))), (0, .ref (ad 0)), (1, .int (nI n))]) X.1 X.2.1 dL_waits_58 rfl hl (by decide) rfl (fun ls hl => ?_)
              refine lv_goto (tgt := 13) X.1 X.2.1 dL_waits_59 (by decide) ?_
              exact ih (left - left) B56 F52 (by omega) hjB56 (by omega) (fun i hi => (hBB56 i hi).trans (hB1 i hi)) hO54 hfr _ _ hw _ (lv_sub hl [1, 3, 0, 4, 5] rfl)
          · have n59 : ¬ left ≤ 9999 := fun z => c49 ((nI_leI (by omega) (by omega)).mpr z)
            refine lv_sipush (v := nI 9999) X.1 X.2.1 dL_waits_29 (by decide) ?_
            refine lv_goto (tgt := 36) X.1 X.2.1 dL_waits_32 (by decide) ?_
            refine lv_istore (lv' := [(5, .int (nI 9999)), (4, .int (nI 1)), (3, .int (nI (A 0 + n))), (2, .int (nI left)), (0, .ref (ad 0)), (1, .int (nI n))]) X.1 X.2.1 dL_waits_36 hl (by decide) rfl (fun ls hl => ?_)
            refine lv_aload_n X.1 X.2.1 dL_waits_38 rfl (lv_at hl 4 rfl) ?_
            refine lv_iload X.1 X.2.1 dL_waits_39 (lv_at hl 0 rfl) ?_
            refine x_callV X hK hw (k := 0) (As := [.int (nI 9999)]) (rest := []) (w_pass hI (by omega) hO1 (nI 9999) (fun g t hE => a_pass (by omega) hE (by omega) (by omega) (by omega))) (x_cwV yX7_pass cX7_pass 2 (some .int) 1 X q344 q345 q346 q1 q347 hd_X7_pass ⟨(Nat.le_of_ble_eq_true rfl), (Nat.le_of_ble_eq_true rfl)⟩) (by omega) hO1.ma rfl rfl hl.1 rfl (Nat.le_of_ble_eq_true rfl) dL_waits_41 ⟨(Nat.le_of_ble_eq_true rfl), (Nat.le_of_ble_eq_true rfl)⟩ (fun v60 F61 H locs hp hw => ?_)
            obtain ⟨e62, hO63, hf64⟩ := hp
            refine x_top e62 ?_
            replace hfr := hfr.tr hf64 (by omega) (by omega)
            obtain ⟨B65, hB65⟩ : ∃ y, y = nup B 0 (B 0 + 9999) := ⟨_, rfl⟩
            rw [← hB65] at hO63
            have hjB65 : HJ ca B65 := by rw [hB65]; exact j_pass hJ1
            have hkB65 : B65 0 = B 0 + 9999 := by rw [hB65]; exact nup_at
            have hBB65 : ∀ i, i ≠ 0 → B65 i = B i := fun i hi => by rw [hB65]; exact nup_ne hi
            refine lv_if_lt (tgt := 51) X.1 X.2.1 dL_waits_44 (by decide) (fun c66 => ?_) (fun c66 => ?_)
            · exact absurd ((bz_lt (by omega)).mp c66) (by omega)
            · have n67 : ¬ (B 0 + 9999) < 0 := fun z => c66 ((bz_lt (by omega)).mpr z)
              refine lv_iconst (v := nI 1) X.1 X.2.1 dL_waits_47 (by decide) ?_
              refine lv_goto (tgt := 52) X.1 X.2.1 dL_waits_48 (by decide) ?_
              refine lv_istore (lv' := [(4, .int (nI 1)), (5, .int (nI 9999)), (3, .int (nI (A 0 + n))), (2, .int (nI left)), (0, .ref (ad 0)), (1, .int (nI n))]) X.1 X.2.1 dL_waits_52 hl (by decide) rfl (fun ls hl => ?_)
              refine lv_iload_n X.1 X.2.1 dL_waits_54 rfl (lv_at hl 3 rfl) ?_
              refine lv_iload X.1 X.2.1 dL_waits_55 (lv_at hl 1 rfl) ?_
              refine lv_isub X.1 X.2.1 dL_waits_57 ?_
              refine x_top (pk_sub (by omega)) ?_
              refine lv_istore_n (lv' := [(2, .int (nI (left - 9999))), (4, .int (nI 1)), (5, .int (nI 9999)), (3, .int (nI (A 0 + n))), (0, .ref (ad 0)), (1, .int (nI n))]) X.1 X.2.1 dL_waits_58 rfl hl (by decide) rfl (fun ls hl => ?_)
              refine lv_goto (tgt := 13) X.1 X.2.1 dL_waits_59 (by decide) ?_
              exact ih (left - 9999) B65 F61 (by omega) hjB65 (by omega) (fun i hi => (hBB65 i hi).trans (hB1 i hi)) hO63 hfr _ _ hw _ (lv_sub hl [1, 3, 0, 4, 5] rfl)
  exact loop13 n n A F2 (Nat.le_refl _) hJ (by omega) (fun _ _ => rfl) hO4 hfr _ _ hw _ (lv_sub hl [0, 1, 2, 3, 4] rfl)
