def s_X2_isOnCourse (g : Nat → Int32) (t : Nat → Nat → Int32) (x : Int32) : Int32 := (if (c_lat g t x (nI 0)) = (nI 2) then nI 1 else (if (c_lat g t x (nI 0)) = (nI 3) then nI 1 else nI 0))
set_option maxHeartbeats 4000000 in
set_option maxRecDepth 100000 in
theorem k_X2_isOnCourse {l : Launch} {D : va_G} {cI cB cS : ClassId} {ad : Nat → Nat} {N : Nat} {F : Nat → va_E} (hI : iN ad N) (q : Nat) (b : Nat) (g : Nat → Int32) (t : Nat → Nat → Int32) (x : Int32) (hq : q + 1 ≤ N) (hqb : q + 1 ≤ b ∨ b + 11 ≤ q) (hQ : JuF ad F q b) (hb : b + 11 ≤ N) (hF : StF ad cI F b g t) : Ci l D cI cB cS ad N yX2_isOnCourse cX2_isOnCourse 3 (some .boolean) 2 45 [.ref (ad q), .int x] F (pP (s_X2_isOnCourse g t x) F) := by
  refine x_met (by decide +kernel) (Nat.le_of_ble_eq_true rfl) ?_
  intro p e s m below meth c X hr hlk hK hw ls hl
  replace hl : lv_has ls 3 [(0, .ref (ad q)), (1, .int x)] := hl
  refine lv_aload_n X.1 X.2.1 dX2_isOnCourse_0 rfl (lv_at hl 0 rfl) ?_
  refine x_get X hK hw (C := RX2) (T := TX2) (nf := 1) (k := q) (by omega) hQ rfl inX2 0 (by decide) q129 (fun _ h9 => h9) rfl dX2_isOnCourse_1 ?_
  refine lv_iload_n X.1 X.2.1 dX2_isOnCourse_4 rfl (lv_at hl 1 rfl) ?_
  refine lv_iconst (v := nI 0) X.1 X.2.1 dX2_isOnCourse_5 (by decide) ?_
  refine x_callVP X hK hw (k := b) (As := [.int x, .int (nI 0)]) (rest := []) (k_X5_latestEntry hI b g t x (nI 0) (by omega) hF) (x_cwV yX5_latestEntry cX5_latestEntry 3 (some .int) 2 X q425 q370 q371 q2 q372 hd_X5_latestEntry ⟨Nat.le_of_ble_eq_true rfl, Nat.le_of_ble_eq_true rfl⟩) (by omega) hF.1 rfl rfl hl.1 rfl (Nat.le_of_ble_eq_true rfl) dX2_isOnCourse_6 ⟨Nat.le_of_ble_eq_true rfl, Nat.le_of_ble_eq_true rfl⟩ (fun H locs hw => ?_)
  refine lv_istore_n (lv' := [(2, .int (c_lat g t x (nI 0))), (0, .ref (ad q)), (1, .int x)]) X.1 X.2.1 dX2_isOnCourse_9 rfl hl (by decide) rfl (fun ls hl => ?_)
  refine lv_iload_n X.1 X.2.1 dX2_isOnCourse_10 rfl (lv_at hl 0 rfl) ?_
  refine lv_iconst (v := nI 2) X.1 X.2.1 dX2_isOnCourse_11 (by decide) ?_
  refine lv_icmp_eq (tgt := 20) X.1 X.2.1 dX2_isOnCourse_12 (by decide) (fun c1 => ?_) (fun c1 => ?_)
  · refine lv_iconst (v := nI 1) X.1 X.2.1 dX2_isOnCourse_20 (by decide) ?_
    refine lv_goto (tgt := 25) X.1 X.2.1 dX2_isOnCourse_21 (by decide) ?_
    exact x_iret X hr hlk hK hw (v := nI 1) (by first | rfl | exact nr_b _ | decide) (⟨by rw [s_X2_isOnCourse, if_pos c1], rfl⟩) dX2_isOnCourse_25
  · refine lv_iload_n X.1 X.2.1 dX2_isOnCourse_15 rfl (lv_at hl 0 rfl) ?_
    refine lv_iconst (v := nI 3) X.1 X.2.1 dX2_isOnCourse_16 (by decide) ?_
    refine lv_icmp_ne (tgt := 24) X.1 X.2.1 dX2_isOnCourse_17 (by decide) (fun c2 => ?_) (fun c2 => ?_)
    · refine lv_iconst (v := nI 0) X.1 X.2.1 dX2_isOnCourse_24 (by decide) ?_
      exact x_iret X hr hlk hK hw (v := nI 0) (by first | rfl | exact nr_b _ | decide) (⟨by rw [s_X2_isOnCourse, if_neg c1, if_neg c2], rfl⟩) dX2_isOnCourse_25
    · refine lv_iconst (v := nI 1) X.1 X.2.1 dX2_isOnCourse_20 (by decide) ?_
      refine lv_goto (tgt := 25) X.1 X.2.1 dX2_isOnCourse_21 (by decide) ?_
      exact x_iret X hr hlk hK hw (v := nI 1) (by first | rfl | exact nr_b _ | decide) (⟨by rw [s_X2_isOnCourse, if_neg c1, if_pos c2], rfl⟩) dX2_isOnCourse_25
theorem hd_X2_isOnCourse : yX2_isOnCourse.cls = RX2 ∧ yX2_isOnCourse.cls ≠ "java/lang/invoke/MethodHandle" ∧ yX2_isOnCourse.cls ≠ "java/lang/invoke/VarHandle" ∧ (parseMethodDescriptor yX2_isOnCourse.desc).map (fun d => d.parameters.length) = some 1 := by decide +kernel
def s_X2_hailProtest (g : Nat → Int32) (t : Nat → Nat → Int32) (x : Int32) (y : Int32) : Int32 × (Nat → Int32) × (Nat → Nat → Int32) := (if ¬ x < 0 ∧ ¬ g 1 ≤ x then (if ¬ y < 0 ∧ ¬ g 1 ≤ y then (if x = y then ((-2), g, t) else (if g 3 = nI 1 then (if (s_X2_isOnCourse g t x) = 0 then ((-4), g, t) else (if (s_X2_isOnCourse g t y) = 0 then ((-4), g, t) else (if (g 4) < (nI 10) then (g 4, (va_up g 4 ((g 4) + (nI 1))), (va_up (va_up (va_up (va_up t 4 (tp 4 40 ((t 4)) (g 4) (nI 0) x)) 4 (tp 4 40 (((va_up t 4 (tp 4 40 ((t 4)) (g 4) (nI 0) x)) 4)) (g 4) (nI 1) y)) 4 (tp 4 40 (((va_up (va_up t 4 (tp 4 40 ((t 4)) (g 4) (nI 0) x)) 4 (tp 4 40 (((va_up t 4 (tp 4 40 ((t 4)) (g 4) (nI 0) x)) 4)) (g 4) (nI 1) y)) 4)) (g 4) (nI 2) (g 0))) 4 (tp 4 40 (((va_up (va_up (va_up t 4 (tp 4 40 ((t 4)) (g 4) (nI 0) x)) 4 (tp 4 40 (((va_up t 4 (tp 4 40 ((t 4)) (g 4) (nI 0) x)) 4)) (g 4) (nI 1) y)) 4 (tp 4 40 (((va_up (va_up t 4 (tp 4 40 ((t 4)) (g 4) (nI 0) x)) 4 (tp 4 40 (((va_up t 4 (tp 4 40 ((t 4)) (g 4) (nI 0) x)) 4)) (g 4) (nI 1) y)) 4)) (g 4) (nI 2) (g 0))) 4)) (g 4) (nI 3) (nI 0)))) else ((-3), g, t)))) else ((-4), g, t))) else ((-1), g, t)) else ((-1), g, t))
set_option maxHeartbeats 4000000 in
set_option maxRecDepth 100000 in
theorem k_X2_hailProtest {l : Launch} {D : va_G} {cI cB cS : ClassId} {ad : Nat → Nat} {N : Nat} {F : Nat → va_E} (hI : iN ad N) (q : Nat) (b : Nat) (g : Nat → Int32) (t : Nat → Nat → Int32) (x : Int32) (y : Int32) (hq : q + 1 ≤ N) (hqb : q + 1 ≤ b ∨ b + 11 ≤ q) (hQ : JuF ad F q b) (hb : b + 11 ≤ N) (hF : StF ad cI F b g t) : Ci l D cI cB cS ad N yX2_hailProtest cX2_hailProtest 4 (some .int) 3 67 [.ref (ad q), .int x, .int y] F (fun r F' => r = (s_X2_hailProtest g t x y).1 ∧ StF ad cI F' b (s_X2_hailProtest g t x y).2.1 (s_X2_hailProtest g t x y).2.2 ∧ Fr F F' b (b + 11)) := by
  refine x_met (by decide +kernel) (Nat.le_of_ble_eq_true rfl) ?_
  intro p e s m below meth c X hr hlk hK hw ls hl
  replace hl : lv_has ls 4 [(0, .ref (ad q)), (1, .int x), (2, .int y)] := hl
  have hfr : Fr F F (b) (b + 11) := Fr.rf
  refine lv_aload_n X.1 X.2.1 dX2_hailProtest_0 rfl (lv_at hl 0 rfl) ?_
  refine x_get X hK hw (C := RX2) (T := TX2) (nf := 1) (k := q) (by omega) hQ rfl inX2 0 (by decide) q129 (fun _ h9 => h9) rfl dX2_hailProtest_1 ?_
  refine lv_iload_n X.1 X.2.1 dX2_hailProtest_4 rfl (lv_at hl 1 rfl) ?_
  refine x_callVP X hK hw (k := b) (As := [.int x]) (rest := []) (k_X5_hasBoat hI b g t x (by omega) hF) (x_cwV yX5_hasBoat cX5_hasBoat 2 (some .boolean) 1 X q419 q362 q363 q2 q364 hd_X5_hasBoat ⟨Nat.le_of_ble_eq_true rfl, Nat.le_of_ble_eq_true rfl⟩) (by omega) hF.1 rfl rfl hl.1 rfl (Nat.le_of_ble_eq_true rfl) dX2_hailProtest_5 ⟨Nat.le_of_ble_eq_true rfl, Nat.le_of_ble_eq_true rfl⟩ (fun H locs hw => ?_)
  refine lv_if_eq (tgt := 22) X.1 X.2.1 dX2_hailProtest_8 (by decide) (fun c1 => ?_) (fun c1 => ?_)
  · replace c1 := bI_z c1
    refine lv_iconst (v := (-1)) X.1 X.2.1 dX2_hailProtest_22 (by decide) ?_
    exact x_iret X hr hlk hK hw (v := (-1)) rfl (auto_st (by rw [s_X2_hailProtest, if_neg c1] : s_X2_hailProtest g t x y = ((-1), g, t)) hF hfr) dX2_hailProtest_23
  · replace c1 := bI_nz c1
    refine lv_aload_n X.1 X.2.1 dX2_hailProtest_11 rfl (lv_at hl 0 rfl) ?_
    refine x_get X hK hw (C := RX2) (T := TX2) (nf := 1) (k := q) (by omega) hQ rfl inX2 0 (by decide) q129 (fun _ h9 => h9) rfl dX2_hailProtest_12 ?_
    refine lv_iload_n X.1 X.2.1 dX2_hailProtest_15 rfl (lv_at hl 2 rfl) ?_
    refine x_callVP X hK hw (k := b) (As := [.int y]) (rest := []) (k_X5_hasBoat hI b g t y (by omega) hF) (x_cwV yX5_hasBoat cX5_hasBoat 2 (some .boolean) 1 X q419 q362 q363 q2 q364 hd_X5_hasBoat ⟨Nat.le_of_ble_eq_true rfl, Nat.le_of_ble_eq_true rfl⟩) (by omega) hF.1 rfl rfl hl.1 rfl (Nat.le_of_ble_eq_true rfl) dX2_hailProtest_16 ⟨Nat.le_of_ble_eq_true rfl, Nat.le_of_ble_eq_true rfl⟩ (fun H locs hw => ?_)
    refine lv_if_ne (tgt := 24) X.1 X.2.1 dX2_hailProtest_19 (by decide) (fun c2 => ?_) (fun c2 => ?_)
    · replace c2 := bI_nz c2
      refine lv_iload_n X.1 X.2.1 dX2_hailProtest_24 rfl (lv_at hl 1 rfl) ?_
      refine lv_iload_n X.1 X.2.1 dX2_hailProtest_25 rfl (lv_at hl 2 rfl) ?_
      refine lv_icmp_ne (tgt := 32) X.1 X.2.1 dX2_hailProtest_26 (by decide) (fun c3 => ?_) (fun c3 => ?_)
      · refine lv_aload_n X.1 X.2.1 dX2_hailProtest_32 rfl (lv_at hl 0 rfl) ?_
        refine x_get X hK hw (C := RX2) (T := TX2) (nf := 1) (k := q) (by omega) hQ rfl inX2 0 (by decide) q129 (fun _ h9 => h9) rfl dX2_hailProtest_33 ?_
        refine x_callVP X hK hw (k := b) (As := []) (rest := []) (k_X5_isPrepared hI b g t (by omega) hF) (x_cwV yX5_isPrepared cX5_isPrepared 1 (some .boolean) 0 X q420 q290 q291 q2 q292 hd_X5_isPrepared ⟨Nat.le_of_ble_eq_true rfl, Nat.le_of_ble_eq_true rfl⟩) (by omega) hF.1 rfl rfl hl.1 rfl (Nat.le_of_ble_eq_true rfl) dX2_hailProtest_36 ⟨Nat.le_of_ble_eq_true rfl, Nat.le_of_ble_eq_true rfl⟩ (fun H locs hw => ?_)
        refine lv_if_eq (tgt := 58) X.1 X.2.1 dX2_hailProtest_39 (by decide) (fun c4 => ?_) (fun c4 => ?_)
        · replace c4 := bI_z c4
          refine lv_bipush (v := (-4)) X.1 X.2.1 dX2_hailProtest_58 (by decide) ?_
          exact x_iret X hr hlk hK hw (v := (-4)) rfl (auto_st (by rw [s_X2_hailProtest, if_pos c1, if_pos c2, if_neg c3, if_neg c4] : s_X2_hailProtest g t x y = ((-4), g, t)) hF hfr) dX2_hailProtest_60
        · replace c4 := bI_nz c4
          refine lv_aload_n X.1 X.2.1 dX2_hailProtest_42 rfl (lv_at hl 0 rfl) ?_
          refine lv_iload_n X.1 X.2.1 dX2_hailProtest_43 rfl (lv_at hl 1 rfl) ?_
          refine x_callVP X hK hw (k := q) (As := [.int x]) (rest := []) (k_X2_isOnCourse hI q b g t x (by omega) (by omega) hQ (by omega) hF) (x_cwV yX2_isOnCourse cX2_isOnCourse 3 (some .boolean) 1 X q421 q423 qs3 q6 q424 hd_X2_isOnCourse ⟨Nat.le_of_ble_eq_true rfl, Nat.le_of_ble_eq_true rfl⟩) (by omega) hQ rfl rfl hl.1 rfl (Nat.le_of_ble_eq_true rfl) dX2_hailProtest_44 ⟨Nat.le_of_ble_eq_true rfl, Nat.le_of_ble_eq_true rfl⟩ (fun H locs hw => ?_)
          refine lv_if_eq (tgt := 58) X.1 X.2.1 dX2_hailProtest_47 (by decide) (fun c5 => ?_) (fun c5 => ?_)
          · refine lv_bipush (v := (-4)) X.1 X.2.1 dX2_hailProtest_58 (by decide) ?_
            exact x_iret X hr hlk hK hw (v := (-4)) rfl (auto_st (by rw [s_X2_hailProtest, if_pos c1, if_pos c2, if_neg c3, if_pos c4, if_pos c5] : s_X2_hailProtest g t x y = ((-4), g, t)) hF hfr) dX2_hailProtest_60
          · refine lv_aload_n X.1 X.2.1 dX2_hailProtest_50 rfl (lv_at hl 0 rfl) ?_
            refine lv_iload_n X.1 X.2.1 dX2_hailProtest_51 rfl (lv_at hl 2 rfl) ?_
            refine x_callVP X hK hw (k := q) (As := [.int y]) (rest := []) (k_X2_isOnCourse hI q b g t y (by omega) (by omega) hQ (by omega) hF) (x_cwV yX2_isOnCourse cX2_isOnCourse 3 (some .boolean) 1 X q421 q423 qs3 q6 q424 hd_X2_isOnCourse ⟨Nat.le_of_ble_eq_true rfl, Nat.le_of_ble_eq_true rfl⟩) (by omega) hQ rfl rfl hl.1 rfl (Nat.le_of_ble_eq_true rfl) dX2_hailProtest_52 ⟨Nat.le_of_ble_eq_true rfl, Nat.le_of_ble_eq_true rfl⟩ (fun H locs hw => ?_)
            refine lv_if_ne (tgt := 61) X.1 X.2.1 dX2_hailProtest_55 (by decide) (fun c6 => ?_) (fun c6 => ?_)
            · refine lv_aload_n X.1 X.2.1 dX2_hailProtest_61 rfl (lv_at hl 0 rfl) ?_
              refine x_get X hK hw (C := RX2) (T := TX2) (nf := 1) (k := q) (by omega) hQ rfl inX2 0 (by decide) q129 (fun _ h9 => h9) rfl dX2_hailProtest_62 ?_
              refine x_get X hK hw (C := RX5) (T := TX5) (nf := 10) (k := b) (by omega) hF.1 rfl inX5 4 (by decide) q73 (fun _ h9 => h9) rfl dX2_hailProtest_65 ?_
              refine lv_bipush (v := nI 10) X.1 X.2.1 dX2_hailProtest_68 (by decide) ?_
              refine lv_icmp_lt (tgt := 76) X.1 X.2.1 dX2_hailProtest_70 (by decide) (fun c7 => ?_) (fun c7 => ?_)
              · refine lv_aload_n X.1 X.2.1 dX2_hailProtest_76 rfl (lv_at hl 0 rfl) ?_
                refine x_get X hK hw (C := RX2) (T := TX2) (nf := 1) (k := q) (by omega) hQ rfl inX2 0 (by decide) q129 (fun _ h9 => h9) rfl dX2_hailProtest_77 ?_
                refine x_get X hK hw (C := RX5) (T := TX5) (nf := 10) (k := b) (by omega) hF.1 rfl inX5 4 (by decide) q73 (fun _ h9 => h9) rfl dX2_hailProtest_80 ?_
                refine lv_istore_n (lv' := [(3, .int (g 4)), (0, .ref (ad q)), (1, .int x), (2, .int y)]) X.1 X.2.1 dX2_hailProtest_83 rfl hl (by decide) rfl (fun ls hl => ?_)
                refine lv_aload_n X.1 X.2.1 dX2_hailProtest_84 rfl (lv_at hl 1 rfl) ?_
                refine x_get X hK hw (C := RX2) (T := TX2) (nf := 1) (k := q) (by omega) hQ rfl inX2 0 (by decide) q129 (fun _ h9 => h9) rfl dX2_hailProtest_85 ?_
                refine x_get X hK hw (C := RX5) (T := TX5) (nf := 10) (k := b) (by omega) hF.1 rfl inX5 9 (by decide) q90 (fun _ h9 => h9) rfl dX2_hailProtest_88 ?_
                refine lv_iload_n X.1 X.2.1 dX2_hailProtest_91 rfl (lv_at hl 0 rfl) ?_
                refine lv_iconst (v := nI 0) X.1 X.2.1 dX2_hailProtest_92 (by decide) ?_
                refine lv_iload_n X.1 X.2.1 dX2_hailProtest_93 rfl (lv_at hl 2 rfl) ?_
                refine x_callVv X hK hw (k := (b + 9)) (As := [.int (g 4), .int (nI 0), .int x]) (rest := []) (k_X6_put hI ((b + 9)) 4 40 ((t 4)) (g 4) (nI 0) x (by omega) (by omega) hF.2.2.2.2.2) (x_cwV yX6_put cX6_put 5 none 3 X q426 q54 q55 q3 q56 hd_X6_put ⟨Nat.le_of_ble_eq_true rfl, Nat.le_of_ble_eq_true rfl⟩) (by omega) hF.2.2.2.2.2.1 rfl rfl hl.1 rfl (Nat.le_of_ble_eq_true rfl) dX2_hailProtest_94 ⟨Nat.le_of_ble_eq_true rfl, Nat.le_of_ble_eq_true rfl⟩ (fun F8 H locs hp hw => ?_)
                obtain ⟨hT9, hr10⟩ := hp
                have hF11 := hF.tb4 hT9 hr10
                have hq12 := (hr10 _ (by omega)).trans hQ
                replace hfr := hfr.tr hr10 (by omega) (by omega)
                refine lv_aload_n X.1 X.2.1 dX2_hailProtest_97 rfl (lv_at hl 1 rfl) ?_
                refine x_get X hK hw (C := RX2) (T := TX2) (nf := 1) (k := q) (by omega) hq12 rfl inX2 0 (by decide) q129 (fun _ h9 => h9) rfl dX2_hailProtest_98 ?_
                refine x_get X hK hw (C := RX5) (T := TX5) (nf := 10) (k := b) (by omega) hF11.1 rfl inX5 9 (by decide) q90 (fun _ h9 => h9) rfl dX2_hailProtest_101 ?_
                refine lv_iload_n X.1 X.2.1 dX2_hailProtest_104 rfl (lv_at hl 0 rfl) ?_
                refine lv_iconst (v := nI 1) X.1 X.2.1 dX2_hailProtest_105 (by decide) ?_
                refine lv_iload_n X.1 X.2.1 dX2_hailProtest_106 rfl (lv_at hl 3 rfl) ?_
                refine x_callVv X hK hw (k := (b + 9)) (As := [.int (g 4), .int (nI 1), .int y]) (rest := []) (k_X6_put hI ((b + 9)) 4 40 (((va_up t 4 (tp 4 40 ((t 4)) (g 4) (nI 0) x)) 4)) (g 4) (nI 1) y (by omega) (by omega) hF11.2.2.2.2.2) (x_cwV yX6_put cX6_put 5 none 3 X q426 q54 q55 q3 q56 hd_X6_put ⟨Nat.le_of_ble_eq_true rfl, Nat.le_of_ble_eq_true rfl⟩) (by omega) hF11.2.2.2.2.2.1 rfl rfl hl.1 rfl (Nat.le_of_ble_eq_true rfl) dX2_hailProtest_107 ⟨Nat.le_of_ble_eq_true rfl, Nat.le_of_ble_eq_true rfl⟩ (fun F13 H locs hp hw => ?_)
                obtain ⟨hT14, hr15⟩ := hp
                have hF16 := hF11.tb4 hT14 hr15
                have hq17 := (hr15 _ (by omega)).trans hq12
                replace hfr := hfr.tr hr15 (by omega) (by omega)
                refine lv_aload_n X.1 X.2.1 dX2_hailProtest_110 rfl (lv_at hl 1 rfl) ?_
                refine x_get X hK hw (C := RX2) (T := TX2) (nf := 1) (k := q) (by omega) hq17 rfl inX2 0 (by decide) q129 (fun _ h9 => h9) rfl dX2_hailProtest_111 ?_
                refine x_get X hK hw (C := RX5) (T := TX5) (nf := 10) (k := b) (by omega) hF16.1 rfl inX5 9 (by decide) q90 (fun _ h9 => h9) rfl dX2_hailProtest_114 ?_
                refine lv_iload_n X.1 X.2.1 dX2_hailProtest_117 rfl (lv_at hl 0 rfl) ?_
                refine lv_iconst (v := nI 2) X.1 X.2.1 dX2_hailProtest_118 (by decide) ?_
                refine lv_aload_n X.1 X.2.1 dX2_hailProtest_119 rfl (lv_at hl 1 rfl) ?_
                refine x_get X hK hw (C := RX2) (T := TX2) (nf := 1) (k := q) (by omega) hq17 rfl inX2 0 (by decide) q129 (fun _ h9 => h9) rfl dX2_hailProtest_120 ?_
                refine x_get X hK hw (C := RX5) (T := TX5) (nf := 10) (k := b) (by omega) hF16.1 rfl inX5 0 (by decide) q58 (fun _ h9 => h9) rfl dX2_hailProtest_123 ?_
                refine x_callVv X hK hw (k := (b + 9)) (As := [.int (g 4), .int (nI 2), .int (g 0)]) (rest := []) (k_X6_put hI ((b + 9)) 4 40 (((va_up (va_up t 4 (tp 4 40 ((t 4)) (g 4) (nI 0) x)) 4 (tp 4 40 (((va_up t 4 (tp 4 40 ((t 4)) (g 4) (nI 0) x)) 4)) (g 4) (nI 1) y)) 4)) (g 4) (nI 2) (g 0) (by omega) (by omega) hF16.2.2.2.2.2) (x_cwV yX6_put cX6_put 5 none 3 X q426 q54 q55 q3 q56 hd_X6_put ⟨Nat.le_of_ble_eq_true rfl, Nat.le_of_ble_eq_true rfl⟩) (by omega) hF16.2.2.2.2.2.1 rfl rfl hl.1 rfl (Nat.le_of_ble_eq_true rfl) dX2_hailProtest_126 ⟨Nat.le_of_ble_eq_true rfl, Nat.le_of_ble_eq_true rfl⟩ (fun F18 H locs hp hw => ?_)
                obtain ⟨hT19, hr20⟩ := hp
                have hF21 := hF16.tb4 hT19 hr20
                have hq22 := (hr20 _ (by omega)).trans hq17
                replace hfr := hfr.tr hr20 (by omega) (by omega)
                refine lv_aload_n X.1 X.2.1 dX2_hailProtest_129 rfl (lv_at hl 1 rfl) ?_
                refine x_get X hK hw (C := RX2) (T := TX2) (nf := 1) (k := q) (by omega) hq22 rfl inX2 0 (by decide) q129 (fun _ h9 => h9) rfl dX2_hailProtest_130 ?_
                refine x_get X hK hw (C := RX5) (T := TX5) (nf := 10) (k := b) (by omega) hF21.1 rfl inX5 9 (by decide) q90 (fun _ h9 => h9) rfl dX2_hailProtest_133 ?_
                refine lv_iload_n X.1 X.2.1 dX2_hailProtest_136 rfl (lv_at hl 0 rfl) ?_
                refine lv_iconst (v := nI 3) X.1 X.2.1 dX2_hailProtest_137 (by decide) ?_
                refine lv_iconst (v := nI 0) X.1 X.2.1 dX2_hailProtest_138 (by decide) ?_
                refine x_callVv X hK hw (k := (b + 9)) (As := [.int (g 4), .int (nI 3), .int (nI 0)]) (rest := []) (k_X6_put hI ((b + 9)) 4 40 (((va_up (va_up (va_up t 4 (tp 4 40 ((t 4)) (g 4) (nI 0) x)) 4 (tp 4 40 (((va_up t 4 (tp 4 40 ((t 4)) (g 4) (nI 0) x)) 4)) (g 4) (nI 1) y)) 4 (tp 4 40 (((va_up (va_up t 4 (tp 4 40 ((t 4)) (g 4) (nI 0) x)) 4 (tp 4 40 (((va_up t 4 (tp 4 40 ((t 4)) (g 4) (nI 0) x)) 4)) (g 4) (nI 1) y)) 4)) (g 4) (nI 2) (g 0))) 4)) (g 4) (nI 3) (nI 0) (by omega) (by omega) hF21.2.2.2.2.2) (x_cwV yX6_put cX6_put 5 none 3 X q426 q54 q55 q3 q56 hd_X6_put ⟨Nat.le_of_ble_eq_true rfl, Nat.le_of_ble_eq_true rfl⟩) (by omega) hF21.2.2.2.2.2.1 rfl rfl hl.1 rfl (Nat.le_of_ble_eq_true rfl) dX2_hailProtest_139 ⟨Nat.le_of_ble_eq_true rfl, Nat.le_of_ble_eq_true rfl⟩ (fun F23 H locs hp hw => ?_)
                obtain ⟨hT24, hr25⟩ := hp
                have hF26 := hF21.tb4 hT24 hr25
                have hq27 := (hr25 _ (by omega)).trans hq22
                replace hfr := hfr.tr hr25 (by omega) (by omega)
                refine lv_aload_n X.1 X.2.1 dX2_hailProtest_142 rfl (lv_at hl 1 rfl) ?_
                refine x_get X hK hw (C := RX2) (T := TX2) (nf := 1) (k := q) (by omega) hq27 rfl inX2 0 (by decide) q129 (fun _ h9 => h9) rfl dX2_hailProtest_143 ?_
                refine lv_dup X.1 X.2.1 dX2_hailProtest_146 rfl ?_
                refine x_get X hK hw (C := RX5) (T := TX5) (nf := 10) (k := b) (by omega) hF26.1 rfl inX5 4 (by decide) q73 (fun _ h9 => h9) rfl dX2_hailProtest_147 ?_
                refine lv_iconst (v := nI 1) X.1 X.2.1 dX2_hailProtest_150 (by decide) ?_
                refine lv_iadd X.1 X.2.1 dX2_hailProtest_151 ?_
                refine x_put2 X hI hK hw (C := RX5) (T := TX5) (nf := 10) (k := b) (ty := .int) (v := .int ((g 4) + (nI 1))) (by omega) hF26.1 rfl inX5 tyX5 tyX5_ok nmX5 4 (by decide) q73 (fun _ h9 => h9) rfl (by decide +kernel) rfl rfl (Nat.le_of_ble_eq_true rfl) dX2_hailProtest_152 (fun F28 H locs eF29 hw => ?_)
                have hF30 : StF ad cI F28 b (va_up g 4 ((g 4) + (nI 1))) (va_up (va_up (va_up (va_up t 4 (tp 4 40 ((t 4)) (g 4) (nI 0) x)) 4 (tp 4 40 (((va_up t 4 (tp 4 40 ((t 4)) (g 4) (nI 0) x)) 4)) (g 4) (nI 1) y)) 4 (tp 4 40 (((va_up (va_up t 4 (tp 4 40 ((t 4)) (g 4) (nI 0) x)) 4 (tp 4 40 (((va_up t 4 (tp 4 40 ((t 4)) (g 4) (nI 0) x)) 4)) (g 4) (nI 1) y)) 4)) (g 4) (nI 2) (g 0))) 4 (tp 4 40 (((va_up (va_up (va_up t 4 (tp 4 40 ((t 4)) (g 4) (nI 0) x)) 4 (tp 4 40 (((va_up t 4 (tp 4 40 ((t 4)) (g 4) (nI 0) x)) 4)) (g 4) (nI 1) y)) 4 (tp 4 40 (((va_up (va_up t 4 (tp 4 40 ((t 4)) (g 4) (nI 0) x)) 4 (tp 4 40 (((va_up t 4 (tp 4 40 ((t 4)) (g 4) (nI 0) x)) 4)) (g 4) (nI 1) y)) 4)) (g 4) (nI 2) (g 0))) 4)) (g 4) (nI 3) (nI 0))) := by rw [eF29]; exact StF.pt hF26 4 (by decide) _ _ rfl
                have hr31 := fr_eq eF29 (Nat.le_refl _) (Nat.lt_succ_self _)
                have hq32 := (hr31 _ (by omega)).trans hq27
                replace hfr := hfr.tr hr31 (by omega) (by omega)
                refine lv_iload_n X.1 X.2.1 dX2_hailProtest_155 rfl (lv_at hl 0 rfl) ?_
                exact x_iret X hr hlk hK hw (v := g 4) rfl (auto_st (by rw [s_X2_hailProtest, if_pos c1, if_pos c2, if_neg c3, if_pos c4, if_neg c5, if_neg c6, if_pos c7] : s_X2_hailProtest g t x y = (g 4, (va_up g 4 ((g 4) + (nI 1))), (va_up (va_up (va_up (va_up t 4 (tp 4 40 ((t 4)) (g 4) (nI 0) x)) 4 (tp 4 40 (((va_up t 4 (tp 4 40 ((t 4)) (g 4) (nI 0) x)) 4)) (g 4) (nI 1) y)) 4 (tp 4 40 (((va_up (va_up t 4 (tp 4 40 ((t 4)) (g 4) (nI 0) x)) 4 (tp 4 40 (((va_up t 4 (tp 4 40 ((t 4)) (g 4) (nI 0) x)) 4)) (g 4) (nI 1) y)) 4)) (g 4) (nI 2) (g 0))) 4 (tp 4 40 (((va_up (va_up (va_up t 4 (tp 4 40 ((t 4)) (g 4) (nI 0) x)) 4 (tp 4 40 (((va_up t 4 (tp 4 40 ((t 4)) (g 4) (nI 0) x)) 4)) (g 4) (nI 1) y)) 4 (tp 4 40 (((va_up (va_up t 4 (tp 4 40 ((t 4)) (g 4) (nI 0) x)) 4 (tp 4 40 (((va_up t 4 (tp 4 40 ((t 4)) (g 4) (nI 0) x)) 4)) (g 4) (nI 1) y)) 4)) (g 4) (nI 2) (g 0))) 4)) (g 4) (nI 3) (nI 0))))) hF30 hfr) dX2_hailProtest_156
              · refine lv_bipush (v := (-3)) X.1 X.2.1 dX2_hailProtest_73 (by decide) ?_
                exact x_iret X hr hlk hK hw (v := (-3)) rfl (auto_st (by rw [s_X2_hailProtest, if_pos c1, if_pos c2, if_neg c3, if_pos c4, if_neg c5, if_neg c6, if_neg c7] : s_X2_hailProtest g t x y = ((-3), g, t)) hF hfr) dX2_hailProtest_75
            · refine lv_bipush (v := (-4)) X.1 X.2.1 dX2_hailProtest_58 (by decide) ?_
              exact x_iret X hr hlk hK hw (v := (-4)) rfl (auto_st (by rw [s_X2_hailProtest, if_pos c1, if_pos c2, if_neg c3, if_pos c4, if_neg c5, if_pos c6] : s_X2_hailProtest g t x y = ((-4), g, t)) hF hfr) dX2_hailProtest_60
      · refine lv_bipush (v := (-2)) X.1 X.2.1 dX2_hailProtest_29 (by decide) ?_
        exact x_iret X hr hlk hK hw (v := (-2)) rfl (auto_st (by rw [s_X2_hailProtest, if_pos c1, if_pos c2, if_pos c3] : s_X2_hailProtest g t x y = ((-2), g, t)) hF hfr) dX2_hailProtest_31
    · replace c2 := bI_z c2
      refine lv_iconst (v := (-1)) X.1 X.2.1 dX2_hailProtest_22 (by decide) ?_
      exact x_iret X hr hlk hK hw (v := (-1)) rfl (auto_st (by rw [s_X2_hailProtest, if_pos c1, if_neg c2] : s_X2_hailProtest g t x y = ((-1), g, t)) hF hfr) dX2_hailProtest_23
theorem hd_X5_hasProtest : yX5_hasProtest.cls = RX5 ∧ yX5_hasProtest.cls ≠ "java/lang/invoke/MethodHandle" ∧ yX5_hasProtest.cls ≠ "java/lang/invoke/VarHandle" ∧ (parseMethodDescriptor yX5_hasProtest.desc).map (fun d => d.parameters.length) = some 1 := by decide +kernel
theorem hd_X5_setting : yX5_setting.cls = RX5 ∧ yX5_setting.cls ≠ "java/lang/invoke/MethodHandle" ∧ yX5_setting.cls ≠ "java/lang/invoke/VarHandle" ∧ (parseMethodDescriptor yX5_setting.desc).map (fun d => d.parameters.length) = some 1 := by decide +kernel
def s_X2_fileProtest (g : Nat → Int32) (t : Nat → Nat → Int32) (x : Int32) : Int32 × (Nat → Int32) × (Nat → Nat → Int32) := (if ¬ x < 0 ∧ ¬ g 4 ≤ x then (if (tg 4 40 ((t 4)) x (nI 3)) = 0 then (if (c_lat g t (tg 4 40 ((t 4)) x (nI 0)) (nI 0)) = (nI 3) then (if 0 ≤ (((c_lat g t (tg 4 40 ((t 4)) x (nI 0)) (nI 5)) + (tg 1 3 (t 1) (nI 0) (nI 0))) - (g 0)) then (((c_lat g t (tg 4 40 ((t 4)) x (nI 0)) (nI 5)) + (tg 1 3 (t 1) (nI 0) (nI 0))) - (g 0), g, (va_up t 4 (tp 4 40 ((t 4)) x (nI 3) (nI 1)))) else ((-4), g, t)) else ((-4), g, t)) else ((-4), g, t)) else ((-1), g, t))
set_option maxHeartbeats 4000000 in
set_option maxRecDepth 100000 in
theorem k_X2_fileProtest {l : Launch} {D : va_G} {cI cB cS : ClassId} {ad : Nat → Nat} {N : Nat} {F : Nat → va_E} (hI : iN ad N) (q : Nat) (b : Nat) (g : Nat → Int32) (t : Nat → Nat → Int32) (x : Int32) (hq : q + 1 ≤ N) (hqb : q + 1 ≤ b ∨ b + 11 ≤ q) (hQ : JuF ad F q b) (hb : b + 11 ≤ N) (hF : StF ad cI F b g t) : Ci l D cI cB cS ad N yX2_fileProtest cX2_fileProtest 4 (some .int) 2 45 [.ref (ad q), .int x] F (fun r F' => r = (s_X2_fileProtest g t x).1 ∧ StF ad cI F' b (s_X2_fileProtest g t x).2.1 (s_X2_fileProtest g t x).2.2 ∧ Fr F F' b (b + 11)) := by
  refine x_met (by decide +kernel) (Nat.le_of_ble_eq_true rfl) ?_
  intro p e s m below meth c X hr hlk hK hw ls hl
  replace hl : lv_has ls 4 [(0, .ref (ad q)), (1, .int x)] := hl
  have hfr : Fr F F (b) (b + 11) := Fr.rf
  refine lv_aload_n X.1 X.2.1 dX2_fileProtest_0 rfl (lv_at hl 0 rfl) ?_
  refine x_get X hK hw (C := RX2) (T := TX2) (nf := 1) (k := q) (by omega) hQ rfl inX2 0 (by decide) q129 (fun _ h9 => h9) rfl dX2_fileProtest_1 ?_
  refine lv_iload_n X.1 X.2.1 dX2_fileProtest_4 rfl (lv_at hl 1 rfl) ?_
  refine x_callVP X hK hw (k := b) (As := [.int x]) (rest := []) (k_X5_hasProtest hI b g t x (by omega) hF) (x_cwV yX5_hasProtest cX5_hasProtest 2 (some .boolean) 1 X q435 q436 q437 q2 q438 hd_X5_hasProtest ⟨Nat.le_of_ble_eq_true rfl, Nat.le_of_ble_eq_true rfl⟩) (by omega) hF.1 rfl rfl hl.1 rfl (Nat.le_of_ble_eq_true rfl) dX2_fileProtest_5 ⟨Nat.le_of_ble_eq_true rfl, Nat.le_of_ble_eq_true rfl⟩ (fun H locs hw => ?_)
  refine lv_if_ne (tgt := 13) X.1 X.2.1 dX2_fileProtest_8 (by decide) (fun c1 => ?_) (fun c1 => ?_)
  · replace c1 := bI_nz c1
    refine lv_aload_n X.1 X.2.1 dX2_fileProtest_13 rfl (lv_at hl 0 rfl) ?_
    refine x_get X hK hw (C := RX2) (T := TX2) (nf := 1) (k := q) (by omega) hQ rfl inX2 0 (by decide) q129 (fun _ h9 => h9) rfl dX2_fileProtest_14 ?_
    refine x_get X hK hw (C := RX5) (T := TX5) (nf := 10) (k := b) (by omega) hF.1 rfl inX5 9 (by decide) q90 (fun _ h9 => h9) rfl dX2_fileProtest_17 ?_
    refine lv_iload_n X.1 X.2.1 dX2_fileProtest_20 rfl (lv_at hl 1 rfl) ?_
    refine lv_iconst (v := nI 0) X.1 X.2.1 dX2_fileProtest_21 (by decide) ?_
    refine x_callVP X hK hw (k := (b + 9)) (As := [.int x, .int (nI 0)]) (rest := []) (k_X6_get hI ((b + 9)) 4 40 ((t 4)) x (nI 0) (by omega) (by omega) hF.2.2.2.2.2) (x_cwV yX6_get cX6_get 4 (some .int) 2 X q439 q327 q328 q3 q329 hd_X6_get ⟨Nat.le_of_ble_eq_true rfl, Nat.le_of_ble_eq_true rfl⟩) (by omega) hF.2.2.2.2.2.1 rfl rfl hl.1 rfl (Nat.le_of_ble_eq_true rfl) dX2_fileProtest_22 ⟨Nat.le_of_ble_eq_true rfl, Nat.le_of_ble_eq_true rfl⟩ (fun H locs hw => ?_)
    refine lv_istore_n (lv' := [(2, .int (tg 4 40 ((t 4)) x (nI 0))), (0, .ref (ad q)), (1, .int x)]) X.1 X.2.1 dX2_fileProtest_25 rfl hl (by decide) rfl (fun ls hl => ?_)
    refine lv_aload_n X.1 X.2.1 dX2_fileProtest_26 rfl (lv_at hl 1 rfl) ?_
    refine x_get X hK hw (C := RX2) (T := TX2) (nf := 1) (k := q) (by omega) hQ rfl inX2 0 (by decide) q129 (fun _ h9 => h9) rfl dX2_fileProtest_27 ?_
    refine x_get X hK hw (C := RX5) (T := TX5) (nf := 10) (k := b) (by omega) hF.1 rfl inX5 9 (by decide) q90 (fun _ h9 => h9) rfl dX2_fileProtest_30 ?_
    refine lv_iload_n X.1 X.2.1 dX2_fileProtest_33 rfl (lv_at hl 2 rfl) ?_
    refine lv_iconst (v := nI 3) X.1 X.2.1 dX2_fileProtest_34 (by decide) ?_
    refine x_callVP X hK hw (k := (b + 9)) (As := [.int x, .int (nI 3)]) (rest := []) (k_X6_get hI ((b + 9)) 4 40 ((t 4)) x (nI 3) (by omega) (by omega) hF.2.2.2.2.2) (x_cwV yX6_get cX6_get 4 (some .int) 2 X q439 q327 q328 q3 q329 hd_X6_get ⟨Nat.le_of_ble_eq_true rfl, Nat.le_of_ble_eq_true rfl⟩) (by omega) hF.2.2.2.2.2.1 rfl rfl hl.1 rfl (Nat.le_of_ble_eq_true rfl) dX2_fileProtest_35 ⟨Nat.le_of_ble_eq_true rfl, Nat.le_of_ble_eq_true rfl⟩ (fun H locs hw => ?_)
    refine lv_if_ne (tgt := 54) X.1 X.2.1 dX2_fileProtest_38 (by decide) (fun c2 => ?_) (fun c2 => ?_)
    · refine lv_bipush (v := (-4)) X.1 X.2.1 dX2_fileProtest_54 (by decide) ?_
      exact x_iret X hr hlk hK hw (v := (-4)) rfl (auto_st (by rw [s_X2_fileProtest, if_pos c1, if_neg c2] : s_X2_fileProtest g t x = ((-4), g, t)) hF hfr) dX2_fileProtest_56
    · refine lv_aload_n X.1 X.2.1 dX2_fileProtest_41 rfl (lv_at hl 1 rfl) ?_
      refine x_get X hK hw (C := RX2) (T := TX2) (nf := 1) (k := q) (by omega) hQ rfl inX2 0 (by decide) q129 (fun _ h9 => h9) rfl dX2_fileProtest_42 ?_
      refine lv_iload_n X.1 X.2.1 dX2_fileProtest_45 rfl (lv_at hl 0 rfl) ?_
      refine lv_iconst (v := nI 0) X.1 X.2.1 dX2_fileProtest_46 (by decide) ?_
      refine x_callVP X hK hw (k := b) (As := [.int (tg 4 40 ((t 4)) x (nI 0)), .int (nI 0)]) (rest := []) (k_X5_latestEntry hI b g t (tg 4 40 ((t 4)) x (nI 0)) (nI 0) (by omega) hF) (x_cwV yX5_latestEntry cX5_latestEntry 3 (some .int) 2 X q425 q370 q371 q2 q372 hd_X5_latestEntry ⟨Nat.le_of_ble_eq_true rfl, Nat.le_of_ble_eq_true rfl⟩) (by omega) hF.1 rfl rfl hl.1 rfl (Nat.le_of_ble_eq_true rfl) dX2_fileProtest_47 ⟨Nat.le_of_ble_eq_true rfl, Nat.le_of_ble_eq_true rfl⟩ (fun H locs hw => ?_)
      refine lv_iconst (v := nI 3) X.1 X.2.1 dX2_fileProtest_50 (by decide) ?_
      refine lv_icmp_eq (tgt := 57) X.1 X.2.1 dX2_fileProtest_51 (by decide) (fun c3 => ?_) (fun c3 => ?_)
      · refine lv_aload_n X.1 X.2.1 dX2_fileProtest_57 rfl (lv_at hl 1 rfl) ?_
        refine x_get X hK hw (C := RX2) (T := TX2) (nf := 1) (k := q) (by omega) hQ rfl inX2 0 (by decide) q129 (fun _ h9 => h9) rfl dX2_fileProtest_58 ?_
        refine lv_iload_n X.1 X.2.1 dX2_fileProtest_61 rfl (lv_at hl 0 rfl) ?_
        refine lv_iconst (v := nI 5) X.1 X.2.1 dX2_fileProtest_62 (by decide) ?_
        refine x_callVP X hK hw (k := b) (As := [.int (tg 4 40 ((t 4)) x (nI 0)), .int (nI 5)]) (rest := []) (k_X5_latestEntry hI b g t (tg 4 40 ((t 4)) x (nI 0)) (nI 5) (by omega) hF) (x_cwV yX5_latestEntry cX5_latestEntry 3 (some .int) 2 X q425 q370 q371 q2 q372 hd_X5_latestEntry ⟨Nat.le_of_ble_eq_true rfl, Nat.le_of_ble_eq_true rfl⟩) (by omega) hF.1 rfl rfl hl.1 rfl (Nat.le_of_ble_eq_true rfl) dX2_fileProtest_63 ⟨Nat.le_of_ble_eq_true rfl, Nat.le_of_ble_eq_true rfl⟩ (fun H locs hw => ?_)
        refine lv_aload_n X.1 X.2.1 dX2_fileProtest_66 rfl (lv_at hl 1 rfl) ?_
        refine x_get X hK hw (C := RX2) (T := TX2) (nf := 1) (k := q) (by omega) hQ rfl inX2 0 (by decide) q129 (fun _ h9 => h9) rfl dX2_fileProtest_67 ?_
        refine lv_iconst (v := nI 0) X.1 X.2.1 dX2_fileProtest_70 (by decide) ?_
        refine x_callVP X hK hw (k := b) (As := [.int (nI 0)]) (rest := [.int (c_lat g t (tg 4 40 ((t 4)) x (nI 0)) (nI 5))]) (k_X5_setting hI b g t (nI 0) (by omega) hF) (x_cwV yX5_setting cX5_setting 2 (some .int) 1 X q440 q441 q442 q2 q443 hd_X5_setting ⟨Nat.le_of_ble_eq_true rfl, Nat.le_of_ble_eq_true rfl⟩) (by omega) hF.1 rfl rfl hl.1 rfl (Nat.le_of_ble_eq_true rfl) dX2_fileProtest_71 ⟨Nat.le_of_ble_eq_true rfl, Nat.le_of_ble_eq_true rfl⟩ (fun H locs hw => ?_)
        refine lv_iadd X.1 X.2.1 dX2_fileProtest_74 ?_
        refine lv_aload_n X.1 X.2.1 dX2_fileProtest_75 rfl (lv_at hl 1 rfl) ?_
        refine x_get X hK hw (C := RX2) (T := TX2) (nf := 1) (k := q) (by omega) hQ rfl inX2 0 (by decide) q129 (fun _ h9 => h9) rfl dX2_fileProtest_76 ?_
        refine x_get X hK hw (C := RX5) (T := TX5) (nf := 10) (k := b) (by omega) hF.1 rfl inX5 0 (by decide) q58 (fun _ h9 => h9) rfl dX2_fileProtest_79 ?_
        refine lv_isub X.1 X.2.1 dX2_fileProtest_82 ?_
        refine lv_istore_n (lv' := [(3, .int (((c_lat g t (tg 4 40 ((t 4)) x (nI 0)) (nI 5)) + (tg 1 3 (t 1) (nI 0) (nI 0))) - (g 0))), (2, .int (tg 4 40 ((t 4)) x (nI 0))), (0, .ref (ad q)), (1, .int x)]) X.1 X.2.1 dX2_fileProtest_83 rfl hl (by decide) rfl (fun ls hl => ?_)
        refine lv_iload_n X.1 X.2.1 dX2_fileProtest_84 rfl (lv_at hl 0 rfl) ?_
        refine lv_if_ge (tgt := 91) X.1 X.2.1 dX2_fileProtest_85 (by decide) (fun c4 => ?_) (fun c4 => ?_)
        · refine lv_aload_n X.1 X.2.1 dX2_fileProtest_91 rfl (lv_at hl 2 rfl) ?_
          refine x_get X hK hw (C := RX2) (T := TX2) (nf := 1) (k := q) (by omega) hQ rfl inX2 0 (by decide) q129 (fun _ h9 => h9) rfl dX2_fileProtest_92 ?_
          refine x_get X hK hw (C := RX5) (T := TX5) (nf := 10) (k := b) (by omega) hF.1 rfl inX5 9 (by decide) q90 (fun _ h9 => h9) rfl dX2_fileProtest_95 ?_
          refine lv_iload_n X.1 X.2.1 dX2_fileProtest_98 rfl (lv_at hl 3 rfl) ?_
          refine lv_iconst (v := nI 3) X.1 X.2.1 dX2_fileProtest_99 (by decide) ?_
          refine lv_iconst (v := nI 1) X.1 X.2.1 dX2_fileProtest_100 (by decide) ?_
          refine x_callVv X hK hw (k := (b + 9)) (As := [.int x, .int (nI 3), .int (nI 1)]) (rest := []) (k_X6_put hI ((b + 9)) 4 40 ((t 4)) x (nI 3) (nI 1) (by omega) (by omega) hF.2.2.2.2.2) (x_cwV yX6_put cX6_put 5 none 3 X q426 q54 q55 q3 q56 hd_X6_put ⟨Nat.le_of_ble_eq_true rfl, Nat.le_of_ble_eq_true rfl⟩) (by omega) hF.2.2.2.2.2.1 rfl rfl hl.1 rfl (Nat.le_of_ble_eq_true rfl) dX2_fileProtest_101 ⟨Nat.le_of_ble_eq_true rfl, Nat.le_of_ble_eq_true rfl⟩ (fun F5 H locs hp hw => ?_)
          obtain ⟨hT6, hr7⟩ := hp
          have hF8 := hF.tb4 hT6 hr7
          have hq9 := (hr7 _ (by omega)).trans hQ
          replace hfr := hfr.tr hr7 (by omega) (by omega)
          refine lv_iload_n X.1 X.2.1 dX2_fileProtest_104 rfl (lv_at hl 0 rfl) ?_
          exact x_iret X hr hlk hK hw (v := ((c_lat g t (tg 4 40 ((t 4)) x (nI 0)) (nI 5)) + (tg 1 3 (t 1) (nI 0) (nI 0))) - (g 0)) rfl (auto_st (by rw [s_X2_fileProtest, if_pos c1, if_pos c2, if_pos c3, if_pos c4] : s_X2_fileProtest g t x = (((c_lat g t (tg 4 40 ((t 4)) x (nI 0)) (nI 5)) + (tg 1 3 (t 1) (nI 0) (nI 0))) - (g 0), g, (va_up t 4 (tp 4 40 ((t 4)) x (nI 3) (nI 1))))) hF8 hfr) dX2_fileProtest_105
        · refine lv_bipush (v := (-4)) X.1 X.2.1 dX2_fileProtest_88 (by decide) ?_
          exact x_iret X hr hlk hK hw (v := (-4)) rfl (auto_st (by rw [s_X2_fileProtest, if_pos c1, if_pos c2, if_pos c3, if_neg c4] : s_X2_fileProtest g t x = ((-4), g, t)) hF hfr) dX2_fileProtest_90
      · refine lv_bipush (v := (-4)) X.1 X.2.1 dX2_fileProtest_54 (by decide) ?_
        exact x_iret X hr hlk hK hw (v := (-4)) rfl (auto_st (by rw [s_X2_fileProtest, if_pos c1, if_pos c2, if_neg c3] : s_X2_fileProtest g t x = ((-4), g, t)) hF hfr) dX2_fileProtest_56
  · replace c1 := bI_z c1
    refine lv_iconst (v := (-1)) X.1 X.2.1 dX2_fileProtest_11 (by decide) ?_
    exact x_iret X hr hlk hK hw (v := (-1)) rfl (auto_st (by rw [s_X2_fileProtest, if_neg c1] : s_X2_fileProtest g t x = ((-1), g, t)) hF hfr) dX2_fileProtest_12
def s_X2_acceptProtest (g : Nat → Int32) (t : Nat → Nat → Int32) (x : Int32) : Int32 × (Nat → Int32) × (Nat → Nat → Int32) := (if ¬ x < 0 ∧ ¬ g 4 ≤ x then (if (tg 4 40 ((t 4)) x (nI 3)) = 0 then (if (c_lat g t (tg 4 40 ((t 4)) x (nI 1)) (nI 0)) = (nI 4) then ((-4), g, t) else ((c_lat g t (tg 4 40 ((t 4)) x (nI 1)) (nI 3)) + (tg 1 3 (t 1) (nI 1) (nI 0)), (g), (va_up (c_pl g t (tg 4 40 ((t 4)) x (nI 1)) (nI 3) ((c_lat g t (tg 4 40 ((t 4)) x (nI 1)) (nI 3)) + (tg 1 3 (t 1) (nI 1) (nI 0)))) 4 (tp 4 40 (((c_pl g t (tg 4 40 ((t 4)) x (nI 1)) (nI 3) ((c_lat g t (tg 4 40 ((t 4)) x (nI 1)) (nI 3)) + (tg 1 3 (t 1) (nI 1) (nI 0)))) 4)) x (nI 3) (nI 2))))) else (if (tg 4 40 ((t 4)) x (nI 3)) = (nI 1) then (if (c_lat g t (tg 4 40 ((t 4)) x (nI 1)) (nI 0)) = (nI 4) then ((-4), g, t) else ((c_lat g t (tg 4 40 ((t 4)) x (nI 1)) (nI 3)) + (tg 1 3 (t 1) (nI 1) (nI 0)), (g), (va_up (c_pl g t (tg 4 40 ((t 4)) x (nI 1)) (nI 3) ((c_lat g t (tg 4 40 ((t 4)) x (nI 1)) (nI 3)) + (tg 1 3 (t 1) (nI 1) (nI 0)))) 4 (tp 4 40 (((c_pl g t (tg 4 40 ((t 4)) x (nI 1)) (nI 3) ((c_lat g t (tg 4 40 ((t 4)) x (nI 1)) (nI 3)) + (tg 1 3 (t 1) (nI 1) (nI 0)))) 4)) x (nI 3) (nI 2))))) else ((-4), g, t))) else ((-1), g, t))
set_option maxHeartbeats 4000000 in
set_option maxRecDepth 100000 in
theorem k_X2_acceptProtest {l : Launch} {D : va_G} {cI cB cS : ClassId} {ad : Nat → Nat} {N : Nat} {F : Nat → va_E} (hI : iN ad N) (q : Nat) (b : Nat) (g : Nat → Int32) (t : Nat → Nat → Int32) (x : Int32) (hq : q + 1 ≤ N) (hqb : q + 1 ≤ b ∨ b + 11 ≤ q) (hQ : JuF ad F q b) (hb : b + 11 ≤ N) (hF : StF ad cI F b g t) : Ci l D cI cB cS ad N yX2_acceptProtest cX2_acceptProtest 5 (some .int) 2 47 [.ref (ad q), .int x] F (fun r F' => r = (s_X2_acceptProtest g t x).1 ∧ StF ad cI F' b (s_X2_acceptProtest g t x).2.1 (s_X2_acceptProtest g t x).2.2 ∧ Fr F F' b (b + 11)) := by
  refine x_met (by decide +kernel) (Nat.le_of_ble_eq_true rfl) ?_
  intro p e s m below meth c X hr hlk hK hw ls hl
  replace hl : lv_has ls 5 [(0, .ref (ad q)), (1, .int x)] := hl
  have hfr : Fr F F (b) (b + 11) := Fr.rf
  refine lv_aload_n X.1 X.2.1 dX2_acceptProtest_0 rfl (lv_at hl 0 rfl) ?_
  refine x_get X hK hw (C := RX2) (T := TX2) (nf := 1) (k := q) (by omega) hQ rfl inX2 0 (by decide) q129 (fun _ h9 => h9) rfl dX2_acceptProtest_1 ?_
  refine lv_iload_n X.1 X.2.1 dX2_acceptProtest_4 rfl (lv_at hl 1 rfl) ?_
  refine x_callVP X hK hw (k := b) (As := [.int x]) (rest := []) (k_X5_hasProtest hI b g t x (by omega) hF) (x_cwV yX5_hasProtest cX5_hasProtest 2 (some .boolean) 1 X q435 q436 q437 q2 q438 hd_X5_hasProtest ⟨Nat.le_of_ble_eq_true rfl, Nat.le_of_ble_eq_true rfl⟩) (by omega) hF.1 rfl rfl hl.1 rfl (Nat.le_of_ble_eq_true rfl) dX2_acceptProtest_5 ⟨Nat.le_of_ble_eq_true rfl, Nat.le_of_ble_eq_true rfl⟩ (fun H locs hw => ?_)
  refine lv_if_ne (tgt := 13) X.1 X.2.1 dX2_acceptProtest_8 (by decide) (fun c1 => ?_) (fun c1 => ?_)
  · replace c1 := bI_nz c1
    refine lv_aload_n X.1 X.2.1 dX2_acceptProtest_13 rfl (lv_at hl 0 rfl) ?_
    refine x_get X hK hw (C := RX2) (T := TX2) (nf := 1) (k := q) (by omega) hQ rfl inX2 0 (by decide) q129 (fun _ h9 => h9) rfl dX2_acceptProtest_14 ?_
    refine x_get X hK hw (C := RX5) (T := TX5) (nf := 10) (k := b) (by omega) hF.1 rfl inX5 9 (by decide) q90 (fun _ h9 => h9) rfl dX2_acceptProtest_17 ?_
    refine lv_iload_n X.1 X.2.1 dX2_acceptProtest_20 rfl (lv_at hl 1 rfl) ?_
    refine lv_iconst (v := nI 3) X.1 X.2.1 dX2_acceptProtest_21 (by decide) ?_
    refine x_callVP X hK hw (k := (b + 9)) (As := [.int x, .int (nI 3)]) (rest := []) (k_X6_get hI ((b + 9)) 4 40 ((t 4)) x (nI 3) (by omega) (by omega) hF.2.2.2.2.2) (x_cwV yX6_get cX6_get 4 (some .int) 2 X q439 q327 q328 q3 q329 hd_X6_get ⟨Nat.le_of_ble_eq_true rfl, Nat.le_of_ble_eq_true rfl⟩) (by omega) hF.2.2.2.2.2.1 rfl rfl hl.1 rfl (Nat.le_of_ble_eq_true rfl) dX2_acceptProtest_22 ⟨Nat.le_of_ble_eq_true rfl, Nat.le_of_ble_eq_true rfl⟩ (fun H locs hw => ?_)
    refine lv_istore_n (lv' := [(2, .int (tg 4 40 ((t 4)) x (nI 3))), (0, .ref (ad q)), (1, .int x)]) X.1 X.2.1 dX2_acceptProtest_25 rfl hl (by decide) rfl (fun ls hl => ?_)
    refine lv_aload_n X.1 X.2.1 dX2_acceptProtest_26 rfl (lv_at hl 1 rfl) ?_
    refine x_get X hK hw (C := RX2) (T := TX2) (nf := 1) (k := q) (by omega) hQ rfl inX2 0 (by decide) q129 (fun _ h9 => h9) rfl dX2_acceptProtest_27 ?_
    refine x_get X hK hw (C := RX5) (T := TX5) (nf := 10) (k := b) (by omega) hF.1 rfl inX5 9 (by decide) q90 (fun _ h9 => h9) rfl dX2_acceptProtest_30 ?_
    refine lv_iload_n X.1 X.2.1 dX2_acceptProtest_33 rfl (lv_at hl 2 rfl) ?_
    refine lv_iconst (v := nI 1) X.1 X.2.1 dX2_acceptProtest_34 (by decide) ?_
    refine x_callVP X hK hw (k := (b + 9)) (As := [.int x, .int (nI 1)]) (rest := []) (k_X6_get hI ((b + 9)) 4 40 ((t 4)) x (nI 1) (by omega) (by omega) hF.2.2.2.2.2) (x_cwV yX6_get cX6_get 4 (some .int) 2 X q439 q327 q328 q3 q329 hd_X6_get ⟨Nat.le_of_ble_eq_true rfl, Nat.le_of_ble_eq_true rfl⟩) (by omega) hF.2.2.2.2.2.1 rfl rfl hl.1 rfl (Nat.le_of_ble_eq_true rfl) dX2_acceptProtest_35 ⟨Nat.le_of_ble_eq_true rfl, Nat.le_of_ble_eq_true rfl⟩ (fun H locs hw => ?_)
    refine lv_istore_n (lv' := [(3, .int (tg 4 40 ((t 4)) x (nI 1))), (2, .int (tg 4 40 ((t 4)) x (nI 3))), (0, .ref (ad q)), (1, .int x)]) X.1 X.2.1 dX2_acceptProtest_38 rfl hl (by decide) rfl (fun ls hl => ?_)
    refine lv_iload_n X.1 X.2.1 dX2_acceptProtest_39 rfl (lv_at hl 1 rfl) ?_
    refine lv_if_eq (tgt := 48) X.1 X.2.1 dX2_acceptProtest_40 (by decide) (fun c2 => ?_) (fun c2 => ?_)
    · refine lv_aload_n X.1 X.2.1 dX2_acceptProtest_48 rfl (lv_at hl 2 rfl) ?_
      refine x_get X hK hw (C := RX2) (T := TX2) (nf := 1) (k := q) (by omega) hQ rfl inX2 0 (by decide) q129 (fun _ h9 => h9) rfl dX2_acceptProtest_49 ?_
      refine lv_iload_n X.1 X.2.1 dX2_acceptProtest_52 rfl (lv_at hl 0 rfl) ?_
      refine lv_iconst (v := nI 0) X.1 X.2.1 dX2_acceptProtest_53 (by decide) ?_
      refine x_callVP X hK hw (k := b) (As := [.int (tg 4 40 ((t 4)) x (nI 1)), .int (nI 0)]) (rest := []) (k_X5_latestEntry hI b g t (tg 4 40 ((t 4)) x (nI 1)) (nI 0) (by omega) hF) (x_cwV yX5_latestEntry cX5_latestEntry 3 (some .int) 2 X q425 q370 q371 q2 q372 hd_X5_latestEntry ⟨Nat.le_of_ble_eq_true rfl, Nat.le_of_ble_eq_true rfl⟩) (by omega) hF.1 rfl rfl hl.1 rfl (Nat.le_of_ble_eq_true rfl) dX2_acceptProtest_54 ⟨Nat.le_of_ble_eq_true rfl, Nat.le_of_ble_eq_true rfl⟩ (fun H locs hw => ?_)
      refine lv_iconst (v := nI 4) X.1 X.2.1 dX2_acceptProtest_57 (by decide) ?_
      refine lv_icmp_ne (tgt := 64) X.1 X.2.1 dX2_acceptProtest_58 (by decide) (fun c3 => ?_) (fun c3 => ?_)
      · refine lv_aload_n X.1 X.2.1 dX2_acceptProtest_64 rfl (lv_at hl 2 rfl) ?_
        refine x_get X hK hw (C := RX2) (T := TX2) (nf := 1) (k := q) (by omega) hQ rfl inX2 0 (by decide) q129 (fun _ h9 => h9) rfl dX2_acceptProtest_65 ?_
        refine lv_iload_n X.1 X.2.1 dX2_acceptProtest_68 rfl (lv_at hl 0 rfl) ?_
        refine lv_iconst (v := nI 3) X.1 X.2.1 dX2_acceptProtest_69 (by decide) ?_
        refine x_callVP X hK hw (k := b) (As := [.int (tg 4 40 ((t 4)) x (nI 1)), .int (nI 3)]) (rest := []) (k_X5_latestEntry hI b g t (tg 4 40 ((t 4)) x (nI 1)) (nI 3) (by omega) hF) (x_cwV yX5_latestEntry cX5_latestEntry 3 (some .int) 2 X q425 q370 q371 q2 q372 hd_X5_latestEntry ⟨Nat.le_of_ble_eq_true rfl, Nat.le_of_ble_eq_true rfl⟩) (by omega) hF.1 rfl rfl hl.1 rfl (Nat.le_of_ble_eq_true rfl) dX2_acceptProtest_70 ⟨Nat.le_of_ble_eq_true rfl, Nat.le_of_ble_eq_true rfl⟩ (fun H locs hw => ?_)
        refine lv_aload_n X.1 X.2.1 dX2_acceptProtest_73 rfl (lv_at hl 2 rfl) ?_
        refine x_get X hK hw (C := RX2) (T := TX2) (nf := 1) (k := q) (by omega) hQ rfl inX2 0 (by decide) q129 (fun _ h9 => h9) rfl dX2_acceptProtest_74 ?_
        refine lv_iconst (v := nI 1) X.1 X.2.1 dX2_acceptProtest_77 (by decide) ?_
        refine x_callVP X hK hw (k := b) (As := [.int (nI 1)]) (rest := [.int (c_lat g t (tg 4 40 ((t 4)) x (nI 1)) (nI 3))]) (k_X5_setting hI b g t (nI 1) (by omega) hF) (x_cwV yX5_setting cX5_setting 2 (some .int) 1 X q440 q441 q442 q2 q443 hd_X5_setting ⟨Nat.le_of_ble_eq_true rfl, Nat.le_of_ble_eq_true rfl⟩) (by omega) hF.1 rfl rfl hl.1 rfl (Nat.le_of_ble_eq_true rfl) dX2_acceptProtest_78 ⟨Nat.le_of_ble_eq_true rfl, Nat.le_of_ble_eq_true rfl⟩ (fun H locs hw => ?_)
        refine lv_iadd X.1 X.2.1 dX2_acceptProtest_81 ?_
        refine lv_istore (lv' := [(4, .int ((c_lat g t (tg 4 40 ((t 4)) x (nI 1)) (nI 3)) + (tg 1 3 (t 1) (nI 1) (nI 0)))), (3, .int (tg 4 40 ((t 4)) x (nI 1))), (2, .int (tg 4 40 ((t 4)) x (nI 3))), (0, .ref (ad q)), (1, .int x)]) X.1 X.2.1 dX2_acceptProtest_82 hl (by decide) rfl (fun ls hl => ?_)
        refine lv_aload_n X.1 X.2.1 dX2_acceptProtest_84 rfl (lv_at hl 3 rfl) ?_
        refine x_get X hK hw (C := RX2) (T := TX2) (nf := 1) (k := q) (by omega) hQ rfl inX2 0 (by decide) q129 (fun _ h9 => h9) rfl dX2_acceptProtest_85 ?_
        refine lv_iload_n X.1 X.2.1 dX2_acceptProtest_88 rfl (lv_at hl 1 rfl) ?_
        refine lv_iconst (v := nI 3) X.1 X.2.1 dX2_acceptProtest_89 (by decide) ?_
        refine lv_iload X.1 X.2.1 dX2_acceptProtest_90 (lv_at hl 0 rfl) ?_
        refine x_callVv X hK hw (k := b) (As := [.int (tg 4 40 ((t 4)) x (nI 1)), .int (nI 3), .int ((c_lat g t (tg 4 40 ((t 4)) x (nI 1)) (nI 3)) + (tg 1 3 (t 1) (nI 1) (nI 0)))]) (rest := []) (k_X5_putLatestEntry hI b g t (tg 4 40 ((t 4)) x (nI 1)) (nI 3) ((c_lat g t (tg 4 40 ((t 4)) x (nI 1)) (nI 3)) + (tg 1 3 (t 1) (nI 1) (nI 0))) (by omega) hF) (x_cwV yX5_putLatestEntry cX5_putLatestEntry 4 none 3 X q452 q380 q381 q2 q382 hd_X5_putLatestEntry ⟨Nat.le_of_ble_eq_true rfl, Nat.le_of_ble_eq_true rfl⟩) (by omega) hF.1 rfl rfl hl.1 rfl (Nat.le_of_ble_eq_true rfl) dX2_acceptProtest_92 ⟨Nat.le_of_ble_eq_true rfl, Nat.le_of_ble_eq_true rfl⟩ (fun F4 H locs hp hw => ?_)
        obtain ⟨hF5, hr6⟩ := hp
        have hq7 := (hr6 _ (by omega)).trans hQ
        replace hfr := hfr.tr hr6 (by omega) (by omega)
        refine lv_aload_n X.1 X.2.1 dX2_acceptProtest_95 rfl (lv_at hl 3 rfl) ?_
        refine x_get X hK hw (C := RX2) (T := TX2) (nf := 1) (k := q) (by omega) hq7 rfl inX2 0 (by decide) q129 (fun _ h9 => h9) rfl dX2_acceptProtest_96 ?_
        refine x_get X hK hw (C := RX5) (T := TX5) (nf := 10) (k := b) (by omega) hF5.1 rfl inX5 9 (by decide) q90 (fun _ h9 => h9) rfl dX2_acceptProtest_99 ?_
        refine lv_iload_n X.1 X.2.1 dX2_acceptProtest_102 rfl (lv_at hl 4 rfl) ?_
        refine lv_iconst (v := nI 3) X.1 X.2.1 dX2_acceptProtest_103 (by decide) ?_
        refine lv_iconst (v := nI 2) X.1 X.2.1 dX2_acceptProtest_104 (by decide) ?_
        refine x_callVv X hK hw (k := (b + 9)) (As := [.int x, .int (nI 3), .int (nI 2)]) (rest := []) (k_X6_put hI ((b + 9)) 4 40 (((c_pl g t (tg 4 40 ((t 4)) x (nI 1)) (nI 3) ((c_lat g t (tg 4 40 ((t 4)) x (nI 1)) (nI 3)) + (tg 1 3 (t 1) (nI 1) (nI 0)))) 4)) x (nI 3) (nI 2) (by omega) (by omega) hF5.2.2.2.2.2) (x_cwV yX6_put cX6_put 5 none 3 X q426 q54 q55 q3 q56 hd_X6_put ⟨Nat.le_of_ble_eq_true rfl, Nat.le_of_ble_eq_true rfl⟩) (by omega) hF5.2.2.2.2.2.1 rfl rfl hl.1 rfl (Nat.le_of_ble_eq_true rfl) dX2_acceptProtest_105 ⟨Nat.le_of_ble_eq_true rfl, Nat.le_of_ble_eq_true rfl⟩ (fun F8 H locs hp hw => ?_)
        obtain ⟨hT9, hr10⟩ := hp
        have hF11 := hF5.tb4 hT9 hr10
        have hq12 := (hr10 _ (by omega)).trans hq7
        replace hfr := hfr.tr hr10 (by omega) (by omega)
        refine lv_iload X.1 X.2.1 dX2_acceptProtest_108 (lv_at hl 0 rfl) ?_
        exact x_iret X hr hlk hK hw (v := (c_lat g t (tg 4 40 ((t 4)) x (nI 1)) (nI 3)) + (tg 1 3 (t 1) (nI 1) (nI 0))) rfl (auto_st (by rw [s_X2_acceptProtest, if_pos c1, if_pos c2, if_neg c3] : s_X2_acceptProtest g t x = ((c_lat g t (tg 4 40 ((t 4)) x (nI 1)) (nI 3)) + (tg 1 3 (t 1) (nI 1) (nI 0)), (g), (va_up (c_pl g t (tg 4 40 ((t 4)) x (nI 1)) (nI 3) ((c_lat g t (tg 4 40 ((t 4)) x (nI 1)) (nI 3)) + (tg 1 3 (t 1) (nI 1) (nI 0)))) 4 (tp 4 40 (((c_pl g t (tg 4 40 ((t 4)) x (nI 1)) (nI 3) ((c_lat g t (tg 4 40 ((t 4)) x (nI 1)) (nI 3)) + (tg 1 3 (t 1) (nI 1) (nI 0)))) 4)) x (nI 3) (nI 2))))) hF11 hfr) dX2_acceptProtest_110
      · refine lv_bipush (v := (-4)) X.1 X.2.1 dX2_acceptProtest_61 (by decide) ?_
        exact x_iret X hr hlk hK hw (v := (-4)) rfl (auto_st (by rw [s_X2_acceptProtest, if_pos c1, if_pos c2, if_pos c3] : s_X2_acceptProtest g t x = ((-4), g, t)) hF hfr) dX2_acceptProtest_63
    · refine lv_iload_n X.1 X.2.1 dX2_acceptProtest_43 rfl (lv_at hl 1 rfl) ?_
      refine lv_iconst (v := nI 1) X.1 X.2.1 dX2_acceptProtest_44 (by decide) ?_
      refine lv_icmp_ne (tgt := 61) X.1 X.2.1 dX2_acceptProtest_45 (by decide) (fun c13 => ?_) (fun c13 => ?_)
      · refine lv_bipush (v := (-4)) X.1 X.2.1 dX2_acceptProtest_61 (by decide) ?_
        exact x_iret X hr hlk hK hw (v := (-4)) rfl (auto_st (by rw [s_X2_acceptProtest, if_pos c1, if_neg c2, if_neg c13] : s_X2_acceptProtest g t x = ((-4), g, t)) hF hfr) dX2_acceptProtest_63
      · refine lv_aload_n X.1 X.2.1 dX2_acceptProtest_48 rfl (lv_at hl 2 rfl) ?_
        refine x_get X hK hw (C := RX2) (T := TX2) (nf := 1) (k := q) (by omega) hQ rfl inX2 0 (by decide) q129 (fun _ h9 => h9) rfl dX2_acceptProtest_49 ?_
        refine lv_iload_n X.1 X.2.1 dX2_acceptProtest_52 rfl (lv_at hl 0 rfl) ?_
        refine lv_iconst (v := nI 0) X.1 X.2.1 dX2_acceptProtest_53 (by decide) ?_
        refine x_callVP X hK hw (k := b) (As := [.int (tg 4 40 ((t 4)) x (nI 1)), .int (nI 0)]) (rest := []) (k_X5_latestEntry hI b g t (tg 4 40 ((t 4)) x (nI 1)) (nI 0) (by omega) hF) (x_cwV yX5_latestEntry cX5_latestEntry 3 (some .int) 2 X q425 q370 q371 q2 q372 hd_X5_latestEntry ⟨Nat.le_of_ble_eq_true rfl, Nat.le_of_ble_eq_true rfl⟩) (by omega) hF.1 rfl rfl hl.1 rfl (Nat.le_of_ble_eq_true rfl) dX2_acceptProtest_54 ⟨Nat.le_of_ble_eq_true rfl, Nat.le_of_ble_eq_true rfl⟩ (fun H locs hw => ?_)
        refine lv_iconst (v := nI 4) X.1 X.2.1 dX2_acceptProtest_57 (by decide) ?_
        refine lv_icmp_ne (tgt := 64) X.1 X.2.1 dX2_acceptProtest_58 (by decide) (fun c14 => ?_) (fun c14 => ?_)
        · refine lv_aload_n X.1 X.2.1 dX2_acceptProtest_64 rfl (lv_at hl 2 rfl) ?_
          refine x_get X hK hw (C := RX2) (T := TX2) (nf := 1) (k := q) (by omega) hQ rfl inX2 0 (by decide) q129 (fun _ h9 => h9) rfl dX2_acceptProtest_65 ?_
          refine lv_iload_n X.1 X.2.1 dX2_acceptProtest_68 rfl (lv_at hl 0 rfl) ?_
          refine lv_iconst (v := nI 3) X.1 X.2.1 dX2_acceptProtest_69 (by decide) ?_
          refine x_callVP X hK hw (k := b) (As := [.int (tg 4 40 ((t 4)) x (nI 1)), .int (nI 3)]) (rest := []) (k_X5_latestEntry hI b g t (tg 4 40 ((t 4)) x (nI 1)) (nI 3) (by omega) hF) (x_cwV yX5_latestEntry cX5_latestEntry 3 (some .int) 2 X q425 q370 q371 q2 q372 hd_X5_latestEntry ⟨Nat.le_of_ble_eq_true rfl, Nat.le_of_ble_eq_true rfl⟩) (by omega) hF.1 rfl rfl hl.1 rfl (Nat.le_of_ble_eq_true rfl) dX2_acceptProtest_70 ⟨Nat.le_of_ble_eq_true rfl, Nat.le_of_ble_eq_true rfl⟩ (fun H locs hw => ?_)
          refine lv_aload_n X.1 X.2.1 dX2_acceptProtest_73 rfl (lv_at hl 2 rfl) ?_
          refine x_get X hK hw (C := RX2) (T := TX2) (nf := 1) (k := q) (by omega) hQ rfl inX2 0 (by decide) q129 (fun _ h9 => h9) rfl dX2_acceptProtest_74 ?_
          refine lv_iconst (v := nI 1) X.1 X.2.1 dX2_acceptProtest_77 (by decide) ?_
          refine x_callVP X hK hw (k := b) (As := [.int (nI 1)]) (rest := [.int (c_lat g t (tg 4 40 ((t 4)) x (nI 1)) (nI 3))]) (k_X5_setting hI b g t (nI 1) (by omega) hF) (x_cwV yX5_setting cX5_setting 2 (some .int) 1 X q440 q441 q442 q2 q443 hd_X5_setting ⟨Nat.le_of_ble_eq_true rfl, Nat.le_of_ble_eq_true rfl⟩) (by omega) hF.1 rfl rfl hl.1 rfl (Nat.le_of_ble_eq_true rfl) dX2_acceptProtest_78 ⟨Nat.le_of_ble_eq_true rfl, Nat.le_of_ble_eq_true rfl⟩ (fun H locs hw => ?_)
          refine lv_iadd X.1 X.2.1 dX2_acceptProtest_81 ?_
          refine lv_istore (lv' := [(4, .int ((c_lat g t (tg 4 40 ((t 4)) x (nI 1)) (nI 3)) + (tg 1 3 (t 1) (nI 1) (nI 0)))), (3, .int (tg 4 40 ((t 4)) x (nI 1))), (2, .int (tg 4 40 ((t 4)) x (nI 3))), (0, .ref (ad q)), (1, .int x)]) X.1 X.2.1 dX2_acceptProtest_82 hl (by decide) rfl (fun ls hl => ?_)
          refine lv_aload_n X.1 X.2.1 dX2_acceptProtest_84 rfl (lv_at hl 3 rfl) ?_
          refine x_get X hK hw (C := RX2) (T := TX2) (nf := 1) (k := q) (by omega) hQ rfl inX2 0 (by decide) q129 (fun _ h9 => h9) rfl dX2_acceptProtest_85 ?_
          refine lv_iload_n X.1 X.2.1 dX2_acceptProtest_88 rfl (lv_at hl 1 rfl) ?_
          refine lv_iconst (v := nI 3) X.1 X.2.1 dX2_acceptProtest_89 (by decide) ?_
          refine lv_iload X.1 X.2.1 dX2_acceptProtest_90 (lv_at hl 0 rfl) ?_
          refine x_callVv X hK hw (k := b) (As := [.int (tg 4 40 ((t 4)) x (nI 1)), .int (nI 3), .int ((c_lat g t (tg 4 40 ((t 4)) x (nI 1)) (nI 3)) + (tg 1 3 (t 1) (nI 1) (nI 0)))]) (rest := []) (k_X5_putLatestEntry hI b g t (tg 4 40 ((t 4)) x (nI 1)) (nI 3) ((c_lat g t (tg 4 40 ((t 4)) x (nI 1)) (nI 3)) + (tg 1 3 (t 1) (nI 1) (nI 0))) (by omega) hF) (x_cwV yX5_putLatestEntry cX5_putLatestEntry 4 none 3 X q452 q380 q381 q2 q382 hd_X5_putLatestEntry ⟨Nat.le_of_ble_eq_true rfl, Nat.le_of_ble_eq_true rfl⟩) (by omega) hF.1 rfl rfl hl.1 rfl (Nat.le_of_ble_eq_true rfl) dX2_acceptProtest_92 ⟨Nat.le_of_ble_eq_true rfl, Nat.le_of_ble_eq_true rfl⟩ (fun F15 H locs hp hw => ?_)
          obtain ⟨hF16, hr17⟩ := hp
          have hq18 := (hr17 _ (by omega)).trans hQ
          replace hfr := hfr.tr hr17 (by omega) (by omega)
          refine lv_aload_n X.1 X.2.1 dX2_acceptProtest_95 rfl (lv_at hl 3 rfl) ?_
          refine x_get X hK hw (C := RX2) (T := TX2) (nf := 1) (k := q) (by omega) hq18 rfl inX2 0 (by decide) q129 (fun _ h9 => h9) rfl dX2_acceptProtest_96 ?_
          refine x_get X hK hw (C := RX5) (T := TX5) (nf := 10) (k := b) (by omega) hF16.1 rfl inX5 9 (by decide) q90 (fun _ h9 => h9) rfl dX2_acceptProtest_99 ?_
          refine lv_iload_n X.1 X.2.1 dX2_acceptProtest_102 rfl (lv_at hl 4 rfl) ?_
          refine lv_iconst (v := nI 3) X.1 X.2.1 dX2_acceptProtest_103 (by decide) ?_
          refine lv_iconst (v := nI 2) X.1 X.2.1 dX2_acceptProtest_104 (by decide) ?_
          refine x_callVv X hK hw (k := (b + 9)) (As := [.int x, .int (nI 3), .int (nI 2)]) (rest := []) (k_X6_put hI ((b + 9)) 4 40 (((c_pl g t (tg 4 40 ((t 4)) x (nI 1)) (nI 3) ((c_lat g t (tg 4 40 ((t 4)) x (nI 1)) (nI 3)) + (tg 1 3 (t 1) (nI 1) (nI 0)))) 4)) x (nI 3) (nI 2) (by omega) (by omega) hF16.2.2.2.2.2) (x_cwV yX6_put cX6_put 5 none 3 X q426 q54 q55 q3 q56 hd_X6_put ⟨Nat.le_of_ble_eq_true rfl, Nat.le_of_ble_eq_true rfl⟩) (by omega) hF16.2.2.2.2.2.1 rfl rfl hl.1 rfl (Nat.le_of_ble_eq_true rfl) dX2_acceptProtest_105 ⟨Nat.le_of_ble_eq_true rfl, Nat.le_of_ble_eq_true rfl⟩ (fun F19 H locs hp hw => ?_)
          obtain ⟨hT20, hr21⟩ := hp
          have hF22 := hF16.tb4 hT20 hr21
          have hq23 := (hr21 _ (by omega)).trans hq18
          replace hfr := hfr.tr hr21 (by omega) (by omega)
          refine lv_iload X.1 X.2.1 dX2_acceptProtest_108 (lv_at hl 0 rfl) ?_
          exact x_iret X hr hlk hK hw (v := (c_lat g t (tg 4 40 ((t 4)) x (nI 1)) (nI 3)) + (tg 1 3 (t 1) (nI 1) (nI 0))) rfl (auto_st (by rw [s_X2_acceptProtest, if_pos c1, if_neg c2, if_pos c13, if_neg c14] : s_X2_acceptProtest g t x = ((c_lat g t (tg 4 40 ((t 4)) x (nI 1)) (nI 3)) + (tg 1 3 (t 1) (nI 1) (nI 0)), (g), (va_up (c_pl g t (tg 4 40 ((t 4)) x (nI 1)) (nI 3) ((c_lat g t (tg 4 40 ((t 4)) x (nI 1)) (nI 3)) + (tg 1 3 (t 1) (nI 1) (nI 0)))) 4 (tp 4 40 (((c_pl g t (tg 4 40 ((t 4)) x (nI 1)) (nI 3) ((c_lat g t (tg 4 40 ((t 4)) x (nI 1)) (nI 3)) + (tg 1 3 (t 1) (nI 1) (nI 0)))) 4)) x (nI 3) (nI 2))))) hF22 hfr) dX2_acceptProtest_110
        · refine lv_bipush (v := (-4)) X.1 X.2.1 dX2_acceptProtest_61 (by decide) ?_
          exact x_iret X hr hlk hK hw (v := (-4)) rfl (auto_st (by rw [s_X2_acceptProtest, if_pos c1, if_neg c2, if_pos c13, if_pos c14] : s_X2_acceptProtest g t x = ((-4), g, t)) hF hfr) dX2_acceptProtest_63
  · replace c1 := bI_z c1
    refine lv_iconst (v := (-1)) X.1 X.2.1 dX2_acceptProtest_11 (by decide) ?_
    exact x_iret X hr hlk hK hw (v := (-1)) rfl (auto_st (by rw [s_X2_acceptProtest, if_neg c1] : s_X2_acceptProtest g t x = ((-1), g, t)) hF hfr) dX2_acceptProtest_12
def s_X2_decideProtest (g : Nat → Int32) (t : Nat → Nat → Int32) (x : Int32) (y : Int32) (nb : Nat) : Int32 × (Nat → Int32) × (Nat → Nat → Int32) := (if ¬ x < 0 ∧ ¬ g 4 ≤ x then (if (tg 4 40 ((t 4)) x (nI 3)) = (nI 1) then (if y = 0 then (if y = 0 then (c_cnt ((va_up t 4 (tp 4 40 ((t 4)) x (nI 3) (nI 4)))) (g 2 - nI 1) (nI 4) (nI 1) nb, g, (va_up t 4 (tp 4 40 ((t 4)) x (nI 3) (nI 4)))) else (c_cnt ((c_pl g ((va_up t 4 (tp 4 40 ((t 4)) x (nI 3) (nI 4)))) (tg 4 40 (((va_up t 4 (tp 4 40 ((t 4)) x (nI 3) (nI 4))) 4)) x (nI 1)) (nI 4) (nI 1))) (((g)) 2 - nI 1) (nI 4) (nI 1) nb, (g), (c_pl g ((va_up t 4 (tp 4 40 ((t 4)) x (nI 3) (nI 4)))) (tg 4 40 (((va_up t 4 (tp 4 40 ((t 4)) x (nI 3) (nI 4))) 4)) x (nI 1)) (nI 4) (nI 1)))) else (if y = 0 then (c_cnt ((va_up t 4 (tp 4 40 ((t 4)) x (nI 3) (nI 3)))) (g 2 - nI 1) (nI 4) (nI 1) nb, g, (va_up t 4 (tp 4 40 ((t 4)) x (nI 3) (nI 3)))) else (c_cnt ((c_pl g ((va_up t 4 (tp 4 40 ((t 4)) x (nI 3) (nI 3)))) (tg 4 40 (((va_up t 4 (tp 4 40 ((t 4)) x (nI 3) (nI 3))) 4)) x (nI 1)) (nI 4) (nI 1))) (((g)) 2 - nI 1) (nI 4) (nI 1) nb, (g), (c_pl g ((va_up t 4 (tp 4 40 ((t 4)) x (nI 3) (nI 3)))) (tg 4 40 (((va_up t 4 (tp 4 40 ((t 4)) x (nI 3) (nI 3))) 4)) x (nI 1)) (nI 4) (nI 1))))) else ((-4), g, t)) else ((-1), g, t))
set_option maxHeartbeats 4000000 in
set_option maxRecDepth 100000 in
theorem k_X2_decideProtest {l : Launch} {D : va_G} {cI cB cS : ClassId} {ad : Nat → Nat} {N : Nat} {F : Nat → va_E} (hI : iN ad N) (q : Nat) (b : Nat) (g : Nat → Int32) (t : Nat → Nat → Int32) (x : Int32) (y : Int32) (nb : Nat) (hq : q + 1 ≤ N) (hqb : q + 1 ≤ b ∨ b + 11 ≤ q) (hQ : JuF ad F q b) (hb : b + 11 ≤ N) (hF : StF ad cI F b g t) (hg : g 1 = nI nb) (hnb : nb < 2 ^ 31) : Ci l D cI cB cS ad N yX2_decideProtest cX2_decideProtest 3 (some .int) 2 48 [.ref (ad q), .int x, .int y] F (fun r F' => r = (s_X2_decideProtest g t x y nb).1 ∧ StF ad cI F' b (s_X2_decideProtest g t x y nb).2.1 (s_X2_decideProtest g t x y nb).2.2 ∧ Fr F F' b (b + 11)) := by
  refine x_met (by decide +kernel) (Nat.le_of_ble_eq_true rfl) ?_
  intro p e s m below meth c X hr hlk hK hw ls hl
  replace hl : lv_has ls 3 [(0, .ref (ad q)), (1, .int x), (2, .int y)] := hl
  have hfr : Fr F F (b) (b + 11) := Fr.rf
  refine lv_aload_n X.1 X.2.1 dX2_decideProtest_0 rfl (lv_at hl 0 rfl) ?_
  refine x_get X hK hw (C := RX2) (T := TX2) (nf := 1) (k := q) (by omega) hQ rfl inX2 0 (by decide) q129 (fun _ h9 => h9) rfl dX2_decideProtest_1 ?_
  refine lv_iload_n X.1 X.2.1 dX2_decideProtest_4 rfl (lv_at hl 1 rfl) ?_
  refine x_callVP X hK hw (k := b) (As := [.int x]) (rest := []) (k_X5_hasProtest hI b g t x (by omega) hF) (x_cwV yX5_hasProtest cX5_hasProtest 2 (some .boolean) 1 X q435 q436 q437 q2 q438 hd_X5_hasProtest ⟨Nat.le_of_ble_eq_true rfl, Nat.le_of_ble_eq_true rfl⟩) (by omega) hF.1 rfl rfl hl.1 rfl (Nat.le_of_ble_eq_true rfl) dX2_decideProtest_5 ⟨Nat.le_of_ble_eq_true rfl, Nat.le_of_ble_eq_true rfl⟩ (fun H locs hw => ?_)
  refine lv_if_ne (tgt := 13) X.1 X.2.1 dX2_decideProtest_8 (by decide) (fun c1 => ?_) (fun c1 => ?_)
  · replace c1 := bI_nz c1
    refine lv_aload_n X.1 X.2.1 dX2_decideProtest_13 rfl (lv_at hl 0 rfl) ?_
    refine x_get X hK hw (C := RX2) (T := TX2) (nf := 1) (k := q) (by omega) hQ rfl inX2 0 (by decide) q129 (fun _ h9 => h9) rfl dX2_decideProtest_14 ?_
    refine x_get X hK hw (C := RX5) (T := TX5) (nf := 10) (k := b) (by omega) hF.1 rfl inX5 9 (by decide) q90 (fun _ h9 => h9) rfl dX2_decideProtest_17 ?_
    refine lv_iload_n X.1 X.2.1 dX2_decideProtest_20 rfl (lv_at hl 1 rfl) ?_
    refine lv_iconst (v := nI 3) X.1 X.2.1 dX2_decideProtest_21 (by decide) ?_
    refine x_callVP X hK hw (k := (b + 9)) (As := [.int x, .int (nI 3)]) (rest := []) (k_X6_get hI ((b + 9)) 4 40 ((t 4)) x (nI 3) (by omega) (by omega) hF.2.2.2.2.2) (x_cwV yX6_get cX6_get 4 (some .int) 2 X q439 q327 q328 q3 q329 hd_X6_get ⟨Nat.le_of_ble_eq_true rfl, Nat.le_of_ble_eq_true rfl⟩) (by omega) hF.2.2.2.2.2.1 rfl rfl hl.1 rfl (Nat.le_of_ble_eq_true rfl) dX2_decideProtest_22 ⟨Nat.le_of_ble_eq_true rfl, Nat.le_of_ble_eq_true rfl⟩ (fun H locs hw => ?_)
    refine lv_iconst (v := nI 1) X.1 X.2.1 dX2_decideProtest_25 (by decide) ?_
    refine lv_icmp_eq (tgt := 32) X.1 X.2.1 dX2_decideProtest_26 (by decide) (fun c2 => ?_) (fun c2 => ?_)
    · refine lv_aload_n X.1 X.2.1 dX2_decideProtest_32 rfl (lv_at hl 0 rfl) ?_
      refine x_get X hK hw (C := RX2) (T := TX2) (nf := 1) (k := q) (by omega) hQ rfl inX2 0 (by decide) q129 (fun _ h9 => h9) rfl dX2_decideProtest_33 ?_
      refine x_get X hK hw (C := RX5) (T := TX5) (nf := 10) (k := b) (by omega) hF.1 rfl inX5 9 (by decide) q90 (fun _ h9 => h9) rfl dX2_decideProtest_36 ?_
      refine lv_iload_n X.1 X.2.1 dX2_decideProtest_39 rfl (lv_at hl 1 rfl) ?_
      refine lv_iconst (v := nI 3) X.1 X.2.1 dX2_decideProtest_40 (by decide) ?_
      refine lv_iload_n X.1 X.2.1 dX2_decideProtest_41 rfl (lv_at hl 2 rfl) ?_
      refine lv_if_eq (tgt := 49) X.1 X.2.1 dX2_decideProtest_42 (by decide) (fun c3 => ?_) (fun c3 => ?_)
      · refine lv_iconst (v := nI 4) X.1 X.2.1 dX2_decideProtest_49 (by decide) ?_
        refine x_callVv X hK hw (k := (b + 9)) (As := [.int x, .int (nI 3), .int (nI 4)]) (rest := []) (k_X6_put hI ((b + 9)) 4 40 ((t 4)) x (nI 3) (nI 4) (by omega) (by omega) hF.2.2.2.2.2) (x_cwV yX6_put cX6_put 5 none 3 X q426 q54 q55 q3 q56 hd_X6_put ⟨Nat.le_of_ble_eq_true rfl, Nat.le_of_ble_eq_true rfl⟩) (by omega) hF.2.2.2.2.2.1 rfl rfl hl.1 rfl (Nat.le_of_ble_eq_true rfl) dX2_decideProtest_50 ⟨Nat.le_of_ble_eq_true rfl, Nat.le_of_ble_eq_true rfl⟩ (fun F4 H locs hp hw => ?_)
        obtain ⟨hT5, hr6⟩ := hp
        have hF7 := hF.tb4 hT5 hr6
        have hq8 := (hr6 _ (by omega)).trans hQ
        replace hfr := hfr.tr hr6 (by omega) (by omega)
        refine lv_iload_n X.1 X.2.1 dX2_decideProtest_53 rfl (lv_at hl 2 rfl) ?_
        refine lv_if_eq (tgt := 78) X.1 X.2.1 dX2_decideProtest_54 (by decide) (fun c9 => ?_) (fun c9 => ?_)
        · refine lv_aload_n X.1 X.2.1 dX2_decideProtest_78 rfl (lv_at hl 0 rfl) ?_
          refine x_get X hK hw (C := RX2) (T := TX2) (nf := 1) (k := q) (by omega) hq8 rfl inX2 0 (by decide) q129 (fun _ h9 => h9) rfl dX2_decideProtest_79 ?_
          refine lv_aload_n X.1 X.2.1 dX2_decideProtest_82 rfl (lv_at hl 0 rfl) ?_
          refine x_get X hK hw (C := RX2) (T := TX2) (nf := 1) (k := q) (by omega) hq8 rfl inX2 0 (by decide) q129 (fun _ h9 => h9) rfl dX2_decideProtest_83 ?_
          refine x_callVP X hK hw (k := b) (As := []) (rest := [.ref (ad b)]) (k_X5_latestRace hI b g ((va_up t 4 (tp 4 40 ((t 4)) x (nI 3) (nI 4)))) (by omega) hF7) (x_cwV yX5_latestRace cX5_latestRace 1 (some .int) 0 X q461 q298 q299 q2 q300 hd_X5_latestRace ⟨Nat.le_of_ble_eq_true rfl, Nat.le_of_ble_eq_true rfl⟩) (by omega) hF7.1 rfl rfl hl.1 rfl (Nat.le_of_ble_eq_true rfl) dX2_decideProtest_86 ⟨Nat.le_of_ble_eq_true rfl, Nat.le_of_ble_eq_true rfl⟩ (fun H locs hw => ?_)
          refine lv_iconst (v := nI 4) X.1 X.2.1 dX2_decideProtest_89 (by decide) ?_
          refine lv_iconst (v := nI 1) X.1 X.2.1 dX2_decideProtest_90 (by decide) ?_
          refine x_callVP X hK hw (k := b) (As := [.int (g 2 - nI 1), .int (nI 4), .int (nI 1)]) (rest := []) (k_X5_entriesWith hI b g ((va_up t 4 (tp 4 40 ((t 4)) x (nI 3) (nI 4)))) (g 2 - nI 1) (nI 4) (nI 1) nb (by omega) hF7 hg hnb) (x_cwV yX5_entriesWith cX5_entriesWith 6 (some .int) 3 X q462 q408 q409 q2 q410 hd_X5_entriesWith ⟨Nat.le_of_ble_eq_true rfl, Nat.le_of_ble_eq_true rfl⟩) (by omega) hF7.1 rfl rfl hl.1 rfl (Nat.le_of_ble_eq_true rfl) dX2_decideProtest_91 ⟨Nat.le_of_ble_eq_true rfl, Nat.le_of_ble_eq_true rfl⟩ (fun H locs hw => ?_)
          exact x_iret X hr hlk hK hw (v := c_cnt ((va_up t 4 (tp 4 40 ((t 4)) x (nI 3) (nI 4)))) (g 2 - nI 1) (nI 4) (nI 1) nb) rfl (auto_st (by rw [s_X2_decideProtest, if_pos c1, if_pos c2, if_pos c3, if_pos c9] : s_X2_decideProtest g t x y nb = (c_cnt ((va_up t 4 (tp 4 40 ((t 4)) x (nI 3) (nI 4)))) (g 2 - nI 1) (nI 4) (nI 1) nb, g, (va_up t 4 (tp 4 40 ((t 4)) x (nI 3) (nI 4))))) hF7 hfr) dX2_decideProtest_94
        · refine lv_aload_n X.1 X.2.1 dX2_decideProtest_57 rfl (lv_at hl 0 rfl) ?_
          refine x_get X hK hw (C := RX2) (T := TX2) (nf := 1) (k := q) (by omega) hq8 rfl inX2 0 (by decide) q129 (fun _ h9 => h9) rfl dX2_decideProtest_58 ?_
          refine lv_aload_n X.1 X.2.1 dX2_decideProtest_61 rfl (lv_at hl 0 rfl) ?_
          refine x_get X hK hw (C := RX2) (T := TX2) (nf := 1) (k := q) (by omega) hq8 rfl inX2 0 (by decide) q129 (fun _ h9 => h9) rfl dX2_decideProtest_62 ?_
          refine x_get X hK hw (C := RX5) (T := TX5) (nf := 10) (k := b) (by omega) hF7.1 rfl inX5 9 (by decide) q90 (fun _ h9 => h9) rfl dX2_decideProtest_65 ?_
          refine lv_iload_n X.1 X.2.1 dX2_decideProtest_68 rfl (lv_at hl 1 rfl) ?_
          refine lv_iconst (v := nI 1) X.1 X.2.1 dX2_decideProtest_69 (by decide) ?_
          refine x_callVP X hK hw (k := (b + 9)) (As := [.int x, .int (nI 1)]) (rest := [.ref (ad b)]) (k_X6_get hI ((b + 9)) 4 40 (((va_up t 4 (tp 4 40 ((t 4)) x (nI 3) (nI 4))) 4)) x (nI 1) (by omega) (by omega) hF7.2.2.2.2.2) (x_cwV yX6_get cX6_get 4 (some .int) 2 X q439 q327 q328 q3 q329 hd_X6_get ⟨Nat.le_of_ble_eq_true rfl, Nat.le_of_ble_eq_true rfl⟩) (by omega) hF7.2.2.2.2.2.1 rfl rfl hl.1 rfl (Nat.le_of_ble_eq_true rfl) dX2_decideProtest_70 ⟨Nat.le_of_ble_eq_true rfl, Nat.le_of_ble_eq_true rfl⟩ (fun H locs hw => ?_)
          refine lv_iconst (v := nI 4) X.1 X.2.1 dX2_decideProtest_73 (by decide) ?_
          refine lv_iconst (v := nI 1) X.1 X.2.1 dX2_decideProtest_74 (by decide) ?_
          refine x_callVv X hK hw (k := b) (As := [.int (tg 4 40 (((va_up t 4 (tp 4 40 ((t 4)) x (nI 3) (nI 4))) 4)) x (nI 1)), .int (nI 4), .int (nI 1)]) (rest := []) (k_X5_putLatestEntry hI b g ((va_up t 4 (tp 4 40 ((t 4)) x (nI 3) (nI 4)))) (tg 4 40 (((va_up t 4 (tp 4 40 ((t 4)) x (nI 3) (nI 4))) 4)) x (nI 1)) (nI 4) (nI 1) (by omega) hF7) (x_cwV yX5_putLatestEntry cX5_putLatestEntry 4 none 3 X q452 q380 q381 q2 q382 hd_X5_putLatestEntry ⟨Nat.le_of_ble_eq_true rfl, Nat.le_of_ble_eq_true rfl⟩) (by omega) hF7.1 rfl rfl hl.1 rfl (Nat.le_of_ble_eq_true rfl) dX2_decideProtest_75 ⟨Nat.le_of_ble_eq_true rfl, Nat.le_of_ble_eq_true rfl⟩ (fun F10 H locs hp hw => ?_)
          obtain ⟨hF11, hr12⟩ := hp
          have hq13 := (hr12 _ (by omega)).trans hq8
          replace hfr := hfr.tr hr12 (by omega) (by omega)
          refine lv_aload_n X.1 X.2.1 dX2_decideProtest_78 rfl (lv_at hl 0 rfl) ?_
          refine x_get X hK hw (C := RX2) (T := TX2) (nf := 1) (k := q) (by omega) hq13 rfl inX2 0 (by decide) q129 (fun _ h9 => h9) rfl dX2_decideProtest_79 ?_
          refine lv_aload_n X.1 X.2.1 dX2_decideProtest_82 rfl (lv_at hl 0 rfl) ?_
          refine x_get X hK hw (C := RX2) (T := TX2) (nf := 1) (k := q) (by omega) hq13 rfl inX2 0 (by decide) q129 (fun _ h9 => h9) rfl dX2_decideProtest_83 ?_
          refine x_callVP X hK hw (k := b) (As := []) (rest := [.ref (ad b)]) (k_X5_latestRace hI b ((g)) ((c_pl g ((va_up t 4 (tp 4 40 ((t 4)) x (nI 3) (nI 4)))) (tg 4 40 (((va_up t 4 (tp 4 40 ((t 4)) x (nI 3) (nI 4))) 4)) x (nI 1)) (nI 4) (nI 1))) (by omega) hF11) (x_cwV yX5_latestRace cX5_latestRace 1 (some .int) 0 X q461 q298 q299 q2 q300 hd_X5_latestRace ⟨Nat.le_of_ble_eq_true rfl, Nat.le_of_ble_eq_true rfl⟩) (by omega) hF11.1 rfl rfl hl.1 rfl (Nat.le_of_ble_eq_true rfl) dX2_decideProtest_86 ⟨Nat.le_of_ble_eq_true rfl, Nat.le_of_ble_eq_true rfl⟩ (fun H locs hw => ?_)
          refine lv_iconst (v := nI 4) X.1 X.2.1 dX2_decideProtest_89 (by decide) ?_
          refine lv_iconst (v := nI 1) X.1 X.2.1 dX2_decideProtest_90 (by decide) ?_
          refine x_callVP X hK hw (k := b) (As := [.int (((g)) 2 - nI 1), .int (nI 4), .int (nI 1)]) (rest := []) (k_X5_entriesWith hI b ((g)) ((c_pl g ((va_up t 4 (tp 4 40 ((t 4)) x (nI 3) (nI 4)))) (tg 4 40 (((va_up t 4 (tp 4 40 ((t 4)) x (nI 3) (nI 4))) 4)) x (nI 1)) (nI 4) (nI 1))) (((g)) 2 - nI 1) (nI 4) (nI 1) nb (by omega) hF11 hg hnb) (x_cwV yX5_entriesWith cX5_entriesWith 6 (some .int) 3 X q462 q408 q409 q2 q410 hd_X5_entriesWith ⟨Nat.le_of_ble_eq_true rfl, Nat.le_of_ble_eq_true rfl⟩) (by omega) hF11.1 rfl rfl hl.1 rfl (Nat.le_of_ble_eq_true rfl) dX2_decideProtest_91 ⟨Nat.le_of_ble_eq_true rfl, Nat.le_of_ble_eq_true rfl⟩ (fun H locs hw => ?_)
          exact x_iret X hr hlk hK hw (v := c_cnt ((c_pl g ((va_up t 4 (tp 4 40 ((t 4)) x (nI 3) (nI 4)))) (tg 4 40 (((va_up t 4 (tp 4 40 ((t 4)) x (nI 3) (nI 4))) 4)) x (nI 1)) (nI 4) (nI 1))) (((g)) 2 - nI 1) (nI 4) (nI 1) nb) rfl (auto_st (by rw [s_X2_decideProtest, if_pos c1, if_pos c2, if_pos c3, if_neg c9] : s_X2_decideProtest g t x y nb = (c_cnt ((c_pl g ((va_up t 4 (tp 4 40 ((t 4)) x (nI 3) (nI 4)))) (tg 4 40 (((va_up t 4 (tp 4 40 ((t 4)) x (nI 3) (nI 4))) 4)) x (nI 1)) (nI 4) (nI 1))) (((g)) 2 - nI 1) (nI 4) (nI 1) nb, (g), (c_pl g ((va_up t 4 (tp 4 40 ((t 4)) x (nI 3) (nI 4)))) (tg 4 40 (((va_up t 4 (tp 4 40 ((t 4)) x (nI 3) (nI 4))) 4)) x (nI 1)) (nI 4) (nI 1)))) hF11 hfr) dX2_decideProtest_94
      · refine lv_iconst (v := nI 3) X.1 X.2.1 dX2_decideProtest_45 (by decide) ?_
        refine lv_goto (tgt := 50) X.1 X.2.1 dX2_decideProtest_46 (by decide) ?_
        refine x_callVv X hK hw (k := (b + 9)) (As := [.int x, .int (nI 3), .int (nI 3)]) (rest := []) (k_X6_put hI ((b + 9)) 4 40 ((t 4)) x (nI 3) (nI 3) (by omega) (by omega) hF.2.2.2.2.2) (x_cwV yX6_put cX6_put 5 none 3 X q426 q54 q55 q3 q56 hd_X6_put ⟨Nat.le_of_ble_eq_true rfl, Nat.le_of_ble_eq_true rfl⟩) (by omega) hF.2.2.2.2.2.1 rfl rfl hl.1 rfl (Nat.le_of_ble_eq_true rfl) dX2_decideProtest_50 ⟨Nat.le_of_ble_eq_true rfl, Nat.le_of_ble_eq_true rfl⟩ (fun F14 H locs hp hw => ?_)
        obtain ⟨hT15, hr16⟩ := hp
        have hF17 := hF.tb4 hT15 hr16
        have hq18 := (hr16 _ (by omega)).trans hQ
        replace hfr := hfr.tr hr16 (by omega) (by omega)
        refine lv_iload_n X.1 X.2.1 dX2_decideProtest_53 rfl (lv_at hl 2 rfl) ?_
        refine lv_if_eq (tgt := 78) X.1 X.2.1 dX2_decideProtest_54 (by decide) (fun c19 => ?_) (fun c19 => ?_)
        · refine lv_aload_n X.1 X.2.1 dX2_decideProtest_78 rfl (lv_at hl 0 rfl) ?_
          refine x_get X hK hw (C := RX2) (T := TX2) (nf := 1) (k := q) (by omega) hq18 rfl inX2 0 (by decide) q129 (fun _ h9 => h9) rfl dX2_decideProtest_79 ?_
          refine lv_aload_n X.1 X.2.1 dX2_decideProtest_82 rfl (lv_at hl 0 rfl) ?_
          refine x_get X hK hw (C := RX2) (T := TX2) (nf := 1) (k := q) (by omega) hq18 rfl inX2 0 (by decide) q129 (fun _ h9 => h9) rfl dX2_decideProtest_83 ?_
          refine x_callVP X hK hw (k := b) (As := []) (rest := [.ref (ad b)]) (k_X5_latestRace hI b g ((va_up t 4 (tp 4 40 ((t 4)) x (nI 3) (nI 3)))) (by omega) hF17) (x_cwV yX5_latestRace cX5_latestRace 1 (some .int) 0 X q461 q298 q299 q2 q300 hd_X5_latestRace ⟨Nat.le_of_ble_eq_true rfl, Nat.le_of_ble_eq_true rfl⟩) (by omega) hF17.1 rfl rfl hl.1 rfl (Nat.le_of_ble_eq_true rfl) dX2_decideProtest_86 ⟨Nat.le_of_ble_eq_true rfl, Nat.le_of_ble_eq_true rfl⟩ (fun H locs hw => ?_)
          refine lv_iconst (v := nI 4) X.1 X.2.1 dX2_decideProtest_89 (by decide) ?_
          refine lv_iconst (v := nI 1) X.1 X.2.1 dX2_decideProtest_90 (by decide) ?_
          refine x_callVP X hK hw (k := b) (As := [.int (g 2 - nI 1), .int (nI 4), .int (nI 1)]) (rest := []) (k_X5_entriesWith hI b g ((va_up t 4 (tp 4 40 ((t 4)) x (nI 3) (nI 3)))) (g 2 - nI 1) (nI 4) (nI 1) nb (by omega) hF17 hg hnb) (x_cwV yX5_entriesWith cX5_entriesWith 6 (some .int) 3 X q462 q408 q409 q2 q410 hd_X5_entriesWith ⟨Nat.le_of_ble_eq_true rfl, Nat.le_of_ble_eq_true rfl⟩) (by omega) hF17.1 rfl rfl hl.1 rfl (Nat.le_of_ble_eq_true rfl) dX2_decideProtest_91 ⟨Nat.le_of_ble_eq_true rfl, Nat.le_of_ble_eq_true rfl⟩ (fun H locs hw => ?_)
          exact x_iret X hr hlk hK hw (v := c_cnt ((va_up t 4 (tp 4 40 ((t 4)) x (nI 3) (nI 3)))) (g 2 - nI 1) (nI 4) (nI 1) nb) rfl (auto_st (by rw [s_X2_decideProtest, if_pos c1, if_pos c2, if_neg c3, if_pos c19] : s_X2_decideProtest g t x y nb = (c_cnt ((va_up t 4 (tp 4 40 ((t 4)) x (nI 3) (nI 3)))) (g 2 - nI 1) (nI 4) (nI 1) nb, g, (va_up t 4 (tp 4 40 ((t 4)) x (nI 3) (nI 3))))) hF17 hfr) dX2_decideProtest_94
        · refine lv_aload_n X.1 X.2.1 dX2_decideProtest_57 rfl (lv_at hl 0 rfl) ?_
          refine x_get X hK hw (C := RX2) (T := TX2) (nf := 1) (k := q) (by omega) hq18 rfl inX2 0 (by decide) q129 (fun _ h9 => h9) rfl dX2_decideProtest_58 ?_
          refine lv_aload_n X.1 X.2.1 dX2_decideProtest_61 rfl (lv_at hl 0 rfl) ?_
          refine x_get X hK hw (C := RX2) (T := TX2) (nf := 1) (k := q) (by omega) hq18 rfl inX2 0 (by decide) q129 (fun _ h9 => h9) rfl dX2_decideProtest_62 ?_
          refine x_get X hK hw (C := RX5) (T := TX5) (nf := 10) (k := b) (by omega) hF17.1 rfl inX5 9 (by decide) q90 (fun _ h9 => h9) rfl dX2_decideProtest_65 ?_
          refine lv_iload_n X.1 X.2.1 dX2_decideProtest_68 rfl (lv_at hl 1 rfl) ?_
          refine lv_iconst (v := nI 1) X.1 X.2.1 dX2_decideProtest_69 (by decide) ?_
          refine x_callVP X hK hw (k := (b + 9)) (As := [.int x, .int (nI 1)]) (rest := [.ref (ad b)]) (k_X6_get hI ((b + 9)) 4 40 (((va_up t 4 (tp 4 40 ((t 4)) x (nI 3) (nI 3))) 4)) x (nI 1) (by omega) (by omega) hF17.2.2.2.2.2) (x_cwV yX6_get cX6_get 4 (some .int) 2 X q439 q327 q328 q3 q329 hd_X6_get ⟨Nat.le_of_ble_eq_true rfl, Nat.le_of_ble_eq_true rfl⟩) (by omega) hF17.2.2.2.2.2.1 rfl rfl hl.1 rfl (Nat.le_of_ble_eq_true rfl) dX2_decideProtest_70 ⟨Nat.le_of_ble_eq_true rfl, Nat.le_of_ble_eq_true rfl⟩ (fun H locs hw => ?_)
          refine lv_iconst (v := nI 4) X.1 X.2.1 dX2_decideProtest_73 (by decide) ?_
          refine lv_iconst (v := nI 1) X.1 X.2.1 dX2_decideProtest_74 (by decide) ?_
          refine x_callVv X hK hw (k := b) (As := [.int (tg 4 40 (((va_up t 4 (tp 4 40 ((t 4)) x (nI 3) (nI 3))) 4)) x (nI 1)), .int (nI 4), .int (nI 1)]) (rest := []) (k_X5_putLatestEntry hI b g ((va_up t 4 (tp 4 40 ((t 4)) x (nI 3) (nI 3)))) (tg 4 40 (((va_up t 4 (tp 4 40 ((t 4)) x (nI 3) (nI 3))) 4)) x (nI 1)) (nI 4) (nI 1) (by omega) hF17) (x_cwV yX5_putLatestEntry cX5_putLatestEntry 4 none 3 X q452 q380 q381 q2 q382 hd_X5_putLatestEntry ⟨Nat.le_of_ble_eq_true rfl, Nat.le_of_ble_eq_true rfl⟩) (by omega) hF17.1 rfl rfl hl.1 rfl (Nat.le_of_ble_eq_true rfl) dX2_decideProtest_75 ⟨Nat.le_of_ble_eq_true rfl, Nat.le_of_ble_eq_true rfl⟩ (fun F20 H locs hp hw => ?_)
          obtain ⟨hF21, hr22⟩ := hp
          have hq23 := (hr22 _ (by omega)).trans hq18
          replace hfr := hfr.tr hr22 (by omega) (by omega)
          refine lv_aload_n X.1 X.2.1 dX2_decideProtest_78 rfl (lv_at hl 0 rfl) ?_
          refine x_get X hK hw (C := RX2) (T := TX2) (nf := 1) (k := q) (by omega) hq23 rfl inX2 0 (by decide) q129 (fun _ h9 => h9) rfl dX2_decideProtest_79 ?_
          refine lv_aload_n X.1 X.2.1 dX2_decideProtest_82 rfl (lv_at hl 0 rfl) ?_
          refine x_get X hK hw (C := RX2) (T := TX2) (nf := 1) (k := q) (by omega) hq23 rfl inX2 0 (by decide) q129 (fun _ h9 => h9) rfl dX2_decideProtest_83 ?_
          refine x_callVP X hK hw (k := b) (As := []) (rest := [.ref (ad b)]) (k_X5_latestRace hI b ((g)) ((c_pl g ((va_up t 4 (tp 4 40 ((t 4)) x (nI 3) (nI 3)))) (tg 4 40 (((va_up t 4 (tp 4 40 ((t 4)) x (nI 3) (nI 3))) 4)) x (nI 1)) (nI 4) (nI 1))) (by omega) hF21) (x_cwV yX5_latestRace cX5_latestRace 1 (some .int) 0 X q461 q298 q299 q2 q300 hd_X5_latestRace ⟨Nat.le_of_ble_eq_true rfl, Nat.le_of_ble_eq_true rfl⟩) (by omega) hF21.1 rfl rfl hl.1 rfl (Nat.le_of_ble_eq_true rfl) dX2_decideProtest_86 ⟨Nat.le_of_ble_eq_true rfl, Nat.le_of_ble_eq_true rfl⟩ (fun H locs hw => ?_)
          refine lv_iconst (v := nI 4) X.1 X.2.1 dX2_decideProtest_89 (by decide) ?_
          refine lv_iconst (v := nI 1) X.1 X.2.1 dX2_decideProtest_90 (by decide) ?_
          refine x_callVP X hK hw (k := b) (As := [.int (((g)) 2 - nI 1), .int (nI 4), .int (nI 1)]) (rest := []) (k_X5_entriesWith hI b ((g)) ((c_pl g ((va_up t 4 (tp 4 40 ((t 4)) x (nI 3) (nI 3)))) (tg 4 40 (((va_up t 4 (tp 4 40 ((t 4)) x (nI 3) (nI 3))) 4)) x (nI 1)) (nI 4) (nI 1))) (((g)) 2 - nI 1) (nI 4) (nI 1) nb (by omega) hF21 hg hnb) (x_cwV yX5_entriesWith cX5_entriesWith 6 (some .int) 3 X q462 q408 q409 q2 q410 hd_X5_entriesWith ⟨Nat.le_of_ble_eq_true rfl, Nat.le_of_ble_eq_true rfl⟩) (by omega) hF21.1 rfl rfl hl.1 rfl (Nat.le_of_ble_eq_true rfl) dX2_decideProtest_91 ⟨Nat.le_of_ble_eq_true rfl, Nat.le_of_ble_eq_true rfl⟩ (fun H locs hw => ?_)
          exact x_iret X hr hlk hK hw (v := c_cnt ((c_pl g ((va_up t 4 (tp 4 40 ((t 4)) x (nI 3) (nI 3)))) (tg 4 40 (((va_up t 4 (tp 4 40 ((t 4)) x (nI 3) (nI 3))) 4)) x (nI 1)) (nI 4) (nI 1))) (((g)) 2 - nI 1) (nI 4) (nI 1) nb) rfl (auto_st (by rw [s_X2_decideProtest, if_pos c1, if_pos c2, if_neg c3, if_neg c19] : s_X2_decideProtest g t x y nb = (c_cnt ((c_pl g ((va_up t 4 (tp 4 40 ((t 4)) x (nI 3) (nI 3)))) (tg 4 40 (((va_up t 4 (tp 4 40 ((t 4)) x (nI 3) (nI 3))) 4)) x (nI 1)) (nI 4) (nI 1))) (((g)) 2 - nI 1) (nI 4) (nI 1) nb, (g), (c_pl g ((va_up t 4 (tp 4 40 ((t 4)) x (nI 3) (nI 3)))) (tg 4 40 (((va_up t 4 (tp 4 40 ((t 4)) x (nI 3) (nI 3))) 4)) x (nI 1)) (nI 4) (nI 1)))) hF21 hfr) dX2_decideProtest_94
    · refine lv_bipush (v := (-4)) X.1 X.2.1 dX2_decideProtest_29 (by decide) ?_
      exact x_iret X hr hlk hK hw (v := (-4)) rfl (auto_st (by rw [s_X2_decideProtest, if_pos c1, if_neg c2] : s_X2_decideProtest g t x y nb = ((-4), g, t)) hF hfr) dX2_decideProtest_31
  · replace c1 := bI_z c1
    refine lv_iconst (v := (-1)) X.1 X.2.1 dX2_decideProtest_11 (by decide) ?_
    exact x_iret X hr hlk hK hw (v := (-1)) rfl (auto_st (by rw [s_X2_decideProtest, if_neg c1] : s_X2_decideProtest g t x y nb = ((-1), g, t)) hF hfr) dX2_decideProtest_12
