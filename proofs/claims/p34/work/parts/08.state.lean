theorem st_5 {ad : Nat → Nat} {cI : ClassId} {F : Nat → va_E} {b : Nat} {g g2 : Nat → Int32} {t t2 : Nat → Nat → Int32} (h : StF ad cI F b (va_up (va_up (va_up (va_up (va_up g 0 (g2 0)) 1 (g2 1)) 2 (g2 2)) 3 (g2 3)) 4 (g2 4)) (va_up (va_up (va_up (va_up (va_up t 0 (t2 0)) 1 (t2 1)) 2 (t2 2)) 3 (t2 3)) 4 (t2 4))) : StF ad cI F b g2 t2 := h
set_option maxHeartbeats 4000000 in
set_option maxRecDepth 100000 in
theorem k_X6_copyFrom {l : Launch} {D : va_G} {cI cB cS : ClassId} {ad : Nat → Nat} {N : Nat} {F : Nat → va_E} (hI : iN ad N) (k : Nat) (k2 : Nat) (cc : Nat) (nn : Nat) (f : Nat → Int32) (f2 : Nat → Int32) (hk : k + 2 ≤ N) (hk2 : k2 + 2 ≤ N) (hn : nn < 2 ^ 31) (hT : TbF ad cI F k cc nn f) (hT2 : TbF ad cI F k2 cc nn f2) : Cv l D cI cB cS ad N yX6_copyFrom cX6_copyFrom 3 1 60 [.ref (ad k), .ref (ad k2)] F (fun F' => TbF ad cI F' k cc nn f2 ∧ Fr F F' k (k + 2)) := by
  refine x_metv (by decide +kernel) (Nat.le_of_ble_eq_true rfl) ?_
  intro p e s m below meth c X hr hlk hK hw ls hl
  replace hl : lv_has ls 3 [(0, .ref (ad k)), (1, .ref (ad k2))] := hl
  refine lv_aload_n X.1 X.2.1 dX6_copyFrom_0 rfl (lv_at hl 0 rfl) ?_
  refine x_get X hK hw (C := RX6) (T := TX6) (nf := 2) (k := k) (by omega) hT.1 rfl inX6 1 (by decide) q44 (fun _ h9 => h9) rfl dX6_copyFrom_1 ?_
  refine x_alen X hK hw (k := (k + 1)) (by omega) hT.2 (v := nI nn) rfl dX6_copyFrom_4 ?_
  refine lv_aload_n X.1 X.2.1 dX6_copyFrom_5 rfl (lv_at hl 1 rfl) ?_
  refine x_get X hK hw (C := RX6) (T := TX6) (nf := 2) (k := k2) (by omega) hT2.1 rfl inX6 1 (by decide) q44 (fun _ h9 => h9) rfl dX6_copyFrom_6 ?_
  refine x_alen X hK hw (k := (k2 + 1)) (by omega) hT2.2 (v := nI nn) rfl dX6_copyFrom_9 ?_
  refine x_min X hl.1 (rest := []) q265 (Nat.le_of_ble_eq_true rfl) (Nat.le_of_ble_eq_true rfl) (Nat.le_of_ble_eq_true rfl) (Nat.le_of_ble_eq_true rfl) dX6_copyFrom_10 ?_
  refine x_top (y := nI nn) (by simp) ?_
  refine lv_istore_n (lv' := [(2, .int (nI nn)), (0, .ref (ad k)), (1, .ref (ad k2))]) X.1 X.2.1 dX6_copyFrom_13 rfl hl (by decide) rfl (fun ls hl => ?_)
  refine lv_aload_n X.1 X.2.1 dX6_copyFrom_14 rfl (lv_at hl 2 rfl) ?_
  refine x_get X hK hw (C := RX6) (T := TX6) (nf := 2) (k := k2) (by omega) hT2.1 rfl inX6 1 (by decide) q44 (fun _ h9 => h9) rfl dX6_copyFrom_15 ?_
  refine lv_iconst (v := nI 0) X.1 X.2.1 dX6_copyFrom_18 (by decide) ?_
  refine lv_aload_n X.1 X.2.1 dX6_copyFrom_19 rfl (lv_at hl 1 rfl) ?_
  refine x_get X hK hw (C := RX6) (T := TX6) (nf := 2) (k := k) (by omega) hT.1 rfl inX6 1 (by decide) q44 (fun _ h9 => h9) rfl dX6_copyFrom_20 ?_
  refine lv_iconst (v := nI 0) X.1 X.2.1 dX6_copyFrom_23 (by decide) ?_
  refine lv_iload_n X.1 X.2.1 dX6_copyFrom_24 rfl (lv_at hl 0 rfl) ?_
  refine x_copy X hI hK hw hl.1 (rest := []) (k0 := k2 + 1) (k1 := k + 1) (by omega) (by omega) hT2.2 hT.2 hn q268 (Nat.le_of_ble_eq_true rfl) (Nat.le_of_ble_eq_true (by decide +kernel)) dX6_copyFrom_25 (fun F1 H locs eF hw => ?_)
  exact x_vret X hr hlk hK hw (⟨by rw [eF]; exact tb_up hT, fr_eq eF (by omega) (by omega)⟩) dX6_copyFrom_28
set_option maxHeartbeats 4000000 in
set_option maxRecDepth 100000 in
theorem k_X5_hasBoat {l : Launch} {D : va_G} {cI cB cS : ClassId} {ad : Nat → Nat} {N : Nat} {F : Nat → va_E} (hI : iN ad N) (b : Nat) (g : Nat → Int32) (t : Nat → Nat → Int32) (x : Int32) (hb : b + 11 ≤ N) (hF : StF ad cI F b g t) : Ci l D cI cB cS ad N yX5_hasBoat cX5_hasBoat 2 (some .boolean) 0 0 [.ref (ad b), .int x] F (pP (bI (decide (¬ x < 0 ∧ ¬ g 1 ≤ x))) F) := by
  refine x_met (by decide +kernel) (Nat.le_of_ble_eq_true rfl) ?_
  intro p e s m below meth c X hr hlk hK hw ls hl
  replace hl : lv_has ls 2 [(0, .ref (ad b)), (1, .int x)] := hl
  refine lv_iload_n X.1 X.2.1 dX5_hasBoat_0 rfl (lv_at hl 1 rfl) ?_
  refine lv_if_lt (tgt := 16) X.1 X.2.1 dX5_hasBoat_1 (by decide) (fun c1 => ?_) (fun c1 => ?_)
  · refine lv_iconst (v := nI 0) X.1 X.2.1 dX5_hasBoat_16 (by decide) ?_
    exact x_iret X hr hlk hK hw (v := nI 0) (by first | rfl | exact nr_b _ | decide) (⟨by simp [bI, c1], rfl⟩) dX5_hasBoat_17
  · refine lv_iload_n X.1 X.2.1 dX5_hasBoat_4 rfl (lv_at hl 1 rfl) ?_
    refine lv_aload_n X.1 X.2.1 dX5_hasBoat_5 rfl (lv_at hl 0 rfl) ?_
    refine x_get X hK hw (C := RX5) (T := TX5) (nf := 10) (k := b) (by omega) hF.1 rfl inX5 1 (by decide) q63 (fun _ h9 => h9) rfl dX5_hasBoat_6 ?_
    refine lv_icmp_ge (tgt := 16) X.1 X.2.1 dX5_hasBoat_9 (by decide) (fun c2 => ?_) (fun c2 => ?_)
    · refine lv_iconst (v := nI 0) X.1 X.2.1 dX5_hasBoat_16 (by decide) ?_
      exact x_iret X hr hlk hK hw (v := nI 0) (by first | rfl | exact nr_b _ | decide) (⟨by simp [bI, c1, c2], rfl⟩) dX5_hasBoat_17
    · refine lv_iconst (v := nI 1) X.1 X.2.1 dX5_hasBoat_12 (by decide) ?_
      refine lv_goto (tgt := 17) X.1 X.2.1 dX5_hasBoat_13 (by decide) ?_
      exact x_iret X hr hlk hK hw (v := nI 1) (by first | rfl | exact nr_b _ | decide) (⟨by simp [bI, c1, c2], rfl⟩) dX5_hasBoat_17
set_option maxHeartbeats 4000000 in
set_option maxRecDepth 100000 in
theorem k_X5_hasRace {l : Launch} {D : va_G} {cI cB cS : ClassId} {ad : Nat → Nat} {N : Nat} {F : Nat → va_E} (hI : iN ad N) (b : Nat) (g : Nat → Int32) (t : Nat → Nat → Int32) (x : Int32) (hb : b + 11 ≤ N) (hF : StF ad cI F b g t) : Ci l D cI cB cS ad N yX5_hasRace cX5_hasRace 2 (some .boolean) 0 0 [.ref (ad b), .int x] F (pP (bI (decide (¬ x < 0 ∧ ¬ g 2 ≤ x))) F) := by
  refine x_met (by decide +kernel) (Nat.le_of_ble_eq_true rfl) ?_
  intro p e s m below meth c X hr hlk hK hw ls hl
  replace hl : lv_has ls 2 [(0, .ref (ad b)), (1, .int x)] := hl
  refine lv_iload_n X.1 X.2.1 dX5_hasRace_0 rfl (lv_at hl 1 rfl) ?_
  refine lv_if_lt (tgt := 16) X.1 X.2.1 dX5_hasRace_1 (by decide) (fun c1 => ?_) (fun c1 => ?_)
  · refine lv_iconst (v := nI 0) X.1 X.2.1 dX5_hasRace_16 (by decide) ?_
    exact x_iret X hr hlk hK hw (v := nI 0) (by first | rfl | exact nr_b _ | decide) (⟨by simp [bI, c1], rfl⟩) dX5_hasRace_17
  · refine lv_iload_n X.1 X.2.1 dX5_hasRace_4 rfl (lv_at hl 1 rfl) ?_
    refine lv_aload_n X.1 X.2.1 dX5_hasRace_5 rfl (lv_at hl 0 rfl) ?_
    refine x_get X hK hw (C := RX5) (T := TX5) (nf := 10) (k := b) (by omega) hF.1 rfl inX5 2 (by decide) q66 (fun _ h9 => h9) rfl dX5_hasRace_6 ?_
    refine lv_icmp_ge (tgt := 16) X.1 X.2.1 dX5_hasRace_9 (by decide) (fun c2 => ?_) (fun c2 => ?_)
    · refine lv_iconst (v := nI 0) X.1 X.2.1 dX5_hasRace_16 (by decide) ?_
      exact x_iret X hr hlk hK hw (v := nI 0) (by first | rfl | exact nr_b _ | decide) (⟨by simp [bI, c1, c2], rfl⟩) dX5_hasRace_17
    · refine lv_iconst (v := nI 1) X.1 X.2.1 dX5_hasRace_12 (by decide) ?_
      refine lv_goto (tgt := 17) X.1 X.2.1 dX5_hasRace_13 (by decide) ?_
      exact x_iret X hr hlk hK hw (v := nI 1) (by first | rfl | exact nr_b _ | decide) (⟨by simp [bI, c1, c2], rfl⟩) dX5_hasRace_17
set_option maxHeartbeats 4000000 in
set_option maxRecDepth 100000 in
theorem k_X5_hasProtest {l : Launch} {D : va_G} {cI cB cS : ClassId} {ad : Nat → Nat} {N : Nat} {F : Nat → va_E} (hI : iN ad N) (b : Nat) (g : Nat → Int32) (t : Nat → Nat → Int32) (x : Int32) (hb : b + 11 ≤ N) (hF : StF ad cI F b g t) : Ci l D cI cB cS ad N yX5_hasProtest cX5_hasProtest 2 (some .boolean) 0 0 [.ref (ad b), .int x] F (pP (bI (decide (¬ x < 0 ∧ ¬ g 4 ≤ x))) F) := by
  refine x_met (by decide +kernel) (Nat.le_of_ble_eq_true rfl) ?_
  intro p e s m below meth c X hr hlk hK hw ls hl
  replace hl : lv_has ls 2 [(0, .ref (ad b)), (1, .int x)] := hl
  refine lv_iload_n X.1 X.2.1 dX5_hasProtest_0 rfl (lv_at hl 1 rfl) ?_
  refine lv_if_lt (tgt := 16) X.1 X.2.1 dX5_hasProtest_1 (by decide) (fun c1 => ?_) (fun c1 => ?_)
  · refine lv_iconst (v := nI 0) X.1 X.2.1 dX5_hasProtest_16 (by decide) ?_
    exact x_iret X hr hlk hK hw (v := nI 0) (by first | rfl | exact nr_b _ | decide) (⟨by simp [bI, c1], rfl⟩) dX5_hasProtest_17
  · refine lv_iload_n X.1 X.2.1 dX5_hasProtest_4 rfl (lv_at hl 1 rfl) ?_
    refine lv_aload_n X.1 X.2.1 dX5_hasProtest_5 rfl (lv_at hl 0 rfl) ?_
    refine x_get X hK hw (C := RX5) (T := TX5) (nf := 10) (k := b) (by omega) hF.1 rfl inX5 4 (by decide) q72 (fun _ h9 => h9) rfl dX5_hasProtest_6 ?_
    refine lv_icmp_ge (tgt := 16) X.1 X.2.1 dX5_hasProtest_9 (by decide) (fun c2 => ?_) (fun c2 => ?_)
    · refine lv_iconst (v := nI 0) X.1 X.2.1 dX5_hasProtest_16 (by decide) ?_
      exact x_iret X hr hlk hK hw (v := nI 0) (by first | rfl | exact nr_b _ | decide) (⟨by simp [bI, c1, c2], rfl⟩) dX5_hasProtest_17
    · refine lv_iconst (v := nI 1) X.1 X.2.1 dX5_hasProtest_12 (by decide) ?_
      refine lv_goto (tgt := 17) X.1 X.2.1 dX5_hasProtest_13 (by decide) ?_
      exact x_iret X hr hlk hK hw (v := nI 1) (by first | rfl | exact nr_b _ | decide) (⟨by simp [bI, c1, c2], rfl⟩) dX5_hasProtest_17
set_option maxHeartbeats 4000000 in
set_option maxRecDepth 100000 in
theorem k_X5_isPrepared {l : Launch} {D : va_G} {cI cB cS : ClassId} {ad : Nat → Nat} {N : Nat} {F : Nat → va_E} (hI : iN ad N) (b : Nat) (g : Nat → Int32) (t : Nat → Nat → Int32) (hb : b + 11 ≤ N) (hF : StF ad cI F b g t) : Ci l D cI cB cS ad N yX5_isPrepared cX5_isPrepared 1 (some .boolean) 0 0 [.ref (ad b)] F (pP (bI (decide (g 3 = nI 1))) F) := by
  refine x_met (by decide +kernel) (Nat.le_of_ble_eq_true rfl) ?_
  intro p e s m below meth c X hr hlk hK hw ls hl
  replace hl : lv_has ls 1 [(0, .ref (ad b))] := hl
  refine lv_aload_n X.1 X.2.1 dX5_isPrepared_0 rfl (lv_at hl 0 rfl) ?_
  refine x_get X hK hw (C := RX5) (T := TX5) (nf := 10) (k := b) (by omega) hF.1 rfl inX5 3 (by decide) q69 (fun _ h9 => h9) rfl dX5_isPrepared_1 ?_
  refine lv_iconst (v := nI 1) X.1 X.2.1 dX5_isPrepared_4 (by decide) ?_
  refine lv_icmp_ne (tgt := 12) X.1 X.2.1 dX5_isPrepared_5 (by decide) (fun c1 => ?_) (fun c1 => ?_)
  · refine lv_iconst (v := nI 0) X.1 X.2.1 dX5_isPrepared_12 (by decide) ?_
    exact x_iret X hr hlk hK hw (v := nI 0) (by first | rfl | exact nr_b _ | decide) (⟨by simp [bI, c1], rfl⟩) dX5_isPrepared_13
  · refine lv_iconst (v := nI 1) X.1 X.2.1 dX5_isPrepared_8 (by decide) ?_
    refine lv_goto (tgt := 13) X.1 X.2.1 dX5_isPrepared_9 (by decide) ?_
    exact x_iret X hr hlk hK hw (v := nI 1) (by first | rfl | exact nr_b _ | decide) (⟨by simp [bI, c1], rfl⟩) dX5_isPrepared_13
set_option maxHeartbeats 4000000 in
set_option maxRecDepth 100000 in
theorem k_X5_closedRaces {l : Launch} {D : va_G} {cI cB cS : ClassId} {ad : Nat → Nat} {N : Nat} {F : Nat → va_E} (hI : iN ad N) (b : Nat) (g : Nat → Int32) (t : Nat → Nat → Int32) (hb : b + 11 ≤ N) (hF : StF ad cI F b g t) : Ci l D cI cB cS ad N yX5_closedRaces cX5_closedRaces 1 (some .int) 0 0 [.ref (ad b)] F (pP (c_cl g) F) := by
  refine x_met (by decide +kernel) (Nat.le_of_ble_eq_true rfl) ?_
  intro p e s m below meth c X hr hlk hK hw ls hl
  replace hl : lv_has ls 1 [(0, .ref (ad b))] := hl
  refine lv_aload_n X.1 X.2.1 dX5_closedRaces_0 rfl (lv_at hl 0 rfl) ?_
  refine x_get X hK hw (C := RX5) (T := TX5) (nf := 10) (k := b) (by omega) hF.1 rfl inX5 3 (by decide) q69 (fun _ h9 => h9) rfl dX5_closedRaces_1 ?_
  refine lv_iconst (v := nI 1) X.1 X.2.1 dX5_closedRaces_4 (by decide) ?_
  refine lv_icmp_ne (tgt := 17) X.1 X.2.1 dX5_closedRaces_5 (by decide) (fun c1 => ?_) (fun c1 => ?_)
  · refine lv_aload_n X.1 X.2.1 dX5_closedRaces_17 rfl (lv_at hl 0 rfl) ?_
    refine x_get X hK hw (C := RX5) (T := TX5) (nf := 10) (k := b) (by omega) hF.1 rfl inX5 2 (by decide) q66 (fun _ h9 => h9) rfl dX5_closedRaces_18 ?_
    exact x_iret X hr hlk hK hw (v := g 2) rfl (⟨by simp [bI, c_cl, c1], rfl⟩) dX5_closedRaces_21
  · refine lv_aload_n X.1 X.2.1 dX5_closedRaces_8 rfl (lv_at hl 0 rfl) ?_
    refine x_get X hK hw (C := RX5) (T := TX5) (nf := 10) (k := b) (by omega) hF.1 rfl inX5 2 (by decide) q66 (fun _ h9 => h9) rfl dX5_closedRaces_9 ?_
    refine lv_iconst (v := nI 1) X.1 X.2.1 dX5_closedRaces_12 (by decide) ?_
    refine lv_isub X.1 X.2.1 dX5_closedRaces_13 ?_
    refine lv_goto (tgt := 21) X.1 X.2.1 dX5_closedRaces_14 (by decide) ?_
    exact x_iret X hr hlk hK hw (v := (g 2) - (nI 1)) rfl (⟨by simp [bI, c_cl, c1], rfl⟩) dX5_closedRaces_21
theorem hd_X5_closedRaces : yX5_closedRaces.cls = RX5 ∧ yX5_closedRaces.cls ≠ "java/lang/invoke/MethodHandle" ∧ yX5_closedRaces.cls ≠ "java/lang/invoke/VarHandle" ∧ (parseMethodDescriptor yX5_closedRaces.desc).map (fun d => d.parameters.length) = some 0 := by decide +kernel
set_option maxHeartbeats 4000000 in
set_option maxRecDepth 100000 in
theorem k_X5_isClosed {l : Launch} {D : va_G} {cI cB cS : ClassId} {ad : Nat → Nat} {N : Nat} {F : Nat → va_E} (hI : iN ad N) (b : Nat) (g : Nat → Int32) (t : Nat → Nat → Int32) (x : Int32) (hb : b + 11 ≤ N) (hF : StF ad cI F b g t) : Ci l D cI cB cS ad N yX5_isClosed cX5_isClosed 2 (some .boolean) 1 20 [.ref (ad b), .int x] F (pP (bI (decide (¬ x < 0 ∧ ¬ c_cl g ≤ x))) F) := by
  refine x_met (by decide +kernel) (Nat.le_of_ble_eq_true rfl) ?_
  intro p e s m below meth c X hr hlk hK hw ls hl
  replace hl : lv_has ls 2 [(0, .ref (ad b)), (1, .int x)] := hl
  refine lv_iload_n X.1 X.2.1 dX5_isClosed_0 rfl (lv_at hl 1 rfl) ?_
  refine lv_if_lt (tgt := 16) X.1 X.2.1 dX5_isClosed_1 (by decide) (fun c1 => ?_) (fun c1 => ?_)
  · refine lv_iconst (v := nI 0) X.1 X.2.1 dX5_isClosed_16 (by decide) ?_
    exact x_iret X hr hlk hK hw (v := nI 0) (by first | rfl | exact nr_b _ | decide) (⟨by simp [bI, c1], rfl⟩) dX5_isClosed_17
  · refine lv_iload_n X.1 X.2.1 dX5_isClosed_4 rfl (lv_at hl 1 rfl) ?_
    refine lv_aload_n X.1 X.2.1 dX5_isClosed_5 rfl (lv_at hl 0 rfl) ?_
    refine x_callVP X hK hw (k := b) (As := []) (rest := [.int x]) (k_X5_closedRaces hI b g t (by omega) hF) (x_cwV yX5_closedRaces cX5_closedRaces 1 (some .int) 0 X q726 q727 q728 q2 q729 hd_X5_closedRaces ⟨Nat.le_of_ble_eq_true rfl, Nat.le_of_ble_eq_true rfl⟩) (by omega) hF.1 rfl rfl hl.1 rfl (Nat.le_of_ble_eq_true rfl) dX5_isClosed_6 ⟨Nat.le_of_ble_eq_true rfl, Nat.le_of_ble_eq_true rfl⟩ (fun H locs hw => ?_)
    refine lv_icmp_ge (tgt := 16) X.1 X.2.1 dX5_isClosed_9 (by decide) (fun c2 => ?_) (fun c2 => ?_)
    · refine lv_iconst (v := nI 0) X.1 X.2.1 dX5_isClosed_16 (by decide) ?_
      exact x_iret X hr hlk hK hw (v := nI 0) (by first | rfl | exact nr_b _ | decide) (⟨by simp [bI, c1, c2], rfl⟩) dX5_isClosed_17
    · refine lv_iconst (v := nI 1) X.1 X.2.1 dX5_isClosed_12 (by decide) ?_
      refine lv_goto (tgt := 17) X.1 X.2.1 dX5_isClosed_13 (by decide) ?_
      exact x_iret X hr hlk hK hw (v := nI 1) (by first | rfl | exact nr_b _ | decide) (⟨by simp [bI, c1, c2], rfl⟩) dX5_isClosed_17
set_option maxHeartbeats 4000000 in
set_option maxRecDepth 100000 in
theorem k_X5_latestRace {l : Launch} {D : va_G} {cI cB cS : ClassId} {ad : Nat → Nat} {N : Nat} {F : Nat → va_E} (hI : iN ad N) (b : Nat) (g : Nat → Int32) (t : Nat → Nat → Int32) (hb : b + 11 ≤ N) (hF : StF ad cI F b g t) : Ci l D cI cB cS ad N yX5_latestRace cX5_latestRace 1 (some .int) 0 0 [.ref (ad b)] F (pP (g 2 - nI 1) F) := by
  refine x_met (by decide +kernel) (Nat.le_of_ble_eq_true rfl) ?_
  intro p e s m below meth c X hr hlk hK hw ls hl
  replace hl : lv_has ls 1 [(0, .ref (ad b))] := hl
  refine lv_aload_n X.1 X.2.1 dX5_latestRace_0 rfl (lv_at hl 0 rfl) ?_
  refine x_get X hK hw (C := RX5) (T := TX5) (nf := 10) (k := b) (by omega) hF.1 rfl inX5 2 (by decide) q66 (fun _ h9 => h9) rfl dX5_latestRace_1 ?_
  refine lv_iconst (v := nI 1) X.1 X.2.1 dX5_latestRace_4 (by decide) ?_
  refine lv_isub X.1 X.2.1 dX5_latestRace_5 ?_
  exact x_iret X hr hlk hK hw (v := (g 2) - (nI 1)) rfl (⟨rfl, rfl⟩) dX5_latestRace_6
set_option maxHeartbeats 4000000 in
set_option maxRecDepth 100000 in
theorem k_X5_start {l : Launch} {D : va_G} {cI cB cS : ClassId} {ad : Nat → Nat} {N : Nat} {F : Nat → va_E} (hI : iN ad N) (b : Nat) (g : Nat → Int32) (t : Nat → Nat → Int32) (hb : b + 11 ≤ N) (hF : StF ad cI F b g t) : Ci l D cI cB cS ad N yX5_start cX5_start 1 (some .int) 1 23 [.ref (ad b)] F (pP (c_start g t) F) := by
  refine x_met (by decide +kernel) (Nat.le_of_ble_eq_true rfl) ?_
  intro p e s m below meth c X hr hlk hK hw ls hl
  replace hl : lv_has ls 1 [(0, .ref (ad b))] := hl
  refine lv_aload_n X.1 X.2.1 dX5_start_0 rfl (lv_at hl 0 rfl) ?_
  refine x_get X hK hw (C := RX5) (T := TX5) (nf := 10) (k := b) (by omega) hF.1 rfl inX5 7 (by decide) q82 (fun _ h9 => h9) rfl dX5_start_1 ?_
  refine lv_aload_n X.1 X.2.1 dX5_start_4 rfl (lv_at hl 0 rfl) ?_
  refine x_get X hK hw (C := RX5) (T := TX5) (nf := 10) (k := b) (by omega) hF.1 rfl inX5 2 (by decide) q66 (fun _ h9 => h9) rfl dX5_start_5 ?_
  refine lv_iconst (v := nI 1) X.1 X.2.1 dX5_start_8 (by decide) ?_
  refine lv_isub X.1 X.2.1 dX5_start_9 ?_
  refine lv_iconst (v := nI 2) X.1 X.2.1 dX5_start_10 (by decide) ?_
  refine x_callVP X hK hw (k := (b + 5)) (As := [.int ((g 2) - (nI 1)), .int (nI 2)]) (rest := []) (k_X6_get hI ((b + 5)) 3 18 ((t 2)) ((g 2) - (nI 1)) (nI 2) (by omega) (by omega) hF.2.2.2.1) (x_cwV yX6_get cX6_get 4 (some .int) 2 X q326 q327 q328 q3 q329 hd_X6_get ⟨Nat.le_of_ble_eq_true rfl, Nat.le_of_ble_eq_true rfl⟩) (by omega) hF.2.2.2.1.1 rfl rfl hl.1 rfl (Nat.le_of_ble_eq_true rfl) dX5_start_11 ⟨Nat.le_of_ble_eq_true rfl, Nat.le_of_ble_eq_true rfl⟩ (fun H locs hw => ?_)
  exact x_iret X hr hlk hK hw (v := tg 3 18 ((t 2)) ((g 2) - (nI 1)) (nI 2)) rfl (⟨rfl, rfl⟩) dX5_start_14
theorem hd_X5_start : yX5_start.cls = RX5 ∧ yX5_start.cls ≠ "java/lang/invoke/MethodHandle" ∧ yX5_start.cls ≠ "java/lang/invoke/VarHandle" ∧ (parseMethodDescriptor yX5_start.desc).map (fun d => d.parameters.length) = some 0 := by decide +kernel
set_option maxHeartbeats 4000000 in
set_option maxRecDepth 100000 in
theorem k_X5_isStarted {l : Launch} {D : va_G} {cI cB cS : ClassId} {ad : Nat → Nat} {N : Nat} {F : Nat → va_E} (hI : iN ad N) (b : Nat) (g : Nat → Int32) (t : Nat → Nat → Int32) (hb : b + 11 ≤ N) (hF : StF ad cI F b g t) : Ci l D cI cB cS ad N yX5_isStarted cX5_isStarted 1 (some .boolean) 2 43 [.ref (ad b)] F (pP (bI (decide (¬ g 0 < c_start g t))) F) := by
  refine x_met (by decide +kernel) (Nat.le_of_ble_eq_true rfl) ?_
  intro p e s m below meth c X hr hlk hK hw ls hl
  replace hl : lv_has ls 1 [(0, .ref (ad b))] := hl
  refine lv_aload_n X.1 X.2.1 dX5_isStarted_0 rfl (lv_at hl 0 rfl) ?_
  refine x_get X hK hw (C := RX5) (T := TX5) (nf := 10) (k := b) (by omega) hF.1 rfl inX5 0 (by decide) q57 (fun _ h9 => h9) rfl dX5_isStarted_1 ?_
  refine lv_aload_n X.1 X.2.1 dX5_isStarted_4 rfl (lv_at hl 0 rfl) ?_
  refine x_callVP X hK hw (k := b) (As := []) (rest := [.int (g 0)]) (k_X5_start hI b g t (by omega) hF) (x_cwV yX5_start cX5_start 1 (some .int) 0 X q322 q323 q324 q2 q325 hd_X5_start ⟨Nat.le_of_ble_eq_true rfl, Nat.le_of_ble_eq_true rfl⟩) (by omega) hF.1 rfl rfl hl.1 rfl (Nat.le_of_ble_eq_true rfl) dX5_isStarted_5 ⟨Nat.le_of_ble_eq_true rfl, Nat.le_of_ble_eq_true rfl⟩ (fun H locs hw => ?_)
  refine lv_icmp_lt (tgt := 15) X.1 X.2.1 dX5_isStarted_8 (by decide) (fun c1 => ?_) (fun c1 => ?_)
  · refine lv_iconst (v := nI 0) X.1 X.2.1 dX5_isStarted_15 (by decide) ?_
    exact x_iret X hr hlk hK hw (v := nI 0) (by first | rfl | exact nr_b _ | decide) (⟨by simp [bI, c1], rfl⟩) dX5_isStarted_16
  · refine lv_iconst (v := nI 1) X.1 X.2.1 dX5_isStarted_11 (by decide) ?_
    refine lv_goto (tgt := 16) X.1 X.2.1 dX5_isStarted_12 (by decide) ?_
    exact x_iret X hr hlk hK hw (v := nI 1) (by first | rfl | exact nr_b _ | decide) (⟨by simp [bI, c1], rfl⟩) dX5_isStarted_16
set_option maxHeartbeats 4000000 in
set_option maxRecDepth 100000 in
theorem k_X5_setting {l : Launch} {D : va_G} {cI cB cS : ClassId} {ad : Nat → Nat} {N : Nat} {F : Nat → va_E} (hI : iN ad N) (b : Nat) (g : Nat → Int32) (t : Nat → Nat → Int32) (x : Int32) (hb : b + 11 ≤ N) (hF : StF ad cI F b g t) : Ci l D cI cB cS ad N yX5_setting cX5_setting 2 (some .int) 1 23 [.ref (ad b), .int x] F (pP (tg 1 3 (t 1) x (nI 0)) F) := by
  refine x_met (by decide +kernel) (Nat.le_of_ble_eq_true rfl) ?_
  intro p e s m below meth c X hr hlk hK hw ls hl
  replace hl : lv_has ls 2 [(0, .ref (ad b)), (1, .int x)] := hl
  refine lv_aload_n X.1 X.2.1 dX5_setting_0 rfl (lv_at hl 0 rfl) ?_
  refine x_get X hK hw (C := RX5) (T := TX5) (nf := 10) (k := b) (by omega) hF.1 rfl inX5 6 (by decide) q80 (fun _ h9 => h9) rfl dX5_setting_1 ?_
  refine lv_iload_n X.1 X.2.1 dX5_setting_4 rfl (lv_at hl 1 rfl) ?_
  refine lv_iconst (v := nI 0) X.1 X.2.1 dX5_setting_5 (by decide) ?_
  refine x_callVP X hK hw (k := (b + 3)) (As := [.int x, .int (nI 0)]) (rest := []) (k_X6_get hI ((b + 3)) 1 3 ((t 1)) x (nI 0) (by omega) (by omega) hF.2.2.1) (x_cwV yX6_get cX6_get 4 (some .int) 2 X q326 q327 q328 q3 q329 hd_X6_get ⟨Nat.le_of_ble_eq_true rfl, Nat.le_of_ble_eq_true rfl⟩) (by omega) hF.2.2.1.1 rfl rfl hl.1 rfl (Nat.le_of_ble_eq_true rfl) dX5_setting_6 ⟨Nat.le_of_ble_eq_true rfl, Nat.le_of_ble_eq_true rfl⟩ (fun H locs hw => ?_)
  exact x_iret X hr hlk hK hw (v := tg 1 3 ((t 1)) x (nI 0)) rfl (⟨rfl, rfl⟩) dX5_setting_9
set_option maxHeartbeats 4000000 in
set_option maxRecDepth 100000 in
theorem k_X5_row {l : Launch} {D : va_G} {cI cB cS : ClassId} {ad : Nat → Nat} {N : Nat} {F : Nat → va_E} (hI : iN ad N) (b : Nat) (g : Nat → Int32) (t : Nat → Nat → Int32) (x : Int32) (y : Int32) (hb : b + 11 ≤ N) (hF : StF ad cI F b g t) : Ci l D cI cB cS ad N yX5_row cX5_row 3 (some .int) 0 0 [.ref (ad b), .int x, .int y] F (pP (x * nI 9 + y) F) := by
  refine x_met (by decide +kernel) (Nat.le_of_ble_eq_true rfl) ?_
  intro p e s m below meth c X hr hlk hK hw ls hl
  replace hl : lv_has ls 3 [(0, .ref (ad b)), (1, .int x), (2, .int y)] := hl
  refine lv_iload_n X.1 X.2.1 dX5_row_0 rfl (lv_at hl 1 rfl) ?_
  refine lv_bipush (v := nI 9) X.1 X.2.1 dX5_row_1 (by decide) ?_
  refine lv_imul X.1 X.2.1 dX5_row_3 ?_
  refine lv_iload_n X.1 X.2.1 dX5_row_4 rfl (lv_at hl 2 rfl) ?_
  refine lv_iadd X.1 X.2.1 dX5_row_5 ?_
  exact x_iret X hr hlk hK hw (v := (x * (nI 9)) + y) rfl (⟨rfl, rfl⟩) dX5_row_6
theorem hd_X5_row : yX5_row.cls = RX5 ∧ yX5_row.cls ≠ "java/lang/invoke/MethodHandle" ∧ yX5_row.cls ≠ "java/lang/invoke/VarHandle" ∧ (parseMethodDescriptor yX5_row.desc).map (fun d => d.parameters.length) = some 2 := by decide +kernel
set_option maxHeartbeats 4000000 in
set_option maxRecDepth 100000 in
theorem k_X5_latestEntry {l : Launch} {D : va_G} {cI cB cS : ClassId} {ad : Nat → Nat} {N : Nat} {F : Nat → va_E} (hI : iN ad N) (b : Nat) (g : Nat → Int32) (t : Nat → Nat → Int32) (x : Int32) (q : Int32) (hb : b + 11 ≤ N) (hF : StF ad cI F b g t) : Ci l D cI cB cS ad N yX5_latestEntry cX5_latestEntry 3 (some .int) 1 23 [.ref (ad b), .int x, .int q] F (pP (c_lat g t x q) F) := by
  refine x_met (by decide +kernel) (Nat.le_of_ble_eq_true rfl) ?_
  intro p e s m below meth c X hr hlk hK hw ls hl
  replace hl : lv_has ls 3 [(0, .ref (ad b)), (1, .int x), (2, .int q)] := hl
  refine lv_aload_n X.1 X.2.1 dX5_latestEntry_0 rfl (lv_at hl 0 rfl) ?_
  refine x_get X hK hw (C := RX5) (T := TX5) (nf := 10) (k := b) (by omega) hF.1 rfl inX5 8 (by decide) q85 (fun _ h9 => h9) rfl dX5_latestEntry_1 ?_
  refine lv_aload_n X.1 X.2.1 dX5_latestEntry_4 rfl (lv_at hl 0 rfl) ?_
  refine lv_aload_n X.1 X.2.1 dX5_latestEntry_5 rfl (lv_at hl 0 rfl) ?_
  refine x_get X hK hw (C := RX5) (T := TX5) (nf := 10) (k := b) (by omega) hF.1 rfl inX5 2 (by decide) q66 (fun _ h9 => h9) rfl dX5_latestEntry_6 ?_
  refine lv_iconst (v := nI 1) X.1 X.2.1 dX5_latestEntry_9 (by decide) ?_
  refine lv_isub X.1 X.2.1 dX5_latestEntry_10 ?_
  refine lv_iload_n X.1 X.2.1 dX5_latestEntry_11 rfl (lv_at hl 1 rfl) ?_
  refine x_callVP X hK hw (k := b) (As := [.int ((g 2) - (nI 1)), .int x]) (rest := [.ref (ad (b + 7))]) (k_X5_row hI b g t ((g 2) - (nI 1)) x (by omega) hF) (x_cwV yX5_row cX5_row 3 (some .int) 2 X q373 q302 q303 q2 q304 hd_X5_row ⟨Nat.le_of_ble_eq_true rfl, Nat.le_of_ble_eq_true rfl⟩) (by omega) hF.1 rfl rfl hl.1 rfl (Nat.le_of_ble_eq_true rfl) dX5_latestEntry_12 ⟨Nat.le_of_ble_eq_true rfl, Nat.le_of_ble_eq_true rfl⟩ (fun H locs hw => ?_)
  refine lv_iload_n X.1 X.2.1 dX5_latestEntry_15 rfl (lv_at hl 2 rfl) ?_
  refine x_callVP X hK hw (k := (b + 7)) (As := [.int (((g 2) - (nI 1)) * nI 9 + x), .int q]) (rest := []) (k_X6_get hI ((b + 7)) 6 324 ((t 3)) (((g 2) - (nI 1)) * nI 9 + x) q (by omega) (by omega) hF.2.2.2.2.1) (x_cwV yX6_get cX6_get 4 (some .int) 2 X q326 q327 q328 q3 q329 hd_X6_get ⟨Nat.le_of_ble_eq_true rfl, Nat.le_of_ble_eq_true rfl⟩) (by omega) hF.2.2.2.2.1.1 rfl rfl hl.1 rfl (Nat.le_of_ble_eq_true rfl) dX5_latestEntry_16 ⟨Nat.le_of_ble_eq_true rfl, Nat.le_of_ble_eq_true rfl⟩ (fun H locs hw => ?_)
  exact x_iret X hr hlk hK hw (v := tg 6 324 ((t 3)) (((g 2) - (nI 1)) * nI 9 + x) q) rfl (⟨rfl, rfl⟩) dX5_latestEntry_19
set_option maxHeartbeats 4000000 in
set_option maxRecDepth 100000 in
theorem k_X5_putLatestEntry {l : Launch} {D : va_G} {cI cB cS : ClassId} {ad : Nat → Nat} {N : Nat} {F : Nat → va_E} (hI : iN ad N) (b : Nat) (g : Nat → Int32) (t : Nat → Nat → Int32) (x : Int32) (q : Int32) (v : Int32) (hb : b + 11 ≤ N) (hF : StF ad cI F b g t) : Cv l D cI cB cS ad N yX5_putLatestEntry cX5_putLatestEntry 4 1 24 [.ref (ad b), .int x, .int q, .int v] F (fun F' => StF ad cI F' b g (c_pl g t x q v) ∧ Fr F F' b (b + 11)) := by
  refine x_metv (by decide +kernel) (Nat.le_of_ble_eq_true rfl) ?_
  intro p e s m below meth c X hr hlk hK hw ls hl
  replace hl : lv_has ls 4 [(0, .ref (ad b)), (1, .int x), (2, .int q), (3, .int v)] := hl
  have hfr : Fr F F (b) (b + 11) := Fr.rf
  refine lv_aload_n X.1 X.2.1 dX5_putLatestEntry_0 rfl (lv_at hl 0 rfl) ?_
  refine x_get X hK hw (C := RX5) (T := TX5) (nf := 10) (k := b) (by omega) hF.1 rfl inX5 8 (by decide) q85 (fun _ h9 => h9) rfl dX5_putLatestEntry_1 ?_
  refine lv_aload_n X.1 X.2.1 dX5_putLatestEntry_4 rfl (lv_at hl 0 rfl) ?_
  refine lv_aload_n X.1 X.2.1 dX5_putLatestEntry_5 rfl (lv_at hl 0 rfl) ?_
  refine x_get X hK hw (C := RX5) (T := TX5) (nf := 10) (k := b) (by omega) hF.1 rfl inX5 2 (by decide) q66 (fun _ h9 => h9) rfl dX5_putLatestEntry_6 ?_
  refine lv_iconst (v := nI 1) X.1 X.2.1 dX5_putLatestEntry_9 (by decide) ?_
  refine lv_isub X.1 X.2.1 dX5_putLatestEntry_10 ?_
  refine lv_iload_n X.1 X.2.1 dX5_putLatestEntry_11 rfl (lv_at hl 1 rfl) ?_
  refine x_callVP X hK hw (k := b) (As := [.int ((g 2) - (nI 1)), .int x]) (rest := [.ref (ad (b + 7))]) (k_X5_row hI b g t ((g 2) - (nI 1)) x (by omega) hF) (x_cwV yX5_row cX5_row 3 (some .int) 2 X q373 q302 q303 q2 q304 hd_X5_row ⟨Nat.le_of_ble_eq_true rfl, Nat.le_of_ble_eq_true rfl⟩) (by omega) hF.1 rfl rfl hl.1 rfl (Nat.le_of_ble_eq_true rfl) dX5_putLatestEntry_12 ⟨Nat.le_of_ble_eq_true rfl, Nat.le_of_ble_eq_true rfl⟩ (fun H locs hw => ?_)
  refine lv_iload_n X.1 X.2.1 dX5_putLatestEntry_15 rfl (lv_at hl 2 rfl) ?_
  refine lv_iload_n X.1 X.2.1 dX5_putLatestEntry_16 rfl (lv_at hl 3 rfl) ?_
  refine x_callVv X hK hw (k := (b + 7)) (As := [.int (((g 2) - (nI 1)) * nI 9 + x), .int q, .int v]) (rest := []) (k_X6_put hI ((b + 7)) 6 324 ((t 3)) (((g 2) - (nI 1)) * nI 9 + x) q v (by omega) (by omega) hF.2.2.2.2.1) (x_cwV yX6_put cX6_put 5 none 3 X q53 q54 q55 q3 q56 hd_X6_put ⟨Nat.le_of_ble_eq_true rfl, Nat.le_of_ble_eq_true rfl⟩) (by omega) hF.2.2.2.2.1.1 rfl rfl hl.1 rfl (Nat.le_of_ble_eq_true rfl) dX5_putLatestEntry_17 ⟨Nat.le_of_ble_eq_true rfl, Nat.le_of_ble_eq_true rfl⟩ (fun F1 H locs hp hw => ?_)
  obtain ⟨hT2, hr3⟩ := hp
  have hF4 := hF.tb3 hT2 hr3
  replace hfr := hfr.tr hr3 (by omega) (by omega)
  exact x_vret X hr hlk hK hw (⟨hF4, hfr⟩) dX5_putLatestEntry_20
set_option maxHeartbeats 4000000 in
set_option maxRecDepth 100000 in
theorem k_X5_isFinished {l : Launch} {D : va_G} {cI cB cS : ClassId} {ad : Nat → Nat} {N : Nat} {F : Nat → va_E} (hI : iN ad N) (b : Nat) (g : Nat → Int32) (t : Nat → Nat → Int32) (x : Int32) (y : Int32) (hb : b + 11 ≤ N) (hF : StF ad cI F b g t) : Ci l D cI cB cS ad N yX5_isFinished cX5_isFinished 3 (some .boolean) 1 23 [.ref (ad b), .int x, .int y] F (pP (bI (decide (c_ent t x y (nI 0) = nI 3))) F) := by
  refine x_met (by decide +kernel) (Nat.le_of_ble_eq_true rfl) ?_
  intro p e s m below meth c X hr hlk hK hw ls hl
  replace hl : lv_has ls 3 [(0, .ref (ad b)), (1, .int x), (2, .int y)] := hl
  refine lv_aload_n X.1 X.2.1 dX5_isFinished_0 rfl (lv_at hl 0 rfl) ?_
  refine x_get X hK hw (C := RX5) (T := TX5) (nf := 10) (k := b) (by omega) hF.1 rfl inX5 8 (by decide) q85 (fun _ h9 => h9) rfl dX5_isFinished_1 ?_
  refine lv_aload_n X.1 X.2.1 dX5_isFinished_4 rfl (lv_at hl 0 rfl) ?_
  refine lv_iload_n X.1 X.2.1 dX5_isFinished_5 rfl (lv_at hl 1 rfl) ?_
  refine lv_iload_n X.1 X.2.1 dX5_isFinished_6 rfl (lv_at hl 2 rfl) ?_
  refine x_callVP X hK hw (k := b) (As := [.int x, .int y]) (rest := [.ref (ad (b + 7))]) (k_X5_row hI b g t x y (by omega) hF) (x_cwV yX5_row cX5_row 3 (some .int) 2 X q373 q302 q303 q2 q304 hd_X5_row ⟨Nat.le_of_ble_eq_true rfl, Nat.le_of_ble_eq_true rfl⟩) (by omega) hF.1 rfl rfl hl.1 rfl (Nat.le_of_ble_eq_true rfl) dX5_isFinished_7 ⟨Nat.le_of_ble_eq_true rfl, Nat.le_of_ble_eq_true rfl⟩ (fun H locs hw => ?_)
  refine lv_iconst (v := nI 0) X.1 X.2.1 dX5_isFinished_10 (by decide) ?_
  refine x_callVP X hK hw (k := (b + 7)) (As := [.int (x * nI 9 + y), .int (nI 0)]) (rest := []) (k_X6_get hI ((b + 7)) 6 324 ((t 3)) (x * nI 9 + y) (nI 0) (by omega) (by omega) hF.2.2.2.2.1) (x_cwV yX6_get cX6_get 4 (some .int) 2 X q326 q327 q328 q3 q329 hd_X6_get ⟨Nat.le_of_ble_eq_true rfl, Nat.le_of_ble_eq_true rfl⟩) (by omega) hF.2.2.2.2.1.1 rfl rfl hl.1 rfl (Nat.le_of_ble_eq_true rfl) dX5_isFinished_11 ⟨Nat.le_of_ble_eq_true rfl, Nat.le_of_ble_eq_true rfl⟩ (fun H locs hw => ?_)
  refine lv_iconst (v := nI 3) X.1 X.2.1 dX5_isFinished_14 (by decide) ?_
  refine lv_icmp_ne (tgt := 22) X.1 X.2.1 dX5_isFinished_15 (by decide) (fun c1 => ?_) (fun c1 => ?_)
  · refine lv_iconst (v := nI 0) X.1 X.2.1 dX5_isFinished_22 (by decide) ?_
    exact x_iret X hr hlk hK hw (v := nI 0) (by first | rfl | exact nr_b _ | decide) (⟨by simp [bI, c_ent, c1], rfl⟩) dX5_isFinished_23
  · refine lv_iconst (v := nI 1) X.1 X.2.1 dX5_isFinished_18 (by decide) ?_
    refine lv_goto (tgt := 23) X.1 X.2.1 dX5_isFinished_19 (by decide) ?_
    exact x_iret X hr hlk hK hw (v := nI 1) (by first | rfl | exact nr_b _ | decide) (⟨by simp [bI, c_ent, c1], rfl⟩) dX5_isFinished_23
set_option maxHeartbeats 4000000 in
set_option maxRecDepth 100000 in
theorem k_X5_elapsedUntil {l : Launch} {D : va_G} {cI cB cS : ClassId} {ad : Nat → Nat} {N : Nat} {F : Nat → va_E} (hI : iN ad N) (b : Nat) (g : Nat → Int32) (t : Nat → Nat → Int32) (w : Int32) (x : Int32) (y : Int32) (hb : b + 11 ≤ N) (hF : StF ad cI F b g t) : Ci l D cI cB cS ad N yX5_elapsedUntil cX5_elapsedUntil 4 (some .int) 1 23 [.ref (ad b), .int w, .int x, .int y] F (pP (c_eu t w x y) F) := by
  refine x_met (by decide +kernel) (Nat.le_of_ble_eq_true rfl) ?_
  intro p e s m below meth c X hr hlk hK hw ls hl
  replace hl : lv_has ls 4 [(0, .ref (ad b)), (1, .int w), (2, .int x), (3, .int y)] := hl
  refine lv_iload_n X.1 X.2.1 dX5_elapsedUntil_0 rfl (lv_at hl 1 rfl) ?_
  refine lv_aload_n X.1 X.2.1 dX5_elapsedUntil_1 rfl (lv_at hl 0 rfl) ?_
  refine x_get X hK hw (C := RX5) (T := TX5) (nf := 10) (k := b) (by omega) hF.1 rfl inX5 7 (by decide) q82 (fun _ h9 => h9) rfl dX5_elapsedUntil_2 ?_
  refine lv_iload_n X.1 X.2.1 dX5_elapsedUntil_5 rfl (lv_at hl 2 rfl) ?_
  refine lv_iconst (v := nI 2) X.1 X.2.1 dX5_elapsedUntil_6 (by decide) ?_
  refine x_callVP X hK hw (k := (b + 5)) (As := [.int x, .int (nI 2)]) (rest := [.int w]) (k_X6_get hI ((b + 5)) 3 18 ((t 2)) x (nI 2) (by omega) (by omega) hF.2.2.2.1) (x_cwV yX6_get cX6_get 4 (some .int) 2 X q326 q327 q328 q3 q329 hd_X6_get ⟨Nat.le_of_ble_eq_true rfl, Nat.le_of_ble_eq_true rfl⟩) (by omega) hF.2.2.2.1.1 rfl rfl hl.1 rfl (Nat.le_of_ble_eq_true rfl) dX5_elapsedUntil_7 ⟨Nat.le_of_ble_eq_true rfl, Nat.le_of_ble_eq_true rfl⟩ (fun H locs hw => ?_)
  refine lv_isub X.1 X.2.1 dX5_elapsedUntil_10 ?_
  refine lv_aload_n X.1 X.2.1 dX5_elapsedUntil_11 rfl (lv_at hl 0 rfl) ?_
  refine x_get X hK hw (C := RX5) (T := TX5) (nf := 10) (k := b) (by omega) hF.1 rfl inX5 8 (by decide) q85 (fun _ h9 => h9) rfl dX5_elapsedUntil_12 ?_
  refine lv_aload_n X.1 X.2.1 dX5_elapsedUntil_15 rfl (lv_at hl 0 rfl) ?_
  refine lv_iload_n X.1 X.2.1 dX5_elapsedUntil_16 rfl (lv_at hl 2 rfl) ?_
  refine lv_iload_n X.1 X.2.1 dX5_elapsedUntil_17 rfl (lv_at hl 3 rfl) ?_
  refine x_callVP X hK hw (k := b) (As := [.int x, .int y]) (rest := [.ref (ad (b + 7)), .int (w - (tg 3 18 ((t 2)) x (nI 2)))]) (k_X5_row hI b g t x y (by omega) hF) (x_cwV yX5_row cX5_row 3 (some .int) 2 X q373 q302 q303 q2 q304 hd_X5_row ⟨Nat.le_of_ble_eq_true rfl, Nat.le_of_ble_eq_true rfl⟩) (by omega) hF.1 rfl rfl hl.1 rfl (Nat.le_of_ble_eq_true rfl) dX5_elapsedUntil_18 ⟨Nat.le_of_ble_eq_true rfl, Nat.le_of_ble_eq_true rfl⟩ (fun H locs hw => ?_)
  refine lv_iconst (v := nI 3) X.1 X.2.1 dX5_elapsedUntil_21 (by decide) ?_
  refine x_callVP X hK hw (k := (b + 7)) (As := [.int (x * nI 9 + y), .int (nI 3)]) (rest := [.int (w - (tg 3 18 ((t 2)) x (nI 2)))]) (k_X6_get hI ((b + 7)) 6 324 ((t 3)) (x * nI 9 + y) (nI 3) (by omega) (by omega) hF.2.2.2.2.1) (x_cwV yX6_get cX6_get 4 (some .int) 2 X q326 q327 q328 q3 q329 hd_X6_get ⟨Nat.le_of_ble_eq_true rfl, Nat.le_of_ble_eq_true rfl⟩) (by omega) hF.2.2.2.2.1.1 rfl rfl hl.1 rfl (Nat.le_of_ble_eq_true rfl) dX5_elapsedUntil_22 ⟨Nat.le_of_ble_eq_true rfl, Nat.le_of_ble_eq_true rfl⟩ (fun H locs hw => ?_)
  refine lv_iadd X.1 X.2.1 dX5_elapsedUntil_25 ?_
  exact x_iret X hr hlk hK hw (v := (w - (tg 3 18 ((t 2)) x (nI 2))) + (tg 6 324 ((t 3)) (x * nI 9 + y) (nI 3))) rfl (⟨rfl, rfl⟩) dX5_elapsedUntil_26
theorem hd_X5_elapsedUntil : yX5_elapsedUntil.cls = RX5 ∧ yX5_elapsedUntil.cls ≠ "java/lang/invoke/MethodHandle" ∧ yX5_elapsedUntil.cls ≠ "java/lang/invoke/VarHandle" ∧ (parseMethodDescriptor yX5_elapsedUntil.desc).map (fun d => d.parameters.length) = some 3 := by decide +kernel
theorem hd_X5_isFinished : yX5_isFinished.cls = RX5 ∧ yX5_isFinished.cls ≠ "java/lang/invoke/MethodHandle" ∧ yX5_isFinished.cls ≠ "java/lang/invoke/VarHandle" ∧ (parseMethodDescriptor yX5_isFinished.desc).map (fun d => d.parameters.length) = some 2 := by decide +kernel
set_option maxHeartbeats 4000000 in
set_option maxRecDepth 100000 in
theorem k_X5_elapsed {l : Launch} {D : va_G} {cI cB cS : ClassId} {ad : Nat → Nat} {N : Nat} {F : Nat → va_E} (hI : iN ad N) (b : Nat) (g : Nat → Int32) (t : Nat → Nat → Int32) (x : Int32) (y : Int32) (hb : b + 11 ≤ N) (hF : StF ad cI F b g t) : Ci l D cI cB cS ad N yX5_elapsed cX5_elapsed 3 (some .int) 2 46 [.ref (ad b), .int x, .int y] F (pP (c_el t x y) F) := by
  refine x_met (by decide +kernel) (Nat.le_of_ble_eq_true rfl) ?_
  intro p e s m below meth c X hr hlk hK hw ls hl
  replace hl : lv_has ls 3 [(0, .ref (ad b)), (1, .int x), (2, .int y)] := hl
  refine lv_aload_n X.1 X.2.1 dX5_elapsed_0 rfl (lv_at hl 0 rfl) ?_
  refine lv_iload_n X.1 X.2.1 dX5_elapsed_1 rfl (lv_at hl 1 rfl) ?_
  refine lv_iload_n X.1 X.2.1 dX5_elapsed_2 rfl (lv_at hl 2 rfl) ?_
  refine x_callVP X hK hw (k := b) (As := [.int x, .int y]) (rest := []) (k_X5_isFinished hI b g t x y (by omega) hF) (x_cwV yX5_isFinished cX5_isFinished 3 (some .boolean) 2 X q710 q711 q712 q2 q713 hd_X5_isFinished ⟨Nat.le_of_ble_eq_true rfl, Nat.le_of_ble_eq_true rfl⟩) (by omega) hF.1 rfl rfl hl.1 rfl (Nat.le_of_ble_eq_true rfl) dX5_elapsed_3 ⟨Nat.le_of_ble_eq_true rfl, Nat.le_of_ble_eq_true rfl⟩ (fun H locs hw => ?_)
  refine lv_if_ne (tgt := 12) X.1 X.2.1 dX5_elapsed_6 (by decide) (fun c1 => ?_) (fun c1 => ?_)
  · replace c1 := bI_nz c1
    refine lv_aload_n X.1 X.2.1 dX5_elapsed_12 rfl (lv_at hl 0 rfl) ?_
    refine lv_aload_n X.1 X.2.1 dX5_elapsed_13 rfl (lv_at hl 0 rfl) ?_
    refine x_get X hK hw (C := RX5) (T := TX5) (nf := 10) (k := b) (by omega) hF.1 rfl inX5 8 (by decide) q85 (fun _ h9 => h9) rfl dX5_elapsed_14 ?_
    refine lv_aload_n X.1 X.2.1 dX5_elapsed_17 rfl (lv_at hl 0 rfl) ?_
    refine lv_iload_n X.1 X.2.1 dX5_elapsed_18 rfl (lv_at hl 1 rfl) ?_
    refine lv_iload_n X.1 X.2.1 dX5_elapsed_19 rfl (lv_at hl 2 rfl) ?_
    refine x_callVP X hK hw (k := b) (As := [.int x, .int y]) (rest := [.ref (ad (b + 7)), .ref (ad b)]) (k_X5_row hI b g t x y (by omega) hF) (x_cwV yX5_row cX5_row 3 (some .int) 2 X q373 q302 q303 q2 q304 hd_X5_row ⟨Nat.le_of_ble_eq_true rfl, Nat.le_of_ble_eq_true rfl⟩) (by omega) hF.1 rfl rfl hl.1 rfl (Nat.le_of_ble_eq_true rfl) dX5_elapsed_20 ⟨Nat.le_of_ble_eq_true rfl, Nat.le_of_ble_eq_true rfl⟩ (fun H locs hw => ?_)
    refine lv_iconst (v := nI 5) X.1 X.2.1 dX5_elapsed_23 (by decide) ?_
    refine x_callVP X hK hw (k := (b + 7)) (As := [.int (x * nI 9 + y), .int (nI 5)]) (rest := [.ref (ad b)]) (k_X6_get hI ((b + 7)) 6 324 ((t 3)) (x * nI 9 + y) (nI 5) (by omega) (by omega) hF.2.2.2.2.1) (x_cwV yX6_get cX6_get 4 (some .int) 2 X q326 q327 q328 q3 q329 hd_X6_get ⟨Nat.le_of_ble_eq_true rfl, Nat.le_of_ble_eq_true rfl⟩) (by omega) hF.2.2.2.2.1.1 rfl rfl hl.1 rfl (Nat.le_of_ble_eq_true rfl) dX5_elapsed_24 ⟨Nat.le_of_ble_eq_true rfl, Nat.le_of_ble_eq_true rfl⟩ (fun H locs hw => ?_)
    refine lv_iload_n X.1 X.2.1 dX5_elapsed_27 rfl (lv_at hl 1 rfl) ?_
    refine lv_iload_n X.1 X.2.1 dX5_elapsed_28 rfl (lv_at hl 2 rfl) ?_
    refine x_callVP X hK hw (k := b) (As := [.int (tg 6 324 ((t 3)) (x * nI 9 + y) (nI 5)), .int x, .int y]) (rest := []) (k_X5_elapsedUntil hI b g t (tg 6 324 ((t 3)) (x * nI 9 + y) (nI 5)) x y (by omega) hF) (x_cwV yX5_elapsedUntil cX5_elapsedUntil 4 (some .int) 3 X q714 q715 q716 q2 q717 hd_X5_elapsedUntil ⟨Nat.le_of_ble_eq_true rfl, Nat.le_of_ble_eq_true rfl⟩) (by omega) hF.1 rfl rfl hl.1 rfl (Nat.le_of_ble_eq_true rfl) dX5_elapsed_29 ⟨Nat.le_of_ble_eq_true rfl, Nat.le_of_ble_eq_true rfl⟩ (fun H locs hw => ?_)
    exact x_iret X hr hlk hK hw (v := c_eu t (tg 6 324 ((t 3)) (x * nI 9 + y) (nI 5)) x y) rfl (⟨by simp only [c_el]; (first | rw [if_pos c1] | rw [if_neg c1]); rfl, rfl⟩) dX5_elapsed_32
  · replace c1 := bI_z c1
    refine lv_bipush (v := (-5)) X.1 X.2.1 dX5_elapsed_9 (by decide) ?_
    exact x_iret X hr hlk hK hw (v := (-5)) rfl (⟨by simp only [c_el]; (first | rw [if_pos c1] | rw [if_neg c1]), rfl⟩) dX5_elapsed_11
set_option maxHeartbeats 4000000 in
set_option maxRecDepth 100000 in
theorem k_X5_corrected {l : Launch} {D : va_G} {cI cB cS : ClassId} {ad : Nat → Nat} {N : Nat} {F : Nat → va_E} (hI : iN ad N) (b : Nat) (g : Nat → Int32) (t : Nat → Nat → Int32) (x : Int32) (y : Int32) (hb : b + 11 ≤ N) (hF : StF ad cI F b g t) : Ci l D cI cB cS ad N yX5_corrected cX5_corrected 5 (some .int) 2 46 [.ref (ad b), .int x, .int y] F (pP (c_co t x y) F) := by
  refine x_met (by decide +kernel) (Nat.le_of_ble_eq_true rfl) ?_
  intro p e s m below meth c X hr hlk hK hw ls hl
  replace hl : lv_has ls 5 [(0, .ref (ad b)), (1, .int x), (2, .int y)] := hl
  refine lv_aload_n X.1 X.2.1 dX5_corrected_0 rfl (lv_at hl 0 rfl) ?_
  refine x_get X hK hw (C := RX5) (T := TX5) (nf := 10) (k := b) (by omega) hF.1 rfl inX5 5 (by decide) q76 (fun _ h9 => h9) rfl dX5_corrected_1 ?_
  refine lv_iload_n X.1 X.2.1 dX5_corrected_4 rfl (lv_at hl 2 rfl) ?_
  refine lv_iconst (v := nI 0) X.1 X.2.1 dX5_corrected_5 (by decide) ?_
  refine x_callVP X hK hw (k := (b + 1)) (As := [.int y, .int (nI 0)]) (rest := []) (k_X6_get hI ((b + 1)) 1 9 ((t 0)) y (nI 0) (by omega) (by omega) hF.2.1) (x_cwV yX6_get cX6_get 4 (some .int) 2 X q326 q327 q328 q3 q329 hd_X6_get ⟨Nat.le_of_ble_eq_true rfl, Nat.le_of_ble_eq_true rfl⟩) (by omega) hF.2.1.1 rfl rfl hl.1 rfl (Nat.le_of_ble_eq_true rfl) dX5_corrected_6 ⟨Nat.le_of_ble_eq_true rfl, Nat.le_of_ble_eq_true rfl⟩ (fun H locs hw => ?_)
  refine lv_istore_n (lv' := [(3, .int (tg 1 9 ((t 0)) y (nI 0))), (0, .ref (ad b)), (1, .int x), (2, .int y)]) X.1 X.2.1 dX5_corrected_9 rfl hl (by decide) rfl (fun ls hl => ?_)
  refine lv_aload_n X.1 X.2.1 dX5_corrected_10 rfl (lv_at hl 1 rfl) ?_
  refine lv_iload_n X.1 X.2.1 dX5_corrected_11 rfl (lv_at hl 2 rfl) ?_
  refine lv_iload_n X.1 X.2.1 dX5_corrected_12 rfl (lv_at hl 3 rfl) ?_
  refine x_callVP X hK hw (k := b) (As := [.int x, .int y]) (rest := []) (k_X5_isFinished hI b g t x y (by omega) hF) (x_cwV yX5_isFinished cX5_isFinished 3 (some .boolean) 2 X q710 q711 q712 q2 q713 hd_X5_isFinished ⟨Nat.le_of_ble_eq_true rfl, Nat.le_of_ble_eq_true rfl⟩) (by omega) hF.1 rfl rfl hl.1 rfl (Nat.le_of_ble_eq_true rfl) dX5_corrected_13 ⟨Nat.le_of_ble_eq_true rfl, Nat.le_of_ble_eq_true rfl⟩ (fun H locs hw => ?_)
  refine lv_if_eq (tgt := 23) X.1 X.2.1 dX5_corrected_16 (by decide) (fun c1 => ?_) (fun c1 => ?_)
  · replace c1 := bI_z c1
    refine lv_bipush (v := (-5)) X.1 X.2.1 dX5_corrected_23 (by decide) ?_
    exact x_iret X hr hlk hK hw (v := (-5)) rfl (⟨by rw [c_co, if_neg (fun h => c1 h.1)], rfl⟩) dX5_corrected_25
  · replace c1 := bI_nz c1
    refine lv_iload_n X.1 X.2.1 dX5_corrected_19 rfl (lv_at hl 0 rfl) ?_
    refine lv_if_gt (tgt := 26) X.1 X.2.1 dX5_corrected_20 (by decide) (fun c2 => ?_) (fun c2 => ?_)
    · refine lv_aload_n X.1 X.2.1 dX5_corrected_26 rfl (lv_at hl 1 rfl) ?_
      refine x_get X hK hw (C := RX5) (T := TX5) (nf := 10) (k := b) (by omega) hF.1 rfl inX5 8 (by decide) q85 (fun _ h9 => h9) rfl dX5_corrected_27 ?_
      refine lv_aload_n X.1 X.2.1 dX5_corrected_30 rfl (lv_at hl 1 rfl) ?_
      refine lv_iload_n X.1 X.2.1 dX5_corrected_31 rfl (lv_at hl 2 rfl) ?_
      refine lv_iload_n X.1 X.2.1 dX5_corrected_32 rfl (lv_at hl 3 rfl) ?_
      refine x_callVP X hK hw (k := b) (As := [.int x, .int y]) (rest := [.ref (ad (b + 7))]) (k_X5_row hI b g t x y (by omega) hF) (x_cwV yX5_row cX5_row 3 (some .int) 2 X q373 q302 q303 q2 q304 hd_X5_row ⟨Nat.le_of_ble_eq_true rfl, Nat.le_of_ble_eq_true rfl⟩) (by omega) hF.1 rfl rfl hl.1 rfl (Nat.le_of_ble_eq_true rfl) dX5_corrected_33 ⟨Nat.le_of_ble_eq_true rfl, Nat.le_of_ble_eq_true rfl⟩ (fun H locs hw => ?_)
      refine lv_iconst (v := nI 5) X.1 X.2.1 dX5_corrected_36 (by decide) ?_
      refine x_callVP X hK hw (k := (b + 7)) (As := [.int (x * nI 9 + y), .int (nI 5)]) (rest := []) (k_X6_get hI ((b + 7)) 6 324 ((t 3)) (x * nI 9 + y) (nI 5) (by omega) (by omega) hF.2.2.2.2.1) (x_cwV yX6_get cX6_get 4 (some .int) 2 X q326 q327 q328 q3 q329 hd_X6_get ⟨Nat.le_of_ble_eq_true rfl, Nat.le_of_ble_eq_true rfl⟩) (by omega) hF.2.2.2.2.1.1 rfl rfl hl.1 rfl (Nat.le_of_ble_eq_true rfl) dX5_corrected_37 ⟨Nat.le_of_ble_eq_true rfl, Nat.le_of_ble_eq_true rfl⟩ (fun H locs hw => ?_)
      refine lv_istore (lv' := [(4, .int (tg 6 324 ((t 3)) (x * nI 9 + y) (nI 5))), (3, .int (tg 1 9 ((t 0)) y (nI 0))), (0, .ref (ad b)), (1, .int x), (2, .int y)]) X.1 X.2.1 dX5_corrected_40 hl (by decide) rfl (fun ls hl => ?_)
      refine lv_bipush (v := nI 100) X.1 X.2.1 dX5_corrected_42 (by decide) ?_
      refine lv_aload_n X.1 X.2.1 dX5_corrected_44 rfl (lv_at hl 2 rfl) ?_
      refine lv_iload X.1 X.2.1 dX5_corrected_45 (lv_at hl 0 rfl) ?_
      refine lv_iload_n X.1 X.2.1 dX5_corrected_47 rfl (lv_at hl 3 rfl) ?_
      refine lv_iload_n X.1 X.2.1 dX5_corrected_48 rfl (lv_at hl 4 rfl) ?_
      refine x_callVP X hK hw (k := b) (As := [.int (tg 6 324 ((t 3)) (x * nI 9 + y) (nI 5)), .int x, .int y]) (rest := [.int (nI 100)]) (k_X5_elapsedUntil hI b g t (tg 6 324 ((t 3)) (x * nI 9 + y) (nI 5)) x y (by omega) hF) (x_cwV yX5_elapsedUntil cX5_elapsedUntil 4 (some .int) 3 X q714 q715 q716 q2 q717 hd_X5_elapsedUntil ⟨Nat.le_of_ble_eq_true rfl, Nat.le_of_ble_eq_true rfl⟩) (by omega) hF.1 rfl rfl hl.1 rfl (Nat.le_of_ble_eq_true rfl) dX5_corrected_49 ⟨Nat.le_of_ble_eq_true rfl, Nat.le_of_ble_eq_true rfl⟩ (fun H locs hw => ?_)
      refine lv_imul X.1 X.2.1 dX5_corrected_52 ?_
      refine lv_iload_n X.1 X.2.1 dX5_corrected_53 rfl (lv_at hl 1 rfl) ?_
      refine lv_idiv X.1 X.2.1 dX5_corrected_54 (by intro h; rw [h] at c2; exact absurd c2 (by decide)) ?_
      exact x_iret X hr hlk hK hw (v := ((nI 100) * (c_eu t (tg 6 324 ((t 3)) (x * nI 9 + y) (nI 5)) x y)) / (tg 1 9 ((t 0)) y (nI 0))) rfl (⟨by rw [c_co, if_pos ⟨c1, c2⟩]; rfl, rfl⟩) dX5_corrected_55
    · refine lv_bipush (v := (-5)) X.1 X.2.1 dX5_corrected_23 (by decide) ?_
      exact x_iret X hr hlk hK hw (v := (-5)) rfl (⟨by rw [c_co, if_neg (fun h => c2 h.2)], rfl⟩) dX5_corrected_25
set_option maxHeartbeats 4000000 in
set_option maxRecDepth 100000 in
theorem k_X5_entriesWith {l : Launch} {D : va_G} {cI cB cS : ClassId} {ad : Nat → Nat} {N : Nat} {F : Nat → va_E} (hI : iN ad N) (b : Nat) (g : Nat → Int32) (t : Nat → Nat → Int32) (x : Int32) (q : Int32) (v : Int32) (nb : Nat) (hb : b + 11 ≤ N) (hF : StF ad cI F b g t) (hg : g 1 = nI nb) (hnb : nb < 2 ^ 31) : Ci l D cI cB cS ad N yX5_entriesWith cX5_entriesWith 6 (some .int) 1 23 [.ref (ad b), .int x, .int q, .int v] F (pP (c_cnt t x q v nb) F) := by
  refine x_met (by decide +kernel) (Nat.le_of_ble_eq_true rfl) ?_
  intro p e s m below meth c X hr hlk hK hw ls hl
  replace hl : lv_has ls 6 [(0, .ref (ad b)), (1, .int x), (2, .int q), (3, .int v)] := hl
  refine lv_iconst (v := nI 0) X.1 X.2.1 dX5_entriesWith_0 (by decide) ?_
  refine lv_istore (lv' := [(4, .int (nI 0)), (0, .ref (ad b)), (1, .int x), (2, .int q), (3, .int v)]) X.1 X.2.1 dX5_entriesWith_1 hl (by decide) rfl (fun ls hl => ?_)
  refine lv_iconst (v := nI 0) X.1 X.2.1 dX5_entriesWith_3 (by decide) ?_
  refine lv_istore (lv' := [(5, .int (nI 0)), (4, .int (nI 0)), (0, .ref (ad b)), (1, .int x), (2, .int q), (3, .int v)]) X.1 X.2.1 dX5_entriesWith_4 hl (by decide) rfl (fun ls hl => ?_)
  have loop : ∀ (fu : Nat) (i : Nat) (y : Int32) (hfu : i + fu = nb) (he : y = c_cnt t x q v i) (H : Heap) (locs : List Loc) (hw : HW D (Af ad N s.heap.size) ad N F s H locs) (ls : Array Slot) (hl : lv_has ls 6 [(5, .int (nI i)), (4, .int y), (0, .ref (ad b)), (1, .int x), (2, .int q), (3, .int v)]), W p l e { frames := 1, cells := 0, slots := 0, locals := 23 } s m [.ref (ad b), .int x, .int q, .int v].toArray below meth c H locs 0 0 (MQ below (va_Qi (pP (c_cnt t x q v nb) F) (fun F' t => PO D ad N F' t) (Af ad N s.heap.size)) [.ref (ad b), .int x, .int q, .int v].toArray s 0 0 (Af ad N s.heap.size)) (F0 m 6 ls []) := by
    intro fu
    induction fu with
    | zero =>
      intro i y hfu he H locs hw ls hl
      refine lv_iload X.1 X.2.1 dX5_entriesWith_6 (lv_at hl 0 rfl) ?_
      refine lv_aload_n X.1 X.2.1 dX5_entriesWith_8 rfl (lv_at hl 2 rfl) ?_
      refine x_get X hK hw (C := RX5) (T := TX5) (nf := 10) (k := b) (by omega) hF.1 rfl inX5 1 (by decide) q63 (fun _ h9 => h9) rfl dX5_entriesWith_9 ?_
      refine lv_icmp_ge (tgt := 43) X.1 X.2.1 dX5_entriesWith_12 (by decide) (fun c1 => ?_) (fun c1 => ?_)
      · refine lv_iload X.1 X.2.1 dX5_entriesWith_43 (lv_at hl 1 rfl) ?_
        exact x_iret X hr hlk hK hw (v := y) rfl (⟨by rw [he, show i = nb by omega], rfl⟩) dX5_entriesWith_45
      · exact absurd (by rw [hg]; exact nI_le (by omega) (by omega)) c1
    | succ fu ih =>
      intro i y hfu he H locs hw ls hl
      refine lv_iload X.1 X.2.1 dX5_entriesWith_6 (lv_at hl 0 rfl) ?_
      refine lv_aload_n X.1 X.2.1 dX5_entriesWith_8 rfl (lv_at hl 2 rfl) ?_
      refine x_get X hK hw (C := RX5) (T := TX5) (nf := 10) (k := b) (by omega) hF.1 rfl inX5 1 (by decide) q63 (fun _ h9 => h9) rfl dX5_entriesWith_9 ?_
      refine lv_icmp_ge (tgt := 43) X.1 X.2.1 dX5_entriesWith_12 (by decide) (fun c2 => ?_) (fun c2 => ?_)
      · exact absurd c2 (by rw [hg]; exact nI_ge (by omega) (by omega))
      · refine lv_aload_n X.1 X.2.1 dX5_entriesWith_15 rfl (lv_at hl 2 rfl) ?_
        refine x_get X hK hw (C := RX5) (T := TX5) (nf := 10) (k := b) (by omega) hF.1 rfl inX5 8 (by decide) q85 (fun _ h9 => h9) rfl dX5_entriesWith_16 ?_
        refine lv_aload_n X.1 X.2.1 dX5_entriesWith_19 rfl (lv_at hl 2 rfl) ?_
        refine lv_iload_n X.1 X.2.1 dX5_entriesWith_20 rfl (lv_at hl 3 rfl) ?_
        refine lv_iload X.1 X.2.1 dX5_entriesWith_21 (lv_at hl 0 rfl) ?_
        refine x_callVP X hK hw (k := b) (As := [.int x, .int (nI i)]) (rest := [.ref (ad (b + 7))]) (k_X5_row hI b g t x (nI i) (by omega) hF) (x_cwV yX5_row cX5_row 3 (some .int) 2 X q373 q302 q303 q2 q304 hd_X5_row ⟨Nat.le_of_ble_eq_true rfl, Nat.le_of_ble_eq_true rfl⟩) (by omega) hF.1 rfl rfl hl.1 rfl (Nat.le_of_ble_eq_true rfl) dX5_entriesWith_23 ⟨Nat.le_of_ble_eq_true rfl, Nat.le_of_ble_eq_true rfl⟩ (fun H locs hw => ?_)
        refine lv_iload_n X.1 X.2.1 dX5_entriesWith_26 rfl (lv_at hl 4 rfl) ?_
        refine x_callVP X hK hw (k := (b + 7)) (As := [.int (x * nI 9 + (nI i)), .int q]) (rest := []) (k_X6_get hI ((b + 7)) 6 324 ((t 3)) (x * nI 9 + (nI i)) q (by omega) (by omega) hF.2.2.2.2.1) (x_cwV yX6_get cX6_get 4 (some .int) 2 X q326 q327 q328 q3 q329 hd_X6_get ⟨Nat.le_of_ble_eq_true rfl, Nat.le_of_ble_eq_true rfl⟩) (by omega) hF.2.2.2.2.1.1 rfl rfl hl.1 rfl (Nat.le_of_ble_eq_true rfl) dX5_entriesWith_27 ⟨Nat.le_of_ble_eq_true rfl, Nat.le_of_ble_eq_true rfl⟩ (fun H locs hw => ?_)
        refine lv_iload_n X.1 X.2.1 dX5_entriesWith_30 rfl (lv_at hl 5 rfl) ?_
        refine lv_icmp_ne (tgt := 37) X.1 X.2.1 dX5_entriesWith_31 (by decide) (fun c3 => ?_) (fun c3 => ?_)
        · refine lv_iinc (v := nI (i + 1)) (lv' := [(5, .int (nI (i + 1))), (4, .int y), (0, .ref (ad b)), (1, .int x), (2, .int q), (3, .int v)]) X.1 X.2.1 dX5_entriesWith_37 hl (k := 0) rfl (by first | exact nI_1 _ | exact nI_add _ _ | rfl) (by decide) rfl (fun ls hl => ?_)
          refine lv_goto (tgt := 6) X.1 X.2.1 dX5_entriesWith_40 (by decide) ?_
          exact ih (i + 1) y (by omega) (by rw [he, c_cnt]; exact (if_neg c3).symm) _ _ hw _ (lv_sub hl [0, 1, 2, 3, 4, 5] rfl)
        · refine lv_iinc (v := y + 1) (lv' := [(4, .int (y + 1)), (5, .int (nI i)), (0, .ref (ad b)), (1, .int x), (2, .int q), (3, .int v)]) X.1 X.2.1 dX5_entriesWith_34 hl (k := 1) rfl rfl (by decide) rfl (fun ls hl => ?_)
          refine lv_iinc (v := nI (i + 1)) (lv' := [(5, .int (nI (i + 1))), (4, .int (y + 1)), (0, .ref (ad b)), (1, .int x), (2, .int q), (3, .int v)]) X.1 X.2.1 dX5_entriesWith_37 hl (k := 1) rfl (by first | exact nI_1 _ | exact nI_add _ _ | rfl) (by decide) rfl (fun ls hl => ?_)
          refine lv_goto (tgt := 6) X.1 X.2.1 dX5_entriesWith_40 (by decide) ?_
          exact ih (i + 1) (y + 1) (by omega) (by rw [he, c_cnt]; exact (if_pos c3).symm) _ _ hw _ (lv_sub hl [0, 1, 2, 3, 4, 5] rfl)
  exact loop nb 0 (nI 0) (by omega) rfl _ _ hw _ (lv_sub hl [0, 1, 2, 3, 4, 5] rfl)
theorem hd_X6_copyFrom : yX6_copyFrom.cls = RX6 ∧ yX6_copyFrom.cls ≠ "java/lang/invoke/MethodHandle" ∧ yX6_copyFrom.cls ≠ "java/lang/invoke/VarHandle" ∧ (parseMethodDescriptor yX6_copyFrom.desc).map (fun d => d.parameters.length) = some 1 := by decide +kernel
set_option maxHeartbeats 4000000 in
set_option maxRecDepth 100000 in
theorem k_X5_copyFrom {l : Launch} {D : va_G} {cI cB cS : ClassId} {ad : Nat → Nat} {N : Nat} {F : Nat → va_E} (hI : iN ad N) (b : Nat) (g : Nat → Int32) (t : Nat → Nat → Int32) (b2 : Nat) (g2 : Nat → Int32) (t2 : Nat → Nat → Int32) (hb : b + 11 ≤ N) (hF : StF ad cI F b g t) (hb2 : b2 + 11 ≤ N) (hF2 : StF ad cI F b2 g2 t2) (hd : b + 11 ≤ b2 ∨ b2 + 11 ≤ b) : Cv l D cI cB cS ad N yX5_copyFrom cX5_copyFrom 2 2 82 [.ref (ad b), .ref (ad b2)] F (fun F' => StF ad cI F' b g2 t2 ∧ Fr F F' b (b + 11)) := by
  refine x_metv (by decide +kernel) (Nat.le_of_ble_eq_true rfl) ?_
  intro p e s m below meth c X hr hlk hK hw ls hl
  replace hl : lv_has ls 2 [(0, .ref (ad b)), (1, .ref (ad b2))] := hl
  have hfr : Fr F F (b) (b + 11) := Fr.rf
  refine lv_aload_n X.1 X.2.1 dX5_copyFrom_0 rfl (lv_at hl 0 rfl) ?_
  refine lv_aload_n X.1 X.2.1 dX5_copyFrom_1 rfl (lv_at hl 1 rfl) ?_
  refine x_get X hK hw (C := RX5) (T := TX5) (nf := 10) (k := b2) (by omega) hF2.1 rfl inX5 0 (by decide) q57 (fun _ h9 => h9) rfl dX5_copyFrom_2 ?_
  refine x_put2 X hI hK hw (C := RX5) (T := TX5) (nf := 10) (k := b) (ty := .int) (v := .int (g2 0)) (by omega) hF.1 rfl inX5 tyX5 tyX5_ok nmX5 0 (by decide) q57 (fun _ h9 => h9) rfl (by decide +kernel) rfl rfl (Nat.le_of_ble_eq_true rfl) dX5_copyFrom_5 (fun F1 H locs eF2 hw => ?_)
  have hF3 : StF ad cI F1 b (va_up g 0 (g2 0)) t := by rw [eF2]; exact StF.pt hF 0 (by decide) _ _ rfl
  have hr4 := fr_eq eF2 (Nat.le_refl _) (Nat.lt_succ_self _)
  have hq5 := hF2.cg hr4 (by omega)
  replace hfr := hfr.tr hr4 (by omega) (by omega)
  refine lv_aload_n X.1 X.2.1 dX5_copyFrom_8 rfl (lv_at hl 0 rfl) ?_
  refine lv_aload_n X.1 X.2.1 dX5_copyFrom_9 rfl (lv_at hl 1 rfl) ?_
  refine x_get X hK hw (C := RX5) (T := TX5) (nf := 10) (k := b2) (by omega) hq5.1 rfl inX5 1 (by decide) q63 (fun _ h9 => h9) rfl dX5_copyFrom_10 ?_
  refine x_put2 X hI hK hw (C := RX5) (T := TX5) (nf := 10) (k := b) (ty := .int) (v := .int (g2 1)) (by omega) hF3.1 rfl inX5 tyX5 tyX5_ok nmX5 1 (by decide) q63 (fun _ h9 => h9) rfl (by decide +kernel) rfl rfl (Nat.le_of_ble_eq_true rfl) dX5_copyFrom_13 (fun F6 H locs eF7 hw => ?_)
  have hF8 : StF ad cI F6 b (va_up (va_up g 0 (g2 0)) 1 (g2 1)) t := by rw [eF7]; exact StF.pt hF3 1 (by decide) _ _ rfl
  have hr9 := fr_eq eF7 (Nat.le_refl _) (Nat.lt_succ_self _)
  have hq10 := hq5.cg hr9 (by omega)
  replace hfr := hfr.tr hr9 (by omega) (by omega)
  refine lv_aload_n X.1 X.2.1 dX5_copyFrom_16 rfl (lv_at hl 0 rfl) ?_
  refine lv_aload_n X.1 X.2.1 dX5_copyFrom_17 rfl (lv_at hl 1 rfl) ?_
  refine x_get X hK hw (C := RX5) (T := TX5) (nf := 10) (k := b2) (by omega) hq10.1 rfl inX5 2 (by decide) q66 (fun _ h9 => h9) rfl dX5_copyFrom_18 ?_
  refine x_put2 X hI hK hw (C := RX5) (T := TX5) (nf := 10) (k := b) (ty := .int) (v := .int (g2 2)) (by omega) hF8.1 rfl inX5 tyX5 tyX5_ok nmX5 2 (by decide) q66 (fun _ h9 => h9) rfl (by decide +kernel) rfl rfl (Nat.le_of_ble_eq_true rfl) dX5_copyFrom_21 (fun F11 H locs eF12 hw => ?_)
  have hF13 : StF ad cI F11 b (va_up (va_up (va_up g 0 (g2 0)) 1 (g2 1)) 2 (g2 2)) t := by rw [eF12]; exact StF.pt hF8 2 (by decide) _ _ rfl
  have hr14 := fr_eq eF12 (Nat.le_refl _) (Nat.lt_succ_self _)
  have hq15 := hq10.cg hr14 (by omega)
  replace hfr := hfr.tr hr14 (by omega) (by omega)
  refine lv_aload_n X.1 X.2.1 dX5_copyFrom_24 rfl (lv_at hl 0 rfl) ?_
  refine lv_aload_n X.1 X.2.1 dX5_copyFrom_25 rfl (lv_at hl 1 rfl) ?_
  refine x_get X hK hw (C := RX5) (T := TX5) (nf := 10) (k := b2) (by omega) hq15.1 rfl inX5 3 (by decide) q69 (fun _ h9 => h9) rfl dX5_copyFrom_26 ?_
  refine x_put2 X hI hK hw (C := RX5) (T := TX5) (nf := 10) (k := b) (ty := .int) (v := .int (g2 3)) (by omega) hF13.1 rfl inX5 tyX5 tyX5_ok nmX5 3 (by decide) q69 (fun _ h9 => h9) rfl (by decide +kernel) rfl rfl (Nat.le_of_ble_eq_true rfl) dX5_copyFrom_29 (fun F16 H locs eF17 hw => ?_)
  have hF18 : StF ad cI F16 b (va_up (va_up (va_up (va_up g 0 (g2 0)) 1 (g2 1)) 2 (g2 2)) 3 (g2 3)) t := by rw [eF17]; exact StF.pt hF13 3 (by decide) _ _ rfl
  have hr19 := fr_eq eF17 (Nat.le_refl _) (Nat.lt_succ_self _)
  have hq20 := hq15.cg hr19 (by omega)
  replace hfr := hfr.tr hr19 (by omega) (by omega)
  refine lv_aload_n X.1 X.2.1 dX5_copyFrom_32 rfl (lv_at hl 0 rfl) ?_
  refine lv_aload_n X.1 X.2.1 dX5_copyFrom_33 rfl (lv_at hl 1 rfl) ?_
  refine x_get X hK hw (C := RX5) (T := TX5) (nf := 10) (k := b2) (by omega) hq20.1 rfl inX5 4 (by decide) q72 (fun _ h9 => h9) rfl dX5_copyFrom_34 ?_
  refine x_put2 X hI hK hw (C := RX5) (T := TX5) (nf := 10) (k := b) (ty := .int) (v := .int (g2 4)) (by omega) hF18.1 rfl inX5 tyX5 tyX5_ok nmX5 4 (by decide) q72 (fun _ h9 => h9) rfl (by decide +kernel) rfl rfl (Nat.le_of_ble_eq_true rfl) dX5_copyFrom_37 (fun F21 H locs eF22 hw => ?_)
  have hF23 : StF ad cI F21 b (va_up (va_up (va_up (va_up (va_up g 0 (g2 0)) 1 (g2 1)) 2 (g2 2)) 3 (g2 3)) 4 (g2 4)) t := by rw [eF22]; exact StF.pt hF18 4 (by decide) _ _ rfl
  have hr24 := fr_eq eF22 (Nat.le_refl _) (Nat.lt_succ_self _)
  have hq25 := hq20.cg hr24 (by omega)
  replace hfr := hfr.tr hr24 (by omega) (by omega)
  refine lv_aload_n X.1 X.2.1 dX5_copyFrom_40 rfl (lv_at hl 0 rfl) ?_
  refine x_get X hK hw (C := RX5) (T := TX5) (nf := 10) (k := b) (by omega) hF23.1 rfl inX5 5 (by decide) q76 (fun _ h9 => h9) rfl dX5_copyFrom_41 ?_
  refine lv_aload_n X.1 X.2.1 dX5_copyFrom_44 rfl (lv_at hl 1 rfl) ?_
  refine x_get X hK hw (C := RX5) (T := TX5) (nf := 10) (k := b2) (by omega) hq25.1 rfl inX5 5 (by decide) q76 (fun _ h9 => h9) rfl dX5_copyFrom_45 ?_
  refine x_callVv X hK hw (k := (b + 1)) (As := [.ref (ad (b2 + 1))]) (rest := []) (k_X6_copyFrom hI ((b + 1)) ((b2 + 1)) 1 9 ((t 0)) ((t2 0)) (by omega) (by omega) (by omega) hF23.2.1 hq25.2.1) (x_cwV yX6_copyFrom cX6_copyFrom 3 none 1 X q261 q262 q263 q3 q264 hd_X6_copyFrom ⟨Nat.le_of_ble_eq_true rfl, Nat.le_of_ble_eq_true rfl⟩) (by omega) hF23.2.1.1 rfl rfl hl.1 rfl (Nat.le_of_ble_eq_true rfl) dX5_copyFrom_48 ⟨Nat.le_of_ble_eq_true rfl, Nat.le_of_ble_eq_true rfl⟩ (fun F26 H locs hp hw => ?_)
  obtain ⟨hT27, hr28⟩ := hp
  have hF29 := hF23.tb0 hT27 hr28
  have hq30 := hq25.cg hr28 (by omega)
  replace hfr := hfr.tr hr28 (by omega) (by omega)
  refine lv_aload_n X.1 X.2.1 dX5_copyFrom_51 rfl (lv_at hl 0 rfl) ?_
  refine x_get X hK hw (C := RX5) (T := TX5) (nf := 10) (k := b) (by omega) hF29.1 rfl inX5 6 (by decide) q80 (fun _ h9 => h9) rfl dX5_copyFrom_52 ?_
  refine lv_aload_n X.1 X.2.1 dX5_copyFrom_55 rfl (lv_at hl 1 rfl) ?_
  refine x_get X hK hw (C := RX5) (T := TX5) (nf := 10) (k := b2) (by omega) hq30.1 rfl inX5 6 (by decide) q80 (fun _ h9 => h9) rfl dX5_copyFrom_56 ?_
  refine x_callVv X hK hw (k := (b + 3)) (As := [.ref (ad (b2 + 3))]) (rest := []) (k_X6_copyFrom hI ((b + 3)) ((b2 + 3)) 1 3 (((va_up t 0 (((t2 0)))) 1)) ((t2 1)) (by omega) (by omega) (by omega) hF29.2.2.1 hq30.2.2.1) (x_cwV yX6_copyFrom cX6_copyFrom 3 none 1 X q261 q262 q263 q3 q264 hd_X6_copyFrom ⟨Nat.le_of_ble_eq_true rfl, Nat.le_of_ble_eq_true rfl⟩) (by omega) hF29.2.2.1.1 rfl rfl hl.1 rfl (Nat.le_of_ble_eq_true rfl) dX5_copyFrom_59 ⟨Nat.le_of_ble_eq_true rfl, Nat.le_of_ble_eq_true rfl⟩ (fun F31 H locs hp hw => ?_)
  obtain ⟨hT32, hr33⟩ := hp
  have hF34 := hF29.tb1 hT32 hr33
  have hq35 := hq30.cg hr33 (by omega)
  replace hfr := hfr.tr hr33 (by omega) (by omega)
  refine lv_aload_n X.1 X.2.1 dX5_copyFrom_62 rfl (lv_at hl 0 rfl) ?_
  refine x_get X hK hw (C := RX5) (T := TX5) (nf := 10) (k := b) (by omega) hF34.1 rfl inX5 7 (by decide) q82 (fun _ h9 => h9) rfl dX5_copyFrom_63 ?_
  refine lv_aload_n X.1 X.2.1 dX5_copyFrom_66 rfl (lv_at hl 1 rfl) ?_
  refine x_get X hK hw (C := RX5) (T := TX5) (nf := 10) (k := b2) (by omega) hq35.1 rfl inX5 7 (by decide) q82 (fun _ h9 => h9) rfl dX5_copyFrom_67 ?_
  refine x_callVv X hK hw (k := (b + 5)) (As := [.ref (ad (b2 + 5))]) (rest := []) (k_X6_copyFrom hI ((b + 5)) ((b2 + 5)) 3 18 (((va_up (va_up t 0 (((t2 0)))) 1 (((t2 1)))) 2)) ((t2 2)) (by omega) (by omega) (by omega) hF34.2.2.2.1 hq35.2.2.2.1) (x_cwV yX6_copyFrom cX6_copyFrom 3 none 1 X q261 q262 q263 q3 q264 hd_X6_copyFrom ⟨Nat.le_of_ble_eq_true rfl, Nat.le_of_ble_eq_true rfl⟩) (by omega) hF34.2.2.2.1.1 rfl rfl hl.1 rfl (Nat.le_of_ble_eq_true rfl) dX5_copyFrom_70 ⟨Nat.le_of_ble_eq_true rfl, Nat.le_of_ble_eq_true rfl⟩ (fun F36 H locs hp hw => ?_)
  obtain ⟨hT37, hr38⟩ := hp
  have hF39 := hF34.tb2 hT37 hr38
  have hq40 := hq35.cg hr38 (by omega)
  replace hfr := hfr.tr hr38 (by omega) (by omega)
  refine lv_aload_n X.1 X.2.1 dX5_copyFrom_73 rfl (lv_at hl 0 rfl) ?_
  refine x_get X hK hw (C := RX5) (T := TX5) (nf := 10) (k := b) (by omega) hF39.1 rfl inX5 8 (by decide) q85 (fun _ h9 => h9) rfl dX5_copyFrom_74 ?_
  refine lv_aload_n X.1 X.2.1 dX5_copyFrom_77 rfl (lv_at hl 1 rfl) ?_
  refine x_get X hK hw (C := RX5) (T := TX5) (nf := 10) (k := b2) (by omega) hq40.1 rfl inX5 8 (by decide) q85 (fun _ h9 => h9) rfl dX5_copyFrom_78 ?_
  refine x_callVv X hK hw (k := (b + 7)) (As := [.ref (ad (b2 + 7))]) (rest := []) (k_X6_copyFrom hI ((b + 7)) ((b2 + 7)) 6 324 (((va_up (va_up (va_up t 0 (((t2 0)))) 1 (((t2 1)))) 2 (((t2 2)))) 3)) ((t2 3)) (by omega) (by omega) (by omega) hF39.2.2.2.2.1 hq40.2.2.2.2.1) (x_cwV yX6_copyFrom cX6_copyFrom 3 none 1 X q261 q262 q263 q3 q264 hd_X6_copyFrom ⟨Nat.le_of_ble_eq_true rfl, Nat.le_of_ble_eq_true rfl⟩) (by omega) hF39.2.2.2.2.1.1 rfl rfl hl.1 rfl (Nat.le_of_ble_eq_true rfl) dX5_copyFrom_81 ⟨Nat.le_of_ble_eq_true rfl, Nat.le_of_ble_eq_true rfl⟩ (fun F41 H locs hp hw => ?_)
  obtain ⟨hT42, hr43⟩ := hp
  have hF44 := hF39.tb3 hT42 hr43
  have hq45 := hq40.cg hr43 (by omega)
  replace hfr := hfr.tr hr43 (by omega) (by omega)
  refine lv_aload_n X.1 X.2.1 dX5_copyFrom_84 rfl (lv_at hl 0 rfl) ?_
  refine x_get X hK hw (C := RX5) (T := TX5) (nf := 10) (k := b) (by omega) hF44.1 rfl inX5 9 (by decide) q89 (fun _ h9 => h9) rfl dX5_copyFrom_85 ?_
  refine lv_aload_n X.1 X.2.1 dX5_copyFrom_88 rfl (lv_at hl 1 rfl) ?_
  refine x_get X hK hw (C := RX5) (T := TX5) (nf := 10) (k := b2) (by omega) hq45.1 rfl inX5 9 (by decide) q89 (fun _ h9 => h9) rfl dX5_copyFrom_89 ?_
  refine x_callVv X hK hw (k := (b + 9)) (As := [.ref (ad (b2 + 9))]) (rest := []) (k_X6_copyFrom hI ((b + 9)) ((b2 + 9)) 4 40 (((va_up (va_up (va_up (va_up t 0 (((t2 0)))) 1 (((t2 1)))) 2 (((t2 2)))) 3 (((t2 3)))) 4)) ((t2 4)) (by omega) (by omega) (by omega) hF44.2.2.2.2.2 hq45.2.2.2.2.2) (x_cwV yX6_copyFrom cX6_copyFrom 3 none 1 X q261 q262 q263 q3 q264 hd_X6_copyFrom ⟨Nat.le_of_ble_eq_true rfl, Nat.le_of_ble_eq_true rfl⟩) (by omega) hF44.2.2.2.2.2.1 rfl rfl hl.1 rfl (Nat.le_of_ble_eq_true rfl) dX5_copyFrom_92 ⟨Nat.le_of_ble_eq_true rfl, Nat.le_of_ble_eq_true rfl⟩ (fun F46 H locs hp hw => ?_)
  obtain ⟨hT47, hr48⟩ := hp
  have hF49 := hF44.tb4 hT47 hr48
  have hq50 := hq45.cg hr48 (by omega)
  replace hfr := hfr.tr hr48 (by omega) (by omega)
  exact x_vret X hr hlk hK hw (⟨st_5 hF49, hfr⟩) dX5_copyFrom_95
