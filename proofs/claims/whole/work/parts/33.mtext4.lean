theorem lsw_43_98_108_114 (x : Int32) : x = 43 ∨ x = 98 ∨ x = 108 ∨ x = 114 ∨ (∀ a ∈ ([43, 98, 108, 114] : List Int32), x ≠ a) := by
  by_cases h0 : x = 43
  · simp [h0]
  by_cases h1 : x = 98
  · simp [h1]
  by_cases h2 : x = 108
  · simp [h2]
  by_cases h3 : x = 114
  · simp [h3]
  simp [h0, h1, h2, h3]
def s_X8_errorOfEvent (a : Nat → Int32) (k : Nat → Int32) (nr : Nat) : Int32 := (if (k 4) = 43 then s_X8_passError a (k 5) else (if (k 4) = 98 then s_X8_buoyError a (k 5) (k 6) nr else (if (k 4) = 108 then s_X8_lineError a (k 5) nr else (if (k 4) = 114 then s_X8_retireError a (k 5) nr else s_X8_hailError a (k 5) (k 6) nr))))
set_option maxHeartbeats 4000000 in
set_option maxRecDepth 100000 in
theorem k_X8_errorOfEvent {l : Launch} {D : va_G} {cI cB cS : ClassId} {ad : Nat → Nat} {N : Nat} {F : Nat → va_E} (hI : iN ad N) (o : Nat) (a : Nat → Int32) (h : Nat → Int32) (sn : Nat → Int32) (tx : Nat → Int32) (k : Nat → Int32) (nb : Nat) (nr : Nat) (hc5 : o + 5 ≤ N) (hF : MoF ad cI F o a h sn tx k) (h1 : a 1 = nI nb) (hb9 : nb ≤ 9) (h2 : a 2 = nI nr) (hr6 : nr ≤ 6) : Ci l D cI cB cS ad N yX8_errorOfEvent cX8_errorOfEvent 1 (some .int) 4 87 [.ref (ad o)] F (pP (s_X8_errorOfEvent a k nr) F) := by
  refine x_met (by decide +kernel) (Nat.le_of_ble_eq_true rfl) ?_
  intro p e s m below meth c X hr hlk hK hw ls hl
  replace hl : lv_has ls 1 [(0, .ref (ad o))] := hl
  refine lv_aload_n X.1 X.2.1 dX8_errorOfEvent_0 rfl (lv_at hl 0 rfl) ?_
  refine x_get X hK hw (C := RX8) (T := TX8) (nf := 12) (k := o) (by omega) hF.1 rfl inX8 8 (by decide) q876 (fun _ h9 => h9) rfl dX8_errorOfEvent_1 ?_
  rcases lsw_43_98_108_114 (k 4) with c1 | c1 | c1 | c1 | c1
  · refine lv_lookup (tgt := 48) X.1 X.2.1 dX8_errorOfEvent_4 (by decide) (by rw [c1] <;> rfl) (by decide) ?_
    refine lv_aload_n X.1 X.2.1 dX8_errorOfEvent_48 rfl (lv_at hl 0 rfl) ?_
    refine lv_aload_n X.1 X.2.1 dX8_errorOfEvent_49 rfl (lv_at hl 0 rfl) ?_
    refine x_get X hK hw (C := RX8) (T := TX8) (nf := 12) (k := o) (by omega) hF.1 rfl inX8 9 (by decide) q877 (fun _ h9 => h9) rfl dX8_errorOfEvent_50 ?_
    refine x_callVP X hK hw (k := o) (As := [.int (k 5)]) (rest := []) (k_X8_passError hI o a h sn tx k (k 5) (by omega) hF) (x_cwV yX8_passError cX8_passError 2 (some .int) 1 X q959 q961 qs24 q14 q962 hd_X8_passError ⟨Nat.le_of_ble_eq_true rfl, Nat.le_of_ble_eq_true rfl⟩) (by omega) hF.1 rfl rfl hl.1 rfl (Nat.le_of_ble_eq_true rfl) dX8_errorOfEvent_53 ⟨Nat.le_of_ble_eq_true rfl, Nat.le_of_ble_eq_true rfl⟩ (fun H locs hw => ?_)
    exact x_iret X hr hlk hK hw (v := s_X8_passError a (k 5)) rfl (⟨by rw [s_X8_errorOfEvent, if_pos c1], rfl⟩) dX8_errorOfEvent_56
  · refine lv_lookup (tgt := 75) X.1 X.2.1 dX8_errorOfEvent_4 (by decide) (by rw [c1] <;> rfl) (by decide) ?_
    refine lv_aload_n X.1 X.2.1 dX8_errorOfEvent_75 rfl (lv_at hl 0 rfl) ?_
    refine lv_aload_n X.1 X.2.1 dX8_errorOfEvent_76 rfl (lv_at hl 0 rfl) ?_
    refine x_get X hK hw (C := RX8) (T := TX8) (nf := 12) (k := o) (by omega) hF.1 rfl inX8 9 (by decide) q877 (fun _ h9 => h9) rfl dX8_errorOfEvent_77 ?_
    refine lv_aload_n X.1 X.2.1 dX8_errorOfEvent_80 rfl (lv_at hl 0 rfl) ?_
    refine x_get X hK hw (C := RX8) (T := TX8) (nf := 12) (k := o) (by omega) hF.1 rfl inX8 10 (by decide) q878 (fun _ h9 => h9) rfl dX8_errorOfEvent_81 ?_
    refine x_callVP X hK hw (k := o) (As := [.int (k 5), .int (k 6)]) (rest := []) (k_X8_buoyError hI o a h sn tx k (k 5) (k 6) nb nr (by omega) hF h1 (by omega) h2 (by omega)) (x_cwV yX8_buoyError cX8_buoyError 3 (some .int) 2 X q1000 q1002 qs32 q14 q1003 hd_X8_buoyError ⟨Nat.le_of_ble_eq_true rfl, Nat.le_of_ble_eq_true rfl⟩) (by omega) hF.1 rfl rfl hl.1 rfl (Nat.le_of_ble_eq_true rfl) dX8_errorOfEvent_84 ⟨Nat.le_of_ble_eq_true rfl, Nat.le_of_ble_eq_true rfl⟩ (fun H locs hw => ?_)
    exact x_iret X hr hlk hK hw (v := s_X8_buoyError a (k 5) (k 6) nr) rfl (⟨by rw [s_X8_errorOfEvent, if_neg (by rw [c1]; decide), if_pos c1], rfl⟩) dX8_errorOfEvent_87
  · refine lv_lookup (tgt := 57) X.1 X.2.1 dX8_errorOfEvent_4 (by decide) (by rw [c1] <;> rfl) (by decide) ?_
    refine lv_aload_n X.1 X.2.1 dX8_errorOfEvent_57 rfl (lv_at hl 0 rfl) ?_
    refine lv_aload_n X.1 X.2.1 dX8_errorOfEvent_58 rfl (lv_at hl 0 rfl) ?_
    refine x_get X hK hw (C := RX8) (T := TX8) (nf := 12) (k := o) (by omega) hF.1 rfl inX8 9 (by decide) q877 (fun _ h9 => h9) rfl dX8_errorOfEvent_59 ?_
    refine x_callVP X hK hw (k := o) (As := [.int (k 5)]) (rest := []) (k_X8_lineError hI o a h sn tx k (k 5) nb nr (by omega) hF h1 (by omega) h2 (by omega)) (x_cwV yX8_lineError cX8_lineError 3 (some .int) 1 X q972 q974 qs26 q14 q975 hd_X8_lineError ⟨Nat.le_of_ble_eq_true rfl, Nat.le_of_ble_eq_true rfl⟩) (by omega) hF.1 rfl rfl hl.1 rfl (Nat.le_of_ble_eq_true rfl) dX8_errorOfEvent_62 ⟨Nat.le_of_ble_eq_true rfl, Nat.le_of_ble_eq_true rfl⟩ (fun H locs hw => ?_)
    exact x_iret X hr hlk hK hw (v := s_X8_lineError a (k 5) nr) rfl (⟨by rw [s_X8_errorOfEvent, if_neg (by rw [c1]; decide), if_neg (by rw [c1]; decide), if_pos c1], rfl⟩) dX8_errorOfEvent_65
  · refine lv_lookup (tgt := 66) X.1 X.2.1 dX8_errorOfEvent_4 (by decide) (by rw [c1] <;> rfl) (by decide) ?_
    refine lv_aload_n X.1 X.2.1 dX8_errorOfEvent_66 rfl (lv_at hl 0 rfl) ?_
    refine lv_aload_n X.1 X.2.1 dX8_errorOfEvent_67 rfl (lv_at hl 0 rfl) ?_
    refine x_get X hK hw (C := RX8) (T := TX8) (nf := 12) (k := o) (by omega) hF.1 rfl inX8 9 (by decide) q877 (fun _ h9 => h9) rfl dX8_errorOfEvent_68 ?_
    refine x_callVP X hK hw (k := o) (As := [.int (k 5)]) (rest := []) (k_X8_retireError hI o a h sn tx k (k 5) nb nr (by omega) hF h1 (by omega) h2 (by omega)) (x_cwV yX8_retireError cX8_retireError 2 (some .int) 1 X q1012 q1014 qs34 q14 q1015 hd_X8_retireError ⟨Nat.le_of_ble_eq_true rfl, Nat.le_of_ble_eq_true rfl⟩) (by omega) hF.1 rfl rfl hl.1 rfl (Nat.le_of_ble_eq_true rfl) dX8_errorOfEvent_71 ⟨Nat.le_of_ble_eq_true rfl, Nat.le_of_ble_eq_true rfl⟩ (fun H locs hw => ?_)
    exact x_iret X hr hlk hK hw (v := s_X8_retireError a (k 5) nr) rfl (⟨by rw [s_X8_errorOfEvent, if_neg (by rw [c1]; decide), if_neg (by rw [c1]; decide), if_neg (by rw [c1]; decide), if_pos c1], rfl⟩) dX8_errorOfEvent_74
  · refine lv_lookup (off := 84) (tgt := 88) X.1 X.2.1 dX8_errorOfEvent_4 (by decide) (lsd_of (ks := [43, 98, 108, 114]) (os := [44, 71, 53, 62]) c1) (by decide) ?_
    refine lv_aload_n X.1 X.2.1 dX8_errorOfEvent_88 rfl (lv_at hl 0 rfl) ?_
    refine lv_aload_n X.1 X.2.1 dX8_errorOfEvent_89 rfl (lv_at hl 0 rfl) ?_
    refine x_get X hK hw (C := RX8) (T := TX8) (nf := 12) (k := o) (by omega) hF.1 rfl inX8 9 (by decide) q877 (fun _ h9 => h9) rfl dX8_errorOfEvent_90 ?_
    refine lv_aload_n X.1 X.2.1 dX8_errorOfEvent_93 rfl (lv_at hl 0 rfl) ?_
    refine x_get X hK hw (C := RX8) (T := TX8) (nf := 12) (k := o) (by omega) hF.1 rfl inX8 10 (by decide) q878 (fun _ h9 => h9) rfl dX8_errorOfEvent_94 ?_
    refine x_callVP X hK hw (k := o) (As := [.int (k 5), .int (k 6)]) (rest := []) (k_X8_hailError hI o a h sn tx k (k 5) (k 6) nb nr (by omega) hF h1 (by omega) h2 (by omega)) (x_cwV yX8_hailError cX8_hailError 3 (some .int) 2 X q1032 q1034 qs37 q14 q1035 hd_X8_hailError ⟨Nat.le_of_ble_eq_true rfl, Nat.le_of_ble_eq_true rfl⟩) (by omega) hF.1 rfl rfl hl.1 rfl (Nat.le_of_ble_eq_true rfl) dX8_errorOfEvent_97 ⟨Nat.le_of_ble_eq_true rfl, Nat.le_of_ble_eq_true rfl⟩ (fun H locs hw => ?_)
    exact x_iret X hr hlk hK hw (v := s_X8_hailError a (k 5) (k 6) nr) rfl (⟨by rw [s_X8_errorOfEvent, if_neg (c1 _ (by simp)), if_neg (c1 _ (by simp)), if_neg (c1 _ (by simp)), if_neg (c1 _ (by simp))], rfl⟩) dX8_errorOfEvent_100
def s_X8_does (a : Nat → Int32) (h : Nat → Int32) (sn : Nat → Int32) (tx : Nat → Int32) (k : Nat → Int32) (nr : Nat) (np : Nat) (x1 : Nat) : Int32 × (Nat → Int32) × (Nat → Int32) × (Nat → Int32) × (Nat → Int32) × (Nat → Int32) := (if (k 4) = 43 then ((s_X8_doPass a h sn tx k (k 5)).1, ((s_X8_doPass a h sn tx k (k 5)).2.1), ((s_X8_doPass a h sn tx k (k 5)).2.2.1), ((s_X8_doPass a h sn tx k (k 5)).2.2.2.1), ((s_X8_doPass a h sn tx k (k 5)).2.2.2.2.1), ((s_X8_doPass a h sn tx k (k 5)).2.2.2.2.2)) else (if (k 4) = 98 then ((s_X8_doBuoy a h sn tx k x1 (k 6) nr).1, ((s_X8_doBuoy a h sn tx k x1 (k 6) nr).2.1), ((s_X8_doBuoy a h sn tx k x1 (k 6) nr).2.2.1), ((s_X8_doBuoy a h sn tx k x1 (k 6) nr).2.2.2.1), ((s_X8_doBuoy a h sn tx k x1 (k 6) nr).2.2.2.2.1), ((s_X8_doBuoy a h sn tx k x1 (k 6) nr).2.2.2.2.2)) else (if (k 4) = 108 then ((s_X8_doLine a h sn tx k x1 nr).1, ((s_X8_doLine a h sn tx k x1 nr).2.1), ((s_X8_doLine a h sn tx k x1 nr).2.2.1), ((s_X8_doLine a h sn tx k x1 nr).2.2.2.1), ((s_X8_doLine a h sn tx k x1 nr).2.2.2.2.1), ((s_X8_doLine a h sn tx k x1 nr).2.2.2.2.2)) else (if (k 4) = 114 then ((s_X8_doRetire a h sn tx k x1 nr).1, ((s_X8_doRetire a h sn tx k x1 nr).2.1), ((s_X8_doRetire a h sn tx k x1 nr).2.2.1), ((s_X8_doRetire a h sn tx k x1 nr).2.2.2.1), ((s_X8_doRetire a h sn tx k x1 nr).2.2.2.2.1), ((s_X8_doRetire a h sn tx k x1 nr).2.2.2.2.2)) else ((s_X8_doHail a h sn tx k (k 5) (k 6) np).1, ((s_X8_doHail a h sn tx k (k 5) (k 6) np).2.1), ((s_X8_doHail a h sn tx k (k 5) (k 6) np).2.2.1), ((s_X8_doHail a h sn tx k (k 5) (k 6) np).2.2.2.1), ((s_X8_doHail a h sn tx k (k 5) (k 6) np).2.2.2.2.1), ((s_X8_doHail a h sn tx k (k 5) (k 6) np).2.2.2.2.2))))))
set_option maxHeartbeats 4000000 in
set_option maxRecDepth 100000 in
theorem k_X8_does {l : Launch} {D : va_G} {cI cB cS : ClassId} {ad : Nat → Nat} {N : Nat} {F : Nat → va_E} (hI : iN ad N) (o : Nat) (a : Nat → Int32) (h : Nat → Int32) (sn : Nat → Int32) (tx : Nat → Int32) (k : Nat → Int32) (nr : Nat) (np : Nat) (x1 : Nat) (hc5 : o + 5 ≤ N) (hF : MoF ad cI F o a h sn tx k) (h2 : a 2 = nI nr) (hr6 : nr ≤ 6) (h3 : a 3 = nI np) (hp10 : np ≤ 10) (h5 : k 5 = nI x1) (hx9 : ¬ k 4 = 43 → x1 < 9) (hn0 : ¬ k 4 = 43 → 0 < nr) (hbu : k 4 = 98 → ¬ m_r a (nr - 1) 0 = 0) : Ci l D cI cB cS ad N yX8_does cX8_does 1 (some .int) 3 67 [.ref (ad o)] F (fun r F' => r = (s_X8_does a h sn tx k nr np x1).1 ∧ MoF ad cI F' o ((s_X8_does a h sn tx k nr np x1).2.1) ((s_X8_does a h sn tx k nr np x1).2.2.1) ((s_X8_does a h sn tx k nr np x1).2.2.2.1) ((s_X8_does a h sn tx k nr np x1).2.2.2.2.1) ((s_X8_does a h sn tx k nr np x1).2.2.2.2.2) ∧ Fr F F' o (o + 5)) := by
  refine x_met (by decide +kernel) (Nat.le_of_ble_eq_true rfl) ?_
  intro p e s m below meth c X hr hlk hK hw ls hl
  replace hl : lv_has ls 1 [(0, .ref (ad o))] := hl
  have hfr : Fr F F (o) (o + 5) := Fr.rf
  refine lv_aload_n X.1 X.2.1 dX8_does_0 rfl (lv_at hl 0 rfl) ?_
  refine x_get X hK hw (C := RX8) (T := TX8) (nf := 12) (k := o) (by omega) hF.1 rfl inX8 8 (by decide) q876 (fun _ h9 => h9) rfl dX8_does_1 ?_
  rcases lsw_43_98_108_114 (k 4) with c1 | c1 | c1 | c1 | c1
  · refine lv_lookup (tgt := 48) X.1 X.2.1 dX8_does_4 (by decide) (by rw [c1] <;> rfl) (by decide) ?_
    refine lv_aload_n X.1 X.2.1 dX8_does_48 rfl (lv_at hl 0 rfl) ?_
    refine lv_aload_n X.1 X.2.1 dX8_does_49 rfl (lv_at hl 0 rfl) ?_
    refine x_get X hK hw (C := RX8) (T := TX8) (nf := 12) (k := o) (by omega) hF.1 rfl inX8 9 (by decide) q877 (fun _ h9 => h9) rfl dX8_does_50 ?_
    refine x_callV X hK hw (k := o) (As := [.int (k 5)]) (rest := []) (k_X8_doPass hI o a h sn tx k (k 5) (by omega) hF) (x_cwV yX8_doPass cX8_doPass 2 (some .int) 1 X q964 q966 qs25 q14 q967 hd_X8_doPass ⟨Nat.le_of_ble_eq_true rfl, Nat.le_of_ble_eq_true rfl⟩) (by omega) hF.1 rfl rfl hl.1 rfl (Nat.le_of_ble_eq_true rfl) dX8_does_53 ⟨Nat.le_of_ble_eq_true rfl, Nat.le_of_ble_eq_true rfl⟩ (fun r5 F2 H locs hp hw => ?_)
    obtain ⟨er6, hF3, hr4⟩ := hp
    refine x_top er6 ?_
    replace hfr := hfr.tr hr4 (by omega) (by omega)
    exact x_iret X hr hlk hK hw (v := (s_X8_doPass a h sn tx k (k 5)).1) rfl (auto_mo (by rw [s_X8_does, if_pos c1] : s_X8_does a h sn tx k nr np x1 = ((s_X8_doPass a h sn tx k (k 5)).1, ((s_X8_doPass a h sn tx k (k 5)).2.1), ((s_X8_doPass a h sn tx k (k 5)).2.2.1), ((s_X8_doPass a h sn tx k (k 5)).2.2.2.1), ((s_X8_doPass a h sn tx k (k 5)).2.2.2.2.1), ((s_X8_doPass a h sn tx k (k 5)).2.2.2.2.2))) hF3 hfr) dX8_does_56
  · refine lv_lookup (tgt := 75) X.1 X.2.1 dX8_does_4 (by decide) (by rw [c1] <;> rfl) (by decide) ?_
    have hne : ¬ k 4 = 43 := by rw [c1]; decide
    have hb := hx9 hne
    have hn := hn0 hne
    have hb0 := hbu c1
    refine lv_aload_n X.1 X.2.1 dX8_does_75 rfl (lv_at hl 0 rfl) ?_
    refine lv_aload_n X.1 X.2.1 dX8_does_76 rfl (lv_at hl 0 rfl) ?_
    refine x_get X hK hw (C := RX8) (T := TX8) (nf := 12) (k := o) (by omega) hF.1 rfl inX8 9 (by decide) q877 (fun _ h9 => h9) rfl dX8_does_77 ?_
    refine x_top (y := nI x1) h5 ?_
    refine lv_aload_n X.1 X.2.1 dX8_does_80 rfl (lv_at hl 0 rfl) ?_
    refine x_get X hK hw (C := RX8) (T := TX8) (nf := 12) (k := o) (by omega) hF.1 rfl inX8 10 (by decide) q878 (fun _ h9 => h9) rfl dX8_does_81 ?_
    refine x_callV X hK hw (k := o) (As := [.int (nI x1), .int (k 6)]) (rest := []) (k_X8_doBuoy hI o a h sn tx k x1 (k 6) nr (by omega) hF h2 (by omega) hn (by omega) hb0) (x_cwV yX8_doBuoy cX8_doBuoy 4 (some .int) 2 X q1004 q1006 qs33 q14 q1007 hd_X8_doBuoy ⟨Nat.le_of_ble_eq_true rfl, Nat.le_of_ble_eq_true rfl⟩) (by omega) hF.1 rfl rfl hl.1 rfl (Nat.le_of_ble_eq_true rfl) dX8_does_84 ⟨Nat.le_of_ble_eq_true rfl, Nat.le_of_ble_eq_true rfl⟩ (fun r10 F7 H locs hp hw => ?_)
    obtain ⟨er11, hF8, hr9⟩ := hp
    refine x_top er11 ?_
    replace hfr := hfr.tr hr9 (by omega) (by omega)
    exact x_iret X hr hlk hK hw (v := (s_X8_doBuoy a h sn tx k x1 (k 6) nr).1) rfl (auto_mo (by rw [s_X8_does, if_neg (by rw [c1]; decide), if_pos c1] : s_X8_does a h sn tx k nr np x1 = ((s_X8_doBuoy a h sn tx k x1 (k 6) nr).1, ((s_X8_doBuoy a h sn tx k x1 (k 6) nr).2.1), ((s_X8_doBuoy a h sn tx k x1 (k 6) nr).2.2.1), ((s_X8_doBuoy a h sn tx k x1 (k 6) nr).2.2.2.1), ((s_X8_doBuoy a h sn tx k x1 (k 6) nr).2.2.2.2.1), ((s_X8_doBuoy a h sn tx k x1 (k 6) nr).2.2.2.2.2))) hF8 hfr) dX8_does_87
  · refine lv_lookup (tgt := 57) X.1 X.2.1 dX8_does_4 (by decide) (by rw [c1] <;> rfl) (by decide) ?_
    have hne : ¬ k 4 = 43 := by rw [c1]; decide
    have hb := hx9 hne
    have hn := hn0 hne
    refine lv_aload_n X.1 X.2.1 dX8_does_57 rfl (lv_at hl 0 rfl) ?_
    refine lv_aload_n X.1 X.2.1 dX8_does_58 rfl (lv_at hl 0 rfl) ?_
    refine x_get X hK hw (C := RX8) (T := TX8) (nf := 12) (k := o) (by omega) hF.1 rfl inX8 9 (by decide) q877 (fun _ h9 => h9) rfl dX8_does_59 ?_
    refine x_top (y := nI x1) h5 ?_
    refine x_callV X hK hw (k := o) (As := [.int (nI x1)]) (rest := []) (k_X8_doLine hI o a h sn tx k x1 nr (by omega) hF h2 (by omega) hn (by omega)) (x_cwV yX8_doLine cX8_doLine 4 (some .int) 1 X q992 q994 qs31 q14 q995 hd_X8_doLine ⟨Nat.le_of_ble_eq_true rfl, Nat.le_of_ble_eq_true rfl⟩) (by omega) hF.1 rfl rfl hl.1 rfl (Nat.le_of_ble_eq_true rfl) dX8_does_62 ⟨Nat.le_of_ble_eq_true rfl, Nat.le_of_ble_eq_true rfl⟩ (fun r15 F12 H locs hp hw => ?_)
    obtain ⟨er16, hF13, hr14⟩ := hp
    refine x_top er16 ?_
    replace hfr := hfr.tr hr14 (by omega) (by omega)
    exact x_iret X hr hlk hK hw (v := (s_X8_doLine a h sn tx k x1 nr).1) rfl (auto_mo (by rw [s_X8_does, if_neg (by rw [c1]; decide), if_neg (by rw [c1]; decide), if_pos c1] : s_X8_does a h sn tx k nr np x1 = ((s_X8_doLine a h sn tx k x1 nr).1, ((s_X8_doLine a h sn tx k x1 nr).2.1), ((s_X8_doLine a h sn tx k x1 nr).2.2.1), ((s_X8_doLine a h sn tx k x1 nr).2.2.2.1), ((s_X8_doLine a h sn tx k x1 nr).2.2.2.2.1), ((s_X8_doLine a h sn tx k x1 nr).2.2.2.2.2))) hF13 hfr) dX8_does_65
  · refine lv_lookup (tgt := 66) X.1 X.2.1 dX8_does_4 (by decide) (by rw [c1] <;> rfl) (by decide) ?_
    have hne : ¬ k 4 = 43 := by rw [c1]; decide
    have hb := hx9 hne
    have hn := hn0 hne
    refine lv_aload_n X.1 X.2.1 dX8_does_66 rfl (lv_at hl 0 rfl) ?_
    refine lv_aload_n X.1 X.2.1 dX8_does_67 rfl (lv_at hl 0 rfl) ?_
    refine x_get X hK hw (C := RX8) (T := TX8) (nf := 12) (k := o) (by omega) hF.1 rfl inX8 9 (by decide) q877 (fun _ h9 => h9) rfl dX8_does_68 ?_
    refine x_top (y := nI x1) h5 ?_
    refine x_callV X hK hw (k := o) (As := [.int (nI x1)]) (rest := []) (k_X8_doRetire hI o a h sn tx k x1 nr (by omega) hF h2 (by omega) hn (by omega)) (x_cwV yX8_doRetire cX8_doRetire 3 (some .int) 1 X q1016 q1018 qs35 q14 q1019 hd_X8_doRetire ⟨Nat.le_of_ble_eq_true rfl, Nat.le_of_ble_eq_true rfl⟩) (by omega) hF.1 rfl rfl hl.1 rfl (Nat.le_of_ble_eq_true rfl) dX8_does_71 ⟨Nat.le_of_ble_eq_true rfl, Nat.le_of_ble_eq_true rfl⟩ (fun r20 F17 H locs hp hw => ?_)
    obtain ⟨er21, hF18, hr19⟩ := hp
    refine x_top er21 ?_
    replace hfr := hfr.tr hr19 (by omega) (by omega)
    exact x_iret X hr hlk hK hw (v := (s_X8_doRetire a h sn tx k x1 nr).1) rfl (auto_mo (by rw [s_X8_does, if_neg (by rw [c1]; decide), if_neg (by rw [c1]; decide), if_neg (by rw [c1]; decide), if_pos c1] : s_X8_does a h sn tx k nr np x1 = ((s_X8_doRetire a h sn tx k x1 nr).1, ((s_X8_doRetire a h sn tx k x1 nr).2.1), ((s_X8_doRetire a h sn tx k x1 nr).2.2.1), ((s_X8_doRetire a h sn tx k x1 nr).2.2.2.1), ((s_X8_doRetire a h sn tx k x1 nr).2.2.2.2.1), ((s_X8_doRetire a h sn tx k x1 nr).2.2.2.2.2))) hF18 hfr) dX8_does_74
  · refine lv_lookup (off := 84) (tgt := 88) X.1 X.2.1 dX8_does_4 (by decide) (lsd_of (ks := [43, 98, 108, 114]) (os := [44, 71, 53, 62]) c1) (by decide) ?_
    have hne : ¬ k 4 = 43 := c1 43 (by simp)
    refine lv_aload_n X.1 X.2.1 dX8_does_88 rfl (lv_at hl 0 rfl) ?_
    refine lv_aload_n X.1 X.2.1 dX8_does_89 rfl (lv_at hl 0 rfl) ?_
    refine x_get X hK hw (C := RX8) (T := TX8) (nf := 12) (k := o) (by omega) hF.1 rfl inX8 9 (by decide) q877 (fun _ h9 => h9) rfl dX8_does_90 ?_
    refine lv_aload_n X.1 X.2.1 dX8_does_93 rfl (lv_at hl 0 rfl) ?_
    refine x_get X hK hw (C := RX8) (T := TX8) (nf := 12) (k := o) (by omega) hF.1 rfl inX8 10 (by decide) q878 (fun _ h9 => h9) rfl dX8_does_94 ?_
    refine x_callV X hK hw (k := o) (As := [.int (k 5), .int (k 6)]) (rest := []) (k_X8_doHail hI o a h sn tx k (k 5) (k 6) np (by omega) hF h3 (by omega)) (x_cwV yX8_doHail cX8_doHail 4 (some .int) 2 X q1040 q1042 qs39 q14 q1043 hd_X8_doHail ⟨Nat.le_of_ble_eq_true rfl, Nat.le_of_ble_eq_true rfl⟩) (by omega) hF.1 rfl rfl hl.1 rfl (Nat.le_of_ble_eq_true rfl) dX8_does_97 ⟨Nat.le_of_ble_eq_true rfl, Nat.le_of_ble_eq_true rfl⟩ (fun r25 F22 H locs hp hw => ?_)
    obtain ⟨er26, hF23, hr24⟩ := hp
    refine x_top er26 ?_
    replace hfr := hfr.tr hr24 (by omega) (by omega)
    exact x_iret X hr hlk hK hw (v := (s_X8_doHail a h sn tx k (k 5) (k 6) np).1) rfl (auto_mo (by rw [s_X8_does, if_neg (c1 _ (by simp)), if_neg (c1 _ (by simp)), if_neg (c1 _ (by simp)), if_neg (c1 _ (by simp))] : s_X8_does a h sn tx k nr np x1 = ((s_X8_doHail a h sn tx k (k 5) (k 6) np).1, ((s_X8_doHail a h sn tx k (k 5) (k 6) np).2.1), ((s_X8_doHail a h sn tx k (k 5) (k 6) np).2.2.1), ((s_X8_doHail a h sn tx k (k 5) (k 6) np).2.2.2.1), ((s_X8_doHail a h sn tx k (k 5) (k 6) np).2.2.2.2.1), ((s_X8_doHail a h sn tx k (k 5) (k 6) np).2.2.2.2.2))) hF23 hfr) dX8_does_100
