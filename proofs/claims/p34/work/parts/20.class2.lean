def fdv (x y : Int32) : Int32 := if 0 ≤ x ^^^ y then x / y else (if x / y * y = x then x / y else x / y - nI 1)
set_option maxHeartbeats 4000000 in
set_option maxRecDepth 100000 in
theorem k_J9_floorDiv_7cf53 {l : Launch} {D : va_G} {cI cB cS : ClassId} {ad : Nat → Nat} {N : Nat} {F : Nat → va_E} (hI : iN ad N) (x : Int32) (y : Int32) (hy : ¬ y = 0) : Ci l D cI cB cS ad N yJ9_floorDiv_7cf53 cJ9_floorDiv_7cf53 3 (some .int) 0 0 [.int x, .int y] F (pP (fdv x y) F) := by
  refine x_metF (by decide +kernel) (Nat.le_of_ble_eq_true rfl) ?_
  intro p e s m below meth c X hr hlk hK hw ls hl
  replace hl : lv_has ls 3 [(0, .int x), (1, .int y)] := hl
  refine lv_iload_n X.1 X.2.1 dJ9_floorDiv_7cf53_0 rfl (lv_at hl 0 rfl) ?_
  refine lv_iload_n X.1 X.2.1 dJ9_floorDiv_7cf53_1 rfl (lv_at hl 1 rfl) ?_
  refine lv_idiv X.1 X.2.1 dJ9_floorDiv_7cf53_2 hy ?_
  refine lv_istore_n (lv' := [(2, .int (x / y)), (0, .int x), (1, .int y)]) X.1 X.2.1 dJ9_floorDiv_7cf53_3 rfl hl (by decide) rfl (fun ls hl => ?_)
  refine lv_iload_n X.1 X.2.1 dJ9_floorDiv_7cf53_4 rfl (lv_at hl 1 rfl) ?_
  refine lv_iload_n X.1 X.2.1 dJ9_floorDiv_7cf53_5 rfl (lv_at hl 2 rfl) ?_
  refine lv_ixor X.1 X.2.1 dJ9_floorDiv_7cf53_6 ?_
  refine lv_if_ge (tgt := 21) X.1 X.2.1 dJ9_floorDiv_7cf53_7 (by decide) (fun c1 => ?_) (fun c1 => ?_)
  · refine lv_iload_n X.1 X.2.1 dJ9_floorDiv_7cf53_21 rfl (lv_at hl 0 rfl) ?_
    exact x_iret X hr hlk hK hw (v := x / y) rfl (⟨by rw [fdv, if_pos c1], rfl⟩) dJ9_floorDiv_7cf53_22
  · refine lv_iload_n X.1 X.2.1 dJ9_floorDiv_7cf53_10 rfl (lv_at hl 0 rfl) ?_
    refine lv_iload_n X.1 X.2.1 dJ9_floorDiv_7cf53_11 rfl (lv_at hl 2 rfl) ?_
    refine lv_imul X.1 X.2.1 dJ9_floorDiv_7cf53_12 ?_
    refine lv_iload_n X.1 X.2.1 dJ9_floorDiv_7cf53_13 rfl (lv_at hl 1 rfl) ?_
    refine lv_icmp_eq (tgt := 21) X.1 X.2.1 dJ9_floorDiv_7cf53_14 (by decide) (fun c2 => ?_) (fun c2 => ?_)
    · refine lv_iload_n X.1 X.2.1 dJ9_floorDiv_7cf53_21 rfl (lv_at hl 0 rfl) ?_
      exact x_iret X hr hlk hK hw (v := x / y) rfl (⟨by rw [fdv, if_neg c1, if_pos c2], rfl⟩) dJ9_floorDiv_7cf53_22
    · refine lv_iload_n X.1 X.2.1 dJ9_floorDiv_7cf53_17 rfl (lv_at hl 0 rfl) ?_
      refine lv_iconst (v := nI 1) X.1 X.2.1 dJ9_floorDiv_7cf53_18 (by decide) ?_
      refine lv_isub X.1 X.2.1 dJ9_floorDiv_7cf53_19 ?_
      exact x_iret X hr hlk hK hw (v := (x / y) - (nI 1)) rfl (⟨by rw [fdv, if_neg c1, if_neg c2], rfl⟩) dJ9_floorDiv_7cf53_20
theorem hd_J9_floorDiv_7cf53 : yJ9_floorDiv_7cf53.cls = RJ9 ∧ yJ9_floorDiv_7cf53.cls ≠ "java/lang/invoke/MethodHandle" ∧ yJ9_floorDiv_7cf53.cls ≠ "java/lang/invoke/VarHandle" ∧ (parseMethodDescriptor yJ9_floorDiv_7cf53.desc).map (fun d => d.parameters.length) = some 2 := by decide +kernel
theorem hd_X4_leader : yX4_leader.cls = RX4 ∧ yX4_leader.cls ≠ "java/lang/invoke/MethodHandle" ∧ yX4_leader.cls ≠ "java/lang/invoke/VarHandle" ∧ (parseMethodDescriptor yX4_leader.desc).map (fun d => d.parameters.length) = some 1 := by decide +kernel
def s_X4_secondsToLead (g : Nat → Int32) (t : Nat → Nat → Int32) (tm : Nat → Int32) (x : Int32) (nb : Nat) : Int32 := (if (sc_ld (sc_rt t (g 2 - nI 1) tm nb) nb nb 0) = ((-5)) then (-5) else (if 0 ≤ ((fdv (((tg 1 9 ((sc_rt t (g 2 - nI 1) tm nb)) (sc_ld (sc_rt t (g 2 - nI 1) tm nb) nb nb 0) (nI 0)) * (tg 1 9 ((t 0)) x (nI 0))) - (nI 1)) (nI 100)) - (c_eu t (g 0) (g 2 - nI 1) x)) then (fdv (((tg 1 9 ((sc_rt t (g 2 - nI 1) tm nb)) (sc_ld (sc_rt t (g 2 - nI 1) tm nb) nb nb 0) (nI 0)) * (tg 1 9 ((t 0)) x (nI 0))) - (nI 1)) (nI 100)) - (c_eu t (g 0) (g 2 - nI 1) x) else (-5)))
set_option maxHeartbeats 4000000 in
set_option maxRecDepth 100000 in
theorem k_X4_secondsToLead {l : Launch} {D : va_G} {cI cB cS : ClassId} {ad : Nat → Nat} {N : Nat} {F : Nat → va_E} (hI : iN ad N) (q : Nat) (b : Nat) (g : Nat → Int32) (t : Nat → Nat → Int32) (tm : Nat → Int32) (pt : Nat → Int32) (sm : Nat → Int32) (tl : Nat → Int32) (x : Int32) (nb : Nat) (hq : q + 9 ≤ N) (hqb : q + 9 ≤ b ∨ b + 11 ≤ q) (hQ : ScF ad cI F q b tm pt sm tl) (hb : b + 11 ≤ N) (hF : StF ad cI F b g t) (hg : g 1 = nI nb) (hnb : nb < 2 ^ 31) : Ci l D cI cB cS ad N yX4_secondsToLead cX4_secondsToLead 7 (some .int) 5 115 [.ref (ad q), .int x] F (fun r F' => r = s_X4_secondsToLead g t tm x nb ∧ ScF ad cI F' q b (sc_rt t (g 2 - nI 1) tm nb) (pt) (sm) (tl) ∧ Fr F F' q (q + 9)) := by
  refine x_met (by decide +kernel) (Nat.le_of_ble_eq_true rfl) ?_
  intro p e s m below meth c X hr hlk hK hw ls hl
  replace hl : lv_has ls 7 [(0, .ref (ad q)), (1, .int x)] := hl
  have hfr : Fr F F (q) (q + 9) := Fr.rf
  refine lv_aload_n X.1 X.2.1 dX4_secondsToLead_0 rfl (lv_at hl 0 rfl) ?_
  refine x_get X hK hw (C := RX4) (T := TX4) (nf := 5) (k := q) (by omega) hQ.1 rfl inX4 0 (by decide) q141 (fun _ h9 => h9) rfl dX4_secondsToLead_1 ?_
  refine x_callVP X hK hw (k := b) (As := []) (rest := []) (k_X5_latestRace hI b g t (by omega) hF) (x_cwV yX5_latestRace cX5_latestRace 1 (some .int) 0 X q843 q298 q299 q2 q300 hd_X5_latestRace ⟨Nat.le_of_ble_eq_true rfl, Nat.le_of_ble_eq_true rfl⟩) (by omega) hF.1 rfl rfl hl.1 rfl (Nat.le_of_ble_eq_true rfl) dX4_secondsToLead_4 ⟨Nat.le_of_ble_eq_true rfl, Nat.le_of_ble_eq_true rfl⟩ (fun H locs hw => ?_)
  refine lv_istore_n (lv' := [(2, .int (g 2 - nI 1)), (0, .ref (ad q)), (1, .int x)]) X.1 X.2.1 dX4_secondsToLead_7 rfl hl (by decide) rfl (fun ls hl => ?_)
  refine lv_aload_n X.1 X.2.1 dX4_secondsToLead_8 rfl (lv_at hl 1 rfl) ?_
  refine lv_iload_n X.1 X.2.1 dX4_secondsToLead_9 rfl (lv_at hl 0 rfl) ?_
  refine x_callV X hK hw (k := q) (As := [.int (g 2 - nI 1)]) (rest := []) (k_X4_leader hI q b g t tm pt sm tl (g 2 - nI 1) nb (by omega) (by omega) hQ (by omega) hF hg hnb) (x_cwV yX4_leader cX4_leader 3 (some .int) 1 X q844 q810 q811 q7 q812 hd_X4_leader ⟨Nat.le_of_ble_eq_true rfl, Nat.le_of_ble_eq_true rfl⟩) (by omega) hQ.1 rfl rfl hl.1 rfl (Nat.le_of_ble_eq_true rfl) dX4_secondsToLead_10 ⟨Nat.le_of_ble_eq_true rfl, Nat.le_of_ble_eq_true rfl⟩ (fun r4 F1 H locs hp hw => ?_)
  obtain ⟨er5, hS2, hr3⟩ := hp
  refine x_top er5 ?_
  have hq6 := hF.cg hr3 (by omega)
  replace hfr := hfr.tr hr3 (by omega) (by omega)
  refine lv_istore_n (lv' := [(3, .int (sc_ld (sc_rt t (g 2 - nI 1) tm nb) nb nb 0)), (2, .int (g 2 - nI 1)), (0, .ref (ad q)), (1, .int x)]) X.1 X.2.1 dX4_secondsToLead_13 rfl hl (by decide) rfl (fun ls hl => ?_)
  refine lv_iload_n X.1 X.2.1 dX4_secondsToLead_14 rfl (lv_at hl 0 rfl) ?_
  refine lv_bipush (v := (-5)) X.1 X.2.1 dX4_secondsToLead_15 (by decide) ?_
  refine lv_icmp_ne (tgt := 23) X.1 X.2.1 dX4_secondsToLead_17 (by decide) (fun c7 => ?_) (fun c7 => ?_)
  · refine lv_aload_n X.1 X.2.1 dX4_secondsToLead_23 rfl (lv_at hl 2 rfl) ?_
    refine x_get X hK hw (C := RX4) (T := TX4) (nf := 5) (k := q) (by omega) hS2.1 rfl inX4 1 (by decide) q142 (fun _ h9 => h9) rfl dX4_secondsToLead_24 ?_
    refine lv_iload_n X.1 X.2.1 dX4_secondsToLead_27 rfl (lv_at hl 0 rfl) ?_
    refine lv_iconst (v := nI 0) X.1 X.2.1 dX4_secondsToLead_28 (by decide) ?_
    refine x_callVP X hK hw (k := (q + 1)) (As := [.int (sc_ld (sc_rt t (g 2 - nI 1) tm nb) nb nb 0), .int (nI 0)]) (rest := []) (k_X6_get hI ((q + 1)) 1 9 ((sc_rt t (g 2 - nI 1) tm nb)) (sc_ld (sc_rt t (g 2 - nI 1) tm nb) nb nb 0) (nI 0) (by omega) (by omega) hS2.2.1) (x_cwV yX6_get cX6_get 4 (some .int) 2 X q739 q327 q328 q3 q329 hd_X6_get ⟨Nat.le_of_ble_eq_true rfl, Nat.le_of_ble_eq_true rfl⟩) (by omega) hS2.2.1.1 rfl rfl hl.1 rfl (Nat.le_of_ble_eq_true rfl) dX4_secondsToLead_29 ⟨Nat.le_of_ble_eq_true rfl, Nat.le_of_ble_eq_true rfl⟩ (fun H locs hw => ?_)
    refine lv_aload_n X.1 X.2.1 dX4_secondsToLead_32 rfl (lv_at hl 2 rfl) ?_
    refine x_get X hK hw (C := RX4) (T := TX4) (nf := 5) (k := q) (by omega) hS2.1 rfl inX4 0 (by decide) q141 (fun _ h9 => h9) rfl dX4_secondsToLead_33 ?_
    refine x_get X hK hw (C := RX5) (T := TX5) (nf := 10) (k := b) (by omega) hq6.1 rfl inX5 5 (by decide) q78 (fun _ h9 => h9) rfl dX4_secondsToLead_36 ?_
    refine lv_iload_n X.1 X.2.1 dX4_secondsToLead_39 rfl (lv_at hl 3 rfl) ?_
    refine lv_iconst (v := nI 0) X.1 X.2.1 dX4_secondsToLead_40 (by decide) ?_
    refine x_callVP X hK hw (k := (b + 1)) (As := [.int x, .int (nI 0)]) (rest := [.int (tg 1 9 ((sc_rt t (g 2 - nI 1) tm nb)) (sc_ld (sc_rt t (g 2 - nI 1) tm nb) nb nb 0) (nI 0))]) (k_X6_get hI ((b + 1)) 1 9 ((t 0)) x (nI 0) (by omega) (by omega) hq6.2.1) (x_cwV yX6_get cX6_get 4 (some .int) 2 X q739 q327 q328 q3 q329 hd_X6_get ⟨Nat.le_of_ble_eq_true rfl, Nat.le_of_ble_eq_true rfl⟩) (by omega) hq6.2.1.1 rfl rfl hl.1 rfl (Nat.le_of_ble_eq_true rfl) dX4_secondsToLead_41 ⟨Nat.le_of_ble_eq_true rfl, Nat.le_of_ble_eq_true rfl⟩ (fun H locs hw => ?_)
    refine lv_imul X.1 X.2.1 dX4_secondsToLead_44 ?_
    refine lv_istore (lv' := [(4, .int ((tg 1 9 ((sc_rt t (g 2 - nI 1) tm nb)) (sc_ld (sc_rt t (g 2 - nI 1) tm nb) nb nb 0) (nI 0)) * (tg 1 9 ((t 0)) x (nI 0)))), (3, .int (sc_ld (sc_rt t (g 2 - nI 1) tm nb) nb nb 0)), (2, .int (g 2 - nI 1)), (0, .ref (ad q)), (1, .int x)]) X.1 X.2.1 dX4_secondsToLead_45 hl (by decide) rfl (fun ls hl => ?_)
    refine lv_iload X.1 X.2.1 dX4_secondsToLead_47 (lv_at hl 0 rfl) ?_
    refine lv_iconst (v := nI 1) X.1 X.2.1 dX4_secondsToLead_49 (by decide) ?_
    refine lv_isub X.1 X.2.1 dX4_secondsToLead_50 ?_
    refine lv_bipush (v := nI 100) X.1 X.2.1 dX4_secondsToLead_51 (by decide) ?_
    refine x_callSP X hK hw (As := [.int (((tg 1 9 ((sc_rt t (g 2 - nI 1) tm nb)) (sc_ld (sc_rt t (g 2 - nI 1) tm nb) nb nb 0) (nI 0)) * (tg 1 9 ((t 0)) x (nI 0))) - (nI 1)), .int (nI 100)]) (rest := []) (k_J9_floorDiv_7cf53 hI (((tg 1 9 ((sc_rt t (g 2 - nI 1) tm nb)) (sc_ld (sc_rt t (g 2 - nI 1) tm nb) nb nb 0) (nI 0)) * (tg 1 9 ((t 0)) x (nI 0))) - (nI 1)) (nI 100) (by decide)) (x_cwS2 yJ9_floorDiv_7cf53 cJ9_floorDiv_7cf53 3 (some .int) 2 X q845 q846 q4 q847 hd_J9_floorDiv_7cf53.2 ⟨Nat.le_of_ble_eq_true rfl, Nat.le_of_ble_eq_true rfl⟩) rfl hl.1 rfl (Nat.le_of_ble_eq_true rfl) dX4_secondsToLead_53 ⟨Nat.le_of_ble_eq_true rfl, Nat.le_of_ble_eq_true rfl⟩ (fun H locs hw => ?_)
    refine lv_istore (lv' := [(5, .int (fdv (((tg 1 9 ((sc_rt t (g 2 - nI 1) tm nb)) (sc_ld (sc_rt t (g 2 - nI 1) tm nb) nb nb 0) (nI 0)) * (tg 1 9 ((t 0)) x (nI 0))) - (nI 1)) (nI 100))), (4, .int ((tg 1 9 ((sc_rt t (g 2 - nI 1) tm nb)) (sc_ld (sc_rt t (g 2 - nI 1) tm nb) nb nb 0) (nI 0)) * (tg 1 9 ((t 0)) x (nI 0)))), (3, .int (sc_ld (sc_rt t (g 2 - nI 1) tm nb) nb nb 0)), (2, .int (g 2 - nI 1)), (0, .ref (ad q)), (1, .int x)]) X.1 X.2.1 dX4_secondsToLead_56 hl (by decide) rfl (fun ls hl => ?_)
    refine lv_iload X.1 X.2.1 dX4_secondsToLead_58 (lv_at hl 0 rfl) ?_
    refine lv_aload_n X.1 X.2.1 dX4_secondsToLead_60 rfl (lv_at hl 4 rfl) ?_
    refine x_get X hK hw (C := RX4) (T := TX4) (nf := 5) (k := q) (by omega) hS2.1 rfl inX4 0 (by decide) q141 (fun _ h9 => h9) rfl dX4_secondsToLead_61 ?_
    refine lv_aload_n X.1 X.2.1 dX4_secondsToLead_64 rfl (lv_at hl 4 rfl) ?_
    refine x_get X hK hw (C := RX4) (T := TX4) (nf := 5) (k := q) (by omega) hS2.1 rfl inX4 0 (by decide) q141 (fun _ h9 => h9) rfl dX4_secondsToLead_65 ?_
    refine x_get X hK hw (C := RX5) (T := TX5) (nf := 10) (k := b) (by omega) hq6.1 rfl inX5 0 (by decide) q60 (fun _ h9 => h9) rfl dX4_secondsToLead_68 ?_
    refine lv_iload_n X.1 X.2.1 dX4_secondsToLead_71 rfl (lv_at hl 3 rfl) ?_
    refine lv_iload_n X.1 X.2.1 dX4_secondsToLead_72 rfl (lv_at hl 5 rfl) ?_
    refine x_callVP X hK hw (k := b) (As := [.int (g 0), .int (g 2 - nI 1), .int x]) (rest := [.int (fdv (((tg 1 9 ((sc_rt t (g 2 - nI 1) tm nb)) (sc_ld (sc_rt t (g 2 - nI 1) tm nb) nb nb 0) (nI 0)) * (tg 1 9 ((t 0)) x (nI 0))) - (nI 1)) (nI 100))]) (k_X5_elapsedUntil hI b g t (g 0) (g 2 - nI 1) x (by omega) hq6) (x_cwV yX5_elapsedUntil cX5_elapsedUntil 4 (some .int) 3 X q848 q715 q716 q2 q717 hd_X5_elapsedUntil ⟨Nat.le_of_ble_eq_true rfl, Nat.le_of_ble_eq_true rfl⟩) (by omega) hq6.1 rfl rfl hl.1 rfl (Nat.le_of_ble_eq_true rfl) dX4_secondsToLead_73 ⟨Nat.le_of_ble_eq_true rfl, Nat.le_of_ble_eq_true rfl⟩ (fun H locs hw => ?_)
    refine lv_isub X.1 X.2.1 dX4_secondsToLead_76 ?_
    refine lv_istore (lv' := [(6, .int ((fdv (((tg 1 9 ((sc_rt t (g 2 - nI 1) tm nb)) (sc_ld (sc_rt t (g 2 - nI 1) tm nb) nb nb 0) (nI 0)) * (tg 1 9 ((t 0)) x (nI 0))) - (nI 1)) (nI 100)) - (c_eu t (g 0) (g 2 - nI 1) x))), (5, .int (fdv (((tg 1 9 ((sc_rt t (g 2 - nI 1) tm nb)) (sc_ld (sc_rt t (g 2 - nI 1) tm nb) nb nb 0) (nI 0)) * (tg 1 9 ((t 0)) x (nI 0))) - (nI 1)) (nI 100))), (4, .int ((tg 1 9 ((sc_rt t (g 2 - nI 1) tm nb)) (sc_ld (sc_rt t (g 2 - nI 1) tm nb) nb nb 0) (nI 0)) * (tg 1 9 ((t 0)) x (nI 0)))), (3, .int (sc_ld (sc_rt t (g 2 - nI 1) tm nb) nb nb 0)), (2, .int (g 2 - nI 1)), (0, .ref (ad q)), (1, .int x)]) X.1 X.2.1 dX4_secondsToLead_77 hl (by decide) rfl (fun ls hl => ?_)
    refine lv_iload X.1 X.2.1 dX4_secondsToLead_79 (lv_at hl 0 rfl) ?_
    refine lv_if_ge (tgt := 89) X.1 X.2.1 dX4_secondsToLead_81 (by decide) (fun c8 => ?_) (fun c8 => ?_)
    · refine lv_iload X.1 X.2.1 dX4_secondsToLead_89 (lv_at hl 0 rfl) ?_
      exact x_iret X hr hlk hK hw (v := (fdv (((tg 1 9 ((sc_rt t (g 2 - nI 1) tm nb)) (sc_ld (sc_rt t (g 2 - nI 1) tm nb) nb nb 0) (nI 0)) * (tg 1 9 ((t 0)) x (nI 0))) - (nI 1)) (nI 100)) - (c_eu t (g 0) (g 2 - nI 1) x)) rfl (⟨(by rw [s_X4_secondsToLead, if_neg c7, if_pos c8] : s_X4_secondsToLead g t tm x nb = (fdv (((tg 1 9 ((sc_rt t (g 2 - nI 1) tm nb)) (sc_ld (sc_rt t (g 2 - nI 1) tm nb) nb nb 0) (nI 0)) * (tg 1 9 ((t 0)) x (nI 0))) - (nI 1)) (nI 100)) - (c_eu t (g 0) (g 2 - nI 1) x)).symm, hS2, hfr⟩) dX4_secondsToLead_91
    · refine lv_bipush (v := (-5)) X.1 X.2.1 dX4_secondsToLead_84 (by decide) ?_
      refine lv_goto (tgt := 91) X.1 X.2.1 dX4_secondsToLead_86 (by decide) ?_
      exact x_iret X hr hlk hK hw (v := (-5)) rfl (⟨(by rw [s_X4_secondsToLead, if_neg c7, if_neg c8] : s_X4_secondsToLead g t tm x nb = (-5)).symm, hS2, hfr⟩) dX4_secondsToLead_91
  · refine lv_bipush (v := (-5)) X.1 X.2.1 dX4_secondsToLead_20 (by decide) ?_
    exact x_iret X hr hlk hK hw (v := (-5)) rfl (⟨(by rw [s_X4_secondsToLead, if_pos c7] : s_X4_secondsToLead g t tm x nb = (-5)).symm, hS2, hfr⟩) dX4_secondsToLead_22
theorem lt3_of {x : Int32} (h1 : ¬ x < 0) (h2 : x < nI 3) : x.toNatClampNeg < 3 ∧ x = nI x.toNatClampNeg := by
  obtain ⟨j, hj, rfl⟩ := nI_of (x := x) h1
  rw [nI_ltI hj (by omega)] at h2
  rw [nI_clamp hj]
  exact ⟨h2, rfl⟩
def s_X0_changeSetting (g : Nat → Int32) (t : Nat → Nat → Int32) (x : Int32) (y : Int32) : Int32 × (Nat → Int32) × (Nat → Nat → Int32) := (if x < 0 then ((-1), g, t) else (if x < (nI 3) then (if y < ((([1, 1, 0] : List Int32)).getD x.toNatClampNeg 0) then ((-2), g, t) else (if y ≤ ((([3600, 300, 6] : List Int32)).getD x.toNatClampNeg 0) then (tg 1 3 (t 1) (nI x.toNatClampNeg) (nI 0), g, (va_up t 1 (tp 1 3 ((t 1)) (nI x.toNatClampNeg) (nI 0) y))) else ((-2), g, t))) else ((-1), g, t)))
set_option maxHeartbeats 4000000 in
set_option maxRecDepth 100000 in
theorem k_X0_changeSetting {l : Launch} {D : va_G} {cI cB cS : ClassId} {ad : Nat → Nat} {N : Nat} {F : Nat → va_E} (hI : iN ad N) (q : Nat) (b : Nat) (g : Nat → Int32) (t : Nat → Nat → Int32) (x : Int32) (y : Int32) (hq : q + 1 ≤ N) (hqb : q + 1 ≤ b ∨ b + 11 ≤ q) (hQ : CoF ad F q b) (hb : b + 11 ≤ N) (hF : StF ad cI F b g t) : Ci l D cI cB cS ad N yX0_changeSetting cX0_changeSetting 4 (some .int) 2 44 [.ref (ad q), .int x, .int y] F (fun r F' => r = (s_X0_changeSetting g t x y).1 ∧ StF ad cI F' b (s_X0_changeSetting g t x y).2.1 (s_X0_changeSetting g t x y).2.2 ∧ Fr F F' b (b + 11)) := by
  refine x_met (by decide +kernel) (Nat.le_of_ble_eq_true rfl) ?_
  intro p e s m below meth c X hr hlk hK hw ls hl
  replace hl : lv_has ls 4 [(0, .ref (ad q)), (1, .int x), (2, .int y)] := hl
  have hfr : Fr F F (b) (b + 11) := Fr.rf
  obtain ⟨tL, hzL, hTL⟩ := hK.2.1.2.1
  obtain ⟨tG, hzG, hTG⟩ := hK.2.1.2.2.1
  refine lv_iload_n X.1 X.2.1 dX0_changeSetting_0 rfl (lv_at hl 1 rfl) ?_
  refine lv_if_lt (tgt := 9) X.1 X.2.1 dX0_changeSetting_1 (by decide) (fun c1 => ?_) (fun c1 => ?_)
  · refine lv_iconst (v := (-1)) X.1 X.2.1 dX0_changeSetting_9 (by decide) ?_
    exact x_iret X hr hlk hK hw (v := (-1)) rfl (auto_st (by rw [s_X0_changeSetting, if_pos c1] : s_X0_changeSetting g t x y = ((-1), g, t)) hF hfr) dX0_changeSetting_10
  · refine lv_iload_n X.1 X.2.1 dX0_changeSetting_4 rfl (lv_at hl 1 rfl) ?_
    refine lv_iconst (v := nI 3) X.1 X.2.1 dX0_changeSetting_5 (by decide) ?_
    refine lv_icmp_lt (tgt := 11) X.1 X.2.1 dX0_changeSetting_6 (by decide) (fun c2 => ?_) (fun c2 => ?_)
    · have ⟨hj, hx⟩ := lt3_of c1 c2
      rw [hx] at hl
      replace hl : lv_has ls 4 [(0, .ref (ad q)), (1, .int (nI x.toNatClampNeg)), (2, .int y)] := hl
      refine lv_iload_n X.1 X.2.1 dX0_changeSetting_11 rfl (lv_at hl 2 rfl) ?_
      refine x_zget X hw hzL hK.2.2.2.1 dX0_changeSetting_12 ?_
      refine lv_iload_n X.1 X.2.1 dX0_changeSetting_15 rfl (lv_at hl 1 rfl) ?_
      refine x_zld X hw hTL rfl hj dX0_changeSetting_16 ?_
      refine lv_icmp_lt (tgt := 29) X.1 X.2.1 dX0_changeSetting_17 (by decide) (fun c3 => ?_) (fun c3 => ?_)
      · refine lv_bipush (v := (-2)) X.1 X.2.1 dX0_changeSetting_29 (by decide) ?_
        exact x_iret X hr hlk hK hw (v := (-2)) rfl (auto_st (by rw [s_X0_changeSetting, if_neg c1, if_pos c2, if_pos c3] : s_X0_changeSetting g t x y = ((-2), g, t)) hF hfr) dX0_changeSetting_31
      · refine lv_iload_n X.1 X.2.1 dX0_changeSetting_20 rfl (lv_at hl 2 rfl) ?_
        refine x_zget X hw hzG hK.2.2.2.2 dX0_changeSetting_21 ?_
        refine lv_iload_n X.1 X.2.1 dX0_changeSetting_24 rfl (lv_at hl 1 rfl) ?_
        refine x_zld X hw hTG rfl hj dX0_changeSetting_25 ?_
        refine lv_icmp_le (tgt := 32) X.1 X.2.1 dX0_changeSetting_26 (by decide) (fun c4 => ?_) (fun c4 => ?_)
        · refine lv_aload_n X.1 X.2.1 dX0_changeSetting_32 rfl (lv_at hl 0 rfl) ?_
          refine x_get X hK hw (C := RX0) (T := TX0) (nf := 1) (k := q) (by omega) hQ rfl inX0 0 (by decide) q119 (fun _ h9 => h9) rfl dX0_changeSetting_33 ?_
          refine lv_iload_n X.1 X.2.1 dX0_changeSetting_36 rfl (lv_at hl 1 rfl) ?_
          refine x_callVP X hK hw (k := b) (As := [.int (nI x.toNatClampNeg)]) (rest := []) (k_X5_setting hI b g t (nI x.toNatClampNeg) (by omega) hF) (x_cwV yX5_setting cX5_setting 2 (some .int) 1 X q475 q441 q442 q2 q443 hd_X5_setting ⟨Nat.le_of_ble_eq_true rfl, Nat.le_of_ble_eq_true rfl⟩) (by omega) hF.1 rfl rfl hl.1 rfl (Nat.le_of_ble_eq_true rfl) dX0_changeSetting_37 ⟨Nat.le_of_ble_eq_true rfl, Nat.le_of_ble_eq_true rfl⟩ (fun H locs hw => ?_)
          refine lv_istore_n (lv' := [(3, .int (tg 1 3 (t 1) (nI x.toNatClampNeg) (nI 0))), (0, .ref (ad q)), (1, .int (nI x.toNatClampNeg)), (2, .int y)]) X.1 X.2.1 dX0_changeSetting_40 rfl hl (by decide) rfl (fun ls hl => ?_)
          refine lv_aload_n X.1 X.2.1 dX0_changeSetting_41 rfl (lv_at hl 1 rfl) ?_
          refine x_get X hK hw (C := RX0) (T := TX0) (nf := 1) (k := q) (by omega) hQ rfl inX0 0 (by decide) q119 (fun _ h9 => h9) rfl dX0_changeSetting_42 ?_
          refine x_get X hK hw (C := RX5) (T := TX5) (nf := 10) (k := b) (by omega) hF.1 rfl inX5 6 (by decide) q81 (fun _ h9 => h9) rfl dX0_changeSetting_45 ?_
          refine lv_iload_n X.1 X.2.1 dX0_changeSetting_48 rfl (lv_at hl 2 rfl) ?_
          refine lv_iconst (v := nI 0) X.1 X.2.1 dX0_changeSetting_49 (by decide) ?_
          refine lv_iload_n X.1 X.2.1 dX0_changeSetting_50 rfl (lv_at hl 3 rfl) ?_
          refine x_callVv X hK hw (k := (b + 3)) (As := [.int (nI x.toNatClampNeg), .int (nI 0), .int y]) (rest := []) (k_X6_put hI ((b + 3)) 1 3 ((t 1)) (nI x.toNatClampNeg) (nI 0) y (by omega) (by omega) hF.2.2.1) (x_cwV yX6_put cX6_put 5 none 3 X q275 q54 q55 q3 q56 hd_X6_put ⟨Nat.le_of_ble_eq_true rfl, Nat.le_of_ble_eq_true rfl⟩) (by omega) hF.2.2.1.1 rfl rfl hl.1 rfl (Nat.le_of_ble_eq_true rfl) dX0_changeSetting_51 ⟨Nat.le_of_ble_eq_true rfl, Nat.le_of_ble_eq_true rfl⟩ (fun F5 H locs hp hw => ?_)
          obtain ⟨hT6, hr7⟩ := hp
          have hF8 := hF.tb1 hT6 hr7
          have hq9 := (hr7 _ (by omega)).trans hQ
          replace hfr := hfr.tr hr7 (by omega) (by omega)
          refine lv_iload_n X.1 X.2.1 dX0_changeSetting_54 rfl (lv_at hl 0 rfl) ?_
          exact x_iret X hr hlk hK hw (v := tg 1 3 (t 1) (nI x.toNatClampNeg) (nI 0)) rfl (auto_st (by rw [s_X0_changeSetting, if_neg c1, if_pos c2, if_neg c3, if_pos c4] : s_X0_changeSetting g t x y = (tg 1 3 (t 1) (nI x.toNatClampNeg) (nI 0), g, (va_up t 1 (tp 1 3 ((t 1)) (nI x.toNatClampNeg) (nI 0) y)))) hF8 hfr) dX0_changeSetting_55
        · refine lv_bipush (v := (-2)) X.1 X.2.1 dX0_changeSetting_29 (by decide) ?_
          exact x_iret X hr hlk hK hw (v := (-2)) rfl (auto_st (by rw [s_X0_changeSetting, if_neg c1, if_pos c2, if_neg c3, if_neg c4] : s_X0_changeSetting g t x y = ((-2), g, t)) hF hfr) dX0_changeSetting_31
    · refine lv_iconst (v := (-1)) X.1 X.2.1 dX0_changeSetting_9 (by decide) ?_
      exact x_iret X hr hlk hK hw (v := (-1)) rfl (auto_st (by rw [s_X0_changeSetting, if_neg c1, if_neg c2] : s_X0_changeSetting g t x y = ((-1), g, t)) hF hfr) dX0_changeSetting_10
