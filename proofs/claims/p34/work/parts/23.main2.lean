theorem hd_X4_pointsIn : yX4_pointsIn.cls = RX4 ∧ yX4_pointsIn.cls ≠ "java/lang/invoke/MethodHandle" ∧ yX4_pointsIn.cls ≠ "java/lang/invoke/VarHandle" ∧ (parseMethodDescriptor yX4_pointsIn.desc).map (fun d => d.parameters.length) = some 2 := by decide +kernel
theorem hd_X5_elapsed : yX5_elapsed.cls = RX5 ∧ yX5_elapsed.cls ≠ "java/lang/invoke/MethodHandle" ∧ yX5_elapsed.cls ≠ "java/lang/invoke/VarHandle" ∧ (parseMethodDescriptor yX5_elapsed.desc).map (fun d => d.parameters.length) = some 2 := by decide +kernel
theorem hd_X5_hasRace : yX5_hasRace.cls = RX5 ∧ yX5_hasRace.cls ≠ "java/lang/invoke/MethodHandle" ∧ yX5_hasRace.cls ≠ "java/lang/invoke/VarHandle" ∧ (parseMethodDescriptor yX5_hasRace.desc).map (fun d => d.parameters.length) = some 1 := by decide +kernel
theorem hd_X5_isClosed : yX5_isClosed.cls = RX5 ∧ yX5_isClosed.cls ≠ "java/lang/invoke/MethodHandle" ∧ yX5_isClosed.cls ≠ "java/lang/invoke/VarHandle" ∧ (parseMethodDescriptor yX5_isClosed.desc).map (fun d => d.parameters.length) = some 1 := by decide +kernel
def s_X7_result (g : Nat → Int32) (t : Nat → Nat → Int32) (tm1 : Nat → Int32) (x : Int32) (y : Int32) (w : Int32) (nb : Nat) : Int32 := (if ¬ x < 0 ∧ ¬ g 2 ≤ x then (if ¬ y < 0 ∧ ¬ g 1 ≤ y then (if w = 0 then tg 6 324 ((t 3)) (x * nI 9 + y) w else (if w = 1 then tg 6 324 ((t 3)) (x * nI 9 + y) w else (if w = 2 then tg 6 324 ((t 3)) (x * nI 9 + y) w else (if w = 3 then tg 6 324 ((t 3)) (x * nI 9 + y) w else (if w = 4 then tg 6 324 ((t 3)) (x * nI 9 + y) w else (if w = 5 then c_el t x y else (if w = 6 then c_co t x y else (if w = 7 then (if ¬ x < 0 ∧ ¬ c_cl g ≤ x then s_place (sc_rt t x tm1 nb) y nb else (-5)) else (if w = 8 then (if ¬ x < 0 ∧ ¬ c_cl g ≤ x then s_X4_pointsFor g t x y (s_place (sc_rt t x tm1 nb) y nb) else (-5)) else (-2)))))))))) else (-1)) else (-1))
set_option maxHeartbeats 4000000 in
set_option maxRecDepth 100000 in
theorem k_X7_result {l : Launch} {D : va_G} {cI cB cS : ClassId} {ad : Nat → Nat} {N : Nat} {F : Nat → va_E} (hI : iN ad N) (q : Nat) (hs : Int32) (g : Nat → Int32) (t : Nat → Nat → Int32) (d : Nat) (z : Nat) (hg : Nat → Nat → Int32) (ht : Nat → Nat → Nat → Int32) (g3 : Nat → Int32) (t3 : Nat → Nat → Int32) (tm1 : Nat → Int32) (pt1 : Nat → Int32) (sm1 : Nat → Int32) (tl1 : Nat → Int32) (g2 : Nat → Int32) (t2 : Nat → Nat → Int32) (tm2 : Nat → Int32) (pt2 : Nat → Int32) (sm2 : Nat → Int32) (tl2 : Nat → Int32) (x : Int32) (y : Int32) (w : Int32) (nb : Nat) (hq : q + 114 ≤ N) (hd5 : d < 5) (hz4 : z ≤ 4) (hxMa : MaF ad F q hs) (hxF : StF ad cI F (q + 1) g t) (hxCo : CoF ad F (q + 12) (q + 1)) (hxJu : JuF ad F (q + 13) (q + 1)) (hxHi : HiF ad cI cS F (q + 43) d z hg ht) (hxF3 : StF ad cI F (q + 100) g3 t3) (hxS1 : ScF ad cI F (q + 14) (q + 1) tm1 pt1 sm1 tl1) (hxF2 : StF ad cI F (q + 23) g2 t2) (hxS2 : ScF ad cI F (q + 34) (q + 23) tm2 pt2 sm2 tl2) (hnb1 : g 1 = nI nb) (hnb2 : nb < 2 ^ 31) : Ci l D cI cB cS ad N yX7_result cX7_result 4 (some .int) 6 137 [.ref (ad q), .int x, .int y, .int w] F (fun r F' => r = s_X7_result g t tm1 x y w nb ∧ ClF ad cI cS F' q hs g t d z hg ht g3 t3 ∧ Fr F F' q (q + 111)) := by
  refine x_met (by decide +kernel) (Nat.le_of_ble_eq_true rfl) ?_
  intro p e s m below meth c X hr hlk hK hw ls hl
  replace hl : lv_has ls 4 [(0, .ref (ad q)), (1, .int x), (2, .int y), (3, .int w)] := hl
  have hfr : Fr F F (q) (q + 111) := Fr.rf
  refine lv_aload_n X.1 X.2.1 dX7_result_0 rfl (lv_at hl 0 rfl) ?_
  refine x_get X hK hw (C := RX7) (T := TX7) (nf := 10) (k := q) (by omega) hxMa rfl inX7 0 (by decide) q218 (fun _ h9 => h9) rfl dX7_result_1 ?_
  refine lv_iload_n X.1 X.2.1 dX7_result_4 rfl (lv_at hl 1 rfl) ?_
  refine x_callVP X hK hw (k := (q + 1)) (As := [.int x]) (rest := []) (k_X5_hasRace hI ((q + 1)) g t x (by omega) hxF) (x_cwV yX5_hasRace cX5_hasRace 2 (some .boolean) 1 X q699 q700 q701 q2 q702 hd_X5_hasRace ⟨Nat.le_of_ble_eq_true rfl, Nat.le_of_ble_eq_true rfl⟩) (by omega) hxF.1 rfl rfl hl.1 rfl (Nat.le_of_ble_eq_true rfl) dX7_result_5 ⟨Nat.le_of_ble_eq_true rfl, Nat.le_of_ble_eq_true rfl⟩ (fun H locs hw => ?_)
  refine lv_if_eq (tgt := 22) X.1 X.2.1 dX7_result_8 (by decide) (fun c1 => ?_) (fun c1 => ?_)
  · replace c1 := bI_z c1
    refine lv_iconst (v := (-1)) X.1 X.2.1 dX7_result_22 (by decide) ?_
    exact x_iret X hr hlk hK hw (v := (-1)) rfl (⟨(by rw [s_X7_result, if_neg c1] : s_X7_result g t tm1 x y w nb = (-1)).symm, ⟨hxMa, hxF, hxCo, hxJu, hxHi, hxF3, ⟨_, _, _, _, hxS1⟩, ⟨_, _, hxF2⟩, ⟨_, _, _, _, hxS2⟩⟩, hfr⟩) dX7_result_23
  · replace c1 := bI_nz c1
    refine lv_aload_n X.1 X.2.1 dX7_result_11 rfl (lv_at hl 0 rfl) ?_
    refine x_get X hK hw (C := RX7) (T := TX7) (nf := 10) (k := q) (by omega) hxMa rfl inX7 0 (by decide) q218 (fun _ h9 => h9) rfl dX7_result_12 ?_
    refine lv_iload_n X.1 X.2.1 dX7_result_15 rfl (lv_at hl 2 rfl) ?_
    refine x_callVP X hK hw (k := (q + 1)) (As := [.int y]) (rest := []) (k_X5_hasBoat hI ((q + 1)) g t y (by omega) hxF) (x_cwV yX5_hasBoat cX5_hasBoat 2 (some .boolean) 1 X q703 q362 q363 q2 q364 hd_X5_hasBoat ⟨Nat.le_of_ble_eq_true rfl, Nat.le_of_ble_eq_true rfl⟩) (by omega) hxF.1 rfl rfl hl.1 rfl (Nat.le_of_ble_eq_true rfl) dX7_result_16 ⟨Nat.le_of_ble_eq_true rfl, Nat.le_of_ble_eq_true rfl⟩ (fun H locs hw => ?_)
    refine lv_if_ne (tgt := 24) X.1 X.2.1 dX7_result_19 (by decide) (fun c2 => ?_) (fun c2 => ?_)
    · replace c2 := bI_nz c2
      refine lv_iload_n X.1 X.2.1 dX7_result_24 rfl (lv_at hl 3 rfl) ?_
      rcases sw_0_8 w with c3 | c3 | c3 | c3 | c3 | c3 | c3 | c3 | c3 | c3
      · refine lv_tableIn (tgt := 76) X.1 X.2.1 dX7_result_25 (by rw [c3]; decide) (by rw [c3]; decide) (by rw [c3]; rfl) (by decide) ?_
        refine lv_aload_n X.1 X.2.1 dX7_result_76 rfl (lv_at hl 0 rfl) ?_
        refine x_get X hK hw (C := RX7) (T := TX7) (nf := 10) (k := q) (by omega) hxMa rfl inX7 0 (by decide) q218 (fun _ h9 => h9) rfl dX7_result_77 ?_
        refine x_get X hK hw (C := RX5) (T := TX5) (nf := 10) (k := (q + 1)) (by omega) hxF.1 rfl inX5 8 (by decide) q88 (fun _ h9 => h9) rfl dX7_result_80 ?_
        refine lv_aload_n X.1 X.2.1 dX7_result_83 rfl (lv_at hl 0 rfl) ?_
        refine x_get X hK hw (C := RX7) (T := TX7) (nf := 10) (k := q) (by omega) hxMa rfl inX7 0 (by decide) q218 (fun _ h9 => h9) rfl dX7_result_84 ?_
        refine lv_iload_n X.1 X.2.1 dX7_result_87 rfl (lv_at hl 1 rfl) ?_
        refine lv_iload_n X.1 X.2.1 dX7_result_88 rfl (lv_at hl 2 rfl) ?_
        refine x_callVP X hK hw (k := (q + 1)) (As := [.int x, .int y]) (rest := [.ref (ad (q + 8))]) (k_X5_row hI ((q + 1)) g t x y (by omega) hxF) (x_cwV yX5_row cX5_row 3 (some .int) 2 X q704 q302 q303 q2 q304 hd_X5_row ⟨Nat.le_of_ble_eq_true rfl, Nat.le_of_ble_eq_true rfl⟩) (by omega) hxF.1 rfl rfl hl.1 rfl (Nat.le_of_ble_eq_true rfl) dX7_result_89 ⟨Nat.le_of_ble_eq_true rfl, Nat.le_of_ble_eq_true rfl⟩ (fun H locs hw => ?_)
        refine lv_iload_n X.1 X.2.1 dX7_result_92 rfl (lv_at hl 3 rfl) ?_
        refine x_callVP X hK hw (k := (q + 8)) (As := [.int (x * nI 9 + y), .int w]) (rest := []) (k_X6_get hI ((q + 8)) 6 324 ((t 3)) (x * nI 9 + y) w (by omega) (by omega) hxF.2.2.2.2.1) (x_cwV yX6_get cX6_get 4 (some .int) 2 X q705 q327 q328 q3 q329 hd_X6_get ⟨Nat.le_of_ble_eq_true rfl, Nat.le_of_ble_eq_true rfl⟩) (by omega) hxF.2.2.2.2.1.1 rfl rfl hl.1 rfl (Nat.le_of_ble_eq_true rfl) dX7_result_93 ⟨Nat.le_of_ble_eq_true rfl, Nat.le_of_ble_eq_true rfl⟩ (fun H locs hw => ?_)
        exact x_iret X hr hlk hK hw (v := tg 6 324 ((t 3)) (x * nI 9 + y) w) rfl (⟨(by rw [s_X7_result, if_pos c1, if_pos c2, if_pos c3] : s_X7_result g t tm1 x y w nb = tg 6 324 ((t 3)) (x * nI 9 + y) w).symm, ⟨hxMa, hxF, hxCo, hxJu, hxHi, hxF3, ⟨_, _, _, _, hxS1⟩, ⟨_, _, hxF2⟩, ⟨_, _, _, _, hxS2⟩⟩, hfr⟩) dX7_result_96
      · refine lv_tableIn (tgt := 76) X.1 X.2.1 dX7_result_25 (by rw [c3]; decide) (by rw [c3]; decide) (by rw [c3]; rfl) (by decide) ?_
        refine lv_aload_n X.1 X.2.1 dX7_result_76 rfl (lv_at hl 0 rfl) ?_
        refine x_get X hK hw (C := RX7) (T := TX7) (nf := 10) (k := q) (by omega) hxMa rfl inX7 0 (by decide) q218 (fun _ h9 => h9) rfl dX7_result_77 ?_
        refine x_get X hK hw (C := RX5) (T := TX5) (nf := 10) (k := (q + 1)) (by omega) hxF.1 rfl inX5 8 (by decide) q88 (fun _ h9 => h9) rfl dX7_result_80 ?_
        refine lv_aload_n X.1 X.2.1 dX7_result_83 rfl (lv_at hl 0 rfl) ?_
        refine x_get X hK hw (C := RX7) (T := TX7) (nf := 10) (k := q) (by omega) hxMa rfl inX7 0 (by decide) q218 (fun _ h9 => h9) rfl dX7_result_84 ?_
        refine lv_iload_n X.1 X.2.1 dX7_result_87 rfl (lv_at hl 1 rfl) ?_
        refine lv_iload_n X.1 X.2.1 dX7_result_88 rfl (lv_at hl 2 rfl) ?_
        refine x_callVP X hK hw (k := (q + 1)) (As := [.int x, .int y]) (rest := [.ref (ad (q + 8))]) (k_X5_row hI ((q + 1)) g t x y (by omega) hxF) (x_cwV yX5_row cX5_row 3 (some .int) 2 X q704 q302 q303 q2 q304 hd_X5_row ⟨Nat.le_of_ble_eq_true rfl, Nat.le_of_ble_eq_true rfl⟩) (by omega) hxF.1 rfl rfl hl.1 rfl (Nat.le_of_ble_eq_true rfl) dX7_result_89 ⟨Nat.le_of_ble_eq_true rfl, Nat.le_of_ble_eq_true rfl⟩ (fun H locs hw => ?_)
        refine lv_iload_n X.1 X.2.1 dX7_result_92 rfl (lv_at hl 3 rfl) ?_
        refine x_callVP X hK hw (k := (q + 8)) (As := [.int (x * nI 9 + y), .int w]) (rest := []) (k_X6_get hI ((q + 8)) 6 324 ((t 3)) (x * nI 9 + y) w (by omega) (by omega) hxF.2.2.2.2.1) (x_cwV yX6_get cX6_get 4 (some .int) 2 X q705 q327 q328 q3 q329 hd_X6_get ⟨Nat.le_of_ble_eq_true rfl, Nat.le_of_ble_eq_true rfl⟩) (by omega) hxF.2.2.2.2.1.1 rfl rfl hl.1 rfl (Nat.le_of_ble_eq_true rfl) dX7_result_93 ⟨Nat.le_of_ble_eq_true rfl, Nat.le_of_ble_eq_true rfl⟩ (fun H locs hw => ?_)
        exact x_iret X hr hlk hK hw (v := tg 6 324 ((t 3)) (x * nI 9 + y) w) rfl (⟨(by rw [s_X7_result, if_pos c1, if_pos c2, if_neg (by rw [c3]; decide), if_pos c3] : s_X7_result g t tm1 x y w nb = tg 6 324 ((t 3)) (x * nI 9 + y) w).symm, ⟨hxMa, hxF, hxCo, hxJu, hxHi, hxF3, ⟨_, _, _, _, hxS1⟩, ⟨_, _, hxF2⟩, ⟨_, _, _, _, hxS2⟩⟩, hfr⟩) dX7_result_96
      · refine lv_tableIn (tgt := 76) X.1 X.2.1 dX7_result_25 (by rw [c3]; decide) (by rw [c3]; decide) (by rw [c3]; rfl) (by decide) ?_
        refine lv_aload_n X.1 X.2.1 dX7_result_76 rfl (lv_at hl 0 rfl) ?_
        refine x_get X hK hw (C := RX7) (T := TX7) (nf := 10) (k := q) (by omega) hxMa rfl inX7 0 (by decide) q218 (fun _ h9 => h9) rfl dX7_result_77 ?_
        refine x_get X hK hw (C := RX5) (T := TX5) (nf := 10) (k := (q + 1)) (by omega) hxF.1 rfl inX5 8 (by decide) q88 (fun _ h9 => h9) rfl dX7_result_80 ?_
        refine lv_aload_n X.1 X.2.1 dX7_result_83 rfl (lv_at hl 0 rfl) ?_
        refine x_get X hK hw (C := RX7) (T := TX7) (nf := 10) (k := q) (by omega) hxMa rfl inX7 0 (by decide) q218 (fun _ h9 => h9) rfl dX7_result_84 ?_
        refine lv_iload_n X.1 X.2.1 dX7_result_87 rfl (lv_at hl 1 rfl) ?_
        refine lv_iload_n X.1 X.2.1 dX7_result_88 rfl (lv_at hl 2 rfl) ?_
        refine x_callVP X hK hw (k := (q + 1)) (As := [.int x, .int y]) (rest := [.ref (ad (q + 8))]) (k_X5_row hI ((q + 1)) g t x y (by omega) hxF) (x_cwV yX5_row cX5_row 3 (some .int) 2 X q704 q302 q303 q2 q304 hd_X5_row ⟨Nat.le_of_ble_eq_true rfl, Nat.le_of_ble_eq_true rfl⟩) (by omega) hxF.1 rfl rfl hl.1 rfl (Nat.le_of_ble_eq_true rfl) dX7_result_89 ⟨Nat.le_of_ble_eq_true rfl, Nat.le_of_ble_eq_true rfl⟩ (fun H locs hw => ?_)
        refine lv_iload_n X.1 X.2.1 dX7_result_92 rfl (lv_at hl 3 rfl) ?_
        refine x_callVP X hK hw (k := (q + 8)) (As := [.int (x * nI 9 + y), .int w]) (rest := []) (k_X6_get hI ((q + 8)) 6 324 ((t 3)) (x * nI 9 + y) w (by omega) (by omega) hxF.2.2.2.2.1) (x_cwV yX6_get cX6_get 4 (some .int) 2 X q705 q327 q328 q3 q329 hd_X6_get ⟨Nat.le_of_ble_eq_true rfl, Nat.le_of_ble_eq_true rfl⟩) (by omega) hxF.2.2.2.2.1.1 rfl rfl hl.1 rfl (Nat.le_of_ble_eq_true rfl) dX7_result_93 ⟨Nat.le_of_ble_eq_true rfl, Nat.le_of_ble_eq_true rfl⟩ (fun H locs hw => ?_)
        exact x_iret X hr hlk hK hw (v := tg 6 324 ((t 3)) (x * nI 9 + y) w) rfl (⟨(by rw [s_X7_result, if_pos c1, if_pos c2, if_neg (by rw [c3]; decide), if_neg (by rw [c3]; decide), if_pos c3] : s_X7_result g t tm1 x y w nb = tg 6 324 ((t 3)) (x * nI 9 + y) w).symm, ⟨hxMa, hxF, hxCo, hxJu, hxHi, hxF3, ⟨_, _, _, _, hxS1⟩, ⟨_, _, hxF2⟩, ⟨_, _, _, _, hxS2⟩⟩, hfr⟩) dX7_result_96
      · refine lv_tableIn (tgt := 76) X.1 X.2.1 dX7_result_25 (by rw [c3]; decide) (by rw [c3]; decide) (by rw [c3]; rfl) (by decide) ?_
        refine lv_aload_n X.1 X.2.1 dX7_result_76 rfl (lv_at hl 0 rfl) ?_
        refine x_get X hK hw (C := RX7) (T := TX7) (nf := 10) (k := q) (by omega) hxMa rfl inX7 0 (by decide) q218 (fun _ h9 => h9) rfl dX7_result_77 ?_
        refine x_get X hK hw (C := RX5) (T := TX5) (nf := 10) (k := (q + 1)) (by omega) hxF.1 rfl inX5 8 (by decide) q88 (fun _ h9 => h9) rfl dX7_result_80 ?_
        refine lv_aload_n X.1 X.2.1 dX7_result_83 rfl (lv_at hl 0 rfl) ?_
        refine x_get X hK hw (C := RX7) (T := TX7) (nf := 10) (k := q) (by omega) hxMa rfl inX7 0 (by decide) q218 (fun _ h9 => h9) rfl dX7_result_84 ?_
        refine lv_iload_n X.1 X.2.1 dX7_result_87 rfl (lv_at hl 1 rfl) ?_
        refine lv_iload_n X.1 X.2.1 dX7_result_88 rfl (lv_at hl 2 rfl) ?_
        refine x_callVP X hK hw (k := (q + 1)) (As := [.int x, .int y]) (rest := [.ref (ad (q + 8))]) (k_X5_row hI ((q + 1)) g t x y (by omega) hxF) (x_cwV yX5_row cX5_row 3 (some .int) 2 X q704 q302 q303 q2 q304 hd_X5_row ⟨Nat.le_of_ble_eq_true rfl, Nat.le_of_ble_eq_true rfl⟩) (by omega) hxF.1 rfl rfl hl.1 rfl (Nat.le_of_ble_eq_true rfl) dX7_result_89 ⟨Nat.le_of_ble_eq_true rfl, Nat.le_of_ble_eq_true rfl⟩ (fun H locs hw => ?_)
        refine lv_iload_n X.1 X.2.1 dX7_result_92 rfl (lv_at hl 3 rfl) ?_
        refine x_callVP X hK hw (k := (q + 8)) (As := [.int (x * nI 9 + y), .int w]) (rest := []) (k_X6_get hI ((q + 8)) 6 324 ((t 3)) (x * nI 9 + y) w (by omega) (by omega) hxF.2.2.2.2.1) (x_cwV yX6_get cX6_get 4 (some .int) 2 X q705 q327 q328 q3 q329 hd_X6_get ⟨Nat.le_of_ble_eq_true rfl, Nat.le_of_ble_eq_true rfl⟩) (by omega) hxF.2.2.2.2.1.1 rfl rfl hl.1 rfl (Nat.le_of_ble_eq_true rfl) dX7_result_93 ⟨Nat.le_of_ble_eq_true rfl, Nat.le_of_ble_eq_true rfl⟩ (fun H locs hw => ?_)
        exact x_iret X hr hlk hK hw (v := tg 6 324 ((t 3)) (x * nI 9 + y) w) rfl (⟨(by rw [s_X7_result, if_pos c1, if_pos c2, if_neg (by rw [c3]; decide), if_neg (by rw [c3]; decide), if_neg (by rw [c3]; decide), if_pos c3] : s_X7_result g t tm1 x y w nb = tg 6 324 ((t 3)) (x * nI 9 + y) w).symm, ⟨hxMa, hxF, hxCo, hxJu, hxHi, hxF3, ⟨_, _, _, _, hxS1⟩, ⟨_, _, hxF2⟩, ⟨_, _, _, _, hxS2⟩⟩, hfr⟩) dX7_result_96
      · refine lv_tableIn (tgt := 76) X.1 X.2.1 dX7_result_25 (by rw [c3]; decide) (by rw [c3]; decide) (by rw [c3]; rfl) (by decide) ?_
        refine lv_aload_n X.1 X.2.1 dX7_result_76 rfl (lv_at hl 0 rfl) ?_
        refine x_get X hK hw (C := RX7) (T := TX7) (nf := 10) (k := q) (by omega) hxMa rfl inX7 0 (by decide) q218 (fun _ h9 => h9) rfl dX7_result_77 ?_
        refine x_get X hK hw (C := RX5) (T := TX5) (nf := 10) (k := (q + 1)) (by omega) hxF.1 rfl inX5 8 (by decide) q88 (fun _ h9 => h9) rfl dX7_result_80 ?_
        refine lv_aload_n X.1 X.2.1 dX7_result_83 rfl (lv_at hl 0 rfl) ?_
        refine x_get X hK hw (C := RX7) (T := TX7) (nf := 10) (k := q) (by omega) hxMa rfl inX7 0 (by decide) q218 (fun _ h9 => h9) rfl dX7_result_84 ?_
        refine lv_iload_n X.1 X.2.1 dX7_result_87 rfl (lv_at hl 1 rfl) ?_
        refine lv_iload_n X.1 X.2.1 dX7_result_88 rfl (lv_at hl 2 rfl) ?_
        refine x_callVP X hK hw (k := (q + 1)) (As := [.int x, .int y]) (rest := [.ref (ad (q + 8))]) (k_X5_row hI ((q + 1)) g t x y (by omega) hxF) (x_cwV yX5_row cX5_row 3 (some .int) 2 X q704 q302 q303 q2 q304 hd_X5_row ⟨Nat.le_of_ble_eq_true rfl, Nat.le_of_ble_eq_true rfl⟩) (by omega) hxF.1 rfl rfl hl.1 rfl (Nat.le_of_ble_eq_true rfl) dX7_result_89 ⟨Nat.le_of_ble_eq_true rfl, Nat.le_of_ble_eq_true rfl⟩ (fun H locs hw => ?_)
        refine lv_iload_n X.1 X.2.1 dX7_result_92 rfl (lv_at hl 3 rfl) ?_
        refine x_callVP X hK hw (k := (q + 8)) (As := [.int (x * nI 9 + y), .int w]) (rest := []) (k_X6_get hI ((q + 8)) 6 324 ((t 3)) (x * nI 9 + y) w (by omega) (by omega) hxF.2.2.2.2.1) (x_cwV yX6_get cX6_get 4 (some .int) 2 X q705 q327 q328 q3 q329 hd_X6_get ⟨Nat.le_of_ble_eq_true rfl, Nat.le_of_ble_eq_true rfl⟩) (by omega) hxF.2.2.2.2.1.1 rfl rfl hl.1 rfl (Nat.le_of_ble_eq_true rfl) dX7_result_93 ⟨Nat.le_of_ble_eq_true rfl, Nat.le_of_ble_eq_true rfl⟩ (fun H locs hw => ?_)
        exact x_iret X hr hlk hK hw (v := tg 6 324 ((t 3)) (x * nI 9 + y) w) rfl (⟨(by rw [s_X7_result, if_pos c1, if_pos c2, if_neg (by rw [c3]; decide), if_neg (by rw [c3]; decide), if_neg (by rw [c3]; decide), if_neg (by rw [c3]; decide), if_pos c3] : s_X7_result g t tm1 x y w nb = tg 6 324 ((t 3)) (x * nI 9 + y) w).symm, ⟨hxMa, hxF, hxCo, hxJu, hxHi, hxF3, ⟨_, _, _, _, hxS1⟩, ⟨_, _, hxF2⟩, ⟨_, _, _, _, hxS2⟩⟩, hfr⟩) dX7_result_96
      · refine lv_tableIn (tgt := 97) X.1 X.2.1 dX7_result_25 (by rw [c3]; decide) (by rw [c3]; decide) (by rw [c3]; rfl) (by decide) ?_
        refine lv_aload_n X.1 X.2.1 dX7_result_97 rfl (lv_at hl 0 rfl) ?_
        refine x_get X hK hw (C := RX7) (T := TX7) (nf := 10) (k := q) (by omega) hxMa rfl inX7 0 (by decide) q218 (fun _ h9 => h9) rfl dX7_result_98 ?_
        refine lv_iload_n X.1 X.2.1 dX7_result_101 rfl (lv_at hl 1 rfl) ?_
        refine lv_iload_n X.1 X.2.1 dX7_result_102 rfl (lv_at hl 2 rfl) ?_
        refine x_callVP X hK hw (k := (q + 1)) (As := [.int x, .int y]) (rest := []) (k_X5_elapsed hI ((q + 1)) g t x y (by omega) hxF) (x_cwV yX5_elapsed cX5_elapsed 3 (some .int) 2 X q706 q707 q708 q2 q709 hd_X5_elapsed ⟨Nat.le_of_ble_eq_true rfl, Nat.le_of_ble_eq_true rfl⟩) (by omega) hxF.1 rfl rfl hl.1 rfl (Nat.le_of_ble_eq_true rfl) dX7_result_103 ⟨Nat.le_of_ble_eq_true rfl, Nat.le_of_ble_eq_true rfl⟩ (fun H locs hw => ?_)
        exact x_iret X hr hlk hK hw (v := c_el t x y) rfl (⟨(by rw [s_X7_result, if_pos c1, if_pos c2, if_neg (by rw [c3]; decide), if_neg (by rw [c3]; decide), if_neg (by rw [c3]; decide), if_neg (by rw [c3]; decide), if_neg (by rw [c3]; decide), if_pos c3] : s_X7_result g t tm1 x y w nb = c_el t x y).symm, ⟨hxMa, hxF, hxCo, hxJu, hxHi, hxF3, ⟨_, _, _, _, hxS1⟩, ⟨_, _, hxF2⟩, ⟨_, _, _, _, hxS2⟩⟩, hfr⟩) dX7_result_106
      · refine lv_tableIn (tgt := 107) X.1 X.2.1 dX7_result_25 (by rw [c3]; decide) (by rw [c3]; decide) (by rw [c3]; rfl) (by decide) ?_
        refine lv_aload_n X.1 X.2.1 dX7_result_107 rfl (lv_at hl 0 rfl) ?_
        refine x_get X hK hw (C := RX7) (T := TX7) (nf := 10) (k := q) (by omega) hxMa rfl inX7 0 (by decide) q218 (fun _ h9 => h9) rfl dX7_result_108 ?_
        refine lv_iload_n X.1 X.2.1 dX7_result_111 rfl (lv_at hl 1 rfl) ?_
        refine lv_iload_n X.1 X.2.1 dX7_result_112 rfl (lv_at hl 2 rfl) ?_
        refine x_callVP X hK hw (k := (q + 1)) (As := [.int x, .int y]) (rest := []) (k_X5_corrected hI ((q + 1)) g t x y (by omega) hxF) (x_cwV yX5_corrected cX5_corrected 5 (some .int) 2 X q718 q719 q720 q2 q721 hd_X5_corrected ⟨Nat.le_of_ble_eq_true rfl, Nat.le_of_ble_eq_true rfl⟩) (by omega) hxF.1 rfl rfl hl.1 rfl (Nat.le_of_ble_eq_true rfl) dX7_result_113 ⟨Nat.le_of_ble_eq_true rfl, Nat.le_of_ble_eq_true rfl⟩ (fun H locs hw => ?_)
        exact x_iret X hr hlk hK hw (v := c_co t x y) rfl (⟨(by rw [s_X7_result, if_pos c1, if_pos c2, if_neg (by rw [c3]; decide), if_neg (by rw [c3]; decide), if_neg (by rw [c3]; decide), if_neg (by rw [c3]; decide), if_neg (by rw [c3]; decide), if_neg (by rw [c3]; decide), if_pos c3] : s_X7_result g t tm1 x y w nb = c_co t x y).symm, ⟨hxMa, hxF, hxCo, hxJu, hxHi, hxF3, ⟨_, _, _, _, hxS1⟩, ⟨_, _, hxF2⟩, ⟨_, _, _, _, hxS2⟩⟩, hfr⟩) dX7_result_116
      · refine lv_tableIn (tgt := 117) X.1 X.2.1 dX7_result_25 (by rw [c3]; decide) (by rw [c3]; decide) (by rw [c3]; rfl) (by decide) ?_
        refine lv_aload_n X.1 X.2.1 dX7_result_117 rfl (lv_at hl 0 rfl) ?_
        refine x_get X hK hw (C := RX7) (T := TX7) (nf := 10) (k := q) (by omega) hxMa rfl inX7 0 (by decide) q218 (fun _ h9 => h9) rfl dX7_result_118 ?_
        refine lv_iload_n X.1 X.2.1 dX7_result_121 rfl (lv_at hl 1 rfl) ?_
        refine x_callVP X hK hw (k := (q + 1)) (As := [.int x]) (rest := []) (k_X5_isClosed hI ((q + 1)) g t x (by omega) hxF) (x_cwV yX5_isClosed cX5_isClosed 2 (some .boolean) 1 X q722 q723 q724 q2 q725 hd_X5_isClosed ⟨Nat.le_of_ble_eq_true rfl, Nat.le_of_ble_eq_true rfl⟩) (by omega) hxF.1 rfl rfl hl.1 rfl (Nat.le_of_ble_eq_true rfl) dX7_result_122 ⟨Nat.le_of_ble_eq_true rfl, Nat.le_of_ble_eq_true rfl⟩ (fun H locs hw => ?_)
        refine lv_if_eq (tgt := 140) X.1 X.2.1 dX7_result_125 (by decide) (fun c4 => ?_) (fun c4 => ?_)
        · replace c4 := bI_z c4
          refine lv_bipush (v := (-5)) X.1 X.2.1 dX7_result_140 (by decide) ?_
          exact x_iret X hr hlk hK hw (v := (-5)) rfl (⟨(by rw [s_X7_result, if_pos c1, if_pos c2, if_neg (by rw [c3]; decide), if_neg (by rw [c3]; decide), if_neg (by rw [c3]; decide), if_neg (by rw [c3]; decide), if_neg (by rw [c3]; decide), if_neg (by rw [c3]; decide), if_neg (by rw [c3]; decide), if_pos c3, if_neg c4] : s_X7_result g t tm1 x y w nb = (-5)).symm, ⟨hxMa, hxF, hxCo, hxJu, hxHi, hxF3, ⟨_, _, _, _, hxS1⟩, ⟨_, _, hxF2⟩, ⟨_, _, _, _, hxS2⟩⟩, hfr⟩) dX7_result_142
        · replace c4 := bI_nz c4
          refine lv_aload_n X.1 X.2.1 dX7_result_128 rfl (lv_at hl 0 rfl) ?_
          refine x_get X hK hw (C := RX7) (T := TX7) (nf := 10) (k := q) (by omega) hxMa rfl inX7 3 (by decide) q221 (fun _ h9 => h9) rfl dX7_result_129 ?_
          refine lv_iload_n X.1 X.2.1 dX7_result_132 rfl (lv_at hl 1 rfl) ?_
          refine lv_iload_n X.1 X.2.1 dX7_result_133 rfl (lv_at hl 2 rfl) ?_
          refine x_callV X hK hw (k := (q + 14)) (As := [.int x, .int y]) (rest := []) (k_X4_placeIn hI ((q + 14)) ((q + 1)) g t tm1 pt1 sm1 tl1 x y nb (by omega) (by omega) hxS1 (by omega) hxF hnb1 hnb2) (x_cwV yX4_placeIn cX4_placeIn 3 (some .int) 2 X q730 q731 q732 q7 q733 hd_X4_placeIn ⟨Nat.le_of_ble_eq_true rfl, Nat.le_of_ble_eq_true rfl⟩) (by omega) hxS1.1 rfl rfl hl.1 rfl (Nat.le_of_ble_eq_true rfl) dX7_result_134 ⟨Nat.le_of_ble_eq_true rfl, Nat.le_of_ble_eq_true rfl⟩ (fun r8 F5 H locs hp hw => ?_)
          obtain ⟨er9, hS6, hr7⟩ := hp
          refine x_top er9 ?_
          have hq10 := (hr7 _ (by omega)).trans hxMa
          have hq11 := hxF.cg hr7 (by omega)
          have hq12 := (hr7 _ (by omega)).trans hxCo
          have hq13 := (hr7 _ (by omega)).trans hxJu
          have hq14 := hxHi.cg hr7 (by omega)
          have hq15 := hxF3.cg hr7 (by omega)
          have hq16 := hxF2.cg hr7 (by omega)
          have hq17 := hxS2.cg hr7 (by omega)
          replace hfr := hfr.tr hr7 (by omega) (by omega)
          refine lv_goto (tgt := 142) X.1 X.2.1 dX7_result_137 (by decide) ?_
          exact x_iret X hr hlk hK hw (v := s_place (sc_rt t x tm1 nb) y nb) rfl (⟨(by rw [s_X7_result, if_pos c1, if_pos c2, if_neg (by rw [c3]; decide), if_neg (by rw [c3]; decide), if_neg (by rw [c3]; decide), if_neg (by rw [c3]; decide), if_neg (by rw [c3]; decide), if_neg (by rw [c3]; decide), if_neg (by rw [c3]; decide), if_pos c3, if_pos c4] : s_X7_result g t tm1 x y w nb = s_place (sc_rt t x tm1 nb) y nb).symm, ⟨hq10, hq11, hq12, hq13, hq14, hq15, ⟨_, _, _, _, hS6⟩, ⟨_, _, hq16⟩, ⟨_, _, _, _, hq17⟩⟩, hfr⟩) dX7_result_142
      · refine lv_tableIn (tgt := 143) X.1 X.2.1 dX7_result_25 (by rw [c3]; decide) (by rw [c3]; decide) (by rw [c3]; rfl) (by decide) ?_
        refine lv_aload_n X.1 X.2.1 dX7_result_143 rfl (lv_at hl 0 rfl) ?_
        refine x_get X hK hw (C := RX7) (T := TX7) (nf := 10) (k := q) (by omega) hxMa rfl inX7 0 (by decide) q218 (fun _ h9 => h9) rfl dX7_result_144 ?_
        refine lv_iload_n X.1 X.2.1 dX7_result_147 rfl (lv_at hl 1 rfl) ?_
        refine x_callVP X hK hw (k := (q + 1)) (As := [.int x]) (rest := []) (k_X5_isClosed hI ((q + 1)) g t x (by omega) hxF) (x_cwV yX5_isClosed cX5_isClosed 2 (some .boolean) 1 X q722 q723 q724 q2 q725 hd_X5_isClosed ⟨Nat.le_of_ble_eq_true rfl, Nat.le_of_ble_eq_true rfl⟩) (by omega) hxF.1 rfl rfl hl.1 rfl (Nat.le_of_ble_eq_true rfl) dX7_result_148 ⟨Nat.le_of_ble_eq_true rfl, Nat.le_of_ble_eq_true rfl⟩ (fun H locs hw => ?_)
        refine lv_if_eq (tgt := 166) X.1 X.2.1 dX7_result_151 (by decide) (fun c18 => ?_) (fun c18 => ?_)
        · replace c18 := bI_z c18
          refine lv_bipush (v := (-5)) X.1 X.2.1 dX7_result_166 (by decide) ?_
          exact x_iret X hr hlk hK hw (v := (-5)) rfl (⟨(by rw [s_X7_result, if_pos c1, if_pos c2, if_neg (by rw [c3]; decide), if_neg (by rw [c3]; decide), if_neg (by rw [c3]; decide), if_neg (by rw [c3]; decide), if_neg (by rw [c3]; decide), if_neg (by rw [c3]; decide), if_neg (by rw [c3]; decide), if_neg (by rw [c3]; decide), if_pos c3, if_neg c18] : s_X7_result g t tm1 x y w nb = (-5)).symm, ⟨hxMa, hxF, hxCo, hxJu, hxHi, hxF3, ⟨_, _, _, _, hxS1⟩, ⟨_, _, hxF2⟩, ⟨_, _, _, _, hxS2⟩⟩, hfr⟩) dX7_result_168
        · replace c18 := bI_nz c18
          refine lv_aload_n X.1 X.2.1 dX7_result_154 rfl (lv_at hl 0 rfl) ?_
          refine x_get X hK hw (C := RX7) (T := TX7) (nf := 10) (k := q) (by omega) hxMa rfl inX7 3 (by decide) q221 (fun _ h9 => h9) rfl dX7_result_155 ?_
          refine lv_iload_n X.1 X.2.1 dX7_result_158 rfl (lv_at hl 1 rfl) ?_
          refine lv_iload_n X.1 X.2.1 dX7_result_159 rfl (lv_at hl 2 rfl) ?_
          refine x_callV X hK hw (k := (q + 14)) (As := [.int x, .int y]) (rest := []) (k_X4_pointsIn hI ((q + 14)) ((q + 1)) g t tm1 pt1 sm1 tl1 x y nb (by omega) (by omega) hxS1 (by omega) hxF hnb1 hnb2) (x_cwV yX4_pointsIn cX4_pointsIn 3 (some .int) 2 X q746 q747 q748 q7 q749 hd_X4_pointsIn ⟨Nat.le_of_ble_eq_true rfl, Nat.le_of_ble_eq_true rfl⟩) (by omega) hxS1.1 rfl rfl hl.1 rfl (Nat.le_of_ble_eq_true rfl) dX7_result_160 ⟨Nat.le_of_ble_eq_true rfl, Nat.le_of_ble_eq_true rfl⟩ (fun r22 F19 H locs hp hw => ?_)
          obtain ⟨er23, hS20, hr21⟩ := hp
          refine x_top er23 ?_
          have hq24 := (hr21 _ (by omega)).trans hxMa
          have hq25 := hxF.cg hr21 (by omega)
          have hq26 := (hr21 _ (by omega)).trans hxCo
          have hq27 := (hr21 _ (by omega)).trans hxJu
          have hq28 := hxHi.cg hr21 (by omega)
          have hq29 := hxF3.cg hr21 (by omega)
          have hq30 := hxF2.cg hr21 (by omega)
          have hq31 := hxS2.cg hr21 (by omega)
          replace hfr := hfr.tr hr21 (by omega) (by omega)
          refine lv_goto (tgt := 168) X.1 X.2.1 dX7_result_163 (by decide) ?_
          exact x_iret X hr hlk hK hw (v := s_X4_pointsFor g t x y (s_place (sc_rt t x tm1 nb) y nb)) rfl (⟨(by rw [s_X7_result, if_pos c1, if_pos c2, if_neg (by rw [c3]; decide), if_neg (by rw [c3]; decide), if_neg (by rw [c3]; decide), if_neg (by rw [c3]; decide), if_neg (by rw [c3]; decide), if_neg (by rw [c3]; decide), if_neg (by rw [c3]; decide), if_neg (by rw [c3]; decide), if_pos c3, if_pos c18] : s_X7_result g t tm1 x y w nb = s_X4_pointsFor g t x y (s_place (sc_rt t x tm1 nb) y nb)).symm, ⟨hq24, hq25, hq26, hq27, hq28, hq29, ⟨_, _, _, _, hS20⟩, ⟨_, _, hq30⟩, ⟨_, _, _, _, hq31⟩⟩, hfr⟩) dX7_result_168
      · refine lv_tableOut (tgt := 169) X.1 X.2.1 dX7_result_25 c3 (by decide) ?_
        refine lv_bipush (v := (-2)) X.1 X.2.1 dX7_result_169 (by decide) ?_
        exact x_iret X hr hlk hK hw (v := (-2)) rfl (⟨(by rw [s_X7_result, if_pos c1, if_pos c2, if_neg (fun h => by rw [h] at c3; revert c3; decide), if_neg (fun h => by rw [h] at c3; revert c3; decide), if_neg (fun h => by rw [h] at c3; revert c3; decide), if_neg (fun h => by rw [h] at c3; revert c3; decide), if_neg (fun h => by rw [h] at c3; revert c3; decide), if_neg (fun h => by rw [h] at c3; revert c3; decide), if_neg (fun h => by rw [h] at c3; revert c3; decide), if_neg (fun h => by rw [h] at c3; revert c3; decide), if_neg (fun h => by rw [h] at c3; revert c3; decide)] : s_X7_result g t tm1 x y w nb = (-2)).symm, ⟨hxMa, hxF, hxCo, hxJu, hxHi, hxF3, ⟨_, _, _, _, hxS1⟩, ⟨_, _, hxF2⟩, ⟨_, _, _, _, hxS2⟩⟩, hfr⟩) dX7_result_171
    · replace c2 := bI_z c2
      refine lv_iconst (v := (-1)) X.1 X.2.1 dX7_result_22 (by decide) ?_
      exact x_iret X hr hlk hK hw (v := (-1)) rfl (⟨(by rw [s_X7_result, if_pos c1, if_neg c2] : s_X7_result g t tm1 x y w nb = (-1)).symm, ⟨hxMa, hxF, hxCo, hxJu, hxHi, hxF3, ⟨_, _, _, _, hxS1⟩, ⟨_, _, hxF2⟩, ⟨_, _, _, _, hxS2⟩⟩, hfr⟩) dX7_result_23
theorem hd_X4_dropped : yX4_dropped.cls = RX4 ∧ yX4_dropped.cls ≠ "java/lang/invoke/MethodHandle" ∧ yX4_dropped.cls ≠ "java/lang/invoke/VarHandle" ∧ (parseMethodDescriptor yX4_dropped.desc).map (fun d => d.parameters.length) = some 1 := by decide +kernel
theorem hd_X4_firstPlaces : yX4_firstPlaces.cls = RX4 ∧ yX4_firstPlaces.cls ≠ "java/lang/invoke/MethodHandle" ∧ yX4_firstPlaces.cls ≠ "java/lang/invoke/VarHandle" ∧ (parseMethodDescriptor yX4_firstPlaces.desc).map (fun d => d.parameters.length) = some 1 := by decide +kernel
theorem hd_X4_rank : yX4_rank.cls = RX4 ∧ yX4_rank.cls ≠ "java/lang/invoke/MethodHandle" ∧ yX4_rank.cls ≠ "java/lang/invoke/VarHandle" ∧ (parseMethodDescriptor yX4_rank.desc).map (fun d => d.parameters.length) = some 1 := by decide +kernel
theorem hd_X4_recount : yX4_recount.cls = RX4 ∧ yX4_recount.cls ≠ "java/lang/invoke/MethodHandle" ∧ yX4_recount.cls ≠ "java/lang/invoke/VarHandle" ∧ (parseMethodDescriptor yX4_recount.desc).map (fun d => d.parameters.length) = some 0 := by decide +kernel
def s_X7_boat (g : Nat → Int32) (t : Nat → Nat → Int32) (tm1 : Nat → Int32) (pt1 : Nat → Int32) (sm1 : Nat → Int32) (tl1 : Nat → Int32) (x : Int32) (w : Int32) (nb : Nat) (nc : Nat) : Int32 := (if ¬ x < 0 ∧ ¬ g 1 ≤ x then (if w = 0 then tg 1 9 ((t 0)) x (nI 0) else (if w = 1 then tg 4 36 ((sc_s3 g t (sc_r2 g t nb tm1 pt1 (sc_ct tl1 nb) nc).2.1 nc sm1 nb)) x (nI 1) else (if w = 2 then sc_rank ((sc_s3 g t (sc_r2 g t nb tm1 pt1 (sc_ct tl1 nb) nc).2.1 nc sm1 nb)) (((sc_r2 g t nb tm1 pt1 (sc_ct tl1 nb) nc).2.2)) x nb else (if w = 3 then tg 4 36 ((sc_s3 g t (sc_r2 g t nb tm1 pt1 (sc_ct tl1 nb) nc).2.1 nc sm1 nb)) x (nI 2) else (if w = 4 then tg 10 90 (((sc_r2 g t nb tm1 pt1 (sc_ct tl1 nb) nc).2.2)) x (nI 1) else (-2)))))) else (-1))
set_option maxHeartbeats 4000000 in
set_option maxRecDepth 100000 in
theorem k_X7_boat {l : Launch} {D : va_G} {cI cB cS : ClassId} {ad : Nat → Nat} {N : Nat} {F : Nat → va_E} (hI : iN ad N) (q : Nat) (hs : Int32) (g : Nat → Int32) (t : Nat → Nat → Int32) (d : Nat) (z : Nat) (hg : Nat → Nat → Int32) (ht : Nat → Nat → Nat → Int32) (g3 : Nat → Int32) (t3 : Nat → Nat → Int32) (tm1 : Nat → Int32) (pt1 : Nat → Int32) (sm1 : Nat → Int32) (tl1 : Nat → Int32) (g2 : Nat → Int32) (t2 : Nat → Nat → Int32) (tm2 : Nat → Int32) (pt2 : Nat → Int32) (sm2 : Nat → Int32) (tl2 : Nat → Int32) (x : Int32) (w : Int32) (nb : Nat) (nc : Nat) (hq : q + 114 ≤ N) (hd5 : d < 5) (hz4 : z ≤ 4) (hxMa : MaF ad F q hs) (hxF : StF ad cI F (q + 1) g t) (hxCo : CoF ad F (q + 12) (q + 1)) (hxJu : JuF ad F (q + 13) (q + 1)) (hxHi : HiF ad cI cS F (q + 43) d z hg ht) (hxF3 : StF ad cI F (q + 100) g3 t3) (hxS1 : ScF ad cI F (q + 14) (q + 1) tm1 pt1 sm1 tl1) (hxF2 : StF ad cI F (q + 23) g2 t2) (hxS2 : ScF ad cI F (q + 34) (q + 23) tm2 pt2 sm2 tl2) (hnb1 : g 1 = nI nb) (hnb2 : nb < 2 ^ 31) (hnc1 : c_cl g = nI nc) (hnc2 : nc < 2 ^ 31) : Ci l D cI cB cS ad N yX7_boat cX7_boat 3 (some .int) 6 137 [.ref (ad q), .int x, .int w] F (fun r F' => r = s_X7_boat g t tm1 pt1 sm1 tl1 x w nb nc ∧ ClF ad cI cS F' q hs g t d z hg ht g3 t3 ∧ Fr F F' q (q + 111)) := by
  refine x_met (by decide +kernel) (Nat.le_of_ble_eq_true rfl) ?_
  intro p e s m below meth c X hr hlk hK hw ls hl
  replace hl : lv_has ls 3 [(0, .ref (ad q)), (1, .int x), (2, .int w)] := hl
  have hfr : Fr F F (q) (q + 111) := Fr.rf
  refine lv_aload_n X.1 X.2.1 dX7_boat_0 rfl (lv_at hl 0 rfl) ?_
  refine x_get X hK hw (C := RX7) (T := TX7) (nf := 10) (k := q) (by omega) hxMa rfl inX7 0 (by decide) q218 (fun _ h9 => h9) rfl dX7_boat_1 ?_
  refine lv_iload_n X.1 X.2.1 dX7_boat_4 rfl (lv_at hl 1 rfl) ?_
  refine x_callVP X hK hw (k := (q + 1)) (As := [.int x]) (rest := []) (k_X5_hasBoat hI ((q + 1)) g t x (by omega) hxF) (x_cwV yX5_hasBoat cX5_hasBoat 2 (some .boolean) 1 X q703 q362 q363 q2 q364 hd_X5_hasBoat ⟨Nat.le_of_ble_eq_true rfl, Nat.le_of_ble_eq_true rfl⟩) (by omega) hxF.1 rfl rfl hl.1 rfl (Nat.le_of_ble_eq_true rfl) dX7_boat_5 ⟨Nat.le_of_ble_eq_true rfl, Nat.le_of_ble_eq_true rfl⟩ (fun H locs hw => ?_)
  refine lv_if_ne (tgt := 13) X.1 X.2.1 dX7_boat_8 (by decide) (fun c1 => ?_) (fun c1 => ?_)
  · replace c1 := bI_nz c1
    refine lv_aload_n X.1 X.2.1 dX7_boat_13 rfl (lv_at hl 0 rfl) ?_
    refine x_get X hK hw (C := RX7) (T := TX7) (nf := 10) (k := q) (by omega) hxMa rfl inX7 3 (by decide) q221 (fun _ h9 => h9) rfl dX7_boat_14 ?_
    refine x_callVv X hK hw (k := (q + 14)) (As := []) (rest := []) (k_X4_recount hI ((q + 14)) ((q + 1)) g t tm1 pt1 sm1 tl1 nb nc (by omega) (by omega) hxS1 (by omega) hxF hnb1 hnb2 hnc1 hnc2) (x_cwV yX4_recount cX4_recount 2 none 0 X q759 q760 q761 q7 q762 hd_X4_recount ⟨Nat.le_of_ble_eq_true rfl, Nat.le_of_ble_eq_true rfl⟩) (by omega) hxS1.1 rfl rfl hl.1 rfl (Nat.le_of_ble_eq_true rfl) dX7_boat_17 ⟨Nat.le_of_ble_eq_true rfl, Nat.le_of_ble_eq_true rfl⟩ (fun F2 H locs hp hw => ?_)
    obtain ⟨hS3, hr4⟩ := hp
    have hq5 := (hr4 _ (by omega)).trans hxMa
    have hq6 := hxF.cg hr4 (by omega)
    have hq7 := (hr4 _ (by omega)).trans hxCo
    have hq8 := (hr4 _ (by omega)).trans hxJu
    have hq9 := hxHi.cg hr4 (by omega)
    have hq10 := hxF3.cg hr4 (by omega)
    have hq11 := hxF2.cg hr4 (by omega)
    have hq12 := hxS2.cg hr4 (by omega)
    replace hfr := hfr.tr hr4 (by omega) (by omega)
    refine lv_iload_n X.1 X.2.1 dX7_boat_20 rfl (lv_at hl 2 rfl) ?_
    rcases sw_0_4 w with c13 | c13 | c13 | c13 | c13 | c13
    · refine lv_tableIn (tgt := 56) X.1 X.2.1 dX7_boat_21 (by rw [c13]; decide) (by rw [c13]; decide) (by rw [c13]; rfl) (by decide) ?_
      refine lv_aload_n X.1 X.2.1 dX7_boat_56 rfl (lv_at hl 0 rfl) ?_
      refine x_get X hK hw (C := RX7) (T := TX7) (nf := 10) (k := q) (by omega) hq5 rfl inX7 0 (by decide) q218 (fun _ h9 => h9) rfl dX7_boat_57 ?_
      refine x_get X hK hw (C := RX5) (T := TX5) (nf := 10) (k := (q + 1)) (by omega) hq6.1 rfl inX5 5 (by decide) q79 (fun _ h9 => h9) rfl dX7_boat_60 ?_
      refine lv_iload_n X.1 X.2.1 dX7_boat_63 rfl (lv_at hl 1 rfl) ?_
      refine lv_iconst (v := nI 0) X.1 X.2.1 dX7_boat_64 (by decide) ?_
      refine x_callVP X hK hw (k := (q + 2)) (As := [.int x, .int (nI 0)]) (rest := []) (k_X6_get hI ((q + 2)) 1 9 ((t 0)) x (nI 0) (by omega) (by omega) hq6.2.1) (x_cwV yX6_get cX6_get 4 (some .int) 2 X q705 q327 q328 q3 q329 hd_X6_get ⟨Nat.le_of_ble_eq_true rfl, Nat.le_of_ble_eq_true rfl⟩) (by omega) hq6.2.1.1 rfl rfl hl.1 rfl (Nat.le_of_ble_eq_true rfl) dX7_boat_65 ⟨Nat.le_of_ble_eq_true rfl, Nat.le_of_ble_eq_true rfl⟩ (fun H locs hw => ?_)
      exact x_iret X hr hlk hK hw (v := tg 1 9 ((t 0)) x (nI 0)) rfl (⟨(by rw [s_X7_boat, if_pos c1, if_pos c13] : s_X7_boat g t tm1 pt1 sm1 tl1 x w nb nc = tg 1 9 ((t 0)) x (nI 0)).symm, ⟨hq5, hq6, hq7, hq8, hq9, hq10, ⟨_, _, _, _, hS3⟩, ⟨_, _, hq11⟩, ⟨_, _, _, _, hq12⟩⟩, hfr⟩) dX7_boat_68
    · refine lv_tableIn (tgt := 69) X.1 X.2.1 dX7_boat_21 (by rw [c13]; decide) (by rw [c13]; decide) (by rw [c13]; rfl) (by decide) ?_
      refine lv_aload_n X.1 X.2.1 dX7_boat_69 rfl (lv_at hl 0 rfl) ?_
      refine x_get X hK hw (C := RX7) (T := TX7) (nf := 10) (k := q) (by omega) hq5 rfl inX7 3 (by decide) q221 (fun _ h9 => h9) rfl dX7_boat_70 ?_
      refine lv_iload_n X.1 X.2.1 dX7_boat_73 rfl (lv_at hl 1 rfl) ?_
      refine x_callVP X hK hw (k := (q + 14)) (As := [.int x]) (rest := []) (k_X4_total hI ((q + 14)) ((q + 1)) g t (((sc_r2 g t nb tm1 pt1 (sc_ct tl1 nb) nc).1)) (((sc_r2 g t nb tm1 pt1 (sc_ct tl1 nb) nc).2.1)) ((sc_s3 g t (sc_r2 g t nb tm1 pt1 (sc_ct tl1 nb) nc).2.1 nc sm1 nb)) (((sc_r2 g t nb tm1 pt1 (sc_ct tl1 nb) nc).2.2)) x nb (by omega) (by omega) hS3 (by omega) hq6 hnb1 hnb2) (x_cwV yX4_total cX4_total 2 (some .int) 1 X q779 q780 q781 q7 q782 hd_X4_total ⟨Nat.le_of_ble_eq_true rfl, Nat.le_of_ble_eq_true rfl⟩) (by omega) hS3.1 rfl rfl hl.1 rfl (Nat.le_of_ble_eq_true rfl) dX7_boat_74 ⟨Nat.le_of_ble_eq_true rfl, Nat.le_of_ble_eq_true rfl⟩ (fun H locs hw => ?_)
      exact x_iret X hr hlk hK hw (v := tg 4 36 ((sc_s3 g t (sc_r2 g t nb tm1 pt1 (sc_ct tl1 nb) nc).2.1 nc sm1 nb)) x (nI 1)) rfl (⟨(by rw [s_X7_boat, if_pos c1, if_neg (by rw [c13]; decide), if_pos c13] : s_X7_boat g t tm1 pt1 sm1 tl1 x w nb nc = tg 4 36 ((sc_s3 g t (sc_r2 g t nb tm1 pt1 (sc_ct tl1 nb) nc).2.1 nc sm1 nb)) x (nI 1)).symm, ⟨hq5, hq6, hq7, hq8, hq9, hq10, ⟨_, _, _, _, hS3⟩, ⟨_, _, hq11⟩, ⟨_, _, _, _, hq12⟩⟩, hfr⟩) dX7_boat_77
    · refine lv_tableIn (tgt := 78) X.1 X.2.1 dX7_boat_21 (by rw [c13]; decide) (by rw [c13]; decide) (by rw [c13]; rfl) (by decide) ?_
      refine lv_aload_n X.1 X.2.1 dX7_boat_78 rfl (lv_at hl 0 rfl) ?_
      refine x_get X hK hw (C := RX7) (T := TX7) (nf := 10) (k := q) (by omega) hq5 rfl inX7 3 (by decide) q221 (fun _ h9 => h9) rfl dX7_boat_79 ?_
      refine lv_iload_n X.1 X.2.1 dX7_boat_82 rfl (lv_at hl 1 rfl) ?_
      refine x_callVP X hK hw (k := (q + 14)) (As := [.int x]) (rest := []) (k_X4_rank hI ((q + 14)) ((q + 1)) g t (((sc_r2 g t nb tm1 pt1 (sc_ct tl1 nb) nc).1)) (((sc_r2 g t nb tm1 pt1 (sc_ct tl1 nb) nc).2.1)) ((sc_s3 g t (sc_r2 g t nb tm1 pt1 (sc_ct tl1 nb) nc).2.1 nc sm1 nb)) (((sc_r2 g t nb tm1 pt1 (sc_ct tl1 nb) nc).2.2)) x nb (by omega) (by omega) hS3 (by omega) hq6 hnb1 hnb2) (x_cwV yX4_rank cX4_rank 4 (some .int) 1 X q783 q784 q785 q7 q786 hd_X4_rank ⟨Nat.le_of_ble_eq_true rfl, Nat.le_of_ble_eq_true rfl⟩) (by omega) hS3.1 rfl rfl hl.1 rfl (Nat.le_of_ble_eq_true rfl) dX7_boat_83 ⟨Nat.le_of_ble_eq_true rfl, Nat.le_of_ble_eq_true rfl⟩ (fun H locs hw => ?_)
      exact x_iret X hr hlk hK hw (v := sc_rank ((sc_s3 g t (sc_r2 g t nb tm1 pt1 (sc_ct tl1 nb) nc).2.1 nc sm1 nb)) (((sc_r2 g t nb tm1 pt1 (sc_ct tl1 nb) nc).2.2)) x nb) rfl (⟨(by rw [s_X7_boat, if_pos c1, if_neg (by rw [c13]; decide), if_neg (by rw [c13]; decide), if_pos c13] : s_X7_boat g t tm1 pt1 sm1 tl1 x w nb nc = sc_rank ((sc_s3 g t (sc_r2 g t nb tm1 pt1 (sc_ct tl1 nb) nc).2.1 nc sm1 nb)) (((sc_r2 g t nb tm1 pt1 (sc_ct tl1 nb) nc).2.2)) x nb).symm, ⟨hq5, hq6, hq7, hq8, hq9, hq10, ⟨_, _, _, _, hS3⟩, ⟨_, _, hq11⟩, ⟨_, _, _, _, hq12⟩⟩, hfr⟩) dX7_boat_86
    · refine lv_tableIn (tgt := 87) X.1 X.2.1 dX7_boat_21 (by rw [c13]; decide) (by rw [c13]; decide) (by rw [c13]; rfl) (by decide) ?_
      refine lv_aload_n X.1 X.2.1 dX7_boat_87 rfl (lv_at hl 0 rfl) ?_
      refine x_get X hK hw (C := RX7) (T := TX7) (nf := 10) (k := q) (by omega) hq5 rfl inX7 3 (by decide) q221 (fun _ h9 => h9) rfl dX7_boat_88 ?_
      refine lv_iload_n X.1 X.2.1 dX7_boat_91 rfl (lv_at hl 1 rfl) ?_
      refine x_callVP X hK hw (k := (q + 14)) (As := [.int x]) (rest := []) (k_X4_dropped hI ((q + 14)) ((q + 1)) g t (((sc_r2 g t nb tm1 pt1 (sc_ct tl1 nb) nc).1)) (((sc_r2 g t nb tm1 pt1 (sc_ct tl1 nb) nc).2.1)) ((sc_s3 g t (sc_r2 g t nb tm1 pt1 (sc_ct tl1 nb) nc).2.1 nc sm1 nb)) (((sc_r2 g t nb tm1 pt1 (sc_ct tl1 nb) nc).2.2)) x nb (by omega) (by omega) hS3 (by omega) hq6 hnb1 hnb2) (x_cwV yX4_dropped cX4_dropped 2 (some .int) 1 X q792 q793 q794 q7 q795 hd_X4_dropped ⟨Nat.le_of_ble_eq_true rfl, Nat.le_of_ble_eq_true rfl⟩) (by omega) hS3.1 rfl rfl hl.1 rfl (Nat.le_of_ble_eq_true rfl) dX7_boat_92 ⟨Nat.le_of_ble_eq_true rfl, Nat.le_of_ble_eq_true rfl⟩ (fun H locs hw => ?_)
      exact x_iret X hr hlk hK hw (v := tg 4 36 ((sc_s3 g t (sc_r2 g t nb tm1 pt1 (sc_ct tl1 nb) nc).2.1 nc sm1 nb)) x (nI 2)) rfl (⟨(by rw [s_X7_boat, if_pos c1, if_neg (by rw [c13]; decide), if_neg (by rw [c13]; decide), if_neg (by rw [c13]; decide), if_pos c13] : s_X7_boat g t tm1 pt1 sm1 tl1 x w nb nc = tg 4 36 ((sc_s3 g t (sc_r2 g t nb tm1 pt1 (sc_ct tl1 nb) nc).2.1 nc sm1 nb)) x (nI 2)).symm, ⟨hq5, hq6, hq7, hq8, hq9, hq10, ⟨_, _, _, _, hS3⟩, ⟨_, _, hq11⟩, ⟨_, _, _, _, hq12⟩⟩, hfr⟩) dX7_boat_95
    · refine lv_tableIn (tgt := 96) X.1 X.2.1 dX7_boat_21 (by rw [c13]; decide) (by rw [c13]; decide) (by rw [c13]; rfl) (by decide) ?_
      refine lv_aload_n X.1 X.2.1 dX7_boat_96 rfl (lv_at hl 0 rfl) ?_
      refine x_get X hK hw (C := RX7) (T := TX7) (nf := 10) (k := q) (by omega) hq5 rfl inX7 3 (by decide) q221 (fun _ h9 => h9) rfl dX7_boat_97 ?_
      refine lv_iload_n X.1 X.2.1 dX7_boat_100 rfl (lv_at hl 1 rfl) ?_
      refine x_callVP X hK hw (k := (q + 14)) (As := [.int x]) (rest := []) (k_X4_firstPlaces hI ((q + 14)) ((q + 1)) g t (((sc_r2 g t nb tm1 pt1 (sc_ct tl1 nb) nc).1)) (((sc_r2 g t nb tm1 pt1 (sc_ct tl1 nb) nc).2.1)) ((sc_s3 g t (sc_r2 g t nb tm1 pt1 (sc_ct tl1 nb) nc).2.1 nc sm1 nb)) (((sc_r2 g t nb tm1 pt1 (sc_ct tl1 nb) nc).2.2)) x nb (by omega) (by omega) hS3 (by omega) hq6 hnb1 hnb2) (x_cwV yX4_firstPlaces cX4_firstPlaces 2 (some .int) 1 X q796 q797 q798 q7 q799 hd_X4_firstPlaces ⟨Nat.le_of_ble_eq_true rfl, Nat.le_of_ble_eq_true rfl⟩) (by omega) hS3.1 rfl rfl hl.1 rfl (Nat.le_of_ble_eq_true rfl) dX7_boat_101 ⟨Nat.le_of_ble_eq_true rfl, Nat.le_of_ble_eq_true rfl⟩ (fun H locs hw => ?_)
      exact x_iret X hr hlk hK hw (v := tg 10 90 (((sc_r2 g t nb tm1 pt1 (sc_ct tl1 nb) nc).2.2)) x (nI 1)) rfl (⟨(by rw [s_X7_boat, if_pos c1, if_neg (by rw [c13]; decide), if_neg (by rw [c13]; decide), if_neg (by rw [c13]; decide), if_neg (by rw [c13]; decide), if_pos c13] : s_X7_boat g t tm1 pt1 sm1 tl1 x w nb nc = tg 10 90 (((sc_r2 g t nb tm1 pt1 (sc_ct tl1 nb) nc).2.2)) x (nI 1)).symm, ⟨hq5, hq6, hq7, hq8, hq9, hq10, ⟨_, _, _, _, hS3⟩, ⟨_, _, hq11⟩, ⟨_, _, _, _, hq12⟩⟩, hfr⟩) dX7_boat_104
    · refine lv_tableOut (tgt := 105) X.1 X.2.1 dX7_boat_21 c13 (by decide) ?_
      refine lv_bipush (v := (-2)) X.1 X.2.1 dX7_boat_105 (by decide) ?_
      exact x_iret X hr hlk hK hw (v := (-2)) rfl (⟨(by rw [s_X7_boat, if_pos c1, if_neg (fun h => by rw [h] at c13; revert c13; decide), if_neg (fun h => by rw [h] at c13; revert c13; decide), if_neg (fun h => by rw [h] at c13; revert c13; decide), if_neg (fun h => by rw [h] at c13; revert c13; decide), if_neg (fun h => by rw [h] at c13; revert c13; decide)] : s_X7_boat g t tm1 pt1 sm1 tl1 x w nb nc = (-2)).symm, ⟨hq5, hq6, hq7, hq8, hq9, hq10, ⟨_, _, _, _, hS3⟩, ⟨_, _, hq11⟩, ⟨_, _, _, _, hq12⟩⟩, hfr⟩) dX7_boat_107
  · replace c1 := bI_z c1
    refine lv_iconst (v := (-1)) X.1 X.2.1 dX7_boat_11 (by decide) ?_
    exact x_iret X hr hlk hK hw (v := (-1)) rfl (⟨(by rw [s_X7_boat, if_neg c1] : s_X7_boat g t tm1 pt1 sm1 tl1 x w nb nc = (-1)).symm, ⟨hxMa, hxF, hxCo, hxJu, hxHi, hxF3, ⟨_, _, _, _, hxS1⟩, ⟨_, _, hxF2⟩, ⟨_, _, _, _, hxS2⟩⟩, hfr⟩) dX7_boat_12
def s_X7_race (g : Nat → Int32) (t : Nat → Nat → Int32) (tm1 : Nat → Int32) (x : Int32) (w : Int32) (nb : Nat) : Int32 := (if ¬ x < 0 ∧ ¬ g 2 ≤ x then (if w = 0 then tg 3 18 ((t 2)) x w else (if w = 1 then tg 3 18 ((t 2)) x w else (if w = 2 then tg 3 18 ((t 2)) x w else (if w = 3 then (if ¬ x < 0 ∧ ¬ c_cl g ≤ x then nI 2 else nI 1) else (if w = 4 then c_cnt t x (nI 0) (nI 3) nb else (if w = 5 then c_cnt t x (nI 4) (nI 1) nb else (if w = 6 then sc_ld (sc_rt t x tm1 nb) nb nb 0 else (-2)))))))) else (-1))
set_option maxHeartbeats 4000000 in
set_option maxRecDepth 100000 in
theorem k_X7_race {l : Launch} {D : va_G} {cI cB cS : ClassId} {ad : Nat → Nat} {N : Nat} {F : Nat → va_E} (hI : iN ad N) (q : Nat) (hs : Int32) (g : Nat → Int32) (t : Nat → Nat → Int32) (d : Nat) (z : Nat) (hg : Nat → Nat → Int32) (ht : Nat → Nat → Nat → Int32) (g3 : Nat → Int32) (t3 : Nat → Nat → Int32) (tm1 : Nat → Int32) (pt1 : Nat → Int32) (sm1 : Nat → Int32) (tl1 : Nat → Int32) (g2 : Nat → Int32) (t2 : Nat → Nat → Int32) (tm2 : Nat → Int32) (pt2 : Nat → Int32) (sm2 : Nat → Int32) (tl2 : Nat → Int32) (x : Int32) (w : Int32) (nb : Nat) (hq : q + 114 ≤ N) (hd5 : d < 5) (hz4 : z ≤ 4) (hxMa : MaF ad F q hs) (hxF : StF ad cI F (q + 1) g t) (hxCo : CoF ad F (q + 12) (q + 1)) (hxJu : JuF ad F (q + 13) (q + 1)) (hxHi : HiF ad cI cS F (q + 43) d z hg ht) (hxF3 : StF ad cI F (q + 100) g3 t3) (hxS1 : ScF ad cI F (q + 14) (q + 1) tm1 pt1 sm1 tl1) (hxF2 : StF ad cI F (q + 23) g2 t2) (hxS2 : ScF ad cI F (q + 34) (q + 23) tm2 pt2 sm2 tl2) (hnb1 : g 1 = nI nb) (hnb2 : nb < 2 ^ 31) : Ci l D cI cB cS ad N yX7_race cX7_race 3 (some .int) 5 115 [.ref (ad q), .int x, .int w] F (fun r F' => r = s_X7_race g t tm1 x w nb ∧ ClF ad cI cS F' q hs g t d z hg ht g3 t3 ∧ Fr F F' q (q + 111)) := by
  refine x_met (by decide +kernel) (Nat.le_of_ble_eq_true rfl) ?_
  intro p e s m below meth c X hr hlk hK hw ls hl
  replace hl : lv_has ls 3 [(0, .ref (ad q)), (1, .int x), (2, .int w)] := hl
  have hfr : Fr F F (q) (q + 111) := Fr.rf
  refine lv_aload_n X.1 X.2.1 dX7_race_0 rfl (lv_at hl 0 rfl) ?_
  refine x_get X hK hw (C := RX7) (T := TX7) (nf := 10) (k := q) (by omega) hxMa rfl inX7 0 (by decide) q218 (fun _ h9 => h9) rfl dX7_race_1 ?_
  refine lv_iload_n X.1 X.2.1 dX7_race_4 rfl (lv_at hl 1 rfl) ?_
  refine x_callVP X hK hw (k := (q + 1)) (As := [.int x]) (rest := []) (k_X5_hasRace hI ((q + 1)) g t x (by omega) hxF) (x_cwV yX5_hasRace cX5_hasRace 2 (some .boolean) 1 X q699 q700 q701 q2 q702 hd_X5_hasRace ⟨Nat.le_of_ble_eq_true rfl, Nat.le_of_ble_eq_true rfl⟩) (by omega) hxF.1 rfl rfl hl.1 rfl (Nat.le_of_ble_eq_true rfl) dX7_race_5 ⟨Nat.le_of_ble_eq_true rfl, Nat.le_of_ble_eq_true rfl⟩ (fun H locs hw => ?_)
  refine lv_if_ne (tgt := 13) X.1 X.2.1 dX7_race_8 (by decide) (fun c1 => ?_) (fun c1 => ?_)
  · replace c1 := bI_nz c1
    refine lv_iload_n X.1 X.2.1 dX7_race_13 rfl (lv_at hl 2 rfl) ?_
    rcases sw_0_6 w with c2 | c2 | c2 | c2 | c2 | c2 | c2 | c2
    · refine lv_tableIn (tgt := 56) X.1 X.2.1 dX7_race_14 (by rw [c2]; decide) (by rw [c2]; decide) (by rw [c2]; rfl) (by decide) ?_
      refine lv_aload_n X.1 X.2.1 dX7_race_56 rfl (lv_at hl 0 rfl) ?_
      refine x_get X hK hw (C := RX7) (T := TX7) (nf := 10) (k := q) (by omega) hxMa rfl inX7 0 (by decide) q218 (fun _ h9 => h9) rfl dX7_race_57 ?_
      refine x_get X hK hw (C := RX5) (T := TX5) (nf := 10) (k := (q + 1)) (by omega) hxF.1 rfl inX5 7 (by decide) q84 (fun _ h9 => h9) rfl dX7_race_60 ?_
      refine lv_iload_n X.1 X.2.1 dX7_race_63 rfl (lv_at hl 1 rfl) ?_
      refine lv_iload_n X.1 X.2.1 dX7_race_64 rfl (lv_at hl 2 rfl) ?_
      refine x_callVP X hK hw (k := (q + 6)) (As := [.int x, .int w]) (rest := []) (k_X6_get hI ((q + 6)) 3 18 ((t 2)) x w (by omega) (by omega) hxF.2.2.2.1) (x_cwV yX6_get cX6_get 4 (some .int) 2 X q705 q327 q328 q3 q329 hd_X6_get ⟨Nat.le_of_ble_eq_true rfl, Nat.le_of_ble_eq_true rfl⟩) (by omega) hxF.2.2.2.1.1 rfl rfl hl.1 rfl (Nat.le_of_ble_eq_true rfl) dX7_race_65 ⟨Nat.le_of_ble_eq_true rfl, Nat.le_of_ble_eq_true rfl⟩ (fun H locs hw => ?_)
      exact x_iret X hr hlk hK hw (v := tg 3 18 ((t 2)) x w) rfl (⟨(by rw [s_X7_race, if_pos c1, if_pos c2] : s_X7_race g t tm1 x w nb = tg 3 18 ((t 2)) x w).symm, ⟨hxMa, hxF, hxCo, hxJu, hxHi, hxF3, ⟨_, _, _, _, hxS1⟩, ⟨_, _, hxF2⟩, ⟨_, _, _, _, hxS2⟩⟩, hfr⟩) dX7_race_68
    · refine lv_tableIn (tgt := 56) X.1 X.2.1 dX7_race_14 (by rw [c2]; decide) (by rw [c2]; decide) (by rw [c2]; rfl) (by decide) ?_
      refine lv_aload_n X.1 X.2.1 dX7_race_56 rfl (lv_at hl 0 rfl) ?_
      refine x_get X hK hw (C := RX7) (T := TX7) (nf := 10) (k := q) (by omega) hxMa rfl inX7 0 (by decide) q218 (fun _ h9 => h9) rfl dX7_race_57 ?_
      refine x_get X hK hw (C := RX5) (T := TX5) (nf := 10) (k := (q + 1)) (by omega) hxF.1 rfl inX5 7 (by decide) q84 (fun _ h9 => h9) rfl dX7_race_60 ?_
      refine lv_iload_n X.1 X.2.1 dX7_race_63 rfl (lv_at hl 1 rfl) ?_
      refine lv_iload_n X.1 X.2.1 dX7_race_64 rfl (lv_at hl 2 rfl) ?_
      refine x_callVP X hK hw (k := (q + 6)) (As := [.int x, .int w]) (rest := []) (k_X6_get hI ((q + 6)) 3 18 ((t 2)) x w (by omega) (by omega) hxF.2.2.2.1) (x_cwV yX6_get cX6_get 4 (some .int) 2 X q705 q327 q328 q3 q329 hd_X6_get ⟨Nat.le_of_ble_eq_true rfl, Nat.le_of_ble_eq_true rfl⟩) (by omega) hxF.2.2.2.1.1 rfl rfl hl.1 rfl (Nat.le_of_ble_eq_true rfl) dX7_race_65 ⟨Nat.le_of_ble_eq_true rfl, Nat.le_of_ble_eq_true rfl⟩ (fun H locs hw => ?_)
      exact x_iret X hr hlk hK hw (v := tg 3 18 ((t 2)) x w) rfl (⟨(by rw [s_X7_race, if_pos c1, if_neg (by rw [c2]; decide), if_pos c2] : s_X7_race g t tm1 x w nb = tg 3 18 ((t 2)) x w).symm, ⟨hxMa, hxF, hxCo, hxJu, hxHi, hxF3, ⟨_, _, _, _, hxS1⟩, ⟨_, _, hxF2⟩, ⟨_, _, _, _, hxS2⟩⟩, hfr⟩) dX7_race_68
    · refine lv_tableIn (tgt := 56) X.1 X.2.1 dX7_race_14 (by rw [c2]; decide) (by rw [c2]; decide) (by rw [c2]; rfl) (by decide) ?_
      refine lv_aload_n X.1 X.2.1 dX7_race_56 rfl (lv_at hl 0 rfl) ?_
      refine x_get X hK hw (C := RX7) (T := TX7) (nf := 10) (k := q) (by omega) hxMa rfl inX7 0 (by decide) q218 (fun _ h9 => h9) rfl dX7_race_57 ?_
      refine x_get X hK hw (C := RX5) (T := TX5) (nf := 10) (k := (q + 1)) (by omega) hxF.1 rfl inX5 7 (by decide) q84 (fun _ h9 => h9) rfl dX7_race_60 ?_
      refine lv_iload_n X.1 X.2.1 dX7_race_63 rfl (lv_at hl 1 rfl) ?_
      refine lv_iload_n X.1 X.2.1 dX7_race_64 rfl (lv_at hl 2 rfl) ?_
      refine x_callVP X hK hw (k := (q + 6)) (As := [.int x, .int w]) (rest := []) (k_X6_get hI ((q + 6)) 3 18 ((t 2)) x w (by omega) (by omega) hxF.2.2.2.1) (x_cwV yX6_get cX6_get 4 (some .int) 2 X q705 q327 q328 q3 q329 hd_X6_get ⟨Nat.le_of_ble_eq_true rfl, Nat.le_of_ble_eq_true rfl⟩) (by omega) hxF.2.2.2.1.1 rfl rfl hl.1 rfl (Nat.le_of_ble_eq_true rfl) dX7_race_65 ⟨Nat.le_of_ble_eq_true rfl, Nat.le_of_ble_eq_true rfl⟩ (fun H locs hw => ?_)
      exact x_iret X hr hlk hK hw (v := tg 3 18 ((t 2)) x w) rfl (⟨(by rw [s_X7_race, if_pos c1, if_neg (by rw [c2]; decide), if_neg (by rw [c2]; decide), if_pos c2] : s_X7_race g t tm1 x w nb = tg 3 18 ((t 2)) x w).symm, ⟨hxMa, hxF, hxCo, hxJu, hxHi, hxF3, ⟨_, _, _, _, hxS1⟩, ⟨_, _, hxF2⟩, ⟨_, _, _, _, hxS2⟩⟩, hfr⟩) dX7_race_68
    · refine lv_tableIn (tgt := 69) X.1 X.2.1 dX7_race_14 (by rw [c2]; decide) (by rw [c2]; decide) (by rw [c2]; rfl) (by decide) ?_
      refine lv_aload_n X.1 X.2.1 dX7_race_69 rfl (lv_at hl 0 rfl) ?_
      refine x_get X hK hw (C := RX7) (T := TX7) (nf := 10) (k := q) (by omega) hxMa rfl inX7 0 (by decide) q218 (fun _ h9 => h9) rfl dX7_race_70 ?_
      refine lv_iload_n X.1 X.2.1 dX7_race_73 rfl (lv_at hl 1 rfl) ?_
      refine x_callVP X hK hw (k := (q + 1)) (As := [.int x]) (rest := []) (k_X5_isClosed hI ((q + 1)) g t x (by omega) hxF) (x_cwV yX5_isClosed cX5_isClosed 2 (some .boolean) 1 X q722 q723 q724 q2 q725 hd_X5_isClosed ⟨Nat.le_of_ble_eq_true rfl, Nat.le_of_ble_eq_true rfl⟩) (by omega) hxF.1 rfl rfl hl.1 rfl (Nat.le_of_ble_eq_true rfl) dX7_race_74 ⟨Nat.le_of_ble_eq_true rfl, Nat.le_of_ble_eq_true rfl⟩ (fun H locs hw => ?_)
      refine lv_if_eq (tgt := 84) X.1 X.2.1 dX7_race_77 (by decide) (fun c3 => ?_) (fun c3 => ?_)
      · replace c3 := bI_z c3
        refine lv_iconst (v := nI 1) X.1 X.2.1 dX7_race_84 (by decide) ?_
        exact x_iret X hr hlk hK hw (v := nI 1) rfl (⟨(by rw [s_X7_race, if_pos c1, if_neg (by rw [c2]; decide), if_neg (by rw [c2]; decide), if_neg (by rw [c2]; decide), if_pos c2, if_neg c3] : s_X7_race g t tm1 x w nb = nI 1).symm, ⟨hxMa, hxF, hxCo, hxJu, hxHi, hxF3, ⟨_, _, _, _, hxS1⟩, ⟨_, _, hxF2⟩, ⟨_, _, _, _, hxS2⟩⟩, hfr⟩) dX7_race_85
      · replace c3 := bI_nz c3
        refine lv_iconst (v := nI 2) X.1 X.2.1 dX7_race_80 (by decide) ?_
        refine lv_goto (tgt := 85) X.1 X.2.1 dX7_race_81 (by decide) ?_
        exact x_iret X hr hlk hK hw (v := nI 2) rfl (⟨(by rw [s_X7_race, if_pos c1, if_neg (by rw [c2]; decide), if_neg (by rw [c2]; decide), if_neg (by rw [c2]; decide), if_pos c2, if_pos c3] : s_X7_race g t tm1 x w nb = nI 2).symm, ⟨hxMa, hxF, hxCo, hxJu, hxHi, hxF3, ⟨_, _, _, _, hxS1⟩, ⟨_, _, hxF2⟩, ⟨_, _, _, _, hxS2⟩⟩, hfr⟩) dX7_race_85
    · refine lv_tableIn (tgt := 86) X.1 X.2.1 dX7_race_14 (by rw [c2]; decide) (by rw [c2]; decide) (by rw [c2]; rfl) (by decide) ?_
      refine lv_aload_n X.1 X.2.1 dX7_race_86 rfl (lv_at hl 0 rfl) ?_
      refine x_get X hK hw (C := RX7) (T := TX7) (nf := 10) (k := q) (by omega) hxMa rfl inX7 0 (by decide) q218 (fun _ h9 => h9) rfl dX7_race_87 ?_
      refine lv_iload_n X.1 X.2.1 dX7_race_90 rfl (lv_at hl 1 rfl) ?_
      refine lv_iconst (v := nI 0) X.1 X.2.1 dX7_race_91 (by decide) ?_
      refine lv_iconst (v := nI 3) X.1 X.2.1 dX7_race_92 (by decide) ?_
      refine x_callVP X hK hw (k := (q + 1)) (As := [.int x, .int (nI 0), .int (nI 3)]) (rest := []) (k_X5_entriesWith hI ((q + 1)) g t x (nI 0) (nI 3) nb (by omega) hxF hnb1 hnb2) (x_cwV yX5_entriesWith cX5_entriesWith 6 (some .int) 3 X q808 q408 q409 q2 q410 hd_X5_entriesWith ⟨Nat.le_of_ble_eq_true rfl, Nat.le_of_ble_eq_true rfl⟩) (by omega) hxF.1 rfl rfl hl.1 rfl (Nat.le_of_ble_eq_true rfl) dX7_race_93 ⟨Nat.le_of_ble_eq_true rfl, Nat.le_of_ble_eq_true rfl⟩ (fun H locs hw => ?_)
      exact x_iret X hr hlk hK hw (v := c_cnt t x (nI 0) (nI 3) nb) rfl (⟨(by rw [s_X7_race, if_pos c1, if_neg (by rw [c2]; decide), if_neg (by rw [c2]; decide), if_neg (by rw [c2]; decide), if_neg (by rw [c2]; decide), if_pos c2] : s_X7_race g t tm1 x w nb = c_cnt t x (nI 0) (nI 3) nb).symm, ⟨hxMa, hxF, hxCo, hxJu, hxHi, hxF3, ⟨_, _, _, _, hxS1⟩, ⟨_, _, hxF2⟩, ⟨_, _, _, _, hxS2⟩⟩, hfr⟩) dX7_race_96
    · refine lv_tableIn (tgt := 97) X.1 X.2.1 dX7_race_14 (by rw [c2]; decide) (by rw [c2]; decide) (by rw [c2]; rfl) (by decide) ?_
      refine lv_aload_n X.1 X.2.1 dX7_race_97 rfl (lv_at hl 0 rfl) ?_
      refine x_get X hK hw (C := RX7) (T := TX7) (nf := 10) (k := q) (by omega) hxMa rfl inX7 0 (by decide) q218 (fun _ h9 => h9) rfl dX7_race_98 ?_
      refine lv_iload_n X.1 X.2.1 dX7_race_101 rfl (lv_at hl 1 rfl) ?_
      refine lv_iconst (v := nI 4) X.1 X.2.1 dX7_race_102 (by decide) ?_
      refine lv_iconst (v := nI 1) X.1 X.2.1 dX7_race_103 (by decide) ?_
      refine x_callVP X hK hw (k := (q + 1)) (As := [.int x, .int (nI 4), .int (nI 1)]) (rest := []) (k_X5_entriesWith hI ((q + 1)) g t x (nI 4) (nI 1) nb (by omega) hxF hnb1 hnb2) (x_cwV yX5_entriesWith cX5_entriesWith 6 (some .int) 3 X q808 q408 q409 q2 q410 hd_X5_entriesWith ⟨Nat.le_of_ble_eq_true rfl, Nat.le_of_ble_eq_true rfl⟩) (by omega) hxF.1 rfl rfl hl.1 rfl (Nat.le_of_ble_eq_true rfl) dX7_race_104 ⟨Nat.le_of_ble_eq_true rfl, Nat.le_of_ble_eq_true rfl⟩ (fun H locs hw => ?_)
      exact x_iret X hr hlk hK hw (v := c_cnt t x (nI 4) (nI 1) nb) rfl (⟨(by rw [s_X7_race, if_pos c1, if_neg (by rw [c2]; decide), if_neg (by rw [c2]; decide), if_neg (by rw [c2]; decide), if_neg (by rw [c2]; decide), if_neg (by rw [c2]; decide), if_pos c2] : s_X7_race g t tm1 x w nb = c_cnt t x (nI 4) (nI 1) nb).symm, ⟨hxMa, hxF, hxCo, hxJu, hxHi, hxF3, ⟨_, _, _, _, hxS1⟩, ⟨_, _, hxF2⟩, ⟨_, _, _, _, hxS2⟩⟩, hfr⟩) dX7_race_107
    · refine lv_tableIn (tgt := 108) X.1 X.2.1 dX7_race_14 (by rw [c2]; decide) (by rw [c2]; decide) (by rw [c2]; rfl) (by decide) ?_
      refine lv_aload_n X.1 X.2.1 dX7_race_108 rfl (lv_at hl 0 rfl) ?_
      refine x_get X hK hw (C := RX7) (T := TX7) (nf := 10) (k := q) (by omega) hxMa rfl inX7 3 (by decide) q221 (fun _ h9 => h9) rfl dX7_race_109 ?_
      refine lv_iload_n X.1 X.2.1 dX7_race_112 rfl (lv_at hl 1 rfl) ?_
      refine x_callV X hK hw (k := (q + 14)) (As := [.int x]) (rest := []) (k_X4_leader hI ((q + 14)) ((q + 1)) g t tm1 pt1 sm1 tl1 x nb (by omega) (by omega) hxS1 (by omega) hxF hnb1 hnb2) (x_cwV yX4_leader cX4_leader 3 (some .int) 1 X q809 q810 q811 q7 q812 hd_X4_leader ⟨Nat.le_of_ble_eq_true rfl, Nat.le_of_ble_eq_true rfl⟩) (by omega) hxS1.1 rfl rfl hl.1 rfl (Nat.le_of_ble_eq_true rfl) dX7_race_113 ⟨Nat.le_of_ble_eq_true rfl, Nat.le_of_ble_eq_true rfl⟩ (fun r7 F4 H locs hp hw => ?_)
      obtain ⟨er8, hS5, hr6⟩ := hp
      refine x_top er8 ?_
      have hq9 := (hr6 _ (by omega)).trans hxMa
      have hq10 := hxF.cg hr6 (by omega)
      have hq11 := (hr6 _ (by omega)).trans hxCo
      have hq12 := (hr6 _ (by omega)).trans hxJu
      have hq13 := hxHi.cg hr6 (by omega)
      have hq14 := hxF3.cg hr6 (by omega)
      have hq15 := hxF2.cg hr6 (by omega)
      have hq16 := hxS2.cg hr6 (by omega)
      replace hfr := hfr.tr hr6 (by omega) (by omega)
      exact x_iret X hr hlk hK hw (v := sc_ld (sc_rt t x tm1 nb) nb nb 0) rfl (⟨(by rw [s_X7_race, if_pos c1, if_neg (by rw [c2]; decide), if_neg (by rw [c2]; decide), if_neg (by rw [c2]; decide), if_neg (by rw [c2]; decide), if_neg (by rw [c2]; decide), if_neg (by rw [c2]; decide), if_pos c2] : s_X7_race g t tm1 x w nb = sc_ld (sc_rt t x tm1 nb) nb nb 0).symm, ⟨hq9, hq10, hq11, hq12, hq13, hq14, ⟨_, _, _, _, hS5⟩, ⟨_, _, hq15⟩, ⟨_, _, _, _, hq16⟩⟩, hfr⟩) dX7_race_116
    · refine lv_tableOut (tgt := 117) X.1 X.2.1 dX7_race_14 c2 (by decide) ?_
      refine lv_bipush (v := (-2)) X.1 X.2.1 dX7_race_117 (by decide) ?_
      exact x_iret X hr hlk hK hw (v := (-2)) rfl (⟨(by rw [s_X7_race, if_pos c1, if_neg (fun h => by rw [h] at c2; revert c2; decide), if_neg (fun h => by rw [h] at c2; revert c2; decide), if_neg (fun h => by rw [h] at c2; revert c2; decide), if_neg (fun h => by rw [h] at c2; revert c2; decide), if_neg (fun h => by rw [h] at c2; revert c2; decide), if_neg (fun h => by rw [h] at c2; revert c2; decide), if_neg (fun h => by rw [h] at c2; revert c2; decide)] : s_X7_race g t tm1 x w nb = (-2)).symm, ⟨hxMa, hxF, hxCo, hxJu, hxHi, hxF3, ⟨_, _, _, _, hxS1⟩, ⟨_, _, hxF2⟩, ⟨_, _, _, _, hxS2⟩⟩, hfr⟩) dX7_race_119
  · replace c1 := bI_z c1
    refine lv_iconst (v := (-1)) X.1 X.2.1 dX7_race_11 (by decide) ?_
    exact x_iret X hr hlk hK hw (v := (-1)) rfl (⟨(by rw [s_X7_race, if_neg c1] : s_X7_race g t tm1 x w nb = (-1)).symm, ⟨hxMa, hxF, hxCo, hxJu, hxHi, hxF3, ⟨_, _, _, _, hxS1⟩, ⟨_, _, hxF2⟩, ⟨_, _, _, _, hxS2⟩⟩, hfr⟩) dX7_race_12
def s_X7_protest (g : Nat → Int32) (t : Nat → Nat → Int32) (x : Int32) (w : Int32) : Int32 := (if ¬ x < 0 ∧ ¬ g 4 ≤ x then (if w < 0 then (-2) else (if w ≤ (nI 3) then tg 4 40 ((t 4)) x w else (-2))) else (-1))
set_option maxHeartbeats 4000000 in
set_option maxRecDepth 100000 in
theorem k_X7_protest {l : Launch} {D : va_G} {cI cB cS : ClassId} {ad : Nat → Nat} {N : Nat} {F : Nat → va_E} (hI : iN ad N) (q : Nat) (hs : Int32) (g : Nat → Int32) (t : Nat → Nat → Int32) (d : Nat) (z : Nat) (hg : Nat → Nat → Int32) (ht : Nat → Nat → Nat → Int32) (g3 : Nat → Int32) (t3 : Nat → Nat → Int32) (tm1 : Nat → Int32) (pt1 : Nat → Int32) (sm1 : Nat → Int32) (tl1 : Nat → Int32) (g2 : Nat → Int32) (t2 : Nat → Nat → Int32) (tm2 : Nat → Int32) (pt2 : Nat → Int32) (sm2 : Nat → Int32) (tl2 : Nat → Int32) (x : Int32) (w : Int32) (hq : q + 114 ≤ N) (hd5 : d < 5) (hz4 : z ≤ 4) (hxMa : MaF ad F q hs) (hxF : StF ad cI F (q + 1) g t) (hxCo : CoF ad F (q + 12) (q + 1)) (hxJu : JuF ad F (q + 13) (q + 1)) (hxHi : HiF ad cI cS F (q + 43) d z hg ht) (hxF3 : StF ad cI F (q + 100) g3 t3) (hxS1 : ScF ad cI F (q + 14) (q + 1) tm1 pt1 sm1 tl1) (hxF2 : StF ad cI F (q + 23) g2 t2) (hxS2 : ScF ad cI F (q + 34) (q + 23) tm2 pt2 sm2 tl2) : Ci l D cI cB cS ad N yX7_protest cX7_protest 3 (some .int) 1 23 [.ref (ad q), .int x, .int w] F (fun r F' => r = s_X7_protest g t x w ∧ ClF ad cI cS F' q hs g t d z hg ht g3 t3 ∧ Fr F F' q (q + 111)) := by
  refine x_met (by decide +kernel) (Nat.le_of_ble_eq_true rfl) ?_
  intro p e s m below meth c X hr hlk hK hw ls hl
  replace hl : lv_has ls 3 [(0, .ref (ad q)), (1, .int x), (2, .int w)] := hl
  have hfr : Fr F F (q) (q + 111) := Fr.rf
  refine lv_aload_n X.1 X.2.1 dX7_protest_0 rfl (lv_at hl 0 rfl) ?_
  refine x_get X hK hw (C := RX7) (T := TX7) (nf := 10) (k := q) (by omega) hxMa rfl inX7 0 (by decide) q218 (fun _ h9 => h9) rfl dX7_protest_1 ?_
  refine lv_iload_n X.1 X.2.1 dX7_protest_4 rfl (lv_at hl 1 rfl) ?_
  refine x_callVP X hK hw (k := (q + 1)) (As := [.int x]) (rest := []) (k_X5_hasProtest hI ((q + 1)) g t x (by omega) hxF) (x_cwV yX5_hasProtest cX5_hasProtest 2 (some .boolean) 1 X q817 q436 q437 q2 q438 hd_X5_hasProtest ⟨Nat.le_of_ble_eq_true rfl, Nat.le_of_ble_eq_true rfl⟩) (by omega) hxF.1 rfl rfl hl.1 rfl (Nat.le_of_ble_eq_true rfl) dX7_protest_5 ⟨Nat.le_of_ble_eq_true rfl, Nat.le_of_ble_eq_true rfl⟩ (fun H locs hw => ?_)
  refine lv_if_ne (tgt := 13) X.1 X.2.1 dX7_protest_8 (by decide) (fun c1 => ?_) (fun c1 => ?_)
  · replace c1 := bI_nz c1
    refine lv_iload_n X.1 X.2.1 dX7_protest_13 rfl (lv_at hl 2 rfl) ?_
    refine lv_if_lt (tgt := 22) X.1 X.2.1 dX7_protest_14 (by decide) (fun c2 => ?_) (fun c2 => ?_)
    · refine lv_bipush (v := (-2)) X.1 X.2.1 dX7_protest_22 (by decide) ?_
      exact x_iret X hr hlk hK hw (v := (-2)) rfl (⟨(by rw [s_X7_protest, if_pos c1, if_pos c2] : s_X7_protest g t x w = (-2)).symm, ⟨hxMa, hxF, hxCo, hxJu, hxHi, hxF3, ⟨_, _, _, _, hxS1⟩, ⟨_, _, hxF2⟩, ⟨_, _, _, _, hxS2⟩⟩, hfr⟩) dX7_protest_24
    · refine lv_iload_n X.1 X.2.1 dX7_protest_17 rfl (lv_at hl 2 rfl) ?_
      refine lv_iconst (v := nI 3) X.1 X.2.1 dX7_protest_18 (by decide) ?_
      refine lv_icmp_le (tgt := 25) X.1 X.2.1 dX7_protest_19 (by decide) (fun c3 => ?_) (fun c3 => ?_)
      · refine lv_aload_n X.1 X.2.1 dX7_protest_25 rfl (lv_at hl 0 rfl) ?_
        refine x_get X hK hw (C := RX7) (T := TX7) (nf := 10) (k := q) (by omega) hxMa rfl inX7 0 (by decide) q218 (fun _ h9 => h9) rfl dX7_protest_26 ?_
        refine x_get X hK hw (C := RX5) (T := TX5) (nf := 10) (k := (q + 1)) (by omega) hxF.1 rfl inX5 9 (by decide) q91 (fun _ h9 => h9) rfl dX7_protest_29 ?_
        refine lv_iload_n X.1 X.2.1 dX7_protest_32 rfl (lv_at hl 1 rfl) ?_
        refine lv_iload_n X.1 X.2.1 dX7_protest_33 rfl (lv_at hl 2 rfl) ?_
        refine x_callVP X hK hw (k := (q + 10)) (As := [.int x, .int w]) (rest := []) (k_X6_get hI ((q + 10)) 4 40 ((t 4)) x w (by omega) (by omega) hxF.2.2.2.2.2) (x_cwV yX6_get cX6_get 4 (some .int) 2 X q705 q327 q328 q3 q329 hd_X6_get ⟨Nat.le_of_ble_eq_true rfl, Nat.le_of_ble_eq_true rfl⟩) (by omega) hxF.2.2.2.2.2.1 rfl rfl hl.1 rfl (Nat.le_of_ble_eq_true rfl) dX7_protest_34 ⟨Nat.le_of_ble_eq_true rfl, Nat.le_of_ble_eq_true rfl⟩ (fun H locs hw => ?_)
        exact x_iret X hr hlk hK hw (v := tg 4 40 ((t 4)) x w) rfl (⟨(by rw [s_X7_protest, if_pos c1, if_neg c2, if_pos c3] : s_X7_protest g t x w = tg 4 40 ((t 4)) x w).symm, ⟨hxMa, hxF, hxCo, hxJu, hxHi, hxF3, ⟨_, _, _, _, hxS1⟩, ⟨_, _, hxF2⟩, ⟨_, _, _, _, hxS2⟩⟩, hfr⟩) dX7_protest_37
      · refine lv_bipush (v := (-2)) X.1 X.2.1 dX7_protest_22 (by decide) ?_
        exact x_iret X hr hlk hK hw (v := (-2)) rfl (⟨(by rw [s_X7_protest, if_pos c1, if_neg c2, if_neg c3] : s_X7_protest g t x w = (-2)).symm, ⟨hxMa, hxF, hxCo, hxJu, hxHi, hxF3, ⟨_, _, _, _, hxS1⟩, ⟨_, _, hxF2⟩, ⟨_, _, _, _, hxS2⟩⟩, hfr⟩) dX7_protest_24
  · replace c1 := bI_z c1
    refine lv_iconst (v := (-1)) X.1 X.2.1 dX7_protest_11 (by decide) ?_
    exact x_iret X hr hlk hK hw (v := (-1)) rfl (⟨(by rw [s_X7_protest, if_neg c1] : s_X7_protest g t x w = (-1)).symm, ⟨hxMa, hxF, hxCo, hxJu, hxHi, hxF3, ⟨_, _, _, _, hxS1⟩, ⟨_, _, hxF2⟩, ⟨_, _, _, _, hxS2⟩⟩, hfr⟩) dX7_protest_12
def s_X7_placeNow (g : Nat → Int32) (t : Nat → Nat → Int32) (tm1 : Nat → Int32) (x : Int32) (nb : Nat) : Int32 := (if ¬ x < 0 ∧ ¬ g 1 ≤ x then (if g 3 = nI 1 then s_place (sc_rt t (g 2 - nI 1) tm1 nb) x nb else (-4)) else (-1))
set_option maxHeartbeats 4000000 in
set_option maxRecDepth 100000 in
theorem k_X7_placeNow {l : Launch} {D : va_G} {cI cB cS : ClassId} {ad : Nat → Nat} {N : Nat} {F : Nat → va_E} (hI : iN ad N) (q : Nat) (hs : Int32) (g : Nat → Int32) (t : Nat → Nat → Int32) (d : Nat) (z : Nat) (hg : Nat → Nat → Int32) (ht : Nat → Nat → Nat → Int32) (g3 : Nat → Int32) (t3 : Nat → Nat → Int32) (tm1 : Nat → Int32) (pt1 : Nat → Int32) (sm1 : Nat → Int32) (tl1 : Nat → Int32) (g2 : Nat → Int32) (t2 : Nat → Nat → Int32) (tm2 : Nat → Int32) (pt2 : Nat → Int32) (sm2 : Nat → Int32) (tl2 : Nat → Int32) (x : Int32) (nb : Nat) (hq : q + 114 ≤ N) (hd5 : d < 5) (hz4 : z ≤ 4) (hxMa : MaF ad F q hs) (hxF : StF ad cI F (q + 1) g t) (hxCo : CoF ad F (q + 12) (q + 1)) (hxJu : JuF ad F (q + 13) (q + 1)) (hxHi : HiF ad cI cS F (q + 43) d z hg ht) (hxF3 : StF ad cI F (q + 100) g3 t3) (hxS1 : ScF ad cI F (q + 14) (q + 1) tm1 pt1 sm1 tl1) (hxF2 : StF ad cI F (q + 23) g2 t2) (hxS2 : ScF ad cI F (q + 34) (q + 23) tm2 pt2 sm2 tl2) (hnb1 : g 1 = nI nb) (hnb2 : nb < 2 ^ 31) : Ci l D cI cB cS ad N yX7_placeNow cX7_placeNow 2 (some .int) 5 115 [.ref (ad q), .int x] F (fun r F' => r = s_X7_placeNow g t tm1 x nb ∧ ClF ad cI cS F' q hs g t d z hg ht g3 t3 ∧ Fr F F' q (q + 111)) := by
  refine x_met (by decide +kernel) (Nat.le_of_ble_eq_true rfl) ?_
  intro p e s m below meth c X hr hlk hK hw ls hl
  replace hl : lv_has ls 2 [(0, .ref (ad q)), (1, .int x)] := hl
  have hfr : Fr F F (q) (q + 111) := Fr.rf
  refine lv_aload_n X.1 X.2.1 dX7_placeNow_0 rfl (lv_at hl 0 rfl) ?_
  refine x_get X hK hw (C := RX7) (T := TX7) (nf := 10) (k := q) (by omega) hxMa rfl inX7 0 (by decide) q218 (fun _ h9 => h9) rfl dX7_placeNow_1 ?_
  refine lv_iload_n X.1 X.2.1 dX7_placeNow_4 rfl (lv_at hl 1 rfl) ?_
  refine x_callVP X hK hw (k := (q + 1)) (As := [.int x]) (rest := []) (k_X5_hasBoat hI ((q + 1)) g t x (by omega) hxF) (x_cwV yX5_hasBoat cX5_hasBoat 2 (some .boolean) 1 X q703 q362 q363 q2 q364 hd_X5_hasBoat ⟨Nat.le_of_ble_eq_true rfl, Nat.le_of_ble_eq_true rfl⟩) (by omega) hxF.1 rfl rfl hl.1 rfl (Nat.le_of_ble_eq_true rfl) dX7_placeNow_5 ⟨Nat.le_of_ble_eq_true rfl, Nat.le_of_ble_eq_true rfl⟩ (fun H locs hw => ?_)
  refine lv_if_ne (tgt := 13) X.1 X.2.1 dX7_placeNow_8 (by decide) (fun c1 => ?_) (fun c1 => ?_)
  · replace c1 := bI_nz c1
    refine lv_aload_n X.1 X.2.1 dX7_placeNow_13 rfl (lv_at hl 0 rfl) ?_
    refine x_get X hK hw (C := RX7) (T := TX7) (nf := 10) (k := q) (by omega) hxMa rfl inX7 0 (by decide) q218 (fun _ h9 => h9) rfl dX7_placeNow_14 ?_
    refine x_callVP X hK hw (k := (q + 1)) (As := []) (rest := []) (k_X5_isPrepared hI ((q + 1)) g t (by omega) hxF) (x_cwV yX5_isPrepared cX5_isPrepared 1 (some .boolean) 0 X q832 q290 q291 q2 q292 hd_X5_isPrepared ⟨Nat.le_of_ble_eq_true rfl, Nat.le_of_ble_eq_true rfl⟩) (by omega) hxF.1 rfl rfl hl.1 rfl (Nat.le_of_ble_eq_true rfl) dX7_placeNow_17 ⟨Nat.le_of_ble_eq_true rfl, Nat.le_of_ble_eq_true rfl⟩ (fun H locs hw => ?_)
    refine lv_if_ne (tgt := 26) X.1 X.2.1 dX7_placeNow_20 (by decide) (fun c2 => ?_) (fun c2 => ?_)
    · replace c2 := bI_nz c2
      refine lv_aload_n X.1 X.2.1 dX7_placeNow_26 rfl (lv_at hl 0 rfl) ?_
      refine x_get X hK hw (C := RX7) (T := TX7) (nf := 10) (k := q) (by omega) hxMa rfl inX7 3 (by decide) q221 (fun _ h9 => h9) rfl dX7_placeNow_27 ?_
      refine lv_aload_n X.1 X.2.1 dX7_placeNow_30 rfl (lv_at hl 0 rfl) ?_
      refine x_get X hK hw (C := RX7) (T := TX7) (nf := 10) (k := q) (by omega) hxMa rfl inX7 0 (by decide) q218 (fun _ h9 => h9) rfl dX7_placeNow_31 ?_
      refine x_callVP X hK hw (k := (q + 1)) (As := []) (rest := [.ref (ad (q + 14))]) (k_X5_latestRace hI ((q + 1)) g t (by omega) hxF) (x_cwV yX5_latestRace cX5_latestRace 1 (some .int) 0 X q833 q298 q299 q2 q300 hd_X5_latestRace ⟨Nat.le_of_ble_eq_true rfl, Nat.le_of_ble_eq_true rfl⟩) (by omega) hxF.1 rfl rfl hl.1 rfl (Nat.le_of_ble_eq_true rfl) dX7_placeNow_34 ⟨Nat.le_of_ble_eq_true rfl, Nat.le_of_ble_eq_true rfl⟩ (fun H locs hw => ?_)
      refine lv_iload_n X.1 X.2.1 dX7_placeNow_37 rfl (lv_at hl 1 rfl) ?_
      refine x_callV X hK hw (k := (q + 14)) (As := [.int (g 2 - nI 1), .int x]) (rest := []) (k_X4_placeIn hI ((q + 14)) ((q + 1)) g t tm1 pt1 sm1 tl1 (g 2 - nI 1) x nb (by omega) (by omega) hxS1 (by omega) hxF hnb1 hnb2) (x_cwV yX4_placeIn cX4_placeIn 3 (some .int) 2 X q730 q731 q732 q7 q733 hd_X4_placeIn ⟨Nat.le_of_ble_eq_true rfl, Nat.le_of_ble_eq_true rfl⟩) (by omega) hxS1.1 rfl rfl hl.1 rfl (Nat.le_of_ble_eq_true rfl) dX7_placeNow_38 ⟨Nat.le_of_ble_eq_true rfl, Nat.le_of_ble_eq_true rfl⟩ (fun r6 F3 H locs hp hw => ?_)
      obtain ⟨er7, hS4, hr5⟩ := hp
      refine x_top er7 ?_
      have hq8 := (hr5 _ (by omega)).trans hxMa
      have hq9 := hxF.cg hr5 (by omega)
      have hq10 := (hr5 _ (by omega)).trans hxCo
      have hq11 := (hr5 _ (by omega)).trans hxJu
      have hq12 := hxHi.cg hr5 (by omega)
      have hq13 := hxF3.cg hr5 (by omega)
      have hq14 := hxF2.cg hr5 (by omega)
      have hq15 := hxS2.cg hr5 (by omega)
      replace hfr := hfr.tr hr5 (by omega) (by omega)
      exact x_iret X hr hlk hK hw (v := s_place (sc_rt t (g 2 - nI 1) tm1 nb) x nb) rfl (⟨(by rw [s_X7_placeNow, if_pos c1, if_pos c2] : s_X7_placeNow g t tm1 x nb = s_place (sc_rt t (g 2 - nI 1) tm1 nb) x nb).symm, ⟨hq8, hq9, hq10, hq11, hq12, hq13, ⟨_, _, _, _, hS4⟩, ⟨_, _, hq14⟩, ⟨_, _, _, _, hq15⟩⟩, hfr⟩) dX7_placeNow_41
    · replace c2 := bI_z c2
      refine lv_bipush (v := (-4)) X.1 X.2.1 dX7_placeNow_23 (by decide) ?_
      exact x_iret X hr hlk hK hw (v := (-4)) rfl (⟨(by rw [s_X7_placeNow, if_pos c1, if_neg c2] : s_X7_placeNow g t tm1 x nb = (-4)).symm, ⟨hxMa, hxF, hxCo, hxJu, hxHi, hxF3, ⟨_, _, _, _, hxS1⟩, ⟨_, _, hxF2⟩, ⟨_, _, _, _, hxS2⟩⟩, hfr⟩) dX7_placeNow_25
  · replace c1 := bI_z c1
    refine lv_iconst (v := (-1)) X.1 X.2.1 dX7_placeNow_11 (by decide) ?_
    exact x_iret X hr hlk hK hw (v := (-1)) rfl (⟨(by rw [s_X7_placeNow, if_neg c1] : s_X7_placeNow g t tm1 x nb = (-1)).symm, ⟨hxMa, hxF, hxCo, hxJu, hxHi, hxF3, ⟨_, _, _, _, hxS1⟩, ⟨_, _, hxF2⟩, ⟨_, _, _, _, hxS2⟩⟩, hfr⟩) dX7_placeNow_12
theorem hd_X4_secondsToLead : yX4_secondsToLead.cls = RX4 ∧ yX4_secondsToLead.cls ≠ "java/lang/invoke/MethodHandle" ∧ yX4_secondsToLead.cls ≠ "java/lang/invoke/VarHandle" ∧ (parseMethodDescriptor yX4_secondsToLead.desc).map (fun d => d.parameters.length) = some 1 := by decide +kernel
def s_X7_secondsLeft (g : Nat → Int32) (t : Nat → Nat → Int32) (tm1 : Nat → Int32) (x : Int32) (nb : Nat) : Int32 := (if ¬ x < 0 ∧ ¬ g 1 ≤ x then (if g 3 = nI 1 then (if (c_lat g t x (nI 0)) = (nI 2) then s_X4_secondsToLead g t tm1 x nb else (-4)) else (-4)) else (-1))
set_option maxHeartbeats 4000000 in
set_option maxRecDepth 100000 in
theorem k_X7_secondsLeft {l : Launch} {D : va_G} {cI cB cS : ClassId} {ad : Nat → Nat} {N : Nat} {F : Nat → va_E} (hI : iN ad N) (q : Nat) (hs : Int32) (g : Nat → Int32) (t : Nat → Nat → Int32) (d : Nat) (z : Nat) (hg : Nat → Nat → Int32) (ht : Nat → Nat → Nat → Int32) (g3 : Nat → Int32) (t3 : Nat → Nat → Int32) (tm1 : Nat → Int32) (pt1 : Nat → Int32) (sm1 : Nat → Int32) (tl1 : Nat → Int32) (g2 : Nat → Int32) (t2 : Nat → Nat → Int32) (tm2 : Nat → Int32) (pt2 : Nat → Int32) (sm2 : Nat → Int32) (tl2 : Nat → Int32) (x : Int32) (nb : Nat) (hq : q + 114 ≤ N) (hd5 : d < 5) (hz4 : z ≤ 4) (hxMa : MaF ad F q hs) (hxF : StF ad cI F (q + 1) g t) (hxCo : CoF ad F (q + 12) (q + 1)) (hxJu : JuF ad F (q + 13) (q + 1)) (hxHi : HiF ad cI cS F (q + 43) d z hg ht) (hxF3 : StF ad cI F (q + 100) g3 t3) (hxS1 : ScF ad cI F (q + 14) (q + 1) tm1 pt1 sm1 tl1) (hxF2 : StF ad cI F (q + 23) g2 t2) (hxS2 : ScF ad cI F (q + 34) (q + 23) tm2 pt2 sm2 tl2) (hnb1 : g 1 = nI nb) (hnb2 : nb < 2 ^ 31) : Ci l D cI cB cS ad N yX7_secondsLeft cX7_secondsLeft 2 (some .int) 6 141 [.ref (ad q), .int x] F (fun r F' => r = s_X7_secondsLeft g t tm1 x nb ∧ ClF ad cI cS F' q hs g t d z hg ht g3 t3 ∧ Fr F F' q (q + 111)) := by
  refine x_met (by decide +kernel) (Nat.le_of_ble_eq_true rfl) ?_
  intro p e s m below meth c X hr hlk hK hw ls hl
  replace hl : lv_has ls 2 [(0, .ref (ad q)), (1, .int x)] := hl
  have hfr : Fr F F (q) (q + 111) := Fr.rf
  refine lv_aload_n X.1 X.2.1 dX7_secondsLeft_0 rfl (lv_at hl 0 rfl) ?_
  refine x_get X hK hw (C := RX7) (T := TX7) (nf := 10) (k := q) (by omega) hxMa rfl inX7 0 (by decide) q218 (fun _ h9 => h9) rfl dX7_secondsLeft_1 ?_
  refine lv_iload_n X.1 X.2.1 dX7_secondsLeft_4 rfl (lv_at hl 1 rfl) ?_
  refine x_callVP X hK hw (k := (q + 1)) (As := [.int x]) (rest := []) (k_X5_hasBoat hI ((q + 1)) g t x (by omega) hxF) (x_cwV yX5_hasBoat cX5_hasBoat 2 (some .boolean) 1 X q703 q362 q363 q2 q364 hd_X5_hasBoat ⟨Nat.le_of_ble_eq_true rfl, Nat.le_of_ble_eq_true rfl⟩) (by omega) hxF.1 rfl rfl hl.1 rfl (Nat.le_of_ble_eq_true rfl) dX7_secondsLeft_5 ⟨Nat.le_of_ble_eq_true rfl, Nat.le_of_ble_eq_true rfl⟩ (fun H locs hw => ?_)
  refine lv_if_ne (tgt := 13) X.1 X.2.1 dX7_secondsLeft_8 (by decide) (fun c1 => ?_) (fun c1 => ?_)
  · replace c1 := bI_nz c1
    refine lv_aload_n X.1 X.2.1 dX7_secondsLeft_13 rfl (lv_at hl 0 rfl) ?_
    refine x_get X hK hw (C := RX7) (T := TX7) (nf := 10) (k := q) (by omega) hxMa rfl inX7 0 (by decide) q218 (fun _ h9 => h9) rfl dX7_secondsLeft_14 ?_
    refine x_callVP X hK hw (k := (q + 1)) (As := []) (rest := []) (k_X5_isPrepared hI ((q + 1)) g t (by omega) hxF) (x_cwV yX5_isPrepared cX5_isPrepared 1 (some .boolean) 0 X q832 q290 q291 q2 q292 hd_X5_isPrepared ⟨Nat.le_of_ble_eq_true rfl, Nat.le_of_ble_eq_true rfl⟩) (by omega) hxF.1 rfl rfl hl.1 rfl (Nat.le_of_ble_eq_true rfl) dX7_secondsLeft_17 ⟨Nat.le_of_ble_eq_true rfl, Nat.le_of_ble_eq_true rfl⟩ (fun H locs hw => ?_)
    refine lv_if_eq (tgt := 36) X.1 X.2.1 dX7_secondsLeft_20 (by decide) (fun c2 => ?_) (fun c2 => ?_)
    · replace c2 := bI_z c2
      refine lv_bipush (v := (-4)) X.1 X.2.1 dX7_secondsLeft_36 (by decide) ?_
      exact x_iret X hr hlk hK hw (v := (-4)) rfl (⟨(by rw [s_X7_secondsLeft, if_pos c1, if_neg c2] : s_X7_secondsLeft g t tm1 x nb = (-4)).symm, ⟨hxMa, hxF, hxCo, hxJu, hxHi, hxF3, ⟨_, _, _, _, hxS1⟩, ⟨_, _, hxF2⟩, ⟨_, _, _, _, hxS2⟩⟩, hfr⟩) dX7_secondsLeft_38
    · replace c2 := bI_nz c2
      refine lv_aload_n X.1 X.2.1 dX7_secondsLeft_23 rfl (lv_at hl 0 rfl) ?_
      refine x_get X hK hw (C := RX7) (T := TX7) (nf := 10) (k := q) (by omega) hxMa rfl inX7 0 (by decide) q218 (fun _ h9 => h9) rfl dX7_secondsLeft_24 ?_
      refine lv_iload_n X.1 X.2.1 dX7_secondsLeft_27 rfl (lv_at hl 1 rfl) ?_
      refine lv_iconst (v := nI 0) X.1 X.2.1 dX7_secondsLeft_28 (by decide) ?_
      refine x_callVP X hK hw (k := (q + 1)) (As := [.int x, .int (nI 0)]) (rest := []) (k_X5_latestEntry hI ((q + 1)) g t x (nI 0) (by omega) hxF) (x_cwV yX5_latestEntry cX5_latestEntry 3 (some .int) 2 X q838 q370 q371 q2 q372 hd_X5_latestEntry ⟨Nat.le_of_ble_eq_true rfl, Nat.le_of_ble_eq_true rfl⟩) (by omega) hxF.1 rfl rfl hl.1 rfl (Nat.le_of_ble_eq_true rfl) dX7_secondsLeft_29 ⟨Nat.le_of_ble_eq_true rfl, Nat.le_of_ble_eq_true rfl⟩ (fun H locs hw => ?_)
      refine lv_iconst (v := nI 2) X.1 X.2.1 dX7_secondsLeft_32 (by decide) ?_
      refine lv_icmp_eq (tgt := 39) X.1 X.2.1 dX7_secondsLeft_33 (by decide) (fun c3 => ?_) (fun c3 => ?_)
      · refine lv_aload_n X.1 X.2.1 dX7_secondsLeft_39 rfl (lv_at hl 0 rfl) ?_
        refine x_get X hK hw (C := RX7) (T := TX7) (nf := 10) (k := q) (by omega) hxMa rfl inX7 3 (by decide) q221 (fun _ h9 => h9) rfl dX7_secondsLeft_40 ?_
        refine lv_iload_n X.1 X.2.1 dX7_secondsLeft_43 rfl (lv_at hl 1 rfl) ?_
        refine x_callV X hK hw (k := (q + 14)) (As := [.int x]) (rest := []) (k_X4_secondsToLead hI ((q + 14)) ((q + 1)) g t tm1 pt1 sm1 tl1 x nb (by omega) (by omega) hxS1 (by omega) hxF hnb1 hnb2) (x_cwV yX4_secondsToLead cX4_secondsToLead 7 (some .int) 1 X q839 q840 q841 q7 q842 hd_X4_secondsToLead ⟨Nat.le_of_ble_eq_true rfl, Nat.le_of_ble_eq_true rfl⟩) (by omega) hxS1.1 rfl rfl hl.1 rfl (Nat.le_of_ble_eq_true rfl) dX7_secondsLeft_44 ⟨Nat.le_of_ble_eq_true rfl, Nat.le_of_ble_eq_true rfl⟩ (fun r7 F4 H locs hp hw => ?_)
        obtain ⟨er8, hS5, hr6⟩ := hp
        refine x_top er8 ?_
        have hq9 := (hr6 _ (by omega)).trans hxMa
        have hq10 := hxF.cg hr6 (by omega)
        have hq11 := (hr6 _ (by omega)).trans hxCo
        have hq12 := (hr6 _ (by omega)).trans hxJu
        have hq13 := hxHi.cg hr6 (by omega)
        have hq14 := hxF3.cg hr6 (by omega)
        have hq15 := hxF2.cg hr6 (by omega)
        have hq16 := hxS2.cg hr6 (by omega)
        replace hfr := hfr.tr hr6 (by omega) (by omega)
        exact x_iret X hr hlk hK hw (v := s_X4_secondsToLead g t tm1 x nb) rfl (⟨(by rw [s_X7_secondsLeft, if_pos c1, if_pos c2, if_pos c3] : s_X7_secondsLeft g t tm1 x nb = s_X4_secondsToLead g t tm1 x nb).symm, ⟨hq9, hq10, hq11, hq12, hq13, hq14, ⟨_, _, _, _, hS5⟩, ⟨_, _, hq15⟩, ⟨_, _, _, _, hq16⟩⟩, hfr⟩) dX7_secondsLeft_47
      · refine lv_bipush (v := (-4)) X.1 X.2.1 dX7_secondsLeft_36 (by decide) ?_
        exact x_iret X hr hlk hK hw (v := (-4)) rfl (⟨(by rw [s_X7_secondsLeft, if_pos c1, if_pos c2, if_neg c3] : s_X7_secondsLeft g t tm1 x nb = (-4)).symm, ⟨hxMa, hxF, hxCo, hxJu, hxHi, hxF3, ⟨_, _, _, _, hxS1⟩, ⟨_, _, hxF2⟩, ⟨_, _, _, _, hxS2⟩⟩, hfr⟩) dX7_secondsLeft_38
  · replace c1 := bI_z c1
    refine lv_iconst (v := (-1)) X.1 X.2.1 dX7_secondsLeft_11 (by decide) ?_
    exact x_iret X hr hlk hK hw (v := (-1)) rfl (⟨(by rw [s_X7_secondsLeft, if_neg c1] : s_X7_secondsLeft g t tm1 x nb = (-1)).symm, ⟨hxMa, hxF, hxCo, hxJu, hxHi, hxF3, ⟨_, _, _, _, hxS1⟩, ⟨_, _, hxF2⟩, ⟨_, _, _, _, hxS2⟩⟩, hfr⟩) dX7_secondsLeft_12
def c_rkd (sm tl : Nat → Int32) (x : Int32) (nb : Nat) : Nat → Nat → Int32
  | 0, _ => (-5)
  | f + 1, i => if sc_rank sm tl (nI i) nb = x then nI i else c_rkd sm tl x nb f (i + 1)
set_option maxHeartbeats 4000000 in
set_option maxRecDepth 100000 in
theorem k_X7_ranked {l : Launch} {D : va_G} {cI cB cS : ClassId} {ad : Nat → Nat} {N : Nat} {F : Nat → va_E} (hI : iN ad N) (q : Nat) (hs : Int32) (g : Nat → Int32) (t : Nat → Nat → Int32) (d : Nat) (z : Nat) (hg : Nat → Nat → Int32) (ht : Nat → Nat → Nat → Int32) (g3 : Nat → Int32) (t3 : Nat → Nat → Int32) (tm1 : Nat → Int32) (pt1 : Nat → Int32) (sm1 : Nat → Int32) (tl1 : Nat → Int32) (g2 : Nat → Int32) (t2 : Nat → Nat → Int32) (tm2 : Nat → Int32) (pt2 : Nat → Int32) (sm2 : Nat → Int32) (tl2 : Nat → Int32) (x : Int32) (nb : Nat) (nc : Nat) (hq : q + 114 ≤ N) (hd5 : d < 5) (hz4 : z ≤ 4) (hxMa : MaF ad F q hs) (hxF : StF ad cI F (q + 1) g t) (hxCo : CoF ad F (q + 12) (q + 1)) (hxJu : JuF ad F (q + 13) (q + 1)) (hxHi : HiF ad cI cS F (q + 43) d z hg ht) (hxF3 : StF ad cI F (q + 100) g3 t3) (hxS1 : ScF ad cI F (q + 14) (q + 1) tm1 pt1 sm1 tl1) (hxF2 : StF ad cI F (q + 23) g2 t2) (hxS2 : ScF ad cI F (q + 34) (q + 23) tm2 pt2 sm2 tl2) (hnb1 : g 1 = nI nb) (hnb2 : nb < 2 ^ 31) (hnc1 : c_cl g = nI nc) (hnc2 : nc < 2 ^ 31) : Ci l D cI cB cS ad N yX7_ranked cX7_ranked 3 (some .int) 6 137 [.ref (ad q), .int x] F (fun r F' => r = (if nI 1 ≤ x then c_rkd (sc_s3 g t (sc_r2 g t nb tm1 pt1 (sc_ct tl1 nb) nc).2.1 nc sm1 nb) (sc_r2 g t nb tm1 pt1 (sc_ct tl1 nb) nc).2.2 x nb nb 0 else (-2)) ∧ ClF ad cI cS F' q hs g t d z hg ht g3 t3 ∧ Fr F F' q (q + 111)) := by
  refine x_met (by decide +kernel) (Nat.le_of_ble_eq_true rfl) ?_
  intro p e s m below meth c X hr hlk hK hw ls hl
  replace hl : lv_has ls 3 [(0, .ref (ad q)), (1, .int x)] := hl
  have hfr : Fr F F (q) (q + 111) := Fr.rf
  refine lv_iload_n X.1 X.2.1 dX7_ranked_0 rfl (lv_at hl 1 rfl) ?_
  refine lv_iconst (v := nI 1) X.1 X.2.1 dX7_ranked_1 (by decide) ?_
  refine lv_icmp_ge (tgt := 8) X.1 X.2.1 dX7_ranked_2 (by decide) (fun c1 => ?_) (fun c1 => ?_)
  · refine lv_aload_n X.1 X.2.1 dX7_ranked_8 rfl (lv_at hl 0 rfl) ?_
    refine x_get X hK hw (C := RX7) (T := TX7) (nf := 10) (k := q) (by omega) hxMa rfl inX7 3 (by decide) q221 (fun _ h9 => h9) rfl dX7_ranked_9 ?_
    refine x_callVv X hK hw (k := (q + 14)) (As := []) (rest := []) (k_X4_recount hI ((q + 14)) ((q + 1)) g t tm1 pt1 sm1 tl1 nb nc (by omega) (by omega) hxS1 (by omega) hxF hnb1 hnb2 hnc1 hnc2) (x_cwV yX4_recount cX4_recount 2 none 0 X q759 q760 q761 q7 q762 hd_X4_recount ⟨Nat.le_of_ble_eq_true rfl, Nat.le_of_ble_eq_true rfl⟩) (by omega) hxS1.1 rfl rfl hl.1 rfl (Nat.le_of_ble_eq_true rfl) dX7_ranked_12 ⟨Nat.le_of_ble_eq_true rfl, Nat.le_of_ble_eq_true rfl⟩ (fun F2 H locs hp hw => ?_)
    obtain ⟨hS3, hr4⟩ := hp
    have hq5 := (hr4 _ (by omega)).trans hxMa
    have hq6 := hxF.cg hr4 (by omega)
    have hq7 := (hr4 _ (by omega)).trans hxCo
    have hq8 := (hr4 _ (by omega)).trans hxJu
    have hq9 := hxHi.cg hr4 (by omega)
    have hq10 := hxF3.cg hr4 (by omega)
    have hq11 := hxF2.cg hr4 (by omega)
    have hq12 := hxS2.cg hr4 (by omega)
    replace hfr := hfr.tr hr4 (by omega) (by omega)
    refine lv_iconst (v := nI 0) X.1 X.2.1 dX7_ranked_15 (by decide) ?_
    refine lv_istore_n (lv' := [(2, .int (nI 0)), (0, .ref (ad q)), (1, .int x)]) X.1 X.2.1 dX7_ranked_16 rfl hl (by decide) rfl (fun ls hl => ?_)
    have loop : ∀ (fu : Nat) (i : Nat) (hfu : i + fu = nb) (he : c_rkd (sc_s3 g t (sc_r2 g t nb tm1 pt1 (sc_ct tl1 nb) nc).2.1 nc sm1 nb) (sc_r2 g t nb tm1 pt1 (sc_ct tl1 nb) nc).2.2 x nb fu i = c_rkd (sc_s3 g t (sc_r2 g t nb tm1 pt1 (sc_ct tl1 nb) nc).2.1 nc sm1 nb) (sc_r2 g t nb tm1 pt1 (sc_ct tl1 nb) nc).2.2 x nb nb 0) (H : Heap) (locs : List Loc) (hw : HW D (Af ad N s.heap.size) ad N F2 s H locs) (ls : Array Slot) (hl : lv_has ls 3 [(2, .int (nI i)), (0, .ref (ad q)), (1, .int x)]), W p l e { frames := 6, cells := 0, slots := 0, locals := 137 } s m [.ref (ad q), .int x].toArray below meth c H locs 0 0 (MQ below (va_Qi (fun r F' => r = (if nI 1 ≤ x then c_rkd (sc_s3 g t (sc_r2 g t nb tm1 pt1 (sc_ct tl1 nb) nc).2.1 nc sm1 nb) (sc_r2 g t nb tm1 pt1 (sc_ct tl1 nb) nc).2.2 x nb nb 0 else (-2)) ∧ ClF ad cI cS F' q hs g t d z hg ht g3 t3 ∧ Fr F F' q (q + 111)) (fun F' t => PO D ad N F' t) (Af ad N s.heap.size)) [.ref (ad q), .int x].toArray s 0 0 (Af ad N s.heap.size)) (F0 m 17 ls []) := by
      intro fu
      induction fu with
      | zero =>
        intro i hfu he H locs hw ls hl
        refine lv_iload_n X.1 X.2.1 dX7_ranked_17 rfl (lv_at hl 0 rfl) ?_
        refine lv_aload_n X.1 X.2.1 dX7_ranked_18 rfl (lv_at hl 1 rfl) ?_
        refine x_get X hK hw (C := RX7) (T := TX7) (nf := 10) (k := q) (by omega) hq5 rfl inX7 0 (by decide) q218 (fun _ h9 => h9) rfl dX7_ranked_19 ?_
        refine x_get X hK hw (C := RX5) (T := TX5) (nf := 10) (k := (q + 1)) (by omega) hq6.1 rfl inX5 1 (by decide) q65 (fun _ h9 => h9) rfl dX7_ranked_22 ?_
        refine lv_icmp_ge (tgt := 48) X.1 X.2.1 dX7_ranked_25 (by decide) (fun c13 => ?_) (fun c13 => ?_)
        · refine lv_bipush (v := (-5)) X.1 X.2.1 dX7_ranked_48 (by decide) ?_
          exact x_iret X hr hlk hK hw (v := (-5)) rfl (⟨by rw [if_pos c1, ← he]; rfl, ⟨hq5, hq6, hq7, hq8, hq9, hq10, ⟨_, _, _, _, hS3⟩, ⟨_, _, hq11⟩, ⟨_, _, _, _, hq12⟩⟩, hfr⟩) dX7_ranked_50
        · exact absurd (by rw [hnb1]; exact nI_le (by omega) (by omega)) c13
      | succ fu ih =>
        intro i hfu he H locs hw ls hl
        refine lv_iload_n X.1 X.2.1 dX7_ranked_17 rfl (lv_at hl 0 rfl) ?_
        refine lv_aload_n X.1 X.2.1 dX7_ranked_18 rfl (lv_at hl 1 rfl) ?_
        refine x_get X hK hw (C := RX7) (T := TX7) (nf := 10) (k := q) (by omega) hq5 rfl inX7 0 (by decide) q218 (fun _ h9 => h9) rfl dX7_ranked_19 ?_
        refine x_get X hK hw (C := RX5) (T := TX5) (nf := 10) (k := (q + 1)) (by omega) hq6.1 rfl inX5 1 (by decide) q65 (fun _ h9 => h9) rfl dX7_ranked_22 ?_
        refine lv_icmp_ge (tgt := 48) X.1 X.2.1 dX7_ranked_25 (by decide) (fun c14 => ?_) (fun c14 => ?_)
        · exact absurd c14 (by rw [hnb1]; exact nI_ge (by omega) (by omega))
        · refine lv_aload_n X.1 X.2.1 dX7_ranked_28 rfl (lv_at hl 1 rfl) ?_
          refine x_get X hK hw (C := RX7) (T := TX7) (nf := 10) (k := q) (by omega) hq5 rfl inX7 3 (by decide) q221 (fun _ h9 => h9) rfl dX7_ranked_29 ?_
          refine lv_iload_n X.1 X.2.1 dX7_ranked_32 rfl (lv_at hl 0 rfl) ?_
          refine x_callVP X hK hw (k := (q + 14)) (As := [.int (nI i)]) (rest := []) (k_X4_rank hI ((q + 14)) ((q + 1)) g t (((sc_r2 g t nb tm1 pt1 (sc_ct tl1 nb) nc).1)) (((sc_r2 g t nb tm1 pt1 (sc_ct tl1 nb) nc).2.1)) ((sc_s3 g t (sc_r2 g t nb tm1 pt1 (sc_ct tl1 nb) nc).2.1 nc sm1 nb)) (((sc_r2 g t nb tm1 pt1 (sc_ct tl1 nb) nc).2.2)) (nI i) nb (by omega) (by omega) hS3 (by omega) hq6 hnb1 hnb2) (x_cwV yX4_rank cX4_rank 4 (some .int) 1 X q783 q784 q785 q7 q786 hd_X4_rank ⟨Nat.le_of_ble_eq_true rfl, Nat.le_of_ble_eq_true rfl⟩) (by omega) hS3.1 rfl rfl hl.1 rfl (Nat.le_of_ble_eq_true rfl) dX7_ranked_33 ⟨Nat.le_of_ble_eq_true rfl, Nat.le_of_ble_eq_true rfl⟩ (fun H locs hw => ?_)
          refine lv_iload_n X.1 X.2.1 dX7_ranked_36 rfl (lv_at hl 2 rfl) ?_
          refine lv_icmp_ne (tgt := 42) X.1 X.2.1 dX7_ranked_37 (by decide) (fun c15 => ?_) (fun c15 => ?_)
          · refine lv_iinc (v := nI (i + 1)) (lv' := [(2, .int (nI (i + 1))), (0, .ref (ad q)), (1, .int x)]) X.1 X.2.1 dX7_ranked_42 hl (k := 0) rfl (by first | exact nI_1 _ | exact nI_add _ _ | rfl) (by decide) rfl (fun ls hl => ?_)
            refine lv_goto (tgt := 17) X.1 X.2.1 dX7_ranked_45 (by decide) ?_
            exact ih (i + 1)  (by omega) (by rw [← he, c_rkd, if_neg c15]) _ _ hw _ (lv_sub hl [0, 1, 2] rfl)
          · refine lv_iload_n X.1 X.2.1 dX7_ranked_40 rfl (lv_at hl 0 rfl) ?_
            exact x_iret X hr hlk hK hw (v := nI i) rfl (⟨by rw [if_pos c1, ← he, c_rkd, if_pos c15], ⟨hq5, hq6, hq7, hq8, hq9, hq10, ⟨_, _, _, _, hS3⟩, ⟨_, _, hq11⟩, ⟨_, _, _, _, hq12⟩⟩, hfr⟩) dX7_ranked_41
    exact loop nb 0  (by omega) rfl _ _ hw _ (lv_sub hl [0, 1, 2] rfl)
  · refine lv_bipush (v := (-2)) X.1 X.2.1 dX7_ranked_5 (by decide) ?_
    exact x_iret X hr hlk hK hw (v := (-2)) rfl (⟨by rw [if_neg c1], ⟨hxMa, hxF, hxCo, hxJu, hxHi, hxF3, ⟨_, _, _, _, hxS1⟩, ⟨_, _, hxF2⟩, ⟨_, _, _, _, hxS2⟩⟩, hfr⟩) dX7_ranked_7
def s_X7_rankIfDisqualified (g : Nat → Int32) (t : Nat → Nat → Int32) (tm2 : Nat → Int32) (pt2 : Nat → Int32) (sm2 : Nat → Int32) (tl2 : Nat → Int32) (x : Int32) (y : Int32) (nb : Nat) (nc : Nat) : Int32 := (if ¬ x < 0 ∧ ¬ g 1 ≤ x then (if ¬ y < 0 ∧ ¬ g 2 ≤ y then (if ¬ y < 0 ∧ ¬ c_cl g ≤ y then sc_rank ((sc_s3 ((g)) ((va_up (t) 3 (tp 6 324 (((t) 3)) (y * nI 9 + x) (nI 4) (nI 1)))) (sc_r2 ((g)) ((va_up (t) 3 (tp 6 324 (((t) 3)) (y * nI 9 + x) (nI 4) (nI 1)))) nb tm2 pt2 (sc_ct tl2 nb) nc).2.1 nc sm2 nb)) (((sc_r2 ((g)) ((va_up (t) 3 (tp 6 324 (((t) 3)) (y * nI 9 + x) (nI 4) (nI 1)))) nb tm2 pt2 (sc_ct tl2 nb) nc).2.2)) x nb else (-4)) else (-1)) else (-1))
set_option maxHeartbeats 4000000 in
set_option maxRecDepth 100000 in
theorem k_X7_rankIfDisqualified {l : Launch} {D : va_G} {cI cB cS : ClassId} {ad : Nat → Nat} {N : Nat} {F : Nat → va_E} (hI : iN ad N) (q : Nat) (hs : Int32) (g : Nat → Int32) (t : Nat → Nat → Int32) (d : Nat) (z : Nat) (hg : Nat → Nat → Int32) (ht : Nat → Nat → Nat → Int32) (g3 : Nat → Int32) (t3 : Nat → Nat → Int32) (tm1 : Nat → Int32) (pt1 : Nat → Int32) (sm1 : Nat → Int32) (tl1 : Nat → Int32) (g2 : Nat → Int32) (t2 : Nat → Nat → Int32) (tm2 : Nat → Int32) (pt2 : Nat → Int32) (sm2 : Nat → Int32) (tl2 : Nat → Int32) (x : Int32) (y : Int32) (nb : Nat) (nc : Nat) (hq : q + 114 ≤ N) (hd5 : d < 5) (hz4 : z ≤ 4) (hxMa : MaF ad F q hs) (hxF : StF ad cI F (q + 1) g t) (hxCo : CoF ad F (q + 12) (q + 1)) (hxJu : JuF ad F (q + 13) (q + 1)) (hxHi : HiF ad cI cS F (q + 43) d z hg ht) (hxF3 : StF ad cI F (q + 100) g3 t3) (hxS1 : ScF ad cI F (q + 14) (q + 1) tm1 pt1 sm1 tl1) (hxF2 : StF ad cI F (q + 23) g2 t2) (hxS2 : ScF ad cI F (q + 34) (q + 23) tm2 pt2 sm2 tl2) (hnb1 : g 1 = nI nb) (hnb2 : nb < 2 ^ 31) (hnc1 : c_cl g = nI nc) (hnc2 : nc < 2 ^ 31) : Ci l D cI cB cS ad N yX7_rankIfDisqualified cX7_rankIfDisqualified 3 (some .int) 6 137 [.ref (ad q), .int x, .int y] F (fun r F' => r = s_X7_rankIfDisqualified g t tm2 pt2 sm2 tl2 x y nb nc ∧ ClF ad cI cS F' q hs g t d z hg ht g3 t3 ∧ Fr F F' q (q + 111)) := by
  refine x_met (by decide +kernel) (Nat.le_of_ble_eq_true rfl) ?_
  intro p e s m below meth c X hr hlk hK hw ls hl
  replace hl : lv_has ls 3 [(0, .ref (ad q)), (1, .int x), (2, .int y)] := hl
  have hfr : Fr F F (q) (q + 111) := Fr.rf
  refine lv_aload_n X.1 X.2.1 dX7_rankIfDisqualified_0 rfl (lv_at hl 0 rfl) ?_
  refine x_get X hK hw (C := RX7) (T := TX7) (nf := 10) (k := q) (by omega) hxMa rfl inX7 0 (by decide) q218 (fun _ h9 => h9) rfl dX7_rankIfDisqualified_1 ?_
  refine lv_iload_n X.1 X.2.1 dX7_rankIfDisqualified_4 rfl (lv_at hl 1 rfl) ?_
  refine x_callVP X hK hw (k := (q + 1)) (As := [.int x]) (rest := []) (k_X5_hasBoat hI ((q + 1)) g t x (by omega) hxF) (x_cwV yX5_hasBoat cX5_hasBoat 2 (some .boolean) 1 X q703 q362 q363 q2 q364 hd_X5_hasBoat ⟨Nat.le_of_ble_eq_true rfl, Nat.le_of_ble_eq_true rfl⟩) (by omega) hxF.1 rfl rfl hl.1 rfl (Nat.le_of_ble_eq_true rfl) dX7_rankIfDisqualified_5 ⟨Nat.le_of_ble_eq_true rfl, Nat.le_of_ble_eq_true rfl⟩ (fun H locs hw => ?_)
  refine lv_if_eq (tgt := 22) X.1 X.2.1 dX7_rankIfDisqualified_8 (by decide) (fun c1 => ?_) (fun c1 => ?_)
  · replace c1 := bI_z c1
    refine lv_iconst (v := (-1)) X.1 X.2.1 dX7_rankIfDisqualified_22 (by decide) ?_
    exact x_iret X hr hlk hK hw (v := (-1)) rfl (⟨(by rw [s_X7_rankIfDisqualified, if_neg c1] : s_X7_rankIfDisqualified g t tm2 pt2 sm2 tl2 x y nb nc = (-1)).symm, ⟨hxMa, hxF, hxCo, hxJu, hxHi, hxF3, ⟨_, _, _, _, hxS1⟩, ⟨_, _, hxF2⟩, ⟨_, _, _, _, hxS2⟩⟩, hfr⟩) dX7_rankIfDisqualified_23
  · replace c1 := bI_nz c1
    refine lv_aload_n X.1 X.2.1 dX7_rankIfDisqualified_11 rfl (lv_at hl 0 rfl) ?_
    refine x_get X hK hw (C := RX7) (T := TX7) (nf := 10) (k := q) (by omega) hxMa rfl inX7 0 (by decide) q218 (fun _ h9 => h9) rfl dX7_rankIfDisqualified_12 ?_
    refine lv_iload_n X.1 X.2.1 dX7_rankIfDisqualified_15 rfl (lv_at hl 2 rfl) ?_
    refine x_callVP X hK hw (k := (q + 1)) (As := [.int y]) (rest := []) (k_X5_hasRace hI ((q + 1)) g t y (by omega) hxF) (x_cwV yX5_hasRace cX5_hasRace 2 (some .boolean) 1 X q699 q700 q701 q2 q702 hd_X5_hasRace ⟨Nat.le_of_ble_eq_true rfl, Nat.le_of_ble_eq_true rfl⟩) (by omega) hxF.1 rfl rfl hl.1 rfl (Nat.le_of_ble_eq_true rfl) dX7_rankIfDisqualified_16 ⟨Nat.le_of_ble_eq_true rfl, Nat.le_of_ble_eq_true rfl⟩ (fun H locs hw => ?_)
    refine lv_if_ne (tgt := 24) X.1 X.2.1 dX7_rankIfDisqualified_19 (by decide) (fun c2 => ?_) (fun c2 => ?_)
    · replace c2 := bI_nz c2
      refine lv_aload_n X.1 X.2.1 dX7_rankIfDisqualified_24 rfl (lv_at hl 0 rfl) ?_
      refine x_get X hK hw (C := RX7) (T := TX7) (nf := 10) (k := q) (by omega) hxMa rfl inX7 0 (by decide) q218 (fun _ h9 => h9) rfl dX7_rankIfDisqualified_25 ?_
      refine lv_iload_n X.1 X.2.1 dX7_rankIfDisqualified_28 rfl (lv_at hl 2 rfl) ?_
      refine x_callVP X hK hw (k := (q + 1)) (As := [.int y]) (rest := []) (k_X5_isClosed hI ((q + 1)) g t y (by omega) hxF) (x_cwV yX5_isClosed cX5_isClosed 2 (some .boolean) 1 X q722 q723 q724 q2 q725 hd_X5_isClosed ⟨Nat.le_of_ble_eq_true rfl, Nat.le_of_ble_eq_true rfl⟩) (by omega) hxF.1 rfl rfl hl.1 rfl (Nat.le_of_ble_eq_true rfl) dX7_rankIfDisqualified_29 ⟨Nat.le_of_ble_eq_true rfl, Nat.le_of_ble_eq_true rfl⟩ (fun H locs hw => ?_)
      refine lv_if_ne (tgt := 38) X.1 X.2.1 dX7_rankIfDisqualified_32 (by decide) (fun c3 => ?_) (fun c3 => ?_)
      · replace c3 := bI_nz c3
        refine lv_aload_n X.1 X.2.1 dX7_rankIfDisqualified_38 rfl (lv_at hl 0 rfl) ?_
        refine x_get X hK hw (C := RX7) (T := TX7) (nf := 10) (k := q) (by omega) hxMa rfl inX7 4 (by decide) q222 (fun _ h9 => h9) rfl dX7_rankIfDisqualified_39 ?_
        refine lv_aload_n X.1 X.2.1 dX7_rankIfDisqualified_42 rfl (lv_at hl 0 rfl) ?_
        refine x_get X hK hw (C := RX7) (T := TX7) (nf := 10) (k := q) (by omega) hxMa rfl inX7 0 (by decide) q218 (fun _ h9 => h9) rfl dX7_rankIfDisqualified_43 ?_
        refine x_callVv X hK hw (k := (q + 23)) (As := [.ref (ad (q + 1))]) (rest := []) (k_X5_copyFrom hI ((q + 23)) g2 t2 ((q + 1)) g t (by omega) hxF2 (by omega) hxF (by omega)) (x_cwV yX5_copyFrom cX5_copyFrom 2 none 1 X q690 q258 q259 q2 q260 hd_X5_copyFrom ⟨Nat.le_of_ble_eq_true rfl, Nat.le_of_ble_eq_true rfl⟩) (by omega) hxF2.1 rfl rfl hl.1 rfl (Nat.le_of_ble_eq_true rfl) dX7_rankIfDisqualified_46 ⟨Nat.le_of_ble_eq_true rfl, Nat.le_of_ble_eq_true rfl⟩ (fun F4 H locs hp hw => ?_)
        obtain ⟨hF5, hr6⟩ := hp
        have hq7 := (hr6 _ (by omega)).trans hxMa
        have hq8 := hxF.cg hr6 (by omega)
        have hq9 := (hr6 _ (by omega)).trans hxCo
        have hq10 := (hr6 _ (by omega)).trans hxJu
        have hq11 := hxHi.cg hr6 (by omega)
        have hq12 := hxF3.cg hr6 (by omega)
        have hq13 := hxS1.cg hr6 (by omega)
        have hq14 := hxS2.cg hr6 (by omega)
        replace hfr := hfr.tr hr6 (by omega) (by omega)
        refine lv_aload_n X.1 X.2.1 dX7_rankIfDisqualified_49 rfl (lv_at hl 0 rfl) ?_
        refine x_get X hK hw (C := RX7) (T := TX7) (nf := 10) (k := q) (by omega) hq7 rfl inX7 4 (by decide) q222 (fun _ h9 => h9) rfl dX7_rankIfDisqualified_50 ?_
        refine x_get X hK hw (C := RX5) (T := TX5) (nf := 10) (k := (q + 23)) (by omega) hF5.1 rfl inX5 8 (by decide) q88 (fun _ h9 => h9) rfl dX7_rankIfDisqualified_53 ?_
        refine lv_aload_n X.1 X.2.1 dX7_rankIfDisqualified_56 rfl (lv_at hl 0 rfl) ?_
        refine x_get X hK hw (C := RX7) (T := TX7) (nf := 10) (k := q) (by omega) hq7 rfl inX7 4 (by decide) q222 (fun _ h9 => h9) rfl dX7_rankIfDisqualified_57 ?_
        refine lv_iload_n X.1 X.2.1 dX7_rankIfDisqualified_60 rfl (lv_at hl 2 rfl) ?_
        refine lv_iload_n X.1 X.2.1 dX7_rankIfDisqualified_61 rfl (lv_at hl 1 rfl) ?_
        refine x_callVP X hK hw (k := (q + 23)) (As := [.int y, .int x]) (rest := [.ref (ad (q + 30))]) (k_X5_row hI ((q + 23)) ((g)) ((t)) y x (by omega) hF5) (x_cwV yX5_row cX5_row 3 (some .int) 2 X q704 q302 q303 q2 q304 hd_X5_row ⟨Nat.le_of_ble_eq_true rfl, Nat.le_of_ble_eq_true rfl⟩) (by omega) hF5.1 rfl rfl hl.1 rfl (Nat.le_of_ble_eq_true rfl) dX7_rankIfDisqualified_62 ⟨Nat.le_of_ble_eq_true rfl, Nat.le_of_ble_eq_true rfl⟩ (fun H locs hw => ?_)
        refine lv_iconst (v := nI 4) X.1 X.2.1 dX7_rankIfDisqualified_65 (by decide) ?_
        refine lv_iconst (v := nI 1) X.1 X.2.1 dX7_rankIfDisqualified_66 (by decide) ?_
        refine x_callVv X hK hw (k := (q + 30)) (As := [.int (y * nI 9 + x), .int (nI 4), .int (nI 1)]) (rest := []) (k_X6_put hI ((q + 30)) 6 324 (((t) 3)) (y * nI 9 + x) (nI 4) (nI 1) (by omega) (by omega) hF5.2.2.2.2.1) (x_cwV yX6_put cX6_put 5 none 3 X q853 q54 q55 q3 q56 hd_X6_put ⟨Nat.le_of_ble_eq_true rfl, Nat.le_of_ble_eq_true rfl⟩) (by omega) hF5.2.2.2.2.1.1 rfl rfl hl.1 rfl (Nat.le_of_ble_eq_true rfl) dX7_rankIfDisqualified_67 ⟨Nat.le_of_ble_eq_true rfl, Nat.le_of_ble_eq_true rfl⟩ (fun F15 H locs hp hw => ?_)
        obtain ⟨hT16, hr17⟩ := hp
        have hF18 := hF5.tb3 hT16 hr17
        have hq19 := (hr17 _ (by omega)).trans hq7
        have hq20 := hq8.cg hr17 (by omega)
        have hq21 := (hr17 _ (by omega)).trans hq9
        have hq22 := (hr17 _ (by omega)).trans hq10
        have hq23 := hq11.cg hr17 (by omega)
        have hq24 := hq12.cg hr17 (by omega)
        have hq25 := hq13.cg hr17 (by omega)
        have hq26 := hq14.cg hr17 (by omega)
        replace hfr := hfr.tr hr17 (by omega) (by omega)
        refine lv_aload_n X.1 X.2.1 dX7_rankIfDisqualified_70 rfl (lv_at hl 0 rfl) ?_
        refine x_get X hK hw (C := RX7) (T := TX7) (nf := 10) (k := q) (by omega) hq19 rfl inX7 5 (by decide) q223 (fun _ h9 => h9) rfl dX7_rankIfDisqualified_71 ?_
        refine x_callVv X hK hw (k := (q + 34)) (As := []) (rest := []) (k_X4_recount hI ((q + 34)) ((q + 23)) ((g)) ((va_up (t) 3 (tp 6 324 (((t) 3)) (y * nI 9 + x) (nI 4) (nI 1)))) tm2 pt2 sm2 tl2 nb nc (by omega) (by omega) hq26 (by omega) hF18 hnb1 hnb2 hnc1 hnc2) (x_cwV yX4_recount cX4_recount 2 none 0 X q759 q760 q761 q7 q762 hd_X4_recount ⟨Nat.le_of_ble_eq_true rfl, Nat.le_of_ble_eq_true rfl⟩) (by omega) hq26.1 rfl rfl hl.1 rfl (Nat.le_of_ble_eq_true rfl) dX7_rankIfDisqualified_74 ⟨Nat.le_of_ble_eq_true rfl, Nat.le_of_ble_eq_true rfl⟩ (fun F27 H locs hp hw => ?_)
        obtain ⟨hS28, hr29⟩ := hp
        have hq30 := (hr29 _ (by omega)).trans hq19
        have hq31 := hq20.cg hr29 (by omega)
        have hq32 := (hr29 _ (by omega)).trans hq21
        have hq33 := (hr29 _ (by omega)).trans hq22
        have hq34 := hq23.cg hr29 (by omega)
        have hq35 := hq24.cg hr29 (by omega)
        have hq36 := hq25.cg hr29 (by omega)
        have hq37 := hF18.cg hr29 (by omega)
        replace hfr := hfr.tr hr29 (by omega) (by omega)
        refine lv_aload_n X.1 X.2.1 dX7_rankIfDisqualified_77 rfl (lv_at hl 0 rfl) ?_
        refine x_get X hK hw (C := RX7) (T := TX7) (nf := 10) (k := q) (by omega) hq30 rfl inX7 5 (by decide) q223 (fun _ h9 => h9) rfl dX7_rankIfDisqualified_78 ?_
        refine lv_iload_n X.1 X.2.1 dX7_rankIfDisqualified_81 rfl (lv_at hl 1 rfl) ?_
        refine x_callVP X hK hw (k := (q + 34)) (As := [.int x]) (rest := []) (k_X4_rank hI ((q + 34)) ((q + 23)) ((g)) ((va_up (t) 3 (tp 6 324 (((t) 3)) (y * nI 9 + x) (nI 4) (nI 1)))) (((sc_r2 ((g)) ((va_up (t) 3 (tp 6 324 (((t) 3)) (y * nI 9 + x) (nI 4) (nI 1)))) nb tm2 pt2 (sc_ct tl2 nb) nc).1)) (((sc_r2 ((g)) ((va_up (t) 3 (tp 6 324 (((t) 3)) (y * nI 9 + x) (nI 4) (nI 1)))) nb tm2 pt2 (sc_ct tl2 nb) nc).2.1)) ((sc_s3 ((g)) ((va_up (t) 3 (tp 6 324 (((t) 3)) (y * nI 9 + x) (nI 4) (nI 1)))) (sc_r2 ((g)) ((va_up (t) 3 (tp 6 324 (((t) 3)) (y * nI 9 + x) (nI 4) (nI 1)))) nb tm2 pt2 (sc_ct tl2 nb) nc).2.1 nc sm2 nb)) (((sc_r2 ((g)) ((va_up (t) 3 (tp 6 324 (((t) 3)) (y * nI 9 + x) (nI 4) (nI 1)))) nb tm2 pt2 (sc_ct tl2 nb) nc).2.2)) x nb (by omega) (by omega) hS28 (by omega) hq37 hnb1 hnb2) (x_cwV yX4_rank cX4_rank 4 (some .int) 1 X q783 q784 q785 q7 q786 hd_X4_rank ⟨Nat.le_of_ble_eq_true rfl, Nat.le_of_ble_eq_true rfl⟩) (by omega) hS28.1 rfl rfl hl.1 rfl (Nat.le_of_ble_eq_true rfl) dX7_rankIfDisqualified_82 ⟨Nat.le_of_ble_eq_true rfl, Nat.le_of_ble_eq_true rfl⟩ (fun H locs hw => ?_)
        exact x_iret X hr hlk hK hw (v := sc_rank ((sc_s3 ((g)) ((va_up (t) 3 (tp 6 324 (((t) 3)) (y * nI 9 + x) (nI 4) (nI 1)))) (sc_r2 ((g)) ((va_up (t) 3 (tp 6 324 (((t) 3)) (y * nI 9 + x) (nI 4) (nI 1)))) nb tm2 pt2 (sc_ct tl2 nb) nc).2.1 nc sm2 nb)) (((sc_r2 ((g)) ((va_up (t) 3 (tp 6 324 (((t) 3)) (y * nI 9 + x) (nI 4) (nI 1)))) nb tm2 pt2 (sc_ct tl2 nb) nc).2.2)) x nb) rfl (⟨(by rw [s_X7_rankIfDisqualified, if_pos c1, if_pos c2, if_pos c3] : s_X7_rankIfDisqualified g t tm2 pt2 sm2 tl2 x y nb nc = sc_rank ((sc_s3 ((g)) ((va_up (t) 3 (tp 6 324 (((t) 3)) (y * nI 9 + x) (nI 4) (nI 1)))) (sc_r2 ((g)) ((va_up (t) 3 (tp 6 324 (((t) 3)) (y * nI 9 + x) (nI 4) (nI 1)))) nb tm2 pt2 (sc_ct tl2 nb) nc).2.1 nc sm2 nb)) (((sc_r2 ((g)) ((va_up (t) 3 (tp 6 324 (((t) 3)) (y * nI 9 + x) (nI 4) (nI 1)))) nb tm2 pt2 (sc_ct tl2 nb) nc).2.2)) x nb).symm, ⟨hq30, hq31, hq32, hq33, hq34, hq35, ⟨_, _, _, _, hq36⟩, ⟨_, _, hq37⟩, ⟨_, _, _, _, hS28⟩⟩, hfr⟩) dX7_rankIfDisqualified_85
      · replace c3 := bI_z c3
        refine lv_bipush (v := (-4)) X.1 X.2.1 dX7_rankIfDisqualified_35 (by decide) ?_
        exact x_iret X hr hlk hK hw (v := (-4)) rfl (⟨(by rw [s_X7_rankIfDisqualified, if_pos c1, if_pos c2, if_neg c3] : s_X7_rankIfDisqualified g t tm2 pt2 sm2 tl2 x y nb nc = (-4)).symm, ⟨hxMa, hxF, hxCo, hxJu, hxHi, hxF3, ⟨_, _, _, _, hxS1⟩, ⟨_, _, hxF2⟩, ⟨_, _, _, _, hxS2⟩⟩, hfr⟩) dX7_rankIfDisqualified_37
    · replace c2 := bI_z c2
      refine lv_iconst (v := (-1)) X.1 X.2.1 dX7_rankIfDisqualified_22 (by decide) ?_
      exact x_iret X hr hlk hK hw (v := (-1)) rfl (⟨(by rw [s_X7_rankIfDisqualified, if_pos c1, if_neg c2] : s_X7_rankIfDisqualified g t tm2 pt2 sm2 tl2 x y nb nc = (-1)).symm, ⟨hxMa, hxF, hxCo, hxJu, hxHi, hxF3, ⟨_, _, _, _, hxS1⟩, ⟨_, _, hxF2⟩, ⟨_, _, _, _, hxS2⟩⟩, hfr⟩) dX7_rankIfDisqualified_23
set_option maxHeartbeats 4000000 in
set_option maxRecDepth 100000 in
theorem k_X7_save {l : Launch} {D : va_G} {cI cB cS : ClassId} {ad : Nat → Nat} {N : Nat} {F : Nat → va_E} (hI : iN ad N) (q : Nat) (hs : Int32) (g : Nat → Int32) (t : Nat → Nat → Int32) (d : Nat) (z : Nat) (hg : Nat → Nat → Int32) (ht : Nat → Nat → Nat → Int32) (g3 : Nat → Int32) (t3 : Nat → Nat → Int32) (tm1 : Nat → Int32) (pt1 : Nat → Int32) (sm1 : Nat → Int32) (tl1 : Nat → Int32) (g2 : Nat → Int32) (t2 : Nat → Nat → Int32) (tm2 : Nat → Int32) (pt2 : Nat → Int32) (sm2 : Nat → Int32) (tl2 : Nat → Int32) (hq : q + 114 ≤ N) (hd5 : d < 5) (hz4 : z ≤ 4) (hxMa : MaF ad F q hs) (hxF : StF ad cI F (q + 1) g t) (hxCo : CoF ad F (q + 12) (q + 1)) (hxJu : JuF ad F (q + 13) (q + 1)) (hxHi : HiF ad cI cS F (q + 43) d z hg ht) (hxF3 : StF ad cI F (q + 100) g3 t3) (hxS1 : ScF ad cI F (q + 14) (q + 1) tm1 pt1 sm1 tl1) (hxF2 : StF ad cI F (q + 23) g2 t2) (hxS2 : ScF ad cI F (q + 34) (q + 23) tm2 pt2 sm2 tl2) : Ci l D cI cB cS ad N yX7_save cX7_save 1 (some .int) 3 103 [.ref (ad q)] F (fun r F' => r = g 0 ∧ ClF ad cI cS F' q (nI 1) g t d z hg ht ((g)) ((t)) ∧ Fr F F' q (q + 111)) := by
  refine x_met (by decide +kernel) (Nat.le_of_ble_eq_true rfl) ?_
  intro p e s m below meth c X hr hlk hK hw ls hl
  replace hl : lv_has ls 1 [(0, .ref (ad q))] := hl
  have hfr : Fr F F (q) (q + 111) := Fr.rf
  refine lv_aload_n X.1 X.2.1 dX7_save_0 rfl (lv_at hl 0 rfl) ?_
  refine x_get X hK hw (C := RX7) (T := TX7) (nf := 10) (k := q) (by omega) hxMa rfl inX7 7 (by decide) q225 (fun _ h9 => h9) rfl dX7_save_1 ?_
  refine lv_aload_n X.1 X.2.1 dX7_save_4 rfl (lv_at hl 0 rfl) ?_
  refine x_get X hK hw (C := RX7) (T := TX7) (nf := 10) (k := q) (by omega) hxMa rfl inX7 0 (by decide) q218 (fun _ h9 => h9) rfl dX7_save_5 ?_
  refine x_callVv X hK hw (k := (q + 100)) (As := [.ref (ad (q + 1))]) (rest := []) (k_X5_copyFrom hI ((q + 100)) g3 t3 ((q + 1)) g t (by omega) hxF3 (by omega) hxF (by omega)) (x_cwV yX5_copyFrom cX5_copyFrom 2 none 1 X q690 q258 q259 q2 q260 hd_X5_copyFrom ⟨Nat.le_of_ble_eq_true rfl, Nat.le_of_ble_eq_true rfl⟩) (by omega) hxF3.1 rfl rfl hl.1 rfl (Nat.le_of_ble_eq_true rfl) dX7_save_8 ⟨Nat.le_of_ble_eq_true rfl, Nat.le_of_ble_eq_true rfl⟩ (fun F1 H locs hp hw => ?_)
  obtain ⟨hF2, hr3⟩ := hp
  have hq4 := (hr3 _ (by omega)).trans hxMa
  have hq5 := hxF.cg hr3 (by omega)
  have hq6 := (hr3 _ (by omega)).trans hxCo
  have hq7 := (hr3 _ (by omega)).trans hxJu
  have hq8 := hxHi.cg hr3 (by omega)
  have hq9 := hxS1.cg hr3 (by omega)
  have hq10 := hxF2.cg hr3 (by omega)
  have hq11 := hxS2.cg hr3 (by omega)
  replace hfr := hfr.tr hr3 (by omega) (by omega)
  refine lv_aload_n X.1 X.2.1 dX7_save_11 rfl (lv_at hl 0 rfl) ?_
  refine lv_iconst (v := nI 1) X.1 X.2.1 dX7_save_12 (by decide) ?_
  refine x_put2 X hI hK hw (C := RX7) (T := TX7) (nf := 10) (k := q) (ty := .boolean) (v := .int (nI 1)) (by omega) hq4 rfl inX7 tyX7 tyX7_ok nmX7 8 (by decide) q226 (fun _ h9 => h9) rfl (by decide +kernel) (by decide +kernel) rfl (Nat.le_of_ble_eq_true rfl) dX7_save_13 (fun F12 H locs eF13 hw => ?_)
  have hF14 : MaF ad F12 q (nI 1) := by rw [eF13]; simp [MaF, va_up]
  have hr15 := fr_eq eF13 (Nat.le_refl _) (Nat.lt_succ_self _)
  have hq16 := hq5.cg hr15 (by omega)
  have hq17 := (hr15 _ (by omega)).trans hq6
  have hq18 := (hr15 _ (by omega)).trans hq7
  have hq19 := hq8.cg hr15 (by omega)
  have hq20 := hF2.cg hr15 (by omega)
  have hq21 := hq9.cg hr15 (by omega)
  have hq22 := hq10.cg hr15 (by omega)
  have hq23 := hq11.cg hr15 (by omega)
  replace hfr := hfr.tr hr15 (by omega) (by omega)
  refine lv_aload_n X.1 X.2.1 dX7_save_16 rfl (lv_at hl 0 rfl) ?_
  refine x_get X hK hw (C := RX7) (T := TX7) (nf := 10) (k := q) (by omega) hF14 rfl inX7 0 (by decide) q218 (fun _ h9 => h9) rfl dX7_save_17 ?_
  refine x_get X hK hw (C := RX5) (T := TX5) (nf := 10) (k := (q + 1)) (by omega) hq16.1 rfl inX5 0 (by decide) q61 (fun _ h9 => h9) rfl dX7_save_20 ?_
  exact x_iret X hr hlk hK hw (v := g 0) rfl (⟨rfl, ⟨hF14, hq16, hq17, hq18, hq19, hq20, ⟨_, _, _, _, hq21⟩, ⟨_, _, hq22⟩, ⟨_, _, _, _, hq23⟩⟩, hfr⟩) dX7_save_23
set_option maxHeartbeats 4000000 in
set_option maxRecDepth 100000 in
theorem k_X7_restore {l : Launch} {D : va_G} {cI cB cS : ClassId} {ad : Nat → Nat} {N : Nat} {F : Nat → va_E} (hI : iN ad N) (q : Nat) (hs : Int32) (g : Nat → Int32) (t : Nat → Nat → Int32) (d : Nat) (z : Nat) (hg : Nat → Nat → Int32) (ht : Nat → Nat → Nat → Int32) (g3 : Nat → Int32) (t3 : Nat → Nat → Int32) (tm1 : Nat → Int32) (pt1 : Nat → Int32) (sm1 : Nat → Int32) (tl1 : Nat → Int32) (g2 : Nat → Int32) (t2 : Nat → Nat → Int32) (tm2 : Nat → Int32) (pt2 : Nat → Int32) (sm2 : Nat → Int32) (tl2 : Nat → Int32) (hq : q + 114 ≤ N) (hd5 : d < 5) (hz4 : z ≤ 4) (hxMa : MaF ad F q hs) (hxF : StF ad cI F (q + 1) g t) (hxCo : CoF ad F (q + 12) (q + 1)) (hxJu : JuF ad F (q + 13) (q + 1)) (hxHi : HiF ad cI cS F (q + 43) d z hg ht) (hxF3 : StF ad cI F (q + 100) g3 t3) (hxS1 : ScF ad cI F (q + 14) (q + 1) tm1 pt1 sm1 tl1) (hxF2 : StF ad cI F (q + 23) g2 t2) (hxS2 : ScF ad cI F (q + 34) (q + 23) tm2 pt2 sm2 tl2) : Ci l D cI cB cS ad N yX7_restore cX7_restore 1 (some .int) 4 125 [.ref (ad q)] F (fun r F' => r = (if hs = 0 then (-4) else g3 0) ∧ ClF ad cI cS F' q hs (if hs = 0 then g else g3) (if hs = 0 then t else t3) (if hs = 0 then d else if g3 0 < 0 then d else hn d) (if hs = 0 then z else if g3 0 < 0 then z else min (z + 1) 4) (if hs = 0 then hg else va_up hg d g) (if hs = 0 then ht else va_up ht d t) g3 t3 ∧ Fr F F' q (q + 111)) := by
  refine x_met (by decide +kernel) (Nat.le_of_ble_eq_true rfl) ?_
  intro p e s m below meth c X hr hlk hK hw ls hl
  replace hl : lv_has ls 1 [(0, .ref (ad q))] := hl
  have hfr : Fr F F (q) (q + 111) := Fr.rf
  refine lv_aload_n X.1 X.2.1 dX7_restore_0 rfl (lv_at hl 0 rfl) ?_
  refine x_get X hK hw (C := RX7) (T := TX7) (nf := 10) (k := q) (by omega) hxMa rfl inX7 8 (by decide) q226 (fun _ h9 => h9) rfl dX7_restore_1 ?_
  refine lv_if_ne (tgt := 10) X.1 X.2.1 dX7_restore_4 (by decide) (fun c1 => ?_) (fun c1 => ?_)
  · refine lv_aload_n X.1 X.2.1 dX7_restore_10 rfl (lv_at hl 0 rfl) ?_
    refine x_get X hK hw (C := RX7) (T := TX7) (nf := 10) (k := q) (by omega) hxMa rfl inX7 6 (by decide) q224 (fun _ h9 => h9) rfl dX7_restore_11 ?_
    refine lv_aload_n X.1 X.2.1 dX7_restore_14 rfl (lv_at hl 0 rfl) ?_
    refine x_get X hK hw (C := RX7) (T := TX7) (nf := 10) (k := q) (by omega) hxMa rfl inX7 0 (by decide) q218 (fun _ h9 => h9) rfl dX7_restore_15 ?_
    refine x_callVv X hK hw (k := (q + 43)) (As := [.ref (ad (q + 1))]) (rest := []) (k_X1_hold hI ((q + 43)) d z hg ht ((q + 1)) g t (by omega) (by omega) (by omega) hxHi (by omega) hxF (by omega)) (x_cwV yX1_hold cX1_hold 3 none 1 X q253 q254 q255 q8 q256 hd_X1_hold ⟨Nat.le_of_ble_eq_true rfl, Nat.le_of_ble_eq_true rfl⟩) (by omega) hxHi.1 rfl rfl hl.1 rfl (Nat.le_of_ble_eq_true rfl) dX7_restore_18 ⟨Nat.le_of_ble_eq_true rfl, Nat.le_of_ble_eq_true rfl⟩ (fun F2 H locs hp hw => ?_)
    obtain ⟨hF3, hr4⟩ := hp
    have hq5 := (hr4 _ (by omega)).trans hxMa
    have hq6 := hxF.cg hr4 (by omega)
    have hq7 := (hr4 _ (by omega)).trans hxCo
    have hq8 := (hr4 _ (by omega)).trans hxJu
    have hq9 := hxF3.cg hr4 (by omega)
    have hq10 := hxS1.cg hr4 (by omega)
    have hq11 := hxF2.cg hr4 (by omega)
    have hq12 := hxS2.cg hr4 (by omega)
    replace hfr := hfr.tr hr4 (by omega) (by omega)
    refine lv_aload_n X.1 X.2.1 dX7_restore_21 rfl (lv_at hl 0 rfl) ?_
    refine x_get X hK hw (C := RX7) (T := TX7) (nf := 10) (k := q) (by omega) hq5 rfl inX7 0 (by decide) q218 (fun _ h9 => h9) rfl dX7_restore_22 ?_
    refine lv_aload_n X.1 X.2.1 dX7_restore_25 rfl (lv_at hl 0 rfl) ?_
    refine x_get X hK hw (C := RX7) (T := TX7) (nf := 10) (k := q) (by omega) hq5 rfl inX7 7 (by decide) q225 (fun _ h9 => h9) rfl dX7_restore_26 ?_
    refine x_callVv X hK hw (k := (q + 1)) (As := [.ref (ad (q + 100))]) (rest := []) (k_X5_copyFrom hI ((q + 1)) g t ((q + 100)) g3 t3 (by omega) hq6 (by omega) hq9 (by omega)) (x_cwV yX5_copyFrom cX5_copyFrom 2 none 1 X q690 q258 q259 q2 q260 hd_X5_copyFrom ⟨Nat.le_of_ble_eq_true rfl, Nat.le_of_ble_eq_true rfl⟩) (by omega) hq6.1 rfl rfl hl.1 rfl (Nat.le_of_ble_eq_true rfl) dX7_restore_29 ⟨Nat.le_of_ble_eq_true rfl, Nat.le_of_ble_eq_true rfl⟩ (fun F13 H locs hp hw => ?_)
    obtain ⟨hF14, hr15⟩ := hp
    have hq16 := (hr15 _ (by omega)).trans hq5
    have hq17 := (hr15 _ (by omega)).trans hq7
    have hq18 := (hr15 _ (by omega)).trans hq8
    have hq19 := hF3.cg hr15 (by omega)
    have hq20 := hq9.cg hr15 (by omega)
    have hq21 := hq10.cg hr15 (by omega)
    have hq22 := hq11.cg hr15 (by omega)
    have hq23 := hq12.cg hr15 (by omega)
    replace hfr := hfr.tr hr15 (by omega) (by omega)
    refine lv_aload_n X.1 X.2.1 dX7_restore_32 rfl (lv_at hl 0 rfl) ?_
    refine x_get X hK hw (C := RX7) (T := TX7) (nf := 10) (k := q) (by omega) hq16 rfl inX7 6 (by decide) q224 (fun _ h9 => h9) rfl dX7_restore_33 ?_
    refine lv_aload_n X.1 X.2.1 dX7_restore_36 rfl (lv_at hl 0 rfl) ?_
    refine x_get X hK hw (C := RX7) (T := TX7) (nf := 10) (k := q) (by omega) hq16 rfl inX7 0 (by decide) q218 (fun _ h9 => h9) rfl dX7_restore_37 ?_
    refine x_get X hK hw (C := RX5) (T := TX5) (nf := 10) (k := (q + 1)) (by omega) hF14.1 rfl inX5 0 (by decide) q61 (fun _ h9 => h9) rfl dX7_restore_40 ?_
    refine x_callV X hK hw (k := (q + 43)) (As := [.int ((g3) 0)]) (rest := []) (k_X1_confirm hI ((q + 43)) ((d)) ((z)) ((va_up hg d g)) ((va_up ht d t)) ((g3) 0) (by omega) (by omega) (by omega) hq19) (x_cwV yX1_confirm cX1_confirm 2 (some .int) 1 X q276 q277 q278 q8 q279 hd_X1_confirm ⟨Nat.le_of_ble_eq_true rfl, Nat.le_of_ble_eq_true rfl⟩) (by omega) hq19.1 rfl rfl hl.1 rfl (Nat.le_of_ble_eq_true rfl) dX7_restore_43 ⟨Nat.le_of_ble_eq_true rfl, Nat.le_of_ble_eq_true rfl⟩ (fun r27 F24 H locs hp hw => ?_)
    obtain ⟨er28, hF25, hr26⟩ := hp
    refine x_top er28 ?_
    have hq29 := (hr26 _ (by omega)).trans hq16
    have hq30 := hF14.cg hr26 (by omega)
    have hq31 := (hr26 _ (by omega)).trans hq17
    have hq32 := (hr26 _ (by omega)).trans hq18
    have hq33 := hq20.cg hr26 (by omega)
    have hq34 := hq21.cg hr26 (by omega)
    have hq35 := hq22.cg hr26 (by omega)
    have hq36 := hq23.cg hr26 (by omega)
    replace hfr := hfr.tr hr26 (by omega) (by omega)
    exact x_iret X hr hlk hK hw (v := ((g3) 0)) rfl (⟨(if_neg c1).symm, by simp only [if_neg c1]; exact ⟨hq29, hq30, hq31, hq32, hF25, hq33, ⟨_, _, _, _, hq34⟩, ⟨_, _, hq35⟩, ⟨_, _, _, _, hq36⟩⟩, hfr⟩) dX7_restore_46
  · refine lv_bipush (v := (-4)) X.1 X.2.1 dX7_restore_7 (by decide) ?_
    exact x_iret X hr hlk hK hw (v := (-4)) rfl (⟨(if_pos c1).symm, by simp only [if_pos c1]; exact ⟨hxMa, hxF, hxCo, hxJu, hxHi, hxF3, ⟨_, _, _, _, hxS1⟩, ⟨_, _, hxF2⟩, ⟨_, _, _, _, hxS2⟩⟩, hfr⟩) dX7_restore_9
theorem Fr2.to {F F' : Nat → va_E} {lo hi a b x y : Nat} (h : Fr2 F F' lo hi a b) (h1 : x ≤ lo) (h2 : hi ≤ y) (h3 : x ≤ a) (h4 : b ≤ y) : Fr F F' x y := fun k hk => h k (by omega) (by omega)
