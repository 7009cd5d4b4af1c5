theorem hd_X1_size : yX1_size.cls = RX1 ∧ yX1_size.cls ≠ "java/lang/invoke/MethodHandle" ∧ yX1_size.cls ≠ "java/lang/invoke/VarHandle" ∧ (parseMethodDescriptor yX1_size.desc).map (fun d => d.parameters.length) = some 0 := by decide +kernel
theorem hd_X3_length : yX3_length.cls = RX3 ∧ yX3_length.cls ≠ "java/lang/invoke/MethodHandle" ∧ yX3_length.cls ≠ "java/lang/invoke/VarHandle" ∧ (parseMethodDescriptor yX3_length.desc).map (fun d => d.parameters.length) = some 0 := by decide +kernel
def s_X7_count (g : Nat → Int32) (t : Nat → Nat → Int32) (z : Nat) (n : Nat) (w : Int32) : Int32 := (if w = 0 then g 1 else (if w = 1 then g 2 else (if w = 2 then c_cl g else (if w = 3 then g 0 else (if w = 4 then g 3 else (if w = 5 then g 4 else (if w = 6 then tg 1 3 (t 1) (nI 0) (nI 0) else (if w = 7 then tg 1 3 (t 1) (nI 1) (nI 0) else (if w = 8 then tg 1 3 (t 1) (nI 2) (nI 0) else (if w = 9 then nI z else (if w = 10 then nI n else (-2))))))))))))
set_option maxHeartbeats 4000000 in
set_option maxRecDepth 100000 in
theorem k_X7_count {l : Launch} {D : va_G} {cI cB cS : ClassId} {ad : Nat → Nat} {N : Nat} {F : Nat → va_E} (hI : iN ad N) (q : Nat) (hs : Int32) (g : Nat → Int32) (t : Nat → Nat → Int32) (d : Nat) (z : Nat) (hg : Nat → Nat → Int32) (ht : Nat → Nat → Nat → Int32) (g3 : Nat → Int32) (t3 : Nat → Nat → Int32) (tm1 : Nat → Int32) (pt1 : Nat → Int32) (sm1 : Nat → Int32) (tl1 : Nat → Int32) (g2 : Nat → Int32) (t2 : Nat → Nat → Int32) (tm2 : Nat → Int32) (pt2 : Nat → Int32) (sm2 : Nat → Int32) (tl2 : Nat → Int32) (cap : Nat) (n : Nat) (ml : Int32) (f : Nat → Int32) (tx : Nat → Nat) (w : Int32) (hq : q + 114 ≤ N) (hd5 : d < 5) (hz4 : z ≤ 4) (hxMa : MaF ad F q hs) (hxF : StF ad cI F (q + 1) g t) (hxCo : CoF ad F (q + 12) (q + 1)) (hxJu : JuF ad F (q + 13) (q + 1)) (hxHi : HiF ad cI cS F (q + 43) d z hg ht) (hxF3 : StF ad cI F (q + 100) g3 t3) (hxS1 : ScF ad cI F (q + 14) (q + 1) tm1 pt1 sm1 tl1) (hxF2 : StF ad cI F (q + 23) g2 t2) (hxS2 : ScF ad cI F (q + 34) (q + 23) tm2 pt2 sm2 tl2) (hcap : cap < 2 ^ 30) (hnc : n ≤ cap) (hxL : LoF ad F (q + 111)) (hxS : SbF ad cB F (q + 112) cap n ml f) (htx : ∀ j, j < n → tx j < 128 ∧ f j = nI (tx j)) : Ci l D cI cB cS ad N yX7_count cX7_count 2 (some .int) 3 60 [.ref (ad q), .int w] F (pP (s_X7_count g t z n w) F) := by
  refine x_met (by decide +kernel) (Nat.le_of_ble_eq_true rfl) ?_
  intro p e s m below meth c X hr hlk hK hw ls hl
  replace hl : lv_has ls 2 [(0, .ref (ad q)), (1, .int w)] := hl
  refine lv_iload_n X.1 X.2.1 dX7_count_0 rfl (lv_at hl 1 rfl) ?_
  rcases sw_0_10 w with c1 | c1 | c1 | c1 | c1 | c1 | c1 | c1 | c1 | c1 | c1 | c1
  · refine lv_tableIn (tgt := 60) X.1 X.2.1 dX7_count_1 (by rw [c1]; decide) (by rw [c1]; decide) (by rw [c1]; rfl) (by decide) ?_
    refine lv_aload_n X.1 X.2.1 dX7_count_60 rfl (lv_at hl 0 rfl) ?_
    refine x_get X hK hw (C := RX7) (T := TX7) (nf := 10) (k := q) (by omega) hxMa rfl inX7 0 (by decide) q218 (fun _ h9 => h9) rfl dX7_count_61 ?_
    refine x_get X hK hw (C := RX5) (T := TX5) (nf := 10) (k := (q + 1)) (by omega) hxF.1 rfl inX5 1 (by decide) q65 (fun _ h9 => h9) rfl dX7_count_64 ?_
    exact x_iret X hr hlk hK hw (v := g 1) rfl (⟨by rw [s_X7_count, if_pos c1], rfl⟩) dX7_count_67
  · refine lv_tableIn (tgt := 68) X.1 X.2.1 dX7_count_1 (by rw [c1]; decide) (by rw [c1]; decide) (by rw [c1]; rfl) (by decide) ?_
    refine lv_aload_n X.1 X.2.1 dX7_count_68 rfl (lv_at hl 0 rfl) ?_
    refine x_get X hK hw (C := RX7) (T := TX7) (nf := 10) (k := q) (by omega) hxMa rfl inX7 0 (by decide) q218 (fun _ h9 => h9) rfl dX7_count_69 ?_
    refine x_get X hK hw (C := RX5) (T := TX5) (nf := 10) (k := (q + 1)) (by omega) hxF.1 rfl inX5 2 (by decide) q68 (fun _ h9 => h9) rfl dX7_count_72 ?_
    exact x_iret X hr hlk hK hw (v := g 2) rfl (⟨by rw [s_X7_count, if_neg (by rw [c1]; decide), if_pos c1], rfl⟩) dX7_count_75
  · refine lv_tableIn (tgt := 76) X.1 X.2.1 dX7_count_1 (by rw [c1]; decide) (by rw [c1]; decide) (by rw [c1]; rfl) (by decide) ?_
    refine lv_aload_n X.1 X.2.1 dX7_count_76 rfl (lv_at hl 0 rfl) ?_
    refine x_get X hK hw (C := RX7) (T := TX7) (nf := 10) (k := q) (by omega) hxMa rfl inX7 0 (by decide) q218 (fun _ h9 => h9) rfl dX7_count_77 ?_
    refine x_callVP X hK hw (k := (q + 1)) (As := []) (rest := []) (k_X5_closedRaces hI ((q + 1)) g t (by omega) hxF) (x_cwV yX5_closedRaces cX5_closedRaces 1 (some .int) 0 X q822 q727 q728 q2 q729 hd_X5_closedRaces ⟨Nat.le_of_ble_eq_true rfl, Nat.le_of_ble_eq_true rfl⟩) (by omega) hxF.1 rfl rfl hl.1 rfl (Nat.le_of_ble_eq_true rfl) dX7_count_80 ⟨Nat.le_of_ble_eq_true rfl, Nat.le_of_ble_eq_true rfl⟩ (fun H locs hw => ?_)
    exact x_iret X hr hlk hK hw (v := c_cl g) rfl (⟨by rw [s_X7_count, if_neg (by rw [c1]; decide), if_neg (by rw [c1]; decide), if_pos c1], rfl⟩) dX7_count_83
  · refine lv_tableIn (tgt := 84) X.1 X.2.1 dX7_count_1 (by rw [c1]; decide) (by rw [c1]; decide) (by rw [c1]; rfl) (by decide) ?_
    refine lv_aload_n X.1 X.2.1 dX7_count_84 rfl (lv_at hl 0 rfl) ?_
    refine x_get X hK hw (C := RX7) (T := TX7) (nf := 10) (k := q) (by omega) hxMa rfl inX7 0 (by decide) q218 (fun _ h9 => h9) rfl dX7_count_85 ?_
    refine x_get X hK hw (C := RX5) (T := TX5) (nf := 10) (k := (q + 1)) (by omega) hxF.1 rfl inX5 0 (by decide) q61 (fun _ h9 => h9) rfl dX7_count_88 ?_
    exact x_iret X hr hlk hK hw (v := g 0) rfl (⟨by rw [s_X7_count, if_neg (by rw [c1]; decide), if_neg (by rw [c1]; decide), if_neg (by rw [c1]; decide), if_pos c1], rfl⟩) dX7_count_91
  · refine lv_tableIn (tgt := 92) X.1 X.2.1 dX7_count_1 (by rw [c1]; decide) (by rw [c1]; decide) (by rw [c1]; rfl) (by decide) ?_
    refine lv_aload_n X.1 X.2.1 dX7_count_92 rfl (lv_at hl 0 rfl) ?_
    refine x_get X hK hw (C := RX7) (T := TX7) (nf := 10) (k := q) (by omega) hxMa rfl inX7 0 (by decide) q218 (fun _ h9 => h9) rfl dX7_count_93 ?_
    refine x_get X hK hw (C := RX5) (T := TX5) (nf := 10) (k := (q + 1)) (by omega) hxF.1 rfl inX5 3 (by decide) q71 (fun _ h9 => h9) rfl dX7_count_96 ?_
    exact x_iret X hr hlk hK hw (v := g 3) rfl (⟨by rw [s_X7_count, if_neg (by rw [c1]; decide), if_neg (by rw [c1]; decide), if_neg (by rw [c1]; decide), if_neg (by rw [c1]; decide), if_pos c1], rfl⟩) dX7_count_99
  · refine lv_tableIn (tgt := 100) X.1 X.2.1 dX7_count_1 (by rw [c1]; decide) (by rw [c1]; decide) (by rw [c1]; rfl) (by decide) ?_
    refine lv_aload_n X.1 X.2.1 dX7_count_100 rfl (lv_at hl 0 rfl) ?_
    refine x_get X hK hw (C := RX7) (T := TX7) (nf := 10) (k := q) (by omega) hxMa rfl inX7 0 (by decide) q218 (fun _ h9 => h9) rfl dX7_count_101 ?_
    refine x_get X hK hw (C := RX5) (T := TX5) (nf := 10) (k := (q + 1)) (by omega) hxF.1 rfl inX5 4 (by decide) q75 (fun _ h9 => h9) rfl dX7_count_104 ?_
    exact x_iret X hr hlk hK hw (v := g 4) rfl (⟨by rw [s_X7_count, if_neg (by rw [c1]; decide), if_neg (by rw [c1]; decide), if_neg (by rw [c1]; decide), if_neg (by rw [c1]; decide), if_neg (by rw [c1]; decide), if_pos c1], rfl⟩) dX7_count_107
  · refine lv_tableIn (tgt := 108) X.1 X.2.1 dX7_count_1 (by rw [c1]; decide) (by rw [c1]; decide) (by rw [c1]; rfl) (by decide) ?_
    refine lv_aload_n X.1 X.2.1 dX7_count_108 rfl (lv_at hl 0 rfl) ?_
    refine x_get X hK hw (C := RX7) (T := TX7) (nf := 10) (k := q) (by omega) hxMa rfl inX7 0 (by decide) q218 (fun _ h9 => h9) rfl dX7_count_109 ?_
    refine lv_iconst (v := nI 0) X.1 X.2.1 dX7_count_112 (by decide) ?_
    refine x_callVP X hK hw (k := (q + 1)) (As := [.int (nI 0)]) (rest := []) (k_X5_setting hI ((q + 1)) g t (nI 0) (by omega) hxF) (x_cwV yX5_setting cX5_setting 2 (some .int) 1 X q823 q441 q442 q2 q443 hd_X5_setting ⟨Nat.le_of_ble_eq_true rfl, Nat.le_of_ble_eq_true rfl⟩) (by omega) hxF.1 rfl rfl hl.1 rfl (Nat.le_of_ble_eq_true rfl) dX7_count_113 ⟨Nat.le_of_ble_eq_true rfl, Nat.le_of_ble_eq_true rfl⟩ (fun H locs hw => ?_)
    exact x_iret X hr hlk hK hw (v := tg 1 3 (t 1) (nI 0) (nI 0)) rfl (⟨by rw [s_X7_count, if_neg (by rw [c1]; decide), if_neg (by rw [c1]; decide), if_neg (by rw [c1]; decide), if_neg (by rw [c1]; decide), if_neg (by rw [c1]; decide), if_neg (by rw [c1]; decide), if_pos c1], rfl⟩) dX7_count_116
  · refine lv_tableIn (tgt := 117) X.1 X.2.1 dX7_count_1 (by rw [c1]; decide) (by rw [c1]; decide) (by rw [c1]; rfl) (by decide) ?_
    refine lv_aload_n X.1 X.2.1 dX7_count_117 rfl (lv_at hl 0 rfl) ?_
    refine x_get X hK hw (C := RX7) (T := TX7) (nf := 10) (k := q) (by omega) hxMa rfl inX7 0 (by decide) q218 (fun _ h9 => h9) rfl dX7_count_118 ?_
    refine lv_iconst (v := nI 1) X.1 X.2.1 dX7_count_121 (by decide) ?_
    refine x_callVP X hK hw (k := (q + 1)) (As := [.int (nI 1)]) (rest := []) (k_X5_setting hI ((q + 1)) g t (nI 1) (by omega) hxF) (x_cwV yX5_setting cX5_setting 2 (some .int) 1 X q823 q441 q442 q2 q443 hd_X5_setting ⟨Nat.le_of_ble_eq_true rfl, Nat.le_of_ble_eq_true rfl⟩) (by omega) hxF.1 rfl rfl hl.1 rfl (Nat.le_of_ble_eq_true rfl) dX7_count_122 ⟨Nat.le_of_ble_eq_true rfl, Nat.le_of_ble_eq_true rfl⟩ (fun H locs hw => ?_)
    exact x_iret X hr hlk hK hw (v := tg 1 3 (t 1) (nI 1) (nI 0)) rfl (⟨by rw [s_X7_count, if_neg (by rw [c1]; decide), if_neg (by rw [c1]; decide), if_neg (by rw [c1]; decide), if_neg (by rw [c1]; decide), if_neg (by rw [c1]; decide), if_neg (by rw [c1]; decide), if_neg (by rw [c1]; decide), if_pos c1], rfl⟩) dX7_count_125
  · refine lv_tableIn (tgt := 126) X.1 X.2.1 dX7_count_1 (by rw [c1]; decide) (by rw [c1]; decide) (by rw [c1]; rfl) (by decide) ?_
    refine lv_aload_n X.1 X.2.1 dX7_count_126 rfl (lv_at hl 0 rfl) ?_
    refine x_get X hK hw (C := RX7) (T := TX7) (nf := 10) (k := q) (by omega) hxMa rfl inX7 0 (by decide) q218 (fun _ h9 => h9) rfl dX7_count_127 ?_
    refine lv_iconst (v := nI 2) X.1 X.2.1 dX7_count_130 (by decide) ?_
    refine x_callVP X hK hw (k := (q + 1)) (As := [.int (nI 2)]) (rest := []) (k_X5_setting hI ((q + 1)) g t (nI 2) (by omega) hxF) (x_cwV yX5_setting cX5_setting 2 (some .int) 1 X q823 q441 q442 q2 q443 hd_X5_setting ⟨Nat.le_of_ble_eq_true rfl, Nat.le_of_ble_eq_true rfl⟩) (by omega) hxF.1 rfl rfl hl.1 rfl (Nat.le_of_ble_eq_true rfl) dX7_count_131 ⟨Nat.le_of_ble_eq_true rfl, Nat.le_of_ble_eq_true rfl⟩ (fun H locs hw => ?_)
    exact x_iret X hr hlk hK hw (v := tg 1 3 (t 1) (nI 2) (nI 0)) rfl (⟨by rw [s_X7_count, if_neg (by rw [c1]; decide), if_neg (by rw [c1]; decide), if_neg (by rw [c1]; decide), if_neg (by rw [c1]; decide), if_neg (by rw [c1]; decide), if_neg (by rw [c1]; decide), if_neg (by rw [c1]; decide), if_neg (by rw [c1]; decide), if_pos c1], rfl⟩) dX7_count_134
  · refine lv_tableIn (tgt := 135) X.1 X.2.1 dX7_count_1 (by rw [c1]; decide) (by rw [c1]; decide) (by rw [c1]; rfl) (by decide) ?_
    refine lv_aload_n X.1 X.2.1 dX7_count_135 rfl (lv_at hl 0 rfl) ?_
    refine x_get X hK hw (C := RX7) (T := TX7) (nf := 10) (k := q) (by omega) hxMa rfl inX7 6 (by decide) q224 (fun _ h9 => h9) rfl dX7_count_136 ?_
    refine x_callVP X hK hw (k := (q + 43)) (As := []) (rest := []) (k_X1_size hI ((q + 43)) d z hg ht (by omega) (by omega) (by omega) hxHi) (x_cwV yX1_size cX1_size 1 (some .int) 0 X q824 q825 q826 q8 q827 hd_X1_size ⟨Nat.le_of_ble_eq_true rfl, Nat.le_of_ble_eq_true rfl⟩) (by omega) hxHi.1 rfl rfl hl.1 rfl (Nat.le_of_ble_eq_true rfl) dX7_count_139 ⟨Nat.le_of_ble_eq_true rfl, Nat.le_of_ble_eq_true rfl⟩ (fun H locs hw => ?_)
    exact x_iret X hr hlk hK hw (v := nI z) rfl (⟨by rw [s_X7_count, if_neg (by rw [c1]; decide), if_neg (by rw [c1]; decide), if_neg (by rw [c1]; decide), if_neg (by rw [c1]; decide), if_neg (by rw [c1]; decide), if_neg (by rw [c1]; decide), if_neg (by rw [c1]; decide), if_neg (by rw [c1]; decide), if_neg (by rw [c1]; decide), if_pos c1], rfl⟩) dX7_count_142
  · refine lv_tableIn (tgt := 143) X.1 X.2.1 dX7_count_1 (by rw [c1]; decide) (by rw [c1]; decide) (by rw [c1]; rfl) (by decide) ?_
    refine lv_aload_n X.1 X.2.1 dX7_count_143 rfl (lv_at hl 0 rfl) ?_
    refine x_get X hK hw (C := RX7) (T := TX7) (nf := 10) (k := q) (by omega) hxMa rfl inX7 9 (by decide) q227 (fun _ h9 => h9) rfl dX7_count_144 ?_
    refine x_callVP X hK hw (k := (q + 111)) (As := []) (rest := []) (k_X3_length hI ((q + 111)) cap n ml f tx (by omega) (by omega) hnc hxL hxS htx) (x_cwV yX3_length cX3_length 1 (some .int) 0 X q652 q653 q654 q9 q655 hd_X3_length ⟨Nat.le_of_ble_eq_true rfl, Nat.le_of_ble_eq_true rfl⟩) (by omega) hxL rfl rfl hl.1 rfl (Nat.le_of_ble_eq_true rfl) dX7_count_147 ⟨Nat.le_of_ble_eq_true rfl, Nat.le_of_ble_eq_true rfl⟩ (fun H locs hw => ?_)
    exact x_iret X hr hlk hK hw (v := nI n) rfl (⟨by rw [s_X7_count, if_neg (by rw [c1]; decide), if_neg (by rw [c1]; decide), if_neg (by rw [c1]; decide), if_neg (by rw [c1]; decide), if_neg (by rw [c1]; decide), if_neg (by rw [c1]; decide), if_neg (by rw [c1]; decide), if_neg (by rw [c1]; decide), if_neg (by rw [c1]; decide), if_neg (by rw [c1]; decide), if_pos c1], rfl⟩) dX7_count_150
  · refine lv_tableOut (tgt := 151) X.1 X.2.1 dX7_count_1 c1 (by decide) ?_
    refine lv_bipush (v := (-2)) X.1 X.2.1 dX7_count_151 (by decide) ?_
    exact x_iret X hr hlk hK hw (v := (-2)) rfl (⟨by rw [s_X7_count, if_neg (fun h => by rw [h] at c1; revert c1; decide), if_neg (fun h => by rw [h] at c1; revert c1; decide), if_neg (fun h => by rw [h] at c1; revert c1; decide), if_neg (fun h => by rw [h] at c1; revert c1; decide), if_neg (fun h => by rw [h] at c1; revert c1; decide), if_neg (fun h => by rw [h] at c1; revert c1; decide), if_neg (fun h => by rw [h] at c1; revert c1; decide), if_neg (fun h => by rw [h] at c1; revert c1; decide), if_neg (fun h => by rw [h] at c1; revert c1; decide), if_neg (fun h => by rw [h] at c1; revert c1; decide), if_neg (fun h => by rw [h] at c1; revert c1; decide)], rfl⟩) dX7_count_153
