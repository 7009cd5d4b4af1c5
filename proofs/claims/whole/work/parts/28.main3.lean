theorem hd_X1_size : yX1_size.cls = RX1 ∧ yX1_size.cls ≠ "java/lang/invoke/MethodHandle" ∧ yX1_size.cls ≠ "java/lang/invoke/VarHandle" ∧ (parseMethodDescriptor yX1_size.desc).map (fun d => d.parameters.length) = some 0 := by decide +kernel
theorem hd_X3_length : yX3_length.cls = RX3 ∧ yX3_length.cls ≠ "java/lang/invoke/MethodHandle" ∧ yX3_length.cls ≠ "java/lang/invoke/VarHandle" ∧ (parseMethodDescriptor yX3_length.desc).map (fun d => d.parameters.length) = some 0 := by decide +kernel
def s_X7_count (g : Nat → Int32) (t : Nat → Nat → Int32) (z : Nat) (n : Nat) (w : Int32) : Int32 := (if w = 0 then g 1 else (if w = 1 then g 2 else (if w = 2 then c_cl g else (if w = 3 then g 0 else (if w = 4 then g 3 else (if w = 5 then g 4 else (if w = 6 then tg 1 3 (t 1) (nI 0) (nI 0) else (if w = 7 then tg 1 3 (t 1) (nI 1) (nI 0) else (if w = 8 then tg 1 3 (t 1) (nI 2) (nI 0) else (if w = 9 then nI z else (if w = 10 then nI n else (-2))))))))))))
set_option maxHeartbeats 4000000 in
set_option maxRecDepth 100000 in
theorem k_X7_count {l : Launch} {D : va_G} {cI cB cS : ClassId} {ad : Nat → Nat} {N : Nat} {F : Nat → va_E} (hI : iN ad N) (q : Nat) (hs : Int32) (g : Nat → Int32) (t : Nat → Nat → Int32) (d : Nat) (z : Nat) (hg : Nat → Nat → Int32) (ht : Nat → Nat → Nat → Int32) (g3 : Nat → Int32) (t3 : Nat → Nat → Int32) (tm1 : Nat → Int32) (pt1 : Nat → Int32) (sm1 : Nat → Int32) (tl1 : Nat → Int32) (g2 : Nat → Int32) (t2 : Nat → Nat → Int32) (tm2 : Nat → Int32) (pt2 : Nat → Int32) (sm2 : Nat → Int32) (tl2 : Nat → Int32) (cap : Nat) (n : Nat) (ml : Int32) (f : Nat → Int32) (tx : Nat → Nat) (w : Int32) (hq : q + 114 ≤ N) (hd5 : d < 5) (hz4 : z ≤ 4) (hxMa : MaF ad F q hs) (hxF : StF ad cI F (q + 1) g t) (hxCo : CoF ad F (q + 12) (q + 1)) (hxJu : JuF ad F (q + 13) (q + 1)) (hxHi : HiF ad cI cS F (q + 43) d z hg ht) (hxF3 : StF ad cI F (q + 100) g3 t3) (hxS1 : ScF ad cI F (q + 14) (q + 1) tm1 pt1 sm1 tl1) (hxF2 : StF ad cI F (q + 23) g2 t2) (hxS2 : ScF ad cI F (q + 34) (q + 23) tm2 pt2 sm2 tl2) (hcap : cap < 2 ^ 30) (hnc : n ≤ cap) (hxL : LoF ad F (q + 111)) (hxS : SbF ad cB F (q + 112) cap n ml f) (htx : ∀ j, j < n → tx j < 128 ∧ f j = nI (tx j)) : Ci l D cI cB cS ad N yX7_count cX7_count 2 (some .int) 3 60 [.ref (ad q), .int w] F (pP (s_X7_count g t z n w) F) := by
  refine x_met (by decide +kernel) (Nat.le_of_ble_eq_true rfl) ?_
  intro p e s m below meth c X hr hlk hK hw ls hl
  replace hl : lv_has ls 2 [(0, .ref (ad q)), (1, .int w)] := hl
  refine lv_iload_n X.1 X.2.1 dX7_count_0 rfl (lv_at hl 1 rfl) ?_
  rcases sw_0_10 w with c1 | c1 | c1 | c1 | c1 | c1 | c1 | c1 | c1 | c1 | c1 | c1
  · refine lv_tableIn (tgt := 60) X.1 X.2.1 dX7_count_1 (by rw [c1]; decide) (by rw [c1]; decide) (by rw [c1]; rfl) (by decide) ?_
    refine lv_aload_n X.1 X.2.1 dX7_count_60 rfl (lv_at hl 0 rfl) ?_
    refine x_get X hK hw (C := RX7) (T := TX7) (nf := 10) (k := q) (by omega) hxMa rfl inX7 0 (by decide) q218 (fun _ h9 => h9) rfl dX7_count_61 ?_
    refine x_get X hK hw (C := RX5) (T := TX5) (nf := 10) (k := (q + 1)) (by omega) hxF.1 rfl inX5 1 (by decide) q65 (fun _ h9 => h9) rfl dX7_count_64 ?_
    exact x_iret X hr hlk hK hw (v := g 1) rfl (⟨by rw [s_X7_count, if_pos c1], rfl⟩) dX7_count_67
  · refine lv_tableIn (tgt := 68) X.1 X.2.1 dX7_count_1 (by rw [c1]; decide) (by rw [c1]; decide) (by rw [c1]; rfl) (by decide) ?_
    refine lv_aload_n X.1 X.2.1 dX7_count_68 rfl (lv_at hl 0 rfl) ?_
    refine x_get X hK hw (C := RX7) (T := TX7) (nf := 10) (k := q) (by omega) hxMa rfl inX7 0 (by decide) q218 (fun _ h9 => h9) rfl dX7_count_69 ?_
    refine x_get X hK hw (C := RX5) (T := TX5) (nf := 10) (k := (q + 1)) (by omega) hxF.1 rfl inX5 2 (by decide) q68 (fun _ h9 => h9) rfl dX7_count_72 ?_
    exact x_iret X hr hlk hK hw (v := g 2) rfl (⟨by rw [s_X7_count, if_neg (by rw [c1]; decide), if_pos c1], rfl⟩) dX7_count_75
  · refine lv_tableIn (tgt := 76) X.1 X.2.1 dX7_count_1 (by rw [c1]; decide) (by rw [c1]; decide) (by rw [c1]; rfl) (by decide) ?_
    refine lv_aload_n X.1 X.2.1 dX7_count_76 rfl (lv_at hl 0 rfl) ?_
    refine x_get X hK hw (C := RX7) (T := TX7) (nf := 10) (k := q) (by omega) hxMa rfl inX7 0 (by decide) q218 (fun _ h9 => h9) rfl dX7_count_77 ?_
    refine x_callVP X hK hw (k := (q + 1)) (As := []) (rest := []) (k_X5_closedRaces hI ((q + 1)) g t (by omega) hxF) (x_cwV yX5_closedRaces cX5_closedRaces 1 (some .int) 0 X q822 q727 q728 q2 q729 hd_X5_closedRaces ⟨Nat.le_of_ble_eq_true rfl, Nat.le_of_ble_eq_true rfl⟩) (by omega) hxF.1 rfl rfl hl.1 rfl (Nat.le_of_ble_eq_true rfl) dX7_count_80 ⟨Nat.le_of_ble_eq_true rfl, Nat.le_of_ble_eq_true rfl⟩ (fun H locs hw => ?_)
    exact x_iret X hr hlk hK hw (v := c_cl g) rfl (⟨by rw [s_X7_count, if_neg (by rw [c1]; decide), if_neg (by rw [c1]; decide), if_pos c1], rfl⟩) dX7_count_83
  · refine lv_tableIn (tgt := 84) X.1 X.2.1 dX7_count_1 (by rw [c1]; decide) (by rw [c1]; decide) (by rw [c1]; rfl) (by decide) ?_
    refine lv_aload_n X.1 X.2.1 dX7_count_84 rfl (lv_at hl 0 rfl) ?_
    refine x_get X hK hw (C := RX7) (T := TX7) (nf := 10) (k := q) (by omega) hxMa rfl inX7 0 (by decide) q218 (fun _ h9 => h9) rfl dX7_count_85 ?_
    refine x_get X hK hw (C := RX5) (T := TX5) (nf := 10) (k := (q + 1)) (by omega) hxF.1 rfl inX5 0 (by decide) q61 (fun _ h9 => h9) rfl dX7_count_88 ?_
    exact x_iret X hr hlk hK hw (v := g 0) rfl (⟨by rw [s_X7_count, if_neg (by rw [c1]; decide), if_neg (by rw [c1]; decide), if_neg (by rw [c1]; decide), if_pos c1], rfl⟩) dX7_count_91
  · refine lv_tableIn (tgt := 92) X.1 X.2.1 dX7_count_1 (by rw [c1]; decide) (by rw [c1]; decide) (by rw [c1]; rfl) (by decide) ?_
    refine lv_aload_n X.1 X.2.1 dX7_count_92 rfl (lv_at hl 0 rfl) ?_
    refine x_get X hK hw (C := RX7) (T := TX7) (nf := 10) (k := q) (by omega) hxMa rfl inX7 0 (by decide) q218 (fun _ h9 => h9) rfl dX7_count_93 ?_
    refine x_get X hK hw (C := RX5) (T := TX5) (nf := 10) (k := (q + 1)) (by omega) hxF.1 rfl inX5 3 (by decide) q71 (fun _ h9 => h9) rfl dX7_count_96 ?_
    exact x_iret X hr hlk hK hw (v := g 3) rfl (⟨by rw [s_X7_count, if_neg (by rw [c1]; decide), if_neg (by rw [c1]; decide), if_neg (by rw [c1]; decide), if_neg (by rw [c1]; decide), if_pos c1], rfl⟩) dX7_count_99
  · refine lv_tableIn (tgt := 100) X.1 X.2.1 dX7_count_1 (by rw [c1]; decide) (by rw [c1]; decide) (by rw [c1]; rfl) (by decide) ?_
    refine lv_aload_n X.1 X.2.1 dX7_count_100 rfl (lv_at hl 0 rfl) ?_
    refine x_get X hK hw (C := RX7) (T := TX7) (nf := 10) (k := q) (by omega) hxMa rfl inX7 0 (by decide) q218 (fun _ h9 => h9) rfl dX7_count_101 ?_
    refine x_get X hK hw (C := RX5) (T := TX5) (nf := 10) (k := (q + 1)) (by omega) hxF.1 rfl inX5 4 (by decide) q75 (fun _ h9 => h9) rfl dX7_count_104 ?_
    exact x_iret X hr hlk hK hw (v := g 4) rfl (⟨by rw [s_X7_count, if_neg (by rw [c1]; decide), if_neg (by rw [c1]; decide), if_neg (by rw [c1]; decide), if_neg (by rw [c1]; decide), if_neg (by rw [c1]; decide), if_pos c1], rfl⟩) dX7_count_107
  · refine lv_tableIn (tgt := 108) X.1 X.2.1 dX7_count_1 (by rw [c1]; decide) (by rw [c1]; decide) (by rw [c1]; rfl) (by decide) ?_
    refine lv_aload_n X.1 X.2.1 dX7_count_108 rfl (lv_at hl 0 rfl) ?_
    refine x_get X hK hw (C := RX7) (T := TX7) (nf := 10) (k := q) (by omega) hxMa rfl inX7 0 (by decide) q218 (fun _ h9 => h9) rfl dX7_count_109 ?_
    refine lv_iconst (v := nI 0) X.1 X.2.1 dX7_count_112 (by decide) ?_
    refine x_callVP X hK hw (k := (q + 1)) (As := [.int (nI 0)]) (rest := []) (k_X5_setting hI ((q + 1)) g t (nI 0) (by omega) hxF) (x_cwV yX5_setting cX5_setting 2 (some .int) 1 X q823 q441 q442 q2 q443 hd_X5_setting ⟨Nat.le_of_ble_eq_true rfl, Nat.le_of_ble_eq_true rfl⟩) (by omega) hxF.1 rfl rfl hl.1 rfl (Nat.le_of_ble_eq_true rfl) dX7_count_113 ⟨Nat.le_of_ble_eq_true rfl, Nat.le_of_ble_eq_true rfl⟩ (fun H locs hw => ?_)
    exact x_iret X hr hlk hK hw (v := tg 1 3 (t 1) (nI 0) (nI 0)) rfl (⟨by rw [s_X7_count, if_neg (by rw [c1]; decide), if_neg (by rw [c1]; decide), if_neg (by rw [c1]; decide), if_neg (by rw [c1]; decide), if_neg (by rw [c1]; decide), if_neg (by rw [c1]; decide), if_pos c1], rfl⟩) dX7_count_116
  · refine lv_tableIn (tgt := 117) X.1 X.2.1 dX7_count_1 (by rw [c1]; decide) (by rw [c1]; decide) (by rw [c1]; rfl) (by decide) ?_
    refine lv_aload_n X.1 X.2.1 dX7_count_117 rfl (lv_at hl 0 rfl) ?_
    refine x_get X hK hw (C := RX7) (T := TX7) (nf := 10) (k := q) (by omega) hxMa rfl inX7 0 (by decide) q218 (fun _ h9 => h9) rfl dX7_count_118 ?_
    refine lv_iconst (v := nI 1) X.1 X.2.1 dX7_count_121 (by decide) ?_
    refine x_callVP X hK hw (k := (q + 1)) (As := [.int (nI 1)]) (rest := []) (k_X5_setting hI ((q + 1)) g t (nI 1) (by omega) hxF) (x_cwV yX5_setting cX5_setting 2 (some .int) 1 X q823 q441 q442 q2 q443 hd_X5_setting ⟨Nat.le_of_ble_eq_true rfl, Nat.le_of_ble_eq_true rfl⟩) (by omega) hxF.1 rfl rfl hl.1 rfl (Nat.le_of_ble_eq_true rfl) dX7_count_122 ⟨Nat.le_of_ble_eq_true rfl, Nat.le_of_ble_eq_true rfl⟩ (fun H locs hw => ?_)
    exact x_iret X hr hlk hK hw (v := tg 1 3 (t 1) (nI 1) (nI 0)) rfl (⟨by rw [s_X7_count, if_neg (by rw [c1]; decide), if_neg (by rw [c1]; decide), if_neg (by rw [c1]; decide), if_neg (by rw [c1]; decide), if_neg (by rw [c1]; decide), if_neg (by rw [c1]; decide), if_neg (by rw [c1]; decide), if_pos c1], rfl⟩) dX7_count_125
  · refine lv_tableIn (tgt := 126) X.1 X.2.1 dX7_count_1 (by rw [c1]; decide) (by rw [c1]; decide) (by rw [c1]; rfl) (by decide) ?_
    refine lv_aload_n X.1 X.2.1 dX7_count_126 rfl (lv_at hl 0 rfl) ?_
    refine x_get X hK hw (C := RX7) (T := TX7) (nf := 10) (k := q) (by omega) hxMa rfl inX7 0 (by decide) q218 (fun _ h9 => h9) rfl dX7_count_127 ?_
    refine lv_iconst (v := nI 2) X.1 X.2.1 dX7_count_130 (by decide) ?_
    refine x_callVP X hK hw (k := (q + 1)) (As := [.int (nI 2)]) (rest := []) (k_X5_setting hI ((q + 1)) g t (nI 2) (by omega) hxF) (x_cwV yX5_setting cX5_setting 2 (some .int) 1 X q823 q441 q442 q2 q443 hd_X5_setting ⟨Nat.le_of_ble_eq_true rfl, Nat.le_of_ble_eq_true rfl⟩) (by omega) hxF.1 rfl rfl hl.1 rfl (Nat.le_of_ble_eq_true rfl) dX7_count_131 ⟨Nat.le_of_ble_eq_true rfl, Nat.le_of_ble_eq_true rfl⟩ (fun H locs hw => ?_)
    exact x_iret X hr hlk hK hw (v := tg 1 3 (t 1) (nI 2) (nI 0)) rfl (⟨by rw [s_X7_count, if_neg (by rw [c1]; decide), if_neg (by rw [c1]; decide), if_neg (by rw [c1]; decide), if_neg (by rw [c1]; decide), if_neg (by rw [c1]; decide), if_neg (by rw [c1]; decide), if_neg (by rw [c1]; decide), if_neg (by rw [c1]; decide), if_pos c1], rfl⟩) dX7_count_134
  · refine lv_tableIn (tgt := 135) X.1 X.2.1 dX7_count_1 (by rw [c1]; decide) (by rw [c1]; decide) (by rw [c1]; rfl) (by decide) ?_
    refine lv_aload_n X.1 X.2.1 dX7_count_135 rfl (lv_at hl 0 rfl) ?_
    refine x_get X hK hw (C := RX7) (T := TX7) (nf := 10) (k := q) (by omega) hxMa rfl inX7 6 (by decide) q224 (fun _ h9 => h9) rfl dX7_count_136 ?_
    refine x_callVP X hK hw (k := (q + 43)) (As := []) (rest := []) (k_X1_size hI ((q + 43)) d z hg ht (by omega) (by omega) (by omega) hxHi) (x_cwV yX1_size cX1_size 1 (some .int) 0 X q824 q825 q826 q8 q827 hd_X1_size ⟨Nat.le_of_ble_eq_true rfl, Nat.le_of_ble_eq_true rfl⟩) (by omega) hxHi.1 rfl rfl hl.1 rfl (Nat.le_of_ble_eq_true rfl) dX7_count_139 ⟨Nat.le_of_ble_eq_true rfl, Nat.le_of_ble_eq_true rfl⟩ (fun H locs hw => ?_)
    exact x_iret X hr hlk hK hw (v := nI z) rfl (⟨by rw [s_X7_count, if_neg (by rw [c1]; decide), if_neg (by rw [c1]; decide), if_neg (by rw [c1]; decide), if_neg (by rw [c1]; decide), if_neg (by rw [c1]; decide), if_neg (by rw [c1]; decide), if_neg (by rw [c1]; decide), if_neg (by rw [c1]; decide), if_neg (by rw [c1]; decide), if_pos c1], rfl⟩) dX7_count_142
  · refine lv_tableIn (tgt := 143) X.1 X.2.1 dX7_count_1 (by rw [c1]; decide) (by rw [c1]; decide) (by rw [c1]; rfl) (by decide) ?_
    refine lv_aload_n X.1 X.2.1 dX7_count_143 rfl (lv_at hl 0 rfl) ?_
    refine x_get X hK hw (C := RX7) (T := TX7) (nf := 10) (k := q) (by omega) hxMa rfl inX7 9 (by decide) q227 (fun _ h9 => h9) rfl dX7_count_144 ?_
    refine x_callVP X hK hw (k := (q + 111)) (As := []) (rest := []) (k_X3_length hI ((q + 111)) cap n ml f tx (by omega) (by omega) hnc hxL hxS htx) (x_cwV yX3_length cX3_length 1 (some .int) 0 X q652 q653 q654 q9 q655 hd_X3_length ⟨Nat.le_of_ble_eq_true rfl, Nat.le_of_ble_eq_true rfl⟩) (by omega) hxL rfl rfl hl.1 rfl (Nat.le_of_ble_eq_true rfl) dX7_count_147 ⟨Nat.le_of_ble_eq_true rfl, Nat.le_of_ble_eq_true rfl⟩ (fun H locs hw => ?_)
    exact x_iret X hr hlk hK hw (v := nI n) rfl (⟨by rw [s_X7_count, if_neg (by rw [c1]; decide), if_neg (by rw [c1]; decide), if_neg (by rw [c1]; decide), if_neg (by rw [c1]; decide), if_neg (by rw [c1]; decide), if_neg (by rw [c1]; decide), if_neg (by rw [c1]; decide), if_neg (by rw [c1]; decide), if_neg (by rw [c1]; decide), if_neg (by rw [c1]; decide), if_pos c1], rfl⟩) dX7_count_150
  · refine lv_tableOut (tgt := 151) X.1 X.2.1 dX7_count_1 c1 (by decide) ?_
    refine lv_bipush (v := (-2)) X.1 X.2.1 dX7_count_151 (by decide) ?_
    exact x_iret X hr hlk hK hw (v := (-2)) rfl (⟨by rw [s_X7_count, if_neg (fun h => by rw [h] at c1; revert c1; decide), if_neg (fun h => by rw [h] at c1; revert c1; decide), if_neg (fun h => by rw [h] at c1; revert c1; decide), if_neg (fun h => by rw [h] at c1; revert c1; decide), if_neg (fun h => by rw [h] at c1; revert c1; decide), if_neg (fun h => by rw [h] at c1; revert c1; decide), if_neg (fun h => by rw [h] at c1; revert c1; decide), if_neg (fun h => by rw [h] at c1; revert c1; decide), if_neg (fun h => by rw [h] at c1; revert c1; decide), if_neg (fun h => by rw [h] at c1; revert c1; decide), if_neg (fun h => by rw [h] at c1; revert c1; decide)], rfl⟩) dX7_count_153
theorem hd_X3_firstFault : yX3_firstFault.cls = RX3 ∧ yX3_firstFault.cls ≠ "java/lang/invoke/MethodHandle" ∧ yX3_firstFault.cls ≠ "java/lang/invoke/VarHandle" ∧ (parseMethodDescriptor yX3_firstFault.desc).map (fun d => d.parameters.length) = some 0 := by decide +kernel
set_option maxHeartbeats 4000000 in
set_option maxRecDepth 100000 in
theorem k_X7_fault {l : Launch} {D : va_G} {cI cB cS : ClassId} {ad : Nat → Nat} {N : Nat} {F : Nat → va_E} (hI : iN ad N) (q : Nat) (hs : Int32) (g : Nat → Int32) (t : Nat → Nat → Int32) (d : Nat) (z : Nat) (hg : Nat → Nat → Int32) (ht : Nat → Nat → Nat → Int32) (g3 : Nat → Int32) (t3 : Nat → Nat → Int32) (tm1 : Nat → Int32) (pt1 : Nat → Int32) (sm1 : Nat → Int32) (tl1 : Nat → Int32) (g2 : Nat → Int32) (t2 : Nat → Nat → Int32) (tm2 : Nat → Int32) (pt2 : Nat → Int32) (sm2 : Nat → Int32) (tl2 : Nat → Int32) (cap : Nat) (n : Nat) (ml : Int32) (f : Nat → Int32) (tx : Nat → Nat) (hq : q + 114 ≤ N) (hd5 : d < 5) (hz4 : z ≤ 4) (hxMa : MaF ad F q hs) (hxF : StF ad cI F (q + 1) g t) (hxCo : CoF ad F (q + 12) (q + 1)) (hxJu : JuF ad F (q + 13) (q + 1)) (hxHi : HiF ad cI cS F (q + 43) d z hg ht) (hxF3 : StF ad cI F (q + 100) g3 t3) (hxS1 : ScF ad cI F (q + 14) (q + 1) tm1 pt1 sm1 tl1) (hxF2 : StF ad cI F (q + 23) g2 t2) (hxS2 : ScF ad cI F (q + 34) (q + 23) tm2 pt2 sm2 tl2) (hcap : cap < 2 ^ 30) (hnc : n ≤ cap) (hxL : LoF ad F (q + 111)) (hxS : SbF ad cB F (q + 112) cap n ml f) (htx : ∀ j, j < n → tx j < 128 ∧ f j = nI (tx j)) : Ci l D cI cB cS ad N yX7_fault cX7_fault 1 (some .int) 5 127 [.ref (ad q)] F (pP (ffl tx n n 0 (nI 1)) F) := by
  refine x_met (by decide +kernel) (Nat.le_of_ble_eq_true rfl) ?_
  intro p e s m below meth c X hr hlk hK hw ls hl
  replace hl : lv_has ls 1 [(0, .ref (ad q))] := hl
  refine lv_aload_n X.1 X.2.1 dX7_fault_0 rfl (lv_at hl 0 rfl) ?_
  refine x_get X hK hw (C := RX7) (T := TX7) (nf := 10) (k := q) (by omega) hxMa rfl inX7 9 (by decide) q227 (fun _ h9 => h9) rfl dX7_fault_1 ?_
  refine x_callVP X hK hw (k := (q + 111)) (As := []) (rest := []) (k_X3_firstFault hI ((q + 111)) cap n ml f tx (by omega) (by omega) hnc hxL hxS htx) (x_cwV yX3_firstFault cX3_firstFault 3 (some .int) 0 X q612 q613 q614 q9 q615 hd_X3_firstFault ⟨Nat.le_of_ble_eq_true rfl, Nat.le_of_ble_eq_true rfl⟩) (by omega) hxL rfl rfl hl.1 rfl (Nat.le_of_ble_eq_true rfl) dX7_fault_4 ⟨Nat.le_of_ble_eq_true rfl, Nat.le_of_ble_eq_true rfl⟩ (fun H locs hw => ?_)
  exact x_iret X hr hlk hK hw (v := ffl tx n n 0 (nI 1)) rfl (⟨rfl, rfl⟩) dX7_fault_7
theorem auto_cl {ad : Nat → Nat} {cI cS : ClassId} {F F' : Nat → va_E} {q lo hi : Nat} {hs : Int32} {x : Int32 × (Nat → Int32) × (Nat → Nat → Int32)} {v : Int32} {g : Nat → Int32} {t : Nat → Nat → Int32} {d z : Nat} {hg : Nat → Nat → Int32} {ht : Nat → Nat → Nat → Int32} {g3 : Nat → Int32} {t3 : Nat → Nat → Int32} (h : x = (v, g, t)) (hC : ClF ad cI cS F' q hs g t d z hg ht g3 t3) (hf : Fr F F' lo hi) : v = x.1 ∧ ClF ad cI cS F' q hs x.2.1 x.2.2 d z hg ht g3 t3 ∧ Fr F F' lo hi := by
  subst h; exact ⟨rfl, hC, hf⟩
theorem hd_X3_numberAt : yX3_numberAt.cls = RX3 ∧ yX3_numberAt.cls ≠ "java/lang/invoke/MethodHandle" ∧ yX3_numberAt.cls ≠ "java/lang/invoke/VarHandle" ∧ (parseMethodDescriptor yX3_numberAt.desc).map (fun d => d.parameters.length) = some 2 := by decide +kernel
def s_X7_carryOutEvent (g : Nat → Int32) (t : Nat → Nat → Int32) (n : Nat) (tx : Nat → Nat) (u : Nat) (w : Nat) : Int32 × (Nat → Int32) × (Nat → Nat → Int32) := (if (nI (sg tx n u)) = 43 then ((s_X0_passTime g t (nuA tx n (u + 1) (w - (u + 1)))).1, ((s_X0_passTime g t (nuA tx n (u + 1) (w - (u + 1)))).2.1), ((s_X0_passTime g t (nuA tx n (u + 1) (w - (u + 1)))).2.2)) else (if (nI (sg tx n u)) = 98 then ((s_X0_passBuoy g t (nI (sg tx n (u + 1)) - nI 48) (nI (sg tx n (u + 2)) - nI 48)).1, ((s_X0_passBuoy g t (nI (sg tx n (u + 1)) - nI 48) (nI (sg tx n (u + 2)) - nI 48)).2.1), ((s_X0_passBuoy g t (nI (sg tx n (u + 1)) - nI 48) (nI (sg tx n (u + 2)) - nI 48)).2.2)) else (if (nI (sg tx n u)) = 104 then ((s_X2_hailProtest g t (nI (sg tx n (u + 1)) - nI 48) (nI (sg tx n (u + 2)) - nI 48)).1, ((s_X2_hailProtest g t (nI (sg tx n (u + 1)) - nI 48) (nI (sg tx n (u + 2)) - nI 48)).2.1), ((s_X2_hailProtest g t (nI (sg tx n (u + 1)) - nI 48) (nI (sg tx n (u + 2)) - nI 48)).2.2)) else (if (nI (sg tx n u)) = 108 then ((s_X0_crossLine g t (nI (sg tx n (u + 1)) - nI 48)).1, ((s_X0_crossLine g t (nI (sg tx n (u + 1)) - nI 48)).2.1), ((s_X0_crossLine g t (nI (sg tx n (u + 1)) - nI 48)).2.2)) else (if (nI (sg tx n u)) = 114 then ((s_X0_retireBoat g t (nI (sg tx n (u + 1)) - nI 48)).1, ((s_X0_retireBoat g t (nI (sg tx n (u + 1)) - nI 48)).2.1), ((s_X0_retireBoat g t (nI (sg tx n (u + 1)) - nI 48)).2.2)) else ((-2), g, t))))))
set_option maxHeartbeats 4000000 in
set_option maxRecDepth 100000 in
theorem k_X7_carryOutEvent {l : Launch} {D : va_G} {cI cB cS : ClassId} {ad : Nat → Nat} {N : Nat} {F : Nat → va_E} (hI : iN ad N) (q : Nat) (hs : Int32) (g : Nat → Int32) (t : Nat → Nat → Int32) (d : Nat) (z : Nat) (hg : Nat → Nat → Int32) (ht : Nat → Nat → Nat → Int32) (g3 : Nat → Int32) (t3 : Nat → Nat → Int32) (tm1 : Nat → Int32) (pt1 : Nat → Int32) (sm1 : Nat → Int32) (tl1 : Nat → Int32) (g2 : Nat → Int32) (t2 : Nat → Nat → Int32) (tm2 : Nat → Int32) (pt2 : Nat → Int32) (sm2 : Nat → Int32) (tl2 : Nat → Int32) (cap : Nat) (n : Nat) (ml : Int32) (f : Nat → Int32) (tx : Nat → Nat) (u : Nat) (w : Nat) (hq : q + 114 ≤ N) (hd5 : d < 5) (hz4 : z ≤ 4) (hxMa : MaF ad F q hs) (hxF : StF ad cI F (q + 1) g t) (hxCo : CoF ad F (q + 12) (q + 1)) (hxJu : JuF ad F (q + 13) (q + 1)) (hxHi : HiF ad cI cS F (q + 43) d z hg ht) (hxF3 : StF ad cI F (q + 100) g3 t3) (hxS1 : ScF ad cI F (q + 14) (q + 1) tm1 pt1 sm1 tl1) (hxF2 : StF ad cI F (q + 23) g2 t2) (hxS2 : ScF ad cI F (q + 34) (q + 23) tm2 pt2 sm2 tl2) (hcap : cap < 2 ^ 30) (hnc : n ≤ cap) (hxL : LoF ad F (q + 111)) (hxS : SbF ad cB F (q + 112) cap n ml f) (htx : ∀ j, j < n → tx j < 128 ∧ f j = nI (tx j)) (hu31 : u < 2 ^ 29) (hw31 : w < 2 ^ 30) : Ci l D cI cB cS ad N yX7_carryOutEvent cX7_carryOutEvent 3 (some .int) 7 171 [.ref (ad q), .int (nI u), .int (nI w)] F (fun r F' => r = (s_X7_carryOutEvent g t n tx u w).1 ∧ ClF ad cI cS F' q hs (s_X7_carryOutEvent g t n tx u w).2.1 (s_X7_carryOutEvent g t n tx u w).2.2 d z hg ht g3 t3 ∧ Fr F F' q (q + 111)) := by
  refine x_met (by decide +kernel) (Nat.le_of_ble_eq_true rfl) ?_
  intro p e s m below meth c X hr hlk hK hw ls hl
  replace hl : lv_has ls 3 [(0, .ref (ad q)), (1, .int (nI u)), (2, .int (nI w))] := hl
  have hfr : Fr F F (q) (q + 111) := Fr.rf
  refine lv_aload_n X.1 X.2.1 dX7_carryOutEvent_0 rfl (lv_at hl 0 rfl) ?_
  refine x_get X hK hw (C := RX7) (T := TX7) (nf := 10) (k := q) (by omega) hxMa rfl inX7 9 (by decide) q227 (fun _ h9 => h9) rfl dX7_carryOutEvent_1 ?_
  refine lv_iload_n X.1 X.2.1 dX7_carryOutEvent_4 rfl (lv_at hl 1 rfl) ?_
  refine x_callVP X hK hw (k := (q + 111)) (As := [.int (nI u)]) (rest := []) (k_X3_signAt hI ((q + 111)) cap n ml f tx u (by omega) (by omega) hnc hxL hxS htx (by omega)) (x_cwV yX3_signAt cX3_signAt 2 (some .char) 1 X q668 q661 q662 q9 q663 hd_X3_signAt ⟨Nat.le_of_ble_eq_true rfl, Nat.le_of_ble_eq_true rfl⟩) (by omega) hxL rfl rfl hl.1 rfl (Nat.le_of_ble_eq_true rfl) dX7_carryOutEvent_5 ⟨Nat.le_of_ble_eq_true rfl, Nat.le_of_ble_eq_true rfl⟩ (fun H locs hw => ?_)
  rcases lsw_43_98_104_108_114 (nI (sg tx n u)) with c1 | c1 | c1 | c1 | c1 | c1
  · refine lv_lookup (tgt := 60) X.1 X.2.1 dX7_carryOutEvent_8 (by decide) (by rw [c1] <;> rfl) (by decide) ?_
    refine lv_aload_n X.1 X.2.1 dX7_carryOutEvent_60 rfl (lv_at hl 0 rfl) ?_
    refine x_get X hK hw (C := RX7) (T := TX7) (nf := 10) (k := q) (by omega) hxMa rfl inX7 1 (by decide) q219 (fun _ h9 => h9) rfl dX7_carryOutEvent_61 ?_
    refine lv_aload_n X.1 X.2.1 dX7_carryOutEvent_64 rfl (lv_at hl 0 rfl) ?_
    refine x_get X hK hw (C := RX7) (T := TX7) (nf := 10) (k := q) (by omega) hxMa rfl inX7 9 (by decide) q227 (fun _ h9 => h9) rfl dX7_carryOutEvent_65 ?_
    refine lv_iload_n X.1 X.2.1 dX7_carryOutEvent_68 rfl (lv_at hl 1 rfl) ?_
    refine lv_iconst (v := nI 1) X.1 X.2.1 dX7_carryOutEvent_69 (by decide) ?_
    refine lv_iadd X.1 X.2.1 dX7_carryOutEvent_70 ?_
    refine x_top (nI_add _ _) ?_
    refine lv_iload_n X.1 X.2.1 dX7_carryOutEvent_71 rfl (lv_at hl 2 rfl) ?_
    refine x_callVP X hK hw (k := (q + 111)) (As := [.int (nI (u + 1)), .int (nI w)]) (rest := [.ref (ad (q + 12))]) (k_X3_numberAt hI ((q + 111)) cap n ml f tx (u + 1) w (by omega) (by omega) hnc hxL hxS htx (by omega) (by omega)) (x_cwV yX3_numberAt cX3_numberAt 5 (some .int) 2 X q669 q670 q671 q9 q672 hd_X3_numberAt ⟨Nat.le_of_ble_eq_true rfl, Nat.le_of_ble_eq_true rfl⟩) (by omega) hxL rfl rfl hl.1 rfl (Nat.le_of_ble_eq_true rfl) dX7_carryOutEvent_72 ⟨Nat.le_of_ble_eq_true rfl, Nat.le_of_ble_eq_true rfl⟩ (fun H locs hw => ?_)
    refine x_callV X hK hw (k := (q + 12)) (As := [.int (nuA tx n (u + 1) (w - (u + 1)))]) (rest := []) (k_X0_passTime hI ((q + 12)) ((q + 1)) g t (nuA tx n (u + 1) (w - (u + 1))) (by omega) (by omega) hxCo (by omega) hxF) (x_cwV yX0_passTime cX0_passTime 2 (some .int) 1 X q348 q349 q350 q5 q351 hd_X0_passTime ⟨Nat.le_of_ble_eq_true rfl, Nat.le_of_ble_eq_true rfl⟩) (by omega) hxCo rfl rfl hl.1 rfl (Nat.le_of_ble_eq_true rfl) dX7_carryOutEvent_75 ⟨Nat.le_of_ble_eq_true rfl, Nat.le_of_ble_eq_true rfl⟩ (fun r5 F2 H locs hp hw => ?_)
    obtain ⟨er6, hF3, hr4⟩ := hp
    refine x_top er6 ?_
    have hq7 := (hr4 _ (by omega)).trans hxMa
    have hq8 := (hr4 _ (by omega)).trans hxCo
    have hq9 := (hr4 _ (by omega)).trans hxJu
    have hq10 := hxHi.cg hr4 (by omega)
    have hq11 := hxF3.cg hr4 (by omega)
    have hq12 := hxS1.cg hr4 (by omega)
    have hq13 := hxF2.cg hr4 (by omega)
    have hq14 := hxS2.cg hr4 (by omega)
    have hq15 := (hr4 _ (by omega)).trans hxL
    have hq16 := hxS.cg hr4 (by omega)
    replace hfr := hfr.tr hr4 (by omega) (by omega)
    exact x_iret X hr hlk hK hw (v := (s_X0_passTime g t (nuA tx n (u + 1) (w - (u + 1)))).1) rfl (auto_cl (by rw [s_X7_carryOutEvent, if_pos c1] : s_X7_carryOutEvent g t n tx u w = ((s_X0_passTime g t (nuA tx n (u + 1) (w - (u + 1)))).1, ((s_X0_passTime g t (nuA tx n (u + 1) (w - (u + 1)))).2.1), ((s_X0_passTime g t (nuA tx n (u + 1) (w - (u + 1)))).2.2))) ⟨hq7, hF3, hq8, hq9, hq10, hq11, ⟨_, _, _, _, hq12⟩, ⟨_, _, hq13⟩, ⟨_, _, _, _, hq14⟩⟩ hfr) dX7_carryOutEvent_78
  · refine lv_lookup (tgt := 97) X.1 X.2.1 dX7_carryOutEvent_8 (by decide) (by rw [c1] <;> rfl) (by decide) ?_
    refine lv_aload_n X.1 X.2.1 dX7_carryOutEvent_97 rfl (lv_at hl 0 rfl) ?_
    refine x_get X hK hw (C := RX7) (T := TX7) (nf := 10) (k := q) (by omega) hxMa rfl inX7 1 (by decide) q219 (fun _ h9 => h9) rfl dX7_carryOutEvent_98 ?_
    refine lv_aload_n X.1 X.2.1 dX7_carryOutEvent_101 rfl (lv_at hl 0 rfl) ?_
    refine x_get X hK hw (C := RX7) (T := TX7) (nf := 10) (k := q) (by omega) hxMa rfl inX7 9 (by decide) q227 (fun _ h9 => h9) rfl dX7_carryOutEvent_102 ?_
    refine lv_iload_n X.1 X.2.1 dX7_carryOutEvent_105 rfl (lv_at hl 1 rfl) ?_
    refine lv_iconst (v := nI 1) X.1 X.2.1 dX7_carryOutEvent_106 (by decide) ?_
    refine lv_iadd X.1 X.2.1 dX7_carryOutEvent_107 ?_
    refine x_top (nI_add _ _) ?_
    refine x_callVP X hK hw (k := (q + 111)) (As := [.int (nI (u + 1))]) (rest := [.ref (ad (q + 12))]) (k_X3_digitAt hI ((q + 111)) cap n ml f tx (u + 1) (by omega) (by omega) hnc hxL hxS htx (by omega)) (x_cwV yX3_digitAt cX3_digitAt 2 (some .int) 1 X q677 q674 q675 q9 q676 hd_X3_digitAt ⟨Nat.le_of_ble_eq_true rfl, Nat.le_of_ble_eq_true rfl⟩) (by omega) hxL rfl rfl hl.1 rfl (Nat.le_of_ble_eq_true rfl) dX7_carryOutEvent_108 ⟨Nat.le_of_ble_eq_true rfl, Nat.le_of_ble_eq_true rfl⟩ (fun H locs hw => ?_)
    refine lv_aload_n X.1 X.2.1 dX7_carryOutEvent_111 rfl (lv_at hl 0 rfl) ?_
    refine x_get X hK hw (C := RX7) (T := TX7) (nf := 10) (k := q) (by omega) hxMa rfl inX7 9 (by decide) q227 (fun _ h9 => h9) rfl dX7_carryOutEvent_112 ?_
    refine lv_iload_n X.1 X.2.1 dX7_carryOutEvent_115 rfl (lv_at hl 1 rfl) ?_
    refine lv_iconst (v := nI 2) X.1 X.2.1 dX7_carryOutEvent_116 (by decide) ?_
    refine lv_iadd X.1 X.2.1 dX7_carryOutEvent_117 ?_
    refine x_top (nI_add _ _) ?_
    refine x_callVP X hK hw (k := (q + 111)) (As := [.int (nI (u + 2))]) (rest := [.int (nI (sg tx n (u + 1)) - nI 48), .ref (ad (q + 12))]) (k_X3_digitAt hI ((q + 111)) cap n ml f tx (u + 2) (by omega) (by omega) hnc hxL hxS htx (by omega)) (x_cwV yX3_digitAt cX3_digitAt 2 (some .int) 1 X q677 q674 q675 q9 q676 hd_X3_digitAt ⟨Nat.le_of_ble_eq_true rfl, Nat.le_of_ble_eq_true rfl⟩) (by omega) hxL rfl rfl hl.1 rfl (Nat.le_of_ble_eq_true rfl) dX7_carryOutEvent_118 ⟨Nat.le_of_ble_eq_true rfl, Nat.le_of_ble_eq_true rfl⟩ (fun H locs hw => ?_)
    refine x_callV X hK hw (k := (q + 12)) (As := [.int (nI (sg tx n (u + 1)) - nI 48), .int (nI (sg tx n (u + 2)) - nI 48)]) (rest := []) (k_X0_passBuoy hI ((q + 12)) ((q + 1)) g t (nI (sg tx n (u + 1)) - nI 48) (nI (sg tx n (u + 2)) - nI 48) (by omega) (by omega) hxCo (by omega) hxF) (x_cwV yX0_passBuoy cX0_passBuoy 7 (some .int) 2 X q387 q388 q389 q5 q390 hd_X0_passBuoy ⟨Nat.le_of_ble_eq_true rfl, Nat.le_of_ble_eq_true rfl⟩) (by omega) hxCo rfl rfl hl.1 rfl (Nat.le_of_ble_eq_true rfl) dX7_carryOutEvent_121 ⟨Nat.le_of_ble_eq_true rfl, Nat.le_of_ble_eq_true rfl⟩ (fun r20 F17 H locs hp hw => ?_)
    obtain ⟨er21, hF18, hr19⟩ := hp
    refine x_top er21 ?_
    have hq22 := (hr19 _ (by omega)).trans hxMa
    have hq23 := (hr19 _ (by omega)).trans hxCo
    have hq24 := (hr19 _ (by omega)).trans hxJu
    have hq25 := hxHi.cg hr19 (by omega)
    have hq26 := hxF3.cg hr19 (by omega)
    have hq27 := hxS1.cg hr19 (by omega)
    have hq28 := hxF2.cg hr19 (by omega)
    have hq29 := hxS2.cg hr19 (by omega)
    have hq30 := (hr19 _ (by omega)).trans hxL
    have hq31 := hxS.cg hr19 (by omega)
    replace hfr := hfr.tr hr19 (by omega) (by omega)
    exact x_iret X hr hlk hK hw (v := (s_X0_passBuoy g t (nI (sg tx n (u + 1)) - nI 48) (nI (sg tx n (u + 2)) - nI 48)).1) rfl (auto_cl (by rw [s_X7_carryOutEvent, if_neg (by rw [c1]; decide), if_pos c1] : s_X7_carryOutEvent g t n tx u w = ((s_X0_passBuoy g t (nI (sg tx n (u + 1)) - nI 48) (nI (sg tx n (u + 2)) - nI 48)).1, ((s_X0_passBuoy g t (nI (sg tx n (u + 1)) - nI 48) (nI (sg tx n (u + 2)) - nI 48)).2.1), ((s_X0_passBuoy g t (nI (sg tx n (u + 1)) - nI 48) (nI (sg tx n (u + 2)) - nI 48)).2.2))) ⟨hq22, hF18, hq23, hq24, hq25, hq26, ⟨_, _, _, _, hq27⟩, ⟨_, _, hq28⟩, ⟨_, _, _, _, hq29⟩⟩ hfr) dX7_carryOutEvent_124
  · refine lv_lookup (tgt := 143) X.1 X.2.1 dX7_carryOutEvent_8 (by decide) (by rw [c1] <;> rfl) (by decide) ?_
    refine lv_aload_n X.1 X.2.1 dX7_carryOutEvent_143 rfl (lv_at hl 0 rfl) ?_
    refine x_get X hK hw (C := RX7) (T := TX7) (nf := 10) (k := q) (by omega) hxMa rfl inX7 2 (by decide) q220 (fun _ h9 => h9) rfl dX7_carryOutEvent_144 ?_
    refine lv_aload_n X.1 X.2.1 dX7_carryOutEvent_147 rfl (lv_at hl 0 rfl) ?_
    refine x_get X hK hw (C := RX7) (T := TX7) (nf := 10) (k := q) (by omega) hxMa rfl inX7 9 (by decide) q227 (fun _ h9 => h9) rfl dX7_carryOutEvent_148 ?_
    refine lv_iload_n X.1 X.2.1 dX7_carryOutEvent_151 rfl (lv_at hl 1 rfl) ?_
    refine lv_iconst (v := nI 1) X.1 X.2.1 dX7_carryOutEvent_152 (by decide) ?_
    refine lv_iadd X.1 X.2.1 dX7_carryOutEvent_153 ?_
    refine x_top (nI_add _ _) ?_
    refine x_callVP X hK hw (k := (q + 111)) (As := [.int (nI (u + 1))]) (rest := [.ref (ad (q + 13))]) (k_X3_digitAt hI ((q + 111)) cap n ml f tx (u + 1) (by omega) (by omega) hnc hxL hxS htx (by omega)) (x_cwV yX3_digitAt cX3_digitAt 2 (some .int) 1 X q677 q674 q675 q9 q676 hd_X3_digitAt ⟨Nat.le_of_ble_eq_true rfl, Nat.le_of_ble_eq_true rfl⟩) (by omega) hxL rfl rfl hl.1 rfl (Nat.le_of_ble_eq_true rfl) dX7_carryOutEvent_154 ⟨Nat.le_of_ble_eq_true rfl, Nat.le_of_ble_eq_true rfl⟩ (fun H locs hw => ?_)
    refine lv_aload_n X.1 X.2.1 dX7_carryOutEvent_157 rfl (lv_at hl 0 rfl) ?_
    refine x_get X hK hw (C := RX7) (T := TX7) (nf := 10) (k := q) (by omega) hxMa rfl inX7 9 (by decide) q227 (fun _ h9 => h9) rfl dX7_carryOutEvent_158 ?_
    refine lv_iload_n X.1 X.2.1 dX7_carryOutEvent_161 rfl (lv_at hl 1 rfl) ?_
    refine lv_iconst (v := nI 2) X.1 X.2.1 dX7_carryOutEvent_162 (by decide) ?_
    refine lv_iadd X.1 X.2.1 dX7_carryOutEvent_163 ?_
    refine x_top (nI_add _ _) ?_
    refine x_callVP X hK hw (k := (q + 111)) (As := [.int (nI (u + 2))]) (rest := [.int (nI (sg tx n (u + 1)) - nI 48), .ref (ad (q + 13))]) (k_X3_digitAt hI ((q + 111)) cap n ml f tx (u + 2) (by omega) (by omega) hnc hxL hxS htx (by omega)) (x_cwV yX3_digitAt cX3_digitAt 2 (some .int) 1 X q677 q674 q675 q9 q676 hd_X3_digitAt ⟨Nat.le_of_ble_eq_true rfl, Nat.le_of_ble_eq_true rfl⟩) (by omega) hxL rfl rfl hl.1 rfl (Nat.le_of_ble_eq_true rfl) dX7_carryOutEvent_164 ⟨Nat.le_of_ble_eq_true rfl, Nat.le_of_ble_eq_true rfl⟩ (fun H locs hw => ?_)
    refine x_callV X hK hw (k := (q + 13)) (As := [.int (nI (sg tx n (u + 1)) - nI 48), .int (nI (sg tx n (u + 2)) - nI 48)]) (rest := []) (k_X2_hailProtest hI ((q + 13)) ((q + 1)) g t (nI (sg tx n (u + 1)) - nI 48) (nI (sg tx n (u + 2)) - nI 48) (by omega) (by omega) hxJu (by omega) hxF) (x_cwV yX2_hailProtest cX2_hailProtest 4 (some .int) 2 X q415 q416 q417 q6 q418 hd_X2_hailProtest ⟨Nat.le_of_ble_eq_true rfl, Nat.le_of_ble_eq_true rfl⟩) (by omega) hxJu rfl rfl hl.1 rfl (Nat.le_of_ble_eq_true rfl) dX7_carryOutEvent_167 ⟨Nat.le_of_ble_eq_true rfl, Nat.le_of_ble_eq_true rfl⟩ (fun r35 F32 H locs hp hw => ?_)
    obtain ⟨er36, hF33, hr34⟩ := hp
    refine x_top er36 ?_
    have hq37 := (hr34 _ (by omega)).trans hxMa
    have hq38 := (hr34 _ (by omega)).trans hxCo
    have hq39 := (hr34 _ (by omega)).trans hxJu
    have hq40 := hxHi.cg hr34 (by omega)
    have hq41 := hxF3.cg hr34 (by omega)
    have hq42 := hxS1.cg hr34 (by omega)
    have hq43 := hxF2.cg hr34 (by omega)
    have hq44 := hxS2.cg hr34 (by omega)
    have hq45 := (hr34 _ (by omega)).trans hxL
    have hq46 := hxS.cg hr34 (by omega)
    replace hfr := hfr.tr hr34 (by omega) (by omega)
    exact x_iret X hr hlk hK hw (v := (s_X2_hailProtest g t (nI (sg tx n (u + 1)) - nI 48) (nI (sg tx n (u + 2)) - nI 48)).1) rfl (auto_cl (by rw [s_X7_carryOutEvent, if_neg (by rw [c1]; decide), if_neg (by rw [c1]; decide), if_pos c1] : s_X7_carryOutEvent g t n tx u w = ((s_X2_hailProtest g t (nI (sg tx n (u + 1)) - nI 48) (nI (sg tx n (u + 2)) - nI 48)).1, ((s_X2_hailProtest g t (nI (sg tx n (u + 1)) - nI 48) (nI (sg tx n (u + 2)) - nI 48)).2.1), ((s_X2_hailProtest g t (nI (sg tx n (u + 1)) - nI 48) (nI (sg tx n (u + 2)) - nI 48)).2.2))) ⟨hq37, hF33, hq38, hq39, hq40, hq41, ⟨_, _, _, _, hq42⟩, ⟨_, _, hq43⟩, ⟨_, _, _, _, hq44⟩⟩ hfr) dX7_carryOutEvent_170
  · refine lv_lookup (tgt := 79) X.1 X.2.1 dX7_carryOutEvent_8 (by decide) (by rw [c1] <;> rfl) (by decide) ?_
    refine lv_aload_n X.1 X.2.1 dX7_carryOutEvent_79 rfl (lv_at hl 0 rfl) ?_
    refine x_get X hK hw (C := RX7) (T := TX7) (nf := 10) (k := q) (by omega) hxMa rfl inX7 1 (by decide) q219 (fun _ h9 => h9) rfl dX7_carryOutEvent_80 ?_
    refine lv_aload_n X.1 X.2.1 dX7_carryOutEvent_83 rfl (lv_at hl 0 rfl) ?_
    refine x_get X hK hw (C := RX7) (T := TX7) (nf := 10) (k := q) (by omega) hxMa rfl inX7 9 (by decide) q227 (fun _ h9 => h9) rfl dX7_carryOutEvent_84 ?_
    refine lv_iload_n X.1 X.2.1 dX7_carryOutEvent_87 rfl (lv_at hl 1 rfl) ?_
    refine lv_iconst (v := nI 1) X.1 X.2.1 dX7_carryOutEvent_88 (by decide) ?_
    refine lv_iadd X.1 X.2.1 dX7_carryOutEvent_89 ?_
    refine x_top (nI_add _ _) ?_
    refine x_callVP X hK hw (k := (q + 111)) (As := [.int (nI (u + 1))]) (rest := [.ref (ad (q + 12))]) (k_X3_digitAt hI ((q + 111)) cap n ml f tx (u + 1) (by omega) (by omega) hnc hxL hxS htx (by omega)) (x_cwV yX3_digitAt cX3_digitAt 2 (some .int) 1 X q677 q674 q675 q9 q676 hd_X3_digitAt ⟨Nat.le_of_ble_eq_true rfl, Nat.le_of_ble_eq_true rfl⟩) (by omega) hxL rfl rfl hl.1 rfl (Nat.le_of_ble_eq_true rfl) dX7_carryOutEvent_90 ⟨Nat.le_of_ble_eq_true rfl, Nat.le_of_ble_eq_true rfl⟩ (fun H locs hw => ?_)
    refine x_callV X hK hw (k := (q + 12)) (As := [.int (nI (sg tx n (u + 1)) - nI 48)]) (rest := []) (k_X0_crossLine hI ((q + 12)) ((q + 1)) g t (nI (sg tx n (u + 1)) - nI 48) (by omega) (by omega) hxCo (by omega) hxF) (x_cwV yX0_crossLine cX0_crossLine 3 (some .int) 1 X q357 q358 q359 q5 q360 hd_X0_crossLine ⟨Nat.le_of_ble_eq_true rfl, Nat.le_of_ble_eq_true rfl⟩) (by omega) hxCo rfl rfl hl.1 rfl (Nat.le_of_ble_eq_true rfl) dX7_carryOutEvent_93 ⟨Nat.le_of_ble_eq_true rfl, Nat.le_of_ble_eq_true rfl⟩ (fun r50 F47 H locs hp hw => ?_)
    obtain ⟨er51, hF48, hr49⟩ := hp
    refine x_top er51 ?_
    have hq52 := (hr49 _ (by omega)).trans hxMa
    have hq53 := (hr49 _ (by omega)).trans hxCo
    have hq54 := (hr49 _ (by omega)).trans hxJu
    have hq55 := hxHi.cg hr49 (by omega)
    have hq56 := hxF3.cg hr49 (by omega)
    have hq57 := hxS1.cg hr49 (by omega)
    have hq58 := hxF2.cg hr49 (by omega)
    have hq59 := hxS2.cg hr49 (by omega)
    have hq60 := (hr49 _ (by omega)).trans hxL
    have hq61 := hxS.cg hr49 (by omega)
    replace hfr := hfr.tr hr49 (by omega) (by omega)
    exact x_iret X hr hlk hK hw (v := (s_X0_crossLine g t (nI (sg tx n (u + 1)) - nI 48)).1) rfl (auto_cl (by rw [s_X7_carryOutEvent, if_neg (by rw [c1]; decide), if_neg (by rw [c1]; decide), if_neg (by rw [c1]; decide), if_pos c1] : s_X7_carryOutEvent g t n tx u w = ((s_X0_crossLine g t (nI (sg tx n (u + 1)) - nI 48)).1, ((s_X0_crossLine g t (nI (sg tx n (u + 1)) - nI 48)).2.1), ((s_X0_crossLine g t (nI (sg tx n (u + 1)) - nI 48)).2.2))) ⟨hq52, hF48, hq53, hq54, hq55, hq56, ⟨_, _, _, _, hq57⟩, ⟨_, _, hq58⟩, ⟨_, _, _, _, hq59⟩⟩ hfr) dX7_carryOutEvent_96
  · refine lv_lookup (tgt := 125) X.1 X.2.1 dX7_carryOutEvent_8 (by decide) (by rw [c1] <;> rfl) (by decide) ?_
    refine lv_aload_n X.1 X.2.1 dX7_carryOutEvent_125 rfl (lv_at hl 0 rfl) ?_
    refine x_get X hK hw (C := RX7) (T := TX7) (nf := 10) (k := q) (by omega) hxMa rfl inX7 1 (by decide) q219 (fun _ h9 => h9) rfl dX7_carryOutEvent_126 ?_
    refine lv_aload_n X.1 X.2.1 dX7_carryOutEvent_129 rfl (lv_at hl 0 rfl) ?_
    refine x_get X hK hw (C := RX7) (T := TX7) (nf := 10) (k := q) (by omega) hxMa rfl inX7 9 (by decide) q227 (fun _ h9 => h9) rfl dX7_carryOutEvent_130 ?_
    refine lv_iload_n X.1 X.2.1 dX7_carryOutEvent_133 rfl (lv_at hl 1 rfl) ?_
    refine lv_iconst (v := nI 1) X.1 X.2.1 dX7_carryOutEvent_134 (by decide) ?_
    refine lv_iadd X.1 X.2.1 dX7_carryOutEvent_135 ?_
    refine x_top (nI_add _ _) ?_
    refine x_callVP X hK hw (k := (q + 111)) (As := [.int (nI (u + 1))]) (rest := [.ref (ad (q + 12))]) (k_X3_digitAt hI ((q + 111)) cap n ml f tx (u + 1) (by omega) (by omega) hnc hxL hxS htx (by omega)) (x_cwV yX3_digitAt cX3_digitAt 2 (some .int) 1 X q677 q674 q675 q9 q676 hd_X3_digitAt ⟨Nat.le_of_ble_eq_true rfl, Nat.le_of_ble_eq_true rfl⟩) (by omega) hxL rfl rfl hl.1 rfl (Nat.le_of_ble_eq_true rfl) dX7_carryOutEvent_136 ⟨Nat.le_of_ble_eq_true rfl, Nat.le_of_ble_eq_true rfl⟩ (fun H locs hw => ?_)
    refine x_callV X hK hw (k := (q + 12)) (As := [.int (nI (sg tx n (u + 1)) - nI 48)]) (rest := []) (k_X0_retireBoat hI ((q + 12)) ((q + 1)) g t (nI (sg tx n (u + 1)) - nI 48) (by omega) (by omega) hxCo (by omega) hxF) (x_cwV yX0_retireBoat cX0_retireBoat 3 (some .int) 1 X q395 q396 q397 q5 q398 hd_X0_retireBoat ⟨Nat.le_of_ble_eq_true rfl, Nat.le_of_ble_eq_true rfl⟩) (by omega) hxCo rfl rfl hl.1 rfl (Nat.le_of_ble_eq_true rfl) dX7_carryOutEvent_139 ⟨Nat.le_of_ble_eq_true rfl, Nat.le_of_ble_eq_true rfl⟩ (fun r65 F62 H locs hp hw => ?_)
    obtain ⟨er66, hF63, hr64⟩ := hp
    refine x_top er66 ?_
    have hq67 := (hr64 _ (by omega)).trans hxMa
    have hq68 := (hr64 _ (by omega)).trans hxCo
    have hq69 := (hr64 _ (by omega)).trans hxJu
    have hq70 := hxHi.cg hr64 (by omega)
    have hq71 := hxF3.cg hr64 (by omega)
    have hq72 := hxS1.cg hr64 (by omega)
    have hq73 := hxF2.cg hr64 (by omega)
    have hq74 := hxS2.cg hr64 (by omega)
    have hq75 := (hr64 _ (by omega)).trans hxL
    have hq76 := hxS.cg hr64 (by omega)
    replace hfr := hfr.tr hr64 (by omega) (by omega)
    exact x_iret X hr hlk hK hw (v := (s_X0_retireBoat g t (nI (sg tx n (u + 1)) - nI 48)).1) rfl (auto_cl (by rw [s_X7_carryOutEvent, if_neg (by rw [c1]; decide), if_neg (by rw [c1]; decide), if_neg (by rw [c1]; decide), if_neg (by rw [c1]; decide), if_pos c1] : s_X7_carryOutEvent g t n tx u w = ((s_X0_retireBoat g t (nI (sg tx n (u + 1)) - nI 48)).1, ((s_X0_retireBoat g t (nI (sg tx n (u + 1)) - nI 48)).2.1), ((s_X0_retireBoat g t (nI (sg tx n (u + 1)) - nI 48)).2.2))) ⟨hq67, hF63, hq68, hq69, hq70, hq71, ⟨_, _, _, _, hq72⟩, ⟨_, _, hq73⟩, ⟨_, _, _, _, hq74⟩⟩ hfr) dX7_carryOutEvent_142
  · refine lv_lookup (off := 163) (tgt := 171) X.1 X.2.1 dX7_carryOutEvent_8 (by decide) (lsd_of (ks := [43, 98, 104, 108, 114]) (os := [52, 89, 135, 71, 117]) c1) (by decide) ?_
    refine lv_bipush (v := (-2)) X.1 X.2.1 dX7_carryOutEvent_171 (by decide) ?_
    exact x_iret X hr hlk hK hw (v := (-2)) rfl (auto_cl (by rw [s_X7_carryOutEvent, if_neg (c1 _ (by simp)), if_neg (c1 _ (by simp)), if_neg (c1 _ (by simp)), if_neg (c1 _ (by simp)), if_neg (c1 _ (by simp))] : s_X7_carryOutEvent g t n tx u w = ((-2), g, t)) ⟨hxMa, hxF, hxCo, hxJu, hxHi, hxF3, ⟨_, _, _, _, hxS1⟩, ⟨_, _, hxF2⟩, ⟨_, _, _, _, hxS2⟩⟩ hfr) dX7_carryOutEvent_173
