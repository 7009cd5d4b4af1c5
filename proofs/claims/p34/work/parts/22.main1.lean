def MaF (ad : Nat → Nat) (F : Nat → va_E) (q : Nat) (hs : Int32) : Prop := F q = .inr (8, [.ref (ad (q + 1)), .ref (ad (q + 12)), .ref (ad (q + 13)), .ref (ad (q + 14)), .ref (ad (q + 23)), .ref (ad (q + 34)), .ref (ad (q + 43)), .ref (ad (q + 100)), .int hs, .ref (ad (q + 111))])
/-- the class without its text: 111 cells from q on -/
def ClF (ad : Nat → Nat) (cI cS : ClassId) (F : Nat → va_E) (q : Nat) (hs : Int32) (g : Nat → Int32) (t : Nat → Nat → Int32) (d z : Nat) (hg : Nat → Nat → Int32) (ht : Nat → Nat → Nat → Int32) (g3 : Nat → Int32) (t3 : Nat → Nat → Int32) : Prop :=
  MaF ad F q hs ∧ StF ad cI F (q + 1) g t ∧ CoF ad F (q + 12) (q + 1) ∧ JuF ad F (q + 13) (q + 1) ∧ HiF ad cI cS F (q + 43) d z hg ht ∧ StF ad cI F (q + 100) g3 t3 ∧ (∃ tm pt sm tl, ScF ad cI F (q + 14) (q + 1) tm pt sm tl) ∧ (∃ g2 t2, StF ad cI F (q + 23) g2 t2) ∧ ∃ tm pt sm tl, ScF ad cI F (q + 34) (q + 23) tm pt sm tl
theorem hd_X0_enterBoat : yX0_enterBoat.cls = RX0 ∧ yX0_enterBoat.cls ≠ "java/lang/invoke/MethodHandle" ∧ yX0_enterBoat.cls ≠ "java/lang/invoke/VarHandle" ∧ (parseMethodDescriptor yX0_enterBoat.desc).map (fun d => d.parameters.length) = some 1 := by decide +kernel
theorem hd_X1_confirm : yX1_confirm.cls = RX1 ∧ yX1_confirm.cls ≠ "java/lang/invoke/MethodHandle" ∧ yX1_confirm.cls ≠ "java/lang/invoke/VarHandle" ∧ (parseMethodDescriptor yX1_confirm.desc).map (fun d => d.parameters.length) = some 1 := by decide +kernel
theorem hd_X1_hold : yX1_hold.cls = RX1 ∧ yX1_hold.cls ≠ "java/lang/invoke/MethodHandle" ∧ yX1_hold.cls ≠ "java/lang/invoke/VarHandle" ∧ (parseMethodDescriptor yX1_hold.desc).map (fun d => d.parameters.length) = some 1 := by decide +kernel
set_option maxHeartbeats 4000000 in
set_option maxRecDepth 100000 in
theorem k_X7_enter {l : Launch} {D : va_G} {cI cB cS : ClassId} {ad : Nat → Nat} {N : Nat} {F : Nat → va_E} (hI : iN ad N) (q : Nat) (hs : Int32) (g : Nat → Int32) (t : Nat → Nat → Int32) (d : Nat) (z : Nat) (hg : Nat → Nat → Int32) (ht : Nat → Nat → Nat → Int32) (g3 : Nat → Int32) (t3 : Nat → Nat → Int32) (tm1 : Nat → Int32) (pt1 : Nat → Int32) (sm1 : Nat → Int32) (tl1 : Nat → Int32) (g2 : Nat → Int32) (t2 : Nat → Nat → Int32) (tm2 : Nat → Int32) (pt2 : Nat → Int32) (sm2 : Nat → Int32) (tl2 : Nat → Int32) (x : Int32) (hq : q + 114 ≤ N) (hd5 : d < 5) (hz4 : z ≤ 4) (hxMa : MaF ad F q hs) (hxF : StF ad cI F (q + 1) g t) (hxCo : CoF ad F (q + 12) (q + 1)) (hxJu : JuF ad F (q + 13) (q + 1)) (hxHi : HiF ad cI cS F (q + 43) d z hg ht) (hxF3 : StF ad cI F (q + 100) g3 t3) (hxS1 : ScF ad cI F (q + 14) (q + 1) tm1 pt1 sm1 tl1) (hxF2 : StF ad cI F (q + 23) g2 t2) (hxS2 : ScF ad cI F (q + 34) (q + 23) tm2 pt2 sm2 tl2) : Ci l D cI cB cS ad N yX7_enter cX7_enter 2 (some .int) 4 125 [.ref (ad q), .int x] F (fun r F' => r = ((s_X0_enterBoat g t x).1) ∧ ClF ad cI cS F' q hs (((s_X0_enterBoat g t x).2.1)) (((s_X0_enterBoat g t x).2.2)) ((if ((s_X0_enterBoat g t x).1) < 0 then ((d)) else hn ((d)))) ((if ((s_X0_enterBoat g t x).1) < 0 then ((z)) else min (((z)) + 1) 4)) ((((va_up hg d g)))) ((((va_up ht d t)))) g3 t3 ∧ Fr F F' q (q + 111)) := by
  refine x_met (by decide +kernel) (Nat.le_of_ble_eq_true rfl) ?_
  intro p e s m below meth c X hr hlk hK hw ls hl
  replace hl : lv_has ls 2 [(0, .ref (ad q)), (1, .int x)] := hl
  have hfr : Fr F F (q) (q + 111) := Fr.rf
  refine lv_aload_n X.1 X.2.1 dX7_enter_0 rfl (lv_at hl 0 rfl) ?_
  refine x_get X hK hw (C := RX7) (T := TX7) (nf := 10) (k := q) (by omega) hxMa rfl inX7 6 (by decide) q224 (fun _ h9 => h9) rfl dX7_enter_1 ?_
  refine lv_aload_n X.1 X.2.1 dX7_enter_4 rfl (lv_at hl 0 rfl) ?_
  refine x_get X hK hw (C := RX7) (T := TX7) (nf := 10) (k := q) (by omega) hxMa rfl inX7 0 (by decide) q218 (fun _ h9 => h9) rfl dX7_enter_5 ?_
  refine x_callVv X hK hw (k := (q + 43)) (As := [.ref (ad (q + 1))]) (rest := []) (k_X1_hold hI ((q + 43)) d z hg ht ((q + 1)) g t (by omega) (by omega) (by omega) hxHi (by omega) hxF (by omega)) (x_cwV yX1_hold cX1_hold 3 none 1 X q253 q254 q255 q8 q256 hd_X1_hold ⟨Nat.le_of_ble_eq_true rfl, Nat.le_of_ble_eq_true rfl⟩) (by omega) hxHi.1 rfl rfl hl.1 rfl (Nat.le_of_ble_eq_true rfl) dX7_enter_8 ⟨Nat.le_of_ble_eq_true rfl, Nat.le_of_ble_eq_true rfl⟩ (fun F1 H locs hp hw => ?_)
  obtain ⟨hF2, hr3⟩ := hp
  have hq4 := (hr3 _ (by omega)).trans hxMa
  have hq5 := hxF.cg hr3 (by omega)
  have hq6 := (hr3 _ (by omega)).trans hxCo
  have hq7 := (hr3 _ (by omega)).trans hxJu
  have hq8 := hxF3.cg hr3 (by omega)
  have hq9 := hxS1.cg hr3 (by omega)
  have hq10 := hxF2.cg hr3 (by omega)
  have hq11 := hxS2.cg hr3 (by omega)
  replace hfr := hfr.tr hr3 (by omega) (by omega)
  refine lv_aload_n X.1 X.2.1 dX7_enter_11 rfl (lv_at hl 0 rfl) ?_
  refine x_get X hK hw (C := RX7) (T := TX7) (nf := 10) (k := q) (by omega) hq4 rfl inX7 6 (by decide) q224 (fun _ h9 => h9) rfl dX7_enter_12 ?_
  refine lv_aload_n X.1 X.2.1 dX7_enter_15 rfl (lv_at hl 0 rfl) ?_
  refine x_get X hK hw (C := RX7) (T := TX7) (nf := 10) (k := q) (by omega) hq4 rfl inX7 1 (by decide) q219 (fun _ h9 => h9) rfl dX7_enter_16 ?_
  refine lv_iload_n X.1 X.2.1 dX7_enter_19 rfl (lv_at hl 1 rfl) ?_
  refine x_callV X hK hw (k := (q + 12)) (As := [.int x]) (rest := [.ref (ad (q + 43))]) (k_X0_enterBoat hI ((q + 12)) ((q + 1)) g t x (by omega) (by omega) hq6 (by omega) hq5) (x_cwV yX0_enterBoat cX0_enterBoat 3 (some .int) 1 X q271 q272 q273 q5 q274 hd_X0_enterBoat ⟨Nat.le_of_ble_eq_true rfl, Nat.le_of_ble_eq_true rfl⟩) (by omega) hq6 rfl rfl hl.1 rfl (Nat.le_of_ble_eq_true rfl) dX7_enter_20 ⟨Nat.le_of_ble_eq_true rfl, Nat.le_of_ble_eq_true rfl⟩ (fun r15 F12 H locs hp hw => ?_)
  obtain ⟨er16, hF13, hr14⟩ := hp
  refine x_top er16 ?_
  have hq17 := (hr14 _ (by omega)).trans hq4
  have hq18 := (hr14 _ (by omega)).trans hq6
  have hq19 := (hr14 _ (by omega)).trans hq7
  have hq20 := hF2.cg hr14 (by omega)
  have hq21 := hq8.cg hr14 (by omega)
  have hq22 := hq9.cg hr14 (by omega)
  have hq23 := hq10.cg hr14 (by omega)
  have hq24 := hq11.cg hr14 (by omega)
  replace hfr := hfr.tr hr14 (by omega) (by omega)
  refine x_callV X hK hw (k := (q + 43)) (As := [.int ((s_X0_enterBoat g t x).1)]) (rest := []) (k_X1_confirm hI ((q + 43)) ((d)) ((z)) ((va_up hg d g)) ((va_up ht d t)) ((s_X0_enterBoat g t x).1) (by omega) (by omega) (by omega) hq20) (x_cwV yX1_confirm cX1_confirm 2 (some .int) 1 X q276 q277 q278 q8 q279 hd_X1_confirm ⟨Nat.le_of_ble_eq_true rfl, Nat.le_of_ble_eq_true rfl⟩) (by omega) hq20.1 rfl rfl hl.1 rfl (Nat.le_of_ble_eq_true rfl) dX7_enter_23 ⟨Nat.le_of_ble_eq_true rfl, Nat.le_of_ble_eq_true rfl⟩ (fun r28 F25 H locs hp hw => ?_)
  obtain ⟨er29, hF26, hr27⟩ := hp
  refine x_top er29 ?_
  have hq30 := (hr27 _ (by omega)).trans hq17
  have hq31 := hF13.cg hr27 (by omega)
  have hq32 := (hr27 _ (by omega)).trans hq18
  have hq33 := (hr27 _ (by omega)).trans hq19
  have hq34 := hq21.cg hr27 (by omega)
  have hq35 := hq22.cg hr27 (by omega)
  have hq36 := hq23.cg hr27 (by omega)
  have hq37 := hq24.cg hr27 (by omega)
  replace hfr := hfr.tr hr27 (by omega) (by omega)
  exact x_iret X hr hlk hK hw (v := ((s_X0_enterBoat g t x).1)) rfl (⟨rfl, ⟨hq30, hq31, hq32, hq33, hF26, hq34, ⟨_, _, _, _, hq35⟩, ⟨_, _, hq36⟩, ⟨_, _, _, _, hq37⟩⟩, hfr⟩) dX7_enter_26
theorem hd_X0_prepareRace : yX0_prepareRace.cls = RX0 ∧ yX0_prepareRace.cls ≠ "java/lang/invoke/MethodHandle" ∧ yX0_prepareRace.cls ≠ "java/lang/invoke/VarHandle" ∧ (parseMethodDescriptor yX0_prepareRace.desc).map (fun d => d.parameters.length) = some 3 := by decide +kernel
set_option maxHeartbeats 4000000 in
set_option maxRecDepth 100000 in
theorem k_X7_prepare {l : Launch} {D : va_G} {cI cB cS : ClassId} {ad : Nat → Nat} {N : Nat} {F : Nat → va_E} (hI : iN ad N) (q : Nat) (hs : Int32) (g : Nat → Int32) (t : Nat → Nat → Int32) (d : Nat) (z : Nat) (hg : Nat → Nat → Int32) (ht : Nat → Nat → Nat → Int32) (g3 : Nat → Int32) (t3 : Nat → Nat → Int32) (tm1 : Nat → Int32) (pt1 : Nat → Int32) (sm1 : Nat → Int32) (tl1 : Nat → Int32) (g2 : Nat → Int32) (t2 : Nat → Nat → Int32) (tm2 : Nat → Int32) (pt2 : Nat → Int32) (sm2 : Nat → Int32) (tl2 : Nat → Int32) (x : Int32) (y : Int32) (w : Int32) (nb : Nat) (hq : q + 114 ≤ N) (hd5 : d < 5) (hz4 : z ≤ 4) (hxMa : MaF ad F q hs) (hxF : StF ad cI F (q + 1) g t) (hxCo : CoF ad F (q + 12) (q + 1)) (hxJu : JuF ad F (q + 13) (q + 1)) (hxHi : HiF ad cI cS F (q + 43) d z hg ht) (hxF3 : StF ad cI F (q + 100) g3 t3) (hxS1 : ScF ad cI F (q + 14) (q + 1) tm1 pt1 sm1 tl1) (hxF2 : StF ad cI F (q + 23) g2 t2) (hxS2 : ScF ad cI F (q + 34) (q + 23) tm2 pt2 sm2 tl2) (hnb1 : g 1 = nI nb) (hnb2 : nb < 2 ^ 31) : Ci l D cI cB cS ad N yX7_prepare cX7_prepare 4 (some .int) 4 125 [.ref (ad q), .int x, .int y, .int w] F (fun r F' => r = ((s_X0_prepareRace g t x y w nb).1) ∧ ClF ad cI cS F' q hs (((s_X0_prepareRace g t x y w nb).2.1)) (((s_X0_prepareRace g t x y w nb).2.2)) ((if ((s_X0_prepareRace g t x y w nb).1) < 0 then ((d)) else hn ((d)))) ((if ((s_X0_prepareRace g t x y w nb).1) < 0 then ((z)) else min (((z)) + 1) 4)) ((((va_up hg d g)))) ((((va_up ht d t)))) g3 t3 ∧ Fr F F' q (q + 111)) := by
  refine x_met (by decide +kernel) (Nat.le_of_ble_eq_true rfl) ?_
  intro p e s m below meth c X hr hlk hK hw ls hl
  replace hl : lv_has ls 4 [(0, .ref (ad q)), (1, .int x), (2, .int y), (3, .int w)] := hl
  have hfr : Fr F F (q) (q + 111) := Fr.rf
  refine lv_aload_n X.1 X.2.1 dX7_prepare_0 rfl (lv_at hl 0 rfl) ?_
  refine x_get X hK hw (C := RX7) (T := TX7) (nf := 10) (k := q) (by omega) hxMa rfl inX7 6 (by decide) q224 (fun _ h9 => h9) rfl dX7_prepare_1 ?_
  refine lv_aload_n X.1 X.2.1 dX7_prepare_4 rfl (lv_at hl 0 rfl) ?_
  refine x_get X hK hw (C := RX7) (T := TX7) (nf := 10) (k := q) (by omega) hxMa rfl inX7 0 (by decide) q218 (fun _ h9 => h9) rfl dX7_prepare_5 ?_
  refine x_callVv X hK hw (k := (q + 43)) (As := [.ref (ad (q + 1))]) (rest := []) (k_X1_hold hI ((q + 43)) d z hg ht ((q + 1)) g t (by omega) (by omega) (by omega) hxHi (by omega) hxF (by omega)) (x_cwV yX1_hold cX1_hold 3 none 1 X q253 q254 q255 q8 q256 hd_X1_hold ⟨Nat.le_of_ble_eq_true rfl, Nat.le_of_ble_eq_true rfl⟩) (by omega) hxHi.1 rfl rfl hl.1 rfl (Nat.le_of_ble_eq_true rfl) dX7_prepare_8 ⟨Nat.le_of_ble_eq_true rfl, Nat.le_of_ble_eq_true rfl⟩ (fun F1 H locs hp hw => ?_)
  obtain ⟨hF2, hr3⟩ := hp
  have hq4 := (hr3 _ (by omega)).trans hxMa
  have hq5 := hxF.cg hr3 (by omega)
  have hq6 := (hr3 _ (by omega)).trans hxCo
  have hq7 := (hr3 _ (by omega)).trans hxJu
  have hq8 := hxF3.cg hr3 (by omega)
  have hq9 := hxS1.cg hr3 (by omega)
  have hq10 := hxF2.cg hr3 (by omega)
  have hq11 := hxS2.cg hr3 (by omega)
  replace hfr := hfr.tr hr3 (by omega) (by omega)
  refine lv_aload_n X.1 X.2.1 dX7_prepare_11 rfl (lv_at hl 0 rfl) ?_
  refine x_get X hK hw (C := RX7) (T := TX7) (nf := 10) (k := q) (by omega) hq4 rfl inX7 6 (by decide) q224 (fun _ h9 => h9) rfl dX7_prepare_12 ?_
  refine lv_aload_n X.1 X.2.1 dX7_prepare_15 rfl (lv_at hl 0 rfl) ?_
  refine x_get X hK hw (C := RX7) (T := TX7) (nf := 10) (k := q) (by omega) hq4 rfl inX7 1 (by decide) q219 (fun _ h9 => h9) rfl dX7_prepare_16 ?_
  refine lv_iload_n X.1 X.2.1 dX7_prepare_19 rfl (lv_at hl 1 rfl) ?_
  refine lv_iload_n X.1 X.2.1 dX7_prepare_20 rfl (lv_at hl 2 rfl) ?_
  refine lv_iload_n X.1 X.2.1 dX7_prepare_21 rfl (lv_at hl 3 rfl) ?_
  refine x_callV X hK hw (k := (q + 12)) (As := [.int x, .int y, .int w]) (rest := [.ref (ad (q + 43))]) (k_X0_prepareRace hI ((q + 12)) ((q + 1)) g t x y w nb (by omega) (by omega) hq6 (by omega) hq5 hnb1 hnb2) (x_cwV yX0_prepareRace cX0_prepareRace 5 (some .int) 3 X q285 q286 q287 q5 q288 hd_X0_prepareRace ⟨Nat.le_of_ble_eq_true rfl, Nat.le_of_ble_eq_true rfl⟩) (by omega) hq6 rfl rfl hl.1 rfl (Nat.le_of_ble_eq_true rfl) dX7_prepare_22 ⟨Nat.le_of_ble_eq_true rfl, Nat.le_of_ble_eq_true rfl⟩ (fun r15 F12 H locs hp hw => ?_)
  obtain ⟨er16, hF13, hr14⟩ := hp
  refine x_top er16 ?_
  have hq17 := (hr14 _ (by omega)).trans hq4
  have hq18 := (hr14 _ (by omega)).trans hq6
  have hq19 := (hr14 _ (by omega)).trans hq7
  have hq20 := hF2.cg hr14 (by omega)
  have hq21 := hq8.cg hr14 (by omega)
  have hq22 := hq9.cg hr14 (by omega)
  have hq23 := hq10.cg hr14 (by omega)
  have hq24 := hq11.cg hr14 (by omega)
  replace hfr := hfr.tr hr14 (by omega) (by omega)
  refine x_callV X hK hw (k := (q + 43)) (As := [.int ((s_X0_prepareRace g t x y w nb).1)]) (rest := []) (k_X1_confirm hI ((q + 43)) ((d)) ((z)) ((va_up hg d g)) ((va_up ht d t)) ((s_X0_prepareRace g t x y w nb).1) (by omega) (by omega) (by omega) hq20) (x_cwV yX1_confirm cX1_confirm 2 (some .int) 1 X q276 q277 q278 q8 q279 hd_X1_confirm ⟨Nat.le_of_ble_eq_true rfl, Nat.le_of_ble_eq_true rfl⟩) (by omega) hq20.1 rfl rfl hl.1 rfl (Nat.le_of_ble_eq_true rfl) dX7_prepare_25 ⟨Nat.le_of_ble_eq_true rfl, Nat.le_of_ble_eq_true rfl⟩ (fun r28 F25 H locs hp hw => ?_)
  obtain ⟨er29, hF26, hr27⟩ := hp
  refine x_top er29 ?_
  have hq30 := (hr27 _ (by omega)).trans hq17
  have hq31 := hF13.cg hr27 (by omega)
  have hq32 := (hr27 _ (by omega)).trans hq18
  have hq33 := (hr27 _ (by omega)).trans hq19
  have hq34 := hq21.cg hr27 (by omega)
  have hq35 := hq22.cg hr27 (by omega)
  have hq36 := hq23.cg hr27 (by omega)
  have hq37 := hq24.cg hr27 (by omega)
  replace hfr := hfr.tr hr27 (by omega) (by omega)
  exact x_iret X hr hlk hK hw (v := ((s_X0_prepareRace g t x y w nb).1)) rfl (⟨rfl, ⟨hq30, hq31, hq32, hq33, hF26, hq34, ⟨_, _, _, _, hq35⟩, ⟨_, _, hq36⟩, ⟨_, _, _, _, hq37⟩⟩, hfr⟩) dX7_prepare_28
theorem hd_X0_postponeStart : yX0_postponeStart.cls = RX0 ∧ yX0_postponeStart.cls ≠ "java/lang/invoke/MethodHandle" ∧ yX0_postponeStart.cls ≠ "java/lang/invoke/VarHandle" ∧ (parseMethodDescriptor yX0_postponeStart.desc).map (fun d => d.parameters.length) = some 1 := by decide +kernel
set_option maxHeartbeats 4000000 in
set_option maxRecDepth 100000 in
theorem k_X7_postpone {l : Launch} {D : va_G} {cI cB cS : ClassId} {ad : Nat → Nat} {N : Nat} {F : Nat → va_E} (hI : iN ad N) (q : Nat) (hs : Int32) (g : Nat → Int32) (t : Nat → Nat → Int32) (d : Nat) (z : Nat) (hg : Nat → Nat → Int32) (ht : Nat → Nat → Nat → Int32) (g3 : Nat → Int32) (t3 : Nat → Nat → Int32) (tm1 : Nat → Int32) (pt1 : Nat → Int32) (sm1 : Nat → Int32) (tl1 : Nat → Int32) (g2 : Nat → Int32) (t2 : Nat → Nat → Int32) (tm2 : Nat → Int32) (pt2 : Nat → Int32) (sm2 : Nat → Int32) (tl2 : Nat → Int32) (x : Int32) (hq : q + 114 ≤ N) (hd5 : d < 5) (hz4 : z ≤ 4) (hxMa : MaF ad F q hs) (hxF : StF ad cI F (q + 1) g t) (hxCo : CoF ad F (q + 12) (q + 1)) (hxJu : JuF ad F (q + 13) (q + 1)) (hxHi : HiF ad cI cS F (q + 43) d z hg ht) (hxF3 : StF ad cI F (q + 100) g3 t3) (hxS1 : ScF ad cI F (q + 14) (q + 1) tm1 pt1 sm1 tl1) (hxF2 : StF ad cI F (q + 23) g2 t2) (hxS2 : ScF ad cI F (q + 34) (q + 23) tm2 pt2 sm2 tl2) : Ci l D cI cB cS ad N yX7_postpone cX7_postpone 2 (some .int) 4 125 [.ref (ad q), .int x] F (fun r F' => r = ((s_X0_postponeStart g t x).1) ∧ ClF ad cI cS F' q hs (((s_X0_postponeStart g t x).2.1)) (((s_X0_postponeStart g t x).2.2)) ((if ((s_X0_postponeStart g t x).1) < 0 then ((d)) else hn ((d)))) ((if ((s_X0_postponeStart g t x).1) < 0 then ((z)) else min (((z)) + 1) 4)) ((((va_up hg d g)))) ((((va_up ht d t)))) g3 t3 ∧ Fr F F' q (q + 111)) := by
  refine x_met (by decide +kernel) (Nat.le_of_ble_eq_true rfl) ?_
  intro p e s m below meth c X hr hlk hK hw ls hl
  replace hl : lv_has ls 2 [(0, .ref (ad q)), (1, .int x)] := hl
  have hfr : Fr F F (q) (q + 111) := Fr.rf
  refine lv_aload_n X.1 X.2.1 dX7_postpone_0 rfl (lv_at hl 0 rfl) ?_
  refine x_get X hK hw (C := RX7) (T := TX7) (nf := 10) (k := q) (by omega) hxMa rfl inX7 6 (by decide) q224 (fun _ h9 => h9) rfl dX7_postpone_1 ?_
  refine lv_aload_n X.1 X.2.1 dX7_postpone_4 rfl (lv_at hl 0 rfl) ?_
  refine x_get X hK hw (C := RX7) (T := TX7) (nf := 10) (k := q) (by omega) hxMa rfl inX7 0 (by decide) q218 (fun _ h9 => h9) rfl dX7_postpone_5 ?_
  refine x_callVv X hK hw (k := (q + 43)) (As := [.ref (ad (q + 1))]) (rest := []) (k_X1_hold hI ((q + 43)) d z hg ht ((q + 1)) g t (by omega) (by omega) (by omega) hxHi (by omega) hxF (by omega)) (x_cwV yX1_hold cX1_hold 3 none 1 X q253 q254 q255 q8 q256 hd_X1_hold ⟨Nat.le_of_ble_eq_true rfl, Nat.le_of_ble_eq_true rfl⟩) (by omega) hxHi.1 rfl rfl hl.1 rfl (Nat.le_of_ble_eq_true rfl) dX7_postpone_8 ⟨Nat.le_of_ble_eq_true rfl, Nat.le_of_ble_eq_true rfl⟩ (fun F1 H locs hp hw => ?_)
  obtain ⟨hF2, hr3⟩ := hp
  have hq4 := (hr3 _ (by omega)).trans hxMa
  have hq5 := hxF.cg hr3 (by omega)
  have hq6 := (hr3 _ (by omega)).trans hxCo
  have hq7 := (hr3 _ (by omega)).trans hxJu
  have hq8 := hxF3.cg hr3 (by omega)
  have hq9 := hxS1.cg hr3 (by omega)
  have hq10 := hxF2.cg hr3 (by omega)
  have hq11 := hxS2.cg hr3 (by omega)
  replace hfr := hfr.tr hr3 (by omega) (by omega)
  refine lv_aload_n X.1 X.2.1 dX7_postpone_11 rfl (lv_at hl 0 rfl) ?_
  refine x_get X hK hw (C := RX7) (T := TX7) (nf := 10) (k := q) (by omega) hq4 rfl inX7 6 (by decide) q224 (fun _ h9 => h9) rfl dX7_postpone_12 ?_
  refine lv_aload_n X.1 X.2.1 dX7_postpone_15 rfl (lv_at hl 0 rfl) ?_
  refine x_get X hK hw (C := RX7) (T := TX7) (nf := 10) (k := q) (by omega) hq4 rfl inX7 1 (by decide) q219 (fun _ h9 => h9) rfl dX7_postpone_16 ?_
  refine lv_iload_n X.1 X.2.1 dX7_postpone_19 rfl (lv_at hl 1 rfl) ?_
  refine x_callV X hK hw (k := (q + 12)) (As := [.int x]) (rest := [.ref (ad (q + 43))]) (k_X0_postponeStart hI ((q + 12)) ((q + 1)) g t x (by omega) (by omega) hq6 (by omega) hq5) (x_cwV yX0_postponeStart cX0_postponeStart 2 (some .int) 1 X q314 q315 q316 q5 q317 hd_X0_postponeStart ⟨Nat.le_of_ble_eq_true rfl, Nat.le_of_ble_eq_true rfl⟩) (by omega) hq6 rfl rfl hl.1 rfl (Nat.le_of_ble_eq_true rfl) dX7_postpone_20 ⟨Nat.le_of_ble_eq_true rfl, Nat.le_of_ble_eq_true rfl⟩ (fun r15 F12 H locs hp hw => ?_)
  obtain ⟨er16, hF13, hr14⟩ := hp
  refine x_top er16 ?_
  have hq17 := (hr14 _ (by omega)).trans hq4
  have hq18 := (hr14 _ (by omega)).trans hq6
  have hq19 := (hr14 _ (by omega)).trans hq7
  have hq20 := hF2.cg hr14 (by omega)
  have hq21 := hq8.cg hr14 (by omega)
  have hq22 := hq9.cg hr14 (by omega)
  have hq23 := hq10.cg hr14 (by omega)
  have hq24 := hq11.cg hr14 (by omega)
  replace hfr := hfr.tr hr14 (by omega) (by omega)
  refine x_callV X hK hw (k := (q + 43)) (As := [.int ((s_X0_postponeStart g t x).1)]) (rest := []) (k_X1_confirm hI ((q + 43)) ((d)) ((z)) ((va_up hg d g)) ((va_up ht d t)) ((s_X0_postponeStart g t x).1) (by omega) (by omega) (by omega) hq20) (x_cwV yX1_confirm cX1_confirm 2 (some .int) 1 X q276 q277 q278 q8 q279 hd_X1_confirm ⟨Nat.le_of_ble_eq_true rfl, Nat.le_of_ble_eq_true rfl⟩) (by omega) hq20.1 rfl rfl hl.1 rfl (Nat.le_of_ble_eq_true rfl) dX7_postpone_23 ⟨Nat.le_of_ble_eq_true rfl, Nat.le_of_ble_eq_true rfl⟩ (fun r28 F25 H locs hp hw => ?_)
  obtain ⟨er29, hF26, hr27⟩ := hp
  refine x_top er29 ?_
  have hq30 := (hr27 _ (by omega)).trans hq17
  have hq31 := hF13.cg hr27 (by omega)
  have hq32 := (hr27 _ (by omega)).trans hq18
  have hq33 := (hr27 _ (by omega)).trans hq19
  have hq34 := hq21.cg hr27 (by omega)
  have hq35 := hq22.cg hr27 (by omega)
  have hq36 := hq23.cg hr27 (by omega)
  have hq37 := hq24.cg hr27 (by omega)
  replace hfr := hfr.tr hr27 (by omega) (by omega)
  exact x_iret X hr hlk hK hw (v := ((s_X0_postponeStart g t x).1)) rfl (⟨rfl, ⟨hq30, hq31, hq32, hq33, hF26, hq34, ⟨_, _, _, _, hq35⟩, ⟨_, _, hq36⟩, ⟨_, _, _, _, hq37⟩⟩, hfr⟩) dX7_postpone_26
theorem hd_X0_recallBoats : yX0_recallBoats.cls = RX0 ∧ yX0_recallBoats.cls ≠ "java/lang/invoke/MethodHandle" ∧ yX0_recallBoats.cls ≠ "java/lang/invoke/VarHandle" ∧ (parseMethodDescriptor yX0_recallBoats.desc).map (fun d => d.parameters.length) = some 0 := by decide +kernel
set_option maxHeartbeats 4000000 in
set_option maxRecDepth 100000 in
theorem k_X7_recall {l : Launch} {D : va_G} {cI cB cS : ClassId} {ad : Nat → Nat} {N : Nat} {F : Nat → va_E} (hI : iN ad N) (q : Nat) (hs : Int32) (g : Nat → Int32) (t : Nat → Nat → Int32) (d : Nat) (z : Nat) (hg : Nat → Nat → Int32) (ht : Nat → Nat → Nat → Int32) (g3 : Nat → Int32) (t3 : Nat → Nat → Int32) (tm1 : Nat → Int32) (pt1 : Nat → Int32) (sm1 : Nat → Int32) (tl1 : Nat → Int32) (g2 : Nat → Int32) (t2 : Nat → Nat → Int32) (tm2 : Nat → Int32) (pt2 : Nat → Int32) (sm2 : Nat → Int32) (tl2 : Nat → Int32) (nb : Nat) (hq : q + 114 ≤ N) (hd5 : d < 5) (hz4 : z ≤ 4) (hxMa : MaF ad F q hs) (hxF : StF ad cI F (q + 1) g t) (hxCo : CoF ad F (q + 12) (q + 1)) (hxJu : JuF ad F (q + 13) (q + 1)) (hxHi : HiF ad cI cS F (q + 43) d z hg ht) (hxF3 : StF ad cI F (q + 100) g3 t3) (hxS1 : ScF ad cI F (q + 14) (q + 1) tm1 pt1 sm1 tl1) (hxF2 : StF ad cI F (q + 23) g2 t2) (hxS2 : ScF ad cI F (q + 34) (q + 23) tm2 pt2 sm2 tl2) (hnb1 : g 1 = nI nb) (hnb2 : nb < 2 ^ 31) : Ci l D cI cB cS ad N yX7_recall cX7_recall 1 (some .int) 4 125 [.ref (ad q)] F (fun r F' => r = ((s_X0_recallBoats g t nb).1) ∧ ClF ad cI cS F' q hs (((s_X0_recallBoats g t nb).2.1)) (((s_X0_recallBoats g t nb).2.2)) ((if ((s_X0_recallBoats g t nb).1) < 0 then ((d)) else hn ((d)))) ((if ((s_X0_recallBoats g t nb).1) < 0 then ((z)) else min (((z)) + 1) 4)) ((((va_up hg d g)))) ((((va_up ht d t)))) g3 t3 ∧ Fr F F' q (q + 111)) := by
  refine x_met (by decide +kernel) (Nat.le_of_ble_eq_true rfl) ?_
  intro p e s m below meth c X hr hlk hK hw ls hl
  replace hl : lv_has ls 1 [(0, .ref (ad q))] := hl
  have hfr : Fr F F (q) (q + 111) := Fr.rf
  refine lv_aload_n X.1 X.2.1 dX7_recall_0 rfl (lv_at hl 0 rfl) ?_
  refine x_get X hK hw (C := RX7) (T := TX7) (nf := 10) (k := q) (by omega) hxMa rfl inX7 6 (by decide) q224 (fun _ h9 => h9) rfl dX7_recall_1 ?_
  refine lv_aload_n X.1 X.2.1 dX7_recall_4 rfl (lv_at hl 0 rfl) ?_
  refine x_get X hK hw (C := RX7) (T := TX7) (nf := 10) (k := q) (by omega) hxMa rfl inX7 0 (by decide) q218 (fun _ h9 => h9) rfl dX7_recall_5 ?_
  refine x_callVv X hK hw (k := (q + 43)) (As := [.ref (ad (q + 1))]) (rest := []) (k_X1_hold hI ((q + 43)) d z hg ht ((q + 1)) g t (by omega) (by omega) (by omega) hxHi (by omega) hxF (by omega)) (x_cwV yX1_hold cX1_hold 3 none 1 X q253 q254 q255 q8 q256 hd_X1_hold ⟨Nat.le_of_ble_eq_true rfl, Nat.le_of_ble_eq_true rfl⟩) (by omega) hxHi.1 rfl rfl hl.1 rfl (Nat.le_of_ble_eq_true rfl) dX7_recall_8 ⟨Nat.le_of_ble_eq_true rfl, Nat.le_of_ble_eq_true rfl⟩ (fun F1 H locs hp hw => ?_)
  obtain ⟨hF2, hr3⟩ := hp
  have hq4 := (hr3 _ (by omega)).trans hxMa
  have hq5 := hxF.cg hr3 (by omega)
  have hq6 := (hr3 _ (by omega)).trans hxCo
  have hq7 := (hr3 _ (by omega)).trans hxJu
  have hq8 := hxF3.cg hr3 (by omega)
  have hq9 := hxS1.cg hr3 (by omega)
  have hq10 := hxF2.cg hr3 (by omega)
  have hq11 := hxS2.cg hr3 (by omega)
  replace hfr := hfr.tr hr3 (by omega) (by omega)
  refine lv_aload_n X.1 X.2.1 dX7_recall_11 rfl (lv_at hl 0 rfl) ?_
  refine x_get X hK hw (C := RX7) (T := TX7) (nf := 10) (k := q) (by omega) hq4 rfl inX7 6 (by decide) q224 (fun _ h9 => h9) rfl dX7_recall_12 ?_
  refine lv_aload_n X.1 X.2.1 dX7_recall_15 rfl (lv_at hl 0 rfl) ?_
  refine x_get X hK hw (C := RX7) (T := TX7) (nf := 10) (k := q) (by omega) hq4 rfl inX7 1 (by decide) q219 (fun _ h9 => h9) rfl dX7_recall_16 ?_
  refine x_callV X hK hw (k := (q + 12)) (As := []) (rest := [.ref (ad (q + 43))]) (k_X0_recallBoats hI ((q + 12)) ((q + 1)) g t nb (by omega) (by omega) hq6 (by omega) hq5 hnb1 hnb2) (x_cwV yX0_recallBoats cX0_recallBoats 1 (some .int) 0 X q340 q341 q342 q5 q343 hd_X0_recallBoats ⟨Nat.le_of_ble_eq_true rfl, Nat.le_of_ble_eq_true rfl⟩) (by omega) hq6 rfl rfl hl.1 rfl (Nat.le_of_ble_eq_true rfl) dX7_recall_19 ⟨Nat.le_of_ble_eq_true rfl, Nat.le_of_ble_eq_true rfl⟩ (fun r15 F12 H locs hp hw => ?_)
  obtain ⟨er16, hF13, hr14⟩ := hp
  refine x_top er16 ?_
  have hq17 := (hr14 _ (by omega)).trans hq4
  have hq18 := (hr14 _ (by omega)).trans hq6
  have hq19 := (hr14 _ (by omega)).trans hq7
  have hq20 := hF2.cg hr14 (by omega)
  have hq21 := hq8.cg hr14 (by omega)
  have hq22 := hq9.cg hr14 (by omega)
  have hq23 := hq10.cg hr14 (by omega)
  have hq24 := hq11.cg hr14 (by omega)
  replace hfr := hfr.tr hr14 (by omega) (by omega)
  refine x_callV X hK hw (k := (q + 43)) (As := [.int ((s_X0_recallBoats g t nb).1)]) (rest := []) (k_X1_confirm hI ((q + 43)) ((d)) ((z)) ((va_up hg d g)) ((va_up ht d t)) ((s_X0_recallBoats g t nb).1) (by omega) (by omega) (by omega) hq20) (x_cwV yX1_confirm cX1_confirm 2 (some .int) 1 X q276 q277 q278 q8 q279 hd_X1_confirm ⟨Nat.le_of_ble_eq_true rfl, Nat.le_of_ble_eq_true rfl⟩) (by omega) hq20.1 rfl rfl hl.1 rfl (Nat.le_of_ble_eq_true rfl) dX7_recall_22 ⟨Nat.le_of_ble_eq_true rfl, Nat.le_of_ble_eq_true rfl⟩ (fun r28 F25 H locs hp hw => ?_)
  obtain ⟨er29, hF26, hr27⟩ := hp
  refine x_top er29 ?_
  have hq30 := (hr27 _ (by omega)).trans hq17
  have hq31 := hF13.cg hr27 (by omega)
  have hq32 := (hr27 _ (by omega)).trans hq18
  have hq33 := (hr27 _ (by omega)).trans hq19
  have hq34 := hq21.cg hr27 (by omega)
  have hq35 := hq22.cg hr27 (by omega)
  have hq36 := hq23.cg hr27 (by omega)
  have hq37 := hq24.cg hr27 (by omega)
  replace hfr := hfr.tr hr27 (by omega) (by omega)
  exact x_iret X hr hlk hK hw (v := ((s_X0_recallBoats g t nb).1)) rfl (⟨rfl, ⟨hq30, hq31, hq32, hq33, hF26, hq34, ⟨_, _, _, _, hq35⟩, ⟨_, _, hq36⟩, ⟨_, _, _, _, hq37⟩⟩, hfr⟩) dX7_recall_25
theorem hd_X0_passTime : yX0_passTime.cls = RX0 ∧ yX0_passTime.cls ≠ "java/lang/invoke/MethodHandle" ∧ yX0_passTime.cls ≠ "java/lang/invoke/VarHandle" ∧ (parseMethodDescriptor yX0_passTime.desc).map (fun d => d.parameters.length) = some 1 := by decide +kernel
set_option maxHeartbeats 4000000 in
set_option maxRecDepth 100000 in
theorem k_X7_pass {l : Launch} {D : va_G} {cI cB cS : ClassId} {ad : Nat → Nat} {N : Nat} {F : Nat → va_E} (hI : iN ad N) (q : Nat) (hs : Int32) (g : Nat → Int32) (t : Nat → Nat → Int32) (d : Nat) (z : Nat) (hg : Nat → Nat → Int32) (ht : Nat → Nat → Nat → Int32) (g3 : Nat → Int32) (t3 : Nat → Nat → Int32) (tm1 : Nat → Int32) (pt1 : Nat → Int32) (sm1 : Nat → Int32) (tl1 : Nat → Int32) (g2 : Nat → Int32) (t2 : Nat → Nat → Int32) (tm2 : Nat → Int32) (pt2 : Nat → Int32) (sm2 : Nat → Int32) (tl2 : Nat → Int32) (x : Int32) (hq : q + 114 ≤ N) (hd5 : d < 5) (hz4 : z ≤ 4) (hxMa : MaF ad F q hs) (hxF : StF ad cI F (q + 1) g t) (hxCo : CoF ad F (q + 12) (q + 1)) (hxJu : JuF ad F (q + 13) (q + 1)) (hxHi : HiF ad cI cS F (q + 43) d z hg ht) (hxF3 : StF ad cI F (q + 100) g3 t3) (hxS1 : ScF ad cI F (q + 14) (q + 1) tm1 pt1 sm1 tl1) (hxF2 : StF ad cI F (q + 23) g2 t2) (hxS2 : ScF ad cI F (q + 34) (q + 23) tm2 pt2 sm2 tl2) : Ci l D cI cB cS ad N yX7_pass cX7_pass 2 (some .int) 4 125 [.ref (ad q), .int x] F (fun r F' => r = ((s_X0_passTime g t x).1) ∧ ClF ad cI cS F' q hs (((s_X0_passTime g t x).2.1)) (((s_X0_passTime g t x).2.2)) ((if ((s_X0_passTime g t x).1) < 0 then ((d)) else hn ((d)))) ((if ((s_X0_passTime g t x).1) < 0 then ((z)) else min (((z)) + 1) 4)) ((((va_up hg d g)))) ((((va_up ht d t)))) g3 t3 ∧ Fr F F' q (q + 111)) := by
  refine x_met (by decide +kernel) (Nat.le_of_ble_eq_true rfl) ?_
  intro p e s m below meth c X hr hlk hK hw ls hl
  replace hl : lv_has ls 2 [(0, .ref (ad q)), (1, .int x)] := hl
  have hfr : Fr F F (q) (q + 111) := Fr.rf
  refine lv_aload_n X.1 X.2.1 dX7_pass_0 rfl (lv_at hl 0 rfl) ?_
  refine x_get X hK hw (C := RX7) (T := TX7) (nf := 10) (k := q) (by omega) hxMa rfl inX7 6 (by decide) q224 (fun _ h9 => h9) rfl dX7_pass_1 ?_
  refine lv_aload_n X.1 X.2.1 dX7_pass_4 rfl (lv_at hl 0 rfl) ?_
  refine x_get X hK hw (C := RX7) (T := TX7) (nf := 10) (k := q) (by omega) hxMa rfl inX7 0 (by decide) q218 (fun _ h9 => h9) rfl dX7_pass_5 ?_
  refine x_callVv X hK hw (k := (q + 43)) (As := [.ref (ad (q + 1))]) (rest := []) (k_X1_hold hI ((q + 43)) d z hg ht ((q + 1)) g t (by omega) (by omega) (by omega) hxHi (by omega) hxF (by omega)) (x_cwV yX1_hold cX1_hold 3 none 1 X q253 q254 q255 q8 q256 hd_X1_hold ⟨Nat.le_of_ble_eq_true rfl, Nat.le_of_ble_eq_true rfl⟩) (by omega) hxHi.1 rfl rfl hl.1 rfl (Nat.le_of_ble_eq_true rfl) dX7_pass_8 ⟨Nat.le_of_ble_eq_true rfl, Nat.le_of_ble_eq_true rfl⟩ (fun F1 H locs hp hw => ?_)
  obtain ⟨hF2, hr3⟩ := hp
  have hq4 := (hr3 _ (by omega)).trans hxMa
  have hq5 := hxF.cg hr3 (by omega)
  have hq6 := (hr3 _ (by omega)).trans hxCo
  have hq7 := (hr3 _ (by omega)).trans hxJu
  have hq8 := hxF3.cg hr3 (by omega)
  have hq9 := hxS1.cg hr3 (by omega)
  have hq10 := hxF2.cg hr3 (by omega)
  have hq11 := hxS2.cg hr3 (by omega)
  replace hfr := hfr.tr hr3 (by omega) (by omega)
  refine lv_aload_n X.1 X.2.1 dX7_pass_11 rfl (lv_at hl 0 rfl) ?_
  refine x_get X hK hw (C := RX7) (T := TX7) (nf := 10) (k := q) (by omega) hq4 rfl inX7 6 (by decide) q224 (fun _ h9 => h9) rfl dX7_pass_12 ?_
  refine lv_aload_n X.1 X.2.1 dX7_pass_15 rfl (lv_at hl 0 rfl) ?_
  refine x_get X hK hw (C := RX7) (T := TX7) (nf := 10) (k := q) (by omega) hq4 rfl inX7 1 (by decide) q219 (fun _ h9 => h9) rfl dX7_pass_16 ?_
  refine lv_iload_n X.1 X.2.1 dX7_pass_19 rfl (lv_at hl 1 rfl) ?_
  refine x_callV X hK hw (k := (q + 12)) (As := [.int x]) (rest := [.ref (ad (q + 43))]) (k_X0_passTime hI ((q + 12)) ((q + 1)) g t x (by omega) (by omega) hq6 (by omega) hq5) (x_cwV yX0_passTime cX0_passTime 2 (some .int) 1 X q348 q349 q350 q5 q351 hd_X0_passTime ⟨Nat.le_of_ble_eq_true rfl, Nat.le_of_ble_eq_true rfl⟩) (by omega) hq6 rfl rfl hl.1 rfl (Nat.le_of_ble_eq_true rfl) dX7_pass_20 ⟨Nat.le_of_ble_eq_true rfl, Nat.le_of_ble_eq_true rfl⟩ (fun r15 F12 H locs hp hw => ?_)
  obtain ⟨er16, hF13, hr14⟩ := hp
  refine x_top er16 ?_
  have hq17 := (hr14 _ (by omega)).trans hq4
  have hq18 := (hr14 _ (by omega)).trans hq6
  have hq19 := (hr14 _ (by omega)).trans hq7
  have hq20 := hF2.cg hr14 (by omega)
  have hq21 := hq8.cg hr14 (by omega)
  have hq22 := hq9.cg hr14 (by omega)
  have hq23 := hq10.cg hr14 (by omega)
  have hq24 := hq11.cg hr14 (by omega)
  replace hfr := hfr.tr hr14 (by omega) (by omega)
  refine x_callV X hK hw (k := (q + 43)) (As := [.int ((s_X0_passTime g t x).1)]) (rest := []) (k_X1_confirm hI ((q + 43)) ((d)) ((z)) ((va_up hg d g)) ((va_up ht d t)) ((s_X0_passTime g t x).1) (by omega) (by omega) (by omega) hq20) (x_cwV yX1_confirm cX1_confirm 2 (some .int) 1 X q276 q277 q278 q8 q279 hd_X1_confirm ⟨Nat.le_of_ble_eq_true rfl, Nat.le_of_ble_eq_true rfl⟩) (by omega) hq20.1 rfl rfl hl.1 rfl (Nat.le_of_ble_eq_true rfl) dX7_pass_23 ⟨Nat.le_of_ble_eq_true rfl, Nat.le_of_ble_eq_true rfl⟩ (fun r28 F25 H locs hp hw => ?_)
  obtain ⟨er29, hF26, hr27⟩ := hp
  refine x_top er29 ?_
  have hq30 := (hr27 _ (by omega)).trans hq17
  have hq31 := hF13.cg hr27 (by omega)
  have hq32 := (hr27 _ (by omega)).trans hq18
  have hq33 := (hr27 _ (by omega)).trans hq19
  have hq34 := hq21.cg hr27 (by omega)
  have hq35 := hq22.cg hr27 (by omega)
  have hq36 := hq23.cg hr27 (by omega)
  have hq37 := hq24.cg hr27 (by omega)
  replace hfr := hfr.tr hr27 (by omega) (by omega)
  exact x_iret X hr hlk hK hw (v := ((s_X0_passTime g t x).1)) rfl (⟨rfl, ⟨hq30, hq31, hq32, hq33, hF26, hq34, ⟨_, _, _, _, hq35⟩, ⟨_, _, hq36⟩, ⟨_, _, _, _, hq37⟩⟩, hfr⟩) dX7_pass_26
theorem hd_X0_crossLine : yX0_crossLine.cls = RX0 ∧ yX0_crossLine.cls ≠ "java/lang/invoke/MethodHandle" ∧ yX0_crossLine.cls ≠ "java/lang/invoke/VarHandle" ∧ (parseMethodDescriptor yX0_crossLine.desc).map (fun d => d.parameters.length) = some 1 := by decide +kernel
set_option maxHeartbeats 4000000 in
set_option maxRecDepth 100000 in
theorem k_X7_line {l : Launch} {D : va_G} {cI cB cS : ClassId} {ad : Nat → Nat} {N : Nat} {F : Nat → va_E} (hI : iN ad N) (q : Nat) (hs : Int32) (g : Nat → Int32) (t : Nat → Nat → Int32) (d : Nat) (z : Nat) (hg : Nat → Nat → Int32) (ht : Nat → Nat → Nat → Int32) (g3 : Nat → Int32) (t3 : Nat → Nat → Int32) (tm1 : Nat → Int32) (pt1 : Nat → Int32) (sm1 : Nat → Int32) (tl1 : Nat → Int32) (g2 : Nat → Int32) (t2 : Nat → Nat → Int32) (tm2 : Nat → Int32) (pt2 : Nat → Int32) (sm2 : Nat → Int32) (tl2 : Nat → Int32) (x : Int32) (hq : q + 114 ≤ N) (hd5 : d < 5) (hz4 : z ≤ 4) (hxMa : MaF ad F q hs) (hxF : StF ad cI F (q + 1) g t) (hxCo : CoF ad F (q + 12) (q + 1)) (hxJu : JuF ad F (q + 13) (q + 1)) (hxHi : HiF ad cI cS F (q + 43) d z hg ht) (hxF3 : StF ad cI F (q + 100) g3 t3) (hxS1 : ScF ad cI F (q + 14) (q + 1) tm1 pt1 sm1 tl1) (hxF2 : StF ad cI F (q + 23) g2 t2) (hxS2 : ScF ad cI F (q + 34) (q + 23) tm2 pt2 sm2 tl2) : Ci l D cI cB cS ad N yX7_line cX7_line 2 (some .int) 5 125 [.ref (ad q), .int x] F (fun r F' => r = ((s_X0_crossLine g t x).1) ∧ ClF ad cI cS F' q hs (((s_X0_crossLine g t x).2.1)) (((s_X0_crossLine g t x).2.2)) ((if ((s_X0_crossLine g t x).1) < 0 then ((d)) else hn ((d)))) ((if ((s_X0_crossLine g t x).1) < 0 then ((z)) else min (((z)) + 1) 4)) ((((va_up hg d g)))) ((((va_up ht d t)))) g3 t3 ∧ Fr F F' q (q + 111)) := by
  refine x_met (by decide +kernel) (Nat.le_of_ble_eq_true rfl) ?_
  intro p e s m below meth c X hr hlk hK hw ls hl
  replace hl : lv_has ls 2 [(0, .ref (ad q)), (1, .int x)] := hl
  have hfr : Fr F F (q) (q + 111) := Fr.rf
  refine lv_aload_n X.1 X.2.1 dX7_line_0 rfl (lv_at hl 0 rfl) ?_
  refine x_get X hK hw (C := RX7) (T := TX7) (nf := 10) (k := q) (by omega) hxMa rfl inX7 6 (by decide) q224 (fun _ h9 => h9) rfl dX7_line_1 ?_
  refine lv_aload_n X.1 X.2.1 dX7_line_4 rfl (lv_at hl 0 rfl) ?_
  refine x_get X hK hw (C := RX7) (T := TX7) (nf := 10) (k := q) (by omega) hxMa rfl inX7 0 (by decide) q218 (fun _ h9 => h9) rfl dX7_line_5 ?_
  refine x_callVv X hK hw (k := (q + 43)) (As := [.ref (ad (q + 1))]) (rest := []) (k_X1_hold hI ((q + 43)) d z hg ht ((q + 1)) g t (by omega) (by omega) (by omega) hxHi (by omega) hxF (by omega)) (x_cwV yX1_hold cX1_hold 3 none 1 X q253 q254 q255 q8 q256 hd_X1_hold ⟨Nat.le_of_ble_eq_true rfl, Nat.le_of_ble_eq_true rfl⟩) (by omega) hxHi.1 rfl rfl hl.1 rfl (Nat.le_of_ble_eq_true rfl) dX7_line_8 ⟨Nat.le_of_ble_eq_true rfl, Nat.le_of_ble_eq_true rfl⟩ (fun F1 H locs hp hw => ?_)
  obtain ⟨hF2, hr3⟩ := hp
  have hq4 := (hr3 _ (by omega)).trans hxMa
  have hq5 := hxF.cg hr3 (by omega)
  have hq6 := (hr3 _ (by omega)).trans hxCo
  have hq7 := (hr3 _ (by omega)).trans hxJu
  have hq8 := hxF3.cg hr3 (by omega)
  have hq9 := hxS1.cg hr3 (by omega)
  have hq10 := hxF2.cg hr3 (by omega)
  have hq11 := hxS2.cg hr3 (by omega)
  replace hfr := hfr.tr hr3 (by omega) (by omega)
  refine lv_aload_n X.1 X.2.1 dX7_line_11 rfl (lv_at hl 0 rfl) ?_
  refine x_get X hK hw (C := RX7) (T := TX7) (nf := 10) (k := q) (by omega) hq4 rfl inX7 6 (by decide) q224 (fun _ h9 => h9) rfl dX7_line_12 ?_
  refine lv_aload_n X.1 X.2.1 dX7_line_15 rfl (lv_at hl 0 rfl) ?_
  refine x_get X hK hw (C := RX7) (T := TX7) (nf := 10) (k := q) (by omega) hq4 rfl inX7 1 (by decide) q219 (fun _ h9 => h9) rfl dX7_line_16 ?_
  refine lv_iload_n X.1 X.2.1 dX7_line_19 rfl (lv_at hl 1 rfl) ?_
  refine x_callV X hK hw (k := (q + 12)) (As := [.int x]) (rest := [.ref (ad (q + 43))]) (k_X0_crossLine hI ((q + 12)) ((q + 1)) g t x (by omega) (by omega) hq6 (by omega) hq5) (x_cwV yX0_crossLine cX0_crossLine 3 (some .int) 1 X q357 q358 q359 q5 q360 hd_X0_crossLine ⟨Nat.le_of_ble_eq_true rfl, Nat.le_of_ble_eq_true rfl⟩) (by omega) hq6 rfl rfl hl.1 rfl (Nat.le_of_ble_eq_true rfl) dX7_line_20 ⟨Nat.le_of_ble_eq_true rfl, Nat.le_of_ble_eq_true rfl⟩ (fun r15 F12 H locs hp hw => ?_)
  obtain ⟨er16, hF13, hr14⟩ := hp
  refine x_top er16 ?_
  have hq17 := (hr14 _ (by omega)).trans hq4
  have hq18 := (hr14 _ (by omega)).trans hq6
  have hq19 := (hr14 _ (by omega)).trans hq7
  have hq20 := hF2.cg hr14 (by omega)
  have hq21 := hq8.cg hr14 (by omega)
  have hq22 := hq9.cg hr14 (by omega)
  have hq23 := hq10.cg hr14 (by omega)
  have hq24 := hq11.cg hr14 (by omega)
  replace hfr := hfr.tr hr14 (by omega) (by omega)
  refine x_callV X hK hw (k := (q + 43)) (As := [.int ((s_X0_crossLine g t x).1)]) (rest := []) (k_X1_confirm hI ((q + 43)) ((d)) ((z)) ((va_up hg d g)) ((va_up ht d t)) ((s_X0_crossLine g t x).1) (by omega) (by omega) (by omega) hq20) (x_cwV yX1_confirm cX1_confirm 2 (some .int) 1 X q276 q277 q278 q8 q279 hd_X1_confirm ⟨Nat.le_of_ble_eq_true rfl, Nat.le_of_ble_eq_true rfl⟩) (by omega) hq20.1 rfl rfl hl.1 rfl (Nat.le_of_ble_eq_true rfl) dX7_line_23 ⟨Nat.le_of_ble_eq_true rfl, Nat.le_of_ble_eq_true rfl⟩ (fun r28 F25 H locs hp hw => ?_)
  obtain ⟨er29, hF26, hr27⟩ := hp
  refine x_top er29 ?_
  have hq30 := (hr27 _ (by omega)).trans hq17
  have hq31 := hF13.cg hr27 (by omega)
  have hq32 := (hr27 _ (by omega)).trans hq18
  have hq33 := (hr27 _ (by omega)).trans hq19
  have hq34 := hq21.cg hr27 (by omega)
  have hq35 := hq22.cg hr27 (by omega)
  have hq36 := hq23.cg hr27 (by omega)
  have hq37 := hq24.cg hr27 (by omega)
  replace hfr := hfr.tr hr27 (by omega) (by omega)
  exact x_iret X hr hlk hK hw (v := ((s_X0_crossLine g t x).1)) rfl (⟨rfl, ⟨hq30, hq31, hq32, hq33, hF26, hq34, ⟨_, _, _, _, hq35⟩, ⟨_, _, hq36⟩, ⟨_, _, _, _, hq37⟩⟩, hfr⟩) dX7_line_26
theorem hd_X0_passBuoy : yX0_passBuoy.cls = RX0 ∧ yX0_passBuoy.cls ≠ "java/lang/invoke/MethodHandle" ∧ yX0_passBuoy.cls ≠ "java/lang/invoke/VarHandle" ∧ (parseMethodDescriptor yX0_passBuoy.desc).map (fun d => d.parameters.length) = some 2 := by decide +kernel
set_option maxHeartbeats 4000000 in
set_option maxRecDepth 100000 in
theorem k_X7_buoy {l : Launch} {D : va_G} {cI cB cS : ClassId} {ad : Nat → Nat} {N : Nat} {F : Nat → va_E} (hI : iN ad N) (q : Nat) (hs : Int32) (g : Nat → Int32) (t : Nat → Nat → Int32) (d : Nat) (z : Nat) (hg : Nat → Nat → Int32) (ht : Nat → Nat → Nat → Int32) (g3 : Nat → Int32) (t3 : Nat → Nat → Int32) (tm1 : Nat → Int32) (pt1 : Nat → Int32) (sm1 : Nat → Int32) (tl1 : Nat → Int32) (g2 : Nat → Int32) (t2 : Nat → Nat → Int32) (tm2 : Nat → Int32) (pt2 : Nat → Int32) (sm2 : Nat → Int32) (tl2 : Nat → Int32) (x : Int32) (y : Int32) (hq : q + 114 ≤ N) (hd5 : d < 5) (hz4 : z ≤ 4) (hxMa : MaF ad F q hs) (hxF : StF ad cI F (q + 1) g t) (hxCo : CoF ad F (q + 12) (q + 1)) (hxJu : JuF ad F (q + 13) (q + 1)) (hxHi : HiF ad cI cS F (q + 43) d z hg ht) (hxF3 : StF ad cI F (q + 100) g3 t3) (hxS1 : ScF ad cI F (q + 14) (q + 1) tm1 pt1 sm1 tl1) (hxF2 : StF ad cI F (q + 23) g2 t2) (hxS2 : ScF ad cI F (q + 34) (q + 23) tm2 pt2 sm2 tl2) : Ci l D cI cB cS ad N yX7_buoy cX7_buoy 3 (some .int) 4 125 [.ref (ad q), .int x, .int y] F (fun r F' => r = ((s_X0_passBuoy g t x y).1) ∧ ClF ad cI cS F' q hs (((s_X0_passBuoy g t x y).2.1)) (((s_X0_passBuoy g t x y).2.2)) ((if ((s_X0_passBuoy g t x y).1) < 0 then ((d)) else hn ((d)))) ((if ((s_X0_passBuoy g t x y).1) < 0 then ((z)) else min (((z)) + 1) 4)) ((((va_up hg d g)))) ((((va_up ht d t)))) g3 t3 ∧ Fr F F' q (q + 111)) := by
  refine x_met (by decide +kernel) (Nat.le_of_ble_eq_true rfl) ?_
  intro p e s m below meth c X hr hlk hK hw ls hl
  replace hl : lv_has ls 3 [(0, .ref (ad q)), (1, .int x), (2, .int y)] := hl
  have hfr : Fr F F (q) (q + 111) := Fr.rf
  refine lv_aload_n X.1 X.2.1 dX7_buoy_0 rfl (lv_at hl 0 rfl) ?_
  refine x_get X hK hw (C := RX7) (T := TX7) (nf := 10) (k := q) (by omega) hxMa rfl inX7 6 (by decide) q224 (fun _ h9 => h9) rfl dX7_buoy_1 ?_
  refine lv_aload_n X.1 X.2.1 dX7_buoy_4 rfl (lv_at hl 0 rfl) ?_
  refine x_get X hK hw (C := RX7) (T := TX7) (nf := 10) (k := q) (by omega) hxMa rfl inX7 0 (by decide) q218 (fun _ h9 => h9) rfl dX7_buoy_5 ?_
  refine x_callVv X hK hw (k := (q + 43)) (As := [.ref (ad (q + 1))]) (rest := []) (k_X1_hold hI ((q + 43)) d z hg ht ((q + 1)) g t (by omega) (by omega) (by omega) hxHi (by omega) hxF (by omega)) (x_cwV yX1_hold cX1_hold 3 none 1 X q253 q254 q255 q8 q256 hd_X1_hold ⟨Nat.le_of_ble_eq_true rfl, Nat.le_of_ble_eq_true rfl⟩) (by omega) hxHi.1 rfl rfl hl.1 rfl (Nat.le_of_ble_eq_true rfl) dX7_buoy_8 ⟨Nat.le_of_ble_eq_true rfl, Nat.le_of_ble_eq_true rfl⟩ (fun F1 H locs hp hw => ?_)
  obtain ⟨hF2, hr3⟩ := hp
  have hq4 := (hr3 _ (by omega)).trans hxMa
  have hq5 := hxF.cg hr3 (by omega)
  have hq6 := (hr3 _ (by omega)).trans hxCo
  have hq7 := (hr3 _ (by omega)).trans hxJu
  have hq8 := hxF3.cg hr3 (by omega)
  have hq9 := hxS1.cg hr3 (by omega)
  have hq10 := hxF2.cg hr3 (by omega)
  have hq11 := hxS2.cg hr3 (by omega)
  replace hfr := hfr.tr hr3 (by omega) (by omega)
  refine lv_aload_n X.1 X.2.1 dX7_buoy_11 rfl (lv_at hl 0 rfl) ?_
  refine x_get X hK hw (C := RX7) (T := TX7) (nf := 10) (k := q) (by omega) hq4 rfl inX7 6 (by decide) q224 (fun _ h9 => h9) rfl dX7_buoy_12 ?_
  refine lv_aload_n X.1 X.2.1 dX7_buoy_15 rfl (lv_at hl 0 rfl) ?_
  refine x_get X hK hw (C := RX7) (T := TX7) (nf := 10) (k := q) (by omega) hq4 rfl inX7 1 (by decide) q219 (fun _ h9 => h9) rfl dX7_buoy_16 ?_
  refine lv_iload_n X.1 X.2.1 dX7_buoy_19 rfl (lv_at hl 1 rfl) ?_
  refine lv_iload_n X.1 X.2.1 dX7_buoy_20 rfl (lv_at hl 2 rfl) ?_
  refine x_callV X hK hw (k := (q + 12)) (As := [.int x, .int y]) (rest := [.ref (ad (q + 43))]) (k_X0_passBuoy hI ((q + 12)) ((q + 1)) g t x y (by omega) (by omega) hq6 (by omega) hq5) (x_cwV yX0_passBuoy cX0_passBuoy 7 (some .int) 2 X q387 q388 q389 q5 q390 hd_X0_passBuoy ⟨Nat.le_of_ble_eq_true rfl, Nat.le_of_ble_eq_true rfl⟩) (by omega) hq6 rfl rfl hl.1 rfl (Nat.le_of_ble_eq_true rfl) dX7_buoy_21 ⟨Nat.le_of_ble_eq_true rfl, Nat.le_of_ble_eq_true rfl⟩ (fun r15 F12 H locs hp hw => ?_)
  obtain ⟨er16, hF13, hr14⟩ := hp
  refine x_top er16 ?_
  have hq17 := (hr14 _ (by omega)).trans hq4
  have hq18 := (hr14 _ (by omega)).trans hq6
  have hq19 := (hr14 _ (by omega)).trans hq7
  have hq20 := hF2.cg hr14 (by omega)
  have hq21 := hq8.cg hr14 (by omega)
  have hq22 := hq9.cg hr14 (by omega)
  have hq23 := hq10.cg hr14 (by omega)
  have hq24 := hq11.cg hr14 (by omega)
  replace hfr := hfr.tr hr14 (by omega) (by omega)
  refine x_callV X hK hw (k := (q + 43)) (As := [.int ((s_X0_passBuoy g t x y).1)]) (rest := []) (k_X1_confirm hI ((q + 43)) ((d)) ((z)) ((va_up hg d g)) ((va_up ht d t)) ((s_X0_passBuoy g t x y).1) (by omega) (by omega) (by omega) hq20) (x_cwV yX1_confirm cX1_confirm 2 (some .int) 1 X q276 q277 q278 q8 q279 hd_X1_confirm ⟨Nat.le_of_ble_eq_true rfl, Nat.le_of_ble_eq_true rfl⟩) (by omega) hq20.1 rfl rfl hl.1 rfl (Nat.le_of_ble_eq_true rfl) dX7_buoy_24 ⟨Nat.le_of_ble_eq_true rfl, Nat.le_of_ble_eq_true rfl⟩ (fun r28 F25 H locs hp hw => ?_)
  obtain ⟨er29, hF26, hr27⟩ := hp
  refine x_top er29 ?_
  have hq30 := (hr27 _ (by omega)).trans hq17
  have hq31 := hF13.cg hr27 (by omega)
  have hq32 := (hr27 _ (by omega)).trans hq18
  have hq33 := (hr27 _ (by omega)).trans hq19
  have hq34 := hq21.cg hr27 (by omega)
  have hq35 := hq22.cg hr27 (by omega)
  have hq36 := hq23.cg hr27 (by omega)
  have hq37 := hq24.cg hr27 (by omega)
  replace hfr := hfr.tr hr27 (by omega) (by omega)
  exact x_iret X hr hlk hK hw (v := ((s_X0_passBuoy g t x y).1)) rfl (⟨rfl, ⟨hq30, hq31, hq32, hq33, hF26, hq34, ⟨_, _, _, _, hq35⟩, ⟨_, _, hq36⟩, ⟨_, _, _, _, hq37⟩⟩, hfr⟩) dX7_buoy_27
theorem hd_X0_retireBoat : yX0_retireBoat.cls = RX0 ∧ yX0_retireBoat.cls ≠ "java/lang/invoke/MethodHandle" ∧ yX0_retireBoat.cls ≠ "java/lang/invoke/VarHandle" ∧ (parseMethodDescriptor yX0_retireBoat.desc).map (fun d => d.parameters.length) = some 1 := by decide +kernel
set_option maxHeartbeats 4000000 in
set_option maxRecDepth 100000 in
theorem k_X7_retire {l : Launch} {D : va_G} {cI cB cS : ClassId} {ad : Nat → Nat} {N : Nat} {F : Nat → va_E} (hI : iN ad N) (q : Nat) (hs : Int32) (g : Nat → Int32) (t : Nat → Nat → Int32) (d : Nat) (z : Nat) (hg : Nat → Nat → Int32) (ht : Nat → Nat → Nat → Int32) (g3 : Nat → Int32) (t3 : Nat → Nat → Int32) (tm1 : Nat → Int32) (pt1 : Nat → Int32) (sm1 : Nat → Int32) (tl1 : Nat → Int32) (g2 : Nat → Int32) (t2 : Nat → Nat → Int32) (tm2 : Nat → Int32) (pt2 : Nat → Int32) (sm2 : Nat → Int32) (tl2 : Nat → Int32) (x : Int32) (hq : q + 114 ≤ N) (hd5 : d < 5) (hz4 : z ≤ 4) (hxMa : MaF ad F q hs) (hxF : StF ad cI F (q + 1) g t) (hxCo : CoF ad F (q + 12) (q + 1)) (hxJu : JuF ad F (q + 13) (q + 1)) (hxHi : HiF ad cI cS F (q + 43) d z hg ht) (hxF3 : StF ad cI F (q + 100) g3 t3) (hxS1 : ScF ad cI F (q + 14) (q + 1) tm1 pt1 sm1 tl1) (hxF2 : StF ad cI F (q + 23) g2 t2) (hxS2 : ScF ad cI F (q + 34) (q + 23) tm2 pt2 sm2 tl2) : Ci l D cI cB cS ad N yX7_retire cX7_retire 2 (some .int) 4 125 [.ref (ad q), .int x] F (fun r F' => r = ((s_X0_retireBoat g t x).1) ∧ ClF ad cI cS F' q hs (((s_X0_retireBoat g t x).2.1)) (((s_X0_retireBoat g t x).2.2)) ((if ((s_X0_retireBoat g t x).1) < 0 then ((d)) else hn ((d)))) ((if ((s_X0_retireBoat g t x).1) < 0 then ((z)) else min (((z)) + 1) 4)) ((((va_up hg d g)))) ((((va_up ht d t)))) g3 t3 ∧ Fr F F' q (q + 111)) := by
  refine x_met (by decide +kernel) (Nat.le_of_ble_eq_true rfl) ?_
  intro p e s m below meth c X hr hlk hK hw ls hl
  replace hl : lv_has ls 2 [(0, .ref (ad q)), (1, .int x)] := hl
  have hfr : Fr F F (q) (q + 111) := Fr.rf
  refine lv_aload_n X.1 X.2.1 dX7_retire_0 rfl (lv_at hl 0 rfl) ?_
  refine x_get X hK hw (C := RX7) (T := TX7) (nf := 10) (k := q) (by omega) hxMa rfl inX7 6 (by decide) q224 (fun _ h9 => h9) rfl dX7_retire_1 ?_
  refine lv_aload_n X.1 X.2.1 dX7_retire_4 rfl (lv_at hl 0 rfl) ?_
  refine x_get X hK hw (C := RX7) (T := TX7) (nf := 10) (k := q) (by omega) hxMa rfl inX7 0 (by decide) q218 (fun _ h9 => h9) rfl dX7_retire_5 ?_
  refine x_callVv X hK hw (k := (q + 43)) (As := [.ref (ad (q + 1))]) (rest := []) (k_X1_hold hI ((q + 43)) d z hg ht ((q + 1)) g t (by omega) (by omega) (by omega) hxHi (by omega) hxF (by omega)) (x_cwV yX1_hold cX1_hold 3 none 1 X q253 q254 q255 q8 q256 hd_X1_hold ⟨Nat.le_of_ble_eq_true rfl, Nat.le_of_ble_eq_true rfl⟩) (by omega) hxHi.1 rfl rfl hl.1 rfl (Nat.le_of_ble_eq_true rfl) dX7_retire_8 ⟨Nat.le_of_ble_eq_true rfl, Nat.le_of_ble_eq_true rfl⟩ (fun F1 H locs hp hw => ?_)
  obtain ⟨hF2, hr3⟩ := hp
  have hq4 := (hr3 _ (by omega)).trans hxMa
  have hq5 := hxF.cg hr3 (by omega)
  have hq6 := (hr3 _ (by omega)).trans hxCo
  have hq7 := (hr3 _ (by omega)).trans hxJu
  have hq8 := hxF3.cg hr3 (by omega)
  have hq9 := hxS1.cg hr3 (by omega)
  have hq10 := hxF2.cg hr3 (by omega)
  have hq11 := hxS2.cg hr3 (by omega)
  replace hfr := hfr.tr hr3 (by omega) (by omega)
  refine lv_aload_n X.1 X.2.1 dX7_retire_11 rfl (lv_at hl 0 rfl) ?_
  refine x_get X hK hw (C := RX7) (T := TX7) (nf := 10) (k := q) (by omega) hq4 rfl inX7 6 (by decide) q224 (fun _ h9 => h9) rfl dX7_retire_12 ?_
  refine lv_aload_n X.1 X.2.1 dX7_retire_15 rfl (lv_at hl 0 rfl) ?_
  refine x_get X hK hw (C := RX7) (T := TX7) (nf := 10) (k := q) (by omega) hq4 rfl inX7 1 (by decide) q219 (fun _ h9 => h9) rfl dX7_retire_16 ?_
  refine lv_iload_n X.1 X.2.1 dX7_retire_19 rfl (lv_at hl 1 rfl) ?_
  refine x_callV X hK hw (k := (q + 12)) (As := [.int x]) (rest := [.ref (ad (q + 43))]) (k_X0_retireBoat hI ((q + 12)) ((q + 1)) g t x (by omega) (by omega) hq6 (by omega) hq5) (x_cwV yX0_retireBoat cX0_retireBoat 3 (some .int) 1 X q395 q396 q397 q5 q398 hd_X0_retireBoat ⟨Nat.le_of_ble_eq_true rfl, Nat.le_of_ble_eq_true rfl⟩) (by omega) hq6 rfl rfl hl.1 rfl (Nat.le_of_ble_eq_true rfl) dX7_retire_20 ⟨Nat.le_of_ble_eq_true rfl, Nat.le_of_ble_eq_true rfl⟩ (fun r15 F12 H locs hp hw => ?_)
  obtain ⟨er16, hF13, hr14⟩ := hp
  refine x_top er16 ?_
  have hq17 := (hr14 _ (by omega)).trans hq4
  have hq18 := (hr14 _ (by omega)).trans hq6
  have hq19 := (hr14 _ (by omega)).trans hq7
  have hq20 := hF2.cg hr14 (by omega)
  have hq21 := hq8.cg hr14 (by omega)
  have hq22 := hq9.cg hr14 (by omega)
  have hq23 := hq10.cg hr14 (by omega)
  have hq24 := hq11.cg hr14 (by omega)
  replace hfr := hfr.tr hr14 (by omega) (by omega)
  refine x_callV X hK hw (k := (q + 43)) (As := [.int ((s_X0_retireBoat g t x).1)]) (rest := []) (k_X1_confirm hI ((q + 43)) ((d)) ((z)) ((va_up hg d g)) ((va_up ht d t)) ((s_X0_retireBoat g t x).1) (by omega) (by omega) (by omega) hq20) (x_cwV yX1_confirm cX1_confirm 2 (some .int) 1 X q276 q277 q278 q8 q279 hd_X1_confirm ⟨Nat.le_of_ble_eq_true rfl, Nat.le_of_ble_eq_true rfl⟩) (by omega) hq20.1 rfl rfl hl.1 rfl (Nat.le_of_ble_eq_true rfl) dX7_retire_23 ⟨Nat.le_of_ble_eq_true rfl, Nat.le_of_ble_eq_true rfl⟩ (fun r28 F25 H locs hp hw => ?_)
  obtain ⟨er29, hF26, hr27⟩ := hp
  refine x_top er29 ?_
  have hq30 := (hr27 _ (by omega)).trans hq17
  have hq31 := hF13.cg hr27 (by omega)
  have hq32 := (hr27 _ (by omega)).trans hq18
  have hq33 := (hr27 _ (by omega)).trans hq19
  have hq34 := hq21.cg hr27 (by omega)
  have hq35 := hq22.cg hr27 (by omega)
  have hq36 := hq23.cg hr27 (by omega)
  have hq37 := hq24.cg hr27 (by omega)
  replace hfr := hfr.tr hr27 (by omega) (by omega)
  exact x_iret X hr hlk hK hw (v := ((s_X0_retireBoat g t x).1)) rfl (⟨rfl, ⟨hq30, hq31, hq32, hq33, hF26, hq34, ⟨_, _, _, _, hq35⟩, ⟨_, _, hq36⟩, ⟨_, _, _, _, hq37⟩⟩, hfr⟩) dX7_retire_26
theorem hd_X0_closeRace : yX0_closeRace.cls = RX0 ∧ yX0_closeRace.cls ≠ "java/lang/invoke/MethodHandle" ∧ yX0_closeRace.cls ≠ "java/lang/invoke/VarHandle" ∧ (parseMethodDescriptor yX0_closeRace.desc).map (fun d => d.parameters.length) = some 0 := by decide +kernel
set_option maxHeartbeats 4000000 in
set_option maxRecDepth 100000 in
theorem k_X7_close {l : Launch} {D : va_G} {cI cB cS : ClassId} {ad : Nat → Nat} {N : Nat} {F : Nat → va_E} (hI : iN ad N) (q : Nat) (hs : Int32) (g : Nat → Int32) (t : Nat → Nat → Int32) (d : Nat) (z : Nat) (hg : Nat → Nat → Int32) (ht : Nat → Nat → Nat → Int32) (g3 : Nat → Int32) (t3 : Nat → Nat → Int32) (tm1 : Nat → Int32) (pt1 : Nat → Int32) (sm1 : Nat → Int32) (tl1 : Nat → Int32) (g2 : Nat → Int32) (t2 : Nat → Nat → Int32) (tm2 : Nat → Int32) (pt2 : Nat → Int32) (sm2 : Nat → Int32) (tl2 : Nat → Int32) (nb : Nat) (hq : q + 114 ≤ N) (hd5 : d < 5) (hz4 : z ≤ 4) (hxMa : MaF ad F q hs) (hxF : StF ad cI F (q + 1) g t) (hxCo : CoF ad F (q + 12) (q + 1)) (hxJu : JuF ad F (q + 13) (q + 1)) (hxHi : HiF ad cI cS F (q + 43) d z hg ht) (hxF3 : StF ad cI F (q + 100) g3 t3) (hxS1 : ScF ad cI F (q + 14) (q + 1) tm1 pt1 sm1 tl1) (hxF2 : StF ad cI F (q + 23) g2 t2) (hxS2 : ScF ad cI F (q + 34) (q + 23) tm2 pt2 sm2 tl2) (hnb1 : g 1 = nI nb) (hnb2 : nb < 2 ^ 31) : Ci l D cI cB cS ad N yX7_close cX7_close 1 (some .int) 4 125 [.ref (ad q)] F (fun r F' => r = ((s_X0_closeRace g t nb).1) ∧ ClF ad cI cS F' q hs (((s_X0_closeRace g t nb).2.1)) (((s_X0_closeRace g t nb).2.2)) ((if ((s_X0_closeRace g t nb).1) < 0 then ((d)) else hn ((d)))) ((if ((s_X0_closeRace g t nb).1) < 0 then ((z)) else min (((z)) + 1) 4)) ((((va_up hg d g)))) ((((va_up ht d t)))) g3 t3 ∧ Fr F F' q (q + 111)) := by
  refine x_met (by decide +kernel) (Nat.le_of_ble_eq_true rfl) ?_
  intro p e s m below meth c X hr hlk hK hw ls hl
  replace hl : lv_has ls 1 [(0, .ref (ad q))] := hl
  have hfr : Fr F F (q) (q + 111) := Fr.rf
  refine lv_aload_n X.1 X.2.1 dX7_close_0 rfl (lv_at hl 0 rfl) ?_
  refine x_get X hK hw (C := RX7) (T := TX7) (nf := 10) (k := q) (by omega) hxMa rfl inX7 6 (by decide) q224 (fun _ h9 => h9) rfl dX7_close_1 ?_
  refine lv_aload_n X.1 X.2.1 dX7_close_4 rfl (lv_at hl 0 rfl) ?_
  refine x_get X hK hw (C := RX7) (T := TX7) (nf := 10) (k := q) (by omega) hxMa rfl inX7 0 (by decide) q218 (fun _ h9 => h9) rfl dX7_close_5 ?_
  refine x_callVv X hK hw (k := (q + 43)) (As := [.ref (ad (q + 1))]) (rest := []) (k_X1_hold hI ((q + 43)) d z hg ht ((q + 1)) g t (by omega) (by omega) (by omega) hxHi (by omega) hxF (by omega)) (x_cwV yX1_hold cX1_hold 3 none 1 X q253 q254 q255 q8 q256 hd_X1_hold ⟨Nat.le_of_ble_eq_true rfl, Nat.le_of_ble_eq_true rfl⟩) (by omega) hxHi.1 rfl rfl hl.1 rfl (Nat.le_of_ble_eq_true rfl) dX7_close_8 ⟨Nat.le_of_ble_eq_true rfl, Nat.le_of_ble_eq_true rfl⟩ (fun F1 H locs hp hw => ?_)
  obtain ⟨hF2, hr3⟩ := hp
  have hq4 := (hr3 _ (by omega)).trans hxMa
  have hq5 := hxF.cg hr3 (by omega)
  have hq6 := (hr3 _ (by omega)).trans hxCo
  have hq7 := (hr3 _ (by omega)).trans hxJu
  have hq8 := hxF3.cg hr3 (by omega)
  have hq9 := hxS1.cg hr3 (by omega)
  have hq10 := hxF2.cg hr3 (by omega)
  have hq11 := hxS2.cg hr3 (by omega)
  replace hfr := hfr.tr hr3 (by omega) (by omega)
  refine lv_aload_n X.1 X.2.1 dX7_close_11 rfl (lv_at hl 0 rfl) ?_
  refine x_get X hK hw (C := RX7) (T := TX7) (nf := 10) (k := q) (by omega) hq4 rfl inX7 6 (by decide) q224 (fun _ h9 => h9) rfl dX7_close_12 ?_
  refine lv_aload_n X.1 X.2.1 dX7_close_15 rfl (lv_at hl 0 rfl) ?_
  refine x_get X hK hw (C := RX7) (T := TX7) (nf := 10) (k := q) (by omega) hq4 rfl inX7 1 (by decide) q219 (fun _ h9 => h9) rfl dX7_close_16 ?_
  refine x_callV X hK hw (k := (q + 12)) (As := []) (rest := [.ref (ad (q + 43))]) (k_X0_closeRace hI ((q + 12)) ((q + 1)) g t nb (by omega) (by omega) hq6 (by omega) hq5 hnb1 hnb2) (x_cwV yX0_closeRace cX0_closeRace 1 (some .int) 0 X q403 q404 q405 q5 q406 hd_X0_closeRace ⟨Nat.le_of_ble_eq_true rfl, Nat.le_of_ble_eq_true rfl⟩) (by omega) hq6 rfl rfl hl.1 rfl (Nat.le_of_ble_eq_true rfl) dX7_close_19 ⟨Nat.le_of_ble_eq_true rfl, Nat.le_of_ble_eq_true rfl⟩ (fun r15 F12 H locs hp hw => ?_)
  obtain ⟨er16, hF13, hr14⟩ := hp
  refine x_top er16 ?_
  have hq17 := (hr14 _ (by omega)).trans hq4
  have hq18 := (hr14 _ (by omega)).trans hq6
  have hq19 := (hr14 _ (by omega)).trans hq7
  have hq20 := hF2.cg hr14 (by omega)
  have hq21 := hq8.cg hr14 (by omega)
  have hq22 := hq9.cg hr14 (by omega)
  have hq23 := hq10.cg hr14 (by omega)
  have hq24 := hq11.cg hr14 (by omega)
  replace hfr := hfr.tr hr14 (by omega) (by omega)
  refine x_callV X hK hw (k := (q + 43)) (As := [.int ((s_X0_closeRace g t nb).1)]) (rest := []) (k_X1_confirm hI ((q + 43)) ((d)) ((z)) ((va_up hg d g)) ((va_up ht d t)) ((s_X0_closeRace g t nb).1) (by omega) (by omega) (by omega) hq20) (x_cwV yX1_confirm cX1_confirm 2 (some .int) 1 X q276 q277 q278 q8 q279 hd_X1_confirm ⟨Nat.le_of_ble_eq_true rfl, Nat.le_of_ble_eq_true rfl⟩) (by omega) hq20.1 rfl rfl hl.1 rfl (Nat.le_of_ble_eq_true rfl) dX7_close_22 ⟨Nat.le_of_ble_eq_true rfl, Nat.le_of_ble_eq_true rfl⟩ (fun r28 F25 H locs hp hw => ?_)
  obtain ⟨er29, hF26, hr27⟩ := hp
  refine x_top er29 ?_
  have hq30 := (hr27 _ (by omega)).trans hq17
  have hq31 := hF13.cg hr27 (by omega)
  have hq32 := (hr27 _ (by omega)).trans hq18
  have hq33 := (hr27 _ (by omega)).trans hq19
  have hq34 := hq21.cg hr27 (by omega)
  have hq35 := hq22.cg hr27 (by omega)
  have hq36 := hq23.cg hr27 (by omega)
  have hq37 := hq24.cg hr27 (by omega)
  replace hfr := hfr.tr hr27 (by omega) (by omega)
  exact x_iret X hr hlk hK hw (v := ((s_X0_closeRace g t nb).1)) rfl (⟨rfl, ⟨hq30, hq31, hq32, hq33, hF26, hq34, ⟨_, _, _, _, hq35⟩, ⟨_, _, hq36⟩, ⟨_, _, _, _, hq37⟩⟩, hfr⟩) dX7_close_25
theorem hd_X2_hailProtest : yX2_hailProtest.cls = RX2 ∧ yX2_hailProtest.cls ≠ "java/lang/invoke/MethodHandle" ∧ yX2_hailProtest.cls ≠ "java/lang/invoke/VarHandle" ∧ (parseMethodDescriptor yX2_hailProtest.desc).map (fun d => d.parameters.length) = some 2 := by decide +kernel
set_option maxHeartbeats 4000000 in
set_option maxRecDepth 100000 in
theorem k_X7_hail {l : Launch} {D : va_G} {cI cB cS : ClassId} {ad : Nat → Nat} {N : Nat} {F : Nat → va_E} (hI : iN ad N) (q : Nat) (hs : Int32) (g : Nat → Int32) (t : Nat → Nat → Int32) (d : Nat) (z : Nat) (hg : Nat → Nat → Int32) (ht : Nat → Nat → Nat → Int32) (g3 : Nat → Int32) (t3 : Nat → Nat → Int32) (tm1 : Nat → Int32) (pt1 : Nat → Int32) (sm1 : Nat → Int32) (tl1 : Nat → Int32) (g2 : Nat → Int32) (t2 : Nat → Nat → Int32) (tm2 : Nat → Int32) (pt2 : Nat → Int32) (sm2 : Nat → Int32) (tl2 : Nat → Int32) (x : Int32) (y : Int32) (hq : q + 114 ≤ N) (hd5 : d < 5) (hz4 : z ≤ 4) (hxMa : MaF ad F q hs) (hxF : StF ad cI F (q + 1) g t) (hxCo : CoF ad F (q + 12) (q + 1)) (hxJu : JuF ad F (q + 13) (q + 1)) (hxHi : HiF ad cI cS F (q + 43) d z hg ht) (hxF3 : StF ad cI F (q + 100) g3 t3) (hxS1 : ScF ad cI F (q + 14) (q + 1) tm1 pt1 sm1 tl1) (hxF2 : StF ad cI F (q + 23) g2 t2) (hxS2 : ScF ad cI F (q + 34) (q + 23) tm2 pt2 sm2 tl2) : Ci l D cI cB cS ad N yX7_hail cX7_hail 3 (some .int) 4 125 [.ref (ad q), .int x, .int y] F (fun r F' => r = ((s_X2_hailProtest g t x y).1) ∧ ClF ad cI cS F' q hs (((s_X2_hailProtest g t x y).2.1)) (((s_X2_hailProtest g t x y).2.2)) ((if ((s_X2_hailProtest g t x y).1) < 0 then ((d)) else hn ((d)))) ((if ((s_X2_hailProtest g t x y).1) < 0 then ((z)) else min (((z)) + 1) 4)) ((((va_up hg d g)))) ((((va_up ht d t)))) g3 t3 ∧ Fr F F' q (q + 111)) := by
  refine x_met (by decide +kernel) (Nat.le_of_ble_eq_true rfl) ?_
  intro p e s m below meth c X hr hlk hK hw ls hl
  replace hl : lv_has ls 3 [(0, .ref (ad q)), (1, .int x), (2, .int y)] := hl
  have hfr : Fr F F (q) (q + 111) := Fr.rf
  refine lv_aload_n X.1 X.2.1 dX7_hail_0 rfl (lv_at hl 0 rfl) ?_
  refine x_get X hK hw (C := RX7) (T := TX7) (nf := 10) (k := q) (by omega) hxMa rfl inX7 6 (by decide) q224 (fun _ h9 => h9) rfl dX7_hail_1 ?_
  refine lv_aload_n X.1 X.2.1 dX7_hail_4 rfl (lv_at hl 0 rfl) ?_
  refine x_get X hK hw (C := RX7) (T := TX7) (nf := 10) (k := q) (by omega) hxMa rfl inX7 0 (by decide) q218 (fun _ h9 => h9) rfl dX7_hail_5 ?_
  refine x_callVv X hK hw (k := (q + 43)) (As := [.ref (ad (q + 1))]) (rest := []) (k_X1_hold hI ((q + 43)) d z hg ht ((q + 1)) g t (by omega) (by omega) (by omega) hxHi (by omega) hxF (by omega)) (x_cwV yX1_hold cX1_hold 3 none 1 X q253 q254 q255 q8 q256 hd_X1_hold ⟨Nat.le_of_ble_eq_true rfl, Nat.le_of_ble_eq_true rfl⟩) (by omega) hxHi.1 rfl rfl hl.1 rfl (Nat.le_of_ble_eq_true rfl) dX7_hail_8 ⟨Nat.le_of_ble_eq_true rfl, Nat.le_of_ble_eq_true rfl⟩ (fun F1 H locs hp hw => ?_)
  obtain ⟨hF2, hr3⟩ := hp
  have hq4 := (hr3 _ (by omega)).trans hxMa
  have hq5 := hxF.cg hr3 (by omega)
  have hq6 := (hr3 _ (by omega)).trans hxCo
  have hq7 := (hr3 _ (by omega)).trans hxJu
  have hq8 := hxF3.cg hr3 (by omega)
  have hq9 := hxS1.cg hr3 (by omega)
  have hq10 := hxF2.cg hr3 (by omega)
  have hq11 := hxS2.cg hr3 (by omega)
  replace hfr := hfr.tr hr3 (by omega) (by omega)
  refine lv_aload_n X.1 X.2.1 dX7_hail_11 rfl (lv_at hl 0 rfl) ?_
  refine x_get X hK hw (C := RX7) (T := TX7) (nf := 10) (k := q) (by omega) hq4 rfl inX7 6 (by decide) q224 (fun _ h9 => h9) rfl dX7_hail_12 ?_
  refine lv_aload_n X.1 X.2.1 dX7_hail_15 rfl (lv_at hl 0 rfl) ?_
  refine x_get X hK hw (C := RX7) (T := TX7) (nf := 10) (k := q) (by omega) hq4 rfl inX7 2 (by decide) q220 (fun _ h9 => h9) rfl dX7_hail_16 ?_
  refine lv_iload_n X.1 X.2.1 dX7_hail_19 rfl (lv_at hl 1 rfl) ?_
  refine lv_iload_n X.1 X.2.1 dX7_hail_20 rfl (lv_at hl 2 rfl) ?_
  refine x_callV X hK hw (k := (q + 13)) (As := [.int x, .int y]) (rest := [.ref (ad (q + 43))]) (k_X2_hailProtest hI ((q + 13)) ((q + 1)) g t x y (by omega) (by omega) hq7 (by omega) hq5) (x_cwV yX2_hailProtest cX2_hailProtest 4 (some .int) 2 X q415 q416 q417 q6 q418 hd_X2_hailProtest ⟨Nat.le_of_ble_eq_true rfl, Nat.le_of_ble_eq_true rfl⟩) (by omega) hq7 rfl rfl hl.1 rfl (Nat.le_of_ble_eq_true rfl) dX7_hail_21 ⟨Nat.le_of_ble_eq_true rfl, Nat.le_of_ble_eq_true rfl⟩ (fun r15 F12 H locs hp hw => ?_)
  obtain ⟨er16, hF13, hr14⟩ := hp
  refine x_top er16 ?_
  have hq17 := (hr14 _ (by omega)).trans hq4
  have hq18 := (hr14 _ (by omega)).trans hq6
  have hq19 := (hr14 _ (by omega)).trans hq7
  have hq20 := hF2.cg hr14 (by omega)
  have hq21 := hq8.cg hr14 (by omega)
  have hq22 := hq9.cg hr14 (by omega)
  have hq23 := hq10.cg hr14 (by omega)
  have hq24 := hq11.cg hr14 (by omega)
  replace hfr := hfr.tr hr14 (by omega) (by omega)
  refine x_callV X hK hw (k := (q + 43)) (As := [.int ((s_X2_hailProtest g t x y).1)]) (rest := []) (k_X1_confirm hI ((q + 43)) ((d)) ((z)) ((va_up hg d g)) ((va_up ht d t)) ((s_X2_hailProtest g t x y).1) (by omega) (by omega) (by omega) hq20) (x_cwV yX1_confirm cX1_confirm 2 (some .int) 1 X q276 q277 q278 q8 q279 hd_X1_confirm ⟨Nat.le_of_ble_eq_true rfl, Nat.le_of_ble_eq_true rfl⟩) (by omega) hq20.1 rfl rfl hl.1 rfl (Nat.le_of_ble_eq_true rfl) dX7_hail_24 ⟨Nat.le_of_ble_eq_true rfl, Nat.le_of_ble_eq_true rfl⟩ (fun r28 F25 H locs hp hw => ?_)
  obtain ⟨er29, hF26, hr27⟩ := hp
  refine x_top er29 ?_
  have hq30 := (hr27 _ (by omega)).trans hq17
  have hq31 := hF13.cg hr27 (by omega)
  have hq32 := (hr27 _ (by omega)).trans hq18
  have hq33 := (hr27 _ (by omega)).trans hq19
  have hq34 := hq21.cg hr27 (by omega)
  have hq35 := hq22.cg hr27 (by omega)
  have hq36 := hq23.cg hr27 (by omega)
  have hq37 := hq24.cg hr27 (by omega)
  replace hfr := hfr.tr hr27 (by omega) (by omega)
  exact x_iret X hr hlk hK hw (v := ((s_X2_hailProtest g t x y).1)) rfl (⟨rfl, ⟨hq30, hq31, hq32, hq33, hF26, hq34, ⟨_, _, _, _, hq35⟩, ⟨_, _, hq36⟩, ⟨_, _, _, _, hq37⟩⟩, hfr⟩) dX7_hail_27
theorem hd_X2_fileProtest : yX2_fileProtest.cls = RX2 ∧ yX2_fileProtest.cls ≠ "java/lang/invoke/MethodHandle" ∧ yX2_fileProtest.cls ≠ "java/lang/invoke/VarHandle" ∧ (parseMethodDescriptor yX2_fileProtest.desc).map (fun d => d.parameters.length) = some 1 := by decide +kernel
set_option maxHeartbeats 4000000 in
set_option maxRecDepth 100000 in
theorem k_X7_file {l : Launch} {D : va_G} {cI cB cS : ClassId} {ad : Nat → Nat} {N : Nat} {F : Nat → va_E} (hI : iN ad N) (q : Nat) (hs : Int32) (g : Nat → Int32) (t : Nat → Nat → Int32) (d : Nat) (z : Nat) (hg : Nat → Nat → Int32) (ht : Nat → Nat → Nat → Int32) (g3 : Nat → Int32) (t3 : Nat → Nat → Int32) (tm1 : Nat → Int32) (pt1 : Nat → Int32) (sm1 : Nat → Int32) (tl1 : Nat → Int32) (g2 : Nat → Int32) (t2 : Nat → Nat → Int32) (tm2 : Nat → Int32) (pt2 : Nat → Int32) (sm2 : Nat → Int32) (tl2 : Nat → Int32) (x : Int32) (hq : q + 114 ≤ N) (hd5 : d < 5) (hz4 : z ≤ 4) (hxMa : MaF ad F q hs) (hxF : StF ad cI F (q + 1) g t) (hxCo : CoF ad F (q + 12) (q + 1)) (hxJu : JuF ad F (q + 13) (q + 1)) (hxHi : HiF ad cI cS F (q + 43) d z hg ht) (hxF3 : StF ad cI F (q + 100) g3 t3) (hxS1 : ScF ad cI F (q + 14) (q + 1) tm1 pt1 sm1 tl1) (hxF2 : StF ad cI F (q + 23) g2 t2) (hxS2 : ScF ad cI F (q + 34) (q + 23) tm2 pt2 sm2 tl2) : Ci l D cI cB cS ad N yX7_file cX7_file 2 (some .int) 4 125 [.ref (ad q), .int x] F (fun r F' => r = ((s_X2_fileProtest g t x).1) ∧ ClF ad cI cS F' q hs (((s_X2_fileProtest g t x).2.1)) (((s_X2_fileProtest g t x).2.2)) ((if ((s_X2_fileProtest g t x).1) < 0 then ((d)) else hn ((d)))) ((if ((s_X2_fileProtest g t x).1) < 0 then ((z)) else min (((z)) + 1) 4)) ((((va_up hg d g)))) ((((va_up ht d t)))) g3 t3 ∧ Fr F F' q (q + 111)) := by
  refine x_met (by decide +kernel) (Nat.le_of_ble_eq_true rfl) ?_
  intro p e s m below meth c X hr hlk hK hw ls hl
  replace hl : lv_has ls 2 [(0, .ref (ad q)), (1, .int x)] := hl
  have hfr : Fr F F (q) (q + 111) := Fr.rf
  refine lv_aload_n X.1 X.2.1 dX7_file_0 rfl (lv_at hl 0 rfl) ?_
  refine x_get X hK hw (C := RX7) (T := TX7) (nf := 10) (k := q) (by omega) hxMa rfl inX7 6 (by decide) q224 (fun _ h9 => h9) rfl dX7_file_1 ?_
  refine lv_aload_n X.1 X.2.1 dX7_file_4 rfl (lv_at hl 0 rfl) ?_
  refine x_get X hK hw (C := RX7) (T := TX7) (nf := 10) (k := q) (by omega) hxMa rfl inX7 0 (by decide) q218 (fun _ h9 => h9) rfl dX7_file_5 ?_
  refine x_callVv X hK hw (k := (q + 43)) (As := [.ref (ad (q + 1))]) (rest := []) (k_X1_hold hI ((q + 43)) d z hg ht ((q + 1)) g t (by omega) (by omega) (by omega) hxHi (by omega) hxF (by omega)) (x_cwV yX1_hold cX1_hold 3 none 1 X q253 q254 q255 q8 q256 hd_X1_hold ⟨Nat.le_of_ble_eq_true rfl, Nat.le_of_ble_eq_true rfl⟩) (by omega) hxHi.1 rfl rfl hl.1 rfl (Nat.le_of_ble_eq_true rfl) dX7_file_8 ⟨Nat.le_of_ble_eq_true rfl, Nat.le_of_ble_eq_true rfl⟩ (fun F1 H locs hp hw => ?_)
  obtain ⟨hF2, hr3⟩ := hp
  have hq4 := (hr3 _ (by omega)).trans hxMa
  have hq5 := hxF.cg hr3 (by omega)
  have hq6 := (hr3 _ (by omega)).trans hxCo
  have hq7 := (hr3 _ (by omega)).trans hxJu
  have hq8 := hxF3.cg hr3 (by omega)
  have hq9 := hxS1.cg hr3 (by omega)
  have hq10 := hxF2.cg hr3 (by omega)
  have hq11 := hxS2.cg hr3 (by omega)
  replace hfr := hfr.tr hr3 (by omega) (by omega)
  refine lv_aload_n X.1 X.2.1 dX7_file_11 rfl (lv_at hl 0 rfl) ?_
  refine x_get X hK hw (C := RX7) (T := TX7) (nf := 10) (k := q) (by omega) hq4 rfl inX7 6 (by decide) q224 (fun _ h9 => h9) rfl dX7_file_12 ?_
  refine lv_aload_n X.1 X.2.1 dX7_file_15 rfl (lv_at hl 0 rfl) ?_
  refine x_get X hK hw (C := RX7) (T := TX7) (nf := 10) (k := q) (by omega) hq4 rfl inX7 2 (by decide) q220 (fun _ h9 => h9) rfl dX7_file_16 ?_
  refine lv_iload_n X.1 X.2.1 dX7_file_19 rfl (lv_at hl 1 rfl) ?_
  refine x_callV X hK hw (k := (q + 13)) (As := [.int x]) (rest := [.ref (ad (q + 43))]) (k_X2_fileProtest hI ((q + 13)) ((q + 1)) g t x (by omega) (by omega) hq7 (by omega) hq5) (x_cwV yX2_fileProtest cX2_fileProtest 4 (some .int) 1 X q431 q432 q433 q6 q434 hd_X2_fileProtest ⟨Nat.le_of_ble_eq_true rfl, Nat.le_of_ble_eq_true rfl⟩) (by omega) hq7 rfl rfl hl.1 rfl (Nat.le_of_ble_eq_true rfl) dX7_file_20 ⟨Nat.le_of_ble_eq_true rfl, Nat.le_of_ble_eq_true rfl⟩ (fun r15 F12 H locs hp hw => ?_)
  obtain ⟨er16, hF13, hr14⟩ := hp
  refine x_top er16 ?_
  have hq17 := (hr14 _ (by omega)).trans hq4
  have hq18 := (hr14 _ (by omega)).trans hq6
  have hq19 := (hr14 _ (by omega)).trans hq7
  have hq20 := hF2.cg hr14 (by omega)
  have hq21 := hq8.cg hr14 (by omega)
  have hq22 := hq9.cg hr14 (by omega)
  have hq23 := hq10.cg hr14 (by omega)
  have hq24 := hq11.cg hr14 (by omega)
  replace hfr := hfr.tr hr14 (by omega) (by omega)
  refine x_callV X hK hw (k := (q + 43)) (As := [.int ((s_X2_fileProtest g t x).1)]) (rest := []) (k_X1_confirm hI ((q + 43)) ((d)) ((z)) ((va_up hg d g)) ((va_up ht d t)) ((s_X2_fileProtest g t x).1) (by omega) (by omega) (by omega) hq20) (x_cwV yX1_confirm cX1_confirm 2 (some .int) 1 X q276 q277 q278 q8 q279 hd_X1_confirm ⟨Nat.le_of_ble_eq_true rfl, Nat.le_of_ble_eq_true rfl⟩) (by omega) hq20.1 rfl rfl hl.1 rfl (Nat.le_of_ble_eq_true rfl) dX7_file_23 ⟨Nat.le_of_ble_eq_true rfl, Nat.le_of_ble_eq_true rfl⟩ (fun r28 F25 H locs hp hw => ?_)
  obtain ⟨er29, hF26, hr27⟩ := hp
  refine x_top er29 ?_
  have hq30 := (hr27 _ (by omega)).trans hq17
  have hq31 := hF13.cg hr27 (by omega)
  have hq32 := (hr27 _ (by omega)).trans hq18
  have hq33 := (hr27 _ (by omega)).trans hq19
  have hq34 := hq21.cg hr27 (by omega)
  have hq35 := hq22.cg hr27 (by omega)
  have hq36 := hq23.cg hr27 (by omega)
  have hq37 := hq24.cg hr27 (by omega)
  replace hfr := hfr.tr hr27 (by omega) (by omega)
  exact x_iret X hr hlk hK hw (v := ((s_X2_fileProtest g t x).1)) rfl (⟨rfl, ⟨hq30, hq31, hq32, hq33, hF26, hq34, ⟨_, _, _, _, hq35⟩, ⟨_, _, hq36⟩, ⟨_, _, _, _, hq37⟩⟩, hfr⟩) dX7_file_26
theorem hd_X2_acceptProtest : yX2_acceptProtest.cls = RX2 ∧ yX2_acceptProtest.cls ≠ "java/lang/invoke/MethodHandle" ∧ yX2_acceptProtest.cls ≠ "java/lang/invoke/VarHandle" ∧ (parseMethodDescriptor yX2_acceptProtest.desc).map (fun d => d.parameters.length) = some 1 := by decide +kernel
set_option maxHeartbeats 4000000 in
set_option maxRecDepth 100000 in
theorem k_X7_accept {l : Launch} {D : va_G} {cI cB cS : ClassId} {ad : Nat → Nat} {N : Nat} {F : Nat → va_E} (hI : iN ad N) (q : Nat) (hs : Int32) (g : Nat → Int32) (t : Nat → Nat → Int32) (d : Nat) (z : Nat) (hg : Nat → Nat → Int32) (ht : Nat → Nat → Nat → Int32) (g3 : Nat → Int32) (t3 : Nat → Nat → Int32) (tm1 : Nat → Int32) (pt1 : Nat → Int32) (sm1 : Nat → Int32) (tl1 : Nat → Int32) (g2 : Nat → Int32) (t2 : Nat → Nat → Int32) (tm2 : Nat → Int32) (pt2 : Nat → Int32) (sm2 : Nat → Int32) (tl2 : Nat → Int32) (x : Int32) (hq : q + 114 ≤ N) (hd5 : d < 5) (hz4 : z ≤ 4) (hxMa : MaF ad F q hs) (hxF : StF ad cI F (q + 1) g t) (hxCo : CoF ad F (q + 12) (q + 1)) (hxJu : JuF ad F (q + 13) (q + 1)) (hxHi : HiF ad cI cS F (q + 43) d z hg ht) (hxF3 : StF ad cI F (q + 100) g3 t3) (hxS1 : ScF ad cI F (q + 14) (q + 1) tm1 pt1 sm1 tl1) (hxF2 : StF ad cI F (q + 23) g2 t2) (hxS2 : ScF ad cI F (q + 34) (q + 23) tm2 pt2 sm2 tl2) : Ci l D cI cB cS ad N yX7_accept cX7_accept 2 (some .int) 4 125 [.ref (ad q), .int x] F (fun r F' => r = ((s_X2_acceptProtest g t x).1) ∧ ClF ad cI cS F' q hs (((s_X2_acceptProtest g t x).2.1)) (((s_X2_acceptProtest g t x).2.2)) ((if ((s_X2_acceptProtest g t x).1) < 0 then ((d)) else hn ((d)))) ((if ((s_X2_acceptProtest g t x).1) < 0 then ((z)) else min (((z)) + 1) 4)) ((((va_up hg d g)))) ((((va_up ht d t)))) g3 t3 ∧ Fr F F' q (q + 111)) := by
  refine x_met (by decide +kernel) (Nat.le_of_ble_eq_true rfl) ?_
  intro p e s m below meth c X hr hlk hK hw ls hl
  replace hl : lv_has ls 2 [(0, .ref (ad q)), (1, .int x)] := hl
  have hfr : Fr F F (q) (q + 111) := Fr.rf
  refine lv_aload_n X.1 X.2.1 dX7_accept_0 rfl (lv_at hl 0 rfl) ?_
  refine x_get X hK hw (C := RX7) (T := TX7) (nf := 10) (k := q) (by omega) hxMa rfl inX7 6 (by decide) q224 (fun _ h9 => h9) rfl dX7_accept_1 ?_
  refine lv_aload_n X.1 X.2.1 dX7_accept_4 rfl (lv_at hl 0 rfl) ?_
  refine x_get X hK hw (C := RX7) (T := TX7) (nf := 10) (k := q) (by omega) hxMa rfl inX7 0 (by decide) q218 (fun _ h9 => h9) rfl dX7_accept_5 ?_
  refine x_callVv X hK hw (k := (q + 43)) (As := [.ref (ad (q + 1))]) (rest := []) (k_X1_hold hI ((q + 43)) d z hg ht ((q + 1)) g t (by omega) (by omega) (by omega) hxHi (by omega) hxF (by omega)) (x_cwV yX1_hold cX1_hold 3 none 1 X q253 q254 q255 q8 q256 hd_X1_hold ⟨Nat.le_of_ble_eq_true rfl, Nat.le_of_ble_eq_true rfl⟩) (by omega) hxHi.1 rfl rfl hl.1 rfl (Nat.le_of_ble_eq_true rfl) dX7_accept_8 ⟨Nat.le_of_ble_eq_true rfl, Nat.le_of_ble_eq_true rfl⟩ (fun F1 H locs hp hw => ?_)
  obtain ⟨hF2, hr3⟩ := hp
  have hq4 := (hr3 _ (by omega)).trans hxMa
  have hq5 := hxF.cg hr3 (by omega)
  have hq6 := (hr3 _ (by omega)).trans hxCo
  have hq7 := (hr3 _ (by omega)).trans hxJu
  have hq8 := hxF3.cg hr3 (by omega)
  have hq9 := hxS1.cg hr3 (by omega)
  have hq10 := hxF2.cg hr3 (by omega)
  have hq11 := hxS2.cg hr3 (by omega)
  replace hfr := hfr.tr hr3 (by omega) (by omega)
  refine lv_aload_n X.1 X.2.1 dX7_accept_11 rfl (lv_at hl 0 rfl) ?_
  refine x_get X hK hw (C := RX7) (T := TX7) (nf := 10) (k := q) (by omega) hq4 rfl inX7 6 (by decide) q224 (fun _ h9 => h9) rfl dX7_accept_12 ?_
  refine lv_aload_n X.1 X.2.1 dX7_accept_15 rfl (lv_at hl 0 rfl) ?_
  refine x_get X hK hw (C := RX7) (T := TX7) (nf := 10) (k := q) (by omega) hq4 rfl inX7 2 (by decide) q220 (fun _ h9 => h9) rfl dX7_accept_16 ?_
  refine lv_iload_n X.1 X.2.1 dX7_accept_19 rfl (lv_at hl 1 rfl) ?_
  refine x_callV X hK hw (k := (q + 13)) (As := [.int x]) (rest := [.ref (ad (q + 43))]) (k_X2_acceptProtest hI ((q + 13)) ((q + 1)) g t x (by omega) (by omega) hq7 (by omega) hq5) (x_cwV yX2_acceptProtest cX2_acceptProtest 5 (some .int) 1 X q448 q449 q450 q6 q451 hd_X2_acceptProtest ⟨Nat.le_of_ble_eq_true rfl, Nat.le_of_ble_eq_true rfl⟩) (by omega) hq7 rfl rfl hl.1 rfl (Nat.le_of_ble_eq_true rfl) dX7_accept_20 ⟨Nat.le_of_ble_eq_true rfl, Nat.le_of_ble_eq_true rfl⟩ (fun r15 F12 H locs hp hw => ?_)
  obtain ⟨er16, hF13, hr14⟩ := hp
  refine x_top er16 ?_
  have hq17 := (hr14 _ (by omega)).trans hq4
  have hq18 := (hr14 _ (by omega)).trans hq6
  have hq19 := (hr14 _ (by omega)).trans hq7
  have hq20 := hF2.cg hr14 (by omega)
  have hq21 := hq8.cg hr14 (by omega)
  have hq22 := hq9.cg hr14 (by omega)
  have hq23 := hq10.cg hr14 (by omega)
  have hq24 := hq11.cg hr14 (by omega)
  replace hfr := hfr.tr hr14 (by omega) (by omega)
  refine x_callV X hK hw (k := (q + 43)) (As := [.int ((s_X2_acceptProtest g t x).1)]) (rest := []) (k_X1_confirm hI ((q + 43)) ((d)) ((z)) ((va_up hg d g)) ((va_up ht d t)) ((s_X2_acceptProtest g t x).1) (by omega) (by omega) (by omega) hq20) (x_cwV yX1_confirm cX1_confirm 2 (some .int) 1 X q276 q277 q278 q8 q279 hd_X1_confirm ⟨Nat.le_of_ble_eq_true rfl, Nat.le_of_ble_eq_true rfl⟩) (by omega) hq20.1 rfl rfl hl.1 rfl (Nat.le_of_ble_eq_true rfl) dX7_accept_23 ⟨Nat.le_of_ble_eq_true rfl, Nat.le_of_ble_eq_true rfl⟩ (fun r28 F25 H locs hp hw => ?_)
  obtain ⟨er29, hF26, hr27⟩ := hp
  refine x_top er29 ?_
  have hq30 := (hr27 _ (by omega)).trans hq17
  have hq31 := hF13.cg hr27 (by omega)
  have hq32 := (hr27 _ (by omega)).trans hq18
  have hq33 := (hr27 _ (by omega)).trans hq19
  have hq34 := hq21.cg hr27 (by omega)
  have hq35 := hq22.cg hr27 (by omega)
  have hq36 := hq23.cg hr27 (by omega)
  have hq37 := hq24.cg hr27 (by omega)
  replace hfr := hfr.tr hr27 (by omega) (by omega)
  exact x_iret X hr hlk hK hw (v := ((s_X2_acceptProtest g t x).1)) rfl (⟨rfl, ⟨hq30, hq31, hq32, hq33, hF26, hq34, ⟨_, _, _, _, hq35⟩, ⟨_, _, hq36⟩, ⟨_, _, _, _, hq37⟩⟩, hfr⟩) dX7_accept_26
theorem hd_X2_decideProtest : yX2_decideProtest.cls = RX2 ∧ yX2_decideProtest.cls ≠ "java/lang/invoke/MethodHandle" ∧ yX2_decideProtest.cls ≠ "java/lang/invoke/VarHandle" ∧ (parseMethodDescriptor yX2_decideProtest.desc).map (fun d => d.parameters.length) = some 2 := by decide +kernel
set_option maxHeartbeats 4000000 in
set_option maxRecDepth 100000 in
theorem k_X7_decide {l : Launch} {D : va_G} {cI cB cS : ClassId} {ad : Nat → Nat} {N : Nat} {F : Nat → va_E} (hI : iN ad N) (q : Nat) (hs : Int32) (g : Nat → Int32) (t : Nat → Nat → Int32) (d : Nat) (z : Nat) (hg : Nat → Nat → Int32) (ht : Nat → Nat → Nat → Int32) (g3 : Nat → Int32) (t3 : Nat → Nat → Int32) (tm1 : Nat → Int32) (pt1 : Nat → Int32) (sm1 : Nat → Int32) (tl1 : Nat → Int32) (g2 : Nat → Int32) (t2 : Nat → Nat → Int32) (tm2 : Nat → Int32) (pt2 : Nat → Int32) (sm2 : Nat → Int32) (tl2 : Nat → Int32) (x : Int32) (y : Int32) (nb : Nat) (hq : q + 114 ≤ N) (hd5 : d < 5) (hz4 : z ≤ 4) (hxMa : MaF ad F q hs) (hxF : StF ad cI F (q + 1) g t) (hxCo : CoF ad F (q + 12) (q + 1)) (hxJu : JuF ad F (q + 13) (q + 1)) (hxHi : HiF ad cI cS F (q + 43) d z hg ht) (hxF3 : StF ad cI F (q + 100) g3 t3) (hxS1 : ScF ad cI F (q + 14) (q + 1) tm1 pt1 sm1 tl1) (hxF2 : StF ad cI F (q + 23) g2 t2) (hxS2 : ScF ad cI F (q + 34) (q + 23) tm2 pt2 sm2 tl2) (hnb1 : g 1 = nI nb) (hnb2 : nb < 2 ^ 31) : Ci l D cI cB cS ad N yX7_decide cX7_decide 3 (some .int) 4 125 [.ref (ad q), .int x, .int y] F (fun r F' => r = ((s_X2_decideProtest g t x y nb).1) ∧ ClF ad cI cS F' q hs (((s_X2_decideProtest g t x y nb).2.1)) (((s_X2_decideProtest g t x y nb).2.2)) ((if ((s_X2_decideProtest g t x y nb).1) < 0 then ((d)) else hn ((d)))) ((if ((s_X2_decideProtest g t x y nb).1) < 0 then ((z)) else min (((z)) + 1) 4)) ((((va_up hg d g)))) ((((va_up ht d t)))) g3 t3 ∧ Fr F F' q (q + 111)) := by
  refine x_met (by decide +kernel) (Nat.le_of_ble_eq_true rfl) ?_
  intro p e s m below meth c X hr hlk hK hw ls hl
  replace hl : lv_has ls 3 [(0, .ref (ad q)), (1, .int x), (2, .int y)] := hl
  have hfr : Fr F F (q) (q + 111) := Fr.rf
  refine lv_aload_n X.1 X.2.1 dX7_decide_0 rfl (lv_at hl 0 rfl) ?_
  refine x_get X hK hw (C := RX7) (T := TX7) (nf := 10) (k := q) (by omega) hxMa rfl inX7 6 (by decide) q224 (fun _ h9 => h9) rfl dX7_decide_1 ?_
  refine lv_aload_n X.1 X.2.1 dX7_decide_4 rfl (lv_at hl 0 rfl) ?_
  refine x_get X hK hw (C := RX7) (T := TX7) (nf := 10) (k := q) (by omega) hxMa rfl inX7 0 (by decide) q218 (fun _ h9 => h9) rfl dX7_decide_5 ?_
  refine x_callVv X hK hw (k := (q + 43)) (As := [.ref (ad (q + 1))]) (rest := []) (k_X1_hold hI ((q + 43)) d z hg ht ((q + 1)) g t (by omega) (by omega) (by omega) hxHi (by omega) hxF (by omega)) (x_cwV yX1_hold cX1_hold 3 none 1 X q253 q254 q255 q8 q256 hd_X1_hold ⟨Nat.le_of_ble_eq_true rfl, Nat.le_of_ble_eq_true rfl⟩) (by omega) hxHi.1 rfl rfl hl.1 rfl (Nat.le_of_ble_eq_true rfl) dX7_decide_8 ⟨Nat.le_of_ble_eq_true rfl, Nat.le_of_ble_eq_true rfl⟩ (fun F1 H locs hp hw => ?_)
  obtain ⟨hF2, hr3⟩ := hp
  have hq4 := (hr3 _ (by omega)).trans hxMa
  have hq5 := hxF.cg hr3 (by omega)
  have hq6 := (hr3 _ (by omega)).trans hxCo
  have hq7 := (hr3 _ (by omega)).trans hxJu
  have hq8 := hxF3.cg hr3 (by omega)
  have hq9 := hxS1.cg hr3 (by omega)
  have hq10 := hxF2.cg hr3 (by omega)
  have hq11 := hxS2.cg hr3 (by omega)
  replace hfr := hfr.tr hr3 (by omega) (by omega)
  refine lv_aload_n X.1 X.2.1 dX7_decide_11 rfl (lv_at hl 0 rfl) ?_
  refine x_get X hK hw (C := RX7) (T := TX7) (nf := 10) (k := q) (by omega) hq4 rfl inX7 6 (by decide) q224 (fun _ h9 => h9) rfl dX7_decide_12 ?_
  refine lv_aload_n X.1 X.2.1 dX7_decide_15 rfl (lv_at hl 0 rfl) ?_
  refine x_get X hK hw (C := RX7) (T := TX7) (nf := 10) (k := q) (by omega) hq4 rfl inX7 2 (by decide) q220 (fun _ h9 => h9) rfl dX7_decide_16 ?_
  refine lv_iload_n X.1 X.2.1 dX7_decide_19 rfl (lv_at hl 1 rfl) ?_
  refine lv_iload_n X.1 X.2.1 dX7_decide_20 rfl (lv_at hl 2 rfl) ?_
  refine x_callV X hK hw (k := (q + 13)) (As := [.int x, .int y]) (rest := [.ref (ad (q + 43))]) (k_X2_decideProtest hI ((q + 13)) ((q + 1)) g t x y nb (by omega) (by omega) hq7 (by omega) hq5 hnb1 hnb2) (x_cwV yX2_decideProtest cX2_decideProtest 3 (some .int) 2 X q457 q458 q459 q6 q460 hd_X2_decideProtest ⟨Nat.le_of_ble_eq_true rfl, Nat.le_of_ble_eq_true rfl⟩) (by omega) hq7 rfl rfl hl.1 rfl (Nat.le_of_ble_eq_true rfl) dX7_decide_21 ⟨Nat.le_of_ble_eq_true rfl, Nat.le_of_ble_eq_true rfl⟩ (fun r15 F12 H locs hp hw => ?_)
  obtain ⟨er16, hF13, hr14⟩ := hp
  refine x_top er16 ?_
  have hq17 := (hr14 _ (by omega)).trans hq4
  have hq18 := (hr14 _ (by omega)).trans hq6
  have hq19 := (hr14 _ (by omega)).trans hq7
  have hq20 := hF2.cg hr14 (by omega)
  have hq21 := hq8.cg hr14 (by omega)
  have hq22 := hq9.cg hr14 (by omega)
  have hq23 := hq10.cg hr14 (by omega)
  have hq24 := hq11.cg hr14 (by omega)
  replace hfr := hfr.tr hr14 (by omega) (by omega)
  refine x_callV X hK hw (k := (q + 43)) (As := [.int ((s_X2_decideProtest g t x y nb).1)]) (rest := []) (k_X1_confirm hI ((q + 43)) ((d)) ((z)) ((va_up hg d g)) ((va_up ht d t)) ((s_X2_decideProtest g t x y nb).1) (by omega) (by omega) (by omega) hq20) (x_cwV yX1_confirm cX1_confirm 2 (some .int) 1 X q276 q277 q278 q8 q279 hd_X1_confirm ⟨Nat.le_of_ble_eq_true rfl, Nat.le_of_ble_eq_true rfl⟩) (by omega) hq20.1 rfl rfl hl.1 rfl (Nat.le_of_ble_eq_true rfl) dX7_decide_24 ⟨Nat.le_of_ble_eq_true rfl, Nat.le_of_ble_eq_true rfl⟩ (fun r28 F25 H locs hp hw => ?_)
  obtain ⟨er29, hF26, hr27⟩ := hp
  refine x_top er29 ?_
  have hq30 := (hr27 _ (by omega)).trans hq17
  have hq31 := hF13.cg hr27 (by omega)
  have hq32 := (hr27 _ (by omega)).trans hq18
  have hq33 := (hr27 _ (by omega)).trans hq19
  have hq34 := hq21.cg hr27 (by omega)
  have hq35 := hq22.cg hr27 (by omega)
  have hq36 := hq23.cg hr27 (by omega)
  have hq37 := hq24.cg hr27 (by omega)
  replace hfr := hfr.tr hr27 (by omega) (by omega)
  exact x_iret X hr hlk hK hw (v := ((s_X2_decideProtest g t x y nb).1)) rfl (⟨rfl, ⟨hq30, hq31, hq32, hq33, hF26, hq34, ⟨_, _, _, _, hq35⟩, ⟨_, _, hq36⟩, ⟨_, _, _, _, hq37⟩⟩, hfr⟩) dX7_decide_27
theorem hd_X0_changeSetting : yX0_changeSetting.cls = RX0 ∧ yX0_changeSetting.cls ≠ "java/lang/invoke/MethodHandle" ∧ yX0_changeSetting.cls ≠ "java/lang/invoke/VarHandle" ∧ (parseMethodDescriptor yX0_changeSetting.desc).map (fun d => d.parameters.length) = some 2 := by decide +kernel
set_option maxHeartbeats 4000000 in
set_option maxRecDepth 100000 in
theorem k_X7_set {l : Launch} {D : va_G} {cI cB cS : ClassId} {ad : Nat → Nat} {N : Nat} {F : Nat → va_E} (hI : iN ad N) (q : Nat) (hs : Int32) (g : Nat → Int32) (t : Nat → Nat → Int32) (d : Nat) (z : Nat) (hg : Nat → Nat → Int32) (ht : Nat → Nat → Nat → Int32) (g3 : Nat → Int32) (t3 : Nat → Nat → Int32) (tm1 : Nat → Int32) (pt1 : Nat → Int32) (sm1 : Nat → Int32) (tl1 : Nat → Int32) (g2 : Nat → Int32) (t2 : Nat → Nat → Int32) (tm2 : Nat → Int32) (pt2 : Nat → Int32) (sm2 : Nat → Int32) (tl2 : Nat → Int32) (x : Int32) (y : Int32) (hq : q + 114 ≤ N) (hd5 : d < 5) (hz4 : z ≤ 4) (hxMa : MaF ad F q hs) (hxF : StF ad cI F (q + 1) g t) (hxCo : CoF ad F (q + 12) (q + 1)) (hxJu : JuF ad F (q + 13) (q + 1)) (hxHi : HiF ad cI cS F (q + 43) d z hg ht) (hxF3 : StF ad cI F (q + 100) g3 t3) (hxS1 : ScF ad cI F (q + 14) (q + 1) tm1 pt1 sm1 tl1) (hxF2 : StF ad cI F (q + 23) g2 t2) (hxS2 : ScF ad cI F (q + 34) (q + 23) tm2 pt2 sm2 tl2) : Ci l D cI cB cS ad N yX7_set cX7_set 3 (some .int) 4 125 [.ref (ad q), .int x, .int y] F (fun r F' => r = ((s_X0_changeSetting g t x y).1) ∧ ClF ad cI cS F' q hs (((s_X0_changeSetting g t x y).2.1)) (((s_X0_changeSetting g t x y).2.2)) ((if ((s_X0_changeSetting g t x y).1) < 0 then ((d)) else hn ((d)))) ((if ((s_X0_changeSetting g t x y).1) < 0 then ((z)) else min (((z)) + 1) 4)) ((((va_up hg d g)))) ((((va_up ht d t)))) g3 t3 ∧ Fr F F' q (q + 111)) := by
  refine x_met (by decide +kernel) (Nat.le_of_ble_eq_true rfl) ?_
  intro p e s m below meth c X hr hlk hK hw ls hl
  replace hl : lv_has ls 3 [(0, .ref (ad q)), (1, .int x), (2, .int y)] := hl
  have hfr : Fr F F (q) (q + 111) := Fr.rf
  refine lv_aload_n X.1 X.2.1 dX7_set_0 rfl (lv_at hl 0 rfl) ?_
  refine x_get X hK hw (C := RX7) (T := TX7) (nf := 10) (k := q) (by omega) hxMa rfl inX7 6 (by decide) q224 (fun _ h9 => h9) rfl dX7_set_1 ?_
  refine lv_aload_n X.1 X.2.1 dX7_set_4 rfl (lv_at hl 0 rfl) ?_
  refine x_get X hK hw (C := RX7) (T := TX7) (nf := 10) (k := q) (by omega) hxMa rfl inX7 0 (by decide) q218 (fun _ h9 => h9) rfl dX7_set_5 ?_
  refine x_callVv X hK hw (k := (q + 43)) (As := [.ref (ad (q + 1))]) (rest := []) (k_X1_hold hI ((q + 43)) d z hg ht ((q + 1)) g t (by omega) (by omega) (by omega) hxHi (by omega) hxF (by omega)) (x_cwV yX1_hold cX1_hold 3 none 1 X q253 q254 q255 q8 q256 hd_X1_hold ⟨Nat.le_of_ble_eq_true rfl, Nat.le_of_ble_eq_true rfl⟩) (by omega) hxHi.1 rfl rfl hl.1 rfl (Nat.le_of_ble_eq_true rfl) dX7_set_8 ⟨Nat.le_of_ble_eq_true rfl, Nat.le_of_ble_eq_true rfl⟩ (fun F1 H locs hp hw => ?_)
  obtain ⟨hF2, hr3⟩ := hp
  have hq4 := (hr3 _ (by omega)).trans hxMa
  have hq5 := hxF.cg hr3 (by omega)
  have hq6 := (hr3 _ (by omega)).trans hxCo
  have hq7 := (hr3 _ (by omega)).trans hxJu
  have hq8 := hxF3.cg hr3 (by omega)
  have hq9 := hxS1.cg hr3 (by omega)
  have hq10 := hxF2.cg hr3 (by omega)
  have hq11 := hxS2.cg hr3 (by omega)
  replace hfr := hfr.tr hr3 (by omega) (by omega)
  refine lv_aload_n X.1 X.2.1 dX7_set_11 rfl (lv_at hl 0 rfl) ?_
  refine x_get X hK hw (C := RX7) (T := TX7) (nf := 10) (k := q) (by omega) hq4 rfl inX7 6 (by decide) q224 (fun _ h9 => h9) rfl dX7_set_12 ?_
  refine lv_aload_n X.1 X.2.1 dX7_set_15 rfl (lv_at hl 0 rfl) ?_
  refine x_get X hK hw (C := RX7) (T := TX7) (nf := 10) (k := q) (by omega) hq4 rfl inX7 1 (by decide) q219 (fun _ h9 => h9) rfl dX7_set_16 ?_
  refine lv_iload_n X.1 X.2.1 dX7_set_19 rfl (lv_at hl 1 rfl) ?_
  refine lv_iload_n X.1 X.2.1 dX7_set_20 rfl (lv_at hl 2 rfl) ?_
  refine x_callV X hK hw (k := (q + 12)) (As := [.int x, .int y]) (rest := [.ref (ad (q + 43))]) (k_X0_changeSetting hI ((q + 12)) ((q + 1)) g t x y (by omega) (by omega) hq6 (by omega) hq5) (x_cwV yX0_changeSetting cX0_changeSetting 4 (some .int) 2 X q467 q468 q469 q5 q470 hd_X0_changeSetting ⟨Nat.le_of_ble_eq_true rfl, Nat.le_of_ble_eq_true rfl⟩) (by omega) hq6 rfl rfl hl.1 rfl (Nat.le_of_ble_eq_true rfl) dX7_set_21 ⟨Nat.le_of_ble_eq_true rfl, Nat.le_of_ble_eq_true rfl⟩ (fun r15 F12 H locs hp hw => ?_)
  obtain ⟨er16, hF13, hr14⟩ := hp
  refine x_top er16 ?_
  have hq17 := (hr14 _ (by omega)).trans hq4
  have hq18 := (hr14 _ (by omega)).trans hq6
  have hq19 := (hr14 _ (by omega)).trans hq7
  have hq20 := hF2.cg hr14 (by omega)
  have hq21 := hq8.cg hr14 (by omega)
  have hq22 := hq9.cg hr14 (by omega)
  have hq23 := hq10.cg hr14 (by omega)
  have hq24 := hq11.cg hr14 (by omega)
  replace hfr := hfr.tr hr14 (by omega) (by omega)
  refine x_callV X hK hw (k := (q + 43)) (As := [.int ((s_X0_changeSetting g t x y).1)]) (rest := []) (k_X1_confirm hI ((q + 43)) ((d)) ((z)) ((va_up hg d g)) ((va_up ht d t)) ((s_X0_changeSetting g t x y).1) (by omega) (by omega) (by omega) hq20) (x_cwV yX1_confirm cX1_confirm 2 (some .int) 1 X q276 q277 q278 q8 q279 hd_X1_confirm ⟨Nat.le_of_ble_eq_true rfl, Nat.le_of_ble_eq_true rfl⟩) (by omega) hq20.1 rfl rfl hl.1 rfl (Nat.le_of_ble_eq_true rfl) dX7_set_24 ⟨Nat.le_of_ble_eq_true rfl, Nat.le_of_ble_eq_true rfl⟩ (fun r28 F25 H locs hp hw => ?_)
  obtain ⟨er29, hF26, hr27⟩ := hp
  refine x_top er29 ?_
  have hq30 := (hr27 _ (by omega)).trans hq17
  have hq31 := hF13.cg hr27 (by omega)
  have hq32 := (hr27 _ (by omega)).trans hq18
  have hq33 := (hr27 _ (by omega)).trans hq19
  have hq34 := hq21.cg hr27 (by omega)
  have hq35 := hq22.cg hr27 (by omega)
  have hq36 := hq23.cg hr27 (by omega)
  have hq37 := hq24.cg hr27 (by omega)
  replace hfr := hfr.tr hr27 (by omega) (by omega)
  exact x_iret X hr hlk hK hw (v := ((s_X0_changeSetting g t x y).1)) rfl (⟨rfl, ⟨hq30, hq31, hq32, hq33, hF26, hq34, ⟨_, _, _, _, hq35⟩, ⟨_, _, hq36⟩, ⟨_, _, _, _, hq37⟩⟩, hfr⟩) dX7_set_27
