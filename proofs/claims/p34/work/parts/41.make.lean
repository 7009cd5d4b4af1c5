theorem lt5 {P : Nat → Prop} (h0 : P 0) (h1 : P 1) (h2 : P 2) (h3 : P 3) (h4 : P 4) : ∀ j, j < 5 → P j := fun j hj => by
  rcases (show j = 0 ∨ j = 1 ∨ j = 2 ∨ j = 3 ∨ j = 4 by omega) with rfl | rfl | rfl | rfl | rfl <;> assumption
theorem max0 {n : Nat} (h : n < 2 ^ 31) : (if nI 0 < nI n then nI n else nI 0) = nI n := by
  split
  · rfl
  · rename_i q
    rcases Nat.eq_zero_or_pos n with h0 | h0
    · rw [h0]
    · exact absurd (nI_lt (by omega) h) q
set_option maxHeartbeats 8000000 in
set_option maxRecDepth 100000 in
theorem k_X6_init {l : Launch} {D : va_G} {cI cB cS : ClassId} {ad : Nat → Nat} {F : Nat → va_E} (hA : hAd ad) (q : Nat) (rr : Nat) (cc : Nat) (hthis : F q = .inr (7, [.int (nI 0), .null])) (hrc : rr * cc < 2 ^ 20) : Cc l D cI cB cS ad (q + 1) 1 yX6_init cX6_init 3 1 60 (0 + rr * cc) [.ref (ad q), .int (nI rr), .int (nI cc)] F (fun F' => TbF ad cI F' q cc (rr * cc) (fun _ => 0) ∧ Fr F F' q (q + 2)) := by
  have hI : ∀ {N : Nat}, iN ad N := hA.iN
  refine x_metc (by decide +kernel) (Nat.le_of_ble_eq_true rfl) (by decide +kernel) ?_
  intro p e s m below meth c X hr hlk hin hAO hs hK hw ls hl
  replace hl : lv_has ls 3 [(0, .ref (ad q)), (1, .int (nI rr)), (2, .int (nI cc))] := hl
  have hfr : Fr F F q (q + 2) := Fr.rf
  refine lv_aload_n X.1 X.2.1 dX6_init_0 rfl (lv_at hl 0 rfl) ?_
  refine x_oi X hl.1 q39 dX6_init_1 (Nat.le_of_ble_eq_true rfl) (Nat.le_of_ble_eq_true rfl) ?_
  refine lv_aload_n X.1 X.2.1 dX6_init_4 rfl (lv_at hl 0 rfl) ?_
  refine lv_iload_n X.1 X.2.1 dX6_init_5 rfl (lv_at hl 2 rfl) ?_
  refine x_putF2 X hI hK hw (C := RX6) (T := TX6) (nf := 2) (k := q) (ty := .int) (v := .int (nI cc)) (by omega) hthis rfl inX6 tyX6 tyX6_ok nmX6 0 (by decide) q43 (fun _ h9 => h9) rfl hin rfl (by decide +kernel) rfl rfl (Nat.le_of_ble_eq_true rfl) dX6_init_6 (fun F1 H locs eF2 hw => ?_)
  have hn3 : F1 (q) = .inr (7, [.int (nI cc), .null]) := by rw [eF2]; exact up_at
  have hr4 := fr_eq eF2 (Nat.le_refl _) (Nat.lt_succ_self _)
  replace hfr := hfr.tr hr4 (by omega) (by omega)
  replace hw : HW D (Af ad ((q + 1)) s.heap.size) ad ((q + 1)) F1 s H _ := hw
  refine lv_aload_n X.1 X.2.1 dX6_init_9 rfl (lv_at hl 0 rfl) ?_
  refine lv_iconst (v := nI 0) X.1 X.2.1 dX6_init_10 (by decide) ?_
  refine lv_iload_n X.1 X.2.1 dX6_init_11 rfl (lv_at hl 1 rfl) ?_
  refine lv_iload_n X.1 X.2.1 dX6_init_12 rfl (lv_at hl 2 rfl) ?_
  refine lv_imul X.1 X.2.1 dX6_init_13 ?_
  refine x_top (pk_mul _ _) ?_
  refine x_max X hl.1 (rest := [.ref (ad q)]) q40 (Nat.le_of_ble_eq_true rfl) (Nat.le_of_ble_eq_true rfl) (Nat.zero_le _) (Nat.zero_le _) dX6_init_14 ?_
  refine x_top (y := nI (rr * cc)) (max0 (by omega)) ?_
  refine x_newi X hA hK hw hs (by omega) (N' := rr * cc) rfl (by omega) (Nat.le_of_ble_eq_true rfl) (Nat.le_refl _) dX6_init_17 (fun F5 H eF6 hw => ?_)
  have hn7 : F5 ((q + 1)) = .inl (cI, rr * cc, .inl (fun _ => 0)) := by rw [eF6]; exact up_at
  have hr8 := fr_eq eF6 (Nat.le_refl _) (Nat.lt_succ_self _)
  have hq9 := (hr8 _ (by omega)).trans hn3
  replace hfr := hfr.tr hr8 (by omega) (by omega)
  replace hw : HW D (Af ad ((q + 1)) s.heap.size) ad ((q + 2)) F5 s H _ := hw
  refine x_putF2 X hI hK hw (C := RX6) (T := TX6) (nf := 2) (k := q) (ty := (.array .int)) (v := .ref (ad (q + 1))) (by omega) hq9 rfl inX6 tyX6 tyX6_ok nmX6 1 (by decide) q44 (fun _ h9 => h9) rfl hin rfl (by decide +kernel) rfl rfl (Nat.le_of_ble_eq_true rfl) dX6_init_19 (fun F10 H locs eF11 hw => ?_)
  have hn12 : F10 (q) = .inr (7, [.int (nI cc), .ref (ad (q + 1))]) := by rw [eF11]; exact up_at
  have hr13 := fr_eq eF11 (Nat.le_refl _) (Nat.lt_succ_self _)
  have hq14 := (hr13 _ (by omega)).trans hn7
  replace hfr := hfr.tr hr13 (by omega) (by omega)
  replace hw : HW D (Af ad ((q + 1)) s.heap.size) ad ((q + 2)) F10 s H _ := hw
  exact x_vretc X hr hlk hw (⟨⟨hn12, hq14⟩, hfr⟩) dX6_init_22
def fv0 : Nat → Int32 := tp 1 ((3 * 1)) (tp 1 ((3 * 1)) (tp 1 ((3 * 1)) ((fun _ => 0)) (nI 0) (nI 0) (nI 600)) (nI 1) (nI 0) (nI 60)) (nI 2) (nI 0) (nI 4)
def g0 : Nat → Int32 := fun _ => nI 0
def t0 : Nat → Nat → Int32 := fun k => if k = 1 then fv0 else fun _ => 0
theorem hi_X6_init : yX6_init.name = "<init>" ∧ yX6_init.cls ≠ "java/lang/invoke/MethodHandle" ∧ yX6_init.cls ≠ "java/lang/invoke/VarHandle" ∧ (parseMethodDescriptor yX6_init.desc).map (fun d => d.parameters.length) = some 2 := by decide +kernel
set_option maxHeartbeats 8000000 in
set_option maxRecDepth 100000 in
theorem k_X5_init {l : Launch} {D : va_G} {cI cB cS : ClassId} {ad : Nat → Nat} {F : Nat → va_E} (hA : hAd ad) (q : Nat) (hthis : F q = .inr (6, [.int (nI 0), .int (nI 0), .int (nI 0), .int (nI 0), .int (nI 0), .null, .null, .null, .null, .null])) : Cc l D cI cB cS ad (q + 1) 10 yX5_init cX5_init 2 2 82 (404) [.ref (ad q)] F (fun F' => StF ad cI F' q g0 t0 ∧ Fr F F' q (q + 11)) := by
  have hI : ∀ {N : Nat}, iN ad N := hA.iN
  refine x_metc (by decide +kernel) (Nat.le_of_ble_eq_true rfl) (by decide +kernel) ?_
  intro p e s m below meth c X hr hlk hin hAO hs hK hw ls hl
  replace hl : lv_has ls 2 [(0, .ref (ad q))] := hl
  have hfr : Fr F F q (q + 11) := Fr.rf
  obtain ⟨tF, hzF, hTF⟩ := hK.2.1.1
  refine lv_aload_n X.1 X.2.1 dX5_init_0 rfl (lv_at hl 0 rfl) ?_
  refine x_oi X hl.1 q33 dX5_init_1 (Nat.le_of_ble_eq_true rfl) (Nat.le_of_ble_eq_true rfl) ?_
  refine lv_aload_n X.1 X.2.1 dX5_init_4 rfl (lv_at hl 0 rfl) ?_
  refine x_new X hA hK hw hs (by omega) (C := RX6) (T := TX6) (nf := 2) (ci := 7) (fs := [.int (nI 0), .null]) inX6 tyX6 tyX6_ok q34 q35 q3 rfl (fun j hj => by rcases (show j = 0 ∨ j = 1 by omega) with rfl | rfl <;> rfl) (Nat.le_of_ble_eq_true rfl) (Nat.le_of_ble_eq_true rfl) dX5_init_5 (fun F1 H eF2 hw => ?_)
  have hn3 : F1 ((q + 1)) = .inr (7, [.int (nI 0), .null]) := by rw [eF2]; exact up_at
  have hr4 := fr_eq eF2 (Nat.le_refl _) (Nat.lt_succ_self _)
  have hq5 := (hr4 _ (by omega)).trans hthis
  replace hfr := hfr.tr hr4 (by omega) (by omega)
  replace hw : HW D (Af ad ((q + 1)) s.heap.size) ad ((q + 2)) F1 s H _ := hw
  refine lv_dup X.1 X.2.1 dX5_init_8 rfl ?_
  refine lv_bipush (v := nI 9) X.1 X.2.1 dX5_init_9 (by decide) ?_
  refine lv_iconst (v := nI 1) X.1 X.2.1 dX5_init_11 (by decide) ?_
  refine x_callI X hA hK hAO hw hs (by omega) (k := (q + 1)) (As := [.int (nI 9), .int (nI 1)]) (rest := [.ref (ad (q + 1)), .ref (ad q)]) (k_X6_init hA ((q + 1)) 9 1 hn3 (by omega)) (x_cwI yX6_init cX6_init 3 2 X q36 q37 q3 q38 hi_X6_init ⟨Nat.le_of_ble_eq_true rfl, Nat.le_of_ble_eq_true rfl⟩) rfl hl.1 rfl (Nat.le_of_ble_eq_true rfl) dX5_init_12 ⟨Nat.le_of_ble_eq_true rfl, Nat.le_of_ble_eq_true rfl⟩ (fun F6 H locs hp hw => ?_)
  obtain ⟨hG8, hr7⟩ := hp
  have hq9 := (hr7 _ (by omega)).trans hq5
  replace hfr := hfr.tr hr7 (by omega) (by omega)
  replace hw : HW D (Af ad ((q + 1)) s.heap.size) ad ((q + 3)) F6 s H _ := hw
  refine x_putF2 X hI hK hw (C := RX5) (T := TX5) (nf := 10) (k := q) (ty := (.object "RegattaTimes$Table")) (v := .ref (ad (q + 1))) (by omega) hq9 rfl inX5 tyX5 tyX5_ok nmX5 5 (by decide) q76 (fun _ h9 => h9) rfl hin rfl (by decide +kernel) rfl rfl (Nat.le_of_ble_eq_true rfl) dX5_init_15 (fun F10 H locs eF11 hw => ?_)
  have hn12 : F10 (q) = .inr (6, [.int (nI 0), .int (nI 0), .int (nI 0), .int (nI 0), .int (nI 0), .ref (ad (q + 1)), .null, .null, .null, .null]) := by rw [eF11]; exact up_at
  have hr13 := fr_eq eF11 (Nat.le_refl _) (Nat.lt_succ_self _)
  have hq14 := hG8.cg hr13 (by omega)
  replace hfr := hfr.tr hr13 (by omega) (by omega)
  replace hw : HW D (Af ad ((q + 1)) s.heap.size) ad ((q + 3)) F10 s H _ := hw
  refine lv_aload_n X.1 X.2.1 dX5_init_18 rfl (lv_at hl 0 rfl) ?_
  refine x_new X hA hK hw hs (by omega) (C := RX6) (T := TX6) (nf := 2) (ci := 7) (fs := [.int (nI 0), .null]) inX6 tyX6 tyX6_ok q34 q35 q3 rfl (fun j hj => by rcases (show j = 0 ∨ j = 1 by omega) with rfl | rfl <;> rfl) (Nat.le_of_ble_eq_true rfl) (Nat.le_of_ble_eq_true rfl) dX5_init_19 (fun F15 H eF16 hw => ?_)
  have hn17 : F15 ((q + 3)) = .inr (7, [.int (nI 0), .null]) := by rw [eF16]; exact up_at
  have hr18 := fr_eq eF16 (Nat.le_refl _) (Nat.lt_succ_self _)
  have hq19 := (hr18 _ (by omega)).trans hn12
  have hq20 := hq14.cg hr18 (by omega)
  replace hfr := hfr.tr hr18 (by omega) (by omega)
  replace hw : HW D (Af ad ((q + 1)) s.heap.size) ad ((q + 4)) F15 s H _ := hw
  refine lv_dup X.1 X.2.1 dX5_init_22 rfl ?_
  refine lv_iconst (v := nI 3) X.1 X.2.1 dX5_init_23 (by decide) ?_
  refine lv_iconst (v := nI 1) X.1 X.2.1 dX5_init_24 (by decide) ?_
  refine x_callI X hA hK hAO hw hs (by omega) (k := (q + 3)) (As := [.int (nI 3), .int (nI 1)]) (rest := [.ref (ad (q + 3)), .ref (ad q)]) (k_X6_init hA ((q + 3)) 3 1 hn17 (by omega)) (x_cwI yX6_init cX6_init 3 2 X q36 q37 q3 q38 hi_X6_init ⟨Nat.le_of_ble_eq_true rfl, Nat.le_of_ble_eq_true rfl⟩) rfl hl.1 rfl (Nat.le_of_ble_eq_true rfl) dX5_init_25 ⟨Nat.le_of_ble_eq_true rfl, Nat.le_of_ble_eq_true rfl⟩ (fun F21 H locs hp hw => ?_)
  obtain ⟨hG23, hr22⟩ := hp
  have hq24 := (hr22 _ (by omega)).trans hq19
  have hq25 := hq20.cg hr22 (by omega)
  replace hfr := hfr.tr hr22 (by omega) (by omega)
  replace hw : HW D (Af ad ((q + 1)) s.heap.size) ad ((q + 5)) F21 s H _ := hw
  refine x_putF2 X hI hK hw (C := RX5) (T := TX5) (nf := 10) (k := q) (ty := (.object "RegattaTimes$Table")) (v := .ref (ad (q + 3))) (by omega) hq24 rfl inX5 tyX5 tyX5_ok nmX5 6 (by decide) q80 (fun _ h9 => h9) rfl hin rfl (by decide +kernel) rfl rfl (Nat.le_of_ble_eq_true rfl) dX5_init_28 (fun F26 H locs eF27 hw => ?_)
  have hn28 : F26 (q) = .inr (6, [.int (nI 0), .int (nI 0), .int (nI 0), .int (nI 0), .int (nI 0), .ref (ad (q + 1)), .ref (ad (q + 3)), .null, .null, .null]) := by rw [eF27]; exact up_at
  have hr29 := fr_eq eF27 (Nat.le_refl _) (Nat.lt_succ_self _)
  have hq30 := hq25.cg hr29 (by omega)
  have hq31 := hG23.cg hr29 (by omega)
  replace hfr := hfr.tr hr29 (by omega) (by omega)
  replace hw : HW D (Af ad ((q + 1)) s.heap.size) ad ((q + 5)) F26 s H _ := hw
  refine lv_aload_n X.1 X.2.1 dX5_init_31 rfl (lv_at hl 0 rfl) ?_
  refine x_new X hA hK hw hs (by omega) (C := RX6) (T := TX6) (nf := 2) (ci := 7) (fs := [.int (nI 0), .null]) inX6 tyX6 tyX6_ok q34 q35 q3 rfl (fun j hj => by rcases (show j = 0 ∨ j = 1 by omega) with rfl | rfl <;> rfl) (Nat.le_of_ble_eq_true rfl) (Nat.le_of_ble_eq_true rfl) dX5_init_32 (fun F32 H eF33 hw => ?_)
  have hn34 : F32 ((q + 5)) = .inr (7, [.int (nI 0), .null]) := by rw [eF33]; exact up_at
  have hr35 := fr_eq eF33 (Nat.le_refl _) (Nat.lt_succ_self _)
  have hq36 := (hr35 _ (by omega)).trans hn28
  have hq37 := hq30.cg hr35 (by omega)
  have hq38 := hq31.cg hr35 (by omega)
  replace hfr := hfr.tr hr35 (by omega) (by omega)
  replace hw : HW D (Af ad ((q + 1)) s.heap.size) ad ((q + 6)) F32 s H _ := hw
  refine lv_dup X.1 X.2.1 dX5_init_35 rfl ?_
  refine lv_bipush (v := nI 6) X.1 X.2.1 dX5_init_36 (by decide) ?_
  refine lv_iconst (v := nI 3) X.1 X.2.1 dX5_init_38 (by decide) ?_
  refine x_callI X hA hK hAO hw hs (by omega) (k := (q + 5)) (As := [.int (nI 6), .int (nI 3)]) (rest := [.ref (ad (q + 5)), .ref (ad q)]) (k_X6_init hA ((q + 5)) 6 3 hn34 (by omega)) (x_cwI yX6_init cX6_init 3 2 X q36 q37 q3 q38 hi_X6_init ⟨Nat.le_of_ble_eq_true rfl, Nat.le_of_ble_eq_true rfl⟩) rfl hl.1 rfl (Nat.le_of_ble_eq_true rfl) dX5_init_39 ⟨Nat.le_of_ble_eq_true rfl, Nat.le_of_ble_eq_true rfl⟩ (fun F39 H locs hp hw => ?_)
  obtain ⟨hG41, hr40⟩ := hp
  have hq42 := (hr40 _ (by omega)).trans hq36
  have hq43 := hq37.cg hr40 (by omega)
  have hq44 := hq38.cg hr40 (by omega)
  replace hfr := hfr.tr hr40 (by omega) (by omega)
  replace hw : HW D (Af ad ((q + 1)) s.heap.size) ad ((q + 7)) F39 s H _ := hw
  refine x_putF2 X hI hK hw (C := RX5) (T := TX5) (nf := 10) (k := q) (ty := (.object "RegattaTimes$Table")) (v := .ref (ad (q + 5))) (by omega) hq42 rfl inX5 tyX5 tyX5_ok nmX5 7 (by decide) q82 (fun _ h9 => h9) rfl hin rfl (by decide +kernel) rfl rfl (Nat.le_of_ble_eq_true rfl) dX5_init_42 (fun F45 H locs eF46 hw => ?_)
  have hn47 : F45 (q) = .inr (6, [.int (nI 0), .int (nI 0), .int (nI 0), .int (nI 0), .int (nI 0), .ref (ad (q + 1)), .ref (ad (q + 3)), .ref (ad (q + 5)), .null, .null]) := by rw [eF46]; exact up_at
  have hr48 := fr_eq eF46 (Nat.le_refl _) (Nat.lt_succ_self _)
  have hq49 := hq43.cg hr48 (by omega)
  have hq50 := hq44.cg hr48 (by omega)
  have hq51 := hG41.cg hr48 (by omega)
  replace hfr := hfr.tr hr48 (by omega) (by omega)
  replace hw : HW D (Af ad ((q + 1)) s.heap.size) ad ((q + 7)) F45 s H _ := hw
  refine lv_aload_n X.1 X.2.1 dX5_init_45 rfl (lv_at hl 0 rfl) ?_
  refine x_new X hA hK hw hs (by omega) (C := RX6) (T := TX6) (nf := 2) (ci := 7) (fs := [.int (nI 0), .null]) inX6 tyX6 tyX6_ok q34 q35 q3 rfl (fun j hj => by rcases (show j = 0 ∨ j = 1 by omega) with rfl | rfl <;> rfl) (Nat.le_of_ble_eq_true rfl) (Nat.le_of_ble_eq_true rfl) dX5_init_46 (fun F52 H eF53 hw => ?_)
  have hn54 : F52 ((q + 7)) = .inr (7, [.int (nI 0), .null]) := by rw [eF53]; exact up_at
  have hr55 := fr_eq eF53 (Nat.le_refl _) (Nat.lt_succ_self _)
  have hq56 := (hr55 _ (by omega)).trans hn47
  have hq57 := hq49.cg hr55 (by omega)
  have hq58 := hq50.cg hr55 (by omega)
  have hq59 := hq51.cg hr55 (by omega)
  replace hfr := hfr.tr hr55 (by omega) (by omega)
  replace hw : HW D (Af ad ((q + 1)) s.heap.size) ad ((q + 8)) F52 s H _ := hw
  refine lv_dup X.1 X.2.1 dX5_init_49 rfl ?_
  refine lv_bipush (v := nI 54) X.1 X.2.1 dX5_init_50 (by decide) ?_
  refine lv_bipush (v := nI 6) X.1 X.2.1 dX5_init_52 (by decide) ?_
  refine x_callI X hA hK hAO hw hs (by omega) (k := (q + 7)) (As := [.int (nI 54), .int (nI 6)]) (rest := [.ref (ad (q + 7)), .ref (ad q)]) (k_X6_init hA ((q + 7)) 54 6 hn54 (by omega)) (x_cwI yX6_init cX6_init 3 2 X q36 q37 q3 q38 hi_X6_init ⟨Nat.le_of_ble_eq_true rfl, Nat.le_of_ble_eq_true rfl⟩) rfl hl.1 rfl (Nat.le_of_ble_eq_true rfl) dX5_init_54 ⟨Nat.le_of_ble_eq_true rfl, Nat.le_of_ble_eq_true rfl⟩ (fun F60 H locs hp hw => ?_)
  obtain ⟨hG62, hr61⟩ := hp
  have hq63 := (hr61 _ (by omega)).trans hq56
  have hq64 := hq57.cg hr61 (by omega)
  have hq65 := hq58.cg hr61 (by omega)
  have hq66 := hq59.cg hr61 (by omega)
  replace hfr := hfr.tr hr61 (by omega) (by omega)
  replace hw : HW D (Af ad ((q + 1)) s.heap.size) ad ((q + 9)) F60 s H _ := hw
  refine x_putF2 X hI hK hw (C := RX5) (T := TX5) (nf := 10) (k := q) (ty := (.object "RegattaTimes$Table")) (v := .ref (ad (q + 7))) (by omega) hq63 rfl inX5 tyX5 tyX5_ok nmX5 8 (by decide) q85 (fun _ h9 => h9) rfl hin rfl (by decide +kernel) rfl rfl (Nat.le_of_ble_eq_true rfl) dX5_init_57 (fun F67 H locs eF68 hw => ?_)
  have hn69 : F67 (q) = .inr (6, [.int (nI 0), .int (nI 0), .int (nI 0), .int (nI 0), .int (nI 0), .ref (ad (q + 1)), .ref (ad (q + 3)), .ref (ad (q + 5)), .ref (ad (q + 7)), .null]) := by rw [eF68]; exact up_at
  have hr70 := fr_eq eF68 (Nat.le_refl _) (Nat.lt_succ_self _)
  have hq71 := hq64.cg hr70 (by omega)
  have hq72 := hq65.cg hr70 (by omega)
  have hq73 := hq66.cg hr70 (by omega)
  have hq74 := hG62.cg hr70 (by omega)
  replace hfr := hfr.tr hr70 (by omega) (by omega)
  replace hw : HW D (Af ad ((q + 1)) s.heap.size) ad ((q + 9)) F67 s H _ := hw
  refine lv_aload_n X.1 X.2.1 dX5_init_60 rfl (lv_at hl 0 rfl) ?_
  refine x_new X hA hK hw hs (by omega) (C := RX6) (T := TX6) (nf := 2) (ci := 7) (fs := [.int (nI 0), .null]) inX6 tyX6 tyX6_ok q34 q35 q3 rfl (fun j hj => by rcases (show j = 0 ∨ j = 1 by omega) with rfl | rfl <;> rfl) (Nat.le_of_ble_eq_true rfl) (Nat.le_of_ble_eq_true rfl) dX5_init_61 (fun F75 H eF76 hw => ?_)
  have hn77 : F75 ((q + 9)) = .inr (7, [.int (nI 0), .null]) := by rw [eF76]; exact up_at
  have hr78 := fr_eq eF76 (Nat.le_refl _) (Nat.lt_succ_self _)
  have hq79 := (hr78 _ (by omega)).trans hn69
  have hq80 := hq71.cg hr78 (by omega)
  have hq81 := hq72.cg hr78 (by omega)
  have hq82 := hq73.cg hr78 (by omega)
  have hq83 := hq74.cg hr78 (by omega)
  replace hfr := hfr.tr hr78 (by omega) (by omega)
  replace hw : HW D (Af ad ((q + 1)) s.heap.size) ad ((q + 10)) F75 s H _ := hw
  refine lv_dup X.1 X.2.1 dX5_init_64 rfl ?_
  refine lv_bipush (v := nI 10) X.1 X.2.1 dX5_init_65 (by decide) ?_
  refine lv_iconst (v := nI 4) X.1 X.2.1 dX5_init_67 (by decide) ?_
  refine x_callI X hA hK hAO hw hs (by omega) (k := (q + 9)) (As := [.int (nI 10), .int (nI 4)]) (rest := [.ref (ad (q + 9)), .ref (ad q)]) (k_X6_init hA ((q + 9)) 10 4 hn77 (by omega)) (x_cwI yX6_init cX6_init 3 2 X q36 q37 q3 q38 hi_X6_init ⟨Nat.le_of_ble_eq_true rfl, Nat.le_of_ble_eq_true rfl⟩) rfl hl.1 rfl (Nat.le_of_ble_eq_true rfl) dX5_init_68 ⟨Nat.le_of_ble_eq_true rfl, Nat.le_of_ble_eq_true rfl⟩ (fun F84 H locs hp hw => ?_)
  obtain ⟨hG86, hr85⟩ := hp
  have hq87 := (hr85 _ (by omega)).trans hq79
  have hq88 := hq80.cg hr85 (by omega)
  have hq89 := hq81.cg hr85 (by omega)
  have hq90 := hq82.cg hr85 (by omega)
  have hq91 := hq83.cg hr85 (by omega)
  replace hfr := hfr.tr hr85 (by omega) (by omega)
  replace hw : HW D (Af ad ((q + 1)) s.heap.size) ad ((q + 11)) F84 s H _ := hw
  refine x_putF2 X hI hK hw (C := RX5) (T := TX5) (nf := 10) (k := q) (ty := (.object "RegattaTimes$Table")) (v := .ref (ad (q + 9))) (by omega) hq87 rfl inX5 tyX5 tyX5_ok nmX5 9 (by decide) q89 (fun _ h9 => h9) rfl hin rfl (by decide +kernel) rfl rfl (Nat.le_of_ble_eq_true rfl) dX5_init_71 (fun F92 H locs eF93 hw => ?_)
  have hn94 : F92 (q) = .inr (6, [.int (nI 0), .int (nI 0), .int (nI 0), .int (nI 0), .int (nI 0), .ref (ad (q + 1)), .ref (ad (q + 3)), .ref (ad (q + 5)), .ref (ad (q + 7)), .ref (ad (q + 9))]) := by rw [eF93]; exact up_at
  have hr95 := fr_eq eF93 (Nat.le_refl _) (Nat.lt_succ_self _)
  have hq96 := hq88.cg hr95 (by omega)
  have hq97 := hq89.cg hr95 (by omega)
  have hq98 := hq90.cg hr95 (by omega)
  have hq99 := hq91.cg hr95 (by omega)
  have hq100 := hG86.cg hr95 (by omega)
  replace hfr := hfr.tr hr95 (by omega) (by omega)
  replace hw : HW D (Af ad ((q + 1)) s.heap.size) ad ((q + 11)) F92 s H _ := hw
  refine lv_iconst (v := nI 0) X.1 X.2.1 dX5_init_74 (by decide) ?_
  refine lv_istore_n (lv' := [(1, .int (nI 0)), (0, .ref (ad q))]) X.1 X.2.1 dX5_init_75 rfl hl (by decide) rfl (fun ls hl => ?_)
  replace hl : lv_has ls 2 [(1, .int (nI 0)), (0, .ref (ad q))] := hl
  refine lv_iload_n X.1 X.2.1 dX5_init_76 rfl (lv_at hl 0 rfl) ?_
  refine x_zget X hw hzF hK.2.2.1 dX5_init_77 ?_
  refine va_tlen X.1 X.2.1 hTF hw.2.1 (v := nI 3) rfl dX5_init_80 ?_
  refine lv_icmp_ge (tgt := 104) X.1 X.2.1 dX5_init_81 (by decide) (fun c101 => ?_) (fun c101 => ?_)
  · exact absurd c101 (by decide +kernel)
  · refine lv_aload_n X.1 X.2.1 dX5_init_84 rfl (lv_at hl 1 rfl) ?_
    refine x_get X hK hw (C := RX5) (T := TX5) (nf := 10) (k := q) (by omega) hn94 rfl inX5 6 (by decide) q80 (fun _ h9 => h9) rfl dX5_init_85 ?_
    refine lv_iload_n X.1 X.2.1 dX5_init_88 rfl (lv_at hl 0 rfl) ?_
    refine lv_iconst (v := nI 0) X.1 X.2.1 dX5_init_89 (by decide) ?_
    refine x_zget X hw hzF hK.2.2.1 dX5_init_90 ?_
    refine lv_iload_n X.1 X.2.1 dX5_init_93 rfl (lv_at hl 0 rfl) ?_
    refine x_zld X hw hTF (j := 0) rfl (by omega) dX5_init_94 ?_
    refine x_top (y := nI 600) rfl ?_
    refine x_callVv X hK hw (k := (q + 3)) (As := [.int (nI 0), .int (nI 0), .int (nI 600)]) (rest := []) (k_X6_put hI ((q + 3)) 1 ((3 * 1)) ((fun _ => 0)) (nI 0) (nI 0) (nI 600) (by omega) (by omega) hq97) (x_cwV yX6_put cX6_put 5 none 3 X q53 q54 q55 q3 q56 hd_X6_put ⟨Nat.le_of_ble_eq_true rfl, Nat.le_of_ble_eq_true rfl⟩) (by omega) hq97.1 rfl rfl hl.1 rfl (Nat.le_of_ble_eq_true rfl) dX5_init_95 ⟨Nat.le_of_ble_eq_true rfl, Nat.le_of_ble_eq_true rfl⟩ (fun F102 H locs hp hw => ?_)
    obtain ⟨hT103, hr104⟩ := hp
    have hq105 := (hr104 _ (by omega)).trans hn94
    have hq106 := hq96.cg hr104 (by omega)
    have hq107 := hq98.cg hr104 (by omega)
    have hq108 := hq99.cg hr104 (by omega)
    have hq109 := hq100.cg hr104 (by omega)
    replace hfr := hfr.tr hr104 (by omega) (by omega)
    refine lv_iinc (v := nI (0 + 1)) (lv' := [(1, .int (nI (0 + 1))), (0, .ref (ad q))]) X.1 X.2.1 dX5_init_98 hl (k := 0) rfl (by first | exact nI_1 _ | exact nI_add _ _ | rfl) (by decide) rfl (fun ls hl => ?_)
    refine lv_goto (tgt := 76) X.1 X.2.1 dX5_init_101 (by decide) ?_
    replace hl : lv_has ls 2 [(1, .int (nI 1)), (0, .ref (ad q))] := hl
    refine lv_iload_n X.1 X.2.1 dX5_init_76 rfl (lv_at hl 0 rfl) ?_
    refine x_zget X hw hzF hK.2.2.1 dX5_init_77 ?_
    refine va_tlen X.1 X.2.1 hTF hw.2.1 (v := nI 3) rfl dX5_init_80 ?_
    refine lv_icmp_ge (tgt := 104) X.1 X.2.1 dX5_init_81 (by decide) (fun c110 => ?_) (fun c110 => ?_)
    · exact absurd c110 (by decide +kernel)
    · refine lv_aload_n X.1 X.2.1 dX5_init_84 rfl (lv_at hl 1 rfl) ?_
      refine x_get X hK hw (C := RX5) (T := TX5) (nf := 10) (k := q) (by omega) hq105 rfl inX5 6 (by decide) q80 (fun _ h9 => h9) rfl dX5_init_85 ?_
      refine lv_iload_n X.1 X.2.1 dX5_init_88 rfl (lv_at hl 0 rfl) ?_
      refine lv_iconst (v := nI 0) X.1 X.2.1 dX5_init_89 (by decide) ?_
      refine x_zget X hw hzF hK.2.2.1 dX5_init_90 ?_
      refine lv_iload_n X.1 X.2.1 dX5_init_93 rfl (lv_at hl 0 rfl) ?_
      refine x_zld X hw hTF (j := 1) rfl (by omega) dX5_init_94 ?_
      refine x_top (y := nI 60) rfl ?_
      refine x_callVv X hK hw (k := (q + 3)) (As := [.int (nI 1), .int (nI 0), .int (nI 60)]) (rest := []) (k_X6_put hI ((q + 3)) 1 ((3 * 1)) (tp 1 ((3 * 1)) ((fun _ => 0)) (nI 0) (nI 0) (nI 600)) (nI 1) (nI 0) (nI 60) (by omega) (by omega) hT103) (x_cwV yX6_put cX6_put 5 none 3 X q53 q54 q55 q3 q56 hd_X6_put ⟨Nat.le_of_ble_eq_true rfl, Nat.le_of_ble_eq_true rfl⟩) (by omega) hT103.1 rfl rfl hl.1 rfl (Nat.le_of_ble_eq_true rfl) dX5_init_95 ⟨Nat.le_of_ble_eq_true rfl, Nat.le_of_ble_eq_true rfl⟩ (fun F111 H locs hp hw => ?_)
      obtain ⟨hT112, hr113⟩ := hp
      have hq114 := (hr113 _ (by omega)).trans hq105
      have hq115 := hq106.cg hr113 (by omega)
      have hq116 := hq107.cg hr113 (by omega)
      have hq117 := hq108.cg hr113 (by omega)
      have hq118 := hq109.cg hr113 (by omega)
      replace hfr := hfr.tr hr113 (by omega) (by omega)
      refine lv_iinc (v := nI (1 + 1)) (lv' := [(1, .int (nI (1 + 1))), (0, .ref (ad q))]) X.1 X.2.1 dX5_init_98 hl (k := 0) rfl (by first | exact nI_1 _ | exact nI_add _ _ | rfl) (by decide) rfl (fun ls hl => ?_)
      refine lv_goto (tgt := 76) X.1 X.2.1 dX5_init_101 (by decide) ?_
      replace hl : lv_has ls 2 [(1, .int (nI 2)), (0, .ref (ad q))] := hl
      refine lv_iload_n X.1 X.2.1 dX5_init_76 rfl (lv_at hl 0 rfl) ?_
      refine x_zget X hw hzF hK.2.2.1 dX5_init_77 ?_
      refine va_tlen X.1 X.2.1 hTF hw.2.1 (v := nI 3) rfl dX5_init_80 ?_
      refine lv_icmp_ge (tgt := 104) X.1 X.2.1 dX5_init_81 (by decide) (fun c119 => ?_) (fun c119 => ?_)
      · exact absurd c119 (by decide +kernel)
      · refine lv_aload_n X.1 X.2.1 dX5_init_84 rfl (lv_at hl 1 rfl) ?_
        refine x_get X hK hw (C := RX5) (T := TX5) (nf := 10) (k := q) (by omega) hq114 rfl inX5 6 (by decide) q80 (fun _ h9 => h9) rfl dX5_init_85 ?_
        refine lv_iload_n X.1 X.2.1 dX5_init_88 rfl (lv_at hl 0 rfl) ?_
        refine lv_iconst (v := nI 0) X.1 X.2.1 dX5_init_89 (by decide) ?_
        refine x_zget X hw hzF hK.2.2.1 dX5_init_90 ?_
        refine lv_iload_n X.1 X.2.1 dX5_init_93 rfl (lv_at hl 0 rfl) ?_
        refine x_zld X hw hTF (j := 2) rfl (by omega) dX5_init_94 ?_
        refine x_top (y := nI 4) rfl ?_
        refine x_callVv X hK hw (k := (q + 3)) (As := [.int (nI 2), .int (nI 0), .int (nI 4)]) (rest := []) (k_X6_put hI ((q + 3)) 1 ((3 * 1)) (tp 1 ((3 * 1)) (tp 1 ((3 * 1)) ((fun _ => 0)) (nI 0) (nI 0) (nI 600)) (nI 1) (nI 0) (nI 60)) (nI 2) (nI 0) (nI 4) (by omega) (by omega) hT112) (x_cwV yX6_put cX6_put 5 none 3 X q53 q54 q55 q3 q56 hd_X6_put ⟨Nat.le_of_ble_eq_true rfl, Nat.le_of_ble_eq_true rfl⟩) (by omega) hT112.1 rfl rfl hl.1 rfl (Nat.le_of_ble_eq_true rfl) dX5_init_95 ⟨Nat.le_of_ble_eq_true rfl, Nat.le_of_ble_eq_true rfl⟩ (fun F120 H locs hp hw => ?_)
        obtain ⟨hT121, hr122⟩ := hp
        have hq123 := (hr122 _ (by omega)).trans hq114
        have hq124 := hq115.cg hr122 (by omega)
        have hq125 := hq116.cg hr122 (by omega)
        have hq126 := hq117.cg hr122 (by omega)
        have hq127 := hq118.cg hr122 (by omega)
        replace hfr := hfr.tr hr122 (by omega) (by omega)
        refine lv_iinc (v := nI (2 + 1)) (lv' := [(1, .int (nI (2 + 1))), (0, .ref (ad q))]) X.1 X.2.1 dX5_init_98 hl (k := 0) rfl (by first | exact nI_1 _ | exact nI_add _ _ | rfl) (by decide) rfl (fun ls hl => ?_)
        refine lv_goto (tgt := 76) X.1 X.2.1 dX5_init_101 (by decide) ?_
        replace hl : lv_has ls 2 [(1, .int (nI 3)), (0, .ref (ad q))] := hl
        refine lv_iload_n X.1 X.2.1 dX5_init_76 rfl (lv_at hl 0 rfl) ?_
        refine x_zget X hw hzF hK.2.2.1 dX5_init_77 ?_
        refine va_tlen X.1 X.2.1 hTF hw.2.1 (v := nI 3) rfl dX5_init_80 ?_
        refine lv_icmp_ge (tgt := 104) X.1 X.2.1 dX5_init_81 (by decide) (fun c128 => ?_) (fun c128 => ?_)
        · exact x_vretc X hr hlk hw (⟨⟨hq123, hq124, hT121, hq125, hq126, hq127⟩, hfr⟩) dX5_init_104
        · exact absurd (by decide +kernel) c128
set_option maxHeartbeats 8000000 in
set_option maxRecDepth 100000 in
theorem k_X0_init {l : Launch} {D : va_G} {cI cB cS : ClassId} {ad : Nat → Nat} {F : Nat → va_E} (hA : hAd ad) (q : Nat) (b : Nat) (hthis : F q = .inr (1, [.null])) : Cc l D cI cB cS ad (q + 1) 0 yX0_init cX0_init 2 1 60 (0) [.ref (ad q), .ref (ad b)] F (fun F' => CoF ad F' q b ∧ Fr F F' q (q + 1)) := by
  have hI : ∀ {N : Nat}, iN ad N := hA.iN
  refine x_metc (by decide +kernel) (Nat.le_of_ble_eq_true rfl) (by decide +kernel) ?_
  intro p e s m below meth c X hr hlk hin hAO hs hK hw ls hl
  replace hl : lv_has ls 2 [(0, .ref (ad q)), (1, .ref (ad b))] := hl
  have hfr : Fr F F q (q + 1) := Fr.rf
  refine lv_aload_n X.1 X.2.1 dX0_init_0 rfl (lv_at hl 0 rfl) ?_
  refine x_oi X hl.1 q118 dX0_init_1 (Nat.le_of_ble_eq_true rfl) (Nat.le_of_ble_eq_true rfl) ?_
  refine lv_aload_n X.1 X.2.1 dX0_init_4 rfl (lv_at hl 0 rfl) ?_
  refine lv_aload_n X.1 X.2.1 dX0_init_5 rfl (lv_at hl 1 rfl) ?_
  refine x_putF2 X hI hK hw (C := RX0) (T := TX0) (nf := 1) (k := q) (ty := (.object "RegattaTimes$State")) (v := .ref (ad b)) (by omega) hthis rfl inX0 tyX0 tyX0_ok nmX0 0 (by decide) q119 (fun _ h9 => h9) rfl hin rfl (by decide +kernel) rfl rfl (Nat.le_of_ble_eq_true rfl) dX0_init_6 (fun F1 H locs eF2 hw => ?_)
  have hn3 : F1 (q) = .inr (1, [.ref (ad b)]) := by rw [eF2]; exact up_at
  have hr4 := fr_eq eF2 (Nat.le_refl _) (Nat.lt_succ_self _)
  replace hfr := hfr.tr hr4 (by omega) (by omega)
  replace hw : HW D (Af ad ((q + 1)) s.heap.size) ad ((q + 1)) F1 s H _ := hw
  exact x_vretc X hr hlk hw (⟨hn3, hfr⟩) dX0_init_9
set_option maxHeartbeats 8000000 in
set_option maxRecDepth 100000 in
theorem k_X2_init {l : Launch} {D : va_G} {cI cB cS : ClassId} {ad : Nat → Nat} {F : Nat → va_E} (hA : hAd ad) (q : Nat) (b : Nat) (hthis : F q = .inr (3, [.null])) : Cc l D cI cB cS ad (q + 1) 0 yX2_init cX2_init 2 1 60 (0) [.ref (ad q), .ref (ad b)] F (fun F' => JuF ad F' q b ∧ Fr F F' q (q + 1)) := by
  have hI : ∀ {N : Nat}, iN ad N := hA.iN
  refine x_metc (by decide +kernel) (Nat.le_of_ble_eq_true rfl) (by decide +kernel) ?_
  intro p e s m below meth c X hr hlk hin hAO hs hK hw ls hl
  replace hl : lv_has ls 2 [(0, .ref (ad q)), (1, .ref (ad b))] := hl
  have hfr : Fr F F q (q + 1) := Fr.rf
  refine lv_aload_n X.1 X.2.1 dX2_init_0 rfl (lv_at hl 0 rfl) ?_
  refine x_oi X hl.1 q128 dX2_init_1 (Nat.le_of_ble_eq_true rfl) (Nat.le_of_ble_eq_true rfl) ?_
  refine lv_aload_n X.1 X.2.1 dX2_init_4 rfl (lv_at hl 0 rfl) ?_
  refine lv_aload_n X.1 X.2.1 dX2_init_5 rfl (lv_at hl 1 rfl) ?_
  refine x_putF2 X hI hK hw (C := RX2) (T := TX2) (nf := 1) (k := q) (ty := (.object "RegattaTimes$State")) (v := .ref (ad b)) (by omega) hthis rfl inX2 tyX2 tyX2_ok nmX2 0 (by decide) q129 (fun _ h9 => h9) rfl hin rfl (by decide +kernel) rfl rfl (Nat.le_of_ble_eq_true rfl) dX2_init_6 (fun F1 H locs eF2 hw => ?_)
  have hn3 : F1 (q) = .inr (3, [.ref (ad b)]) := by rw [eF2]; exact up_at
  have hr4 := fr_eq eF2 (Nat.le_refl _) (Nat.lt_succ_self _)
  replace hfr := hfr.tr hr4 (by omega) (by omega)
  replace hw : HW D (Af ad ((q + 1)) s.heap.size) ad ((q + 1)) F1 s H _ := hw
  exact x_vretc X hr hlk hw (⟨hn3, hfr⟩) dX2_init_9
set_option maxHeartbeats 8000000 in
set_option maxRecDepth 100000 in
theorem k_X4_init {l : Launch} {D : va_G} {cI cB cS : ClassId} {ad : Nat → Nat} {F : Nat → va_E} (hA : hAd ad) (q : Nat) (b : Nat) (hthis : F q = .inr (5, [.null, .null, .null, .null, .null])) : Cc l D cI cB cS ad (q + 1) 8 yX4_init cX4_init 2 2 82 (197) [.ref (ad q), .ref (ad b)] F (fun F' => ScF ad cI F' q b (fun _ => 0) (fun _ => 0) (fun _ => 0) (fun _ => 0) ∧ Fr F F' q (q + 9)) := by
  have hI : ∀ {N : Nat}, iN ad N := hA.iN
  refine x_metc (by decide +kernel) (Nat.le_of_ble_eq_true rfl) (by decide +kernel) ?_
  intro p e s m below meth c X hr hlk hin hAO hs hK hw ls hl
  replace hl : lv_has ls 2 [(0, .ref (ad q)), (1, .ref (ad b))] := hl
  have hfr : Fr F F q (q + 9) := Fr.rf
  refine lv_aload_n X.1 X.2.1 dX4_init_0 rfl (lv_at hl 0 rfl) ?_
  refine x_oi X hl.1 q138 dX4_init_1 (Nat.le_of_ble_eq_true rfl) (Nat.le_of_ble_eq_true rfl) ?_
  refine lv_aload_n X.1 X.2.1 dX4_init_4 rfl (lv_at hl 0 rfl) ?_
  refine lv_aload_n X.1 X.2.1 dX4_init_5 rfl (lv_at hl 1 rfl) ?_
  refine x_putF2 X hI hK hw (C := RX4) (T := TX4) (nf := 5) (k := q) (ty := (.object "RegattaTimes$State")) (v := .ref (ad b)) (by omega) hthis rfl inX4 tyX4 tyX4_ok nmX4 0 (by decide) q141 (fun _ h9 => h9) rfl hin rfl (by decide +kernel) rfl rfl (Nat.le_of_ble_eq_true rfl) dX4_init_6 (fun F1 H locs eF2 hw => ?_)
  have hn3 : F1 (q) = .inr (5, [.ref (ad b), .null, .null, .null, .null]) := by rw [eF2]; exact up_at
  have hr4 := fr_eq eF2 (Nat.le_refl _) (Nat.lt_succ_self _)
  replace hfr := hfr.tr hr4 (by omega) (by omega)
  replace hw : HW D (Af ad ((q + 1)) s.heap.size) ad ((q + 1)) F1 s H _ := hw
  refine lv_aload_n X.1 X.2.1 dX4_init_9 rfl (lv_at hl 0 rfl) ?_
  refine x_new X hA hK hw hs (by omega) (C := RX6) (T := TX6) (nf := 2) (ci := 7) (fs := [.int (nI 0), .null]) inX6 tyX6 tyX6_ok q139 q35 q3 rfl (fun j hj => by rcases (show j = 0 ∨ j = 1 by omega) with rfl | rfl <;> rfl) (Nat.le_of_ble_eq_true rfl) (Nat.le_of_ble_eq_true rfl) dX4_init_10 (fun F5 H eF6 hw => ?_)
  have hn7 : F5 ((q + 1)) = .inr (7, [.int (nI 0), .null]) := by rw [eF6]; exact up_at
  have hr8 := fr_eq eF6 (Nat.le_refl _) (Nat.lt_succ_self _)
  have hq9 := (hr8 _ (by omega)).trans hn3
  replace hfr := hfr.tr hr8 (by omega) (by omega)
  replace hw : HW D (Af ad ((q + 1)) s.heap.size) ad ((q + 2)) F5 s H _ := hw
  refine lv_dup X.1 X.2.1 dX4_init_13 rfl ?_
  refine lv_bipush (v := nI 9) X.1 X.2.1 dX4_init_14 (by decide) ?_
  refine lv_iconst (v := nI 1) X.1 X.2.1 dX4_init_16 (by decide) ?_
  refine x_callI X hA hK hAO hw hs (by omega) (k := (q + 1)) (As := [.int (nI 9), .int (nI 1)]) (rest := [.ref (ad (q + 1)), .ref (ad q)]) (k_X6_init hA ((q + 1)) 9 1 hn7 (by omega)) (x_cwI yX6_init cX6_init 3 2 X q140 q37 q3 q38 hi_X6_init ⟨Nat.le_of_ble_eq_true rfl, Nat.le_of_ble_eq_true rfl⟩) rfl hl.1 rfl (Nat.le_of_ble_eq_true rfl) dX4_init_17 ⟨Nat.le_of_ble_eq_true rfl, Nat.le_of_ble_eq_true rfl⟩ (fun F10 H locs hp hw => ?_)
  obtain ⟨hG12, hr11⟩ := hp
  have hq13 := (hr11 _ (by omega)).trans hq9
  replace hfr := hfr.tr hr11 (by omega) (by omega)
  replace hw : HW D (Af ad ((q + 1)) s.heap.size) ad ((q + 3)) F10 s H _ := hw
  refine x_putF2 X hI hK hw (C := RX4) (T := TX4) (nf := 5) (k := q) (ty := (.object "RegattaTimes$Table")) (v := .ref (ad (q + 1))) (by omega) hq13 rfl inX4 tyX4 tyX4_ok nmX4 1 (by decide) q142 (fun _ h9 => h9) rfl hin rfl (by decide +kernel) rfl rfl (Nat.le_of_ble_eq_true rfl) dX4_init_20 (fun F14 H locs eF15 hw => ?_)
  have hn16 : F14 (q) = .inr (5, [.ref (ad b), .ref (ad (q + 1)), .null, .null, .null]) := by rw [eF15]; exact up_at
  have hr17 := fr_eq eF15 (Nat.le_refl _) (Nat.lt_succ_self _)
  have hq18 := hG12.cg hr17 (by omega)
  replace hfr := hfr.tr hr17 (by omega) (by omega)
  replace hw : HW D (Af ad ((q + 1)) s.heap.size) ad ((q + 3)) F14 s H _ := hw
  refine lv_aload_n X.1 X.2.1 dX4_init_23 rfl (lv_at hl 0 rfl) ?_
  refine x_new X hA hK hw hs (by omega) (C := RX6) (T := TX6) (nf := 2) (ci := 7) (fs := [.int (nI 0), .null]) inX6 tyX6 tyX6_ok q139 q35 q3 rfl (fun j hj => by rcases (show j = 0 ∨ j = 1 by omega) with rfl | rfl <;> rfl) (Nat.le_of_ble_eq_true rfl) (Nat.le_of_ble_eq_true rfl) dX4_init_24 (fun F19 H eF20 hw => ?_)
  have hn21 : F19 ((q + 3)) = .inr (7, [.int (nI 0), .null]) := by rw [eF20]; exact up_at
  have hr22 := fr_eq eF20 (Nat.le_refl _) (Nat.lt_succ_self _)
  have hq23 := (hr22 _ (by omega)).trans hn16
  have hq24 := hq18.cg hr22 (by omega)
  replace hfr := hfr.tr hr22 (by omega) (by omega)
  replace hw : HW D (Af ad ((q + 1)) s.heap.size) ad ((q + 4)) F19 s H _ := hw
  refine lv_dup X.1 X.2.1 dX4_init_27 rfl ?_
  refine lv_bipush (v := nI 6) X.1 X.2.1 dX4_init_28 (by decide) ?_
  refine lv_bipush (v := nI 9) X.1 X.2.1 dX4_init_30 (by decide) ?_
  refine x_callI X hA hK hAO hw hs (by omega) (k := (q + 3)) (As := [.int (nI 6), .int (nI 9)]) (rest := [.ref (ad (q + 3)), .ref (ad q)]) (k_X6_init hA ((q + 3)) 6 9 hn21 (by omega)) (x_cwI yX6_init cX6_init 3 2 X q140 q37 q3 q38 hi_X6_init ⟨Nat.le_of_ble_eq_true rfl, Nat.le_of_ble_eq_true rfl⟩) rfl hl.1 rfl (Nat.le_of_ble_eq_true rfl) dX4_init_32 ⟨Nat.le_of_ble_eq_true rfl, Nat.le_of_ble_eq_true rfl⟩ (fun F25 H locs hp hw => ?_)
  obtain ⟨hG27, hr26⟩ := hp
  have hq28 := (hr26 _ (by omega)).trans hq23
  have hq29 := hq24.cg hr26 (by omega)
  replace hfr := hfr.tr hr26 (by omega) (by omega)
  replace hw : HW D (Af ad ((q + 1)) s.heap.size) ad ((q + 5)) F25 s H _ := hw
  refine x_putF2 X hI hK hw (C := RX4) (T := TX4) (nf := 5) (k := q) (ty := (.object "RegattaTimes$Table")) (v := .ref (ad (q + 3))) (by omega) hq28 rfl inX4 tyX4 tyX4_ok nmX4 2 (by decide) q143 (fun _ h9 => h9) rfl hin rfl (by decide +kernel) rfl rfl (Nat.le_of_ble_eq_true rfl) dX4_init_35 (fun F30 H locs eF31 hw => ?_)
  have hn32 : F30 (q) = .inr (5, [.ref (ad b), .ref (ad (q + 1)), .ref (ad (q + 3)), .null, .null]) := by rw [eF31]; exact up_at
  have hr33 := fr_eq eF31 (Nat.le_refl _) (Nat.lt_succ_self _)
  have hq34 := hq29.cg hr33 (by omega)
  have hq35 := hG27.cg hr33 (by omega)
  replace hfr := hfr.tr hr33 (by omega) (by omega)
  replace hw : HW D (Af ad ((q + 1)) s.heap.size) ad ((q + 5)) F30 s H _ := hw
  refine lv_aload_n X.1 X.2.1 dX4_init_38 rfl (lv_at hl 0 rfl) ?_
  refine x_new X hA hK hw hs (by omega) (C := RX6) (T := TX6) (nf := 2) (ci := 7) (fs := [.int (nI 0), .null]) inX6 tyX6 tyX6_ok q139 q35 q3 rfl (fun j hj => by rcases (show j = 0 ∨ j = 1 by omega) with rfl | rfl <;> rfl) (Nat.le_of_ble_eq_true rfl) (Nat.le_of_ble_eq_true rfl) dX4_init_39 (fun F36 H eF37 hw => ?_)
  have hn38 : F36 ((q + 5)) = .inr (7, [.int (nI 0), .null]) := by rw [eF37]; exact up_at
  have hr39 := fr_eq eF37 (Nat.le_refl _) (Nat.lt_succ_self _)
  have hq40 := (hr39 _ (by omega)).trans hn32
  have hq41 := hq34.cg hr39 (by omega)
  have hq42 := hq35.cg hr39 (by omega)
  replace hfr := hfr.tr hr39 (by omega) (by omega)
  replace hw : HW D (Af ad ((q + 1)) s.heap.size) ad ((q + 6)) F36 s H _ := hw
  refine lv_dup X.1 X.2.1 dX4_init_42 rfl ?_
  refine lv_bipush (v := nI 9) X.1 X.2.1 dX4_init_43 (by decide) ?_
  refine lv_iconst (v := nI 4) X.1 X.2.1 dX4_init_45 (by decide) ?_
  refine x_callI X hA hK hAO hw hs (by omega) (k := (q + 5)) (As := [.int (nI 9), .int (nI 4)]) (rest := [.ref (ad (q + 5)), .ref (ad q)]) (k_X6_init hA ((q + 5)) 9 4 hn38 (by omega)) (x_cwI yX6_init cX6_init 3 2 X q140 q37 q3 q38 hi_X6_init ⟨Nat.le_of_ble_eq_true rfl, Nat.le_of_ble_eq_true rfl⟩) rfl hl.1 rfl (Nat.le_of_ble_eq_true rfl) dX4_init_46 ⟨Nat.le_of_ble_eq_true rfl, Nat.le_of_ble_eq_true rfl⟩ (fun F43 H locs hp hw => ?_)
  obtain ⟨hG45, hr44⟩ := hp
  have hq46 := (hr44 _ (by omega)).trans hq40
  have hq47 := hq41.cg hr44 (by omega)
  have hq48 := hq42.cg hr44 (by omega)
  replace hfr := hfr.tr hr44 (by omega) (by omega)
  replace hw : HW D (Af ad ((q + 1)) s.heap.size) ad ((q + 7)) F43 s H _ := hw
  refine x_putF2 X hI hK hw (C := RX4) (T := TX4) (nf := 5) (k := q) (ty := (.object "RegattaTimes$Table")) (v := .ref (ad (q + 5))) (by omega) hq46 rfl inX4 tyX4 tyX4_ok nmX4 3 (by decide) q144 (fun _ h9 => h9) rfl hin rfl (by decide +kernel) rfl rfl (Nat.le_of_ble_eq_true rfl) dX4_init_49 (fun F49 H locs eF50 hw => ?_)
  have hn51 : F49 (q) = .inr (5, [.ref (ad b), .ref (ad (q + 1)), .ref (ad (q + 3)), .ref (ad (q + 5)), .null]) := by rw [eF50]; exact up_at
  have hr52 := fr_eq eF50 (Nat.le_refl _) (Nat.lt_succ_self _)
  have hq53 := hq47.cg hr52 (by omega)
  have hq54 := hq48.cg hr52 (by omega)
  have hq55 := hG45.cg hr52 (by omega)
  replace hfr := hfr.tr hr52 (by omega) (by omega)
  replace hw : HW D (Af ad ((q + 1)) s.heap.size) ad ((q + 7)) F49 s H _ := hw
  refine lv_aload_n X.1 X.2.1 dX4_init_52 rfl (lv_at hl 0 rfl) ?_
  refine x_new X hA hK hw hs (by omega) (C := RX6) (T := TX6) (nf := 2) (ci := 7) (fs := [.int (nI 0), .null]) inX6 tyX6 tyX6_ok q139 q35 q3 rfl (fun j hj => by rcases (show j = 0 ∨ j = 1 by omega) with rfl | rfl <;> rfl) (Nat.le_of_ble_eq_true rfl) (Nat.le_of_ble_eq_true rfl) dX4_init_53 (fun F56 H eF57 hw => ?_)
  have hn58 : F56 ((q + 7)) = .inr (7, [.int (nI 0), .null]) := by rw [eF57]; exact up_at
  have hr59 := fr_eq eF57 (Nat.le_refl _) (Nat.lt_succ_self _)
  have hq60 := (hr59 _ (by omega)).trans hn51
  have hq61 := hq53.cg hr59 (by omega)
  have hq62 := hq54.cg hr59 (by omega)
  have hq63 := hq55.cg hr59 (by omega)
  replace hfr := hfr.tr hr59 (by omega) (by omega)
  replace hw : HW D (Af ad ((q + 1)) s.heap.size) ad ((q + 8)) F56 s H _ := hw
  refine lv_dup X.1 X.2.1 dX4_init_56 rfl ?_
  refine lv_bipush (v := nI 9) X.1 X.2.1 dX4_init_57 (by decide) ?_
  refine lv_bipush (v := nI 10) X.1 X.2.1 dX4_init_59 (by decide) ?_
  refine x_callI X hA hK hAO hw hs (by omega) (k := (q + 7)) (As := [.int (nI 9), .int (nI 10)]) (rest := [.ref (ad (q + 7)), .ref (ad q)]) (k_X6_init hA ((q + 7)) 9 10 hn58 (by omega)) (x_cwI yX6_init cX6_init 3 2 X q140 q37 q3 q38 hi_X6_init ⟨Nat.le_of_ble_eq_true rfl, Nat.le_of_ble_eq_true rfl⟩) rfl hl.1 rfl (Nat.le_of_ble_eq_true rfl) dX4_init_61 ⟨Nat.le_of_ble_eq_true rfl, Nat.le_of_ble_eq_true rfl⟩ (fun F64 H locs hp hw => ?_)
  obtain ⟨hG66, hr65⟩ := hp
  have hq67 := (hr65 _ (by omega)).trans hq60
  have hq68 := hq61.cg hr65 (by omega)
  have hq69 := hq62.cg hr65 (by omega)
  have hq70 := hq63.cg hr65 (by omega)
  replace hfr := hfr.tr hr65 (by omega) (by omega)
  replace hw : HW D (Af ad ((q + 1)) s.heap.size) ad ((q + 9)) F64 s H _ := hw
  refine x_putF2 X hI hK hw (C := RX4) (T := TX4) (nf := 5) (k := q) (ty := (.object "RegattaTimes$Table")) (v := .ref (ad (q + 7))) (by omega) hq67 rfl inX4 tyX4 tyX4_ok nmX4 4 (by decide) q145 (fun _ h9 => h9) rfl hin rfl (by decide +kernel) rfl rfl (Nat.le_of_ble_eq_true rfl) dX4_init_64 (fun F71 H locs eF72 hw => ?_)
  have hn73 : F71 (q) = .inr (5, [.ref (ad b), .ref (ad (q + 1)), .ref (ad (q + 3)), .ref (ad (q + 5)), .ref (ad (q + 7))]) := by rw [eF72]; exact up_at
  have hr74 := fr_eq eF72 (Nat.le_refl _) (Nat.lt_succ_self _)
  have hq75 := hq68.cg hr74 (by omega)
  have hq76 := hq69.cg hr74 (by omega)
  have hq77 := hq70.cg hr74 (by omega)
  have hq78 := hG66.cg hr74 (by omega)
  replace hfr := hfr.tr hr74 (by omega) (by omega)
  replace hw : HW D (Af ad ((q + 1)) s.heap.size) ad ((q + 9)) F71 s H _ := hw
  exact x_vretc X hr hlk hw (⟨⟨hn73, hq75, hq76, hq77, hq78⟩, hfr⟩) dX4_init_67
theorem HW_q {D : va_G} {A : Nat → Prop} {ad : Nat → Nat} {N : Nat} {F : Nat → va_E} {s : State} {H : Heap} {locs : List Loc} {cS : ClassId} (hw : HW D A ad N F s H locs) {k n : Nat} {f f1 : Nat → Option Nat} (he : F k = .inl (cS, n, .inr (.inr (.inr (.inr f))))) (hf : ∀ j, j < n → f j = f1 j) : HW D A ad N (va_up F k (.inl (cS, n, .inr (.inr (.inr (.inr f1)))))) s H locs := by
  refine ⟨?_, hw.2⟩
  intro i q hq
  obtain ⟨hi, rfl⟩ := wl_mem hq
  have h0 := hw.1 i _ (wl_get hi)
  by_cases hk : i = k
  · subst hk
    rw [he] at h0
    simp only [va_up, if_true]
    have e : vp_cell cS (n, .inr (.inr (.inr (.inr f)))) = vp_cell cS (n, .inr (.inr (.inr (.inr f1)))) := by
      rw [vp_cell_q, vp_cell_q]
      simp only [arrV]
      congr 1
      apply Array.ext
      · simp
      · intro j h1 h2
        simp only [Array.getElem_ofFn]
        rw [hf j (by simpa using h1)]
    show H[ad i]? = some (vp_cell cS (n, .inr (.inr (.inr (.inr f1)))))
    rw [← e]
    exact h0
  · simp only [va_up, if_neg hk] at h0 ⊢
    exact h0
theorem hi_X5_init : yX5_init.name = "<init>" ∧ yX5_init.cls ≠ "java/lang/invoke/MethodHandle" ∧ yX5_init.cls ≠ "java/lang/invoke/VarHandle" ∧ (parseMethodDescriptor yX5_init.desc).map (fun d => d.parameters.length) = some 0 := by decide +kernel
set_option maxHeartbeats 8000000 in
set_option maxRecDepth 100000 in
theorem k_X1_init {l : Launch} {D : va_G} {cI cB cS : ClassId} {ad : Nat → Nat} {F : Nat → va_E} (hA : hAd ad) (q : Nat) (hthis : F q = .inr (2, [.null, .int (nI 0), .int (nI 0)])) : Cc l D cI cB cS ad (q + 1) 56 yX1_init cX1_init 2 3 103 (2075) [.ref (ad q)] F (fun F' => HiF ad cI cS F' q 0 0 (fun _ => g0) (fun _ => t0) ∧ Fr F F' q (q + 57)) := by
  have hI : ∀ {N : Nat}, iN ad N := hA.iN
  refine x_metc (by decide +kernel) (Nat.le_of_ble_eq_true rfl) (by decide +kernel) ?_
  intro p e s m below meth c X hr hlk hin hAO hs hK hw ls hl
  replace hl : lv_has ls 2 [(0, .ref (ad q))] := hl
  have hfr : Fr F F q (q + 57) := Fr.rf
  refine lv_aload_n X.1 X.2.1 dX1_init_0 rfl (lv_at hl 0 rfl) ?_
  refine x_oi X hl.1 q162 dX1_init_1 (Nat.le_of_ble_eq_true rfl) (Nat.le_of_ble_eq_true rfl) ?_
  refine lv_aload_n X.1 X.2.1 dX1_init_4 rfl (lv_at hl 0 rfl) ?_
  refine lv_iconst (v := nI 5) X.1 X.2.1 dX1_init_5 (by decide) ?_
  refine x_newq X hA hK hAO hw hs (by omega) (N' := 5) rfl (by omega) q163 (Nat.le_of_ble_eq_true rfl) (Nat.le_of_ble_eq_true rfl) dX1_init_6 (fun F1 H eF2 hw => ?_)
  have hn3 : F1 ((q + 1)) = .inl (cS, 5, .inr (.inr (.inr (.inr (fun _ => none))))) := by rw [eF2]; exact up_at
  have hr4 := fr_eq eF2 (Nat.le_refl _) (Nat.lt_succ_self _)
  have hq5 := (hr4 _ (by omega)).trans hthis
  replace hfr := hfr.tr hr4 (by omega) (by omega)
  replace hw : HW D (Af ad ((q + 1)) s.heap.size) ad ((q + 2)) F1 s H _ := hw
  refine x_putF2 X hI hK hw (C := RX1) (T := TX1) (nf := 3) (k := q) (ty := (.array (.object "RegattaTimes$State"))) (v := .ref (ad (q + 1))) (by omega) hq5 rfl inX1 tyX1 tyX1_ok nmX1 0 (by decide) q166 (fun _ h9 => h9) rfl hin rfl (by decide +kernel) rfl rfl (Nat.le_of_ble_eq_true rfl) dX1_init_9 (fun F6 H locs eF7 hw => ?_)
  have hn8 : F6 (q) = .inr (2, [.ref (ad (q + 1)), .int (nI 0), .int (nI 0)]) := by rw [eF7]; exact up_at
  have hr9 := fr_eq eF7 (Nat.le_refl _) (Nat.lt_succ_self _)
  have hq10 := (hr9 _ (by omega)).trans hn3
  replace hfr := hfr.tr hr9 (by omega) (by omega)
  replace hw : HW D (Af ad ((q + 1)) s.heap.size) ad ((q + 2)) F6 s H _ := hw
  refine lv_iconst (v := nI 0) X.1 X.2.1 dX1_init_12 (by decide) ?_
  refine lv_istore_n (lv' := [(1, .int (nI 0)), (0, .ref (ad q))]) X.1 X.2.1 dX1_init_13 rfl hl (by decide) rfl (fun ls hl => ?_)
  replace hl : lv_has ls 2 [(1, .int (nI 0)), (0, .ref (ad q))] := hl
  refine lv_iload_n X.1 X.2.1 dX1_init_14 rfl (lv_at hl 0 rfl) ?_
  refine lv_iconst (v := nI 5) X.1 X.2.1 dX1_init_15 (by decide) ?_
  refine lv_icmp_ge (tgt := 38) X.1 X.2.1 dX1_init_16 (by decide) (fun c11 => ?_) (fun c11 => ?_)
  · exact absurd c11 (by decide +kernel)
  · refine lv_aload_n X.1 X.2.1 dX1_init_19 rfl (lv_at hl 1 rfl) ?_
    refine x_get X hK hw (C := RX1) (T := TX1) (nf := 3) (k := q) (by omega) hn8 rfl inX1 0 (by decide) q166 (fun _ h9 => h9) rfl dX1_init_20 ?_
    refine lv_iload_n X.1 X.2.1 dX1_init_23 rfl (lv_at hl 0 rfl) ?_
    refine x_new X hA hK hw hs (by omega) (C := RX5) (T := TX5) (nf := 10) (ci := 6) (fs := [.int (nI 0), .int (nI 0), .int (nI 0), .int (nI 0), .int (nI 0), .null, .null, .null, .null, .null]) inX5 tyX5 tyX5_ok q163 q29 q2 rfl (fun j hj => by rcases (show j = 0 ∨ j = 1 ∨ j = 2 ∨ j = 3 ∨ j = 4 ∨ j = 5 ∨ j = 6 ∨ j = 7 ∨ j = 8 ∨ j = 9 by omega) with rfl | rfl | rfl | rfl | rfl | rfl | rfl | rfl | rfl | rfl <;> rfl) (Nat.le_of_ble_eq_true rfl) (Nat.le_of_ble_eq_true rfl) dX1_init_24 (fun F12 H eF13 hw => ?_)
    have hn14 : F12 ((q + 2)) = .inr (6, [.int (nI 0), .int (nI 0), .int (nI 0), .int (nI 0), .int (nI 0), .null, .null, .null, .null, .null]) := by rw [eF13]; exact up_at
    have hr15 := fr_eq eF13 (Nat.le_refl _) (Nat.lt_succ_self _)
    have hq16 := (hr15 _ (by omega)).trans hn8
    have hq17 := (hr15 _ (by omega)).trans hq10
    replace hfr := hfr.tr hr15 (by omega) (by omega)
    replace hw : HW D (Af ad ((q + 1)) s.heap.size) ad ((q + 3)) F12 s H _ := hw
    refine lv_dup X.1 X.2.1 dX1_init_27 rfl ?_
    refine x_callI X hA hK hAO hw hs (by omega) (k := (q + 2)) (As := []) (rest := [.ref (ad (q + 2)), .int (nI 0), .ref (ad (q + 1))]) (k_X5_init hA ((q + 2)) hn14) (x_cwI yX5_init cX5_init 2 0 X q165 q31 q2 q32 hi_X5_init ⟨Nat.le_of_ble_eq_true rfl, Nat.le_of_ble_eq_true rfl⟩) rfl hl.1 rfl (Nat.le_of_ble_eq_true rfl) dX1_init_28 ⟨Nat.le_of_ble_eq_true rfl, Nat.le_of_ble_eq_true rfl⟩ (fun F18 H locs hp hw => ?_)
    obtain ⟨hG20, hr19⟩ := hp
    have hq21 := (hr19 _ (by omega)).trans hq16
    have hq22 := (hr19 _ (by omega)).trans hq17
    replace hfr := hfr.tr hr19 (by omega) (by omega)
    replace hw : HW D (Af ad ((q + 1)) s.heap.size) ad ((q + 13)) F18 s H _ := hw
    refine x_aast X hI hK hw (k := (q + 1)) (by omega) hq22 (b := (q + 2)) (by omega) hG20.1 (j := 0) rfl (by omega) (by omega) dX1_init_31 (fun F23 H locs eF24 hw => ?_)
    have hn25 : F23 ((q + 1)) = .inl (cS, 5, .inr (.inr (.inr (.inr (upq (fun _ => none) 0 (some (ad ((q + 2))))))))) := by rw [eF24]; exact up_at
    have hr26 := fr_eq eF24 (Nat.le_refl _) (Nat.lt_succ_self _)
    have hq27 := (hr26 _ (by omega)).trans hq21
    have hq28 := hG20.cg hr26 (by omega)
    replace hfr := hfr.tr hr26 (by omega) (by omega)
    replace hw : HW D (Af ad ((q + 1)) s.heap.size) ad ((q + 13)) F23 s H _ := hw
    refine lv_iinc (v := nI (0 + 1)) (lv' := [(1, .int (nI (0 + 1))), (0, .ref (ad q))]) X.1 X.2.1 dX1_init_32 hl (k := 0) rfl (by first | exact nI_1 _ | exact nI_add _ _ | rfl) (by decide) rfl (fun ls hl => ?_)
    refine lv_goto (tgt := 14) X.1 X.2.1 dX1_init_35 (by decide) ?_
    replace hl : lv_has ls 2 [(1, .int (nI 1)), (0, .ref (ad q))] := hl
    refine lv_iload_n X.1 X.2.1 dX1_init_14 rfl (lv_at hl 0 rfl) ?_
    refine lv_iconst (v := nI 5) X.1 X.2.1 dX1_init_15 (by decide) ?_
    refine lv_icmp_ge (tgt := 38) X.1 X.2.1 dX1_init_16 (by decide) (fun c29 => ?_) (fun c29 => ?_)
    · exact absurd c29 (by decide +kernel)
    · refine lv_aload_n X.1 X.2.1 dX1_init_19 rfl (lv_at hl 1 rfl) ?_
      refine x_get X hK hw (C := RX1) (T := TX1) (nf := 3) (k := q) (by omega) hq27 rfl inX1 0 (by decide) q166 (fun _ h9 => h9) rfl dX1_init_20 ?_
      refine lv_iload_n X.1 X.2.1 dX1_init_23 rfl (lv_at hl 0 rfl) ?_
      refine x_new X hA hK hw hs (by omega) (C := RX5) (T := TX5) (nf := 10) (ci := 6) (fs := [.int (nI 0), .int (nI 0), .int (nI 0), .int (nI 0), .int (nI 0), .null, .null, .null, .null, .null]) inX5 tyX5 tyX5_ok q163 q29 q2 rfl (fun j hj => by rcases (show j = 0 ∨ j = 1 ∨ j = 2 ∨ j = 3 ∨ j = 4 ∨ j = 5 ∨ j = 6 ∨ j = 7 ∨ j = 8 ∨ j = 9 by omega) with rfl | rfl | rfl | rfl | rfl | rfl | rfl | rfl | rfl | rfl <;> rfl) (Nat.le_of_ble_eq_true rfl) (Nat.le_of_ble_eq_true rfl) dX1_init_24 (fun F30 H eF31 hw => ?_)
      have hn32 : F30 ((q + 13)) = .inr (6, [.int (nI 0), .int (nI 0), .int (nI 0), .int (nI 0), .int (nI 0), .null, .null, .null, .null, .null]) := by rw [eF31]; exact up_at
      have hr33 := fr_eq eF31 (Nat.le_refl _) (Nat.lt_succ_self _)
      have hq34 := (hr33 _ (by omega)).trans hq27
      have hq35 := (hr33 _ (by omega)).trans hn25
      have hq36 := hq28.cg hr33 (by omega)
      replace hfr := hfr.tr hr33 (by omega) (by omega)
      replace hw : HW D (Af ad ((q + 1)) s.heap.size) ad ((q + 14)) F30 s H _ := hw
      refine lv_dup X.1 X.2.1 dX1_init_27 rfl ?_
      refine x_callI X hA hK hAO hw hs (by omega) (k := (q + 13)) (As := []) (rest := [.ref (ad (q + 13)), .int (nI 1), .ref (ad (q + 1))]) (k_X5_init hA ((q + 13)) hn32) (x_cwI yX5_init cX5_init 2 0 X q165 q31 q2 q32 hi_X5_init ⟨Nat.le_of_ble_eq_true rfl, Nat.le_of_ble_eq_true rfl⟩) rfl hl.1 rfl (Nat.le_of_ble_eq_true rfl) dX1_init_28 ⟨Nat.le_of_ble_eq_true rfl, Nat.le_of_ble_eq_true rfl⟩ (fun F37 H locs hp hw => ?_)
      obtain ⟨hG39, hr38⟩ := hp
      have hq40 := (hr38 _ (by omega)).trans hq34
      have hq41 := (hr38 _ (by omega)).trans hq35
      have hq42 := hq36.cg hr38 (by omega)
      replace hfr := hfr.tr hr38 (by omega) (by omega)
      replace hw : HW D (Af ad ((q + 1)) s.heap.size) ad ((q + 24)) F37 s H _ := hw
      refine x_aast X hI hK hw (k := (q + 1)) (by omega) hq41 (b := (q + 13)) (by omega) hG39.1 (j := 1) rfl (by omega) (by omega) dX1_init_31 (fun F43 H locs eF44 hw => ?_)
      have hn45 : F43 ((q + 1)) = .inl (cS, 5, .inr (.inr (.inr (.inr (upq (upq (fun _ => none) 0 (some (ad ((q + 2))))) 1 (some (ad ((q + 13))))))))) := by rw [eF44]; exact up_at
      have hr46 := fr_eq eF44 (Nat.le_refl _) (Nat.lt_succ_self _)
      have hq47 := (hr46 _ (by omega)).trans hq40
      have hq48 := hq42.cg hr46 (by omega)
      have hq49 := hG39.cg hr46 (by omega)
      replace hfr := hfr.tr hr46 (by omega) (by omega)
      replace hw : HW D (Af ad ((q + 1)) s.heap.size) ad ((q + 24)) F43 s H _ := hw
      refine lv_iinc (v := nI (1 + 1)) (lv' := [(1, .int (nI (1 + 1))), (0, .ref (ad q))]) X.1 X.2.1 dX1_init_32 hl (k := 0) rfl (by first | exact nI_1 _ | exact nI_add _ _ | rfl) (by decide) rfl (fun ls hl => ?_)
      refine lv_goto (tgt := 14) X.1 X.2.1 dX1_init_35 (by decide) ?_
      replace hl : lv_has ls 2 [(1, .int (nI 2)), (0, .ref (ad q))] := hl
      refine lv_iload_n X.1 X.2.1 dX1_init_14 rfl (lv_at hl 0 rfl) ?_
      refine lv_iconst (v := nI 5) X.1 X.2.1 dX1_init_15 (by decide) ?_
      refine lv_icmp_ge (tgt := 38) X.1 X.2.1 dX1_init_16 (by decide) (fun c50 => ?_) (fun c50 => ?_)
      · exact absurd c50 (by decide +kernel)
      · refine lv_aload_n X.1 X.2.1 dX1_init_19 rfl (lv_at hl 1 rfl) ?_
        refine x_get X hK hw (C := RX1) (T := TX1) (nf := 3) (k := q) (by omega) hq47 rfl inX1 0 (by decide) q166 (fun _ h9 => h9) rfl dX1_init_20 ?_
        refine lv_iload_n X.1 X.2.1 dX1_init_23 rfl (lv_at hl 0 rfl) ?_
        refine x_new X hA hK hw hs (by omega) (C := RX5) (T := TX5) (nf := 10) (ci := 6) (fs := [.int (nI 0), .int (nI 0), .int (nI 0), .int (nI 0), .int (nI 0), .null, .null, .null, .null, .null]) inX5 tyX5 tyX5_ok q163 q29 q2 rfl (fun j hj => by rcases (show j = 0 ∨ j = 1 ∨ j = 2 ∨ j = 3 ∨ j = 4 ∨ j = 5 ∨ j = 6 ∨ j = 7 ∨ j = 8 ∨ j = 9 by omega) with rfl | rfl | rfl | rfl | rfl | rfl | rfl | rfl | rfl | rfl <;> rfl) (Nat.le_of_ble_eq_true rfl) (Nat.le_of_ble_eq_true rfl) dX1_init_24 (fun F51 H eF52 hw => ?_)
        have hn53 : F51 ((q + 24)) = .inr (6, [.int (nI 0), .int (nI 0), .int (nI 0), .int (nI 0), .int (nI 0), .null, .null, .null, .null, .null]) := by rw [eF52]; exact up_at
        have hr54 := fr_eq eF52 (Nat.le_refl _) (Nat.lt_succ_self _)
        have hq55 := (hr54 _ (by omega)).trans hq47
        have hq56 := (hr54 _ (by omega)).trans hn45
        have hq57 := hq48.cg hr54 (by omega)
        have hq58 := hq49.cg hr54 (by omega)
        replace hfr := hfr.tr hr54 (by omega) (by omega)
        replace hw : HW D (Af ad ((q + 1)) s.heap.size) ad ((q + 25)) F51 s H _ := hw
        refine lv_dup X.1 X.2.1 dX1_init_27 rfl ?_
        refine x_callI X hA hK hAO hw hs (by omega) (k := (q + 24)) (As := []) (rest := [.ref (ad (q + 24)), .int (nI 2), .ref (ad (q + 1))]) (k_X5_init hA ((q + 24)) hn53) (x_cwI yX5_init cX5_init 2 0 X q165 q31 q2 q32 hi_X5_init ⟨Nat.le_of_ble_eq_true rfl, Nat.le_of_ble_eq_true rfl⟩) rfl hl.1 rfl (Nat.le_of_ble_eq_true rfl) dX1_init_28 ⟨Nat.le_of_ble_eq_true rfl, Nat.le_of_ble_eq_true rfl⟩ (fun F59 H locs hp hw => ?_)
        obtain ⟨hG61, hr60⟩ := hp
        have hq62 := (hr60 _ (by omega)).trans hq55
        have hq63 := (hr60 _ (by omega)).trans hq56
        have hq64 := hq57.cg hr60 (by omega)
        have hq65 := hq58.cg hr60 (by omega)
        replace hfr := hfr.tr hr60 (by omega) (by omega)
        replace hw : HW D (Af ad ((q + 1)) s.heap.size) ad ((q + 35)) F59 s H _ := hw
        refine x_aast X hI hK hw (k := (q + 1)) (by omega) hq63 (b := (q + 24)) (by omega) hG61.1 (j := 2) rfl (by omega) (by omega) dX1_init_31 (fun F66 H locs eF67 hw => ?_)
        have hn68 : F66 ((q + 1)) = .inl (cS, 5, .inr (.inr (.inr (.inr (upq (upq (upq (fun _ => none) 0 (some (ad ((q + 2))))) 1 (some (ad ((q + 13))))) 2 (some (ad ((q + 24))))))))) := by rw [eF67]; exact up_at
        have hr69 := fr_eq eF67 (Nat.le_refl _) (Nat.lt_succ_self _)
        have hq70 := (hr69 _ (by omega)).trans hq62
        have hq71 := hq64.cg hr69 (by omega)
        have hq72 := hq65.cg hr69 (by omega)
        have hq73 := hG61.cg hr69 (by omega)
        replace hfr := hfr.tr hr69 (by omega) (by omega)
        replace hw : HW D (Af ad ((q + 1)) s.heap.size) ad ((q + 35)) F66 s H _ := hw
        refine lv_iinc (v := nI (2 + 1)) (lv' := [(1, .int (nI (2 + 1))), (0, .ref (ad q))]) X.1 X.2.1 dX1_init_32 hl (k := 0) rfl (by first | exact nI_1 _ | exact nI_add _ _ | rfl) (by decide) rfl (fun ls hl => ?_)
        refine lv_goto (tgt := 14) X.1 X.2.1 dX1_init_35 (by decide) ?_
        replace hl : lv_has ls 2 [(1, .int (nI 3)), (0, .ref (ad q))] := hl
        refine lv_iload_n X.1 X.2.1 dX1_init_14 rfl (lv_at hl 0 rfl) ?_
        refine lv_iconst (v := nI 5) X.1 X.2.1 dX1_init_15 (by decide) ?_
        refine lv_icmp_ge (tgt := 38) X.1 X.2.1 dX1_init_16 (by decide) (fun c74 => ?_) (fun c74 => ?_)
        · exact absurd c74 (by decide +kernel)
        · refine lv_aload_n X.1 X.2.1 dX1_init_19 rfl (lv_at hl 1 rfl) ?_
          refine x_get X hK hw (C := RX1) (T := TX1) (nf := 3) (k := q) (by omega) hq70 rfl inX1 0 (by decide) q166 (fun _ h9 => h9) rfl dX1_init_20 ?_
          refine lv_iload_n X.1 X.2.1 dX1_init_23 rfl (lv_at hl 0 rfl) ?_
          refine x_new X hA hK hw hs (by omega) (C := RX5) (T := TX5) (nf := 10) (ci := 6) (fs := [.int (nI 0), .int (nI 0), .int (nI 0), .int (nI 0), .int (nI 0), .null, .null, .null, .null, .null]) inX5 tyX5 tyX5_ok q163 q29 q2 rfl (fun j hj => by rcases (show j = 0 ∨ j = 1 ∨ j = 2 ∨ j = 3 ∨ j = 4 ∨ j = 5 ∨ j = 6 ∨ j = 7 ∨ j = 8 ∨ j = 9 by omega) with rfl | rfl | rfl | rfl | rfl | rfl | rfl | rfl | rfl | rfl <;> rfl) (Nat.le_of_ble_eq_true rfl) (Nat.le_of_ble_eq_true rfl) dX1_init_24 (fun F75 H eF76 hw => ?_)
          have hn77 : F75 ((q + 35)) = .inr (6, [.int (nI 0), .int (nI 0), .int (nI 0), .int (nI 0), .int (nI 0), .null, .null, .null, .null, .null]) := by rw [eF76]; exact up_at
          have hr78 := fr_eq eF76 (Nat.le_refl _) (Nat.lt_succ_self _)
          have hq79 := (hr78 _ (by omega)).trans hq70
          have hq80 := (hr78 _ (by omega)).trans hn68
          have hq81 := hq71.cg hr78 (by omega)
          have hq82 := hq72.cg hr78 (by omega)
          have hq83 := hq73.cg hr78 (by omega)
          replace hfr := hfr.tr hr78 (by omega) (by omega)
          replace hw : HW D (Af ad ((q + 1)) s.heap.size) ad ((q + 36)) F75 s H _ := hw
          refine lv_dup X.1 X.2.1 dX1_init_27 rfl ?_
          refine x_callI X hA hK hAO hw hs (by omega) (k := (q + 35)) (As := []) (rest := [.ref (ad (q + 35)), .int (nI 3), .ref (ad (q + 1))]) (k_X5_init hA ((q + 35)) hn77) (x_cwI yX5_init cX5_init 2 0 X q165 q31 q2 q32 hi_X5_init ⟨Nat.le_of_ble_eq_true rfl, Nat.le_of_ble_eq_true rfl⟩) rfl hl.1 rfl (Nat.le_of_ble_eq_true rfl) dX1_init_28 ⟨Nat.le_of_ble_eq_true rfl, Nat.le_of_ble_eq_true rfl⟩ (fun F84 H locs hp hw => ?_)
          obtain ⟨hG86, hr85⟩ := hp
          have hq87 := (hr85 _ (by omega)).trans hq79
          have hq88 := (hr85 _ (by omega)).trans hq80
          have hq89 := hq81.cg hr85 (by omega)
          have hq90 := hq82.cg hr85 (by omega)
          have hq91 := hq83.cg hr85 (by omega)
          replace hfr := hfr.tr hr85 (by omega) (by omega)
          replace hw : HW D (Af ad ((q + 1)) s.heap.size) ad ((q + 46)) F84 s H _ := hw
          refine x_aast X hI hK hw (k := (q + 1)) (by omega) hq88 (b := (q + 35)) (by omega) hG86.1 (j := 3) rfl (by omega) (by omega) dX1_init_31 (fun F92 H locs eF93 hw => ?_)
          have hn94 : F92 ((q + 1)) = .inl (cS, 5, .inr (.inr (.inr (.inr (upq (upq (upq (upq (fun _ => none) 0 (some (ad ((q + 2))))) 1 (some (ad ((q + 13))))) 2 (some (ad ((q + 24))))) 3 (some (ad ((q + 35))))))))) := by rw [eF93]; exact up_at
          have hr95 := fr_eq eF93 (Nat.le_refl _) (Nat.lt_succ_self _)
          have hq96 := (hr95 _ (by omega)).trans hq87
          have hq97 := hq89.cg hr95 (by omega)
          have hq98 := hq90.cg hr95 (by omega)
          have hq99 := hq91.cg hr95 (by omega)
          have hq100 := hG86.cg hr95 (by omega)
          replace hfr := hfr.tr hr95 (by omega) (by omega)
          replace hw : HW D (Af ad ((q + 1)) s.heap.size) ad ((q + 46)) F92 s H _ := hw
          refine lv_iinc (v := nI (3 + 1)) (lv' := [(1, .int (nI (3 + 1))), (0, .ref (ad q))]) X.1 X.2.1 dX1_init_32 hl (k := 0) rfl (by first | exact nI_1 _ | exact nI_add _ _ | rfl) (by decide) rfl (fun ls hl => ?_)
          refine lv_goto (tgt := 14) X.1 X.2.1 dX1_init_35 (by decide) ?_
          replace hl : lv_has ls 2 [(1, .int (nI 4)), (0, .ref (ad q))] := hl
          refine lv_iload_n X.1 X.2.1 dX1_init_14 rfl (lv_at hl 0 rfl) ?_
          refine lv_iconst (v := nI 5) X.1 X.2.1 dX1_init_15 (by decide) ?_
          refine lv_icmp_ge (tgt := 38) X.1 X.2.1 dX1_init_16 (by decide) (fun c101 => ?_) (fun c101 => ?_)
          · exact absurd c101 (by decide +kernel)
          · refine lv_aload_n X.1 X.2.1 dX1_init_19 rfl (lv_at hl 1 rfl) ?_
            refine x_get X hK hw (C := RX1) (T := TX1) (nf := 3) (k := q) (by omega) hq96 rfl inX1 0 (by decide) q166 (fun _ h9 => h9) rfl dX1_init_20 ?_
            refine lv_iload_n X.1 X.2.1 dX1_init_23 rfl (lv_at hl 0 rfl) ?_
            refine x_new X hA hK hw hs (by omega) (C := RX5) (T := TX5) (nf := 10) (ci := 6) (fs := [.int (nI 0), .int (nI 0), .int (nI 0), .int (nI 0), .int (nI 0), .null, .null, .null, .null, .null]) inX5 tyX5 tyX5_ok q163 q29 q2 rfl (fun j hj => by rcases (show j = 0 ∨ j = 1 ∨ j = 2 ∨ j = 3 ∨ j = 4 ∨ j = 5 ∨ j = 6 ∨ j = 7 ∨ j = 8 ∨ j = 9 by omega) with rfl | rfl | rfl | rfl | rfl | rfl | rfl | rfl | rfl | rfl <;> rfl) (Nat.le_of_ble_eq_true rfl) (Nat.le_of_ble_eq_true rfl) dX1_init_24 (fun F102 H eF103 hw => ?_)
            have hn104 : F102 ((q + 46)) = .inr (6, [.int (nI 0), .int (nI 0), .int (nI 0), .int (nI 0), .int (nI 0), .null, .null, .null, .null, .null]) := by rw [eF103]; exact up_at
            have hr105 := fr_eq eF103 (Nat.le_refl _) (Nat.lt_succ_self _)
            have hq106 := (hr105 _ (by omega)).trans hq96
            have hq107 := (hr105 _ (by omega)).trans hn94
            have hq108 := hq97.cg hr105 (by omega)
            have hq109 := hq98.cg hr105 (by omega)
            have hq110 := hq99.cg hr105 (by omega)
            have hq111 := hq100.cg hr105 (by omega)
            replace hfr := hfr.tr hr105 (by omega) (by omega)
            replace hw : HW D (Af ad ((q + 1)) s.heap.size) ad ((q + 47)) F102 s H _ := hw
            refine lv_dup X.1 X.2.1 dX1_init_27 rfl ?_
            refine x_callI X hA hK hAO hw hs (by omega) (k := (q + 46)) (As := []) (rest := [.ref (ad (q + 46)), .int (nI 4), .ref (ad (q + 1))]) (k_X5_init hA ((q + 46)) hn104) (x_cwI yX5_init cX5_init 2 0 X q165 q31 q2 q32 hi_X5_init ⟨Nat.le_of_ble_eq_true rfl, Nat.le_of_ble_eq_true rfl⟩) rfl hl.1 rfl (Nat.le_of_ble_eq_true rfl) dX1_init_28 ⟨Nat.le_of_ble_eq_true rfl, Nat.le_of_ble_eq_true rfl⟩ (fun F112 H locs hp hw => ?_)
            obtain ⟨hG114, hr113⟩ := hp
            have hq115 := (hr113 _ (by omega)).trans hq106
            have hq116 := (hr113 _ (by omega)).trans hq107
            have hq117 := hq108.cg hr113 (by omega)
            have hq118 := hq109.cg hr113 (by omega)
            have hq119 := hq110.cg hr113 (by omega)
            have hq120 := hq111.cg hr113 (by omega)
            replace hfr := hfr.tr hr113 (by omega) (by omega)
            replace hw : HW D (Af ad ((q + 1)) s.heap.size) ad ((q + 57)) F112 s H _ := hw
            refine x_aast X hI hK hw (k := (q + 1)) (by omega) hq116 (b := (q + 46)) (by omega) hG114.1 (j := 4) rfl (by omega) (by omega) dX1_init_31 (fun F121 H locs eF122 hw => ?_)
            have hn123 : F121 ((q + 1)) = .inl (cS, 5, .inr (.inr (.inr (.inr (upq (upq (upq (upq (upq (fun _ => none) 0 (some (ad ((q + 2))))) 1 (some (ad ((q + 13))))) 2 (some (ad ((q + 24))))) 3 (some (ad ((q + 35))))) 4 (some (ad ((q + 46))))))))) := by rw [eF122]; exact up_at
            have hr124 := fr_eq eF122 (Nat.le_refl _) (Nat.lt_succ_self _)
            have hq125 := (hr124 _ (by omega)).trans hq115
            have hq126 := hq117.cg hr124 (by omega)
            have hq127 := hq118.cg hr124 (by omega)
            have hq128 := hq119.cg hr124 (by omega)
            have hq129 := hq120.cg hr124 (by omega)
            have hq130 := hG114.cg hr124 (by omega)
            replace hfr := hfr.tr hr124 (by omega) (by omega)
            replace hw : HW D (Af ad ((q + 1)) s.heap.size) ad ((q + 57)) F121 s H _ := hw
            refine lv_iinc (v := nI (4 + 1)) (lv' := [(1, .int (nI (4 + 1))), (0, .ref (ad q))]) X.1 X.2.1 dX1_init_32 hl (k := 0) rfl (by first | exact nI_1 _ | exact nI_add _ _ | rfl) (by decide) rfl (fun ls hl => ?_)
            refine lv_goto (tgt := 14) X.1 X.2.1 dX1_init_35 (by decide) ?_
            replace hl : lv_has ls 2 [(1, .int (nI 5)), (0, .ref (ad q))] := hl
            refine lv_iload_n X.1 X.2.1 dX1_init_14 rfl (lv_at hl 0 rfl) ?_
            refine lv_iconst (v := nI 5) X.1 X.2.1 dX1_init_15 (by decide) ?_
            refine lv_icmp_ge (tgt := 38) X.1 X.2.1 dX1_init_16 (by decide) (fun c131 => ?_) (fun c131 => ?_)
            · replace hw := HW_q (f1 := (fun j => some (ad (q + 2 + 11 * j)))) hw hn123 (fun j hj => by rcases (show j = 0 ∨ j = 1 ∨ j = 2 ∨ j = 3 ∨ j = 4 by omega) with rfl | rfl | rfl | rfl | rfl <;> rfl)
              obtain ⟨F132, eF133⟩ : ∃ y, y = va_up F121 (q + 1) (.inl (cS, 5, .inr (.inr (.inr (.inr (fun j => some (ad (q + 2 + 11 * j)))))))) := ⟨_, rfl⟩
              rw [← eF133] at hw
              have hn134 : F132 (q + 1) = .inl (cS, 5, .inr (.inr (.inr (.inr (fun j => some (ad (q + 2 + 11 * j))))))) := by rw [eF133]; exact up_at
              have hr135 := fr_eq eF133 (Nat.le_refl _) (Nat.lt_succ_self _)
              have hq136 := (hr135 _ (by omega)).trans hq125
              have hq137 := hq126.cg hr135 (by omega)
              have hq138 := hq127.cg hr135 (by omega)
              have hq139 := hq128.cg hr135 (by omega)
              have hq140 := hq129.cg hr135 (by omega)
              have hq141 := hq130.cg hr135 (by omega)
              replace hfr := hfr.tr hr135 (by omega) (by omega)
              exact x_vretc X hr hlk hw (⟨⟨hq136, hn134, lt5 hq137 hq138 hq139 hq140 hq141⟩, hfr⟩) dX1_init_38
            · exact absurd (by decide +kernel) c131
set_option maxHeartbeats 8000000 in
set_option maxRecDepth 100000 in
theorem k_J5_init_d00df {l : Launch} {D : va_G} {cI cB cS : ClassId} {ad : Nat → Nat} {F : Nat → va_E} (hA : hAd ad) (q : Nat) (nn : Nat) (hthis : F q = .inr (0, [.null, .int (nI 0), .int (nI 0), .int (nI 0)])) (hnn : nn < 2 ^ 20) : Cc l D cI cB cS ad (q + 1) 1 yJ5_init_d00df cJ5_init_d00df 2 1 60 (0 + nn) [.ref (ad q), .int (nI nn)] F (fun F' => SbF ad cB F' q nn 0 (nI 0) (fun _ => 0) ∧ Fr F F' q (q + 2)) := by
  have hI : ∀ {N : Nat}, iN ad N := hA.iN
  refine x_metc (by decide +kernel) (Nat.le_of_ble_eq_true rfl) (by decide +kernel) ?_
  intro p e s m below meth c X hr hlk hin hAO hs hK hw ls hl
  replace hl : lv_has ls 2 [(0, .ref (ad q)), (1, .int (nI nn))] := hl
  have hfr : Fr F F q (q + 2) := Fr.rf
  refine lv_aload_n X.1 X.2.1 dJ5_init_d00df_0 rfl (lv_at hl 0 rfl) ?_
  refine x_oi X hl.1 q190 dJ5_init_d00df_1 (Nat.le_of_ble_eq_true rfl) (Nat.le_of_ble_eq_true rfl) ?_
  refine x_latin X hK hw dJ5_init_d00df_4 ?_
  refine x_top (y := nI 1) rfl ?_
  refine lv_if_eq (tgt := 25) X.1 X.2.1 dJ5_init_d00df_7 (by decide) (fun c1 => ?_) (fun c1 => ?_)
  · exact absurd c1 (by decide)
  · refine lv_aload_n X.1 X.2.1 dJ5_init_d00df_10 rfl (lv_at hl 0 rfl) ?_
    refine lv_iload_n X.1 X.2.1 dJ5_init_d00df_11 rfl (lv_at hl 1 rfl) ?_
    refine x_newb X hA hK hw hs (by omega) (N' := nn) rfl (by omega) (Nat.le_of_ble_eq_true rfl) (Nat.le_refl _) dJ5_init_d00df_12 (fun F2 H eF3 hw => ?_)
    have hn4 : F2 ((q + 1)) = .inl (cB, nn, .inl (fun _ => 0)) := by rw [eF3]; exact up_at
    have hr5 := fr_eq eF3 (Nat.le_refl _) (Nat.lt_succ_self _)
    have hq6 := (hr5 _ (by omega)).trans hthis
    replace hfr := hfr.tr hr5 (by omega) (by omega)
    replace hw : HW D (Af ad ((q + 1)) s.heap.size) ad ((q + 2)) F2 s H _ := hw
    refine x_put2 X hI hK hw (C := RJ4) (T := TJ4) (nf := 4) (k := q) (ty := (.array .byte)) (v := .ref (ad (q + 1))) (by omega) hq6 rfl inJ4 tyJ4 tyJ4_ok nmJ4 0 (by decide) q200 (fun _ h9 => h9) rfl (by decide +kernel) rfl rfl (Nat.le_of_ble_eq_true rfl) dJ5_init_d00df_14 (fun F7 H locs eF8 hw => ?_)
    have hn9 : F7 (q) = .inr (0, [.ref (ad (q + 1)), .int (nI 0), .int (nI 0), .int (nI 0)]) := by rw [eF8]; exact up_at
    have hr10 := fr_eq eF8 (Nat.le_refl _) (Nat.lt_succ_self _)
    have hq11 := (hr10 _ (by omega)).trans hn4
    replace hfr := hfr.tr hr10 (by omega) (by omega)
    replace hw : HW D (Af ad ((q + 1)) s.heap.size) ad ((q + 2)) F7 s H _ := hw
    refine lv_aload_n X.1 X.2.1 dJ5_init_d00df_17 rfl (lv_at hl 0 rfl) ?_
    refine lv_iconst (v := nI 0) X.1 X.2.1 dJ5_init_d00df_18 (by decide) ?_
    refine x_put2 X hI hK hw (C := RJ4) (T := TJ4) (nf := 4) (k := q) (ty := .byte) (v := .int (nI 0)) (by omega) hn9 rfl inJ4 tyJ4 tyJ4_ok nmJ4 1 (by decide) q201 (fun _ h9 => h9) rfl (by decide +kernel) (by decide +kernel) rfl (Nat.le_of_ble_eq_true rfl) dJ5_init_d00df_19 (fun F12 H locs eF13 hw => ?_)
    have hn14 : F12 (q) = .inr (0, [.ref (ad (q + 1)), .int (nI 0), .int (nI 0), .int (nI 0)]) := by rw [eF13]; exact up_at
    have hr15 := fr_eq eF13 (Nat.le_refl _) (Nat.lt_succ_self _)
    have hq16 := (hr15 _ (by omega)).trans hq11
    replace hfr := hfr.tr hr15 (by omega) (by omega)
    replace hw : HW D (Af ad ((q + 1)) s.heap.size) ad ((q + 2)) F12 s H _ := hw
    refine lv_goto (tgt := 38) X.1 X.2.1 dJ5_init_d00df_22 (by decide) ?_
    exact x_vretc X hr hlk hw (⟨⟨hn14, hq16⟩, hfr⟩) dJ5_init_d00df_38
theorem hi_J5_init_d00df : yJ5_init_d00df.name = "<init>" ∧ yJ5_init_d00df.cls ≠ "java/lang/invoke/MethodHandle" ∧ yJ5_init_d00df.cls ≠ "java/lang/invoke/VarHandle" ∧ (parseMethodDescriptor yJ5_init_d00df.desc).map (fun d => d.parameters.length) = some 1 := by decide +kernel
set_option maxHeartbeats 8000000 in
set_option maxRecDepth 100000 in
theorem k_J4_init_da8c8 {l : Launch} {D : va_G} {cI cB cS : ClassId} {ad : Nat → Nat} {F : Nat → va_E} (hA : hAd ad) (q : Nat) (hthis : F q = .inr (0, [.null, .int (nI 0), .int (nI 0), .int (nI 0)])) : Cc l D cI cB cS ad (q + 1) 1 yJ4_init_da8c8 cJ4_init_da8c8 1 2 81 (16) [.ref (ad q)] F (fun F' => SbF ad cB F' q 16 0 (nI 0) (fun _ => 0) ∧ Fr F F' q (q + 2)) := by
  have hI : ∀ {N : Nat}, iN ad N := hA.iN
  refine x_metc (by decide +kernel) (Nat.le_of_ble_eq_true rfl) (by decide +kernel) ?_
  intro p e s m below meth c X hr hlk hin hAO hs hK hw ls hl
  replace hl : lv_has ls 1 [(0, .ref (ad q))] := hl
  have hfr : Fr F F q (q + 2) := Fr.rf
  refine lv_aload_n X.1 X.2.1 dJ4_init_da8c8_0 rfl (lv_at hl 0 rfl) ?_
  refine lv_bipush (v := nI 16) X.1 X.2.1 dJ4_init_da8c8_1 (by decide) ?_
  refine x_callI X hA hK hAO hw hs (by omega) (k := q) (As := [.int (nI 16)]) (rest := []) (k_J5_init_d00df hA q 16 hthis (by omega)) (x_cwI yJ5_init_d00df cJ5_init_d00df 2 1 X q187 q188 q10 q189 hi_J5_init_d00df ⟨Nat.le_of_ble_eq_true rfl, Nat.le_of_ble_eq_true rfl⟩) rfl hl.1 rfl (Nat.le_of_ble_eq_true rfl) dJ4_init_da8c8_3 ⟨Nat.le_of_ble_eq_true rfl, Nat.le_of_ble_eq_true rfl⟩ (fun F1 H locs hp hw => ?_)
  obtain ⟨hG3, hr2⟩ := hp
  replace hfr := hfr.tr hr2 (by omega) (by omega)
  replace hw : HW D (Af ad ((q + 1)) s.heap.size) ad ((q + 2)) F1 s H _ := hw
  exact x_vretc X hr hlk hw (⟨hG3, hfr⟩) dJ4_init_da8c8_6
theorem hi_J4_init_da8c8 : yJ4_init_da8c8.name = "<init>" ∧ yJ4_init_da8c8.cls ≠ "java/lang/invoke/MethodHandle" ∧ yJ4_init_da8c8.cls ≠ "java/lang/invoke/VarHandle" ∧ (parseMethodDescriptor yJ4_init_da8c8.desc).map (fun d => d.parameters.length) = some 0 := by decide +kernel
set_option maxHeartbeats 8000000 in
set_option maxRecDepth 100000 in
theorem k_X3_init {l : Launch} {D : va_G} {cI cB cS : ClassId} {ad : Nat → Nat} {F : Nat → va_E} (hA : hAd ad) (q : Nat) (hthis : F q = .inr (4, [.null])) : Cc l D cI cB cS ad (q + 1) 2 yX3_init cX3_init 1 3 101 (20) [.ref (ad q)] F (fun F' => LoF ad F' q ∧ SbF ad cB F' (q + 1) 16 0 (nI 0) (fun _ => 0) ∧ Fr F F' q (q + 3)) := by
  have hI : ∀ {N : Nat}, iN ad N := hA.iN
  refine x_metc (by decide +kernel) (Nat.le_of_ble_eq_true rfl) (by decide +kernel) ?_
  intro p e s m below meth c X hr hlk hin hAO hs hK hw ls hl
  replace hl : lv_has ls 1 [(0, .ref (ad q))] := hl
  have hfr : Fr F F q (q + 3) := Fr.rf
  refine lv_aload_n X.1 X.2.1 dX3_init_0 rfl (lv_at hl 0 rfl) ?_
  refine x_oi X hl.1 q181 dX3_init_1 (Nat.le_of_ble_eq_true rfl) (Nat.le_of_ble_eq_true rfl) ?_
  refine lv_aload_n X.1 X.2.1 dX3_init_4 rfl (lv_at hl 0 rfl) ?_
  refine x_new X hA hK hw hs (by omega) (C := RJ4) (T := TJ4) (nf := 4) (ci := 0) (fs := [.null, .int (nI 0), .int (nI 0), .int (nI 0)]) inJ4 tyJ4 tyJ4_ok q182 q183 q11 rfl (fun j hj => by rcases (show j = 0 ∨ j = 1 ∨ j = 2 ∨ j = 3 by omega) with rfl | rfl | rfl | rfl <;> rfl) (Nat.le_of_ble_eq_true rfl) (Nat.le_of_ble_eq_true rfl) dX3_init_5 (fun F1 H eF2 hw => ?_)
  have hn3 : F1 ((q + 1)) = .inr (0, [.null, .int (nI 0), .int (nI 0), .int (nI 0)]) := by rw [eF2]; exact up_at
  have hr4 := fr_eq eF2 (Nat.le_refl _) (Nat.lt_succ_self _)
  have hq5 := (hr4 _ (by omega)).trans hthis
  replace hfr := hfr.tr hr4 (by omega) (by omega)
  replace hw : HW D (Af ad ((q + 1)) s.heap.size) ad ((q + 2)) F1 s H _ := hw
  refine lv_dup X.1 X.2.1 dX3_init_8 rfl ?_
  refine x_callI X hA hK hAO hw hs (by omega) (k := (q + 1)) (As := []) (rest := [.ref (ad (q + 1)), .ref (ad q)]) (k_J4_init_da8c8 hA ((q + 1)) hn3) (x_cwI yJ4_init_da8c8 cJ4_init_da8c8 1 0 X q184 q185 q11 q186 hi_J4_init_da8c8 ⟨Nat.le_of_ble_eq_true rfl, Nat.le_of_ble_eq_true rfl⟩) rfl hl.1 rfl (Nat.le_of_ble_eq_true rfl) dX3_init_9 ⟨Nat.le_of_ble_eq_true rfl, Nat.le_of_ble_eq_true rfl⟩ (fun F6 H locs hp hw => ?_)
  obtain ⟨hG8, hr7⟩ := hp
  have hq9 := (hr7 _ (by omega)).trans hq5
  replace hfr := hfr.tr hr7 (by omega) (by omega)
  replace hw : HW D (Af ad ((q + 1)) s.heap.size) ad ((q + 3)) F6 s H _ := hw
  refine x_putF2 X hI hK hw (C := RX3) (T := TX3) (nf := 1) (k := q) (ty := (.object "java/lang/StringBuilder")) (v := .ref (ad (q + 1))) (by omega) hq9 rfl inX3 tyX3 tyX3_ok nmX3 0 (by decide) q214 (fun _ h9 => h9) rfl hin rfl (by decide +kernel) rfl rfl (Nat.le_of_ble_eq_true rfl) dX3_init_12 (fun F10 H locs eF11 hw => ?_)
  have hn12 : F10 (q) = .inr (4, [.ref (ad (q + 1))]) := by rw [eF11]; exact up_at
  have hr13 := fr_eq eF11 (Nat.le_refl _) (Nat.lt_succ_self _)
  have hq14 := hG8.cg hr13 (by omega)
  replace hfr := hfr.tr hr13 (by omega) (by omega)
  replace hw : HW D (Af ad ((q + 1)) s.heap.size) ad ((q + 3)) F10 s H _ := hw
  exact x_vretc X hr hlk hw (⟨hn12, hq14, hfr⟩) dX3_init_15
theorem hi_X4_init : yX4_init.name = "<init>" ∧ yX4_init.cls ≠ "java/lang/invoke/MethodHandle" ∧ yX4_init.cls ≠ "java/lang/invoke/VarHandle" ∧ (parseMethodDescriptor yX4_init.desc).map (fun d => d.parameters.length) = some 1 := by decide +kernel
theorem hi_X3_init : yX3_init.name = "<init>" ∧ yX3_init.cls ≠ "java/lang/invoke/MethodHandle" ∧ yX3_init.cls ≠ "java/lang/invoke/VarHandle" ∧ (parseMethodDescriptor yX3_init.desc).map (fun d => d.parameters.length) = some 0 := by decide +kernel
theorem hi_X2_init : yX2_init.name = "<init>" ∧ yX2_init.cls ≠ "java/lang/invoke/MethodHandle" ∧ yX2_init.cls ≠ "java/lang/invoke/VarHandle" ∧ (parseMethodDescriptor yX2_init.desc).map (fun d => d.parameters.length) = some 1 := by decide +kernel
theorem hi_X1_init : yX1_init.name = "<init>" ∧ yX1_init.cls ≠ "java/lang/invoke/MethodHandle" ∧ yX1_init.cls ≠ "java/lang/invoke/VarHandle" ∧ (parseMethodDescriptor yX1_init.desc).map (fun d => d.parameters.length) = some 0 := by decide +kernel
theorem hi_X0_init : yX0_init.name = "<init>" ∧ yX0_init.cls ≠ "java/lang/invoke/MethodHandle" ∧ yX0_init.cls ≠ "java/lang/invoke/VarHandle" ∧ (parseMethodDescriptor yX0_init.desc).map (fun d => d.parameters.length) = some 1 := by decide +kernel
set_option maxHeartbeats 8000000 in
set_option maxRecDepth 100000 in
theorem k_X7_init {l : Launch} {D : va_G} {cI cB cS : ClassId} {ad : Nat → Nat} {F : Nat → va_E} (hA : hAd ad) (q : Nat) (hthis : F q = .inr (8, [.null, .null, .null, .null, .null, .null, .null, .null, .int (nI 0), .null])) : Cc l D cI cB cS ad (q + 1) 113 yX7_init cX7_init 1 4 124 (3747) [.ref (ad q)] F (fun F' => MaF ad F' q (nI 0) ∧ StF ad cI F' (q + 1) g0 t0 ∧ CoF ad F' (q + 12) (q + 1) ∧ JuF ad F' (q + 13) (q + 1) ∧ ScF ad cI F' (q + 14) (q + 1) (fun _ => 0) (fun _ => 0) (fun _ => 0) (fun _ => 0) ∧ StF ad cI F' (q + 23) g0 t0 ∧ ScF ad cI F' (q + 34) (q + 23) (fun _ => 0) (fun _ => 0) (fun _ => 0) (fun _ => 0) ∧ HiF ad cI cS F' (q + 43) 0 0 (fun _ => g0) (fun _ => t0) ∧ StF ad cI F' (q + 100) g0 t0 ∧ LoF ad F' (q + 111) ∧ SbF ad cB F' (q + 112) 16 0 (nI 0) (fun _ => 0) ∧ Fr F F' q (q + 114)) := by
  have hI : ∀ {N : Nat}, iN ad N := hA.iN
  refine x_metc (by decide +kernel) (Nat.le_of_ble_eq_true rfl) (by decide +kernel) ?_
  intro p e s m below meth c X hr hlk hin hAO hs hK hw ls hl
  replace hl : lv_has ls 1 [(0, .ref (ad q))] := hl
  have hfr : Fr F F q (q + 114) := Fr.rf
  refine lv_aload_n X.1 X.2.1 dX7_init_0 rfl (lv_at hl 0 rfl) ?_
  refine x_oi X hl.1 q25 dX7_init_1 (Nat.le_of_ble_eq_true rfl) (Nat.le_of_ble_eq_true rfl) ?_
  refine lv_aload_n X.1 X.2.1 dX7_init_4 rfl (lv_at hl 0 rfl) ?_
  refine x_new X hA hK hw hs (by omega) (C := RX5) (T := TX5) (nf := 10) (ci := 6) (fs := [.int (nI 0), .int (nI 0), .int (nI 0), .int (nI 0), .int (nI 0), .null, .null, .null, .null, .null]) inX5 tyX5 tyX5_ok q28 q29 q2 rfl (fun j hj => by rcases (show j = 0 ∨ j = 1 ∨ j = 2 ∨ j = 3 ∨ j = 4 ∨ j = 5 ∨ j = 6 ∨ j = 7 ∨ j = 8 ∨ j = 9 by omega) with rfl | rfl | rfl | rfl | rfl | rfl | rfl | rfl | rfl | rfl <;> rfl) (Nat.le_of_ble_eq_true rfl) (Nat.le_of_ble_eq_true rfl) dX7_init_5 (fun F1 H eF2 hw => ?_)
  have hn3 : F1 ((q + 1)) = .inr (6, [.int (nI 0), .int (nI 0), .int (nI 0), .int (nI 0), .int (nI 0), .null, .null, .null, .null, .null]) := by rw [eF2]; exact up_at
  have hr4 := fr_eq eF2 (Nat.le_refl _) (Nat.lt_succ_self _)
  have hq5 := (hr4 _ (by omega)).trans hthis
  replace hfr := hfr.tr hr4 (by omega) (by omega)
  replace hw : HW D (Af ad ((q + 1)) s.heap.size) ad ((q + 2)) F1 s H _ := hw
  refine lv_dup X.1 X.2.1 dX7_init_8 rfl ?_
  refine x_callI X hA hK hAO hw hs (by omega) (k := (q + 1)) (As := []) (rest := [.ref (ad (q + 1)), .ref (ad q)]) (k_X5_init hA ((q + 1)) hn3) (x_cwI yX5_init cX5_init 2 0 X q30 q31 q2 q32 hi_X5_init ⟨Nat.le_of_ble_eq_true rfl, Nat.le_of_ble_eq_true rfl⟩) rfl hl.1 rfl (Nat.le_of_ble_eq_true rfl) dX7_init_9 ⟨Nat.le_of_ble_eq_true rfl, Nat.le_of_ble_eq_true rfl⟩ (fun F6 H locs hp hw => ?_)
  obtain ⟨hG8, hr7⟩ := hp
  have hq9 := (hr7 _ (by omega)).trans hq5
  replace hfr := hfr.tr hr7 (by omega) (by omega)
  replace hw : HW D (Af ad ((q + 1)) s.heap.size) ad ((q + 12)) F6 s H _ := hw
  refine x_putF2 X hI hK hw (C := RX7) (T := TX7) (nf := 10) (k := q) (ty := (.object "RegattaTimes$State")) (v := .ref (ad (q + 1))) (by omega) hq9 rfl inX7 tyX7 tyX7_ok nmX7 0 (by decide) q218 (fun _ h9 => h9) rfl hin rfl (by decide +kernel) rfl rfl (Nat.le_of_ble_eq_true rfl) dX7_init_12 (fun F10 H locs eF11 hw => ?_)
  have hn12 : F10 (q) = .inr (8, [.ref (ad (q + 1)), .null, .null, .null, .null, .null, .null, .null, .int (nI 0), .null]) := by rw [eF11]; exact up_at
  have hr13 := fr_eq eF11 (Nat.le_refl _) (Nat.lt_succ_self _)
  have hq14 := hG8.cg hr13 (by omega)
  replace hfr := hfr.tr hr13 (by omega) (by omega)
  replace hw : HW D (Af ad ((q + 1)) s.heap.size) ad ((q + 12)) F10 s H _ := hw
  refine lv_aload_n X.1 X.2.1 dX7_init_15 rfl (lv_at hl 0 rfl) ?_
  refine x_new X hA hK hw hs (by omega) (C := RX0) (T := TX0) (nf := 1) (ci := 1) (fs := [.null]) inX0 tyX0 tyX0_ok q113 q114 q5 rfl (fun j hj => by rcases (show j = 0 by omega) with rfl <;> rfl) (Nat.le_of_ble_eq_true rfl) (Nat.le_of_ble_eq_true rfl) dX7_init_16 (fun F15 H eF16 hw => ?_)
  have hn17 : F15 ((q + 12)) = .inr (1, [.null]) := by rw [eF16]; exact up_at
  have hr18 := fr_eq eF16 (Nat.le_refl _) (Nat.lt_succ_self _)
  have hq19 := (hr18 _ (by omega)).trans hn12
  have hq20 := hq14.cg hr18 (by omega)
  replace hfr := hfr.tr hr18 (by omega) (by omega)
  replace hw : HW D (Af ad ((q + 1)) s.heap.size) ad ((q + 13)) F15 s H _ := hw
  refine lv_dup X.1 X.2.1 dX7_init_19 rfl ?_
  refine lv_aload_n X.1 X.2.1 dX7_init_20 rfl (lv_at hl 0 rfl) ?_
  refine x_get X hK hw (C := RX7) (T := TX7) (nf := 10) (k := q) (by omega) hq19 rfl inX7 0 (by decide) q218 (fun _ h9 => h9) rfl dX7_init_21 ?_
  refine x_callI X hA hK hAO hw hs (by omega) (k := (q + 12)) (As := [.ref (ad (q + 1))]) (rest := [.ref (ad (q + 12)), .ref (ad q)]) (k_X0_init hA ((q + 12)) ((q + 1)) hn17) (x_cwI yX0_init cX0_init 2 1 X q115 q116 q5 q117 hi_X0_init ⟨Nat.le_of_ble_eq_true rfl, Nat.le_of_ble_eq_true rfl⟩) rfl hl.1 rfl (Nat.le_of_ble_eq_true rfl) dX7_init_24 ⟨Nat.le_of_ble_eq_true rfl, Nat.le_of_ble_eq_true rfl⟩ (fun F21 H locs hp hw => ?_)
  obtain ⟨hG23, hr22⟩ := hp
  have hq24 := (hr22 _ (by omega)).trans hq19
  have hq25 := hq20.cg hr22 (by omega)
  replace hfr := hfr.tr hr22 (by omega) (by omega)
  replace hw : HW D (Af ad ((q + 1)) s.heap.size) ad ((q + 13)) F21 s H _ := hw
  refine x_putF2 X hI hK hw (C := RX7) (T := TX7) (nf := 10) (k := q) (ty := (.object "RegattaTimes$Committee")) (v := .ref (ad (q + 12))) (by omega) hq24 rfl inX7 tyX7 tyX7_ok nmX7 1 (by decide) q219 (fun _ h9 => h9) rfl hin rfl (by decide +kernel) rfl rfl (Nat.le_of_ble_eq_true rfl) dX7_init_27 (fun F26 H locs eF27 hw => ?_)
  have hn28 : F26 (q) = .inr (8, [.ref (ad (q + 1)), .ref (ad (q + 12)), .null, .null, .null, .null, .null, .null, .int (nI 0), .null]) := by rw [eF27]; exact up_at
  have hr29 := fr_eq eF27 (Nat.le_refl _) (Nat.lt_succ_self _)
  have hq30 := hq25.cg hr29 (by omega)
  have hq31 := (hr29 _ (by omega)).trans hG23
  replace hfr := hfr.tr hr29 (by omega) (by omega)
  replace hw : HW D (Af ad ((q + 1)) s.heap.size) ad ((q + 13)) F26 s H _ := hw
  refine lv_aload_n X.1 X.2.1 dX7_init_30 rfl (lv_at hl 0 rfl) ?_
  refine x_new X hA hK hw hs (by omega) (C := RX2) (T := TX2) (nf := 1) (ci := 3) (fs := [.null]) inX2 tyX2 tyX2_ok q123 q124 q6 rfl (fun j hj => by rcases (show j = 0 by omega) with rfl <;> rfl) (Nat.le_of_ble_eq_true rfl) (Nat.le_of_ble_eq_true rfl) dX7_init_31 (fun F32 H eF33 hw => ?_)
  have hn34 : F32 ((q + 13)) = .inr (3, [.null]) := by rw [eF33]; exact up_at
  have hr35 := fr_eq eF33 (Nat.le_refl _) (Nat.lt_succ_self _)
  have hq36 := (hr35 _ (by omega)).trans hn28
  have hq37 := hq30.cg hr35 (by omega)
  have hq38 := (hr35 _ (by omega)).trans hq31
  replace hfr := hfr.tr hr35 (by omega) (by omega)
  replace hw : HW D (Af ad ((q + 1)) s.heap.size) ad ((q + 14)) F32 s H _ := hw
  refine lv_dup X.1 X.2.1 dX7_init_34 rfl ?_
  refine lv_aload_n X.1 X.2.1 dX7_init_35 rfl (lv_at hl 0 rfl) ?_
  refine x_get X hK hw (C := RX7) (T := TX7) (nf := 10) (k := q) (by omega) hq36 rfl inX7 0 (by decide) q218 (fun _ h9 => h9) rfl dX7_init_36 ?_
  refine x_callI X hA hK hAO hw hs (by omega) (k := (q + 13)) (As := [.ref (ad (q + 1))]) (rest := [.ref (ad (q + 13)), .ref (ad q)]) (k_X2_init hA ((q + 13)) ((q + 1)) hn34) (x_cwI yX2_init cX2_init 2 1 X q125 q126 q6 q127 hi_X2_init ⟨Nat.le_of_ble_eq_true rfl, Nat.le_of_ble_eq_true rfl⟩) rfl hl.1 rfl (Nat.le_of_ble_eq_true rfl) dX7_init_39 ⟨Nat.le_of_ble_eq_true rfl, Nat.le_of_ble_eq_true rfl⟩ (fun F39 H locs hp hw => ?_)
  obtain ⟨hG41, hr40⟩ := hp
  have hq42 := (hr40 _ (by omega)).trans hq36
  have hq43 := hq37.cg hr40 (by omega)
  have hq44 := (hr40 _ (by omega)).trans hq38
  replace hfr := hfr.tr hr40 (by omega) (by omega)
  replace hw : HW D (Af ad ((q + 1)) s.heap.size) ad ((q + 14)) F39 s H _ := hw
  refine x_putF2 X hI hK hw (C := RX7) (T := TX7) (nf := 10) (k := q) (ty := (.object "RegattaTimes$Jury")) (v := .ref (ad (q + 13))) (by omega) hq42 rfl inX7 tyX7 tyX7_ok nmX7 2 (by decide) q220 (fun _ h9 => h9) rfl hin rfl (by decide +kernel) rfl rfl (Nat.le_of_ble_eq_true rfl) dX7_init_42 (fun F45 H locs eF46 hw => ?_)
  have hn47 : F45 (q) = .inr (8, [.ref (ad (q + 1)), .ref (ad (q + 12)), .ref (ad (q + 13)), .null, .null, .null, .null, .null, .int (nI 0), .null]) := by rw [eF46]; exact up_at
  have hr48 := fr_eq eF46 (Nat.le_refl _) (Nat.lt_succ_self _)
  have hq49 := hq43.cg hr48 (by omega)
  have hq50 := (hr48 _ (by omega)).trans hq44
  have hq51 := (hr48 _ (by omega)).trans hG41
  replace hfr := hfr.tr hr48 (by omega) (by omega)
  replace hw : HW D (Af ad ((q + 1)) s.heap.size) ad ((q + 14)) F45 s H _ := hw
  refine lv_aload_n X.1 X.2.1 dX7_init_45 rfl (lv_at hl 0 rfl) ?_
  refine x_new X hA hK hw hs (by omega) (C := RX4) (T := TX4) (nf := 5) (ci := 5) (fs := [.null, .null, .null, .null, .null]) inX4 tyX4 tyX4_ok q133 q134 q7 rfl (fun j hj => by rcases (show j = 0 ∨ j = 1 ∨ j = 2 ∨ j = 3 ∨ j = 4 by omega) with rfl | rfl | rfl | rfl | rfl <;> rfl) (Nat.le_of_ble_eq_true rfl) (Nat.le_of_ble_eq_true rfl) dX7_init_46 (fun F52 H eF53 hw => ?_)
  have hn54 : F52 ((q + 14)) = .inr (5, [.null, .null, .null, .null, .null]) := by rw [eF53]; exact up_at
  have hr55 := fr_eq eF53 (Nat.le_refl _) (Nat.lt_succ_self _)
  have hq56 := (hr55 _ (by omega)).trans hn47
  have hq57 := hq49.cg hr55 (by omega)
  have hq58 := (hr55 _ (by omega)).trans hq50
  have hq59 := (hr55 _ (by omega)).trans hq51
  replace hfr := hfr.tr hr55 (by omega) (by omega)
  replace hw : HW D (Af ad ((q + 1)) s.heap.size) ad ((q + 15)) F52 s H _ := hw
  refine lv_dup X.1 X.2.1 dX7_init_49 rfl ?_
  refine lv_aload_n X.1 X.2.1 dX7_init_50 rfl (lv_at hl 0 rfl) ?_
  refine x_get X hK hw (C := RX7) (T := TX7) (nf := 10) (k := q) (by omega) hq56 rfl inX7 0 (by decide) q218 (fun _ h9 => h9) rfl dX7_init_51 ?_
  refine x_callI X hA hK hAO hw hs (by omega) (k := (q + 14)) (As := [.ref (ad (q + 1))]) (rest := [.ref (ad (q + 14)), .ref (ad q)]) (k_X4_init hA ((q + 14)) ((q + 1)) hn54) (x_cwI yX4_init cX4_init 2 1 X q135 q136 q7 q137 hi_X4_init ⟨Nat.le_of_ble_eq_true rfl, Nat.le_of_ble_eq_true rfl⟩) rfl hl.1 rfl (Nat.le_of_ble_eq_true rfl) dX7_init_54 ⟨Nat.le_of_ble_eq_true rfl, Nat.le_of_ble_eq_true rfl⟩ (fun F60 H locs hp hw => ?_)
  obtain ⟨hG62, hr61⟩ := hp
  have hq63 := (hr61 _ (by omega)).trans hq56
  have hq64 := hq57.cg hr61 (by omega)
  have hq65 := (hr61 _ (by omega)).trans hq58
  have hq66 := (hr61 _ (by omega)).trans hq59
  replace hfr := hfr.tr hr61 (by omega) (by omega)
  replace hw : HW D (Af ad ((q + 1)) s.heap.size) ad ((q + 23)) F60 s H _ := hw
  refine x_putF2 X hI hK hw (C := RX7) (T := TX7) (nf := 10) (k := q) (ty := (.object "RegattaTimes$Scores")) (v := .ref (ad (q + 14))) (by omega) hq63 rfl inX7 tyX7 tyX7_ok nmX7 3 (by decide) q221 (fun _ h9 => h9) rfl hin rfl (by decide +kernel) rfl rfl (Nat.le_of_ble_eq_true rfl) dX7_init_57 (fun F67 H locs eF68 hw => ?_)
  have hn69 : F67 (q) = .inr (8, [.ref (ad (q + 1)), .ref (ad (q + 12)), .ref (ad (q + 13)), .ref (ad (q + 14)), .null, .null, .null, .null, .int (nI 0), .null]) := by rw [eF68]; exact up_at
  have hr70 := fr_eq eF68 (Nat.le_refl _) (Nat.lt_succ_self _)
  have hq71 := hq64.cg hr70 (by omega)
  have hq72 := (hr70 _ (by omega)).trans hq65
  have hq73 := (hr70 _ (by omega)).trans hq66
  have hq74 := hG62.cg hr70 (by omega)
  replace hfr := hfr.tr hr70 (by omega) (by omega)
  replace hw : HW D (Af ad ((q + 1)) s.heap.size) ad ((q + 23)) F67 s H _ := hw
  refine lv_aload_n X.1 X.2.1 dX7_init_60 rfl (lv_at hl 0 rfl) ?_
  refine x_new X hA hK hw hs (by omega) (C := RX5) (T := TX5) (nf := 10) (ci := 6) (fs := [.int (nI 0), .int (nI 0), .int (nI 0), .int (nI 0), .int (nI 0), .null, .null, .null, .null, .null]) inX5 tyX5 tyX5_ok q28 q29 q2 rfl (fun j hj => by rcases (show j = 0 ∨ j = 1 ∨ j = 2 ∨ j = 3 ∨ j = 4 ∨ j = 5 ∨ j = 6 ∨ j = 7 ∨ j = 8 ∨ j = 9 by omega) with rfl | rfl | rfl | rfl | rfl | rfl | rfl | rfl | rfl | rfl <;> rfl) (Nat.le_of_ble_eq_true rfl) (Nat.le_of_ble_eq_true rfl) dX7_init_61 (fun F75 H eF76 hw => ?_)
  have hn77 : F75 ((q + 23)) = .inr (6, [.int (nI 0), .int (nI 0), .int (nI 0), .int (nI 0), .int (nI 0), .null, .null, .null, .null, .null]) := by rw [eF76]; exact up_at
  have hr78 := fr_eq eF76 (Nat.le_refl _) (Nat.lt_succ_self _)
  have hq79 := (hr78 _ (by omega)).trans hn69
  have hq80 := hq71.cg hr78 (by omega)
  have hq81 := (hr78 _ (by omega)).trans hq72
  have hq82 := (hr78 _ (by omega)).trans hq73
  have hq83 := hq74.cg hr78 (by omega)
  replace hfr := hfr.tr hr78 (by omega) (by omega)
  replace hw : HW D (Af ad ((q + 1)) s.heap.size) ad ((q + 24)) F75 s H _ := hw
  refine lv_dup X.1 X.2.1 dX7_init_64 rfl ?_
  refine x_callI X hA hK hAO hw hs (by omega) (k := (q + 23)) (As := []) (rest := [.ref (ad (q + 23)), .ref (ad q)]) (k_X5_init hA ((q + 23)) hn77) (x_cwI yX5_init cX5_init 2 0 X q30 q31 q2 q32 hi_X5_init ⟨Nat.le_of_ble_eq_true rfl, Nat.le_of_ble_eq_true rfl⟩) rfl hl.1 rfl (Nat.le_of_ble_eq_true rfl) dX7_init_65 ⟨Nat.le_of_ble_eq_true rfl, Nat.le_of_ble_eq_true rfl⟩ (fun F84 H locs hp hw => ?_)
  obtain ⟨hG86, hr85⟩ := hp
  have hq87 := (hr85 _ (by omega)).trans hq79
  have hq88 := hq80.cg hr85 (by omega)
  have hq89 := (hr85 _ (by omega)).trans hq81
  have hq90 := (hr85 _ (by omega)).trans hq82
  have hq91 := hq83.cg hr85 (by omega)
  replace hfr := hfr.tr hr85 (by omega) (by omega)
  replace hw : HW D (Af ad ((q + 1)) s.heap.size) ad ((q + 34)) F84 s H _ := hw
  refine x_putF2 X hI hK hw (C := RX7) (T := TX7) (nf := 10) (k := q) (ty := (.object "RegattaTimes$State")) (v := .ref (ad (q + 23))) (by omega) hq87 rfl inX7 tyX7 tyX7_ok nmX7 4 (by decide) q222 (fun _ h9 => h9) rfl hin rfl (by decide +kernel) rfl rfl (Nat.le_of_ble_eq_true rfl) dX7_init_68 (fun F92 H locs eF93 hw => ?_)
  have hn94 : F92 (q) = .inr (8, [.ref (ad (q + 1)), .ref (ad (q + 12)), .ref (ad (q + 13)), .ref (ad (q + 14)), .ref (ad (q + 23)), .null, .null, .null, .int (nI 0), .null]) := by rw [eF93]; exact up_at
  have hr95 := fr_eq eF93 (Nat.le_refl _) (Nat.lt_succ_self _)
  have hq96 := hq88.cg hr95 (by omega)
  have hq97 := (hr95 _ (by omega)).trans hq89
  have hq98 := (hr95 _ (by omega)).trans hq90
  have hq99 := hq91.cg hr95 (by omega)
  have hq100 := hG86.cg hr95 (by omega)
  replace hfr := hfr.tr hr95 (by omega) (by omega)
  replace hw : HW D (Af ad ((q + 1)) s.heap.size) ad ((q + 34)) F92 s H _ := hw
  refine lv_aload_n X.1 X.2.1 dX7_init_71 rfl (lv_at hl 0 rfl) ?_
  refine x_new X hA hK hw hs (by omega) (C := RX4) (T := TX4) (nf := 5) (ci := 5) (fs := [.null, .null, .null, .null, .null]) inX4 tyX4 tyX4_ok q133 q134 q7 rfl (fun j hj => by rcases (show j = 0 ∨ j = 1 ∨ j = 2 ∨ j = 3 ∨ j = 4 by omega) with rfl | rfl | rfl | rfl | rfl <;> rfl) (Nat.le_of_ble_eq_true rfl) (Nat.le_of_ble_eq_true rfl) dX7_init_72 (fun F101 H eF102 hw => ?_)
  have hn103 : F101 ((q + 34)) = .inr (5, [.null, .null, .null, .null, .null]) := by rw [eF102]; exact up_at
  have hr104 := fr_eq eF102 (Nat.le_refl _) (Nat.lt_succ_self _)
  have hq105 := (hr104 _ (by omega)).trans hn94
  have hq106 := hq96.cg hr104 (by omega)
  have hq107 := (hr104 _ (by omega)).trans hq97
  have hq108 := (hr104 _ (by omega)).trans hq98
  have hq109 := hq99.cg hr104 (by omega)
  have hq110 := hq100.cg hr104 (by omega)
  replace hfr := hfr.tr hr104 (by omega) (by omega)
  replace hw : HW D (Af ad ((q + 1)) s.heap.size) ad ((q + 35)) F101 s H _ := hw
  refine lv_dup X.1 X.2.1 dX7_init_75 rfl ?_
  refine lv_aload_n X.1 X.2.1 dX7_init_76 rfl (lv_at hl 0 rfl) ?_
  refine x_get X hK hw (C := RX7) (T := TX7) (nf := 10) (k := q) (by omega) hq105 rfl inX7 4 (by decide) q222 (fun _ h9 => h9) rfl dX7_init_77 ?_
  refine x_callI X hA hK hAO hw hs (by omega) (k := (q + 34)) (As := [.ref (ad (q + 23))]) (rest := [.ref (ad (q + 34)), .ref (ad q)]) (k_X4_init hA ((q + 34)) ((q + 23)) hn103) (x_cwI yX4_init cX4_init 2 1 X q135 q136 q7 q137 hi_X4_init ⟨Nat.le_of_ble_eq_true rfl, Nat.le_of_ble_eq_true rfl⟩) rfl hl.1 rfl (Nat.le_of_ble_eq_true rfl) dX7_init_80 ⟨Nat.le_of_ble_eq_true rfl, Nat.le_of_ble_eq_true rfl⟩ (fun F111 H locs hp hw => ?_)
  obtain ⟨hG113, hr112⟩ := hp
  have hq114 := (hr112 _ (by omega)).trans hq105
  have hq115 := hq106.cg hr112 (by omega)
  have hq116 := (hr112 _ (by omega)).trans hq107
  have hq117 := (hr112 _ (by omega)).trans hq108
  have hq118 := hq109.cg hr112 (by omega)
  have hq119 := hq110.cg hr112 (by omega)
  replace hfr := hfr.tr hr112 (by omega) (by omega)
  replace hw : HW D (Af ad ((q + 1)) s.heap.size) ad ((q + 43)) F111 s H _ := hw
  refine x_putF2 X hI hK hw (C := RX7) (T := TX7) (nf := 10) (k := q) (ty := (.object "RegattaTimes$Scores")) (v := .ref (ad (q + 34))) (by omega) hq114 rfl inX7 tyX7 tyX7_ok nmX7 5 (by decide) q223 (fun _ h9 => h9) rfl hin rfl (by decide +kernel) rfl rfl (Nat.le_of_ble_eq_true rfl) dX7_init_83 (fun F120 H locs eF121 hw => ?_)
  have hn122 : F120 (q) = .inr (8, [.ref (ad (q + 1)), .ref (ad (q + 12)), .ref (ad (q + 13)), .ref (ad (q + 14)), .ref (ad (q + 23)), .ref (ad (q + 34)), .null, .null, .int (nI 0), .null]) := by rw [eF121]; exact up_at
  have hr123 := fr_eq eF121 (Nat.le_refl _) (Nat.lt_succ_self _)
  have hq124 := hq115.cg hr123 (by omega)
  have hq125 := (hr123 _ (by omega)).trans hq116
  have hq126 := (hr123 _ (by omega)).trans hq117
  have hq127 := hq118.cg hr123 (by omega)
  have hq128 := hq119.cg hr123 (by omega)
  have hq129 := hG113.cg hr123 (by omega)
  replace hfr := hfr.tr hr123 (by omega) (by omega)
  replace hw : HW D (Af ad ((q + 1)) s.heap.size) ad ((q + 43)) F120 s H _ := hw
  refine lv_aload_n X.1 X.2.1 dX7_init_86 rfl (lv_at hl 0 rfl) ?_
  refine x_new X hA hK hw hs (by omega) (C := RX1) (T := TX1) (nf := 3) (ci := 2) (fs := [.null, .int (nI 0), .int (nI 0)]) inX1 tyX1 tyX1_ok q157 q158 q8 rfl (fun j hj => by rcases (show j = 0 ∨ j = 1 ∨ j = 2 by omega) with rfl | rfl | rfl <;> rfl) (Nat.le_of_ble_eq_true rfl) (Nat.le_of_ble_eq_true rfl) dX7_init_87 (fun F130 H eF131 hw => ?_)
  have hn132 : F130 ((q + 43)) = .inr (2, [.null, .int (nI 0), .int (nI 0)]) := by rw [eF131]; exact up_at
  have hr133 := fr_eq eF131 (Nat.le_refl _) (Nat.lt_succ_self _)
  have hq134 := (hr133 _ (by omega)).trans hn122
  have hq135 := hq124.cg hr133 (by omega)
  have hq136 := (hr133 _ (by omega)).trans hq125
  have hq137 := (hr133 _ (by omega)).trans hq126
  have hq138 := hq127.cg hr133 (by omega)
  have hq139 := hq128.cg hr133 (by omega)
  have hq140 := hq129.cg hr133 (by omega)
  replace hfr := hfr.tr hr133 (by omega) (by omega)
  replace hw : HW D (Af ad ((q + 1)) s.heap.size) ad ((q + 44)) F130 s H _ := hw
  refine lv_dup X.1 X.2.1 dX7_init_90 rfl ?_
  refine x_callI X hA hK hAO hw hs (by omega) (k := (q + 43)) (As := []) (rest := [.ref (ad (q + 43)), .ref (ad q)]) (k_X1_init hA ((q + 43)) hn132) (x_cwI yX1_init cX1_init 2 0 X q159 q160 q8 q161 hi_X1_init ⟨Nat.le_of_ble_eq_true rfl, Nat.le_of_ble_eq_true rfl⟩) rfl hl.1 rfl (Nat.le_of_ble_eq_true rfl) dX7_init_91 ⟨Nat.le_of_ble_eq_true rfl, Nat.le_of_ble_eq_true rfl⟩ (fun F141 H locs hp hw => ?_)
  obtain ⟨hG143, hr142⟩ := hp
  have hq144 := (hr142 _ (by omega)).trans hq134
  have hq145 := hq135.cg hr142 (by omega)
  have hq146 := (hr142 _ (by omega)).trans hq136
  have hq147 := (hr142 _ (by omega)).trans hq137
  have hq148 := hq138.cg hr142 (by omega)
  have hq149 := hq139.cg hr142 (by omega)
  have hq150 := hq140.cg hr142 (by omega)
  replace hfr := hfr.tr hr142 (by omega) (by omega)
  replace hw : HW D (Af ad ((q + 1)) s.heap.size) ad ((q + 100)) F141 s H _ := hw
  refine x_putF2 X hI hK hw (C := RX7) (T := TX7) (nf := 10) (k := q) (ty := (.object "RegattaTimes$History")) (v := .ref (ad (q + 43))) (by omega) hq144 rfl inX7 tyX7 tyX7_ok nmX7 6 (by decide) q224 (fun _ h9 => h9) rfl hin rfl (by decide +kernel) rfl rfl (Nat.le_of_ble_eq_true rfl) dX7_init_94 (fun F151 H locs eF152 hw => ?_)
  have hn153 : F151 (q) = .inr (8, [.ref (ad (q + 1)), .ref (ad (q + 12)), .ref (ad (q + 13)), .ref (ad (q + 14)), .ref (ad (q + 23)), .ref (ad (q + 34)), .ref (ad (q + 43)), .null, .int (nI 0), .null]) := by rw [eF152]; exact up_at
  have hr154 := fr_eq eF152 (Nat.le_refl _) (Nat.lt_succ_self _)
  have hq155 := hq145.cg hr154 (by omega)
  have hq156 := (hr154 _ (by omega)).trans hq146
  have hq157 := (hr154 _ (by omega)).trans hq147
  have hq158 := hq148.cg hr154 (by omega)
  have hq159 := hq149.cg hr154 (by omega)
  have hq160 := hq150.cg hr154 (by omega)
  have hq161 := hG143.cg hr154 (by omega)
  replace hfr := hfr.tr hr154 (by omega) (by omega)
  replace hw : HW D (Af ad ((q + 1)) s.heap.size) ad ((q + 100)) F151 s H _ := hw
  refine lv_aload_n X.1 X.2.1 dX7_init_97 rfl (lv_at hl 0 rfl) ?_
  refine x_new X hA hK hw hs (by omega) (C := RX5) (T := TX5) (nf := 10) (ci := 6) (fs := [.int (nI 0), .int (nI 0), .int (nI 0), .int (nI 0), .int (nI 0), .null, .null, .null, .null, .null]) inX5 tyX5 tyX5_ok q28 q29 q2 rfl (fun j hj => by rcases (show j = 0 ∨ j = 1 ∨ j = 2 ∨ j = 3 ∨ j = 4 ∨ j = 5 ∨ j = 6 ∨ j = 7 ∨ j = 8 ∨ j = 9 by omega) with rfl | rfl | rfl | rfl | rfl | rfl | rfl | rfl | rfl | rfl <;> rfl) (Nat.le_of_ble_eq_true rfl) (Nat.le_of_ble_eq_true rfl) dX7_init_98 (fun F162 H eF163 hw => ?_)
  have hn164 : F162 ((q + 100)) = .inr (6, [.int (nI 0), .int (nI 0), .int (nI 0), .int (nI 0), .int (nI 0), .null, .null, .null, .null, .null]) := by rw [eF163]; exact up_at
  have hr165 := fr_eq eF163 (Nat.le_refl _) (Nat.lt_succ_self _)
  have hq166 := (hr165 _ (by omega)).trans hn153
  have hq167 := hq155.cg hr165 (by omega)
  have hq168 := (hr165 _ (by omega)).trans hq156
  have hq169 := (hr165 _ (by omega)).trans hq157
  have hq170 := hq158.cg hr165 (by omega)
  have hq171 := hq159.cg hr165 (by omega)
  have hq172 := hq160.cg hr165 (by omega)
  have hq173 := hq161.cg hr165 (by omega)
  replace hfr := hfr.tr hr165 (by omega) (by omega)
  replace hw : HW D (Af ad ((q + 1)) s.heap.size) ad ((q + 101)) F162 s H _ := hw
  refine lv_dup X.1 X.2.1 dX7_init_101 rfl ?_
  refine x_callI X hA hK hAO hw hs (by omega) (k := (q + 100)) (As := []) (rest := [.ref (ad (q + 100)), .ref (ad q)]) (k_X5_init hA ((q + 100)) hn164) (x_cwI yX5_init cX5_init 2 0 X q30 q31 q2 q32 hi_X5_init ⟨Nat.le_of_ble_eq_true rfl, Nat.le_of_ble_eq_true rfl⟩) rfl hl.1 rfl (Nat.le_of_ble_eq_true rfl) dX7_init_102 ⟨Nat.le_of_ble_eq_true rfl, Nat.le_of_ble_eq_true rfl⟩ (fun F174 H locs hp hw => ?_)
  obtain ⟨hG176, hr175⟩ := hp
  have hq177 := (hr175 _ (by omega)).trans hq166
  have hq178 := hq167.cg hr175 (by omega)
  have hq179 := (hr175 _ (by omega)).trans hq168
  have hq180 := (hr175 _ (by omega)).trans hq169
  have hq181 := hq170.cg hr175 (by omega)
  have hq182 := hq171.cg hr175 (by omega)
  have hq183 := hq172.cg hr175 (by omega)
  have hq184 := hq173.cg hr175 (by omega)
  replace hfr := hfr.tr hr175 (by omega) (by omega)
  replace hw : HW D (Af ad ((q + 1)) s.heap.size) ad ((q + 111)) F174 s H _ := hw
  refine x_putF2 X hI hK hw (C := RX7) (T := TX7) (nf := 10) (k := q) (ty := (.object "RegattaTimes$State")) (v := .ref (ad (q + 100))) (by omega) hq177 rfl inX7 tyX7 tyX7_ok nmX7 7 (by decide) q225 (fun _ h9 => h9) rfl hin rfl (by decide +kernel) rfl rfl (Nat.le_of_ble_eq_true rfl) dX7_init_105 (fun F185 H locs eF186 hw => ?_)
  have hn187 : F185 (q) = .inr (8, [.ref (ad (q + 1)), .ref (ad (q + 12)), .ref (ad (q + 13)), .ref (ad (q + 14)), .ref (ad (q + 23)), .ref (ad (q + 34)), .ref (ad (q + 43)), .ref (ad (q + 100)), .int (nI 0), .null]) := by rw [eF186]; exact up_at
  have hr188 := fr_eq eF186 (Nat.le_refl _) (Nat.lt_succ_self _)
  have hq189 := hq178.cg hr188 (by omega)
  have hq190 := (hr188 _ (by omega)).trans hq179
  have hq191 := (hr188 _ (by omega)).trans hq180
  have hq192 := hq181.cg hr188 (by omega)
  have hq193 := hq182.cg hr188 (by omega)
  have hq194 := hq183.cg hr188 (by omega)
  have hq195 := hq184.cg hr188 (by omega)
  have hq196 := hG176.cg hr188 (by omega)
  replace hfr := hfr.tr hr188 (by omega) (by omega)
  replace hw : HW D (Af ad ((q + 1)) s.heap.size) ad ((q + 111)) F185 s H _ := hw
  refine lv_aload_n X.1 X.2.1 dX7_init_108 rfl (lv_at hl 0 rfl) ?_
  refine lv_iconst (v := nI 0) X.1 X.2.1 dX7_init_109 (by decide) ?_
  refine x_put2 X hI hK hw (C := RX7) (T := TX7) (nf := 10) (k := q) (ty := .boolean) (v := .int (nI 0)) (by omega) hn187 rfl inX7 tyX7 tyX7_ok nmX7 8 (by decide) q226 (fun _ h9 => h9) rfl (by decide +kernel) (by decide +kernel) rfl (Nat.le_of_ble_eq_true rfl) dX7_init_110 (fun F197 H locs eF198 hw => ?_)
  have hn199 : F197 (q) = .inr (8, [.ref (ad (q + 1)), .ref (ad (q + 12)), .ref (ad (q + 13)), .ref (ad (q + 14)), .ref (ad (q + 23)), .ref (ad (q + 34)), .ref (ad (q + 43)), .ref (ad (q + 100)), .int (nI 0), .null]) := by rw [eF198]; exact up_at
  have hr200 := fr_eq eF198 (Nat.le_refl _) (Nat.lt_succ_self _)
  have hq201 := hq189.cg hr200 (by omega)
  have hq202 := (hr200 _ (by omega)).trans hq190
  have hq203 := (hr200 _ (by omega)).trans hq191
  have hq204 := hq192.cg hr200 (by omega)
  have hq205 := hq193.cg hr200 (by omega)
  have hq206 := hq194.cg hr200 (by omega)
  have hq207 := hq195.cg hr200 (by omega)
  have hq208 := hq196.cg hr200 (by omega)
  replace hfr := hfr.tr hr200 (by omega) (by omega)
  replace hw : HW D (Af ad ((q + 1)) s.heap.size) ad ((q + 111)) F197 s H _ := hw
  refine lv_aload_n X.1 X.2.1 dX7_init_113 rfl (lv_at hl 0 rfl) ?_
  refine x_new X hA hK hw hs (by omega) (C := RX3) (T := TX3) (nf := 1) (ci := 4) (fs := [.null]) inX3 tyX3 tyX3_ok q176 q177 q9 rfl (fun j hj => by rcases (show j = 0 by omega) with rfl <;> rfl) (Nat.le_of_ble_eq_true rfl) (Nat.le_of_ble_eq_true rfl) dX7_init_114 (fun F209 H eF210 hw => ?_)
  have hn211 : F209 ((q + 111)) = .inr (4, [.null]) := by rw [eF210]; exact up_at
  have hr212 := fr_eq eF210 (Nat.le_refl _) (Nat.lt_succ_self _)
  have hq213 := (hr212 _ (by omega)).trans hn199
  have hq214 := hq201.cg hr212 (by omega)
  have hq215 := (hr212 _ (by omega)).trans hq202
  have hq216 := (hr212 _ (by omega)).trans hq203
  have hq217 := hq204.cg hr212 (by omega)
  have hq218 := hq205.cg hr212 (by omega)
  have hq219 := hq206.cg hr212 (by omega)
  have hq220 := hq207.cg hr212 (by omega)
  have hq221 := hq208.cg hr212 (by omega)
  replace hfr := hfr.tr hr212 (by omega) (by omega)
  replace hw : HW D (Af ad ((q + 1)) s.heap.size) ad ((q + 112)) F209 s H _ := hw
  refine lv_dup X.1 X.2.1 dX7_init_117 rfl ?_
  refine x_callI X hA hK hAO hw hs (by omega) (k := (q + 111)) (As := []) (rest := [.ref (ad (q + 111)), .ref (ad q)]) (k_X3_init hA ((q + 111)) hn211) (x_cwI yX3_init cX3_init 1 0 X q178 q179 q9 q180 hi_X3_init ⟨Nat.le_of_ble_eq_true rfl, Nat.le_of_ble_eq_true rfl⟩) rfl hl.1 rfl (Nat.le_of_ble_eq_true rfl) dX7_init_118 ⟨Nat.le_of_ble_eq_true rfl, Nat.le_of_ble_eq_true rfl⟩ (fun F222 H locs hp hw => ?_)
  obtain ⟨hG224, hG225, hr223⟩ := hp
  have hq226 := (hr223 _ (by omega)).trans hq213
  have hq227 := hq214.cg hr223 (by omega)
  have hq228 := (hr223 _ (by omega)).trans hq215
  have hq229 := (hr223 _ (by omega)).trans hq216
  have hq230 := hq217.cg hr223 (by omega)
  have hq231 := hq218.cg hr223 (by omega)
  have hq232 := hq219.cg hr223 (by omega)
  have hq233 := hq220.cg hr223 (by omega)
  have hq234 := hq221.cg hr223 (by omega)
  replace hfr := hfr.tr hr223 (by omega) (by omega)
  replace hw : HW D (Af ad ((q + 1)) s.heap.size) ad ((q + 114)) F222 s H _ := hw
  refine x_putF2 X hI hK hw (C := RX7) (T := TX7) (nf := 10) (k := q) (ty := (.object "RegattaTimes$Log")) (v := .ref (ad (q + 111))) (by omega) hq226 rfl inX7 tyX7 tyX7_ok nmX7 9 (by decide) q227 (fun _ h9 => h9) rfl hin rfl (by decide +kernel) rfl rfl (Nat.le_of_ble_eq_true rfl) dX7_init_121 (fun F235 H locs eF236 hw => ?_)
  have hn237 : F235 (q) = .inr (8, [.ref (ad (q + 1)), .ref (ad (q + 12)), .ref (ad (q + 13)), .ref (ad (q + 14)), .ref (ad (q + 23)), .ref (ad (q + 34)), .ref (ad (q + 43)), .ref (ad (q + 100)), .int (nI 0), .ref (ad (q + 111))]) := by rw [eF236]; exact up_at
  have hr238 := fr_eq eF236 (Nat.le_refl _) (Nat.lt_succ_self _)
  have hq239 := hq227.cg hr238 (by omega)
  have hq240 := (hr238 _ (by omega)).trans hq228
  have hq241 := (hr238 _ (by omega)).trans hq229
  have hq242 := hq230.cg hr238 (by omega)
  have hq243 := hq231.cg hr238 (by omega)
  have hq244 := hq232.cg hr238 (by omega)
  have hq245 := hq233.cg hr238 (by omega)
  have hq246 := hq234.cg hr238 (by omega)
  have hq247 := (hr238 _ (by omega)).trans hG224
  have hq248 := hG225.cg hr238 (by omega)
  replace hfr := hfr.tr hr238 (by omega) (by omega)
  replace hw : HW D (Af ad ((q + 1)) s.heap.size) ad ((q + 114)) F235 s H _ := hw
  exact x_vretc X hr hlk hw (⟨hn237, hq239, hq240, hq241, hq242, hq243, hq244, hq245, hq246, hq247, hq248, hfr⟩) dX7_init_124
def a0 : Nat → Int32 := (upd ((upd ((upd ((fun _ => 0)) 4 (nI 600))) 5 (nI 60))) 6 (nI 4))
