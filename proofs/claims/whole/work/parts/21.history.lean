theorem min5 {z : Nat} (h : z ≤ 4) : (if nI 4 < nI (z + 1) then nI 4 else nI (z + 1)) = nI (min (z + 1) 4) := by
  by_cases q : z = 4
  · subst q; rfl
  · rw [if_neg (nI_nlt (by omega) (by omega)), Nat.min_eq_left (by omega)]
def Fr2 (F F' : Nat → va_E) (lo hi a b : Nat) : Prop := ∀ k, (k < lo ∨ hi ≤ k) → (k < a ∨ b ≤ k) → F' k = F k

theorem hd_X5_copyFrom : yX5_copyFrom.cls = RX5 ∧ yX5_copyFrom.cls ≠ "java/lang/invoke/MethodHandle" ∧ yX5_copyFrom.cls ≠ "java/lang/invoke/VarHandle" ∧ (parseMethodDescriptor yX5_copyFrom.desc).map (fun d => d.parameters.length) = some 1 := by decide +kernel
set_option maxHeartbeats 4000000 in
set_option maxRecDepth 100000 in
theorem k_X1_hold {l : Launch} {D : va_G} {cI cB cS : ClassId} {ad : Nat → Nat} {N : Nat} {F : Nat → va_E} (hI : iN ad N) (w : Nat) (d : Nat) (z : Nat) (hg : Nat → Nat → Int32) (ht : Nat → Nat → Nat → Int32) (b : Nat) (g : Nat → Int32) (t : Nat → Nat → Int32) (hw57 : w + 57 ≤ N) (hd5 : d < 5) (hz4 : z ≤ 4) (hH : HiF ad cI cS F w d z hg ht) (hb : b + 11 ≤ N) (hF : StF ad cI F b g t) (hdis : b + 11 ≤ w ∨ w + 57 ≤ b) : Cv l D cI cB cS ad N yX1_hold cX1_hold 3 3 103 [.ref (ad w), .ref (ad b)] F (fun F' => HiF ad cI cS F' w d z (va_up hg d g) (va_up ht d t) ∧ Fr F F' w (w + 57)) := by
  refine x_metv (by decide +kernel) (Nat.le_of_ble_eq_true rfl) ?_
  intro p e s m below meth c X hr hlk hK hw ls hl
  replace hl : lv_has ls 3 [(0, .ref (ad w)), (1, .ref (ad b))] := hl
  refine lv_aload_n X.1 X.2.1 dX1_hold_0 rfl (lv_at hl 0 rfl) ?_
  refine x_get X hK hw (C := RX1) (T := TX1) (nf := 3) (k := w) (by omega) hH.1 rfl inX1 0 (by decide) q166 (fun _ h9 => h9) rfl dX1_hold_1 ?_
  refine lv_aload_n X.1 X.2.1 dX1_hold_4 rfl (lv_at hl 0 rfl) ?_
  refine x_get X hK hw (C := RX1) (T := TX1) (nf := 3) (k := w) (by omega) hH.1 rfl inX1 1 (by decide) q167 (fun _ h9 => h9) rfl dX1_hold_5 ?_
  refine x_aald X hK hw (k := w + 1) (by omega) hH.2.1 (i := nI d) (j := d) rfl hd5 (by omega) rfl dX1_hold_8 ?_
  refine lv_astore_n (lv' := [(2, .ref (ad (w + 2 + 11 * d))), (0, .ref (ad w)), (1, .ref (ad b))]) X.1 X.2.1 dX1_hold_9 rfl hl (by decide) rfl (fun ls hl => ?_)
  refine lv_aload_n X.1 X.2.1 dX1_hold_10 rfl (lv_at hl 0 rfl) ?_
  refine lv_ifnull X.1 X.2.1 dX1_hold_11 ?_
  refine lv_aload_n X.1 X.2.1 dX1_hold_14 rfl (lv_at hl 0 rfl) ?_
  refine lv_aload_n X.1 X.2.1 dX1_hold_15 rfl (lv_at hl 2 rfl) ?_
  refine x_callVv X hK hw (k := (w + 2 + 11 * d)) (As := [.ref (ad b)]) (rest := []) (k_X5_copyFrom hI ((w + 2 + 11 * d)) ((hg d)) ((ht d)) b g t (by omega) (hH.2.2 _ hd5) (by omega) hF (by omega)) (x_cwV yX5_copyFrom cX5_copyFrom 2 none 1 X q257 q258 q259 q2 q260 hd_X5_copyFrom ⟨Nat.le_of_ble_eq_true rfl, Nat.le_of_ble_eq_true rfl⟩) (by omega) (hH.2.2 _ hd5).1 rfl rfl hl.1 rfl (Nat.le_of_ble_eq_true rfl) dX1_hold_16 ⟨Nat.le_of_ble_eq_true rfl, Nat.le_of_ble_eq_true rfl⟩ (fun F1 H locs hp hw => ?_)
  obtain ⟨hF2, hr3⟩ := hp
  have hq4 := hF.cg hr3 (by omega)
  have hH1 := hH.sl hd5 hF2 hr3
  have hfr1 : Fr F _ w (w + 57) := Fr.mono hr3 (by omega) (by omega)
  exact x_vret X hr hlk hK hw (⟨hH1, hfr1⟩) dX1_hold_19
set_option maxHeartbeats 4000000 in
set_option maxRecDepth 100000 in
theorem k_X1_confirm {l : Launch} {D : va_G} {cI cB cS : ClassId} {ad : Nat → Nat} {N : Nat} {F : Nat → va_E} (hI : iN ad N) (w : Nat) (d : Nat) (z : Nat) (hg : Nat → Nat → Int32) (ht : Nat → Nat → Nat → Int32) (x : Int32) (hw57 : w + 57 ≤ N) (hd5 : d < 5) (hz4 : z ≤ 4) (hH : HiF ad cI cS F w d z hg ht) : Ci l D cI cB cS ad N yX1_confirm cX1_confirm 2 (some .int) 1 60 [.ref (ad w), .int x] F (fun r F' => r = x ∧ HiF ad cI cS F' w (if x < 0 then d else hn d) (if x < 0 then z else min (z + 1) 4) hg ht ∧ Fr F F' w (w + 57)) := by
  refine x_met (by decide +kernel) (Nat.le_of_ble_eq_true rfl) ?_
  intro p e s m below meth c X hr hlk hK hw ls hl
  replace hl : lv_has ls 2 [(0, .ref (ad w)), (1, .int x)] := hl
  have hfr : Fr F F (w) (w + 57) := Fr.rf
  refine lv_iload_n X.1 X.2.1 dX1_confirm_0 rfl (lv_at hl 1 rfl) ?_
  refine lv_if_lt (tgt := 42) X.1 X.2.1 dX1_confirm_1 (by decide) (fun c1 => ?_) (fun c1 => ?_)
  · refine lv_iload_n X.1 X.2.1 dX1_confirm_42 rfl (lv_at hl 1 rfl) ?_
    exact x_iret X hr hlk hK hw (v := x) rfl (⟨rfl, by rw [if_pos c1, if_pos c1]; exact hH, hfr⟩) dX1_confirm_43
  · refine lv_aload_n X.1 X.2.1 dX1_confirm_4 rfl (lv_at hl 0 rfl) ?_
    refine lv_aload_n X.1 X.2.1 dX1_confirm_5 rfl (lv_at hl 0 rfl) ?_
    refine x_get X hK hw (C := RX1) (T := TX1) (nf := 3) (k := w) (by omega) hH.1 rfl inX1 1 (by decide) q167 (fun _ h9 => h9) rfl dX1_confirm_6 ?_
    refine lv_iconst (v := nI 1) X.1 X.2.1 dX1_confirm_9 (by decide) ?_
    refine lv_iadd X.1 X.2.1 dX1_confirm_10 ?_
    refine x_top (nI_add _ _) ?_
    refine lv_iconst (v := nI 5) X.1 X.2.1 dX1_confirm_11 (by decide) ?_
    refine lv_icmp_ge (tgt := 24) X.1 X.2.1 dX1_confirm_12 (by decide) (fun c2 => ?_) (fun c2 => ?_)
    · refine lv_iconst (v := nI 0) X.1 X.2.1 dX1_confirm_24 (by decide) ?_
      refine x_put2 X hI hK hw (C := RX1) (T := TX1) (nf := 3) (k := w) (ty := .int) (v := .int (nI 0)) (by omega) hH.1 rfl inX1 tyX1 tyX1_ok nmX1 1 (by decide) q167 (fun _ h9 => h9) rfl (by decide +kernel) rfl rfl (Nat.le_of_ble_eq_true rfl) dX1_confirm_25 (fun F3 H locs eF4 hw => ?_)
      have hF5 : HiF ad cI cS F3 w 0 z hg ht := hH.pt eF4 rfl
      have hr6 := fr_eq eF4 (Nat.le_refl _) (Nat.lt_succ_self _)
      replace hfr := hfr.tr hr6 (by omega) (by omega)
      refine lv_aload_n X.1 X.2.1 dX1_confirm_28 rfl (lv_at hl 0 rfl) ?_
      refine lv_aload_n X.1 X.2.1 dX1_confirm_29 rfl (lv_at hl 0 rfl) ?_
      refine x_get X hK hw (C := RX1) (T := TX1) (nf := 3) (k := w) (by omega) hF5.1 rfl inX1 2 (by decide) q168 (fun _ h9 => h9) rfl dX1_confirm_30 ?_
      refine lv_iconst (v := nI 1) X.1 X.2.1 dX1_confirm_33 (by decide) ?_
      refine lv_iadd X.1 X.2.1 dX1_confirm_34 ?_
      refine x_top (nI_add _ _) ?_
      refine lv_iconst (v := nI 4) X.1 X.2.1 dX1_confirm_35 (by decide) ?_
      refine x_min X hl.1 (rest := [.ref (ad w)]) q280 (Nat.le_of_ble_eq_true rfl) (Nat.le_of_ble_eq_true rfl) (Nat.le_of_ble_eq_true rfl) (Nat.le_of_ble_eq_true rfl) dX1_confirm_36 ?_
      refine x_top (min5 hz4) ?_
      refine x_put2 X hI hK hw (C := RX1) (T := TX1) (nf := 3) (k := w) (ty := .int) (v := .int (nI (min (z + 1) 4))) (by omega) hF5.1 rfl inX1 tyX1 tyX1_ok nmX1 2 (by decide) q168 (fun _ h9 => h9) rfl (by decide +kernel) rfl rfl (Nat.le_of_ble_eq_true rfl) dX1_confirm_39 (fun F7 H locs eF8 hw => ?_)
      have hF9 : HiF ad cI cS F7 w 0 (min (z + 1) 4) hg ht := hF5.pt eF8 rfl
      have hr10 := fr_eq eF8 (Nat.le_refl _) (Nat.lt_succ_self _)
      replace hfr := hfr.tr hr10 (by omega) (by omega)
      refine lv_iload_n X.1 X.2.1 dX1_confirm_42 rfl (lv_at hl 1 rfl) ?_
      exact x_iret X hr hlk hK hw (v := x) rfl (⟨rfl, by rw [if_neg c1, if_neg c1, hn, if_neg (fun q => absurd c2 (nI_ge q (by omega)))]; exact hF9, hfr⟩) dX1_confirm_43
    · refine lv_aload_n X.1 X.2.1 dX1_confirm_15 rfl (lv_at hl 0 rfl) ?_
      refine x_get X hK hw (C := RX1) (T := TX1) (nf := 3) (k := w) (by omega) hH.1 rfl inX1 1 (by decide) q167 (fun _ h9 => h9) rfl dX1_confirm_16 ?_
      refine lv_iconst (v := nI 1) X.1 X.2.1 dX1_confirm_19 (by decide) ?_
      refine lv_iadd X.1 X.2.1 dX1_confirm_20 ?_
      refine x_top (nI_add _ _) ?_
      refine lv_goto (tgt := 25) X.1 X.2.1 dX1_confirm_21 (by decide) ?_
      refine x_put2 X hI hK hw (C := RX1) (T := TX1) (nf := 3) (k := w) (ty := .int) (v := .int (nI (d + 1))) (by omega) hH.1 rfl inX1 tyX1 tyX1_ok nmX1 1 (by decide) q167 (fun _ h9 => h9) rfl (by decide +kernel) rfl rfl (Nat.le_of_ble_eq_true rfl) dX1_confirm_25 (fun F11 H locs eF12 hw => ?_)
      have hF13 : HiF ad cI cS F11 w (d + 1) z hg ht := hH.pt eF12 rfl
      have hr14 := fr_eq eF12 (Nat.le_refl _) (Nat.lt_succ_self _)
      replace hfr := hfr.tr hr14 (by omega) (by omega)
      refine lv_aload_n X.1 X.2.1 dX1_confirm_28 rfl (lv_at hl 0 rfl) ?_
      refine lv_aload_n X.1 X.2.1 dX1_confirm_29 rfl (lv_at hl 0 rfl) ?_
      refine x_get X hK hw (C := RX1) (T := TX1) (nf := 3) (k := w) (by omega) hF13.1 rfl inX1 2 (by decide) q168 (fun _ h9 => h9) rfl dX1_confirm_30 ?_
      refine lv_iconst (v := nI 1) X.1 X.2.1 dX1_confirm_33 (by decide) ?_
      refine lv_iadd X.1 X.2.1 dX1_confirm_34 ?_
      refine x_top (nI_add _ _) ?_
      refine lv_iconst (v := nI 4) X.1 X.2.1 dX1_confirm_35 (by decide) ?_
      refine x_min X hl.1 (rest := [.ref (ad w)]) q280 (Nat.le_of_ble_eq_true rfl) (Nat.le_of_ble_eq_true rfl) (Nat.le_of_ble_eq_true rfl) (Nat.le_of_ble_eq_true rfl) dX1_confirm_36 ?_
      refine x_top (min5 hz4) ?_
      refine x_put2 X hI hK hw (C := RX1) (T := TX1) (nf := 3) (k := w) (ty := .int) (v := .int (nI (min (z + 1) 4))) (by omega) hF13.1 rfl inX1 tyX1 tyX1_ok nmX1 2 (by decide) q168 (fun _ h9 => h9) rfl (by decide +kernel) rfl rfl (Nat.le_of_ble_eq_true rfl) dX1_confirm_39 (fun F15 H locs eF16 hw => ?_)
      have hF17 : HiF ad cI cS F15 w (d + 1) (min (z + 1) 4) hg ht := hF13.pt eF16 rfl
      have hr18 := fr_eq eF16 (Nat.le_refl _) (Nat.lt_succ_self _)
      replace hfr := hfr.tr hr18 (by omega) (by omega)
      refine lv_iload_n X.1 X.2.1 dX1_confirm_42 rfl (lv_at hl 1 rfl) ?_
      exact x_iret X hr hlk hK hw (v := x) rfl (⟨rfl, by rw [if_neg c1, if_neg c1, hn, if_pos (Classical.byContradiction fun q => c2 (nI_le (by omega) (by omega)))]; exact hF17, hfr⟩) dX1_confirm_43
set_option maxHeartbeats 4000000 in
set_option maxRecDepth 100000 in
theorem k_X1_size {l : Launch} {D : va_G} {cI cB cS : ClassId} {ad : Nat → Nat} {N : Nat} {F : Nat → va_E} (hI : iN ad N) (w : Nat) (d : Nat) (z : Nat) (hg : Nat → Nat → Int32) (ht : Nat → Nat → Nat → Int32) (hw57 : w + 57 ≤ N) (hd5 : d < 5) (hz4 : z ≤ 4) (hH : HiF ad cI cS F w d z hg ht) : Ci l D cI cB cS ad N yX1_size cX1_size 1 (some .int) 0 0 [.ref (ad w)] F (pP (nI z) F) := by
  refine x_met (by decide +kernel) (Nat.le_of_ble_eq_true rfl) ?_
  intro p e s m below meth c X hr hlk hK hw ls hl
  replace hl : lv_has ls 1 [(0, .ref (ad w))] := hl
  refine lv_aload_n X.1 X.2.1 dX1_size_0 rfl (lv_at hl 0 rfl) ?_
  refine x_get X hK hw (C := RX1) (T := TX1) (nf := 3) (k := w) (by omega) hH.1 rfl inX1 2 (by decide) q168 (fun _ h9 => h9) rfl dX1_size_1 ?_
  exact x_iret X hr hlk hK hw (v := nI z) rfl (⟨rfl, rfl⟩) dX1_size_4
set_option maxHeartbeats 4000000 in
set_option maxRecDepth 100000 in
theorem k_X1_takeBack {l : Launch} {D : va_G} {cI cB cS : ClassId} {ad : Nat → Nat} {N : Nat} {F : Nat → va_E} (hI : iN ad N) (w : Nat) (d : Nat) (z : Nat) (hg : Nat → Nat → Int32) (ht : Nat → Nat → Nat → Int32) (b : Nat) (g : Nat → Int32) (t : Nat → Nat → Int32) (hw57 : w + 57 ≤ N) (hd5 : d < 5) (hz4 : z ≤ 4) (hH : HiF ad cI cS F w d z hg ht) (hb : b + 11 ≤ N) (hF : StF ad cI F b g t) (hdis : b + 11 ≤ w ∨ w + 57 ≤ b) : Ci l D cI cB cS ad N yX1_takeBack cX1_takeBack 3 (some .int) 3 103 [.ref (ad w), .ref (ad b)] F (fun r F' => (z = 0 ∧ r = (-5) ∧ F' = F) ∨ (0 < z ∧ r = nI (z - 1) ∧ HiF ad cI cS F' w (hp d) (z - 1) hg ht ∧ StF ad cI F' b (hg (hp d)) (ht (hp d)) ∧ Fr2 F F' w (w + 57) b (b + 11))) := by
  refine x_met (by decide +kernel) (Nat.le_of_ble_eq_true rfl) ?_
  intro p e s m below meth c X hr hlk hK hw ls hl
  replace hl : lv_has ls 3 [(0, .ref (ad w)), (1, .ref (ad b))] := hl
  have hfr : Fr F F (w) (w + 57) := Fr.rf
  refine lv_aload_n X.1 X.2.1 dX1_takeBack_0 rfl (lv_at hl 0 rfl) ?_
  refine x_get X hK hw (C := RX1) (T := TX1) (nf := 3) (k := w) (by omega) hH.1 rfl inX1 2 (by decide) q168 (fun _ h9 => h9) rfl dX1_takeBack_1 ?_
  refine lv_if_ne (tgt := 10) X.1 X.2.1 dX1_takeBack_4 (by decide) (fun c1 => ?_) (fun c1 => ?_)
  · have hz0 : 0 < z := by rcases Nat.eq_zero_or_pos z with q | q; (exact absurd (by rw [q]; rfl) c1); exact q
    refine lv_aload_n X.1 X.2.1 dX1_takeBack_10 rfl (lv_at hl 0 rfl) ?_
    refine lv_aload_n X.1 X.2.1 dX1_takeBack_11 rfl (lv_at hl 0 rfl) ?_
    refine x_get X hK hw (C := RX1) (T := TX1) (nf := 3) (k := w) (by omega) hH.1 rfl inX1 1 (by decide) q167 (fun _ h9 => h9) rfl dX1_takeBack_12 ?_
    refine lv_if_le (tgt := 27) X.1 X.2.1 dX1_takeBack_15 (by decide) (fun c2 => ?_) (fun c2 => ?_)
    · have hd0 : d = 0 := Classical.byContradiction fun q => nI_nle (n := d) (by omega) (by omega) c2
      have hdp : hp d = 4 := by simp [hp, hd0]
      have hdl : 4 < 5 := by omega
      refine lv_iconst (v := nI 4) X.1 X.2.1 dX1_takeBack_27 (by decide) ?_
      refine x_put2 X hI hK hw (C := RX1) (T := TX1) (nf := 3) (k := w) (ty := .int) (v := .int (nI 4)) (by omega) hH.1 rfl inX1 tyX1 tyX1_ok nmX1 1 (by decide) q167 (fun _ h9 => h9) rfl (by decide +kernel) rfl rfl (Nat.le_of_ble_eq_true rfl) dX1_takeBack_28 (fun F3 H locs eF4 hw => ?_)
      have hF5 : HiF ad cI cS F3 w 4 z hg ht := hH.pt eF4 rfl
      have hr6 := fr_eq eF4 (Nat.le_refl _) (Nat.lt_succ_self _)
      have hq7 := hF.cg hr6 (by omega)
      replace hfr := hfr.tr hr6 (by omega) (by omega)
      refine lv_aload_n X.1 X.2.1 dX1_takeBack_31 rfl (lv_at hl 0 rfl) ?_
      refine lv_dup X.1 X.2.1 dX1_takeBack_32 rfl ?_
      refine x_get X hK hw (C := RX1) (T := TX1) (nf := 3) (k := w) (by omega) hF5.1 rfl inX1 2 (by decide) q168 (fun _ h9 => h9) rfl dX1_takeBack_33 ?_
      refine lv_iconst (v := nI 1) X.1 X.2.1 dX1_takeBack_36 (by decide) ?_
      refine lv_isub X.1 X.2.1 dX1_takeBack_37 ?_
      refine x_top (pk_sub (by omega)) ?_
      refine x_put2 X hI hK hw (C := RX1) (T := TX1) (nf := 3) (k := w) (ty := .int) (v := .int (nI (z - 1))) (by omega) hF5.1 rfl inX1 tyX1 tyX1_ok nmX1 2 (by decide) q168 (fun _ h9 => h9) rfl (by decide +kernel) rfl rfl (Nat.le_of_ble_eq_true rfl) dX1_takeBack_38 (fun F8 H locs eF9 hw => ?_)
      have hF10 : HiF ad cI cS F8 w 4 (z - 1) hg ht := hF5.pt eF9 rfl
      have hr11 := fr_eq eF9 (Nat.le_refl _) (Nat.lt_succ_self _)
      have hq12 := hq7.cg hr11 (by omega)
      replace hfr := hfr.tr hr11 (by omega) (by omega)
      refine lv_aload_n X.1 X.2.1 dX1_takeBack_41 rfl (lv_at hl 0 rfl) ?_
      refine x_get X hK hw (C := RX1) (T := TX1) (nf := 3) (k := w) (by omega) hF10.1 rfl inX1 0 (by decide) q166 (fun _ h9 => h9) rfl dX1_takeBack_42 ?_
      refine lv_aload_n X.1 X.2.1 dX1_takeBack_45 rfl (lv_at hl 0 rfl) ?_
      refine x_get X hK hw (C := RX1) (T := TX1) (nf := 3) (k := w) (by omega) hF10.1 rfl inX1 1 (by decide) q167 (fun _ h9 => h9) rfl dX1_takeBack_46 ?_
      refine x_aald X hK hw (k := w + 1) (by omega) hF10.2.1 (i := nI 4) (j := 4) rfl hdl (by omega) rfl dX1_takeBack_49 ?_
      refine lv_astore_n (lv' := [(2, .ref (ad (w + 2 + 11 * 4))), (0, .ref (ad w)), (1, .ref (ad b))]) X.1 X.2.1 dX1_takeBack_50 rfl hl (by decide) rfl (fun ls hl => ?_)
      refine lv_aload_n X.1 X.2.1 dX1_takeBack_51 rfl (lv_at hl 0 rfl) ?_
      refine lv_ifnull X.1 X.2.1 dX1_takeBack_52 ?_
      refine lv_aload_n X.1 X.2.1 dX1_takeBack_55 rfl (lv_at hl 2 rfl) ?_
      refine lv_aload_n X.1 X.2.1 dX1_takeBack_56 rfl (lv_at hl 0 rfl) ?_
      have hf2a := hfr
      refine x_callVv X hK hw (k := b) (As := [.ref (ad (w + 2 + 11 * 4))]) (rest := []) (k_X5_copyFrom hI b g t ((w + 2 + 11 * 4)) ((hg 4)) ((ht 4)) (by omega) hq12 (by omega) (hF10.2.2 _ hdl) (by omega)) (x_cwV yX5_copyFrom cX5_copyFrom 2 none 1 X q257 q258 q259 q2 q260 hd_X5_copyFrom ⟨Nat.le_of_ble_eq_true rfl, Nat.le_of_ble_eq_true rfl⟩) (by omega) hq12.1 rfl rfl hl.1 rfl (Nat.le_of_ble_eq_true rfl) dX1_takeBack_57 ⟨Nat.le_of_ble_eq_true rfl, Nat.le_of_ble_eq_true rfl⟩ (fun F13 H locs hp hw => ?_)
      obtain ⟨hF14, hr15⟩ := hp
      have hq16 := hF10.cg hr15 (by omega)
      have hq17 := (hF10.2.2 _ hdl).cg hr15 (by omega)
      have hf2 : Fr2 F _ w (w + 57) b (b + 11) := fun k h1 h2 => (hr15 k h2).trans (hf2a k h1)
      refine lv_aload_n X.1 X.2.1 dX1_takeBack_60 rfl (lv_at hl 1 rfl) ?_
      refine x_get X hK hw (C := RX1) (T := TX1) (nf := 3) (k := w) (by omega) hq16.1 rfl inX1 2 (by decide) q168 (fun _ h9 => h9) rfl dX1_takeBack_61 ?_
      exact x_iret X hr hlk hK hw (v := nI (z - 1)) rfl (Or.inr ⟨hz0, rfl, by rw [hdp]; exact hq16, by rw [hdp]; exact hF14, hf2⟩) dX1_takeBack_64
    · have hd0 : 0 < d := by rcases Nat.eq_zero_or_pos d with q | q; (exact absurd (by rw [q]; decide) c2); exact q
      have hdp : hp d = d - 1 := by simp [hp, hd0]
      have hdl : d - 1 < 5 := by omega
      refine lv_aload_n X.1 X.2.1 dX1_takeBack_18 rfl (lv_at hl 0 rfl) ?_
      refine x_get X hK hw (C := RX1) (T := TX1) (nf := 3) (k := w) (by omega) hH.1 rfl inX1 1 (by decide) q167 (fun _ h9 => h9) rfl dX1_takeBack_19 ?_
      refine lv_iconst (v := nI 1) X.1 X.2.1 dX1_takeBack_22 (by decide) ?_
      refine lv_isub X.1 X.2.1 dX1_takeBack_23 ?_
      refine x_top (pk_sub (by omega)) ?_
      refine lv_goto (tgt := 28) X.1 X.2.1 dX1_takeBack_24 (by decide) ?_
      refine x_put2 X hI hK hw (C := RX1) (T := TX1) (nf := 3) (k := w) (ty := .int) (v := .int (nI (d - 1))) (by omega) hH.1 rfl inX1 tyX1 tyX1_ok nmX1 1 (by decide) q167 (fun _ h9 => h9) rfl (by decide +kernel) rfl rfl (Nat.le_of_ble_eq_true rfl) dX1_takeBack_28 (fun F18 H locs eF19 hw => ?_)
      have hF20 : HiF ad cI cS F18 w (d - 1) z hg ht := hH.pt eF19 rfl
      have hr21 := fr_eq eF19 (Nat.le_refl _) (Nat.lt_succ_self _)
      have hq22 := hF.cg hr21 (by omega)
      replace hfr := hfr.tr hr21 (by omega) (by omega)
      refine lv_aload_n X.1 X.2.1 dX1_takeBack_31 rfl (lv_at hl 0 rfl) ?_
      refine lv_dup X.1 X.2.1 dX1_takeBack_32 rfl ?_
      refine x_get X hK hw (C := RX1) (T := TX1) (nf := 3) (k := w) (by omega) hF20.1 rfl inX1 2 (by decide) q168 (fun _ h9 => h9) rfl dX1_takeBack_33 ?_
      refine lv_iconst (v := nI 1) X.1 X.2.1 dX1_takeBack_36 (by decide) ?_
      refine lv_isub X.1 X.2.1 dX1_takeBack_37 ?_
      refine x_top (pk_sub (by omega)) ?_
      refine x_put2 X hI hK hw (C := RX1) (T := TX1) (nf := 3) (k := w) (ty := .int) (v := .int (nI (z - 1))) (by omega) hF20.1 rfl inX1 tyX1 tyX1_ok nmX1 2 (by decide) q168 (fun _ h9 => h9) rfl (by decide +kernel) rfl rfl (Nat.le_of_ble_eq_true rfl) dX1_takeBack_38 (fun F23 H locs eF24 hw => ?_)
      have hF25 : HiF ad cI cS F23 w (d - 1) (z - 1) hg ht := hF20.pt eF24 rfl
      have hr26 := fr_eq eF24 (Nat.le_refl _) (Nat.lt_succ_self _)
      have hq27 := hq22.cg hr26 (by omega)
      replace hfr := hfr.tr hr26 (by omega) (by omega)
      refine lv_aload_n X.1 X.2.1 dX1_takeBack_41 rfl (lv_at hl 0 rfl) ?_
      refine x_get X hK hw (C := RX1) (T := TX1) (nf := 3) (k := w) (by omega) hF25.1 rfl inX1 0 (by decide) q166 (fun _ h9 => h9) rfl dX1_takeBack_42 ?_
      refine lv_aload_n X.1 X.2.1 dX1_takeBack_45 rfl (lv_at hl 0 rfl) ?_
      refine x_get X hK hw (C := RX1) (T := TX1) (nf := 3) (k := w) (by omega) hF25.1 rfl inX1 1 (by decide) q167 (fun _ h9 => h9) rfl dX1_takeBack_46 ?_
      refine x_aald X hK hw (k := w + 1) (by omega) hF25.2.1 (i := nI (d - 1)) (j := d - 1) rfl hdl (by omega) rfl dX1_takeBack_49 ?_
      refine lv_astore_n (lv' := [(2, .ref (ad (w + 2 + 11 * (d - 1)))), (0, .ref (ad w)), (1, .ref (ad b))]) X.1 X.2.1 dX1_takeBack_50 rfl hl (by decide) rfl (fun ls hl => ?_)
      refine lv_aload_n X.1 X.2.1 dX1_takeBack_51 rfl (lv_at hl 0 rfl) ?_
      refine lv_ifnull X.1 X.2.1 dX1_takeBack_52 ?_
      refine lv_aload_n X.1 X.2.1 dX1_takeBack_55 rfl (lv_at hl 2 rfl) ?_
      refine lv_aload_n X.1 X.2.1 dX1_takeBack_56 rfl (lv_at hl 0 rfl) ?_
      have hf2a := hfr
      refine x_callVv X hK hw (k := b) (As := [.ref (ad (w + 2 + 11 * (d - 1)))]) (rest := []) (k_X5_copyFrom hI b g t ((w + 2 + 11 * (d - 1))) ((hg (d - 1))) ((ht (d - 1))) (by omega) hq27 (by omega) (hF25.2.2 _ hdl) (by omega)) (x_cwV yX5_copyFrom cX5_copyFrom 2 none 1 X q257 q258 q259 q2 q260 hd_X5_copyFrom ⟨Nat.le_of_ble_eq_true rfl, Nat.le_of_ble_eq_true rfl⟩) (by omega) hq27.1 rfl rfl hl.1 rfl (Nat.le_of_ble_eq_true rfl) dX1_takeBack_57 ⟨Nat.le_of_ble_eq_true rfl, Nat.le_of_ble_eq_true rfl⟩ (fun F28 H locs hp hw => ?_)
      obtain ⟨hF29, hr30⟩ := hp
      have hq31 := hF25.cg hr30 (by omega)
      have hq32 := (hF25.2.2 _ hdl).cg hr30 (by omega)
      have hf2 : Fr2 F _ w (w + 57) b (b + 11) := fun k h1 h2 => (hr30 k h2).trans (hf2a k h1)
      refine lv_aload_n X.1 X.2.1 dX1_takeBack_60 rfl (lv_at hl 1 rfl) ?_
      refine x_get X hK hw (C := RX1) (T := TX1) (nf := 3) (k := w) (by omega) hq31.1 rfl inX1 2 (by decide) q168 (fun _ h9 => h9) rfl dX1_takeBack_61 ?_
      exact x_iret X hr hlk hK hw (v := nI (z - 1)) rfl (Or.inr ⟨hz0, rfl, by rw [hdp]; exact hq31, by rw [hdp]; exact hF29, hf2⟩) dX1_takeBack_64
  · have hz0 : z = 0 := Classical.byContradiction fun q => nI_ne0 (n := z) (by omega) (by omega) c1
    refine lv_bipush (v := (-5)) X.1 X.2.1 dX1_takeBack_7 (by decide) ?_
    exact x_iret X hr hlk hK hw (v := (-5)) rfl (Or.inl ⟨hz0, rfl, rfl⟩) dX1_takeBack_9
