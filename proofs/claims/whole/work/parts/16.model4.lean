theorem m_ci_lo {a : Nat → Int32} {r b q : Nat} (h : q < 80) : ∀ j, m_ci a r b j q = a q := by
  intro j
  induction j with
  | zero => rfl
  | succ j ih => rw [m_ci, ly_lo h, ih]
theorem m_cc_lo {a : Nat → Int32} {r q : Nat} (h : q < 80) : ∀ j, m_cc a r j q = a q := by
  intro j
  induction j with
  | zero => rfl
  | succ j ih => rw [m_cc, m_ci_lo h, ih]
theorem m_clr_lo {a : Nat → Int32} {r q : Nat} (h : q < 80) (h3 : q ≠ 3) : m_clr a r q = a q := by
  rw [m_clr, pk_un h3, m_cc_lo h]
theorem sgp_p {a : Nat → Int32} {u : Nat} {v : Int32} : m_p (sgp a u v) u 1 = m_p a u 1 := pk_un (by omega)
theorem sgp_lo {a : Nat → Int32} {u q : Nat} {v : Int32} (h : q < 40) : sgp a u v q = a q := pk_un (by omega)
theorem in3_of {x : Int32} (h : ¬ x < nI 0 ∧ ¬ nI 2 < x) : x.toNatClampNeg < 3 ∧ x = nI x.toNatClampNeg := by
  obtain ⟨j, hj, rfl⟩ := nI_of (x := x) h.1
  have h3 := Int32.not_lt.mp h.2
  rw [nI_leI hj (by omega)] at h3
  rw [nI_clamp hj]
  exact ⟨by omega, rfl⟩
theorem hd_X8_record : yX8_record.cls = RX8 ∧ yX8_record.cls ≠ "java/lang/invoke/MethodHandle" ∧ yX8_record.cls ≠ "java/lang/invoke/VarHandle" ∧ (parseMethodDescriptor yX8_record.desc).map (fun d => d.parameters.length) = some 0 := by decide +kernel
def s_X8_enter (a : Nat → Int32) (h : Nat → Int32) (sn : Nat → Int32) (tx : Nat → Int32) (k : Nat → Int32) (x : Int32) (nb : Nat) (kp : Nat) : Int32 × (Nat → Int32) × (Nat → Int32) × (Nat → Int32) × (Nat → Int32) × (Nat → Int32) := (if ¬ x < (nI 50) ∧ ¬ (nI 150) < x then (if (a 2) ≤ 0 then (if (a 1) = (nI 9) then ((-3), a, h, sn, tx, k) else (((upd ((upd a (7 + nb) x)) 1 (((upd a (7 + nb) x) 1) + (nI 1))) 1) - (nI 1), (upd ((upd a (7 + nb) x)) 1 (((upd a (7 + nb) x) 1) + (nI 1))), (m_hn a h kp), sn, tx, (va_up k 0 (nI (m_kn kp))))) else ((-4), a, h, sn, tx, k)) else ((-2), a, h, sn, tx, k))
set_option maxHeartbeats 4000000 in
set_option maxRecDepth 100000 in
theorem k_X8_enter {l : Launch} {D : va_G} {cI cB cS : ClassId} {ad : Nat → Nat} {N : Nat} {F : Nat → va_E} (hI : iN ad N) (o : Nat) (a : Nat → Int32) (h : Nat → Int32) (sn : Nat → Int32) (tx : Nat → Int32) (k : Nat → Int32) (x : Int32) (nb : Nat) (kp : Nat) (hc5 : o + 5 ≤ N) (hF : MoF ad cI F o a h sn tx k) (h1 : a 1 = nI nb) (hb9 : nb ≤ 9) (hk0 : k 0 = nI kp) (hk4 : kp ≤ 4) : Ci l D cI cB cS ad N yX8_enter cX8_enter 2 (some .int) 2 45 [.ref (ad o), .int x] F (fun r F' => r = (s_X8_enter a h sn tx k x nb kp).1 ∧ MoF ad cI F' o ((s_X8_enter a h sn tx k x nb kp).2.1) ((s_X8_enter a h sn tx k x nb kp).2.2.1) ((s_X8_enter a h sn tx k x nb kp).2.2.2.1) ((s_X8_enter a h sn tx k x nb kp).2.2.2.2.1) ((s_X8_enter a h sn tx k x nb kp).2.2.2.2.2) ∧ Fr F F' o (o + 5)) := by
  refine x_met (by decide +kernel) (Nat.le_of_ble_eq_true rfl) ?_
  intro p e s m below meth c X hr hlk hK hw ls hl
  replace hl : lv_has ls 2 [(0, .ref (ad o)), (1, .int x)] := hl
  have hfr : Fr F F (o) (o + 5) := Fr.rf
  refine lv_iload_n X.1 X.2.1 dX8_enter_0 rfl (lv_at hl 1 rfl) ?_
  refine lv_bipush (v := nI 50) X.1 X.2.1 dX8_enter_1 (by decide) ?_
  refine lv_sipush (v := nI 150) X.1 X.2.1 dX8_enter_3 (by decide) ?_
  refine x_callSP X hK hw (As := [.int x, .int (nI 50), .int (nI 150)]) (rest := []) (k_X8_in hI x (nI 50) (nI 150)) (x_cwS yX8_in cX8_in 3 (some .boolean) 3 X q909 q910 q14 q911 hd_X8_in ⟨Nat.le_of_ble_eq_true rfl, Nat.le_of_ble_eq_true rfl⟩) rfl hl.1 rfl (Nat.le_of_ble_eq_true rfl) dX8_enter_6 ⟨Nat.le_of_ble_eq_true rfl, Nat.le_of_ble_eq_true rfl⟩ (fun H locs hw => ?_)
  refine lv_if_ne (tgt := 15) X.1 X.2.1 dX8_enter_9 (by decide) (fun c1 => ?_) (fun c1 => ?_)
  · replace c1 := bI_nz c1
    refine lv_aload_n X.1 X.2.1 dX8_enter_15 rfl (lv_at hl 0 rfl) ?_
    refine x_get X hK hw (C := RX8) (T := TX8) (nf := 12) (k := o) (by omega) hF.1 rfl inX8 0 (by decide) q868 (fun _ h9 => h9) rfl dX8_enter_16 ?_
    refine lv_iconst (v := nI 2) X.1 X.2.1 dX8_enter_19 (by decide) ?_
    refine x_ialdN X hK hw (k := (o + 1)) (by omega) hF.2.1 (i := nI 2) (j := 2) rfl (by omega) (by omega) dX8_enter_20 ?_
    refine lv_if_le (tgt := 27) X.1 X.2.1 dX8_enter_21 (by decide) (fun c2 => ?_) (fun c2 => ?_)
    · refine lv_aload_n X.1 X.2.1 dX8_enter_27 rfl (lv_at hl 0 rfl) ?_
      refine x_get X hK hw (C := RX8) (T := TX8) (nf := 12) (k := o) (by omega) hF.1 rfl inX8 0 (by decide) q868 (fun _ h9 => h9) rfl dX8_enter_28 ?_
      refine lv_iconst (v := nI 1) X.1 X.2.1 dX8_enter_31 (by decide) ?_
      refine x_ialdN X hK hw (k := (o + 1)) (by omega) hF.2.1 (i := nI 1) (j := 1) rfl (by omega) (by omega) dX8_enter_32 ?_
      refine lv_bipush (v := nI 9) X.1 X.2.1 dX8_enter_33 (by decide) ?_
      refine lv_icmp_ne (tgt := 41) X.1 X.2.1 dX8_enter_35 (by decide) (fun c3 => ?_) (fun c3 => ?_)
      · refine lv_aload_n X.1 X.2.1 dX8_enter_41 rfl (lv_at hl 0 rfl) ?_
        refine x_callVv X hK hw (k := o) (As := []) (rest := []) (k_X8_record hI o a h sn tx k kp (by omega) hF hk0 (by omega)) (x_cwV yX8_record cX8_record 2 none 0 X q912 q914 qs17 q14 q915 hd_X8_record ⟨Nat.le_of_ble_eq_true rfl, Nat.le_of_ble_eq_true rfl⟩) (by omega) hF.1 rfl rfl hl.1 rfl (Nat.le_of_ble_eq_true rfl) dX8_enter_42 ⟨Nat.le_of_ble_eq_true rfl, Nat.le_of_ble_eq_true rfl⟩ (fun F4 H locs hp hw => ?_)
        obtain ⟨hF5, hr6⟩ := hp
        replace hfr := hfr.tr hr6 (by omega) (by omega)
        refine lv_aload_n X.1 X.2.1 dX8_enter_45 rfl (lv_at hl 0 rfl) ?_
        refine x_get X hK hw (C := RX8) (T := TX8) (nf := 12) (k := o) (by omega) hF5.1 rfl inX8 0 (by decide) q868 (fun _ h9 => h9) rfl dX8_enter_46 ?_
        refine lv_bipush (v := nI 7) X.1 X.2.1 dX8_enter_49 (by decide) ?_
        refine lv_aload_n X.1 X.2.1 dX8_enter_51 rfl (lv_at hl 0 rfl) ?_
        refine x_get X hK hw (C := RX8) (T := TX8) (nf := 12) (k := o) (by omega) hF5.1 rfl inX8 0 (by decide) q868 (fun _ h9 => h9) rfl dX8_enter_52 ?_
        refine lv_iconst (v := nI 1) X.1 X.2.1 dX8_enter_55 (by decide) ?_
        refine x_ialdN X hK hw (k := (o + 1)) (by omega) hF5.2.1 (i := nI 1) (j := 1) rfl (by omega) (by omega) dX8_enter_56 ?_
        refine x_top (y := nI nb) h1 ?_
        refine lv_iadd X.1 X.2.1 dX8_enter_57 ?_
        refine x_top (nI_add _ _) ?_
        refine lv_iload_n X.1 X.2.1 dX8_enter_58 rfl (lv_at hl 1 rfl) ?_
        refine x_iastN2 X hI hK hw (k := (o + 1)) (by omega) hF5.2.1 (i := nI (7 + nb)) (j := 7 + nb) rfl (by omega) (by omega) dX8_enter_59 (fun F7 H locs eF8 hw => ?_)
        have hF9 := MoF.st0 hF5 eF8
        have hr10 := fr_eq eF8 (Nat.le_refl _) (Nat.lt_succ_self _)
        replace hfr := hfr.tr hr10 (by omega) (by omega)
        refine lv_aload_n X.1 X.2.1 dX8_enter_60 rfl (lv_at hl 0 rfl) ?_
        refine x_get X hK hw (C := RX8) (T := TX8) (nf := 12) (k := o) (by omega) hF9.1 rfl inX8 0 (by decide) q868 (fun _ h9 => h9) rfl dX8_enter_61 ?_
        refine lv_iconst (v := nI 1) X.1 X.2.1 dX8_enter_64 (by decide) ?_
        refine lv_dup2_11 X.1 X.2.1 dX8_enter_65 rfl rfl ?_
        refine x_ialdN X hK hw (k := (o + 1)) (by omega) hF9.2.1 (i := nI 1) (j := 1) rfl (by omega) (by omega) dX8_enter_66 ?_
        refine lv_iconst (v := nI 1) X.1 X.2.1 dX8_enter_67 (by decide) ?_
        refine lv_iadd X.1 X.2.1 dX8_enter_68 ?_
        refine x_iastN2 X hI hK hw (k := (o + 1)) (by omega) hF9.2.1 (i := nI 1) (j := 1) rfl (by omega) (by omega) dX8_enter_69 (fun F11 H locs eF12 hw => ?_)
        have hF13 := MoF.st0 hF9 eF12
        have hr14 := fr_eq eF12 (Nat.le_refl _) (Nat.lt_succ_self _)
        replace hfr := hfr.tr hr14 (by omega) (by omega)
        refine lv_aload_n X.1 X.2.1 dX8_enter_70 rfl (lv_at hl 0 rfl) ?_
        refine x_get X hK hw (C := RX8) (T := TX8) (nf := 12) (k := o) (by omega) hF13.1 rfl inX8 0 (by decide) q868 (fun _ h9 => h9) rfl dX8_enter_71 ?_
        refine lv_iconst (v := nI 1) X.1 X.2.1 dX8_enter_74 (by decide) ?_
        refine x_ialdN X hK hw (k := (o + 1)) (by omega) hF13.2.1 (i := nI 1) (j := 1) rfl (by omega) (by omega) dX8_enter_75 ?_
        refine lv_iconst (v := nI 1) X.1 X.2.1 dX8_enter_76 (by decide) ?_
        refine lv_isub X.1 X.2.1 dX8_enter_77 ?_
        exact x_iret X hr hlk hK hw (v := ((upd ((upd a (7 + nb) x)) 1 (((upd a (7 + nb) x) 1) + (nI 1))) 1) - (nI 1)) rfl (auto_mo (by rw [s_X8_enter, if_pos c1, if_pos c2, if_neg c3] : s_X8_enter a h sn tx k x nb kp = (((upd ((upd a (7 + nb) x)) 1 (((upd a (7 + nb) x) 1) + (nI 1))) 1) - (nI 1), (upd ((upd a (7 + nb) x)) 1 (((upd a (7 + nb) x) 1) + (nI 1))), (m_hn a h kp), sn, tx, (va_up k 0 (nI (m_kn kp))))) hF13 hfr) dX8_enter_78
      · refine lv_bipush (v := (-3)) X.1 X.2.1 dX8_enter_38 (by decide) ?_
        exact x_iret X hr hlk hK hw (v := (-3)) rfl (auto_mo (by rw [s_X8_enter, if_pos c1, if_pos c2, if_pos c3] : s_X8_enter a h sn tx k x nb kp = ((-3), a, h, sn, tx, k)) hF hfr) dX8_enter_40
    · refine lv_bipush (v := (-4)) X.1 X.2.1 dX8_enter_24 (by decide) ?_
      exact x_iret X hr hlk hK hw (v := (-4)) rfl (auto_mo (by rw [s_X8_enter, if_pos c1, if_neg c2] : s_X8_enter a h sn tx k x nb kp = ((-4), a, h, sn, tx, k)) hF hfr) dX8_enter_26
  · replace c1 := bI_z c1
    refine lv_bipush (v := (-2)) X.1 X.2.1 dX8_enter_12 (by decide) ?_
    exact x_iret X hr hlk hK hw (v := (-2)) rfl (auto_mo (by rw [s_X8_enter, if_neg c1] : s_X8_enter a h sn tx k x nb kp = ((-2), a, h, sn, tx, k)) hF hfr) dX8_enter_14
theorem hd_X8_clear : yX8_clear.cls = RX8 ∧ yX8_clear.cls ≠ "java/lang/invoke/MethodHandle" ∧ yX8_clear.cls ≠ "java/lang/invoke/VarHandle" ∧ (parseMethodDescriptor yX8_clear.desc).map (fun d => d.parameters.length) = some 0 := by decide +kernel
theorem hd_X8_isPrepared : yX8_isPrepared.cls = RX8 ∧ yX8_isPrepared.cls ≠ "java/lang/invoke/MethodHandle" ∧ yX8_isPrepared.cls ≠ "java/lang/invoke/VarHandle" ∧ (parseMethodDescriptor yX8_isPrepared.desc).map (fun d => d.parameters.length) = some 0 := by decide +kernel
def s_X8_prepare (a : Nat → Int32) (h : Nat → Int32) (sn : Nat → Int32) (tx : Nat → Int32) (k : Nat → Int32) (x : Int32) (y : Int32) (w : Int32) (nr : Nat) (kp : Nat) : Int32 × (Nat → Int32) × (Nat → Int32) × (Nat → Int32) × (Nat → Int32) × (Nat → Int32) := (if ¬ x < (nI 1) ∧ ¬ (nI 5) < x then (if ¬ y < (nI 1) ∧ ¬ (nI 3) < y then (if ¬ w < (nI 60) ∧ ¬ (nI 3600) < w then (if (a 1) = 0 then ((-4), a, h, sn, tx, k) else (if 0 < nr ∧ m_r a (nr - 1) 3 = 0 then ((-4), a, h, sn, tx, k) else (if (a 2) = (nI 6) then ((-3), a, h, sn, tx, k) else (nI (((nr + 1)) - 1), (m_clr ((upd ((upd ((upd ((upd ((upd a ((16 + (4 * nr)) + 0) x)) ((16 + (4 * nr)) + 1) y)) ((16 + (4 * nr)) + 2) (((upd ((upd a ((16 + (4 * nr)) + 0) x)) ((16 + (4 * nr)) + 1) y) 0) + w))) ((16 + (4 * nr)) + 3) (nI 0))) 2 (((upd ((upd ((upd ((upd a ((16 + (4 * nr)) + 0) x)) ((16 + (4 * nr)) + 1) y)) ((16 + (4 * nr)) + 2) (((upd ((upd a ((16 + (4 * nr)) + 0) x)) ((16 + (4 * nr)) + 1) y) 0) + w))) ((16 + (4 * nr)) + 3) (nI 0)) 2) + (nI 1)))) (((nr + 1)) - 1)), (((m_hn a h kp))), sn, tx, (((va_up k 0 (nI (m_kn kp))))))))) else ((-2), a, h, sn, tx, k)) else ((-2), a, h, sn, tx, k)) else ((-2), a, h, sn, tx, k))
set_option maxHeartbeats 4000000 in
set_option maxRecDepth 100000 in
theorem k_X8_prepare {l : Launch} {D : va_G} {cI cB cS : ClassId} {ad : Nat → Nat} {N : Nat} {F : Nat → va_E} (hI : iN ad N) (o : Nat) (a : Nat → Int32) (h : Nat → Int32) (sn : Nat → Int32) (tx : Nat → Int32) (k : Nat → Int32) (x : Int32) (y : Int32) (w : Int32) (nr : Nat) (kp : Nat) (hc5 : o + 5 ≤ N) (hF : MoF ad cI F o a h sn tx k) (h2 : a 2 = nI nr) (hr6 : nr ≤ 6) (hk0 : k 0 = nI kp) (hk4 : kp ≤ 4) : Ci l D cI cB cS ad N yX8_prepare cX8_prepare 5 (some .int) 2 46 [.ref (ad o), .int x, .int y, .int w] F (fun r F' => r = (s_X8_prepare a h sn tx k x y w nr kp).1 ∧ MoF ad cI F' o ((s_X8_prepare a h sn tx k x y w nr kp).2.1) ((s_X8_prepare a h sn tx k x y w nr kp).2.2.1) ((s_X8_prepare a h sn tx k x y w nr kp).2.2.2.1) ((s_X8_prepare a h sn tx k x y w nr kp).2.2.2.2.1) ((s_X8_prepare a h sn tx k x y w nr kp).2.2.2.2.2) ∧ Fr F F' o (o + 5)) := by
  refine x_met (by decide +kernel) (Nat.le_of_ble_eq_true rfl) ?_
  intro p e s m below meth c X hr hlk hK hw ls hl
  replace hl : lv_has ls 5 [(0, .ref (ad o)), (1, .int x), (2, .int y), (3, .int w)] := hl
  have hfr : Fr F F (o) (o + 5) := Fr.rf
  refine lv_iload_n X.1 X.2.1 dX8_prepare_0 rfl (lv_at hl 1 rfl) ?_
  refine lv_iconst (v := nI 1) X.1 X.2.1 dX8_prepare_1 (by decide) ?_
  refine lv_iconst (v := nI 5) X.1 X.2.1 dX8_prepare_2 (by decide) ?_
  refine x_callSP X hK hw (As := [.int x, .int (nI 1), .int (nI 5)]) (rest := []) (k_X8_in hI x (nI 1) (nI 5)) (x_cwS yX8_in cX8_in 3 (some .boolean) 3 X q909 q910 q14 q911 hd_X8_in ⟨Nat.le_of_ble_eq_true rfl, Nat.le_of_ble_eq_true rfl⟩) rfl hl.1 rfl (Nat.le_of_ble_eq_true rfl) dX8_prepare_3 ⟨Nat.le_of_ble_eq_true rfl, Nat.le_of_ble_eq_true rfl⟩ (fun H locs hw => ?_)
  refine lv_if_eq (tgt := 30) X.1 X.2.1 dX8_prepare_6 (by decide) (fun c1 => ?_) (fun c1 => ?_)
  · replace c1 := bI_z c1
    refine lv_bipush (v := (-2)) X.1 X.2.1 dX8_prepare_30 (by decide) ?_
    exact x_iret X hr hlk hK hw (v := (-2)) rfl (auto_mo (by rw [s_X8_prepare, if_neg c1] : s_X8_prepare a h sn tx k x y w nr kp = ((-2), a, h, sn, tx, k)) hF hfr) dX8_prepare_32
  · replace c1 := bI_nz c1
    refine lv_iload_n X.1 X.2.1 dX8_prepare_9 rfl (lv_at hl 2 rfl) ?_
    refine lv_iconst (v := nI 1) X.1 X.2.1 dX8_prepare_10 (by decide) ?_
    refine lv_iconst (v := nI 3) X.1 X.2.1 dX8_prepare_11 (by decide) ?_
    refine x_callSP X hK hw (As := [.int y, .int (nI 1), .int (nI 3)]) (rest := []) (k_X8_in hI y (nI 1) (nI 3)) (x_cwS yX8_in cX8_in 3 (some .boolean) 3 X q909 q910 q14 q911 hd_X8_in ⟨Nat.le_of_ble_eq_true rfl, Nat.le_of_ble_eq_true rfl⟩) rfl hl.1 rfl (Nat.le_of_ble_eq_true rfl) dX8_prepare_12 ⟨Nat.le_of_ble_eq_true rfl, Nat.le_of_ble_eq_true rfl⟩ (fun H locs hw => ?_)
    refine lv_if_eq (tgt := 30) X.1 X.2.1 dX8_prepare_15 (by decide) (fun c2 => ?_) (fun c2 => ?_)
    · replace c2 := bI_z c2
      refine lv_bipush (v := (-2)) X.1 X.2.1 dX8_prepare_30 (by decide) ?_
      exact x_iret X hr hlk hK hw (v := (-2)) rfl (auto_mo (by rw [s_X8_prepare, if_pos c1, if_neg c2] : s_X8_prepare a h sn tx k x y w nr kp = ((-2), a, h, sn, tx, k)) hF hfr) dX8_prepare_32
    · replace c2 := bI_nz c2
      refine lv_iload_n X.1 X.2.1 dX8_prepare_18 rfl (lv_at hl 3 rfl) ?_
      refine lv_bipush (v := nI 60) X.1 X.2.1 dX8_prepare_19 (by decide) ?_
      refine lv_sipush (v := nI 3600) X.1 X.2.1 dX8_prepare_21 (by decide) ?_
      refine x_callSP X hK hw (As := [.int w, .int (nI 60), .int (nI 3600)]) (rest := []) (k_X8_in hI w (nI 60) (nI 3600)) (x_cwS yX8_in cX8_in 3 (some .boolean) 3 X q909 q910 q14 q911 hd_X8_in ⟨Nat.le_of_ble_eq_true rfl, Nat.le_of_ble_eq_true rfl⟩) rfl hl.1 rfl (Nat.le_of_ble_eq_true rfl) dX8_prepare_24 ⟨Nat.le_of_ble_eq_true rfl, Nat.le_of_ble_eq_true rfl⟩ (fun H locs hw => ?_)
      refine lv_if_ne (tgt := 33) X.1 X.2.1 dX8_prepare_27 (by decide) (fun c3 => ?_) (fun c3 => ?_)
      · replace c3 := bI_nz c3
        refine lv_aload_n X.1 X.2.1 dX8_prepare_33 rfl (lv_at hl 0 rfl) ?_
        refine x_get X hK hw (C := RX8) (T := TX8) (nf := 12) (k := o) (by omega) hF.1 rfl inX8 0 (by decide) q868 (fun _ h9 => h9) rfl dX8_prepare_34 ?_
        refine lv_iconst (v := nI 1) X.1 X.2.1 dX8_prepare_37 (by decide) ?_
        refine x_ialdN X hK hw (k := (o + 1)) (by omega) hF.2.1 (i := nI 1) (j := 1) rfl (by omega) (by omega) dX8_prepare_38 ?_
        refine lv_if_eq (tgt := 49) X.1 X.2.1 dX8_prepare_39 (by decide) (fun c4 => ?_) (fun c4 => ?_)
        · refine lv_bipush (v := (-4)) X.1 X.2.1 dX8_prepare_49 (by decide) ?_
          exact x_iret X hr hlk hK hw (v := (-4)) rfl (auto_mo (by rw [s_X8_prepare, if_pos c1, if_pos c2, if_pos c3, if_pos c4] : s_X8_prepare a h sn tx k x y w nr kp = ((-4), a, h, sn, tx, k)) hF hfr) dX8_prepare_51
        · refine lv_aload_n X.1 X.2.1 dX8_prepare_42 rfl (lv_at hl 0 rfl) ?_
          refine x_callVP X hK hw (k := o) (As := []) (rest := []) (k_X8_isPrepared hI o a h sn tx k nr (by omega) hF h2 (by omega)) (x_cwV yX8_isPrepared cX8_isPrepared 1 (some .boolean) 0 X q923 q925 qs18 q14 q926 hd_X8_isPrepared ⟨Nat.le_of_ble_eq_true rfl, Nat.le_of_ble_eq_true rfl⟩) (by omega) hF.1 rfl rfl hl.1 rfl (Nat.le_of_ble_eq_true rfl) dX8_prepare_43 ⟨Nat.le_of_ble_eq_true rfl, Nat.le_of_ble_eq_true rfl⟩ (fun H locs hw => ?_)
          refine lv_if_eq (tgt := 52) X.1 X.2.1 dX8_prepare_46 (by decide) (fun c5 => ?_) (fun c5 => ?_)
          · replace c5 := bI_z c5
            refine lv_aload_n X.1 X.2.1 dX8_prepare_52 rfl (lv_at hl 0 rfl) ?_
            refine x_get X hK hw (C := RX8) (T := TX8) (nf := 12) (k := o) (by omega) hF.1 rfl inX8 0 (by decide) q868 (fun _ h9 => h9) rfl dX8_prepare_53 ?_
            refine lv_iconst (v := nI 2) X.1 X.2.1 dX8_prepare_56 (by decide) ?_
            refine x_ialdN X hK hw (k := (o + 1)) (by omega) hF.2.1 (i := nI 2) (j := 2) rfl (by omega) (by omega) dX8_prepare_57 ?_
            refine lv_bipush (v := nI 6) X.1 X.2.1 dX8_prepare_58 (by decide) ?_
            refine lv_icmp_ne (tgt := 66) X.1 X.2.1 dX8_prepare_60 (by decide) (fun c6 => ?_) (fun c6 => ?_)
            · have h6 : nr < 6 := by rcases Nat.lt_or_ge nr 6 with q | q; exact q; exact absurd (by rw [h2, show nr = 6 by omega]) c6
              refine lv_aload_n X.1 X.2.1 dX8_prepare_66 rfl (lv_at hl 0 rfl) ?_
              refine x_callVv X hK hw (k := o) (As := []) (rest := []) (k_X8_record hI o a h sn tx k kp (by omega) hF hk0 (by omega)) (x_cwV yX8_record cX8_record 2 none 0 X q912 q914 qs17 q14 q915 hd_X8_record ⟨Nat.le_of_ble_eq_true rfl, Nat.le_of_ble_eq_true rfl⟩) (by omega) hF.1 rfl rfl hl.1 rfl (Nat.le_of_ble_eq_true rfl) dX8_prepare_67 ⟨Nat.le_of_ble_eq_true rfl, Nat.le_of_ble_eq_true rfl⟩ (fun F7 H locs hp hw => ?_)
              obtain ⟨hF8, hr9⟩ := hp
              replace hfr := hfr.tr hr9 (by omega) (by omega)
              refine lv_bipush (v := nI 16) X.1 X.2.1 dX8_prepare_70 (by decide) ?_
              refine lv_iconst (v := nI 4) X.1 X.2.1 dX8_prepare_72 (by decide) ?_
              refine lv_aload_n X.1 X.2.1 dX8_prepare_73 rfl (lv_at hl 0 rfl) ?_
              refine x_get X hK hw (C := RX8) (T := TX8) (nf := 12) (k := o) (by omega) hF8.1 rfl inX8 0 (by decide) q868 (fun _ h9 => h9) rfl dX8_prepare_74 ?_
              refine lv_iconst (v := nI 2) X.1 X.2.1 dX8_prepare_77 (by decide) ?_
              refine x_ialdN X hK hw (k := (o + 1)) (by omega) hF8.2.1 (i := nI 2) (j := 2) rfl (by omega) (by omega) dX8_prepare_78 ?_
              refine x_top (y := nI nr) h2 ?_
              refine lv_imul X.1 X.2.1 dX8_prepare_79 ?_
              refine x_top (pk_mul _ _) ?_
              refine lv_iadd X.1 X.2.1 dX8_prepare_80 ?_
              refine x_top (nI_add _ _) ?_
              refine lv_istore (lv' := [(4, .int (nI (16 + (4 * nr)))), (0, .ref (ad o)), (1, .int x), (2, .int y), (3, .int w)]) X.1 X.2.1 dX8_prepare_81 hl (by decide) rfl (fun ls hl => ?_)
              refine lv_aload_n X.1 X.2.1 dX8_prepare_83 rfl (lv_at hl 1 rfl) ?_
              refine x_get X hK hw (C := RX8) (T := TX8) (nf := 12) (k := o) (by omega) hF8.1 rfl inX8 0 (by decide) q868 (fun _ h9 => h9) rfl dX8_prepare_84 ?_
              refine lv_iload X.1 X.2.1 dX8_prepare_87 (lv_at hl 0 rfl) ?_
              refine lv_iconst (v := nI 0) X.1 X.2.1 dX8_prepare_89 (by decide) ?_
              refine lv_iadd X.1 X.2.1 dX8_prepare_90 ?_
              refine x_top (nI_add _ _) ?_
              refine lv_iload_n X.1 X.2.1 dX8_prepare_91 rfl (lv_at hl 2 rfl) ?_
              refine x_iastN2 X hI hK hw (k := (o + 1)) (by omega) hF8.2.1 (i := nI ((16 + (4 * nr)) + 0)) (j := (16 + (4 * nr)) + 0) rfl (by omega) (by omega) dX8_prepare_92 (fun F10 H locs eF11 hw => ?_)
              have hF12 := MoF.st0 hF8 eF11
              have hr13 := fr_eq eF11 (Nat.le_refl _) (Nat.lt_succ_self _)
              replace hfr := hfr.tr hr13 (by omega) (by omega)
              refine lv_aload_n X.1 X.2.1 dX8_prepare_93 rfl (lv_at hl 1 rfl) ?_
              refine x_get X hK hw (C := RX8) (T := TX8) (nf := 12) (k := o) (by omega) hF12.1 rfl inX8 0 (by decide) q868 (fun _ h9 => h9) rfl dX8_prepare_94 ?_
              refine lv_iload X.1 X.2.1 dX8_prepare_97 (lv_at hl 0 rfl) ?_
              refine lv_iconst (v := nI 1) X.1 X.2.1 dX8_prepare_99 (by decide) ?_
              refine lv_iadd X.1 X.2.1 dX8_prepare_100 ?_
              refine x_top (nI_add _ _) ?_
              refine lv_iload_n X.1 X.2.1 dX8_prepare_101 rfl (lv_at hl 3 rfl) ?_
              refine x_iastN2 X hI hK hw (k := (o + 1)) (by omega) hF12.2.1 (i := nI ((16 + (4 * nr)) + 1)) (j := (16 + (4 * nr)) + 1) rfl (by omega) (by omega) dX8_prepare_102 (fun F14 H locs eF15 hw => ?_)
              have hF16 := MoF.st0 hF12 eF15
              have hr17 := fr_eq eF15 (Nat.le_refl _) (Nat.lt_succ_self _)
              replace hfr := hfr.tr hr17 (by omega) (by omega)
              refine lv_aload_n X.1 X.2.1 dX8_prepare_103 rfl (lv_at hl 1 rfl) ?_
              refine x_get X hK hw (C := RX8) (T := TX8) (nf := 12) (k := o) (by omega) hF16.1 rfl inX8 0 (by decide) q868 (fun _ h9 => h9) rfl dX8_prepare_104 ?_
              refine lv_iload X.1 X.2.1 dX8_prepare_107 (lv_at hl 0 rfl) ?_
              refine lv_iconst (v := nI 2) X.1 X.2.1 dX8_prepare_109 (by decide) ?_
              refine lv_iadd X.1 X.2.1 dX8_prepare_110 ?_
              refine x_top (nI_add _ _) ?_
              refine lv_aload_n X.1 X.2.1 dX8_prepare_111 rfl (lv_at hl 1 rfl) ?_
              refine x_get X hK hw (C := RX8) (T := TX8) (nf := 12) (k := o) (by omega) hF16.1 rfl inX8 0 (by decide) q868 (fun _ h9 => h9) rfl dX8_prepare_112 ?_
              refine lv_iconst (v := nI 0) X.1 X.2.1 dX8_prepare_115 (by decide) ?_
              refine x_ialdN X hK hw (k := (o + 1)) (by omega) hF16.2.1 (i := nI 0) (j := 0) rfl (by omega) (by omega) dX8_prepare_116 ?_
              refine lv_iload_n X.1 X.2.1 dX8_prepare_117 rfl (lv_at hl 4 rfl) ?_
              refine lv_iadd X.1 X.2.1 dX8_prepare_118 ?_
              refine x_iastN2 X hI hK hw (k := (o + 1)) (by omega) hF16.2.1 (i := nI ((16 + (4 * nr)) + 2)) (j := (16 + (4 * nr)) + 2) rfl (by omega) (by omega) dX8_prepare_119 (fun F18 H locs eF19 hw => ?_)
              have hF20 := MoF.st0 hF16 eF19
              have hr21 := fr_eq eF19 (Nat.le_refl _) (Nat.lt_succ_self _)
              replace hfr := hfr.tr hr21 (by omega) (by omega)
              refine lv_aload_n X.1 X.2.1 dX8_prepare_120 rfl (lv_at hl 1 rfl) ?_
              refine x_get X hK hw (C := RX8) (T := TX8) (nf := 12) (k := o) (by omega) hF20.1 rfl inX8 0 (by decide) q868 (fun _ h9 => h9) rfl dX8_prepare_121 ?_
              refine lv_iload X.1 X.2.1 dX8_prepare_124 (lv_at hl 0 rfl) ?_
              refine lv_iconst (v := nI 3) X.1 X.2.1 dX8_prepare_126 (by decide) ?_
              refine lv_iadd X.1 X.2.1 dX8_prepare_127 ?_
              refine x_top (nI_add _ _) ?_
              refine lv_iconst (v := nI 0) X.1 X.2.1 dX8_prepare_128 (by decide) ?_
              refine x_iastN2 X hI hK hw (k := (o + 1)) (by omega) hF20.2.1 (i := nI ((16 + (4 * nr)) + 3)) (j := (16 + (4 * nr)) + 3) rfl (by omega) (by omega) dX8_prepare_129 (fun F22 H locs eF23 hw => ?_)
              have hF24 := MoF.st0 hF20 eF23
              have hr25 := fr_eq eF23 (Nat.le_refl _) (Nat.lt_succ_self _)
              replace hfr := hfr.tr hr25 (by omega) (by omega)
              refine lv_aload_n X.1 X.2.1 dX8_prepare_130 rfl (lv_at hl 1 rfl) ?_
              refine x_get X hK hw (C := RX8) (T := TX8) (nf := 12) (k := o) (by omega) hF24.1 rfl inX8 0 (by decide) q868 (fun _ h9 => h9) rfl dX8_prepare_131 ?_
              refine lv_iconst (v := nI 2) X.1 X.2.1 dX8_prepare_134 (by decide) ?_
              refine lv_dup2_11 X.1 X.2.1 dX8_prepare_135 rfl rfl ?_
              refine x_ialdN X hK hw (k := (o + 1)) (by omega) hF24.2.1 (i := nI 2) (j := 2) rfl (by omega) (by omega) dX8_prepare_136 ?_
              refine lv_iconst (v := nI 1) X.1 X.2.1 dX8_prepare_137 (by decide) ?_
              refine lv_iadd X.1 X.2.1 dX8_prepare_138 ?_
              refine x_iastN2 X hI hK hw (k := (o + 1)) (by omega) hF24.2.1 (i := nI 2) (j := 2) rfl (by omega) (by omega) dX8_prepare_139 (fun F26 H locs eF27 hw => ?_)
              have hF28 := MoF.st0 hF24 eF27
              have hr29 := fr_eq eF27 (Nat.le_refl _) (Nat.lt_succ_self _)
              replace hfr := hfr.tr hr29 (by omega) (by omega)
              have h2' : ((upd ((upd ((upd ((upd ((upd a ((16 + (4 * nr)) + 0) x)) ((16 + (4 * nr)) + 1) y)) ((16 + (4 * nr)) + 2) (((upd ((upd a ((16 + (4 * nr)) + 0) x)) ((16 + (4 * nr)) + 1) y) 0) + w))) ((16 + (4 * nr)) + 3) (nI 0))) 2 (((upd ((upd ((upd ((upd a ((16 + (4 * nr)) + 0) x)) ((16 + (4 * nr)) + 1) y)) ((16 + (4 * nr)) + 2) (((upd ((upd a ((16 + (4 * nr)) + 0) x)) ((16 + (4 * nr)) + 1) y) 0) + w))) ((16 + (4 * nr)) + 3) (nI 0)) 2) + (nI 1)))) 2 = nI (nr + 1) := by rw [pk_us, pk_un (by omega), pk_un (by omega), pk_un (by omega), pk_un (by omega), h2, nI_add]
              refine lv_aload_n X.1 X.2.1 dX8_prepare_140 rfl (lv_at hl 1 rfl) ?_
              refine x_callVv X hK hw (k := o) (As := []) (rest := []) (k_X8_clear hI o ((upd ((upd ((upd ((upd ((upd a ((16 + (4 * nr)) + 0) x)) ((16 + (4 * nr)) + 1) y)) ((16 + (4 * nr)) + 2) (((upd ((upd a ((16 + (4 * nr)) + 0) x)) ((16 + (4 * nr)) + 1) y) 0) + w))) ((16 + (4 * nr)) + 3) (nI 0))) 2 (((upd ((upd ((upd ((upd a ((16 + (4 * nr)) + 0) x)) ((16 + (4 * nr)) + 1) y)) ((16 + (4 * nr)) + 2) (((upd ((upd a ((16 + (4 * nr)) + 0) x)) ((16 + (4 * nr)) + 1) y) 0) + w))) ((16 + (4 * nr)) + 3) (nI 0)) 2) + (nI 1)))) ((m_hn a h kp)) sn tx ((va_up k 0 (nI (m_kn kp)))) ((nr + 1)) (by omega) hF28 h2' (by omega) (by omega)) (x_cwV yX8_clear cX8_clear 3 none 0 X q935 q937 qs21 q14 q938 hd_X8_clear ⟨Nat.le_of_ble_eq_true rfl, Nat.le_of_ble_eq_true rfl⟩) (by omega) hF28.1 rfl rfl hl.1 rfl (Nat.le_of_ble_eq_true rfl) dX8_prepare_141 ⟨Nat.le_of_ble_eq_true rfl, Nat.le_of_ble_eq_true rfl⟩ (fun F30 H locs hp hw => ?_)
              obtain ⟨hF31, hr32⟩ := hp
              replace hfr := hfr.tr hr32 (by omega) (by omega)
              refine lv_aload_n X.1 X.2.1 dX8_prepare_144 rfl (lv_at hl 1 rfl) ?_
              refine x_callVP X hK hw (k := o) (As := []) (rest := []) (k_X8_latest hI o ((m_clr ((upd ((upd ((upd ((upd ((upd a ((16 + (4 * nr)) + 0) x)) ((16 + (4 * nr)) + 1) y)) ((16 + (4 * nr)) + 2) (((upd ((upd a ((16 + (4 * nr)) + 0) x)) ((16 + (4 * nr)) + 1) y) 0) + w))) ((16 + (4 * nr)) + 3) (nI 0))) 2 (((upd ((upd ((upd ((upd a ((16 + (4 * nr)) + 0) x)) ((16 + (4 * nr)) + 1) y)) ((16 + (4 * nr)) + 2) (((upd ((upd a ((16 + (4 * nr)) + 0) x)) ((16 + (4 * nr)) + 1) y) 0) + w))) ((16 + (4 * nr)) + 3) (nI 0)) 2) + (nI 1)))) (((nr + 1)) - 1))) ((((m_hn a h kp)))) sn tx ((((va_up k 0 (nI (m_kn kp)))))) ((nr + 1)) (by omega) hF31 ((m_clr_lo (by omega) (by omega)).trans h2') (by omega) (by omega)) (x_cwV yX8_latest cX8_latest 1 (some .int) 0 X q927 q929 qs19 q14 q930 hd_X8_latest ⟨Nat.le_of_ble_eq_true rfl, Nat.le_of_ble_eq_true rfl⟩) (by omega) hF31.1 rfl rfl hl.1 rfl (Nat.le_of_ble_eq_true rfl) dX8_prepare_145 ⟨Nat.le_of_ble_eq_true rfl, Nat.le_of_ble_eq_true rfl⟩ (fun H locs hw => ?_)
              exact x_iret X hr hlk hK hw (v := nI (((nr + 1)) - 1)) rfl (auto_mo (by rw [s_X8_prepare, if_pos c1, if_pos c2, if_pos c3, if_neg c4, if_neg c5, if_neg c6] : s_X8_prepare a h sn tx k x y w nr kp = (nI (((nr + 1)) - 1), (m_clr ((upd ((upd ((upd ((upd ((upd a ((16 + (4 * nr)) + 0) x)) ((16 + (4 * nr)) + 1) y)) ((16 + (4 * nr)) + 2) (((upd ((upd a ((16 + (4 * nr)) + 0) x)) ((16 + (4 * nr)) + 1) y) 0) + w))) ((16 + (4 * nr)) + 3) (nI 0))) 2 (((upd ((upd ((upd ((upd a ((16 + (4 * nr)) + 0) x)) ((16 + (4 * nr)) + 1) y)) ((16 + (4 * nr)) + 2) (((upd ((upd a ((16 + (4 * nr)) + 0) x)) ((16 + (4 * nr)) + 1) y) 0) + w))) ((16 + (4 * nr)) + 3) (nI 0)) 2) + (nI 1)))) (((nr + 1)) - 1)), (((m_hn a h kp))), sn, tx, (((va_up k 0 (nI (m_kn kp))))))) hF31 hfr) dX8_prepare_148
            · refine lv_bipush (v := (-3)) X.1 X.2.1 dX8_prepare_63 (by decide) ?_
              exact x_iret X hr hlk hK hw (v := (-3)) rfl (auto_mo (by rw [s_X8_prepare, if_pos c1, if_pos c2, if_pos c3, if_neg c4, if_neg c5, if_pos c6] : s_X8_prepare a h sn tx k x y w nr kp = ((-3), a, h, sn, tx, k)) hF hfr) dX8_prepare_65
          · replace c5 := bI_nz c5
            refine lv_bipush (v := (-4)) X.1 X.2.1 dX8_prepare_49 (by decide) ?_
            exact x_iret X hr hlk hK hw (v := (-4)) rfl (auto_mo (by rw [s_X8_prepare, if_pos c1, if_pos c2, if_pos c3, if_neg c4, if_pos c5] : s_X8_prepare a h sn tx k x y w nr kp = ((-4), a, h, sn, tx, k)) hF hfr) dX8_prepare_51
      · replace c3 := bI_z c3
        refine lv_bipush (v := (-2)) X.1 X.2.1 dX8_prepare_30 (by decide) ?_
        exact x_iret X hr hlk hK hw (v := (-2)) rfl (auto_mo (by rw [s_X8_prepare, if_pos c1, if_pos c2, if_neg c3] : s_X8_prepare a h sn tx k x y w nr kp = ((-2), a, h, sn, tx, k)) hF hfr) dX8_prepare_32
theorem hd_X8_start : yX8_start.cls = RX8 ∧ yX8_start.cls ≠ "java/lang/invoke/MethodHandle" ∧ yX8_start.cls ≠ "java/lang/invoke/VarHandle" ∧ (parseMethodDescriptor yX8_start.desc).map (fun d => d.parameters.length) = some 0 := by decide +kernel
def s_X8_postpone (a : Nat → Int32) (h : Nat → Int32) (sn : Nat → Int32) (tx : Nat → Int32) (k : Nat → Int32) (x : Int32) (nr : Nat) (kp : Nat) : Int32 × (Nat → Int32) × (Nat → Int32) × (Nat → Int32) × (Nat → Int32) × (Nat → Int32) := (if ¬ x < (nI 1) ∧ ¬ (nI 3600) < x then (if 0 < nr ∧ m_r a (nr - 1) 3 = 0 then (if (a 0) < (m_r a (nr - 1) 2) then (m_r ((upd a ((16 + (4 * (nr - 1))) + 2) ((a ((16 + (4 * (nr - 1))) + 2)) + x))) (nr - 1) 2, (upd a ((16 + (4 * (nr - 1))) + 2) ((a ((16 + (4 * (nr - 1))) + 2)) + x)), (m_hn a h kp), sn, tx, (va_up k 0 (nI (m_kn kp)))) else ((-4), a, h, sn, tx, k)) else ((-4), a, h, sn, tx, k)) else ((-2), a, h, sn, tx, k))
set_option maxHeartbeats 4000000 in
set_option maxRecDepth 100000 in
theorem k_X8_postpone {l : Launch} {D : va_G} {cI cB cS : ClassId} {ad : Nat → Nat} {N : Nat} {F : Nat → va_E} (hI : iN ad N) (o : Nat) (a : Nat → Int32) (h : Nat → Int32) (sn : Nat → Int32) (tx : Nat → Int32) (k : Nat → Int32) (x : Int32) (nr : Nat) (kp : Nat) (hc5 : o + 5 ≤ N) (hF : MoF ad cI F o a h sn tx k) (h2 : a 2 = nI nr) (hr6 : nr ≤ 6) (hk0 : k 0 = nI kp) (hk4 : kp ≤ 4) : Ci l D cI cB cS ad N yX8_postpone cX8_postpone 2 (some .int) 2 45 [.ref (ad o), .int x] F (fun r F' => r = (s_X8_postpone a h sn tx k x nr kp).1 ∧ MoF ad cI F' o ((s_X8_postpone a h sn tx k x nr kp).2.1) ((s_X8_postpone a h sn tx k x nr kp).2.2.1) ((s_X8_postpone a h sn tx k x nr kp).2.2.2.1) ((s_X8_postpone a h sn tx k x nr kp).2.2.2.2.1) ((s_X8_postpone a h sn tx k x nr kp).2.2.2.2.2) ∧ Fr F F' o (o + 5)) := by
  refine x_met (by decide +kernel) (Nat.le_of_ble_eq_true rfl) ?_
  intro p e s m below meth c X hr hlk hK hw ls hl
  replace hl : lv_has ls 2 [(0, .ref (ad o)), (1, .int x)] := hl
  have hfr : Fr F F (o) (o + 5) := Fr.rf
  refine lv_iload_n X.1 X.2.1 dX8_postpone_0 rfl (lv_at hl 1 rfl) ?_
  refine lv_iconst (v := nI 1) X.1 X.2.1 dX8_postpone_1 (by decide) ?_
  refine lv_sipush (v := nI 3600) X.1 X.2.1 dX8_postpone_2 (by decide) ?_
  refine x_callSP X hK hw (As := [.int x, .int (nI 1), .int (nI 3600)]) (rest := []) (k_X8_in hI x (nI 1) (nI 3600)) (x_cwS yX8_in cX8_in 3 (some .boolean) 3 X q909 q910 q14 q911 hd_X8_in ⟨Nat.le_of_ble_eq_true rfl, Nat.le_of_ble_eq_true rfl⟩) rfl hl.1 rfl (Nat.le_of_ble_eq_true rfl) dX8_postpone_5 ⟨Nat.le_of_ble_eq_true rfl, Nat.le_of_ble_eq_true rfl⟩ (fun H locs hw => ?_)
  refine lv_if_ne (tgt := 14) X.1 X.2.1 dX8_postpone_8 (by decide) (fun c1 => ?_) (fun c1 => ?_)
  · replace c1 := bI_nz c1
    refine lv_aload_n X.1 X.2.1 dX8_postpone_14 rfl (lv_at hl 0 rfl) ?_
    refine x_callVP X hK hw (k := o) (As := []) (rest := []) (k_X8_isPrepared hI o a h sn tx k nr (by omega) hF h2 (by omega)) (x_cwV yX8_isPrepared cX8_isPrepared 1 (some .boolean) 0 X q923 q925 qs18 q14 q926 hd_X8_isPrepared ⟨Nat.le_of_ble_eq_true rfl, Nat.le_of_ble_eq_true rfl⟩) (by omega) hF.1 rfl rfl hl.1 rfl (Nat.le_of_ble_eq_true rfl) dX8_postpone_15 ⟨Nat.le_of_ble_eq_true rfl, Nat.le_of_ble_eq_true rfl⟩ (fun H locs hw => ?_)
    refine lv_if_eq (tgt := 34) X.1 X.2.1 dX8_postpone_18 (by decide) (fun c2 => ?_) (fun c2 => ?_)
    · replace c2 := bI_z c2
      refine lv_bipush (v := (-4)) X.1 X.2.1 dX8_postpone_34 (by decide) ?_
      exact x_iret X hr hlk hK hw (v := (-4)) rfl (auto_mo (by rw [s_X8_postpone, if_pos c1, if_neg c2] : s_X8_postpone a h sn tx k x nr kp = ((-4), a, h, sn, tx, k)) hF hfr) dX8_postpone_36
    · replace c2 := bI_nz c2
      have hn := c2.1
      refine lv_aload_n X.1 X.2.1 dX8_postpone_21 rfl (lv_at hl 0 rfl) ?_
      refine x_get X hK hw (C := RX8) (T := TX8) (nf := 12) (k := o) (by omega) hF.1 rfl inX8 0 (by decide) q868 (fun _ h9 => h9) rfl dX8_postpone_22 ?_
      refine lv_iconst (v := nI 0) X.1 X.2.1 dX8_postpone_25 (by decide) ?_
      refine x_ialdN X hK hw (k := (o + 1)) (by omega) hF.2.1 (i := nI 0) (j := 0) rfl (by omega) (by omega) dX8_postpone_26 ?_
      refine lv_aload_n X.1 X.2.1 dX8_postpone_27 rfl (lv_at hl 0 rfl) ?_
      refine x_callVP X hK hw (k := o) (As := []) (rest := [.int (a 0)]) (k_X8_start hI o a h sn tx k nr (by omega) hF h2 (by omega) hn) (x_cwV yX8_start cX8_start 1 (some .int) 0 X q947 q949 qs23 q14 q950 hd_X8_start ⟨Nat.le_of_ble_eq_true rfl, Nat.le_of_ble_eq_true rfl⟩) (by omega) hF.1 rfl rfl hl.1 rfl (Nat.le_of_ble_eq_true rfl) dX8_postpone_28 ⟨Nat.le_of_ble_eq_true rfl, Nat.le_of_ble_eq_true rfl⟩ (fun H locs hw => ?_)
      refine lv_icmp_lt (tgt := 37) X.1 X.2.1 dX8_postpone_31 (by decide) (fun c3 => ?_) (fun c3 => ?_)
      · refine lv_aload_n X.1 X.2.1 dX8_postpone_37 rfl (lv_at hl 0 rfl) ?_
        refine x_callVv X hK hw (k := o) (As := []) (rest := []) (k_X8_record hI o a h sn tx k kp (by omega) hF hk0 (by omega)) (x_cwV yX8_record cX8_record 2 none 0 X q912 q914 qs17 q14 q915 hd_X8_record ⟨Nat.le_of_ble_eq_true rfl, Nat.le_of_ble_eq_true rfl⟩) (by omega) hF.1 rfl rfl hl.1 rfl (Nat.le_of_ble_eq_true rfl) dX8_postpone_38 ⟨Nat.le_of_ble_eq_true rfl, Nat.le_of_ble_eq_true rfl⟩ (fun F4 H locs hp hw => ?_)
        obtain ⟨hF5, hr6⟩ := hp
        replace hfr := hfr.tr hr6 (by omega) (by omega)
        refine lv_aload_n X.1 X.2.1 dX8_postpone_41 rfl (lv_at hl 0 rfl) ?_
        refine x_get X hK hw (C := RX8) (T := TX8) (nf := 12) (k := o) (by omega) hF5.1 rfl inX8 0 (by decide) q868 (fun _ h9 => h9) rfl dX8_postpone_42 ?_
        refine lv_bipush (v := nI 16) X.1 X.2.1 dX8_postpone_45 (by decide) ?_
        refine lv_iconst (v := nI 4) X.1 X.2.1 dX8_postpone_47 (by decide) ?_
        refine lv_aload_n X.1 X.2.1 dX8_postpone_48 rfl (lv_at hl 0 rfl) ?_
        refine x_callVP X hK hw (k := o) (As := []) (rest := [.int (nI 4), .int (nI 16), .ref (ad (o + 1))]) (k_X8_latest hI o a ((m_hn a h kp)) sn tx ((va_up k 0 (nI (m_kn kp)))) nr (by omega) hF5 h2 (by omega) hn) (x_cwV yX8_latest cX8_latest 1 (some .int) 0 X q927 q929 qs19 q14 q930 hd_X8_latest ⟨Nat.le_of_ble_eq_true rfl, Nat.le_of_ble_eq_true rfl⟩) (by omega) hF5.1 rfl rfl hl.1 rfl (Nat.le_of_ble_eq_true rfl) dX8_postpone_49 ⟨Nat.le_of_ble_eq_true rfl, Nat.le_of_ble_eq_true rfl⟩ (fun H locs hw => ?_)
        refine lv_imul X.1 X.2.1 dX8_postpone_52 ?_
        refine x_top (pk_mul _ _) ?_
        refine lv_iadd X.1 X.2.1 dX8_postpone_53 ?_
        refine x_top (nI_add _ _) ?_
        refine lv_iconst (v := nI 2) X.1 X.2.1 dX8_postpone_54 (by decide) ?_
        refine lv_iadd X.1 X.2.1 dX8_postpone_55 ?_
        refine x_top (nI_add _ _) ?_
        refine lv_dup2_11 X.1 X.2.1 dX8_postpone_56 rfl rfl ?_
        refine x_ialdN X hK hw (k := (o + 1)) (by omega) hF5.2.1 (i := nI ((16 + (4 * (nr - 1))) + 2)) (j := (16 + (4 * (nr - 1))) + 2) rfl (by omega) (by omega) dX8_postpone_57 ?_
        refine lv_iload_n X.1 X.2.1 dX8_postpone_58 rfl (lv_at hl 1 rfl) ?_
        refine lv_iadd X.1 X.2.1 dX8_postpone_59 ?_
        refine x_iastN2 X hI hK hw (k := (o + 1)) (by omega) hF5.2.1 (i := nI ((16 + (4 * (nr - 1))) + 2)) (j := (16 + (4 * (nr - 1))) + 2) rfl (by omega) (by omega) dX8_postpone_60 (fun F7 H locs eF8 hw => ?_)
        have hF9 := MoF.st0 hF5 eF8
        have hr10 := fr_eq eF8 (Nat.le_refl _) (Nat.lt_succ_self _)
        replace hfr := hfr.tr hr10 (by omega) (by omega)
        refine lv_aload_n X.1 X.2.1 dX8_postpone_61 rfl (lv_at hl 0 rfl) ?_
        refine x_callVP X hK hw (k := o) (As := []) (rest := []) (k_X8_start hI o ((upd a ((16 + (4 * (nr - 1))) + 2) ((a ((16 + (4 * (nr - 1))) + 2)) + x))) ((m_hn a h kp)) sn tx ((va_up k 0 (nI (m_kn kp)))) nr (by omega) hF9 ((pk_un (by omega)).trans h2) (by omega) hn) (x_cwV yX8_start cX8_start 1 (some .int) 0 X q947 q949 qs23 q14 q950 hd_X8_start ⟨Nat.le_of_ble_eq_true rfl, Nat.le_of_ble_eq_true rfl⟩) (by omega) hF9.1 rfl rfl hl.1 rfl (Nat.le_of_ble_eq_true rfl) dX8_postpone_62 ⟨Nat.le_of_ble_eq_true rfl, Nat.le_of_ble_eq_true rfl⟩ (fun H locs hw => ?_)
        exact x_iret X hr hlk hK hw (v := m_r ((upd a ((16 + (4 * (nr - 1))) + 2) ((a ((16 + (4 * (nr - 1))) + 2)) + x))) (nr - 1) 2) rfl (auto_mo (by rw [s_X8_postpone, if_pos c1, if_pos c2, if_pos c3] : s_X8_postpone a h sn tx k x nr kp = (m_r ((upd a ((16 + (4 * (nr - 1))) + 2) ((a ((16 + (4 * (nr - 1))) + 2)) + x))) (nr - 1) 2, (upd a ((16 + (4 * (nr - 1))) + 2) ((a ((16 + (4 * (nr - 1))) + 2)) + x)), (m_hn a h kp), sn, tx, (va_up k 0 (nI (m_kn kp))))) hF9 hfr) dX8_postpone_65
      · refine lv_bipush (v := (-4)) X.1 X.2.1 dX8_postpone_34 (by decide) ?_
        exact x_iret X hr hlk hK hw (v := (-4)) rfl (auto_mo (by rw [s_X8_postpone, if_pos c1, if_pos c2, if_neg c3] : s_X8_postpone a h sn tx k x nr kp = ((-4), a, h, sn, tx, k)) hF hfr) dX8_postpone_36
  · replace c1 := bI_z c1
    refine lv_bipush (v := (-2)) X.1 X.2.1 dX8_postpone_11 (by decide) ?_
    exact x_iret X hr hlk hK hw (v := (-2)) rfl (auto_mo (by rw [s_X8_postpone, if_neg c1] : s_X8_postpone a h sn tx k x nr kp = ((-2), a, h, sn, tx, k)) hF hfr) dX8_postpone_13
def s_X8_recall (a : Nat → Int32) (h : Nat → Int32) (sn : Nat → Int32) (tx : Nat → Int32) (k : Nat → Int32) (nr : Nat) (kp : Nat) : Int32 × (Nat → Int32) × (Nat → Int32) × (Nat → Int32) × (Nat → Int32) × (Nat → Int32) := (if 0 < nr ∧ m_r a (nr - 1) 3 = 0 then (if ¬ (a 0) < (m_r a (nr - 1) 2) ∧ ¬ ((m_r a (nr - 1) 2) + (nI 60)) < (a 0) then (m_r ((m_clr ((upd a ((16 + (4 * (nr - 1))) + 2) ((a 0) + (nI 300)))) (nr - 1))) (nr - 1) 2, (m_clr ((upd a ((16 + (4 * (nr - 1))) + 2) ((a 0) + (nI 300)))) (nr - 1)), (((m_hn a h kp))), sn, tx, (((va_up k 0 (nI (m_kn kp)))))) else ((-4), a, h, sn, tx, k)) else ((-4), a, h, sn, tx, k))
set_option maxHeartbeats 4000000 in
set_option maxRecDepth 100000 in
theorem k_X8_recall {l : Launch} {D : va_G} {cI cB cS : ClassId} {ad : Nat → Nat} {N : Nat} {F : Nat → va_E} (hI : iN ad N) (o : Nat) (a : Nat → Int32) (h : Nat → Int32) (sn : Nat → Int32) (tx : Nat → Int32) (k : Nat → Int32) (nr : Nat) (kp : Nat) (hc5 : o + 5 ≤ N) (hF : MoF ad cI F o a h sn tx k) (h2 : a 2 = nI nr) (hr6 : nr ≤ 6) (hk0 : k 0 = nI kp) (hk4 : kp ≤ 4) : Ci l D cI cB cS ad N yX8_recall cX8_recall 1 (some .int) 2 46 [.ref (ad o)] F (fun r F' => r = (s_X8_recall a h sn tx k nr kp).1 ∧ MoF ad cI F' o ((s_X8_recall a h sn tx k nr kp).2.1) ((s_X8_recall a h sn tx k nr kp).2.2.1) ((s_X8_recall a h sn tx k nr kp).2.2.2.1) ((s_X8_recall a h sn tx k nr kp).2.2.2.2.1) ((s_X8_recall a h sn tx k nr kp).2.2.2.2.2) ∧ Fr F F' o (o + 5)) := by
  refine x_met (by decide +kernel) (Nat.le_of_ble_eq_true rfl) ?_
  intro p e s m below meth c X hr hlk hK hw ls hl
  replace hl : lv_has ls 1 [(0, .ref (ad o))] := hl
  have hfr : Fr F F (o) (o + 5) := Fr.rf
  refine lv_aload_n X.1 X.2.1 dX8_recall_0 rfl (lv_at hl 0 rfl) ?_
  refine x_callVP X hK hw (k := o) (As := []) (rest := []) (k_X8_isPrepared hI o a h sn tx k nr (by omega) hF h2 (by omega)) (x_cwV yX8_isPrepared cX8_isPrepared 1 (some .boolean) 0 X q923 q925 qs18 q14 q926 hd_X8_isPrepared ⟨Nat.le_of_ble_eq_true rfl, Nat.le_of_ble_eq_true rfl⟩) (by omega) hF.1 rfl rfl hl.1 rfl (Nat.le_of_ble_eq_true rfl) dX8_recall_1 ⟨Nat.le_of_ble_eq_true rfl, Nat.le_of_ble_eq_true rfl⟩ (fun H locs hw => ?_)
  refine lv_if_eq (tgt := 30) X.1 X.2.1 dX8_recall_4 (by decide) (fun c1 => ?_) (fun c1 => ?_)
  · replace c1 := bI_z c1
    refine lv_bipush (v := (-4)) X.1 X.2.1 dX8_recall_30 (by decide) ?_
    exact x_iret X hr hlk hK hw (v := (-4)) rfl (auto_mo (by rw [s_X8_recall, if_neg c1] : s_X8_recall a h sn tx k nr kp = ((-4), a, h, sn, tx, k)) hF hfr) dX8_recall_32
  · replace c1 := bI_nz c1
    have hn := c1.1
    refine lv_aload_n X.1 X.2.1 dX8_recall_7 rfl (lv_at hl 0 rfl) ?_
    refine x_get X hK hw (C := RX8) (T := TX8) (nf := 12) (k := o) (by omega) hF.1 rfl inX8 0 (by decide) q868 (fun _ h9 => h9) rfl dX8_recall_8 ?_
    refine lv_iconst (v := nI 0) X.1 X.2.1 dX8_recall_11 (by decide) ?_
    refine x_ialdN X hK hw (k := (o + 1)) (by omega) hF.2.1 (i := nI 0) (j := 0) rfl (by omega) (by omega) dX8_recall_12 ?_
    refine lv_aload_n X.1 X.2.1 dX8_recall_13 rfl (lv_at hl 0 rfl) ?_
    refine x_callVP X hK hw (k := o) (As := []) (rest := [.int (a 0)]) (k_X8_start hI o a h sn tx k nr (by omega) hF h2 (by omega) hn) (x_cwV yX8_start cX8_start 1 (some .int) 0 X q947 q949 qs23 q14 q950 hd_X8_start ⟨Nat.le_of_ble_eq_true rfl, Nat.le_of_ble_eq_true rfl⟩) (by omega) hF.1 rfl rfl hl.1 rfl (Nat.le_of_ble_eq_true rfl) dX8_recall_14 ⟨Nat.le_of_ble_eq_true rfl, Nat.le_of_ble_eq_true rfl⟩ (fun H locs hw => ?_)
    refine lv_aload_n X.1 X.2.1 dX8_recall_17 rfl (lv_at hl 0 rfl) ?_
    refine x_callVP X hK hw (k := o) (As := []) (rest := [.int (m_r a (nr - 1) 2), .int (a 0)]) (k_X8_start hI o a h sn tx k nr (by omega) hF h2 (by omega) hn) (x_cwV yX8_start cX8_start 1 (some .int) 0 X q947 q949 qs23 q14 q950 hd_X8_start ⟨Nat.le_of_ble_eq_true rfl, Nat.le_of_ble_eq_true rfl⟩) (by omega) hF.1 rfl rfl hl.1 rfl (Nat.le_of_ble_eq_true rfl) dX8_recall_18 ⟨Nat.le_of_ble_eq_true rfl, Nat.le_of_ble_eq_true rfl⟩ (fun H locs hw => ?_)
    refine lv_bipush (v := nI 60) X.1 X.2.1 dX8_recall_21 (by decide) ?_
    refine lv_iadd X.1 X.2.1 dX8_recall_23 ?_
    refine x_callSP X hK hw (As := [.int (a 0), .int (m_r a (nr - 1) 2), .int ((m_r a (nr - 1) 2) + (nI 60))]) (rest := []) (k_X8_in hI (a 0) (m_r a (nr - 1) 2) ((m_r a (nr - 1) 2) + (nI 60))) (x_cwS yX8_in cX8_in 3 (some .boolean) 3 X q909 q910 q14 q911 hd_X8_in ⟨Nat.le_of_ble_eq_true rfl, Nat.le_of_ble_eq_true rfl⟩) rfl hl.1 rfl (Nat.le_of_ble_eq_true rfl) dX8_recall_24 ⟨Nat.le_of_ble_eq_true rfl, Nat.le_of_ble_eq_true rfl⟩ (fun H locs hw => ?_)
    refine lv_if_ne (tgt := 33) X.1 X.2.1 dX8_recall_27 (by decide) (fun c2 => ?_) (fun c2 => ?_)
    · replace c2 := bI_nz c2
      refine lv_aload_n X.1 X.2.1 dX8_recall_33 rfl (lv_at hl 0 rfl) ?_
      refine x_callVv X hK hw (k := o) (As := []) (rest := []) (k_X8_record hI o a h sn tx k kp (by omega) hF hk0 (by omega)) (x_cwV yX8_record cX8_record 2 none 0 X q912 q914 qs17 q14 q915 hd_X8_record ⟨Nat.le_of_ble_eq_true rfl, Nat.le_of_ble_eq_true rfl⟩) (by omega) hF.1 rfl rfl hl.1 rfl (Nat.le_of_ble_eq_true rfl) dX8_recall_34 ⟨Nat.le_of_ble_eq_true rfl, Nat.le_of_ble_eq_true rfl⟩ (fun F3 H locs hp hw => ?_)
      obtain ⟨hF4, hr5⟩ := hp
      replace hfr := hfr.tr hr5 (by omega) (by omega)
      refine lv_aload_n X.1 X.2.1 dX8_recall_37 rfl (lv_at hl 0 rfl) ?_
      refine x_get X hK hw (C := RX8) (T := TX8) (nf := 12) (k := o) (by omega) hF4.1 rfl inX8 0 (by decide) q868 (fun _ h9 => h9) rfl dX8_recall_38 ?_
      refine lv_bipush (v := nI 16) X.1 X.2.1 dX8_recall_41 (by decide) ?_
      refine lv_iconst (v := nI 4) X.1 X.2.1 dX8_recall_43 (by decide) ?_
      refine lv_aload_n X.1 X.2.1 dX8_recall_44 rfl (lv_at hl 0 rfl) ?_
      refine x_callVP X hK hw (k := o) (As := []) (rest := [.int (nI 4), .int (nI 16), .ref (ad (o + 1))]) (k_X8_latest hI o a ((m_hn a h kp)) sn tx ((va_up k 0 (nI (m_kn kp)))) nr (by omega) hF4 h2 (by omega) hn) (x_cwV yX8_latest cX8_latest 1 (some .int) 0 X q927 q929 qs19 q14 q930 hd_X8_latest ⟨Nat.le_of_ble_eq_true rfl, Nat.le_of_ble_eq_true rfl⟩) (by omega) hF4.1 rfl rfl hl.1 rfl (Nat.le_of_ble_eq_true rfl) dX8_recall_45 ⟨Nat.le_of_ble_eq_true rfl, Nat.le_of_ble_eq_true rfl⟩ (fun H locs hw => ?_)
      refine lv_imul X.1 X.2.1 dX8_recall_48 ?_
      refine x_top (pk_mul _ _) ?_
      refine lv_iadd X.1 X.2.1 dX8_recall_49 ?_
      refine x_top (nI_add _ _) ?_
      refine lv_iconst (v := nI 2) X.1 X.2.1 dX8_recall_50 (by decide) ?_
      refine lv_iadd X.1 X.2.1 dX8_recall_51 ?_
      refine x_top (nI_add _ _) ?_
      refine lv_aload_n X.1 X.2.1 dX8_recall_52 rfl (lv_at hl 0 rfl) ?_
      refine x_get X hK hw (C := RX8) (T := TX8) (nf := 12) (k := o) (by omega) hF4.1 rfl inX8 0 (by decide) q868 (fun _ h9 => h9) rfl dX8_recall_53 ?_
      refine lv_iconst (v := nI 0) X.1 X.2.1 dX8_recall_56 (by decide) ?_
      refine x_ialdN X hK hw (k := (o + 1)) (by omega) hF4.2.1 (i := nI 0) (j := 0) rfl (by omega) (by omega) dX8_recall_57 ?_
      refine lv_sipush (v := nI 300) X.1 X.2.1 dX8_recall_58 (by decide) ?_
      refine lv_iadd X.1 X.2.1 dX8_recall_61 ?_
      refine x_iastN2 X hI hK hw (k := (o + 1)) (by omega) hF4.2.1 (i := nI ((16 + (4 * (nr - 1))) + 2)) (j := (16 + (4 * (nr - 1))) + 2) rfl (by omega) (by omega) dX8_recall_62 (fun F6 H locs eF7 hw => ?_)
      have hF8 := MoF.st0 hF4 eF7
      have hr9 := fr_eq eF7 (Nat.le_refl _) (Nat.lt_succ_self _)
      replace hfr := hfr.tr hr9 (by omega) (by omega)
      refine lv_aload_n X.1 X.2.1 dX8_recall_63 rfl (lv_at hl 0 rfl) ?_
      refine x_callVv X hK hw (k := o) (As := []) (rest := []) (k_X8_clear hI o ((upd a ((16 + (4 * (nr - 1))) + 2) ((a 0) + (nI 300)))) ((m_hn a h kp)) sn tx ((va_up k 0 (nI (m_kn kp)))) nr (by omega) hF8 ((pk_un (by omega)).trans h2) (by omega) hn) (x_cwV yX8_clear cX8_clear 3 none 0 X q935 q937 qs21 q14 q938 hd_X8_clear ⟨Nat.le_of_ble_eq_true rfl, Nat.le_of_ble_eq_true rfl⟩) (by omega) hF8.1 rfl rfl hl.1 rfl (Nat.le_of_ble_eq_true rfl) dX8_recall_64 ⟨Nat.le_of_ble_eq_true rfl, Nat.le_of_ble_eq_true rfl⟩ (fun F10 H locs hp hw => ?_)
      obtain ⟨hF11, hr12⟩ := hp
      replace hfr := hfr.tr hr12 (by omega) (by omega)
      refine lv_aload_n X.1 X.2.1 dX8_recall_67 rfl (lv_at hl 0 rfl) ?_
      refine x_callVP X hK hw (k := o) (As := []) (rest := []) (k_X8_start hI o ((m_clr ((upd a ((16 + (4 * (nr - 1))) + 2) ((a 0) + (nI 300)))) (nr - 1))) ((((m_hn a h kp)))) sn tx ((((va_up k 0 (nI (m_kn kp)))))) nr (by omega) hF11 ((m_clr_lo (by omega) (by omega)).trans ((pk_un (by omega)).trans h2)) (by omega) hn) (x_cwV yX8_start cX8_start 1 (some .int) 0 X q947 q949 qs23 q14 q950 hd_X8_start ⟨Nat.le_of_ble_eq_true rfl, Nat.le_of_ble_eq_true rfl⟩) (by omega) hF11.1 rfl rfl hl.1 rfl (Nat.le_of_ble_eq_true rfl) dX8_recall_68 ⟨Nat.le_of_ble_eq_true rfl, Nat.le_of_ble_eq_true rfl⟩ (fun H locs hw => ?_)
      exact x_iret X hr hlk hK hw (v := m_r ((m_clr ((upd a ((16 + (4 * (nr - 1))) + 2) ((a 0) + (nI 300)))) (nr - 1))) (nr - 1) 2) rfl (auto_mo (by rw [s_X8_recall, if_pos c1, if_pos c2] : s_X8_recall a h sn tx k nr kp = (m_r ((m_clr ((upd a ((16 + (4 * (nr - 1))) + 2) ((a 0) + (nI 300)))) (nr - 1))) (nr - 1) 2, (m_clr ((upd a ((16 + (4 * (nr - 1))) + 2) ((a 0) + (nI 300)))) (nr - 1)), (((m_hn a h kp))), sn, tx, (((va_up k 0 (nI (m_kn kp))))))) hF11 hfr) dX8_recall_71
    · replace c2 := bI_z c2
      refine lv_bipush (v := (-4)) X.1 X.2.1 dX8_recall_30 (by decide) ?_
      exact x_iret X hr hlk hK hw (v := (-4)) rfl (auto_mo (by rw [s_X8_recall, if_pos c1, if_neg c2] : s_X8_recall a h sn tx k nr kp = ((-4), a, h, sn, tx, k)) hF hfr) dX8_recall_32
def s_X8_passError (a : Nat → Int32) (x : Int32) : Int32 := (if ¬ x < (nI 1) ∧ ¬ (nI 9999) < x then (if ((a 0) + x) ≤ (nI 999999) then nI 0 else (-3)) else (-2))
set_option maxHeartbeats 4000000 in
set_option maxRecDepth 100000 in
theorem k_X8_passError {l : Launch} {D : va_G} {cI cB cS : ClassId} {ad : Nat → Nat} {N : Nat} {F : Nat → va_E} (hI : iN ad N) (o : Nat) (a : Nat → Int32) (h : Nat → Int32) (sn : Nat → Int32) (tx : Nat → Int32) (k : Nat → Int32) (x : Int32) (hc5 : o + 5 ≤ N) (hF : MoF ad cI F o a h sn tx k) : Ci l D cI cB cS ad N yX8_passError cX8_passError 2 (some .int) 1 22 [.ref (ad o), .int x] F (pP (s_X8_passError a x) F) := by
  refine x_met (by decide +kernel) (Nat.le_of_ble_eq_true rfl) ?_
  intro p e s m below meth c X hr hlk hK hw ls hl
  replace hl : lv_has ls 2 [(0, .ref (ad o)), (1, .int x)] := hl
  refine lv_iload_n X.1 X.2.1 dX8_passError_0 rfl (lv_at hl 1 rfl) ?_
  refine lv_iconst (v := nI 1) X.1 X.2.1 dX8_passError_1 (by decide) ?_
  refine lv_sipush (v := nI 9999) X.1 X.2.1 dX8_passError_2 (by decide) ?_
  refine x_callSP X hK hw (As := [.int x, .int (nI 1), .int (nI 9999)]) (rest := []) (k_X8_in hI x (nI 1) (nI 9999)) (x_cwS yX8_in cX8_in 3 (some .boolean) 3 X q909 q910 q14 q911 hd_X8_in ⟨Nat.le_of_ble_eq_true rfl, Nat.le_of_ble_eq_true rfl⟩) rfl hl.1 rfl (Nat.le_of_ble_eq_true rfl) dX8_passError_5 ⟨Nat.le_of_ble_eq_true rfl, Nat.le_of_ble_eq_true rfl⟩ (fun H locs hw => ?_)
  refine lv_if_ne (tgt := 16) X.1 X.2.1 dX8_passError_8 (by decide) (fun c1 => ?_) (fun c1 => ?_)
  · replace c1 := bI_nz c1
    refine lv_aload_n X.1 X.2.1 dX8_passError_16 rfl (lv_at hl 0 rfl) ?_
    refine x_get X hK hw (C := RX8) (T := TX8) (nf := 12) (k := o) (by omega) hF.1 rfl inX8 0 (by decide) q868 (fun _ h9 => h9) rfl dX8_passError_17 ?_
    refine lv_iconst (v := nI 0) X.1 X.2.1 dX8_passError_20 (by decide) ?_
    refine x_ialdN X hK hw (k := (o + 1)) (by omega) hF.2.1 (i := nI 0) (j := 0) rfl (by omega) (by omega) dX8_passError_21 ?_
    refine lv_iload_n X.1 X.2.1 dX8_passError_22 rfl (lv_at hl 1 rfl) ?_
    refine lv_iadd X.1 X.2.1 dX8_passError_23 ?_
    refine lv_ldc (v := nI 999999) X.1 X.2.1 X.2.2.2.1 (X.2.2.2.2 _ q963) dX8_passError_24 ?_
    refine lv_icmp_le (tgt := 34) X.1 X.2.1 dX8_passError_26 (by decide) (fun c2 => ?_) (fun c2 => ?_)
    · refine lv_iconst (v := nI 0) X.1 X.2.1 dX8_passError_34 (by decide) ?_
      exact x_iret X hr hlk hK hw (v := nI 0) rfl (⟨by rw [s_X8_passError, if_pos c1, if_pos c2], rfl⟩) dX8_passError_35
    · refine lv_bipush (v := (-3)) X.1 X.2.1 dX8_passError_29 (by decide) ?_
      refine lv_goto (tgt := 35) X.1 X.2.1 dX8_passError_31 (by decide) ?_
      exact x_iret X hr hlk hK hw (v := (-3)) rfl (⟨by rw [s_X8_passError, if_pos c1, if_neg c2], rfl⟩) dX8_passError_35
  · replace c1 := bI_z c1
    refine lv_bipush (v := (-2)) X.1 X.2.1 dX8_passError_11 (by decide) ?_
    refine lv_goto (tgt := 35) X.1 X.2.1 dX8_passError_13 (by decide) ?_
    exact x_iret X hr hlk hK hw (v := (-2)) rfl (⟨by rw [s_X8_passError, if_neg c1], rfl⟩) dX8_passError_35
def s_X8_doPass (a : Nat → Int32) (h : Nat → Int32) (sn : Nat → Int32) (tx : Nat → Int32) (k : Nat → Int32) (x : Int32) : Int32 × (Nat → Int32) × (Nat → Int32) × (Nat → Int32) × (Nat → Int32) × (Nat → Int32) := ((upd a 0 ((a 0) + x)) 0, (upd a 0 ((a 0) + x)), h, sn, tx, k)
set_option maxHeartbeats 4000000 in
set_option maxRecDepth 100000 in
theorem k_X8_doPass {l : Launch} {D : va_G} {cI cB cS : ClassId} {ad : Nat → Nat} {N : Nat} {F : Nat → va_E} (hI : iN ad N) (o : Nat) (a : Nat → Int32) (h : Nat → Int32) (sn : Nat → Int32) (tx : Nat → Int32) (k : Nat → Int32) (x : Int32) (hc5 : o + 5 ≤ N) (hF : MoF ad cI F o a h sn tx k) : Ci l D cI cB cS ad N yX8_doPass cX8_doPass 2 (some .int) 0 0 [.ref (ad o), .int x] F (fun r F' => r = (s_X8_doPass a h sn tx k x).1 ∧ MoF ad cI F' o ((s_X8_doPass a h sn tx k x).2.1) ((s_X8_doPass a h sn tx k x).2.2.1) ((s_X8_doPass a h sn tx k x).2.2.2.1) ((s_X8_doPass a h sn tx k x).2.2.2.2.1) ((s_X8_doPass a h sn tx k x).2.2.2.2.2) ∧ Fr F F' o (o + 5)) := by
  refine x_met (by decide +kernel) (Nat.le_of_ble_eq_true rfl) ?_
  intro p e s m below meth c X hr hlk hK hw ls hl
  replace hl : lv_has ls 2 [(0, .ref (ad o)), (1, .int x)] := hl
  have hfr : Fr F F (o) (o + 5) := Fr.rf
  refine lv_aload_n X.1 X.2.1 dX8_doPass_0 rfl (lv_at hl 0 rfl) ?_
  refine x_get X hK hw (C := RX8) (T := TX8) (nf := 12) (k := o) (by omega) hF.1 rfl inX8 0 (by decide) q868 (fun _ h9 => h9) rfl dX8_doPass_1 ?_
  refine lv_iconst (v := nI 0) X.1 X.2.1 dX8_doPass_4 (by decide) ?_
  refine lv_dup2_11 X.1 X.2.1 dX8_doPass_5 rfl rfl ?_
  refine x_ialdN X hK hw (k := (o + 1)) (by omega) hF.2.1 (i := nI 0) (j := 0) rfl (by omega) (by omega) dX8_doPass_6 ?_
  refine lv_iload_n X.1 X.2.1 dX8_doPass_7 rfl (lv_at hl 1 rfl) ?_
  refine lv_iadd X.1 X.2.1 dX8_doPass_8 ?_
  refine x_iastN2 X hI hK hw (k := (o + 1)) (by omega) hF.2.1 (i := nI 0) (j := 0) rfl (by omega) (by omega) dX8_doPass_9 (fun F1 H locs eF2 hw => ?_)
  have hF3 := MoF.st0 hF eF2
  have hr4 := fr_eq eF2 (Nat.le_refl _) (Nat.lt_succ_self _)
  replace hfr := hfr.tr hr4 (by omega) (by omega)
  refine lv_aload_n X.1 X.2.1 dX8_doPass_10 rfl (lv_at hl 0 rfl) ?_
  refine x_get X hK hw (C := RX8) (T := TX8) (nf := 12) (k := o) (by omega) hF3.1 rfl inX8 0 (by decide) q868 (fun _ h9 => h9) rfl dX8_doPass_11 ?_
  refine lv_iconst (v := nI 0) X.1 X.2.1 dX8_doPass_14 (by decide) ?_
  refine x_ialdN X hK hw (k := (o + 1)) (by omega) hF3.2.1 (i := nI 0) (j := 0) rfl (by omega) (by omega) dX8_doPass_15 ?_
  exact x_iret X hr hlk hK hw (v := (upd a 0 ((a 0) + x)) 0) rfl (auto_mo (by rfl : s_X8_doPass a h sn tx k x = ((upd a 0 ((a 0) + x)) 0, (upd a 0 ((a 0) + x)), h, sn, tx, k)) hF3 hfr) dX8_doPass_16
theorem hd_X8_doPass : yX8_doPass.cls = RX8 ∧ yX8_doPass.cls ≠ "java/lang/invoke/MethodHandle" ∧ yX8_doPass.cls ≠ "java/lang/invoke/VarHandle" ∧ (parseMethodDescriptor yX8_doPass.desc).map (fun d => d.parameters.length) = some 1 := by decide +kernel
theorem hd_X8_passError : yX8_passError.cls = RX8 ∧ yX8_passError.cls ≠ "java/lang/invoke/MethodHandle" ∧ yX8_passError.cls ≠ "java/lang/invoke/VarHandle" ∧ (parseMethodDescriptor yX8_passError.desc).map (fun d => d.parameters.length) = some 1 := by decide +kernel
def s_X8_pass (a : Nat → Int32) (h : Nat → Int32) (sn : Nat → Int32) (tx : Nat → Int32) (k : Nat → Int32) (x : Int32) (kp : Nat) : Int32 × (Nat → Int32) × (Nat → Int32) × (Nat → Int32) × (Nat → Int32) × (Nat → Int32) := (if 0 ≤ (s_X8_passError a x) then ((s_X8_doPass a ((m_hn a h kp)) sn tx ((va_up k 0 (nI (m_kn kp)))) x).1, ((s_X8_doPass a ((m_hn a h kp)) sn tx ((va_up k 0 (nI (m_kn kp)))) x).2.1), ((s_X8_doPass a ((m_hn a h kp)) sn tx ((va_up k 0 (nI (m_kn kp)))) x).2.2.1), ((s_X8_doPass a ((m_hn a h kp)) sn tx ((va_up k 0 (nI (m_kn kp)))) x).2.2.2.1), ((s_X8_doPass a ((m_hn a h kp)) sn tx ((va_up k 0 (nI (m_kn kp)))) x).2.2.2.2.1), ((s_X8_doPass a ((m_hn a h kp)) sn tx ((va_up k 0 (nI (m_kn kp)))) x).2.2.2.2.2)) else (s_X8_passError a x, a, h, sn, tx, k))
set_option maxHeartbeats 4000000 in
set_option maxRecDepth 100000 in
theorem k_X8_pass {l : Launch} {D : va_G} {cI cB cS : ClassId} {ad : Nat → Nat} {N : Nat} {F : Nat → va_E} (hI : iN ad N) (o : Nat) (a : Nat → Int32) (h : Nat → Int32) (sn : Nat → Int32) (tx : Nat → Int32) (k : Nat → Int32) (x : Int32) (kp : Nat) (hc5 : o + 5 ≤ N) (hF : MoF ad cI F o a h sn tx k) (hk0 : k 0 = nI kp) (hk4 : kp ≤ 4) : Ci l D cI cB cS ad N yX8_pass cX8_pass 3 (some .int) 2 45 [.ref (ad o), .int x] F (fun r F' => r = (s_X8_pass a h sn tx k x kp).1 ∧ MoF ad cI F' o ((s_X8_pass a h sn tx k x kp).2.1) ((s_X8_pass a h sn tx k x kp).2.2.1) ((s_X8_pass a h sn tx k x kp).2.2.2.1) ((s_X8_pass a h sn tx k x kp).2.2.2.2.1) ((s_X8_pass a h sn tx k x kp).2.2.2.2.2) ∧ Fr F F' o (o + 5)) := by
  refine x_met (by decide +kernel) (Nat.le_of_ble_eq_true rfl) ?_
  intro p e s m below meth c X hr hlk hK hw ls hl
  replace hl : lv_has ls 3 [(0, .ref (ad o)), (1, .int x)] := hl
  have hfr : Fr F F (o) (o + 5) := Fr.rf
  refine lv_aload_n X.1 X.2.1 dX8_pass_0 rfl (lv_at hl 0 rfl) ?_
  refine lv_iload_n X.1 X.2.1 dX8_pass_1 rfl (lv_at hl 1 rfl) ?_
  refine x_callVP X hK hw (k := o) (As := [.int x]) (rest := []) (k_X8_passError hI o a h sn tx k x (by omega) hF) (x_cwV yX8_passError cX8_passError 2 (some .int) 1 X q959 q961 qs24 q14 q962 hd_X8_passError ⟨Nat.le_of_ble_eq_true rfl, Nat.le_of_ble_eq_true rfl⟩) (by omega) hF.1 rfl rfl hl.1 rfl (Nat.le_of_ble_eq_true rfl) dX8_pass_2 ⟨Nat.le_of_ble_eq_true rfl, Nat.le_of_ble_eq_true rfl⟩ (fun H locs hw => ?_)
  refine lv_istore_n (lv' := [(2, .int (s_X8_passError a x)), (0, .ref (ad o)), (1, .int x)]) X.1 X.2.1 dX8_pass_5 rfl hl (by decide) rfl (fun ls hl => ?_)
  refine lv_iload_n X.1 X.2.1 dX8_pass_6 rfl (lv_at hl 0 rfl) ?_
  refine lv_if_ge (tgt := 12) X.1 X.2.1 dX8_pass_7 (by decide) (fun c1 => ?_) (fun c1 => ?_)
  · refine lv_aload_n X.1 X.2.1 dX8_pass_12 rfl (lv_at hl 1 rfl) ?_
    refine x_callVv X hK hw (k := o) (As := []) (rest := []) (k_X8_record hI o a h sn tx k kp (by omega) hF hk0 (by omega)) (x_cwV yX8_record cX8_record 2 none 0 X q912 q914 qs17 q14 q915 hd_X8_record ⟨Nat.le_of_ble_eq_true rfl, Nat.le_of_ble_eq_true rfl⟩) (by omega) hF.1 rfl rfl hl.1 rfl (Nat.le_of_ble_eq_true rfl) dX8_pass_13 ⟨Nat.le_of_ble_eq_true rfl, Nat.le_of_ble_eq_true rfl⟩ (fun F2 H locs hp hw => ?_)
    obtain ⟨hF3, hr4⟩ := hp
    replace hfr := hfr.tr hr4 (by omega) (by omega)
    refine lv_aload_n X.1 X.2.1 dX8_pass_16 rfl (lv_at hl 1 rfl) ?_
    refine lv_iload_n X.1 X.2.1 dX8_pass_17 rfl (lv_at hl 2 rfl) ?_
    refine x_callV X hK hw (k := o) (As := [.int x]) (rest := []) (k_X8_doPass hI o a ((m_hn a h kp)) sn tx ((va_up k 0 (nI (m_kn kp)))) x (by omega) hF3) (x_cwV yX8_doPass cX8_doPass 2 (some .int) 1 X q964 q966 qs25 q14 q967 hd_X8_doPass ⟨Nat.le_of_ble_eq_true rfl, Nat.le_of_ble_eq_true rfl⟩) (by omega) hF3.1 rfl rfl hl.1 rfl (Nat.le_of_ble_eq_true rfl) dX8_pass_18 ⟨Nat.le_of_ble_eq_true rfl, Nat.le_of_ble_eq_true rfl⟩ (fun r8 F5 H locs hp hw => ?_)
    obtain ⟨er9, hF6, hr7⟩ := hp
    refine x_top er9 ?_
    replace hfr := hfr.tr hr7 (by omega) (by omega)
    exact x_iret X hr hlk hK hw (v := (s_X8_doPass a ((m_hn a h kp)) sn tx ((va_up k 0 (nI (m_kn kp)))) x).1) rfl (auto_mo (by rw [s_X8_pass, if_pos c1] : s_X8_pass a h sn tx k x kp = ((s_X8_doPass a ((m_hn a h kp)) sn tx ((va_up k 0 (nI (m_kn kp)))) x).1, ((s_X8_doPass a ((m_hn a h kp)) sn tx ((va_up k 0 (nI (m_kn kp)))) x).2.1), ((s_X8_doPass a ((m_hn a h kp)) sn tx ((va_up k 0 (nI (m_kn kp)))) x).2.2.1), ((s_X8_doPass a ((m_hn a h kp)) sn tx ((va_up k 0 (nI (m_kn kp)))) x).2.2.2.1), ((s_X8_doPass a ((m_hn a h kp)) sn tx ((va_up k 0 (nI (m_kn kp)))) x).2.2.2.2.1), ((s_X8_doPass a ((m_hn a h kp)) sn tx ((va_up k 0 (nI (m_kn kp)))) x).2.2.2.2.2))) hF6 hfr) dX8_pass_21
  · refine lv_iload_n X.1 X.2.1 dX8_pass_10 rfl (lv_at hl 0 rfl) ?_
    exact x_iret X hr hlk hK hw (v := s_X8_passError a x) rfl (auto_mo (by rw [s_X8_pass, if_neg c1] : s_X8_pass a h sn tx k x kp = (s_X8_passError a x, a, h, sn, tx, k)) hF hfr) dX8_pass_11
set_option maxHeartbeats 4000000 in
set_option maxRecDepth 100000 in
theorem k_X8_isWhole {l : Launch} {D : va_G} {cI cB cS : ClassId} {ad : Nat → Nat} {N : Nat} {F : Nat → va_E} (hI : iN ad N) (o : Nat) (a : Nat → Int32) (h : Nat → Int32) (sn : Nat → Int32) (tx : Nat → Int32) (k : Nat → Int32) (b : Nat) (nr : Nat) (hc5 : o + 5 ≤ N) (hF : MoF ad cI F o a h sn tx k) (h2 : a 2 = nI nr) (hr6 : nr ≤ 6) (hn : 0 < nr) (hb : b < 9) : Ci l D cI cB cS ad N yX8_isWhole cX8_isWhole 2 (some .boolean) 1 23 [.ref (ad o), .int (nI b)] F (pP (bI (decide (m_e a (nr - 1) b 1 = m_r a (nr - 1) 0 * m_r a (nr - 1) 1))) F) := by
  refine x_met (by decide +kernel) (Nat.le_of_ble_eq_true rfl) ?_
  intro p e s m below meth c X hr hlk hK hw ls hl
  replace hl : lv_has ls 2 [(0, .ref (ad o)), (1, .int (nI b))] := hl
  refine lv_aload_n X.1 X.2.1 dX8_isWhole_0 rfl (lv_at hl 0 rfl) ?_
  refine lv_aload_n X.1 X.2.1 dX8_isWhole_1 rfl (lv_at hl 0 rfl) ?_
  refine x_callVP X hK hw (k := o) (As := []) (rest := [.ref (ad o)]) (k_X8_latest hI o a h sn tx k nr (by omega) hF h2 (by omega) hn) (x_cwV yX8_latest cX8_latest 1 (some .int) 0 X q927 q929 qs19 q14 q930 hd_X8_latest ⟨Nat.le_of_ble_eq_true rfl, Nat.le_of_ble_eq_true rfl⟩) (by omega) hF.1 rfl rfl hl.1 rfl (Nat.le_of_ble_eq_true rfl) dX8_isWhole_2 ⟨Nat.le_of_ble_eq_true rfl, Nat.le_of_ble_eq_true rfl⟩ (fun H locs hw => ?_)
  refine lv_iload_n X.1 X.2.1 dX8_isWhole_5 rfl (lv_at hl 1 rfl) ?_
  refine lv_iconst (v := nI 1) X.1 X.2.1 dX8_isWhole_6 (by decide) ?_
  refine x_callVP X hK hw (k := o) (As := [.int (nI (nr - 1)), .int (nI b), .int (nI 1)]) (rest := []) (k_X8_of hI o a h sn tx k (nr - 1) b 1 (by omega) hF (by omega)) (x_cwV yX8_of cX8_of 4 (some .int) 3 X q984 q986 qs29 q14 q987 hd_X8_of ⟨Nat.le_of_ble_eq_true rfl, Nat.le_of_ble_eq_true rfl⟩) (by omega) hF.1 rfl rfl hl.1 rfl (Nat.le_of_ble_eq_true rfl) dX8_isWhole_7 ⟨Nat.le_of_ble_eq_true rfl, Nat.le_of_ble_eq_true rfl⟩ (fun H locs hw => ?_)
  refine lv_aload_n X.1 X.2.1 dX8_isWhole_10 rfl (lv_at hl 0 rfl) ?_
  refine lv_aload_n X.1 X.2.1 dX8_isWhole_11 rfl (lv_at hl 0 rfl) ?_
  refine x_callVP X hK hw (k := o) (As := []) (rest := [.ref (ad o), .int (m_e a (nr - 1) b 1)]) (k_X8_latest hI o a h sn tx k nr (by omega) hF h2 (by omega) hn) (x_cwV yX8_latest cX8_latest 1 (some .int) 0 X q927 q929 qs19 q14 q930 hd_X8_latest ⟨Nat.le_of_ble_eq_true rfl, Nat.le_of_ble_eq_true rfl⟩) (by omega) hF.1 rfl rfl hl.1 rfl (Nat.le_of_ble_eq_true rfl) dX8_isWhole_12 ⟨Nat.le_of_ble_eq_true rfl, Nat.le_of_ble_eq_true rfl⟩ (fun H locs hw => ?_)
  refine lv_iconst (v := nI 0) X.1 X.2.1 dX8_isWhole_15 (by decide) ?_
  refine x_callVP X hK hw (k := o) (As := [.int (nI (nr - 1)), .int (nI 0)]) (rest := [.int (m_e a (nr - 1) b 1)]) (k_X8_ofRace hI o a h sn tx k (nr - 1) 0 (by omega) hF (by omega)) (x_cwV yX8_ofRace cX8_ofRace 3 (some .int) 2 X q931 q933 qs20 q14 q934 hd_X8_ofRace ⟨Nat.le_of_ble_eq_true rfl, Nat.le_of_ble_eq_true rfl⟩) (by omega) hF.1 rfl rfl hl.1 rfl (Nat.le_of_ble_eq_true rfl) dX8_isWhole_16 ⟨Nat.le_of_ble_eq_true rfl, Nat.le_of_ble_eq_true rfl⟩ (fun H locs hw => ?_)
  refine lv_aload_n X.1 X.2.1 dX8_isWhole_19 rfl (lv_at hl 0 rfl) ?_
  refine lv_aload_n X.1 X.2.1 dX8_isWhole_20 rfl (lv_at hl 0 rfl) ?_
  refine x_callVP X hK hw (k := o) (As := []) (rest := [.ref (ad o), .int (m_r a (nr - 1) 0), .int (m_e a (nr - 1) b 1)]) (k_X8_latest hI o a h sn tx k nr (by omega) hF h2 (by omega) hn) (x_cwV yX8_latest cX8_latest 1 (some .int) 0 X q927 q929 qs19 q14 q930 hd_X8_latest ⟨Nat.le_of_ble_eq_true rfl, Nat.le_of_ble_eq_true rfl⟩) (by omega) hF.1 rfl rfl hl.1 rfl (Nat.le_of_ble_eq_true rfl) dX8_isWhole_21 ⟨Nat.le_of_ble_eq_true rfl, Nat.le_of_ble_eq_true rfl⟩ (fun H locs hw => ?_)
  refine lv_iconst (v := nI 1) X.1 X.2.1 dX8_isWhole_24 (by decide) ?_
  refine x_callVP X hK hw (k := o) (As := [.int (nI (nr - 1)), .int (nI 1)]) (rest := [.int (m_r a (nr - 1) 0), .int (m_e a (nr - 1) b 1)]) (k_X8_ofRace hI o a h sn tx k (nr - 1) 1 (by omega) hF (by omega)) (x_cwV yX8_ofRace cX8_ofRace 3 (some .int) 2 X q931 q933 qs20 q14 q934 hd_X8_ofRace ⟨Nat.le_of_ble_eq_true rfl, Nat.le_of_ble_eq_true rfl⟩) (by omega) hF.1 rfl rfl hl.1 rfl (Nat.le_of_ble_eq_true rfl) dX8_isWhole_25 ⟨Nat.le_of_ble_eq_true rfl, Nat.le_of_ble_eq_true rfl⟩ (fun H locs hw => ?_)
  refine lv_imul X.1 X.2.1 dX8_isWhole_28 ?_
  refine lv_icmp_ne (tgt := 36) X.1 X.2.1 dX8_isWhole_29 (by decide) (fun c1 => ?_) (fun c1 => ?_)
  · refine lv_iconst (v := nI 0) X.1 X.2.1 dX8_isWhole_36 (by decide) ?_
    exact x_iret X hr hlk hK hw (v := nI 0) (by first | rfl | exact nr_b _ | decide) (⟨by simp [bI, c1], rfl⟩) dX8_isWhole_37
  · refine lv_iconst (v := nI 1) X.1 X.2.1 dX8_isWhole_32 (by decide) ?_
    refine lv_goto (tgt := 37) X.1 X.2.1 dX8_isWhole_33 (by decide) ?_
    exact x_iret X hr hlk hK hw (v := nI 1) (by first | rfl | exact nr_b _ | decide) (⟨by simp [bI, c1], rfl⟩) dX8_isWhole_37
theorem hd_X8_isBoat : yX8_isBoat.cls = RX8 ∧ yX8_isBoat.cls ≠ "java/lang/invoke/MethodHandle" ∧ yX8_isBoat.cls ≠ "java/lang/invoke/VarHandle" ∧ (parseMethodDescriptor yX8_isBoat.desc).map (fun d => d.parameters.length) = some 1 := by decide +kernel
theorem hd_X8_isWhole : yX8_isWhole.cls = RX8 ∧ yX8_isWhole.cls ≠ "java/lang/invoke/MethodHandle" ∧ yX8_isWhole.cls ≠ "java/lang/invoke/VarHandle" ∧ (parseMethodDescriptor yX8_isWhole.desc).map (fun d => d.parameters.length) = some 1 := by decide +kernel
theorem hd_X8_status : yX8_status.cls = RX8 ∧ yX8_status.cls ≠ "java/lang/invoke/MethodHandle" ∧ yX8_status.cls ≠ "java/lang/invoke/VarHandle" ∧ (parseMethodDescriptor yX8_status.desc).map (fun d => d.parameters.length) = some 1 := by decide +kernel
def s_X8_lineError (a : Nat → Int32) (x : Int32) (nr : Nat) : Int32 := (if ¬ x < nI 0 ∧ ¬ a 1 - nI 1 < x then (if 0 < nr ∧ m_r a (nr - 1) 3 = 0 then (if (m_e a (nr - 1) x.toNatClampNeg 0) < (nI 2) then nI 0 else (if (m_e a (nr - 1) x.toNatClampNeg 0) = (nI 2) then (if m_e a (nr - 1) x.toNatClampNeg 1 = m_r a (nr - 1) 0 * m_r a (nr - 1) 1 then nI 0 else (-4)) else (-4))) else (-4)) else (-1))
set_option maxHeartbeats 4000000 in
set_option maxRecDepth 100000 in
theorem k_X8_lineError {l : Launch} {D : va_G} {cI cB cS : ClassId} {ad : Nat → Nat} {N : Nat} {F : Nat → va_E} (hI : iN ad N) (o : Nat) (a : Nat → Int32) (h : Nat → Int32) (sn : Nat → Int32) (tx : Nat → Int32) (k : Nat → Int32) (x : Int32) (nb : Nat) (nr : Nat) (hc5 : o + 5 ≤ N) (hF : MoF ad cI F o a h sn tx k) (h1 : a 1 = nI nb) (hb9 : nb ≤ 9) (h2 : a 2 = nI nr) (hr6 : nr ≤ 6) : Ci l D cI cB cS ad N yX8_lineError cX8_lineError 3 (some .int) 2 44 [.ref (ad o), .int x] F (pP (s_X8_lineError a x nr) F) := by
  refine x_met (by decide +kernel) (Nat.le_of_ble_eq_true rfl) ?_
  intro p e s m below meth c X hr hlk hK hw ls hl
  replace hl : lv_has ls 3 [(0, .ref (ad o)), (1, .int x)] := hl
  refine lv_aload_n X.1 X.2.1 dX8_lineError_0 rfl (lv_at hl 0 rfl) ?_
  refine lv_iload_n X.1 X.2.1 dX8_lineError_1 rfl (lv_at hl 1 rfl) ?_
  refine x_callVP X hK hw (k := o) (As := [.int x]) (rest := []) (k_X8_isBoat hI o a h sn tx k x (by omega) hF) (x_cwV yX8_isBoat cX8_isBoat 2 (some .boolean) 1 X q976 q978 qs27 q14 q979 hd_X8_isBoat ⟨Nat.le_of_ble_eq_true rfl, Nat.le_of_ble_eq_true rfl⟩) (by omega) hF.1 rfl rfl hl.1 rfl (Nat.le_of_ble_eq_true rfl) dX8_lineError_2 ⟨Nat.le_of_ble_eq_true rfl, Nat.le_of_ble_eq_true rfl⟩ (fun H locs hw => ?_)
  refine lv_if_ne (tgt := 10) X.1 X.2.1 dX8_lineError_5 (by decide) (fun c1 => ?_) (fun c1 => ?_)
  · replace c1 := bI_nz c1
    have ⟨hj2, hx3⟩ := isb_of (n := nb) c1 h1 (by omega)
    rw [hx3] at hl
    replace hl : lv_has ls 3 [(0, .ref (ad o)), (1, .int (nI x.toNatClampNeg))] := hl
    refine lv_aload_n X.1 X.2.1 dX8_lineError_10 rfl (lv_at hl 0 rfl) ?_
    refine x_callVP X hK hw (k := o) (As := []) (rest := []) (k_X8_isPrepared hI o a h sn tx k nr (by omega) hF h2 (by omega)) (x_cwV yX8_isPrepared cX8_isPrepared 1 (some .boolean) 0 X q923 q925 qs18 q14 q926 hd_X8_isPrepared ⟨Nat.le_of_ble_eq_true rfl, Nat.le_of_ble_eq_true rfl⟩) (by omega) hF.1 rfl rfl hl.1 rfl (Nat.le_of_ble_eq_true rfl) dX8_lineError_11 ⟨Nat.le_of_ble_eq_true rfl, Nat.le_of_ble_eq_true rfl⟩ (fun H locs hw => ?_)
    refine lv_if_eq (tgt := 47) X.1 X.2.1 dX8_lineError_14 (by decide) (fun c4 => ?_) (fun c4 => ?_)
    · replace c4 := bI_z c4
      refine lv_iconst (v := nI 0) X.1 X.2.1 dX8_lineError_47 (by decide) ?_
      refine lv_istore_n (lv' := [(2, .int (nI 0)), (0, .ref (ad o)), (1, .int (nI x.toNatClampNeg))]) X.1 X.2.1 dX8_lineError_48 rfl hl (by decide) rfl (fun ls hl => ?_)
      refine lv_iload_n X.1 X.2.1 dX8_lineError_49 rfl (lv_at hl 0 rfl) ?_
      refine lv_if_eq (tgt := 57) X.1 X.2.1 dX8_lineError_50 (by decide) (fun c5 => ?_) (fun c5 => ?_)
      · refine lv_bipush (v := (-4)) X.1 X.2.1 dX8_lineError_57 (by decide) ?_
        exact x_iret X hr hlk hK hw (v := (-4)) rfl (⟨by rw [s_X8_lineError, if_pos c1, if_neg c4], rfl⟩) dX8_lineError_59
      · exact absurd (by decide) c5
    · replace c4 := bI_nz c4
      have hn := c4.1
      refine lv_aload_n X.1 X.2.1 dX8_lineError_17 rfl (lv_at hl 0 rfl) ?_
      refine lv_iload_n X.1 X.2.1 dX8_lineError_18 rfl (lv_at hl 1 rfl) ?_
      refine x_callVP X hK hw (k := o) (As := [.int (nI x.toNatClampNeg)]) (rest := []) (k_X8_status hI o a h sn tx k x.toNatClampNeg nr (by omega) hF h2 (by omega) hn (by omega)) (x_cwV yX8_status cX8_status 2 (some .int) 1 X q980 q982 qs28 q14 q983 hd_X8_status ⟨Nat.le_of_ble_eq_true rfl, Nat.le_of_ble_eq_true rfl⟩) (by omega) hF.1 rfl rfl hl.1 rfl (Nat.le_of_ble_eq_true rfl) dX8_lineError_19 ⟨Nat.le_of_ble_eq_true rfl, Nat.le_of_ble_eq_true rfl⟩ (fun H locs hw => ?_)
      refine lv_iconst (v := nI 2) X.1 X.2.1 dX8_lineError_22 (by decide) ?_
      refine lv_icmp_lt (tgt := 43) X.1 X.2.1 dX8_lineError_23 (by decide) (fun c6 => ?_) (fun c6 => ?_)
      · refine lv_iconst (v := nI 1) X.1 X.2.1 dX8_lineError_43 (by decide) ?_
        refine lv_goto (tgt := 48) X.1 X.2.1 dX8_lineError_44 (by decide) ?_
        refine lv_istore_n (lv' := [(2, .int (nI 1)), (0, .ref (ad o)), (1, .int (nI x.toNatClampNeg))]) X.1 X.2.1 dX8_lineError_48 rfl hl (by decide) rfl (fun ls hl => ?_)
        refine lv_iload_n X.1 X.2.1 dX8_lineError_49 rfl (lv_at hl 0 rfl) ?_
        refine lv_if_eq (tgt := 57) X.1 X.2.1 dX8_lineError_50 (by decide) (fun c7 => ?_) (fun c7 => ?_)
        · exact absurd c7 (by decide)
        · refine lv_iconst (v := nI 0) X.1 X.2.1 dX8_lineError_53 (by decide) ?_
          refine lv_goto (tgt := 59) X.1 X.2.1 dX8_lineError_54 (by decide) ?_
          exact x_iret X hr hlk hK hw (v := nI 0) rfl (⟨by rw [s_X8_lineError, if_pos c1, if_pos c4, if_pos c6], rfl⟩) dX8_lineError_59
      · refine lv_aload_n X.1 X.2.1 dX8_lineError_26 rfl (lv_at hl 0 rfl) ?_
        refine lv_iload_n X.1 X.2.1 dX8_lineError_27 rfl (lv_at hl 1 rfl) ?_
        refine x_callVP X hK hw (k := o) (As := [.int (nI x.toNatClampNeg)]) (rest := []) (k_X8_status hI o a h sn tx k x.toNatClampNeg nr (by omega) hF h2 (by omega) hn (by omega)) (x_cwV yX8_status cX8_status 2 (some .int) 1 X q980 q982 qs28 q14 q983 hd_X8_status ⟨Nat.le_of_ble_eq_true rfl, Nat.le_of_ble_eq_true rfl⟩) (by omega) hF.1 rfl rfl hl.1 rfl (Nat.le_of_ble_eq_true rfl) dX8_lineError_28 ⟨Nat.le_of_ble_eq_true rfl, Nat.le_of_ble_eq_true rfl⟩ (fun H locs hw => ?_)
        refine lv_iconst (v := nI 2) X.1 X.2.1 dX8_lineError_31 (by decide) ?_
        refine lv_icmp_ne (tgt := 47) X.1 X.2.1 dX8_lineError_32 (by decide) (fun c8 => ?_) (fun c8 => ?_)
        · refine lv_iconst (v := nI 0) X.1 X.2.1 dX8_lineError_47 (by decide) ?_
          refine lv_istore_n (lv' := [(2, .int (nI 0)), (0, .ref (ad o)), (1, .int (nI x.toNatClampNeg))]) X.1 X.2.1 dX8_lineError_48 rfl hl (by decide) rfl (fun ls hl => ?_)
          refine lv_iload_n X.1 X.2.1 dX8_lineError_49 rfl (lv_at hl 0 rfl) ?_
          refine lv_if_eq (tgt := 57) X.1 X.2.1 dX8_lineError_50 (by decide) (fun c9 => ?_) (fun c9 => ?_)
          · refine lv_bipush (v := (-4)) X.1 X.2.1 dX8_lineError_57 (by decide) ?_
            exact x_iret X hr hlk hK hw (v := (-4)) rfl (⟨by rw [s_X8_lineError, if_pos c1, if_pos c4, if_neg c6, if_neg c8], rfl⟩) dX8_lineError_59
          · exact absurd (by decide) c9
        · refine lv_aload_n X.1 X.2.1 dX8_lineError_35 rfl (lv_at hl 0 rfl) ?_
          refine lv_iload_n X.1 X.2.1 dX8_lineError_36 rfl (lv_at hl 1 rfl) ?_
          refine x_callVP X hK hw (k := o) (As := [.int (nI x.toNatClampNeg)]) (rest := []) (k_X8_isWhole hI o a h sn tx k x.toNatClampNeg nr (by omega) hF h2 (by omega) hn (by omega)) (x_cwV yX8_isWhole cX8_isWhole 2 (some .boolean) 1 X q988 q990 qs30 q14 q991 hd_X8_isWhole ⟨Nat.le_of_ble_eq_true rfl, Nat.le_of_ble_eq_true rfl⟩) (by omega) hF.1 rfl rfl hl.1 rfl (Nat.le_of_ble_eq_true rfl) dX8_lineError_37 ⟨Nat.le_of_ble_eq_true rfl, Nat.le_of_ble_eq_true rfl⟩ (fun H locs hw => ?_)
          refine lv_if_eq (tgt := 47) X.1 X.2.1 dX8_lineError_40 (by decide) (fun c10 => ?_) (fun c10 => ?_)
          · replace c10 := bI_z c10
            refine lv_iconst (v := nI 0) X.1 X.2.1 dX8_lineError_47 (by decide) ?_
            refine lv_istore_n (lv' := [(2, .int (nI 0)), (0, .ref (ad o)), (1, .int (nI x.toNatClampNeg))]) X.1 X.2.1 dX8_lineError_48 rfl hl (by decide) rfl (fun ls hl => ?_)
            refine lv_iload_n X.1 X.2.1 dX8_lineError_49 rfl (lv_at hl 0 rfl) ?_
            refine lv_if_eq (tgt := 57) X.1 X.2.1 dX8_lineError_50 (by decide) (fun c11 => ?_) (fun c11 => ?_)
            · refine lv_bipush (v := (-4)) X.1 X.2.1 dX8_lineError_57 (by decide) ?_
              exact x_iret X hr hlk hK hw (v := (-4)) rfl (⟨by rw [s_X8_lineError, if_pos c1, if_pos c4, if_neg c6, if_pos c8, if_neg c10], rfl⟩) dX8_lineError_59
            · exact absurd (by decide) c11
          · replace c10 := bI_nz c10
            refine lv_iconst (v := nI 1) X.1 X.2.1 dX8_lineError_43 (by decide) ?_
            refine lv_goto (tgt := 48) X.1 X.2.1 dX8_lineError_44 (by decide) ?_
            refine lv_istore_n (lv' := [(2, .int (nI 1)), (0, .ref (ad o)), (1, .int (nI x.toNatClampNeg))]) X.1 X.2.1 dX8_lineError_48 rfl hl (by decide) rfl (fun ls hl => ?_)
            refine lv_iload_n X.1 X.2.1 dX8_lineError_49 rfl (lv_at hl 0 rfl) ?_
            refine lv_if_eq (tgt := 57) X.1 X.2.1 dX8_lineError_50 (by decide) (fun c12 => ?_) (fun c12 => ?_)
            · exact absurd c12 (by decide)
            · refine lv_iconst (v := nI 0) X.1 X.2.1 dX8_lineError_53 (by decide) ?_
              refine lv_goto (tgt := 59) X.1 X.2.1 dX8_lineError_54 (by decide) ?_
              exact x_iret X hr hlk hK hw (v := nI 0) rfl (⟨by rw [s_X8_lineError, if_pos c1, if_pos c4, if_neg c6, if_pos c8, if_pos c10], rfl⟩) dX8_lineError_59
  · replace c1 := bI_z c1
    refine lv_iconst (v := (-1)) X.1 X.2.1 dX8_lineError_8 (by decide) ?_
    exact x_iret X hr hlk hK hw (v := (-1)) rfl (⟨by rw [s_X8_lineError, if_neg c1], rfl⟩) dX8_lineError_9
def s_X8_doLine (a : Nat → Int32) (h : Nat → Int32) (sn : Nat → Int32) (tx : Nat → Int32) (k : Nat → Int32) (b : Nat) (nr : Nat) : Int32 × (Nat → Int32) × (Nat → Int32) × (Nat → Int32) × (Nat → Int32) × (Nat → Int32) := (if (m_e a (nr - 1) b 0) = (nI 2) then (nI 3, (ly ((ly a (nr - 1) b 0 (nI 3))) (nr - 1) b 5 ((ly a (nr - 1) b 0 (nI 3)) 0)), h, sn, tx, k) else (if (a 0) < (m_r a (nr - 1) 2) then (if (m_e a (nr - 1) b 0) = 0 then (nI 1, (ly ((ly a (nr - 1) b 0 (nI 1))) (nr - 1) b 5 (nI 0)), h, sn, tx, k) else (nI 0, (ly ((ly a (nr - 1) b 0 (nI 0))) (nr - 1) b 5 (nI 0)), h, sn, tx, k)) else (nI 2, (ly ((ly a (nr - 1) b 0 (nI 2))) (nr - 1) b 5 (nI 0)), h, sn, tx, k)))
set_option maxHeartbeats 4000000 in
set_option maxRecDepth 100000 in
theorem k_X8_doLine {l : Launch} {D : va_G} {cI cB cS : ClassId} {ad : Nat → Nat} {N : Nat} {F : Nat → va_E} (hI : iN ad N) (o : Nat) (a : Nat → Int32) (h : Nat → Int32) (sn : Nat → Int32) (tx : Nat → Int32) (k : Nat → Int32) (b : Nat) (nr : Nat) (hc5 : o + 5 ≤ N) (hF : MoF ad cI F o a h sn tx k) (h2 : a 2 = nI nr) (hr6 : nr ≤ 6) (hn : 0 < nr) (hb : b < 9) : Ci l D cI cB cS ad N yX8_doLine cX8_doLine 4 (some .int) 2 44 [.ref (ad o), .int (nI b)] F (fun r F' => r = (s_X8_doLine a h sn tx k b nr).1 ∧ MoF ad cI F' o ((s_X8_doLine a h sn tx k b nr).2.1) ((s_X8_doLine a h sn tx k b nr).2.2.1) ((s_X8_doLine a h sn tx k b nr).2.2.2.1) ((s_X8_doLine a h sn tx k b nr).2.2.2.2.1) ((s_X8_doLine a h sn tx k b nr).2.2.2.2.2) ∧ Fr F F' o (o + 5)) := by
  refine x_met (by decide +kernel) (Nat.le_of_ble_eq_true rfl) ?_
  intro p e s m below meth c X hr hlk hK hw ls hl
  replace hl : lv_has ls 4 [(0, .ref (ad o)), (1, .int (nI b))] := hl
  have hfr : Fr F F (o) (o + 5) := Fr.rf
  refine lv_aload_n X.1 X.2.1 dX8_doLine_0 rfl (lv_at hl 0 rfl) ?_
  refine lv_iload_n X.1 X.2.1 dX8_doLine_1 rfl (lv_at hl 1 rfl) ?_
  refine x_callVP X hK hw (k := o) (As := [.int (nI b)]) (rest := []) (k_X8_status hI o a h sn tx k b nr (by omega) hF h2 (by omega) hn (by omega)) (x_cwV yX8_status cX8_status 2 (some .int) 1 X q980 q982 qs28 q14 q983 hd_X8_status ⟨Nat.le_of_ble_eq_true rfl, Nat.le_of_ble_eq_true rfl⟩) (by omega) hF.1 rfl rfl hl.1 rfl (Nat.le_of_ble_eq_true rfl) dX8_doLine_2 ⟨Nat.le_of_ble_eq_true rfl, Nat.le_of_ble_eq_true rfl⟩ (fun H locs hw => ?_)
  refine lv_istore_n (lv' := [(2, .int (m_e a (nr - 1) b 0)), (0, .ref (ad o)), (1, .int (nI b))]) X.1 X.2.1 dX8_doLine_5 rfl hl (by decide) rfl (fun ls hl => ?_)
  refine lv_iload_n X.1 X.2.1 dX8_doLine_6 rfl (lv_at hl 0 rfl) ?_
  refine lv_iconst (v := nI 2) X.1 X.2.1 dX8_doLine_7 (by decide) ?_
  refine lv_icmp_ne (tgt := 15) X.1 X.2.1 dX8_doLine_8 (by decide) (fun c1 => ?_) (fun c1 => ?_)
  · refine lv_aload_n X.1 X.2.1 dX8_doLine_15 rfl (lv_at hl 1 rfl) ?_
    refine x_get X hK hw (C := RX8) (T := TX8) (nf := 12) (k := o) (by omega) hF.1 rfl inX8 0 (by decide) q868 (fun _ h9 => h9) rfl dX8_doLine_16 ?_
    refine lv_iconst (v := nI 0) X.1 X.2.1 dX8_doLine_19 (by decide) ?_
    refine x_ialdN X hK hw (k := (o + 1)) (by omega) hF.2.1 (i := nI 0) (j := 0) rfl (by omega) (by omega) dX8_doLine_20 ?_
    refine lv_aload_n X.1 X.2.1 dX8_doLine_21 rfl (lv_at hl 1 rfl) ?_
    refine x_callVP X hK hw (k := o) (As := []) (rest := [.int (a 0)]) (k_X8_start hI o a h sn tx k nr (by omega) hF h2 (by omega) hn) (x_cwV yX8_start cX8_start 1 (some .int) 0 X q947 q949 qs23 q14 q950 hd_X8_start ⟨Nat.le_of_ble_eq_true rfl, Nat.le_of_ble_eq_true rfl⟩) (by omega) hF.1 rfl rfl hl.1 rfl (Nat.le_of_ble_eq_true rfl) dX8_doLine_22 ⟨Nat.le_of_ble_eq_true rfl, Nat.le_of_ble_eq_true rfl⟩ (fun H locs hw => ?_)
    refine lv_icmp_lt (tgt := 32) X.1 X.2.1 dX8_doLine_25 (by decide) (fun c2 => ?_) (fun c2 => ?_)
    · refine lv_iload_n X.1 X.2.1 dX8_doLine_32 rfl (lv_at hl 0 rfl) ?_
      refine lv_if_ne (tgt := 40) X.1 X.2.1 dX8_doLine_33 (by decide) (fun c3 => ?_) (fun c3 => ?_)
      · refine lv_iconst (v := nI 0) X.1 X.2.1 dX8_doLine_40 (by decide) ?_
        refine lv_istore_n (lv' := [(3, .int (nI 0)), (2, .int (m_e a (nr - 1) b 0)), (0, .ref (ad o)), (1, .int (nI b))]) X.1 X.2.1 dX8_doLine_41 rfl hl (by decide) rfl (fun ls hl => ?_)
        refine lv_aload_n X.1 X.2.1 dX8_doLine_42 rfl (lv_at hl 2 rfl) ?_
        refine lv_aload_n X.1 X.2.1 dX8_doLine_43 rfl (lv_at hl 2 rfl) ?_
        refine x_callVP X hK hw (k := o) (As := []) (rest := [.ref (ad o)]) (k_X8_latest hI o a h sn tx k nr (by omega) hF h2 (by omega) hn) (x_cwV yX8_latest cX8_latest 1 (some .int) 0 X q927 q929 qs19 q14 q930 hd_X8_latest ⟨Nat.le_of_ble_eq_true rfl, Nat.le_of_ble_eq_true rfl⟩) (by omega) hF.1 rfl rfl hl.1 rfl (Nat.le_of_ble_eq_true rfl) dX8_doLine_44 ⟨Nat.le_of_ble_eq_true rfl, Nat.le_of_ble_eq_true rfl⟩ (fun H locs hw => ?_)
        refine lv_iload_n X.1 X.2.1 dX8_doLine_47 rfl (lv_at hl 3 rfl) ?_
        refine lv_iconst (v := nI 0) X.1 X.2.1 dX8_doLine_48 (by decide) ?_
        refine lv_iload_n X.1 X.2.1 dX8_doLine_49 rfl (lv_at hl 0 rfl) ?_
        refine x_callVv X hK hw (k := o) (As := [.int (nI (nr - 1)), .int (nI b), .int (nI 0), .int (nI 0)]) (rest := []) (k_X8_lay hI o a h sn tx k (nr - 1) b 0 (nI 0) (by omega) hF (by omega)) (x_cwV yX8_lay cX8_lay 5 none 4 X q939 q941 qs22 q14 q942 hd_X8_lay ⟨Nat.le_of_ble_eq_true rfl, Nat.le_of_ble_eq_true rfl⟩) (by omega) hF.1 rfl rfl hl.1 rfl (Nat.le_of_ble_eq_true rfl) dX8_doLine_50 ⟨Nat.le_of_ble_eq_true rfl, Nat.le_of_ble_eq_true rfl⟩ (fun F4 H locs hp hw => ?_)
        obtain ⟨hF5, hr6⟩ := hp
        replace hfr := hfr.tr hr6 (by omega) (by omega)
        refine lv_aload_n X.1 X.2.1 dX8_doLine_53 rfl (lv_at hl 2 rfl) ?_
        refine lv_aload_n X.1 X.2.1 dX8_doLine_54 rfl (lv_at hl 2 rfl) ?_
        refine x_callVP X hK hw (k := o) (As := []) (rest := [.ref (ad o)]) (k_X8_latest hI o ((ly a (nr - 1) b 0 (nI 0))) h sn tx k nr (by omega) hF5 ((ly_lo (by omega)).trans h2) (by omega) hn) (x_cwV yX8_latest cX8_latest 1 (some .int) 0 X q927 q929 qs19 q14 q930 hd_X8_latest ⟨Nat.le_of_ble_eq_true rfl, Nat.le_of_ble_eq_true rfl⟩) (by omega) hF5.1 rfl rfl hl.1 rfl (Nat.le_of_ble_eq_true rfl) dX8_doLine_55 ⟨Nat.le_of_ble_eq_true rfl, Nat.le_of_ble_eq_true rfl⟩ (fun H locs hw => ?_)
        refine lv_iload_n X.1 X.2.1 dX8_doLine_58 rfl (lv_at hl 3 rfl) ?_
        refine lv_iconst (v := nI 5) X.1 X.2.1 dX8_doLine_59 (by decide) ?_
        refine lv_iload_n X.1 X.2.1 dX8_doLine_60 rfl (lv_at hl 0 rfl) ?_
        refine lv_iconst (v := nI 3) X.1 X.2.1 dX8_doLine_61 (by decide) ?_
        refine lv_icmp_ne (tgt := 74) X.1 X.2.1 dX8_doLine_62 (by decide) (fun c7 => ?_) (fun c7 => ?_)
        · refine lv_iconst (v := nI 0) X.1 X.2.1 dX8_doLine_74 (by decide) ?_
          refine x_callVv X hK hw (k := o) (As := [.int (nI (nr - 1)), .int (nI b), .int (nI 5), .int (nI 0)]) (rest := []) (k_X8_lay hI o ((ly a (nr - 1) b 0 (nI 0))) h sn tx k (nr - 1) b 5 (nI 0) (by omega) hF5 (by omega)) (x_cwV yX8_lay cX8_lay 5 none 4 X q939 q941 qs22 q14 q942 hd_X8_lay ⟨Nat.le_of_ble_eq_true rfl, Nat.le_of_ble_eq_true rfl⟩) (by omega) hF5.1 rfl rfl hl.1 rfl (Nat.le_of_ble_eq_true rfl) dX8_doLine_75 ⟨Nat.le_of_ble_eq_true rfl, Nat.le_of_ble_eq_true rfl⟩ (fun F8 H locs hp hw => ?_)
          obtain ⟨hF9, hr10⟩ := hp
          replace hfr := hfr.tr hr10 (by omega) (by omega)
          refine lv_iload_n X.1 X.2.1 dX8_doLine_78 rfl (lv_at hl 0 rfl) ?_
          exact x_iret X hr hlk hK hw (v := nI 0) rfl (auto_mo (by rw [s_X8_doLine, if_neg c1, if_pos c2, if_neg c3] : s_X8_doLine a h sn tx k b nr = (nI 0, (ly ((ly a (nr - 1) b 0 (nI 0))) (nr - 1) b 5 (nI 0)), h, sn, tx, k)) hF9 hfr) dX8_doLine_79
        · exact absurd c7 (by decide)
      · refine lv_iconst (v := nI 1) X.1 X.2.1 dX8_doLine_36 (by decide) ?_
        refine lv_goto (tgt := 41) X.1 X.2.1 dX8_doLine_37 (by decide) ?_
        refine lv_istore_n (lv' := [(3, .int (nI 1)), (2, .int (m_e a (nr - 1) b 0)), (0, .ref (ad o)), (1, .int (nI b))]) X.1 X.2.1 dX8_doLine_41 rfl hl (by decide) rfl (fun ls hl => ?_)
        refine lv_aload_n X.1 X.2.1 dX8_doLine_42 rfl (lv_at hl 2 rfl) ?_
        refine lv_aload_n X.1 X.2.1 dX8_doLine_43 rfl (lv_at hl 2 rfl) ?_
        refine x_callVP X hK hw (k := o) (As := []) (rest := [.ref (ad o)]) (k_X8_latest hI o a h sn tx k nr (by omega) hF h2 (by omega) hn) (x_cwV yX8_latest cX8_latest 1 (some .int) 0 X q927 q929 qs19 q14 q930 hd_X8_latest ⟨Nat.le_of_ble_eq_true rfl, Nat.le_of_ble_eq_true rfl⟩) (by omega) hF.1 rfl rfl hl.1 rfl (Nat.le_of_ble_eq_true rfl) dX8_doLine_44 ⟨Nat.le_of_ble_eq_true rfl, Nat.le_of_ble_eq_true rfl⟩ (fun H locs hw => ?_)
        refine lv_iload_n X.1 X.2.1 dX8_doLine_47 rfl (lv_at hl 3 rfl) ?_
        refine lv_iconst (v := nI 0) X.1 X.2.1 dX8_doLine_48 (by decide) ?_
        refine lv_iload_n X.1 X.2.1 dX8_doLine_49 rfl (lv_at hl 0 rfl) ?_
        refine x_callVv X hK hw (k := o) (As := [.int (nI (nr - 1)), .int (nI b), .int (nI 0), .int (nI 1)]) (rest := []) (k_X8_lay hI o a h sn tx k (nr - 1) b 0 (nI 1) (by omega) hF (by omega)) (x_cwV yX8_lay cX8_lay 5 none 4 X q939 q941 qs22 q14 q942 hd_X8_lay ⟨Nat.le_of_ble_eq_true rfl, Nat.le_of_ble_eq_true rfl⟩) (by omega) hF.1 rfl rfl hl.1 rfl (Nat.le_of_ble_eq_true rfl) dX8_doLine_50 ⟨Nat.le_of_ble_eq_true rfl, Nat.le_of_ble_eq_true rfl⟩ (fun F11 H locs hp hw => ?_)
        obtain ⟨hF12, hr13⟩ := hp
        replace hfr := hfr.tr hr13 (by omega) (by omega)
        refine lv_aload_n X.1 X.2.1 dX8_doLine_53 rfl (lv_at hl 2 rfl) ?_
        refine lv_aload_n X.1 X.2.1 dX8_doLine_54 rfl (lv_at hl 2 rfl) ?_
        refine x_callVP X hK hw (k := o) (As := []) (rest := [.ref (ad o)]) (k_X8_latest hI o ((ly a (nr - 1) b 0 (nI 1))) h sn tx k nr (by omega) hF12 ((ly_lo (by omega)).trans h2) (by omega) hn) (x_cwV yX8_latest cX8_latest 1 (some .int) 0 X q927 q929 qs19 q14 q930 hd_X8_latest ⟨Nat.le_of_ble_eq_true rfl, Nat.le_of_ble_eq_true rfl⟩) (by omega) hF12.1 rfl rfl hl.1 rfl (Nat.le_of_ble_eq_true rfl) dX8_doLine_55 ⟨Nat.le_of_ble_eq_true rfl, Nat.le_of_ble_eq_true rfl⟩ (fun H locs hw => ?_)
        refine lv_iload_n X.1 X.2.1 dX8_doLine_58 rfl (lv_at hl 3 rfl) ?_
        refine lv_iconst (v := nI 5) X.1 X.2.1 dX8_doLine_59 (by decide) ?_
        refine lv_iload_n X.1 X.2.1 dX8_doLine_60 rfl (lv_at hl 0 rfl) ?_
        refine lv_iconst (v := nI 3) X.1 X.2.1 dX8_doLine_61 (by decide) ?_
        refine lv_icmp_ne (tgt := 74) X.1 X.2.1 dX8_doLine_62 (by decide) (fun c14 => ?_) (fun c14 => ?_)
        · refine lv_iconst (v := nI 0) X.1 X.2.1 dX8_doLine_74 (by decide) ?_
          refine x_callVv X hK hw (k := o) (As := [.int (nI (nr - 1)), .int (nI b), .int (nI 5), .int (nI 0)]) (rest := []) (k_X8_lay hI o ((ly a (nr - 1) b 0 (nI 1))) h sn tx k (nr - 1) b 5 (nI 0) (by omega) hF12 (by omega)) (x_cwV yX8_lay cX8_lay 5 none 4 X q939 q941 qs22 q14 q942 hd_X8_lay ⟨Nat.le_of_ble_eq_true rfl, Nat.le_of_ble_eq_true rfl⟩) (by omega) hF12.1 rfl rfl hl.1 rfl (Nat.le_of_ble_eq_true rfl) dX8_doLine_75 ⟨Nat.le_of_ble_eq_true rfl, Nat.le_of_ble_eq_true rfl⟩ (fun F15 H locs hp hw => ?_)
          obtain ⟨hF16, hr17⟩ := hp
          replace hfr := hfr.tr hr17 (by omega) (by omega)
          refine lv_iload_n X.1 X.2.1 dX8_doLine_78 rfl (lv_at hl 0 rfl) ?_
          exact x_iret X hr hlk hK hw (v := nI 1) rfl (auto_mo (by rw [s_X8_doLine, if_neg c1, if_pos c2, if_pos c3] : s_X8_doLine a h sn tx k b nr = (nI 1, (ly ((ly a (nr - 1) b 0 (nI 1))) (nr - 1) b 5 (nI 0)), h, sn, tx, k)) hF16 hfr) dX8_doLine_79
        · exact absurd c14 (by decide)
    · refine lv_iconst (v := nI 2) X.1 X.2.1 dX8_doLine_28 (by decide) ?_
      refine lv_goto (tgt := 41) X.1 X.2.1 dX8_doLine_29 (by decide) ?_
      refine lv_istore_n (lv' := [(3, .int (nI 2)), (2, .int (m_e a (nr - 1) b 0)), (0, .ref (ad o)), (1, .int (nI b))]) X.1 X.2.1 dX8_doLine_41 rfl hl (by decide) rfl (fun ls hl => ?_)
      refine lv_aload_n X.1 X.2.1 dX8_doLine_42 rfl (lv_at hl 2 rfl) ?_
      refine lv_aload_n X.1 X.2.1 dX8_doLine_43 rfl (lv_at hl 2 rfl) ?_
      refine x_callVP X hK hw (k := o) (As := []) (rest := [.ref (ad o)]) (k_X8_latest hI o a h sn tx k nr (by omega) hF h2 (by omega) hn) (x_cwV yX8_latest cX8_latest 1 (some .int) 0 X q927 q929 qs19 q14 q930 hd_X8_latest ⟨Nat.le_of_ble_eq_true rfl, Nat.le_of_ble_eq_true rfl⟩) (by omega) hF.1 rfl rfl hl.1 rfl (Nat.le_of_ble_eq_true rfl) dX8_doLine_44 ⟨Nat.le_of_ble_eq_true rfl, Nat.le_of_ble_eq_true rfl⟩ (fun H locs hw => ?_)
      refine lv_iload_n X.1 X.2.1 dX8_doLine_47 rfl (lv_at hl 3 rfl) ?_
      refine lv_iconst (v := nI 0) X.1 X.2.1 dX8_doLine_48 (by decide) ?_
      refine lv_iload_n X.1 X.2.1 dX8_doLine_49 rfl (lv_at hl 0 rfl) ?_
      refine x_callVv X hK hw (k := o) (As := [.int (nI (nr - 1)), .int (nI b), .int (nI 0), .int (nI 2)]) (rest := []) (k_X8_lay hI o a h sn tx k (nr - 1) b 0 (nI 2) (by omega) hF (by omega)) (x_cwV yX8_lay cX8_lay 5 none 4 X q939 q941 qs22 q14 q942 hd_X8_lay ⟨Nat.le_of_ble_eq_true rfl, Nat.le_of_ble_eq_true rfl⟩) (by omega) hF.1 rfl rfl hl.1 rfl (Nat.le_of_ble_eq_true rfl) dX8_doLine_50 ⟨Nat.le_of_ble_eq_true rfl, Nat.le_of_ble_eq_true rfl⟩ (fun F18 H locs hp hw => ?_)
      obtain ⟨hF19, hr20⟩ := hp
      replace hfr := hfr.tr hr20 (by omega) (by omega)
      refine lv_aload_n X.1 X.2.1 dX8_doLine_53 rfl (lv_at hl 2 rfl) ?_
      refine lv_aload_n X.1 X.2.1 dX8_doLine_54 rfl (lv_at hl 2 rfl) ?_
      refine x_callVP X hK hw (k := o) (As := []) (rest := [.ref (ad o)]) (k_X8_latest hI o ((ly a (nr - 1) b 0 (nI 2))) h sn tx k nr (by omega) hF19 ((ly_lo (by omega)).trans h2) (by omega) hn) (x_cwV yX8_latest cX8_latest 1 (some .int) 0 X q927 q929 qs19 q14 q930 hd_X8_latest ⟨Nat.le_of_ble_eq_true rfl, Nat.le_of_ble_eq_true rfl⟩) (by omega) hF19.1 rfl rfl hl.1 rfl (Nat.le_of_ble_eq_true rfl) dX8_doLine_55 ⟨Nat.le_of_ble_eq_true rfl, Nat.le_of_ble_eq_true rfl⟩ (fun H locs hw => ?_)
      refine lv_iload_n X.1 X.2.1 dX8_doLine_58 rfl (lv_at hl 3 rfl) ?_
      refine lv_iconst (v := nI 5) X.1 X.2.1 dX8_doLine_59 (by decide) ?_
      refine lv_iload_n X.1 X.2.1 dX8_doLine_60 rfl (lv_at hl 0 rfl) ?_
      refine lv_iconst (v := nI 3) X.1 X.2.1 dX8_doLine_61 (by decide) ?_
      refine lv_icmp_ne (tgt := 74) X.1 X.2.1 dX8_doLine_62 (by decide) (fun c21 => ?_) (fun c21 => ?_)
      · refine lv_iconst (v := nI 0) X.1 X.2.1 dX8_doLine_74 (by decide) ?_
        refine x_callVv X hK hw (k := o) (As := [.int (nI (nr - 1)), .int (nI b), .int (nI 5), .int (nI 0)]) (rest := []) (k_X8_lay hI o ((ly a (nr - 1) b 0 (nI 2))) h sn tx k (nr - 1) b 5 (nI 0) (by omega) hF19 (by omega)) (x_cwV yX8_lay cX8_lay 5 none 4 X q939 q941 qs22 q14 q942 hd_X8_lay ⟨Nat.le_of_ble_eq_true rfl, Nat.le_of_ble_eq_true rfl⟩) (by omega) hF19.1 rfl rfl hl.1 rfl (Nat.le_of_ble_eq_true rfl) dX8_doLine_75 ⟨Nat.le_of_ble_eq_true rfl, Nat.le_of_ble_eq_true rfl⟩ (fun F22 H locs hp hw => ?_)
        obtain ⟨hF23, hr24⟩ := hp
        replace hfr := hfr.tr hr24 (by omega) (by omega)
        refine lv_iload_n X.1 X.2.1 dX8_doLine_78 rfl (lv_at hl 0 rfl) ?_
        exact x_iret X hr hlk hK hw (v := nI 2) rfl (auto_mo (by rw [s_X8_doLine, if_neg c1, if_neg c2] : s_X8_doLine a h sn tx k b nr = (nI 2, (ly ((ly a (nr - 1) b 0 (nI 2))) (nr - 1) b 5 (nI 0)), h, sn, tx, k)) hF23 hfr) dX8_doLine_79
      · exact absurd c21 (by decide)
  · refine lv_iconst (v := nI 3) X.1 X.2.1 dX8_doLine_11 (by decide) ?_
    refine lv_goto (tgt := 41) X.1 X.2.1 dX8_doLine_12 (by decide) ?_
    refine lv_istore_n (lv' := [(3, .int (nI 3)), (2, .int (m_e a (nr - 1) b 0)), (0, .ref (ad o)), (1, .int (nI b))]) X.1 X.2.1 dX8_doLine_41 rfl hl (by decide) rfl (fun ls hl => ?_)
    refine lv_aload_n X.1 X.2.1 dX8_doLine_42 rfl (lv_at hl 2 rfl) ?_
    refine lv_aload_n X.1 X.2.1 dX8_doLine_43 rfl (lv_at hl 2 rfl) ?_
    refine x_callVP X hK hw (k := o) (As := []) (rest := [.ref (ad o)]) (k_X8_latest hI o a h sn tx k nr (by omega) hF h2 (by omega) hn) (x_cwV yX8_latest cX8_latest 1 (some .int) 0 X q927 q929 qs19 q14 q930 hd_X8_latest ⟨Nat.le_of_ble_eq_true rfl, Nat.le_of_ble_eq_true rfl⟩) (by omega) hF.1 rfl rfl hl.1 rfl (Nat.le_of_ble_eq_true rfl) dX8_doLine_44 ⟨Nat.le_of_ble_eq_true rfl, Nat.le_of_ble_eq_true rfl⟩ (fun H locs hw => ?_)
    refine lv_iload_n X.1 X.2.1 dX8_doLine_47 rfl (lv_at hl 3 rfl) ?_
    refine lv_iconst (v := nI 0) X.1 X.2.1 dX8_doLine_48 (by decide) ?_
    refine lv_iload_n X.1 X.2.1 dX8_doLine_49 rfl (lv_at hl 0 rfl) ?_
    refine x_callVv X hK hw (k := o) (As := [.int (nI (nr - 1)), .int (nI b), .int (nI 0), .int (nI 3)]) (rest := []) (k_X8_lay hI o a h sn tx k (nr - 1) b 0 (nI 3) (by omega) hF (by omega)) (x_cwV yX8_lay cX8_lay 5 none 4 X q939 q941 qs22 q14 q942 hd_X8_lay ⟨Nat.le_of_ble_eq_true rfl, Nat.le_of_ble_eq_true rfl⟩) (by omega) hF.1 rfl rfl hl.1 rfl (Nat.le_of_ble_eq_true rfl) dX8_doLine_50 ⟨Nat.le_of_ble_eq_true rfl, Nat.le_of_ble_eq_true rfl⟩ (fun F25 H locs hp hw => ?_)
    obtain ⟨hF26, hr27⟩ := hp
    replace hfr := hfr.tr hr27 (by omega) (by omega)
    refine lv_aload_n X.1 X.2.1 dX8_doLine_53 rfl (lv_at hl 2 rfl) ?_
    refine lv_aload_n X.1 X.2.1 dX8_doLine_54 rfl (lv_at hl 2 rfl) ?_
    refine x_callVP X hK hw (k := o) (As := []) (rest := [.ref (ad o)]) (k_X8_latest hI o ((ly a (nr - 1) b 0 (nI 3))) h sn tx k nr (by omega) hF26 ((ly_lo (by omega)).trans h2) (by omega) hn) (x_cwV yX8_latest cX8_latest 1 (some .int) 0 X q927 q929 qs19 q14 q930 hd_X8_latest ⟨Nat.le_of_ble_eq_true rfl, Nat.le_of_ble_eq_true rfl⟩) (by omega) hF26.1 rfl rfl hl.1 rfl (Nat.le_of_ble_eq_true rfl) dX8_doLine_55 ⟨Nat.le_of_ble_eq_true rfl, Nat.le_of_ble_eq_true rfl⟩ (fun H locs hw => ?_)
    refine lv_iload_n X.1 X.2.1 dX8_doLine_58 rfl (lv_at hl 3 rfl) ?_
    refine lv_iconst (v := nI 5) X.1 X.2.1 dX8_doLine_59 (by decide) ?_
    refine lv_iload_n X.1 X.2.1 dX8_doLine_60 rfl (lv_at hl 0 rfl) ?_
    refine lv_iconst (v := nI 3) X.1 X.2.1 dX8_doLine_61 (by decide) ?_
    refine lv_icmp_ne (tgt := 74) X.1 X.2.1 dX8_doLine_62 (by decide) (fun c28 => ?_) (fun c28 => ?_)
    · exact absurd rfl c28
    · refine lv_aload_n X.1 X.2.1 dX8_doLine_65 rfl (lv_at hl 2 rfl) ?_
      refine x_get X hK hw (C := RX8) (T := TX8) (nf := 12) (k := o) (by omega) hF26.1 rfl inX8 0 (by decide) q868 (fun _ h9 => h9) rfl dX8_doLine_66 ?_
      refine lv_iconst (v := nI 0) X.1 X.2.1 dX8_doLine_69 (by decide) ?_
      refine x_ialdN X hK hw (k := (o + 1)) (by omega) hF26.2.1 (i := nI 0) (j := 0) rfl (by omega) (by omega) dX8_doLine_70 ?_
      refine lv_goto (tgt := 75) X.1 X.2.1 dX8_doLine_71 (by decide) ?_
      refine x_callVv X hK hw (k := o) (As := [.int (nI (nr - 1)), .int (nI b), .int (nI 5), .int ((ly a (nr - 1) b 0 (nI 3)) 0)]) (rest := []) (k_X8_lay hI o ((ly a (nr - 1) b 0 (nI 3))) h sn tx k (nr - 1) b 5 ((ly a (nr - 1) b 0 (nI 3)) 0) (by omega) hF26 (by omega)) (x_cwV yX8_lay cX8_lay 5 none 4 X q939 q941 qs22 q14 q942 hd_X8_lay ⟨Nat.le_of_ble_eq_true rfl, Nat.le_of_ble_eq_true rfl⟩) (by omega) hF26.1 rfl rfl hl.1 rfl (Nat.le_of_ble_eq_true rfl) dX8_doLine_75 ⟨Nat.le_of_ble_eq_true rfl, Nat.le_of_ble_eq_true rfl⟩ (fun F29 H locs hp hw => ?_)
      obtain ⟨hF30, hr31⟩ := hp
      replace hfr := hfr.tr hr31 (by omega) (by omega)
      refine lv_iload_n X.1 X.2.1 dX8_doLine_78 rfl (lv_at hl 0 rfl) ?_
      exact x_iret X hr hlk hK hw (v := nI 3) rfl (auto_mo (by rw [s_X8_doLine, if_pos c1] : s_X8_doLine a h sn tx k b nr = (nI 3, (ly ((ly a (nr - 1) b 0 (nI 3))) (nr - 1) b 5 ((ly a (nr - 1) b 0 (nI 3)) 0)), h, sn, tx, k)) hF30 hfr) dX8_doLine_79
def s_X8_buoyError (a : Nat → Int32) (x : Int32) (y : Int32) (nr : Nat) : Int32 := (if ¬ x < nI 0 ∧ ¬ a 1 - nI 1 < x then (if 0 < nr ∧ m_r a (nr - 1) 3 = 0 then (if ¬ y < (nI 0) ∧ ¬ ((m_r a (nr - 1) 0) - (nI 1)) < y then (if (m_e a (nr - 1) x.toNatClampNeg 0) = (nI 2) then nI 0 else (-4)) else (-2)) else (-2)) else (-1))
set_option maxHeartbeats 4000000 in
set_option maxRecDepth 100000 in
theorem k_X8_buoyError {l : Launch} {D : va_G} {cI cB cS : ClassId} {ad : Nat → Nat} {N : Nat} {F : Nat → va_E} (hI : iN ad N) (o : Nat) (a : Nat → Int32) (h : Nat → Int32) (sn : Nat → Int32) (tx : Nat → Int32) (k : Nat → Int32) (x : Int32) (y : Int32) (nb : Nat) (nr : Nat) (hc5 : o + 5 ≤ N) (hF : MoF ad cI F o a h sn tx k) (h1 : a 1 = nI nb) (hb9 : nb ≤ 9) (h2 : a 2 = nI nr) (hr6 : nr ≤ 6) : Ci l D cI cB cS ad N yX8_buoyError cX8_buoyError 3 (some .int) 2 44 [.ref (ad o), .int x, .int y] F (pP (s_X8_buoyError a x y nr) F) := by
  refine x_met (by decide +kernel) (Nat.le_of_ble_eq_true rfl) ?_
  intro p e s m below meth c X hr hlk hK hw ls hl
  replace hl : lv_has ls 3 [(0, .ref (ad o)), (1, .int x), (2, .int y)] := hl
  refine lv_aload_n X.1 X.2.1 dX8_buoyError_0 rfl (lv_at hl 0 rfl) ?_
  refine lv_iload_n X.1 X.2.1 dX8_buoyError_1 rfl (lv_at hl 1 rfl) ?_
  refine x_callVP X hK hw (k := o) (As := [.int x]) (rest := []) (k_X8_isBoat hI o a h sn tx k x (by omega) hF) (x_cwV yX8_isBoat cX8_isBoat 2 (some .boolean) 1 X q976 q978 qs27 q14 q979 hd_X8_isBoat ⟨Nat.le_of_ble_eq_true rfl, Nat.le_of_ble_eq_true rfl⟩) (by omega) hF.1 rfl rfl hl.1 rfl (Nat.le_of_ble_eq_true rfl) dX8_buoyError_2 ⟨Nat.le_of_ble_eq_true rfl, Nat.le_of_ble_eq_true rfl⟩ (fun H locs hw => ?_)
  refine lv_if_ne (tgt := 10) X.1 X.2.1 dX8_buoyError_5 (by decide) (fun c1 => ?_) (fun c1 => ?_)
  · replace c1 := bI_nz c1
    have ⟨hj2, hx3⟩ := isb_of (n := nb) c1 h1 (by omega)
    rw [hx3] at hl
    replace hl : lv_has ls 3 [(0, .ref (ad o)), (1, .int (nI x.toNatClampNeg)), (2, .int y)] := hl
    refine lv_aload_n X.1 X.2.1 dX8_buoyError_10 rfl (lv_at hl 0 rfl) ?_
    refine x_callVP X hK hw (k := o) (As := []) (rest := []) (k_X8_isPrepared hI o a h sn tx k nr (by omega) hF h2 (by omega)) (x_cwV yX8_isPrepared cX8_isPrepared 1 (some .boolean) 0 X q923 q925 qs18 q14 q926 hd_X8_isPrepared ⟨Nat.le_of_ble_eq_true rfl, Nat.le_of_ble_eq_true rfl⟩) (by omega) hF.1 rfl rfl hl.1 rfl (Nat.le_of_ble_eq_true rfl) dX8_buoyError_11 ⟨Nat.le_of_ble_eq_true rfl, Nat.le_of_ble_eq_true rfl⟩ (fun H locs hw => ?_)
    refine lv_if_eq (tgt := 36) X.1 X.2.1 dX8_buoyError_14 (by decide) (fun c4 => ?_) (fun c4 => ?_)
    · replace c4 := bI_z c4
      refine lv_bipush (v := (-2)) X.1 X.2.1 dX8_buoyError_36 (by decide) ?_
      exact x_iret X hr hlk hK hw (v := (-2)) rfl (⟨by rw [s_X8_buoyError, if_pos c1, if_neg c4], rfl⟩) dX8_buoyError_38
    · replace c4 := bI_nz c4
      have hn := c4.1
      refine lv_iload_n X.1 X.2.1 dX8_buoyError_17 rfl (lv_at hl 2 rfl) ?_
      refine lv_iconst (v := nI 0) X.1 X.2.1 dX8_buoyError_18 (by decide) ?_
      refine lv_aload_n X.1 X.2.1 dX8_buoyError_19 rfl (lv_at hl 0 rfl) ?_
      refine lv_aload_n X.1 X.2.1 dX8_buoyError_20 rfl (lv_at hl 0 rfl) ?_
      refine x_callVP X hK hw (k := o) (As := []) (rest := [.ref (ad o), .int (nI 0), .int y]) (k_X8_latest hI o a h sn tx k nr (by omega) hF h2 (by omega) hn) (x_cwV yX8_latest cX8_latest 1 (some .int) 0 X q927 q929 qs19 q14 q930 hd_X8_latest ⟨Nat.le_of_ble_eq_true rfl, Nat.le_of_ble_eq_true rfl⟩) (by omega) hF.1 rfl rfl hl.1 rfl (Nat.le_of_ble_eq_true rfl) dX8_buoyError_21 ⟨Nat.le_of_ble_eq_true rfl, Nat.le_of_ble_eq_true rfl⟩ (fun H locs hw => ?_)
      refine lv_iconst (v := nI 0) X.1 X.2.1 dX8_buoyError_24 (by decide) ?_
      refine x_callVP X hK hw (k := o) (As := [.int (nI (nr - 1)), .int (nI 0)]) (rest := [.int (nI 0), .int y]) (k_X8_ofRace hI o a h sn tx k (nr - 1) 0 (by omega) hF (by omega)) (x_cwV yX8_ofRace cX8_ofRace 3 (some .int) 2 X q931 q933 qs20 q14 q934 hd_X8_ofRace ⟨Nat.le_of_ble_eq_true rfl, Nat.le_of_ble_eq_true rfl⟩) (by omega) hF.1 rfl rfl hl.1 rfl (Nat.le_of_ble_eq_true rfl) dX8_buoyError_25 ⟨Nat.le_of_ble_eq_true rfl, Nat.le_of_ble_eq_true rfl⟩ (fun H locs hw => ?_)
      refine lv_iconst (v := nI 1) X.1 X.2.1 dX8_buoyError_28 (by decide) ?_
      refine lv_isub X.1 X.2.1 dX8_buoyError_29 ?_
      refine x_callSP X hK hw (As := [.int y, .int (nI 0), .int ((m_r a (nr - 1) 0) - (nI 1))]) (rest := []) (k_X8_in hI y (nI 0) ((m_r a (nr - 1) 0) - (nI 1))) (x_cwS yX8_in cX8_in 3 (some .boolean) 3 X q909 q910 q14 q911 hd_X8_in ⟨Nat.le_of_ble_eq_true rfl, Nat.le_of_ble_eq_true rfl⟩) rfl hl.1 rfl (Nat.le_of_ble_eq_true rfl) dX8_buoyError_30 ⟨Nat.le_of_ble_eq_true rfl, Nat.le_of_ble_eq_true rfl⟩ (fun H locs hw => ?_)
      refine lv_if_ne (tgt := 39) X.1 X.2.1 dX8_buoyError_33 (by decide) (fun c5 => ?_) (fun c5 => ?_)
      · replace c5 := bI_nz c5
        refine lv_aload_n X.1 X.2.1 dX8_buoyError_39 rfl (lv_at hl 0 rfl) ?_
        refine lv_iload_n X.1 X.2.1 dX8_buoyError_40 rfl (lv_at hl 1 rfl) ?_
        refine x_callVP X hK hw (k := o) (As := [.int (nI x.toNatClampNeg)]) (rest := []) (k_X8_status hI o a h sn tx k x.toNatClampNeg nr (by omega) hF h2 (by omega) hn (by omega)) (x_cwV yX8_status cX8_status 2 (some .int) 1 X q980 q982 qs28 q14 q983 hd_X8_status ⟨Nat.le_of_ble_eq_true rfl, Nat.le_of_ble_eq_true rfl⟩) (by omega) hF.1 rfl rfl hl.1 rfl (Nat.le_of_ble_eq_true rfl) dX8_buoyError_41 ⟨Nat.le_of_ble_eq_true rfl, Nat.le_of_ble_eq_true rfl⟩ (fun H locs hw => ?_)
        refine lv_iconst (v := nI 2) X.1 X.2.1 dX8_buoyError_44 (by decide) ?_
        refine lv_icmp_ne (tgt := 52) X.1 X.2.1 dX8_buoyError_45 (by decide) (fun c6 => ?_) (fun c6 => ?_)
        · refine lv_bipush (v := (-4)) X.1 X.2.1 dX8_buoyError_52 (by decide) ?_
          exact x_iret X hr hlk hK hw (v := (-4)) rfl (⟨by rw [s_X8_buoyError, if_pos c1, if_pos c4, if_pos c5, if_neg c6], rfl⟩) dX8_buoyError_54
        · refine lv_iconst (v := nI 0) X.1 X.2.1 dX8_buoyError_48 (by decide) ?_
          refine lv_goto (tgt := 54) X.1 X.2.1 dX8_buoyError_49 (by decide) ?_
          exact x_iret X hr hlk hK hw (v := nI 0) rfl (⟨by rw [s_X8_buoyError, if_pos c1, if_pos c4, if_pos c5, if_pos c6], rfl⟩) dX8_buoyError_54
      · replace c5 := bI_z c5
        refine lv_bipush (v := (-2)) X.1 X.2.1 dX8_buoyError_36 (by decide) ?_
        exact x_iret X hr hlk hK hw (v := (-2)) rfl (⟨by rw [s_X8_buoyError, if_pos c1, if_pos c4, if_neg c5], rfl⟩) dX8_buoyError_38
  · replace c1 := bI_z c1
    refine lv_iconst (v := (-1)) X.1 X.2.1 dX8_buoyError_8 (by decide) ?_
    exact x_iret X hr hlk hK hw (v := (-1)) rfl (⟨by rw [s_X8_buoyError, if_neg c1], rfl⟩) dX8_buoyError_9
def s_X8_doBuoy (a : Nat → Int32) (h : Nat → Int32) (sn : Nat → Int32) (tx : Nat → Int32) (k : Nat → Int32) (b : Nat) (y : Int32) (nr : Nat) : Int32 × (Nat → Int32) × (Nat → Int32) × (Nat → Int32) × (Nat → Int32) × (Nat → Int32) := (if m_e a (nr - 1) b 1 = m_r a (nr - 1) 0 * m_r a (nr - 1) 1 then (m_e a (nr - 1) b 1, (ly a (nr - 1) b 2 ((m_e a (nr - 1) b 2) + (nI 1))), h, sn, tx, k) else (if ((m_e a (nr - 1) b 1) - (m_e a (nr - 1) b 1) / (m_r a (nr - 1) 0) * (m_r a (nr - 1) 0)) = y then ((m_e a (nr - 1) b 1) + (nI 1), (ly a (nr - 1) b 1 ((m_e a (nr - 1) b 1) + (nI 1))), h, sn, tx, k) else (m_e a (nr - 1) b 1, (ly a (nr - 1) b 2 ((m_e a (nr - 1) b 2) + (nI 1))), h, sn, tx, k)))
set_option maxHeartbeats 4000000 in
set_option maxRecDepth 100000 in
theorem k_X8_doBuoy {l : Launch} {D : va_G} {cI cB cS : ClassId} {ad : Nat → Nat} {N : Nat} {F : Nat → va_E} (hI : iN ad N) (o : Nat) (a : Nat → Int32) (h : Nat → Int32) (sn : Nat → Int32) (tx : Nat → Int32) (k : Nat → Int32) (b : Nat) (y : Int32) (nr : Nat) (hc5 : o + 5 ≤ N) (hF : MoF ad cI F o a h sn tx k) (h2 : a 2 = nI nr) (hr6 : nr ≤ 6) (hn : 0 < nr) (hb : b < 9) (hb0 : ¬ m_r a (nr - 1) 0 = 0) : Ci l D cI cB cS ad N yX8_doBuoy cX8_doBuoy 4 (some .int) 2 44 [.ref (ad o), .int (nI b), .int y] F (fun r F' => r = (s_X8_doBuoy a h sn tx k b y nr).1 ∧ MoF ad cI F' o ((s_X8_doBuoy a h sn tx k b y nr).2.1) ((s_X8_doBuoy a h sn tx k b y nr).2.2.1) ((s_X8_doBuoy a h sn tx k b y nr).2.2.2.1) ((s_X8_doBuoy a h sn tx k b y nr).2.2.2.2.1) ((s_X8_doBuoy a h sn tx k b y nr).2.2.2.2.2) ∧ Fr F F' o (o + 5)) := by
  refine x_met (by decide +kernel) (Nat.le_of_ble_eq_true rfl) ?_
  intro p e s m below meth c X hr hlk hK hw ls hl
  replace hl : lv_has ls 4 [(0, .ref (ad o)), (1, .int (nI b)), (2, .int y)] := hl
  have hfr : Fr F F (o) (o + 5) := Fr.rf
  refine lv_aload_n X.1 X.2.1 dX8_doBuoy_0 rfl (lv_at hl 0 rfl) ?_
  refine lv_aload_n X.1 X.2.1 dX8_doBuoy_1 rfl (lv_at hl 0 rfl) ?_
  refine x_callVP X hK hw (k := o) (As := []) (rest := [.ref (ad o)]) (k_X8_latest hI o a h sn tx k nr (by omega) hF h2 (by omega) hn) (x_cwV yX8_latest cX8_latest 1 (some .int) 0 X q927 q929 qs19 q14 q930 hd_X8_latest ⟨Nat.le_of_ble_eq_true rfl, Nat.le_of_ble_eq_true rfl⟩) (by omega) hF.1 rfl rfl hl.1 rfl (Nat.le_of_ble_eq_true rfl) dX8_doBuoy_2 ⟨Nat.le_of_ble_eq_true rfl, Nat.le_of_ble_eq_true rfl⟩ (fun H locs hw => ?_)
  refine lv_iload_n X.1 X.2.1 dX8_doBuoy_5 rfl (lv_at hl 1 rfl) ?_
  refine lv_iconst (v := nI 1) X.1 X.2.1 dX8_doBuoy_6 (by decide) ?_
  refine x_callVP X hK hw (k := o) (As := [.int (nI (nr - 1)), .int (nI b), .int (nI 1)]) (rest := []) (k_X8_of hI o a h sn tx k (nr - 1) b 1 (by omega) hF (by omega)) (x_cwV yX8_of cX8_of 4 (some .int) 3 X q984 q986 qs29 q14 q987 hd_X8_of ⟨Nat.le_of_ble_eq_true rfl, Nat.le_of_ble_eq_true rfl⟩) (by omega) hF.1 rfl rfl hl.1 rfl (Nat.le_of_ble_eq_true rfl) dX8_doBuoy_7 ⟨Nat.le_of_ble_eq_true rfl, Nat.le_of_ble_eq_true rfl⟩ (fun H locs hw => ?_)
  refine lv_istore_n (lv' := [(3, .int (m_e a (nr - 1) b 1)), (0, .ref (ad o)), (1, .int (nI b)), (2, .int y)]) X.1 X.2.1 dX8_doBuoy_10 rfl hl (by decide) rfl (fun ls hl => ?_)
  refine lv_aload_n X.1 X.2.1 dX8_doBuoy_11 rfl (lv_at hl 1 rfl) ?_
  refine lv_iload_n X.1 X.2.1 dX8_doBuoy_12 rfl (lv_at hl 2 rfl) ?_
  refine x_callVP X hK hw (k := o) (As := [.int (nI b)]) (rest := []) (k_X8_isWhole hI o a h sn tx k b nr (by omega) hF h2 (by omega) hn (by omega)) (x_cwV yX8_isWhole cX8_isWhole 2 (some .boolean) 1 X q988 q990 qs30 q14 q991 hd_X8_isWhole ⟨Nat.le_of_ble_eq_true rfl, Nat.le_of_ble_eq_true rfl⟩) (by omega) hF.1 rfl rfl hl.1 rfl (Nat.le_of_ble_eq_true rfl) dX8_doBuoy_13 ⟨Nat.le_of_ble_eq_true rfl, Nat.le_of_ble_eq_true rfl⟩ (fun H locs hw => ?_)
  refine lv_if_ne (tgt := 51) X.1 X.2.1 dX8_doBuoy_16 (by decide) (fun c1 => ?_) (fun c1 => ?_)
  · replace c1 := bI_nz c1
    refine lv_aload_n X.1 X.2.1 dX8_doBuoy_51 rfl (lv_at hl 1 rfl) ?_
    refine lv_aload_n X.1 X.2.1 dX8_doBuoy_52 rfl (lv_at hl 1 rfl) ?_
    refine x_callVP X hK hw (k := o) (As := []) (rest := [.ref (ad o)]) (k_X8_latest hI o a h sn tx k nr (by omega) hF h2 (by omega) hn) (x_cwV yX8_latest cX8_latest 1 (some .int) 0 X q927 q929 qs19 q14 q930 hd_X8_latest ⟨Nat.le_of_ble_eq_true rfl, Nat.le_of_ble_eq_true rfl⟩) (by omega) hF.1 rfl rfl hl.1 rfl (Nat.le_of_ble_eq_true rfl) dX8_doBuoy_53 ⟨Nat.le_of_ble_eq_true rfl, Nat.le_of_ble_eq_true rfl⟩ (fun H locs hw => ?_)
    refine lv_iload_n X.1 X.2.1 dX8_doBuoy_56 rfl (lv_at hl 2 rfl) ?_
    refine lv_iconst (v := nI 2) X.1 X.2.1 dX8_doBuoy_57 (by decide) ?_
    refine lv_aload_n X.1 X.2.1 dX8_doBuoy_58 rfl (lv_at hl 1 rfl) ?_
    refine lv_aload_n X.1 X.2.1 dX8_doBuoy_59 rfl (lv_at hl 1 rfl) ?_
    refine x_callVP X hK hw (k := o) (As := []) (rest := [.ref (ad o), .int (nI 2), .int (nI b), .int (nI (nr - 1)), .ref (ad o)]) (k_X8_latest hI o a h sn tx k nr (by omega) hF h2 (by omega) hn) (x_cwV yX8_latest cX8_latest 1 (some .int) 0 X q927 q929 qs19 q14 q930 hd_X8_latest ⟨Nat.le_of_ble_eq_true rfl, Nat.le_of_ble_eq_true rfl⟩) (by omega) hF.1 rfl rfl hl.1 rfl (Nat.le_of_ble_eq_true rfl) dX8_doBuoy_60 ⟨Nat.le_of_ble_eq_true rfl, Nat.le_of_ble_eq_true rfl⟩ (fun H locs hw => ?_)
    refine lv_iload_n X.1 X.2.1 dX8_doBuoy_63 rfl (lv_at hl 2 rfl) ?_
    refine lv_iconst (v := nI 2) X.1 X.2.1 dX8_doBuoy_64 (by decide) ?_
    refine x_callVP X hK hw (k := o) (As := [.int (nI (nr - 1)), .int (nI b), .int (nI 2)]) (rest := [.int (nI 2), .int (nI b), .int (nI (nr - 1)), .ref (ad o)]) (k_X8_of hI o a h sn tx k (nr - 1) b 2 (by omega) hF (by omega)) (x_cwV yX8_of cX8_of 4 (some .int) 3 X q984 q986 qs29 q14 q987 hd_X8_of ⟨Nat.le_of_ble_eq_true rfl, Nat.le_of_ble_eq_true rfl⟩) (by omega) hF.1 rfl rfl hl.1 rfl (Nat.le_of_ble_eq_true rfl) dX8_doBuoy_65 ⟨Nat.le_of_ble_eq_true rfl, Nat.le_of_ble_eq_true rfl⟩ (fun H locs hw => ?_)
    refine lv_iconst (v := nI 1) X.1 X.2.1 dX8_doBuoy_68 (by decide) ?_
    refine lv_iadd X.1 X.2.1 dX8_doBuoy_69 ?_
    refine x_callVv X hK hw (k := o) (As := [.int (nI (nr - 1)), .int (nI b), .int (nI 2), .int ((m_e a (nr - 1) b 2) + (nI 1))]) (rest := []) (k_X8_lay hI o a h sn tx k (nr - 1) b 2 ((m_e a (nr - 1) b 2) + (nI 1)) (by omega) hF (by omega)) (x_cwV yX8_lay cX8_lay 5 none 4 X q939 q941 qs22 q14 q942 hd_X8_lay ⟨Nat.le_of_ble_eq_true rfl, Nat.le_of_ble_eq_true rfl⟩) (by omega) hF.1 rfl rfl hl.1 rfl (Nat.le_of_ble_eq_true rfl) dX8_doBuoy_70 ⟨Nat.le_of_ble_eq_true rfl, Nat.le_of_ble_eq_true rfl⟩ (fun F2 H locs hp hw => ?_)
    obtain ⟨hF3, hr4⟩ := hp
    replace hfr := hfr.tr hr4 (by omega) (by omega)
    refine lv_iload_n X.1 X.2.1 dX8_doBuoy_73 rfl (lv_at hl 0 rfl) ?_
    exact x_iret X hr hlk hK hw (v := m_e a (nr - 1) b 1) rfl (auto_mo (by rw [s_X8_doBuoy, if_pos c1] : s_X8_doBuoy a h sn tx k b y nr = (m_e a (nr - 1) b 1, (ly a (nr - 1) b 2 ((m_e a (nr - 1) b 2) + (nI 1))), h, sn, tx, k)) hF3 hfr) dX8_doBuoy_74
  · replace c1 := bI_z c1
    refine lv_iload_n X.1 X.2.1 dX8_doBuoy_19 rfl (lv_at hl 0 rfl) ?_
    refine lv_aload_n X.1 X.2.1 dX8_doBuoy_20 rfl (lv_at hl 1 rfl) ?_
    refine lv_aload_n X.1 X.2.1 dX8_doBuoy_21 rfl (lv_at hl 1 rfl) ?_
    refine x_callVP X hK hw (k := o) (As := []) (rest := [.ref (ad o), .int (m_e a (nr - 1) b 1)]) (k_X8_latest hI o a h sn tx k nr (by omega) hF h2 (by omega) hn) (x_cwV yX8_latest cX8_latest 1 (some .int) 0 X q927 q929 qs19 q14 q930 hd_X8_latest ⟨Nat.le_of_ble_eq_true rfl, Nat.le_of_ble_eq_true rfl⟩) (by omega) hF.1 rfl rfl hl.1 rfl (Nat.le_of_ble_eq_true rfl) dX8_doBuoy_22 ⟨Nat.le_of_ble_eq_true rfl, Nat.le_of_ble_eq_true rfl⟩ (fun H locs hw => ?_)
    refine lv_iconst (v := nI 0) X.1 X.2.1 dX8_doBuoy_25 (by decide) ?_
    refine x_callVP X hK hw (k := o) (As := [.int (nI (nr - 1)), .int (nI 0)]) (rest := [.int (m_e a (nr - 1) b 1)]) (k_X8_ofRace hI o a h sn tx k (nr - 1) 0 (by omega) hF (by omega)) (x_cwV yX8_ofRace cX8_ofRace 3 (some .int) 2 X q931 q933 qs20 q14 q934 hd_X8_ofRace ⟨Nat.le_of_ble_eq_true rfl, Nat.le_of_ble_eq_true rfl⟩) (by omega) hF.1 rfl rfl hl.1 rfl (Nat.le_of_ble_eq_true rfl) dX8_doBuoy_26 ⟨Nat.le_of_ble_eq_true rfl, Nat.le_of_ble_eq_true rfl⟩ (fun H locs hw => ?_)
    refine lv_irem X.1 X.2.1 dX8_doBuoy_29 hb0 ?_
    refine lv_iload_n X.1 X.2.1 dX8_doBuoy_30 rfl (lv_at hl 3 rfl) ?_
    refine lv_icmp_ne (tgt := 51) X.1 X.2.1 dX8_doBuoy_31 (by decide) (fun c5 => ?_) (fun c5 => ?_)
    · refine lv_aload_n X.1 X.2.1 dX8_doBuoy_51 rfl (lv_at hl 1 rfl) ?_
      refine lv_aload_n X.1 X.2.1 dX8_doBuoy_52 rfl (lv_at hl 1 rfl) ?_
      refine x_callVP X hK hw (k := o) (As := []) (rest := [.ref (ad o)]) (k_X8_latest hI o a h sn tx k nr (by omega) hF h2 (by omega) hn) (x_cwV yX8_latest cX8_latest 1 (some .int) 0 X q927 q929 qs19 q14 q930 hd_X8_latest ⟨Nat.le_of_ble_eq_true rfl, Nat.le_of_ble_eq_true rfl⟩) (by omega) hF.1 rfl rfl hl.1 rfl (Nat.le_of_ble_eq_true rfl) dX8_doBuoy_53 ⟨Nat.le_of_ble_eq_true rfl, Nat.le_of_ble_eq_true rfl⟩ (fun H locs hw => ?_)
      refine lv_iload_n X.1 X.2.1 dX8_doBuoy_56 rfl (lv_at hl 2 rfl) ?_
      refine lv_iconst (v := nI 2) X.1 X.2.1 dX8_doBuoy_57 (by decide) ?_
      refine lv_aload_n X.1 X.2.1 dX8_doBuoy_58 rfl (lv_at hl 1 rfl) ?_
      refine lv_aload_n X.1 X.2.1 dX8_doBuoy_59 rfl (lv_at hl 1 rfl) ?_
      refine x_callVP X hK hw (k := o) (As := []) (rest := [.ref (ad o), .int (nI 2), .int (nI b), .int (nI (nr - 1)), .ref (ad o)]) (k_X8_latest hI o a h sn tx k nr (by omega) hF h2 (by omega) hn) (x_cwV yX8_latest cX8_latest 1 (some .int) 0 X q927 q929 qs19 q14 q930 hd_X8_latest ⟨Nat.le_of_ble_eq_true rfl, Nat.le_of_ble_eq_true rfl⟩) (by omega) hF.1 rfl rfl hl.1 rfl (Nat.le_of_ble_eq_true rfl) dX8_doBuoy_60 ⟨Nat.le_of_ble_eq_true rfl, Nat.le_of_ble_eq_true rfl⟩ (fun H locs hw => ?_)
      refine lv_iload_n X.1 X.2.1 dX8_doBuoy_63 rfl (lv_at hl 2 rfl) ?_
      refine lv_iconst (v := nI 2) X.1 X.2.1 dX8_doBuoy_64 (by decide) ?_
      refine x_callVP X hK hw (k := o) (As := [.int (nI (nr - 1)), .int (nI b), .int (nI 2)]) (rest := [.int (nI 2), .int (nI b), .int (nI (nr - 1)), .ref (ad o)]) (k_X8_of hI o a h sn tx k (nr - 1) b 2 (by omega) hF (by omega)) (x_cwV yX8_of cX8_of 4 (some .int) 3 X q984 q986 qs29 q14 q987 hd_X8_of ⟨Nat.le_of_ble_eq_true rfl, Nat.le_of_ble_eq_true rfl⟩) (by omega) hF.1 rfl rfl hl.1 rfl (Nat.le_of_ble_eq_true rfl) dX8_doBuoy_65 ⟨Nat.le_of_ble_eq_true rfl, Nat.le_of_ble_eq_true rfl⟩ (fun H locs hw => ?_)
      refine lv_iconst (v := nI 1) X.1 X.2.1 dX8_doBuoy_68 (by decide) ?_
      refine lv_iadd X.1 X.2.1 dX8_doBuoy_69 ?_
      refine x_callVv X hK hw (k := o) (As := [.int (nI (nr - 1)), .int (nI b), .int (nI 2), .int ((m_e a (nr - 1) b 2) + (nI 1))]) (rest := []) (k_X8_lay hI o a h sn tx k (nr - 1) b 2 ((m_e a (nr - 1) b 2) + (nI 1)) (by omega) hF (by omega)) (x_cwV yX8_lay cX8_lay 5 none 4 X q939 q941 qs22 q14 q942 hd_X8_lay ⟨Nat.le_of_ble_eq_true rfl, Nat.le_of_ble_eq_true rfl⟩) (by omega) hF.1 rfl rfl hl.1 rfl (Nat.le_of_ble_eq_true rfl) dX8_doBuoy_70 ⟨Nat.le_of_ble_eq_true rfl, Nat.le_of_ble_eq_true rfl⟩ (fun F6 H locs hp hw => ?_)
      obtain ⟨hF7, hr8⟩ := hp
      replace hfr := hfr.tr hr8 (by omega) (by omega)
      refine lv_iload_n X.1 X.2.1 dX8_doBuoy_73 rfl (lv_at hl 0 rfl) ?_
      exact x_iret X hr hlk hK hw (v := m_e a (nr - 1) b 1) rfl (auto_mo (by rw [s_X8_doBuoy, if_neg c1, if_neg c5] : s_X8_doBuoy a h sn tx k b y nr = (m_e a (nr - 1) b 1, (ly a (nr - 1) b 2 ((m_e a (nr - 1) b 2) + (nI 1))), h, sn, tx, k)) hF7 hfr) dX8_doBuoy_74
    · refine lv_aload_n X.1 X.2.1 dX8_doBuoy_34 rfl (lv_at hl 1 rfl) ?_
      refine lv_aload_n X.1 X.2.1 dX8_doBuoy_35 rfl (lv_at hl 1 rfl) ?_
      refine x_callVP X hK hw (k := o) (As := []) (rest := [.ref (ad o)]) (k_X8_latest hI o a h sn tx k nr (by omega) hF h2 (by omega) hn) (x_cwV yX8_latest cX8_latest 1 (some .int) 0 X q927 q929 qs19 q14 q930 hd_X8_latest ⟨Nat.le_of_ble_eq_true rfl, Nat.le_of_ble_eq_true rfl⟩) (by omega) hF.1 rfl rfl hl.1 rfl (Nat.le_of_ble_eq_true rfl) dX8_doBuoy_36 ⟨Nat.le_of_ble_eq_true rfl, Nat.le_of_ble_eq_true rfl⟩ (fun H locs hw => ?_)
      refine lv_iload_n X.1 X.2.1 dX8_doBuoy_39 rfl (lv_at hl 2 rfl) ?_
      refine lv_iconst (v := nI 1) X.1 X.2.1 dX8_doBuoy_40 (by decide) ?_
      refine lv_iload_n X.1 X.2.1 dX8_doBuoy_41 rfl (lv_at hl 0 rfl) ?_
      refine lv_iconst (v := nI 1) X.1 X.2.1 dX8_doBuoy_42 (by decide) ?_
      refine lv_iadd X.1 X.2.1 dX8_doBuoy_43 ?_
      refine x_callVv X hK hw (k := o) (As := [.int (nI (nr - 1)), .int (nI b), .int (nI 1), .int ((m_e a (nr - 1) b 1) + (nI 1))]) (rest := []) (k_X8_lay hI o a h sn tx k (nr - 1) b 1 ((m_e a (nr - 1) b 1) + (nI 1)) (by omega) hF (by omega)) (x_cwV yX8_lay cX8_lay 5 none 4 X q939 q941 qs22 q14 q942 hd_X8_lay ⟨Nat.le_of_ble_eq_true rfl, Nat.le_of_ble_eq_true rfl⟩) (by omega) hF.1 rfl rfl hl.1 rfl (Nat.le_of_ble_eq_true rfl) dX8_doBuoy_44 ⟨Nat.le_of_ble_eq_true rfl, Nat.le_of_ble_eq_true rfl⟩ (fun F9 H locs hp hw => ?_)
      obtain ⟨hF10, hr11⟩ := hp
      replace hfr := hfr.tr hr11 (by omega) (by omega)
      refine lv_iload_n X.1 X.2.1 dX8_doBuoy_47 rfl (lv_at hl 0 rfl) ?_
      refine lv_iconst (v := nI 1) X.1 X.2.1 dX8_doBuoy_48 (by decide) ?_
      refine lv_iadd X.1 X.2.1 dX8_doBuoy_49 ?_
      exact x_iret X hr hlk hK hw (v := (m_e a (nr - 1) b 1) + (nI 1)) rfl (auto_mo (by rw [s_X8_doBuoy, if_neg c1, if_pos c5] : s_X8_doBuoy a h sn tx k b y nr = ((m_e a (nr - 1) b 1) + (nI 1), (ly a (nr - 1) b 1 ((m_e a (nr - 1) b 1) + (nI 1))), h, sn, tx, k)) hF10 hfr) dX8_doBuoy_50
def s_X8_retireError (a : Nat → Int32) (x : Int32) (nr : Nat) : Int32 := (if ¬ x < nI 0 ∧ ¬ a 1 - nI 1 < x then (if 0 < nr ∧ m_r a (nr - 1) 3 = 0 then (if (nI 3) ≤ (m_e a (nr - 1) x.toNatClampNeg 0) then (-4) else nI 0) else (-4)) else (-1))
set_option maxHeartbeats 4000000 in
set_option maxRecDepth 100000 in
theorem k_X8_retireError {l : Launch} {D : va_G} {cI cB cS : ClassId} {ad : Nat → Nat} {N : Nat} {F : Nat → va_E} (hI : iN ad N) (o : Nat) (a : Nat → Int32) (h : Nat → Int32) (sn : Nat → Int32) (tx : Nat → Int32) (k : Nat → Int32) (x : Int32) (nb : Nat) (nr : Nat) (hc5 : o + 5 ≤ N) (hF : MoF ad cI F o a h sn tx k) (h1 : a 1 = nI nb) (hb9 : nb ≤ 9) (h2 : a 2 = nI nr) (hr6 : nr ≤ 6) : Ci l D cI cB cS ad N yX8_retireError cX8_retireError 2 (some .int) 2 44 [.ref (ad o), .int x] F (pP (s_X8_retireError a x nr) F) := by
  refine x_met (by decide +kernel) (Nat.le_of_ble_eq_true rfl) ?_
  intro p e s m below meth c X hr hlk hK hw ls hl
  replace hl : lv_has ls 2 [(0, .ref (ad o)), (1, .int x)] := hl
  refine lv_aload_n X.1 X.2.1 dX8_retireError_0 rfl (lv_at hl 0 rfl) ?_
  refine lv_iload_n X.1 X.2.1 dX8_retireError_1 rfl (lv_at hl 1 rfl) ?_
  refine x_callVP X hK hw (k := o) (As := [.int x]) (rest := []) (k_X8_isBoat hI o a h sn tx k x (by omega) hF) (x_cwV yX8_isBoat cX8_isBoat 2 (some .boolean) 1 X q976 q978 qs27 q14 q979 hd_X8_isBoat ⟨Nat.le_of_ble_eq_true rfl, Nat.le_of_ble_eq_true rfl⟩) (by omega) hF.1 rfl rfl hl.1 rfl (Nat.le_of_ble_eq_true rfl) dX8_retireError_2 ⟨Nat.le_of_ble_eq_true rfl, Nat.le_of_ble_eq_true rfl⟩ (fun H locs hw => ?_)
  refine lv_if_ne (tgt := 12) X.1 X.2.1 dX8_retireError_5 (by decide) (fun c1 => ?_) (fun c1 => ?_)
  · replace c1 := bI_nz c1
    have ⟨hj2, hx3⟩ := isb_of (n := nb) c1 h1 (by omega)
    rw [hx3] at hl
    replace hl : lv_has ls 2 [(0, .ref (ad o)), (1, .int (nI x.toNatClampNeg))] := hl
    refine lv_aload_n X.1 X.2.1 dX8_retireError_12 rfl (lv_at hl 0 rfl) ?_
    refine x_callVP X hK hw (k := o) (As := []) (rest := []) (k_X8_isPrepared hI o a h sn tx k nr (by omega) hF h2 (by omega)) (x_cwV yX8_isPrepared cX8_isPrepared 1 (some .boolean) 0 X q923 q925 qs18 q14 q926 hd_X8_isPrepared ⟨Nat.le_of_ble_eq_true rfl, Nat.le_of_ble_eq_true rfl⟩) (by omega) hF.1 rfl rfl hl.1 rfl (Nat.le_of_ble_eq_true rfl) dX8_retireError_13 ⟨Nat.le_of_ble_eq_true rfl, Nat.le_of_ble_eq_true rfl⟩ (fun H locs hw => ?_)
    refine lv_if_eq (tgt := 32) X.1 X.2.1 dX8_retireError_16 (by decide) (fun c4 => ?_) (fun c4 => ?_)
    · replace c4 := bI_z c4
      refine lv_bipush (v := (-4)) X.1 X.2.1 dX8_retireError_32 (by decide) ?_
      exact x_iret X hr hlk hK hw (v := (-4)) rfl (⟨by rw [s_X8_retireError, if_pos c1, if_neg c4], rfl⟩) dX8_retireError_34
    · replace c4 := bI_nz c4
      have hn := c4.1
      refine lv_aload_n X.1 X.2.1 dX8_retireError_19 rfl (lv_at hl 0 rfl) ?_
      refine lv_iload_n X.1 X.2.1 dX8_retireError_20 rfl (lv_at hl 1 rfl) ?_
      refine x_callVP X hK hw (k := o) (As := [.int (nI x.toNatClampNeg)]) (rest := []) (k_X8_status hI o a h sn tx k x.toNatClampNeg nr (by omega) hF h2 (by omega) hn (by omega)) (x_cwV yX8_status cX8_status 2 (some .int) 1 X q980 q982 qs28 q14 q983 hd_X8_status ⟨Nat.le_of_ble_eq_true rfl, Nat.le_of_ble_eq_true rfl⟩) (by omega) hF.1 rfl rfl hl.1 rfl (Nat.le_of_ble_eq_true rfl) dX8_retireError_21 ⟨Nat.le_of_ble_eq_true rfl, Nat.le_of_ble_eq_true rfl⟩ (fun H locs hw => ?_)
      refine lv_iconst (v := nI 3) X.1 X.2.1 dX8_retireError_24 (by decide) ?_
      refine lv_icmp_ge (tgt := 32) X.1 X.2.1 dX8_retireError_25 (by decide) (fun c5 => ?_) (fun c5 => ?_)
      · refine lv_bipush (v := (-4)) X.1 X.2.1 dX8_retireError_32 (by decide) ?_
        exact x_iret X hr hlk hK hw (v := (-4)) rfl (⟨by rw [s_X8_retireError, if_pos c1, if_pos c4, if_pos c5], rfl⟩) dX8_retireError_34
      · refine lv_iconst (v := nI 0) X.1 X.2.1 dX8_retireError_28 (by decide) ?_
        refine lv_goto (tgt := 34) X.1 X.2.1 dX8_retireError_29 (by decide) ?_
        exact x_iret X hr hlk hK hw (v := nI 0) rfl (⟨by rw [s_X8_retireError, if_pos c1, if_pos c4, if_neg c5], rfl⟩) dX8_retireError_34
  · replace c1 := bI_z c1
    refine lv_iconst (v := (-1)) X.1 X.2.1 dX8_retireError_8 (by decide) ?_
    refine lv_goto (tgt := 34) X.1 X.2.1 dX8_retireError_9 (by decide) ?_
    exact x_iret X hr hlk hK hw (v := (-1)) rfl (⟨by rw [s_X8_retireError, if_neg c1], rfl⟩) dX8_retireError_34
def s_X8_doRetire (a : Nat → Int32) (h : Nat → Int32) (sn : Nat → Int32) (tx : Nat → Int32) (k : Nat → Int32) (b : Nat) (nr : Nat) : Int32 × (Nat → Int32) × (Nat → Int32) × (Nat → Int32) × (Nat → Int32) × (Nat → Int32) := (m_e a (nr - 1) b 0, (ly a (nr - 1) b 0 (nI 4)), h, sn, tx, k)
set_option maxHeartbeats 4000000 in
set_option maxRecDepth 100000 in
theorem k_X8_doRetire {l : Launch} {D : va_G} {cI cB cS : ClassId} {ad : Nat → Nat} {N : Nat} {F : Nat → va_E} (hI : iN ad N) (o : Nat) (a : Nat → Int32) (h : Nat → Int32) (sn : Nat → Int32) (tx : Nat → Int32) (k : Nat → Int32) (b : Nat) (nr : Nat) (hc5 : o + 5 ≤ N) (hF : MoF ad cI F o a h sn tx k) (h2 : a 2 = nI nr) (hr6 : nr ≤ 6) (hn : 0 < nr) (hb : b < 9) : Ci l D cI cB cS ad N yX8_doRetire cX8_doRetire 3 (some .int) 2 44 [.ref (ad o), .int (nI b)] F (fun r F' => r = (s_X8_doRetire a h sn tx k b nr).1 ∧ MoF ad cI F' o ((s_X8_doRetire a h sn tx k b nr).2.1) ((s_X8_doRetire a h sn tx k b nr).2.2.1) ((s_X8_doRetire a h sn tx k b nr).2.2.2.1) ((s_X8_doRetire a h sn tx k b nr).2.2.2.2.1) ((s_X8_doRetire a h sn tx k b nr).2.2.2.2.2) ∧ Fr F F' o (o + 5)) := by
  refine x_met (by decide +kernel) (Nat.le_of_ble_eq_true rfl) ?_
  intro p e s m below meth c X hr hlk hK hw ls hl
  replace hl : lv_has ls 3 [(0, .ref (ad o)), (1, .int (nI b))] := hl
  have hfr : Fr F F (o) (o + 5) := Fr.rf
  refine lv_aload_n X.1 X.2.1 dX8_doRetire_0 rfl (lv_at hl 0 rfl) ?_
  refine lv_iload_n X.1 X.2.1 dX8_doRetire_1 rfl (lv_at hl 1 rfl) ?_
  refine x_callVP X hK hw (k := o) (As := [.int (nI b)]) (rest := []) (k_X8_status hI o a h sn tx k b nr (by omega) hF h2 (by omega) hn (by omega)) (x_cwV yX8_status cX8_status 2 (some .int) 1 X q980 q982 qs28 q14 q983 hd_X8_status ⟨Nat.le_of_ble_eq_true rfl, Nat.le_of_ble_eq_true rfl⟩) (by omega) hF.1 rfl rfl hl.1 rfl (Nat.le_of_ble_eq_true rfl) dX8_doRetire_2 ⟨Nat.le_of_ble_eq_true rfl, Nat.le_of_ble_eq_true rfl⟩ (fun H locs hw => ?_)
  refine lv_istore_n (lv' := [(2, .int (m_e a (nr - 1) b 0)), (0, .ref (ad o)), (1, .int (nI b))]) X.1 X.2.1 dX8_doRetire_5 rfl hl (by decide) rfl (fun ls hl => ?_)
  refine lv_aload_n X.1 X.2.1 dX8_doRetire_6 rfl (lv_at hl 1 rfl) ?_
  refine lv_aload_n X.1 X.2.1 dX8_doRetire_7 rfl (lv_at hl 1 rfl) ?_
  refine x_callVP X hK hw (k := o) (As := []) (rest := [.ref (ad o)]) (k_X8_latest hI o a h sn tx k nr (by omega) hF h2 (by omega) hn) (x_cwV yX8_latest cX8_latest 1 (some .int) 0 X q927 q929 qs19 q14 q930 hd_X8_latest ⟨Nat.le_of_ble_eq_true rfl, Nat.le_of_ble_eq_true rfl⟩) (by omega) hF.1 rfl rfl hl.1 rfl (Nat.le_of_ble_eq_true rfl) dX8_doRetire_8 ⟨Nat.le_of_ble_eq_true rfl, Nat.le_of_ble_eq_true rfl⟩ (fun H locs hw => ?_)
  refine lv_iload_n X.1 X.2.1 dX8_doRetire_11 rfl (lv_at hl 2 rfl) ?_
  refine lv_iconst (v := nI 0) X.1 X.2.1 dX8_doRetire_12 (by decide) ?_
  refine lv_iconst (v := nI 4) X.1 X.2.1 dX8_doRetire_13 (by decide) ?_
  refine x_callVv X hK hw (k := o) (As := [.int (nI (nr - 1)), .int (nI b), .int (nI 0), .int (nI 4)]) (rest := []) (k_X8_lay hI o a h sn tx k (nr - 1) b 0 (nI 4) (by omega) hF (by omega)) (x_cwV yX8_lay cX8_lay 5 none 4 X q939 q941 qs22 q14 q942 hd_X8_lay ⟨Nat.le_of_ble_eq_true rfl, Nat.le_of_ble_eq_true rfl⟩) (by omega) hF.1 rfl rfl hl.1 rfl (Nat.le_of_ble_eq_true rfl) dX8_doRetire_14 ⟨Nat.le_of_ble_eq_true rfl, Nat.le_of_ble_eq_true rfl⟩ (fun F1 H locs hp hw => ?_)
  obtain ⟨hF2, hr3⟩ := hp
  replace hfr := hfr.tr hr3 (by omega) (by omega)
  refine lv_iload_n X.1 X.2.1 dX8_doRetire_17 rfl (lv_at hl 0 rfl) ?_
  exact x_iret X hr hlk hK hw (v := m_e a (nr - 1) b 0) rfl (auto_mo (by rfl : s_X8_doRetire a h sn tx k b nr = (m_e a (nr - 1) b 0, (ly a (nr - 1) b 0 (nI 4)), h, sn, tx, k)) hF2 hfr) dX8_doRetire_18
theorem hd_X8_finishedIn : yX8_finishedIn.cls = RX8 ∧ yX8_finishedIn.cls ≠ "java/lang/invoke/MethodHandle" ∧ yX8_finishedIn.cls ≠ "java/lang/invoke/VarHandle" ∧ (parseMethodDescriptor yX8_finishedIn.desc).map (fun d => d.parameters.length) = some 1 := by decide +kernel
def s_X8_close (a : Nat → Int32) (h : Nat → Int32) (sn : Nat → Int32) (tx : Nat → Int32) (k : Nat → Int32) (nb : Nat) (nr : Nat) (kp : Nat) : Int32 × (Nat → Int32) × (Nat → Int32) × (Nat → Int32) × (Nat → Int32) × (Nat → Int32) := (if 0 < nr ∧ m_r a (nr - 1) 3 = 0 then (if (m_r a (nr - 1) 2) ≤ (a 0) then (m_fin ((upd a ((16 + (4 * (nr - 1))) + 3) (nI 1))) (nr - 1) nb, (upd a ((16 + (4 * (nr - 1))) + 3) (nI 1)), (m_hn a h kp), sn, tx, (va_up k 0 (nI (m_kn kp)))) else ((-4), a, h, sn, tx, k)) else ((-4), a, h, sn, tx, k))
set_option maxHeartbeats 4000000 in
set_option maxRecDepth 100000 in
theorem k_X8_close {l : Launch} {D : va_G} {cI cB cS : ClassId} {ad : Nat → Nat} {N : Nat} {F : Nat → va_E} (hI : iN ad N) (o : Nat) (a : Nat → Int32) (h : Nat → Int32) (sn : Nat → Int32) (tx : Nat → Int32) (k : Nat → Int32) (nb : Nat) (nr : Nat) (kp : Nat) (hc5 : o + 5 ≤ N) (hF : MoF ad cI F o a h sn tx k) (h1 : a 1 = nI nb) (hb9 : nb ≤ 9) (h2 : a 2 = nI nr) (hr6 : nr ≤ 6) (hk0 : k 0 = nI kp) (hk4 : kp ≤ 4) : Ci l D cI cB cS ad N yX8_close cX8_close 1 (some .int) 2 46 [.ref (ad o)] F (fun r F' => r = (s_X8_close a h sn tx k nb nr kp).1 ∧ MoF ad cI F' o ((s_X8_close a h sn tx k nb nr kp).2.1) ((s_X8_close a h sn tx k nb nr kp).2.2.1) ((s_X8_close a h sn tx k nb nr kp).2.2.2.1) ((s_X8_close a h sn tx k nb nr kp).2.2.2.2.1) ((s_X8_close a h sn tx k nb nr kp).2.2.2.2.2) ∧ Fr F F' o (o + 5)) := by
  refine x_met (by decide +kernel) (Nat.le_of_ble_eq_true rfl) ?_
  intro p e s m below meth c X hr hlk hK hw ls hl
  replace hl : lv_has ls 1 [(0, .ref (ad o))] := hl
  have hfr : Fr F F (o) (o + 5) := Fr.rf
  refine lv_aload_n X.1 X.2.1 dX8_close_0 rfl (lv_at hl 0 rfl) ?_
  refine x_callVP X hK hw (k := o) (As := []) (rest := []) (k_X8_isPrepared hI o a h sn tx k nr (by omega) hF h2 (by omega)) (x_cwV yX8_isPrepared cX8_isPrepared 1 (some .boolean) 0 X q923 q925 qs18 q14 q926 hd_X8_isPrepared ⟨Nat.le_of_ble_eq_true rfl, Nat.le_of_ble_eq_true rfl⟩) (by omega) hF.1 rfl rfl hl.1 rfl (Nat.le_of_ble_eq_true rfl) dX8_close_1 ⟨Nat.le_of_ble_eq_true rfl, Nat.le_of_ble_eq_true rfl⟩ (fun H locs hw => ?_)
  refine lv_if_eq (tgt := 20) X.1 X.2.1 dX8_close_4 (by decide) (fun c1 => ?_) (fun c1 => ?_)
  · replace c1 := bI_z c1
    refine lv_bipush (v := (-4)) X.1 X.2.1 dX8_close_20 (by decide) ?_
    exact x_iret X hr hlk hK hw (v := (-4)) rfl (auto_mo (by rw [s_X8_close, if_neg c1] : s_X8_close a h sn tx k nb nr kp = ((-4), a, h, sn, tx, k)) hF hfr) dX8_close_22
  · replace c1 := bI_nz c1
    have hn := c1.1
    refine lv_aload_n X.1 X.2.1 dX8_close_7 rfl (lv_at hl 0 rfl) ?_
    refine x_get X hK hw (C := RX8) (T := TX8) (nf := 12) (k := o) (by omega) hF.1 rfl inX8 0 (by decide) q868 (fun _ h9 => h9) rfl dX8_close_8 ?_
    refine lv_iconst (v := nI 0) X.1 X.2.1 dX8_close_11 (by decide) ?_
    refine x_ialdN X hK hw (k := (o + 1)) (by omega) hF.2.1 (i := nI 0) (j := 0) rfl (by omega) (by omega) dX8_close_12 ?_
    refine lv_aload_n X.1 X.2.1 dX8_close_13 rfl (lv_at hl 0 rfl) ?_
    refine x_callVP X hK hw (k := o) (As := []) (rest := [.int (a 0)]) (k_X8_start hI o a h sn tx k nr (by omega) hF h2 (by omega) hn) (x_cwV yX8_start cX8_start 1 (some .int) 0 X q947 q949 qs23 q14 q950 hd_X8_start ⟨Nat.le_of_ble_eq_true rfl, Nat.le_of_ble_eq_true rfl⟩) (by omega) hF.1 rfl rfl hl.1 rfl (Nat.le_of_ble_eq_true rfl) dX8_close_14 ⟨Nat.le_of_ble_eq_true rfl, Nat.le_of_ble_eq_true rfl⟩ (fun H locs hw => ?_)
    refine lv_icmp_ge (tgt := 23) X.1 X.2.1 dX8_close_17 (by decide) (fun c2 => ?_) (fun c2 => ?_)
    · refine lv_aload_n X.1 X.2.1 dX8_close_23 rfl (lv_at hl 0 rfl) ?_
      refine x_callVv X hK hw (k := o) (As := []) (rest := []) (k_X8_record hI o a h sn tx k kp (by omega) hF hk0 (by omega)) (x_cwV yX8_record cX8_record 2 none 0 X q912 q914 qs17 q14 q915 hd_X8_record ⟨Nat.le_of_ble_eq_true rfl, Nat.le_of_ble_eq_true rfl⟩) (by omega) hF.1 rfl rfl hl.1 rfl (Nat.le_of_ble_eq_true rfl) dX8_close_24 ⟨Nat.le_of_ble_eq_true rfl, Nat.le_of_ble_eq_true rfl⟩ (fun F3 H locs hp hw => ?_)
      obtain ⟨hF4, hr5⟩ := hp
      replace hfr := hfr.tr hr5 (by omega) (by omega)
      refine lv_aload_n X.1 X.2.1 dX8_close_27 rfl (lv_at hl 0 rfl) ?_
      refine x_get X hK hw (C := RX8) (T := TX8) (nf := 12) (k := o) (by omega) hF4.1 rfl inX8 0 (by decide) q868 (fun _ h9 => h9) rfl dX8_close_28 ?_
      refine lv_bipush (v := nI 16) X.1 X.2.1 dX8_close_31 (by decide) ?_
      refine lv_iconst (v := nI 4) X.1 X.2.1 dX8_close_33 (by decide) ?_
      refine lv_aload_n X.1 X.2.1 dX8_close_34 rfl (lv_at hl 0 rfl) ?_
      refine x_callVP X hK hw (k := o) (As := []) (rest := [.int (nI 4), .int (nI 16), .ref (ad (o + 1))]) (k_X8_latest hI o a ((m_hn a h kp)) sn tx ((va_up k 0 (nI (m_kn kp)))) nr (by omega) hF4 h2 (by omega) hn) (x_cwV yX8_latest cX8_latest 1 (some .int) 0 X q927 q929 qs19 q14 q930 hd_X8_latest ⟨Nat.le_of_ble_eq_true rfl, Nat.le_of_ble_eq_true rfl⟩) (by omega) hF4.1 rfl rfl hl.1 rfl (Nat.le_of_ble_eq_true rfl) dX8_close_35 ⟨Nat.le_of_ble_eq_true rfl, Nat.le_of_ble_eq_true rfl⟩ (fun H locs hw => ?_)
      refine lv_imul X.1 X.2.1 dX8_close_38 ?_
      refine x_top (pk_mul _ _) ?_
      refine lv_iadd X.1 X.2.1 dX8_close_39 ?_
      refine x_top (nI_add _ _) ?_
      refine lv_iconst (v := nI 3) X.1 X.2.1 dX8_close_40 (by decide) ?_
      refine lv_iadd X.1 X.2.1 dX8_close_41 ?_
      refine x_top (nI_add _ _) ?_
      refine lv_iconst (v := nI 1) X.1 X.2.1 dX8_close_42 (by decide) ?_
      refine x_iastN2 X hI hK hw (k := (o + 1)) (by omega) hF4.2.1 (i := nI ((16 + (4 * (nr - 1))) + 3)) (j := (16 + (4 * (nr - 1))) + 3) rfl (by omega) (by omega) dX8_close_43 (fun F6 H locs eF7 hw => ?_)
      have hF8 := MoF.st0 hF4 eF7
      have hr9 := fr_eq eF7 (Nat.le_refl _) (Nat.lt_succ_self _)
      replace hfr := hfr.tr hr9 (by omega) (by omega)
      refine lv_aload_n X.1 X.2.1 dX8_close_44 rfl (lv_at hl 0 rfl) ?_
      refine lv_aload_n X.1 X.2.1 dX8_close_45 rfl (lv_at hl 0 rfl) ?_
      refine x_callVP X hK hw (k := o) (As := []) (rest := [.ref (ad o)]) (k_X8_latest hI o ((upd a ((16 + (4 * (nr - 1))) + 3) (nI 1))) ((m_hn a h kp)) sn tx ((va_up k 0 (nI (m_kn kp)))) nr (by omega) hF8 ((pk_un (by omega)).trans h2) (by omega) hn) (x_cwV yX8_latest cX8_latest 1 (some .int) 0 X q927 q929 qs19 q14 q930 hd_X8_latest ⟨Nat.le_of_ble_eq_true rfl, Nat.le_of_ble_eq_true rfl⟩) (by omega) hF8.1 rfl rfl hl.1 rfl (Nat.le_of_ble_eq_true rfl) dX8_close_46 ⟨Nat.le_of_ble_eq_true rfl, Nat.le_of_ble_eq_true rfl⟩ (fun H locs hw => ?_)
      refine x_callVP X hK hw (k := o) (As := [.int (nI (nr - 1))]) (rest := []) (k_X8_finishedIn hI o ((upd a ((16 + (4 * (nr - 1))) + 3) (nI 1))) ((m_hn a h kp)) sn tx ((va_up k 0 (nI (m_kn kp)))) (nr - 1) nb (by omega) hF8 ((pk_un (by omega)).trans h1) (by omega) (by omega)) (x_cwV yX8_finishedIn cX8_finishedIn 4 (some .int) 1 X q1024 q1026 qs36 q14 q1027 hd_X8_finishedIn ⟨Nat.le_of_ble_eq_true rfl, Nat.le_of_ble_eq_true rfl⟩) (by omega) hF8.1 rfl rfl hl.1 rfl (Nat.le_of_ble_eq_true rfl) dX8_close_49 ⟨Nat.le_of_ble_eq_true rfl, Nat.le_of_ble_eq_true rfl⟩ (fun H locs hw => ?_)
      exact x_iret X hr hlk hK hw (v := m_fin ((upd a ((16 + (4 * (nr - 1))) + 3) (nI 1))) (nr - 1) nb) rfl (auto_mo (by rw [s_X8_close, if_pos c1, if_pos c2] : s_X8_close a h sn tx k nb nr kp = (m_fin ((upd a ((16 + (4 * (nr - 1))) + 3) (nI 1))) (nr - 1) nb, (upd a ((16 + (4 * (nr - 1))) + 3) (nI 1)), (m_hn a h kp), sn, tx, (va_up k 0 (nI (m_kn kp))))) hF8 hfr) dX8_close_52
    · refine lv_bipush (v := (-4)) X.1 X.2.1 dX8_close_20 (by decide) ?_
      exact x_iret X hr hlk hK hw (v := (-4)) rfl (auto_mo (by rw [s_X8_close, if_pos c1, if_neg c2] : s_X8_close a h sn tx k nb nr kp = ((-4), a, h, sn, tx, k)) hF hfr) dX8_close_22
set_option maxHeartbeats 4000000 in
set_option maxRecDepth 100000 in
theorem k_X8_isOnWater {l : Launch} {D : va_G} {cI cB cS : ClassId} {ad : Nat → Nat} {N : Nat} {F : Nat → va_E} (hI : iN ad N) (o : Nat) (a : Nat → Int32) (h : Nat → Int32) (sn : Nat → Int32) (tx : Nat → Int32) (k : Nat → Int32) (b : Nat) (nr : Nat) (hc5 : o + 5 ≤ N) (hF : MoF ad cI F o a h sn tx k) (h2 : a 2 = nI nr) (hr6 : nr ≤ 6) (hn : 0 < nr) (hb : b < 9) : Ci l D cI cB cS ad N yX8_isOnWater cX8_isOnWater 2 (some .boolean) 2 44 [.ref (ad o), .int (nI b)] F (pP (bI (decide (¬ m_e a (nr - 1) b 0 < nI 2 ∧ ¬ nI 3 < m_e a (nr - 1) b 0))) F) := by
  refine x_met (by decide +kernel) (Nat.le_of_ble_eq_true rfl) ?_
  intro p e s m below meth c X hr hlk hK hw ls hl
  replace hl : lv_has ls 2 [(0, .ref (ad o)), (1, .int (nI b))] := hl
  refine lv_aload_n X.1 X.2.1 dX8_isOnWater_0 rfl (lv_at hl 0 rfl) ?_
  refine lv_iload_n X.1 X.2.1 dX8_isOnWater_1 rfl (lv_at hl 1 rfl) ?_
  refine x_callVP X hK hw (k := o) (As := [.int (nI b)]) (rest := []) (k_X8_status hI o a h sn tx k b nr (by omega) hF h2 (by omega) hn (by omega)) (x_cwV yX8_status cX8_status 2 (some .int) 1 X q980 q982 qs28 q14 q983 hd_X8_status ⟨Nat.le_of_ble_eq_true rfl, Nat.le_of_ble_eq_true rfl⟩) (by omega) hF.1 rfl rfl hl.1 rfl (Nat.le_of_ble_eq_true rfl) dX8_isOnWater_2 ⟨Nat.le_of_ble_eq_true rfl, Nat.le_of_ble_eq_true rfl⟩ (fun H locs hw => ?_)
  refine lv_iconst (v := nI 2) X.1 X.2.1 dX8_isOnWater_5 (by decide) ?_
  refine lv_iconst (v := nI 3) X.1 X.2.1 dX8_isOnWater_6 (by decide) ?_
  refine x_callSP X hK hw (As := [.int (m_e a (nr - 1) b 0), .int (nI 2), .int (nI 3)]) (rest := []) (k_X8_in hI (m_e a (nr - 1) b 0) (nI 2) (nI 3)) (x_cwS yX8_in cX8_in 3 (some .boolean) 3 X q909 q910 q14 q911 hd_X8_in ⟨Nat.le_of_ble_eq_true rfl, Nat.le_of_ble_eq_true rfl⟩) rfl hl.1 rfl (Nat.le_of_ble_eq_true rfl) dX8_isOnWater_7 ⟨Nat.le_of_ble_eq_true rfl, Nat.le_of_ble_eq_true rfl⟩ (fun H locs hw => ?_)
  exact x_iret X hr hlk hK hw (v := bI (decide (¬ (m_e a (nr - 1) b 0) < (nI 2) ∧ ¬ (nI 3) < (m_e a (nr - 1) b 0)))) (nr_b _) (⟨rfl, rfl⟩) dX8_isOnWater_10
theorem hd_X8_isOnWater : yX8_isOnWater.cls = RX8 ∧ yX8_isOnWater.cls ≠ "java/lang/invoke/MethodHandle" ∧ yX8_isOnWater.cls ≠ "java/lang/invoke/VarHandle" ∧ (parseMethodDescriptor yX8_isOnWater.desc).map (fun d => d.parameters.length) = some 1 := by decide +kernel
def s_X8_hailError (a : Nat → Int32) (x : Int32) (y : Int32) (nr : Nat) : Int32 := (if ¬ x < nI 0 ∧ ¬ a 1 - nI 1 < x then (if ¬ y < nI 0 ∧ ¬ a 1 - nI 1 < y then (if (nI x.toNatClampNeg) = (nI y.toNatClampNeg) then (-2) else (if 0 < nr ∧ m_r a (nr - 1) 3 = 0 then (if ¬ m_e a (nr - 1) x.toNatClampNeg 0 < nI 2 ∧ ¬ nI 3 < m_e a (nr - 1) x.toNatClampNeg 0 then (if ¬ m_e a (nr - 1) y.toNatClampNeg 0 < nI 2 ∧ ¬ nI 3 < m_e a (nr - 1) y.toNatClampNeg 0 then (if (a 3) = (nI 10) then (-3) else nI 0) else (-4)) else (-4)) else (-4))) else (-1)) else (-1))
set_option maxHeartbeats 4000000 in
set_option maxRecDepth 100000 in
theorem k_X8_hailError {l : Launch} {D : va_G} {cI cB cS : ClassId} {ad : Nat → Nat} {N : Nat} {F : Nat → va_E} (hI : iN ad N) (o : Nat) (a : Nat → Int32) (h : Nat → Int32) (sn : Nat → Int32) (tx : Nat → Int32) (k : Nat → Int32) (x : Int32) (y : Int32) (nb : Nat) (nr : Nat) (hc5 : o + 5 ≤ N) (hF : MoF ad cI F o a h sn tx k) (h1 : a 1 = nI nb) (hb9 : nb ≤ 9) (h2 : a 2 = nI nr) (hr6 : nr ≤ 6) : Ci l D cI cB cS ad N yX8_hailError cX8_hailError 3 (some .int) 3 65 [.ref (ad o), .int x, .int y] F (pP (s_X8_hailError a x y nr) F) := by
  refine x_met (by decide +kernel) (Nat.le_of_ble_eq_true rfl) ?_
  intro p e s m below meth c X hr hlk hK hw ls hl
  replace hl : lv_has ls 3 [(0, .ref (ad o)), (1, .int x), (2, .int y)] := hl
  refine lv_aload_n X.1 X.2.1 dX8_hailError_0 rfl (lv_at hl 0 rfl) ?_
  refine lv_iload_n X.1 X.2.1 dX8_hailError_1 rfl (lv_at hl 1 rfl) ?_
  refine x_callVP X hK hw (k := o) (As := [.int x]) (rest := []) (k_X8_isBoat hI o a h sn tx k x (by omega) hF) (x_cwV yX8_isBoat cX8_isBoat 2 (some .boolean) 1 X q976 q978 qs27 q14 q979 hd_X8_isBoat ⟨Nat.le_of_ble_eq_true rfl, Nat.le_of_ble_eq_true rfl⟩) (by omega) hF.1 rfl rfl hl.1 rfl (Nat.le_of_ble_eq_true rfl) dX8_hailError_2 ⟨Nat.le_of_ble_eq_true rfl, Nat.le_of_ble_eq_true rfl⟩ (fun H locs hw => ?_)
  refine lv_if_eq (tgt := 16) X.1 X.2.1 dX8_hailError_5 (by decide) (fun c1 => ?_) (fun c1 => ?_)
  · replace c1 := bI_z c1
    refine lv_iconst (v := (-1)) X.1 X.2.1 dX8_hailError_16 (by decide) ?_
    exact x_iret X hr hlk hK hw (v := (-1)) rfl (⟨by rw [s_X8_hailError, if_neg c1], rfl⟩) dX8_hailError_17
  · replace c1 := bI_nz c1
    have ⟨hj2, hx3⟩ := isb_of (n := nb) c1 h1 (by omega)
    rw [hx3] at hl
    replace hl : lv_has ls 3 [(0, .ref (ad o)), (1, .int (nI x.toNatClampNeg)), (2, .int y)] := hl
    refine lv_aload_n X.1 X.2.1 dX8_hailError_8 rfl (lv_at hl 0 rfl) ?_
    refine lv_iload_n X.1 X.2.1 dX8_hailError_9 rfl (lv_at hl 2 rfl) ?_
    refine x_callVP X hK hw (k := o) (As := [.int y]) (rest := []) (k_X8_isBoat hI o a h sn tx k y (by omega) hF) (x_cwV yX8_isBoat cX8_isBoat 2 (some .boolean) 1 X q976 q978 qs27 q14 q979 hd_X8_isBoat ⟨Nat.le_of_ble_eq_true rfl, Nat.le_of_ble_eq_true rfl⟩) (by omega) hF.1 rfl rfl hl.1 rfl (Nat.le_of_ble_eq_true rfl) dX8_hailError_10 ⟨Nat.le_of_ble_eq_true rfl, Nat.le_of_ble_eq_true rfl⟩ (fun H locs hw => ?_)
    refine lv_if_ne (tgt := 18) X.1 X.2.1 dX8_hailError_13 (by decide) (fun c4 => ?_) (fun c4 => ?_)
    · replace c4 := bI_nz c4
      have ⟨hj5, hx6⟩ := isb_of (n := nb) c4 h1 (by omega)
      rw [hx6] at hl
      replace hl : lv_has ls 3 [(0, .ref (ad o)), (1, .int (nI x.toNatClampNeg)), (2, .int (nI y.toNatClampNeg))] := hl
      refine lv_iload_n X.1 X.2.1 dX8_hailError_18 rfl (lv_at hl 1 rfl) ?_
      refine lv_iload_n X.1 X.2.1 dX8_hailError_19 rfl (lv_at hl 2 rfl) ?_
      refine lv_icmp_ne (tgt := 26) X.1 X.2.1 dX8_hailError_20 (by decide) (fun c7 => ?_) (fun c7 => ?_)
      · refine lv_aload_n X.1 X.2.1 dX8_hailError_26 rfl (lv_at hl 0 rfl) ?_
        refine x_callVP X hK hw (k := o) (As := []) (rest := []) (k_X8_isPrepared hI o a h sn tx k nr (by omega) hF h2 (by omega)) (x_cwV yX8_isPrepared cX8_isPrepared 1 (some .boolean) 0 X q923 q925 qs18 q14 q926 hd_X8_isPrepared ⟨Nat.le_of_ble_eq_true rfl, Nat.le_of_ble_eq_true rfl⟩) (by omega) hF.1 rfl rfl hl.1 rfl (Nat.le_of_ble_eq_true rfl) dX8_hailError_27 ⟨Nat.le_of_ble_eq_true rfl, Nat.le_of_ble_eq_true rfl⟩ (fun H locs hw => ?_)
        refine lv_if_eq (tgt := 49) X.1 X.2.1 dX8_hailError_30 (by decide) (fun c8 => ?_) (fun c8 => ?_)
        · replace c8 := bI_z c8
          refine lv_bipush (v := (-4)) X.1 X.2.1 dX8_hailError_49 (by decide) ?_
          exact x_iret X hr hlk hK hw (v := (-4)) rfl (⟨by rw [s_X8_hailError, if_pos c1, if_pos c4, if_neg c7, if_neg c8], rfl⟩) dX8_hailError_51
        · replace c8 := bI_nz c8
          have hn := c8.1
          refine lv_aload_n X.1 X.2.1 dX8_hailError_33 rfl (lv_at hl 0 rfl) ?_
          refine lv_iload_n X.1 X.2.1 dX8_hailError_34 rfl (lv_at hl 1 rfl) ?_
          refine x_callVP X hK hw (k := o) (As := [.int (nI x.toNatClampNeg)]) (rest := []) (k_X8_isOnWater hI o a h sn tx k x.toNatClampNeg nr (by omega) hF h2 (by omega) hn (by omega)) (x_cwV yX8_isOnWater cX8_isOnWater 2 (some .boolean) 1 X q1036 q1038 qs38 q14 q1039 hd_X8_isOnWater ⟨Nat.le_of_ble_eq_true rfl, Nat.le_of_ble_eq_true rfl⟩) (by omega) hF.1 rfl rfl hl.1 rfl (Nat.le_of_ble_eq_true rfl) dX8_hailError_35 ⟨Nat.le_of_ble_eq_true rfl, Nat.le_of_ble_eq_true rfl⟩ (fun H locs hw => ?_)
          refine lv_if_eq (tgt := 49) X.1 X.2.1 dX8_hailError_38 (by decide) (fun c9 => ?_) (fun c9 => ?_)
          · replace c9 := bI_z c9
            refine lv_bipush (v := (-4)) X.1 X.2.1 dX8_hailError_49 (by decide) ?_
            exact x_iret X hr hlk hK hw (v := (-4)) rfl (⟨by rw [s_X8_hailError, if_pos c1, if_pos c4, if_neg c7, if_pos c8, if_neg c9], rfl⟩) dX8_hailError_51
          · replace c9 := bI_nz c9
            refine lv_aload_n X.1 X.2.1 dX8_hailError_41 rfl (lv_at hl 0 rfl) ?_
            refine lv_iload_n X.1 X.2.1 dX8_hailError_42 rfl (lv_at hl 2 rfl) ?_
            refine x_callVP X hK hw (k := o) (As := [.int (nI y.toNatClampNeg)]) (rest := []) (k_X8_isOnWater hI o a h sn tx k y.toNatClampNeg nr (by omega) hF h2 (by omega) hn (by omega)) (x_cwV yX8_isOnWater cX8_isOnWater 2 (some .boolean) 1 X q1036 q1038 qs38 q14 q1039 hd_X8_isOnWater ⟨Nat.le_of_ble_eq_true rfl, Nat.le_of_ble_eq_true rfl⟩) (by omega) hF.1 rfl rfl hl.1 rfl (Nat.le_of_ble_eq_true rfl) dX8_hailError_43 ⟨Nat.le_of_ble_eq_true rfl, Nat.le_of_ble_eq_true rfl⟩ (fun H locs hw => ?_)
            refine lv_if_ne (tgt := 52) X.1 X.2.1 dX8_hailError_46 (by decide) (fun c10 => ?_) (fun c10 => ?_)
            · replace c10 := bI_nz c10
              refine lv_aload_n X.1 X.2.1 dX8_hailError_52 rfl (lv_at hl 0 rfl) ?_
              refine x_get X hK hw (C := RX8) (T := TX8) (nf := 12) (k := o) (by omega) hF.1 rfl inX8 0 (by decide) q868 (fun _ h9 => h9) rfl dX8_hailError_53 ?_
              refine lv_iconst (v := nI 3) X.1 X.2.1 dX8_hailError_56 (by decide) ?_
              refine x_ialdN X hK hw (k := (o + 1)) (by omega) hF.2.1 (i := nI 3) (j := 3) rfl (by omega) (by omega) dX8_hailError_57 ?_
              refine lv_bipush (v := nI 10) X.1 X.2.1 dX8_hailError_58 (by decide) ?_
              refine lv_icmp_ne (tgt := 68) X.1 X.2.1 dX8_hailError_60 (by decide) (fun c11 => ?_) (fun c11 => ?_)
              · refine lv_iconst (v := nI 0) X.1 X.2.1 dX8_hailError_68 (by decide) ?_
                exact x_iret X hr hlk hK hw (v := nI 0) rfl (⟨by rw [s_X8_hailError, if_pos c1, if_pos c4, if_neg c7, if_pos c8, if_pos c9, if_pos c10, if_neg c11], rfl⟩) dX8_hailError_69
              · refine lv_bipush (v := (-3)) X.1 X.2.1 dX8_hailError_63 (by decide) ?_
                refine lv_goto (tgt := 69) X.1 X.2.1 dX8_hailError_65 (by decide) ?_
                exact x_iret X hr hlk hK hw (v := (-3)) rfl (⟨by rw [s_X8_hailError, if_pos c1, if_pos c4, if_neg c7, if_pos c8, if_pos c9, if_pos c10, if_pos c11], rfl⟩) dX8_hailError_69
            · replace c10 := bI_z c10
              refine lv_bipush (v := (-4)) X.1 X.2.1 dX8_hailError_49 (by decide) ?_
              exact x_iret X hr hlk hK hw (v := (-4)) rfl (⟨by rw [s_X8_hailError, if_pos c1, if_pos c4, if_neg c7, if_pos c8, if_pos c9, if_neg c10], rfl⟩) dX8_hailError_51
      · refine lv_bipush (v := (-2)) X.1 X.2.1 dX8_hailError_23 (by decide) ?_
        exact x_iret X hr hlk hK hw (v := (-2)) rfl (⟨by rw [s_X8_hailError, if_pos c1, if_pos c4, if_pos c7], rfl⟩) dX8_hailError_25
    · replace c4 := bI_z c4
      refine lv_iconst (v := (-1)) X.1 X.2.1 dX8_hailError_16 (by decide) ?_
      exact x_iret X hr hlk hK hw (v := (-1)) rfl (⟨by rw [s_X8_hailError, if_pos c1, if_neg c4], rfl⟩) dX8_hailError_17
def s_X8_doHail (a : Nat → Int32) (h : Nat → Int32) (sn : Nat → Int32) (tx : Nat → Int32) (k : Nat → Int32) (x : Int32) (y : Int32) (np : Nat) : Int32 × (Nat → Int32) × (Nat → Int32) × (Nat → Int32) × (Nat → Int32) × (Nat → Int32) := (((upd ((upd ((upd ((upd ((upd a ((40 + (4 * np)) + 0) x)) ((40 + (4 * np)) + 1) y)) ((40 + (4 * np)) + 2) ((upd ((upd a ((40 + (4 * np)) + 0) x)) ((40 + (4 * np)) + 1) y) 0))) ((40 + (4 * np)) + 3) (nI 0))) 3 (((upd ((upd ((upd ((upd a ((40 + (4 * np)) + 0) x)) ((40 + (4 * np)) + 1) y)) ((40 + (4 * np)) + 2) ((upd ((upd a ((40 + (4 * np)) + 0) x)) ((40 + (4 * np)) + 1) y) 0))) ((40 + (4 * np)) + 3) (nI 0)) 3) + (nI 1))) 3) - (nI 1), (upd ((upd ((upd ((upd ((upd a ((40 + (4 * np)) + 0) x)) ((40 + (4 * np)) + 1) y)) ((40 + (4 * np)) + 2) ((upd ((upd a ((40 + (4 * np)) + 0) x)) ((40 + (4 * np)) + 1) y) 0))) ((40 + (4 * np)) + 3) (nI 0))) 3 (((upd ((upd ((upd ((upd a ((40 + (4 * np)) + 0) x)) ((40 + (4 * np)) + 1) y)) ((40 + (4 * np)) + 2) ((upd ((upd a ((40 + (4 * np)) + 0) x)) ((40 + (4 * np)) + 1) y) 0))) ((40 + (4 * np)) + 3) (nI 0)) 3) + (nI 1))), h, sn, tx, k)
set_option maxHeartbeats 4000000 in
set_option maxRecDepth 100000 in
theorem k_X8_doHail {l : Launch} {D : va_G} {cI cB cS : ClassId} {ad : Nat → Nat} {N : Nat} {F : Nat → va_E} (hI : iN ad N) (o : Nat) (a : Nat → Int32) (h : Nat → Int32) (sn : Nat → Int32) (tx : Nat → Int32) (k : Nat → Int32) (x : Int32) (y : Int32) (np : Nat) (hc5 : o + 5 ≤ N) (hF : MoF ad cI F o a h sn tx k) (h3 : a 3 = nI np) (hp10 : np ≤ 10) : Ci l D cI cB cS ad N yX8_doHail cX8_doHail 4 (some .int) 0 0 [.ref (ad o), .int x, .int y] F (fun r F' => r = (s_X8_doHail a h sn tx k x y np).1 ∧ MoF ad cI F' o ((s_X8_doHail a h sn tx k x y np).2.1) ((s_X8_doHail a h sn tx k x y np).2.2.1) ((s_X8_doHail a h sn tx k x y np).2.2.2.1) ((s_X8_doHail a h sn tx k x y np).2.2.2.2.1) ((s_X8_doHail a h sn tx k x y np).2.2.2.2.2) ∧ Fr F F' o (o + 5)) := by
  refine x_met (by decide +kernel) (Nat.le_of_ble_eq_true rfl) ?_
  intro p e s m below meth c X hr hlk hK hw ls hl
  replace hl : lv_has ls 4 [(0, .ref (ad o)), (1, .int x), (2, .int y)] := hl
  have hfr : Fr F F (o) (o + 5) := Fr.rf
  refine lv_bipush (v := nI 40) X.1 X.2.1 dX8_doHail_0 (by decide) ?_
  refine lv_iconst (v := nI 4) X.1 X.2.1 dX8_doHail_2 (by decide) ?_
  refine lv_aload_n X.1 X.2.1 dX8_doHail_3 rfl (lv_at hl 0 rfl) ?_
  refine x_get X hK hw (C := RX8) (T := TX8) (nf := 12) (k := o) (by omega) hF.1 rfl inX8 0 (by decide) q868 (fun _ h9 => h9) rfl dX8_doHail_4 ?_
  refine lv_iconst (v := nI 3) X.1 X.2.1 dX8_doHail_7 (by decide) ?_
  refine x_ialdN X hK hw (k := (o + 1)) (by omega) hF.2.1 (i := nI 3) (j := 3) rfl (by omega) (by omega) dX8_doHail_8 ?_
  refine x_top (y := nI np) h3 ?_
  refine lv_imul X.1 X.2.1 dX8_doHail_9 ?_
  refine x_top (pk_mul _ _) ?_
  refine lv_iadd X.1 X.2.1 dX8_doHail_10 ?_
  refine x_top (nI_add _ _) ?_
  refine lv_istore_n (lv' := [(3, .int (nI (40 + (4 * np)))), (0, .ref (ad o)), (1, .int x), (2, .int y)]) X.1 X.2.1 dX8_doHail_11 rfl hl (by decide) rfl (fun ls hl => ?_)
  refine lv_aload_n X.1 X.2.1 dX8_doHail_12 rfl (lv_at hl 1 rfl) ?_
  refine x_get X hK hw (C := RX8) (T := TX8) (nf := 12) (k := o) (by omega) hF.1 rfl inX8 0 (by decide) q868 (fun _ h9 => h9) rfl dX8_doHail_13 ?_
  refine lv_iload_n X.1 X.2.1 dX8_doHail_16 rfl (lv_at hl 0 rfl) ?_
  refine lv_iconst (v := nI 0) X.1 X.2.1 dX8_doHail_17 (by decide) ?_
  refine lv_iadd X.1 X.2.1 dX8_doHail_18 ?_
  refine x_top (nI_add _ _) ?_
  refine lv_iload_n X.1 X.2.1 dX8_doHail_19 rfl (lv_at hl 2 rfl) ?_
  refine x_iastN2 X hI hK hw (k := (o + 1)) (by omega) hF.2.1 (i := nI ((40 + (4 * np)) + 0)) (j := (40 + (4 * np)) + 0) rfl (by omega) (by omega) dX8_doHail_20 (fun F1 H locs eF2 hw => ?_)
  have hF3 := MoF.st0 hF eF2
  have hr4 := fr_eq eF2 (Nat.le_refl _) (Nat.lt_succ_self _)
  replace hfr := hfr.tr hr4 (by omega) (by omega)
  refine lv_aload_n X.1 X.2.1 dX8_doHail_21 rfl (lv_at hl 1 rfl) ?_
  refine x_get X hK hw (C := RX8) (T := TX8) (nf := 12) (k := o) (by omega) hF3.1 rfl inX8 0 (by decide) q868 (fun _ h9 => h9) rfl dX8_doHail_22 ?_
  refine lv_iload_n X.1 X.2.1 dX8_doHail_25 rfl (lv_at hl 0 rfl) ?_
  refine lv_iconst (v := nI 1) X.1 X.2.1 dX8_doHail_26 (by decide) ?_
  refine lv_iadd X.1 X.2.1 dX8_doHail_27 ?_
  refine x_top (nI_add _ _) ?_
  refine lv_iload_n X.1 X.2.1 dX8_doHail_28 rfl (lv_at hl 3 rfl) ?_
  refine x_iastN2 X hI hK hw (k := (o + 1)) (by omega) hF3.2.1 (i := nI ((40 + (4 * np)) + 1)) (j := (40 + (4 * np)) + 1) rfl (by omega) (by omega) dX8_doHail_29 (fun F5 H locs eF6 hw => ?_)
  have hF7 := MoF.st0 hF3 eF6
  have hr8 := fr_eq eF6 (Nat.le_refl _) (Nat.lt_succ_self _)
  replace hfr := hfr.tr hr8 (by omega) (by omega)
  refine lv_aload_n X.1 X.2.1 dX8_doHail_30 rfl (lv_at hl 1 rfl) ?_
  refine x_get X hK hw (C := RX8) (T := TX8) (nf := 12) (k := o) (by omega) hF7.1 rfl inX8 0 (by decide) q868 (fun _ h9 => h9) rfl dX8_doHail_31 ?_
  refine lv_iload_n X.1 X.2.1 dX8_doHail_34 rfl (lv_at hl 0 rfl) ?_
  refine lv_iconst (v := nI 2) X.1 X.2.1 dX8_doHail_35 (by decide) ?_
  refine lv_iadd X.1 X.2.1 dX8_doHail_36 ?_
  refine x_top (nI_add _ _) ?_
  refine lv_aload_n X.1 X.2.1 dX8_doHail_37 rfl (lv_at hl 1 rfl) ?_
  refine x_get X hK hw (C := RX8) (T := TX8) (nf := 12) (k := o) (by omega) hF7.1 rfl inX8 0 (by decide) q868 (fun _ h9 => h9) rfl dX8_doHail_38 ?_
  refine lv_iconst (v := nI 0) X.1 X.2.1 dX8_doHail_41 (by decide) ?_
  refine x_ialdN X hK hw (k := (o + 1)) (by omega) hF7.2.1 (i := nI 0) (j := 0) rfl (by omega) (by omega) dX8_doHail_42 ?_
  refine x_iastN2 X hI hK hw (k := (o + 1)) (by omega) hF7.2.1 (i := nI ((40 + (4 * np)) + 2)) (j := (40 + (4 * np)) + 2) rfl (by omega) (by omega) dX8_doHail_43 (fun F9 H locs eF10 hw => ?_)
  have hF11 := MoF.st0 hF7 eF10
  have hr12 := fr_eq eF10 (Nat.le_refl _) (Nat.lt_succ_self _)
  replace hfr := hfr.tr hr12 (by omega) (by omega)
  refine lv_aload_n X.1 X.2.1 dX8_doHail_44 rfl (lv_at hl 1 rfl) ?_
  refine x_get X hK hw (C := RX8) (T := TX8) (nf := 12) (k := o) (by omega) hF11.1 rfl inX8 0 (by decide) q868 (fun _ h9 => h9) rfl dX8_doHail_45 ?_
  refine lv_iload_n X.1 X.2.1 dX8_doHail_48 rfl (lv_at hl 0 rfl) ?_
  refine lv_iconst (v := nI 3) X.1 X.2.1 dX8_doHail_49 (by decide) ?_
  refine lv_iadd X.1 X.2.1 dX8_doHail_50 ?_
  refine x_top (nI_add _ _) ?_
  refine lv_iconst (v := nI 0) X.1 X.2.1 dX8_doHail_51 (by decide) ?_
  refine x_iastN2 X hI hK hw (k := (o + 1)) (by omega) hF11.2.1 (i := nI ((40 + (4 * np)) + 3)) (j := (40 + (4 * np)) + 3) rfl (by omega) (by omega) dX8_doHail_52 (fun F13 H locs eF14 hw => ?_)
  have hF15 := MoF.st0 hF11 eF14
  have hr16 := fr_eq eF14 (Nat.le_refl _) (Nat.lt_succ_self _)
  replace hfr := hfr.tr hr16 (by omega) (by omega)
  refine lv_aload_n X.1 X.2.1 dX8_doHail_53 rfl (lv_at hl 1 rfl) ?_
  refine x_get X hK hw (C := RX8) (T := TX8) (nf := 12) (k := o) (by omega) hF15.1 rfl inX8 0 (by decide) q868 (fun _ h9 => h9) rfl dX8_doHail_54 ?_
  refine lv_iconst (v := nI 3) X.1 X.2.1 dX8_doHail_57 (by decide) ?_
  refine lv_dup2_11 X.1 X.2.1 dX8_doHail_58 rfl rfl ?_
  refine x_ialdN X hK hw (k := (o + 1)) (by omega) hF15.2.1 (i := nI 3) (j := 3) rfl (by omega) (by omega) dX8_doHail_59 ?_
  refine lv_iconst (v := nI 1) X.1 X.2.1 dX8_doHail_60 (by decide) ?_
  refine lv_iadd X.1 X.2.1 dX8_doHail_61 ?_
  refine x_iastN2 X hI hK hw (k := (o + 1)) (by omega) hF15.2.1 (i := nI 3) (j := 3) rfl (by omega) (by omega) dX8_doHail_62 (fun F17 H locs eF18 hw => ?_)
  have hF19 := MoF.st0 hF15 eF18
  have hr20 := fr_eq eF18 (Nat.le_refl _) (Nat.lt_succ_self _)
  replace hfr := hfr.tr hr20 (by omega) (by omega)
  refine lv_aload_n X.1 X.2.1 dX8_doHail_63 rfl (lv_at hl 1 rfl) ?_
  refine x_get X hK hw (C := RX8) (T := TX8) (nf := 12) (k := o) (by omega) hF19.1 rfl inX8 0 (by decide) q868 (fun _ h9 => h9) rfl dX8_doHail_64 ?_
  refine lv_iconst (v := nI 3) X.1 X.2.1 dX8_doHail_67 (by decide) ?_
  refine x_ialdN X hK hw (k := (o + 1)) (by omega) hF19.2.1 (i := nI 3) (j := 3) rfl (by omega) (by omega) dX8_doHail_68 ?_
  refine lv_iconst (v := nI 1) X.1 X.2.1 dX8_doHail_69 (by decide) ?_
  refine lv_isub X.1 X.2.1 dX8_doHail_70 ?_
  exact x_iret X hr hlk hK hw (v := ((upd ((upd ((upd ((upd ((upd a ((40 + (4 * np)) + 0) x)) ((40 + (4 * np)) + 1) y)) ((40 + (4 * np)) + 2) ((upd ((upd a ((40 + (4 * np)) + 0) x)) ((40 + (4 * np)) + 1) y) 0))) ((40 + (4 * np)) + 3) (nI 0))) 3 (((upd ((upd ((upd ((upd a ((40 + (4 * np)) + 0) x)) ((40 + (4 * np)) + 1) y)) ((40 + (4 * np)) + 2) ((upd ((upd a ((40 + (4 * np)) + 0) x)) ((40 + (4 * np)) + 1) y) 0))) ((40 + (4 * np)) + 3) (nI 0)) 3) + (nI 1))) 3) - (nI 1)) rfl (auto_mo (by rfl : s_X8_doHail a h sn tx k x y np = (((upd ((upd ((upd ((upd ((upd a ((40 + (4 * np)) + 0) x)) ((40 + (4 * np)) + 1) y)) ((40 + (4 * np)) + 2) ((upd ((upd a ((40 + (4 * np)) + 0) x)) ((40 + (4 * np)) + 1) y) 0))) ((40 + (4 * np)) + 3) (nI 0))) 3 (((upd ((upd ((upd ((upd a ((40 + (4 * np)) + 0) x)) ((40 + (4 * np)) + 1) y)) ((40 + (4 * np)) + 2) ((upd ((upd a ((40 + (4 * np)) + 0) x)) ((40 + (4 * np)) + 1) y) 0))) ((40 + (4 * np)) + 3) (nI 0)) 3) + (nI 1))) 3) - (nI 1), (upd ((upd ((upd ((upd ((upd a ((40 + (4 * np)) + 0) x)) ((40 + (4 * np)) + 1) y)) ((40 + (4 * np)) + 2) ((upd ((upd a ((40 + (4 * np)) + 0) x)) ((40 + (4 * np)) + 1) y) 0))) ((40 + (4 * np)) + 3) (nI 0))) 3 (((upd ((upd ((upd ((upd a ((40 + (4 * np)) + 0) x)) ((40 + (4 * np)) + 1) y)) ((40 + (4 * np)) + 2) ((upd ((upd a ((40 + (4 * np)) + 0) x)) ((40 + (4 * np)) + 1) y) 0))) ((40 + (4 * np)) + 3) (nI 0)) 3) + (nI 1))), h, sn, tx, k)) hF19 hfr) dX8_doHail_71
