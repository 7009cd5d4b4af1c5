-- protests
theorem hd_X8_isProtest : yX8_isProtest.cls = RX8 ∧ yX8_isProtest.cls ≠ "java/lang/invoke/MethodHandle" ∧ yX8_isProtest.cls ≠ "java/lang/invoke/VarHandle" ∧ (parseMethodDescriptor yX8_isProtest.desc).map (fun d => d.parameters.length) = some 1 := by decide +kernel
theorem hd_X8_ofProtest : yX8_ofProtest.cls = RX8 ∧ yX8_ofProtest.cls ≠ "java/lang/invoke/MethodHandle" ∧ yX8_ofProtest.cls ≠ "java/lang/invoke/VarHandle" ∧ (parseMethodDescriptor yX8_ofProtest.desc).map (fun d => d.parameters.length) = some 2 := by decide +kernel
theorem hd_X8_stage : yX8_stage.cls = RX8 ∧ yX8_stage.cls ≠ "java/lang/invoke/MethodHandle" ∧ yX8_stage.cls ≠ "java/lang/invoke/VarHandle" ∧ (parseMethodDescriptor yX8_stage.desc).map (fun d => d.parameters.length) = some 2 := by decide +kernel
def s_X8_file (a : Nat → Int32) (h : Nat → Int32) (sn : Nat → Int32) (tx : Nat → Int32) (k : Nat → Int32) (x : Int32) (nr : Nat) (kp : Nat) : Int32 × (Nat → Int32) × (Nat → Int32) × (Nat → Int32) × (Nat → Int32) × (Nat → Int32) := (if ¬ x < nI 0 ∧ ¬ a 3 - nI 1 < x then (if (m_p a x.toNatClampNeg 3) = 0 then (if (m_e a (nr - 1) ((m_p a x.toNatClampNeg 0).toNatClampNeg) 0) = (nI 3) then (if 0 ≤ (((m_e a (nr - 1) ((m_p a x.toNatClampNeg 0).toNatClampNeg) 5) + (a 4)) - (a 0)) then (((m_e a (nr - 1) ((m_p a x.toNatClampNeg 0).toNatClampNeg) 5) + (a 4)) - (a 0), (sgp a x.toNatClampNeg (nI 1)), (((m_hn a h kp))), sn, tx, (((va_up k 0 (nI (m_kn kp)))))) else ((-4), a, h, sn, tx, k)) else ((-4), a, h, sn, tx, k)) else ((-4), a, h, sn, tx, k)) else ((-1), a, h, sn, tx, k))
set_option maxHeartbeats 4000000 in
set_option maxRecDepth 100000 in
theorem k_X8_file {l : Launch} {D : va_G} {cI cB cS : ClassId} {ad : Nat → Nat} {N : Nat} {F : Nat → va_E} (hI : iN ad N) (o : Nat) (a : Nat → Int32) (h : Nat → Int32) (sn : Nat → Int32) (tx : Nat → Int32) (k : Nat → Int32) (x : Int32) (nb : Nat) (nr : Nat) (np : Nat) (kp : Nat) (hc5 : o + 5 ≤ N) (hF : MoF ad cI F o a h sn tx k) (h1 : a 1 = nI nb) (hb9 : nb ≤ 9) (h2 : a 2 = nI nr) (hr6 : nr ≤ 6) (h3 : a 3 = nI np) (hp10 : np ≤ 10) (hpr : 0 < np → 0 < nr) (hpb : ∀ u, u < np → (m_p a u 0).toNatClampNeg < nb ∧ m_p a u 0 = nI (m_p a u 0).toNatClampNeg) (hk0 : k 0 = nI kp) (hk4 : kp ≤ 4) : Ci l D cI cB cS ad N yX8_file cX8_file 4 (some .int) 2 45 [.ref (ad o), .int x] F (fun r F' => r = (s_X8_file a h sn tx k x nr kp).1 ∧ MoF ad cI F' o ((s_X8_file a h sn tx k x nr kp).2.1) ((s_X8_file a h sn tx k x nr kp).2.2.1) ((s_X8_file a h sn tx k x nr kp).2.2.2.1) ((s_X8_file a h sn tx k x nr kp).2.2.2.2.1) ((s_X8_file a h sn tx k x nr kp).2.2.2.2.2) ∧ Fr F F' o (o + 5)) := by
  refine x_met (by decide +kernel) (Nat.le_of_ble_eq_true rfl) ?_
  intro p e s m below meth c X hr hlk hK hw ls hl
  replace hl : lv_has ls 4 [(0, .ref (ad o)), (1, .int x)] := hl
  have hfr : Fr F F (o) (o + 5) := Fr.rf
  refine lv_aload_n X.1 X.2.1 dX8_file_0 rfl (lv_at hl 0 rfl) ?_
  refine lv_iload_n X.1 X.2.1 dX8_file_1 rfl (lv_at hl 1 rfl) ?_
  refine x_callVP X hK hw (k := o) (As := [.int x]) (rest := []) (k_X8_isProtest hI o a h sn tx k x (by omega) hF) (x_cwV yX8_isProtest cX8_isProtest 2 (some .boolean) 1 X q1048 q1050 qs40 q14 q1051 hd_X8_isProtest ⟨Nat.le_of_ble_eq_true rfl, Nat.le_of_ble_eq_true rfl⟩) (by omega) hF.1 rfl rfl hl.1 rfl (Nat.le_of_ble_eq_true rfl) dX8_file_2 ⟨Nat.le_of_ble_eq_true rfl, Nat.le_of_ble_eq_true rfl⟩ (fun H locs hw => ?_)
  refine lv_if_ne (tgt := 10) X.1 X.2.1 dX8_file_5 (by decide) (fun c1 => ?_) (fun c1 => ?_)
  · replace c1 := bI_nz c1
    have ⟨hj2, hx3⟩ := isb_of (n := np) c1 h3 (by omega)
    have hn := hpr (by omega)
    rw [hx3] at hl
    replace hl : lv_has ls 4 [(0, .ref (ad o)), (1, .int (nI x.toNatClampNeg))] := hl
    have hbt := (hpb _ hj2).1
    refine lv_aload_n X.1 X.2.1 dX8_file_10 rfl (lv_at hl 0 rfl) ?_
    refine lv_iload_n X.1 X.2.1 dX8_file_11 rfl (lv_at hl 1 rfl) ?_
    refine lv_iconst (v := nI 0) X.1 X.2.1 dX8_file_12 (by decide) ?_
    refine x_callVP X hK hw (k := o) (As := [.int (nI x.toNatClampNeg), .int (nI 0)]) (rest := []) (k_X8_ofProtest hI o a h sn tx k x.toNatClampNeg 0 (by omega) hF (by omega)) (x_cwV yX8_ofProtest cX8_ofProtest 3 (some .int) 2 X q1052 q1054 qs41 q14 q1055 hd_X8_ofProtest ⟨Nat.le_of_ble_eq_true rfl, Nat.le_of_ble_eq_true rfl⟩) (by omega) hF.1 rfl rfl hl.1 rfl (Nat.le_of_ble_eq_true rfl) dX8_file_13 ⟨Nat.le_of_ble_eq_true rfl, Nat.le_of_ble_eq_true rfl⟩ (fun H locs hw => ?_)
    refine x_top (y := nI ((m_p a x.toNatClampNeg 0).toNatClampNeg)) (hpb _ hj2).2 ?_
    refine lv_istore_n (lv' := [(2, .int (nI ((m_p a x.toNatClampNeg 0).toNatClampNeg))), (0, .ref (ad o)), (1, .int (nI x.toNatClampNeg))]) X.1 X.2.1 dX8_file_16 rfl hl (by decide) rfl (fun ls hl => ?_)
    refine lv_aload_n X.1 X.2.1 dX8_file_17 rfl (lv_at hl 1 rfl) ?_
    refine lv_aload_n X.1 X.2.1 dX8_file_18 rfl (lv_at hl 1 rfl) ?_
    refine x_callVP X hK hw (k := o) (As := []) (rest := [.ref (ad o)]) (k_X8_latest hI o a h sn tx k nr (by omega) hF h2 (by omega) hn) (x_cwV yX8_latest cX8_latest 1 (some .int) 0 X q927 q929 qs19 q14 q930 hd_X8_latest ⟨Nat.le_of_ble_eq_true rfl, Nat.le_of_ble_eq_true rfl⟩) (by omega) hF.1 rfl rfl hl.1 rfl (Nat.le_of_ble_eq_true rfl) dX8_file_19 ⟨Nat.le_of_ble_eq_true rfl, Nat.le_of_ble_eq_true rfl⟩ (fun H locs hw => ?_)
    refine lv_iload_n X.1 X.2.1 dX8_file_22 rfl (lv_at hl 0 rfl) ?_
    refine lv_iconst (v := nI 5) X.1 X.2.1 dX8_file_23 (by decide) ?_
    refine x_callVP X hK hw (k := o) (As := [.int (nI (nr - 1)), .int (nI ((m_p a x.toNatClampNeg 0).toNatClampNeg)), .int (nI 5)]) (rest := []) (k_X8_of hI o a h sn tx k (nr - 1) ((m_p a x.toNatClampNeg 0).toNatClampNeg) 5 (by omega) hF (by omega)) (x_cwV yX8_of cX8_of 4 (some .int) 3 X q984 q986 qs29 q14 q987 hd_X8_of ⟨Nat.le_of_ble_eq_true rfl, Nat.le_of_ble_eq_true rfl⟩) (by omega) hF.1 rfl rfl hl.1 rfl (Nat.le_of_ble_eq_true rfl) dX8_file_24 ⟨Nat.le_of_ble_eq_true rfl, Nat.le_of_ble_eq_true rfl⟩ (fun H locs hw => ?_)
    refine lv_aload_n X.1 X.2.1 dX8_file_27 rfl (lv_at hl 1 rfl) ?_
    refine x_get X hK hw (C := RX8) (T := TX8) (nf := 12) (k := o) (by omega) hF.1 rfl inX8 0 (by decide) q868 (fun _ h9 => h9) rfl dX8_file_28 ?_
    refine lv_iconst (v := nI 4) X.1 X.2.1 dX8_file_31 (by decide) ?_
    refine x_ialdN X hK hw (k := (o + 1)) (by omega) hF.2.1 (i := nI 4) (j := 4) rfl (by omega) (by omega) dX8_file_32 ?_
    refine lv_iadd X.1 X.2.1 dX8_file_33 ?_
    refine lv_aload_n X.1 X.2.1 dX8_file_34 rfl (lv_at hl 1 rfl) ?_
    refine x_get X hK hw (C := RX8) (T := TX8) (nf := 12) (k := o) (by omega) hF.1 rfl inX8 0 (by decide) q868 (fun _ h9 => h9) rfl dX8_file_35 ?_
    refine lv_iconst (v := nI 0) X.1 X.2.1 dX8_file_38 (by decide) ?_
    refine x_ialdN X hK hw (k := (o + 1)) (by omega) hF.2.1 (i := nI 0) (j := 0) rfl (by omega) (by omega) dX8_file_39 ?_
    refine lv_isub X.1 X.2.1 dX8_file_40 ?_
    refine lv_istore_n (lv' := [(3, .int (((m_e a (nr - 1) ((m_p a x.toNatClampNeg 0).toNatClampNeg) 5) + (a 4)) - (a 0))), (2, .int (nI ((m_p a x.toNatClampNeg 0).toNatClampNeg))), (0, .ref (ad o)), (1, .int (nI x.toNatClampNeg))]) X.1 X.2.1 dX8_file_41 rfl hl (by decide) rfl (fun ls hl => ?_)
    refine lv_aload_n X.1 X.2.1 dX8_file_42 rfl (lv_at hl 2 rfl) ?_
    refine lv_iload_n X.1 X.2.1 dX8_file_43 rfl (lv_at hl 3 rfl) ?_
    refine lv_iconst (v := nI 3) X.1 X.2.1 dX8_file_44 (by decide) ?_
    refine x_callVP X hK hw (k := o) (As := [.int (nI x.toNatClampNeg), .int (nI 3)]) (rest := []) (k_X8_ofProtest hI o a h sn tx k x.toNatClampNeg 3 (by omega) hF (by omega)) (x_cwV yX8_ofProtest cX8_ofProtest 3 (some .int) 2 X q1052 q1054 qs41 q14 q1055 hd_X8_ofProtest ⟨Nat.le_of_ble_eq_true rfl, Nat.le_of_ble_eq_true rfl⟩) (by omega) hF.1 rfl rfl hl.1 rfl (Nat.le_of_ble_eq_true rfl) dX8_file_45 ⟨Nat.le_of_ble_eq_true rfl, Nat.le_of_ble_eq_true rfl⟩ (fun H locs hw => ?_)
    refine lv_if_ne (tgt := 64) X.1 X.2.1 dX8_file_48 (by decide) (fun c4 => ?_) (fun c4 => ?_)
    · refine lv_bipush (v := (-4)) X.1 X.2.1 dX8_file_64 (by decide) ?_
      exact x_iret X hr hlk hK hw (v := (-4)) rfl (auto_mo (by rw [s_X8_file, if_pos c1, if_neg c4] : s_X8_file a h sn tx k x nr kp = ((-4), a, h, sn, tx, k)) hF hfr) dX8_file_66
    · refine lv_aload_n X.1 X.2.1 dX8_file_51 rfl (lv_at hl 2 rfl) ?_
      refine lv_iload_n X.1 X.2.1 dX8_file_52 rfl (lv_at hl 1 rfl) ?_
      refine x_callVP X hK hw (k := o) (As := [.int (nI ((m_p a x.toNatClampNeg 0).toNatClampNeg))]) (rest := []) (k_X8_status hI o a h sn tx k ((m_p a x.toNatClampNeg 0).toNatClampNeg) nr (by omega) hF h2 (by omega) hn (by omega)) (x_cwV yX8_status cX8_status 2 (some .int) 1 X q980 q982 qs28 q14 q983 hd_X8_status ⟨Nat.le_of_ble_eq_true rfl, Nat.le_of_ble_eq_true rfl⟩) (by omega) hF.1 rfl rfl hl.1 rfl (Nat.le_of_ble_eq_true rfl) dX8_file_53 ⟨Nat.le_of_ble_eq_true rfl, Nat.le_of_ble_eq_true rfl⟩ (fun H locs hw => ?_)
      refine lv_iconst (v := nI 3) X.1 X.2.1 dX8_file_56 (by decide) ?_
      refine lv_icmp_ne (tgt := 64) X.1 X.2.1 dX8_file_57 (by decide) (fun c5 => ?_) (fun c5 => ?_)
      · refine lv_bipush (v := (-4)) X.1 X.2.1 dX8_file_64 (by decide) ?_
        exact x_iret X hr hlk hK hw (v := (-4)) rfl (auto_mo (by rw [s_X8_file, if_pos c1, if_pos c4, if_neg c5] : s_X8_file a h sn tx k x nr kp = ((-4), a, h, sn, tx, k)) hF hfr) dX8_file_66
      · refine lv_iload_n X.1 X.2.1 dX8_file_60 rfl (lv_at hl 0 rfl) ?_
        refine lv_if_ge (tgt := 67) X.1 X.2.1 dX8_file_61 (by decide) (fun c6 => ?_) (fun c6 => ?_)
        · refine lv_aload_n X.1 X.2.1 dX8_file_67 rfl (lv_at hl 2 rfl) ?_
          refine x_callVv X hK hw (k := o) (As := []) (rest := []) (k_X8_record hI o a h sn tx k kp (by omega) hF hk0 (by omega)) (x_cwV yX8_record cX8_record 2 none 0 X q912 q914 qs17 q14 q915 hd_X8_record ⟨Nat.le_of_ble_eq_true rfl, Nat.le_of_ble_eq_true rfl⟩) (by omega) hF.1 rfl rfl hl.1 rfl (Nat.le_of_ble_eq_true rfl) dX8_file_68 ⟨Nat.le_of_ble_eq_true rfl, Nat.le_of_ble_eq_true rfl⟩ (fun F7 H locs hp hw => ?_)
          obtain ⟨hF8, hr9⟩ := hp
          replace hfr := hfr.tr hr9 (by omega) (by omega)
          refine lv_aload_n X.1 X.2.1 dX8_file_71 rfl (lv_at hl 2 rfl) ?_
          refine lv_iload_n X.1 X.2.1 dX8_file_72 rfl (lv_at hl 3 rfl) ?_
          refine lv_iconst (v := nI 1) X.1 X.2.1 dX8_file_73 (by decide) ?_
          refine x_callVv X hK hw (k := o) (As := [.int (nI x.toNatClampNeg), .int (nI 1)]) (rest := []) (k_X8_stage hI o a ((m_hn a h kp)) sn tx ((va_up k 0 (nI (m_kn kp)))) x.toNatClampNeg (nI 1) (by omega) hF8 (by omega)) (x_cwV yX8_stage cX8_stage 3 none 2 X q1056 q1058 qs42 q14 q1059 hd_X8_stage ⟨Nat.le_of_ble_eq_true rfl, Nat.le_of_ble_eq_true rfl⟩) (by omega) hF8.1 rfl rfl hl.1 rfl (Nat.le_of_ble_eq_true rfl) dX8_file_74 ⟨Nat.le_of_ble_eq_true rfl, Nat.le_of_ble_eq_true rfl⟩ (fun F10 H locs hp hw => ?_)
          obtain ⟨hF11, hr12⟩ := hp
          replace hfr := hfr.tr hr12 (by omega) (by omega)
          refine lv_iload_n X.1 X.2.1 dX8_file_77 rfl (lv_at hl 0 rfl) ?_
          exact x_iret X hr hlk hK hw (v := ((m_e a (nr - 1) ((m_p a x.toNatClampNeg 0).toNatClampNeg) 5) + (a 4)) - (a 0)) rfl (auto_mo (by rw [s_X8_file, if_pos c1, if_pos c4, if_pos c5, if_pos c6] : s_X8_file a h sn tx k x nr kp = (((m_e a (nr - 1) ((m_p a x.toNatClampNeg 0).toNatClampNeg) 5) + (a 4)) - (a 0), (sgp a x.toNatClampNeg (nI 1)), (((m_hn a h kp))), sn, tx, (((va_up k 0 (nI (m_kn kp))))))) hF11 hfr) dX8_file_78
        · refine lv_bipush (v := (-4)) X.1 X.2.1 dX8_file_64 (by decide) ?_
          exact x_iret X hr hlk hK hw (v := (-4)) rfl (auto_mo (by rw [s_X8_file, if_pos c1, if_pos c4, if_pos c5, if_neg c6] : s_X8_file a h sn tx k x nr kp = ((-4), a, h, sn, tx, k)) hF hfr) dX8_file_66
  · replace c1 := bI_z c1
    refine lv_iconst (v := (-1)) X.1 X.2.1 dX8_file_8 (by decide) ?_
    exact x_iret X hr hlk hK hw (v := (-1)) rfl (auto_mo (by rw [s_X8_file, if_neg c1] : s_X8_file a h sn tx k x nr kp = ((-1), a, h, sn, tx, k)) hF hfr) dX8_file_9
def s_X8_accept (a : Nat → Int32) (h : Nat → Int32) (sn : Nat → Int32) (tx : Nat → Int32) (k : Nat → Int32) (x : Int32) (nr : Nat) (kp : Nat) : Int32 × (Nat → Int32) × (Nat → Int32) × (Nat → Int32) × (Nat → Int32) × (Nat → Int32) := (if ¬ x < nI 0 ∧ ¬ a 3 - nI 1 < x then (if (nI 1) < (m_p a x.toNatClampNeg 3) then ((-4), a, h, sn, tx, k) else (if (m_e a (nr - 1) ((m_p a x.toNatClampNeg 1).toNatClampNeg) 0) = (nI 4) then ((-4), a, h, sn, tx, k) else ((m_e ((sgp a x.toNatClampNeg (nI 2))) (nr - 1) ((m_p a x.toNatClampNeg 1).toNatClampNeg) 3) + ((sgp a x.toNatClampNeg (nI 2)) 5), (ly ((sgp a x.toNatClampNeg (nI 2))) (nr - 1) ((m_p a x.toNatClampNeg 1).toNatClampNeg) 3 ((m_e ((sgp a x.toNatClampNeg (nI 2))) (nr - 1) ((m_p a x.toNatClampNeg 1).toNatClampNeg) 3) + ((sgp a x.toNatClampNeg (nI 2)) 5))), (((((m_hn a h kp))))), sn, tx, (((((va_up k 0 (nI (m_kn kp)))))))))) else ((-1), a, h, sn, tx, k))
set_option maxHeartbeats 4000000 in
set_option maxRecDepth 100000 in
theorem k_X8_accept {l : Launch} {D : va_G} {cI cB cS : ClassId} {ad : Nat → Nat} {N : Nat} {F : Nat → va_E} (hI : iN ad N) (o : Nat) (a : Nat → Int32) (h : Nat → Int32) (sn : Nat → Int32) (tx : Nat → Int32) (k : Nat → Int32) (x : Int32) (nb : Nat) (nr : Nat) (np : Nat) (kp : Nat) (hc5 : o + 5 ≤ N) (hF : MoF ad cI F o a h sn tx k) (h1 : a 1 = nI nb) (hb9 : nb ≤ 9) (h2 : a 2 = nI nr) (hr6 : nr ≤ 6) (h3 : a 3 = nI np) (hp10 : np ≤ 10) (hpr : 0 < np → 0 < nr) (hpb : ∀ u, u < np → (m_p a u 1).toNatClampNeg < nb ∧ m_p a u 1 = nI (m_p a u 1).toNatClampNeg) (hk0 : k 0 = nI kp) (hk4 : kp ≤ 4) : Ci l D cI cB cS ad N yX8_accept cX8_accept 4 (some .int) 2 45 [.ref (ad o), .int x] F (fun r F' => r = (s_X8_accept a h sn tx k x nr kp).1 ∧ MoF ad cI F' o ((s_X8_accept a h sn tx k x nr kp).2.1) ((s_X8_accept a h sn tx k x nr kp).2.2.1) ((s_X8_accept a h sn tx k x nr kp).2.2.2.1) ((s_X8_accept a h sn tx k x nr kp).2.2.2.2.1) ((s_X8_accept a h sn tx k x nr kp).2.2.2.2.2) ∧ Fr F F' o (o + 5)) := by
  refine x_met (by decide +kernel) (Nat.le_of_ble_eq_true rfl) ?_
  intro p e s m below meth c X hr hlk hK hw ls hl
  replace hl : lv_has ls 4 [(0, .ref (ad o)), (1, .int x)] := hl
  have hfr : Fr F F (o) (o + 5) := Fr.rf
  refine lv_aload_n X.1 X.2.1 dX8_accept_0 rfl (lv_at hl 0 rfl) ?_
  refine lv_iload_n X.1 X.2.1 dX8_accept_1 rfl (lv_at hl 1 rfl) ?_
  refine x_callVP X hK hw (k := o) (As := [.int x]) (rest := []) (k_X8_isProtest hI o a h sn tx k x (by omega) hF) (x_cwV yX8_isProtest cX8_isProtest 2 (some .boolean) 1 X q1048 q1050 qs40 q14 q1051 hd_X8_isProtest ⟨Nat.le_of_ble_eq_true rfl, Nat.le_of_ble_eq_true rfl⟩) (by omega) hF.1 rfl rfl hl.1 rfl (Nat.le_of_ble_eq_true rfl) dX8_accept_2 ⟨Nat.le_of_ble_eq_true rfl, Nat.le_of_ble_eq_true rfl⟩ (fun H locs hw => ?_)
  refine lv_if_ne (tgt := 10) X.1 X.2.1 dX8_accept_5 (by decide) (fun c1 => ?_) (fun c1 => ?_)
  · replace c1 := bI_nz c1
    have ⟨hj2, hx3⟩ := isb_of (n := np) c1 h3 (by omega)
    have hn := hpr (by omega)
    rw [hx3] at hl
    replace hl : lv_has ls 4 [(0, .ref (ad o)), (1, .int (nI x.toNatClampNeg))] := hl
    have hbt := (hpb _ hj2).1
    refine lv_aload_n X.1 X.2.1 dX8_accept_10 rfl (lv_at hl 0 rfl) ?_
    refine lv_iload_n X.1 X.2.1 dX8_accept_11 rfl (lv_at hl 1 rfl) ?_
    refine lv_iconst (v := nI 1) X.1 X.2.1 dX8_accept_12 (by decide) ?_
    refine x_callVP X hK hw (k := o) (As := [.int (nI x.toNatClampNeg), .int (nI 1)]) (rest := []) (k_X8_ofProtest hI o a h sn tx k x.toNatClampNeg 1 (by omega) hF (by omega)) (x_cwV yX8_ofProtest cX8_ofProtest 3 (some .int) 2 X q1052 q1054 qs41 q14 q1055 hd_X8_ofProtest ⟨Nat.le_of_ble_eq_true rfl, Nat.le_of_ble_eq_true rfl⟩) (by omega) hF.1 rfl rfl hl.1 rfl (Nat.le_of_ble_eq_true rfl) dX8_accept_13 ⟨Nat.le_of_ble_eq_true rfl, Nat.le_of_ble_eq_true rfl⟩ (fun H locs hw => ?_)
    refine x_top (y := nI ((m_p a x.toNatClampNeg 1).toNatClampNeg)) (hpb _ hj2).2 ?_
    refine lv_istore_n (lv' := [(2, .int (nI ((m_p a x.toNatClampNeg 1).toNatClampNeg))), (0, .ref (ad o)), (1, .int (nI x.toNatClampNeg))]) X.1 X.2.1 dX8_accept_16 rfl hl (by decide) rfl (fun ls hl => ?_)
    refine lv_aload_n X.1 X.2.1 dX8_accept_17 rfl (lv_at hl 1 rfl) ?_
    refine lv_iload_n X.1 X.2.1 dX8_accept_18 rfl (lv_at hl 2 rfl) ?_
    refine lv_iconst (v := nI 3) X.1 X.2.1 dX8_accept_19 (by decide) ?_
    refine x_callVP X hK hw (k := o) (As := [.int (nI x.toNatClampNeg), .int (nI 3)]) (rest := []) (k_X8_ofProtest hI o a h sn tx k x.toNatClampNeg 3 (by omega) hF (by omega)) (x_cwV yX8_ofProtest cX8_ofProtest 3 (some .int) 2 X q1052 q1054 qs41 q14 q1055 hd_X8_ofProtest ⟨Nat.le_of_ble_eq_true rfl, Nat.le_of_ble_eq_true rfl⟩) (by omega) hF.1 rfl rfl hl.1 rfl (Nat.le_of_ble_eq_true rfl) dX8_accept_20 ⟨Nat.le_of_ble_eq_true rfl, Nat.le_of_ble_eq_true rfl⟩ (fun H locs hw => ?_)
    refine lv_iconst (v := nI 1) X.1 X.2.1 dX8_accept_23 (by decide) ?_
    refine lv_icmp_gt (tgt := 36) X.1 X.2.1 dX8_accept_24 (by decide) (fun c4 => ?_) (fun c4 => ?_)
    · refine lv_bipush (v := (-4)) X.1 X.2.1 dX8_accept_36 (by decide) ?_
      exact x_iret X hr hlk hK hw (v := (-4)) rfl (auto_mo (by rw [s_X8_accept, if_pos c1, if_pos c4] : s_X8_accept a h sn tx k x nr kp = ((-4), a, h, sn, tx, k)) hF hfr) dX8_accept_38
    · refine lv_aload_n X.1 X.2.1 dX8_accept_27 rfl (lv_at hl 1 rfl) ?_
      refine lv_iload_n X.1 X.2.1 dX8_accept_28 rfl (lv_at hl 0 rfl) ?_
      refine x_callVP X hK hw (k := o) (As := [.int (nI ((m_p a x.toNatClampNeg 1).toNatClampNeg))]) (rest := []) (k_X8_status hI o a h sn tx k ((m_p a x.toNatClampNeg 1).toNatClampNeg) nr (by omega) hF h2 (by omega) hn (by omega)) (x_cwV yX8_status cX8_status 2 (some .int) 1 X q980 q982 qs28 q14 q983 hd_X8_status ⟨Nat.le_of_ble_eq_true rfl, Nat.le_of_ble_eq_true rfl⟩) (by omega) hF.1 rfl rfl hl.1 rfl (Nat.le_of_ble_eq_true rfl) dX8_accept_29 ⟨Nat.le_of_ble_eq_true rfl, Nat.le_of_ble_eq_true rfl⟩ (fun H locs hw => ?_)
      refine lv_iconst (v := nI 4) X.1 X.2.1 dX8_accept_32 (by decide) ?_
      refine lv_icmp_ne (tgt := 39) X.1 X.2.1 dX8_accept_33 (by decide) (fun c5 => ?_) (fun c5 => ?_)
      · refine lv_aload_n X.1 X.2.1 dX8_accept_39 rfl (lv_at hl 1 rfl) ?_
        refine x_callVv X hK hw (k := o) (As := []) (rest := []) (k_X8_record hI o a h sn tx k kp (by omega) hF hk0 (by omega)) (x_cwV yX8_record cX8_record 2 none 0 X q912 q914 qs17 q14 q915 hd_X8_record ⟨Nat.le_of_ble_eq_true rfl, Nat.le_of_ble_eq_true rfl⟩) (by omega) hF.1 rfl rfl hl.1 rfl (Nat.le_of_ble_eq_true rfl) dX8_accept_40 ⟨Nat.le_of_ble_eq_true rfl, Nat.le_of_ble_eq_true rfl⟩ (fun F6 H locs hp hw => ?_)
        obtain ⟨hF7, hr8⟩ := hp
        replace hfr := hfr.tr hr8 (by omega) (by omega)
        refine lv_aload_n X.1 X.2.1 dX8_accept_43 rfl (lv_at hl 1 rfl) ?_
        refine lv_iload_n X.1 X.2.1 dX8_accept_44 rfl (lv_at hl 2 rfl) ?_
        refine lv_iconst (v := nI 2) X.1 X.2.1 dX8_accept_45 (by decide) ?_
        refine x_callVv X hK hw (k := o) (As := [.int (nI x.toNatClampNeg), .int (nI 2)]) (rest := []) (k_X8_stage hI o a ((m_hn a h kp)) sn tx ((va_up k 0 (nI (m_kn kp)))) x.toNatClampNeg (nI 2) (by omega) hF7 (by omega)) (x_cwV yX8_stage cX8_stage 3 none 2 X q1056 q1058 qs42 q14 q1059 hd_X8_stage ⟨Nat.le_of_ble_eq_true rfl, Nat.le_of_ble_eq_true rfl⟩) (by omega) hF7.1 rfl rfl hl.1 rfl (Nat.le_of_ble_eq_true rfl) dX8_accept_46 ⟨Nat.le_of_ble_eq_true rfl, Nat.le_of_ble_eq_true rfl⟩ (fun F9 H locs hp hw => ?_)
        obtain ⟨hF10, hr11⟩ := hp
        replace hfr := hfr.tr hr11 (by omega) (by omega)
        refine lv_aload_n X.1 X.2.1 dX8_accept_49 rfl (lv_at hl 1 rfl) ?_
        refine lv_aload_n X.1 X.2.1 dX8_accept_50 rfl (lv_at hl 1 rfl) ?_
        refine x_callVP X hK hw (k := o) (As := []) (rest := [.ref (ad o)]) (k_X8_latest hI o ((sgp a x.toNatClampNeg (nI 2))) ((((m_hn a h kp)))) sn tx ((((va_up k 0 (nI (m_kn kp)))))) nr (by omega) hF10 ((sgp_lo (by omega)).trans h2) (by omega) hn) (x_cwV yX8_latest cX8_latest 1 (some .int) 0 X q927 q929 qs19 q14 q930 hd_X8_latest ⟨Nat.le_of_ble_eq_true rfl, Nat.le_of_ble_eq_true rfl⟩) (by omega) hF10.1 rfl rfl hl.1 rfl (Nat.le_of_ble_eq_true rfl) dX8_accept_51 ⟨Nat.le_of_ble_eq_true rfl, Nat.le_of_ble_eq_true rfl⟩ (fun H locs hw => ?_)
        refine lv_iload_n X.1 X.2.1 dX8_accept_54 rfl (lv_at hl 0 rfl) ?_
        refine lv_iconst (v := nI 3) X.1 X.2.1 dX8_accept_55 (by decide) ?_
        refine x_callVP X hK hw (k := o) (As := [.int (nI (nr - 1)), .int (nI ((m_p a x.toNatClampNeg 1).toNatClampNeg)), .int (nI 3)]) (rest := []) (k_X8_of hI o ((sgp a x.toNatClampNeg (nI 2))) ((((m_hn a h kp)))) sn tx ((((va_up k 0 (nI (m_kn kp)))))) (nr - 1) ((m_p a x.toNatClampNeg 1).toNatClampNeg) 3 (by omega) hF10 (by omega)) (x_cwV yX8_of cX8_of 4 (some .int) 3 X q984 q986 qs29 q14 q987 hd_X8_of ⟨Nat.le_of_ble_eq_true rfl, Nat.le_of_ble_eq_true rfl⟩) (by omega) hF10.1 rfl rfl hl.1 rfl (Nat.le_of_ble_eq_true rfl) dX8_accept_56 ⟨Nat.le_of_ble_eq_true rfl, Nat.le_of_ble_eq_true rfl⟩ (fun H locs hw => ?_)
        refine lv_aload_n X.1 X.2.1 dX8_accept_59 rfl (lv_at hl 1 rfl) ?_
        refine x_get X hK hw (C := RX8) (T := TX8) (nf := 12) (k := o) (by omega) hF10.1 rfl inX8 0 (by decide) q868 (fun _ h9 => h9) rfl dX8_accept_60 ?_
        refine lv_iconst (v := nI 5) X.1 X.2.1 dX8_accept_63 (by decide) ?_
        refine x_ialdN X hK hw (k := (o + 1)) (by omega) hF10.2.1 (i := nI 5) (j := 5) rfl (by omega) (by omega) dX8_accept_64 ?_
        refine lv_iadd X.1 X.2.1 dX8_accept_65 ?_
        refine lv_istore_n (lv' := [(3, .int ((m_e ((sgp a x.toNatClampNeg (nI 2))) (nr - 1) ((m_p a x.toNatClampNeg 1).toNatClampNeg) 3) + ((sgp a x.toNatClampNeg (nI 2)) 5))), (2, .int (nI ((m_p a x.toNatClampNeg 1).toNatClampNeg))), (0, .ref (ad o)), (1, .int (nI x.toNatClampNeg))]) X.1 X.2.1 dX8_accept_66 rfl hl (by decide) rfl (fun ls hl => ?_)
        refine lv_aload_n X.1 X.2.1 dX8_accept_67 rfl (lv_at hl 2 rfl) ?_
        refine lv_aload_n X.1 X.2.1 dX8_accept_68 rfl (lv_at hl 2 rfl) ?_
        refine x_callVP X hK hw (k := o) (As := []) (rest := [.ref (ad o)]) (k_X8_latest hI o ((sgp a x.toNatClampNeg (nI 2))) ((((m_hn a h kp)))) sn tx ((((va_up k 0 (nI (m_kn kp)))))) nr (by omega) hF10 ((sgp_lo (by omega)).trans h2) (by omega) hn) (x_cwV yX8_latest cX8_latest 1 (some .int) 0 X q927 q929 qs19 q14 q930 hd_X8_latest ⟨Nat.le_of_ble_eq_true rfl, Nat.le_of_ble_eq_true rfl⟩) (by omega) hF10.1 rfl rfl hl.1 rfl (Nat.le_of_ble_eq_true rfl) dX8_accept_69 ⟨Nat.le_of_ble_eq_true rfl, Nat.le_of_ble_eq_true rfl⟩ (fun H locs hw => ?_)
        refine lv_iload_n X.1 X.2.1 dX8_accept_72 rfl (lv_at hl 1 rfl) ?_
        refine lv_iconst (v := nI 3) X.1 X.2.1 dX8_accept_73 (by decide) ?_
        refine lv_iload_n X.1 X.2.1 dX8_accept_74 rfl (lv_at hl 0 rfl) ?_
        refine x_callVv X hK hw (k := o) (As := [.int (nI (nr - 1)), .int (nI ((m_p a x.toNatClampNeg 1).toNatClampNeg)), .int (nI 3), .int ((m_e ((sgp a x.toNatClampNeg (nI 2))) (nr - 1) ((m_p a x.toNatClampNeg 1).toNatClampNeg) 3) + ((sgp a x.toNatClampNeg (nI 2)) 5))]) (rest := []) (k_X8_lay hI o ((sgp a x.toNatClampNeg (nI 2))) ((((m_hn a h kp)))) sn tx ((((va_up k 0 (nI (m_kn kp)))))) (nr - 1) ((m_p a x.toNatClampNeg 1).toNatClampNeg) 3 ((m_e ((sgp a x.toNatClampNeg (nI 2))) (nr - 1) ((m_p a x.toNatClampNeg 1).toNatClampNeg) 3) + ((sgp a x.toNatClampNeg (nI 2)) 5)) (by omega) hF10 (by omega)) (x_cwV yX8_lay cX8_lay 5 none 4 X q939 q941 qs22 q14 q942 hd_X8_lay ⟨Nat.le_of_ble_eq_true rfl, Nat.le_of_ble_eq_true rfl⟩) (by omega) hF10.1 rfl rfl hl.1 rfl (Nat.le_of_ble_eq_true rfl) dX8_accept_75 ⟨Nat.le_of_ble_eq_true rfl, Nat.le_of_ble_eq_true rfl⟩ (fun F12 H locs hp hw => ?_)
        obtain ⟨hF13, hr14⟩ := hp
        replace hfr := hfr.tr hr14 (by omega) (by omega)
        refine lv_iload_n X.1 X.2.1 dX8_accept_78 rfl (lv_at hl 0 rfl) ?_
        exact x_iret X hr hlk hK hw (v := (m_e ((sgp a x.toNatClampNeg (nI 2))) (nr - 1) ((m_p a x.toNatClampNeg 1).toNatClampNeg) 3) + ((sgp a x.toNatClampNeg (nI 2)) 5)) rfl (auto_mo (by rw [s_X8_accept, if_pos c1, if_neg c4, if_neg c5] : s_X8_accept a h sn tx k x nr kp = ((m_e ((sgp a x.toNatClampNeg (nI 2))) (nr - 1) ((m_p a x.toNatClampNeg 1).toNatClampNeg) 3) + ((sgp a x.toNatClampNeg (nI 2)) 5), (ly ((sgp a x.toNatClampNeg (nI 2))) (nr - 1) ((m_p a x.toNatClampNeg 1).toNatClampNeg) 3 ((m_e ((sgp a x.toNatClampNeg (nI 2))) (nr - 1) ((m_p a x.toNatClampNeg 1).toNatClampNeg) 3) + ((sgp a x.toNatClampNeg (nI 2)) 5))), (((((m_hn a h kp))))), sn, tx, (((((va_up k 0 (nI (m_kn kp))))))))) hF13 hfr) dX8_accept_79
      · refine lv_bipush (v := (-4)) X.1 X.2.1 dX8_accept_36 (by decide) ?_
        exact x_iret X hr hlk hK hw (v := (-4)) rfl (auto_mo (by rw [s_X8_accept, if_pos c1, if_neg c4, if_pos c5] : s_X8_accept a h sn tx k x nr kp = ((-4), a, h, sn, tx, k)) hF hfr) dX8_accept_38
  · replace c1 := bI_z c1
    refine lv_iconst (v := (-1)) X.1 X.2.1 dX8_accept_8 (by decide) ?_
    exact x_iret X hr hlk hK hw (v := (-1)) rfl (auto_mo (by rw [s_X8_accept, if_neg c1] : s_X8_accept a h sn tx k x nr kp = ((-1), a, h, sn, tx, k)) hF hfr) dX8_accept_9
theorem hd_X8_outIn : yX8_outIn.cls = RX8 ∧ yX8_outIn.cls ≠ "java/lang/invoke/MethodHandle" ∧ yX8_outIn.cls ≠ "java/lang/invoke/VarHandle" ∧ (parseMethodDescriptor yX8_outIn.desc).map (fun d => d.parameters.length) = some 1 := by decide +kernel
def s_X8_decide (a : Nat → Int32) (h : Nat → Int32) (sn : Nat → Int32) (tx : Nat → Int32) (k : Nat → Int32) (x : Int32) (y : Int32) (nb : Nat) (nr : Nat) (kp : Nat) : Int32 × (Nat → Int32) × (Nat → Int32) × (Nat → Int32) × (Nat → Int32) × (Nat → Int32) := (if ¬ x < nI 0 ∧ ¬ a 3 - nI 1 < x then (if (m_p a x.toNatClampNeg 3) = (nI 1) then (if y = 0 then (if y = 0 then (m_out ((sgp a x.toNatClampNeg (nI 4))) (nr - 1) nb, (sgp a x.toNatClampNeg (nI 4)), (((m_hn a h kp))), sn, tx, (((va_up k 0 (nI (m_kn kp)))))) else (m_out ((ly ((sgp a x.toNatClampNeg (nI 4))) (nr - 1) ((m_p a x.toNatClampNeg 1).toNatClampNeg) 4 (nI 1))) (nr - 1) nb, (ly ((sgp a x.toNatClampNeg (nI 4))) (nr - 1) ((m_p a x.toNatClampNeg 1).toNatClampNeg) 4 (nI 1)), (((((m_hn a h kp))))), sn, tx, (((((va_up k 0 (nI (m_kn kp))))))))) else (if y = 0 then (m_out ((sgp a x.toNatClampNeg (nI 3))) (nr - 1) nb, (sgp a x.toNatClampNeg (nI 3)), (((m_hn a h kp))), sn, tx, (((va_up k 0 (nI (m_kn kp)))))) else (m_out ((ly ((sgp a x.toNatClampNeg (nI 3))) (nr - 1) ((m_p a x.toNatClampNeg 1).toNatClampNeg) 4 (nI 1))) (nr - 1) nb, (ly ((sgp a x.toNatClampNeg (nI 3))) (nr - 1) ((m_p a x.toNatClampNeg 1).toNatClampNeg) 4 (nI 1)), (((((m_hn a h kp))))), sn, tx, (((((va_up k 0 (nI (m_kn kp)))))))))) else ((-4), a, h, sn, tx, k)) else ((-1), a, h, sn, tx, k))
set_option maxHeartbeats 4000000 in
set_option maxRecDepth 100000 in
theorem k_X8_decide {l : Launch} {D : va_G} {cI cB cS : ClassId} {ad : Nat → Nat} {N : Nat} {F : Nat → va_E} (hI : iN ad N) (o : Nat) (a : Nat → Int32) (h : Nat → Int32) (sn : Nat → Int32) (tx : Nat → Int32) (k : Nat → Int32) (x : Int32) (y : Int32) (nb : Nat) (nr : Nat) (np : Nat) (kp : Nat) (hc5 : o + 5 ≤ N) (hF : MoF ad cI F o a h sn tx k) (h1 : a 1 = nI nb) (hb9 : nb ≤ 9) (h2 : a 2 = nI nr) (hr6 : nr ≤ 6) (h3 : a 3 = nI np) (hp10 : np ≤ 10) (hpr : 0 < np → 0 < nr) (hpb : ∀ u, u < np → (m_p a u 1).toNatClampNeg < nb ∧ m_p a u 1 = nI (m_p a u 1).toNatClampNeg) (hk0 : k 0 = nI kp) (hk4 : kp ≤ 4) : Ci l D cI cB cS ad N yX8_decide cX8_decide 3 (some .int) 2 46 [.ref (ad o), .int x, .int y] F (fun r F' => r = (s_X8_decide a h sn tx k x y nb nr kp).1 ∧ MoF ad cI F' o ((s_X8_decide a h sn tx k x y nb nr kp).2.1) ((s_X8_decide a h sn tx k x y nb nr kp).2.2.1) ((s_X8_decide a h sn tx k x y nb nr kp).2.2.2.1) ((s_X8_decide a h sn tx k x y nb nr kp).2.2.2.2.1) ((s_X8_decide a h sn tx k x y nb nr kp).2.2.2.2.2) ∧ Fr F F' o (o + 5)) := by
  refine x_met (by decide +kernel) (Nat.le_of_ble_eq_true rfl) ?_
  intro p e s m below meth c X hr hlk hK hw ls hl
  replace hl : lv_has ls 3 [(0, .ref (ad o)), (1, .int x), (2, .int y)] := hl
  have hfr : Fr F F (o) (o + 5) := Fr.rf
  refine lv_aload_n X.1 X.2.1 dX8_decide_0 rfl (lv_at hl 0 rfl) ?_
  refine lv_iload_n X.1 X.2.1 dX8_decide_1 rfl (lv_at hl 1 rfl) ?_
  refine x_callVP X hK hw (k := o) (As := [.int x]) (rest := []) (k_X8_isProtest hI o a h sn tx k x (by omega) hF) (x_cwV yX8_isProtest cX8_isProtest 2 (some .boolean) 1 X q1048 q1050 qs40 q14 q1051 hd_X8_isProtest ⟨Nat.le_of_ble_eq_true rfl, Nat.le_of_ble_eq_true rfl⟩) (by omega) hF.1 rfl rfl hl.1 rfl (Nat.le_of_ble_eq_true rfl) dX8_decide_2 ⟨Nat.le_of_ble_eq_true rfl, Nat.le_of_ble_eq_true rfl⟩ (fun H locs hw => ?_)
  refine lv_if_ne (tgt := 10) X.1 X.2.1 dX8_decide_5 (by decide) (fun c1 => ?_) (fun c1 => ?_)
  · replace c1 := bI_nz c1
    have ⟨hj2, hx3⟩ := isb_of (n := np) c1 h3 (by omega)
    have hn := hpr (by omega)
    rw [hx3] at hl
    replace hl : lv_has ls 3 [(0, .ref (ad o)), (1, .int (nI x.toNatClampNeg)), (2, .int y)] := hl
    have hbt := (hpb _ hj2).1
    refine lv_aload_n X.1 X.2.1 dX8_decide_10 rfl (lv_at hl 0 rfl) ?_
    refine lv_iload_n X.1 X.2.1 dX8_decide_11 rfl (lv_at hl 1 rfl) ?_
    refine lv_iconst (v := nI 3) X.1 X.2.1 dX8_decide_12 (by decide) ?_
    refine x_callVP X hK hw (k := o) (As := [.int (nI x.toNatClampNeg), .int (nI 3)]) (rest := []) (k_X8_ofProtest hI o a h sn tx k x.toNatClampNeg 3 (by omega) hF (by omega)) (x_cwV yX8_ofProtest cX8_ofProtest 3 (some .int) 2 X q1052 q1054 qs41 q14 q1055 hd_X8_ofProtest ⟨Nat.le_of_ble_eq_true rfl, Nat.le_of_ble_eq_true rfl⟩) (by omega) hF.1 rfl rfl hl.1 rfl (Nat.le_of_ble_eq_true rfl) dX8_decide_13 ⟨Nat.le_of_ble_eq_true rfl, Nat.le_of_ble_eq_true rfl⟩ (fun H locs hw => ?_)
    refine lv_iconst (v := nI 1) X.1 X.2.1 dX8_decide_16 (by decide) ?_
    refine lv_icmp_eq (tgt := 23) X.1 X.2.1 dX8_decide_17 (by decide) (fun c4 => ?_) (fun c4 => ?_)
    · refine lv_aload_n X.1 X.2.1 dX8_decide_23 rfl (lv_at hl 0 rfl) ?_
      refine x_callVv X hK hw (k := o) (As := []) (rest := []) (k_X8_record hI o a h sn tx k kp (by omega) hF hk0 (by omega)) (x_cwV yX8_record cX8_record 2 none 0 X q912 q914 qs17 q14 q915 hd_X8_record ⟨Nat.le_of_ble_eq_true rfl, Nat.le_of_ble_eq_true rfl⟩) (by omega) hF.1 rfl rfl hl.1 rfl (Nat.le_of_ble_eq_true rfl) dX8_decide_24 ⟨Nat.le_of_ble_eq_true rfl, Nat.le_of_ble_eq_true rfl⟩ (fun F5 H locs hp hw => ?_)
      obtain ⟨hF6, hr7⟩ := hp
      replace hfr := hfr.tr hr7 (by omega) (by omega)
      refine lv_aload_n X.1 X.2.1 dX8_decide_27 rfl (lv_at hl 0 rfl) ?_
      refine lv_iload_n X.1 X.2.1 dX8_decide_28 rfl (lv_at hl 1 rfl) ?_
      refine lv_iload_n X.1 X.2.1 dX8_decide_29 rfl (lv_at hl 2 rfl) ?_
      refine lv_if_eq (tgt := 37) X.1 X.2.1 dX8_decide_30 (by decide) (fun c8 => ?_) (fun c8 => ?_)
      · refine lv_iconst (v := nI 4) X.1 X.2.1 dX8_decide_37 (by decide) ?_
        refine x_callVv X hK hw (k := o) (As := [.int (nI x.toNatClampNeg), .int (nI 4)]) (rest := []) (k_X8_stage hI o a ((m_hn a h kp)) sn tx ((va_up k 0 (nI (m_kn kp)))) x.toNatClampNeg (nI 4) (by omega) hF6 (by omega)) (x_cwV yX8_stage cX8_stage 3 none 2 X q1056 q1058 qs42 q14 q1059 hd_X8_stage ⟨Nat.le_of_ble_eq_true rfl, Nat.le_of_ble_eq_true rfl⟩) (by omega) hF6.1 rfl rfl hl.1 rfl (Nat.le_of_ble_eq_true rfl) dX8_decide_38 ⟨Nat.le_of_ble_eq_true rfl, Nat.le_of_ble_eq_true rfl⟩ (fun F9 H locs hp hw => ?_)
        obtain ⟨hF10, hr11⟩ := hp
        replace hfr := hfr.tr hr11 (by omega) (by omega)
        refine lv_iload_n X.1 X.2.1 dX8_decide_41 rfl (lv_at hl 2 rfl) ?_
        refine lv_if_eq (tgt := 61) X.1 X.2.1 dX8_decide_42 (by decide) (fun c12 => ?_) (fun c12 => ?_)
        · refine lv_aload_n X.1 X.2.1 dX8_decide_61 rfl (lv_at hl 0 rfl) ?_
          refine lv_aload_n X.1 X.2.1 dX8_decide_62 rfl (lv_at hl 0 rfl) ?_
          refine x_callVP X hK hw (k := o) (As := []) (rest := [.ref (ad o)]) (k_X8_latest hI o ((sgp a x.toNatClampNeg (nI 4))) ((((m_hn a h kp)))) sn tx ((((va_up k 0 (nI (m_kn kp)))))) nr (by omega) hF10 (by first | exact (sgp_lo (by omega)).trans h2 | exact (ly_lo (by omega)).trans ((sgp_lo (by omega)).trans h2)) (by omega) hn) (x_cwV yX8_latest cX8_latest 1 (some .int) 0 X q927 q929 qs19 q14 q930 hd_X8_latest ⟨Nat.le_of_ble_eq_true rfl, Nat.le_of_ble_eq_true rfl⟩) (by omega) hF10.1 rfl rfl hl.1 rfl (Nat.le_of_ble_eq_true rfl) dX8_decide_63 ⟨Nat.le_of_ble_eq_true rfl, Nat.le_of_ble_eq_true rfl⟩ (fun H locs hw => ?_)
          refine x_callVP X hK hw (k := o) (As := [.int (nI (nr - 1))]) (rest := []) (k_X8_outIn hI o ((sgp a x.toNatClampNeg (nI 4))) ((((m_hn a h kp)))) sn tx ((((va_up k 0 (nI (m_kn kp)))))) (nr - 1) nb (by omega) hF10 (by first | exact (sgp_lo (by omega)).trans h1 | exact (ly_lo (by omega)).trans ((sgp_lo (by omega)).trans h1)) (by omega) (by omega)) (x_cwV yX8_outIn cX8_outIn 4 (some .int) 1 X q1068 q1070 qs43 q14 q1071 hd_X8_outIn ⟨Nat.le_of_ble_eq_true rfl, Nat.le_of_ble_eq_true rfl⟩) (by omega) hF10.1 rfl rfl hl.1 rfl (Nat.le_of_ble_eq_true rfl) dX8_decide_66 ⟨Nat.le_of_ble_eq_true rfl, Nat.le_of_ble_eq_true rfl⟩ (fun H locs hw => ?_)
          exact x_iret X hr hlk hK hw (v := m_out ((sgp a x.toNatClampNeg (nI 4))) (nr - 1) nb) rfl (auto_mo (by rw [s_X8_decide, if_pos c1, if_pos c4, if_pos c8, if_pos c12] : s_X8_decide a h sn tx k x y nb nr kp = (m_out ((sgp a x.toNatClampNeg (nI 4))) (nr - 1) nb, (sgp a x.toNatClampNeg (nI 4)), (((m_hn a h kp))), sn, tx, (((va_up k 0 (nI (m_kn kp))))))) hF10 hfr) dX8_decide_69
        · refine lv_aload_n X.1 X.2.1 dX8_decide_45 rfl (lv_at hl 0 rfl) ?_
          refine lv_aload_n X.1 X.2.1 dX8_decide_46 rfl (lv_at hl 0 rfl) ?_
          refine x_callVP X hK hw (k := o) (As := []) (rest := [.ref (ad o)]) (k_X8_latest hI o ((sgp a x.toNatClampNeg (nI 4))) ((((m_hn a h kp)))) sn tx ((((va_up k 0 (nI (m_kn kp)))))) nr (by omega) hF10 ((sgp_lo (by omega)).trans h2) (by omega) hn) (x_cwV yX8_latest cX8_latest 1 (some .int) 0 X q927 q929 qs19 q14 q930 hd_X8_latest ⟨Nat.le_of_ble_eq_true rfl, Nat.le_of_ble_eq_true rfl⟩) (by omega) hF10.1 rfl rfl hl.1 rfl (Nat.le_of_ble_eq_true rfl) dX8_decide_47 ⟨Nat.le_of_ble_eq_true rfl, Nat.le_of_ble_eq_true rfl⟩ (fun H locs hw => ?_)
          refine lv_aload_n X.1 X.2.1 dX8_decide_50 rfl (lv_at hl 0 rfl) ?_
          refine lv_iload_n X.1 X.2.1 dX8_decide_51 rfl (lv_at hl 1 rfl) ?_
          refine lv_iconst (v := nI 1) X.1 X.2.1 dX8_decide_52 (by decide) ?_
          refine x_callVP X hK hw (k := o) (As := [.int (nI x.toNatClampNeg), .int (nI 1)]) (rest := [.int (nI (nr - 1)), .ref (ad o)]) (k_X8_ofProtest hI o ((sgp a x.toNatClampNeg (nI 4))) ((((m_hn a h kp)))) sn tx ((((va_up k 0 (nI (m_kn kp)))))) x.toNatClampNeg 1 (by omega) hF10 (by omega)) (x_cwV yX8_ofProtest cX8_ofProtest 3 (some .int) 2 X q1052 q1054 qs41 q14 q1055 hd_X8_ofProtest ⟨Nat.le_of_ble_eq_true rfl, Nat.le_of_ble_eq_true rfl⟩) (by omega) hF10.1 rfl rfl hl.1 rfl (Nat.le_of_ble_eq_true rfl) dX8_decide_53 ⟨Nat.le_of_ble_eq_true rfl, Nat.le_of_ble_eq_true rfl⟩ (fun H locs hw => ?_)
          refine x_top (y := nI ((m_p a x.toNatClampNeg 1).toNatClampNeg)) (sgp_p.trans (hpb _ hj2).2) ?_
          refine lv_iconst (v := nI 4) X.1 X.2.1 dX8_decide_56 (by decide) ?_
          refine lv_iconst (v := nI 1) X.1 X.2.1 dX8_decide_57 (by decide) ?_
          refine x_callVv X hK hw (k := o) (As := [.int (nI (nr - 1)), .int (nI ((m_p a x.toNatClampNeg 1).toNatClampNeg)), .int (nI 4), .int (nI 1)]) (rest := []) (k_X8_lay hI o ((sgp a x.toNatClampNeg (nI 4))) ((((m_hn a h kp)))) sn tx ((((va_up k 0 (nI (m_kn kp)))))) (nr - 1) ((m_p a x.toNatClampNeg 1).toNatClampNeg) 4 (nI 1) (by omega) hF10 (by omega)) (x_cwV yX8_lay cX8_lay 5 none 4 X q939 q941 qs22 q14 q942 hd_X8_lay ⟨Nat.le_of_ble_eq_true rfl, Nat.le_of_ble_eq_true rfl⟩) (by omega) hF10.1 rfl rfl hl.1 rfl (Nat.le_of_ble_eq_true rfl) dX8_decide_58 ⟨Nat.le_of_ble_eq_true rfl, Nat.le_of_ble_eq_true rfl⟩ (fun F13 H locs hp hw => ?_)
          obtain ⟨hF14, hr15⟩ := hp
          replace hfr := hfr.tr hr15 (by omega) (by omega)
          refine lv_aload_n X.1 X.2.1 dX8_decide_61 rfl (lv_at hl 0 rfl) ?_
          refine lv_aload_n X.1 X.2.1 dX8_decide_62 rfl (lv_at hl 0 rfl) ?_
          refine x_callVP X hK hw (k := o) (As := []) (rest := [.ref (ad o)]) (k_X8_latest hI o ((ly ((sgp a x.toNatClampNeg (nI 4))) (nr - 1) ((m_p a x.toNatClampNeg 1).toNatClampNeg) 4 (nI 1))) ((((((m_hn a h kp)))))) sn tx ((((((va_up k 0 (nI (m_kn kp)))))))) nr (by omega) hF14 (by first | exact (sgp_lo (by omega)).trans h2 | exact (ly_lo (by omega)).trans ((sgp_lo (by omega)).trans h2)) (by omega) hn) (x_cwV yX8_latest cX8_latest 1 (some .int) 0 X q927 q929 qs19 q14 q930 hd_X8_latest ⟨Nat.le_of_ble_eq_true rfl, Nat.le_of_ble_eq_true rfl⟩) (by omega) hF14.1 rfl rfl hl.1 rfl (Nat.le_of_ble_eq_true rfl) dX8_decide_63 ⟨Nat.le_of_ble_eq_true rfl, Nat.le_of_ble_eq_true rfl⟩ (fun H locs hw => ?_)
          refine x_callVP X hK hw (k := o) (As := [.int (nI (nr - 1))]) (rest := []) (k_X8_outIn hI o ((ly ((sgp a x.toNatClampNeg (nI 4))) (nr - 1) ((m_p a x.toNatClampNeg 1).toNatClampNeg) 4 (nI 1))) ((((((m_hn a h kp)))))) sn tx ((((((va_up k 0 (nI (m_kn kp)))))))) (nr - 1) nb (by omega) hF14 (by first | exact (sgp_lo (by omega)).trans h1 | exact (ly_lo (by omega)).trans ((sgp_lo (by omega)).trans h1)) (by omega) (by omega)) (x_cwV yX8_outIn cX8_outIn 4 (some .int) 1 X q1068 q1070 qs43 q14 q1071 hd_X8_outIn ⟨Nat.le_of_ble_eq_true rfl, Nat.le_of_ble_eq_true rfl⟩) (by omega) hF14.1 rfl rfl hl.1 rfl (Nat.le_of_ble_eq_true rfl) dX8_decide_66 ⟨Nat.le_of_ble_eq_true rfl, Nat.le_of_ble_eq_true rfl⟩ (fun H locs hw => ?_)
          exact x_iret X hr hlk hK hw (v := m_out ((ly ((sgp a x.toNatClampNeg (nI 4))) (nr - 1) ((m_p a x.toNatClampNeg 1).toNatClampNeg) 4 (nI 1))) (nr - 1) nb) rfl (auto_mo (by rw [s_X8_decide, if_pos c1, if_pos c4, if_pos c8, if_neg c12] : s_X8_decide a h sn tx k x y nb nr kp = (m_out ((ly ((sgp a x.toNatClampNeg (nI 4))) (nr - 1) ((m_p a x.toNatClampNeg 1).toNatClampNeg) 4 (nI 1))) (nr - 1) nb, (ly ((sgp a x.toNatClampNeg (nI 4))) (nr - 1) ((m_p a x.toNatClampNeg 1).toNatClampNeg) 4 (nI 1)), (((((m_hn a h kp))))), sn, tx, (((((va_up k 0 (nI (m_kn kp))))))))) hF14 hfr) dX8_decide_69
      · refine lv_iconst (v := nI 3) X.1 X.2.1 dX8_decide_33 (by decide) ?_
        refine lv_goto (tgt := 38) X.1 X.2.1 dX8_decide_34 (by decide) ?_
        refine x_callVv X hK hw (k := o) (As := [.int (nI x.toNatClampNeg), .int (nI 3)]) (rest := []) (k_X8_stage hI o a ((m_hn a h kp)) sn tx ((va_up k 0 (nI (m_kn kp)))) x.toNatClampNeg (nI 3) (by omega) hF6 (by omega)) (x_cwV yX8_stage cX8_stage 3 none 2 X q1056 q1058 qs42 q14 q1059 hd_X8_stage ⟨Nat.le_of_ble_eq_true rfl, Nat.le_of_ble_eq_true rfl⟩) (by omega) hF6.1 rfl rfl hl.1 rfl (Nat.le_of_ble_eq_true rfl) dX8_decide_38 ⟨Nat.le_of_ble_eq_true rfl, Nat.le_of_ble_eq_true rfl⟩ (fun F16 H locs hp hw => ?_)
        obtain ⟨hF17, hr18⟩ := hp
        replace hfr := hfr.tr hr18 (by omega) (by omega)
        refine lv_iload_n X.1 X.2.1 dX8_decide_41 rfl (lv_at hl 2 rfl) ?_
        refine lv_if_eq (tgt := 61) X.1 X.2.1 dX8_decide_42 (by decide) (fun c19 => ?_) (fun c19 => ?_)
        · refine lv_aload_n X.1 X.2.1 dX8_decide_61 rfl (lv_at hl 0 rfl) ?_
          refine lv_aload_n X.1 X.2.1 dX8_decide_62 rfl (lv_at hl 0 rfl) ?_
          refine x_callVP X hK hw (k := o) (As := []) (rest := [.ref (ad o)]) (k_X8_latest hI o ((sgp a x.toNatClampNeg (nI 3))) ((((m_hn a h kp)))) sn tx ((((va_up k 0 (nI (m_kn kp)))))) nr (by omega) hF17 (by first | exact (sgp_lo (by omega)).trans h2 | exact (ly_lo (by omega)).trans ((sgp_lo (by omega)).trans h2)) (by omega) hn) (x_cwV yX8_latest cX8_latest 1 (some .int) 0 X q927 q929 qs19 q14 q930 hd_X8_latest ⟨Nat.le_of_ble_eq_true rfl, Nat.le_of_ble_eq_true rfl⟩) (by omega) hF17.1 rfl rfl hl.1 rfl (Nat.le_of_ble_eq_true rfl) dX8_decide_63 ⟨Nat.le_of_ble_eq_true rfl, Nat.le_of_ble_eq_true rfl⟩ (fun H locs hw => ?_)
          refine x_callVP X hK hw (k := o) (As := [.int (nI (nr - 1))]) (rest := []) (k_X8_outIn hI o ((sgp a x.toNatClampNeg (nI 3))) ((((m_hn a h kp)))) sn tx ((((va_up k 0 (nI (m_kn kp)))))) (nr - 1) nb (by omega) hF17 (by first | exact (sgp_lo (by omega)).trans h1 | exact (ly_lo (by omega)).trans ((sgp_lo (by omega)).trans h1)) (by omega) (by omega)) (x_cwV yX8_outIn cX8_outIn 4 (some .int) 1 X q1068 q1070 qs43 q14 q1071 hd_X8_outIn ⟨Nat.le_of_ble_eq_true rfl, Nat.le_of_ble_eq_true rfl⟩) (by omega) hF17.1 rfl rfl hl.1 rfl (Nat.le_of_ble_eq_true rfl) dX8_decide_66 ⟨Nat.le_of_ble_eq_true rfl, Nat.le_of_ble_eq_true rfl⟩ (fun H locs hw => ?_)
          exact x_iret X hr hlk hK hw (v := m_out ((sgp a x.toNatClampNeg (nI 3))) (nr - 1) nb) rfl (auto_mo (by rw [s_X8_decide, if_pos c1, if_pos c4, if_neg c8, if_pos c19] : s_X8_decide a h sn tx k x y nb nr kp = (m_out ((sgp a x.toNatClampNeg (nI 3))) (nr - 1) nb, (sgp a x.toNatClampNeg (nI 3)), (((m_hn a h kp))), sn, tx, (((va_up k 0 (nI (m_kn kp))))))) hF17 hfr) dX8_decide_69
        · refine lv_aload_n X.1 X.2.1 dX8_decide_45 rfl (lv_at hl 0 rfl) ?_
          refine lv_aload_n X.1 X.2.1 dX8_decide_46 rfl (lv_at hl 0 rfl) ?_
          refine x_callVP X hK hw (k := o) (As := []) (rest := [.ref (ad o)]) (k_X8_latest hI o ((sgp a x.toNatClampNeg (nI 3))) ((((m_hn a h kp)))) sn tx ((((va_up k 0 (nI (m_kn kp)))))) nr (by omega) hF17 ((sgp_lo (by omega)).trans h2) (by omega) hn) (x_cwV yX8_latest cX8_latest 1 (some .int) 0 X q927 q929 qs19 q14 q930 hd_X8_latest ⟨Nat.le_of_ble_eq_true rfl, Nat.le_of_ble_eq_true rfl⟩) (by omega) hF17.1 rfl rfl hl.1 rfl (Nat.le_of_ble_eq_true rfl) dX8_decide_47 ⟨Nat.le_of_ble_eq_true rfl, Nat.le_of_ble_eq_true rfl⟩ (fun H locs hw => ?_)
          refine lv_aload_n X.1 X.2.1 dX8_decide_50 rfl (lv_at hl 0 rfl) ?_
          refine lv_iload_n X.1 X.2.1 dX8_decide_51 rfl (lv_at hl 1 rfl) ?_
          refine lv_iconst (v := nI 1) X.1 X.2.1 dX8_decide_52 (by decide) ?_
          refine x_callVP X hK hw (k := o) (As := [.int (nI x.toNatClampNeg), .int (nI 1)]) (rest := [.int (nI (nr - 1)), .ref (ad o)]) (k_X8_ofProtest hI o ((sgp a x.toNatClampNeg (nI 3))) ((((m_hn a h kp)))) sn tx ((((va_up k 0 (nI (m_kn kp)))))) x.toNatClampNeg 1 (by omega) hF17 (by omega)) (x_cwV yX8_ofProtest cX8_ofProtest 3 (some .int) 2 X q1052 q1054 qs41 q14 q1055 hd_X8_ofProtest ⟨Nat.le_of_ble_eq_true rfl, Nat.le_of_ble_eq_true rfl⟩) (by omega) hF17.1 rfl rfl hl.1 rfl (Nat.le_of_ble_eq_true rfl) dX8_decide_53 ⟨Nat.le_of_ble_eq_true rfl, Nat.le_of_ble_eq_true rfl⟩ (fun H locs hw => ?_)
          refine x_top (y := nI ((m_p a x.toNatClampNeg 1).toNatClampNeg)) (sgp_p.trans (hpb _ hj2).2) ?_
          refine lv_iconst (v := nI 4) X.1 X.2.1 dX8_decide_56 (by decide) ?_
          refine lv_iconst (v := nI 1) X.1 X.2.1 dX8_decide_57 (by decide) ?_
          refine x_callVv X hK hw (k := o) (As := [.int (nI (nr - 1)), .int (nI ((m_p a x.toNatClampNeg 1).toNatClampNeg)), .int (nI 4), .int (nI 1)]) (rest := []) (k_X8_lay hI o ((sgp a x.toNatClampNeg (nI 3))) ((((m_hn a h kp)))) sn tx ((((va_up k 0 (nI (m_kn kp)))))) (nr - 1) ((m_p a x.toNatClampNeg 1).toNatClampNeg) 4 (nI 1) (by omega) hF17 (by omega)) (x_cwV yX8_lay cX8_lay 5 none 4 X q939 q941 qs22 q14 q942 hd_X8_lay ⟨Nat.le_of_ble_eq_true rfl, Nat.le_of_ble_eq_true rfl⟩) (by omega) hF17.1 rfl rfl hl.1 rfl (Nat.le_of_ble_eq_true rfl) dX8_decide_58 ⟨Nat.le_of_ble_eq_true rfl, Nat.le_of_ble_eq_true rfl⟩ (fun F20 H locs hp hw => ?_)
          obtain ⟨hF21, hr22⟩ := hp
          replace hfr := hfr.tr hr22 (by omega) (by omega)
          refine lv_aload_n X.1 X.2.1 dX8_decide_61 rfl (lv_at hl 0 rfl) ?_
          refine lv_aload_n X.1 X.2.1 dX8_decide_62 rfl (lv_at hl 0 rfl) ?_
          refine x_callVP X hK hw (k := o) (As := []) (rest := [.ref (ad o)]) (k_X8_latest hI o ((ly ((sgp a x.toNatClampNeg (nI 3))) (nr - 1) ((m_p a x.toNatClampNeg 1).toNatClampNeg) 4 (nI 1))) ((((((m_hn a h kp)))))) sn tx ((((((va_up k 0 (nI (m_kn kp)))))))) nr (by omega) hF21 (by first | exact (sgp_lo (by omega)).trans h2 | exact (ly_lo (by omega)).trans ((sgp_lo (by omega)).trans h2)) (by omega) hn) (x_cwV yX8_latest cX8_latest 1 (some .int) 0 X q927 q929 qs19 q14 q930 hd_X8_latest ⟨Nat.le_of_ble_eq_true rfl, Nat.le_of_ble_eq_true rfl⟩) (by omega) hF21.1 rfl rfl hl.1 rfl (Nat.le_of_ble_eq_true rfl) dX8_decide_63 ⟨Nat.le_of_ble_eq_true rfl, Nat.le_of_ble_eq_true rfl⟩ (fun H locs hw => ?_)
          refine x_callVP X hK hw (k := o) (As := [.int (nI (nr - 1))]) (rest := []) (k_X8_outIn hI o ((ly ((sgp a x.toNatClampNeg (nI 3))) (nr - 1) ((m_p a x.toNatClampNeg 1).toNatClampNeg) 4 (nI 1))) ((((((m_hn a h kp)))))) sn tx ((((((va_up k 0 (nI (m_kn kp)))))))) (nr - 1) nb (by omega) hF21 (by first | exact (sgp_lo (by omega)).trans h1 | exact (ly_lo (by omega)).trans ((sgp_lo (by omega)).trans h1)) (by omega) (by omega)) (x_cwV yX8_outIn cX8_outIn 4 (some .int) 1 X q1068 q1070 qs43 q14 q1071 hd_X8_outIn ⟨Nat.le_of_ble_eq_true rfl, Nat.le_of_ble_eq_true rfl⟩) (by omega) hF21.1 rfl rfl hl.1 rfl (Nat.le_of_ble_eq_true rfl) dX8_decide_66 ⟨Nat.le_of_ble_eq_true rfl, Nat.le_of_ble_eq_true rfl⟩ (fun H locs hw => ?_)
          exact x_iret X hr hlk hK hw (v := m_out ((ly ((sgp a x.toNatClampNeg (nI 3))) (nr - 1) ((m_p a x.toNatClampNeg 1).toNatClampNeg) 4 (nI 1))) (nr - 1) nb) rfl (auto_mo (by rw [s_X8_decide, if_pos c1, if_pos c4, if_neg c8, if_neg c19] : s_X8_decide a h sn tx k x y nb nr kp = (m_out ((ly ((sgp a x.toNatClampNeg (nI 3))) (nr - 1) ((m_p a x.toNatClampNeg 1).toNatClampNeg) 4 (nI 1))) (nr - 1) nb, (ly ((sgp a x.toNatClampNeg (nI 3))) (nr - 1) ((m_p a x.toNatClampNeg 1).toNatClampNeg) 4 (nI 1)), (((((m_hn a h kp))))), sn, tx, (((((va_up k 0 (nI (m_kn kp))))))))) hF21 hfr) dX8_decide_69
    · refine lv_bipush (v := (-4)) X.1 X.2.1 dX8_decide_20 (by decide) ?_
      exact x_iret X hr hlk hK hw (v := (-4)) rfl (auto_mo (by rw [s_X8_decide, if_pos c1, if_neg c4] : s_X8_decide a h sn tx k x y nb nr kp = ((-4), a, h, sn, tx, k)) hF hfr) dX8_decide_22
  · replace c1 := bI_z c1
    refine lv_iconst (v := (-1)) X.1 X.2.1 dX8_decide_8 (by decide) ?_
    exact x_iret X hr hlk hK hw (v := (-1)) rfl (auto_mo (by rw [s_X8_decide, if_neg c1] : s_X8_decide a h sn tx k x y nb nr kp = ((-1), a, h, sn, tx, k)) hF hfr) dX8_decide_9
def s_X8_set (a : Nat → Int32) (h : Nat → Int32) (sn : Nat → Int32) (tx : Nat → Int32) (k : Nat → Int32) (x : Int32) (y : Int32) (kp : Nat) : Int32 × (Nat → Int32) × (Nat → Int32) × (Nat → Int32) × (Nat → Int32) × (Nat → Int32) := (if ¬ x < (nI 0) ∧ ¬ (nI 2) < x then (if (nI x.toNatClampNeg) = (nI 2) then (if (nI x.toNatClampNeg) = 0 then (if ¬ y < (nI 0) ∧ ¬ (nI 3600) < y then (a (4 + x.toNatClampNeg), (upd a (4 + x.toNatClampNeg) y), (m_hn a h kp), sn, tx, (va_up k 0 (nI (m_kn kp)))) else ((-2), a, h, sn, tx, k)) else (if (nI x.toNatClampNeg) = (nI 1) then (if ¬ y < (nI 0) ∧ ¬ (nI 300) < y then (a (4 + x.toNatClampNeg), (upd a (4 + x.toNatClampNeg) y), (m_hn a h kp), sn, tx, (va_up k 0 (nI (m_kn kp)))) else ((-2), a, h, sn, tx, k)) else (if ¬ y < (nI 0) ∧ ¬ (nI 6) < y then (a (4 + x.toNatClampNeg), (upd a (4 + x.toNatClampNeg) y), (m_hn a h kp), sn, tx, (va_up k 0 (nI (m_kn kp)))) else ((-2), a, h, sn, tx, k)))) else (if (nI x.toNatClampNeg) = 0 then (if ¬ y < (nI 1) ∧ ¬ (nI 3600) < y then (a (4 + x.toNatClampNeg), (upd a (4 + x.toNatClampNeg) y), (m_hn a h kp), sn, tx, (va_up k 0 (nI (m_kn kp)))) else ((-2), a, h, sn, tx, k)) else (if (nI x.toNatClampNeg) = (nI 1) then (if ¬ y < (nI 1) ∧ ¬ (nI 300) < y then (a (4 + x.toNatClampNeg), (upd a (4 + x.toNatClampNeg) y), (m_hn a h kp), sn, tx, (va_up k 0 (nI (m_kn kp)))) else ((-2), a, h, sn, tx, k)) else (if ¬ y < (nI 1) ∧ ¬ (nI 6) < y then (a (4 + x.toNatClampNeg), (upd a (4 + x.toNatClampNeg) y), (m_hn a h kp), sn, tx, (va_up k 0 (nI (m_kn kp)))) else ((-2), a, h, sn, tx, k))))) else ((-1), a, h, sn, tx, k))
set_option maxHeartbeats 4000000 in
set_option maxRecDepth 100000 in
theorem k_X8_set {l : Launch} {D : va_G} {cI cB cS : ClassId} {ad : Nat → Nat} {N : Nat} {F : Nat → va_E} (hI : iN ad N) (o : Nat) (a : Nat → Int32) (h : Nat → Int32) (sn : Nat → Int32) (tx : Nat → Int32) (k : Nat → Int32) (x : Int32) (y : Int32) (kp : Nat) (hc5 : o + 5 ≤ N) (hF : MoF ad cI F o a h sn tx k) (hk0 : k 0 = nI kp) (hk4 : kp ≤ 4) : Ci l D cI cB cS ad N yX8_set cX8_set 4 (some .int) 2 45 [.ref (ad o), .int x, .int y] F (fun r F' => r = (s_X8_set a h sn tx k x y kp).1 ∧ MoF ad cI F' o ((s_X8_set a h sn tx k x y kp).2.1) ((s_X8_set a h sn tx k x y kp).2.2.1) ((s_X8_set a h sn tx k x y kp).2.2.2.1) ((s_X8_set a h sn tx k x y kp).2.2.2.2.1) ((s_X8_set a h sn tx k x y kp).2.2.2.2.2) ∧ Fr F F' o (o + 5)) := by
  refine x_met (by decide +kernel) (Nat.le_of_ble_eq_true rfl) ?_
  intro p e s m below meth c X hr hlk hK hw ls hl
  replace hl : lv_has ls 4 [(0, .ref (ad o)), (1, .int x), (2, .int y)] := hl
  have hfr : Fr F F (o) (o + 5) := Fr.rf
  refine lv_iload_n X.1 X.2.1 dX8_set_0 rfl (lv_at hl 1 rfl) ?_
  refine lv_iconst (v := nI 0) X.1 X.2.1 dX8_set_1 (by decide) ?_
  refine lv_iconst (v := nI 2) X.1 X.2.1 dX8_set_2 (by decide) ?_
  refine x_callSP X hK hw (As := [.int x, .int (nI 0), .int (nI 2)]) (rest := []) (k_X8_in hI x (nI 0) (nI 2)) (x_cwS yX8_in cX8_in 3 (some .boolean) 3 X q909 q910 q14 q911 hd_X8_in ⟨Nat.le_of_ble_eq_true rfl, Nat.le_of_ble_eq_true rfl⟩) rfl hl.1 rfl (Nat.le_of_ble_eq_true rfl) dX8_set_3 ⟨Nat.le_of_ble_eq_true rfl, Nat.le_of_ble_eq_true rfl⟩ (fun H locs hw => ?_)
  refine lv_if_ne (tgt := 11) X.1 X.2.1 dX8_set_6 (by decide) (fun c1 => ?_) (fun c1 => ?_)
  · replace c1 := bI_nz c1
    have ⟨hj2, hx3⟩ := in3_of c1
    rw [hx3] at hl
    replace hl : lv_has ls 4 [(0, .ref (ad o)), (1, .int (nI x.toNatClampNeg)), (2, .int y)] := hl
    refine lv_iload_n X.1 X.2.1 dX8_set_11 rfl (lv_at hl 2 rfl) ?_
    refine lv_iload_n X.1 X.2.1 dX8_set_12 rfl (lv_at hl 1 rfl) ?_
    refine lv_iconst (v := nI 2) X.1 X.2.1 dX8_set_13 (by decide) ?_
    refine lv_icmp_ne (tgt := 21) X.1 X.2.1 dX8_set_14 (by decide) (fun c4 => ?_) (fun c4 => ?_)
    · refine lv_iconst (v := nI 1) X.1 X.2.1 dX8_set_21 (by decide) ?_
      refine lv_iload_n X.1 X.2.1 dX8_set_22 rfl (lv_at hl 1 rfl) ?_
      refine lv_if_ne (tgt := 32) X.1 X.2.1 dX8_set_23 (by decide) (fun c5 => ?_) (fun c5 => ?_)
      · refine lv_iload_n X.1 X.2.1 dX8_set_32 rfl (lv_at hl 1 rfl) ?_
        refine lv_iconst (v := nI 1) X.1 X.2.1 dX8_set_33 (by decide) ?_
        refine lv_icmp_ne (tgt := 43) X.1 X.2.1 dX8_set_34 (by decide) (fun c6 => ?_) (fun c6 => ?_)
        · refine lv_bipush (v := nI 6) X.1 X.2.1 dX8_set_43 (by decide) ?_
          refine x_callSP X hK hw (As := [.int y, .int (nI 1), .int (nI 6)]) (rest := []) (k_X8_in hI y (nI 1) (nI 6)) (x_cwS yX8_in cX8_in 3 (some .boolean) 3 X q909 q910 q14 q911 hd_X8_in ⟨Nat.le_of_ble_eq_true rfl, Nat.le_of_ble_eq_true rfl⟩) rfl hl.1 rfl (Nat.le_of_ble_eq_true rfl) dX8_set_45 ⟨Nat.le_of_ble_eq_true rfl, Nat.le_of_ble_eq_true rfl⟩ (fun H locs hw => ?_)
          refine lv_if_ne (tgt := 54) X.1 X.2.1 dX8_set_48 (by decide) (fun c7 => ?_) (fun c7 => ?_)
          · replace c7 := bI_nz c7
            refine lv_aload_n X.1 X.2.1 dX8_set_54 rfl (lv_at hl 0 rfl) ?_
            refine x_callVv X hK hw (k := o) (As := []) (rest := []) (k_X8_record hI o a h sn tx k kp (by omega) hF hk0 (by omega)) (x_cwV yX8_record cX8_record 2 none 0 X q912 q914 qs17 q14 q915 hd_X8_record ⟨Nat.le_of_ble_eq_true rfl, Nat.le_of_ble_eq_true rfl⟩) (by omega) hF.1 rfl rfl hl.1 rfl (Nat.le_of_ble_eq_true rfl) dX8_set_55 ⟨Nat.le_of_ble_eq_true rfl, Nat.le_of_ble_eq_true rfl⟩ (fun F8 H locs hp hw => ?_)
            obtain ⟨hF9, hr10⟩ := hp
            replace hfr := hfr.tr hr10 (by omega) (by omega)
            refine lv_aload_n X.1 X.2.1 dX8_set_58 rfl (lv_at hl 0 rfl) ?_
            refine x_get X hK hw (C := RX8) (T := TX8) (nf := 12) (k := o) (by omega) hF9.1 rfl inX8 0 (by decide) q868 (fun _ h9 => h9) rfl dX8_set_59 ?_
            refine lv_iconst (v := nI 4) X.1 X.2.1 dX8_set_62 (by decide) ?_
            refine lv_iload_n X.1 X.2.1 dX8_set_63 rfl (lv_at hl 1 rfl) ?_
            refine lv_iadd X.1 X.2.1 dX8_set_64 ?_
            refine x_top (nI_add _ _) ?_
            refine x_ialdN X hK hw (k := (o + 1)) (by omega) hF9.2.1 (i := nI (4 + x.toNatClampNeg)) (j := 4 + x.toNatClampNeg) rfl (by omega) (by omega) dX8_set_65 ?_
            refine lv_istore_n (lv' := [(3, .int (a (4 + x.toNatClampNeg))), (0, .ref (ad o)), (1, .int (nI x.toNatClampNeg)), (2, .int y)]) X.1 X.2.1 dX8_set_66 rfl hl (by decide) rfl (fun ls hl => ?_)
            refine lv_aload_n X.1 X.2.1 dX8_set_67 rfl (lv_at hl 1 rfl) ?_
            refine x_get X hK hw (C := RX8) (T := TX8) (nf := 12) (k := o) (by omega) hF9.1 rfl inX8 0 (by decide) q868 (fun _ h9 => h9) rfl dX8_set_68 ?_
            refine lv_iconst (v := nI 4) X.1 X.2.1 dX8_set_71 (by decide) ?_
            refine lv_iload_n X.1 X.2.1 dX8_set_72 rfl (lv_at hl 2 rfl) ?_
            refine lv_iadd X.1 X.2.1 dX8_set_73 ?_
            refine x_top (nI_add _ _) ?_
            refine lv_iload_n X.1 X.2.1 dX8_set_74 rfl (lv_at hl 3 rfl) ?_
            refine x_iastN2 X hI hK hw (k := (o + 1)) (by omega) hF9.2.1 (i := nI (4 + x.toNatClampNeg)) (j := 4 + x.toNatClampNeg) rfl (by omega) (by omega) dX8_set_75 (fun F11 H locs eF12 hw => ?_)
            have hF13 := MoF.st0 hF9 eF12
            have hr14 := fr_eq eF12 (Nat.le_refl _) (Nat.lt_succ_self _)
            replace hfr := hfr.tr hr14 (by omega) (by omega)
            refine lv_iload_n X.1 X.2.1 dX8_set_76 rfl (lv_at hl 0 rfl) ?_
            exact x_iret X hr hlk hK hw (v := a (4 + x.toNatClampNeg)) rfl (auto_mo (by rw [s_X8_set, if_pos c1, if_neg c4, if_neg c5, if_neg c6, if_pos c7] : s_X8_set a h sn tx k x y kp = (a (4 + x.toNatClampNeg), (upd a (4 + x.toNatClampNeg) y), (m_hn a h kp), sn, tx, (va_up k 0 (nI (m_kn kp))))) hF13 hfr) dX8_set_77
          · replace c7 := bI_z c7
            refine lv_bipush (v := (-2)) X.1 X.2.1 dX8_set_51 (by decide) ?_
            exact x_iret X hr hlk hK hw (v := (-2)) rfl (auto_mo (by rw [s_X8_set, if_pos c1, if_neg c4, if_neg c5, if_neg c6, if_neg c7] : s_X8_set a h sn tx k x y kp = ((-2), a, h, sn, tx, k)) hF hfr) dX8_set_53
        · refine lv_sipush (v := nI 300) X.1 X.2.1 dX8_set_37 (by decide) ?_
          refine lv_goto (tgt := 45) X.1 X.2.1 dX8_set_40 (by decide) ?_
          refine x_callSP X hK hw (As := [.int y, .int (nI 1), .int (nI 300)]) (rest := []) (k_X8_in hI y (nI 1) (nI 300)) (x_cwS yX8_in cX8_in 3 (some .boolean) 3 X q909 q910 q14 q911 hd_X8_in ⟨Nat.le_of_ble_eq_true rfl, Nat.le_of_ble_eq_true rfl⟩) rfl hl.1 rfl (Nat.le_of_ble_eq_true rfl) dX8_set_45 ⟨Nat.le_of_ble_eq_true rfl, Nat.le_of_ble_eq_true rfl⟩ (fun H locs hw => ?_)
          refine lv_if_ne (tgt := 54) X.1 X.2.1 dX8_set_48 (by decide) (fun c15 => ?_) (fun c15 => ?_)
          · replace c15 := bI_nz c15
            refine lv_aload_n X.1 X.2.1 dX8_set_54 rfl (lv_at hl 0 rfl) ?_
            refine x_callVv X hK hw (k := o) (As := []) (rest := []) (k_X8_record hI o a h sn tx k kp (by omega) hF hk0 (by omega)) (x_cwV yX8_record cX8_record 2 none 0 X q912 q914 qs17 q14 q915 hd_X8_record ⟨Nat.le_of_ble_eq_true rfl, Nat.le_of_ble_eq_true rfl⟩) (by omega) hF.1 rfl rfl hl.1 rfl (Nat.le_of_ble_eq_true rfl) dX8_set_55 ⟨Nat.le_of_ble_eq_true rfl, Nat.le_of_ble_eq_true rfl⟩ (fun F16 H locs hp hw => ?_)
            obtain ⟨hF17, hr18⟩ := hp
            replace hfr := hfr.tr hr18 (by omega) (by omega)
            refine lv_aload_n X.1 X.2.1 dX8_set_58 rfl (lv_at hl 0 rfl) ?_
            refine x_get X hK hw (C := RX8) (T := TX8) (nf := 12) (k := o) (by omega) hF17.1 rfl inX8 0 (by decide) q868 (fun _ h9 => h9) rfl dX8_set_59 ?_
            refine lv_iconst (v := nI 4) X.1 X.2.1 dX8_set_62 (by decide) ?_
            refine lv_iload_n X.1 X.2.1 dX8_set_63 rfl (lv_at hl 1 rfl) ?_
            refine lv_iadd X.1 X.2.1 dX8_set_64 ?_
            refine x_top (nI_add _ _) ?_
            refine x_ialdN X hK hw (k := (o + 1)) (by omega) hF17.2.1 (i := nI (4 + x.toNatClampNeg)) (j := 4 + x.toNatClampNeg) rfl (by omega) (by omega) dX8_set_65 ?_
            refine lv_istore_n (lv' := [(3, .int (a (4 + x.toNatClampNeg))), (0, .ref (ad o)), (1, .int (nI x.toNatClampNeg)), (2, .int y)]) X.1 X.2.1 dX8_set_66 rfl hl (by decide) rfl (fun ls hl => ?_)
            refine lv_aload_n X.1 X.2.1 dX8_set_67 rfl (lv_at hl 1 rfl) ?_
            refine x_get X hK hw (C := RX8) (T := TX8) (nf := 12) (k := o) (by omega) hF17.1 rfl inX8 0 (by decide) q868 (fun _ h9 => h9) rfl dX8_set_68 ?_
            refine lv_iconst (v := nI 4) X.1 X.2.1 dX8_set_71 (by decide) ?_
            refine lv_iload_n X.1 X.2.1 dX8_set_72 rfl (lv_at hl 2 rfl) ?_
            refine lv_iadd X.1 X.2.1 dX8_set_73 ?_
            refine x_top (nI_add _ _) ?_
            refine lv_iload_n X.1 X.2.1 dX8_set_74 rfl (lv_at hl 3 rfl) ?_
            refine x_iastN2 X hI hK hw (k := (o + 1)) (by omega) hF17.2.1 (i := nI (4 + x.toNatClampNeg)) (j := 4 + x.toNatClampNeg) rfl (by omega) (by omega) dX8_set_75 (fun F19 H locs eF20 hw => ?_)
            have hF21 := MoF.st0 hF17 eF20
            have hr22 := fr_eq eF20 (Nat.le_refl _) (Nat.lt_succ_self _)
            replace hfr := hfr.tr hr22 (by omega) (by omega)
            refine lv_iload_n X.1 X.2.1 dX8_set_76 rfl (lv_at hl 0 rfl) ?_
            exact x_iret X hr hlk hK hw (v := a (4 + x.toNatClampNeg)) rfl (auto_mo (by rw [s_X8_set, if_pos c1, if_neg c4, if_neg c5, if_pos c6, if_pos c15] : s_X8_set a h sn tx k x y kp = (a (4 + x.toNatClampNeg), (upd a (4 + x.toNatClampNeg) y), (m_hn a h kp), sn, tx, (va_up k 0 (nI (m_kn kp))))) hF21 hfr) dX8_set_77
          · replace c15 := bI_z c15
            refine lv_bipush (v := (-2)) X.1 X.2.1 dX8_set_51 (by decide) ?_
            exact x_iret X hr hlk hK hw (v := (-2)) rfl (auto_mo (by rw [s_X8_set, if_pos c1, if_neg c4, if_neg c5, if_pos c6, if_neg c15] : s_X8_set a h sn tx k x y kp = ((-2), a, h, sn, tx, k)) hF hfr) dX8_set_53
      · refine lv_sipush (v := nI 3600) X.1 X.2.1 dX8_set_26 (by decide) ?_
        refine lv_goto (tgt := 45) X.1 X.2.1 dX8_set_29 (by decide) ?_
        refine x_callSP X hK hw (As := [.int y, .int (nI 1), .int (nI 3600)]) (rest := []) (k_X8_in hI y (nI 1) (nI 3600)) (x_cwS yX8_in cX8_in 3 (some .boolean) 3 X q909 q910 q14 q911 hd_X8_in ⟨Nat.le_of_ble_eq_true rfl, Nat.le_of_ble_eq_true rfl⟩) rfl hl.1 rfl (Nat.le_of_ble_eq_true rfl) dX8_set_45 ⟨Nat.le_of_ble_eq_true rfl, Nat.le_of_ble_eq_true rfl⟩ (fun H locs hw => ?_)
        refine lv_if_ne (tgt := 54) X.1 X.2.1 dX8_set_48 (by decide) (fun c23 => ?_) (fun c23 => ?_)
        · replace c23 := bI_nz c23
          refine lv_aload_n X.1 X.2.1 dX8_set_54 rfl (lv_at hl 0 rfl) ?_
          refine x_callVv X hK hw (k := o) (As := []) (rest := []) (k_X8_record hI o a h sn tx k kp (by omega) hF hk0 (by omega)) (x_cwV yX8_record cX8_record 2 none 0 X q912 q914 qs17 q14 q915 hd_X8_record ⟨Nat.le_of_ble_eq_true rfl, Nat.le_of_ble_eq_true rfl⟩) (by omega) hF.1 rfl rfl hl.1 rfl (Nat.le_of_ble_eq_true rfl) dX8_set_55 ⟨Nat.le_of_ble_eq_true rfl, Nat.le_of_ble_eq_true rfl⟩ (fun F24 H locs hp hw => ?_)
          obtain ⟨hF25, hr26⟩ := hp
          replace hfr := hfr.tr hr26 (by omega) (by omega)
          refine lv_aload_n X.1 X.2.1 dX8_set_58 rfl (lv_at hl 0 rfl) ?_
          refine x_get X hK hw (C := RX8) (T := TX8) (nf := 12) (k := o) (by omega) hF25.1 rfl inX8 0 (by decide) q868 (fun _ h9 => h9) rfl dX8_set_59 ?_
          refine lv_iconst (v := nI 4) X.1 X.2.1 dX8_set_62 (by decide) ?_
          refine lv_iload_n X.1 X.2.1 dX8_set_63 rfl (lv_at hl 1 rfl) ?_
          refine lv_iadd X.1 X.2.1 dX8_set_64 ?_
          refine x_top (nI_add _ _) ?_
          refine x_ialdN X hK hw (k := (o + 1)) (by omega) hF25.2.1 (i := nI (4 + x.toNatClampNeg)) (j := 4 + x.toNatClampNeg) rfl (by omega) (by omega) dX8_set_65 ?_
          refine lv_istore_n (lv' := [(3, .int (a (4 + x.toNatClampNeg))), (0, .ref (ad o)), (1, .int (nI x.toNatClampNeg)), (2, .int y)]) X.1 X.2.1 dX8_set_66 rfl hl (by decide) rfl (fun ls hl => ?_)
          refine lv_aload_n X.1 X.2.1 dX8_set_67 rfl (lv_at hl 1 rfl) ?_
          refine x_get X hK hw (C := RX8) (T := TX8) (nf := 12) (k := o) (by omega) hF25.1 rfl inX8 0 (by decide) q868 (fun _ h9 => h9) rfl dX8_set_68 ?_
          refine lv_iconst (v := nI 4) X.1 X.2.1 dX8_set_71 (by decide) ?_
          refine lv_iload_n X.1 X.2.1 dX8_set_72 rfl (lv_at hl 2 rfl) ?_
          refine lv_iadd X.1 X.2.1 dX8_set_73 ?_
          refine x_top (nI_add _ _) ?_
          refine lv_iload_n X.1 X.2.1 dX8_set_74 rfl (lv_at hl 3 rfl) ?_
          refine x_iastN2 X hI hK hw (k := (o + 1)) (by omega) hF25.2.1 (i := nI (4 + x.toNatClampNeg)) (j := 4 + x.toNatClampNeg) rfl (by omega) (by omega) dX8_set_75 (fun F27 H locs eF28 hw => ?_)
          have hF29 := MoF.st0 hF25 eF28
          have hr30 := fr_eq eF28 (Nat.le_refl _) (Nat.lt_succ_self _)
          replace hfr := hfr.tr hr30 (by omega) (by omega)
          refine lv_iload_n X.1 X.2.1 dX8_set_76 rfl (lv_at hl 0 rfl) ?_
          exact x_iret X hr hlk hK hw (v := a (4 + x.toNatClampNeg)) rfl (auto_mo (by rw [s_X8_set, if_pos c1, if_neg c4, if_pos c5, if_pos c23] : s_X8_set a h sn tx k x y kp = (a (4 + x.toNatClampNeg), (upd a (4 + x.toNatClampNeg) y), (m_hn a h kp), sn, tx, (va_up k 0 (nI (m_kn kp))))) hF29 hfr) dX8_set_77
        · replace c23 := bI_z c23
          refine lv_bipush (v := (-2)) X.1 X.2.1 dX8_set_51 (by decide) ?_
          exact x_iret X hr hlk hK hw (v := (-2)) rfl (auto_mo (by rw [s_X8_set, if_pos c1, if_neg c4, if_pos c5, if_neg c23] : s_X8_set a h sn tx k x y kp = ((-2), a, h, sn, tx, k)) hF hfr) dX8_set_53
    · refine lv_iconst (v := nI 0) X.1 X.2.1 dX8_set_17 (by decide) ?_
      refine lv_goto (tgt := 22) X.1 X.2.1 dX8_set_18 (by decide) ?_
      refine lv_iload_n X.1 X.2.1 dX8_set_22 rfl (lv_at hl 1 rfl) ?_
      refine lv_if_ne (tgt := 32) X.1 X.2.1 dX8_set_23 (by decide) (fun c31 => ?_) (fun c31 => ?_)
      · refine lv_iload_n X.1 X.2.1 dX8_set_32 rfl (lv_at hl 1 rfl) ?_
        refine lv_iconst (v := nI 1) X.1 X.2.1 dX8_set_33 (by decide) ?_
        refine lv_icmp_ne (tgt := 43) X.1 X.2.1 dX8_set_34 (by decide) (fun c32 => ?_) (fun c32 => ?_)
        · refine lv_bipush (v := nI 6) X.1 X.2.1 dX8_set_43 (by decide) ?_
          refine x_callSP X hK hw (As := [.int y, .int (nI 0), .int (nI 6)]) (rest := []) (k_X8_in hI y (nI 0) (nI 6)) (x_cwS yX8_in cX8_in 3 (some .boolean) 3 X q909 q910 q14 q911 hd_X8_in ⟨Nat.le_of_ble_eq_true rfl, Nat.le_of_ble_eq_true rfl⟩) rfl hl.1 rfl (Nat.le_of_ble_eq_true rfl) dX8_set_45 ⟨Nat.le_of_ble_eq_true rfl, Nat.le_of_ble_eq_true rfl⟩ (fun H locs hw => ?_)
          refine lv_if_ne (tgt := 54) X.1 X.2.1 dX8_set_48 (by decide) (fun c33 => ?_) (fun c33 => ?_)
          · replace c33 := bI_nz c33
            refine lv_aload_n X.1 X.2.1 dX8_set_54 rfl (lv_at hl 0 rfl) ?_
            refine x_callVv X hK hw (k := o) (As := []) (rest := []) (k_X8_record hI o a h sn tx k kp (by omega) hF hk0 (by omega)) (x_cwV yX8_record cX8_record 2 none 0 X q912 q914 qs17 q14 q915 hd_X8_record ⟨Nat.le_of_ble_eq_true rfl, Nat.le_of_ble_eq_true rfl⟩) (by omega) hF.1 rfl rfl hl.1 rfl (Nat.le_of_ble_eq_true rfl) dX8_set_55 ⟨Nat.le_of_ble_eq_true rfl, Nat.le_of_ble_eq_true rfl⟩ (fun F34 H locs hp hw => ?_)
            obtain ⟨hF35, hr36⟩ := hp
            replace hfr := hfr.tr hr36 (by omega) (by omega)
            refine lv_aload_n X.1 X.2.1 dX8_set_58 rfl (lv_at hl 0 rfl) ?_
            refine x_get X hK hw (C := RX8) (T := TX8) (nf := 12) (k := o) (by omega) hF35.1 rfl inX8 0 (by decide) q868 (fun _ h9 => h9) rfl dX8_set_59 ?_
            refine lv_iconst (v := nI 4) X.1 X.2.1 dX8_set_62 (by decide) ?_
            refine lv_iload_n X.1 X.2.1 dX8_set_63 rfl (lv_at hl 1 rfl) ?_
            refine lv_iadd X.1 X.2.1 dX8_set_64 ?_
            refine x_top (nI_add _ _) ?_
            refine x_ialdN X hK hw (k := (o + 1)) (by omega) hF35.2.1 (i := nI (4 + x.toNatClampNeg)) (j := 4 + x.toNatClampNeg) rfl (by omega) (by omega) dX8_set_65 ?_
            refine lv_istore_n (lv' := [(3, .int (a (4 + x.toNatClampNeg))), (0, .ref (ad o)), (1, .int (nI x.toNatClampNeg)), (2, .int y)]) X.1 X.2.1 dX8_set_66 rfl hl (by decide) rfl (fun ls hl => ?_)
            refine lv_aload_n X.1 X.2.1 dX8_set_67 rfl (lv_at hl 1 rfl) ?_
            refine x_get X hK hw (C := RX8) (T := TX8) (nf := 12) (k := o) (by omega) hF35.1 rfl inX8 0 (by decide) q868 (fun _ h9 => h9) rfl dX8_set_68 ?_
            refine lv_iconst (v := nI 4) X.1 X.2.1 dX8_set_71 (by decide) ?_
            refine lv_iload_n X.1 X.2.1 dX8_set_72 rfl (lv_at hl 2 rfl) ?_
            refine lv_iadd X.1 X.2.1 dX8_set_73 ?_
            refine x_top (nI_add _ _) ?_
            refine lv_iload_n X.1 X.2.1 dX8_set_74 rfl (lv_at hl 3 rfl) ?_
            refine x_iastN2 X hI hK hw (k := (o + 1)) (by omega) hF35.2.1 (i := nI (4 + x.toNatClampNeg)) (j := 4 + x.toNatClampNeg) rfl (by omega) (by omega) dX8_set_75 (fun F37 H locs eF38 hw => ?_)
            have hF39 := MoF.st0 hF35 eF38
            have hr40 := fr_eq eF38 (Nat.le_refl _) (Nat.lt_succ_self _)
            replace hfr := hfr.tr hr40 (by omega) (by omega)
            refine lv_iload_n X.1 X.2.1 dX8_set_76 rfl (lv_at hl 0 rfl) ?_
            exact x_iret X hr hlk hK hw (v := a (4 + x.toNatClampNeg)) rfl (auto_mo (by rw [s_X8_set, if_pos c1, if_pos c4, if_neg c31, if_neg c32, if_pos c33] : s_X8_set a h sn tx k x y kp = (a (4 + x.toNatClampNeg), (upd a (4 + x.toNatClampNeg) y), (m_hn a h kp), sn, tx, (va_up k 0 (nI (m_kn kp))))) hF39 hfr) dX8_set_77
          · replace c33 := bI_z c33
            refine lv_bipush (v := (-2)) X.1 X.2.1 dX8_set_51 (by decide) ?_
            exact x_iret X hr hlk hK hw (v := (-2)) rfl (auto_mo (by rw [s_X8_set, if_pos c1, if_pos c4, if_neg c31, if_neg c32, if_neg c33] : s_X8_set a h sn tx k x y kp = ((-2), a, h, sn, tx, k)) hF hfr) dX8_set_53
        · refine lv_sipush (v := nI 300) X.1 X.2.1 dX8_set_37 (by decide) ?_
          refine lv_goto (tgt := 45) X.1 X.2.1 dX8_set_40 (by decide) ?_
          refine x_callSP X hK hw (As := [.int y, .int (nI 0), .int (nI 300)]) (rest := []) (k_X8_in hI y (nI 0) (nI 300)) (x_cwS yX8_in cX8_in 3 (some .boolean) 3 X q909 q910 q14 q911 hd_X8_in ⟨Nat.le_of_ble_eq_true rfl, Nat.le_of_ble_eq_true rfl⟩) rfl hl.1 rfl (Nat.le_of_ble_eq_true rfl) dX8_set_45 ⟨Nat.le_of_ble_eq_true rfl, Nat.le_of_ble_eq_true rfl⟩ (fun H locs hw => ?_)
          refine lv_if_ne (tgt := 54) X.1 X.2.1 dX8_set_48 (by decide) (fun c41 => ?_) (fun c41 => ?_)
          · replace c41 := bI_nz c41
            refine lv_aload_n X.1 X.2.1 dX8_set_54 rfl (lv_at hl 0 rfl) ?_
            refine x_callVv X hK hw (k := o) (As := []) (rest := []) (k_X8_record hI o a h sn tx k kp (by omega) hF hk0 (by omega)) (x_cwV yX8_record cX8_record 2 none 0 X q912 q914 qs17 q14 q915 hd_X8_record ⟨Nat.le_of_ble_eq_true rfl, Nat.le_of_ble_eq_true rfl⟩) (by omega) hF.1 rfl rfl hl.1 rfl (Nat.le_of_ble_eq_true rfl) dX8_set_55 ⟨Nat.le_of_ble_eq_true rfl, Nat.le_of_ble_eq_true rfl⟩ (fun F42 H locs hp hw => ?_)
            obtain ⟨hF43, hr44⟩ := hp
            replace hfr := hfr.tr hr44 (by omega) (by omega)
            refine lv_aload_n X.1 X.2.1 dX8_set_58 rfl (lv_at hl 0 rfl) ?_
            refine x_get X hK hw (C := RX8) (T := TX8) (nf := 12) (k := o) (by omega) hF43.1 rfl inX8 0 (by decide) q868 (fun _ h9 => h9) rfl dX8_set_59 ?_
            refine lv_iconst (v := nI 4) X.1 X.2.1 dX8_set_62 (by decide) ?_
            refine lv_iload_n X.1 X.2.1 dX8_set_63 rfl (lv_at hl 1 rfl) ?_
            refine lv_iadd X.1 X.2.1 dX8_set_64 ?_
            refine x_top (nI_add _ _) ?_
            refine x_ialdN X hK hw (k := (o + 1)) (by omega) hF43.2.1 (i := nI (4 + x.toNatClampNeg)) (j := 4 + x.toNatClampNeg) rfl (by omega) (by omega) dX8_set_65 ?_
            refine lv_istore_n (lv' := [(3, .int (a (4 + x.toNatClampNeg))), (0, .ref (ad o)), (1, .int (nI x.toNatClampNeg)), (2, .int y)]) X.1 X.2.1 dX8_set_66 rfl hl (by decide) rfl (fun ls hl => ?_)
            refine lv_aload_n X.1 X.2.1 dX8_set_67 rfl (lv_at hl 1 rfl) ?_
            refine x_get X hK hw (C := RX8) (T := TX8) (nf := 12) (k := o) (by omega) hF43.1 rfl inX8 0 (by decide) q868 (fun _ h9 => h9) rfl dX8_set_68 ?_
            refine lv_iconst (v := nI 4) X.1 X.2.1 dX8_set_71 (by decide) ?_
            refine lv_iload_n X.1 X.2.1 dX8_set_72 rfl (lv_at hl 2 rfl) ?_
            refine lv_iadd X.1 X.2.1 dX8_set_73 ?_
            refine x_top (nI_add _ _) ?_
            refine lv_iload_n X.1 X.2.1 dX8_set_74 rfl (lv_at hl 3 rfl) ?_
            refine x_iastN2 X hI hK hw (k := (o + 1)) (by omega) hF43.2.1 (i := nI (4 + x.toNatClampNeg)) (j := 4 + x.toNatClampNeg) rfl (by omega) (by omega) dX8_set_75 (fun F45 H locs eF46 hw => ?_)
            have hF47 := MoF.st0 hF43 eF46
            have hr48 := fr_eq eF46 (Nat.le_refl _) (Nat.lt_succ_self _)
            replace hfr := hfr.tr hr48 (by omega) (by omega)
            refine lv_iload_n X.1 X.2.1 dX8_set_76 rfl (lv_at hl 0 rfl) ?_
            exact x_iret X hr hlk hK hw (v := a (4 + x.toNatClampNeg)) rfl (auto_mo (by rw [s_X8_set, if_pos c1, if_pos c4, if_neg c31, if_pos c32, if_pos c41] : s_X8_set a h sn tx k x y kp = (a (4 + x.toNatClampNeg), (upd a (4 + x.toNatClampNeg) y), (m_hn a h kp), sn, tx, (va_up k 0 (nI (m_kn kp))))) hF47 hfr) dX8_set_77
          · replace c41 := bI_z c41
            refine lv_bipush (v := (-2)) X.1 X.2.1 dX8_set_51 (by decide) ?_
            exact x_iret X hr hlk hK hw (v := (-2)) rfl (auto_mo (by rw [s_X8_set, if_pos c1, if_pos c4, if_neg c31, if_pos c32, if_neg c41] : s_X8_set a h sn tx k x y kp = ((-2), a, h, sn, tx, k)) hF hfr) dX8_set_53
      · refine lv_sipush (v := nI 3600) X.1 X.2.1 dX8_set_26 (by decide) ?_
        refine lv_goto (tgt := 45) X.1 X.2.1 dX8_set_29 (by decide) ?_
        refine x_callSP X hK hw (As := [.int y, .int (nI 0), .int (nI 3600)]) (rest := []) (k_X8_in hI y (nI 0) (nI 3600)) (x_cwS yX8_in cX8_in 3 (some .boolean) 3 X q909 q910 q14 q911 hd_X8_in ⟨Nat.le_of_ble_eq_true rfl, Nat.le_of_ble_eq_true rfl⟩) rfl hl.1 rfl (Nat.le_of_ble_eq_true rfl) dX8_set_45 ⟨Nat.le_of_ble_eq_true rfl, Nat.le_of_ble_eq_true rfl⟩ (fun H locs hw => ?_)
        refine lv_if_ne (tgt := 54) X.1 X.2.1 dX8_set_48 (by decide) (fun c49 => ?_) (fun c49 => ?_)
        · replace c49 := bI_nz c49
          refine lv_aload_n X.1 X.2.1 dX8_set_54 rfl (lv_at hl 0 rfl) ?_
          refine x_callVv X hK hw (k := o) (As := []) (rest := []) (k_X8_record hI o a h sn tx k kp (by omega) hF hk0 (by omega)) (x_cwV yX8_record cX8_record 2 none 0 X q912 q914 qs17 q14 q915 hd_X8_record ⟨Nat.le_of_ble_eq_true rfl, Nat.le_of_ble_eq_true rfl⟩) (by omega) hF.1 rfl rfl hl.1 rfl (Nat.le_of_ble_eq_true rfl) dX8_set_55 ⟨Nat.le_of_ble_eq_true rfl, Nat.le_of_ble_eq_true rfl⟩ (fun F50 H locs hp hw => ?_)
          obtain ⟨hF51, hr52⟩ := hp
          replace hfr := hfr.tr hr52 (by omega) (by omega)
          refine lv_aload_n X.1 X.2.1 dX8_set_58 rfl (lv_at hl 0 rfl) ?_
          refine x_get X hK hw (C := RX8) (T := TX8) (nf := 12) (k := o) (by omega) hF51.1 rfl inX8 0 (by decide) q868 (fun _ h9 => h9) rfl dX8_set_59 ?_
          refine lv_iconst (v := nI 4) X.1 X.2.1 dX8_set_62 (by decide) ?_
          refine lv_iload_n X.1 X.2.1 dX8_set_63 rfl (lv_at hl 1 rfl) ?_
          refine lv_iadd X.1 X.2.1 dX8_set_64 ?_
          refine x_top (nI_add _ _) ?_
          refine x_ialdN X hK hw (k := (o + 1)) (by omega) hF51.2.1 (i := nI (4 + x.toNatClampNeg)) (j := 4 + x.toNatClampNeg) rfl (by omega) (by omega) dX8_set_65 ?_
          refine lv_istore_n (lv' := [(3, .int (a (4 + x.toNatClampNeg))), (0, .ref (ad o)), (1, .int (nI x.toNatClampNeg)), (2, .int y)]) X.1 X.2.1 dX8_set_66 rfl hl (by decide) rfl (fun ls hl => ?_)
          refine lv_aload_n X.1 X.2.1 dX8_set_67 rfl (lv_at hl 1 rfl) ?_
          refine x_get X hK hw (C := RX8) (T := TX8) (nf := 12) (k := o) (by omega) hF51.1 rfl inX8 0 (by decide) q868 (fun _ h9 => h9) rfl dX8_set_68 ?_
          refine lv_iconst (v := nI 4) X.1 X.2.1 dX8_set_71 (by decide) ?_
          refine lv_iload_n X.1 X.2.1 dX8_set_72 rfl (lv_at hl 2 rfl) ?_
          refine lv_iadd X.1 X.2.1 dX8_set_73 ?_
          refine x_top (nI_add _ _) ?_
          refine lv_iload_n X.1 X.2.1 dX8_set_74 rfl (lv_at hl 3 rfl) ?_
          refine x_iastN2 X hI hK hw (k := (o + 1)) (by omega) hF51.2.1 (i := nI (4 + x.toNatClampNeg)) (j := 4 + x.toNatClampNeg) rfl (by omega) (by omega) dX8_set_75 (fun F53 H locs eF54 hw => ?_)
          have hF55 := MoF.st0 hF51 eF54
          have hr56 := fr_eq eF54 (Nat.le_refl _) (Nat.lt_succ_self _)
          replace hfr := hfr.tr hr56 (by omega) (by omega)
          refine lv_iload_n X.1 X.2.1 dX8_set_76 rfl (lv_at hl 0 rfl) ?_
          exact x_iret X hr hlk hK hw (v := a (4 + x.toNatClampNeg)) rfl (auto_mo (by rw [s_X8_set, if_pos c1, if_pos c4, if_pos c31, if_pos c49] : s_X8_set a h sn tx k x y kp = (a (4 + x.toNatClampNeg), (upd a (4 + x.toNatClampNeg) y), (m_hn a h kp), sn, tx, (va_up k 0 (nI (m_kn kp))))) hF55 hfr) dX8_set_77
        · replace c49 := bI_z c49
          refine lv_bipush (v := (-2)) X.1 X.2.1 dX8_set_51 (by decide) ?_
          exact x_iret X hr hlk hK hw (v := (-2)) rfl (auto_mo (by rw [s_X8_set, if_pos c1, if_pos c4, if_pos c31, if_neg c49] : s_X8_set a h sn tx k x y kp = ((-2), a, h, sn, tx, k)) hF hfr) dX8_set_53
  · replace c1 := bI_z c1
    refine lv_iconst (v := (-1)) X.1 X.2.1 dX8_set_9 (by decide) ?_
    exact x_iret X hr hlk hK hw (v := (-1)) rfl (auto_mo (by rw [s_X8_set, if_neg c1] : s_X8_set a h sn tx k x y kp = ((-1), a, h, sn, tx, k)) hF hfr) dX8_set_10
theorem kp_pos {k : Nat → Int32} {kp : Nat} (hk : k 0 = nI kp) (h : ¬ k 0 = 0) : 0 < kp := by
  rcases Nat.eq_zero_or_pos kp with q | q
  · exact absurd (by rw [hk, q]; rfl) h
  · exact q
def s_X8_undo (a : Nat → Int32) (h : Nat → Int32) (sn : Nat → Int32) (tx : Nat → Int32) (k : Nat → Int32) (kp : Nat) : Int32 × (Nat → Int32) × (Nat → Int32) × (Nat → Int32) × (Nat → Int32) × (Nat → Int32) := (if (k 0) = 0 then ((-5), a, h, sn, tx, k) else ((va_up k 0 (nI (kp - 1))) 0, (cpy h a (404 * (kp - 1)) 0 404), h, sn, tx, (va_up k 0 (nI (kp - 1)))))
set_option maxHeartbeats 4000000 in
set_option maxRecDepth 100000 in
theorem k_X8_undo {l : Launch} {D : va_G} {cI cB cS : ClassId} {ad : Nat → Nat} {N : Nat} {F : Nat → va_E} (hI : iN ad N) (o : Nat) (a : Nat → Int32) (h : Nat → Int32) (sn : Nat → Int32) (tx : Nat → Int32) (k : Nat → Int32) (kp : Nat) (hc5 : o + 5 ≤ N) (hF : MoF ad cI F o a h sn tx k) (hk0 : k 0 = nI kp) (hk4 : kp ≤ 4) : Ci l D cI cB cS ad N yX8_undo cX8_undo 1 (some .int) 1 24 [.ref (ad o)] F (fun r F' => r = (s_X8_undo a h sn tx k kp).1 ∧ MoF ad cI F' o ((s_X8_undo a h sn tx k kp).2.1) ((s_X8_undo a h sn tx k kp).2.2.1) ((s_X8_undo a h sn tx k kp).2.2.2.1) ((s_X8_undo a h sn tx k kp).2.2.2.2.1) ((s_X8_undo a h sn tx k kp).2.2.2.2.2) ∧ Fr F F' o (o + 5)) := by
  refine x_met (by decide +kernel) (Nat.le_of_ble_eq_true rfl) ?_
  intro p e s m below meth c X hr hlk hK hw ls hl
  replace hl : lv_has ls 1 [(0, .ref (ad o))] := hl
  have hfr : Fr F F (o) (o + 5) := Fr.rf
  refine lv_aload_n X.1 X.2.1 dX8_undo_0 rfl (lv_at hl 0 rfl) ?_
  refine x_get X hK hw (C := RX8) (T := TX8) (nf := 12) (k := o) (by omega) hF.1 rfl inX8 2 (by decide) q870 (fun _ h9 => h9) rfl dX8_undo_1 ?_
  refine lv_if_ne (tgt := 10) X.1 X.2.1 dX8_undo_4 (by decide) (fun c1 => ?_) (fun c1 => ?_)
  · have hkp := kp_pos hk0 c1
    refine lv_aload_n X.1 X.2.1 dX8_undo_10 rfl (lv_at hl 0 rfl) ?_
    refine lv_dup X.1 X.2.1 dX8_undo_11 rfl ?_
    refine x_get X hK hw (C := RX8) (T := TX8) (nf := 12) (k := o) (by omega) hF.1 rfl inX8 2 (by decide) q870 (fun _ h9 => h9) rfl dX8_undo_12 ?_
    refine lv_iconst (v := nI 1) X.1 X.2.1 dX8_undo_15 (by decide) ?_
    refine lv_isub X.1 X.2.1 dX8_undo_16 ?_
    refine x_top (y := nI (kp - 1)) (by rw [hk0]; exact pk_sub hkp) ?_
    refine x_put2 X hI hK hw (C := RX8) (T := TX8) (nf := 12) (k := o) (ty := .int) (v := .int (nI (kp - 1))) (by omega) hF.1 rfl inX8 tyX8 tyX8_ok nmX8 2 (by decide) q870 (fun _ h9 => h9) rfl (by decide +kernel) rfl rfl (Nat.le_of_ble_eq_true rfl) dX8_undo_17 (fun F2 H locs eF3 hw => ?_)
    have hF4 : MoF ad cI F2 o a h sn tx (va_up k 0 (nI (kp - 1))) := by rw [eF3]; exact MoF.pt hF 0 (nI (kp - 1)) _ rfl
    have hr5 := fr_eq eF3 (Nat.le_refl _) (Nat.lt_succ_self _)
    replace hfr := hfr.tr hr5 (by omega) (by omega)
    refine lv_aload_n X.1 X.2.1 dX8_undo_20 rfl (lv_at hl 0 rfl) ?_
    refine x_get X hK hw (C := RX8) (T := TX8) (nf := 12) (k := o) (by omega) hF4.1 rfl inX8 1 (by decide) q869 (fun _ h9 => h9) rfl dX8_undo_21 ?_
    refine lv_sipush (v := nI 404) X.1 X.2.1 dX8_undo_24 (by decide) ?_
    refine lv_aload_n X.1 X.2.1 dX8_undo_27 rfl (lv_at hl 0 rfl) ?_
    refine x_get X hK hw (C := RX8) (T := TX8) (nf := 12) (k := o) (by omega) hF4.1 rfl inX8 2 (by decide) q870 (fun _ h9 => h9) rfl dX8_undo_28 ?_
    refine x_top (y := nI (kp - 1)) rfl ?_
    refine lv_imul X.1 X.2.1 dX8_undo_31 ?_
    refine x_top (pk_mul _ _) ?_
    refine lv_aload_n X.1 X.2.1 dX8_undo_32 rfl (lv_at hl 0 rfl) ?_
    refine x_get X hK hw (C := RX8) (T := TX8) (nf := 12) (k := o) (by omega) hF4.1 rfl inX8 0 (by decide) q868 (fun _ h9 => h9) rfl dX8_undo_33 ?_
    refine lv_iconst (v := nI 0) X.1 X.2.1 dX8_undo_36 (by decide) ?_
    refine x_callSv X hK hw (As := [.ref (ad (o + 2)), .int (nI (404 * (kp - 1))), .ref (ad (o + 1)), .int (nI 0)]) (rest := []) (k_X8_copy hI ((o + 2)) 1616 h ((o + 1)) 404 a (404 * (kp - 1)) 0 (by omega) (by omega) hF4.2.2.1 hF4.2.1 (by omega) (by omega) (by omega) (by omega) (by omega)) (x_cwS yX8_copy cX8_copy 5 none 4 X q916 q917 q14 q918 hd_X8_copy ⟨Nat.le_of_ble_eq_true rfl, Nat.le_of_ble_eq_true rfl⟩) rfl hl.1 rfl (Nat.le_of_ble_eq_true rfl) dX8_undo_37 ⟨Nat.le_of_ble_eq_true rfl, Nat.le_of_ble_eq_true rfl⟩ (fun F6 H locs hp hw => ?_)
    obtain ⟨hT7, hr8⟩ := hp
    have hF9 := MoF.ar0 hF4 hT7 hr8
    replace hfr := hfr.tr hr8 (by omega) (by omega)
    refine lv_aload_n X.1 X.2.1 dX8_undo_40 rfl (lv_at hl 0 rfl) ?_
    refine x_get X hK hw (C := RX8) (T := TX8) (nf := 12) (k := o) (by omega) hF9.1 rfl inX8 2 (by decide) q870 (fun _ h9 => h9) rfl dX8_undo_41 ?_
    exact x_iret X hr hlk hK hw (v := (va_up k 0 (nI (kp - 1))) 0) rfl (auto_mo (by rw [s_X8_undo, if_neg c1] : s_X8_undo a h sn tx k kp = ((va_up k 0 (nI (kp - 1))) 0, (cpy h a (404 * (kp - 1)) 0 404), h, sn, tx, (va_up k 0 (nI (kp - 1))))) hF9 hfr) dX8_undo_44
  · refine lv_bipush (v := (-5)) X.1 X.2.1 dX8_undo_7 (by decide) ?_
    exact x_iret X hr hlk hK hw (v := (-5)) rfl (auto_mo (by rw [s_X8_undo, if_pos c1] : s_X8_undo a h sn tx k kp = ((-5), a, h, sn, tx, k)) hF hfr) dX8_undo_9
def s_X8_save (a : Nat → Int32) (h : Nat → Int32) (sn : Nat → Int32) (tx : Nat → Int32) (k : Nat → Int32) : Int32 × (Nat → Int32) × (Nat → Int32) × (Nat → Int32) × (Nat → Int32) × (Nat → Int32) := (a 0, a, h, (cpy a sn 0 0 404), tx, (va_up k 1 (nI 1)))
set_option maxHeartbeats 4000000 in
set_option maxRecDepth 100000 in
theorem k_X8_save {l : Launch} {D : va_G} {cI cB cS : ClassId} {ad : Nat → Nat} {N : Nat} {F : Nat → va_E} (hI : iN ad N) (o : Nat) (a : Nat → Int32) (h : Nat → Int32) (sn : Nat → Int32) (tx : Nat → Int32) (k : Nat → Int32) (hc5 : o + 5 ≤ N) (hF : MoF ad cI F o a h sn tx k) : Ci l D cI cB cS ad N yX8_save cX8_save 1 (some .int) 1 24 [.ref (ad o)] F (fun r F' => r = (s_X8_save a h sn tx k).1 ∧ MoF ad cI F' o ((s_X8_save a h sn tx k).2.1) ((s_X8_save a h sn tx k).2.2.1) ((s_X8_save a h sn tx k).2.2.2.1) ((s_X8_save a h sn tx k).2.2.2.2.1) ((s_X8_save a h sn tx k).2.2.2.2.2) ∧ Fr F F' o (o + 5)) := by
  refine x_met (by decide +kernel) (Nat.le_of_ble_eq_true rfl) ?_
  intro p e s m below meth c X hr hlk hK hw ls hl
  replace hl : lv_has ls 1 [(0, .ref (ad o))] := hl
  have hfr : Fr F F (o) (o + 5) := Fr.rf
  refine lv_aload_n X.1 X.2.1 dX8_save_0 rfl (lv_at hl 0 rfl) ?_
  refine x_get X hK hw (C := RX8) (T := TX8) (nf := 12) (k := o) (by omega) hF.1 rfl inX8 0 (by decide) q868 (fun _ h9 => h9) rfl dX8_save_1 ?_
  refine lv_iconst (v := nI 0) X.1 X.2.1 dX8_save_4 (by decide) ?_
  refine lv_aload_n X.1 X.2.1 dX8_save_5 rfl (lv_at hl 0 rfl) ?_
  refine x_get X hK hw (C := RX8) (T := TX8) (nf := 12) (k := o) (by omega) hF.1 rfl inX8 3 (by decide) q871 (fun _ h9 => h9) rfl dX8_save_6 ?_
  refine lv_iconst (v := nI 0) X.1 X.2.1 dX8_save_9 (by decide) ?_
  refine x_callSv X hK hw (As := [.ref (ad (o + 1)), .int (nI 0), .ref (ad (o + 3)), .int (nI 0)]) (rest := []) (k_X8_copy hI ((o + 1)) 404 a ((o + 3)) 404 sn 0 0 (by omega) (by omega) hF.2.1 hF.2.2.2.1 (by omega) (by omega) (by omega) (by omega) (by omega)) (x_cwS yX8_copy cX8_copy 5 none 4 X q916 q917 q14 q918 hd_X8_copy ⟨Nat.le_of_ble_eq_true rfl, Nat.le_of_ble_eq_true rfl⟩) rfl hl.1 rfl (Nat.le_of_ble_eq_true rfl) dX8_save_10 ⟨Nat.le_of_ble_eq_true rfl, Nat.le_of_ble_eq_true rfl⟩ (fun F1 H locs hp hw => ?_)
  obtain ⟨hT2, hr3⟩ := hp
  have hF4 := MoF.ar2 hF hT2 hr3
  replace hfr := hfr.tr hr3 (by omega) (by omega)
  refine lv_aload_n X.1 X.2.1 dX8_save_13 rfl (lv_at hl 0 rfl) ?_
  refine lv_iconst (v := nI 1) X.1 X.2.1 dX8_save_14 (by decide) ?_
  refine x_put2 X hI hK hw (C := RX8) (T := TX8) (nf := 12) (k := o) (ty := .boolean) (v := .int (nI 1)) (by omega) hF4.1 rfl inX8 tyX8 tyX8_ok nmX8 4 (by decide) q872 (fun _ h9 => h9) rfl (by decide +kernel) (by decide +kernel) rfl (Nat.le_of_ble_eq_true rfl) dX8_save_15 (fun F5 H locs eF6 hw => ?_)
  have hF7 : MoF ad cI F5 o a h ((cpy a sn 0 0 404)) tx (va_up k 1 (nI 1)) := by rw [eF6]; exact MoF.pt hF4 1 (nI 1) _ rfl
  have hr8 := fr_eq eF6 (Nat.le_refl _) (Nat.lt_succ_self _)
  replace hfr := hfr.tr hr8 (by omega) (by omega)
  refine lv_aload_n X.1 X.2.1 dX8_save_18 rfl (lv_at hl 0 rfl) ?_
  refine x_get X hK hw (C := RX8) (T := TX8) (nf := 12) (k := o) (by omega) hF7.1 rfl inX8 0 (by decide) q868 (fun _ h9 => h9) rfl dX8_save_19 ?_
  refine lv_iconst (v := nI 0) X.1 X.2.1 dX8_save_22 (by decide) ?_
  refine x_ialdN X hK hw (k := (o + 1)) (by omega) hF7.2.1 (i := nI 0) (j := 0) rfl (by omega) (by omega) dX8_save_23 ?_
  exact x_iret X hr hlk hK hw (v := a 0) rfl (auto_mo (by rfl : s_X8_save a h sn tx k = (a 0, a, h, (cpy a sn 0 0 404), tx, (va_up k 1 (nI 1)))) hF7 hfr) dX8_save_24
def s_X8_restore (a : Nat → Int32) (h : Nat → Int32) (sn : Nat → Int32) (tx : Nat → Int32) (k : Nat → Int32) (kp : Nat) : Int32 × (Nat → Int32) × (Nat → Int32) × (Nat → Int32) × (Nat → Int32) × (Nat → Int32) := (if (k 1) = 0 then ((-4), a, h, sn, tx, k) else ((cpy sn a 0 0 404) 0, (cpy sn a 0 0 404), (m_hn a h kp), sn, tx, (va_up k 0 (nI (m_kn kp)))))
set_option maxHeartbeats 4000000 in
set_option maxRecDepth 100000 in
theorem k_X8_restore {l : Launch} {D : va_G} {cI cB cS : ClassId} {ad : Nat → Nat} {N : Nat} {F : Nat → va_E} (hI : iN ad N) (o : Nat) (a : Nat → Int32) (h : Nat → Int32) (sn : Nat → Int32) (tx : Nat → Int32) (k : Nat → Int32) (kp : Nat) (hc5 : o + 5 ≤ N) (hF : MoF ad cI F o a h sn tx k) (hk0 : k 0 = nI kp) (hk4 : kp ≤ 4) : Ci l D cI cB cS ad N yX8_restore cX8_restore 1 (some .int) 2 45 [.ref (ad o)] F (fun r F' => r = (s_X8_restore a h sn tx k kp).1 ∧ MoF ad cI F' o ((s_X8_restore a h sn tx k kp).2.1) ((s_X8_restore a h sn tx k kp).2.2.1) ((s_X8_restore a h sn tx k kp).2.2.2.1) ((s_X8_restore a h sn tx k kp).2.2.2.2.1) ((s_X8_restore a h sn tx k kp).2.2.2.2.2) ∧ Fr F F' o (o + 5)) := by
  refine x_met (by decide +kernel) (Nat.le_of_ble_eq_true rfl) ?_
  intro p e s m below meth c X hr hlk hK hw ls hl
  replace hl : lv_has ls 1 [(0, .ref (ad o))] := hl
  have hfr : Fr F F (o) (o + 5) := Fr.rf
  refine lv_aload_n X.1 X.2.1 dX8_restore_0 rfl (lv_at hl 0 rfl) ?_
  refine x_get X hK hw (C := RX8) (T := TX8) (nf := 12) (k := o) (by omega) hF.1 rfl inX8 4 (by decide) q872 (fun _ h9 => h9) rfl dX8_restore_1 ?_
  refine lv_if_ne (tgt := 10) X.1 X.2.1 dX8_restore_4 (by decide) (fun c1 => ?_) (fun c1 => ?_)
  · refine lv_aload_n X.1 X.2.1 dX8_restore_10 rfl (lv_at hl 0 rfl) ?_
    refine x_callVv X hK hw (k := o) (As := []) (rest := []) (k_X8_record hI o a h sn tx k kp (by omega) hF hk0 (by omega)) (x_cwV yX8_record cX8_record 2 none 0 X q912 q914 qs17 q14 q915 hd_X8_record ⟨Nat.le_of_ble_eq_true rfl, Nat.le_of_ble_eq_true rfl⟩) (by omega) hF.1 rfl rfl hl.1 rfl (Nat.le_of_ble_eq_true rfl) dX8_restore_11 ⟨Nat.le_of_ble_eq_true rfl, Nat.le_of_ble_eq_true rfl⟩ (fun F2 H locs hp hw => ?_)
    obtain ⟨hF3, hr4⟩ := hp
    replace hfr := hfr.tr hr4 (by omega) (by omega)
    refine lv_aload_n X.1 X.2.1 dX8_restore_14 rfl (lv_at hl 0 rfl) ?_
    refine x_get X hK hw (C := RX8) (T := TX8) (nf := 12) (k := o) (by omega) hF3.1 rfl inX8 3 (by decide) q871 (fun _ h9 => h9) rfl dX8_restore_15 ?_
    refine lv_iconst (v := nI 0) X.1 X.2.1 dX8_restore_18 (by decide) ?_
    refine lv_aload_n X.1 X.2.1 dX8_restore_19 rfl (lv_at hl 0 rfl) ?_
    refine x_get X hK hw (C := RX8) (T := TX8) (nf := 12) (k := o) (by omega) hF3.1 rfl inX8 0 (by decide) q868 (fun _ h9 => h9) rfl dX8_restore_20 ?_
    refine lv_iconst (v := nI 0) X.1 X.2.1 dX8_restore_23 (by decide) ?_
    refine x_callSv X hK hw (As := [.ref (ad (o + 3)), .int (nI 0), .ref (ad (o + 1)), .int (nI 0)]) (rest := []) (k_X8_copy hI ((o + 3)) 404 sn ((o + 1)) 404 a 0 0 (by omega) (by omega) hF3.2.2.2.1 hF3.2.1 (by omega) (by omega) (by omega) (by omega) (by omega)) (x_cwS yX8_copy cX8_copy 5 none 4 X q916 q917 q14 q918 hd_X8_copy ⟨Nat.le_of_ble_eq_true rfl, Nat.le_of_ble_eq_true rfl⟩) rfl hl.1 rfl (Nat.le_of_ble_eq_true rfl) dX8_restore_24 ⟨Nat.le_of_ble_eq_true rfl, Nat.le_of_ble_eq_true rfl⟩ (fun F5 H locs hp hw => ?_)
    obtain ⟨hT6, hr7⟩ := hp
    have hF8 := MoF.ar0 hF3 hT6 hr7
    replace hfr := hfr.tr hr7 (by omega) (by omega)
    refine lv_aload_n X.1 X.2.1 dX8_restore_27 rfl (lv_at hl 0 rfl) ?_
    refine x_get X hK hw (C := RX8) (T := TX8) (nf := 12) (k := o) (by omega) hF8.1 rfl inX8 0 (by decide) q868 (fun _ h9 => h9) rfl dX8_restore_28 ?_
    refine lv_iconst (v := nI 0) X.1 X.2.1 dX8_restore_31 (by decide) ?_
    refine x_ialdN X hK hw (k := (o + 1)) (by omega) hF8.2.1 (i := nI 0) (j := 0) rfl (by omega) (by omega) dX8_restore_32 ?_
    exact x_iret X hr hlk hK hw (v := (cpy sn a 0 0 404) 0) rfl (auto_mo (by rw [s_X8_restore, if_neg c1] : s_X8_restore a h sn tx k kp = ((cpy sn a 0 0 404) 0, (cpy sn a 0 0 404), (m_hn a h kp), sn, tx, (va_up k 0 (nI (m_kn kp))))) hF8 hfr) dX8_restore_33
  · refine lv_bipush (v := (-4)) X.1 X.2.1 dX8_restore_7 (by decide) ?_
    exact x_iret X hr hlk hK hw (v := (-4)) rfl (auto_mo (by rw [s_X8_restore, if_pos c1] : s_X8_restore a h sn tx k kp = ((-4), a, h, sn, tx, k)) hF hfr) dX8_restore_9
theorem err_neg {x : Int32} (h : x < 0) : ¬ 0 ≤ x := Int32.not_le.mpr h
theorem le_ok {a : Nat → Int32} {x : Int32} {nr : Nat} (h : 0 ≤ s_X8_lineError a x nr) : (¬ x < nI 0 ∧ ¬ a 1 - nI 1 < x) ∧ 0 < nr := by
  unfold s_X8_lineError at h
  by_cases c1 : ¬ x < nI 0 ∧ ¬ a 1 - nI 1 < x
  · rw [if_pos c1] at h
    by_cases c2 : 0 < nr ∧ m_r a (nr - 1) 3 = 0
    · exact ⟨c1, c2.1⟩
    · rw [if_neg c2] at h; exact absurd h (by decide)
  · rw [if_neg c1] at h; exact absurd h (by decide)
theorem re_ok {a : Nat → Int32} {x : Int32} {nr : Nat} (h : 0 ≤ s_X8_retireError a x nr) : (¬ x < nI 0 ∧ ¬ a 1 - nI 1 < x) ∧ 0 < nr := by
  unfold s_X8_retireError at h
  by_cases c1 : ¬ x < nI 0 ∧ ¬ a 1 - nI 1 < x
  · rw [if_pos c1] at h
    by_cases c2 : 0 < nr ∧ m_r a (nr - 1) 3 = 0
    · exact ⟨c1, c2.1⟩
    · rw [if_neg c2] at h; exact absurd h (by decide)
  · rw [if_neg c1] at h; exact absurd h (by decide)
theorem be_ok {a : Nat → Int32} {x y : Int32} {nr : Nat} (h : 0 ≤ s_X8_buoyError a x y nr) : (¬ x < nI 0 ∧ ¬ a 1 - nI 1 < x) ∧ 0 < nr := by
  unfold s_X8_buoyError at h
  by_cases c1 : ¬ x < nI 0 ∧ ¬ a 1 - nI 1 < x
  · rw [if_pos c1] at h
    by_cases c2 : 0 < nr ∧ m_r a (nr - 1) 3 = 0
    · exact ⟨c1, c2.1⟩
    · rw [if_neg c2] at h; exact absurd h (by decide)
  · rw [if_neg c1] at h; exact absurd h (by decide)
-- gates
theorem hd_X8_doLine : yX8_doLine.cls = RX8 ∧ yX8_doLine.cls ≠ "java/lang/invoke/MethodHandle" ∧ yX8_doLine.cls ≠ "java/lang/invoke/VarHandle" ∧ (parseMethodDescriptor yX8_doLine.desc).map (fun d => d.parameters.length) = some 1 := by decide +kernel
theorem hd_X8_lineError : yX8_lineError.cls = RX8 ∧ yX8_lineError.cls ≠ "java/lang/invoke/MethodHandle" ∧ yX8_lineError.cls ≠ "java/lang/invoke/VarHandle" ∧ (parseMethodDescriptor yX8_lineError.desc).map (fun d => d.parameters.length) = some 1 := by decide +kernel
def s_X8_line (a : Nat → Int32) (h : Nat → Int32) (sn : Nat → Int32) (tx : Nat → Int32) (k : Nat → Int32) (x : Int32) (nr : Nat) (kp : Nat) : Int32 × (Nat → Int32) × (Nat → Int32) × (Nat → Int32) × (Nat → Int32) × (Nat → Int32) := (if 0 ≤ (s_X8_lineError a x nr) then ((s_X8_doLine a ((m_hn a h kp)) sn tx ((va_up k 0 (nI (m_kn kp)))) x.toNatClampNeg nr).1, ((s_X8_doLine a ((m_hn a h kp)) sn tx ((va_up k 0 (nI (m_kn kp)))) x.toNatClampNeg nr).2.1), ((s_X8_doLine a ((m_hn a h kp)) sn tx ((va_up k 0 (nI (m_kn kp)))) x.toNatClampNeg nr).2.2.1), ((s_X8_doLine a ((m_hn a h kp)) sn tx ((va_up k 0 (nI (m_kn kp)))) x.toNatClampNeg nr).2.2.2.1), ((s_X8_doLine a ((m_hn a h kp)) sn tx ((va_up k 0 (nI (m_kn kp)))) x.toNatClampNeg nr).2.2.2.2.1), ((s_X8_doLine a ((m_hn a h kp)) sn tx ((va_up k 0 (nI (m_kn kp)))) x.toNatClampNeg nr).2.2.2.2.2)) else (s_X8_lineError a x nr, a, h, sn, tx, k))
set_option maxHeartbeats 4000000 in
set_option maxRecDepth 100000 in
theorem k_X8_line {l : Launch} {D : va_G} {cI cB cS : ClassId} {ad : Nat → Nat} {N : Nat} {F : Nat → va_E} (hI : iN ad N) (o : Nat) (a : Nat → Int32) (h : Nat → Int32) (sn : Nat → Int32) (tx : Nat → Int32) (k : Nat → Int32) (x : Int32) (nb : Nat) (nr : Nat) (kp : Nat) (hc5 : o + 5 ≤ N) (hF : MoF ad cI F o a h sn tx k) (h1 : a 1 = nI nb) (hb9 : nb ≤ 9) (h2 : a 2 = nI nr) (hr6 : nr ≤ 6) (hk0 : k 0 = nI kp) (hk4 : kp ≤ 4) : Ci l D cI cB cS ad N yX8_line cX8_line 3 (some .int) 3 67 [.ref (ad o), .int x] F (fun r F' => r = (s_X8_line a h sn tx k x nr kp).1 ∧ MoF ad cI F' o ((s_X8_line a h sn tx k x nr kp).2.1) ((s_X8_line a h sn tx k x nr kp).2.2.1) ((s_X8_line a h sn tx k x nr kp).2.2.2.1) ((s_X8_line a h sn tx k x nr kp).2.2.2.2.1) ((s_X8_line a h sn tx k x nr kp).2.2.2.2.2) ∧ Fr F F' o (o + 5)) := by
  refine x_met (by decide +kernel) (Nat.le_of_ble_eq_true rfl) ?_
  intro p e s m below meth c X hr hlk hK hw ls hl
  replace hl : lv_has ls 3 [(0, .ref (ad o)), (1, .int x)] := hl
  have hfr : Fr F F (o) (o + 5) := Fr.rf
  refine lv_aload_n X.1 X.2.1 dX8_line_0 rfl (lv_at hl 0 rfl) ?_
  refine lv_iload_n X.1 X.2.1 dX8_line_1 rfl (lv_at hl 1 rfl) ?_
  refine x_callVP X hK hw (k := o) (As := [.int x]) (rest := []) (k_X8_lineError hI o a h sn tx k x nb nr (by omega) hF h1 (by omega) h2 (by omega)) (x_cwV yX8_lineError cX8_lineError 3 (some .int) 1 X q972 q974 qs26 q14 q975 hd_X8_lineError ⟨Nat.le_of_ble_eq_true rfl, Nat.le_of_ble_eq_true rfl⟩) (by omega) hF.1 rfl rfl hl.1 rfl (Nat.le_of_ble_eq_true rfl) dX8_line_2 ⟨Nat.le_of_ble_eq_true rfl, Nat.le_of_ble_eq_true rfl⟩ (fun H locs hw => ?_)
  refine lv_istore_n (lv' := [(2, .int (s_X8_lineError a x nr)), (0, .ref (ad o)), (1, .int x)]) X.1 X.2.1 dX8_line_5 rfl hl (by decide) rfl (fun ls hl => ?_)
  refine lv_iload_n X.1 X.2.1 dX8_line_6 rfl (lv_at hl 0 rfl) ?_
  refine lv_if_ge (tgt := 12) X.1 X.2.1 dX8_line_7 (by decide) (fun c1 => ?_) (fun c1 => ?_)
  · have ⟨hq, hn⟩ := le_ok c1
    have ⟨hj, hx⟩ := isb_of (n := nb) hq h1 (by omega)
    replace hl : lv_has ls 3 [(2, .int (s_X8_lineError a x nr)), (0, .ref (ad o)), (1, .int (nI x.toNatClampNeg))] := by rw [← hx]; exact hl
    refine lv_aload_n X.1 X.2.1 dX8_line_12 rfl (lv_at hl 1 rfl) ?_
    refine x_callVv X hK hw (k := o) (As := []) (rest := []) (k_X8_record hI o a h sn tx k kp (by omega) hF hk0 (by omega)) (x_cwV yX8_record cX8_record 2 none 0 X q912 q914 qs17 q14 q915 hd_X8_record ⟨Nat.le_of_ble_eq_true rfl, Nat.le_of_ble_eq_true rfl⟩) (by omega) hF.1 rfl rfl hl.1 rfl (Nat.le_of_ble_eq_true rfl) dX8_line_13 ⟨Nat.le_of_ble_eq_true rfl, Nat.le_of_ble_eq_true rfl⟩ (fun F2 H locs hp hw => ?_)
    obtain ⟨hF3, hr4⟩ := hp
    replace hfr := hfr.tr hr4 (by omega) (by omega)
    refine lv_aload_n X.1 X.2.1 dX8_line_16 rfl (lv_at hl 1 rfl) ?_
    refine lv_iload_n X.1 X.2.1 dX8_line_17 rfl (lv_at hl 2 rfl) ?_
    refine x_callV X hK hw (k := o) (As := [.int (nI x.toNatClampNeg)]) (rest := []) (k_X8_doLine hI o a ((m_hn a h kp)) sn tx ((va_up k 0 (nI (m_kn kp)))) x.toNatClampNeg nr (by omega) hF3 h2 (by omega) hn (by omega)) (x_cwV yX8_doLine cX8_doLine 4 (some .int) 1 X q992 q994 qs31 q14 q995 hd_X8_doLine ⟨Nat.le_of_ble_eq_true rfl, Nat.le_of_ble_eq_true rfl⟩) (by omega) hF3.1 rfl rfl hl.1 rfl (Nat.le_of_ble_eq_true rfl) dX8_line_18 ⟨Nat.le_of_ble_eq_true rfl, Nat.le_of_ble_eq_true rfl⟩ (fun r8 F5 H locs hp hw => ?_)
    obtain ⟨er9, hF6, hr7⟩ := hp
    refine x_top er9 ?_
    replace hfr := hfr.tr hr7 (by omega) (by omega)
    exact x_iret X hr hlk hK hw (v := (s_X8_doLine a ((m_hn a h kp)) sn tx ((va_up k 0 (nI (m_kn kp)))) x.toNatClampNeg nr).1) rfl (auto_mo (by rw [s_X8_line, if_pos c1] : s_X8_line a h sn tx k x nr kp = ((s_X8_doLine a ((m_hn a h kp)) sn tx ((va_up k 0 (nI (m_kn kp)))) x.toNatClampNeg nr).1, ((s_X8_doLine a ((m_hn a h kp)) sn tx ((va_up k 0 (nI (m_kn kp)))) x.toNatClampNeg nr).2.1), ((s_X8_doLine a ((m_hn a h kp)) sn tx ((va_up k 0 (nI (m_kn kp)))) x.toNatClampNeg nr).2.2.1), ((s_X8_doLine a ((m_hn a h kp)) sn tx ((va_up k 0 (nI (m_kn kp)))) x.toNatClampNeg nr).2.2.2.1), ((s_X8_doLine a ((m_hn a h kp)) sn tx ((va_up k 0 (nI (m_kn kp)))) x.toNatClampNeg nr).2.2.2.2.1), ((s_X8_doLine a ((m_hn a h kp)) sn tx ((va_up k 0 (nI (m_kn kp)))) x.toNatClampNeg nr).2.2.2.2.2))) hF6 hfr) dX8_line_21
  · refine lv_iload_n X.1 X.2.1 dX8_line_10 rfl (lv_at hl 0 rfl) ?_
    exact x_iret X hr hlk hK hw (v := s_X8_lineError a x nr) rfl (auto_mo (by rw [s_X8_line, if_neg c1] : s_X8_line a h sn tx k x nr kp = (s_X8_lineError a x nr, a, h, sn, tx, k)) hF hfr) dX8_line_11
theorem hd_X8_doRetire : yX8_doRetire.cls = RX8 ∧ yX8_doRetire.cls ≠ "java/lang/invoke/MethodHandle" ∧ yX8_doRetire.cls ≠ "java/lang/invoke/VarHandle" ∧ (parseMethodDescriptor yX8_doRetire.desc).map (fun d => d.parameters.length) = some 1 := by decide +kernel
theorem hd_X8_retireError : yX8_retireError.cls = RX8 ∧ yX8_retireError.cls ≠ "java/lang/invoke/MethodHandle" ∧ yX8_retireError.cls ≠ "java/lang/invoke/VarHandle" ∧ (parseMethodDescriptor yX8_retireError.desc).map (fun d => d.parameters.length) = some 1 := by decide +kernel
def s_X8_retire (a : Nat → Int32) (h : Nat → Int32) (sn : Nat → Int32) (tx : Nat → Int32) (k : Nat → Int32) (x : Int32) (nr : Nat) (kp : Nat) : Int32 × (Nat → Int32) × (Nat → Int32) × (Nat → Int32) × (Nat → Int32) × (Nat → Int32) := (if 0 ≤ (s_X8_retireError a x nr) then ((s_X8_doRetire a ((m_hn a h kp)) sn tx ((va_up k 0 (nI (m_kn kp)))) x.toNatClampNeg nr).1, ((s_X8_doRetire a ((m_hn a h kp)) sn tx ((va_up k 0 (nI (m_kn kp)))) x.toNatClampNeg nr).2.1), ((s_X8_doRetire a ((m_hn a h kp)) sn tx ((va_up k 0 (nI (m_kn kp)))) x.toNatClampNeg nr).2.2.1), ((s_X8_doRetire a ((m_hn a h kp)) sn tx ((va_up k 0 (nI (m_kn kp)))) x.toNatClampNeg nr).2.2.2.1), ((s_X8_doRetire a ((m_hn a h kp)) sn tx ((va_up k 0 (nI (m_kn kp)))) x.toNatClampNeg nr).2.2.2.2.1), ((s_X8_doRetire a ((m_hn a h kp)) sn tx ((va_up k 0 (nI (m_kn kp)))) x.toNatClampNeg nr).2.2.2.2.2)) else (s_X8_retireError a x nr, a, h, sn, tx, k))
set_option maxHeartbeats 4000000 in
set_option maxRecDepth 100000 in
theorem k_X8_retire {l : Launch} {D : va_G} {cI cB cS : ClassId} {ad : Nat → Nat} {N : Nat} {F : Nat → va_E} (hI : iN ad N) (o : Nat) (a : Nat → Int32) (h : Nat → Int32) (sn : Nat → Int32) (tx : Nat → Int32) (k : Nat → Int32) (x : Int32) (nb : Nat) (nr : Nat) (kp : Nat) (hc5 : o + 5 ≤ N) (hF : MoF ad cI F o a h sn tx k) (h1 : a 1 = nI nb) (hb9 : nb ≤ 9) (h2 : a 2 = nI nr) (hr6 : nr ≤ 6) (hk0 : k 0 = nI kp) (hk4 : kp ≤ 4) : Ci l D cI cB cS ad N yX8_retire cX8_retire 3 (some .int) 3 66 [.ref (ad o), .int x] F (fun r F' => r = (s_X8_retire a h sn tx k x nr kp).1 ∧ MoF ad cI F' o ((s_X8_retire a h sn tx k x nr kp).2.1) ((s_X8_retire a h sn tx k x nr kp).2.2.1) ((s_X8_retire a h sn tx k x nr kp).2.2.2.1) ((s_X8_retire a h sn tx k x nr kp).2.2.2.2.1) ((s_X8_retire a h sn tx k x nr kp).2.2.2.2.2) ∧ Fr F F' o (o + 5)) := by
  refine x_met (by decide +kernel) (Nat.le_of_ble_eq_true rfl) ?_
  intro p e s m below meth c X hr hlk hK hw ls hl
  replace hl : lv_has ls 3 [(0, .ref (ad o)), (1, .int x)] := hl
  have hfr : Fr F F (o) (o + 5) := Fr.rf
  refine lv_aload_n X.1 X.2.1 dX8_retire_0 rfl (lv_at hl 0 rfl) ?_
  refine lv_iload_n X.1 X.2.1 dX8_retire_1 rfl (lv_at hl 1 rfl) ?_
  refine x_callVP X hK hw (k := o) (As := [.int x]) (rest := []) (k_X8_retireError hI o a h sn tx k x nb nr (by omega) hF h1 (by omega) h2 (by omega)) (x_cwV yX8_retireError cX8_retireError 2 (some .int) 1 X q1012 q1014 qs34 q14 q1015 hd_X8_retireError ⟨Nat.le_of_ble_eq_true rfl, Nat.le_of_ble_eq_true rfl⟩) (by omega) hF.1 rfl rfl hl.1 rfl (Nat.le_of_ble_eq_true rfl) dX8_retire_2 ⟨Nat.le_of_ble_eq_true rfl, Nat.le_of_ble_eq_true rfl⟩ (fun H locs hw => ?_)
  refine lv_istore_n (lv' := [(2, .int (s_X8_retireError a x nr)), (0, .ref (ad o)), (1, .int x)]) X.1 X.2.1 dX8_retire_5 rfl hl (by decide) rfl (fun ls hl => ?_)
  refine lv_iload_n X.1 X.2.1 dX8_retire_6 rfl (lv_at hl 0 rfl) ?_
  refine lv_if_ge (tgt := 12) X.1 X.2.1 dX8_retire_7 (by decide) (fun c1 => ?_) (fun c1 => ?_)
  · have ⟨hq, hn⟩ := re_ok c1
    have ⟨hj, hx⟩ := isb_of (n := nb) hq h1 (by omega)
    replace hl : lv_has ls 3 [(2, .int (s_X8_retireError a x nr)), (0, .ref (ad o)), (1, .int (nI x.toNatClampNeg))] := by rw [← hx]; exact hl
    refine lv_aload_n X.1 X.2.1 dX8_retire_12 rfl (lv_at hl 1 rfl) ?_
    refine x_callVv X hK hw (k := o) (As := []) (rest := []) (k_X8_record hI o a h sn tx k kp (by omega) hF hk0 (by omega)) (x_cwV yX8_record cX8_record 2 none 0 X q912 q914 qs17 q14 q915 hd_X8_record ⟨Nat.le_of_ble_eq_true rfl, Nat.le_of_ble_eq_true rfl⟩) (by omega) hF.1 rfl rfl hl.1 rfl (Nat.le_of_ble_eq_true rfl) dX8_retire_13 ⟨Nat.le_of_ble_eq_true rfl, Nat.le_of_ble_eq_true rfl⟩ (fun F2 H locs hp hw => ?_)
    obtain ⟨hF3, hr4⟩ := hp
    replace hfr := hfr.tr hr4 (by omega) (by omega)
    refine lv_aload_n X.1 X.2.1 dX8_retire_16 rfl (lv_at hl 1 rfl) ?_
    refine lv_iload_n X.1 X.2.1 dX8_retire_17 rfl (lv_at hl 2 rfl) ?_
    refine x_callV X hK hw (k := o) (As := [.int (nI x.toNatClampNeg)]) (rest := []) (k_X8_doRetire hI o a ((m_hn a h kp)) sn tx ((va_up k 0 (nI (m_kn kp)))) x.toNatClampNeg nr (by omega) hF3 h2 (by omega) hn (by omega)) (x_cwV yX8_doRetire cX8_doRetire 3 (some .int) 1 X q1016 q1018 qs35 q14 q1019 hd_X8_doRetire ⟨Nat.le_of_ble_eq_true rfl, Nat.le_of_ble_eq_true rfl⟩) (by omega) hF3.1 rfl rfl hl.1 rfl (Nat.le_of_ble_eq_true rfl) dX8_retire_18 ⟨Nat.le_of_ble_eq_true rfl, Nat.le_of_ble_eq_true rfl⟩ (fun r8 F5 H locs hp hw => ?_)
    obtain ⟨er9, hF6, hr7⟩ := hp
    refine x_top er9 ?_
    replace hfr := hfr.tr hr7 (by omega) (by omega)
    exact x_iret X hr hlk hK hw (v := (s_X8_doRetire a ((m_hn a h kp)) sn tx ((va_up k 0 (nI (m_kn kp)))) x.toNatClampNeg nr).1) rfl (auto_mo (by rw [s_X8_retire, if_pos c1] : s_X8_retire a h sn tx k x nr kp = ((s_X8_doRetire a ((m_hn a h kp)) sn tx ((va_up k 0 (nI (m_kn kp)))) x.toNatClampNeg nr).1, ((s_X8_doRetire a ((m_hn a h kp)) sn tx ((va_up k 0 (nI (m_kn kp)))) x.toNatClampNeg nr).2.1), ((s_X8_doRetire a ((m_hn a h kp)) sn tx ((va_up k 0 (nI (m_kn kp)))) x.toNatClampNeg nr).2.2.1), ((s_X8_doRetire a ((m_hn a h kp)) sn tx ((va_up k 0 (nI (m_kn kp)))) x.toNatClampNeg nr).2.2.2.1), ((s_X8_doRetire a ((m_hn a h kp)) sn tx ((va_up k 0 (nI (m_kn kp)))) x.toNatClampNeg nr).2.2.2.2.1), ((s_X8_doRetire a ((m_hn a h kp)) sn tx ((va_up k 0 (nI (m_kn kp)))) x.toNatClampNeg nr).2.2.2.2.2))) hF6 hfr) dX8_retire_21
  · refine lv_iload_n X.1 X.2.1 dX8_retire_10 rfl (lv_at hl 0 rfl) ?_
    exact x_iret X hr hlk hK hw (v := s_X8_retireError a x nr) rfl (auto_mo (by rw [s_X8_retire, if_neg c1] : s_X8_retire a h sn tx k x nr kp = (s_X8_retireError a x nr, a, h, sn, tx, k)) hF hfr) dX8_retire_11
theorem hd_X8_buoyError : yX8_buoyError.cls = RX8 ∧ yX8_buoyError.cls ≠ "java/lang/invoke/MethodHandle" ∧ yX8_buoyError.cls ≠ "java/lang/invoke/VarHandle" ∧ (parseMethodDescriptor yX8_buoyError.desc).map (fun d => d.parameters.length) = some 2 := by decide +kernel
theorem hd_X8_doBuoy : yX8_doBuoy.cls = RX8 ∧ yX8_doBuoy.cls ≠ "java/lang/invoke/MethodHandle" ∧ yX8_doBuoy.cls ≠ "java/lang/invoke/VarHandle" ∧ (parseMethodDescriptor yX8_doBuoy.desc).map (fun d => d.parameters.length) = some 2 := by decide +kernel
def s_X8_buoy (a : Nat → Int32) (h : Nat → Int32) (sn : Nat → Int32) (tx : Nat → Int32) (k : Nat → Int32) (x : Int32) (y : Int32) (nr : Nat) (kp : Nat) : Int32 × (Nat → Int32) × (Nat → Int32) × (Nat → Int32) × (Nat → Int32) × (Nat → Int32) := (if 0 ≤ (s_X8_buoyError a x y nr) then ((s_X8_doBuoy a ((m_hn a h kp)) sn tx ((va_up k 0 (nI (m_kn kp)))) x.toNatClampNeg y nr).1, ((s_X8_doBuoy a ((m_hn a h kp)) sn tx ((va_up k 0 (nI (m_kn kp)))) x.toNatClampNeg y nr).2.1), ((s_X8_doBuoy a ((m_hn a h kp)) sn tx ((va_up k 0 (nI (m_kn kp)))) x.toNatClampNeg y nr).2.2.1), ((s_X8_doBuoy a ((m_hn a h kp)) sn tx ((va_up k 0 (nI (m_kn kp)))) x.toNatClampNeg y nr).2.2.2.1), ((s_X8_doBuoy a ((m_hn a h kp)) sn tx ((va_up k 0 (nI (m_kn kp)))) x.toNatClampNeg y nr).2.2.2.2.1), ((s_X8_doBuoy a ((m_hn a h kp)) sn tx ((va_up k 0 (nI (m_kn kp)))) x.toNatClampNeg y nr).2.2.2.2.2)) else (s_X8_buoyError a x y nr, a, h, sn, tx, k))
set_option maxHeartbeats 4000000 in
set_option maxRecDepth 100000 in
theorem k_X8_buoy {l : Launch} {D : va_G} {cI cB cS : ClassId} {ad : Nat → Nat} {N : Nat} {F : Nat → va_E} (hI : iN ad N) (o : Nat) (a : Nat → Int32) (h : Nat → Int32) (sn : Nat → Int32) (tx : Nat → Int32) (k : Nat → Int32) (x : Int32) (y : Int32) (nb : Nat) (nr : Nat) (kp : Nat) (hc5 : o + 5 ≤ N) (hF : MoF ad cI F o a h sn tx k) (h1 : a 1 = nI nb) (hb9 : nb ≤ 9) (h2 : a 2 = nI nr) (hr6 : nr ≤ 6) (hk0 : k 0 = nI kp) (hk4 : kp ≤ 4) (hbu : 0 < nr → ¬ m_r a (nr - 1) 0 = 0) : Ci l D cI cB cS ad N yX8_buoy cX8_buoy 4 (some .int) 3 67 [.ref (ad o), .int x, .int y] F (fun r F' => r = (s_X8_buoy a h sn tx k x y nr kp).1 ∧ MoF ad cI F' o ((s_X8_buoy a h sn tx k x y nr kp).2.1) ((s_X8_buoy a h sn tx k x y nr kp).2.2.1) ((s_X8_buoy a h sn tx k x y nr kp).2.2.2.1) ((s_X8_buoy a h sn tx k x y nr kp).2.2.2.2.1) ((s_X8_buoy a h sn tx k x y nr kp).2.2.2.2.2) ∧ Fr F F' o (o + 5)) := by
  refine x_met (by decide +kernel) (Nat.le_of_ble_eq_true rfl) ?_
  intro p e s m below meth c X hr hlk hK hw ls hl
  replace hl : lv_has ls 4 [(0, .ref (ad o)), (1, .int x), (2, .int y)] := hl
  have hfr : Fr F F (o) (o + 5) := Fr.rf
  refine lv_aload_n X.1 X.2.1 dX8_buoy_0 rfl (lv_at hl 0 rfl) ?_
  refine lv_iload_n X.1 X.2.1 dX8_buoy_1 rfl (lv_at hl 1 rfl) ?_
  refine lv_iload_n X.1 X.2.1 dX8_buoy_2 rfl (lv_at hl 2 rfl) ?_
  refine x_callVP X hK hw (k := o) (As := [.int x, .int y]) (rest := []) (k_X8_buoyError hI o a h sn tx k x y nb nr (by omega) hF h1 (by omega) h2 (by omega)) (x_cwV yX8_buoyError cX8_buoyError 3 (some .int) 2 X q1000 q1002 qs32 q14 q1003 hd_X8_buoyError ⟨Nat.le_of_ble_eq_true rfl, Nat.le_of_ble_eq_true rfl⟩) (by omega) hF.1 rfl rfl hl.1 rfl (Nat.le_of_ble_eq_true rfl) dX8_buoy_3 ⟨Nat.le_of_ble_eq_true rfl, Nat.le_of_ble_eq_true rfl⟩ (fun H locs hw => ?_)
  refine lv_istore_n (lv' := [(3, .int (s_X8_buoyError a x y nr)), (0, .ref (ad o)), (1, .int x), (2, .int y)]) X.1 X.2.1 dX8_buoy_6 rfl hl (by decide) rfl (fun ls hl => ?_)
  refine lv_iload_n X.1 X.2.1 dX8_buoy_7 rfl (lv_at hl 0 rfl) ?_
  refine lv_if_ge (tgt := 13) X.1 X.2.1 dX8_buoy_8 (by decide) (fun c1 => ?_) (fun c1 => ?_)
  · have ⟨hq, hn⟩ := be_ok c1
    have ⟨hj, hx⟩ := isb_of (n := nb) hq h1 (by omega)
    replace hl : lv_has ls 4 [(3, .int (s_X8_buoyError a x y nr)), (0, .ref (ad o)), (1, .int (nI x.toNatClampNeg)), (2, .int y)] := by rw [← hx]; exact hl
    refine lv_aload_n X.1 X.2.1 dX8_buoy_13 rfl (lv_at hl 1 rfl) ?_
    refine x_callVv X hK hw (k := o) (As := []) (rest := []) (k_X8_record hI o a h sn tx k kp (by omega) hF hk0 (by omega)) (x_cwV yX8_record cX8_record 2 none 0 X q912 q914 qs17 q14 q915 hd_X8_record ⟨Nat.le_of_ble_eq_true rfl, Nat.le_of_ble_eq_true rfl⟩) (by omega) hF.1 rfl rfl hl.1 rfl (Nat.le_of_ble_eq_true rfl) dX8_buoy_14 ⟨Nat.le_of_ble_eq_true rfl, Nat.le_of_ble_eq_true rfl⟩ (fun F2 H locs hp hw => ?_)
    obtain ⟨hF3, hr4⟩ := hp
    replace hfr := hfr.tr hr4 (by omega) (by omega)
    refine lv_aload_n X.1 X.2.1 dX8_buoy_17 rfl (lv_at hl 1 rfl) ?_
    refine lv_iload_n X.1 X.2.1 dX8_buoy_18 rfl (lv_at hl 2 rfl) ?_
    refine lv_iload_n X.1 X.2.1 dX8_buoy_19 rfl (lv_at hl 3 rfl) ?_
    refine x_callV X hK hw (k := o) (As := [.int (nI x.toNatClampNeg), .int y]) (rest := []) (k_X8_doBuoy hI o a ((m_hn a h kp)) sn tx ((va_up k 0 (nI (m_kn kp)))) x.toNatClampNeg y nr (by omega) hF3 h2 (by omega) hn (by omega) (hbu hn)) (x_cwV yX8_doBuoy cX8_doBuoy 4 (some .int) 2 X q1004 q1006 qs33 q14 q1007 hd_X8_doBuoy ⟨Nat.le_of_ble_eq_true rfl, Nat.le_of_ble_eq_true rfl⟩) (by omega) hF3.1 rfl rfl hl.1 rfl (Nat.le_of_ble_eq_true rfl) dX8_buoy_20 ⟨Nat.le_of_ble_eq_true rfl, Nat.le_of_ble_eq_true rfl⟩ (fun r8 F5 H locs hp hw => ?_)
    obtain ⟨er9, hF6, hr7⟩ := hp
    refine x_top er9 ?_
    replace hfr := hfr.tr hr7 (by omega) (by omega)
    exact x_iret X hr hlk hK hw (v := (s_X8_doBuoy a ((m_hn a h kp)) sn tx ((va_up k 0 (nI (m_kn kp)))) x.toNatClampNeg y nr).1) rfl (auto_mo (by rw [s_X8_buoy, if_pos c1] : s_X8_buoy a h sn tx k x y nr kp = ((s_X8_doBuoy a ((m_hn a h kp)) sn tx ((va_up k 0 (nI (m_kn kp)))) x.toNatClampNeg y nr).1, ((s_X8_doBuoy a ((m_hn a h kp)) sn tx ((va_up k 0 (nI (m_kn kp)))) x.toNatClampNeg y nr).2.1), ((s_X8_doBuoy a ((m_hn a h kp)) sn tx ((va_up k 0 (nI (m_kn kp)))) x.toNatClampNeg y nr).2.2.1), ((s_X8_doBuoy a ((m_hn a h kp)) sn tx ((va_up k 0 (nI (m_kn kp)))) x.toNatClampNeg y nr).2.2.2.1), ((s_X8_doBuoy a ((m_hn a h kp)) sn tx ((va_up k 0 (nI (m_kn kp)))) x.toNatClampNeg y nr).2.2.2.2.1), ((s_X8_doBuoy a ((m_hn a h kp)) sn tx ((va_up k 0 (nI (m_kn kp)))) x.toNatClampNeg y nr).2.2.2.2.2))) hF6 hfr) dX8_buoy_23
  · refine lv_iload_n X.1 X.2.1 dX8_buoy_11 rfl (lv_at hl 0 rfl) ?_
    exact x_iret X hr hlk hK hw (v := s_X8_buoyError a x y nr) rfl (auto_mo (by rw [s_X8_buoy, if_neg c1] : s_X8_buoy a h sn tx k x y nr kp = (s_X8_buoyError a x y nr, a, h, sn, tx, k)) hF hfr) dX8_buoy_12
theorem hd_X8_doHail : yX8_doHail.cls = RX8 ∧ yX8_doHail.cls ≠ "java/lang/invoke/MethodHandle" ∧ yX8_doHail.cls ≠ "java/lang/invoke/VarHandle" ∧ (parseMethodDescriptor yX8_doHail.desc).map (fun d => d.parameters.length) = some 2 := by decide +kernel
theorem hd_X8_hailError : yX8_hailError.cls = RX8 ∧ yX8_hailError.cls ≠ "java/lang/invoke/MethodHandle" ∧ yX8_hailError.cls ≠ "java/lang/invoke/VarHandle" ∧ (parseMethodDescriptor yX8_hailError.desc).map (fun d => d.parameters.length) = some 2 := by decide +kernel
def s_X8_hail (a : Nat → Int32) (h : Nat → Int32) (sn : Nat → Int32) (tx : Nat → Int32) (k : Nat → Int32) (x : Int32) (y : Int32) (nr : Nat) (np : Nat) (kp : Nat) : Int32 × (Nat → Int32) × (Nat → Int32) × (Nat → Int32) × (Nat → Int32) × (Nat → Int32) := (if 0 ≤ (s_X8_hailError a x y nr) then ((s_X8_doHail a ((m_hn a h kp)) sn tx ((va_up k 0 (nI (m_kn kp)))) x y np).1, ((s_X8_doHail a ((m_hn a h kp)) sn tx ((va_up k 0 (nI (m_kn kp)))) x y np).2.1), ((s_X8_doHail a ((m_hn a h kp)) sn tx ((va_up k 0 (nI (m_kn kp)))) x y np).2.2.1), ((s_X8_doHail a ((m_hn a h kp)) sn tx ((va_up k 0 (nI (m_kn kp)))) x y np).2.2.2.1), ((s_X8_doHail a ((m_hn a h kp)) sn tx ((va_up k 0 (nI (m_kn kp)))) x y np).2.2.2.2.1), ((s_X8_doHail a ((m_hn a h kp)) sn tx ((va_up k 0 (nI (m_kn kp)))) x y np).2.2.2.2.2)) else (s_X8_hailError a x y nr, a, h, sn, tx, k))
set_option maxHeartbeats 4000000 in
set_option maxRecDepth 100000 in
theorem k_X8_hail {l : Launch} {D : va_G} {cI cB cS : ClassId} {ad : Nat → Nat} {N : Nat} {F : Nat → va_E} (hI : iN ad N) (o : Nat) (a : Nat → Int32) (h : Nat → Int32) (sn : Nat → Int32) (tx : Nat → Int32) (k : Nat → Int32) (x : Int32) (y : Int32) (nb : Nat) (nr : Nat) (np : Nat) (kp : Nat) (hc5 : o + 5 ≤ N) (hF : MoF ad cI F o a h sn tx k) (h1 : a 1 = nI nb) (hb9 : nb ≤ 9) (h2 : a 2 = nI nr) (hr6 : nr ≤ 6) (h3 : a 3 = nI np) (hp10 : np ≤ 10) (hk0 : k 0 = nI kp) (hk4 : kp ≤ 4) : Ci l D cI cB cS ad N yX8_hail cX8_hail 4 (some .int) 4 87 [.ref (ad o), .int x, .int y] F (fun r F' => r = (s_X8_hail a h sn tx k x y nr np kp).1 ∧ MoF ad cI F' o ((s_X8_hail a h sn tx k x y nr np kp).2.1) ((s_X8_hail a h sn tx k x y nr np kp).2.2.1) ((s_X8_hail a h sn tx k x y nr np kp).2.2.2.1) ((s_X8_hail a h sn tx k x y nr np kp).2.2.2.2.1) ((s_X8_hail a h sn tx k x y nr np kp).2.2.2.2.2) ∧ Fr F F' o (o + 5)) := by
  refine x_met (by decide +kernel) (Nat.le_of_ble_eq_true rfl) ?_
  intro p e s m below meth c X hr hlk hK hw ls hl
  replace hl : lv_has ls 4 [(0, .ref (ad o)), (1, .int x), (2, .int y)] := hl
  have hfr : Fr F F (o) (o + 5) := Fr.rf
  refine lv_aload_n X.1 X.2.1 dX8_hail_0 rfl (lv_at hl 0 rfl) ?_
  refine lv_iload_n X.1 X.2.1 dX8_hail_1 rfl (lv_at hl 1 rfl) ?_
  refine lv_iload_n X.1 X.2.1 dX8_hail_2 rfl (lv_at hl 2 rfl) ?_
  refine x_callVP X hK hw (k := o) (As := [.int x, .int y]) (rest := []) (k_X8_hailError hI o a h sn tx k x y nb nr (by omega) hF h1 (by omega) h2 (by omega)) (x_cwV yX8_hailError cX8_hailError 3 (some .int) 2 X q1032 q1034 qs37 q14 q1035 hd_X8_hailError ⟨Nat.le_of_ble_eq_true rfl, Nat.le_of_ble_eq_true rfl⟩) (by omega) hF.1 rfl rfl hl.1 rfl (Nat.le_of_ble_eq_true rfl) dX8_hail_3 ⟨Nat.le_of_ble_eq_true rfl, Nat.le_of_ble_eq_true rfl⟩ (fun H locs hw => ?_)
  refine lv_istore_n (lv' := [(3, .int (s_X8_hailError a x y nr)), (0, .ref (ad o)), (1, .int x), (2, .int y)]) X.1 X.2.1 dX8_hail_6 rfl hl (by decide) rfl (fun ls hl => ?_)
  refine lv_iload_n X.1 X.2.1 dX8_hail_7 rfl (lv_at hl 0 rfl) ?_
  refine lv_if_ge (tgt := 13) X.1 X.2.1 dX8_hail_8 (by decide) (fun c1 => ?_) (fun c1 => ?_)
  · refine lv_aload_n X.1 X.2.1 dX8_hail_13 rfl (lv_at hl 1 rfl) ?_
    refine x_callVv X hK hw (k := o) (As := []) (rest := []) (k_X8_record hI o a h sn tx k kp (by omega) hF hk0 (by omega)) (x_cwV yX8_record cX8_record 2 none 0 X q912 q914 qs17 q14 q915 hd_X8_record ⟨Nat.le_of_ble_eq_true rfl, Nat.le_of_ble_eq_true rfl⟩) (by omega) hF.1 rfl rfl hl.1 rfl (Nat.le_of_ble_eq_true rfl) dX8_hail_14 ⟨Nat.le_of_ble_eq_true rfl, Nat.le_of_ble_eq_true rfl⟩ (fun F2 H locs hp hw => ?_)
    obtain ⟨hF3, hr4⟩ := hp
    replace hfr := hfr.tr hr4 (by omega) (by omega)
    refine lv_aload_n X.1 X.2.1 dX8_hail_17 rfl (lv_at hl 1 rfl) ?_
    refine lv_iload_n X.1 X.2.1 dX8_hail_18 rfl (lv_at hl 2 rfl) ?_
    refine lv_iload_n X.1 X.2.1 dX8_hail_19 rfl (lv_at hl 3 rfl) ?_
    refine x_callV X hK hw (k := o) (As := [.int x, .int y]) (rest := []) (k_X8_doHail hI o a ((m_hn a h kp)) sn tx ((va_up k 0 (nI (m_kn kp)))) x y np (by omega) hF3 h3 (by omega)) (x_cwV yX8_doHail cX8_doHail 4 (some .int) 2 X q1040 q1042 qs39 q14 q1043 hd_X8_doHail ⟨Nat.le_of_ble_eq_true rfl, Nat.le_of_ble_eq_true rfl⟩) (by omega) hF3.1 rfl rfl hl.1 rfl (Nat.le_of_ble_eq_true rfl) dX8_hail_20 ⟨Nat.le_of_ble_eq_true rfl, Nat.le_of_ble_eq_true rfl⟩ (fun r8 F5 H locs hp hw => ?_)
    obtain ⟨er9, hF6, hr7⟩ := hp
    refine x_top er9 ?_
    replace hfr := hfr.tr hr7 (by omega) (by omega)
    exact x_iret X hr hlk hK hw (v := (s_X8_doHail a ((m_hn a h kp)) sn tx ((va_up k 0 (nI (m_kn kp)))) x y np).1) rfl (auto_mo (by rw [s_X8_hail, if_pos c1] : s_X8_hail a h sn tx k x y nr np kp = ((s_X8_doHail a ((m_hn a h kp)) sn tx ((va_up k 0 (nI (m_kn kp)))) x y np).1, ((s_X8_doHail a ((m_hn a h kp)) sn tx ((va_up k 0 (nI (m_kn kp)))) x y np).2.1), ((s_X8_doHail a ((m_hn a h kp)) sn tx ((va_up k 0 (nI (m_kn kp)))) x y np).2.2.1), ((s_X8_doHail a ((m_hn a h kp)) sn tx ((va_up k 0 (nI (m_kn kp)))) x y np).2.2.2.1), ((s_X8_doHail a ((m_hn a h kp)) sn tx ((va_up k 0 (nI (m_kn kp)))) x y np).2.2.2.2.1), ((s_X8_doHail a ((m_hn a h kp)) sn tx ((va_up k 0 (nI (m_kn kp)))) x y np).2.2.2.2.2))) hF6 hfr) dX8_hail_23
  · refine lv_iload_n X.1 X.2.1 dX8_hail_11 rfl (lv_at hl 0 rfl) ?_
    exact x_iret X hr hlk hK hw (v := s_X8_hailError a x y nr) rfl (auto_mo (by rw [s_X8_hail, if_neg c1] : s_X8_hail a h sn tx k x y nr np kp = (s_X8_hailError a x y nr, a, h, sn, tx, k)) hF hfr) dX8_hail_12
def s_X8_clearText (a : Nat → Int32) (h : Nat → Int32) (sn : Nat → Int32) (tx : Nat → Int32) (k : Nat → Int32) : Int32 × (Nat → Int32) × (Nat → Int32) × (Nat → Int32) × (Nat → Int32) × (Nat → Int32) := (k 2, a, h, sn, tx, (va_up k 2 (nI 0)))
set_option maxHeartbeats 4000000 in
set_option maxRecDepth 100000 in
theorem k_X8_clearText {l : Launch} {D : va_G} {cI cB cS : ClassId} {ad : Nat → Nat} {N : Nat} {F : Nat → va_E} (hI : iN ad N) (o : Nat) (a : Nat → Int32) (h : Nat → Int32) (sn : Nat → Int32) (tx : Nat → Int32) (k : Nat → Int32) (hc5 : o + 5 ≤ N) (hF : MoF ad cI F o a h sn tx k) : Ci l D cI cB cS ad N yX8_clearText cX8_clearText 2 (some .int) 0 0 [.ref (ad o)] F (fun r F' => r = (s_X8_clearText a h sn tx k).1 ∧ MoF ad cI F' o ((s_X8_clearText a h sn tx k).2.1) ((s_X8_clearText a h sn tx k).2.2.1) ((s_X8_clearText a h sn tx k).2.2.2.1) ((s_X8_clearText a h sn tx k).2.2.2.2.1) ((s_X8_clearText a h sn tx k).2.2.2.2.2) ∧ Fr F F' o (o + 5)) := by
  refine x_met (by decide +kernel) (Nat.le_of_ble_eq_true rfl) ?_
  intro p e s m below meth c X hr hlk hK hw ls hl
  replace hl : lv_has ls 2 [(0, .ref (ad o))] := hl
  have hfr : Fr F F (o) (o + 5) := Fr.rf
  refine lv_aload_n X.1 X.2.1 dX8_clearText_0 rfl (lv_at hl 0 rfl) ?_
  refine x_get X hK hw (C := RX8) (T := TX8) (nf := 12) (k := o) (by omega) hF.1 rfl inX8 6 (by decide) q874 (fun _ h9 => h9) rfl dX8_clearText_1 ?_
  refine lv_istore_n (lv' := [(1, .int (k 2)), (0, .ref (ad o))]) X.1 X.2.1 dX8_clearText_4 rfl hl (by decide) rfl (fun ls hl => ?_)
  refine lv_aload_n X.1 X.2.1 dX8_clearText_5 rfl (lv_at hl 1 rfl) ?_
  refine lv_iconst (v := nI 0) X.1 X.2.1 dX8_clearText_6 (by decide) ?_
  refine x_put2 X hI hK hw (C := RX8) (T := TX8) (nf := 12) (k := o) (ty := .int) (v := .int (nI 0)) (by omega) hF.1 rfl inX8 tyX8 tyX8_ok nmX8 6 (by decide) q874 (fun _ h9 => h9) rfl (by decide +kernel) rfl rfl (Nat.le_of_ble_eq_true rfl) dX8_clearText_7 (fun F1 H locs eF2 hw => ?_)
  have hF3 : MoF ad cI F1 o a h sn tx (va_up k 2 (nI 0)) := by rw [eF2]; exact MoF.pt hF 2 (nI 0) _ rfl
  have hr4 := fr_eq eF2 (Nat.le_refl _) (Nat.lt_succ_self _)
  replace hfr := hfr.tr hr4 (by omega) (by omega)
  refine lv_iload_n X.1 X.2.1 dX8_clearText_10 rfl (lv_at hl 0 rfl) ?_
  exact x_iret X hr hlk hK hw (v := k 2) rfl (auto_mo (by rfl : s_X8_clearText a h sn tx k = (k 2, a, h, sn, tx, (va_up k 2 (nI 0)))) hF3 hfr) dX8_clearText_11
def s_X8_append (a : Nat → Int32) (h : Nat → Int32) (sn : Nat → Int32) (tx : Nat → Int32) (k : Nat → Int32) (x : Int32) (len : Nat) : Int32 × (Nat → Int32) × (Nat → Int32) × (Nat → Int32) × (Nat → Int32) × (Nat → Int32) := (if ¬ x < (nI 32) ∧ ¬ (nI 126) < x then (if (k 2) = (nI 80) then ((-3), a, h, sn, tx, k) else ((va_up k 2 ((k 2) + (nI 1))) 2, a, h, sn, (upd tx len x), (va_up k 2 ((k 2) + (nI 1))))) else ((-2), a, h, sn, tx, k))
set_option maxHeartbeats 4000000 in
set_option maxRecDepth 100000 in
theorem k_X8_append {l : Launch} {D : va_G} {cI cB cS : ClassId} {ad : Nat → Nat} {N : Nat} {F : Nat → va_E} (hI : iN ad N) (o : Nat) (a : Nat → Int32) (h : Nat → Int32) (sn : Nat → Int32) (tx : Nat → Int32) (k : Nat → Int32) (x : Int32) (len : Nat) (hc5 : o + 5 ≤ N) (hF : MoF ad cI F o a h sn tx k) (hlen : k 2 = nI len) (hl80 : len ≤ 80) : Ci l D cI cB cS ad N yX8_append cX8_append 2 (some .int) 1 22 [.ref (ad o), .int x] F (fun r F' => r = (s_X8_append a h sn tx k x len).1 ∧ MoF ad cI F' o ((s_X8_append a h sn tx k x len).2.1) ((s_X8_append a h sn tx k x len).2.2.1) ((s_X8_append a h sn tx k x len).2.2.2.1) ((s_X8_append a h sn tx k x len).2.2.2.2.1) ((s_X8_append a h sn tx k x len).2.2.2.2.2) ∧ Fr F F' o (o + 5)) := by
  refine x_met (by decide +kernel) (Nat.le_of_ble_eq_true rfl) ?_
  intro p e s m below meth c X hr hlk hK hw ls hl
  replace hl : lv_has ls 2 [(0, .ref (ad o)), (1, .int x)] := hl
  have hfr : Fr F F (o) (o + 5) := Fr.rf
  refine lv_iload_n X.1 X.2.1 dX8_append_0 rfl (lv_at hl 1 rfl) ?_
  refine lv_bipush (v := nI 32) X.1 X.2.1 dX8_append_1 (by decide) ?_
  refine lv_bipush (v := nI 126) X.1 X.2.1 dX8_append_3 (by decide) ?_
  refine x_callSP X hK hw (As := [.int x, .int (nI 32), .int (nI 126)]) (rest := []) (k_X8_in hI x (nI 32) (nI 126)) (x_cwS yX8_in cX8_in 3 (some .boolean) 3 X q909 q910 q14 q911 hd_X8_in ⟨Nat.le_of_ble_eq_true rfl, Nat.le_of_ble_eq_true rfl⟩) rfl hl.1 rfl (Nat.le_of_ble_eq_true rfl) dX8_append_5 ⟨Nat.le_of_ble_eq_true rfl, Nat.le_of_ble_eq_true rfl⟩ (fun H locs hw => ?_)
  refine lv_if_ne (tgt := 14) X.1 X.2.1 dX8_append_8 (by decide) (fun c1 => ?_) (fun c1 => ?_)
  · replace c1 := bI_nz c1
    refine lv_aload_n X.1 X.2.1 dX8_append_14 rfl (lv_at hl 0 rfl) ?_
    refine x_get X hK hw (C := RX8) (T := TX8) (nf := 12) (k := o) (by omega) hF.1 rfl inX8 6 (by decide) q874 (fun _ h9 => h9) rfl dX8_append_15 ?_
    refine lv_bipush (v := nI 80) X.1 X.2.1 dX8_append_18 (by decide) ?_
    refine lv_icmp_ne (tgt := 26) X.1 X.2.1 dX8_append_20 (by decide) (fun c2 => ?_) (fun c2 => ?_)
    · have h8 : len < 80 := by rcases Nat.lt_or_ge len 80 with q | q; exact q; exact absurd (by rw [hlen, show len = 80 by omega]) c2
      refine lv_aload_n X.1 X.2.1 dX8_append_26 rfl (lv_at hl 0 rfl) ?_
      refine x_get X hK hw (C := RX8) (T := TX8) (nf := 12) (k := o) (by omega) hF.1 rfl inX8 5 (by decide) q873 (fun _ h9 => h9) rfl dX8_append_27 ?_
      refine lv_aload_n X.1 X.2.1 dX8_append_30 rfl (lv_at hl 0 rfl) ?_
      refine x_get X hK hw (C := RX8) (T := TX8) (nf := 12) (k := o) (by omega) hF.1 rfl inX8 6 (by decide) q874 (fun _ h9 => h9) rfl dX8_append_31 ?_
      refine x_top (y := nI len) hlen ?_
      refine lv_iload_n X.1 X.2.1 dX8_append_34 rfl (lv_at hl 1 rfl) ?_
      refine x_iastN2 X hI hK hw (k := (o + 4)) (by omega) hF.2.2.2.2 (i := nI len) (j := len) rfl (by omega) (by omega) dX8_append_35 (fun F3 H locs eF4 hw => ?_)
      have hF5 := MoF.st3 hF eF4
      have hr6 := fr_eq eF4 (Nat.le_refl _) (Nat.lt_succ_self _)
      replace hfr := hfr.tr hr6 (by omega) (by omega)
      refine lv_aload_n X.1 X.2.1 dX8_append_36 rfl (lv_at hl 0 rfl) ?_
      refine lv_dup X.1 X.2.1 dX8_append_37 rfl ?_
      refine x_get X hK hw (C := RX8) (T := TX8) (nf := 12) (k := o) (by omega) hF5.1 rfl inX8 6 (by decide) q874 (fun _ h9 => h9) rfl dX8_append_38 ?_
      refine lv_iconst (v := nI 1) X.1 X.2.1 dX8_append_41 (by decide) ?_
      refine lv_iadd X.1 X.2.1 dX8_append_42 ?_
      refine x_put2 X hI hK hw (C := RX8) (T := TX8) (nf := 12) (k := o) (ty := .int) (v := .int ((k 2) + (nI 1))) (by omega) hF5.1 rfl inX8 tyX8 tyX8_ok nmX8 6 (by decide) q874 (fun _ h9 => h9) rfl (by decide +kernel) rfl rfl (Nat.le_of_ble_eq_true rfl) dX8_append_43 (fun F7 H locs eF8 hw => ?_)
      have hF9 : MoF ad cI F7 o a h sn ((upd tx len x)) (va_up k 2 ((k 2) + (nI 1))) := by rw [eF8]; exact MoF.pt hF5 2 ((k 2) + (nI 1)) _ rfl
      have hr10 := fr_eq eF8 (Nat.le_refl _) (Nat.lt_succ_self _)
      replace hfr := hfr.tr hr10 (by omega) (by omega)
      refine lv_aload_n X.1 X.2.1 dX8_append_46 rfl (lv_at hl 0 rfl) ?_
      refine x_get X hK hw (C := RX8) (T := TX8) (nf := 12) (k := o) (by omega) hF9.1 rfl inX8 6 (by decide) q874 (fun _ h9 => h9) rfl dX8_append_47 ?_
      exact x_iret X hr hlk hK hw (v := (va_up k 2 ((k 2) + (nI 1))) 2) rfl (auto_mo (by rw [s_X8_append, if_pos c1, if_neg c2] : s_X8_append a h sn tx k x len = ((va_up k 2 ((k 2) + (nI 1))) 2, a, h, sn, (upd tx len x), (va_up k 2 ((k 2) + (nI 1))))) hF9 hfr) dX8_append_50
    · refine lv_bipush (v := (-3)) X.1 X.2.1 dX8_append_23 (by decide) ?_
      exact x_iret X hr hlk hK hw (v := (-3)) rfl (auto_mo (by rw [s_X8_append, if_pos c1, if_pos c2] : s_X8_append a h sn tx k x len = ((-3), a, h, sn, tx, k)) hF hfr) dX8_append_25
  · replace c1 := bI_z c1
    refine lv_bipush (v := (-2)) X.1 X.2.1 dX8_append_11 (by decide) ?_
    exact x_iret X hr hlk hK hw (v := (-2)) rfl (auto_mo (by rw [s_X8_append, if_neg c1] : s_X8_append a h sn tx k x len = ((-2), a, h, sn, tx, k)) hF hfr) dX8_append_13
