theorem hd_J3_checkIndex_8e157 : yJ3_checkIndex_8e157.cls = RJ3 ∧ yJ3_checkIndex_8e157.cls ≠ "java/lang/invoke/MethodHandle" ∧ yJ3_checkIndex_8e157.cls ≠ "java/lang/invoke/VarHandle" ∧ (parseMethodDescriptor yJ3_checkIndex_8e157.desc).map (fun d => d.parameters.length) = some 3 := by decide +kernel
set_option maxHeartbeats 4000000 in
set_option maxRecDepth 100000 in
theorem k_J0_checkIndex_df160 {l : Launch} {D : va_G} {cI cB cS : ClassId} {ad : Nat → Nat} {N : Nat} {F : Nat → va_E} (hI : iN ad N) (j : Nat) (n : Nat) (hj : j < n) (hn : n < 2 ^ 31) : Cv l D cI cB cS ad N yJ0_checkIndex_df160 cJ0_checkIndex_df160 2 1 22 [.int (nI j), .int (nI n)] F (fun F' => F' = F) := by
  refine x_metv (by decide +kernel) (Nat.le_of_ble_eq_true rfl) ?_
  intro p e s m below meth c X hr hlk hK hw ls hl
  replace hl : lv_has ls 2 [(0, .int (nI j)), (1, .int (nI n))] := hl
  refine lv_iload_n X.1 X.2.1 dJ0_checkIndex_df160_0 rfl (lv_at hl 0 rfl) ?_
  refine lv_iload_n X.1 X.2.1 dJ0_checkIndex_df160_1 rfl (lv_at hl 1 rfl) ?_
  rcases hK.2.1.2.2.2.2 with hz | ⟨tt, hz⟩
  · refine va_gets X.1 X.2.1 hz hw.2.1 X.2.2.2.1 (X.2.2.2.2 _ q554) (fun _ h => h) dJ0_checkIndex_df160_2 ?_
    refine x_callSP X hK hw (As := [.int (nI j), .int (nI n), .null]) (rest := []) (k_J3_checkIndex_8e157_n hI j n (by omega) (by omega)) (x_cwS2 yJ3_checkIndex_8e157 cJ3_checkIndex_8e157 3 (some .int) 3 X q577 q578 q19 q579 hd_J3_checkIndex_8e157.2 ⟨Nat.le_of_ble_eq_true rfl, Nat.le_of_ble_eq_true rfl⟩) rfl hl.1 rfl (Nat.le_of_ble_eq_true rfl) dJ0_checkIndex_df160_5 ⟨Nat.le_of_ble_eq_true rfl, Nat.le_of_ble_eq_true rfl⟩ (fun H locs hw => ?_)
    refine lv_pop X.1 X.2.1 dJ0_checkIndex_df160_8 rfl ?_
    exact x_vret X hr hlk hK hw (rfl) dJ0_checkIndex_df160_9
  · refine va_gets X.1 X.2.1 hz hw.2.1 X.2.2.2.1 (X.2.2.2.2 _ q554) (fun _ h => h) dJ0_checkIndex_df160_2 ?_
    refine x_callSP X hK hw (As := [.int (nI j), .int (nI n), .ref tt]) (rest := []) (k_J3_checkIndex_8e157_r hI j n tt (by omega) (by omega)) (x_cwS2 yJ3_checkIndex_8e157 cJ3_checkIndex_8e157 3 (some .int) 3 X q577 q578 q19 q579 hd_J3_checkIndex_8e157.2 ⟨Nat.le_of_ble_eq_true rfl, Nat.le_of_ble_eq_true rfl⟩) rfl hl.1 rfl (Nat.le_of_ble_eq_true rfl) dJ0_checkIndex_df160_5 ⟨Nat.le_of_ble_eq_true rfl, Nat.le_of_ble_eq_true rfl⟩ (fun H locs hw => ?_)
    refine lv_pop X.1 X.2.1 dJ0_checkIndex_df160_8 rfl ?_
    exact x_vret X hr hlk hK hw (rfl) dJ0_checkIndex_df160_9
theorem hd_J0_checkIndex_df160 : yJ0_checkIndex_df160.cls = RJ0 ∧ yJ0_checkIndex_df160.cls ≠ "java/lang/invoke/MethodHandle" ∧ yJ0_checkIndex_df160.cls ≠ "java/lang/invoke/VarHandle" ∧ (parseMethodDescriptor yJ0_checkIndex_df160.desc).map (fun d => d.parameters.length) = some 2 := by decide +kernel
set_option maxHeartbeats 4000000 in
set_option maxRecDepth 100000 in
theorem k_J5_charAt_5068e {l : Launch} {D : va_G} {cI cB cS : ClassId} {ad : Nat → Nat} {N : Nat} {F : Nat → va_E} (hI : iN ad N) (e0 : Nat) (cap : Nat) (n : Nat) (ml : Int32) (f : Nat → Int32) (j : Nat) (u : Nat) (he2 : e0 + 2 ≤ N) (hcap : cap < 2 ^ 30) (hnc : n ≤ cap) (hS : SbF ad cB F e0 cap n ml f) (hj : j < n) (hu : u < 128) (hfu : f j = nI u) : Ci l D cI cB cS ad N yJ5_charAt_5068e cJ5_charAt_5068e 5 (some .char) 2 60 [.ref (ad e0), .int (nI j)] F (pP (nI u) F) := by
  refine x_met (by decide +kernel) (Nat.le_of_ble_eq_true rfl) ?_
  intro p e s m below meth c X hr hlk hK hw ls hl
  replace hl : lv_has ls 5 [(0, .ref (ad e0)), (1, .int (nI j))] := hl
  refine lv_aload_n X.1 X.2.1 dJ5_charAt_5068e_0 rfl (lv_at hl 0 rfl) ?_
  refine x_get X hK hw (C := RJ4) (T := TJ4) (nf := 4) (k := e0) (by omega) hS.1 rfl inJ4 1 (by decide) q201 (fun _ h9 => h9) rfl dJ5_charAt_5068e_1 ?_
  refine lv_istore_n (lv' := [(2, .int (nI 0)), (0, .ref (ad e0)), (1, .int (nI j))]) X.1 X.2.1 dJ5_charAt_5068e_4 rfl hl (by decide) rfl (fun ls hl => ?_)
  refine lv_aload_n X.1 X.2.1 dJ5_charAt_5068e_5 rfl (lv_at hl 1 rfl) ?_
  refine x_get X hK hw (C := RJ4) (T := TJ4) (nf := 4) (k := e0) (by omega) hS.1 rfl inJ4 0 (by decide) q200 (fun _ h9 => h9) rfl dJ5_charAt_5068e_6 ?_
  refine lv_astore_n (lv' := [(3, .ref (ad (e0 + 1))), (2, .int (nI 0)), (0, .ref (ad e0)), (1, .int (nI j))]) X.1 X.2.1 dJ5_charAt_5068e_9 rfl hl (by decide) rfl (fun ls hl => ?_)
  refine lv_aload_n X.1 X.2.1 dJ5_charAt_5068e_10 rfl (lv_at hl 2 rfl) ?_
  refine x_get X hK hw (C := RJ4) (T := TJ4) (nf := 4) (k := e0) (by omega) hS.1 rfl inJ4 3 (by decide) q203 (fun _ h9 => h9) rfl dJ5_charAt_5068e_11 ?_
  refine lv_aload_n X.1 X.2.1 dJ5_charAt_5068e_14 rfl (lv_at hl 0 rfl) ?_
  refine x_balen X hK hw (k := (e0 + 1)) (by omega) hS.2 dJ5_charAt_5068e_15 ?_
  refine lv_iload_n X.1 X.2.1 dJ5_charAt_5068e_16 rfl (lv_at hl 1 rfl) ?_
  refine lv_ishr X.1 X.2.1 dJ5_charAt_5068e_17 ?_
  refine x_top (y := nI cap) (shr0 _) ?_
  refine x_min X hl.1 (rest := []) q623 (Nat.le_of_ble_eq_true rfl) (Nat.le_of_ble_eq_true rfl) (Nat.le_of_ble_eq_true rfl) (Nat.le_of_ble_eq_true rfl) dJ5_charAt_5068e_18 ?_
  refine x_top (min_le hnc (by omega)) ?_
  refine lv_istore (lv' := [(4, .int (nI n)), (3, .ref (ad (e0 + 1))), (2, .int (nI 0)), (0, .ref (ad e0)), (1, .int (nI j))]) X.1 X.2.1 dJ5_charAt_5068e_21 hl (by decide) rfl (fun ls hl => ?_)
  refine lv_iload_n X.1 X.2.1 dJ5_charAt_5068e_23 rfl (lv_at hl 4 rfl) ?_
  refine lv_iload X.1 X.2.1 dJ5_charAt_5068e_24 (lv_at hl 0 rfl) ?_
  refine x_callSv X hK hw (As := [.int (nI j), .int (nI n)]) (rest := []) (k_J0_checkIndex_df160 hI j n (by omega) (by omega)) (x_cwS2 yJ0_checkIndex_df160 cJ0_checkIndex_df160 2 none 2 X q624 q575 q12 q576 hd_J0_checkIndex_df160.2 ⟨Nat.le_of_ble_eq_true rfl, Nat.le_of_ble_eq_true rfl⟩) rfl hl.1 rfl (Nat.le_of_ble_eq_true rfl) dJ5_charAt_5068e_26 ⟨Nat.le_of_ble_eq_true rfl, Nat.le_of_ble_eq_true rfl⟩ (fun F1 H locs hp hw => ?_)
  rw [hp] at hw
  refine lv_iload_n X.1 X.2.1 dJ5_charAt_5068e_29 rfl (lv_at hl 2 rfl) ?_
  refine lv_if_ne (tgt := 42) X.1 X.2.1 dJ5_charAt_5068e_30 (by decide) (fun c2 => ?_) (fun c2 => ?_)
  · exact absurd rfl c2
  · refine lv_aload_n X.1 X.2.1 dJ5_charAt_5068e_33 rfl (lv_at hl 1 rfl) ?_
    refine lv_iload_n X.1 X.2.1 dJ5_charAt_5068e_34 rfl (lv_at hl 4 rfl) ?_
    refine x_baldN X hK hw (k := (e0 + 1)) (by omega) hS.2 (i := nI j) (j := j) rfl (by omega) (by omega) dJ5_charAt_5068e_35 ?_
    refine lv_sipush (v := nI 255) X.1 X.2.1 dJ5_charAt_5068e_36 (by decide) ?_
    refine lv_iand X.1 X.2.1 dJ5_charAt_5068e_39 ?_
    refine lv_i2c (v := nI u) X.1 X.2.1 dJ5_charAt_5068e_40 (by rw [hfu]; exact ch_of hu) ?_
    exact x_iret X hr hlk hK hw (v := nI u) (pk_charN (by omega)).1 (⟨rfl, rfl⟩) dJ5_charAt_5068e_41
theorem hk_J5_charAt_5068e : yJ5_charAt_5068e.cls ≠ "java/lang/invoke/MethodHandle" ∧ yJ5_charAt_5068e.cls ≠ "java/lang/invoke/VarHandle" ∧ (parseMethodDescriptor yJ5_charAt_5068e.desc).map (fun d => d.parameters.length) = some 1 := by decide +kernel
theorem hj_J5_charAt_5068e : yJ5_charAt_5068e.name ≠ "<init>" ∧ (parseMethodDescriptor yJ5_charAt_5068e.desc).map (fun d => d.parameters.length) = some 1 := by decide +kernel
set_option maxHeartbeats 4000000 in
set_option maxRecDepth 100000 in
theorem k_J4_charAt_5068e {l : Launch} {D : va_G} {cI cB cS : ClassId} {ad : Nat → Nat} {N : Nat} {F : Nat → va_E} (hI : iN ad N) (e0 : Nat) (cap : Nat) (n : Nat) (ml : Int32) (f : Nat → Int32) (j : Nat) (u : Nat) (he2 : e0 + 2 ≤ N) (hcap : cap < 2 ^ 30) (hnc : n ≤ cap) (hS : SbF ad cB F e0 cap n ml f) (hj : j < n) (hu : u < 128) (hfu : f j = nI u) : Ci l D cI cB cS ad N yJ4_charAt_5068e cJ4_charAt_5068e 2 (some .char) 3 84 [.ref (ad e0), .int (nI j)] F (pP (nI u) F) := by
  refine x_met (by decide +kernel) (Nat.le_of_ble_eq_true rfl) ?_
  intro p e s m below meth c X hr hlk hK hw ls hl
  replace hl : lv_has ls 2 [(0, .ref (ad e0)), (1, .int (nI j))] := hl
  refine lv_aload_n X.1 X.2.1 dJ4_charAt_5068e_0 rfl (lv_at hl 0 rfl) ?_
  refine lv_iload_n X.1 X.2.1 dJ4_charAt_5068e_1 rfl (lv_at hl 1 rfl) ?_
  refine x_callSUP X hK hw (k := e0) (As := [.int (nI j)]) (rest := []) (k_J5_charAt_5068e hI e0 cap n ml f j u (by omega) (by omega) (by omega) hS (by omega) (by omega) hfu) (x_cwSU yJ5_charAt_5068e cJ5_charAt_5068e 5 (some .char) 1 X q620 q1238 q212 q621 q10 q622 hj_J5_charAt_5068e ⟨Nat.le_of_ble_eq_true rfl, Nat.le_of_ble_eq_true rfl⟩) (by omega) hS.1 rfl rfl hl.1 rfl (Nat.le_of_ble_eq_true rfl) dJ4_charAt_5068e_2 ⟨Nat.le_of_ble_eq_true rfl, Nat.le_of_ble_eq_true rfl⟩ (fun H locs hw => ?_)
  exact x_iret X hr hlk hK hw (v := nI u) (pk_charN (by omega)).1 (⟨rfl, rfl⟩) dJ4_charAt_5068e_5
theorem sub_le {a b : Nat} (h : a ≤ b) (hb : b < 2 ^ 30) : nI a - nI b ≤ 0 := by
  rw [Int32.le_iff_toInt_le, pk_sub_toInt (by omega) hb]
  simp; omega
set_option maxHeartbeats 4000000 in
set_option maxRecDepth 100000 in
theorem k_J5_ensureCapacityInternal_d00df {l : Launch} {D : va_G} {cI cB cS : ClassId} {ad : Nat → Nat} {N : Nat} {F : Nat → va_E} (hI : iN ad N) (e0 : Nat) (cap : Nat) (n : Nat) (ml : Int32) (f : Nat → Int32) (j : Nat) (he2 : e0 + 2 ≤ N) (hcap : cap < 2 ^ 30) (hnc : n ≤ cap) (hS : SbF ad cB F e0 cap n ml f) (hj : j ≤ cap) : Cv l D cI cB cS ad N yJ5_ensureCapacityInternal_d00df cJ5_ensureCapacityInternal_d00df 3 0 0 [.ref (ad e0), .int (nI j)] F (fun F' => F' = F) := by
  refine x_metv (by decide +kernel) (Nat.le_of_ble_eq_true rfl) ?_
  intro p e s m below meth c X hr hlk hK hw ls hl
  replace hl : lv_has ls 3 [(0, .ref (ad e0)), (1, .int (nI j))] := hl
  refine lv_aload_n X.1 X.2.1 dJ5_ensureCapacityInternal_d00df_0 rfl (lv_at hl 0 rfl) ?_
  refine x_get X hK hw (C := RJ4) (T := TJ4) (nf := 4) (k := e0) (by omega) hS.1 rfl inJ4 0 (by decide) q200 (fun _ h9 => h9) rfl dJ5_ensureCapacityInternal_d00df_1 ?_
  refine x_balen X hK hw (k := (e0 + 1)) (by omega) hS.2 dJ5_ensureCapacityInternal_d00df_4 ?_
  refine lv_aload_n X.1 X.2.1 dJ5_ensureCapacityInternal_d00df_5 rfl (lv_at hl 0 rfl) ?_
  refine x_get X hK hw (C := RJ4) (T := TJ4) (nf := 4) (k := e0) (by omega) hS.1 rfl inJ4 1 (by decide) q201 (fun _ h9 => h9) rfl dJ5_ensureCapacityInternal_d00df_6 ?_
  refine lv_ishr X.1 X.2.1 dJ5_ensureCapacityInternal_d00df_9 ?_
  refine x_top (y := nI cap) (shr0 _) ?_
  refine lv_istore_n (lv' := [(2, .int (nI cap)), (0, .ref (ad e0)), (1, .int (nI j))]) X.1 X.2.1 dJ5_ensureCapacityInternal_d00df_10 rfl hl (by decide) rfl (fun ls hl => ?_)
  refine lv_iload_n X.1 X.2.1 dJ5_ensureCapacityInternal_d00df_11 rfl (lv_at hl 2 rfl) ?_
  refine lv_iload_n X.1 X.2.1 dJ5_ensureCapacityInternal_d00df_12 rfl (lv_at hl 0 rfl) ?_
  refine lv_isub X.1 X.2.1 dJ5_ensureCapacityInternal_d00df_13 ?_
  refine lv_if_le (tgt := 38) X.1 X.2.1 dJ5_ensureCapacityInternal_d00df_14 (by decide) (fun c1 => ?_) (fun c1 => ?_)
  · exact x_vret X hr hlk hK hw (rfl) dJ5_ensureCapacityInternal_d00df_38
  · exact absurd (sub_le hj hcap) c1
theorem SbF.pt {ad : Nat → Nat} {cB : ClassId} {F F' : Nat → va_E} {e cap n n1 : Nat} {ml ml1 : Int32} {f : Nat → Int32} {fs : List Value} (h : SbF ad cB F e cap n ml f) (he : F' = va_up F e (.inr (0, fs))) (hfs : fs = [.ref (ad (e + 1)), .int (nI 0), .int ml1, .int (nI n1)]) : SbF ad cB F' e cap n1 ml1 f :=
  ⟨by rw [he, hfs]; simp [va_up], by rw [he, ← h.2]; simp [va_up]⟩
theorem hk_J5_ensureCapacityInternal_d00df : yJ5_ensureCapacityInternal_d00df.cls ≠ "java/lang/invoke/MethodHandle" ∧ yJ5_ensureCapacityInternal_d00df.cls ≠ "java/lang/invoke/VarHandle" ∧ (parseMethodDescriptor yJ5_ensureCapacityInternal_d00df.desc).map (fun d => d.parameters.length) = some 1 := by decide +kernel
theorem hj_J5_ensureCapacityInternal_d00df : yJ5_ensureCapacityInternal_d00df.name ≠ "<init>" ∧ (parseMethodDescriptor yJ5_ensureCapacityInternal_d00df.desc).map (fun d => d.parameters.length) = some 1 := by decide +kernel
set_option maxHeartbeats 4000000 in
set_option maxRecDepth 100000 in
theorem k_J5_setLength_d00df {l : Launch} {D : va_G} {cI cB cS : ClassId} {ad : Nat → Nat} {N : Nat} {F : Nat → va_E} (hI : iN ad N) (e0 : Nat) (cap : Nat) (n : Nat) (ml : Int32) (f : Nat → Int32) (he2 : e0 + 2 ≤ N) (hcap : cap < 2 ^ 30) (hnc : n ≤ cap) (hS : SbF ad cB F e0 cap n ml f) : Cv l D cI cB cS ad N yJ5_setLength_d00df cJ5_setLength_d00df 2 1 22 [.ref (ad e0), .int (nI 0)] F (fun F' => ∃ ml1, SbF ad cB F' e0 cap 0 ml1 f ∧ Fr F F' e0 (e0 + 2)) := by
  refine x_metv (by decide +kernel) (Nat.le_of_ble_eq_true rfl) ?_
  intro p e s m below meth c X hr hlk hK hw ls hl
  replace hl : lv_has ls 2 [(0, .ref (ad e0)), (1, .int (nI 0))] := hl
  have hfr : Fr F F (e0) (e0 + 2) := Fr.rf
  refine lv_iload_n X.1 X.2.1 dJ5_setLength_d00df_0 rfl (lv_at hl 1 rfl) ?_
  refine lv_if_ge (tgt := 13) X.1 X.2.1 dJ5_setLength_d00df_1 (by decide) (fun c1 => ?_) (fun c1 => ?_)
  · refine lv_aload_n X.1 X.2.1 dJ5_setLength_d00df_13 rfl (lv_at hl 0 rfl) ?_
    refine lv_iload_n X.1 X.2.1 dJ5_setLength_d00df_14 rfl (lv_at hl 1 rfl) ?_
    refine x_callUv X hK hw (k := e0) (As := [.int (nI 0)]) (rest := []) (k_J5_ensureCapacityInternal_d00df hI e0 cap n ml f 0 (by omega) (by omega) (by omega) hS (by omega)) (x_cwU RJ4 yJ5_ensureCapacityInternal_d00df cJ5_ensureCapacityInternal_d00df 3 none 1 X q498 q1234 (X.2.2.2.2 _ qx0) q500 q10 q501 hk_J5_ensureCapacityInternal_d00df ⟨Nat.le_of_ble_eq_true rfl, Nat.le_of_ble_eq_true rfl⟩) (by omega) hS.1 rfl rfl hl.1 rfl (Nat.le_of_ble_eq_true rfl) dJ5_setLength_d00df_15 ⟨Nat.le_of_ble_eq_true rfl, Nat.le_of_ble_eq_true rfl⟩ (fun F2 H locs hp hw => ?_)
    rw [hp] at hw
    refine lv_aload_n X.1 X.2.1 dJ5_setLength_d00df_18 rfl (lv_at hl 0 rfl) ?_
    refine x_get X hK hw (C := RJ4) (T := TJ4) (nf := 4) (k := e0) (by omega) hS.1 rfl inJ4 3 (by decide) q203 (fun _ h9 => h9) rfl dJ5_setLength_d00df_19 ?_
    refine lv_iload_n X.1 X.2.1 dJ5_setLength_d00df_22 rfl (lv_at hl 1 rfl) ?_
    refine lv_icmp_ge (tgt := 63) X.1 X.2.1 dJ5_setLength_d00df_23 (by decide) (fun c3 => ?_) (fun c3 => ?_)
    · refine lv_aload_n X.1 X.2.1 dJ5_setLength_d00df_63 rfl (lv_at hl 0 rfl) ?_
      refine x_get X hK hw (C := RJ4) (T := TJ4) (nf := 4) (k := e0) (by omega) hS.1 rfl inJ4 3 (by decide) q203 (fun _ h9 => h9) rfl dJ5_setLength_d00df_64 ?_
      refine lv_iload_n X.1 X.2.1 dJ5_setLength_d00df_67 rfl (lv_at hl 1 rfl) ?_
      refine lv_icmp_le (tgt := 76) X.1 X.2.1 dJ5_setLength_d00df_68 (by decide) (fun c4 => ?_) (fun c4 => ?_)
      · refine lv_aload_n X.1 X.2.1 dJ5_setLength_d00df_76 rfl (lv_at hl 0 rfl) ?_
        refine lv_iload_n X.1 X.2.1 dJ5_setLength_d00df_77 rfl (lv_at hl 1 rfl) ?_
        refine x_put2 X hI hK hw (C := RJ4) (T := TJ4) (nf := 4) (k := e0) (ty := .int) (v := .int (nI 0)) (by omega) hS.1 rfl inJ4 tyJ4 tyJ4_ok nmJ4 3 (by decide) q203 (fun _ h9 => h9) rfl (by decide +kernel) rfl rfl (Nat.le_of_ble_eq_true rfl) dJ5_setLength_d00df_78 (fun F5 H locs eF6 hw => ?_)
        have hF7 : SbF ad cB F5 e0 cap 0 ml f := SbF.pt hS eF6 rfl
        have hr8 := fr_eq eF6 (Nat.le_refl _) (Nat.lt_succ_self _)
        replace hfr := hfr.tr hr8 (by omega) (by omega)
        exact x_vret X hr hlk hK hw (⟨_, hF7, hfr⟩) dJ5_setLength_d00df_81
      · refine lv_aload_n X.1 X.2.1 dJ5_setLength_d00df_71 rfl (lv_at hl 0 rfl) ?_
        refine lv_iconst (v := nI 1) X.1 X.2.1 dJ5_setLength_d00df_72 (by decide) ?_
        refine x_put2 X hI hK hw (C := RJ4) (T := TJ4) (nf := 4) (k := e0) (ty := .boolean) (v := .int (nI 1)) (by omega) hS.1 rfl inJ4 tyJ4 tyJ4_ok nmJ4 2 (by decide) q202 (fun _ h9 => h9) rfl (by decide +kernel) (by decide +kernel) rfl (Nat.le_of_ble_eq_true rfl) dJ5_setLength_d00df_73 (fun F9 H locs eF10 hw => ?_)
        have hF11 : SbF ad cB F9 e0 cap n (nI 1) f := SbF.pt hS eF10 rfl
        have hr12 := fr_eq eF10 (Nat.le_refl _) (Nat.lt_succ_self _)
        replace hfr := hfr.tr hr12 (by omega) (by omega)
        refine lv_aload_n X.1 X.2.1 dJ5_setLength_d00df_76 rfl (lv_at hl 0 rfl) ?_
        refine lv_iload_n X.1 X.2.1 dJ5_setLength_d00df_77 rfl (lv_at hl 1 rfl) ?_
        refine x_put2 X hI hK hw (C := RJ4) (T := TJ4) (nf := 4) (k := e0) (ty := .int) (v := .int (nI 0)) (by omega) hF11.1 rfl inJ4 tyJ4 tyJ4_ok nmJ4 3 (by decide) q203 (fun _ h9 => h9) rfl (by decide +kernel) rfl rfl (Nat.le_of_ble_eq_true rfl) dJ5_setLength_d00df_78 (fun F13 H locs eF14 hw => ?_)
        have hF15 : SbF ad cB F13 e0 cap 0 (nI 1) f := SbF.pt hF11 eF14 rfl
        have hr16 := fr_eq eF14 (Nat.le_refl _) (Nat.lt_succ_self _)
        replace hfr := hfr.tr hr16 (by omega) (by omega)
        exact x_vret X hr hlk hK hw (⟨_, hF15, hfr⟩) dJ5_setLength_d00df_81
    · exact absurd (nI_le (by omega) (by omega)) c3
  · exact absurd (nI_pos' (n := 0) (by omega)) c1
theorem hk_J5_setLength_d00df : yJ5_setLength_d00df.cls ≠ "java/lang/invoke/MethodHandle" ∧ yJ5_setLength_d00df.cls ≠ "java/lang/invoke/VarHandle" ∧ (parseMethodDescriptor yJ5_setLength_d00df.desc).map (fun d => d.parameters.length) = some 1 := by decide +kernel
theorem hj_J5_setLength_d00df : yJ5_setLength_d00df.name ≠ "<init>" ∧ (parseMethodDescriptor yJ5_setLength_d00df.desc).map (fun d => d.parameters.length) = some 1 := by decide +kernel
set_option maxHeartbeats 4000000 in
set_option maxRecDepth 100000 in
theorem k_J4_setLength_d00df {l : Launch} {D : va_G} {cI cB cS : ClassId} {ad : Nat → Nat} {N : Nat} {F : Nat → va_E} (hI : iN ad N) (e0 : Nat) (cap : Nat) (n : Nat) (ml : Int32) (f : Nat → Int32) (he2 : e0 + 2 ≤ N) (hcap : cap < 2 ^ 30) (hnc : n ≤ cap) (hS : SbF ad cB F e0 cap n ml f) : Cv l D cI cB cS ad N yJ4_setLength_d00df cJ4_setLength_d00df 2 2 43 [.ref (ad e0), .int (nI 0)] F (fun F' => ∃ ml1, SbF ad cB F' e0 cap 0 ml1 f ∧ Fr F F' e0 (e0 + 2)) := by
  refine x_metv (by decide +kernel) (Nat.le_of_ble_eq_true rfl) ?_
  intro p e s m below meth c X hr hlk hK hw ls hl
  replace hl : lv_has ls 2 [(0, .ref (ad e0)), (1, .int (nI 0))] := hl
  have hfr : Fr F F (e0) (e0 + 2) := Fr.rf
  refine lv_aload_n X.1 X.2.1 dJ4_setLength_d00df_0 rfl (lv_at hl 0 rfl) ?_
  refine lv_iload_n X.1 X.2.1 dJ4_setLength_d00df_1 rfl (lv_at hl 1 rfl) ?_
  refine x_callSUv X hK hw (k := e0) (As := [.int (nI 0)]) (rest := []) (k_J5_setLength_d00df hI e0 cap n ml f (by omega) (by omega) (by omega) hS) (x_cwSU yJ5_setLength_d00df cJ5_setLength_d00df 2 none 1 X q592 q1237 q212 q593 q10 q594 hj_J5_setLength_d00df ⟨Nat.le_of_ble_eq_true rfl, Nat.le_of_ble_eq_true rfl⟩) (by omega) hS.1 rfl rfl hl.1 rfl (Nat.le_of_ble_eq_true rfl) dJ4_setLength_d00df_2 ⟨Nat.le_of_ble_eq_true rfl, Nat.le_of_ble_eq_true rfl⟩ (fun F1 H locs hp hw => ?_)
  obtain ⟨ml1, hF2, hr3⟩ := hp
  replace hfr := hfr.tr hr3 (by omega) (by omega)
  exact x_vret X hr hlk hK hw (⟨_, hF2, hfr⟩) dJ4_setLength_d00df_5
