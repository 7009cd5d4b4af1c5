theorem shr0 (x : Int32) : x >>> (nI 0 &&& 31) = x := by
  have : (nI 0 &&& 31 : Int32) = 0 := by decide
  rw [this]; simp
theorem ch_fin : ∀ u : Fin 128, ((nI u.val &&& nI 255).toUInt32 % 65536).toInt32 = nI u.val := by decide +kernel
theorem ch_of {u : Nat} (h : u < 128) : ((nI u &&& nI 255).toUInt32 % 65536).toInt32 = nI u := ch_fin ⟨u, h⟩
theorem min_le {a b : Nat} (h : a ≤ b) (hb : b < 2 ^ 31) : (if nI b < nI a then nI b else nI a) = nI a := if_neg (nI_nlt h hb)
set_option maxHeartbeats 4000000 in
set_option maxRecDepth 100000 in
theorem k_J5_length_8abf5 {l : Launch} {D : va_G} {cI cB cS : ClassId} {ad : Nat → Nat} {N : Nat} {F : Nat → va_E} (hI : iN ad N) (e0 : Nat) (cap : Nat) (n : Nat) (ml : Int32) (f : Nat → Int32) (he2 : e0 + 2 ≤ N) (hcap : cap < 2 ^ 30) (hnc : n ≤ cap) (hS : SbF ad cB F e0 cap n ml f) : Ci l D cI cB cS ad N yJ5_length_8abf5 cJ5_length_8abf5 1 (some .int) 0 0 [.ref (ad e0)] F (pP (nI n) F) := by
  refine x_met (by decide +kernel) (Nat.le_of_ble_eq_true rfl) ?_
  intro p e s m below meth c X hr hlk hK hw ls hl
  replace hl : lv_has ls 1 [(0, .ref (ad e0))] := hl
  refine lv_aload_n X.1 X.2.1 dJ5_length_8abf5_0 rfl (lv_at hl 0 rfl) ?_
  refine x_get X hK hw (C := RJ4) (T := TJ4) (nf := 4) (k := e0) (by omega) hS.1 rfl inJ4 3 (by decide) q203 (fun _ h9 => h9) rfl dJ5_length_8abf5_1 ?_
  exact x_iret X hr hlk hK hw (v := nI n) rfl (⟨rfl, rfl⟩) dJ5_length_8abf5_4
theorem hk_J5_length_8abf5 : yJ5_length_8abf5.cls ≠ "java/lang/invoke/MethodHandle" ∧ yJ5_length_8abf5.cls ≠ "java/lang/invoke/VarHandle" ∧ (parseMethodDescriptor yJ5_length_8abf5.desc).map (fun d => d.parameters.length) = some 0 := by decide +kernel
theorem hj_J5_length_8abf5 : yJ5_length_8abf5.name ≠ "<init>" ∧ (parseMethodDescriptor yJ5_length_8abf5.desc).map (fun d => d.parameters.length) = some 0 := by decide +kernel
set_option maxHeartbeats 4000000 in
set_option maxRecDepth 100000 in
theorem k_J4_length_8abf5 {l : Launch} {D : va_G} {cI cB cS : ClassId} {ad : Nat → Nat} {N : Nat} {F : Nat → va_E} (hI : iN ad N) (e0 : Nat) (cap : Nat) (n : Nat) (ml : Int32) (f : Nat → Int32) (he2 : e0 + 2 ≤ N) (hcap : cap < 2 ^ 30) (hnc : n ≤ cap) (hS : SbF ad cB F e0 cap n ml f) : Ci l D cI cB cS ad N yJ4_length_8abf5 cJ4_length_8abf5 1 (some .int) 1 20 [.ref (ad e0)] F (pP (nI n) F) := by
  refine x_met (by decide +kernel) (Nat.le_of_ble_eq_true rfl) ?_
  intro p e s m below meth c X hr hlk hK hw ls hl
  replace hl : lv_has ls 1 [(0, .ref (ad e0))] := hl
  refine lv_aload_n X.1 X.2.1 dJ4_length_8abf5_0 rfl (lv_at hl 0 rfl) ?_
  refine x_callSUP X hK hw (k := e0) (As := []) (rest := []) (k_J5_length_8abf5 hI e0 cap n ml f (by omega) (by omega) (by omega) hS) (x_cwSU yJ5_length_8abf5 cJ5_length_8abf5 1 (some .int) 0 X q488 q1232 q212 q489 q10 q490 hj_J5_length_8abf5 ⟨Nat.le_of_ble_eq_true rfl, Nat.le_of_ble_eq_true rfl⟩) (by omega) hS.1 rfl rfl hl.1 rfl (Nat.le_of_ble_eq_true rfl) dJ4_length_8abf5_1 ⟨Nat.le_of_ble_eq_true rfl, Nat.le_of_ble_eq_true rfl⟩ (fun H locs hw => ?_)
  exact x_iret X hr hlk hK hw (v := nI n) rfl (⟨rfl, rfl⟩) dJ4_length_8abf5_4
set_option maxHeartbeats 4000000 in
set_option maxRecDepth 100000 in
theorem k_J5_isLatin1_aae02 {l : Launch} {D : va_G} {cI cB cS : ClassId} {ad : Nat → Nat} {N : Nat} {F : Nat → va_E} (hI : iN ad N) (e0 : Nat) (cap : Nat) (n : Nat) (ml : Int32) (f : Nat → Int32) (he2 : e0 + 2 ≤ N) (hcap : cap < 2 ^ 30) (hnc : n ≤ cap) (hS : SbF ad cB F e0 cap n ml f) : Ci l D cI cB cS ad N yJ5_isLatin1_aae02 cJ5_isLatin1_aae02 1 (some .boolean) 0 0 [.ref (ad e0)] F (pP (nI 1) F) := by
  refine x_met (by decide +kernel) (Nat.le_of_ble_eq_true rfl) ?_
  intro p e s m below meth c X hr hlk hK hw ls hl
  replace hl : lv_has ls 1 [(0, .ref (ad e0))] := hl
  refine x_latin X hK hw dJ5_isLatin1_aae02_0 ?_
  refine x_top (y := nI 1) rfl ?_
  refine lv_if_eq (tgt := 17) X.1 X.2.1 dJ5_isLatin1_aae02_3 (by decide) (fun c1 => ?_) (fun c1 => ?_)
  · exact absurd c1 (by decide)
  · refine lv_aload_n X.1 X.2.1 dJ5_isLatin1_aae02_6 rfl (lv_at hl 0 rfl) ?_
    refine x_get X hK hw (C := RJ4) (T := TJ4) (nf := 4) (k := e0) (by omega) hS.1 rfl inJ4 1 (by decide) q201 (fun _ h9 => h9) rfl dJ5_isLatin1_aae02_7 ?_
    refine lv_if_ne (tgt := 17) X.1 X.2.1 dJ5_isLatin1_aae02_10 (by decide) (fun c2 => ?_) (fun c2 => ?_)
    · exact absurd rfl c2
    · refine lv_iconst (v := nI 1) X.1 X.2.1 dJ5_isLatin1_aae02_13 (by decide) ?_
      refine lv_goto (tgt := 18) X.1 X.2.1 dJ5_isLatin1_aae02_14 (by decide) ?_
      exact x_iret X hr hlk hK hw (v := nI 1) (by decide +kernel) (⟨rfl, rfl⟩) dJ5_isLatin1_aae02_18
set_option maxHeartbeats 4000000 in
set_option maxRecDepth 100000 in
theorem k_J1_canEncode_fc78d {l : Launch} {D : va_G} {cI cB cS : ClassId} {ad : Nat → Nat} {N : Nat} {F : Nat → va_E} (hI : iN ad N) (u : Nat) (hu : u < 256) : Ci l D cI cB cS ad N yJ1_canEncode_fc78d cJ1_canEncode_fc78d 1 (some .boolean) 0 0 [.int (nI u)] F (pP (nI 1) F) := by
  refine x_met (by decide +kernel) (Nat.le_of_ble_eq_true rfl) ?_
  intro p e s m below meth c X hr hlk hK hw ls hl
  replace hl : lv_has ls 1 [(0, .int (nI u))] := hl
  refine lv_iload_n X.1 X.2.1 dJ1_canEncode_fc78d_0 rfl (lv_at hl 0 rfl) ?_
  refine lv_sipush (v := nI 255) X.1 X.2.1 dJ1_canEncode_fc78d_1 (by decide) ?_
  refine lv_icmp_gt (tgt := 11) X.1 X.2.1 dJ1_canEncode_fc78d_4 (by decide) (fun c1 => ?_) (fun c1 => ?_)
  · exact absurd c1 (nI_nlt (by omega) (by omega))
  · refine lv_iconst (v := nI 1) X.1 X.2.1 dJ1_canEncode_fc78d_7 (by decide) ?_
    refine lv_goto (tgt := 12) X.1 X.2.1 dJ1_canEncode_fc78d_8 (by decide) ?_
    exact x_iret X hr hlk hK hw (v := nI 1) (by decide +kernel) (⟨rfl, rfl⟩) dJ1_canEncode_fc78d_12
set_option maxHeartbeats 4000000 in
set_option maxRecDepth 100000 in
theorem k_J3_checkIndex_8e157_n {l : Launch} {D : va_G} {cI cB cS : ClassId} {ad : Nat → Nat} {N : Nat} {F : Nat → va_E} (hI : iN ad N) (j : Nat) (n : Nat) (hj : j < n) (hn : n < 2 ^ 31) : Ci l D cI cB cS ad N yJ3_checkIndex_8e157 cJ3_checkIndex_8e157 3 (some .int) 0 0 [.int (nI j), .int (nI n), .null] F (pP (nI j) F) := by
  refine x_met (by decide +kernel) (Nat.le_of_ble_eq_true rfl) ?_
  intro p e s m below meth c X hr hlk hK hw ls hl
  replace hl : lv_has ls 3 [(0, .int (nI j)), (1, .int (nI n)), (2, .null)] := hl
  refine lv_iload_n X.1 X.2.1 dJ3_checkIndex_8e157_0 rfl (lv_at hl 0 rfl) ?_
  refine lv_if_lt (tgt := 9) X.1 X.2.1 dJ3_checkIndex_8e157_1 (by decide) (fun c1 => ?_) (fun c1 => ?_)
  · exact absurd c1 (nI_pos (by omega))
  · refine lv_iload_n X.1 X.2.1 dJ3_checkIndex_8e157_4 rfl (lv_at hl 0 rfl) ?_
    refine lv_iload_n X.1 X.2.1 dJ3_checkIndex_8e157_5 rfl (lv_at hl 1 rfl) ?_
    refine lv_icmp_lt (tgt := 16) X.1 X.2.1 dJ3_checkIndex_8e157_6 (by decide) (fun c2 => ?_) (fun c2 => ?_)
    · refine lv_iload_n X.1 X.2.1 dJ3_checkIndex_8e157_16 rfl (lv_at hl 0 rfl) ?_
      exact x_iret X hr hlk hK hw (v := nI j) rfl (⟨rfl, rfl⟩) dJ3_checkIndex_8e157_17
    · exact absurd (nI_lt (by omega) (by omega)) c2
set_option maxHeartbeats 4000000 in
set_option maxRecDepth 100000 in
theorem k_J3_checkIndex_8e157_r {l : Launch} {D : va_G} {cI cB cS : ClassId} {ad : Nat → Nat} {N : Nat} {F : Nat → va_E} (hI : iN ad N) (j : Nat) (n : Nat) (tt : Nat) (hj : j < n) (hn : n < 2 ^ 31) : Ci l D cI cB cS ad N yJ3_checkIndex_8e157 cJ3_checkIndex_8e157 3 (some .int) 0 0 [.int (nI j), .int (nI n), .ref tt] F (pP (nI j) F) := by
  refine x_met (by decide +kernel) (Nat.le_of_ble_eq_true rfl) ?_
  intro p e s m below meth c X hr hlk hK hw ls hl
  replace hl : lv_has ls 3 [(0, .int (nI j)), (1, .int (nI n)), (2, .ref tt)] := hl
  refine lv_iload_n X.1 X.2.1 dJ3_checkIndex_8e157_0 rfl (lv_at hl 0 rfl) ?_
  refine lv_if_lt (tgt := 9) X.1 X.2.1 dJ3_checkIndex_8e157_1 (by decide) (fun c1 => ?_) (fun c1 => ?_)
  · exact absurd c1 (nI_pos (by omega))
  · refine lv_iload_n X.1 X.2.1 dJ3_checkIndex_8e157_4 rfl (lv_at hl 0 rfl) ?_
    refine lv_iload_n X.1 X.2.1 dJ3_checkIndex_8e157_5 rfl (lv_at hl 1 rfl) ?_
    refine lv_icmp_lt (tgt := 16) X.1 X.2.1 dJ3_checkIndex_8e157_6 (by decide) (fun c2 => ?_) (fun c2 => ?_)
    · refine lv_iload_n X.1 X.2.1 dJ3_checkIndex_8e157_16 rfl (lv_at hl 0 rfl) ?_
      exact x_iret X hr hlk hK hw (v := nI j) rfl (⟨rfl, rfl⟩) dJ3_checkIndex_8e157_17
    · exact absurd (nI_lt (by omega) (by omega)) c2
