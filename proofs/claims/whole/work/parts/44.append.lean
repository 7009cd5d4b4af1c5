theorem hk_J5_isLatin1_aae02 : yJ5_isLatin1_aae02.cls ≠ "java/lang/invoke/MethodHandle" ∧ yJ5_isLatin1_aae02.cls ≠ "java/lang/invoke/VarHandle" ∧ (parseMethodDescriptor yJ5_isLatin1_aae02.desc).map (fun d => d.parameters.length) = some 0 := by decide +kernel
theorem hj_J5_isLatin1_aae02 : yJ5_isLatin1_aae02.name ≠ "<init>" ∧ (parseMethodDescriptor yJ5_isLatin1_aae02.desc).map (fun d => d.parameters.length) = some 0 := by decide +kernel
theorem hk_J5_append_3fe6f : yJ5_append_3fe6f.cls ≠ "java/lang/invoke/MethodHandle" ∧ yJ5_append_3fe6f.cls ≠ "java/lang/invoke/VarHandle" ∧ (parseMethodDescriptor yJ5_append_3fe6f.desc).map (fun d => d.parameters.length) = some 1 := by decide +kernel
theorem hj_J5_append_3fe6f : yJ5_append_3fe6f.name ≠ "<init>" ∧ (parseMethodDescriptor yJ5_append_3fe6f.desc).map (fun d => d.parameters.length) = some 1 := by decide +kernel
theorem hd_J1_canEncode_fc78d : yJ1_canEncode_fc78d.cls = RJ1 ∧ yJ1_canEncode_fc78d.cls ≠ "java/lang/invoke/MethodHandle" ∧ yJ1_canEncode_fc78d.cls ≠ "java/lang/invoke/VarHandle" ∧ (parseMethodDescriptor yJ1_canEncode_fc78d.desc).map (fun d => d.parameters.length) = some 1 := by decide +kernel
theorem hd_J4_append_cf468 : yJ4_append_cf468.cls = RJ4 ∧ yJ4_append_cf468.cls ≠ "java/lang/invoke/MethodHandle" ∧ yJ4_append_cf468.cls ≠ "java/lang/invoke/VarHandle" ∧ (parseMethodDescriptor yJ4_append_cf468.desc).map (fun d => d.parameters.length) = some 1 := by decide +kernel
theorem hd_X3_addSign : yX3_addSign.cls = RX3 ∧ yX3_addSign.cls ≠ "java/lang/invoke/MethodHandle" ∧ yX3_addSign.cls ≠ "java/lang/invoke/VarHandle" ∧ (parseMethodDescriptor yX3_addSign.desc).map (fun d => d.parameters.length) = some 1 := by decide +kernel
theorem hd_X3_empty : yX3_empty.cls = RX3 ∧ yX3_empty.cls ≠ "java/lang/invoke/MethodHandle" ∧ yX3_empty.cls ≠ "java/lang/invoke/VarHandle" ∧ (parseMethodDescriptor yX3_empty.desc).map (fun d => d.parameters.length) = some 0 := by decide +kernel
/-- one sign more -/
def AP (cB : ClassId) (ad : Nat → Nat) (F : Nat → va_E) (e0 n u : Nat) (ml : Int32) (f : Nat → Int32) (ad' : Nat → Nat) (F' : Nat → va_E) : Prop := ∃ (cap' : Nat) (f' : Nat → Int32), SbF ad' cB F' e0 cap' (n + 1) ml f' ∧ n + 1 ≤ cap' ∧ cap' ≤ 160 ∧ (∀ j, j < n → f' j = f j) ∧ f' n = nI u ∧ Byt cap' f' ∧ (∀ k, k ≠ e0 + 1 → ad' k = ad k) ∧ ∀ k, k ≠ e0 → k ≠ e0 + 1 → F' k = F k
theorem upd_s {f : Nat → Int32} {j : Nat} {v : Int32} : upd f j v j = v := by simp [upd]
theorem upd_o {f : Nat → Int32} {i j : Nat} {v : Int32} (h : i ≠ j) : upd f j v i = f i := by simp [upd, h]
set_option maxHeartbeats 4000000 in
set_option maxRecDepth 100000 in
theorem k_append5 {l : Launch} {D : va_G} {cI cB cS : ClassId} {ad : Nat → Nat} {N : Nat} {F : Nat → va_E} (hI : iN ad N) (e0 cap n u : Nat) (ml : Int32) (f : Nat → Int32) (he2 : e0 + 2 ≤ N) (hcap : cap ≤ 160) (hnc : n ≤ cap) (hn80 : n < 80) (hu : u < 128) (hS : SbF ad cB F e0 cap n ml f) (hb : Byt cap f) : Cgr l D cI cB cS ad N yJ5_append_3fe6f cJ5_append_3fe6f 2 (.object "java/lang/AbstractStringBuilder") 4 130 [.ref (ad e0), .int (nI u)] F (AP cB ad F e0 n u ml f) := by
  refine fun sz => x_metg (Qc := fun sz => va_Qr (fun v => AP cB ad F e0 n u ml f v.1 v.2 ∧ gR ad N sz v) (fun v _ t => PO D v.1 N v.2 t) (Af ad N sz)) (by decide +kernel) (Nat.le_of_ble_eq_true rfl) ?_ sz
  intro p e s m below meth c X hr hlk hK hw ls hl
  replace hl : lv_has ls 2 [(0, .ref (ad e0)), (1, .int (nI u))] := hl
  refine lv_aload_n X.1 X.2.1 dJ5_append_3fe6f_0 rfl (lv_at hl 0 rfl) ?_
  refine lv_aload_n X.1 X.2.1 dJ5_append_3fe6f_1 rfl (lv_at hl 0 rfl) ?_
  refine x_get X hK hw (C := RJ4) (T := TJ4) (nf := 4) (k := e0) (by omega) hS.1 rfl inJ4 3 (by decide) q203 (fun _ h9 => h9) rfl dJ5_append_3fe6f_2 ?_
  refine lv_iconst (v := nI 1) X.1 X.2.1 dJ5_append_3fe6f_5 (by decide) ?_
  refine lv_iadd X.1 X.2.1 dJ5_append_3fe6f_6 ?_
  refine x_top (y := nI (n + 1)) (nI_add _ _) ?_
  refine x_callUg X hK hw (k := e0) (As := [.int (nI (n + 1))]) (rest := []) (k_ensure hI e0 cap n ml f he2 hcap hnc hn80 hS hb) (x_cwU RJ4 yJ5_ensureCapacityInternal_d00df cJ5_ensureCapacityInternal_d00df 3 none 1 X q498 q1234 (X.2.2.2.2 _ qx0) q500 q10 q501 hk_J5_ensureCapacityInternal_d00df ⟨(Nat.le_of_ble_eq_true rfl), (Nat.le_of_ble_eq_true rfl)⟩) (by omega) hS.1 rfl rfl hl.1 rfl (Nat.le_of_ble_eq_true rfl) dJ5_append_3fe6f_7 ⟨Nat.le_of_ble_eq_true rfl, Nat.le_of_ble_eq_true rfl⟩ (fun ad1 F1 H locs hp hI1 _ hw => ?_)
  obtain ⟨cap1, f1, hS1, h1, h2, h3, h4, h5, h6⟩ := hp
  have e1 : ad e0 = ad1 e0 := (h5 _ (by omega)).symm
  have hl1 : lv_has ls 2 [(0, .ref (ad1 e0)), (1, .int (nI u))] := by rw [← e1]; exact hl
  refine lv_aload_n X.1 X.2.1 dJ5_append_3fe6f_10 rfl (lv_at hl1 0 rfl) ?_
  refine x_callUP X hK hw (k := e0) (As := []) (rest := []) (k_J5_isLatin1_aae02 hI1 e0 cap1 n ml f1 (by omega) (by omega) (by omega) hS1) (x_cwU RJ4 yJ5_isLatin1_aae02 cJ5_isLatin1_aae02 1 (some .boolean) 0 X q527 q529 (X.2.2.2.2 _ q530) q528 q10 q531 hk_J5_isLatin1_aae02 ⟨(Nat.le_of_ble_eq_true rfl), (Nat.le_of_ble_eq_true rfl)⟩) (by omega) hS1.1 rfl rfl hl1.1 rfl (Nat.le_of_ble_eq_true rfl) dJ5_append_3fe6f_11 ⟨Nat.le_of_ble_eq_true rfl, Nat.le_of_ble_eq_true rfl⟩ (fun H locs hw => ?_)
  refine lv_if_eq (tgt := 45) X.1 X.2.1 dJ5_append_3fe6f_14 (by decide) (fun c1 => ?_) (fun c1 => ?_)
  · exact absurd c1 (by decide)
  refine lv_iload_n X.1 X.2.1 dJ5_append_3fe6f_17 rfl (lv_at hl1 1 rfl) ?_
  refine x_callSP X hK hw (As := [.int (nI u)]) (rest := []) (k_J1_canEncode_fc78d hI1 u (by omega)) (x_cwS2 yJ1_canEncode_fc78d cJ1_canEncode_fc78d 1 (some .boolean) 1 X q532 q533 q18 q534 hd_J1_canEncode_fc78d.2 ⟨Nat.le_of_ble_eq_true rfl, Nat.le_of_ble_eq_true rfl⟩) rfl hl1.1 rfl (Nat.le_of_ble_eq_true rfl) dJ5_append_3fe6f_18 ⟨Nat.le_of_ble_eq_true rfl, Nat.le_of_ble_eq_true rfl⟩ (fun H locs hw => ?_)
  refine lv_if_eq (tgt := 45) X.1 X.2.1 dJ5_append_3fe6f_21 (by decide) (fun c1 => ?_) (fun c1 => ?_)
  · exact absurd c1 (by decide)
  refine lv_aload_n X.1 X.2.1 dJ5_append_3fe6f_24 rfl (lv_at hl1 0 rfl) ?_
  refine x_get X hK hw (C := RJ4) (T := TJ4) (nf := 4) (k := e0) (by omega) hS1.1 rfl inJ4 0 (by decide) q200 (fun _ h9 => h9) rfl dJ5_append_3fe6f_25 ?_
  refine lv_aload_n X.1 X.2.1 dJ5_append_3fe6f_28 rfl (lv_at hl1 0 rfl) ?_
  refine lv_dup X.1 X.2.1 dJ5_append_3fe6f_29 rfl ?_
  refine x_get X hK hw (C := RJ4) (T := TJ4) (nf := 4) (k := e0) (by omega) hS1.1 rfl inJ4 3 (by decide) q203 (fun _ h9 => h9) rfl dJ5_append_3fe6f_30 ?_
  refine lv_dup_x1 X.1 X.2.1 dJ5_append_3fe6f_33 rfl rfl ?_
  refine lv_iconst (v := nI 1) X.1 X.2.1 dJ5_append_3fe6f_34 (by decide) ?_
  refine lv_iadd X.1 X.2.1 dJ5_append_3fe6f_35 ?_
  refine x_top (y := nI (n + 1)) (nI_add _ _) ?_
  refine x_put2 X hI1 hK hw (C := RJ4) (T := TJ4) (nf := 4) (k := e0) (ty := .int) (v := .int (nI (n + 1))) (by omega) hS1.1 rfl inJ4 tyJ4 tyJ4_ok nmJ4 3 (by decide) q203 (fun _ h9 => h9) rfl (by decide +kernel) rfl rfl (Nat.le_of_ble_eq_true rfl) dJ5_append_3fe6f_36 (fun F2 H locs eF2 hw => ?_)
  have hA2 : F2 (e0 + 1) = .inl (cB, cap1, .inl f1) := by rw [eF2]; exact (up_o (by omega)).trans hS1.2
  refine lv_iload_n X.1 X.2.1 dJ5_append_3fe6f_39 rfl (lv_at hl1 1 rfl) ?_
  refine lv_i2b (v := nI u) X.1 X.2.1 dJ5_append_3fe6f_40 (i2b_of hu) ?_
  refine x_bast X hI1 hK hw (k := e0 + 1) (by omega) hA2 (j := n) rfl (by omega) (by omega) hu dJ5_append_3fe6f_41 (fun F3 H locs eF3 hw => ?_)
  refine lv_goto (tgt := 75) X.1 X.2.1 dJ5_append_3fe6f_42 (by decide) ?_
  refine lv_aload_n X.1 X.2.1 dJ5_append_3fe6f_75 rfl (lv_at hl1 0 rfl) ?_
  refine x_aretg X hr (Or.inl ⟨_, rfl⟩) hlk hI1 (fun k hk => hw.2.2.1 k hk) hw (post := AP cB ad F e0 n u ml f) ⟨cap1, upd f1 n (nI u), ⟨?_, ?_⟩, h1, h2, fun j hj => (upd_o (by omega)).trans (h3 j hj), upd_s, fun j hj => ?_, h5, fun k k1 k2 => ?_⟩ dJ5_append_3fe6f_76
  · rw [eF3, up_o (by omega), eF2, up_a]; rfl
  · rw [eF3, up_a]
  · by_cases q : j = n
    · exact ⟨u, hu, by rw [q]; exact upd_s⟩
    · obtain ⟨w, hw1, hw2⟩ := h4 j hj; exact ⟨w, hw1, (upd_o q).trans hw2⟩
  · rw [eF3, up_o k2, eF2, up_o k1, h6 k k1 k2]
set_option maxHeartbeats 4000000 in
set_option maxRecDepth 100000 in
theorem k_append4 {l : Launch} {D : va_G} {cI cB cS : ClassId} {ad : Nat → Nat} {N : Nat} {F : Nat → va_E} (hI : iN ad N) (e0 cap n u : Nat) (ml : Int32) (f : Nat → Int32) (he2 : e0 + 2 ≤ N) (hcap : cap ≤ 160) (hnc : n ≤ cap) (hn80 : n < 80) (hu : u < 128) (hS : SbF ad cB F e0 cap n ml f) (hb : Byt cap f) : Cgr l D cI cB cS ad N yJ4_append_cf468 cJ4_append_cf468 2 (.object "java/lang/StringBuilder") 5 151 [.ref (ad e0), .int (nI u)] F (AP cB ad F e0 n u ml f) := by
  refine fun sz => x_metg (Qc := fun sz => va_Qr (fun v => AP cB ad F e0 n u ml f v.1 v.2 ∧ gR ad N sz v) (fun v _ t => PO D v.1 N v.2 t) (Af ad N sz)) (by decide +kernel) (Nat.le_of_ble_eq_true rfl) ?_ sz
  intro p e s m below meth c X hr hlk hK hw ls hl
  replace hl : lv_has ls 2 [(0, .ref (ad e0)), (1, .int (nI u))] := hl
  refine lv_aload_n X.1 X.2.1 dJ4_append_cf468_0 rfl (lv_at hl 0 rfl) ?_
  refine lv_iload_n X.1 X.2.1 dJ4_append_cf468_1 rfl (lv_at hl 1 rfl) ?_
  refine x_callSUg X hK hw (k := e0) (As := [.int (nI u)]) (rest := []) (k_append5 hI e0 cap n u ml f he2 hcap hnc hn80 hu hS hb) (x_cwSU2 yJ5_append_3fe6f cJ5_append_3fe6f 2 (some (.object "java/lang/AbstractStringBuilder")) 1 X q495 q1233 q212 q496 q10 q497 hj_J5_append_3fe6f ⟨Nat.le_of_ble_eq_true rfl, Nat.le_of_ble_eq_true rfl⟩) (by omega) hS.1 rfl rfl hl.1 rfl (Nat.le_of_ble_eq_true rfl) dJ4_append_cf468_2 ⟨Nat.le_of_ble_eq_true rfl, Nat.le_of_ble_eq_true rfl⟩ (fun ad1 ra F1 H locs hp hI1 _ hw => ?_)
  refine lv_pop X.1 X.2.1 dJ4_append_cf468_5 rfl ?_
  refine lv_aload_n X.1 X.2.1 dJ4_append_cf468_6 rfl (lv_at hl 0 rfl) ?_
  exact x_aretg X hr (Or.inl ⟨_, rfl⟩) hlk hI1 (fun k hk => hw.2.2.1 k hk) hw (post := AP cB ad F e0 n u ml f) hp dJ4_append_cf468_7
abbrev as_ok (x : Int32) (n : Nat) : Prop := ¬ x < nI 32 ∧ ¬ nI 126 < x ∧ n < 80
def as_r (x : Int32) (n : Nat) : Int32 := if x < nI 32 then (-2) else if nI 126 < x then (-2) else if n < 80 then nI (n + 1) else (-3)
def as_n (x : Int32) (n : Nat) : Nat := if as_ok x n then n + 1 else n
def as_t (x : Int32) (n : Nat) (tx : Nat → Nat) : Nat → Nat := if as_ok x n then fun j => if j = n then x.toNatClampNeg else tx j else tx
/-- the log's text, as it stands: n signs tx -/
def LgF (ad : Nat → Nat) (cB : ClassId) (F : Nat → va_E) (q n : Nat) (tx : Nat → Nat) : Prop := LoF ad F q ∧ ∃ (cap : Nat) (ml : Int32) (f : Nat → Int32), SbF ad cB F (q + 1) cap n ml f ∧ n ≤ cap ∧ cap ≤ 160 ∧ (∀ j, j < n → tx j < 128 ∧ f j = nI (tx j)) ∧ Byt cap f
def AdP (cB : ClassId) (ad : Nat → Nat) (F : Nat → va_E) (q n : Nat) (tx : Nat → Nat) (x r : Int32) (ad' : Nat → Nat) (F' : Nat → va_E) : Prop := r = as_r x n ∧ LgF ad' cB F' q (as_n x n) (as_t x n tx) ∧ (∀ k, k ≠ q + 2 → ad' k = ad k) ∧ ∀ k, k ≠ q + 1 → k ≠ q + 2 → F' k = F k
theorem i2c_of {u : Nat} (hu : u < 128) : ((nI u).toUInt32 % 65536).toInt32 = nI u := (show ∀ u : Fin 128, ((nI u.val).toUInt32 % 65536).toInt32 = nI u.val by decide +kernel) ⟨u, hu⟩
theorem sg_of {x : Int32} (h1 : ¬ x < nI 32) (h2 : ¬ nI 126 < x) : x.toNatClampNeg < 128 ∧ x = nI x.toNatClampNeg := by
  have h0 : ¬ x < 0 := fun q => h1 (Int32.lt_of_lt_of_le q (by decide))
  obtain ⟨j, hj, rfl⟩ := nI_of (x := x) h0
  have h3 := Int32.not_lt.mp h2
  rw [nI_leI hj (by omega)] at h3
  rw [nI_clamp hj]
  exact ⟨by omega, rfl⟩
set_option maxHeartbeats 4000000 in
set_option maxRecDepth 100000 in
theorem k_addSign {l : Launch} {D : va_G} {cI cB cS : ClassId} {ad : Nat → Nat} {N : Nat} {F : Nat → va_E} (hI : iN ad N) (q n : Nat) (tx : Nat → Nat) (x : Int32) (hq3 : q + 3 ≤ N) (hn80 : n ≤ 80) (hL : LgF ad cB F q n tx) : Cgi l D cI cB cS ad N yX3_addSign cX3_addSign 2 6 172 [.ref (ad q), .int x] F (AdP cB ad F q n tx x) := by
  refine fun sz => x_metg (Qc := fun sz => va_Qi (fun r v => AdP cB ad F q n tx x r v.1 v.2 ∧ gR ad N sz v) (fun v t => PO D v.1 N v.2 t) (Af ad N sz)) (by decide +kernel) (Nat.le_of_ble_eq_true rfl) ?_ sz
  intro p e s m below meth c X hr hlk hK hw ls hl
  replace hl : lv_has ls 2 [(0, .ref (ad q)), (1, .int x)] := hl
  have hL0 := hL
  obtain ⟨hLo, cap, ml, f, hS, hnc, hcap, htx, hb⟩ := hL0
  refine lv_iload_n X.1 X.2.1 dX3_addSign_0 rfl (lv_at hl 1 rfl) ?_
  refine lv_bipush (v := nI 32) X.1 X.2.1 dX3_addSign_1 (by decide) ?_
  refine lv_icmp_lt (tgt := 12) X.1 X.2.1 dX3_addSign_3 (by decide) (fun c1 => ?_) (fun c1 => ?_)
  · refine lv_bipush (v := (-2)) X.1 X.2.1 dX3_addSign_12 (by decide) ?_
    refine W.widen (k := 1) (n := 162) (by omega) (by omega) ?_
    have hno : ¬ as_ok x n := fun h => h.1 c1
    exact x_iretg X hr hlk hI (fun k hk => Or.inl ⟨k, hk, rfl⟩) hw (post := AdP cB ad F q n tx x) ⟨(if_pos c1).symm, by rw [as_n, as_t, if_neg hno, if_neg hno]; exact hL, fun _ _ => rfl, fun _ _ _ => rfl⟩ dX3_addSign_14
  refine lv_iload_n X.1 X.2.1 dX3_addSign_6 rfl (lv_at hl 1 rfl) ?_
  refine lv_bipush (v := nI 126) X.1 X.2.1 dX3_addSign_7 (by decide) ?_
  refine lv_icmp_le (tgt := 15) X.1 X.2.1 dX3_addSign_9 (by decide) (fun c2 => ?_) (fun c2 => ?_)
  rotate_left
  · refine lv_bipush (v := (-2)) X.1 X.2.1 dX3_addSign_12 (by decide) ?_
    refine W.widen (k := 1) (n := 162) (by omega) (by omega) ?_
    have c3 : nI 126 < x := Int32.not_le.mp c2
    have hno : ¬ as_ok x n := fun h => h.2.1 c3
    exact x_iretg X hr hlk hI (fun k hk => Or.inl ⟨k, hk, rfl⟩) hw (post := AdP cB ad F q n tx x) ⟨((if_neg c1).trans (if_pos c3)).symm, by rw [as_n, as_t, if_neg hno, if_neg hno]; exact hL, fun _ _ => rfl, fun _ _ _ => rfl⟩ dX3_addSign_14
  have c3 : ¬ nI 126 < x := Int32.not_lt.mpr c2
  refine lv_aload_n X.1 X.2.1 dX3_addSign_15 rfl (lv_at hl 0 rfl) ?_
  refine x_get X hK hw (C := RX3) (T := TX3) (nf := 1) (k := q) (by omega) hLo rfl inX3 0 (by decide) q214 (fun _ h9 => h9) rfl dX3_addSign_16 ?_
  refine x_callVP X hK hw (k := q + 1) (As := []) (rest := []) (k_J4_length_8abf5 hI (q + 1) cap n ml f (by omega) (by omega) (by omega) hS) (x_cwV yJ4_length_8abf5 cJ4_length_8abf5 1 (some .int) 0 X q484 q485 q486 q11 q487 hd_J4_length_8abf5 ⟨(Nat.le_of_ble_eq_true rfl), (Nat.le_of_ble_eq_true rfl)⟩) (by omega) hS.1 rfl rfl hl.1 rfl (Nat.le_of_ble_eq_true rfl) dX3_addSign_19 ⟨Nat.le_of_ble_eq_true rfl, Nat.le_of_ble_eq_true rfl⟩ (fun H locs hw => ?_)
  refine lv_bipush (v := nI 80) X.1 X.2.1 dX3_addSign_22 (by decide) ?_
  refine lv_icmp_lt (tgt := 30) X.1 X.2.1 dX3_addSign_24 (by decide) (fun c4 => ?_) (fun c4 => ?_)
  rotate_left
  · refine lv_bipush (v := (-3)) X.1 X.2.1 dX3_addSign_27 (by decide) ?_
    refine W.widen (k := 1) (n := 162) (by omega) (by omega) ?_
    have c5 : ¬ n < 80 := fun h => c4 (nI_lt h (by omega))
    have hno : ¬ as_ok x n := fun h => c5 h.2.2
    exact x_iretg X hr hlk hI (fun k hk => Or.inl ⟨k, hk, rfl⟩) hw (post := AdP cB ad F q n tx x) ⟨((if_neg c1).trans ((if_neg c3).trans (if_neg c5))).symm, by rw [as_n, as_t, if_neg hno, if_neg hno]; exact hL, fun _ _ => rfl, fun _ _ _ => rfl⟩ dX3_addSign_29
  have c5 : n < 80 := (nI_ltI (by omega) (by omega)).mp c4
  have hok : as_ok x n := ⟨c1, c3, c5⟩
  obtain ⟨hu, ex⟩ := sg_of c1 c3
  refine lv_aload_n X.1 X.2.1 dX3_addSign_30 rfl (lv_at hl 0 rfl) ?_
  refine x_get X hK hw (C := RX3) (T := TX3) (nf := 1) (k := q) (by omega) hLo rfl inX3 0 (by decide) q214 (fun _ h9 => h9) rfl dX3_addSign_31 ?_
  refine lv_iload_n X.1 X.2.1 dX3_addSign_34 rfl (lv_at hl 1 rfl) ?_
  refine lv_i2c (v := nI x.toNatClampNeg) X.1 X.2.1 dX3_addSign_35 (by rw [ex, nI_clamp (by omega)]; exact i2c_of hu) ?_
  refine x_callVgr X hK hw (k := q + 1) (As := [.int (nI x.toNatClampNeg)]) (rest := []) (k_append4 hI (q + 1) cap n x.toNatClampNeg ml f (by omega) hcap hnc c5 hu hS hb) (x_cwV2 yJ4_append_cf468 cJ4_append_cf468 2 (some (.object "java/lang/StringBuilder")) 1 X q491 q492 q493 q11 q494 hd_J4_append_cf468 ⟨(Nat.le_of_ble_eq_true rfl), (Nat.le_of_ble_eq_true rfl)⟩) (by omega) hS.1 rfl rfl hl.1 rfl (Nat.le_of_ble_eq_true rfl) dX3_addSign_36 ⟨Nat.le_of_ble_eq_true rfl, Nat.le_of_ble_eq_true rfl⟩ (fun ad1 ra F1 H locs hp hI1 _ hw => ?_)
  obtain ⟨cap1, f1, hS1, h1, h2, h3, hfn, h4, h5, h6⟩ := hp
  have e1 : ad q = ad1 q := (h5 _ (by omega)).symm
  have hl1 : lv_has ls 2 [(0, .ref (ad1 q)), (1, .int x)] := by rw [← e1]; exact hl
  have hLo1 : LoF ad1 F1 q := by rw [LoF, h6 q (by omega) (by omega), h5 (q + 1) (by omega)]; exact hLo
  refine lv_pop X.1 X.2.1 dX3_addSign_39 rfl ?_
  refine lv_aload_n X.1 X.2.1 dX3_addSign_40 rfl (lv_at hl1 0 rfl) ?_
  refine x_get X hK hw (C := RX3) (T := TX3) (nf := 1) (k := q) (by omega) hLo1 rfl inX3 0 (by decide) q214 (fun _ h9 => h9) rfl dX3_addSign_41 ?_
  refine x_callVP X hK hw (k := q + 1) (As := []) (rest := []) (k_J4_length_8abf5 hI1 (q + 1) cap1 (n + 1) ml f1 (by omega) (by omega) (by omega) hS1) (x_cwV yJ4_length_8abf5 cJ4_length_8abf5 1 (some .int) 0 X q484 q485 q486 q11 q487 hd_J4_length_8abf5 ⟨(Nat.le_of_ble_eq_true rfl), (Nat.le_of_ble_eq_true rfl)⟩) (by omega) hS1.1 rfl rfl hl1.1 rfl (Nat.le_of_ble_eq_true rfl) dX3_addSign_44 ⟨Nat.le_of_ble_eq_true rfl, Nat.le_of_ble_eq_true rfl⟩ (fun H locs hw => ?_)
  refine x_iretg X hr hlk hI1 (fun k hk => hw.2.2.1 k hk) hw (post := AdP cB ad F q n tx x) ⟨((if_neg c1).trans ((if_neg c3).trans (if_pos c5))).symm, ⟨hLo1, cap1, ml, f1, ?_, ?_, h2, ?_, h4⟩, h5, h6⟩ dX3_addSign_47
  · rw [as_n, if_pos hok]; exact hS1
  · rw [as_n, if_pos hok]; exact h1
  · rw [as_n, as_t, if_pos hok, if_pos hok]
    intro j hj
    by_cases w : j = n
    · rw [w, if_pos rfl]; exact ⟨hu, hfn⟩
    · rw [if_neg w, h3 j (by omega)]; exact htx j (by omega)
