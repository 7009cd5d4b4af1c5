set_option maxHeartbeats 4000000 in
set_option maxRecDepth 100000 in
theorem k_X6_get {l : Launch} {D : va_G} {cI cB cS : ClassId} {ad : Nat → Nat} {N : Nat} {F : Nat → va_E} (hI : iN ad N) (k : Nat) (cc : Nat) (nn : Nat) (f : Nat → Int32) (r : Int32) (q : Int32) (hk : k + 2 ≤ N) (hn : nn < 2 ^ 31) (hT : TbF ad cI F k cc nn f) : Ci l D cI cB cS ad N yX6_get cX6_get 4 (some .int) 0 0 [.ref (ad k), .int r, .int q] F (pP (tg cc nn f r q) F) := by
  refine x_met (by decide +kernel) (Nat.le_of_ble_eq_true rfl) ?_
  intro p e s m below meth c X hr hlk hK hw ls hl
  replace hl : lv_has ls 4 [(0, .ref (ad k)), (1, .int r), (2, .int q)] := hl
  refine lv_iload_n X.1 X.2.1 dX6_get_0 rfl (lv_at hl 1 rfl) ?_
  refine lv_aload_n X.1 X.2.1 dX6_get_1 rfl (lv_at hl 0 rfl) ?_
  refine x_get X hK hw (C := RX6) (T := TX6) (nf := 2) (k := k) (by omega) hT.1 rfl inX6 0 (by decide) q43 (fun _ h9 => h9) rfl dX6_get_2 ?_
  refine lv_imul X.1 X.2.1 dX6_get_5 ?_
  refine lv_iload_n X.1 X.2.1 dX6_get_6 rfl (lv_at hl 2 rfl) ?_
  refine lv_iadd X.1 X.2.1 dX6_get_7 ?_
  refine lv_istore_n (lv' := [(3, .int ((r * (nI cc)) + q)), (0, .ref (ad k)), (1, .int r), (2, .int q)]) X.1 X.2.1 dX6_get_8 rfl hl (by decide) rfl (fun ls hl => ?_)
  refine lv_iload_n X.1 X.2.1 dX6_get_9 rfl (lv_at hl 0 rfl) ?_
  refine lv_if_lt (tgt := 31) X.1 X.2.1 dX6_get_10 (by decide) (fun c1 => ?_) (fun c1 => ?_)
  · refine lv_iconst (v := nI 0) X.1 X.2.1 dX6_get_31 (by decide) ?_
    exact x_iret X hr hlk hK hw (v := nI 0) rfl (⟨(if_neg (fun h => absurd c1 (Int32.not_lt.mpr h.1))).symm, rfl⟩) dX6_get_32
  · refine lv_iload_n X.1 X.2.1 dX6_get_13 rfl (lv_at hl 0 rfl) ?_
    refine lv_aload_n X.1 X.2.1 dX6_get_14 rfl (lv_at hl 1 rfl) ?_
    refine x_get X hK hw (C := RX6) (T := TX6) (nf := 2) (k := k) (by omega) hT.1 rfl inX6 1 (by decide) q44 (fun _ h9 => h9) rfl dX6_get_15 ?_
    refine x_alen X hK hw (k := (k + 1)) (by omega) hT.2 (v := nI nn) rfl dX6_get_18 ?_
    refine lv_icmp_ge (tgt := 31) X.1 X.2.1 dX6_get_19 (by decide) (fun c2 => ?_) (fun c2 => ?_)
    · refine lv_iconst (v := nI 0) X.1 X.2.1 dX6_get_31 (by decide) ?_
      exact x_iret X hr hlk hK hw (v := nI 0) rfl (⟨(if_neg (fun h => absurd c2 (Int32.not_le.mpr h.2))).symm, rfl⟩) dX6_get_32
    · refine lv_aload_n X.1 X.2.1 dX6_get_22 rfl (lv_at hl 1 rfl) ?_
      refine x_get X hK hw (C := RX6) (T := TX6) (nf := 2) (k := k) (by omega) hT.1 rfl inX6 1 (by decide) q44 (fun _ h9 => h9) rfl dX6_get_23 ?_
      refine lv_iload_n X.1 X.2.1 dX6_get_26 rfl (lv_at hl 0 rfl) ?_
      refine x_iald X hK hw (k := (k + 1)) (by omega) hT.2 (in_of (Int32.not_lt.mp c1) (Int32.not_le.mp c2) hn) dX6_get_27 ?_
      refine lv_goto (tgt := 32) X.1 X.2.1 dX6_get_28 (by decide) ?_
      exact x_iret X hr hlk hK hw (v := f ((r * (nI cc)) + q).toNatClampNeg) rfl (⟨(if_pos ⟨Int32.not_lt.mp c1, Int32.not_le.mp c2⟩).symm, rfl⟩) dX6_get_32
theorem tp_lt {c n : Nat} {f : Nat → Int32} {r q v : Int32} (h : r * nI c + q < 0) : tp c n f r q v = f := if_neg (fun h2 => absurd h (Int32.not_lt.mpr h2.1))
theorem tp_ge {c n : Nat} {f : Nat → Int32} {r q v : Int32} (h : nI n ≤ r * nI c + q) : tp c n f r q v = f := if_neg (fun h2 => absurd h (Int32.not_le.mpr h2.2))
theorem tp_in {c n : Nat} {f : Nat → Int32} {r q v : Int32} (h1 : ¬ r * nI c + q < 0) (h2 : ¬ nI n ≤ r * nI c + q) : tp c n f r q v = upd f (r * nI c + q).toNatClampNeg v := if_pos ⟨Int32.not_lt.mp h1, Int32.not_le.mp h2⟩
theorem tb_up {ad : Nat → Nat} {cI : ClassId} {F : Nat → va_E} {k c n : Nat} {f f1 : Nat → Int32} (h : TbF ad cI F k c n f) : TbF ad cI (va_up F (k + 1) (.inl (cI, n, .inl f1))) k c n f1 := ⟨by rw [← h.1]; simp [va_up], by simp [va_up]⟩
set_option maxHeartbeats 4000000 in
set_option maxRecDepth 100000 in
theorem k_X6_put {l : Launch} {D : va_G} {cI cB cS : ClassId} {ad : Nat → Nat} {N : Nat} {F : Nat → va_E} (hI : iN ad N) (k : Nat) (cc : Nat) (nn : Nat) (f : Nat → Int32) (r : Int32) (q : Int32) (v : Int32) (hk : k + 2 ≤ N) (hn : nn < 2 ^ 31) (hT : TbF ad cI F k cc nn f) : Cv l D cI cB cS ad N yX6_put cX6_put 5 0 0 [.ref (ad k), .int r, .int q, .int v] F (fun F' => TbF ad cI F' k cc nn (tp cc nn f r q v) ∧ Fr F F' k (k + 2)) := by
  refine x_metv (by decide +kernel) (Nat.le_of_ble_eq_true rfl) ?_
  intro p e s m below meth c X hr hlk hK hw ls hl
  replace hl : lv_has ls 5 [(0, .ref (ad k)), (1, .int r), (2, .int q), (3, .int v)] := hl
  refine lv_iload_n X.1 X.2.1 dX6_put_0 rfl (lv_at hl 1 rfl) ?_
  refine lv_aload_n X.1 X.2.1 dX6_put_1 rfl (lv_at hl 0 rfl) ?_
  refine x_get X hK hw (C := RX6) (T := TX6) (nf := 2) (k := k) (by omega) hT.1 rfl inX6 0 (by decide) q43 (fun _ h9 => h9) rfl dX6_put_2 ?_
  refine lv_imul X.1 X.2.1 dX6_put_5 ?_
  refine lv_iload_n X.1 X.2.1 dX6_put_6 rfl (lv_at hl 2 rfl) ?_
  refine lv_iadd X.1 X.2.1 dX6_put_7 ?_
  refine lv_istore (lv' := [(4, .int ((r * (nI cc)) + q)), (0, .ref (ad k)), (1, .int r), (2, .int q), (3, .int v)]) X.1 X.2.1 dX6_put_8 hl (by decide) rfl (fun ls hl => ?_)
  refine lv_iload X.1 X.2.1 dX6_put_10 (lv_at hl 0 rfl) ?_
  refine lv_if_lt (tgt := 33) X.1 X.2.1 dX6_put_12 (by decide) (fun c1 => ?_) (fun c1 => ?_)
  · exact x_vret X hr hlk hK hw (⟨by rw [tp_lt c1]; exact hT, Fr.rf⟩) dX6_put_33
  · refine lv_iload X.1 X.2.1 dX6_put_15 (lv_at hl 0 rfl) ?_
    refine lv_aload_n X.1 X.2.1 dX6_put_17 rfl (lv_at hl 1 rfl) ?_
    refine x_get X hK hw (C := RX6) (T := TX6) (nf := 2) (k := k) (by omega) hT.1 rfl inX6 1 (by decide) q44 (fun _ h9 => h9) rfl dX6_put_18 ?_
    refine x_alen X hK hw (k := (k + 1)) (by omega) hT.2 (v := nI nn) rfl dX6_put_21 ?_
    refine lv_icmp_ge (tgt := 33) X.1 X.2.1 dX6_put_22 (by decide) (fun c2 => ?_) (fun c2 => ?_)
    · exact x_vret X hr hlk hK hw (⟨by rw [tp_ge c2]; exact hT, Fr.rf⟩) dX6_put_33
    · refine lv_aload_n X.1 X.2.1 dX6_put_25 rfl (lv_at hl 1 rfl) ?_
      refine x_get X hK hw (C := RX6) (T := TX6) (nf := 2) (k := k) (by omega) hT.1 rfl inX6 1 (by decide) q44 (fun _ h9 => h9) rfl dX6_put_26 ?_
      refine lv_iload X.1 X.2.1 dX6_put_29 (lv_at hl 0 rfl) ?_
      refine lv_iload_n X.1 X.2.1 dX6_put_31 rfl (lv_at hl 4 rfl) ?_
      refine x_iast X hI hK hw (k := (k + 1)) (by omega) hT.2 (in_of (Int32.not_lt.mp c1) (Int32.not_le.mp c2) hn) dX6_put_32 (fun H locs hw => ?_)
      exact x_vret X hr hlk hK hw (⟨by rw [tp_in c1 c2]; exact tb_up hT, Fr.up (by omega) (by omega)⟩) dX6_put_33
theorem hd_X6_get : yX6_get.cls = RX6 ∧ yX6_get.cls ≠ "java/lang/invoke/MethodHandle" ∧ yX6_get.cls ≠ "java/lang/invoke/VarHandle" ∧ (parseMethodDescriptor yX6_get.desc).map (fun d => d.parameters.length) = some 2 := by decide +kernel
theorem hd_X6_put : yX6_put.cls = RX6 ∧ yX6_put.cls ≠ "java/lang/invoke/MethodHandle" ∧ yX6_put.cls ≠ "java/lang/invoke/VarHandle" ∧ (parseMethodDescriptor yX6_put.desc).map (fun d => d.parameters.length) = some 3 := by decide +kernel
set_option maxHeartbeats 4000000 in
set_option maxRecDepth 100000 in
theorem k_X6_add {l : Launch} {D : va_G} {cI cB cS : ClassId} {ad : Nat → Nat} {N : Nat} {F : Nat → va_E} (hI : iN ad N) (k : Nat) (cc : Nat) (nn : Nat) (f : Nat → Int32) (r : Int32) (q : Int32) (v : Int32) (hk : k + 2 ≤ N) (hn : nn < 2 ^ 31) (hT : TbF ad cI F k cc nn f) : Cv l D cI cB cS ad N yX6_add cX6_add 4 1 24 [.ref (ad k), .int r, .int q, .int v] F (fun F' => TbF ad cI F' k cc nn (tp cc nn f r q (tg cc nn f r q + v)) ∧ Fr F F' k (k + 2)) := by
  refine x_metv (by decide +kernel) (Nat.le_of_ble_eq_true rfl) ?_
  intro p e s m below meth c X hr hlk hK hw ls hl
  replace hl : lv_has ls 4 [(0, .ref (ad k)), (1, .int r), (2, .int q), (3, .int v)] := hl
  have hfr : Fr F F (k) (k + 2) := Fr.rf
  refine lv_aload_n X.1 X.2.1 dX6_add_0 rfl (lv_at hl 0 rfl) ?_
  refine lv_iload_n X.1 X.2.1 dX6_add_1 rfl (lv_at hl 1 rfl) ?_
  refine lv_iload_n X.1 X.2.1 dX6_add_2 rfl (lv_at hl 2 rfl) ?_
  refine lv_aload_n X.1 X.2.1 dX6_add_3 rfl (lv_at hl 0 rfl) ?_
  refine lv_iload_n X.1 X.2.1 dX6_add_4 rfl (lv_at hl 1 rfl) ?_
  refine lv_iload_n X.1 X.2.1 dX6_add_5 rfl (lv_at hl 2 rfl) ?_
  refine x_callVP X hK hw (k := k) (As := [.int r, .int q]) (rest := [.int q, .int r, .ref (ad k)]) (k_X6_get hI k cc nn f r q (by omega) (by omega) hT) (x_cwV yX6_get cX6_get 4 (some .int) 2 X q334 q327 q328 q3 q329 hd_X6_get ⟨Nat.le_of_ble_eq_true rfl, Nat.le_of_ble_eq_true rfl⟩) (by omega) hT.1 rfl rfl hl.1 rfl (Nat.le_of_ble_eq_true rfl) dX6_add_6 ⟨Nat.le_of_ble_eq_true rfl, Nat.le_of_ble_eq_true rfl⟩ (fun H locs hw => ?_)
  refine lv_iload_n X.1 X.2.1 dX6_add_9 rfl (lv_at hl 3 rfl) ?_
  refine lv_iadd X.1 X.2.1 dX6_add_10 ?_
  refine x_callVv X hK hw (k := k) (As := [.int r, .int q, .int ((tg cc nn f r q) + v)]) (rest := []) (k_X6_put hI k cc nn f r q ((tg cc nn f r q) + v) (by omega) (by omega) hT) (x_cwV yX6_put cX6_put 5 none 3 X q309 q54 q55 q3 q56 hd_X6_put ⟨Nat.le_of_ble_eq_true rfl, Nat.le_of_ble_eq_true rfl⟩) (by omega) hT.1 rfl rfl hl.1 rfl (Nat.le_of_ble_eq_true rfl) dX6_add_11 ⟨Nat.le_of_ble_eq_true rfl, Nat.le_of_ble_eq_true rfl⟩ (fun F1 H locs hp hw => ?_)
  obtain ⟨hT2, hr3⟩ := hp
  replace hfr := hfr.tr hr3 (by omega) (by omega)
  exact x_vret X hr hlk hK hw (⟨hT2, hfr⟩) dX6_add_14
def tcl (c n : Nat) (f : Nat → Int32) (r : Int32) : Nat → (Nat → Int32)
  | 0 => f
  | i + 1 => tp c n (tcl c n f r i) r (nI i) (nI 0)
set_option maxHeartbeats 4000000 in
set_option maxRecDepth 100000 in
theorem k_X6_clearRow {l : Launch} {D : va_G} {cI cB cS : ClassId} {ad : Nat → Nat} {N : Nat} {F : Nat → va_E} (hI : iN ad N) (k : Nat) (cc : Nat) (nn : Nat) (f : Nat → Int32) (r : Int32) (hk : k + 2 ≤ N) (hn : nn < 2 ^ 31) (hT : TbF ad cI F k cc nn f) (hcc : cc < 2 ^ 31) : Cv l D cI cB cS ad N yX6_clearRow cX6_clearRow 3 1 24 [.ref (ad k), .int r] F (fun F' => TbF ad cI F' k cc nn (tcl cc nn f r cc) ∧ Fr F F' k (k + 2)) := by
  refine x_metv (by decide +kernel) (Nat.le_of_ble_eq_true rfl) ?_
  intro p e s m below meth c X hr hlk hK hw ls hl
  replace hl : lv_has ls 3 [(0, .ref (ad k)), (1, .int r)] := hl
  refine lv_iconst (v := nI 0) X.1 X.2.1 dX6_clearRow_0 (by decide) ?_
  refine lv_istore_n (lv' := [(2, .int (nI 0)), (0, .ref (ad k)), (1, .int r)]) X.1 X.2.1 dX6_clearRow_1 rfl hl (by decide) rfl (fun ls hl => ?_)
  have loop : ∀ (fu : Nat) (i : Nat) (F1 : Nat → va_E) (f1 : Nat → Int32) (hfu : i + fu = cc) (hT : TbF ad cI F1 k cc nn f1) (he : f1 = tcl cc nn f r i) (hfr : Fr F F1 k (k + 2)) (H : Heap) (locs : List Loc) (hw : HW D (Af ad N s.heap.size) ad N F1 s H locs) (ls : Array Slot) (hl : lv_has ls 3 [(2, .int (nI i)), (0, .ref (ad k)), (1, .int r)]), W p l e { frames := 1, cells := 0, slots := 0, locals := 24 } s m [.ref (ad k), .int r].toArray below meth c H locs 0 0 (MQ below (va_Qv (fun F' => TbF ad cI F' k cc nn (tcl cc nn f r cc) ∧ Fr F F' k (k + 2)) (fun F' t => PO D ad N F' t) (Af ad N s.heap.size)) [.ref (ad k), .int r].toArray s 0 0 (Af ad N s.heap.size)) (F0 m 2 ls []) := by
    intro fu
    induction fu with
    | zero =>
      intro i F1 f1 hfu hT he hfr H locs hw ls hl
      refine lv_iload_n X.1 X.2.1 dX6_clearRow_2 rfl (lv_at hl 0 rfl) ?_
      refine lv_aload_n X.1 X.2.1 dX6_clearRow_3 rfl (lv_at hl 1 rfl) ?_
      refine x_get X hK hw (C := RX6) (T := TX6) (nf := 2) (k := k) (by omega) hT.1 rfl inX6 0 (by decide) q43 (fun _ h9 => h9) rfl dX6_clearRow_4 ?_
      refine lv_icmp_ge (tgt := 23) X.1 X.2.1 dX6_clearRow_7 (by decide) (fun c1 => ?_) (fun c1 => ?_)
      · exact x_vret X hr hlk hK hw (⟨(by rw [show i = cc by omega] at he; exact he ▸ hT), hfr⟩) dX6_clearRow_23
      · exact absurd (nI_le (by omega) (by omega)) c1
    | succ fu ih =>
      intro i F1 f1 hfu hT he hfr H locs hw ls hl
      refine lv_iload_n X.1 X.2.1 dX6_clearRow_2 rfl (lv_at hl 0 rfl) ?_
      refine lv_aload_n X.1 X.2.1 dX6_clearRow_3 rfl (lv_at hl 1 rfl) ?_
      refine x_get X hK hw (C := RX6) (T := TX6) (nf := 2) (k := k) (by omega) hT.1 rfl inX6 0 (by decide) q43 (fun _ h9 => h9) rfl dX6_clearRow_4 ?_
      refine lv_icmp_ge (tgt := 23) X.1 X.2.1 dX6_clearRow_7 (by decide) (fun c2 => ?_) (fun c2 => ?_)
      · exact absurd c2 (nI_ge (by omega) (by omega))
      · refine lv_aload_n X.1 X.2.1 dX6_clearRow_10 rfl (lv_at hl 1 rfl) ?_
        refine lv_iload_n X.1 X.2.1 dX6_clearRow_11 rfl (lv_at hl 2 rfl) ?_
        refine lv_iload_n X.1 X.2.1 dX6_clearRow_12 rfl (lv_at hl 0 rfl) ?_
        refine lv_iconst (v := nI 0) X.1 X.2.1 dX6_clearRow_13 (by decide) ?_
        refine x_callVv X hK hw (k := k) (As := [.int r, .int (nI i), .int (nI 0)]) (rest := []) (k_X6_put hI k cc nn f1 r (nI i) (nI 0) (by omega) (by omega) hT) (x_cwV yX6_put cX6_put 5 none 3 X q309 q54 q55 q3 q56 hd_X6_put ⟨Nat.le_of_ble_eq_true rfl, Nat.le_of_ble_eq_true rfl⟩) (by omega) hT.1 rfl rfl hl.1 rfl (Nat.le_of_ble_eq_true rfl) dX6_clearRow_14 ⟨Nat.le_of_ble_eq_true rfl, Nat.le_of_ble_eq_true rfl⟩ (fun F3 H locs hp hw => ?_)
        obtain ⟨hT4, hr5⟩ := hp
        replace hfr := hfr.tr hr5 (by omega) (by omega)
        refine lv_iinc (v := nI (i + 1)) (lv' := [(2, .int (nI (i + 1))), (0, .ref (ad k)), (1, .int r)]) X.1 X.2.1 dX6_clearRow_17 hl (k := 0) rfl (by first | exact nI_1 _ | exact nI_add _ _ | rfl) (by decide) rfl (fun ls hl => ?_)
        refine lv_goto (tgt := 2) X.1 X.2.1 dX6_clearRow_20 (by decide) ?_
        exact ih (i + 1) F3 (tp cc nn f1 r (nI i) (nI 0)) (by omega) hT4 (by rw [he]; rfl) hfr _ _ hw _ (lv_sub hl [0, 1, 2] rfl)
  exact loop cc 0 F f (by omega) hT rfl Fr.rf _ _ hw _ (lv_sub hl [0, 1, 2] rfl)
