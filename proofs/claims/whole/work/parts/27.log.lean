theorem sw_1_9 (x : Int32) : x = 1 ∨ x = 2 ∨ x = 3 ∨ x = 4 ∨ x = 5 ∨ x = 6 ∨ x = 7 ∨ x = 8 ∨ x = 9 ∨ (x.toInt < 1 ∨ 9 < x.toInt) := by
  by_cases h : x.toInt < 1 ∨ 9 < x.toInt
  · simp [h]
  · have h1 : 1 ≤ x.toInt ∧ x.toInt ≤ 9 := by omega
    obtain ⟨k, rfl⟩ : ∃ k : Fin 9, x = Int32.ofInt (1 + (k.val : Int)) := ⟨⟨(x.toInt - 1).toNat, by omega⟩, by
      show x = Int32.ofInt (1 + (((x.toInt - 1).toNat : Nat) : Int))
      rw [show (1 + (((x.toInt - 1).toNat : Nat) : Int)) = x.toInt by omega]
      simp⟩
    clear h h1; revert k; decide +kernel
theorem lsw_43_98_104_108_114 (x : Int32) : x = 43 ∨ x = 98 ∨ x = 104 ∨ x = 108 ∨ x = 114 ∨ (∀ a ∈ ([43, 98, 104, 108, 114] : List Int32), x ≠ a) := by
  by_cases h0 : x = 43
  · simp [h0]
  by_cases h1 : x = 98
  · simp [h1]
  by_cases h2 : x = 104
  · simp [h2]
  by_cases h3 : x = 108
  · simp [h3]
  by_cases h4 : x = 114
  · simp [h4]
  simp [h0, h1, h2, h3, h4]
theorem lsd_of {x : Int32} {d : Int} : ∀ {ks : List Int32} {os : List Int}, (∀ a ∈ ks, x ≠ a) → Op.lookupswitch.offset ((ks.map Int32.toInt).zip os) d x.toInt = d := by
  intro ks
  induction ks with
  | nil => intro os _; simp [Op.lookupswitch.offset]
  | cons k ks ih =>
    intro os h
    cases os with
    | nil => simp [Op.lookupswitch.offset]
    | cons o os =>
      simp only [List.map_cons, List.zip_cons_cons, Op.lookupswitch.offset]
      rw [if_neg (fun q => h k List.mem_cons_self (Int32.toInt_inj.mp q).symm)]
      exact ih (fun a ha => h a (List.mem_cons_of_mem _ ha))
def LoF (ad : Nat → Nat) (F : Nat → va_E) (q : Nat) : Prop := F q = .inr (4, [.ref (ad (q + 1))])
def sg (tx : Nat → Nat) (n j : Nat) : Nat := if j < n then tx j else 59
theorem sg_lt {tx : Nat → Nat} {n : Nat} {f : Nat → Int32} (h : ∀ j, j < n → tx j < 128 ∧ f j = nI (tx j)) (j : Nat) : sg tx n j < 128 := by
  unfold sg; split
  · exact (h j (by assumption)).1
  · omega
theorem hd_J4_length_8abf5 : yJ4_length_8abf5.cls = RJ4 ∧ yJ4_length_8abf5.cls ≠ "java/lang/invoke/MethodHandle" ∧ yJ4_length_8abf5.cls ≠ "java/lang/invoke/VarHandle" ∧ (parseMethodDescriptor yJ4_length_8abf5.desc).map (fun d => d.parameters.length) = some 0 := by decide +kernel
set_option maxHeartbeats 4000000 in
set_option maxRecDepth 100000 in
theorem k_X3_length {l : Launch} {D : va_G} {cI cB cS : ClassId} {ad : Nat → Nat} {N : Nat} {F : Nat → va_E} (hI : iN ad N) (q : Nat) (cap : Nat) (n : Nat) (ml : Int32) (f : Nat → Int32) (tx : Nat → Nat) (hq3 : q + 3 ≤ N) (hcap : cap < 2 ^ 30) (hnc : n ≤ cap) (hL : LoF ad F q) (hS : SbF ad cB F (q + 1) cap n ml f) (htx : ∀ j, j < n → tx j < 128 ∧ f j = nI (tx j)) : Ci l D cI cB cS ad N yX3_length cX3_length 1 (some .int) 2 40 [.ref (ad q)] F (pP (nI n) F) := by
  refine x_met (by decide +kernel) (Nat.le_of_ble_eq_true rfl) ?_
  intro p e s m below meth c X hr hlk hK hw ls hl
  replace hl : lv_has ls 1 [(0, .ref (ad q))] := hl
  refine lv_aload_n X.1 X.2.1 dX3_length_0 rfl (lv_at hl 0 rfl) ?_
  refine x_get X hK hw (C := RX3) (T := TX3) (nf := 1) (k := q) (by omega) hL rfl inX3 0 (by decide) q214 (fun _ h9 => h9) rfl dX3_length_1 ?_
  refine x_callVP X hK hw (k := (q + 1)) (As := []) (rest := []) (k_J4_length_8abf5 hI ((q + 1)) cap n ml f (by omega) (by omega) (by omega) hS) (x_cwV yJ4_length_8abf5 cJ4_length_8abf5 1 (some .int) 0 X q484 q485 q486 q11 q487 hd_J4_length_8abf5 ⟨Nat.le_of_ble_eq_true rfl, Nat.le_of_ble_eq_true rfl⟩) (by omega) hS.1 rfl rfl hl.1 rfl (Nat.le_of_ble_eq_true rfl) dX3_length_4 ⟨Nat.le_of_ble_eq_true rfl, Nat.le_of_ble_eq_true rfl⟩ (fun H locs hw => ?_)
  exact x_iret X hr hlk hK hw (v := nI n) rfl (⟨rfl, rfl⟩) dX3_length_7
theorem hd_J4_charAt_5068e : yJ4_charAt_5068e.cls = RJ4 ∧ yJ4_charAt_5068e.cls ≠ "java/lang/invoke/MethodHandle" ∧ yJ4_charAt_5068e.cls ≠ "java/lang/invoke/VarHandle" ∧ (parseMethodDescriptor yJ4_charAt_5068e.desc).map (fun d => d.parameters.length) = some 1 := by decide +kernel
set_option maxHeartbeats 4000000 in
set_option maxRecDepth 100000 in
theorem k_X3_signAt {l : Launch} {D : va_G} {cI cB cS : ClassId} {ad : Nat → Nat} {N : Nat} {F : Nat → va_E} (hI : iN ad N) (q : Nat) (cap : Nat) (n : Nat) (ml : Int32) (f : Nat → Int32) (tx : Nat → Nat) (j : Nat) (hq3 : q + 3 ≤ N) (hcap : cap < 2 ^ 30) (hnc : n ≤ cap) (hL : LoF ad F q) (hS : SbF ad cB F (q + 1) cap n ml f) (htx : ∀ j, j < n → tx j < 128 ∧ f j = nI (tx j)) (hj31 : j < 2 ^ 31) : Ci l D cI cB cS ad N yX3_signAt cX3_signAt 2 (some .char) 4 105 [.ref (ad q), .int (nI j)] F (pP (nI (sg tx n j)) F) := by
  refine x_met (by decide +kernel) (Nat.le_of_ble_eq_true rfl) ?_
  intro p e s m below meth c X hr hlk hK hw ls hl
  replace hl : lv_has ls 2 [(0, .ref (ad q)), (1, .int (nI j))] := hl
  refine lv_iload_n X.1 X.2.1 dX3_signAt_0 rfl (lv_at hl 1 rfl) ?_
  refine lv_if_lt (tgt := 26) X.1 X.2.1 dX3_signAt_1 (by decide) (fun c1 => ?_) (fun c1 => ?_)
  · exact absurd c1 (nI_pos (by omega))
  · refine lv_iload_n X.1 X.2.1 dX3_signAt_4 rfl (lv_at hl 1 rfl) ?_
    refine lv_aload_n X.1 X.2.1 dX3_signAt_5 rfl (lv_at hl 0 rfl) ?_
    refine x_get X hK hw (C := RX3) (T := TX3) (nf := 1) (k := q) (by omega) hL rfl inX3 0 (by decide) q214 (fun _ h9 => h9) rfl dX3_signAt_6 ?_
    refine x_callVP X hK hw (k := (q + 1)) (As := []) (rest := [.int (nI j)]) (k_J4_length_8abf5 hI ((q + 1)) cap n ml f (by omega) (by omega) (by omega) hS) (x_cwV yJ4_length_8abf5 cJ4_length_8abf5 1 (some .int) 0 X q484 q485 q486 q11 q487 hd_J4_length_8abf5 ⟨Nat.le_of_ble_eq_true rfl, Nat.le_of_ble_eq_true rfl⟩) (by omega) hS.1 rfl rfl hl.1 rfl (Nat.le_of_ble_eq_true rfl) dX3_signAt_9 ⟨Nat.le_of_ble_eq_true rfl, Nat.le_of_ble_eq_true rfl⟩ (fun H locs hw => ?_)
    refine lv_icmp_ge (tgt := 26) X.1 X.2.1 dX3_signAt_12 (by decide) (fun c2 => ?_) (fun c2 => ?_)
    · have hj : ¬ j < n := fun q => nI_ge (a := j) (b := n) q (by omega) c2
      refine lv_bipush (v := nI 59) X.1 X.2.1 dX3_signAt_26 (by decide) ?_
      exact x_iret X hr hlk hK hw (v := nI 59) (pk_charN (by have := sg_lt htx j; simp only [sg] at this; first | omega | (rw [if_pos hj] at this; omega))).1 (⟨by simp only [sg, if_neg hj], rfl⟩) dX3_signAt_28
    · have hj : j < n := Classical.byContradiction fun q => c2 (nI_le (by omega) (by omega))
      refine lv_aload_n X.1 X.2.1 dX3_signAt_15 rfl (lv_at hl 0 rfl) ?_
      refine x_get X hK hw (C := RX3) (T := TX3) (nf := 1) (k := q) (by omega) hL rfl inX3 0 (by decide) q214 (fun _ h9 => h9) rfl dX3_signAt_16 ?_
      refine lv_iload_n X.1 X.2.1 dX3_signAt_19 rfl (lv_at hl 1 rfl) ?_
      refine x_callVP X hK hw (k := (q + 1)) (As := [.int (nI j)]) (rest := []) (k_J4_charAt_5068e hI ((q + 1)) cap n ml f j (tx j) (by omega) (by omega) (by omega) hS (by omega) (htx _ (by omega)).1 (htx _ (by omega)).2) (x_cwV yJ4_charAt_5068e cJ4_charAt_5068e 2 (some .char) 1 X q616 q617 q618 q11 q619 hd_J4_charAt_5068e ⟨Nat.le_of_ble_eq_true rfl, Nat.le_of_ble_eq_true rfl⟩) (by omega) hS.1 rfl rfl hl.1 rfl (Nat.le_of_ble_eq_true rfl) dX3_signAt_20 ⟨Nat.le_of_ble_eq_true rfl, Nat.le_of_ble_eq_true rfl⟩ (fun H locs hw => ?_)
      refine lv_goto (tgt := 28) X.1 X.2.1 dX3_signAt_23 (by decide) ?_
      exact x_iret X hr hlk hK hw (v := nI ((tx j))) (pk_charN (by have := sg_lt htx j; simp only [sg] at this; first | omega | (rw [if_pos hj] at this; omega))).1 (⟨by simp only [sg, if_pos hj], rfl⟩) dX3_signAt_28
theorem hd_X3_signAt : yX3_signAt.cls = RX3 ∧ yX3_signAt.cls ≠ "java/lang/invoke/MethodHandle" ∧ yX3_signAt.cls ≠ "java/lang/invoke/VarHandle" ∧ (parseMethodDescriptor yX3_signAt.desc).map (fun d => d.parameters.length) = some 1 := by decide +kernel
set_option maxHeartbeats 4000000 in
set_option maxRecDepth 100000 in
theorem k_X3_endsEvent {l : Launch} {D : va_G} {cI cB cS : ClassId} {ad : Nat → Nat} {N : Nat} {F : Nat → va_E} (hI : iN ad N) (q : Nat) (cap : Nat) (n : Nat) (ml : Int32) (f : Nat → Int32) (tx : Nat → Nat) (j : Nat) (hq3 : q + 3 ≤ N) (hcap : cap < 2 ^ 30) (hnc : n ≤ cap) (hL : LoF ad F q) (hS : SbF ad cB F (q + 1) cap n ml f) (htx : ∀ j, j < n → tx j < 128 ∧ f j = nI (tx j)) (hj31 : j < 2 ^ 31) : Ci l D cI cB cS ad N yX3_endsEvent cX3_endsEvent 2 (some .boolean) 5 126 [.ref (ad q), .int (nI j)] F (pP (bI (decide (nI (sg tx n j) = nI 59))) F) := by
  refine x_met (by decide +kernel) (Nat.le_of_ble_eq_true rfl) ?_
  intro p e s m below meth c X hr hlk hK hw ls hl
  replace hl : lv_has ls 2 [(0, .ref (ad q)), (1, .int (nI j))] := hl
  refine lv_aload_n X.1 X.2.1 dX3_endsEvent_0 rfl (lv_at hl 0 rfl) ?_
  refine lv_iload_n X.1 X.2.1 dX3_endsEvent_1 rfl (lv_at hl 1 rfl) ?_
  refine x_callVP X hK hw (k := q) (As := [.int (nI j)]) (rest := []) (k_X3_signAt hI q cap n ml f tx j (by omega) (by omega) (by omega) hL hS htx (by omega)) (x_cwV yX3_signAt cX3_signAt 2 (some .char) 1 X q660 q661 q662 q9 q663 hd_X3_signAt ⟨Nat.le_of_ble_eq_true rfl, Nat.le_of_ble_eq_true rfl⟩) (by omega) hL rfl rfl hl.1 rfl (Nat.le_of_ble_eq_true rfl) dX3_endsEvent_2 ⟨Nat.le_of_ble_eq_true rfl, Nat.le_of_ble_eq_true rfl⟩ (fun H locs hw => ?_)
  refine lv_bipush (v := nI 59) X.1 X.2.1 dX3_endsEvent_5 (by decide) ?_
  refine lv_icmp_ne (tgt := 14) X.1 X.2.1 dX3_endsEvent_7 (by decide) (fun c1 => ?_) (fun c1 => ?_)
  · refine lv_iconst (v := nI 0) X.1 X.2.1 dX3_endsEvent_14 (by decide) ?_
    exact x_iret X hr hlk hK hw (v := nI 0) (by first | rfl | exact nr_b _ | decide) (⟨by simp [bI, c1], rfl⟩) dX3_endsEvent_15
  · refine lv_iconst (v := nI 1) X.1 X.2.1 dX3_endsEvent_10 (by decide) ?_
    refine lv_goto (tgt := 15) X.1 X.2.1 dX3_endsEvent_11 (by decide) ?_
    exact x_iret X hr hlk hK hw (v := nI 1) (by first | rfl | exact nr_b _ | decide) (⟨by simp [bI, c1], rfl⟩) dX3_endsEvent_15
set_option maxHeartbeats 4000000 in
set_option maxRecDepth 100000 in
theorem k_X3_digitAt {l : Launch} {D : va_G} {cI cB cS : ClassId} {ad : Nat → Nat} {N : Nat} {F : Nat → va_E} (hI : iN ad N) (q : Nat) (cap : Nat) (n : Nat) (ml : Int32) (f : Nat → Int32) (tx : Nat → Nat) (j : Nat) (hq3 : q + 3 ≤ N) (hcap : cap < 2 ^ 30) (hnc : n ≤ cap) (hL : LoF ad F q) (hS : SbF ad cB F (q + 1) cap n ml f) (htx : ∀ j, j < n → tx j < 128 ∧ f j = nI (tx j)) (hj31 : j < 2 ^ 31) : Ci l D cI cB cS ad N yX3_digitAt cX3_digitAt 2 (some .int) 5 126 [.ref (ad q), .int (nI j)] F (pP (nI (sg tx n j) - nI 48) F) := by
  refine x_met (by decide +kernel) (Nat.le_of_ble_eq_true rfl) ?_
  intro p e s m below meth c X hr hlk hK hw ls hl
  replace hl : lv_has ls 2 [(0, .ref (ad q)), (1, .int (nI j))] := hl
  refine lv_aload_n X.1 X.2.1 dX3_digitAt_0 rfl (lv_at hl 0 rfl) ?_
  refine lv_iload_n X.1 X.2.1 dX3_digitAt_1 rfl (lv_at hl 1 rfl) ?_
  refine x_callVP X hK hw (k := q) (As := [.int (nI j)]) (rest := []) (k_X3_signAt hI q cap n ml f tx j (by omega) (by omega) (by omega) hL hS htx (by omega)) (x_cwV yX3_signAt cX3_signAt 2 (some .char) 1 X q660 q661 q662 q9 q663 hd_X3_signAt ⟨Nat.le_of_ble_eq_true rfl, Nat.le_of_ble_eq_true rfl⟩) (by omega) hL rfl rfl hl.1 rfl (Nat.le_of_ble_eq_true rfl) dX3_digitAt_2 ⟨Nat.le_of_ble_eq_true rfl, Nat.le_of_ble_eq_true rfl⟩ (fun H locs hw => ?_)
  refine lv_bipush (v := nI 48) X.1 X.2.1 dX3_digitAt_5 (by decide) ?_
  refine lv_isub X.1 X.2.1 dX3_digitAt_7 ?_
  exact x_iret X hr hlk hK hw (v := (nI (sg tx n j)) - (nI 48)) rfl (⟨rfl, rfl⟩) dX3_digitAt_8
def nuA (tx : Nat → Nat) (n u : Nat) : Nat → Int32
  | 0 => nI 0
  | i + 1 => nI 10 * nuA tx n u i + (nI (sg tx n (u + i)) - nI 48)
theorem hd_X3_digitAt : yX3_digitAt.cls = RX3 ∧ yX3_digitAt.cls ≠ "java/lang/invoke/MethodHandle" ∧ yX3_digitAt.cls ≠ "java/lang/invoke/VarHandle" ∧ (parseMethodDescriptor yX3_digitAt.desc).map (fun d => d.parameters.length) = some 1 := by decide +kernel
set_option maxHeartbeats 4000000 in
set_option maxRecDepth 100000 in
theorem k_X3_numberAt {l : Launch} {D : va_G} {cI cB cS : ClassId} {ad : Nat → Nat} {N : Nat} {F : Nat → va_E} (hI : iN ad N) (q : Nat) (cap : Nat) (n : Nat) (ml : Int32) (f : Nat → Int32) (tx : Nat → Nat) (u : Nat) (w : Nat) (hq3 : q + 3 ≤ N) (hcap : cap < 2 ^ 30) (hnc : n ≤ cap) (hL : LoF ad F q) (hS : SbF ad cB F (q + 1) cap n ml f) (htx : ∀ j, j < n → tx j < 128 ∧ f j = nI (tx j)) (hu31 : u < 2 ^ 30) (hw31 : w < 2 ^ 31) : Ci l D cI cB cS ad N yX3_numberAt cX3_numberAt 5 (some .int) 6 147 [.ref (ad q), .int (nI u), .int (nI w)] F (pP (nuA tx n u (w - u)) F) := by
  refine x_met (by decide +kernel) (Nat.le_of_ble_eq_true rfl) ?_
  intro p e s m below meth c X hr hlk hK hw ls hl
  replace hl : lv_has ls 5 [(0, .ref (ad q)), (1, .int (nI u)), (2, .int (nI w))] := hl
  refine lv_iconst (v := nI 0) X.1 X.2.1 dX3_numberAt_0 (by decide) ?_
  refine lv_istore_n (lv' := [(3, .int (nI 0)), (0, .ref (ad q)), (1, .int (nI u)), (2, .int (nI w))]) X.1 X.2.1 dX3_numberAt_1 rfl hl (by decide) rfl (fun ls hl => ?_)
  refine lv_iload_n X.1 X.2.1 dX3_numberAt_2 rfl (lv_at hl 2 rfl) ?_
  refine lv_istore (lv' := [(4, .int (nI u)), (3, .int (nI 0)), (0, .ref (ad q)), (1, .int (nI u)), (2, .int (nI w))]) X.1 X.2.1 dX3_numberAt_3 hl (by decide) rfl (fun ls hl => ?_)
  have loop : ∀ (fu : Nat) (i : Nat) (y : Int32) (hfu : i + fu = (w - u)) (he : y = nuA tx n u i) (H : Heap) (locs : List Loc) (hw : HW D (Af ad N s.heap.size) ad N F s H locs) (ls : Array Slot) (hl : lv_has ls 5 [(4, .int (nI (u + i))), (3, .int y), (0, .ref (ad q)), (1, .int (nI u)), (2, .int (nI w))]), W p l e { frames := 6, cells := 0, slots := 0, locals := 147 } s m [.ref (ad q), .int (nI u), .int (nI w)].toArray below meth c H locs 0 0 (MQ below (va_Qi (pP (nuA tx n u (w - u)) F) (fun F' t => PO D ad N F' t) (Af ad N s.heap.size)) [.ref (ad q), .int (nI u), .int (nI w)].toArray s 0 0 (Af ad N s.heap.size)) (F0 m 5 ls []) := by
    intro fu
    induction fu with
    | zero =>
      intro i y hfu he H locs hw ls hl
      refine lv_iload X.1 X.2.1 dX3_numberAt_5 (lv_at hl 0 rfl) ?_
      refine lv_iload_n X.1 X.2.1 dX3_numberAt_7 rfl (lv_at hl 4 rfl) ?_
      refine lv_icmp_ge (tgt := 29) X.1 X.2.1 dX3_numberAt_8 (by decide) (fun c1 => ?_) (fun c1 => ?_)
      · refine lv_iload_n X.1 X.2.1 dX3_numberAt_29 rfl (lv_at hl 1 rfl) ?_
        exact x_iret X hr hlk hK hw (v := y) rfl (⟨by rw [he, show i = w - u by omega], rfl⟩) dX3_numberAt_30
      · exact absurd (nI_le (by omega) (by omega)) c1
    | succ fu ih =>
      intro i y hfu he H locs hw ls hl
      refine lv_iload X.1 X.2.1 dX3_numberAt_5 (lv_at hl 0 rfl) ?_
      refine lv_iload_n X.1 X.2.1 dX3_numberAt_7 rfl (lv_at hl 4 rfl) ?_
      refine lv_icmp_ge (tgt := 29) X.1 X.2.1 dX3_numberAt_8 (by decide) (fun c2 => ?_) (fun c2 => ?_)
      · exact absurd c2 (nI_ge (by omega) (by omega))
      · refine lv_bipush (v := nI 10) X.1 X.2.1 dX3_numberAt_11 (by decide) ?_
        refine lv_iload_n X.1 X.2.1 dX3_numberAt_13 rfl (lv_at hl 1 rfl) ?_
        refine lv_imul X.1 X.2.1 dX3_numberAt_14 ?_
        refine lv_aload_n X.1 X.2.1 dX3_numberAt_15 rfl (lv_at hl 2 rfl) ?_
        refine lv_iload X.1 X.2.1 dX3_numberAt_16 (lv_at hl 0 rfl) ?_
        refine x_callVP X hK hw (k := q) (As := [.int (nI (u + i))]) (rest := [.int ((nI 10) * y)]) (k_X3_digitAt hI q cap n ml f tx (u + i) (by omega) (by omega) (by omega) hL hS htx (by omega)) (x_cwV yX3_digitAt cX3_digitAt 2 (some .int) 1 X q673 q674 q675 q9 q676 hd_X3_digitAt ⟨Nat.le_of_ble_eq_true rfl, Nat.le_of_ble_eq_true rfl⟩) (by omega) hL rfl rfl hl.1 rfl (Nat.le_of_ble_eq_true rfl) dX3_numberAt_18 ⟨Nat.le_of_ble_eq_true rfl, Nat.le_of_ble_eq_true rfl⟩ (fun H locs hw => ?_)
        refine lv_iadd X.1 X.2.1 dX3_numberAt_21 ?_
        refine lv_istore_n (lv' := [(3, .int (((nI 10) * y) + (nI (sg tx n (u + i)) - nI 48))), (4, .int (nI (u + i))), (0, .ref (ad q)), (1, .int (nI u)), (2, .int (nI w))]) X.1 X.2.1 dX3_numberAt_22 rfl hl (by decide) rfl (fun ls hl => ?_)
        refine lv_iinc (v := nI (u + i + 1)) (lv' := [(4, .int (nI (u + i + 1))), (3, .int (((nI 10) * y) + (nI (sg tx n (u + i)) - nI 48))), (0, .ref (ad q)), (1, .int (nI u)), (2, .int (nI w))]) X.1 X.2.1 dX3_numberAt_23 hl (k := 1) rfl (by first | exact nI_1 _ | exact nI_add _ _ | rfl) (by decide) rfl (fun ls hl => ?_)
        refine lv_goto (tgt := 5) X.1 X.2.1 dX3_numberAt_26 (by decide) ?_
        exact ih (i + 1) (((nI 10) * y) + (nI (sg tx n (u + i)) - nI 48)) (by omega) (by rw [he, nuA]) _ _ hw _ (lv_sub hl [0, 1, 2, 3, 4] rfl)
  exact loop ((w - u)) 0 (nI 0) (by omega) rfl _ _ hw _ (lv_sub hl [0, 1, 2, 3, 4] rfl)
def s_X3_canEnd (x : Int32) : Int32 := (if x = (nI 3) then nI 1 else (if x = (nI 4) then nI 1 else (if x = (nI 5) then nI 1 else nI 0)))
set_option maxHeartbeats 4000000 in
set_option maxRecDepth 100000 in
theorem k_X3_canEnd {l : Launch} {D : va_G} {cI cB cS : ClassId} {ad : Nat → Nat} {N : Nat} {F : Nat → va_E} (hI : iN ad N) (q : Nat) (x : Int32) (hq : q + 1 ≤ N) (hL : LoF ad F q) : Ci l D cI cB cS ad N yX3_canEnd cX3_canEnd 2 (some .boolean) 0 0 [.ref (ad q), .int x] F (pP (s_X3_canEnd x) F) := by
  refine x_met (by decide +kernel) (Nat.le_of_ble_eq_true rfl) ?_
  intro p e s m below meth c X hr hlk hK hw ls hl
  replace hl : lv_has ls 2 [(0, .ref (ad q)), (1, .int x)] := hl
  refine lv_iload_n X.1 X.2.1 dX3_canEnd_0 rfl (lv_at hl 1 rfl) ?_
  refine lv_iconst (v := nI 3) X.1 X.2.1 dX3_canEnd_1 (by decide) ?_
  refine lv_icmp_eq (tgt := 15) X.1 X.2.1 dX3_canEnd_2 (by decide) (fun c1 => ?_) (fun c1 => ?_)
  · refine lv_iconst (v := nI 1) X.1 X.2.1 dX3_canEnd_15 (by decide) ?_
    refine lv_goto (tgt := 20) X.1 X.2.1 dX3_canEnd_16 (by decide) ?_
    exact x_iret X hr hlk hK hw (v := nI 1) (by first | rfl | exact nr_b _ | decide) (⟨by rw [s_X3_canEnd, if_pos c1], rfl⟩) dX3_canEnd_20
  · refine lv_iload_n X.1 X.2.1 dX3_canEnd_5 rfl (lv_at hl 1 rfl) ?_
    refine lv_iconst (v := nI 4) X.1 X.2.1 dX3_canEnd_6 (by decide) ?_
    refine lv_icmp_eq (tgt := 15) X.1 X.2.1 dX3_canEnd_7 (by decide) (fun c2 => ?_) (fun c2 => ?_)
    · refine lv_iconst (v := nI 1) X.1 X.2.1 dX3_canEnd_15 (by decide) ?_
      refine lv_goto (tgt := 20) X.1 X.2.1 dX3_canEnd_16 (by decide) ?_
      exact x_iret X hr hlk hK hw (v := nI 1) (by first | rfl | exact nr_b _ | decide) (⟨by rw [s_X3_canEnd, if_neg c1, if_pos c2], rfl⟩) dX3_canEnd_20
    · refine lv_iload_n X.1 X.2.1 dX3_canEnd_10 rfl (lv_at hl 1 rfl) ?_
      refine lv_iconst (v := nI 5) X.1 X.2.1 dX3_canEnd_11 (by decide) ?_
      refine lv_icmp_ne (tgt := 19) X.1 X.2.1 dX3_canEnd_12 (by decide) (fun c3 => ?_) (fun c3 => ?_)
      · refine lv_iconst (v := nI 0) X.1 X.2.1 dX3_canEnd_19 (by decide) ?_
        exact x_iret X hr hlk hK hw (v := nI 0) (by first | rfl | exact nr_b _ | decide) (⟨by rw [s_X3_canEnd, if_neg c1, if_neg c2, if_neg c3], rfl⟩) dX3_canEnd_20
      · refine lv_iconst (v := nI 1) X.1 X.2.1 dX3_canEnd_15 (by decide) ?_
        refine lv_goto (tgt := 20) X.1 X.2.1 dX3_canEnd_16 (by decide) ?_
        exact x_iret X hr hlk hK hw (v := nI 1) (by first | rfl | exact nr_b _ | decide) (⟨by rw [s_X3_canEnd, if_neg c1, if_neg c2, if_pos c3], rfl⟩) dX3_canEnd_20
set_option maxHeartbeats 4000000 in
set_option maxRecDepth 100000 in
theorem k_X3_isIn {l : Launch} {D : va_G} {cI cB cS : ClassId} {ad : Nat → Nat} {N : Nat} {F : Nat → va_E} (hI : iN ad N) (q : Nat) (x : Int32) (y : Int32) (w : Int32) (hq : q + 1 ≤ N) (hL : LoF ad F q) : Ci l D cI cB cS ad N yX3_isIn cX3_isIn 4 (some .boolean) 0 0 [.ref (ad q), .int x, .int y, .int w] F (pP (bI (decide (¬ x < y ∧ ¬ w < x))) F) := by
  refine x_met (by decide +kernel) (Nat.le_of_ble_eq_true rfl) ?_
  intro p e s m below meth c X hr hlk hK hw ls hl
  replace hl : lv_has ls 4 [(0, .ref (ad q)), (1, .int x), (2, .int y), (3, .int w)] := hl
  refine lv_iload_n X.1 X.2.1 dX3_isIn_0 rfl (lv_at hl 1 rfl) ?_
  refine lv_iload_n X.1 X.2.1 dX3_isIn_1 rfl (lv_at hl 2 rfl) ?_
  refine lv_icmp_lt (tgt := 14) X.1 X.2.1 dX3_isIn_2 (by decide) (fun c1 => ?_) (fun c1 => ?_)
  · refine lv_iconst (v := nI 0) X.1 X.2.1 dX3_isIn_14 (by decide) ?_
    exact x_iret X hr hlk hK hw (v := nI 0) (by first | rfl | exact nr_b _ | decide) (⟨by simp [bI, c1], rfl⟩) dX3_isIn_15
  · refine lv_iload_n X.1 X.2.1 dX3_isIn_5 rfl (lv_at hl 1 rfl) ?_
    refine lv_iload_n X.1 X.2.1 dX3_isIn_6 rfl (lv_at hl 3 rfl) ?_
    refine lv_icmp_gt (tgt := 14) X.1 X.2.1 dX3_isIn_7 (by decide) (fun c2 => ?_) (fun c2 => ?_)
    · refine lv_iconst (v := nI 0) X.1 X.2.1 dX3_isIn_14 (by decide) ?_
      exact x_iret X hr hlk hK hw (v := nI 0) (by first | rfl | exact nr_b _ | decide) (⟨by simp [bI, c1, c2], rfl⟩) dX3_isIn_15
    · refine lv_iconst (v := nI 1) X.1 X.2.1 dX3_isIn_10 (by decide) ?_
      refine lv_goto (tgt := 15) X.1 X.2.1 dX3_isIn_11 (by decide) ?_
      exact x_iret X hr hlk hK hw (v := nI 1) (by first | rfl | exact nr_b _ | decide) (⟨by simp [bI, c1, c2], rfl⟩) dX3_isIn_15
def s_X3_expectedAfterEvent (x : Int32) : Int32 := (if x = (nI 59) then nI 1 else nI 0)
set_option maxHeartbeats 4000000 in
set_option maxRecDepth 100000 in
theorem k_X3_expectedAfterEvent {l : Launch} {D : va_G} {cI cB cS : ClassId} {ad : Nat → Nat} {N : Nat} {F : Nat → va_E} (hI : iN ad N) (q : Nat) (x : Int32) (hq : q + 1 ≤ N) (hL : LoF ad F q) : Ci l D cI cB cS ad N yX3_expectedAfterEvent cX3_expectedAfterEvent 2 (some .int) 0 0 [.ref (ad q), .int x] F (pP (s_X3_expectedAfterEvent x) F) := by
  refine x_met (by decide +kernel) (Nat.le_of_ble_eq_true rfl) ?_
  intro p e s m below meth c X hr hlk hK hw ls hl
  replace hl : lv_has ls 2 [(0, .ref (ad q)), (1, .int x)] := hl
  refine lv_iload_n X.1 X.2.1 dX3_expectedAfterEvent_0 rfl (lv_at hl 1 rfl) ?_
  refine lv_bipush (v := nI 59) X.1 X.2.1 dX3_expectedAfterEvent_1 (by decide) ?_
  refine lv_icmp_ne (tgt := 10) X.1 X.2.1 dX3_expectedAfterEvent_3 (by decide) (fun c1 => ?_) (fun c1 => ?_)
  · refine lv_iconst (v := nI 0) X.1 X.2.1 dX3_expectedAfterEvent_10 (by decide) ?_
    exact x_iret X hr hlk hK hw (v := nI 0) rfl (⟨by rw [s_X3_expectedAfterEvent, if_neg c1], rfl⟩) dX3_expectedAfterEvent_11
  · refine lv_iconst (v := nI 1) X.1 X.2.1 dX3_expectedAfterEvent_6 (by decide) ?_
    refine lv_goto (tgt := 11) X.1 X.2.1 dX3_expectedAfterEvent_7 (by decide) ?_
    exact x_iret X hr hlk hK hw (v := nI 1) rfl (⟨by rw [s_X3_expectedAfterEvent, if_pos c1], rfl⟩) dX3_expectedAfterEvent_11
def s_X3_expectedAfterLetter (x : Int32) : Int32 := (if x = 43 then nI 2 else (if x = 98 then nI 8 else (if x = 104 then nI 7 else (if x = 108 then nI 6 else (if x = 114 then nI 6 else nI 0)))))
set_option maxHeartbeats 4000000 in
set_option maxRecDepth 100000 in
theorem k_X3_expectedAfterLetter {l : Launch} {D : va_G} {cI cB cS : ClassId} {ad : Nat → Nat} {N : Nat} {F : Nat → va_E} (hI : iN ad N) (q : Nat) (x : Int32) (hq : q + 1 ≤ N) (hL : LoF ad F q) : Ci l D cI cB cS ad N yX3_expectedAfterLetter cX3_expectedAfterLetter 2 (some .int) 0 0 [.ref (ad q), .int x] F (pP (s_X3_expectedAfterLetter x) F) := by
  refine x_met (by decide +kernel) (Nat.le_of_ble_eq_true rfl) ?_
  intro p e s m below meth c X hr hlk hK hw ls hl
  replace hl : lv_has ls 2 [(0, .ref (ad q)), (1, .int x)] := hl
  refine lv_iload_n X.1 X.2.1 dX3_expectedAfterLetter_0 rfl (lv_at hl 1 rfl) ?_
  rcases lsw_43_98_104_108_114 x with c1 | c1 | c1 | c1 | c1 | c1
  · refine lv_lookup (tgt := 52) X.1 X.2.1 dX3_expectedAfterLetter_1 (by decide) (by rw [c1] <;> rfl) (by decide) ?_
    refine lv_iconst (v := nI 2) X.1 X.2.1 dX3_expectedAfterLetter_52 (by decide) ?_
    exact x_iret X hr hlk hK hw (v := nI 2) rfl (⟨by rw [s_X3_expectedAfterLetter, if_pos c1], rfl⟩) dX3_expectedAfterLetter_53
  · refine lv_lookup (tgt := 57) X.1 X.2.1 dX3_expectedAfterLetter_1 (by decide) (by rw [c1] <;> rfl) (by decide) ?_
    refine lv_bipush (v := nI 8) X.1 X.2.1 dX3_expectedAfterLetter_57 (by decide) ?_
    exact x_iret X hr hlk hK hw (v := nI 8) rfl (⟨by rw [s_X3_expectedAfterLetter, if_neg (by rw [c1]; decide), if_pos c1], rfl⟩) dX3_expectedAfterLetter_59
  · refine lv_lookup (tgt := 60) X.1 X.2.1 dX3_expectedAfterLetter_1 (by decide) (by rw [c1] <;> rfl) (by decide) ?_
    refine lv_bipush (v := nI 7) X.1 X.2.1 dX3_expectedAfterLetter_60 (by decide) ?_
    exact x_iret X hr hlk hK hw (v := nI 7) rfl (⟨by rw [s_X3_expectedAfterLetter, if_neg (by rw [c1]; decide), if_neg (by rw [c1]; decide), if_pos c1], rfl⟩) dX3_expectedAfterLetter_62
  · refine lv_lookup (tgt := 54) X.1 X.2.1 dX3_expectedAfterLetter_1 (by decide) (by rw [c1] <;> rfl) (by decide) ?_
    refine lv_bipush (v := nI 6) X.1 X.2.1 dX3_expectedAfterLetter_54 (by decide) ?_
    exact x_iret X hr hlk hK hw (v := nI 6) rfl (⟨by rw [s_X3_expectedAfterLetter, if_neg (by rw [c1]; decide), if_neg (by rw [c1]; decide), if_neg (by rw [c1]; decide), if_pos c1], rfl⟩) dX3_expectedAfterLetter_56
  · refine lv_lookup (tgt := 54) X.1 X.2.1 dX3_expectedAfterLetter_1 (by decide) (by rw [c1] <;> rfl) (by decide) ?_
    refine lv_bipush (v := nI 6) X.1 X.2.1 dX3_expectedAfterLetter_54 (by decide) ?_
    exact x_iret X hr hlk hK hw (v := nI 6) rfl (⟨by rw [s_X3_expectedAfterLetter, if_neg (by rw [c1]; decide), if_neg (by rw [c1]; decide), if_neg (by rw [c1]; decide), if_neg (by rw [c1]; decide), if_pos c1], rfl⟩) dX3_expectedAfterLetter_56
  · refine lv_lookup (off := 62) (tgt := 63) X.1 X.2.1 dX3_expectedAfterLetter_1 (by decide) (lsd_of (ks := [43, 98, 104, 108, 114]) (os := [51, 56, 59, 53, 53]) c1) (by decide) ?_
    refine lv_iconst (v := nI 0) X.1 X.2.1 dX3_expectedAfterLetter_63 (by decide) ?_
    exact x_iret X hr hlk hK hw (v := nI 0) rfl (⟨by rw [s_X3_expectedAfterLetter, if_neg (c1 _ (by simp)), if_neg (c1 _ (by simp)), if_neg (c1 _ (by simp)), if_neg (c1 _ (by simp)), if_neg (c1 _ (by simp))], rfl⟩) dX3_expectedAfterLetter_64
theorem hd_X3_expectedAfterEvent : yX3_expectedAfterEvent.cls = RX3 ∧ yX3_expectedAfterEvent.cls ≠ "java/lang/invoke/MethodHandle" ∧ yX3_expectedAfterEvent.cls ≠ "java/lang/invoke/VarHandle" ∧ (parseMethodDescriptor yX3_expectedAfterEvent.desc).map (fun d => d.parameters.length) = some 1 := by decide +kernel
theorem hd_X3_expectedAfterLetter : yX3_expectedAfterLetter.cls = RX3 ∧ yX3_expectedAfterLetter.cls ≠ "java/lang/invoke/MethodHandle" ∧ yX3_expectedAfterLetter.cls ≠ "java/lang/invoke/VarHandle" ∧ (parseMethodDescriptor yX3_expectedAfterLetter.desc).map (fun d => d.parameters.length) = some 1 := by decide +kernel
theorem hd_X3_isIn : yX3_isIn.cls = RX3 ∧ yX3_isIn.cls ≠ "java/lang/invoke/MethodHandle" ∧ yX3_isIn.cls ≠ "java/lang/invoke/VarHandle" ∧ (parseMethodDescriptor yX3_isIn.desc).map (fun d => d.parameters.length) = some 3 := by decide +kernel
def s_X3_expectedAfter (x : Int32) (y : Int32) : Int32 := (if x = 1 then s_X3_expectedAfterLetter y else (if x = 2 then (if ¬ y < (nI 49) ∧ ¬ (nI 57) < y then nI 3 else nI 0) else (if x = 3 then (if ¬ y < (nI 48) ∧ ¬ (nI 57) < y then nI 4 else s_X3_expectedAfterEvent y) else (if x = 4 then (if ¬ y < (nI 48) ∧ ¬ (nI 57) < y then nI 5 else s_X3_expectedAfterEvent y) else (if x = 5 then s_X3_expectedAfterEvent y else (if x = 6 then (if ¬ y < (nI 48) ∧ ¬ (nI 56) < y then nI 5 else nI 0) else (if x = 7 then (if ¬ y < (nI 48) ∧ ¬ (nI 56) < y then nI 6 else nI 0) else (if x = 8 then (if ¬ y < (nI 48) ∧ ¬ (nI 56) < y then nI 9 else nI 0) else (if x = 9 then (if ¬ y < (nI 48) ∧ ¬ (nI 52) < y then nI 5 else nI 0) else nI 0)))))))))
set_option maxHeartbeats 4000000 in
set_option maxRecDepth 100000 in
theorem k_X3_expectedAfter {l : Launch} {D : va_G} {cI cB cS : ClassId} {ad : Nat → Nat} {N : Nat} {F : Nat → va_E} (hI : iN ad N) (q : Nat) (x : Int32) (y : Int32) (hq : q + 1 ≤ N) (hL : LoF ad F q) : Ci l D cI cB cS ad N yX3_expectedAfter cX3_expectedAfter 3 (some .int) 1 23 [.ref (ad q), .int x, .int y] F (pP (s_X3_expectedAfter x y) F) := by
  refine x_met (by decide +kernel) (Nat.le_of_ble_eq_true rfl) ?_
  intro p e s m below meth c X hr hlk hK hw ls hl
  replace hl : lv_has ls 3 [(0, .ref (ad q)), (1, .int x), (2, .int y)] := hl
  refine lv_iload_n X.1 X.2.1 dX3_expectedAfter_0 rfl (lv_at hl 1 rfl) ?_
  rcases sw_1_9 x with c1 | c1 | c1 | c1 | c1 | c1 | c1 | c1 | c1 | c1
  · refine lv_tableIn (tgt := 52) X.1 X.2.1 dX3_expectedAfter_1 (by rw [c1]; decide) (by rw [c1]; decide) (by rw [c1]; rfl) (by decide) ?_
    refine lv_aload_n X.1 X.2.1 dX3_expectedAfter_52 rfl (lv_at hl 0 rfl) ?_
    refine lv_iload_n X.1 X.2.1 dX3_expectedAfter_53 rfl (lv_at hl 2 rfl) ?_
    refine x_callVP X hK hw (k := q) (As := [.int y]) (rest := []) (k_X3_expectedAfterLetter hI q y (by omega) hL) (x_cwV yX3_expectedAfterLetter cX3_expectedAfterLetter 2 (some .int) 1 X q632 q634 qs5 q9 q635 hd_X3_expectedAfterLetter ⟨Nat.le_of_ble_eq_true rfl, Nat.le_of_ble_eq_true rfl⟩) (by omega) hL rfl rfl hl.1 rfl (Nat.le_of_ble_eq_true rfl) dX3_expectedAfter_54 ⟨Nat.le_of_ble_eq_true rfl, Nat.le_of_ble_eq_true rfl⟩ (fun H locs hw => ?_)
    exact x_iret X hr hlk hK hw (v := s_X3_expectedAfterLetter y) rfl (⟨by rw [s_X3_expectedAfter, if_pos c1], rfl⟩) dX3_expectedAfter_57
  · refine lv_tableIn (tgt := 58) X.1 X.2.1 dX3_expectedAfter_1 (by rw [c1]; decide) (by rw [c1]; decide) (by rw [c1]; rfl) (by decide) ?_
    refine lv_aload_n X.1 X.2.1 dX3_expectedAfter_58 rfl (lv_at hl 0 rfl) ?_
    refine lv_iload_n X.1 X.2.1 dX3_expectedAfter_59 rfl (lv_at hl 2 rfl) ?_
    refine lv_bipush (v := nI 49) X.1 X.2.1 dX3_expectedAfter_60 (by decide) ?_
    refine lv_bipush (v := nI 57) X.1 X.2.1 dX3_expectedAfter_62 (by decide) ?_
    refine x_callVP X hK hw (k := q) (As := [.int y, .int (nI 49), .int (nI 57)]) (rest := []) (k_X3_isIn hI q y (nI 49) (nI 57) (by omega) hL) (x_cwV yX3_isIn cX3_isIn 4 (some .boolean) 3 X q636 q638 qs6 q9 q639 hd_X3_isIn ⟨Nat.le_of_ble_eq_true rfl, Nat.le_of_ble_eq_true rfl⟩) (by omega) hL rfl rfl hl.1 rfl (Nat.le_of_ble_eq_true rfl) dX3_expectedAfter_64 ⟨Nat.le_of_ble_eq_true rfl, Nat.le_of_ble_eq_true rfl⟩ (fun H locs hw => ?_)
    refine lv_if_eq (tgt := 74) X.1 X.2.1 dX3_expectedAfter_67 (by decide) (fun c2 => ?_) (fun c2 => ?_)
    · replace c2 := bI_z c2
      refine lv_iconst (v := nI 0) X.1 X.2.1 dX3_expectedAfter_74 (by decide) ?_
      exact x_iret X hr hlk hK hw (v := nI 0) rfl (⟨by rw [s_X3_expectedAfter, if_neg (by rw [c1]; decide), if_pos c1, if_neg c2], rfl⟩) dX3_expectedAfter_75
    · replace c2 := bI_nz c2
      refine lv_iconst (v := nI 3) X.1 X.2.1 dX3_expectedAfter_70 (by decide) ?_
      refine lv_goto (tgt := 75) X.1 X.2.1 dX3_expectedAfter_71 (by decide) ?_
      exact x_iret X hr hlk hK hw (v := nI 3) rfl (⟨by rw [s_X3_expectedAfter, if_neg (by rw [c1]; decide), if_pos c1, if_pos c2], rfl⟩) dX3_expectedAfter_75
  · refine lv_tableIn (tgt := 76) X.1 X.2.1 dX3_expectedAfter_1 (by rw [c1]; decide) (by rw [c1]; decide) (by rw [c1]; rfl) (by decide) ?_
    refine lv_aload_n X.1 X.2.1 dX3_expectedAfter_76 rfl (lv_at hl 0 rfl) ?_
    refine lv_iload_n X.1 X.2.1 dX3_expectedAfter_77 rfl (lv_at hl 2 rfl) ?_
    refine lv_bipush (v := nI 48) X.1 X.2.1 dX3_expectedAfter_78 (by decide) ?_
    refine lv_bipush (v := nI 57) X.1 X.2.1 dX3_expectedAfter_80 (by decide) ?_
    refine x_callVP X hK hw (k := q) (As := [.int y, .int (nI 48), .int (nI 57)]) (rest := []) (k_X3_isIn hI q y (nI 48) (nI 57) (by omega) hL) (x_cwV yX3_isIn cX3_isIn 4 (some .boolean) 3 X q636 q638 qs6 q9 q639 hd_X3_isIn ⟨Nat.le_of_ble_eq_true rfl, Nat.le_of_ble_eq_true rfl⟩) (by omega) hL rfl rfl hl.1 rfl (Nat.le_of_ble_eq_true rfl) dX3_expectedAfter_82 ⟨Nat.le_of_ble_eq_true rfl, Nat.le_of_ble_eq_true rfl⟩ (fun H locs hw => ?_)
    refine lv_if_eq (tgt := 92) X.1 X.2.1 dX3_expectedAfter_85 (by decide) (fun c3 => ?_) (fun c3 => ?_)
    · replace c3 := bI_z c3
      refine lv_aload_n X.1 X.2.1 dX3_expectedAfter_92 rfl (lv_at hl 0 rfl) ?_
      refine lv_iload_n X.1 X.2.1 dX3_expectedAfter_93 rfl (lv_at hl 2 rfl) ?_
      refine x_callVP X hK hw (k := q) (As := [.int y]) (rest := []) (k_X3_expectedAfterEvent hI q y (by omega) hL) (x_cwV yX3_expectedAfterEvent cX3_expectedAfterEvent 2 (some .int) 1 X q640 q642 qs7 q9 q643 hd_X3_expectedAfterEvent ⟨Nat.le_of_ble_eq_true rfl, Nat.le_of_ble_eq_true rfl⟩) (by omega) hL rfl rfl hl.1 rfl (Nat.le_of_ble_eq_true rfl) dX3_expectedAfter_94 ⟨Nat.le_of_ble_eq_true rfl, Nat.le_of_ble_eq_true rfl⟩ (fun H locs hw => ?_)
      exact x_iret X hr hlk hK hw (v := s_X3_expectedAfterEvent y) rfl (⟨by rw [s_X3_expectedAfter, if_neg (by rw [c1]; decide), if_neg (by rw [c1]; decide), if_pos c1, if_neg c3], rfl⟩) dX3_expectedAfter_97
    · replace c3 := bI_nz c3
      refine lv_iconst (v := nI 4) X.1 X.2.1 dX3_expectedAfter_88 (by decide) ?_
      refine lv_goto (tgt := 97) X.1 X.2.1 dX3_expectedAfter_89 (by decide) ?_
      exact x_iret X hr hlk hK hw (v := nI 4) rfl (⟨by rw [s_X3_expectedAfter, if_neg (by rw [c1]; decide), if_neg (by rw [c1]; decide), if_pos c1, if_pos c3], rfl⟩) dX3_expectedAfter_97
  · refine lv_tableIn (tgt := 98) X.1 X.2.1 dX3_expectedAfter_1 (by rw [c1]; decide) (by rw [c1]; decide) (by rw [c1]; rfl) (by decide) ?_
    refine lv_aload_n X.1 X.2.1 dX3_expectedAfter_98 rfl (lv_at hl 0 rfl) ?_
    refine lv_iload_n X.1 X.2.1 dX3_expectedAfter_99 rfl (lv_at hl 2 rfl) ?_
    refine lv_bipush (v := nI 48) X.1 X.2.1 dX3_expectedAfter_100 (by decide) ?_
    refine lv_bipush (v := nI 57) X.1 X.2.1 dX3_expectedAfter_102 (by decide) ?_
    refine x_callVP X hK hw (k := q) (As := [.int y, .int (nI 48), .int (nI 57)]) (rest := []) (k_X3_isIn hI q y (nI 48) (nI 57) (by omega) hL) (x_cwV yX3_isIn cX3_isIn 4 (some .boolean) 3 X q636 q638 qs6 q9 q639 hd_X3_isIn ⟨Nat.le_of_ble_eq_true rfl, Nat.le_of_ble_eq_true rfl⟩) (by omega) hL rfl rfl hl.1 rfl (Nat.le_of_ble_eq_true rfl) dX3_expectedAfter_104 ⟨Nat.le_of_ble_eq_true rfl, Nat.le_of_ble_eq_true rfl⟩ (fun H locs hw => ?_)
    refine lv_if_eq (tgt := 114) X.1 X.2.1 dX3_expectedAfter_107 (by decide) (fun c4 => ?_) (fun c4 => ?_)
    · replace c4 := bI_z c4
      refine lv_aload_n X.1 X.2.1 dX3_expectedAfter_114 rfl (lv_at hl 0 rfl) ?_
      refine lv_iload_n X.1 X.2.1 dX3_expectedAfter_115 rfl (lv_at hl 2 rfl) ?_
      refine x_callVP X hK hw (k := q) (As := [.int y]) (rest := []) (k_X3_expectedAfterEvent hI q y (by omega) hL) (x_cwV yX3_expectedAfterEvent cX3_expectedAfterEvent 2 (some .int) 1 X q640 q642 qs7 q9 q643 hd_X3_expectedAfterEvent ⟨Nat.le_of_ble_eq_true rfl, Nat.le_of_ble_eq_true rfl⟩) (by omega) hL rfl rfl hl.1 rfl (Nat.le_of_ble_eq_true rfl) dX3_expectedAfter_116 ⟨Nat.le_of_ble_eq_true rfl, Nat.le_of_ble_eq_true rfl⟩ (fun H locs hw => ?_)
      exact x_iret X hr hlk hK hw (v := s_X3_expectedAfterEvent y) rfl (⟨by rw [s_X3_expectedAfter, if_neg (by rw [c1]; decide), if_neg (by rw [c1]; decide), if_neg (by rw [c1]; decide), if_pos c1, if_neg c4], rfl⟩) dX3_expectedAfter_119
    · replace c4 := bI_nz c4
      refine lv_iconst (v := nI 5) X.1 X.2.1 dX3_expectedAfter_110 (by decide) ?_
      refine lv_goto (tgt := 119) X.1 X.2.1 dX3_expectedAfter_111 (by decide) ?_
      exact x_iret X hr hlk hK hw (v := nI 5) rfl (⟨by rw [s_X3_expectedAfter, if_neg (by rw [c1]; decide), if_neg (by rw [c1]; decide), if_neg (by rw [c1]; decide), if_pos c1, if_pos c4], rfl⟩) dX3_expectedAfter_119
  · refine lv_tableIn (tgt := 120) X.1 X.2.1 dX3_expectedAfter_1 (by rw [c1]; decide) (by rw [c1]; decide) (by rw [c1]; rfl) (by decide) ?_
    refine lv_aload_n X.1 X.2.1 dX3_expectedAfter_120 rfl (lv_at hl 0 rfl) ?_
    refine lv_iload_n X.1 X.2.1 dX3_expectedAfter_121 rfl (lv_at hl 2 rfl) ?_
    refine x_callVP X hK hw (k := q) (As := [.int y]) (rest := []) (k_X3_expectedAfterEvent hI q y (by omega) hL) (x_cwV yX3_expectedAfterEvent cX3_expectedAfterEvent 2 (some .int) 1 X q640 q642 qs7 q9 q643 hd_X3_expectedAfterEvent ⟨Nat.le_of_ble_eq_true rfl, Nat.le_of_ble_eq_true rfl⟩) (by omega) hL rfl rfl hl.1 rfl (Nat.le_of_ble_eq_true rfl) dX3_expectedAfter_122 ⟨Nat.le_of_ble_eq_true rfl, Nat.le_of_ble_eq_true rfl⟩ (fun H locs hw => ?_)
    exact x_iret X hr hlk hK hw (v := s_X3_expectedAfterEvent y) rfl (⟨by rw [s_X3_expectedAfter, if_neg (by rw [c1]; decide), if_neg (by rw [c1]; decide), if_neg (by rw [c1]; decide), if_neg (by rw [c1]; decide), if_pos c1], rfl⟩) dX3_expectedAfter_125
  · refine lv_tableIn (tgt := 126) X.1 X.2.1 dX3_expectedAfter_1 (by rw [c1]; decide) (by rw [c1]; decide) (by rw [c1]; rfl) (by decide) ?_
    refine lv_aload_n X.1 X.2.1 dX3_expectedAfter_126 rfl (lv_at hl 0 rfl) ?_
    refine lv_iload_n X.1 X.2.1 dX3_expectedAfter_127 rfl (lv_at hl 2 rfl) ?_
    refine lv_bipush (v := nI 48) X.1 X.2.1 dX3_expectedAfter_128 (by decide) ?_
    refine lv_bipush (v := nI 56) X.1 X.2.1 dX3_expectedAfter_130 (by decide) ?_
    refine x_callVP X hK hw (k := q) (As := [.int y, .int (nI 48), .int (nI 56)]) (rest := []) (k_X3_isIn hI q y (nI 48) (nI 56) (by omega) hL) (x_cwV yX3_isIn cX3_isIn 4 (some .boolean) 3 X q636 q638 qs6 q9 q639 hd_X3_isIn ⟨Nat.le_of_ble_eq_true rfl, Nat.le_of_ble_eq_true rfl⟩) (by omega) hL rfl rfl hl.1 rfl (Nat.le_of_ble_eq_true rfl) dX3_expectedAfter_132 ⟨Nat.le_of_ble_eq_true rfl, Nat.le_of_ble_eq_true rfl⟩ (fun H locs hw => ?_)
    refine lv_if_eq (tgt := 142) X.1 X.2.1 dX3_expectedAfter_135 (by decide) (fun c5 => ?_) (fun c5 => ?_)
    · replace c5 := bI_z c5
      refine lv_iconst (v := nI 0) X.1 X.2.1 dX3_expectedAfter_142 (by decide) ?_
      exact x_iret X hr hlk hK hw (v := nI 0) rfl (⟨by rw [s_X3_expectedAfter, if_neg (by rw [c1]; decide), if_neg (by rw [c1]; decide), if_neg (by rw [c1]; decide), if_neg (by rw [c1]; decide), if_neg (by rw [c1]; decide), if_pos c1, if_neg c5], rfl⟩) dX3_expectedAfter_143
    · replace c5 := bI_nz c5
      refine lv_iconst (v := nI 5) X.1 X.2.1 dX3_expectedAfter_138 (by decide) ?_
      refine lv_goto (tgt := 143) X.1 X.2.1 dX3_expectedAfter_139 (by decide) ?_
      exact x_iret X hr hlk hK hw (v := nI 5) rfl (⟨by rw [s_X3_expectedAfter, if_neg (by rw [c1]; decide), if_neg (by rw [c1]; decide), if_neg (by rw [c1]; decide), if_neg (by rw [c1]; decide), if_neg (by rw [c1]; decide), if_pos c1, if_pos c5], rfl⟩) dX3_expectedAfter_143
  · refine lv_tableIn (tgt := 144) X.1 X.2.1 dX3_expectedAfter_1 (by rw [c1]; decide) (by rw [c1]; decide) (by rw [c1]; rfl) (by decide) ?_
    refine lv_aload_n X.1 X.2.1 dX3_expectedAfter_144 rfl (lv_at hl 0 rfl) ?_
    refine lv_iload_n X.1 X.2.1 dX3_expectedAfter_145 rfl (lv_at hl 2 rfl) ?_
    refine lv_bipush (v := nI 48) X.1 X.2.1 dX3_expectedAfter_146 (by decide) ?_
    refine lv_bipush (v := nI 56) X.1 X.2.1 dX3_expectedAfter_148 (by decide) ?_
    refine x_callVP X hK hw (k := q) (As := [.int y, .int (nI 48), .int (nI 56)]) (rest := []) (k_X3_isIn hI q y (nI 48) (nI 56) (by omega) hL) (x_cwV yX3_isIn cX3_isIn 4 (some .boolean) 3 X q636 q638 qs6 q9 q639 hd_X3_isIn ⟨Nat.le_of_ble_eq_true rfl, Nat.le_of_ble_eq_true rfl⟩) (by omega) hL rfl rfl hl.1 rfl (Nat.le_of_ble_eq_true rfl) dX3_expectedAfter_150 ⟨Nat.le_of_ble_eq_true rfl, Nat.le_of_ble_eq_true rfl⟩ (fun H locs hw => ?_)
    refine lv_if_eq (tgt := 161) X.1 X.2.1 dX3_expectedAfter_153 (by decide) (fun c6 => ?_) (fun c6 => ?_)
    · replace c6 := bI_z c6
      refine lv_iconst (v := nI 0) X.1 X.2.1 dX3_expectedAfter_161 (by decide) ?_
      exact x_iret X hr hlk hK hw (v := nI 0) rfl (⟨by rw [s_X3_expectedAfter, if_neg (by rw [c1]; decide), if_neg (by rw [c1]; decide), if_neg (by rw [c1]; decide), if_neg (by rw [c1]; decide), if_neg (by rw [c1]; decide), if_neg (by rw [c1]; decide), if_pos c1, if_neg c6], rfl⟩) dX3_expectedAfter_162
    · replace c6 := bI_nz c6
      refine lv_bipush (v := nI 6) X.1 X.2.1 dX3_expectedAfter_156 (by decide) ?_
      refine lv_goto (tgt := 162) X.1 X.2.1 dX3_expectedAfter_158 (by decide) ?_
      exact x_iret X hr hlk hK hw (v := nI 6) rfl (⟨by rw [s_X3_expectedAfter, if_neg (by rw [c1]; decide), if_neg (by rw [c1]; decide), if_neg (by rw [c1]; decide), if_neg (by rw [c1]; decide), if_neg (by rw [c1]; decide), if_neg (by rw [c1]; decide), if_pos c1, if_pos c6], rfl⟩) dX3_expectedAfter_162
  · refine lv_tableIn (tgt := 163) X.1 X.2.1 dX3_expectedAfter_1 (by rw [c1]; decide) (by rw [c1]; decide) (by rw [c1]; rfl) (by decide) ?_
    refine lv_aload_n X.1 X.2.1 dX3_expectedAfter_163 rfl (lv_at hl 0 rfl) ?_
    refine lv_iload_n X.1 X.2.1 dX3_expectedAfter_164 rfl (lv_at hl 2 rfl) ?_
    refine lv_bipush (v := nI 48) X.1 X.2.1 dX3_expectedAfter_165 (by decide) ?_
    refine lv_bipush (v := nI 56) X.1 X.2.1 dX3_expectedAfter_167 (by decide) ?_
    refine x_callVP X hK hw (k := q) (As := [.int y, .int (nI 48), .int (nI 56)]) (rest := []) (k_X3_isIn hI q y (nI 48) (nI 56) (by omega) hL) (x_cwV yX3_isIn cX3_isIn 4 (some .boolean) 3 X q636 q638 qs6 q9 q639 hd_X3_isIn ⟨Nat.le_of_ble_eq_true rfl, Nat.le_of_ble_eq_true rfl⟩) (by omega) hL rfl rfl hl.1 rfl (Nat.le_of_ble_eq_true rfl) dX3_expectedAfter_169 ⟨Nat.le_of_ble_eq_true rfl, Nat.le_of_ble_eq_true rfl⟩ (fun H locs hw => ?_)
    refine lv_if_eq (tgt := 180) X.1 X.2.1 dX3_expectedAfter_172 (by decide) (fun c7 => ?_) (fun c7 => ?_)
    · replace c7 := bI_z c7
      refine lv_iconst (v := nI 0) X.1 X.2.1 dX3_expectedAfter_180 (by decide) ?_
      exact x_iret X hr hlk hK hw (v := nI 0) rfl (⟨by rw [s_X3_expectedAfter, if_neg (by rw [c1]; decide), if_neg (by rw [c1]; decide), if_neg (by rw [c1]; decide), if_neg (by rw [c1]; decide), if_neg (by rw [c1]; decide), if_neg (by rw [c1]; decide), if_neg (by rw [c1]; decide), if_pos c1, if_neg c7], rfl⟩) dX3_expectedAfter_181
    · replace c7 := bI_nz c7
      refine lv_bipush (v := nI 9) X.1 X.2.1 dX3_expectedAfter_175 (by decide) ?_
      refine lv_goto (tgt := 181) X.1 X.2.1 dX3_expectedAfter_177 (by decide) ?_
      exact x_iret X hr hlk hK hw (v := nI 9) rfl (⟨by rw [s_X3_expectedAfter, if_neg (by rw [c1]; decide), if_neg (by rw [c1]; decide), if_neg (by rw [c1]; decide), if_neg (by rw [c1]; decide), if_neg (by rw [c1]; decide), if_neg (by rw [c1]; decide), if_neg (by rw [c1]; decide), if_pos c1, if_pos c7], rfl⟩) dX3_expectedAfter_181
  · refine lv_tableIn (tgt := 182) X.1 X.2.1 dX3_expectedAfter_1 (by rw [c1]; decide) (by rw [c1]; decide) (by rw [c1]; rfl) (by decide) ?_
    refine lv_aload_n X.1 X.2.1 dX3_expectedAfter_182 rfl (lv_at hl 0 rfl) ?_
    refine lv_iload_n X.1 X.2.1 dX3_expectedAfter_183 rfl (lv_at hl 2 rfl) ?_
    refine lv_bipush (v := nI 48) X.1 X.2.1 dX3_expectedAfter_184 (by decide) ?_
    refine lv_bipush (v := nI 52) X.1 X.2.1 dX3_expectedAfter_186 (by decide) ?_
    refine x_callVP X hK hw (k := q) (As := [.int y, .int (nI 48), .int (nI 52)]) (rest := []) (k_X3_isIn hI q y (nI 48) (nI 52) (by omega) hL) (x_cwV yX3_isIn cX3_isIn 4 (some .boolean) 3 X q636 q638 qs6 q9 q639 hd_X3_isIn ⟨Nat.le_of_ble_eq_true rfl, Nat.le_of_ble_eq_true rfl⟩) (by omega) hL rfl rfl hl.1 rfl (Nat.le_of_ble_eq_true rfl) dX3_expectedAfter_188 ⟨Nat.le_of_ble_eq_true rfl, Nat.le_of_ble_eq_true rfl⟩ (fun H locs hw => ?_)
    refine lv_if_eq (tgt := 198) X.1 X.2.1 dX3_expectedAfter_191 (by decide) (fun c8 => ?_) (fun c8 => ?_)
    · replace c8 := bI_z c8
      refine lv_iconst (v := nI 0) X.1 X.2.1 dX3_expectedAfter_198 (by decide) ?_
      exact x_iret X hr hlk hK hw (v := nI 0) rfl (⟨by rw [s_X3_expectedAfter, if_neg (by rw [c1]; decide), if_neg (by rw [c1]; decide), if_neg (by rw [c1]; decide), if_neg (by rw [c1]; decide), if_neg (by rw [c1]; decide), if_neg (by rw [c1]; decide), if_neg (by rw [c1]; decide), if_neg (by rw [c1]; decide), if_pos c1, if_neg c8], rfl⟩) dX3_expectedAfter_199
    · replace c8 := bI_nz c8
      refine lv_iconst (v := nI 5) X.1 X.2.1 dX3_expectedAfter_194 (by decide) ?_
      refine lv_goto (tgt := 199) X.1 X.2.1 dX3_expectedAfter_195 (by decide) ?_
      exact x_iret X hr hlk hK hw (v := nI 5) rfl (⟨by rw [s_X3_expectedAfter, if_neg (by rw [c1]; decide), if_neg (by rw [c1]; decide), if_neg (by rw [c1]; decide), if_neg (by rw [c1]; decide), if_neg (by rw [c1]; decide), if_neg (by rw [c1]; decide), if_neg (by rw [c1]; decide), if_neg (by rw [c1]; decide), if_pos c1, if_pos c8], rfl⟩) dX3_expectedAfter_199
  · refine lv_tableOut (tgt := 200) X.1 X.2.1 dX3_expectedAfter_1 c1 (by decide) ?_
    refine lv_iconst (v := nI 0) X.1 X.2.1 dX3_expectedAfter_200 (by decide) ?_
    exact x_iret X hr hlk hK hw (v := nI 0) rfl (⟨by rw [s_X3_expectedAfter, if_neg (fun h => by rw [h] at c1; revert c1; decide), if_neg (fun h => by rw [h] at c1; revert c1; decide), if_neg (fun h => by rw [h] at c1; revert c1; decide), if_neg (fun h => by rw [h] at c1; revert c1; decide), if_neg (fun h => by rw [h] at c1; revert c1; decide), if_neg (fun h => by rw [h] at c1; revert c1; decide), if_neg (fun h => by rw [h] at c1; revert c1; decide), if_neg (fun h => by rw [h] at c1; revert c1; decide), if_neg (fun h => by rw [h] at c1; revert c1; decide)], rfl⟩) dX3_expectedAfter_201
def ffl (tx : Nat → Nat) (n : Nat) : Nat → Nat → Int32 → Int32
  | 0, _, x => if s_X3_canEnd x = 0 then nI n else (-5)
  | f + 1, i, x => if s_X3_expectedAfter x (nI (tx i)) = 0 then nI i else ffl tx n f (i + 1) (s_X3_expectedAfter x (nI (tx i)))
theorem hd_X3_canEnd : yX3_canEnd.cls = RX3 ∧ yX3_canEnd.cls ≠ "java/lang/invoke/MethodHandle" ∧ yX3_canEnd.cls ≠ "java/lang/invoke/VarHandle" ∧ (parseMethodDescriptor yX3_canEnd.desc).map (fun d => d.parameters.length) = some 1 := by decide +kernel
theorem hd_X3_expectedAfter : yX3_expectedAfter.cls = RX3 ∧ yX3_expectedAfter.cls ≠ "java/lang/invoke/MethodHandle" ∧ yX3_expectedAfter.cls ≠ "java/lang/invoke/VarHandle" ∧ (parseMethodDescriptor yX3_expectedAfter.desc).map (fun d => d.parameters.length) = some 2 := by decide +kernel
set_option maxHeartbeats 4000000 in
set_option maxRecDepth 100000 in
theorem k_X3_firstFault {l : Launch} {D : va_G} {cI cB cS : ClassId} {ad : Nat → Nat} {N : Nat} {F : Nat → va_E} (hI : iN ad N) (q : Nat) (cap : Nat) (n : Nat) (ml : Int32) (f : Nat → Int32) (tx : Nat → Nat) (hq3 : q + 3 ≤ N) (hcap : cap < 2 ^ 30) (hnc : n ≤ cap) (hL : LoF ad F q) (hS : SbF ad cB F (q + 1) cap n ml f) (htx : ∀ j, j < n → tx j < 128 ∧ f j = nI (tx j)) : Ci l D cI cB cS ad N yX3_firstFault cX3_firstFault 3 (some .int) 4 105 [.ref (ad q)] F (pP (ffl tx n n 0 (nI 1)) F) := by
  refine x_met (by decide +kernel) (Nat.le_of_ble_eq_true rfl) ?_
  intro p e s m below meth c X hr hlk hK hw ls hl
  replace hl : lv_has ls 3 [(0, .ref (ad q))] := hl
  refine lv_iconst (v := nI 1) X.1 X.2.1 dX3_firstFault_0 (by decide) ?_
  refine lv_istore_n (lv' := [(1, .int (nI 1)), (0, .ref (ad q))]) X.1 X.2.1 dX3_firstFault_1 rfl hl (by decide) rfl (fun ls hl => ?_)
  refine lv_iconst (v := nI 0) X.1 X.2.1 dX3_firstFault_2 (by decide) ?_
  refine lv_istore_n (lv' := [(2, .int (nI 0)), (1, .int (nI 1)), (0, .ref (ad q))]) X.1 X.2.1 dX3_firstFault_3 rfl hl (by decide) rfl (fun ls hl => ?_)
  have loop : ∀ (fu : Nat) (i : Nat) (y : Int32) (hfu : i + fu = n) (he : ffl tx n fu i y = ffl tx n n 0 (nI 1)) (H : Heap) (locs : List Loc) (hw : HW D (Af ad N s.heap.size) ad N F s H locs) (ls : Array Slot) (hl : lv_has ls 3 [(2, .int (nI i)), (1, .int y), (0, .ref (ad q))]), W p l e { frames := 4, cells := 0, slots := 0, locals := 105 } s m [.ref (ad q)].toArray below meth c H locs 0 0 (MQ below (va_Qi (pP (ffl tx n n 0 (nI 1)) F) (fun F' t => PO D ad N F' t) (Af ad N s.heap.size)) [.ref (ad q)].toArray s 0 0 (Af ad N s.heap.size)) (F0 m 4 ls []) := by
    intro fu
    induction fu with
    | zero =>
      intro i y hfu he H locs hw ls hl
      refine lv_iload_n X.1 X.2.1 dX3_firstFault_4 rfl (lv_at hl 0 rfl) ?_
      refine lv_aload_n X.1 X.2.1 dX3_firstFault_5 rfl (lv_at hl 2 rfl) ?_
      refine x_get X hK hw (C := RX3) (T := TX3) (nf := 1) (k := q) (by omega) hL rfl inX3 0 (by decide) q214 (fun _ h9 => h9) rfl dX3_firstFault_6 ?_
      refine x_callVP X hK hw (k := (q + 1)) (As := []) (rest := [.int (nI i)]) (k_J4_length_8abf5 hI ((q + 1)) cap n ml f (by omega) (by omega) (by omega) hS) (x_cwV yJ4_length_8abf5 cJ4_length_8abf5 1 (some .int) 0 X q484 q485 q486 q11 q487 hd_J4_length_8abf5 ⟨Nat.le_of_ble_eq_true rfl, Nat.le_of_ble_eq_true rfl⟩) (by omega) hS.1 rfl rfl hl.1 rfl (Nat.le_of_ble_eq_true rfl) dX3_firstFault_9 ⟨Nat.le_of_ble_eq_true rfl, Nat.le_of_ble_eq_true rfl⟩ (fun H locs hw => ?_)
      refine lv_icmp_ge (tgt := 41) X.1 X.2.1 dX3_firstFault_12 (by decide) (fun c1 => ?_) (fun c1 => ?_)
      · refine lv_aload_n X.1 X.2.1 dX3_firstFault_41 rfl (lv_at hl 2 rfl) ?_
        refine lv_iload_n X.1 X.2.1 dX3_firstFault_42 rfl (lv_at hl 1 rfl) ?_
        refine x_callVP X hK hw (k := q) (As := [.int y]) (rest := []) (k_X3_canEnd hI q y (by omega) hL) (x_cwV yX3_canEnd cX3_canEnd 2 (some .boolean) 1 X q644 q646 qs8 q9 q647 hd_X3_canEnd ⟨Nat.le_of_ble_eq_true rfl, Nat.le_of_ble_eq_true rfl⟩) (by omega) hL rfl rfl hl.1 rfl (Nat.le_of_ble_eq_true rfl) dX3_firstFault_43 ⟨Nat.le_of_ble_eq_true rfl, Nat.le_of_ble_eq_true rfl⟩ (fun H locs hw => ?_)
        refine lv_if_eq (tgt := 54) X.1 X.2.1 dX3_firstFault_46 (by decide) (fun c2 => ?_) (fun c2 => ?_)
        · refine lv_aload_n X.1 X.2.1 dX3_firstFault_54 rfl (lv_at hl 2 rfl) ?_
          refine x_get X hK hw (C := RX3) (T := TX3) (nf := 1) (k := q) (by omega) hL rfl inX3 0 (by decide) q214 (fun _ h9 => h9) rfl dX3_firstFault_55 ?_
          refine x_callVP X hK hw (k := (q + 1)) (As := []) (rest := []) (k_J4_length_8abf5 hI ((q + 1)) cap n ml f (by omega) (by omega) (by omega) hS) (x_cwV yJ4_length_8abf5 cJ4_length_8abf5 1 (some .int) 0 X q484 q485 q486 q11 q487 hd_J4_length_8abf5 ⟨Nat.le_of_ble_eq_true rfl, Nat.le_of_ble_eq_true rfl⟩) (by omega) hS.1 rfl rfl hl.1 rfl (Nat.le_of_ble_eq_true rfl) dX3_firstFault_58 ⟨Nat.le_of_ble_eq_true rfl, Nat.le_of_ble_eq_true rfl⟩ (fun H locs hw => ?_)
          exact x_iret X hr hlk hK hw (v := nI n) rfl (⟨by rw [← he, ffl, if_pos c2], rfl⟩) dX3_firstFault_61
        · refine lv_bipush (v := (-5)) X.1 X.2.1 dX3_firstFault_49 (by decide) ?_
          refine lv_goto (tgt := 61) X.1 X.2.1 dX3_firstFault_51 (by decide) ?_
          exact x_iret X hr hlk hK hw (v := (-5)) rfl (⟨by rw [← he, ffl, if_neg c2], rfl⟩) dX3_firstFault_61
      · exact absurd (nI_le (by omega) (by omega)) c1
    | succ fu ih =>
      intro i y hfu he H locs hw ls hl
      refine lv_iload_n X.1 X.2.1 dX3_firstFault_4 rfl (lv_at hl 0 rfl) ?_
      refine lv_aload_n X.1 X.2.1 dX3_firstFault_5 rfl (lv_at hl 2 rfl) ?_
      refine x_get X hK hw (C := RX3) (T := TX3) (nf := 1) (k := q) (by omega) hL rfl inX3 0 (by decide) q214 (fun _ h9 => h9) rfl dX3_firstFault_6 ?_
      refine x_callVP X hK hw (k := (q + 1)) (As := []) (rest := [.int (nI i)]) (k_J4_length_8abf5 hI ((q + 1)) cap n ml f (by omega) (by omega) (by omega) hS) (x_cwV yJ4_length_8abf5 cJ4_length_8abf5 1 (some .int) 0 X q484 q485 q486 q11 q487 hd_J4_length_8abf5 ⟨Nat.le_of_ble_eq_true rfl, Nat.le_of_ble_eq_true rfl⟩) (by omega) hS.1 rfl rfl hl.1 rfl (Nat.le_of_ble_eq_true rfl) dX3_firstFault_9 ⟨Nat.le_of_ble_eq_true rfl, Nat.le_of_ble_eq_true rfl⟩ (fun H locs hw => ?_)
      refine lv_icmp_ge (tgt := 41) X.1 X.2.1 dX3_firstFault_12 (by decide) (fun c3 => ?_) (fun c3 => ?_)
      · exact absurd c3 (nI_ge (by omega) (by omega))
      · refine lv_aload_n X.1 X.2.1 dX3_firstFault_15 rfl (lv_at hl 2 rfl) ?_
        refine lv_iload_n X.1 X.2.1 dX3_firstFault_16 rfl (lv_at hl 1 rfl) ?_
        refine lv_aload_n X.1 X.2.1 dX3_firstFault_17 rfl (lv_at hl 2 rfl) ?_
        refine x_get X hK hw (C := RX3) (T := TX3) (nf := 1) (k := q) (by omega) hL rfl inX3 0 (by decide) q214 (fun _ h9 => h9) rfl dX3_firstFault_18 ?_
        refine lv_iload_n X.1 X.2.1 dX3_firstFault_21 rfl (lv_at hl 0 rfl) ?_
        refine x_callVP X hK hw (k := (q + 1)) (As := [.int (nI i)]) (rest := [.int y, .ref (ad q)]) (k_J4_charAt_5068e hI ((q + 1)) cap n ml f i (tx i) (by omega) (by omega) (by omega) hS (by omega) (htx _ (by omega)).1 (htx _ (by omega)).2) (x_cwV yJ4_charAt_5068e cJ4_charAt_5068e 2 (some .char) 1 X q616 q617 q618 q11 q619 hd_J4_charAt_5068e ⟨Nat.le_of_ble_eq_true rfl, Nat.le_of_ble_eq_true rfl⟩) (by omega) hS.1 rfl rfl hl.1 rfl (Nat.le_of_ble_eq_true rfl) dX3_firstFault_22 ⟨Nat.le_of_ble_eq_true rfl, Nat.le_of_ble_eq_true rfl⟩ (fun H locs hw => ?_)
        refine x_callVP X hK hw (k := q) (As := [.int y, .int (nI ((tx i)))]) (rest := []) (k_X3_expectedAfter hI q y (nI ((tx i))) (by omega) hL) (x_cwV yX3_expectedAfter cX3_expectedAfter 3 (some .int) 2 X q628 q630 qs4 q9 q631 hd_X3_expectedAfter ⟨Nat.le_of_ble_eq_true rfl, Nat.le_of_ble_eq_true rfl⟩) (by omega) hL rfl rfl hl.1 rfl (Nat.le_of_ble_eq_true rfl) dX3_firstFault_25 ⟨Nat.le_of_ble_eq_true rfl, Nat.le_of_ble_eq_true rfl⟩ (fun H locs hw => ?_)
        refine lv_istore_n (lv' := [(1, .int (s_X3_expectedAfter y (nI ((tx i))))), (2, .int (nI i)), (0, .ref (ad q))]) X.1 X.2.1 dX3_firstFault_28 rfl hl (by decide) rfl (fun ls hl => ?_)
        refine lv_iload_n X.1 X.2.1 dX3_firstFault_29 rfl (lv_at hl 0 rfl) ?_
        refine lv_if_ne (tgt := 35) X.1 X.2.1 dX3_firstFault_30 (by decide) (fun c4 => ?_) (fun c4 => ?_)
        · refine lv_iinc (v := nI (i + 1)) (lv' := [(2, .int (nI (i + 1))), (1, .int (s_X3_expectedAfter y (nI ((tx i))))), (0, .ref (ad q))]) X.1 X.2.1 dX3_firstFault_35 hl (k := 1) rfl (by first | exact nI_1 _ | exact nI_add _ _ | rfl) (by decide) rfl (fun ls hl => ?_)
          refine lv_goto (tgt := 4) X.1 X.2.1 dX3_firstFault_38 (by decide) ?_
          exact ih (i + 1) (s_X3_expectedAfter y (nI ((tx i)))) (by omega) (by rw [← he, ffl, if_neg c4]) _ _ hw _ (lv_sub hl [0, 1, 2] rfl)
        · refine lv_iload_n X.1 X.2.1 dX3_firstFault_33 rfl (lv_at hl 1 rfl) ?_
          exact x_iret X hr hlk hK hw (v := nI i) rfl (⟨by rw [← he, ffl, if_pos c4], rfl⟩) dX3_firstFault_34
  exact loop n 0 (nI 1) (by omega) rfl _ _ hw _ (lv_sub hl [0, 1, 2] rfl)
theorem hd_J4_setLength_d00df : yJ4_setLength_d00df.cls = RJ4 ∧ yJ4_setLength_d00df.cls ≠ "java/lang/invoke/MethodHandle" ∧ yJ4_setLength_d00df.cls ≠ "java/lang/invoke/VarHandle" ∧ (parseMethodDescriptor yJ4_setLength_d00df.desc).map (fun d => d.parameters.length) = some 1 := by decide +kernel
set_option maxHeartbeats 4000000 in
set_option maxRecDepth 100000 in
theorem k_X3_empty {l : Launch} {D : va_G} {cI cB cS : ClassId} {ad : Nat → Nat} {N : Nat} {F : Nat → va_E} (hI : iN ad N) (q : Nat) (cap : Nat) (n : Nat) (ml : Int32) (f : Nat → Int32) (tx : Nat → Nat) (hq3 : q + 3 ≤ N) (hcap : cap < 2 ^ 30) (hnc : n ≤ cap) (hL : LoF ad F q) (hS : SbF ad cB F (q + 1) cap n ml f) (htx : ∀ j, j < n → tx j < 128 ∧ f j = nI (tx j)) : Ci l D cI cB cS ad N yX3_empty cX3_empty 2 (some .int) 3 64 [.ref (ad q)] F (fun r F' => r = nI n ∧ LoF ad F' q ∧ (∃ ml1, SbF ad cB F' (q + 1) cap 0 ml1 f) ∧ Fr F F' q (q + 3)) := by
  refine x_met (by decide +kernel) (Nat.le_of_ble_eq_true rfl) ?_
  intro p e s m below meth c X hr hlk hK hw ls hl
  replace hl : lv_has ls 2 [(0, .ref (ad q))] := hl
  have hfr : Fr F F (q) (q + 3) := Fr.rf
  refine lv_aload_n X.1 X.2.1 dX3_empty_0 rfl (lv_at hl 0 rfl) ?_
  refine x_get X hK hw (C := RX3) (T := TX3) (nf := 1) (k := q) (by omega) hL rfl inX3 0 (by decide) q214 (fun _ h9 => h9) rfl dX3_empty_1 ?_
  refine x_callVP X hK hw (k := (q + 1)) (As := []) (rest := []) (k_J4_length_8abf5 hI ((q + 1)) cap n ml f (by omega) (by omega) (by omega) hS) (x_cwV yJ4_length_8abf5 cJ4_length_8abf5 1 (some .int) 0 X q484 q485 q486 q11 q487 hd_J4_length_8abf5 ⟨Nat.le_of_ble_eq_true rfl, Nat.le_of_ble_eq_true rfl⟩) (by omega) hS.1 rfl rfl hl.1 rfl (Nat.le_of_ble_eq_true rfl) dX3_empty_4 ⟨Nat.le_of_ble_eq_true rfl, Nat.le_of_ble_eq_true rfl⟩ (fun H locs hw => ?_)
  refine lv_istore_n (lv' := [(1, .int (nI n)), (0, .ref (ad q))]) X.1 X.2.1 dX3_empty_7 rfl hl (by decide) rfl (fun ls hl => ?_)
  refine lv_aload_n X.1 X.2.1 dX3_empty_8 rfl (lv_at hl 1 rfl) ?_
  refine x_get X hK hw (C := RX3) (T := TX3) (nf := 1) (k := q) (by omega) hL rfl inX3 0 (by decide) q214 (fun _ h9 => h9) rfl dX3_empty_9 ?_
  refine lv_iconst (v := nI 0) X.1 X.2.1 dX3_empty_12 (by decide) ?_
  refine x_callVv X hK hw (k := (q + 1)) (As := [.int (nI 0)]) (rest := []) (k_J4_setLength_d00df hI ((q + 1)) cap n ml f (by omega) (by omega) (by omega) hS) (x_cwV yJ4_setLength_d00df cJ4_setLength_d00df 2 none 1 X q588 q589 q590 q11 q591 hd_J4_setLength_d00df ⟨Nat.le_of_ble_eq_true rfl, Nat.le_of_ble_eq_true rfl⟩) (by omega) hS.1 rfl rfl hl.1 rfl (Nat.le_of_ble_eq_true rfl) dX3_empty_13 ⟨Nat.le_of_ble_eq_true rfl, Nat.le_of_ble_eq_true rfl⟩ (fun F1 H locs hp hw => ?_)
  obtain ⟨ml1, hF2, hr3⟩ := hp
  have hq4 := (hr3 _ (by omega)).trans hL
  replace hfr := hfr.tr hr3 (by omega) (by omega)
  refine lv_iload_n X.1 X.2.1 dX3_empty_16 rfl (lv_at hl 0 rfl) ?_
  exact x_iret X hr hlk hK hw (v := nI n) rfl (⟨rfl, hq4, ⟨ml1, hF2⟩, hfr⟩) dX3_empty_17
