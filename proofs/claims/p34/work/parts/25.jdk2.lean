set_option maxHeartbeats 4000000 in
set_option maxRecDepth 100000 in
theorem k_J5_length_8abf5 {l : Launch} {D : va_G} {cI cB cS : ClassId} {ad : Nat → Nat} {N : Nat} {F : Nat → va_E} (hI : iN ad N) (e0 : Nat) (cap : Nat) (n : Nat) (ml : Int32) (f : Nat → Int32) (he2 : e0 + 2 ≤ N) (hcap : cap < 2 ^ 30) (hnc : n ≤ cap) (hS : SbF ad cB F e0 cap n ml f) : Ci l D cI cB cS ad N yJ5_length_8abf5 cJ5_length_8abf5 1 (some .int) 0 0 [.ref (ad e0)] F (pP (nI n) F) := by
  refine x_met (by decide +kernel) (Nat.le_of_ble_eq_true rfl) ?_
  intro p e s m below meth c X hr hlk hK hw ls hl
  replace hl : lv_has ls 1 [(0, .ref (ad e0))] := hl
  refine lv_aload_n X.1 X.2.1 dJ5_length_8abf5_0 rfl (lv_at hl 0 rfl) ?_
  refine x_get X hK hw (C := RJ4) (T := TJ4) (nf := 4) (k := e0) (by omega) hS.1 rfl inJ4 3 (by decide) q203 (fun _ h9 => h9) rfl dJ5_length_8abf5_1 ?_
  exact x_iret X hr hlk hK hw (v := nI n) rfl (⟨rfl, rfl⟩) dJ5_length_8abf5_4
theorem hj_J5_length_8abf5 : yJ5_length_8abf5.name ≠ "<init>" ∧ (parseMethodDescriptor yJ5_length_8abf5.desc).map (fun d => d.parameters.length) = some 0 := by decide +kernel
set_option maxHeartbeats 4000000 in
set_option maxRecDepth 100000 in
theorem k_J4_length_8abf5 {l : Launch} {D : va_G} {cI cB cS : ClassId} {ad : Nat → Nat} {N : Nat} {F : Nat → va_E} (hI : iN ad N) (e0 : Nat) (cap : Nat) (n : Nat) (ml : Int32) (f : Nat → Int32) (he2 : e0 + 2 ≤ N) (hcap : cap < 2 ^ 30) (hnc : n ≤ cap) (hS : SbF ad cB F e0 cap n ml f) : Ci l D cI cB cS ad N yJ4_length_8abf5 cJ4_length_8abf5 1 (some .int) 1 20 [.ref (ad e0)] F (pP (nI n) F) := by
  refine x_met (by decide +kernel) (Nat.le_of_ble_eq_true rfl) ?_
  intro p e s m below meth c X hr hlk hK hw ls hl
  replace hl : lv_has ls 1 [(0, .ref (ad e0))] := hl
  refine lv_aload_n X.1 X.2.1 dJ4_length_8abf5_0 rfl (lv_at hl 0 rfl) ?_
  refine x_callSUP X hK hw (k := e0) (As := []) (rest := []) (k_J5_length_8abf5 hI e0 cap n ml f (by omega) (by omega) (by omega) hS) (x_cwSU yJ5_length_8abf5 cJ5_length_8abf5 1 (some .int) 0 X q488 q1232 q212 q489 q10 q490 hj_J5_length_8abf5 ⟨Nat.le_of_ble_eq_true rfl, Nat.le_of_ble_eq_true rfl⟩) (by omega) hS.1 rfl rfl hl.1 rfl (Nat.le_of_ble_eq_true rfl) dJ4_length_8abf5_1 ⟨Nat.le_of_ble_eq_true rfl, Nat.le_of_ble_eq_true rfl⟩ (fun H locs hw => ?_)
  exact x_iret X hr hlk hK hw (v := nI n) rfl (⟨rfl, rfl⟩) dJ4_length_8abf5_4
