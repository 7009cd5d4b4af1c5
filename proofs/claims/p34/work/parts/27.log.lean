def LoF (ad : Nat → Nat) (F : Nat → va_E) (q : Nat) : Prop := F q = .inr (4, [.ref (ad (q + 1))])
theorem hd_J4_length_8abf5 : yJ4_length_8abf5.cls = RJ4 ∧ yJ4_length_8abf5.cls ≠ "java/lang/invoke/MethodHandle" ∧ yJ4_length_8abf5.cls ≠ "java/lang/invoke/VarHandle" ∧ (parseMethodDescriptor yJ4_length_8abf5.desc).map (fun d => d.parameters.length) = some 0 := by decide +kernel
set_option maxHeartbeats 4000000 in
set_option maxRecDepth 100000 in
theorem k_X3_length {l : Launch} {D : va_G} {cI cB cS : ClassId} {ad : Nat → Nat} {N : Nat} {F : Nat → va_E} (hI : iN ad N) (q : Nat) (cap : Nat) (n : Nat) (ml : Int32) (f : Nat → Int32) (tx : Nat → Nat) (hq3 : q + 3 ≤ N) (hcap : cap < 2 ^ 30) (hnc : n ≤ cap) (hL : LoF ad F q) (hS : SbF ad cB F (q + 1) cap n ml f) (htx : ∀ j, j < n → tx j < 128 ∧ f j = nI (tx j)) : Ci l D cI cB cS ad N yX3_length cX3_length 1 (some .int) 2 40 [.ref (ad q)] F (pP (nI n) F) := by
  refine x_met (by decide +kernel) (Nat.le_of_ble_eq_true rfl) ?_
  intro p e s m below meth c X hr hlk hK hw ls hl
  replace hl : lv_has ls 1 [(0, .ref (ad q))] := hl
  refine lv_aload_n X.1 X.2.1 dX3_length_0 rfl (lv_at hl 0 rfl) ?_
  refine x_get X hK hw (C := RX3) (T := TX3) (nf := 1) (k := q) (by omega) hL rfl inX3 0 (by decide) q214 (fun _ h9 => h9) rfl dX3_length_1 ?_
  refine x_callVP X hK hw (k := (q + 1)) (As := []) (rest := []) (k_J4_length_8abf5 hI ((q + 1)) cap n ml f (by omega) (by omega) (by omega) hS) (x_cwV yJ4_length_8abf5 cJ4_length_8abf5 1 (some .int) 0 X q484 q485 q486 q11 q487 hd_J4_length_8abf5 ⟨Nat.le_of_ble_eq_true rfl, Nat.le_of_ble_eq_true rfl⟩) (by omega) hS.1 rfl rfl hl.1 rfl (Nat.le_of_ble_eq_true rfl) dX3_length_4 ⟨Nat.le_of_ble_eq_true rfl, Nat.le_of_ble_eq_true rfl⟩ (fun H locs hw => ?_)
  exact x_iret X hr hlk hK hw (v := nI n) rfl (⟨rfl, rfl⟩) dX3_length_7
