theorem bIb_z {b : Bool} (h : bI b = 0) : b = false := by
  cases b with
  | false => rfl
  | true => exact absurd h (by decide)
theorem bIb_nz {b : Bool} (h : ¬ bI b = 0) : b = true := by
  cases b with
  | false => exact absurd rfl h
  | true => rfl
theorem hd_X8_readText : yX8_readText.cls = RX8 ∧ yX8_readText.cls ≠ "java/lang/invoke/MethodHandle" ∧ yX8_readText.cls ≠ "java/lang/invoke/VarHandle" ∧ (parseMethodDescriptor yX8_readText.desc).map (fun d => d.parameters.length) = some 1 := by decide +kernel
set_option maxHeartbeats 4000000 in
set_option maxRecDepth 100000 in
theorem k_X8_fault {l : Launch} {D : va_G} {cI cB cS : ClassId} {ad : Nat → Nat} {N : Nat} {F : Nat → va_E} (hI : iN ad N) (o : Nat) (a : Nat → Int32) (h : Nat → Int32) (sn : Nat → Int32) (tx : Nat → Int32) (k : Nat → Int32) (len : Nat) (tn : Nat → Nat) (hc5 : o + 5 ≤ N) (hF : MoF ad cI F o a h sn tx k) (hlen : k 2 = nI len) (hl80 : len ≤ 80) (htn : ∀ j, j < len → tx j = nI (tn j) ∧ tn j < 128) : Ci l D cI cB cS ad N yX8_fault cX8_fault 1 (some .int) 5 108 [.ref (ad o)] F (fun r F' => r = (if (pt tn len (len + 1) 0 0).1 = true then (-5) else nI (pt tn len (len + 1) 0 0).2.1) ∧ (∃ k', MoF ad cI F' o a h sn tx k' ∧ k' 0 = k 0 ∧ k' 1 = k 1 ∧ k' 2 = nI len) ∧ Fr F F' o (o + 5)) := by
  refine x_met (by decide +kernel) (Nat.le_of_ble_eq_true rfl) ?_
  intro p e s m below meth c X hr hlk hK hw ls hl
  replace hl : lv_has ls 1 [(0, .ref (ad o))] := hl
  have hfr : Fr F F (o) (o + 5) := Fr.rf
  refine lv_aload_n X.1 X.2.1 dX8_fault_0 rfl (lv_at hl 0 rfl) ?_
  refine lv_iconst (v := nI 0) X.1 X.2.1 dX8_fault_1 (by decide) ?_
  refine x_callV X hK hw (k := o) (As := [.int (nI 0)]) (rest := []) (k_X8_readText_f hI o a h sn tx k len tn (by omega) hF hlen (by omega) htn) (x_cwV yX8_readText cX8_readText 3 (some .boolean) 1 X q1088 q1090 qs44 q14 q1091 hd_X8_readText ⟨Nat.le_of_ble_eq_true rfl, Nat.le_of_ble_eq_true rfl⟩) (by omega) hF.1 rfl rfl hl.1 rfl (Nat.le_of_ble_eq_true rfl) dX8_fault_2 ⟨Nat.le_of_ble_eq_true rfl, Nat.le_of_ble_eq_true rfl⟩ (fun r1 F1 H locs hpp hw => ?_)
  obtain ⟨er, ⟨k1, hF2, e0, e1, e2, e3⟩, hr3⟩ := hpp
  refine x_top er ?_
  replace hfr := hfr.tr hr3 (by omega) (by omega)
  refine lv_if_eq (tgt := 13) X.1 X.2.1 dX8_fault_5 (by decide) (fun c4 => ?_) (fun c4 => ?_)
  · replace c4 := bIb_z c4
    refine lv_aload_n X.1 X.2.1 dX8_fault_13 rfl (lv_at hl 0 rfl) ?_
    refine x_get X hK hw (C := RX8) (T := TX8) (nf := 12) (k := o) (by omega) hF2.1 rfl inX8 7 (by decide) q875 (fun _ h9 => h9) rfl dX8_fault_14 ?_
    refine x_top (y := nI ((pt tn len (len + 1) 0 0).2.1)) e3 ?_
    exact x_iret X hr hlk hK hw (v := nI ((pt tn len (len + 1) 0 0).2.1)) rfl (⟨by rw [if_neg (by rw [c4]; decide)], ⟨_, hF2, e0, e1, e2⟩, hfr⟩) dX8_fault_17
  · replace c4 := bIb_nz c4
    refine lv_bipush (v := (-5)) X.1 X.2.1 dX8_fault_8 (by decide) ?_
    refine lv_goto (tgt := 17) X.1 X.2.1 dX8_fault_10 (by decide) ?_
    exact x_iret X hr hlk hK hw (v := (-5)) rfl (⟨by rw [if_pos c4], ⟨_, hF2, e0, e1, e2⟩, hfr⟩) dX8_fault_17
