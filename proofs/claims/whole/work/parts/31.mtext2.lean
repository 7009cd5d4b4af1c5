def rsl (tn : Nat → Nat) (len : Nat) : Nat → Nat → Nat → Nat × Nat
  | 0, i, v => (i, v)
  | f + 1, i, v => if isn tn len i 48 57 then (if nI 100 ≤ nI v then (i, v) else rsl tn len f (i + 1) (10 * v + tn i - 48)) else (i, v)
def rsc (tn : Nat → Nat) (len pl : Nat) : Option Nat := if isn tn len pl 49 57 then some (rsl tn len (len - pl) pl 0).2 else none
def rsp (tn : Nat → Nat) (len pl : Nat) : Nat := if isn tn len pl 49 57 then (rsl tn len (len - pl) pl 0).1 else pl
theorem MoF.k3 {ad : Nat → Nat} {cI : ClassId} {F : Nat → va_E} {o : Nat} {a h sn tx k : Nat → Int32} {x y : Int32} (hm : MoF ad cI F o a h sn tx (va_up (va_up k 3 x) 3 y)) : MoF ad cI F o a h sn tx (va_up k 3 y) := hm
theorem MoF.k3s {ad : Nat → Nat} {cI : ClassId} {F : Nat → va_E} {o : Nat} {a h sn tx k : Nat → Int32} {x : Int32} (hm : MoF ad cI F o a h sn tx k) (hx : k 3 = x) : MoF ad cI F o a h sn tx (va_up k 3 x) := by
  subst hx; exact hm
set_option maxHeartbeats 4000000 in
set_option maxRecDepth 100000 in
theorem k_X8_readSeconds {l : Launch} {D : va_G} {cI cB cS : ClassId} {ad : Nat → Nat} {N : Nat} {F : Nat → va_E} (hI : iN ad N) (o : Nat) (a : Nat → Int32) (h : Nat → Int32) (sn : Nat → Int32) (tx : Nat → Int32) (k : Nat → Int32) (len : Nat) (pl : Nat) (tn : Nat → Nat) (hc5 : o + 5 ≤ N) (hF : MoF ad cI F o a h sn tx k) (hlen : k 2 = nI len) (hl80 : len ≤ 80) (hpl : k 3 = nI pl) (hp81 : pl ≤ 81) (htn : ∀ j, j < len → tx j = nI (tn j) ∧ tn j < 128) : Ci l D cI cB cS ad N yX8_readSeconds cX8_readSeconds 2 (some .int) 2 44 [.ref (ad o)] F (fun r F' => r = oI (rsc tn len pl) ∧ MoF ad cI F' o a h sn tx (va_up k 3 (nI (rsp tn len pl))) ∧ Fr F F' o (o + 5)) := by
  refine x_met (by decide +kernel) (Nat.le_of_ble_eq_true rfl) ?_
  intro p e s m below meth c X hr hlk hK hw ls hl
  replace hl : lv_has ls 2 [(0, .ref (ad o))] := hl
  have hfr : Fr F F (o) (o + 5) := Fr.rf
  refine lv_aload_n X.1 X.2.1 dX8_readSeconds_0 rfl (lv_at hl 0 rfl) ?_
  refine lv_bipush (v := nI 49) X.1 X.2.1 dX8_readSeconds_1 (by decide) ?_
  refine lv_bipush (v := nI 57) X.1 X.2.1 dX8_readSeconds_3 (by decide) ?_
  refine x_callVP X hK hw (k := o) (As := [.int (nI 49), .int (nI 57)]) (rest := []) (k_X8_isNext hI o a h sn tx k 49 57 len pl tn (by omega) hF hlen (by omega) hpl (by omega) htn (by omega) (by omega)) (x_cwV yX8_isNext cX8_isNext 3 (some .boolean) 2 X q1100 q1102 qs47 q14 q1103 hd_X8_isNext ⟨Nat.le_of_ble_eq_true rfl, Nat.le_of_ble_eq_true rfl⟩) (by omega) hF.1 rfl rfl hl.1 rfl (Nat.le_of_ble_eq_true rfl) dX8_readSeconds_5 ⟨Nat.le_of_ble_eq_true rfl, Nat.le_of_ble_eq_true rfl⟩ (fun H locs hw => ?_)
  refine lv_if_ne (tgt := 14) X.1 X.2.1 dX8_readSeconds_8 (by decide) (fun c1 => ?_) (fun c1 => ?_)
  · replace c1 := bI_nz c1
    have hpl2 := c1.1
    refine lv_iconst (v := nI 0) X.1 X.2.1 dX8_readSeconds_14 (by decide) ?_
    refine lv_istore_n (lv' := [(1, .int (nI 0)), (0, .ref (ad o))]) X.1 X.2.1 dX8_readSeconds_15 rfl hl (by decide) rfl (fun ls hl => ?_)
    have loop : ∀ (fu : Nat) (i : Nat) (F1 : Nat → va_E) (v : Nat) (hfu : i + fu = len) (he : rsl tn len fu i v = rsl tn len (len - pl) pl 0) (hF : MoF ad cI F1 o a h sn tx (va_up k 3 (nI i))) (hfr : Fr F F1 o (o + 5)) (H : Heap) (locs : List Loc) (hw : HW D (Af ad N s.heap.size) ad N F1 s H locs) (ls : Array Slot) (hl : lv_has ls 2 [(1, .int (nI v)), (0, .ref (ad o))]), W p l e { frames := 2, cells := 0, slots := 0, locals := 44 } s m [.ref (ad o)].toArray below meth c H locs 0 0 (MQ below (va_Qi (fun r F' => r = oI (rsc tn len pl) ∧ MoF ad cI F' o a h sn tx (va_up k 3 (nI (rsp tn len pl))) ∧ Fr F F' o (o + 5)) (fun F' t => PO D ad N F' t) (Af ad N s.heap.size)) [.ref (ad o)].toArray s 0 0 (Af ad N s.heap.size)) (F0 m 16 ls []) := by
      intro fu
      induction fu with
      | zero =>
        intro i F1 v hfu he hF hfr H locs hw ls hl
        refine lv_aload_n X.1 X.2.1 dX8_readSeconds_16 rfl (lv_at hl 1 rfl) ?_
        refine lv_bipush (v := nI 48) X.1 X.2.1 dX8_readSeconds_17 (by decide) ?_
        refine lv_bipush (v := nI 57) X.1 X.2.1 dX8_readSeconds_19 (by decide) ?_
        refine x_callVP X hK hw (k := o) (As := [.int (nI 48), .int (nI 57)]) (rest := []) (k_X8_isNext hI o a h sn tx ((va_up k 3 (nI i))) 48 57 len i tn (by omega) hF hlen (by omega) rfl (by omega) htn (by omega) (by omega)) (x_cwV yX8_isNext cX8_isNext 3 (some .boolean) 2 X q1100 q1102 qs47 q14 q1103 hd_X8_isNext ⟨Nat.le_of_ble_eq_true rfl, Nat.le_of_ble_eq_true rfl⟩) (by omega) hF.1 rfl rfl hl.1 rfl (Nat.le_of_ble_eq_true rfl) dX8_readSeconds_21 ⟨Nat.le_of_ble_eq_true rfl, Nat.le_of_ble_eq_true rfl⟩ (fun H locs hw => ?_)
        refine lv_if_eq (tgt := 64) X.1 X.2.1 dX8_readSeconds_24 (by decide) (fun c2 => ?_) (fun c2 => ?_)
        · replace c2 := bI_z c2
          refine lv_iload_n X.1 X.2.1 dX8_readSeconds_64 rfl (lv_at hl 0 rfl) ?_
          exact x_iret X hr hlk hK hw (v := nI v) rfl (⟨by rw [rsc, if_pos c1]; first | (rw [← he]; rfl) | (rw [← he, rsl, if_neg c2]; rfl), by rw [rsp, if_pos c1]; first | (rw [← he]; exact hF) | (rw [← he, rsl, if_neg c2]; exact hF), hfr⟩) dX8_readSeconds_65
        · exact absurd (bI_nz c2).1 (by omega)
      | succ fu ih =>
        intro i F1 v hfu he hF hfr H locs hw ls hl
        refine lv_aload_n X.1 X.2.1 dX8_readSeconds_16 rfl (lv_at hl 1 rfl) ?_
        refine lv_bipush (v := nI 48) X.1 X.2.1 dX8_readSeconds_17 (by decide) ?_
        refine lv_bipush (v := nI 57) X.1 X.2.1 dX8_readSeconds_19 (by decide) ?_
        refine x_callVP X hK hw (k := o) (As := [.int (nI 48), .int (nI 57)]) (rest := []) (k_X8_isNext hI o a h sn tx ((va_up k 3 (nI i))) 48 57 len i tn (by omega) hF hlen (by omega) rfl (by omega) htn (by omega) (by omega)) (x_cwV yX8_isNext cX8_isNext 3 (some .boolean) 2 X q1100 q1102 qs47 q14 q1103 hd_X8_isNext ⟨Nat.le_of_ble_eq_true rfl, Nat.le_of_ble_eq_true rfl⟩) (by omega) hF.1 rfl rfl hl.1 rfl (Nat.le_of_ble_eq_true rfl) dX8_readSeconds_21 ⟨Nat.le_of_ble_eq_true rfl, Nat.le_of_ble_eq_true rfl⟩ (fun H locs hw => ?_)
        refine lv_if_eq (tgt := 64) X.1 X.2.1 dX8_readSeconds_24 (by decide) (fun c3 => ?_) (fun c3 => ?_)
        · replace c3 := bI_z c3
          refine lv_iload_n X.1 X.2.1 dX8_readSeconds_64 rfl (lv_at hl 0 rfl) ?_
          exact x_iret X hr hlk hK hw (v := nI v) rfl (⟨by rw [rsc, if_pos c1]; first | (rw [← he]; rfl) | (rw [← he, rsl, if_neg c3]; rfl), by rw [rsp, if_pos c1]; first | (rw [← he]; exact hF) | (rw [← he, rsl, if_neg c3]; exact hF), hfr⟩) dX8_readSeconds_65
        · replace c3 := bI_nz c3
          refine lv_iload_n X.1 X.2.1 dX8_readSeconds_27 rfl (lv_at hl 0 rfl) ?_
          refine lv_bipush (v := nI 100) X.1 X.2.1 dX8_readSeconds_28 (by decide) ?_
          refine lv_icmp_ge (tgt := 64) X.1 X.2.1 dX8_readSeconds_30 (by decide) (fun c4 => ?_) (fun c4 => ?_)
          · refine lv_iload_n X.1 X.2.1 dX8_readSeconds_64 rfl (lv_at hl 0 rfl) ?_
            exact x_iret X hr hlk hK hw (v := nI v) rfl (⟨by rw [rsc, if_pos c1]; first | (rw [← he]; rfl) | (rw [← he, rsl, if_pos c3, if_pos c4]; rfl), by rw [rsp, if_pos c1]; first | (rw [← he]; exact hF) | (rw [← he, rsl, if_pos c3, if_pos c4]; exact hF), hfr⟩) dX8_readSeconds_65
          · refine lv_bipush (v := nI 10) X.1 X.2.1 dX8_readSeconds_33 (by decide) ?_
            refine lv_iload_n X.1 X.2.1 dX8_readSeconds_35 rfl (lv_at hl 0 rfl) ?_
            refine lv_imul X.1 X.2.1 dX8_readSeconds_36 ?_
            refine x_top (pk_mul _ _) ?_
            refine lv_aload_n X.1 X.2.1 dX8_readSeconds_37 rfl (lv_at hl 1 rfl) ?_
            refine x_get X hK hw (C := RX8) (T := TX8) (nf := 12) (k := o) (by omega) hF.1 rfl inX8 5 (by decide) q873 (fun _ h9 => h9) rfl dX8_readSeconds_38 ?_
            refine lv_aload_n X.1 X.2.1 dX8_readSeconds_41 rfl (lv_at hl 1 rfl) ?_
            refine x_get X hK hw (C := RX8) (T := TX8) (nf := 12) (k := o) (by omega) hF.1 rfl inX8 7 (by decide) q875 (fun _ h9 => h9) rfl dX8_readSeconds_42 ?_
            refine x_top (y := nI i) rfl ?_
            refine x_ialdN X hK hw (k := (o + 4)) (by omega) hF.2.2.2.2 (i := nI i) (j := i) rfl (by omega) (by omega) dX8_readSeconds_45 ?_
            refine x_top (y := nI (tn i)) (htn _ (by omega)).1 ?_
            refine lv_iadd X.1 X.2.1 dX8_readSeconds_46 ?_
            refine x_top (nI_add _ _) ?_
            refine lv_bipush (v := nI 48) X.1 X.2.1 dX8_readSeconds_47 (by decide) ?_
            refine lv_isub X.1 X.2.1 dX8_readSeconds_49 ?_
            refine x_top (pk_sub (by omega)) ?_
            refine lv_istore_n (lv' := [(1, .int (nI (((10 * v) + (tn i)) - 48))), (0, .ref (ad o))]) X.1 X.2.1 dX8_readSeconds_50 rfl hl (by decide) rfl (fun ls hl => ?_)
            refine lv_aload_n X.1 X.2.1 dX8_readSeconds_51 rfl (lv_at hl 1 rfl) ?_
            refine lv_dup X.1 X.2.1 dX8_readSeconds_52 rfl ?_
            refine x_get X hK hw (C := RX8) (T := TX8) (nf := 12) (k := o) (by omega) hF.1 rfl inX8 7 (by decide) q875 (fun _ h9 => h9) rfl dX8_readSeconds_53 ?_
            refine x_top (y := nI i) rfl ?_
            refine lv_iconst (v := nI 1) X.1 X.2.1 dX8_readSeconds_56 (by decide) ?_
            refine lv_iadd X.1 X.2.1 dX8_readSeconds_57 ?_
            refine x_top (nI_add _ _) ?_
            refine x_put2 X hI hK hw (C := RX8) (T := TX8) (nf := 12) (k := o) (ty := .int) (v := .int (nI (i + 1))) (by omega) hF.1 rfl inX8 tyX8 tyX8_ok nmX8 7 (by decide) q875 (fun _ h9 => h9) rfl (by decide +kernel) rfl rfl (Nat.le_of_ble_eq_true rfl) dX8_readSeconds_58 (fun F5 H locs eF6 hw => ?_)
            have hF7 : MoF ad cI F5 o a h sn tx (va_up ((va_up k 3 (nI i))) 3 (nI (i + 1))) := by rw [eF6]; exact MoF.pt hF 3 (nI (i + 1)) _ rfl
            have hr8 := fr_eq eF6 (Nat.le_refl _) (Nat.lt_succ_self _)
            replace hfr := hfr.tr hr8 (by omega) (by omega)
            refine lv_goto (tgt := 16) X.1 X.2.1 dX8_readSeconds_61 (by decide) ?_
            exact ih (i + 1) F5 (((10 * v) + (tn i)) - 48) (by omega) (by rw [← he, rsl, if_pos c3, if_neg c4]) (MoF.k3 hF7) hfr _ _ hw _ (lv_sub hl [0, 1] rfl)
    exact loop (len - pl) pl F 0 (by omega) rfl (MoF.k3s hF hpl) hfr _ _ hw _ (lv_sub hl [0, 1] rfl)
  · replace c1 := bI_z c1
    refine lv_bipush (v := (-5)) X.1 X.2.1 dX8_readSeconds_11 (by decide) ?_
    exact x_iret X hr hlk hK hw (v := (-5)) rfl (⟨by rw [rsc, if_neg c1]; rfl, by rw [rsp, if_neg c1]; exact MoF.k3s hF hpl, hfr⟩) dX8_readSeconds_13
