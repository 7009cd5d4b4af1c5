abbrev isn (tn : Nat → Nat) (len pl lo hi : Nat) : Prop := pl < len ∧ lo ≤ tn pl ∧ tn pl ≤ hi
theorem isn_of {tn : Nat → Nat} {len pl lo hi : Nat} (h1 : pl < len) (ht : tn pl < 128) (hl : lo < 2 ^ 31) (hh : hi < 2 ^ 31) (h : ¬ nI (tn pl) < nI lo ∧ ¬ nI hi < nI (tn pl)) : isn tn len pl lo hi := by
  refine ⟨h1, ?_, ?_⟩
  · have := Int32.not_lt.mp h.1; rw [nI_leI hl (by omega)] at this; exact this
  · have := Int32.not_lt.mp h.2; rw [nI_leI (by omega) hh] at this; exact this
theorem isn_no {tn : Nat → Nat} {len pl lo hi : Nat} (ht : pl < len → tn pl < 128) (hl : lo < 2 ^ 31) (hh : hi < 2 ^ 31) (h : ¬ (¬ nI (tn pl) < nI lo ∧ ¬ nI hi < nI (tn pl))) : ¬ isn tn len pl lo hi := fun ⟨h1, h2, h3⟩ => h ⟨nI_nlt h2 (by have := ht h1; omega), nI_nlt h3 hh⟩
set_option maxHeartbeats 4000000 in
set_option maxRecDepth 100000 in
theorem k_X8_isNext {l : Launch} {D : va_G} {cI cB cS : ClassId} {ad : Nat → Nat} {N : Nat} {F : Nat → va_E} (hI : iN ad N) (o : Nat) (a : Nat → Int32) (h : Nat → Int32) (sn : Nat → Int32) (tx : Nat → Int32) (k : Nat → Int32) (lo : Nat) (hi : Nat) (len : Nat) (pl : Nat) (tn : Nat → Nat) (hc5 : o + 5 ≤ N) (hF : MoF ad cI F o a h sn tx k) (hlen : k 2 = nI len) (hl80 : len ≤ 80) (hpl : k 3 = nI pl) (hp81 : pl ≤ 81) (htn : ∀ j, j < len → tx j = nI (tn j) ∧ tn j < 128) (hlo : lo < 2 ^ 31) (hhi : hi < 2 ^ 31) : Ci l D cI cB cS ad N yX8_isNext cX8_isNext 3 (some .boolean) 1 22 [.ref (ad o), .int (nI lo), .int (nI hi)] F (pP (bI (decide (isn tn len pl lo hi))) F) := by
  refine x_met (by decide +kernel) (Nat.le_of_ble_eq_true rfl) ?_
  intro p e s m below meth c X hr hlk hK hw ls hl
  replace hl : lv_has ls 3 [(0, .ref (ad o)), (1, .int (nI lo)), (2, .int (nI hi))] := hl
  refine lv_aload_n X.1 X.2.1 dX8_isNext_0 rfl (lv_at hl 0 rfl) ?_
  refine x_get X hK hw (C := RX8) (T := TX8) (nf := 12) (k := o) (by omega) hF.1 rfl inX8 7 (by decide) q875 (fun _ h9 => h9) rfl dX8_isNext_1 ?_
  refine x_top (y := nI pl) hpl ?_
  refine lv_aload_n X.1 X.2.1 dX8_isNext_4 rfl (lv_at hl 0 rfl) ?_
  refine x_get X hK hw (C := RX8) (T := TX8) (nf := 12) (k := o) (by omega) hF.1 rfl inX8 6 (by decide) q874 (fun _ h9 => h9) rfl dX8_isNext_5 ?_
  refine x_top (y := nI len) hlen ?_
  refine lv_icmp_ge (tgt := 32) X.1 X.2.1 dX8_isNext_8 (by decide) (fun c1 => ?_) (fun c1 => ?_)
  · have hj : ¬ pl < len := fun q => nI_ge (a := pl) (b := len) q (by omega) c1
    refine lv_iconst (v := nI 0) X.1 X.2.1 dX8_isNext_32 (by decide) ?_
    exact x_iret X hr hlk hK hw (v := nI 0) (by first | rfl | exact nr_b _ | decide) (⟨by simp only [bI]; rw [if_neg]; simp; intro q; exact absurd q hj, rfl⟩) dX8_isNext_33
  · have hj : pl < len := Classical.byContradiction fun q => c1 (nI_le (by omega) (by omega))
    refine lv_aload_n X.1 X.2.1 dX8_isNext_11 rfl (lv_at hl 0 rfl) ?_
    refine x_get X hK hw (C := RX8) (T := TX8) (nf := 12) (k := o) (by omega) hF.1 rfl inX8 5 (by decide) q873 (fun _ h9 => h9) rfl dX8_isNext_12 ?_
    refine lv_aload_n X.1 X.2.1 dX8_isNext_15 rfl (lv_at hl 0 rfl) ?_
    refine x_get X hK hw (C := RX8) (T := TX8) (nf := 12) (k := o) (by omega) hF.1 rfl inX8 7 (by decide) q875 (fun _ h9 => h9) rfl dX8_isNext_16 ?_
    refine x_top (y := nI pl) hpl ?_
    refine x_ialdN X hK hw (k := (o + 4)) (by omega) hF.2.2.2.2 (i := nI pl) (j := pl) rfl (by omega) (by omega) dX8_isNext_19 ?_
    refine x_top (y := nI (tn pl)) (htn _ hj).1 ?_
    refine lv_iload_n X.1 X.2.1 dX8_isNext_20 rfl (lv_at hl 1 rfl) ?_
    refine lv_iload_n X.1 X.2.1 dX8_isNext_21 rfl (lv_at hl 2 rfl) ?_
    refine x_callSP X hK hw (As := [.int (nI (tn pl)), .int (nI lo), .int (nI hi)]) (rest := []) (k_X8_in hI (nI (tn pl)) (nI lo) (nI hi)) (x_cwS yX8_in cX8_in 3 (some .boolean) 3 X q909 q910 q14 q911 hd_X8_in ⟨Nat.le_of_ble_eq_true rfl, Nat.le_of_ble_eq_true rfl⟩) rfl hl.1 rfl (Nat.le_of_ble_eq_true rfl) dX8_isNext_22 ⟨Nat.le_of_ble_eq_true rfl, Nat.le_of_ble_eq_true rfl⟩ (fun H locs hw => ?_)
    refine lv_if_eq (tgt := 32) X.1 X.2.1 dX8_isNext_25 (by decide) (fun c2 => ?_) (fun c2 => ?_)
    · replace c2 := bI_z c2
      refine lv_iconst (v := nI 0) X.1 X.2.1 dX8_isNext_32 (by decide) ?_
      exact x_iret X hr hlk hK hw (v := nI 0) (by first | rfl | exact nr_b _ | decide) (⟨by simp only [bI]; rw [if_neg (by rw [decide_eq_true_eq]; exact isn_no (fun _ => (htn _ hj).2) (by omega) (by omega) c2)], rfl⟩) dX8_isNext_33
    · replace c2 := bI_nz c2
      refine lv_iconst (v := nI 1) X.1 X.2.1 dX8_isNext_28 (by decide) ?_
      refine lv_goto (tgt := 33) X.1 X.2.1 dX8_isNext_29 (by decide) ?_
      exact x_iret X hr hlk hK hw (v := nI 1) (by first | rfl | exact nr_b _ | decide) (⟨by simp only [bI]; rw [if_pos (decide_eq_true (isn_of hj (htn _ hj).2 (by omega) (by omega) c2))], rfl⟩) dX8_isNext_33
def pl1 (P : Prop) (_ : Decidable P) (pl : Nat) : Nat := if P then pl + 1 else pl
theorem hd_X8_isNext : yX8_isNext.cls = RX8 ∧ yX8_isNext.cls ≠ "java/lang/invoke/MethodHandle" ∧ yX8_isNext.cls ≠ "java/lang/invoke/VarHandle" ∧ (parseMethodDescriptor yX8_isNext.desc).map (fun d => d.parameters.length) = some 2 := by decide +kernel
set_option maxHeartbeats 4000000 in
set_option maxRecDepth 100000 in
theorem k_X8_takes {l : Launch} {D : va_G} {cI cB cS : ClassId} {ad : Nat → Nat} {N : Nat} {F : Nat → va_E} (hI : iN ad N) (o : Nat) (a : Nat → Int32) (h : Nat → Int32) (sn : Nat → Int32) (tx : Nat → Int32) (k : Nat → Int32) (u : Nat) (len : Nat) (pl : Nat) (tn : Nat → Nat) (hc5 : o + 5 ≤ N) (hF : MoF ad cI F o a h sn tx k) (hlen : k 2 = nI len) (hl80 : len ≤ 80) (hpl : k 3 = nI pl) (hp81 : pl ≤ 81) (htn : ∀ j, j < len → tx j = nI (tn j) ∧ tn j < 128) (hu : u < 2 ^ 31) : Ci l D cI cB cS ad N yX8_takes cX8_takes 3 (some .boolean) 2 44 [.ref (ad o), .int (nI u)] F (fun r F' => r = bI (decide (isn tn len pl u u)) ∧ MoF ad cI F' o a h sn tx (va_up k 3 (nI (if isn tn len pl u u then pl + 1 else pl))) ∧ Fr F F' o (o + 5)) := by
  refine x_met (by decide +kernel) (Nat.le_of_ble_eq_true rfl) ?_
  intro p e s m below meth c X hr hlk hK hw ls hl
  replace hl : lv_has ls 3 [(0, .ref (ad o)), (1, .int (nI u))] := hl
  have hfr : Fr F F (o) (o + 5) := Fr.rf
  refine lv_aload_n X.1 X.2.1 dX8_takes_0 rfl (lv_at hl 0 rfl) ?_
  refine lv_iload_n X.1 X.2.1 dX8_takes_1 rfl (lv_at hl 1 rfl) ?_
  refine lv_iload_n X.1 X.2.1 dX8_takes_2 rfl (lv_at hl 1 rfl) ?_
  refine x_callVP X hK hw (k := o) (As := [.int (nI u), .int (nI u)]) (rest := []) (k_X8_isNext hI o a h sn tx k u u len pl tn (by omega) hF hlen (by omega) hpl (by omega) htn (by omega) (by omega)) (x_cwV yX8_isNext cX8_isNext 3 (some .boolean) 2 X q1100 q1102 qs47 q14 q1103 hd_X8_isNext ⟨Nat.le_of_ble_eq_true rfl, Nat.le_of_ble_eq_true rfl⟩) (by omega) hF.1 rfl rfl hl.1 rfl (Nat.le_of_ble_eq_true rfl) dX8_takes_3 ⟨Nat.le_of_ble_eq_true rfl, Nat.le_of_ble_eq_true rfl⟩ (fun H locs hw => ?_)
  refine lv_istore_n (lv' := [(2, .int (bI (decide (isn tn len pl u u)))), (0, .ref (ad o)), (1, .int (nI u))]) X.1 X.2.1 dX8_takes_6 rfl hl (by decide) rfl (fun ls hl => ?_)
  refine lv_aload_n X.1 X.2.1 dX8_takes_7 rfl (lv_at hl 1 rfl) ?_
  refine lv_dup X.1 X.2.1 dX8_takes_8 rfl ?_
  refine x_get X hK hw (C := RX8) (T := TX8) (nf := 12) (k := o) (by omega) hF.1 rfl inX8 7 (by decide) q875 (fun _ h9 => h9) rfl dX8_takes_9 ?_
  refine x_top (y := nI pl) hpl ?_
  refine lv_iload_n X.1 X.2.1 dX8_takes_12 rfl (lv_at hl 0 rfl) ?_
  refine lv_if_eq (tgt := 20) X.1 X.2.1 dX8_takes_13 (by decide) (fun c1 => ?_) (fun c1 => ?_)
  · replace c1 := bI_z c1
    refine lv_iconst (v := nI 0) X.1 X.2.1 dX8_takes_20 (by decide) ?_
    refine lv_iadd X.1 X.2.1 dX8_takes_21 ?_
    refine x_top (nI_add _ _) ?_
    refine x_put2 X hI hK hw (C := RX8) (T := TX8) (nf := 12) (k := o) (ty := .int) (v := .int (nI (pl + 0))) (by omega) hF.1 rfl inX8 tyX8 tyX8_ok nmX8 7 (by decide) q875 (fun _ h9 => h9) rfl (by decide +kernel) rfl rfl (Nat.le_of_ble_eq_true rfl) dX8_takes_22 (fun F2 H locs eF3 hw => ?_)
    have hF4 : MoF ad cI F2 o a h sn tx (va_up k 3 (nI (pl + 0))) := by rw [eF3]; exact MoF.pt hF 3 (nI (pl + 0)) _ rfl
    have hr5 := fr_eq eF3 (Nat.le_refl _) (Nat.lt_succ_self _)
    replace hfr := hfr.tr hr5 (by omega) (by omega)
    refine lv_iload_n X.1 X.2.1 dX8_takes_25 rfl (lv_at hl 0 rfl) ?_
    exact x_iret X hr hlk hK hw (v := bI (decide (isn tn len pl u u))) (nr_b _) (⟨rfl, by rw [if_neg c1]; exact hF4, hfr⟩) dX8_takes_26
  · replace c1 := bI_nz c1
    refine lv_iconst (v := nI 1) X.1 X.2.1 dX8_takes_16 (by decide) ?_
    refine lv_goto (tgt := 21) X.1 X.2.1 dX8_takes_17 (by decide) ?_
    refine lv_iadd X.1 X.2.1 dX8_takes_21 ?_
    refine x_top (nI_add _ _) ?_
    refine x_put2 X hI hK hw (C := RX8) (T := TX8) (nf := 12) (k := o) (ty := .int) (v := .int (nI (pl + 1))) (by omega) hF.1 rfl inX8 tyX8 tyX8_ok nmX8 7 (by decide) q875 (fun _ h9 => h9) rfl (by decide +kernel) rfl rfl (Nat.le_of_ble_eq_true rfl) dX8_takes_22 (fun F6 H locs eF7 hw => ?_)
    have hF8 : MoF ad cI F6 o a h sn tx (va_up k 3 (nI (pl + 1))) := by rw [eF7]; exact MoF.pt hF 3 (nI (pl + 1)) _ rfl
    have hr9 := fr_eq eF7 (Nat.le_refl _) (Nat.lt_succ_self _)
    replace hfr := hfr.tr hr9 (by omega) (by omega)
    refine lv_iload_n X.1 X.2.1 dX8_takes_25 rfl (lv_at hl 0 rfl) ?_
    exact x_iret X hr hlk hK hw (v := bI (decide (isn tn len pl u u))) (nr_b _) (⟨rfl, by rw [if_pos c1]; exact hF8, hfr⟩) dX8_takes_26
def rd (tn : Nat → Nat) (len pl mo : Nat) : Option Nat := if isn tn len pl 48 (48 + mo) then some (tn pl - 48) else none
theorem oI_ne5 {j : Nat} (h : j < 2 ^ 31) : ¬ oI (some j) = (-5) := nI_ne5 h
set_option maxHeartbeats 4000000 in
set_option maxRecDepth 100000 in
theorem k_X8_readDigit {l : Launch} {D : va_G} {cI cB cS : ClassId} {ad : Nat → Nat} {N : Nat} {F : Nat → va_E} (hI : iN ad N) (o : Nat) (a : Nat → Int32) (h : Nat → Int32) (sn : Nat → Int32) (tx : Nat → Int32) (k : Nat → Int32) (mo : Nat) (len : Nat) (pl : Nat) (tn : Nat → Nat) (hc5 : o + 5 ≤ N) (hF : MoF ad cI F o a h sn tx k) (hlen : k 2 = nI len) (hl80 : len ≤ 80) (hpl : k 3 = nI pl) (hp81 : pl ≤ 81) (htn : ∀ j, j < len → tx j = nI (tn j) ∧ tn j < 128) (hmo : mo < 2 ^ 30) : Ci l D cI cB cS ad N yX8_readDigit cX8_readDigit 3 (some .int) 2 44 [.ref (ad o), .int (nI mo)] F (fun r F' => r = oI (rd tn len pl mo) ∧ MoF ad cI F' o a h sn tx (va_up k 3 (nI (if isn tn len pl 48 (48 + mo) then pl + 1 else pl))) ∧ Fr F F' o (o + 5)) := by
  refine x_met (by decide +kernel) (Nat.le_of_ble_eq_true rfl) ?_
  intro p e s m below meth c X hr hlk hK hw ls hl
  replace hl : lv_has ls 3 [(0, .ref (ad o)), (1, .int (nI mo))] := hl
  have hfr : Fr F F (o) (o + 5) := Fr.rf
  refine lv_aload_n X.1 X.2.1 dX8_readDigit_0 rfl (lv_at hl 0 rfl) ?_
  refine lv_bipush (v := nI 48) X.1 X.2.1 dX8_readDigit_1 (by decide) ?_
  refine lv_bipush (v := nI 48) X.1 X.2.1 dX8_readDigit_3 (by decide) ?_
  refine lv_iload_n X.1 X.2.1 dX8_readDigit_5 rfl (lv_at hl 1 rfl) ?_
  refine lv_iadd X.1 X.2.1 dX8_readDigit_6 ?_
  refine x_top (nI_add _ _) ?_
  refine x_callVP X hK hw (k := o) (As := [.int (nI 48), .int (nI (48 + mo))]) (rest := []) (k_X8_isNext hI o a h sn tx k 48 (48 + mo) len pl tn (by omega) hF hlen (by omega) hpl (by omega) htn (by omega) (by omega)) (x_cwV yX8_isNext cX8_isNext 3 (some .boolean) 2 X q1100 q1102 qs47 q14 q1103 hd_X8_isNext ⟨Nat.le_of_ble_eq_true rfl, Nat.le_of_ble_eq_true rfl⟩) (by omega) hF.1 rfl rfl hl.1 rfl (Nat.le_of_ble_eq_true rfl) dX8_readDigit_7 ⟨Nat.le_of_ble_eq_true rfl, Nat.le_of_ble_eq_true rfl⟩ (fun H locs hw => ?_)
  refine lv_if_eq (tgt := 28) X.1 X.2.1 dX8_readDigit_10 (by decide) (fun c1 => ?_) (fun c1 => ?_)
  · replace c1 := bI_z c1
    refine lv_bipush (v := (-5)) X.1 X.2.1 dX8_readDigit_28 (by decide) ?_
    refine lv_istore_n (lv' := [(2, .int ((-5))), (0, .ref (ad o)), (1, .int (nI mo))]) X.1 X.2.1 dX8_readDigit_30 rfl hl (by decide) rfl (fun ls hl => ?_)
    refine lv_aload_n X.1 X.2.1 dX8_readDigit_31 rfl (lv_at hl 1 rfl) ?_
    refine lv_dup X.1 X.2.1 dX8_readDigit_32 rfl ?_
    refine x_get X hK hw (C := RX8) (T := TX8) (nf := 12) (k := o) (by omega) hF.1 rfl inX8 7 (by decide) q875 (fun _ h9 => h9) rfl dX8_readDigit_33 ?_
    refine x_top (y := nI pl) hpl ?_
    refine lv_iload_n X.1 X.2.1 dX8_readDigit_36 rfl (lv_at hl 0 rfl) ?_
    refine lv_bipush (v := (-5)) X.1 X.2.1 dX8_readDigit_37 (by decide) ?_
    refine lv_icmp_ne (tgt := 46) X.1 X.2.1 dX8_readDigit_39 (by decide) (fun c2 => ?_) (fun c2 => ?_)
    · exact absurd rfl c2
    · refine lv_iconst (v := nI 0) X.1 X.2.1 dX8_readDigit_42 (by decide) ?_
      refine lv_goto (tgt := 47) X.1 X.2.1 dX8_readDigit_43 (by decide) ?_
      refine lv_iadd X.1 X.2.1 dX8_readDigit_47 ?_
      refine x_top (nI_add _ _) ?_
      refine x_put2 X hI hK hw (C := RX8) (T := TX8) (nf := 12) (k := o) (ty := .int) (v := .int (nI (pl + 0))) (by omega) hF.1 rfl inX8 tyX8 tyX8_ok nmX8 7 (by decide) q875 (fun _ h9 => h9) rfl (by decide +kernel) rfl rfl (Nat.le_of_ble_eq_true rfl) dX8_readDigit_48 (fun F3 H locs eF4 hw => ?_)
      have hF5 : MoF ad cI F3 o a h sn tx (va_up k 3 (nI (pl + 0))) := by rw [eF4]; exact MoF.pt hF 3 (nI (pl + 0)) _ rfl
      have hr6 := fr_eq eF4 (Nat.le_refl _) (Nat.lt_succ_self _)
      replace hfr := hfr.tr hr6 (by omega) (by omega)
      refine lv_iload_n X.1 X.2.1 dX8_readDigit_51 rfl (lv_at hl 0 rfl) ?_
      exact x_iret X hr hlk hK hw (v := (-5)) rfl (⟨by rw [rd, if_neg c1]; rfl, by rw [if_neg c1]; exact hF5, hfr⟩) dX8_readDigit_52
  · replace c1 := bI_nz c1
    have htj := htn _ c1.1
    refine lv_aload_n X.1 X.2.1 dX8_readDigit_13 rfl (lv_at hl 0 rfl) ?_
    refine x_get X hK hw (C := RX8) (T := TX8) (nf := 12) (k := o) (by omega) hF.1 rfl inX8 5 (by decide) q873 (fun _ h9 => h9) rfl dX8_readDigit_14 ?_
    refine lv_aload_n X.1 X.2.1 dX8_readDigit_17 rfl (lv_at hl 0 rfl) ?_
    refine x_get X hK hw (C := RX8) (T := TX8) (nf := 12) (k := o) (by omega) hF.1 rfl inX8 7 (by decide) q875 (fun _ h9 => h9) rfl dX8_readDigit_18 ?_
    refine x_top (y := nI pl) hpl ?_
    refine x_ialdN X hK hw (k := (o + 4)) (by omega) hF.2.2.2.2 (i := nI pl) (j := pl) rfl (by omega) (by omega) dX8_readDigit_21 ?_
    refine x_top (y := nI (tn pl)) htj.1 ?_
    refine lv_bipush (v := nI 48) X.1 X.2.1 dX8_readDigit_22 (by decide) ?_
    refine lv_isub X.1 X.2.1 dX8_readDigit_24 ?_
    refine x_top (pk_sub (by omega)) ?_
    refine lv_goto (tgt := 30) X.1 X.2.1 dX8_readDigit_25 (by decide) ?_
    refine lv_istore_n (lv' := [(2, .int (nI ((tn pl) - 48))), (0, .ref (ad o)), (1, .int (nI mo))]) X.1 X.2.1 dX8_readDigit_30 rfl hl (by decide) rfl (fun ls hl => ?_)
    refine lv_aload_n X.1 X.2.1 dX8_readDigit_31 rfl (lv_at hl 1 rfl) ?_
    refine lv_dup X.1 X.2.1 dX8_readDigit_32 rfl ?_
    refine x_get X hK hw (C := RX8) (T := TX8) (nf := 12) (k := o) (by omega) hF.1 rfl inX8 7 (by decide) q875 (fun _ h9 => h9) rfl dX8_readDigit_33 ?_
    refine x_top (y := nI pl) hpl ?_
    refine lv_iload_n X.1 X.2.1 dX8_readDigit_36 rfl (lv_at hl 0 rfl) ?_
    refine lv_bipush (v := (-5)) X.1 X.2.1 dX8_readDigit_37 (by decide) ?_
    refine lv_icmp_ne (tgt := 46) X.1 X.2.1 dX8_readDigit_39 (by decide) (fun c7 => ?_) (fun c7 => ?_)
    · refine lv_iconst (v := nI 1) X.1 X.2.1 dX8_readDigit_46 (by decide) ?_
      refine lv_iadd X.1 X.2.1 dX8_readDigit_47 ?_
      refine x_top (nI_add _ _) ?_
      refine x_put2 X hI hK hw (C := RX8) (T := TX8) (nf := 12) (k := o) (ty := .int) (v := .int (nI (pl + 1))) (by omega) hF.1 rfl inX8 tyX8 tyX8_ok nmX8 7 (by decide) q875 (fun _ h9 => h9) rfl (by decide +kernel) rfl rfl (Nat.le_of_ble_eq_true rfl) dX8_readDigit_48 (fun F8 H locs eF9 hw => ?_)
      have hF10 : MoF ad cI F8 o a h sn tx (va_up k 3 (nI (pl + 1))) := by rw [eF9]; exact MoF.pt hF 3 (nI (pl + 1)) _ rfl
      have hr11 := fr_eq eF9 (Nat.le_refl _) (Nat.lt_succ_self _)
      replace hfr := hfr.tr hr11 (by omega) (by omega)
      refine lv_iload_n X.1 X.2.1 dX8_readDigit_51 rfl (lv_at hl 0 rfl) ?_
      exact x_iret X hr hlk hK hw (v := nI ((tn pl) - 48)) rfl (⟨by rw [rd, if_pos c1]; rfl, by rw [if_pos c1]; exact hF10, hfr⟩) dX8_readDigit_52
    · exact absurd c7 (nI_ne5 (by omega))
