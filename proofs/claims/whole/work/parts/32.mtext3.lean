def reL (tn : Nat → Nat) (len pl : Nat) : Nat := if pl < len then tn pl else 0
def re (tn : Nat → Nat) (len pl : Nat) : Option (Nat × Nat × Nat × Nat) :=
  if reL tn len pl = 43 then (rsc tn len (pl + 1)).map (fun v => (43, v, 0, rsp tn len (pl + 1)))
  else if reL tn len pl = 108 ∨ reL tn len pl = 114 then (rd tn len (pl + 1) 8).map (fun d => (reL tn len pl, d, 0, pl + 2))
  else if reL tn len pl = 98 ∨ reL tn len pl = 104 then (rd tn len (pl + 1) 8).bind (fun d => (rd tn len (pl + 2) (if reL tn len pl = 98 then 4 else 8)).map (fun e => (reL tn len pl, d, e, pl + 3)))
  else none
def rf (tn : Nat → Nat) (len pl : Nat) : Nat :=
  if reL tn len pl = 43 then pl + 1
  else if reL tn len pl = 108 ∨ reL tn len pl = 114 then pl + 1
  else if reL tn len pl = 98 ∨ reL tn len pl = 104 then (if (rd tn len (pl + 1) 8).isSome then pl + 2 else pl + 1)
  else pl
theorem rd_some {tn : Nat → Nat} {len p mo d : Nat} (h : rd tn len p mo = some d) : isn tn len p 48 (48 + mo) ∧ d = tn p - 48 := by
  unfold rd at h; split at h
  · exact ⟨by assumption, (Option.some.inj h).symm⟩
  · cases h
theorem rd_none {tn : Nat → Nat} {len p mo : Nat} (h : rd tn len p mo = none) : ¬ isn tn len p 48 (48 + mo) := by
  unfold rd at h; split at h
  · cases h
  · assumption
theorem rsp_none {tn : Nat → Nat} {len p : Nat} (h : rsc tn len p = none) : rsp tn len p = p := by
  unfold rsc at h; split at h
  · cases h
  · rename_i q; rw [rsp, if_neg q]
theorem rsl_lt {tn : Nat → Nat} {len : Nat} : ∀ (f i v : Nat), v ≤ 999 → (rsl tn len f i v).2 ≤ 999 := by
  intro f
  induction f with
  | zero => intro i v h; exact h
  | succ f ih =>
    intro i v h
    simp only [rsl]
    split
    · rename_i q
      split
      · exact h
      · rename_i q2
        have : v < 100 := Classical.byContradiction fun z => q2 (nI_le (by omega) (by omega))
        exact ih _ _ (by have := q.2.2; omega)
    · exact h
theorem rsc_lt {tn : Nat → Nat} {len p v : Nat} (h : rsc tn len p = some v) : v ≤ 999 := by
  unfold rsc at h; split at h
  · have := rsl_lt (tn := tn) (len := len) (len - p) p 0 (by omega)
    rw [Option.some.inj h] at this; exact this
  · cases h
theorem hd_X8_readDigit : yX8_readDigit.cls = RX8 ∧ yX8_readDigit.cls ≠ "java/lang/invoke/MethodHandle" ∧ yX8_readDigit.cls ≠ "java/lang/invoke/VarHandle" ∧ (parseMethodDescriptor yX8_readDigit.desc).map (fun d => d.parameters.length) = some 1 := by decide +kernel
theorem hd_X8_readSeconds : yX8_readSeconds.cls = RX8 ∧ yX8_readSeconds.cls ≠ "java/lang/invoke/MethodHandle" ∧ yX8_readSeconds.cls ≠ "java/lang/invoke/VarHandle" ∧ (parseMethodDescriptor yX8_readSeconds.desc).map (fun d => d.parameters.length) = some 0 := by decide +kernel
set_option maxHeartbeats 4000000 in
set_option maxRecDepth 100000 in
theorem k_X8_readEvent {l : Launch} {D : va_G} {cI cB cS : ClassId} {ad : Nat → Nat} {N : Nat} {F : Nat → va_E} (hI : iN ad N) (o : Nat) (a : Nat → Int32) (h : Nat → Int32) (sn : Nat → Int32) (tx : Nat → Int32) (k : Nat → Int32) (len : Nat) (pl : Nat) (tn : Nat → Nat) (hc5 : o + 5 ≤ N) (hF : MoF ad cI F o a h sn tx k) (hlen : k 2 = nI len) (hl80 : len ≤ 80) (hpl : k 3 = nI pl) (hp81 : pl ≤ 81) (htn : ∀ j, j < len → tx j = nI (tn j) ∧ tn j < 128) (hple : pl ≤ len) : Ci l D cI cB cS ad N yX8_readEvent cX8_readEvent 1 (some .boolean) 3 66 [.ref (ad o)] F (fun r F' => (∃ k', MoF ad cI F' o a h sn tx k' ∧ k' 0 = k 0 ∧ k' 1 = k 1 ∧ k' 2 = k 2 ∧ k' 7 = k 7 ∧ (match re tn len pl with | none => r = nI 0 ∧ k' 3 = nI (rf tn len pl) | some x => r = nI 1 ∧ k' 4 = nI x.1 ∧ k' 5 = nI x.2.1 ∧ (x.1 = 98 ∨ x.1 = 104 → k' 6 = nI x.2.2.1) ∧ k' 3 = nI x.2.2.2)) ∧ Fr F F' o (o + 5)) := by
  refine x_met (by decide +kernel) (Nat.le_of_ble_eq_true rfl) ?_
  intro p e s m below meth c X hr hlk hK hw ls hl
  replace hl : lv_has ls 1 [(0, .ref (ad o))] := hl
  have hfr : Fr F F (o) (o + 5) := Fr.rf
  refine lv_aload_n X.1 X.2.1 dX8_readEvent_0 rfl (lv_at hl 0 rfl) ?_
  refine lv_aload_n X.1 X.2.1 dX8_readEvent_1 rfl (lv_at hl 0 rfl) ?_
  refine x_get X hK hw (C := RX8) (T := TX8) (nf := 12) (k := o) (by omega) hF.1 rfl inX8 7 (by decide) q875 (fun _ h9 => h9) rfl dX8_readEvent_2 ?_
  refine x_top (y := nI pl) hpl ?_
  refine lv_aload_n X.1 X.2.1 dX8_readEvent_5 rfl (lv_at hl 0 rfl) ?_
  refine x_get X hK hw (C := RX8) (T := TX8) (nf := 12) (k := o) (by omega) hF.1 rfl inX8 6 (by decide) q874 (fun _ h9 => h9) rfl dX8_readEvent_6 ?_
  refine x_top (y := nI len) hlen ?_
  refine lv_icmp_ge (tgt := 24) X.1 X.2.1 dX8_readEvent_9 (by decide) (fun c1 => ?_) (fun c1 => ?_)
  · have hj : ¬ pl < len := fun q => nI_ge (a := pl) (b := len) q (by omega) c1
    refine lv_iconst (v := nI 0) X.1 X.2.1 dX8_readEvent_24 (by decide) ?_
    refine x_put2 X hI hK hw (C := RX8) (T := TX8) (nf := 12) (k := o) (ty := .int) (v := .int (nI 0)) (by omega) hF.1 rfl inX8 tyX8 tyX8_ok nmX8 8 (by decide) q876 (fun _ h9 => h9) rfl (by decide +kernel) rfl rfl (Nat.le_of_ble_eq_true rfl) dX8_readEvent_25 (fun F2 H locs eF3 hw => ?_)
    have hF4 : MoF ad cI F2 o a h sn tx (va_up k 4 (nI 0)) := by rw [eF3]; exact MoF.pt hF 4 (nI 0) _ rfl
    have hr5 := fr_eq eF3 (Nat.le_refl _) (Nat.lt_succ_self _)
    replace hfr := hfr.tr hr5 (by omega) (by omega)
    refine lv_aload_n X.1 X.2.1 dX8_readEvent_28 rfl (lv_at hl 0 rfl) ?_
    refine lv_dup X.1 X.2.1 dX8_readEvent_29 rfl ?_
    refine x_get X hK hw (C := RX8) (T := TX8) (nf := 12) (k := o) (by omega) hF4.1 rfl inX8 7 (by decide) q875 (fun _ h9 => h9) rfl dX8_readEvent_30 ?_
    refine x_top (y := nI pl) hpl ?_
    refine lv_iconst (v := nI 1) X.1 X.2.1 dX8_readEvent_33 (by decide) ?_
    refine lv_iadd X.1 X.2.1 dX8_readEvent_34 ?_
    refine x_top (nI_add _ _) ?_
    refine x_put2 X hI hK hw (C := RX8) (T := TX8) (nf := 12) (k := o) (ty := .int) (v := .int (nI (pl + 1))) (by omega) hF4.1 rfl inX8 tyX8 tyX8_ok nmX8 7 (by decide) q875 (fun _ h9 => h9) rfl (by decide +kernel) rfl rfl (Nat.le_of_ble_eq_true rfl) dX8_readEvent_35 (fun F6 H locs eF7 hw => ?_)
    have hF8 : MoF ad cI F6 o a h sn tx (va_up ((va_up k 4 (nI 0))) 3 (nI (pl + 1))) := by rw [eF7]; exact MoF.pt hF4 3 (nI (pl + 1)) _ rfl
    have hr9 := fr_eq eF7 (Nat.le_refl _) (Nat.lt_succ_self _)
    replace hfr := hfr.tr hr9 (by omega) (by omega)
    refine lv_aload_n X.1 X.2.1 dX8_readEvent_38 rfl (lv_at hl 0 rfl) ?_
    refine x_get X hK hw (C := RX8) (T := TX8) (nf := 12) (k := o) (by omega) hF8.1 rfl inX8 8 (by decide) q876 (fun _ h9 => h9) rfl dX8_readEvent_39 ?_
    refine x_top (y := nI 0) rfl ?_
    rcases lsw_43_98_104_108_114 (nI 0) with c10 | c10 | c10 | c10 | c10 | c10
    · exact absurd c10 (by decide)
    · exact absurd c10 (by decide)
    · exact absurd c10 (by decide)
    · exact absurd c10 (by decide)
    · exact absurd c10 (by decide)
    · refine lv_lookup (off := 160) (tgt := 202) X.1 X.2.1 dX8_readEvent_42 (by decide) (lsd_of (ks := [43, 98, 104, 108, 114]) (os := [50, 98, 98, 73, 73]) c10) (by decide) ?_
      have hL : reL tn len pl ≠ 43 ∧ reL tn len pl ≠ 98 ∧ reL tn len pl ≠ 104 ∧ reL tn len pl ≠ 108 ∧ reL tn len pl ≠ 114 := by rw [reL, if_neg hj]; decide
      refine lv_aload_n X.1 X.2.1 dX8_readEvent_202 rfl (lv_at hl 0 rfl) ?_
      refine lv_dup X.1 X.2.1 dX8_readEvent_203 rfl ?_
      refine x_get X hK hw (C := RX8) (T := TX8) (nf := 12) (k := o) (by omega) hF8.1 rfl inX8 7 (by decide) q875 (fun _ h9 => h9) rfl dX8_readEvent_204 ?_
      refine x_top (y := nI (pl + 1)) rfl ?_
      refine lv_iconst (v := nI 1) X.1 X.2.1 dX8_readEvent_207 (by decide) ?_
      refine lv_isub X.1 X.2.1 dX8_readEvent_208 ?_
      refine x_top (pk_sub (by omega)) ?_
      refine x_put2 X hI hK hw (C := RX8) (T := TX8) (nf := 12) (k := o) (ty := .int) (v := .int (nI ((pl + 1) - 1))) (by omega) hF8.1 rfl inX8 tyX8 tyX8_ok nmX8 7 (by decide) q875 (fun _ h9 => h9) rfl (by decide +kernel) rfl rfl (Nat.le_of_ble_eq_true rfl) dX8_readEvent_209 (fun F11 H locs eF12 hw => ?_)
      have hF13 : MoF ad cI F11 o a h sn tx (va_up ((va_up ((va_up k 4 (nI 0))) 3 (nI (pl + 1)))) 3 (nI ((pl + 1) - 1))) := by rw [eF12]; exact MoF.pt hF8 3 (nI ((pl + 1) - 1)) _ rfl
      have hr14 := fr_eq eF12 (Nat.le_refl _) (Nat.lt_succ_self _)
      replace hfr := hfr.tr hr14 (by omega) (by omega)
      refine lv_iconst (v := nI 0) X.1 X.2.1 dX8_readEvent_212 (by decide) ?_
      exact x_iret X hr hlk hK hw (v := nI 0) (by decide +kernel) (⟨⟨_, hF13, rfl, rfl, rfl, rfl, (by have hre : re tn len pl = none := (by simp [re, hL]); rw [hre]; exact ⟨rfl, (by rw [show rf tn len pl = pl from by simp [rf, hL]]; rfl)⟩)⟩, hfr⟩) dX8_readEvent_213
  · have hj : pl < len := Classical.byContradiction fun q => c1 (nI_le (by omega) (by omega))
    refine lv_aload_n X.1 X.2.1 dX8_readEvent_12 rfl (lv_at hl 0 rfl) ?_
    refine x_get X hK hw (C := RX8) (T := TX8) (nf := 12) (k := o) (by omega) hF.1 rfl inX8 5 (by decide) q873 (fun _ h9 => h9) rfl dX8_readEvent_13 ?_
    refine lv_aload_n X.1 X.2.1 dX8_readEvent_16 rfl (lv_at hl 0 rfl) ?_
    refine x_get X hK hw (C := RX8) (T := TX8) (nf := 12) (k := o) (by omega) hF.1 rfl inX8 7 (by decide) q875 (fun _ h9 => h9) rfl dX8_readEvent_17 ?_
    refine x_top (y := nI pl) hpl ?_
    refine x_ialdN X hK hw (k := (o + 4)) (by omega) hF.2.2.2.2 (i := nI pl) (j := pl) rfl (by omega) (by omega) dX8_readEvent_20 ?_
    refine x_top (y := nI (tn pl)) (htn _ hj).1 ?_
    refine lv_goto (tgt := 25) X.1 X.2.1 dX8_readEvent_21 (by decide) ?_
    refine x_put2 X hI hK hw (C := RX8) (T := TX8) (nf := 12) (k := o) (ty := .int) (v := .int (nI (tn pl))) (by omega) hF.1 rfl inX8 tyX8 tyX8_ok nmX8 8 (by decide) q876 (fun _ h9 => h9) rfl (by decide +kernel) rfl rfl (Nat.le_of_ble_eq_true rfl) dX8_readEvent_25 (fun F15 H locs eF16 hw => ?_)
    have hF17 : MoF ad cI F15 o a h sn tx (va_up k 4 (nI (tn pl))) := by rw [eF16]; exact MoF.pt hF 4 (nI (tn pl)) _ rfl
    have hr18 := fr_eq eF16 (Nat.le_refl _) (Nat.lt_succ_self _)
    replace hfr := hfr.tr hr18 (by omega) (by omega)
    refine lv_aload_n X.1 X.2.1 dX8_readEvent_28 rfl (lv_at hl 0 rfl) ?_
    refine lv_dup X.1 X.2.1 dX8_readEvent_29 rfl ?_
    refine x_get X hK hw (C := RX8) (T := TX8) (nf := 12) (k := o) (by omega) hF17.1 rfl inX8 7 (by decide) q875 (fun _ h9 => h9) rfl dX8_readEvent_30 ?_
    refine x_top (y := nI pl) hpl ?_
    refine lv_iconst (v := nI 1) X.1 X.2.1 dX8_readEvent_33 (by decide) ?_
    refine lv_iadd X.1 X.2.1 dX8_readEvent_34 ?_
    refine x_top (nI_add _ _) ?_
    refine x_put2 X hI hK hw (C := RX8) (T := TX8) (nf := 12) (k := o) (ty := .int) (v := .int (nI (pl + 1))) (by omega) hF17.1 rfl inX8 tyX8 tyX8_ok nmX8 7 (by decide) q875 (fun _ h9 => h9) rfl (by decide +kernel) rfl rfl (Nat.le_of_ble_eq_true rfl) dX8_readEvent_35 (fun F19 H locs eF20 hw => ?_)
    have hF21 : MoF ad cI F19 o a h sn tx (va_up ((va_up k 4 (nI (tn pl)))) 3 (nI (pl + 1))) := by rw [eF20]; exact MoF.pt hF17 3 (nI (pl + 1)) _ rfl
    have hr22 := fr_eq eF20 (Nat.le_refl _) (Nat.lt_succ_self _)
    replace hfr := hfr.tr hr22 (by omega) (by omega)
    refine lv_aload_n X.1 X.2.1 dX8_readEvent_38 rfl (lv_at hl 0 rfl) ?_
    refine x_get X hK hw (C := RX8) (T := TX8) (nf := 12) (k := o) (by omega) hF21.1 rfl inX8 8 (by decide) q876 (fun _ h9 => h9) rfl dX8_readEvent_39 ?_
    refine x_top (y := nI (tn pl)) rfl ?_
    rcases lsw_43_98_104_108_114 (nI (tn pl)) with c23 | c23 | c23 | c23 | c23 | c23
    · refine lv_lookup (tgt := 92) X.1 X.2.1 dX8_readEvent_42 (by decide) (by rw [c23] <;> rfl) (by decide) ?_
      have htp : tn pl = 43 := (nI_eq (by have := (htn _ hj).2; omega) (by omega)).mp c23
      have hL : reL tn len pl = 43 := by rw [reL, if_pos hj]; exact htp
      refine lv_aload_n X.1 X.2.1 dX8_readEvent_92 rfl (lv_at hl 0 rfl) ?_
      refine lv_aload_n X.1 X.2.1 dX8_readEvent_93 rfl (lv_at hl 0 rfl) ?_
      refine x_callV X hK hw (k := o) (As := []) (rest := [.ref (ad o)]) (k_X8_readSeconds hI o a h sn tx ((va_up ((va_up k 4 (nI (tn pl)))) 3 (nI (pl + 1)))) len ((pl + 1)) tn (by omega) hF21 hlen (by omega) rfl (by omega) htn) (x_cwV yX8_readSeconds cX8_readSeconds 2 (some .int) 0 X q1096 q1098 qs46 q14 q1099 hd_X8_readSeconds ⟨Nat.le_of_ble_eq_true rfl, Nat.le_of_ble_eq_true rfl⟩) (by omega) hF21.1 rfl rfl hl.1 rfl (Nat.le_of_ble_eq_true rfl) dX8_readEvent_94 ⟨Nat.le_of_ble_eq_true rfl, Nat.le_of_ble_eq_true rfl⟩ (fun r27 F24 H locs hp hw => ?_)
      obtain ⟨er28, hF25, hr26⟩ := hp
      refine x_top er28 ?_
      replace hfr := hfr.tr hr26 (by omega) (by omega)
      obtain ⟨fo, he⟩ : ∃ y, y = rsc tn len (pl + 1) := ⟨_, rfl⟩
      rw [← he]
      rcases fo with _ | v
      · refine x_top (y := (-5)) rfl ?_
        refine x_put2 X hI hK hw (C := RX8) (T := TX8) (nf := 12) (k := o) (ty := .int) (v := .int ((-5))) (by omega) hF25.1 rfl inX8 tyX8 tyX8_ok nmX8 9 (by decide) q877 (fun _ h9 => h9) rfl (by decide +kernel) rfl rfl (Nat.le_of_ble_eq_true rfl) dX8_readEvent_97 (fun F29 H locs eF30 hw => ?_)
        have hF31 : MoF ad cI F29 o a h sn tx (va_up ((va_up ((va_up ((va_up k 4 (nI (tn pl)))) 3 (nI (pl + 1)))) 3 (nI (rsp tn len ((pl + 1)))))) 5 ((-5))) := by rw [eF30]; exact MoF.pt hF25 5 ((-5)) _ rfl
        have hr32 := fr_eq eF30 (Nat.le_refl _) (Nat.lt_succ_self _)
        replace hfr := hfr.tr hr32 (by omega) (by omega)
        refine lv_aload_n X.1 X.2.1 dX8_readEvent_100 rfl (lv_at hl 0 rfl) ?_
        refine x_get X hK hw (C := RX8) (T := TX8) (nf := 12) (k := o) (by omega) hF31.1 rfl inX8 9 (by decide) q877 (fun _ h9 => h9) rfl dX8_readEvent_101 ?_
        refine x_top (y := ((-5))) rfl ?_
        refine lv_bipush (v := (-5)) X.1 X.2.1 dX8_readEvent_104 (by decide) ?_
        refine lv_icmp_eq (tgt := 113) X.1 X.2.1 dX8_readEvent_106 (by decide) (fun c33 => ?_) (fun c33 => ?_)
        · refine lv_iconst (v := nI 0) X.1 X.2.1 dX8_readEvent_113 (by decide) ?_
          exact x_iret X hr hlk hK hw (v := nI 0) (by decide +kernel) (⟨⟨_, hF31, rfl, rfl, rfl, rfl, (by have hre : re tn len pl = none := (by simp [re, hL, ← he]); rw [hre]; exact ⟨rfl, (by rw [show rf tn len pl = pl + 1 from by simp [rf, hL]]; show nI (rsp tn len (pl + 1)) = nI (pl + 1); rw [rsp_none he.symm])⟩)⟩, hfr⟩) dX8_readEvent_114
        · exact absurd rfl c33
      · have hb_v := (Nat.lt_of_le_of_lt (rsc_lt he.symm) (by omega) : _ < 2 ^ 31)
        refine x_top (y := nI v) rfl ?_
        refine x_put2 X hI hK hw (C := RX8) (T := TX8) (nf := 12) (k := o) (ty := .int) (v := .int (nI v)) (by omega) hF25.1 rfl inX8 tyX8 tyX8_ok nmX8 9 (by decide) q877 (fun _ h9 => h9) rfl (by decide +kernel) rfl rfl (Nat.le_of_ble_eq_true rfl) dX8_readEvent_97 (fun F34 H locs eF35 hw => ?_)
        have hF36 : MoF ad cI F34 o a h sn tx (va_up ((va_up ((va_up ((va_up k 4 (nI (tn pl)))) 3 (nI (pl + 1)))) 3 (nI (rsp tn len ((pl + 1)))))) 5 (nI v)) := by rw [eF35]; exact MoF.pt hF25 5 (nI v) _ rfl
        have hr37 := fr_eq eF35 (Nat.le_refl _) (Nat.lt_succ_self _)
        replace hfr := hfr.tr hr37 (by omega) (by omega)
        refine lv_aload_n X.1 X.2.1 dX8_readEvent_100 rfl (lv_at hl 0 rfl) ?_
        refine x_get X hK hw (C := RX8) (T := TX8) (nf := 12) (k := o) (by omega) hF36.1 rfl inX8 9 (by decide) q877 (fun _ h9 => h9) rfl dX8_readEvent_101 ?_
        refine x_top (y := nI v) rfl ?_
        refine lv_bipush (v := (-5)) X.1 X.2.1 dX8_readEvent_104 (by decide) ?_
        refine lv_icmp_eq (tgt := 113) X.1 X.2.1 dX8_readEvent_106 (by decide) (fun c38 => ?_) (fun c38 => ?_)
        · exact absurd c38 (nI_ne5 (by omega))
        · refine lv_iconst (v := nI 1) X.1 X.2.1 dX8_readEvent_109 (by decide) ?_
          refine lv_goto (tgt := 114) X.1 X.2.1 dX8_readEvent_110 (by decide) ?_
          exact x_iret X hr hlk hK hw (v := nI 1) (by decide +kernel) (⟨⟨_, hF36, rfl, rfl, rfl, rfl, (by have hre : re tn len pl = some (43, v, 0, rsp tn len (pl + 1)) := (by simp [re, hL, ← he]); rw [hre]; exact ⟨rfl, (by show nI (tn pl) = nI 43; rw [htp]), rfl, (fun q => by simp at q), rfl⟩)⟩, hfr⟩) dX8_readEvent_114
    · refine lv_lookup (tgt := 140) X.1 X.2.1 dX8_readEvent_42 (by decide) (by rw [c23] <;> rfl) (by decide) ?_
      have htp : tn pl = 98 := (nI_eq (by have := (htn _ hj).2; omega) (by omega)).mp c23
      have hL : reL tn len pl = 98 := by rw [reL, if_pos hj]; exact htp
      refine lv_aload_n X.1 X.2.1 dX8_readEvent_140 rfl (lv_at hl 0 rfl) ?_
      refine lv_aload_n X.1 X.2.1 dX8_readEvent_141 rfl (lv_at hl 0 rfl) ?_
      refine lv_bipush (v := nI 8) X.1 X.2.1 dX8_readEvent_142 (by decide) ?_
      refine x_callV X hK hw (k := o) (As := [.int (nI 8)]) (rest := [.ref (ad o)]) (k_X8_readDigit hI o a h sn tx ((va_up ((va_up k 4 (nI (tn pl)))) 3 (nI (pl + 1)))) 8 len ((pl + 1)) tn (by omega) hF21 hlen (by omega) rfl (by omega) htn (by omega)) (x_cwV yX8_readDigit cX8_readDigit 3 (some .int) 1 X q1104 q1106 qs48 q14 q1107 hd_X8_readDigit ⟨Nat.le_of_ble_eq_true rfl, Nat.le_of_ble_eq_true rfl⟩) (by omega) hF21.1 rfl rfl hl.1 rfl (Nat.le_of_ble_eq_true rfl) dX8_readEvent_144 ⟨Nat.le_of_ble_eq_true rfl, Nat.le_of_ble_eq_true rfl⟩ (fun r42 F39 H locs hp hw => ?_)
      obtain ⟨er43, hF40, hr41⟩ := hp
      refine x_top er43 ?_
      replace hfr := hfr.tr hr41 (by omega) (by omega)
      obtain ⟨fo, he⟩ : ∃ y, y = rd tn len (pl + 1) 8 := ⟨_, rfl⟩
      rw [← he]
      rcases fo with _ | v
      · refine x_top (y := (-5)) rfl ?_
        refine x_put2 X hI hK hw (C := RX8) (T := TX8) (nf := 12) (k := o) (ty := .int) (v := .int ((-5))) (by omega) hF40.1 rfl inX8 tyX8 tyX8_ok nmX8 9 (by decide) q877 (fun _ h9 => h9) rfl (by decide +kernel) rfl rfl (Nat.le_of_ble_eq_true rfl) dX8_readEvent_147 (fun F44 H locs eF45 hw => ?_)
        have hF46 : MoF ad cI F44 o a h sn tx (va_up ((va_up ((va_up ((va_up k 4 (nI (tn pl)))) 3 (nI (pl + 1)))) 3 (nI (if isn tn len ((pl + 1)) 48 (48 + 8) then ((pl + 1)) + 1 else ((pl + 1)))))) 5 ((-5))) := by rw [eF45]; exact MoF.pt hF40 5 ((-5)) _ rfl
        have hr47 := fr_eq eF45 (Nat.le_refl _) (Nat.lt_succ_self _)
        replace hfr := hfr.tr hr47 (by omega) (by omega)
        refine lv_aload_n X.1 X.2.1 dX8_readEvent_150 rfl (lv_at hl 0 rfl) ?_
        refine lv_aload_n X.1 X.2.1 dX8_readEvent_151 rfl (lv_at hl 0 rfl) ?_
        refine x_get X hK hw (C := RX8) (T := TX8) (nf := 12) (k := o) (by omega) hF46.1 rfl inX8 9 (by decide) q877 (fun _ h9 => h9) rfl dX8_readEvent_152 ?_
        refine x_top (y := ((-5))) rfl ?_
        refine lv_bipush (v := (-5)) X.1 X.2.1 dX8_readEvent_155 (by decide) ?_
        refine lv_icmp_ne (tgt := 165) X.1 X.2.1 dX8_readEvent_157 (by decide) (fun c48 => ?_) (fun c48 => ?_)
        · exact absurd rfl c48
        · refine lv_bipush (v := (-5)) X.1 X.2.1 dX8_readEvent_160 (by decide) ?_
          refine lv_goto (tgt := 184) X.1 X.2.1 dX8_readEvent_162 (by decide) ?_
          refine x_put2 X hI hK hw (C := RX8) (T := TX8) (nf := 12) (k := o) (ty := .int) (v := .int ((-5))) (by omega) hF46.1 rfl inX8 tyX8 tyX8_ok nmX8 10 (by decide) q878 (fun _ h9 => h9) rfl (by decide +kernel) rfl rfl (Nat.le_of_ble_eq_true rfl) dX8_readEvent_184 (fun F49 H locs eF50 hw => ?_)
          have hF51 : MoF ad cI F49 o a h sn tx (va_up ((va_up ((va_up ((va_up ((va_up k 4 (nI (tn pl)))) 3 (nI (pl + 1)))) 3 (nI (if isn tn len ((pl + 1)) 48 (48 + 8) then ((pl + 1)) + 1 else ((pl + 1)))))) 5 ((-5)))) 6 ((-5))) := by rw [eF50]; exact MoF.pt hF46 6 ((-5)) _ rfl
          have hr52 := fr_eq eF50 (Nat.le_refl _) (Nat.lt_succ_self _)
          replace hfr := hfr.tr hr52 (by omega) (by omega)
          refine lv_aload_n X.1 X.2.1 dX8_readEvent_187 rfl (lv_at hl 0 rfl) ?_
          refine x_get X hK hw (C := RX8) (T := TX8) (nf := 12) (k := o) (by omega) hF51.1 rfl inX8 10 (by decide) q878 (fun _ h9 => h9) rfl dX8_readEvent_188 ?_
          refine x_top (y := ((-5))) rfl ?_
          refine lv_bipush (v := (-5)) X.1 X.2.1 dX8_readEvent_191 (by decide) ?_
          refine lv_icmp_eq (tgt := 200) X.1 X.2.1 dX8_readEvent_193 (by decide) (fun c53 => ?_) (fun c53 => ?_)
          · refine lv_iconst (v := nI 0) X.1 X.2.1 dX8_readEvent_200 (by decide) ?_
            exact x_iret X hr hlk hK hw (v := nI 0) (by decide +kernel) (⟨⟨_, hF51, rfl, rfl, rfl, rfl, (by have hre : re tn len pl = none := (by simp [re, hL, ← he]); rw [hre]; exact ⟨rfl, (by rw [show rf tn len pl = pl + 1 from by simp [rf, hL, ← he]]; show nI (if isn tn len (pl + 1) 48 (48 + 8) then pl + 1 + 1 else pl + 1) = _; rw [if_neg (rd_none he.symm)])⟩)⟩, hfr⟩) dX8_readEvent_201
          · exact absurd rfl c53
      · have hb_v := (by have q := rd_some he.symm; have := (htn _ q.1.1).2; omega : v < 2 ^ 31)
        refine x_top (y := nI v) rfl ?_
        refine x_put2 X hI hK hw (C := RX8) (T := TX8) (nf := 12) (k := o) (ty := .int) (v := .int (nI v)) (by omega) hF40.1 rfl inX8 tyX8 tyX8_ok nmX8 9 (by decide) q877 (fun _ h9 => h9) rfl (by decide +kernel) rfl rfl (Nat.le_of_ble_eq_true rfl) dX8_readEvent_147 (fun F54 H locs eF55 hw => ?_)
        have hF56 : MoF ad cI F54 o a h sn tx (va_up ((va_up ((va_up ((va_up k 4 (nI (tn pl)))) 3 (nI (pl + 1)))) 3 (nI (if isn tn len ((pl + 1)) 48 (48 + 8) then ((pl + 1)) + 1 else ((pl + 1)))))) 5 (nI v)) := by rw [eF55]; exact MoF.pt hF40 5 (nI v) _ rfl
        have hr57 := fr_eq eF55 (Nat.le_refl _) (Nat.lt_succ_self _)
        replace hfr := hfr.tr hr57 (by omega) (by omega)
        refine lv_aload_n X.1 X.2.1 dX8_readEvent_150 rfl (lv_at hl 0 rfl) ?_
        refine lv_aload_n X.1 X.2.1 dX8_readEvent_151 rfl (lv_at hl 0 rfl) ?_
        refine x_get X hK hw (C := RX8) (T := TX8) (nf := 12) (k := o) (by omega) hF56.1 rfl inX8 9 (by decide) q877 (fun _ h9 => h9) rfl dX8_readEvent_152 ?_
        refine x_top (y := nI v) rfl ?_
        refine lv_bipush (v := (-5)) X.1 X.2.1 dX8_readEvent_155 (by decide) ?_
        refine lv_icmp_ne (tgt := 165) X.1 X.2.1 dX8_readEvent_157 (by decide) (fun c58 => ?_) (fun c58 => ?_)
        · refine lv_aload_n X.1 X.2.1 dX8_readEvent_165 rfl (lv_at hl 0 rfl) ?_
          refine lv_aload_n X.1 X.2.1 dX8_readEvent_166 rfl (lv_at hl 0 rfl) ?_
          refine x_get X hK hw (C := RX8) (T := TX8) (nf := 12) (k := o) (by omega) hF56.1 rfl inX8 8 (by decide) q876 (fun _ h9 => h9) rfl dX8_readEvent_167 ?_
          refine x_top (y := nI 98) (by show nI (tn pl) = nI 98; rw [htp]) ?_
          refine lv_bipush (v := nI 98) X.1 X.2.1 dX8_readEvent_170 (by decide) ?_
          refine lv_icmp_ne (tgt := 179) X.1 X.2.1 dX8_readEvent_172 (by decide) (fun c59 => ?_) (fun c59 => ?_)
          · exact absurd rfl c59
          · refine lv_iconst (v := nI 4) X.1 X.2.1 dX8_readEvent_175 (by decide) ?_
            refine lv_goto (tgt := 181) X.1 X.2.1 dX8_readEvent_176 (by decide) ?_
            refine x_callV X hK hw (k := o) (As := [.int (nI 4)]) (rest := [.ref (ad o)]) (k_X8_readDigit hI o a h sn tx ((va_up ((va_up ((va_up ((va_up k 4 (nI (tn pl)))) 3 (nI (pl + 1)))) 3 (nI (if isn tn len ((pl + 1)) 48 (48 + 8) then ((pl + 1)) + 1 else ((pl + 1)))))) 5 (nI v))) 4 len ((pl + 2)) tn (by omega) hF56 hlen (by omega) (by show nI (if isn tn len (pl + 1) 48 (48 + 8) then pl + 1 + 1 else pl + 1) = nI (pl + 2); rw [if_pos (rd_some he.symm).1]) (by omega) htn (by omega)) (x_cwV yX8_readDigit cX8_readDigit 3 (some .int) 1 X q1104 q1106 qs48 q14 q1107 hd_X8_readDigit ⟨Nat.le_of_ble_eq_true rfl, Nat.le_of_ble_eq_true rfl⟩) (by omega) hF56.1 rfl rfl hl.1 rfl (Nat.le_of_ble_eq_true rfl) dX8_readEvent_181 ⟨Nat.le_of_ble_eq_true rfl, Nat.le_of_ble_eq_true rfl⟩ (fun r63 F60 H locs hp hw => ?_)
            obtain ⟨er64, hF61, hr62⟩ := hp
            refine x_top er64 ?_
            replace hfr := hfr.tr hr62 (by omega) (by omega)
            obtain ⟨fo, he2⟩ : ∃ y, y = rd tn len (pl + 2) 4 := ⟨_, rfl⟩
            rw [← he2]
            rcases fo with _ | w
            · refine x_top (y := (-5)) rfl ?_
              refine x_put2 X hI hK hw (C := RX8) (T := TX8) (nf := 12) (k := o) (ty := .int) (v := .int ((-5))) (by omega) hF61.1 rfl inX8 tyX8 tyX8_ok nmX8 10 (by decide) q878 (fun _ h9 => h9) rfl (by decide +kernel) rfl rfl (Nat.le_of_ble_eq_true rfl) dX8_readEvent_184 (fun F65 H locs eF66 hw => ?_)
              have hF67 : MoF ad cI F65 o a h sn tx (va_up ((va_up ((va_up ((va_up ((va_up ((va_up k 4 (nI (tn pl)))) 3 (nI (pl + 1)))) 3 (nI (if isn tn len ((pl + 1)) 48 (48 + 8) then ((pl + 1)) + 1 else ((pl + 1)))))) 5 (nI v))) 3 (nI (if isn tn len ((pl + 2)) 48 (48 + 4) then ((pl + 2)) + 1 else ((pl + 2)))))) 6 ((-5))) := by rw [eF66]; exact MoF.pt hF61 6 ((-5)) _ rfl
              have hr68 := fr_eq eF66 (Nat.le_refl _) (Nat.lt_succ_self _)
              replace hfr := hfr.tr hr68 (by omega) (by omega)
              refine lv_aload_n X.1 X.2.1 dX8_readEvent_187 rfl (lv_at hl 0 rfl) ?_
              refine x_get X hK hw (C := RX8) (T := TX8) (nf := 12) (k := o) (by omega) hF67.1 rfl inX8 10 (by decide) q878 (fun _ h9 => h9) rfl dX8_readEvent_188 ?_
              refine x_top (y := ((-5))) rfl ?_
              refine lv_bipush (v := (-5)) X.1 X.2.1 dX8_readEvent_191 (by decide) ?_
              refine lv_icmp_eq (tgt := 200) X.1 X.2.1 dX8_readEvent_193 (by decide) (fun c69 => ?_) (fun c69 => ?_)
              · refine lv_iconst (v := nI 0) X.1 X.2.1 dX8_readEvent_200 (by decide) ?_
                exact x_iret X hr hlk hK hw (v := nI 0) (by decide +kernel) (⟨⟨_, hF67, rfl, rfl, rfl, rfl, (by have hre : re tn len pl = none := (by simp [re, hL, ← he, ← he2]); rw [hre]; exact ⟨rfl, (by rw [show rf tn len pl = pl + 2 from by simp [rf, hL, ← he]]; show nI (if isn tn len (pl + 2) 48 (48 + 4) then pl + 2 + 1 else pl + 2) = _; rw [if_neg (rd_none he2.symm)])⟩)⟩, hfr⟩) dX8_readEvent_201
              · exact absurd rfl c69
            · have hb_w := (by have q := rd_some he2.symm; have := (htn _ q.1.1).2; omega : w < 2 ^ 31)
              refine x_top (y := nI w) rfl ?_
              refine x_put2 X hI hK hw (C := RX8) (T := TX8) (nf := 12) (k := o) (ty := .int) (v := .int (nI w)) (by omega) hF61.1 rfl inX8 tyX8 tyX8_ok nmX8 10 (by decide) q878 (fun _ h9 => h9) rfl (by decide +kernel) rfl rfl (Nat.le_of_ble_eq_true rfl) dX8_readEvent_184 (fun F70 H locs eF71 hw => ?_)
              have hF72 : MoF ad cI F70 o a h sn tx (va_up ((va_up ((va_up ((va_up ((va_up ((va_up k 4 (nI (tn pl)))) 3 (nI (pl + 1)))) 3 (nI (if isn tn len ((pl + 1)) 48 (48 + 8) then ((pl + 1)) + 1 else ((pl + 1)))))) 5 (nI v))) 3 (nI (if isn tn len ((pl + 2)) 48 (48 + 4) then ((pl + 2)) + 1 else ((pl + 2)))))) 6 (nI w)) := by rw [eF71]; exact MoF.pt hF61 6 (nI w) _ rfl
              have hr73 := fr_eq eF71 (Nat.le_refl _) (Nat.lt_succ_self _)
              replace hfr := hfr.tr hr73 (by omega) (by omega)
              refine lv_aload_n X.1 X.2.1 dX8_readEvent_187 rfl (lv_at hl 0 rfl) ?_
              refine x_get X hK hw (C := RX8) (T := TX8) (nf := 12) (k := o) (by omega) hF72.1 rfl inX8 10 (by decide) q878 (fun _ h9 => h9) rfl dX8_readEvent_188 ?_
              refine x_top (y := nI w) rfl ?_
              refine lv_bipush (v := (-5)) X.1 X.2.1 dX8_readEvent_191 (by decide) ?_
              refine lv_icmp_eq (tgt := 200) X.1 X.2.1 dX8_readEvent_193 (by decide) (fun c74 => ?_) (fun c74 => ?_)
              · exact absurd c74 (nI_ne5 (by omega))
              · refine lv_iconst (v := nI 1) X.1 X.2.1 dX8_readEvent_196 (by decide) ?_
                refine lv_goto (tgt := 201) X.1 X.2.1 dX8_readEvent_197 (by decide) ?_
                exact x_iret X hr hlk hK hw (v := nI 1) (by decide +kernel) (⟨⟨_, hF72, rfl, rfl, rfl, rfl, (by have hre : re tn len pl = some (98, v, w, pl + 3) := (by simp [re, hL, ← he, ← he2]); rw [hre]; exact ⟨rfl, (by show nI (tn pl) = nI 98; rw [htp]), rfl, fun _ => rfl, (by show nI (if isn tn len (pl + 2) 48 (48 + 4) then pl + 2 + 1 else pl + 2) = _; rw [if_pos (rd_some he2.symm).1])⟩)⟩, hfr⟩) dX8_readEvent_201
        · exact absurd c58 (nI_ne5 (by omega))
    · refine lv_lookup (tgt := 140) X.1 X.2.1 dX8_readEvent_42 (by decide) (by rw [c23] <;> rfl) (by decide) ?_
      have htp : tn pl = 104 := (nI_eq (by have := (htn _ hj).2; omega) (by omega)).mp c23
      have hL : reL tn len pl = 104 := by rw [reL, if_pos hj]; exact htp
      refine lv_aload_n X.1 X.2.1 dX8_readEvent_140 rfl (lv_at hl 0 rfl) ?_
      refine lv_aload_n X.1 X.2.1 dX8_readEvent_141 rfl (lv_at hl 0 rfl) ?_
      refine lv_bipush (v := nI 8) X.1 X.2.1 dX8_readEvent_142 (by decide) ?_
      refine x_callV X hK hw (k := o) (As := [.int (nI 8)]) (rest := [.ref (ad o)]) (k_X8_readDigit hI o a h sn tx ((va_up ((va_up k 4 (nI (tn pl)))) 3 (nI (pl + 1)))) 8 len ((pl + 1)) tn (by omega) hF21 hlen (by omega) rfl (by omega) htn (by omega)) (x_cwV yX8_readDigit cX8_readDigit 3 (some .int) 1 X q1104 q1106 qs48 q14 q1107 hd_X8_readDigit ⟨Nat.le_of_ble_eq_true rfl, Nat.le_of_ble_eq_true rfl⟩) (by omega) hF21.1 rfl rfl hl.1 rfl (Nat.le_of_ble_eq_true rfl) dX8_readEvent_144 ⟨Nat.le_of_ble_eq_true rfl, Nat.le_of_ble_eq_true rfl⟩ (fun r78 F75 H locs hp hw => ?_)
      obtain ⟨er79, hF76, hr77⟩ := hp
      refine x_top er79 ?_
      replace hfr := hfr.tr hr77 (by omega) (by omega)
      obtain ⟨fo, he⟩ : ∃ y, y = rd tn len (pl + 1) 8 := ⟨_, rfl⟩
      rw [← he]
      rcases fo with _ | v
      · refine x_top (y := (-5)) rfl ?_
        refine x_put2 X hI hK hw (C := RX8) (T := TX8) (nf := 12) (k := o) (ty := .int) (v := .int ((-5))) (by omega) hF76.1 rfl inX8 tyX8 tyX8_ok nmX8 9 (by decide) q877 (fun _ h9 => h9) rfl (by decide +kernel) rfl rfl (Nat.le_of_ble_eq_true rfl) dX8_readEvent_147 (fun F80 H locs eF81 hw => ?_)
        have hF82 : MoF ad cI F80 o a h sn tx (va_up ((va_up ((va_up ((va_up k 4 (nI (tn pl)))) 3 (nI (pl + 1)))) 3 (nI (if isn tn len ((pl + 1)) 48 (48 + 8) then ((pl + 1)) + 1 else ((pl + 1)))))) 5 ((-5))) := by rw [eF81]; exact MoF.pt hF76 5 ((-5)) _ rfl
        have hr83 := fr_eq eF81 (Nat.le_refl _) (Nat.lt_succ_self _)
        replace hfr := hfr.tr hr83 (by omega) (by omega)
        refine lv_aload_n X.1 X.2.1 dX8_readEvent_150 rfl (lv_at hl 0 rfl) ?_
        refine lv_aload_n X.1 X.2.1 dX8_readEvent_151 rfl (lv_at hl 0 rfl) ?_
        refine x_get X hK hw (C := RX8) (T := TX8) (nf := 12) (k := o) (by omega) hF82.1 rfl inX8 9 (by decide) q877 (fun _ h9 => h9) rfl dX8_readEvent_152 ?_
        refine x_top (y := ((-5))) rfl ?_
        refine lv_bipush (v := (-5)) X.1 X.2.1 dX8_readEvent_155 (by decide) ?_
        refine lv_icmp_ne (tgt := 165) X.1 X.2.1 dX8_readEvent_157 (by decide) (fun c84 => ?_) (fun c84 => ?_)
        · exact absurd rfl c84
        · refine lv_bipush (v := (-5)) X.1 X.2.1 dX8_readEvent_160 (by decide) ?_
          refine lv_goto (tgt := 184) X.1 X.2.1 dX8_readEvent_162 (by decide) ?_
          refine x_put2 X hI hK hw (C := RX8) (T := TX8) (nf := 12) (k := o) (ty := .int) (v := .int ((-5))) (by omega) hF82.1 rfl inX8 tyX8 tyX8_ok nmX8 10 (by decide) q878 (fun _ h9 => h9) rfl (by decide +kernel) rfl rfl (Nat.le_of_ble_eq_true rfl) dX8_readEvent_184 (fun F85 H locs eF86 hw => ?_)
          have hF87 : MoF ad cI F85 o a h sn tx (va_up ((va_up ((va_up ((va_up ((va_up k 4 (nI (tn pl)))) 3 (nI (pl + 1)))) 3 (nI (if isn tn len ((pl + 1)) 48 (48 + 8) then ((pl + 1)) + 1 else ((pl + 1)))))) 5 ((-5)))) 6 ((-5))) := by rw [eF86]; exact MoF.pt hF82 6 ((-5)) _ rfl
          have hr88 := fr_eq eF86 (Nat.le_refl _) (Nat.lt_succ_self _)
          replace hfr := hfr.tr hr88 (by omega) (by omega)
          refine lv_aload_n X.1 X.2.1 dX8_readEvent_187 rfl (lv_at hl 0 rfl) ?_
          refine x_get X hK hw (C := RX8) (T := TX8) (nf := 12) (k := o) (by omega) hF87.1 rfl inX8 10 (by decide) q878 (fun _ h9 => h9) rfl dX8_readEvent_188 ?_
          refine x_top (y := ((-5))) rfl ?_
          refine lv_bipush (v := (-5)) X.1 X.2.1 dX8_readEvent_191 (by decide) ?_
          refine lv_icmp_eq (tgt := 200) X.1 X.2.1 dX8_readEvent_193 (by decide) (fun c89 => ?_) (fun c89 => ?_)
          · refine lv_iconst (v := nI 0) X.1 X.2.1 dX8_readEvent_200 (by decide) ?_
            exact x_iret X hr hlk hK hw (v := nI 0) (by decide +kernel) (⟨⟨_, hF87, rfl, rfl, rfl, rfl, (by have hre : re tn len pl = none := (by simp [re, hL, ← he]); rw [hre]; exact ⟨rfl, (by rw [show rf tn len pl = pl + 1 from by simp [rf, hL, ← he]]; show nI (if isn tn len (pl + 1) 48 (48 + 8) then pl + 1 + 1 else pl + 1) = _; rw [if_neg (rd_none he.symm)])⟩)⟩, hfr⟩) dX8_readEvent_201
          · exact absurd rfl c89
      · have hb_v := (by have q := rd_some he.symm; have := (htn _ q.1.1).2; omega : v < 2 ^ 31)
        refine x_top (y := nI v) rfl ?_
        refine x_put2 X hI hK hw (C := RX8) (T := TX8) (nf := 12) (k := o) (ty := .int) (v := .int (nI v)) (by omega) hF76.1 rfl inX8 tyX8 tyX8_ok nmX8 9 (by decide) q877 (fun _ h9 => h9) rfl (by decide +kernel) rfl rfl (Nat.le_of_ble_eq_true rfl) dX8_readEvent_147 (fun F90 H locs eF91 hw => ?_)
        have hF92 : MoF ad cI F90 o a h sn tx (va_up ((va_up ((va_up ((va_up k 4 (nI (tn pl)))) 3 (nI (pl + 1)))) 3 (nI (if isn tn len ((pl + 1)) 48 (48 + 8) then ((pl + 1)) + 1 else ((pl + 1)))))) 5 (nI v)) := by rw [eF91]; exact MoF.pt hF76 5 (nI v) _ rfl
        have hr93 := fr_eq eF91 (Nat.le_refl _) (Nat.lt_succ_self _)
        replace hfr := hfr.tr hr93 (by omega) (by omega)
        refine lv_aload_n X.1 X.2.1 dX8_readEvent_150 rfl (lv_at hl 0 rfl) ?_
        refine lv_aload_n X.1 X.2.1 dX8_readEvent_151 rfl (lv_at hl 0 rfl) ?_
        refine x_get X hK hw (C := RX8) (T := TX8) (nf := 12) (k := o) (by omega) hF92.1 rfl inX8 9 (by decide) q877 (fun _ h9 => h9) rfl dX8_readEvent_152 ?_
        refine x_top (y := nI v) rfl ?_
        refine lv_bipush (v := (-5)) X.1 X.2.1 dX8_readEvent_155 (by decide) ?_
        refine lv_icmp_ne (tgt := 165) X.1 X.2.1 dX8_readEvent_157 (by decide) (fun c94 => ?_) (fun c94 => ?_)
        · refine lv_aload_n X.1 X.2.1 dX8_readEvent_165 rfl (lv_at hl 0 rfl) ?_
          refine lv_aload_n X.1 X.2.1 dX8_readEvent_166 rfl (lv_at hl 0 rfl) ?_
          refine x_get X hK hw (C := RX8) (T := TX8) (nf := 12) (k := o) (by omega) hF92.1 rfl inX8 8 (by decide) q876 (fun _ h9 => h9) rfl dX8_readEvent_167 ?_
          refine x_top (y := nI 104) (by show nI (tn pl) = nI 104; rw [htp]) ?_
          refine lv_bipush (v := nI 98) X.1 X.2.1 dX8_readEvent_170 (by decide) ?_
          refine lv_icmp_ne (tgt := 179) X.1 X.2.1 dX8_readEvent_172 (by decide) (fun c95 => ?_) (fun c95 => ?_)
          · refine lv_bipush (v := nI 8) X.1 X.2.1 dX8_readEvent_179 (by decide) ?_
            refine x_callV X hK hw (k := o) (As := [.int (nI 8)]) (rest := [.ref (ad o)]) (k_X8_readDigit hI o a h sn tx ((va_up ((va_up ((va_up ((va_up k 4 (nI (tn pl)))) 3 (nI (pl + 1)))) 3 (nI (if isn tn len ((pl + 1)) 48 (48 + 8) then ((pl + 1)) + 1 else ((pl + 1)))))) 5 (nI v))) 8 len ((pl + 2)) tn (by omega) hF92 hlen (by omega) (by show nI (if isn tn len (pl + 1) 48 (48 + 8) then pl + 1 + 1 else pl + 1) = nI (pl + 2); rw [if_pos (rd_some he.symm).1]) (by omega) htn (by omega)) (x_cwV yX8_readDigit cX8_readDigit 3 (some .int) 1 X q1104 q1106 qs48 q14 q1107 hd_X8_readDigit ⟨Nat.le_of_ble_eq_true rfl, Nat.le_of_ble_eq_true rfl⟩) (by omega) hF92.1 rfl rfl hl.1 rfl (Nat.le_of_ble_eq_true rfl) dX8_readEvent_181 ⟨Nat.le_of_ble_eq_true rfl, Nat.le_of_ble_eq_true rfl⟩ (fun r99 F96 H locs hp hw => ?_)
            obtain ⟨er100, hF97, hr98⟩ := hp
            refine x_top er100 ?_
            replace hfr := hfr.tr hr98 (by omega) (by omega)
            obtain ⟨fo, he2⟩ : ∃ y, y = rd tn len (pl + 2) 8 := ⟨_, rfl⟩
            rw [← he2]
            rcases fo with _ | w
            · refine x_top (y := (-5)) rfl ?_
              refine x_put2 X hI hK hw (C := RX8) (T := TX8) (nf := 12) (k := o) (ty := .int) (v := .int ((-5))) (by omega) hF97.1 rfl inX8 tyX8 tyX8_ok nmX8 10 (by decide) q878 (fun _ h9 => h9) rfl (by decide +kernel) rfl rfl (Nat.le_of_ble_eq_true rfl) dX8_readEvent_184 (fun F101 H locs eF102 hw => ?_)
              have hF103 : MoF ad cI F101 o a h sn tx (va_up ((va_up ((va_up ((va_up ((va_up ((va_up k 4 (nI (tn pl)))) 3 (nI (pl + 1)))) 3 (nI (if isn tn len ((pl + 1)) 48 (48 + 8) then ((pl + 1)) + 1 else ((pl + 1)))))) 5 (nI v))) 3 (nI (if isn tn len ((pl + 2)) 48 (48 + 8) then ((pl + 2)) + 1 else ((pl + 2)))))) 6 ((-5))) := by rw [eF102]; exact MoF.pt hF97 6 ((-5)) _ rfl
              have hr104 := fr_eq eF102 (Nat.le_refl _) (Nat.lt_succ_self _)
              replace hfr := hfr.tr hr104 (by omega) (by omega)
              refine lv_aload_n X.1 X.2.1 dX8_readEvent_187 rfl (lv_at hl 0 rfl) ?_
              refine x_get X hK hw (C := RX8) (T := TX8) (nf := 12) (k := o) (by omega) hF103.1 rfl inX8 10 (by decide) q878 (fun _ h9 => h9) rfl dX8_readEvent_188 ?_
              refine x_top (y := ((-5))) rfl ?_
              refine lv_bipush (v := (-5)) X.1 X.2.1 dX8_readEvent_191 (by decide) ?_
              refine lv_icmp_eq (tgt := 200) X.1 X.2.1 dX8_readEvent_193 (by decide) (fun c105 => ?_) (fun c105 => ?_)
              · refine lv_iconst (v := nI 0) X.1 X.2.1 dX8_readEvent_200 (by decide) ?_
                exact x_iret X hr hlk hK hw (v := nI 0) (by decide +kernel) (⟨⟨_, hF103, rfl, rfl, rfl, rfl, (by have hre : re tn len pl = none := (by simp [re, hL, ← he, ← he2]); rw [hre]; exact ⟨rfl, (by rw [show rf tn len pl = pl + 2 from by simp [rf, hL, ← he]]; show nI (if isn tn len (pl + 2) 48 (48 + 8) then pl + 2 + 1 else pl + 2) = _; rw [if_neg (rd_none he2.symm)])⟩)⟩, hfr⟩) dX8_readEvent_201
              · exact absurd rfl c105
            · have hb_w := (by have q := rd_some he2.symm; have := (htn _ q.1.1).2; omega : w < 2 ^ 31)
              refine x_top (y := nI w) rfl ?_
              refine x_put2 X hI hK hw (C := RX8) (T := TX8) (nf := 12) (k := o) (ty := .int) (v := .int (nI w)) (by omega) hF97.1 rfl inX8 tyX8 tyX8_ok nmX8 10 (by decide) q878 (fun _ h9 => h9) rfl (by decide +kernel) rfl rfl (Nat.le_of_ble_eq_true rfl) dX8_readEvent_184 (fun F106 H locs eF107 hw => ?_)
              have hF108 : MoF ad cI F106 o a h sn tx (va_up ((va_up ((va_up ((va_up ((va_up ((va_up k 4 (nI (tn pl)))) 3 (nI (pl + 1)))) 3 (nI (if isn tn len ((pl + 1)) 48 (48 + 8) then ((pl + 1)) + 1 else ((pl + 1)))))) 5 (nI v))) 3 (nI (if isn tn len ((pl + 2)) 48 (48 + 8) then ((pl + 2)) + 1 else ((pl + 2)))))) 6 (nI w)) := by rw [eF107]; exact MoF.pt hF97 6 (nI w) _ rfl
              have hr109 := fr_eq eF107 (Nat.le_refl _) (Nat.lt_succ_self _)
              replace hfr := hfr.tr hr109 (by omega) (by omega)
              refine lv_aload_n X.1 X.2.1 dX8_readEvent_187 rfl (lv_at hl 0 rfl) ?_
              refine x_get X hK hw (C := RX8) (T := TX8) (nf := 12) (k := o) (by omega) hF108.1 rfl inX8 10 (by decide) q878 (fun _ h9 => h9) rfl dX8_readEvent_188 ?_
              refine x_top (y := nI w) rfl ?_
              refine lv_bipush (v := (-5)) X.1 X.2.1 dX8_readEvent_191 (by decide) ?_
              refine lv_icmp_eq (tgt := 200) X.1 X.2.1 dX8_readEvent_193 (by decide) (fun c110 => ?_) (fun c110 => ?_)
              · exact absurd c110 (nI_ne5 (by omega))
              · refine lv_iconst (v := nI 1) X.1 X.2.1 dX8_readEvent_196 (by decide) ?_
                refine lv_goto (tgt := 201) X.1 X.2.1 dX8_readEvent_197 (by decide) ?_
                exact x_iret X hr hlk hK hw (v := nI 1) (by decide +kernel) (⟨⟨_, hF108, rfl, rfl, rfl, rfl, (by have hre : re tn len pl = some (104, v, w, pl + 3) := (by simp [re, hL, ← he, ← he2]); rw [hre]; exact ⟨rfl, (by show nI (tn pl) = nI 104; rw [htp]), rfl, fun _ => rfl, (by show nI (if isn tn len (pl + 2) 48 (48 + 8) then pl + 2 + 1 else pl + 2) = _; rw [if_pos (rd_some he2.symm).1])⟩)⟩, hfr⟩) dX8_readEvent_201
          · exact absurd c95 (by decide)
        · exact absurd c94 (nI_ne5 (by omega))
    · refine lv_lookup (tgt := 115) X.1 X.2.1 dX8_readEvent_42 (by decide) (by rw [c23] <;> rfl) (by decide) ?_
      have htp : tn pl = 108 := (nI_eq (by have := (htn _ hj).2; omega) (by omega)).mp c23
      have hL : reL tn len pl = 108 := by rw [reL, if_pos hj]; exact htp
      refine lv_aload_n X.1 X.2.1 dX8_readEvent_115 rfl (lv_at hl 0 rfl) ?_
      refine lv_aload_n X.1 X.2.1 dX8_readEvent_116 rfl (lv_at hl 0 rfl) ?_
      refine lv_bipush (v := nI 8) X.1 X.2.1 dX8_readEvent_117 (by decide) ?_
      refine x_callV X hK hw (k := o) (As := [.int (nI 8)]) (rest := [.ref (ad o)]) (k_X8_readDigit hI o a h sn tx ((va_up ((va_up k 4 (nI (tn pl)))) 3 (nI (pl + 1)))) 8 len ((pl + 1)) tn (by omega) hF21 hlen (by omega) rfl (by omega) htn (by omega)) (x_cwV yX8_readDigit cX8_readDigit 3 (some .int) 1 X q1104 q1106 qs48 q14 q1107 hd_X8_readDigit ⟨Nat.le_of_ble_eq_true rfl, Nat.le_of_ble_eq_true rfl⟩) (by omega) hF21.1 rfl rfl hl.1 rfl (Nat.le_of_ble_eq_true rfl) dX8_readEvent_119 ⟨Nat.le_of_ble_eq_true rfl, Nat.le_of_ble_eq_true rfl⟩ (fun r114 F111 H locs hp hw => ?_)
      obtain ⟨er115, hF112, hr113⟩ := hp
      refine x_top er115 ?_
      replace hfr := hfr.tr hr113 (by omega) (by omega)
      obtain ⟨fo, he⟩ : ∃ y, y = rd tn len (pl + 1) 8 := ⟨_, rfl⟩
      rw [← he]
      rcases fo with _ | v
      · refine x_top (y := (-5)) rfl ?_
        refine x_put2 X hI hK hw (C := RX8) (T := TX8) (nf := 12) (k := o) (ty := .int) (v := .int ((-5))) (by omega) hF112.1 rfl inX8 tyX8 tyX8_ok nmX8 9 (by decide) q877 (fun _ h9 => h9) rfl (by decide +kernel) rfl rfl (Nat.le_of_ble_eq_true rfl) dX8_readEvent_122 (fun F116 H locs eF117 hw => ?_)
        have hF118 : MoF ad cI F116 o a h sn tx (va_up ((va_up ((va_up ((va_up k 4 (nI (tn pl)))) 3 (nI (pl + 1)))) 3 (nI (if isn tn len ((pl + 1)) 48 (48 + 8) then ((pl + 1)) + 1 else ((pl + 1)))))) 5 ((-5))) := by rw [eF117]; exact MoF.pt hF112 5 ((-5)) _ rfl
        have hr119 := fr_eq eF117 (Nat.le_refl _) (Nat.lt_succ_self _)
        replace hfr := hfr.tr hr119 (by omega) (by omega)
        refine lv_aload_n X.1 X.2.1 dX8_readEvent_125 rfl (lv_at hl 0 rfl) ?_
        refine x_get X hK hw (C := RX8) (T := TX8) (nf := 12) (k := o) (by omega) hF118.1 rfl inX8 9 (by decide) q877 (fun _ h9 => h9) rfl dX8_readEvent_126 ?_
        refine x_top (y := ((-5))) rfl ?_
        refine lv_bipush (v := (-5)) X.1 X.2.1 dX8_readEvent_129 (by decide) ?_
        refine lv_icmp_eq (tgt := 138) X.1 X.2.1 dX8_readEvent_131 (by decide) (fun c120 => ?_) (fun c120 => ?_)
        · refine lv_iconst (v := nI 0) X.1 X.2.1 dX8_readEvent_138 (by decide) ?_
          exact x_iret X hr hlk hK hw (v := nI 0) (by decide +kernel) (⟨⟨_, hF118, rfl, rfl, rfl, rfl, (by have hre : re tn len pl = none := (by simp [re, hL, ← he]); rw [hre]; exact ⟨rfl, (by rw [show rf tn len pl = pl + 1 from by simp [rf, hL]]; show nI (if isn tn len (pl + 1) 48 (48 + 8) then pl + 1 + 1 else pl + 1) = _; rw [if_neg (rd_none he.symm)])⟩)⟩, hfr⟩) dX8_readEvent_139
        · exact absurd rfl c120
      · have hb_v := (by have q := rd_some he.symm; have := (htn _ q.1.1).2; omega : v < 2 ^ 31)
        refine x_top (y := nI v) rfl ?_
        refine x_put2 X hI hK hw (C := RX8) (T := TX8) (nf := 12) (k := o) (ty := .int) (v := .int (nI v)) (by omega) hF112.1 rfl inX8 tyX8 tyX8_ok nmX8 9 (by decide) q877 (fun _ h9 => h9) rfl (by decide +kernel) rfl rfl (Nat.le_of_ble_eq_true rfl) dX8_readEvent_122 (fun F121 H locs eF122 hw => ?_)
        have hF123 : MoF ad cI F121 o a h sn tx (va_up ((va_up ((va_up ((va_up k 4 (nI (tn pl)))) 3 (nI (pl + 1)))) 3 (nI (if isn tn len ((pl + 1)) 48 (48 + 8) then ((pl + 1)) + 1 else ((pl + 1)))))) 5 (nI v)) := by rw [eF122]; exact MoF.pt hF112 5 (nI v) _ rfl
        have hr124 := fr_eq eF122 (Nat.le_refl _) (Nat.lt_succ_self _)
        replace hfr := hfr.tr hr124 (by omega) (by omega)
        refine lv_aload_n X.1 X.2.1 dX8_readEvent_125 rfl (lv_at hl 0 rfl) ?_
        refine x_get X hK hw (C := RX8) (T := TX8) (nf := 12) (k := o) (by omega) hF123.1 rfl inX8 9 (by decide) q877 (fun _ h9 => h9) rfl dX8_readEvent_126 ?_
        refine x_top (y := nI v) rfl ?_
        refine lv_bipush (v := (-5)) X.1 X.2.1 dX8_readEvent_129 (by decide) ?_
        refine lv_icmp_eq (tgt := 138) X.1 X.2.1 dX8_readEvent_131 (by decide) (fun c125 => ?_) (fun c125 => ?_)
        · exact absurd c125 (nI_ne5 (by omega))
        · refine lv_iconst (v := nI 1) X.1 X.2.1 dX8_readEvent_134 (by decide) ?_
          refine lv_goto (tgt := 139) X.1 X.2.1 dX8_readEvent_135 (by decide) ?_
          exact x_iret X hr hlk hK hw (v := nI 1) (by decide +kernel) (⟨⟨_, hF123, rfl, rfl, rfl, rfl, (by have hre : re tn len pl = some (108, v, 0, pl + 2) := (by simp [re, hL, ← he]); rw [hre]; exact ⟨rfl, (by show nI (tn pl) = nI 108; rw [htp]), rfl, (fun q => by simp at q), (by show nI (if isn tn len (pl + 1) 48 (48 + 8) then pl + 1 + 1 else pl + 1) = _; rw [if_pos (rd_some he.symm).1])⟩)⟩, hfr⟩) dX8_readEvent_139
    · refine lv_lookup (tgt := 115) X.1 X.2.1 dX8_readEvent_42 (by decide) (by rw [c23] <;> rfl) (by decide) ?_
      have htp : tn pl = 114 := (nI_eq (by have := (htn _ hj).2; omega) (by omega)).mp c23
      have hL : reL tn len pl = 114 := by rw [reL, if_pos hj]; exact htp
      refine lv_aload_n X.1 X.2.1 dX8_readEvent_115 rfl (lv_at hl 0 rfl) ?_
      refine lv_aload_n X.1 X.2.1 dX8_readEvent_116 rfl (lv_at hl 0 rfl) ?_
      refine lv_bipush (v := nI 8) X.1 X.2.1 dX8_readEvent_117 (by decide) ?_
      refine x_callV X hK hw (k := o) (As := [.int (nI 8)]) (rest := [.ref (ad o)]) (k_X8_readDigit hI o a h sn tx ((va_up ((va_up k 4 (nI (tn pl)))) 3 (nI (pl + 1)))) 8 len ((pl + 1)) tn (by omega) hF21 hlen (by omega) rfl (by omega) htn (by omega)) (x_cwV yX8_readDigit cX8_readDigit 3 (some .int) 1 X q1104 q1106 qs48 q14 q1107 hd_X8_readDigit ⟨Nat.le_of_ble_eq_true rfl, Nat.le_of_ble_eq_true rfl⟩) (by omega) hF21.1 rfl rfl hl.1 rfl (Nat.le_of_ble_eq_true rfl) dX8_readEvent_119 ⟨Nat.le_of_ble_eq_true rfl, Nat.le_of_ble_eq_true rfl⟩ (fun r129 F126 H locs hp hw => ?_)
      obtain ⟨er130, hF127, hr128⟩ := hp
      refine x_top er130 ?_
      replace hfr := hfr.tr hr128 (by omega) (by omega)
      obtain ⟨fo, he⟩ : ∃ y, y = rd tn len (pl + 1) 8 := ⟨_, rfl⟩
      rw [← he]
      rcases fo with _ | v
      · refine x_top (y := (-5)) rfl ?_
        refine x_put2 X hI hK hw (C := RX8) (T := TX8) (nf := 12) (k := o) (ty := .int) (v := .int ((-5))) (by omega) hF127.1 rfl inX8 tyX8 tyX8_ok nmX8 9 (by decide) q877 (fun _ h9 => h9) rfl (by decide +kernel) rfl rfl (Nat.le_of_ble_eq_true rfl) dX8_readEvent_122 (fun F131 H locs eF132 hw => ?_)
        have hF133 : MoF ad cI F131 o a h sn tx (va_up ((va_up ((va_up ((va_up k 4 (nI (tn pl)))) 3 (nI (pl + 1)))) 3 (nI (if isn tn len ((pl + 1)) 48 (48 + 8) then ((pl + 1)) + 1 else ((pl + 1)))))) 5 ((-5))) := by rw [eF132]; exact MoF.pt hF127 5 ((-5)) _ rfl
        have hr134 := fr_eq eF132 (Nat.le_refl _) (Nat.lt_succ_self _)
        replace hfr := hfr.tr hr134 (by omega) (by omega)
        refine lv_aload_n X.1 X.2.1 dX8_readEvent_125 rfl (lv_at hl 0 rfl) ?_
        refine x_get X hK hw (C := RX8) (T := TX8) (nf := 12) (k := o) (by omega) hF133.1 rfl inX8 9 (by decide) q877 (fun _ h9 => h9) rfl dX8_readEvent_126 ?_
        refine x_top (y := ((-5))) rfl ?_
        refine lv_bipush (v := (-5)) X.1 X.2.1 dX8_readEvent_129 (by decide) ?_
        refine lv_icmp_eq (tgt := 138) X.1 X.2.1 dX8_readEvent_131 (by decide) (fun c135 => ?_) (fun c135 => ?_)
        · refine lv_iconst (v := nI 0) X.1 X.2.1 dX8_readEvent_138 (by decide) ?_
          exact x_iret X hr hlk hK hw (v := nI 0) (by decide +kernel) (⟨⟨_, hF133, rfl, rfl, rfl, rfl, (by have hre : re tn len pl = none := (by simp [re, hL, ← he]); rw [hre]; exact ⟨rfl, (by rw [show rf tn len pl = pl + 1 from by simp [rf, hL]]; show nI (if isn tn len (pl + 1) 48 (48 + 8) then pl + 1 + 1 else pl + 1) = _; rw [if_neg (rd_none he.symm)])⟩)⟩, hfr⟩) dX8_readEvent_139
        · exact absurd rfl c135
      · have hb_v := (by have q := rd_some he.symm; have := (htn _ q.1.1).2; omega : v < 2 ^ 31)
        refine x_top (y := nI v) rfl ?_
        refine x_put2 X hI hK hw (C := RX8) (T := TX8) (nf := 12) (k := o) (ty := .int) (v := .int (nI v)) (by omega) hF127.1 rfl inX8 tyX8 tyX8_ok nmX8 9 (by decide) q877 (fun _ h9 => h9) rfl (by decide +kernel) rfl rfl (Nat.le_of_ble_eq_true rfl) dX8_readEvent_122 (fun F136 H locs eF137 hw => ?_)
        have hF138 : MoF ad cI F136 o a h sn tx (va_up ((va_up ((va_up ((va_up k 4 (nI (tn pl)))) 3 (nI (pl + 1)))) 3 (nI (if isn tn len ((pl + 1)) 48 (48 + 8) then ((pl + 1)) + 1 else ((pl + 1)))))) 5 (nI v)) := by rw [eF137]; exact MoF.pt hF127 5 (nI v) _ rfl
        have hr139 := fr_eq eF137 (Nat.le_refl _) (Nat.lt_succ_self _)
        replace hfr := hfr.tr hr139 (by omega) (by omega)
        refine lv_aload_n X.1 X.2.1 dX8_readEvent_125 rfl (lv_at hl 0 rfl) ?_
        refine x_get X hK hw (C := RX8) (T := TX8) (nf := 12) (k := o) (by omega) hF138.1 rfl inX8 9 (by decide) q877 (fun _ h9 => h9) rfl dX8_readEvent_126 ?_
        refine x_top (y := nI v) rfl ?_
        refine lv_bipush (v := (-5)) X.1 X.2.1 dX8_readEvent_129 (by decide) ?_
        refine lv_icmp_eq (tgt := 138) X.1 X.2.1 dX8_readEvent_131 (by decide) (fun c140 => ?_) (fun c140 => ?_)
        · exact absurd c140 (nI_ne5 (by omega))
        · refine lv_iconst (v := nI 1) X.1 X.2.1 dX8_readEvent_134 (by decide) ?_
          refine lv_goto (tgt := 139) X.1 X.2.1 dX8_readEvent_135 (by decide) ?_
          exact x_iret X hr hlk hK hw (v := nI 1) (by decide +kernel) (⟨⟨_, hF138, rfl, rfl, rfl, rfl, (by have hre : re tn len pl = some (114, v, 0, pl + 2) := (by simp [re, hL, ← he]); rw [hre]; exact ⟨rfl, (by show nI (tn pl) = nI 114; rw [htp]), rfl, (fun q => by simp at q), (by show nI (if isn tn len (pl + 1) 48 (48 + 8) then pl + 1 + 1 else pl + 1) = _; rw [if_pos (rd_some he.symm).1])⟩)⟩, hfr⟩) dX8_readEvent_139
    · refine lv_lookup (off := 160) (tgt := 202) X.1 X.2.1 dX8_readEvent_42 (by decide) (lsd_of (ks := [43, 98, 104, 108, 114]) (os := [50, 98, 98, 73, 73]) c23) (by decide) ?_
      have hL : reL tn len pl ≠ 43 ∧ reL tn len pl ≠ 98 ∧ reL tn len pl ≠ 104 ∧ reL tn len pl ≠ 108 ∧ reL tn len pl ≠ 114 := by rw [reL, if_pos hj]; exact ⟨fun q => c23 43 (by simp) (by rw [q]; rfl), fun q => c23 98 (by simp) (by rw [q]; rfl), fun q => c23 104 (by simp) (by rw [q]; rfl), fun q => c23 108 (by simp) (by rw [q]; rfl), fun q => c23 114 (by simp) (by rw [q]; rfl)⟩
      refine lv_aload_n X.1 X.2.1 dX8_readEvent_202 rfl (lv_at hl 0 rfl) ?_
      refine lv_dup X.1 X.2.1 dX8_readEvent_203 rfl ?_
      refine x_get X hK hw (C := RX8) (T := TX8) (nf := 12) (k := o) (by omega) hF21.1 rfl inX8 7 (by decide) q875 (fun _ h9 => h9) rfl dX8_readEvent_204 ?_
      refine x_top (y := nI (pl + 1)) rfl ?_
      refine lv_iconst (v := nI 1) X.1 X.2.1 dX8_readEvent_207 (by decide) ?_
      refine lv_isub X.1 X.2.1 dX8_readEvent_208 ?_
      refine x_top (pk_sub (by omega)) ?_
      refine x_put2 X hI hK hw (C := RX8) (T := TX8) (nf := 12) (k := o) (ty := .int) (v := .int (nI ((pl + 1) - 1))) (by omega) hF21.1 rfl inX8 tyX8 tyX8_ok nmX8 7 (by decide) q875 (fun _ h9 => h9) rfl (by decide +kernel) rfl rfl (Nat.le_of_ble_eq_true rfl) dX8_readEvent_209 (fun F141 H locs eF142 hw => ?_)
      have hF143 : MoF ad cI F141 o a h sn tx (va_up ((va_up ((va_up k 4 (nI (tn pl)))) 3 (nI (pl + 1)))) 3 (nI ((pl + 1) - 1))) := by rw [eF142]; exact MoF.pt hF21 3 (nI ((pl + 1) - 1)) _ rfl
      have hr144 := fr_eq eF142 (Nat.le_refl _) (Nat.lt_succ_self _)
      replace hfr := hfr.tr hr144 (by omega) (by omega)
      refine lv_iconst (v := nI 0) X.1 X.2.1 dX8_readEvent_212 (by decide) ?_
      exact x_iret X hr hlk hK hw (v := nI 0) (by decide +kernel) (⟨⟨_, hF143, rfl, rfl, rfl, rfl, (by have hre : re tn len pl = none := (by simp [re, hL]); rw [hre]; exact ⟨rfl, (by rw [show rf tn len pl = pl from by simp [rf, hL]]; rfl)⟩)⟩, hfr⟩) dX8_readEvent_213
