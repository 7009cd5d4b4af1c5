set_option maxHeartbeats 4000000 in
set_option maxRecDepth 100000 in
theorem k_X8_run {l : Launch} {D : va_G} {cI cB cS : ClassId} {ad : Nat → Nat} {N : Nat} {F : Nat → va_E} (hI : iN ad N) (o : Nat) (a : Nat → Int32) (h : Nat → Int32) (sn : Nat → Int32) (tx : Nat → Int32) (k : Nat → Int32) (len : Nat) (tn : Nat → Nat) (nb : Nat) (nr : Nat) (np : Nat) (kp : Nat) (hc5 : o + 5 ≤ N) (hF : MoF ad cI F o a h sn tx k) (hlen : k 2 = nI len) (hl80 : len ≤ 80) (htn : ∀ j, j < len → tx j = nI (tn j) ∧ tn j < 128) (h1 : a 1 = nI nb) (hb9 : nb ≤ 9) (h2 : a 2 = nI nr) (hr6 : nr ≤ 6) (h3 : a 3 = nI np) (hp10 : np ≤ 10) (hbu : 0 < nr → ¬ m_r a (nr - 1) 0 = 0) (hk0 : k 0 = nI kp) (hk4 : kp ≤ 4) : Ci l D cI cB cS ad N yX8_run cX8_run 1 (some .int) 6 129 [.ref (ad o)] F (fun r F' => (¬ (pt tn len (len + 1) 0 0).1 = true ∧ r = (-100) - nI (pt tn len (len + 1) 0 0).2.1 ∧ (∃ k', MoF ad cI F' o a h sn tx k' ∧ k' 0 = k 0 ∧ k' 1 = k 1 ∧ k' 2 = nI len) ∧ Fr F F' o (o + 5)) ∨ ((pt tn len (len + 1) 0 0).1 = true ∧ r = (if (pr tn len nr (len + 1) 0 0 a).1 = true then nI (pr tn len nr (len + 1) 0 0 a).2.1 else nI 0) ∧ (∃ k', MoF ad cI F' o (pr tn len nr (len + 1) 0 0 a).2.2 (m_hn a h kp) sn tx k' ∧ k' 0 = nI (m_kn kp) ∧ k' 1 = k 1 ∧ k' 2 = nI len) ∧ Fr F F' o (o + 5))) := by
  refine x_met (by decide +kernel) (Nat.le_of_ble_eq_true rfl) ?_
  intro p e s m below meth c X hr hlk hK hw ls hl
  replace hl : lv_has ls 1 [(0, .ref (ad o))] := hl
  have hfr : Fr F F (o) (o + 5) := Fr.rf
  refine lv_aload_n X.1 X.2.1 dX8_run_0 rfl (lv_at hl 0 rfl) ?_
  refine lv_iconst (v := nI 0) X.1 X.2.1 dX8_run_1 (by decide) ?_
  refine x_callV X hK hw (k := o) (As := [.int (nI 0)]) (rest := []) (k_X8_readText_f hI o a h sn tx k len tn (by omega) hF hlen (by omega) htn) (x_cwV yX8_readText cX8_readText 3 (some .boolean) 1 X q1088 q1090 qs44 q14 q1091 hd_X8_readText ⟨Nat.le_of_ble_eq_true rfl, Nat.le_of_ble_eq_true rfl⟩) (by omega) hF.1 rfl rfl hl.1 rfl (Nat.le_of_ble_eq_true rfl) dX8_run_2 ⟨Nat.le_of_ble_eq_true rfl, Nat.le_of_ble_eq_true rfl⟩ (fun r1 F1 H locs hpp hw => ?_)
  obtain ⟨er, ⟨k1, hF2, e0, e1, e2, e3⟩, hr3⟩ := hpp
  refine x_top er ?_
  replace hfr := hfr.tr hr3 (by omega) (by omega)
  refine lv_if_ne (tgt := 16) X.1 X.2.1 dX8_run_5 (by decide) (fun c4 => ?_) (fun c4 => ?_)
  · replace c4 := bIb_nz c4
    refine lv_aload_n X.1 X.2.1 dX8_run_16 rfl (lv_at hl 0 rfl) ?_
    refine x_callVv X hK hw (k := o) (As := []) (rest := []) (k_X8_record hI o a h sn tx k1 kp (by omega) hF2 (e0.trans hk0) (by omega)) (x_cwV yX8_record cX8_record 2 none 0 X q912 q914 qs17 q14 q915 hd_X8_record ⟨Nat.le_of_ble_eq_true rfl, Nat.le_of_ble_eq_true rfl⟩) (by omega) hF2.1 rfl rfl hl.1 rfl (Nat.le_of_ble_eq_true rfl) dX8_run_17 ⟨Nat.le_of_ble_eq_true rfl, Nat.le_of_ble_eq_true rfl⟩ (fun F5 H locs hp hw => ?_)
    obtain ⟨hF6, hr7⟩ := hp
    replace hfr := hfr.tr hr7 (by omega) (by omega)
    refine lv_aload_n X.1 X.2.1 dX8_run_20 rfl (lv_at hl 0 rfl) ?_
    refine lv_iconst (v := nI 1) X.1 X.2.1 dX8_run_21 (by decide) ?_
    refine x_callV X hK hw (k := o) (As := [.int (nI 1)]) (rest := []) (k_X8_readText_t hI o a ((m_hn a h kp)) sn tx ((va_up k1 0 (nI (m_kn kp)))) len tn nb nr np (by omega) hF6 e2 (by omega) htn h1 (by omega) h2 (by omega) h3 (by omega) hbu) (x_cwV yX8_readText cX8_readText 3 (some .boolean) 1 X q1088 q1090 qs44 q14 q1091 hd_X8_readText ⟨Nat.le_of_ble_eq_true rfl, Nat.le_of_ble_eq_true rfl⟩) (by omega) hF6.1 rfl rfl hl.1 rfl (Nat.le_of_ble_eq_true rfl) dX8_run_22 ⟨Nat.le_of_ble_eq_true rfl, Nat.le_of_ble_eq_true rfl⟩ (fun r2 F8 H locs hpp hw => ?_)
    obtain ⟨er2, ⟨k2, hF9, f0, f1, f2, f7⟩, hr10⟩ := hpp
    refine x_top er2 ?_
    replace hfr := hfr.tr hr10 (by omega) (by omega)
    refine lv_if_eq (tgt := 35) X.1 X.2.1 dX8_run_25 (by decide) (fun c11 => ?_) (fun c11 => ?_)
    · replace c11 := bIb_z c11
      refine lv_iconst (v := nI 0) X.1 X.2.1 dX8_run_35 (by decide) ?_
      exact x_iret X hr hlk hK hw (v := nI 0) rfl (Or.inr ⟨c4, (if_neg (by rw [c11]; decide)).symm, ⟨_, hF9, f0, f1.trans e1, f2⟩, hfr⟩) dX8_run_36
    · replace c11 := bIb_nz c11
      refine lv_aload_n X.1 X.2.1 dX8_run_28 rfl (lv_at hl 0 rfl) ?_
      refine x_get X hK hw (C := RX8) (T := TX8) (nf := 12) (k := o) (by omega) hF9.1 rfl inX8 11 (by decide) q879 (fun _ h9 => h9) rfl dX8_run_29 ?_
      refine x_top (y := nI ((pr tn len nr (len + 1) 0 0 a).2.1)) f7 ?_
      refine lv_goto (tgt := 36) X.1 X.2.1 dX8_run_32 (by decide) ?_
      exact x_iret X hr hlk hK hw (v := nI ((pr tn len nr (len + 1) 0 0 a).2.1)) rfl (Or.inr ⟨c4, (if_pos c11).symm, ⟨_, hF9, f0, f1.trans e1, f2⟩, hfr⟩) dX8_run_36
  · replace c4 := bIb_z c4
    refine lv_bipush (v := (-100)) X.1 X.2.1 dX8_run_8 (by decide) ?_
    refine lv_aload_n X.1 X.2.1 dX8_run_10 rfl (lv_at hl 0 rfl) ?_
    refine x_get X hK hw (C := RX8) (T := TX8) (nf := 12) (k := o) (by omega) hF2.1 rfl inX8 7 (by decide) q875 (fun _ h9 => h9) rfl dX8_run_11 ?_
    refine x_top (y := nI ((pt tn len (len + 1) 0 0).2.1)) e3 ?_
    refine lv_isub X.1 X.2.1 dX8_run_14 ?_
    exact x_iret X hr hlk hK hw (v := ((-100)) - (nI ((pt tn len (len + 1) 0 0).2.1))) rfl (Or.inl ⟨(by rw [c4]; decide), rfl, ⟨_, hF2, e0, e1, e2⟩, hfr⟩) dX8_run_15
