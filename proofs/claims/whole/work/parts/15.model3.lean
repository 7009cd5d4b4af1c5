def m_sh (h : Nat → Int32) : Nat → (Nat → Int32)
  | 0 => h
  | i + 1 => upd (m_sh h i) i (m_sh h i (404 + i))
def m_kn (kp : Nat) : Nat := if kp = 4 then 4 else kp + 1
def m_hn (a h : Nat → Int32) (kp : Nat) : Nat → Int32 := if kp = 4 then cpy a (m_sh h 1212) 0 (404 * 3) 404 else cpy a h 0 (404 * kp) 404
theorem kp_4 {k : Nat → Int32} {kp : Nat} (hk : k 0 = nI kp) (h4 : kp ≤ 4) (h : k 0 = nI 4) : kp = 4 := by
  rw [hk, nI_eq (by omega) (by omega)] at h; exact h
theorem kp_n4 {k : Nat → Int32} {kp : Nat} (hk : k 0 = nI kp) (h : ¬ k 0 = nI 4) : ¬ kp = 4 := fun q => h (by rw [hk, q])
theorem MoF.kk {ad : Nat → Nat} {cI : ClassId} {F : Nat → va_E} {o : Nat} {a h sn tx k : Nat → Int32} {x y : Int32} (hm : MoF ad cI F o a h sn tx (va_up (va_up k 0 x) 0 y)) : MoF ad cI F o a h sn tx (va_up k 0 y) := hm
theorem hd_X8_copy : yX8_copy.cls = RX8 ∧ yX8_copy.cls ≠ "java/lang/invoke/MethodHandle" ∧ yX8_copy.cls ≠ "java/lang/invoke/VarHandle" ∧ (parseMethodDescriptor yX8_copy.desc).map (fun d => d.parameters.length) = some 4 := by decide +kernel
set_option maxHeartbeats 4000000 in
set_option maxRecDepth 100000 in
theorem k_X8_record {l : Launch} {D : va_G} {cI cB cS : ClassId} {ad : Nat → Nat} {N : Nat} {F : Nat → va_E} (hI : iN ad N) (o : Nat) (a : Nat → Int32) (h : Nat → Int32) (sn : Nat → Int32) (tx : Nat → Int32) (k : Nat → Int32) (kp : Nat) (hc5 : o + 5 ≤ N) (hF : MoF ad cI F o a h sn tx k) (hk0 : k 0 = nI kp) (hk4 : kp ≤ 4) : Cv l D cI cB cS ad N yX8_record cX8_record 2 1 24 [.ref (ad o)] F (fun F' => MoF ad cI F' o (a) (m_hn a h kp) (sn) (tx) (va_up k 0 (nI (m_kn kp))) ∧ Fr F F' o (o + 5)) := by
  refine x_metv (by decide +kernel) (Nat.le_of_ble_eq_true rfl) ?_
  intro p e s m below meth c X hr hlk hK hw ls hl
  replace hl : lv_has ls 2 [(0, .ref (ad o))] := hl
  have hfr : Fr F F (o) (o + 5) := Fr.rf
  refine lv_aload_n X.1 X.2.1 dX8_record_0 rfl (lv_at hl 0 rfl) ?_
  refine x_get X hK hw (C := RX8) (T := TX8) (nf := 12) (k := o) (by omega) hF.1 rfl inX8 2 (by decide) q870 (fun _ h9 => h9) rfl dX8_record_1 ?_
  refine lv_iconst (v := nI 4) X.1 X.2.1 dX8_record_4 (by decide) ?_
  refine lv_icmp_ne (tgt := 49) X.1 X.2.1 dX8_record_5 (by decide) (fun c1 => ?_) (fun c1 => ?_)
  · have e4 := kp_n4 hk0 c1
    refine lv_aload_n X.1 X.2.1 dX8_record_49 rfl (lv_at hl 0 rfl) ?_
    refine x_get X hK hw (C := RX8) (T := TX8) (nf := 12) (k := o) (by omega) hF.1 rfl inX8 0 (by decide) q868 (fun _ h9 => h9) rfl dX8_record_50 ?_
    refine lv_iconst (v := nI 0) X.1 X.2.1 dX8_record_53 (by decide) ?_
    refine lv_aload_n X.1 X.2.1 dX8_record_54 rfl (lv_at hl 0 rfl) ?_
    refine x_get X hK hw (C := RX8) (T := TX8) (nf := 12) (k := o) (by omega) hF.1 rfl inX8 1 (by decide) q869 (fun _ h9 => h9) rfl dX8_record_55 ?_
    refine lv_sipush (v := nI 404) X.1 X.2.1 dX8_record_58 (by decide) ?_
    refine lv_aload_n X.1 X.2.1 dX8_record_61 rfl (lv_at hl 0 rfl) ?_
    refine x_get X hK hw (C := RX8) (T := TX8) (nf := 12) (k := o) (by omega) hF.1 rfl inX8 2 (by decide) q870 (fun _ h9 => h9) rfl dX8_record_62 ?_
    refine x_top (y := nI kp) hk0 ?_
    refine lv_imul X.1 X.2.1 dX8_record_65 ?_
    refine x_top (pk_mul _ _) ?_
    refine x_callSv X hK hw (As := [.ref (ad (o + 1)), .int (nI 0), .ref (ad (o + 2)), .int (nI (404 * kp))]) (rest := []) (k_X8_copy hI ((o + 1)) 404 a ((o + 2)) 1616 h 0 (404 * kp) (by omega) (by omega) hF.2.1 hF.2.2.1 (by omega) (by omega) (by omega) (by omega) (by omega)) (x_cwS yX8_copy cX8_copy 5 none 4 X q916 q917 q14 q918 hd_X8_copy ⟨Nat.le_of_ble_eq_true rfl, Nat.le_of_ble_eq_true rfl⟩) rfl hl.1 rfl (Nat.le_of_ble_eq_true rfl) dX8_record_66 ⟨Nat.le_of_ble_eq_true rfl, Nat.le_of_ble_eq_true rfl⟩ (fun F2 H locs hp hw => ?_)
    obtain ⟨hT3, hr4⟩ := hp
    have hF5 := MoF.ar1 hF hT3 hr4
    replace hfr := hfr.tr hr4 (by omega) (by omega)
    refine lv_aload_n X.1 X.2.1 dX8_record_69 rfl (lv_at hl 0 rfl) ?_
    refine lv_dup X.1 X.2.1 dX8_record_70 rfl ?_
    refine x_get X hK hw (C := RX8) (T := TX8) (nf := 12) (k := o) (by omega) hF5.1 rfl inX8 2 (by decide) q870 (fun _ h9 => h9) rfl dX8_record_71 ?_
    refine x_top (y := nI kp) hk0 ?_
    refine lv_iconst (v := nI 1) X.1 X.2.1 dX8_record_74 (by decide) ?_
    refine lv_iadd X.1 X.2.1 dX8_record_75 ?_
    refine x_top (nI_add _ _) ?_
    refine x_put2 X hI hK hw (C := RX8) (T := TX8) (nf := 12) (k := o) (ty := .int) (v := .int (nI (kp + 1))) (by omega) hF5.1 rfl inX8 tyX8 tyX8_ok nmX8 2 (by decide) q870 (fun _ h9 => h9) rfl (by decide +kernel) rfl rfl (Nat.le_of_ble_eq_true rfl) dX8_record_76 (fun F6 H locs eF7 hw => ?_)
    have hF8 : MoF ad cI F6 o a ((cpy a h 0 (404 * kp) 404)) sn tx (va_up k 0 (nI (kp + 1))) := by rw [eF7]; exact MoF.pt hF5 0 (nI (kp + 1)) _ rfl
    have hr9 := fr_eq eF7 (Nat.le_refl _) (Nat.lt_succ_self _)
    replace hfr := hfr.tr hr9 (by omega) (by omega)
    exact x_vret X hr hlk hK hw (⟨by have e := kp_n4 hk0 c1; rw [m_hn, m_kn, if_neg e, if_neg e]; exact hF8, hfr⟩) dX8_record_79
  · refine lv_iconst (v := nI 0) X.1 X.2.1 dX8_record_8 (by decide) ?_
    refine lv_istore_n (lv' := [(1, .int (nI 0)), (0, .ref (ad o))]) X.1 X.2.1 dX8_record_9 rfl hl (by decide) rfl (fun ls hl => ?_)
    have loop : ∀ (fu : Nat) (i : Nat) (F1 : Nat → va_E) (h1 : Nat → Int32) (hfu : i + fu = 1212) (he : h1 = m_sh h i) (hF : MoF ad cI F1 o a h1 sn tx k) (hfr : Fr F F1 o (o + 5)) (H : Heap) (locs : List Loc) (hw : HW D (Af ad N s.heap.size) ad N F1 s H locs) (ls : Array Slot) (hl : lv_has ls 2 [(1, .int (nI i)), (0, .ref (ad o))]), W p l e { frames := 1, cells := 0, slots := 0, locals := 24 } s m [.ref (ad o)].toArray below meth c H locs 0 0 (MQ below (va_Qv (fun F' => MoF ad cI F' o (a) (m_hn a h kp) (sn) (tx) (va_up k 0 (nI (m_kn kp))) ∧ Fr F F' o (o + 5)) (fun F' t => PO D ad N F' t) (Af ad N s.heap.size)) [.ref (ad o)].toArray s 0 0 (Af ad N s.heap.size)) (F0 m 10 ls []) := by
      intro fu
      induction fu with
      | zero =>
        intro i F1 h1 hfu he hF hfr H locs hw ls hl
        refine lv_iload_n X.1 X.2.1 dX8_record_10 rfl (lv_at hl 0 rfl) ?_
        refine lv_sipush (v := nI 1212) X.1 X.2.1 dX8_record_11 (by decide) ?_
        refine lv_icmp_ge (tgt := 39) X.1 X.2.1 dX8_record_14 (by decide) (fun c10 => ?_) (fun c10 => ?_)
        · refine lv_aload_n X.1 X.2.1 dX8_record_39 rfl (lv_at hl 1 rfl) ?_
          refine lv_dup X.1 X.2.1 dX8_record_40 rfl ?_
          refine x_get X hK hw (C := RX8) (T := TX8) (nf := 12) (k := o) (by omega) hF.1 rfl inX8 2 (by decide) q870 (fun _ h9 => h9) rfl dX8_record_41 ?_
          refine lv_iconst (v := nI 1) X.1 X.2.1 dX8_record_44 (by decide) ?_
          refine lv_isub X.1 X.2.1 dX8_record_45 ?_
          refine x_top (y := nI 3) (by rw [c1]; decide) ?_
          refine x_put2 X hI hK hw (C := RX8) (T := TX8) (nf := 12) (k := o) (ty := .int) (v := .int (nI 3)) (by omega) hF.1 rfl inX8 tyX8 tyX8_ok nmX8 2 (by decide) q870 (fun _ h9 => h9) rfl (by decide +kernel) rfl rfl (Nat.le_of_ble_eq_true rfl) dX8_record_46 (fun F11 H locs eF12 hw => ?_)
          have hF13 : MoF ad cI F11 o a h1 sn tx (va_up k 0 (nI 3)) := by rw [eF12]; exact MoF.pt hF 0 (nI 3) _ rfl
          have hr14 := fr_eq eF12 (Nat.le_refl _) (Nat.lt_succ_self _)
          replace hfr := hfr.tr hr14 (by omega) (by omega)
          refine lv_aload_n X.1 X.2.1 dX8_record_49 rfl (lv_at hl 1 rfl) ?_
          refine x_get X hK hw (C := RX8) (T := TX8) (nf := 12) (k := o) (by omega) hF13.1 rfl inX8 0 (by decide) q868 (fun _ h9 => h9) rfl dX8_record_50 ?_
          refine lv_iconst (v := nI 0) X.1 X.2.1 dX8_record_53 (by decide) ?_
          refine lv_aload_n X.1 X.2.1 dX8_record_54 rfl (lv_at hl 1 rfl) ?_
          refine x_get X hK hw (C := RX8) (T := TX8) (nf := 12) (k := o) (by omega) hF13.1 rfl inX8 1 (by decide) q869 (fun _ h9 => h9) rfl dX8_record_55 ?_
          refine lv_sipush (v := nI 404) X.1 X.2.1 dX8_record_58 (by decide) ?_
          refine lv_aload_n X.1 X.2.1 dX8_record_61 rfl (lv_at hl 1 rfl) ?_
          refine x_get X hK hw (C := RX8) (T := TX8) (nf := 12) (k := o) (by omega) hF13.1 rfl inX8 2 (by decide) q870 (fun _ h9 => h9) rfl dX8_record_62 ?_
          refine x_top (y := nI 3) rfl ?_
          refine lv_imul X.1 X.2.1 dX8_record_65 ?_
          refine x_top (pk_mul _ _) ?_
          refine x_callSv X hK hw (As := [.ref (ad (o + 1)), .int (nI 0), .ref (ad (o + 2)), .int (nI (404 * 3))]) (rest := []) (k_X8_copy hI ((o + 1)) 404 a ((o + 2)) 1616 h1 0 (404 * 3) (by omega) (by omega) hF13.2.1 hF13.2.2.1 (by omega) (by omega) (by omega) (by omega) (by omega)) (x_cwS yX8_copy cX8_copy 5 none 4 X q916 q917 q14 q918 hd_X8_copy ⟨Nat.le_of_ble_eq_true rfl, Nat.le_of_ble_eq_true rfl⟩) rfl hl.1 rfl (Nat.le_of_ble_eq_true rfl) dX8_record_66 ⟨Nat.le_of_ble_eq_true rfl, Nat.le_of_ble_eq_true rfl⟩ (fun F15 H locs hp hw => ?_)
          obtain ⟨hT16, hr17⟩ := hp
          have hF18 := MoF.ar1 hF13 hT16 hr17
          replace hfr := hfr.tr hr17 (by omega) (by omega)
          refine lv_aload_n X.1 X.2.1 dX8_record_69 rfl (lv_at hl 1 rfl) ?_
          refine lv_dup X.1 X.2.1 dX8_record_70 rfl ?_
          refine x_get X hK hw (C := RX8) (T := TX8) (nf := 12) (k := o) (by omega) hF18.1 rfl inX8 2 (by decide) q870 (fun _ h9 => h9) rfl dX8_record_71 ?_
          refine x_top (y := nI 3) rfl ?_
          refine lv_iconst (v := nI 1) X.1 X.2.1 dX8_record_74 (by decide) ?_
          refine lv_iadd X.1 X.2.1 dX8_record_75 ?_
          refine x_top (nI_add _ _) ?_
          refine x_put2 X hI hK hw (C := RX8) (T := TX8) (nf := 12) (k := o) (ty := .int) (v := .int (nI (3 + 1))) (by omega) hF18.1 rfl inX8 tyX8 tyX8_ok nmX8 2 (by decide) q870 (fun _ h9 => h9) rfl (by decide +kernel) rfl rfl (Nat.le_of_ble_eq_true rfl) dX8_record_76 (fun F19 H locs eF20 hw => ?_)
          have hF21 : MoF ad cI F19 o a ((cpy a h1 0 (404 * 3) 404)) sn tx (va_up ((va_up k 0 (nI 3))) 0 (nI (3 + 1))) := by rw [eF20]; exact MoF.pt hF18 0 (nI (3 + 1)) _ rfl
          have hr22 := fr_eq eF20 (Nat.le_refl _) (Nat.lt_succ_self _)
          replace hfr := hfr.tr hr22 (by omega) (by omega)
          exact x_vret X hr hlk hK hw (⟨by have e := kp_4 hk0 hk4 c1; rw [m_hn, m_kn, if_pos e, if_pos e, show m_sh h 1212 = h1 by rw [he, show i = 1212 by omega]]; exact MoF.kk hF21, hfr⟩) dX8_record_79
        · exact absurd (nI_le (by omega) (by omega)) c10
      | succ fu ih =>
        intro i F1 h1 hfu he hF hfr H locs hw ls hl
        refine lv_iload_n X.1 X.2.1 dX8_record_10 rfl (lv_at hl 0 rfl) ?_
        refine lv_sipush (v := nI 1212) X.1 X.2.1 dX8_record_11 (by decide) ?_
        refine lv_icmp_ge (tgt := 39) X.1 X.2.1 dX8_record_14 (by decide) (fun c23 => ?_) (fun c23 => ?_)
        · exact absurd c23 (nI_ge (by omega) (by omega))
        · refine lv_aload_n X.1 X.2.1 dX8_record_17 rfl (lv_at hl 1 rfl) ?_
          refine x_get X hK hw (C := RX8) (T := TX8) (nf := 12) (k := o) (by omega) hF.1 rfl inX8 1 (by decide) q869 (fun _ h9 => h9) rfl dX8_record_18 ?_
          refine lv_iload_n X.1 X.2.1 dX8_record_21 rfl (lv_at hl 0 rfl) ?_
          refine lv_aload_n X.1 X.2.1 dX8_record_22 rfl (lv_at hl 1 rfl) ?_
          refine x_get X hK hw (C := RX8) (T := TX8) (nf := 12) (k := o) (by omega) hF.1 rfl inX8 1 (by decide) q869 (fun _ h9 => h9) rfl dX8_record_23 ?_
          refine lv_sipush (v := nI 404) X.1 X.2.1 dX8_record_26 (by decide) ?_
          refine lv_iload_n X.1 X.2.1 dX8_record_29 rfl (lv_at hl 0 rfl) ?_
          refine lv_iadd X.1 X.2.1 dX8_record_30 ?_
          refine x_top (nI_add _ _) ?_
          refine x_ialdN X hK hw (k := (o + 2)) (by omega) hF.2.2.1 (i := nI (404 + i)) (j := 404 + i) rfl (by omega) (by omega) dX8_record_31 ?_
          refine x_iastN2 X hI hK hw (k := (o + 2)) (by omega) hF.2.2.1 (i := nI i) (j := i) rfl (by omega) (by omega) dX8_record_32 (fun F24 H locs eF25 hw => ?_)
          have hF26 := MoF.st1 hF eF25
          have hr27 := fr_eq eF25 (Nat.le_refl _) (Nat.lt_succ_self _)
          replace hfr := hfr.tr hr27 (by omega) (by omega)
          refine lv_iinc (v := nI (i + 1)) (lv' := [(1, .int (nI (i + 1))), (0, .ref (ad o))]) X.1 X.2.1 dX8_record_33 hl (k := 0) rfl (by first | exact nI_1 _ | exact nI_add _ _ | rfl) (by decide) rfl (fun ls hl => ?_)
          refine lv_goto (tgt := 10) X.1 X.2.1 dX8_record_36 (by decide) ?_
          exact ih (i + 1) F24 ((upd h1 i (h1 (404 + i)))) (by omega) (by rw [he, m_sh]) hF26 hfr _ _ hw _ (lv_sub hl [0, 1] rfl)
    exact loop 1212 0 F h (by omega) rfl hF hfr _ _ hw _ (lv_sub hl [0, 1] rfl)
def ly (a : Nat → Int32) (r b w : Nat) (v : Int32) : Nat → Int32 := upd a (80 + 6 * (9 * r + b) + w) v
def sgp (a : Nat → Int32) (p : Nat) (v : Int32) : Nat → Int32 := upd a (40 + 4 * p + 3) v
set_option maxHeartbeats 4000000 in
set_option maxRecDepth 100000 in
theorem k_X8_lay {l : Launch} {D : va_G} {cI cB cS : ClassId} {ad : Nat → Nat} {N : Nat} {F : Nat → va_E} (hI : iN ad N) (o : Nat) (a : Nat → Int32) (h : Nat → Int32) (sn : Nat → Int32) (tx : Nat → Int32) (k : Nat → Int32) (r : Nat) (b : Nat) (w : Nat) (v : Int32) (hc5 : o + 5 ≤ N) (hF : MoF ad cI F o a h sn tx k) (hi : 80 + 6 * (9 * r + b) + w < 404) : Cv l D cI cB cS ad N yX8_lay cX8_lay 5 0 0 [.ref (ad o), .int (nI r), .int (nI b), .int (nI w), .int v] F (fun F' => MoF ad cI F' o (ly a r b w v) (h) (sn) (tx) (k) ∧ Fr F F' o (o + 5)) := by
  refine x_metv (by decide +kernel) (Nat.le_of_ble_eq_true rfl) ?_
  intro p e s m below meth c X hr hlk hK hw ls hl
  replace hl : lv_has ls 5 [(0, .ref (ad o)), (1, .int (nI r)), (2, .int (nI b)), (3, .int (nI w)), (4, .int v)] := hl
  have hfr : Fr F F (o) (o + 5) := Fr.rf
  refine lv_aload_n X.1 X.2.1 dX8_lay_0 rfl (lv_at hl 0 rfl) ?_
  refine x_get X hK hw (C := RX8) (T := TX8) (nf := 12) (k := o) (by omega) hF.1 rfl inX8 0 (by decide) q868 (fun _ h9 => h9) rfl dX8_lay_1 ?_
  refine lv_bipush (v := nI 80) X.1 X.2.1 dX8_lay_4 (by decide) ?_
  refine lv_bipush (v := nI 6) X.1 X.2.1 dX8_lay_6 (by decide) ?_
  refine lv_bipush (v := nI 9) X.1 X.2.1 dX8_lay_8 (by decide) ?_
  refine lv_iload_n X.1 X.2.1 dX8_lay_10 rfl (lv_at hl 1 rfl) ?_
  refine lv_imul X.1 X.2.1 dX8_lay_11 ?_
  refine x_top (pk_mul _ _) ?_
  refine lv_iload_n X.1 X.2.1 dX8_lay_12 rfl (lv_at hl 2 rfl) ?_
  refine lv_iadd X.1 X.2.1 dX8_lay_13 ?_
  refine x_top (nI_add _ _) ?_
  refine lv_imul X.1 X.2.1 dX8_lay_14 ?_
  refine x_top (pk_mul _ _) ?_
  refine lv_iadd X.1 X.2.1 dX8_lay_15 ?_
  refine x_top (nI_add _ _) ?_
  refine lv_iload_n X.1 X.2.1 dX8_lay_16 rfl (lv_at hl 3 rfl) ?_
  refine lv_iadd X.1 X.2.1 dX8_lay_17 ?_
  refine x_top (nI_add _ _) ?_
  refine lv_iload X.1 X.2.1 dX8_lay_18 (lv_at hl 4 rfl) ?_
  refine x_iastN2 X hI hK hw (k := (o + 1)) (by omega) hF.2.1 (i := nI ((80 + (6 * ((9 * r) + b))) + w)) (j := (80 + (6 * ((9 * r) + b))) + w) rfl (by omega) (by omega) dX8_lay_20 (fun F1 H locs eF2 hw => ?_)
  have hF3 := MoF.st0 hF eF2
  have hr4 := fr_eq eF2 (Nat.le_refl _) (Nat.lt_succ_self _)
  replace hfr := hfr.tr hr4 (by omega) (by omega)
  exact x_vret X hr hlk hK hw (⟨hF3, hfr⟩) dX8_lay_21
set_option maxHeartbeats 4000000 in
set_option maxRecDepth 100000 in
theorem k_X8_stage {l : Launch} {D : va_G} {cI cB cS : ClassId} {ad : Nat → Nat} {N : Nat} {F : Nat → va_E} (hI : iN ad N) (o : Nat) (a : Nat → Int32) (h : Nat → Int32) (sn : Nat → Int32) (tx : Nat → Int32) (k : Nat → Int32) (u : Nat) (v : Int32) (hc5 : o + 5 ≤ N) (hF : MoF ad cI F o a h sn tx k) (hi : 40 + 4 * u + 3 < 404) : Cv l D cI cB cS ad N yX8_stage cX8_stage 3 0 0 [.ref (ad o), .int (nI u), .int v] F (fun F' => MoF ad cI F' o (sgp a u v) (h) (sn) (tx) (k) ∧ Fr F F' o (o + 5)) := by
  refine x_metv (by decide +kernel) (Nat.le_of_ble_eq_true rfl) ?_
  intro p e s m below meth c X hr hlk hK hw ls hl
  replace hl : lv_has ls 3 [(0, .ref (ad o)), (1, .int (nI u)), (2, .int v)] := hl
  have hfr : Fr F F (o) (o + 5) := Fr.rf
  refine lv_aload_n X.1 X.2.1 dX8_stage_0 rfl (lv_at hl 0 rfl) ?_
  refine x_get X hK hw (C := RX8) (T := TX8) (nf := 12) (k := o) (by omega) hF.1 rfl inX8 0 (by decide) q868 (fun _ h9 => h9) rfl dX8_stage_1 ?_
  refine lv_bipush (v := nI 40) X.1 X.2.1 dX8_stage_4 (by decide) ?_
  refine lv_iconst (v := nI 4) X.1 X.2.1 dX8_stage_6 (by decide) ?_
  refine lv_iload_n X.1 X.2.1 dX8_stage_7 rfl (lv_at hl 1 rfl) ?_
  refine lv_imul X.1 X.2.1 dX8_stage_8 ?_
  refine x_top (pk_mul _ _) ?_
  refine lv_iadd X.1 X.2.1 dX8_stage_9 ?_
  refine x_top (nI_add _ _) ?_
  refine lv_iconst (v := nI 3) X.1 X.2.1 dX8_stage_10 (by decide) ?_
  refine lv_iadd X.1 X.2.1 dX8_stage_11 ?_
  refine x_top (nI_add _ _) ?_
  refine lv_iload_n X.1 X.2.1 dX8_stage_12 rfl (lv_at hl 2 rfl) ?_
  refine x_iastN2 X hI hK hw (k := (o + 1)) (by omega) hF.2.1 (i := nI ((40 + (4 * u)) + 3)) (j := (40 + (4 * u)) + 3) rfl (by omega) (by omega) dX8_stage_13 (fun F1 H locs eF2 hw => ?_)
  have hF3 := MoF.st0 hF eF2
  have hr4 := fr_eq eF2 (Nat.le_refl _) (Nat.lt_succ_self _)
  replace hfr := hfr.tr hr4 (by omega) (by omega)
  exact x_vret X hr hlk hK hw (⟨hF3, hfr⟩) dX8_stage_14
def m_ci (a : Nat → Int32) (r b : Nat) : Nat → (Nat → Int32)
  | 0 => a
  | j + 1 => ly (m_ci a r b j) r b j (nI 0)
def m_cc (a : Nat → Int32) (r : Nat) : Nat → (Nat → Int32)
  | 0 => a
  | i + 1 => m_ci (m_cc a r i) r i 6
def m_clr (a : Nat → Int32) (r : Nat) : Nat → Int32 := upd (m_cc a r 9) 3 (nI 0)
theorem ly_lo {a : Nat → Int32} {r b w j : Nat} {v : Int32} (h : j < 80) : ly a r b w v j = a j := pk_un (by omega)
theorem hd_X8_lay : yX8_lay.cls = RX8 ∧ yX8_lay.cls ≠ "java/lang/invoke/MethodHandle" ∧ yX8_lay.cls ≠ "java/lang/invoke/VarHandle" ∧ (parseMethodDescriptor yX8_lay.desc).map (fun d => d.parameters.length) = some 4 := by decide +kernel
set_option maxHeartbeats 4000000 in
set_option maxRecDepth 100000 in
theorem k_X8_clear {l : Launch} {D : va_G} {cI cB cS : ClassId} {ad : Nat → Nat} {N : Nat} {F : Nat → va_E} (hI : iN ad N) (o : Nat) (a : Nat → Int32) (h : Nat → Int32) (sn : Nat → Int32) (tx : Nat → Int32) (k : Nat → Int32) (nr : Nat) (hc5 : o + 5 ≤ N) (hF : MoF ad cI F o a h sn tx k) (h2 : a 2 = nI nr) (hr6 : nr ≤ 6) (hn : 0 < nr) : Cv l D cI cB cS ad N yX8_clear cX8_clear 3 1 24 [.ref (ad o)] F (fun F' => MoF ad cI F' o (m_clr a (nr - 1)) h sn tx k ∧ Fr F F' o (o + 5)) := by
  refine x_metv (by decide +kernel) (Nat.le_of_ble_eq_true rfl) ?_
  intro p e s m below meth c X hr hlk hK hw ls hl
  replace hl : lv_has ls 3 [(0, .ref (ad o))] := hl
  have hfr : Fr F F (o) (o + 5) := Fr.rf
  refine lv_iconst (v := nI 0) X.1 X.2.1 dX8_clear_0 (by decide) ?_
  refine lv_istore_n (lv' := [(1, .int (nI 0)), (0, .ref (ad o))]) X.1 X.2.1 dX8_clear_1 rfl hl (by decide) rfl (fun ls hl => ?_)
  have loop1 : ∀ (fu : Nat) (i : Nat) (F1 : Nat → va_E) (f1 : Nat → Int32) (hfu : i + fu = 9) (he : f1 = m_cc a (nr - 1) i) (hF : MoF ad cI F1 o f1 h sn tx k) (hj : f1 2 = nI nr) (hfr : Fr F F1 o (o + 5)) (H : Heap) (locs : List Loc) (hw : HW D (Af ad N s.heap.size) ad N F1 s H locs) (ls : Array Slot) (hl : lv_has ls 3 [(1, .int (nI i)), (0, .ref (ad o))]), W p l e { frames := 1, cells := 0, slots := 0, locals := 24 } s m [.ref (ad o)].toArray below meth c H locs 0 0 (MQ below (va_Qv (fun F' => MoF ad cI F' o (m_clr a (nr - 1)) h sn tx k ∧ Fr F F' o (o + 5)) (fun F' t => PO D ad N F' t) (Af ad N s.heap.size)) [.ref (ad o)].toArray s 0 0 (Af ad N s.heap.size)) (F0 m 2 ls []) := by
    intro fu
    induction fu with
    | zero =>
      intro i F1 f1 hfu he hF hj hfr H locs hw ls hl
      refine lv_iload_n X.1 X.2.1 dX8_clear_2 rfl (lv_at hl 0 rfl) ?_
      refine lv_bipush (v := nI 9) X.1 X.2.1 dX8_clear_3 (by decide) ?_
      refine lv_icmp_ge (tgt := 39) X.1 X.2.1 dX8_clear_5 (by decide) (fun c1 => ?_) (fun c1 => ?_)
      · refine lv_aload_n X.1 X.2.1 dX8_clear_39 rfl (lv_at hl 1 rfl) ?_
        refine x_get X hK hw (C := RX8) (T := TX8) (nf := 12) (k := o) (by omega) hF.1 rfl inX8 0 (by decide) q868 (fun _ h9 => h9) rfl dX8_clear_40 ?_
        refine lv_iconst (v := nI 3) X.1 X.2.1 dX8_clear_43 (by decide) ?_
        refine lv_iconst (v := nI 0) X.1 X.2.1 dX8_clear_44 (by decide) ?_
        refine x_iastN2 X hI hK hw (k := (o + 1)) (by omega) hF.2.1 (i := nI 3) (j := 3) rfl (by omega) (by omega) dX8_clear_45 (fun F2 H locs eF3 hw => ?_)
        have hF4 := MoF.st0 hF eF3
        have hr5 := fr_eq eF3 (Nat.le_refl _) (Nat.lt_succ_self _)
        replace hfr := hfr.tr hr5 (by omega) (by omega)
        exact x_vret X hr hlk hK hw (⟨by have e := hF4; rw [he, show i = 9 by omega] at e; exact e, hfr⟩) dX8_clear_46
      · exact absurd (nI_le (by omega) (by omega)) c1
    | succ fu ih =>
      intro i F1 f1 hfu he hF hj hfr H locs hw ls hl
      refine lv_iload_n X.1 X.2.1 dX8_clear_2 rfl (lv_at hl 0 rfl) ?_
      refine lv_bipush (v := nI 9) X.1 X.2.1 dX8_clear_3 (by decide) ?_
      refine lv_icmp_ge (tgt := 39) X.1 X.2.1 dX8_clear_5 (by decide) (fun c6 => ?_) (fun c6 => ?_)
      · exact absurd c6 (nI_ge (by omega) (by omega))
      · refine lv_iconst (v := nI 0) X.1 X.2.1 dX8_clear_8 (by decide) ?_
        refine lv_istore_n (lv' := [(2, .int (nI 0)), (1, .int (nI i)), (0, .ref (ad o))]) X.1 X.2.1 dX8_clear_9 rfl hl (by decide) rfl (fun ls hl => ?_)
        have loop2 : ∀ (fu : Nat) (j : Nat) (F2 : Nat → va_E) (f2 : Nat → Int32) (hfu : j + fu = 6) (he2 : f2 = m_ci f1 (nr - 1) i j) (hFi : MoF ad cI F2 o f2 h sn tx k) (hj2 : f2 2 = nI nr) (hfr : Fr F F2 o (o + 5)) (H : Heap) (locs : List Loc) (hw : HW D (Af ad N s.heap.size) ad N F2 s H locs) (ls : Array Slot) (hl : lv_has ls 3 [(2, .int (nI j)), (1, .int (nI i)), (0, .ref (ad o))]), W p l e { frames := 1, cells := 0, slots := 0, locals := 24 } s m [.ref (ad o)].toArray below meth c H locs 0 0 (MQ below (va_Qv (fun F' => MoF ad cI F' o (m_clr a (nr - 1)) h sn tx k ∧ Fr F F' o (o + 5)) (fun F' t => PO D ad N F' t) (Af ad N s.heap.size)) [.ref (ad o)].toArray s 0 0 (Af ad N s.heap.size)) (F0 m 10 ls []) := by
          intro fu
          induction fu with
          | zero =>
            intro j F2 f2 hfu he2 hFi hj2 hfr H locs hw ls hl
            refine lv_iload_n X.1 X.2.1 dX8_clear_10 rfl (lv_at hl 0 rfl) ?_
            refine lv_bipush (v := nI 6) X.1 X.2.1 dX8_clear_11 (by decide) ?_
            refine lv_icmp_ge (tgt := 33) X.1 X.2.1 dX8_clear_13 (by decide) (fun c7 => ?_) (fun c7 => ?_)
            · refine lv_iinc (v := nI (i + 1)) (lv' := [(1, .int (nI (i + 1))), (2, .int (nI j)), (0, .ref (ad o))]) X.1 X.2.1 dX8_clear_33 hl (k := 1) rfl (by first | exact nI_1 _ | exact nI_add _ _ | rfl) (by decide) rfl (fun ls hl => ?_)
              refine lv_goto (tgt := 2) X.1 X.2.1 dX8_clear_36 (by decide) ?_
              exact ih (i + 1) F2 (m_ci f1 (nr - 1) i 6) (by omega) (by rw [he]; rfl) (by have e := hFi; rw [he2, show j = 6 by omega] at e; exact e) (by have e := hj2; rw [he2, show j = 6 by omega] at e; exact e) hfr _ _ hw _ (lv_sub hl [0, 2] rfl)
            · exact absurd (nI_le (by omega) (by omega)) c7
          | succ fu ih =>
            intro j F2 f2 hfu he2 hFi hj2 hfr H locs hw ls hl
            refine lv_iload_n X.1 X.2.1 dX8_clear_10 rfl (lv_at hl 0 rfl) ?_
            refine lv_bipush (v := nI 6) X.1 X.2.1 dX8_clear_11 (by decide) ?_
            refine lv_icmp_ge (tgt := 33) X.1 X.2.1 dX8_clear_13 (by decide) (fun c8 => ?_) (fun c8 => ?_)
            · exact absurd c8 (nI_ge (by omega) (by omega))
            · refine lv_aload_n X.1 X.2.1 dX8_clear_16 rfl (lv_at hl 2 rfl) ?_
              refine lv_aload_n X.1 X.2.1 dX8_clear_17 rfl (lv_at hl 2 rfl) ?_
              refine x_callVP X hK hw (k := o) (As := []) (rest := [.ref (ad o)]) (k_X8_latest hI o f2 h sn tx k nr (by omega) hFi hj2 (by omega) hn) (x_cwV yX8_latest cX8_latest 1 (some .int) 0 X q927 q929 qs19 q14 q930 hd_X8_latest ⟨Nat.le_of_ble_eq_true rfl, Nat.le_of_ble_eq_true rfl⟩) (by omega) hFi.1 rfl rfl hl.1 rfl (Nat.le_of_ble_eq_true rfl) dX8_clear_18 ⟨Nat.le_of_ble_eq_true rfl, Nat.le_of_ble_eq_true rfl⟩ (fun H locs hw => ?_)
              refine lv_iload_n X.1 X.2.1 dX8_clear_21 rfl (lv_at hl 1 rfl) ?_
              refine lv_iload_n X.1 X.2.1 dX8_clear_22 rfl (lv_at hl 0 rfl) ?_
              refine lv_iconst (v := nI 0) X.1 X.2.1 dX8_clear_23 (by decide) ?_
              refine x_callVv X hK hw (k := o) (As := [.int (nI (nr - 1)), .int (nI i), .int (nI j), .int (nI 0)]) (rest := []) (k_X8_lay hI o f2 h sn tx k (nr - 1) i j (nI 0) (by omega) hFi (by omega)) (x_cwV yX8_lay cX8_lay 5 none 4 X q939 q941 qs22 q14 q942 hd_X8_lay ⟨Nat.le_of_ble_eq_true rfl, Nat.le_of_ble_eq_true rfl⟩) (by omega) hFi.1 rfl rfl hl.1 rfl (Nat.le_of_ble_eq_true rfl) dX8_clear_24 ⟨Nat.le_of_ble_eq_true rfl, Nat.le_of_ble_eq_true rfl⟩ (fun F9 H locs hp hw => ?_)
              obtain ⟨hF10, hr11⟩ := hp
              replace hfr := hfr.tr hr11 (by omega) (by omega)
              refine lv_iinc (v := nI (j + 1)) (lv' := [(2, .int (nI (j + 1))), (1, .int (nI i)), (0, .ref (ad o))]) X.1 X.2.1 dX8_clear_27 hl (k := 0) rfl (by first | exact nI_1 _ | exact nI_add _ _ | rfl) (by decide) rfl (fun ls hl => ?_)
              refine lv_goto (tgt := 10) X.1 X.2.1 dX8_clear_30 (by decide) ?_
              exact ih (j + 1) F9 ((ly f2 (nr - 1) i j (nI 0))) (by omega) (by rw [he2]; rfl) hF10 ((ly_lo (by omega)).trans hj2) hfr _ _ hw _ (lv_sub hl [0, 1, 2] rfl)
        exact loop2 6 0 F1 f1 (by omega) rfl hF hj hfr _ _ hw _ (lv_sub hl [0, 1, 2] rfl)
  exact loop1 9 0 F a (by omega) rfl hF h2 hfr _ _ hw _ (lv_sub hl [0, 1] rfl)
