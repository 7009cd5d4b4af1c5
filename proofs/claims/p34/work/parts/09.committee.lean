theorem sw_0_2 (x : Int32) : x = 0 ∨ x = 1 ∨ x = 2 ∨ (x.toInt < 0 ∨ 2 < x.toInt) := by
  by_cases h : x.toInt < 0 ∨ 2 < x.toInt
  · simp [h]
  · have h1 : 0 ≤ x.toInt ∧ x.toInt ≤ 2 := by omega
    obtain ⟨k, rfl⟩ : ∃ k : Fin 3, x = Int32.ofInt (0 + (k.val : Int)) := ⟨⟨(x.toInt - 0).toNat, by omega⟩, by
      show x = Int32.ofInt (0 + (((x.toInt - 0).toNat : Nat) : Int))
      rw [show (0 + (((x.toInt - 0).toNat : Nat) : Int)) = x.toInt by omega]
      simp⟩
    clear h h1; revert k; decide +kernel
def c_clrs (g : Nat → Int32) (f : Nat → Int32) : Nat → (Nat → Int32)
  | 0 => f
  | i + 1 => tcl 6 324 (c_clrs g f i) ((g 2 - nI 1) * nI 9 + nI i) 6
def c_anew (g : Nat → Int32) (t : Nat → Nat → Int32) (x : Int32) (nb : Nat) : Nat → Nat → Int32 := va_up (va_up t 2 (tp 3 18 (t 2) (g 2 - nI 1) (nI 2) (g 0 + x))) 3 (c_clrs g (t 3) nb)
theorem st_3 {ad : Nat → Nat} {cI : ClassId} {F : Nat → va_E} {b : Nat} {g : Nat → Int32} {t : Nat → Nat → Int32} {f : Nat → Int32} (h : StF ad cI F b g (va_up t 2 f)) : StF ad cI F b g (va_up (va_up t 2 f) 3 (t 3)) := h
theorem st_33 {ad : Nat → Nat} {cI : ClassId} {F : Nat → va_E} {b : Nat} {g : Nat → Int32} {t : Nat → Nat → Int32} {f f2 : Nat → Int32} (h : StF ad cI F b g (va_up (va_up t 3 f) 3 f2)) : StF ad cI F b g (va_up t 3 f2) := h
theorem hd_X5_latestRace : yX5_latestRace.cls = RX5 ∧ yX5_latestRace.cls ≠ "java/lang/invoke/MethodHandle" ∧ yX5_latestRace.cls ≠ "java/lang/invoke/VarHandle" ∧ (parseMethodDescriptor yX5_latestRace.desc).map (fun d => d.parameters.length) = some 0 := by decide +kernel
theorem hd_X6_clearRow : yX6_clearRow.cls = RX6 ∧ yX6_clearRow.cls ≠ "java/lang/invoke/MethodHandle" ∧ yX6_clearRow.cls ≠ "java/lang/invoke/VarHandle" ∧ (parseMethodDescriptor yX6_clearRow.desc).map (fun d => d.parameters.length) = some 1 := by decide +kernel
set_option maxHeartbeats 4000000 in
set_option maxRecDepth 100000 in
theorem k_X0_startAnew {l : Launch} {D : va_G} {cI cB cS : ClassId} {ad : Nat → Nat} {N : Nat} {F : Nat → va_E} (hI : iN ad N) (q : Nat) (b : Nat) (g : Nat → Int32) (t : Nat → Nat → Int32) (x : Int32) (nb : Nat) (hq : q + 1 ≤ N) (hqb : q + 1 ≤ b ∨ b + 11 ≤ q) (hQ : CoF ad F q b) (hb : b + 11 ≤ N) (hF : StF ad cI F b g t) (hg : g 1 = nI nb) (hnb : nb < 2 ^ 31) : Cv l D cI cB cS ad N yX0_startAnew cX0_startAnew 3 2 46 [.ref (ad q), .int x] F (fun F' => StF ad cI F' b (va_up g 4 (nI 0)) (c_anew g t x nb) ∧ Fr F F' b (b + 11)) := by
  refine x_metv (by decide +kernel) (Nat.le_of_ble_eq_true rfl) ?_
  intro p e s m below meth c X hr hlk hK hw ls hl
  replace hl : lv_has ls 3 [(0, .ref (ad q)), (1, .int x)] := hl
  have hfr : Fr F F (b) (b + 11) := Fr.rf
  refine lv_aload_n X.1 X.2.1 dX0_startAnew_0 rfl (lv_at hl 0 rfl) ?_
  refine x_get X hK hw (C := RX0) (T := TX0) (nf := 1) (k := q) (by omega) hQ rfl inX0 0 (by decide) q119 (fun _ h9 => h9) rfl dX0_startAnew_1 ?_
  refine x_get X hK hw (C := RX5) (T := TX5) (nf := 10) (k := b) (by omega) hF.1 rfl inX5 7 (by decide) q83 (fun _ h9 => h9) rfl dX0_startAnew_4 ?_
  refine lv_aload_n X.1 X.2.1 dX0_startAnew_7 rfl (lv_at hl 0 rfl) ?_
  refine x_get X hK hw (C := RX0) (T := TX0) (nf := 1) (k := q) (by omega) hQ rfl inX0 0 (by decide) q119 (fun _ h9 => h9) rfl dX0_startAnew_8 ?_
  refine x_callVP X hK hw (k := b) (As := []) (rest := [.ref (ad (b + 5))]) (k_X5_latestRace hI b g t (by omega) hF) (x_cwV yX5_latestRace cX5_latestRace 1 (some .int) 0 X q297 q298 q299 q2 q300 hd_X5_latestRace ⟨Nat.le_of_ble_eq_true rfl, Nat.le_of_ble_eq_true rfl⟩) (by omega) hF.1 rfl rfl hl.1 rfl (Nat.le_of_ble_eq_true rfl) dX0_startAnew_11 ⟨Nat.le_of_ble_eq_true rfl, Nat.le_of_ble_eq_true rfl⟩ (fun H locs hw => ?_)
  refine lv_iconst (v := nI 2) X.1 X.2.1 dX0_startAnew_14 (by decide) ?_
  refine lv_aload_n X.1 X.2.1 dX0_startAnew_15 rfl (lv_at hl 0 rfl) ?_
  refine x_get X hK hw (C := RX0) (T := TX0) (nf := 1) (k := q) (by omega) hQ rfl inX0 0 (by decide) q119 (fun _ h9 => h9) rfl dX0_startAnew_16 ?_
  refine x_get X hK hw (C := RX5) (T := TX5) (nf := 10) (k := b) (by omega) hF.1 rfl inX5 0 (by decide) q59 (fun _ h9 => h9) rfl dX0_startAnew_19 ?_
  refine lv_iload_n X.1 X.2.1 dX0_startAnew_22 rfl (lv_at hl 1 rfl) ?_
  refine lv_iadd X.1 X.2.1 dX0_startAnew_23 ?_
  refine x_callVv X hK hw (k := (b + 5)) (As := [.int (g 2 - nI 1), .int (nI 2), .int ((g 0) + x)]) (rest := []) (k_X6_put hI ((b + 5)) 3 18 ((t 2)) (g 2 - nI 1) (nI 2) ((g 0) + x) (by omega) (by omega) hF.2.2.2.1) (x_cwV yX6_put cX6_put 5 none 3 X q275 q54 q55 q3 q56 hd_X6_put ⟨Nat.le_of_ble_eq_true rfl, Nat.le_of_ble_eq_true rfl⟩) (by omega) hF.2.2.2.1.1 rfl rfl hl.1 rfl (Nat.le_of_ble_eq_true rfl) dX0_startAnew_24 ⟨Nat.le_of_ble_eq_true rfl, Nat.le_of_ble_eq_true rfl⟩ (fun F1 H locs hp hw => ?_)
  obtain ⟨hT2, hr3⟩ := hp
  have hF4 := hF.tb2 hT2 hr3
  have hq5 := (hr3 _ (by omega)).trans hQ
  replace hfr := hfr.tr hr3 (by omega) (by omega)
  refine lv_iconst (v := nI 0) X.1 X.2.1 dX0_startAnew_27 (by decide) ?_
  refine lv_istore_n (lv' := [(2, .int (nI 0)), (0, .ref (ad q)), (1, .int x)]) X.1 X.2.1 dX0_startAnew_28 rfl hl (by decide) rfl (fun ls hl => ?_)
  have loop : ∀ (fu : Nat) (i : Nat) (F1 : Nat → va_E) (f1 : Nat → Int32) (hfu : i + fu = nb) (he : f1 = c_clrs g (t 3) i) (hQ : CoF ad F1 q b) (hF : StF ad cI F1 b g (va_up (va_up t 2 (tp 3 18 (t 2) (g 2 - nI 1) (nI 2) (g 0 + x))) 3 f1)) (hfr : Fr F F1 b (b + 11)) (H : Heap) (locs : List Loc) (hw : HW D (Af ad N s.heap.size) ad N F1 s H locs) (ls : Array Slot) (hl : lv_has ls 3 [(2, .int (nI i)), (0, .ref (ad q)), (1, .int x)]), W p l e { frames := 2, cells := 0, slots := 0, locals := 46 } s m [.ref (ad q), .int x].toArray below meth c H locs 0 0 (MQ below (va_Qv (fun F' => StF ad cI F' b (va_up g 4 (nI 0)) (c_anew g t x nb) ∧ Fr F F' b (b + 11)) (fun F' t => PO D ad N F' t) (Af ad N s.heap.size)) [.ref (ad q), .int x].toArray s 0 0 (Af ad N s.heap.size)) (F0 m 29 ls []) := by
    intro fu
    induction fu with
    | zero =>
      intro i F1 f1 hfu he hQ hF hfr H locs hw ls hl
      refine lv_iload_n X.1 X.2.1 dX0_startAnew_29 rfl (lv_at hl 0 rfl) ?_
      refine lv_aload_n X.1 X.2.1 dX0_startAnew_30 rfl (lv_at hl 1 rfl) ?_
      refine x_get X hK hw (C := RX0) (T := TX0) (nf := 1) (k := q) (by omega) hQ rfl inX0 0 (by decide) q119 (fun _ h9 => h9) rfl dX0_startAnew_31 ?_
      refine x_get X hK hw (C := RX5) (T := TX5) (nf := 10) (k := b) (by omega) hF.1 rfl inX5 1 (by decide) q64 (fun _ h9 => h9) rfl dX0_startAnew_34 ?_
      refine lv_icmp_ge (tgt := 71) X.1 X.2.1 dX0_startAnew_37 (by decide) (fun c6 => ?_) (fun c6 => ?_)
      · refine lv_aload_n X.1 X.2.1 dX0_startAnew_71 rfl (lv_at hl 1 rfl) ?_
        refine x_get X hK hw (C := RX0) (T := TX0) (nf := 1) (k := q) (by omega) hQ rfl inX0 0 (by decide) q119 (fun _ h9 => h9) rfl dX0_startAnew_72 ?_
        refine lv_iconst (v := nI 0) X.1 X.2.1 dX0_startAnew_75 (by decide) ?_
        refine x_put2 X hI hK hw (C := RX5) (T := TX5) (nf := 10) (k := b) (ty := .int) (v := .int (nI 0)) (by omega) hF.1 rfl inX5 tyX5 tyX5_ok nmX5 4 (by decide) q74 (fun _ h9 => h9) rfl (by decide +kernel) rfl rfl (Nat.le_of_ble_eq_true rfl) dX0_startAnew_76 (fun F7 H locs eF8 hw => ?_)
        have hF9 : StF ad cI F7 b (va_up g 4 (nI 0)) (va_up (va_up t 2 (tp 3 18 (t 2) (g 2 - nI 1) (nI 2) (g 0 + x))) 3 f1) := by rw [eF8]; exact StF.pt hF 4 (by decide) _ _ rfl
        have hr10 := fr_eq eF8 (Nat.le_refl _) (Nat.lt_succ_self _)
        have hq11 := (hr10 _ (by omega)).trans hQ
        replace hfr := hfr.tr hr10 (by omega) (by omega)
        exact x_vret X hr hlk hK hw (⟨by have h := hF9; rw [he, show i = nb by omega] at h; exact h, hfr⟩) dX0_startAnew_79
      · exact absurd (by rw [hg]; exact nI_le (by omega) (by omega)) c6
    | succ fu ih =>
      intro i F1 f1 hfu he hQ hF hfr H locs hw ls hl
      refine lv_iload_n X.1 X.2.1 dX0_startAnew_29 rfl (lv_at hl 0 rfl) ?_
      refine lv_aload_n X.1 X.2.1 dX0_startAnew_30 rfl (lv_at hl 1 rfl) ?_
      refine x_get X hK hw (C := RX0) (T := TX0) (nf := 1) (k := q) (by omega) hQ rfl inX0 0 (by decide) q119 (fun _ h9 => h9) rfl dX0_startAnew_31 ?_
      refine x_get X hK hw (C := RX5) (T := TX5) (nf := 10) (k := b) (by omega) hF.1 rfl inX5 1 (by decide) q64 (fun _ h9 => h9) rfl dX0_startAnew_34 ?_
      refine lv_icmp_ge (tgt := 71) X.1 X.2.1 dX0_startAnew_37 (by decide) (fun c12 => ?_) (fun c12 => ?_)
      · exact absurd c12 (by rw [hg]; exact nI_ge (by omega) (by omega))
      · refine lv_aload_n X.1 X.2.1 dX0_startAnew_40 rfl (lv_at hl 1 rfl) ?_
        refine x_get X hK hw (C := RX0) (T := TX0) (nf := 1) (k := q) (by omega) hQ rfl inX0 0 (by decide) q119 (fun _ h9 => h9) rfl dX0_startAnew_41 ?_
        refine x_get X hK hw (C := RX5) (T := TX5) (nf := 10) (k := b) (by omega) hF.1 rfl inX5 8 (by decide) q87 (fun _ h9 => h9) rfl dX0_startAnew_44 ?_
        refine lv_aload_n X.1 X.2.1 dX0_startAnew_47 rfl (lv_at hl 1 rfl) ?_
        refine x_get X hK hw (C := RX0) (T := TX0) (nf := 1) (k := q) (by omega) hQ rfl inX0 0 (by decide) q119 (fun _ h9 => h9) rfl dX0_startAnew_48 ?_
        refine lv_aload_n X.1 X.2.1 dX0_startAnew_51 rfl (lv_at hl 1 rfl) ?_
        refine x_get X hK hw (C := RX0) (T := TX0) (nf := 1) (k := q) (by omega) hQ rfl inX0 0 (by decide) q119 (fun _ h9 => h9) rfl dX0_startAnew_52 ?_
        refine x_callVP X hK hw (k := b) (As := []) (rest := [.ref (ad b), .ref (ad (b + 7))]) (k_X5_latestRace hI b g ((va_up (va_up t 2 (tp 3 18 (t 2) (g 2 - nI 1) (nI 2) (g 0 + x))) 3 f1)) (by omega) hF) (x_cwV yX5_latestRace cX5_latestRace 1 (some .int) 0 X q297 q298 q299 q2 q300 hd_X5_latestRace ⟨Nat.le_of_ble_eq_true rfl, Nat.le_of_ble_eq_true rfl⟩) (by omega) hF.1 rfl rfl hl.1 rfl (Nat.le_of_ble_eq_true rfl) dX0_startAnew_55 ⟨Nat.le_of_ble_eq_true rfl, Nat.le_of_ble_eq_true rfl⟩ (fun H locs hw => ?_)
        refine lv_iload_n X.1 X.2.1 dX0_startAnew_58 rfl (lv_at hl 0 rfl) ?_
        refine x_callVP X hK hw (k := b) (As := [.int (g 2 - nI 1), .int (nI i)]) (rest := [.ref (ad (b + 7))]) (k_X5_row hI b g ((va_up (va_up t 2 (tp 3 18 (t 2) (g 2 - nI 1) (nI 2) (g 0 + x))) 3 f1)) (g 2 - nI 1) (nI i) (by omega) hF) (x_cwV yX5_row cX5_row 3 (some .int) 2 X q301 q302 q303 q2 q304 hd_X5_row ⟨Nat.le_of_ble_eq_true rfl, Nat.le_of_ble_eq_true rfl⟩) (by omega) hF.1 rfl rfl hl.1 rfl (Nat.le_of_ble_eq_true rfl) dX0_startAnew_59 ⟨Nat.le_of_ble_eq_true rfl, Nat.le_of_ble_eq_true rfl⟩ (fun H locs hw => ?_)
        refine x_callVv X hK hw (k := (b + 7)) (As := [.int ((g 2 - nI 1) * nI 9 + (nI i))]) (rest := []) (k_X6_clearRow hI ((b + 7)) 6 324 (((va_up (va_up t 2 (tp 3 18 (t 2) (g 2 - nI 1) (nI 2) (g 0 + x))) 3 f1) 3)) ((g 2 - nI 1) * nI 9 + (nI i)) (by omega) (by omega) hF.2.2.2.2.1 (by omega)) (x_cwV yX6_clearRow cX6_clearRow 3 none 1 X q305 q306 q307 q3 q308 hd_X6_clearRow ⟨Nat.le_of_ble_eq_true rfl, Nat.le_of_ble_eq_true rfl⟩) (by omega) hF.2.2.2.2.1.1 rfl rfl hl.1 rfl (Nat.le_of_ble_eq_true rfl) dX0_startAnew_62 ⟨Nat.le_of_ble_eq_true rfl, Nat.le_of_ble_eq_true rfl⟩ (fun F13 H locs hp hw => ?_)
        obtain ⟨hT14, hr15⟩ := hp
        have hF16 := hF.tb3 hT14 hr15
        have hq17 := (hr15 _ (by omega)).trans hQ
        replace hfr := hfr.tr hr15 (by omega) (by omega)
        refine lv_iinc (v := nI (i + 1)) (lv' := [(2, .int (nI (i + 1))), (0, .ref (ad q)), (1, .int x)]) X.1 X.2.1 dX0_startAnew_65 hl (k := 0) rfl (by first | exact nI_1 _ | exact nI_add _ _ | rfl) (by decide) rfl (fun ls hl => ?_)
        refine lv_goto (tgt := 29) X.1 X.2.1 dX0_startAnew_68 (by decide) ?_
        exact ih (i + 1) F13 (tcl 6 324 f1 ((g 2 - nI 1) * nI 9 + nI i) 6) (by omega) (by rw [he]; rfl) hq17 (st_33 hF16) hfr _ _ hw _ (lv_sub hl [0, 1, 2] rfl)
  exact loop nb 0 F1 (t 3) (by omega) rfl hq5 (st_3 hF4) hfr _ _ hw _ (lv_sub hl [0, 1, 2] rfl)
def s_X0_enterBoat (g : Nat → Int32) (t : Nat → Nat → Int32) (x : Int32) : Int32 × (Nat → Int32) × (Nat → Nat → Int32) := (if x < (nI 50) then ((-2), g, t) else (if x ≤ (nI 150) then (if (g 2) ≤ 0 then (if (g 1) < (nI 9) then (g 1, (va_up g 1 ((g 1) + (nI 1))), (va_up t 0 (tp 1 9 ((t 0)) (g 1) (nI 0) x))) else ((-3), g, t)) else ((-4), g, t)) else ((-2), g, t)))
set_option maxHeartbeats 4000000 in
set_option maxRecDepth 100000 in
theorem k_X0_enterBoat {l : Launch} {D : va_G} {cI cB cS : ClassId} {ad : Nat → Nat} {N : Nat} {F : Nat → va_E} (hI : iN ad N) (q : Nat) (b : Nat) (g : Nat → Int32) (t : Nat → Nat → Int32) (x : Int32) (hq : q + 1 ≤ N) (hqb : q + 1 ≤ b ∨ b + 11 ≤ q) (hQ : CoF ad F q b) (hb : b + 11 ≤ N) (hF : StF ad cI F b g t) : Ci l D cI cB cS ad N yX0_enterBoat cX0_enterBoat 3 (some .int) 1 24 [.ref (ad q), .int x] F (fun r F' => r = (s_X0_enterBoat g t x).1 ∧ StF ad cI F' b (s_X0_enterBoat g t x).2.1 (s_X0_enterBoat g t x).2.2 ∧ Fr F F' b (b + 11)) := by
  refine x_met (by decide +kernel) (Nat.le_of_ble_eq_true rfl) ?_
  intro p e s m below meth c X hr hlk hK hw ls hl
  replace hl : lv_has ls 3 [(0, .ref (ad q)), (1, .int x)] := hl
  have hfr : Fr F F (b) (b + 11) := Fr.rf
  refine lv_iload_n X.1 X.2.1 dX0_enterBoat_0 rfl (lv_at hl 1 rfl) ?_
  refine lv_bipush (v := nI 50) X.1 X.2.1 dX0_enterBoat_1 (by decide) ?_
  refine lv_icmp_lt (tgt := 13) X.1 X.2.1 dX0_enterBoat_3 (by decide) (fun c1 => ?_) (fun c1 => ?_)
  · refine lv_bipush (v := (-2)) X.1 X.2.1 dX0_enterBoat_13 (by decide) ?_
    exact x_iret X hr hlk hK hw (v := (-2)) rfl (auto_st (by rw [s_X0_enterBoat, if_pos c1] : s_X0_enterBoat g t x = ((-2), g, t)) hF hfr) dX0_enterBoat_15
  · refine lv_iload_n X.1 X.2.1 dX0_enterBoat_6 rfl (lv_at hl 1 rfl) ?_
    refine lv_sipush (v := nI 150) X.1 X.2.1 dX0_enterBoat_7 (by decide) ?_
    refine lv_icmp_le (tgt := 16) X.1 X.2.1 dX0_enterBoat_10 (by decide) (fun c2 => ?_) (fun c2 => ?_)
    · refine lv_aload_n X.1 X.2.1 dX0_enterBoat_16 rfl (lv_at hl 0 rfl) ?_
      refine x_get X hK hw (C := RX0) (T := TX0) (nf := 1) (k := q) (by omega) hQ rfl inX0 0 (by decide) q119 (fun _ h9 => h9) rfl dX0_enterBoat_17 ?_
      refine x_get X hK hw (C := RX5) (T := TX5) (nf := 10) (k := b) (by omega) hF.1 rfl inX5 2 (by decide) q67 (fun _ h9 => h9) rfl dX0_enterBoat_20 ?_
      refine lv_if_le (tgt := 29) X.1 X.2.1 dX0_enterBoat_23 (by decide) (fun c3 => ?_) (fun c3 => ?_)
      · refine lv_aload_n X.1 X.2.1 dX0_enterBoat_29 rfl (lv_at hl 0 rfl) ?_
        refine x_get X hK hw (C := RX0) (T := TX0) (nf := 1) (k := q) (by omega) hQ rfl inX0 0 (by decide) q119 (fun _ h9 => h9) rfl dX0_enterBoat_30 ?_
        refine x_get X hK hw (C := RX5) (T := TX5) (nf := 10) (k := b) (by omega) hF.1 rfl inX5 1 (by decide) q64 (fun _ h9 => h9) rfl dX0_enterBoat_33 ?_
        refine lv_bipush (v := nI 9) X.1 X.2.1 dX0_enterBoat_36 (by decide) ?_
        refine lv_icmp_lt (tgt := 44) X.1 X.2.1 dX0_enterBoat_38 (by decide) (fun c4 => ?_) (fun c4 => ?_)
        · refine lv_aload_n X.1 X.2.1 dX0_enterBoat_44 rfl (lv_at hl 0 rfl) ?_
          refine x_get X hK hw (C := RX0) (T := TX0) (nf := 1) (k := q) (by omega) hQ rfl inX0 0 (by decide) q119 (fun _ h9 => h9) rfl dX0_enterBoat_45 ?_
          refine x_get X hK hw (C := RX5) (T := TX5) (nf := 10) (k := b) (by omega) hF.1 rfl inX5 1 (by decide) q64 (fun _ h9 => h9) rfl dX0_enterBoat_48 ?_
          refine lv_istore_n (lv' := [(2, .int (g 1)), (0, .ref (ad q)), (1, .int x)]) X.1 X.2.1 dX0_enterBoat_51 rfl hl (by decide) rfl (fun ls hl => ?_)
          refine lv_aload_n X.1 X.2.1 dX0_enterBoat_52 rfl (lv_at hl 1 rfl) ?_
          refine x_get X hK hw (C := RX0) (T := TX0) (nf := 1) (k := q) (by omega) hQ rfl inX0 0 (by decide) q119 (fun _ h9 => h9) rfl dX0_enterBoat_53 ?_
          refine x_get X hK hw (C := RX5) (T := TX5) (nf := 10) (k := b) (by omega) hF.1 rfl inX5 5 (by decide) q77 (fun _ h9 => h9) rfl dX0_enterBoat_56 ?_
          refine lv_iload_n X.1 X.2.1 dX0_enterBoat_59 rfl (lv_at hl 0 rfl) ?_
          refine lv_iconst (v := nI 0) X.1 X.2.1 dX0_enterBoat_60 (by decide) ?_
          refine lv_iload_n X.1 X.2.1 dX0_enterBoat_61 rfl (lv_at hl 2 rfl) ?_
          refine x_callVv X hK hw (k := (b + 1)) (As := [.int (g 1), .int (nI 0), .int x]) (rest := []) (k_X6_put hI ((b + 1)) 1 9 ((t 0)) (g 1) (nI 0) x (by omega) (by omega) hF.2.1) (x_cwV yX6_put cX6_put 5 none 3 X q275 q54 q55 q3 q56 hd_X6_put ⟨Nat.le_of_ble_eq_true rfl, Nat.le_of_ble_eq_true rfl⟩) (by omega) hF.2.1.1 rfl rfl hl.1 rfl (Nat.le_of_ble_eq_true rfl) dX0_enterBoat_62 ⟨Nat.le_of_ble_eq_true rfl, Nat.le_of_ble_eq_true rfl⟩ (fun F5 H locs hp hw => ?_)
          obtain ⟨hT6, hr7⟩ := hp
          have hF8 := hF.tb0 hT6 hr7
          have hq9 := (hr7 _ (by omega)).trans hQ
          replace hfr := hfr.tr hr7 (by omega) (by omega)
          refine lv_aload_n X.1 X.2.1 dX0_enterBoat_65 rfl (lv_at hl 1 rfl) ?_
          refine x_get X hK hw (C := RX0) (T := TX0) (nf := 1) (k := q) (by omega) hq9 rfl inX0 0 (by decide) q119 (fun _ h9 => h9) rfl dX0_enterBoat_66 ?_
          refine lv_dup X.1 X.2.1 dX0_enterBoat_69 rfl ?_
          refine x_get X hK hw (C := RX5) (T := TX5) (nf := 10) (k := b) (by omega) hF8.1 rfl inX5 1 (by decide) q64 (fun _ h9 => h9) rfl dX0_enterBoat_70 ?_
          refine lv_iconst (v := nI 1) X.1 X.2.1 dX0_enterBoat_73 (by decide) ?_
          refine lv_iadd X.1 X.2.1 dX0_enterBoat_74 ?_
          refine x_put2 X hI hK hw (C := RX5) (T := TX5) (nf := 10) (k := b) (ty := .int) (v := .int ((g 1) + (nI 1))) (by omega) hF8.1 rfl inX5 tyX5 tyX5_ok nmX5 1 (by decide) q64 (fun _ h9 => h9) rfl (by decide +kernel) rfl rfl (Nat.le_of_ble_eq_true rfl) dX0_enterBoat_75 (fun F10 H locs eF11 hw => ?_)
          have hF12 : StF ad cI F10 b (va_up g 1 ((g 1) + (nI 1))) (va_up t 0 (tp 1 9 ((t 0)) (g 1) (nI 0) x)) := by rw [eF11]; exact StF.pt hF8 1 (by decide) _ _ rfl
          have hr13 := fr_eq eF11 (Nat.le_refl _) (Nat.lt_succ_self _)
          have hq14 := (hr13 _ (by omega)).trans hq9
          replace hfr := hfr.tr hr13 (by omega) (by omega)
          refine lv_iload_n X.1 X.2.1 dX0_enterBoat_78 rfl (lv_at hl 0 rfl) ?_
          exact x_iret X hr hlk hK hw (v := g 1) rfl (auto_st (by rw [s_X0_enterBoat, if_neg c1, if_pos c2, if_pos c3, if_pos c4] : s_X0_enterBoat g t x = (g 1, (va_up g 1 ((g 1) + (nI 1))), (va_up t 0 (tp 1 9 ((t 0)) (g 1) (nI 0) x)))) hF12 hfr) dX0_enterBoat_79
        · refine lv_bipush (v := (-3)) X.1 X.2.1 dX0_enterBoat_41 (by decide) ?_
          exact x_iret X hr hlk hK hw (v := (-3)) rfl (auto_st (by rw [s_X0_enterBoat, if_neg c1, if_pos c2, if_pos c3, if_neg c4] : s_X0_enterBoat g t x = ((-3), g, t)) hF hfr) dX0_enterBoat_43
      · refine lv_bipush (v := (-4)) X.1 X.2.1 dX0_enterBoat_26 (by decide) ?_
        exact x_iret X hr hlk hK hw (v := (-4)) rfl (auto_st (by rw [s_X0_enterBoat, if_neg c1, if_pos c2, if_neg c3] : s_X0_enterBoat g t x = ((-4), g, t)) hF hfr) dX0_enterBoat_28
    · refine lv_bipush (v := (-2)) X.1 X.2.1 dX0_enterBoat_13 (by decide) ?_
      exact x_iret X hr hlk hK hw (v := (-2)) rfl (auto_st (by rw [s_X0_enterBoat, if_neg c1, if_neg c2] : s_X0_enterBoat g t x = ((-2), g, t)) hF hfr) dX0_enterBoat_15
theorem hd_X0_startAnew : yX0_startAnew.cls = RX0 ∧ yX0_startAnew.cls ≠ "java/lang/invoke/MethodHandle" ∧ yX0_startAnew.cls ≠ "java/lang/invoke/VarHandle" ∧ (parseMethodDescriptor yX0_startAnew.desc).map (fun d => d.parameters.length) = some 1 := by decide +kernel
theorem hd_X5_isPrepared : yX5_isPrepared.cls = RX5 ∧ yX5_isPrepared.cls ≠ "java/lang/invoke/MethodHandle" ∧ yX5_isPrepared.cls ≠ "java/lang/invoke/VarHandle" ∧ (parseMethodDescriptor yX5_isPrepared.desc).map (fun d => d.parameters.length) = some 0 := by decide +kernel
def s_X0_prepareRace (g : Nat → Int32) (t : Nat → Nat → Int32) (x : Int32) (y : Int32) (w : Int32) (nb : Nat) : Int32 × (Nat → Int32) × (Nat → Nat → Int32) := (if x < (nI 1) then ((-2), g, t) else (if (nI 5) < x then ((-2), g, t) else (if y < (nI 1) then ((-2), g, t) else (if (nI 3) < y then ((-2), g, t) else (if w < (nI 60) then ((-2), g, t) else (if w ≤ (nI 3600) then (if (g 1) = 0 then ((-4), g, t) else (if g 3 = nI 1 then ((-4), g, t) else (if (g 2) < (nI 6) then (g 2, (va_up ((va_up (va_up g 2 ((g 2) + (nI 1))) 3 (nI 1))) 4 (nI 0)), (c_anew ((va_up (va_up g 2 ((g 2) + (nI 1))) 3 (nI 1))) ((va_up (va_up t 2 (tp 3 18 ((t 2)) (g 2) (nI 0) x)) 2 (tp 3 18 (((va_up t 2 (tp 3 18 ((t 2)) (g 2) (nI 0) x)) 2)) (g 2) (nI 1) y))) w nb)) else ((-3), g, t)))) else ((-2), g, t)))))))
set_option maxHeartbeats 4000000 in
set_option maxRecDepth 100000 in
theorem k_X0_prepareRace {l : Launch} {D : va_G} {cI cB cS : ClassId} {ad : Nat → Nat} {N : Nat} {F : Nat → va_E} (hI : iN ad N) (q : Nat) (b : Nat) (g : Nat → Int32) (t : Nat → Nat → Int32) (x : Int32) (y : Int32) (w : Int32) (nb : Nat) (hq : q + 1 ≤ N) (hqb : q + 1 ≤ b ∨ b + 11 ≤ q) (hQ : CoF ad F q b) (hb : b + 11 ≤ N) (hF : StF ad cI F b g t) (hg : g 1 = nI nb) (hnb : nb < 2 ^ 31) : Ci l D cI cB cS ad N yX0_prepareRace cX0_prepareRace 5 (some .int) 3 68 [.ref (ad q), .int x, .int y, .int w] F (fun r F' => r = (s_X0_prepareRace g t x y w nb).1 ∧ StF ad cI F' b (s_X0_prepareRace g t x y w nb).2.1 (s_X0_prepareRace g t x y w nb).2.2 ∧ Fr F F' b (b + 11)) := by
  refine x_met (by decide +kernel) (Nat.le_of_ble_eq_true rfl) ?_
  intro p e s m below meth c X hr hlk hK hw ls hl
  replace hl : lv_has ls 5 [(0, .ref (ad q)), (1, .int x), (2, .int y), (3, .int w)] := hl
  have hfr : Fr F F (b) (b + 11) := Fr.rf
  refine lv_iload_n X.1 X.2.1 dX0_prepareRace_0 rfl (lv_at hl 1 rfl) ?_
  refine lv_iconst (v := nI 1) X.1 X.2.1 dX0_prepareRace_1 (by decide) ?_
  refine lv_icmp_lt (tgt := 33) X.1 X.2.1 dX0_prepareRace_2 (by decide) (fun c1 => ?_) (fun c1 => ?_)
  · refine lv_bipush (v := (-2)) X.1 X.2.1 dX0_prepareRace_33 (by decide) ?_
    exact x_iret X hr hlk hK hw (v := (-2)) rfl (auto_st (by rw [s_X0_prepareRace, if_pos c1] : s_X0_prepareRace g t x y w nb = ((-2), g, t)) hF hfr) dX0_prepareRace_35
  · refine lv_iload_n X.1 X.2.1 dX0_prepareRace_5 rfl (lv_at hl 1 rfl) ?_
    refine lv_iconst (v := nI 5) X.1 X.2.1 dX0_prepareRace_6 (by decide) ?_
    refine lv_icmp_gt (tgt := 33) X.1 X.2.1 dX0_prepareRace_7 (by decide) (fun c2 => ?_) (fun c2 => ?_)
    · refine lv_bipush (v := (-2)) X.1 X.2.1 dX0_prepareRace_33 (by decide) ?_
      exact x_iret X hr hlk hK hw (v := (-2)) rfl (auto_st (by rw [s_X0_prepareRace, if_neg c1, if_pos c2] : s_X0_prepareRace g t x y w nb = ((-2), g, t)) hF hfr) dX0_prepareRace_35
    · refine lv_iload_n X.1 X.2.1 dX0_prepareRace_10 rfl (lv_at hl 2 rfl) ?_
      refine lv_iconst (v := nI 1) X.1 X.2.1 dX0_prepareRace_11 (by decide) ?_
      refine lv_icmp_lt (tgt := 33) X.1 X.2.1 dX0_prepareRace_12 (by decide) (fun c3 => ?_) (fun c3 => ?_)
      · refine lv_bipush (v := (-2)) X.1 X.2.1 dX0_prepareRace_33 (by decide) ?_
        exact x_iret X hr hlk hK hw (v := (-2)) rfl (auto_st (by rw [s_X0_prepareRace, if_neg c1, if_neg c2, if_pos c3] : s_X0_prepareRace g t x y w nb = ((-2), g, t)) hF hfr) dX0_prepareRace_35
      · refine lv_iload_n X.1 X.2.1 dX0_prepareRace_15 rfl (lv_at hl 2 rfl) ?_
        refine lv_iconst (v := nI 3) X.1 X.2.1 dX0_prepareRace_16 (by decide) ?_
        refine lv_icmp_gt (tgt := 33) X.1 X.2.1 dX0_prepareRace_17 (by decide) (fun c4 => ?_) (fun c4 => ?_)
        · refine lv_bipush (v := (-2)) X.1 X.2.1 dX0_prepareRace_33 (by decide) ?_
          exact x_iret X hr hlk hK hw (v := (-2)) rfl (auto_st (by rw [s_X0_prepareRace, if_neg c1, if_neg c2, if_neg c3, if_pos c4] : s_X0_prepareRace g t x y w nb = ((-2), g, t)) hF hfr) dX0_prepareRace_35
        · refine lv_iload_n X.1 X.2.1 dX0_prepareRace_20 rfl (lv_at hl 3 rfl) ?_
          refine lv_bipush (v := nI 60) X.1 X.2.1 dX0_prepareRace_21 (by decide) ?_
          refine lv_icmp_lt (tgt := 33) X.1 X.2.1 dX0_prepareRace_23 (by decide) (fun c5 => ?_) (fun c5 => ?_)
          · refine lv_bipush (v := (-2)) X.1 X.2.1 dX0_prepareRace_33 (by decide) ?_
            exact x_iret X hr hlk hK hw (v := (-2)) rfl (auto_st (by rw [s_X0_prepareRace, if_neg c1, if_neg c2, if_neg c3, if_neg c4, if_pos c5] : s_X0_prepareRace g t x y w nb = ((-2), g, t)) hF hfr) dX0_prepareRace_35
          · refine lv_iload_n X.1 X.2.1 dX0_prepareRace_26 rfl (lv_at hl 3 rfl) ?_
            refine lv_sipush (v := nI 3600) X.1 X.2.1 dX0_prepareRace_27 (by decide) ?_
            refine lv_icmp_le (tgt := 36) X.1 X.2.1 dX0_prepareRace_30 (by decide) (fun c6 => ?_) (fun c6 => ?_)
            · refine lv_aload_n X.1 X.2.1 dX0_prepareRace_36 rfl (lv_at hl 0 rfl) ?_
              refine x_get X hK hw (C := RX0) (T := TX0) (nf := 1) (k := q) (by omega) hQ rfl inX0 0 (by decide) q119 (fun _ h9 => h9) rfl dX0_prepareRace_37 ?_
              refine x_get X hK hw (C := RX5) (T := TX5) (nf := 10) (k := b) (by omega) hF.1 rfl inX5 1 (by decide) q64 (fun _ h9 => h9) rfl dX0_prepareRace_40 ?_
              refine lv_if_eq (tgt := 56) X.1 X.2.1 dX0_prepareRace_43 (by decide) (fun c7 => ?_) (fun c7 => ?_)
              · refine lv_bipush (v := (-4)) X.1 X.2.1 dX0_prepareRace_56 (by decide) ?_
                exact x_iret X hr hlk hK hw (v := (-4)) rfl (auto_st (by rw [s_X0_prepareRace, if_neg c1, if_neg c2, if_neg c3, if_neg c4, if_neg c5, if_pos c6, if_pos c7] : s_X0_prepareRace g t x y w nb = ((-4), g, t)) hF hfr) dX0_prepareRace_58
              · refine lv_aload_n X.1 X.2.1 dX0_prepareRace_46 rfl (lv_at hl 0 rfl) ?_
                refine x_get X hK hw (C := RX0) (T := TX0) (nf := 1) (k := q) (by omega) hQ rfl inX0 0 (by decide) q119 (fun _ h9 => h9) rfl dX0_prepareRace_47 ?_
                refine x_callVP X hK hw (k := b) (As := []) (rest := []) (k_X5_isPrepared hI b g t (by omega) hF) (x_cwV yX5_isPrepared cX5_isPrepared 1 (some .boolean) 0 X q289 q290 q291 q2 q292 hd_X5_isPrepared ⟨Nat.le_of_ble_eq_true rfl, Nat.le_of_ble_eq_true rfl⟩) (by omega) hF.1 rfl rfl hl.1 rfl (Nat.le_of_ble_eq_true rfl) dX0_prepareRace_50 ⟨Nat.le_of_ble_eq_true rfl, Nat.le_of_ble_eq_true rfl⟩ (fun H locs hw => ?_)
                refine lv_if_eq (tgt := 59) X.1 X.2.1 dX0_prepareRace_53 (by decide) (fun c8 => ?_) (fun c8 => ?_)
                · replace c8 := bI_z c8
                  refine lv_aload_n X.1 X.2.1 dX0_prepareRace_59 rfl (lv_at hl 0 rfl) ?_
                  refine x_get X hK hw (C := RX0) (T := TX0) (nf := 1) (k := q) (by omega) hQ rfl inX0 0 (by decide) q119 (fun _ h9 => h9) rfl dX0_prepareRace_60 ?_
                  refine x_get X hK hw (C := RX5) (T := TX5) (nf := 10) (k := b) (by omega) hF.1 rfl inX5 2 (by decide) q67 (fun _ h9 => h9) rfl dX0_prepareRace_63 ?_
                  refine lv_bipush (v := nI 6) X.1 X.2.1 dX0_prepareRace_66 (by decide) ?_
                  refine lv_icmp_lt (tgt := 74) X.1 X.2.1 dX0_prepareRace_68 (by decide) (fun c9 => ?_) (fun c9 => ?_)
                  · refine lv_aload_n X.1 X.2.1 dX0_prepareRace_74 rfl (lv_at hl 0 rfl) ?_
                    refine x_get X hK hw (C := RX0) (T := TX0) (nf := 1) (k := q) (by omega) hQ rfl inX0 0 (by decide) q119 (fun _ h9 => h9) rfl dX0_prepareRace_75 ?_
                    refine x_get X hK hw (C := RX5) (T := TX5) (nf := 10) (k := b) (by omega) hF.1 rfl inX5 2 (by decide) q67 (fun _ h9 => h9) rfl dX0_prepareRace_78 ?_
                    refine lv_istore (lv' := [(4, .int (g 2)), (0, .ref (ad q)), (1, .int x), (2, .int y), (3, .int w)]) X.1 X.2.1 dX0_prepareRace_81 hl (by decide) rfl (fun ls hl => ?_)
                    refine lv_aload_n X.1 X.2.1 dX0_prepareRace_83 rfl (lv_at hl 1 rfl) ?_
                    refine x_get X hK hw (C := RX0) (T := TX0) (nf := 1) (k := q) (by omega) hQ rfl inX0 0 (by decide) q119 (fun _ h9 => h9) rfl dX0_prepareRace_84 ?_
                    refine x_get X hK hw (C := RX5) (T := TX5) (nf := 10) (k := b) (by omega) hF.1 rfl inX5 7 (by decide) q83 (fun _ h9 => h9) rfl dX0_prepareRace_87 ?_
                    refine lv_iload X.1 X.2.1 dX0_prepareRace_90 (lv_at hl 0 rfl) ?_
                    refine lv_iconst (v := nI 0) X.1 X.2.1 dX0_prepareRace_92 (by decide) ?_
                    refine lv_iload_n X.1 X.2.1 dX0_prepareRace_93 rfl (lv_at hl 2 rfl) ?_
                    refine x_callVv X hK hw (k := (b + 5)) (As := [.int (g 2), .int (nI 0), .int x]) (rest := []) (k_X6_put hI ((b + 5)) 3 18 ((t 2)) (g 2) (nI 0) x (by omega) (by omega) hF.2.2.2.1) (x_cwV yX6_put cX6_put 5 none 3 X q275 q54 q55 q3 q56 hd_X6_put ⟨Nat.le_of_ble_eq_true rfl, Nat.le_of_ble_eq_true rfl⟩) (by omega) hF.2.2.2.1.1 rfl rfl hl.1 rfl (Nat.le_of_ble_eq_true rfl) dX0_prepareRace_94 ⟨Nat.le_of_ble_eq_true rfl, Nat.le_of_ble_eq_true rfl⟩ (fun F10 H locs hp hw => ?_)
                    obtain ⟨hT11, hr12⟩ := hp
                    have hF13 := hF.tb2 hT11 hr12
                    have hq14 := (hr12 _ (by omega)).trans hQ
                    replace hfr := hfr.tr hr12 (by omega) (by omega)
                    refine lv_aload_n X.1 X.2.1 dX0_prepareRace_97 rfl (lv_at hl 1 rfl) ?_
                    refine x_get X hK hw (C := RX0) (T := TX0) (nf := 1) (k := q) (by omega) hq14 rfl inX0 0 (by decide) q119 (fun _ h9 => h9) rfl dX0_prepareRace_98 ?_
                    refine x_get X hK hw (C := RX5) (T := TX5) (nf := 10) (k := b) (by omega) hF13.1 rfl inX5 7 (by decide) q83 (fun _ h9 => h9) rfl dX0_prepareRace_101 ?_
                    refine lv_iload X.1 X.2.1 dX0_prepareRace_104 (lv_at hl 0 rfl) ?_
                    refine lv_iconst (v := nI 1) X.1 X.2.1 dX0_prepareRace_106 (by decide) ?_
                    refine lv_iload_n X.1 X.2.1 dX0_prepareRace_107 rfl (lv_at hl 3 rfl) ?_
                    refine x_callVv X hK hw (k := (b + 5)) (As := [.int (g 2), .int (nI 1), .int y]) (rest := []) (k_X6_put hI ((b + 5)) 3 18 (((va_up t 2 (tp 3 18 ((t 2)) (g 2) (nI 0) x)) 2)) (g 2) (nI 1) y (by omega) (by omega) hF13.2.2.2.1) (x_cwV yX6_put cX6_put 5 none 3 X q275 q54 q55 q3 q56 hd_X6_put ⟨Nat.le_of_ble_eq_true rfl, Nat.le_of_ble_eq_true rfl⟩) (by omega) hF13.2.2.2.1.1 rfl rfl hl.1 rfl (Nat.le_of_ble_eq_true rfl) dX0_prepareRace_108 ⟨Nat.le_of_ble_eq_true rfl, Nat.le_of_ble_eq_true rfl⟩ (fun F15 H locs hp hw => ?_)
                    obtain ⟨hT16, hr17⟩ := hp
                    have hF18 := hF13.tb2 hT16 hr17
                    have hq19 := (hr17 _ (by omega)).trans hq14
                    replace hfr := hfr.tr hr17 (by omega) (by omega)
                    refine lv_aload_n X.1 X.2.1 dX0_prepareRace_111 rfl (lv_at hl 1 rfl) ?_
                    refine x_get X hK hw (C := RX0) (T := TX0) (nf := 1) (k := q) (by omega) hq19 rfl inX0 0 (by decide) q119 (fun _ h9 => h9) rfl dX0_prepareRace_112 ?_
                    refine lv_dup X.1 X.2.1 dX0_prepareRace_115 rfl ?_
                    refine x_get X hK hw (C := RX5) (T := TX5) (nf := 10) (k := b) (by omega) hF18.1 rfl inX5 2 (by decide) q67 (fun _ h9 => h9) rfl dX0_prepareRace_116 ?_
                    refine lv_iconst (v := nI 1) X.1 X.2.1 dX0_prepareRace_119 (by decide) ?_
                    refine lv_iadd X.1 X.2.1 dX0_prepareRace_120 ?_
                    refine x_put2 X hI hK hw (C := RX5) (T := TX5) (nf := 10) (k := b) (ty := .int) (v := .int ((g 2) + (nI 1))) (by omega) hF18.1 rfl inX5 tyX5 tyX5_ok nmX5 2 (by decide) q67 (fun _ h9 => h9) rfl (by decide +kernel) rfl rfl (Nat.le_of_ble_eq_true rfl) dX0_prepareRace_121 (fun F20 H locs eF21 hw => ?_)
                    have hF22 : StF ad cI F20 b (va_up g 2 ((g 2) + (nI 1))) (va_up (va_up t 2 (tp 3 18 ((t 2)) (g 2) (nI 0) x)) 2 (tp 3 18 (((va_up t 2 (tp 3 18 ((t 2)) (g 2) (nI 0) x)) 2)) (g 2) (nI 1) y)) := by rw [eF21]; exact StF.pt hF18 2 (by decide) _ _ rfl
                    have hr23 := fr_eq eF21 (Nat.le_refl _) (Nat.lt_succ_self _)
                    have hq24 := (hr23 _ (by omega)).trans hq19
                    replace hfr := hfr.tr hr23 (by omega) (by omega)
                    refine lv_aload_n X.1 X.2.1 dX0_prepareRace_124 rfl (lv_at hl 1 rfl) ?_
                    refine x_get X hK hw (C := RX0) (T := TX0) (nf := 1) (k := q) (by omega) hq24 rfl inX0 0 (by decide) q119 (fun _ h9 => h9) rfl dX0_prepareRace_125 ?_
                    refine lv_iconst (v := nI 1) X.1 X.2.1 dX0_prepareRace_128 (by decide) ?_
                    refine x_put2 X hI hK hw (C := RX5) (T := TX5) (nf := 10) (k := b) (ty := .int) (v := .int (nI 1)) (by omega) hF22.1 rfl inX5 tyX5 tyX5_ok nmX5 3 (by decide) q70 (fun _ h9 => h9) rfl (by decide +kernel) rfl rfl (Nat.le_of_ble_eq_true rfl) dX0_prepareRace_129 (fun F25 H locs eF26 hw => ?_)
                    have hF27 : StF ad cI F25 b (va_up (va_up g 2 ((g 2) + (nI 1))) 3 (nI 1)) (va_up (va_up t 2 (tp 3 18 ((t 2)) (g 2) (nI 0) x)) 2 (tp 3 18 (((va_up t 2 (tp 3 18 ((t 2)) (g 2) (nI 0) x)) 2)) (g 2) (nI 1) y)) := by rw [eF26]; exact StF.pt hF22 3 (by decide) _ _ rfl
                    have hr28 := fr_eq eF26 (Nat.le_refl _) (Nat.lt_succ_self _)
                    have hq29 := (hr28 _ (by omega)).trans hq24
                    replace hfr := hfr.tr hr28 (by omega) (by omega)
                    refine lv_aload_n X.1 X.2.1 dX0_prepareRace_132 rfl (lv_at hl 1 rfl) ?_
                    refine lv_iload_n X.1 X.2.1 dX0_prepareRace_133 rfl (lv_at hl 4 rfl) ?_
                    refine x_callVv X hK hw (k := q) (As := [.int w]) (rest := []) (k_X0_startAnew hI q b ((va_up (va_up g 2 ((g 2) + (nI 1))) 3 (nI 1))) ((va_up (va_up t 2 (tp 3 18 ((t 2)) (g 2) (nI 0) x)) 2 (tp 3 18 (((va_up t 2 (tp 3 18 ((t 2)) (g 2) (nI 0) x)) 2)) (g 2) (nI 1) y))) w nb (by omega) (by omega) hq29 (by omega) hF27 hg hnb) (x_cwV yX0_startAnew cX0_startAnew 3 none 1 X q293 q295 qs0 q5 q296 hd_X0_startAnew ⟨Nat.le_of_ble_eq_true rfl, Nat.le_of_ble_eq_true rfl⟩) (by omega) hq29 rfl rfl hl.1 rfl (Nat.le_of_ble_eq_true rfl) dX0_prepareRace_134 ⟨Nat.le_of_ble_eq_true rfl, Nat.le_of_ble_eq_true rfl⟩ (fun F30 H locs hp hw => ?_)
                    obtain ⟨hF31, hr32⟩ := hp
                    have hq33 := (hr32 _ (by omega)).trans hq29
                    replace hfr := hfr.tr hr32 (by omega) (by omega)
                    refine lv_iload X.1 X.2.1 dX0_prepareRace_137 (lv_at hl 0 rfl) ?_
                    exact x_iret X hr hlk hK hw (v := g 2) rfl (auto_st (by rw [s_X0_prepareRace, if_neg c1, if_neg c2, if_neg c3, if_neg c4, if_neg c5, if_pos c6, if_neg c7, if_neg c8, if_pos c9] : s_X0_prepareRace g t x y w nb = (g 2, (va_up ((va_up (va_up g 2 ((g 2) + (nI 1))) 3 (nI 1))) 4 (nI 0)), (c_anew ((va_up (va_up g 2 ((g 2) + (nI 1))) 3 (nI 1))) ((va_up (va_up t 2 (tp 3 18 ((t 2)) (g 2) (nI 0) x)) 2 (tp 3 18 (((va_up t 2 (tp 3 18 ((t 2)) (g 2) (nI 0) x)) 2)) (g 2) (nI 1) y))) w nb))) hF31 hfr) dX0_prepareRace_139
                  · refine lv_bipush (v := (-3)) X.1 X.2.1 dX0_prepareRace_71 (by decide) ?_
                    exact x_iret X hr hlk hK hw (v := (-3)) rfl (auto_st (by rw [s_X0_prepareRace, if_neg c1, if_neg c2, if_neg c3, if_neg c4, if_neg c5, if_pos c6, if_neg c7, if_neg c8, if_neg c9] : s_X0_prepareRace g t x y w nb = ((-3), g, t)) hF hfr) dX0_prepareRace_73
                · replace c8 := bI_nz c8
                  refine lv_bipush (v := (-4)) X.1 X.2.1 dX0_prepareRace_56 (by decide) ?_
                  exact x_iret X hr hlk hK hw (v := (-4)) rfl (auto_st (by rw [s_X0_prepareRace, if_neg c1, if_neg c2, if_neg c3, if_neg c4, if_neg c5, if_pos c6, if_neg c7, if_pos c8] : s_X0_prepareRace g t x y w nb = ((-4), g, t)) hF hfr) dX0_prepareRace_58
            · refine lv_bipush (v := (-2)) X.1 X.2.1 dX0_prepareRace_33 (by decide) ?_
              exact x_iret X hr hlk hK hw (v := (-2)) rfl (auto_st (by rw [s_X0_prepareRace, if_neg c1, if_neg c2, if_neg c3, if_neg c4, if_neg c5, if_neg c6] : s_X0_prepareRace g t x y w nb = ((-2), g, t)) hF hfr) dX0_prepareRace_35
theorem hd_X5_isStarted : yX5_isStarted.cls = RX5 ∧ yX5_isStarted.cls ≠ "java/lang/invoke/MethodHandle" ∧ yX5_isStarted.cls ≠ "java/lang/invoke/VarHandle" ∧ (parseMethodDescriptor yX5_isStarted.desc).map (fun d => d.parameters.length) = some 0 := by decide +kernel
theorem hd_X6_add : yX6_add.cls = RX6 ∧ yX6_add.cls ≠ "java/lang/invoke/MethodHandle" ∧ yX6_add.cls ≠ "java/lang/invoke/VarHandle" ∧ (parseMethodDescriptor yX6_add.desc).map (fun d => d.parameters.length) = some 3 := by decide +kernel
def s_X0_postponeStart (g : Nat → Int32) (t : Nat → Nat → Int32) (x : Int32) : Int32 × (Nat → Int32) × (Nat → Nat → Int32) := (if x < (nI 1) then ((-2), g, t) else (if x ≤ (nI 3600) then (if g 3 = nI 1 then (if ¬ g 0 < c_start g t then ((-4), g, t) else (c_start g ((va_up t 2 (tp 3 18 ((t 2)) (g 2 - nI 1) (nI 2) (tg 3 18 ((t 2)) (g 2 - nI 1) (nI 2) + x)))), g, (va_up t 2 (tp 3 18 ((t 2)) (g 2 - nI 1) (nI 2) (tg 3 18 ((t 2)) (g 2 - nI 1) (nI 2) + x))))) else ((-4), g, t)) else ((-2), g, t)))
set_option maxHeartbeats 4000000 in
set_option maxRecDepth 100000 in
theorem k_X0_postponeStart {l : Launch} {D : va_G} {cI cB cS : ClassId} {ad : Nat → Nat} {N : Nat} {F : Nat → va_E} (hI : iN ad N) (q : Nat) (b : Nat) (g : Nat → Int32) (t : Nat → Nat → Int32) (x : Int32) (hq : q + 1 ≤ N) (hqb : q + 1 ≤ b ∨ b + 11 ≤ q) (hQ : CoF ad F q b) (hb : b + 11 ≤ N) (hF : StF ad cI F b g t) : Ci l D cI cB cS ad N yX0_postponeStart cX0_postponeStart 2 (some .int) 3 63 [.ref (ad q), .int x] F (fun r F' => r = (s_X0_postponeStart g t x).1 ∧ StF ad cI F' b (s_X0_postponeStart g t x).2.1 (s_X0_postponeStart g t x).2.2 ∧ Fr F F' b (b + 11)) := by
  refine x_met (by decide +kernel) (Nat.le_of_ble_eq_true rfl) ?_
  intro p e s m below meth c X hr hlk hK hw ls hl
  replace hl : lv_has ls 2 [(0, .ref (ad q)), (1, .int x)] := hl
  have hfr : Fr F F (b) (b + 11) := Fr.rf
  refine lv_iload_n X.1 X.2.1 dX0_postponeStart_0 rfl (lv_at hl 1 rfl) ?_
  refine lv_iconst (v := nI 1) X.1 X.2.1 dX0_postponeStart_1 (by decide) ?_
  refine lv_icmp_lt (tgt := 12) X.1 X.2.1 dX0_postponeStart_2 (by decide) (fun c1 => ?_) (fun c1 => ?_)
  · refine lv_bipush (v := (-2)) X.1 X.2.1 dX0_postponeStart_12 (by decide) ?_
    exact x_iret X hr hlk hK hw (v := (-2)) rfl (auto_st (by rw [s_X0_postponeStart, if_pos c1] : s_X0_postponeStart g t x = ((-2), g, t)) hF hfr) dX0_postponeStart_14
  · refine lv_iload_n X.1 X.2.1 dX0_postponeStart_5 rfl (lv_at hl 1 rfl) ?_
    refine lv_sipush (v := nI 3600) X.1 X.2.1 dX0_postponeStart_6 (by decide) ?_
    refine lv_icmp_le (tgt := 15) X.1 X.2.1 dX0_postponeStart_9 (by decide) (fun c2 => ?_) (fun c2 => ?_)
    · refine lv_aload_n X.1 X.2.1 dX0_postponeStart_15 rfl (lv_at hl 0 rfl) ?_
      refine x_get X hK hw (C := RX0) (T := TX0) (nf := 1) (k := q) (by omega) hQ rfl inX0 0 (by decide) q119 (fun _ h9 => h9) rfl dX0_postponeStart_16 ?_
      refine x_callVP X hK hw (k := b) (As := []) (rest := []) (k_X5_isPrepared hI b g t (by omega) hF) (x_cwV yX5_isPrepared cX5_isPrepared 1 (some .boolean) 0 X q289 q290 q291 q2 q292 hd_X5_isPrepared ⟨Nat.le_of_ble_eq_true rfl, Nat.le_of_ble_eq_true rfl⟩) (by omega) hF.1 rfl rfl hl.1 rfl (Nat.le_of_ble_eq_true rfl) dX0_postponeStart_19 ⟨Nat.le_of_ble_eq_true rfl, Nat.le_of_ble_eq_true rfl⟩ (fun H locs hw => ?_)
      refine lv_if_eq (tgt := 35) X.1 X.2.1 dX0_postponeStart_22 (by decide) (fun c3 => ?_) (fun c3 => ?_)
      · replace c3 := bI_z c3
        refine lv_bipush (v := (-4)) X.1 X.2.1 dX0_postponeStart_35 (by decide) ?_
        exact x_iret X hr hlk hK hw (v := (-4)) rfl (auto_st (by rw [s_X0_postponeStart, if_neg c1, if_pos c2, if_neg c3] : s_X0_postponeStart g t x = ((-4), g, t)) hF hfr) dX0_postponeStart_37
      · replace c3 := bI_nz c3
        refine lv_aload_n X.1 X.2.1 dX0_postponeStart_25 rfl (lv_at hl 0 rfl) ?_
        refine x_get X hK hw (C := RX0) (T := TX0) (nf := 1) (k := q) (by omega) hQ rfl inX0 0 (by decide) q119 (fun _ h9 => h9) rfl dX0_postponeStart_26 ?_
        refine x_callVP X hK hw (k := b) (As := []) (rest := []) (k_X5_isStarted hI b g t (by omega) hF) (x_cwV yX5_isStarted cX5_isStarted 1 (some .boolean) 0 X q318 q319 q320 q2 q321 hd_X5_isStarted ⟨Nat.le_of_ble_eq_true rfl, Nat.le_of_ble_eq_true rfl⟩) (by omega) hF.1 rfl rfl hl.1 rfl (Nat.le_of_ble_eq_true rfl) dX0_postponeStart_29 ⟨Nat.le_of_ble_eq_true rfl, Nat.le_of_ble_eq_true rfl⟩ (fun H locs hw => ?_)
        refine lv_if_eq (tgt := 38) X.1 X.2.1 dX0_postponeStart_32 (by decide) (fun c4 => ?_) (fun c4 => ?_)
        · replace c4 := bI_z c4
          refine lv_aload_n X.1 X.2.1 dX0_postponeStart_38 rfl (lv_at hl 0 rfl) ?_
          refine x_get X hK hw (C := RX0) (T := TX0) (nf := 1) (k := q) (by omega) hQ rfl inX0 0 (by decide) q119 (fun _ h9 => h9) rfl dX0_postponeStart_39 ?_
          refine x_get X hK hw (C := RX5) (T := TX5) (nf := 10) (k := b) (by omega) hF.1 rfl inX5 7 (by decide) q83 (fun _ h9 => h9) rfl dX0_postponeStart_42 ?_
          refine lv_aload_n X.1 X.2.1 dX0_postponeStart_45 rfl (lv_at hl 0 rfl) ?_
          refine x_get X hK hw (C := RX0) (T := TX0) (nf := 1) (k := q) (by omega) hQ rfl inX0 0 (by decide) q119 (fun _ h9 => h9) rfl dX0_postponeStart_46 ?_
          refine x_callVP X hK hw (k := b) (As := []) (rest := [.ref (ad (b + 5))]) (k_X5_latestRace hI b g t (by omega) hF) (x_cwV yX5_latestRace cX5_latestRace 1 (some .int) 0 X q297 q298 q299 q2 q300 hd_X5_latestRace ⟨Nat.le_of_ble_eq_true rfl, Nat.le_of_ble_eq_true rfl⟩) (by omega) hF.1 rfl rfl hl.1 rfl (Nat.le_of_ble_eq_true rfl) dX0_postponeStart_49 ⟨Nat.le_of_ble_eq_true rfl, Nat.le_of_ble_eq_true rfl⟩ (fun H locs hw => ?_)
          refine lv_iconst (v := nI 2) X.1 X.2.1 dX0_postponeStart_52 (by decide) ?_
          refine lv_iload_n X.1 X.2.1 dX0_postponeStart_53 rfl (lv_at hl 1 rfl) ?_
          refine x_callVv X hK hw (k := (b + 5)) (As := [.int (g 2 - nI 1), .int (nI 2), .int x]) (rest := []) (k_X6_add hI ((b + 5)) 3 18 ((t 2)) (g 2 - nI 1) (nI 2) x (by omega) (by omega) hF.2.2.2.1) (x_cwV yX6_add cX6_add 4 none 3 X q330 q331 q332 q3 q333 hd_X6_add ⟨Nat.le_of_ble_eq_true rfl, Nat.le_of_ble_eq_true rfl⟩) (by omega) hF.2.2.2.1.1 rfl rfl hl.1 rfl (Nat.le_of_ble_eq_true rfl) dX0_postponeStart_54 ⟨Nat.le_of_ble_eq_true rfl, Nat.le_of_ble_eq_true rfl⟩ (fun F5 H locs hp hw => ?_)
          obtain ⟨hT6, hr7⟩ := hp
          have hF8 := hF.tb2 hT6 hr7
          have hq9 := (hr7 _ (by omega)).trans hQ
          replace hfr := hfr.tr hr7 (by omega) (by omega)
          refine lv_aload_n X.1 X.2.1 dX0_postponeStart_57 rfl (lv_at hl 0 rfl) ?_
          refine x_get X hK hw (C := RX0) (T := TX0) (nf := 1) (k := q) (by omega) hq9 rfl inX0 0 (by decide) q119 (fun _ h9 => h9) rfl dX0_postponeStart_58 ?_
          refine x_callVP X hK hw (k := b) (As := []) (rest := []) (k_X5_start hI b g ((va_up t 2 (tp 3 18 ((t 2)) (g 2 - nI 1) (nI 2) (tg 3 18 ((t 2)) (g 2 - nI 1) (nI 2) + x)))) (by omega) hF8) (x_cwV yX5_start cX5_start 1 (some .int) 0 X q335 q323 q324 q2 q325 hd_X5_start ⟨Nat.le_of_ble_eq_true rfl, Nat.le_of_ble_eq_true rfl⟩) (by omega) hF8.1 rfl rfl hl.1 rfl (Nat.le_of_ble_eq_true rfl) dX0_postponeStart_61 ⟨Nat.le_of_ble_eq_true rfl, Nat.le_of_ble_eq_true rfl⟩ (fun H locs hw => ?_)
          exact x_iret X hr hlk hK hw (v := c_start g ((va_up t 2 (tp 3 18 ((t 2)) (g 2 - nI 1) (nI 2) (tg 3 18 ((t 2)) (g 2 - nI 1) (nI 2) + x))))) rfl (auto_st (by rw [s_X0_postponeStart, if_neg c1, if_pos c2, if_pos c3, if_neg c4] : s_X0_postponeStart g t x = (c_start g ((va_up t 2 (tp 3 18 ((t 2)) (g 2 - nI 1) (nI 2) (tg 3 18 ((t 2)) (g 2 - nI 1) (nI 2) + x)))), g, (va_up t 2 (tp 3 18 ((t 2)) (g 2 - nI 1) (nI 2) (tg 3 18 ((t 2)) (g 2 - nI 1) (nI 2) + x))))) hF8 hfr) dX0_postponeStart_64
        · replace c4 := bI_nz c4
          refine lv_bipush (v := (-4)) X.1 X.2.1 dX0_postponeStart_35 (by decide) ?_
          exact x_iret X hr hlk hK hw (v := (-4)) rfl (auto_st (by rw [s_X0_postponeStart, if_neg c1, if_pos c2, if_pos c3, if_pos c4] : s_X0_postponeStart g t x = ((-4), g, t)) hF hfr) dX0_postponeStart_37
    · refine lv_bipush (v := (-2)) X.1 X.2.1 dX0_postponeStart_12 (by decide) ?_
      exact x_iret X hr hlk hK hw (v := (-2)) rfl (auto_st (by rw [s_X0_postponeStart, if_neg c1, if_neg c2] : s_X0_postponeStart g t x = ((-2), g, t)) hF hfr) dX0_postponeStart_14
def s_X0_recallBoats (g : Nat → Int32) (t : Nat → Nat → Int32) (nb : Nat) : Int32 × (Nat → Int32) × (Nat → Nat → Int32) := (if g 3 = nI 1 then (if ¬ g 0 < c_start g t then (if (g 0) ≤ ((c_start g t) + (nI 60)) then (c_start ((va_up g 4 (nI 0))) ((c_anew g t (nI 300) nb)), (va_up g 4 (nI 0)), (c_anew g t (nI 300) nb)) else ((-4), g, t)) else ((-4), g, t)) else ((-4), g, t))
set_option maxHeartbeats 4000000 in
set_option maxRecDepth 100000 in
theorem k_X0_recallBoats {l : Launch} {D : va_G} {cI cB cS : ClassId} {ad : Nat → Nat} {N : Nat} {F : Nat → va_E} (hI : iN ad N) (q : Nat) (b : Nat) (g : Nat → Int32) (t : Nat → Nat → Int32) (nb : Nat) (hq : q + 1 ≤ N) (hqb : q + 1 ≤ b ∨ b + 11 ≤ q) (hQ : CoF ad F q b) (hb : b + 11 ≤ N) (hF : StF ad cI F b g t) (hg : g 1 = nI nb) (hnb : nb < 2 ^ 31) : Ci l D cI cB cS ad N yX0_recallBoats cX0_recallBoats 1 (some .int) 3 68 [.ref (ad q)] F (fun r F' => r = (s_X0_recallBoats g t nb).1 ∧ StF ad cI F' b (s_X0_recallBoats g t nb).2.1 (s_X0_recallBoats g t nb).2.2 ∧ Fr F F' b (b + 11)) := by
  refine x_met (by decide +kernel) (Nat.le_of_ble_eq_true rfl) ?_
  intro p e s m below meth c X hr hlk hK hw ls hl
  replace hl : lv_has ls 1 [(0, .ref (ad q))] := hl
  have hfr : Fr F F (b) (b + 11) := Fr.rf
  refine lv_aload_n X.1 X.2.1 dX0_recallBoats_0 rfl (lv_at hl 0 rfl) ?_
  refine x_get X hK hw (C := RX0) (T := TX0) (nf := 1) (k := q) (by omega) hQ rfl inX0 0 (by decide) q119 (fun _ h9 => h9) rfl dX0_recallBoats_1 ?_
  refine x_callVP X hK hw (k := b) (As := []) (rest := []) (k_X5_isPrepared hI b g t (by omega) hF) (x_cwV yX5_isPrepared cX5_isPrepared 1 (some .boolean) 0 X q289 q290 q291 q2 q292 hd_X5_isPrepared ⟨Nat.le_of_ble_eq_true rfl, Nat.le_of_ble_eq_true rfl⟩) (by omega) hF.1 rfl rfl hl.1 rfl (Nat.le_of_ble_eq_true rfl) dX0_recallBoats_4 ⟨Nat.le_of_ble_eq_true rfl, Nat.le_of_ble_eq_true rfl⟩ (fun H locs hw => ?_)
  refine lv_if_eq (tgt := 40) X.1 X.2.1 dX0_recallBoats_7 (by decide) (fun c1 => ?_) (fun c1 => ?_)
  · replace c1 := bI_z c1
    refine lv_bipush (v := (-4)) X.1 X.2.1 dX0_recallBoats_40 (by decide) ?_
    exact x_iret X hr hlk hK hw (v := (-4)) rfl (auto_st (by rw [s_X0_recallBoats, if_neg c1] : s_X0_recallBoats g t nb = ((-4), g, t)) hF hfr) dX0_recallBoats_42
  · replace c1 := bI_nz c1
    refine lv_aload_n X.1 X.2.1 dX0_recallBoats_10 rfl (lv_at hl 0 rfl) ?_
    refine x_get X hK hw (C := RX0) (T := TX0) (nf := 1) (k := q) (by omega) hQ rfl inX0 0 (by decide) q119 (fun _ h9 => h9) rfl dX0_recallBoats_11 ?_
    refine x_callVP X hK hw (k := b) (As := []) (rest := []) (k_X5_isStarted hI b g t (by omega) hF) (x_cwV yX5_isStarted cX5_isStarted 1 (some .boolean) 0 X q318 q319 q320 q2 q321 hd_X5_isStarted ⟨Nat.le_of_ble_eq_true rfl, Nat.le_of_ble_eq_true rfl⟩) (by omega) hF.1 rfl rfl hl.1 rfl (Nat.le_of_ble_eq_true rfl) dX0_recallBoats_14 ⟨Nat.le_of_ble_eq_true rfl, Nat.le_of_ble_eq_true rfl⟩ (fun H locs hw => ?_)
    refine lv_if_eq (tgt := 40) X.1 X.2.1 dX0_recallBoats_17 (by decide) (fun c2 => ?_) (fun c2 => ?_)
    · replace c2 := bI_z c2
      refine lv_bipush (v := (-4)) X.1 X.2.1 dX0_recallBoats_40 (by decide) ?_
      exact x_iret X hr hlk hK hw (v := (-4)) rfl (auto_st (by rw [s_X0_recallBoats, if_pos c1, if_neg c2] : s_X0_recallBoats g t nb = ((-4), g, t)) hF hfr) dX0_recallBoats_42
    · replace c2 := bI_nz c2
      refine lv_aload_n X.1 X.2.1 dX0_recallBoats_20 rfl (lv_at hl 0 rfl) ?_
      refine x_get X hK hw (C := RX0) (T := TX0) (nf := 1) (k := q) (by omega) hQ rfl inX0 0 (by decide) q119 (fun _ h9 => h9) rfl dX0_recallBoats_21 ?_
      refine x_get X hK hw (C := RX5) (T := TX5) (nf := 10) (k := b) (by omega) hF.1 rfl inX5 0 (by decide) q59 (fun _ h9 => h9) rfl dX0_recallBoats_24 ?_
      refine lv_aload_n X.1 X.2.1 dX0_recallBoats_27 rfl (lv_at hl 0 rfl) ?_
      refine x_get X hK hw (C := RX0) (T := TX0) (nf := 1) (k := q) (by omega) hQ rfl inX0 0 (by decide) q119 (fun _ h9 => h9) rfl dX0_recallBoats_28 ?_
      refine x_callVP X hK hw (k := b) (As := []) (rest := [.int (g 0)]) (k_X5_start hI b g t (by omega) hF) (x_cwV yX5_start cX5_start 1 (some .int) 0 X q335 q323 q324 q2 q325 hd_X5_start ⟨Nat.le_of_ble_eq_true rfl, Nat.le_of_ble_eq_true rfl⟩) (by omega) hF.1 rfl rfl hl.1 rfl (Nat.le_of_ble_eq_true rfl) dX0_recallBoats_31 ⟨Nat.le_of_ble_eq_true rfl, Nat.le_of_ble_eq_true rfl⟩ (fun H locs hw => ?_)
      refine lv_bipush (v := nI 60) X.1 X.2.1 dX0_recallBoats_34 (by decide) ?_
      refine lv_iadd X.1 X.2.1 dX0_recallBoats_36 ?_
      refine lv_icmp_le (tgt := 43) X.1 X.2.1 dX0_recallBoats_37 (by decide) (fun c3 => ?_) (fun c3 => ?_)
      · refine lv_aload_n X.1 X.2.1 dX0_recallBoats_43 rfl (lv_at hl 0 rfl) ?_
        refine lv_sipush (v := nI 300) X.1 X.2.1 dX0_recallBoats_44 (by decide) ?_
        refine x_callVv X hK hw (k := q) (As := [.int (nI 300)]) (rest := []) (k_X0_startAnew hI q b g t (nI 300) nb (by omega) (by omega) hQ (by omega) hF hg hnb) (x_cwV yX0_startAnew cX0_startAnew 3 none 1 X q293 q295 qs0 q5 q296 hd_X0_startAnew ⟨Nat.le_of_ble_eq_true rfl, Nat.le_of_ble_eq_true rfl⟩) (by omega) hQ rfl rfl hl.1 rfl (Nat.le_of_ble_eq_true rfl) dX0_recallBoats_47 ⟨Nat.le_of_ble_eq_true rfl, Nat.le_of_ble_eq_true rfl⟩ (fun F4 H locs hp hw => ?_)
        obtain ⟨hF5, hr6⟩ := hp
        have hq7 := (hr6 _ (by omega)).trans hQ
        replace hfr := hfr.tr hr6 (by omega) (by omega)
        refine lv_aload_n X.1 X.2.1 dX0_recallBoats_50 rfl (lv_at hl 0 rfl) ?_
        refine x_get X hK hw (C := RX0) (T := TX0) (nf := 1) (k := q) (by omega) hq7 rfl inX0 0 (by decide) q119 (fun _ h9 => h9) rfl dX0_recallBoats_51 ?_
        refine x_callVP X hK hw (k := b) (As := []) (rest := []) (k_X5_start hI b ((va_up g 4 (nI 0))) ((c_anew g t (nI 300) nb)) (by omega) hF5) (x_cwV yX5_start cX5_start 1 (some .int) 0 X q335 q323 q324 q2 q325 hd_X5_start ⟨Nat.le_of_ble_eq_true rfl, Nat.le_of_ble_eq_true rfl⟩) (by omega) hF5.1 rfl rfl hl.1 rfl (Nat.le_of_ble_eq_true rfl) dX0_recallBoats_54 ⟨Nat.le_of_ble_eq_true rfl, Nat.le_of_ble_eq_true rfl⟩ (fun H locs hw => ?_)
        exact x_iret X hr hlk hK hw (v := c_start ((va_up g 4 (nI 0))) ((c_anew g t (nI 300) nb))) rfl (auto_st (by rw [s_X0_recallBoats, if_pos c1, if_pos c2, if_pos c3] : s_X0_recallBoats g t nb = (c_start ((va_up g 4 (nI 0))) ((c_anew g t (nI 300) nb)), (va_up g 4 (nI 0)), (c_anew g t (nI 300) nb))) hF5 hfr) dX0_recallBoats_57
      · refine lv_bipush (v := (-4)) X.1 X.2.1 dX0_recallBoats_40 (by decide) ?_
        exact x_iret X hr hlk hK hw (v := (-4)) rfl (auto_st (by rw [s_X0_recallBoats, if_pos c1, if_pos c2, if_neg c3] : s_X0_recallBoats g t nb = ((-4), g, t)) hF hfr) dX0_recallBoats_42
def s_X0_passTime (g : Nat → Int32) (t : Nat → Nat → Int32) (x : Int32) : Int32 × (Nat → Int32) × (Nat → Nat → Int32) := (if x < (nI 1) then ((-2), g, t) else (if x ≤ (nI 9999) then (if ((g 0) + x) ≤ (nI 999999) then ((va_up g 0 ((g 0) + x)) 0, (va_up g 0 ((g 0) + x)), t) else ((-3), g, t)) else ((-2), g, t)))
set_option maxHeartbeats 4000000 in
set_option maxRecDepth 100000 in
theorem k_X0_passTime {l : Launch} {D : va_G} {cI cB cS : ClassId} {ad : Nat → Nat} {N : Nat} {F : Nat → va_E} (hI : iN ad N) (q : Nat) (b : Nat) (g : Nat → Int32) (t : Nat → Nat → Int32) (x : Int32) (hq : q + 1 ≤ N) (hqb : q + 1 ≤ b ∨ b + 11 ≤ q) (hQ : CoF ad F q b) (hb : b + 11 ≤ N) (hF : StF ad cI F b g t) : Ci l D cI cB cS ad N yX0_passTime cX0_passTime 2 (some .int) 0 0 [.ref (ad q), .int x] F (fun r F' => r = (s_X0_passTime g t x).1 ∧ StF ad cI F' b (s_X0_passTime g t x).2.1 (s_X0_passTime g t x).2.2 ∧ Fr F F' b (b + 11)) := by
  refine x_met (by decide +kernel) (Nat.le_of_ble_eq_true rfl) ?_
  intro p e s m below meth c X hr hlk hK hw ls hl
  replace hl : lv_has ls 2 [(0, .ref (ad q)), (1, .int x)] := hl
  have hfr : Fr F F (b) (b + 11) := Fr.rf
  refine lv_iload_n X.1 X.2.1 dX0_passTime_0 rfl (lv_at hl 1 rfl) ?_
  refine lv_iconst (v := nI 1) X.1 X.2.1 dX0_passTime_1 (by decide) ?_
  refine lv_icmp_lt (tgt := 12) X.1 X.2.1 dX0_passTime_2 (by decide) (fun c1 => ?_) (fun c1 => ?_)
  · refine lv_bipush (v := (-2)) X.1 X.2.1 dX0_passTime_12 (by decide) ?_
    exact x_iret X hr hlk hK hw (v := (-2)) rfl (auto_st (by rw [s_X0_passTime, if_pos c1] : s_X0_passTime g t x = ((-2), g, t)) hF hfr) dX0_passTime_14
  · refine lv_iload_n X.1 X.2.1 dX0_passTime_5 rfl (lv_at hl 1 rfl) ?_
    refine lv_sipush (v := nI 9999) X.1 X.2.1 dX0_passTime_6 (by decide) ?_
    refine lv_icmp_le (tgt := 15) X.1 X.2.1 dX0_passTime_9 (by decide) (fun c2 => ?_) (fun c2 => ?_)
    · refine lv_aload_n X.1 X.2.1 dX0_passTime_15 rfl (lv_at hl 0 rfl) ?_
      refine x_get X hK hw (C := RX0) (T := TX0) (nf := 1) (k := q) (by omega) hQ rfl inX0 0 (by decide) q119 (fun _ h9 => h9) rfl dX0_passTime_16 ?_
      refine x_get X hK hw (C := RX5) (T := TX5) (nf := 10) (k := b) (by omega) hF.1 rfl inX5 0 (by decide) q59 (fun _ h9 => h9) rfl dX0_passTime_19 ?_
      refine lv_iload_n X.1 X.2.1 dX0_passTime_22 rfl (lv_at hl 1 rfl) ?_
      refine lv_iadd X.1 X.2.1 dX0_passTime_23 ?_
      refine lv_ldc (v := nI 999999) X.1 X.2.1 X.2.2.2.1 (X.2.2.2.2 _ q352) dX0_passTime_24 ?_
      refine lv_icmp_le (tgt := 32) X.1 X.2.1 dX0_passTime_26 (by decide) (fun c3 => ?_) (fun c3 => ?_)
      · refine lv_aload_n X.1 X.2.1 dX0_passTime_32 rfl (lv_at hl 0 rfl) ?_
        refine x_get X hK hw (C := RX0) (T := TX0) (nf := 1) (k := q) (by omega) hQ rfl inX0 0 (by decide) q119 (fun _ h9 => h9) rfl dX0_passTime_33 ?_
        refine lv_dup X.1 X.2.1 dX0_passTime_36 rfl ?_
        refine x_get X hK hw (C := RX5) (T := TX5) (nf := 10) (k := b) (by omega) hF.1 rfl inX5 0 (by decide) q59 (fun _ h9 => h9) rfl dX0_passTime_37 ?_
        refine lv_iload_n X.1 X.2.1 dX0_passTime_40 rfl (lv_at hl 1 rfl) ?_
        refine lv_iadd X.1 X.2.1 dX0_passTime_41 ?_
        refine x_put2 X hI hK hw (C := RX5) (T := TX5) (nf := 10) (k := b) (ty := .int) (v := .int ((g 0) + x)) (by omega) hF.1 rfl inX5 tyX5 tyX5_ok nmX5 0 (by decide) q59 (fun _ h9 => h9) rfl (by decide +kernel) rfl rfl (Nat.le_of_ble_eq_true rfl) dX0_passTime_42 (fun F4 H locs eF5 hw => ?_)
        have hF6 : StF ad cI F4 b (va_up g 0 ((g 0) + x)) t := by rw [eF5]; exact StF.pt hF 0 (by decide) _ _ rfl
        have hr7 := fr_eq eF5 (Nat.le_refl _) (Nat.lt_succ_self _)
        have hq8 := (hr7 _ (by omega)).trans hQ
        replace hfr := hfr.tr hr7 (by omega) (by omega)
        refine lv_aload_n X.1 X.2.1 dX0_passTime_45 rfl (lv_at hl 0 rfl) ?_
        refine x_get X hK hw (C := RX0) (T := TX0) (nf := 1) (k := q) (by omega) hq8 rfl inX0 0 (by decide) q119 (fun _ h9 => h9) rfl dX0_passTime_46 ?_
        refine x_get X hK hw (C := RX5) (T := TX5) (nf := 10) (k := b) (by omega) hF6.1 rfl inX5 0 (by decide) q59 (fun _ h9 => h9) rfl dX0_passTime_49 ?_
        exact x_iret X hr hlk hK hw (v := (va_up g 0 ((g 0) + x)) 0) rfl (auto_st (by rw [s_X0_passTime, if_neg c1, if_pos c2, if_pos c3] : s_X0_passTime g t x = ((va_up g 0 ((g 0) + x)) 0, (va_up g 0 ((g 0) + x)), t)) hF6 hfr) dX0_passTime_52
      · refine lv_bipush (v := (-3)) X.1 X.2.1 dX0_passTime_29 (by decide) ?_
        exact x_iret X hr hlk hK hw (v := (-3)) rfl (auto_st (by rw [s_X0_passTime, if_neg c1, if_pos c2, if_neg c3] : s_X0_passTime g t x = ((-3), g, t)) hF hfr) dX0_passTime_31
    · refine lv_bipush (v := (-2)) X.1 X.2.1 dX0_passTime_12 (by decide) ?_
      exact x_iret X hr hlk hK hw (v := (-2)) rfl (auto_st (by rw [s_X0_passTime, if_neg c1, if_neg c2] : s_X0_passTime g t x = ((-2), g, t)) hF hfr) dX0_passTime_14
theorem hd_X5_latestEntry : yX5_latestEntry.cls = RX5 ∧ yX5_latestEntry.cls ≠ "java/lang/invoke/MethodHandle" ∧ yX5_latestEntry.cls ≠ "java/lang/invoke/VarHandle" ∧ (parseMethodDescriptor yX5_latestEntry.desc).map (fun d => d.parameters.length) = some 2 := by decide +kernel
def s_X0_hasAllRoundings (g : Nat → Int32) (t : Nat → Nat → Int32) (x : Int32) : Int32 := (if (c_lat g t x (nI 1)) < ((tg 3 18 ((t 2)) (g 2 - nI 1) (nI 0)) * (tg 3 18 ((t 2)) (g 2 - nI 1) (nI 1))) then nI 0 else nI 1)
set_option maxHeartbeats 4000000 in
set_option maxRecDepth 100000 in
theorem k_X0_hasAllRoundings {l : Launch} {D : va_G} {cI cB cS : ClassId} {ad : Nat → Nat} {N : Nat} {F : Nat → va_E} (hI : iN ad N) (q : Nat) (b : Nat) (g : Nat → Int32) (t : Nat → Nat → Int32) (x : Int32) (hq : q + 1 ≤ N) (hqb : q + 1 ≤ b ∨ b + 11 ≤ q) (hQ : CoF ad F q b) (hb : b + 11 ≤ N) (hF : StF ad cI F b g t) : Ci l D cI cB cS ad N yX0_hasAllRoundings cX0_hasAllRoundings 4 (some .boolean) 2 45 [.ref (ad q), .int x] F (pP (s_X0_hasAllRoundings g t x) F) := by
  refine x_met (by decide +kernel) (Nat.le_of_ble_eq_true rfl) ?_
  intro p e s m below meth c X hr hlk hK hw ls hl
  replace hl : lv_has ls 4 [(0, .ref (ad q)), (1, .int x)] := hl
  refine lv_aload_n X.1 X.2.1 dX0_hasAllRoundings_0 rfl (lv_at hl 0 rfl) ?_
  refine x_get X hK hw (C := RX0) (T := TX0) (nf := 1) (k := q) (by omega) hQ rfl inX0 0 (by decide) q119 (fun _ h9 => h9) rfl dX0_hasAllRoundings_1 ?_
  refine x_callVP X hK hw (k := b) (As := []) (rest := []) (k_X5_latestRace hI b g t (by omega) hF) (x_cwV yX5_latestRace cX5_latestRace 1 (some .int) 0 X q297 q298 q299 q2 q300 hd_X5_latestRace ⟨Nat.le_of_ble_eq_true rfl, Nat.le_of_ble_eq_true rfl⟩) (by omega) hF.1 rfl rfl hl.1 rfl (Nat.le_of_ble_eq_true rfl) dX0_hasAllRoundings_4 ⟨Nat.le_of_ble_eq_true rfl, Nat.le_of_ble_eq_true rfl⟩ (fun H locs hw => ?_)
  refine lv_istore_n (lv' := [(2, .int (g 2 - nI 1)), (0, .ref (ad q)), (1, .int x)]) X.1 X.2.1 dX0_hasAllRoundings_7 rfl hl (by decide) rfl (fun ls hl => ?_)
  refine lv_aload_n X.1 X.2.1 dX0_hasAllRoundings_8 rfl (lv_at hl 1 rfl) ?_
  refine x_get X hK hw (C := RX0) (T := TX0) (nf := 1) (k := q) (by omega) hQ rfl inX0 0 (by decide) q119 (fun _ h9 => h9) rfl dX0_hasAllRoundings_9 ?_
  refine x_get X hK hw (C := RX5) (T := TX5) (nf := 10) (k := b) (by omega) hF.1 rfl inX5 7 (by decide) q83 (fun _ h9 => h9) rfl dX0_hasAllRoundings_12 ?_
  refine lv_iload_n X.1 X.2.1 dX0_hasAllRoundings_15 rfl (lv_at hl 0 rfl) ?_
  refine lv_iconst (v := nI 0) X.1 X.2.1 dX0_hasAllRoundings_16 (by decide) ?_
  refine x_callVP X hK hw (k := (b + 5)) (As := [.int (g 2 - nI 1), .int (nI 0)]) (rest := []) (k_X6_get hI ((b + 5)) 3 18 ((t 2)) (g 2 - nI 1) (nI 0) (by omega) (by omega) hF.2.2.2.1) (x_cwV yX6_get cX6_get 4 (some .int) 2 X q378 q327 q328 q3 q329 hd_X6_get ⟨Nat.le_of_ble_eq_true rfl, Nat.le_of_ble_eq_true rfl⟩) (by omega) hF.2.2.2.1.1 rfl rfl hl.1 rfl (Nat.le_of_ble_eq_true rfl) dX0_hasAllRoundings_17 ⟨Nat.le_of_ble_eq_true rfl, Nat.le_of_ble_eq_true rfl⟩ (fun H locs hw => ?_)
  refine lv_aload_n X.1 X.2.1 dX0_hasAllRoundings_20 rfl (lv_at hl 1 rfl) ?_
  refine x_get X hK hw (C := RX0) (T := TX0) (nf := 1) (k := q) (by omega) hQ rfl inX0 0 (by decide) q119 (fun _ h9 => h9) rfl dX0_hasAllRoundings_21 ?_
  refine x_get X hK hw (C := RX5) (T := TX5) (nf := 10) (k := b) (by omega) hF.1 rfl inX5 7 (by decide) q83 (fun _ h9 => h9) rfl dX0_hasAllRoundings_24 ?_
  refine lv_iload_n X.1 X.2.1 dX0_hasAllRoundings_27 rfl (lv_at hl 0 rfl) ?_
  refine lv_iconst (v := nI 1) X.1 X.2.1 dX0_hasAllRoundings_28 (by decide) ?_
  refine x_callVP X hK hw (k := (b + 5)) (As := [.int (g 2 - nI 1), .int (nI 1)]) (rest := [.int (tg 3 18 ((t 2)) (g 2 - nI 1) (nI 0))]) (k_X6_get hI ((b + 5)) 3 18 ((t 2)) (g 2 - nI 1) (nI 1) (by omega) (by omega) hF.2.2.2.1) (x_cwV yX6_get cX6_get 4 (some .int) 2 X q378 q327 q328 q3 q329 hd_X6_get ⟨Nat.le_of_ble_eq_true rfl, Nat.le_of_ble_eq_true rfl⟩) (by omega) hF.2.2.2.1.1 rfl rfl hl.1 rfl (Nat.le_of_ble_eq_true rfl) dX0_hasAllRoundings_29 ⟨Nat.le_of_ble_eq_true rfl, Nat.le_of_ble_eq_true rfl⟩ (fun H locs hw => ?_)
  refine lv_imul X.1 X.2.1 dX0_hasAllRoundings_32 ?_
  refine lv_istore_n (lv' := [(3, .int ((tg 3 18 ((t 2)) (g 2 - nI 1) (nI 0)) * (tg 3 18 ((t 2)) (g 2 - nI 1) (nI 1)))), (2, .int (g 2 - nI 1)), (0, .ref (ad q)), (1, .int x)]) X.1 X.2.1 dX0_hasAllRoundings_33 rfl hl (by decide) rfl (fun ls hl => ?_)
  refine lv_aload_n X.1 X.2.1 dX0_hasAllRoundings_34 rfl (lv_at hl 2 rfl) ?_
  refine x_get X hK hw (C := RX0) (T := TX0) (nf := 1) (k := q) (by omega) hQ rfl inX0 0 (by decide) q119 (fun _ h9 => h9) rfl dX0_hasAllRoundings_35 ?_
  refine lv_iload_n X.1 X.2.1 dX0_hasAllRoundings_38 rfl (lv_at hl 3 rfl) ?_
  refine lv_iconst (v := nI 1) X.1 X.2.1 dX0_hasAllRoundings_39 (by decide) ?_
  refine x_callVP X hK hw (k := b) (As := [.int x, .int (nI 1)]) (rest := []) (k_X5_latestEntry hI b g t x (nI 1) (by omega) hF) (x_cwV yX5_latestEntry cX5_latestEntry 3 (some .int) 2 X q369 q370 q371 q2 q372 hd_X5_latestEntry ⟨Nat.le_of_ble_eq_true rfl, Nat.le_of_ble_eq_true rfl⟩) (by omega) hF.1 rfl rfl hl.1 rfl (Nat.le_of_ble_eq_true rfl) dX0_hasAllRoundings_40 ⟨Nat.le_of_ble_eq_true rfl, Nat.le_of_ble_eq_true rfl⟩ (fun H locs hw => ?_)
  refine lv_iload_n X.1 X.2.1 dX0_hasAllRoundings_43 rfl (lv_at hl 0 rfl) ?_
  refine lv_icmp_lt (tgt := 51) X.1 X.2.1 dX0_hasAllRoundings_44 (by decide) (fun c1 => ?_) (fun c1 => ?_)
  · refine lv_iconst (v := nI 0) X.1 X.2.1 dX0_hasAllRoundings_51 (by decide) ?_
    exact x_iret X hr hlk hK hw (v := nI 0) rfl (⟨by rw [s_X0_hasAllRoundings, if_pos c1], rfl⟩) dX0_hasAllRoundings_52
  · refine lv_iconst (v := nI 1) X.1 X.2.1 dX0_hasAllRoundings_47 (by decide) ?_
    refine lv_goto (tgt := 52) X.1 X.2.1 dX0_hasAllRoundings_48 (by decide) ?_
    exact x_iret X hr hlk hK hw (v := nI 1) rfl (⟨by rw [s_X0_hasAllRoundings, if_neg c1], rfl⟩) dX0_hasAllRoundings_52
theorem hd_X0_hasAllRoundings : yX0_hasAllRoundings.cls = RX0 ∧ yX0_hasAllRoundings.cls ≠ "java/lang/invoke/MethodHandle" ∧ yX0_hasAllRoundings.cls ≠ "java/lang/invoke/VarHandle" ∧ (parseMethodDescriptor yX0_hasAllRoundings.desc).map (fun d => d.parameters.length) = some 1 := by decide +kernel
def s_X0_kindAfterLine (g : Nat → Int32) (t : Nat → Nat → Int32) (x : Int32) : Int32 := (if (c_lat g t x (nI 0)) = 0 then (if ¬ g 0 < c_start g t then nI 2 else nI 1) else (if (c_lat g t x (nI 0)) = 1 then (if ¬ g 0 < c_start g t then nI 2 else nI 0) else (if (c_lat g t x (nI 0)) = 2 then (if (s_X0_hasAllRoundings g t x) = 0 then (-4) else nI 3) else (-4))))
set_option maxHeartbeats 4000000 in
set_option maxRecDepth 100000 in
theorem k_X0_kindAfterLine {l : Launch} {D : va_G} {cI cB cS : ClassId} {ad : Nat → Nat} {N : Nat} {F : Nat → va_E} (hI : iN ad N) (q : Nat) (b : Nat) (g : Nat → Int32) (t : Nat → Nat → Int32) (x : Int32) (hq : q + 1 ≤ N) (hqb : q + 1 ≤ b ∨ b + 11 ≤ q) (hQ : CoF ad F q b) (hb : b + 11 ≤ N) (hF : StF ad cI F b g t) : Ci l D cI cB cS ad N yX0_kindAfterLine cX0_kindAfterLine 2 (some .int) 3 68 [.ref (ad q), .int x] F (pP (s_X0_kindAfterLine g t x) F) := by
  refine x_met (by decide +kernel) (Nat.le_of_ble_eq_true rfl) ?_
  intro p e s m below meth c X hr hlk hK hw ls hl
  replace hl : lv_has ls 2 [(0, .ref (ad q)), (1, .int x)] := hl
  refine lv_aload_n X.1 X.2.1 dX0_kindAfterLine_0 rfl (lv_at hl 0 rfl) ?_
  refine x_get X hK hw (C := RX0) (T := TX0) (nf := 1) (k := q) (by omega) hQ rfl inX0 0 (by decide) q119 (fun _ h9 => h9) rfl dX0_kindAfterLine_1 ?_
  refine lv_iload_n X.1 X.2.1 dX0_kindAfterLine_4 rfl (lv_at hl 1 rfl) ?_
  refine lv_iconst (v := nI 0) X.1 X.2.1 dX0_kindAfterLine_5 (by decide) ?_
  refine x_callVP X hK hw (k := b) (As := [.int x, .int (nI 0)]) (rest := []) (k_X5_latestEntry hI b g t x (nI 0) (by omega) hF) (x_cwV yX5_latestEntry cX5_latestEntry 3 (some .int) 2 X q369 q370 q371 q2 q372 hd_X5_latestEntry ⟨Nat.le_of_ble_eq_true rfl, Nat.le_of_ble_eq_true rfl⟩) (by omega) hF.1 rfl rfl hl.1 rfl (Nat.le_of_ble_eq_true rfl) dX0_kindAfterLine_6 ⟨Nat.le_of_ble_eq_true rfl, Nat.le_of_ble_eq_true rfl⟩ (fun H locs hw => ?_)
  rcases sw_0_2 (c_lat g t x (nI 0)) with c1 | c1 | c1 | c1
  · refine lv_tableIn (tgt := 36) X.1 X.2.1 dX0_kindAfterLine_9 (by rw [c1]; decide) (by rw [c1]; decide) (by rw [c1]; rfl) (by decide) ?_
    refine lv_aload_n X.1 X.2.1 dX0_kindAfterLine_36 rfl (lv_at hl 0 rfl) ?_
    refine x_get X hK hw (C := RX0) (T := TX0) (nf := 1) (k := q) (by omega) hQ rfl inX0 0 (by decide) q119 (fun _ h9 => h9) rfl dX0_kindAfterLine_37 ?_
    refine x_callVP X hK hw (k := b) (As := []) (rest := []) (k_X5_isStarted hI b g t (by omega) hF) (x_cwV yX5_isStarted cX5_isStarted 1 (some .boolean) 0 X q318 q319 q320 q2 q321 hd_X5_isStarted ⟨Nat.le_of_ble_eq_true rfl, Nat.le_of_ble_eq_true rfl⟩) (by omega) hF.1 rfl rfl hl.1 rfl (Nat.le_of_ble_eq_true rfl) dX0_kindAfterLine_40 ⟨Nat.le_of_ble_eq_true rfl, Nat.le_of_ble_eq_true rfl⟩ (fun H locs hw => ?_)
    refine lv_if_eq (tgt := 50) X.1 X.2.1 dX0_kindAfterLine_43 (by decide) (fun c2 => ?_) (fun c2 => ?_)
    · replace c2 := bI_z c2
      refine lv_iconst (v := nI 1) X.1 X.2.1 dX0_kindAfterLine_50 (by decide) ?_
      exact x_iret X hr hlk hK hw (v := nI 1) rfl (⟨by rw [s_X0_kindAfterLine, if_pos c1, if_neg c2], rfl⟩) dX0_kindAfterLine_51
    · replace c2 := bI_nz c2
      refine lv_iconst (v := nI 2) X.1 X.2.1 dX0_kindAfterLine_46 (by decide) ?_
      refine lv_goto (tgt := 51) X.1 X.2.1 dX0_kindAfterLine_47 (by decide) ?_
      exact x_iret X hr hlk hK hw (v := nI 2) rfl (⟨by rw [s_X0_kindAfterLine, if_pos c1, if_pos c2], rfl⟩) dX0_kindAfterLine_51
  · refine lv_tableIn (tgt := 52) X.1 X.2.1 dX0_kindAfterLine_9 (by rw [c1]; decide) (by rw [c1]; decide) (by rw [c1]; rfl) (by decide) ?_
    refine lv_aload_n X.1 X.2.1 dX0_kindAfterLine_52 rfl (lv_at hl 0 rfl) ?_
    refine x_get X hK hw (C := RX0) (T := TX0) (nf := 1) (k := q) (by omega) hQ rfl inX0 0 (by decide) q119 (fun _ h9 => h9) rfl dX0_kindAfterLine_53 ?_
    refine x_callVP X hK hw (k := b) (As := []) (rest := []) (k_X5_isStarted hI b g t (by omega) hF) (x_cwV yX5_isStarted cX5_isStarted 1 (some .boolean) 0 X q318 q319 q320 q2 q321 hd_X5_isStarted ⟨Nat.le_of_ble_eq_true rfl, Nat.le_of_ble_eq_true rfl⟩) (by omega) hF.1 rfl rfl hl.1 rfl (Nat.le_of_ble_eq_true rfl) dX0_kindAfterLine_56 ⟨Nat.le_of_ble_eq_true rfl, Nat.le_of_ble_eq_true rfl⟩ (fun H locs hw => ?_)
    refine lv_if_eq (tgt := 66) X.1 X.2.1 dX0_kindAfterLine_59 (by decide) (fun c3 => ?_) (fun c3 => ?_)
    · replace c3 := bI_z c3
      refine lv_iconst (v := nI 0) X.1 X.2.1 dX0_kindAfterLine_66 (by decide) ?_
      exact x_iret X hr hlk hK hw (v := nI 0) rfl (⟨by rw [s_X0_kindAfterLine, if_neg (by rw [c1]; decide), if_pos c1, if_neg c3], rfl⟩) dX0_kindAfterLine_67
    · replace c3 := bI_nz c3
      refine lv_iconst (v := nI 2) X.1 X.2.1 dX0_kindAfterLine_62 (by decide) ?_
      refine lv_goto (tgt := 67) X.1 X.2.1 dX0_kindAfterLine_63 (by decide) ?_
      exact x_iret X hr hlk hK hw (v := nI 2) rfl (⟨by rw [s_X0_kindAfterLine, if_neg (by rw [c1]; decide), if_pos c1, if_pos c3], rfl⟩) dX0_kindAfterLine_67
  · refine lv_tableIn (tgt := 68) X.1 X.2.1 dX0_kindAfterLine_9 (by rw [c1]; decide) (by rw [c1]; decide) (by rw [c1]; rfl) (by decide) ?_
    refine lv_aload_n X.1 X.2.1 dX0_kindAfterLine_68 rfl (lv_at hl 0 rfl) ?_
    refine lv_iload_n X.1 X.2.1 dX0_kindAfterLine_69 rfl (lv_at hl 1 rfl) ?_
    refine x_callVP X hK hw (k := q) (As := [.int x]) (rest := []) (k_X0_hasAllRoundings hI q b g t x (by omega) (by omega) hQ (by omega) hF) (x_cwV yX0_hasAllRoundings cX0_hasAllRoundings 4 (some .boolean) 1 X q374 q376 qs2 q5 q377 hd_X0_hasAllRoundings ⟨Nat.le_of_ble_eq_true rfl, Nat.le_of_ble_eq_true rfl⟩) (by omega) hQ rfl rfl hl.1 rfl (Nat.le_of_ble_eq_true rfl) dX0_kindAfterLine_70 ⟨Nat.le_of_ble_eq_true rfl, Nat.le_of_ble_eq_true rfl⟩ (fun H locs hw => ?_)
    refine lv_if_eq (tgt := 80) X.1 X.2.1 dX0_kindAfterLine_73 (by decide) (fun c4 => ?_) (fun c4 => ?_)
    · refine lv_bipush (v := (-4)) X.1 X.2.1 dX0_kindAfterLine_80 (by decide) ?_
      exact x_iret X hr hlk hK hw (v := (-4)) rfl (⟨by rw [s_X0_kindAfterLine, if_neg (by rw [c1]; decide), if_neg (by rw [c1]; decide), if_pos c1, if_pos c4], rfl⟩) dX0_kindAfterLine_82
    · refine lv_iconst (v := nI 3) X.1 X.2.1 dX0_kindAfterLine_76 (by decide) ?_
      refine lv_goto (tgt := 82) X.1 X.2.1 dX0_kindAfterLine_77 (by decide) ?_
      exact x_iret X hr hlk hK hw (v := nI 3) rfl (⟨by rw [s_X0_kindAfterLine, if_neg (by rw [c1]; decide), if_neg (by rw [c1]; decide), if_pos c1, if_neg c4], rfl⟩) dX0_kindAfterLine_82
  · refine lv_tableOut (tgt := 83) X.1 X.2.1 dX0_kindAfterLine_9 c1 (by decide) ?_
    refine lv_bipush (v := (-4)) X.1 X.2.1 dX0_kindAfterLine_83 (by decide) ?_
    exact x_iret X hr hlk hK hw (v := (-4)) rfl (⟨by rw [s_X0_kindAfterLine, if_neg (fun h => by rw [h] at c1; revert c1; decide), if_neg (fun h => by rw [h] at c1; revert c1; decide), if_neg (fun h => by rw [h] at c1; revert c1; decide)], rfl⟩) dX0_kindAfterLine_85
theorem hd_X0_kindAfterLine : yX0_kindAfterLine.cls = RX0 ∧ yX0_kindAfterLine.cls ≠ "java/lang/invoke/MethodHandle" ∧ yX0_kindAfterLine.cls ≠ "java/lang/invoke/VarHandle" ∧ (parseMethodDescriptor yX0_kindAfterLine.desc).map (fun d => d.parameters.length) = some 1 := by decide +kernel
theorem hd_X5_hasBoat : yX5_hasBoat.cls = RX5 ∧ yX5_hasBoat.cls ≠ "java/lang/invoke/MethodHandle" ∧ yX5_hasBoat.cls ≠ "java/lang/invoke/VarHandle" ∧ (parseMethodDescriptor yX5_hasBoat.desc).map (fun d => d.parameters.length) = some 1 := by decide +kernel
theorem hd_X5_putLatestEntry : yX5_putLatestEntry.cls = RX5 ∧ yX5_putLatestEntry.cls ≠ "java/lang/invoke/MethodHandle" ∧ yX5_putLatestEntry.cls ≠ "java/lang/invoke/VarHandle" ∧ (parseMethodDescriptor yX5_putLatestEntry.desc).map (fun d => d.parameters.length) = some 3 := by decide +kernel
def s_X0_crossLine (g : Nat → Int32) (t : Nat → Nat → Int32) (x : Int32) : Int32 × (Nat → Int32) × (Nat → Nat → Int32) := (if ¬ x < 0 ∧ ¬ g 1 ≤ x then (if g 3 = nI 1 then (if (s_X0_kindAfterLine g t x) = ((-4)) then ((-4), g, t) else (if (s_X0_kindAfterLine g t x) = (nI 3) then (s_X0_kindAfterLine g t x, (((g))), (c_pl ((g)) ((c_pl g t x (nI 5) (g 0))) x (nI 0) (s_X0_kindAfterLine g t x))) else (s_X0_kindAfterLine g t x, (g), (c_pl g t x (nI 0) (s_X0_kindAfterLine g t x))))) else ((-4), g, t)) else ((-1), g, t))
set_option maxHeartbeats 4000000 in
set_option maxRecDepth 100000 in
theorem k_X0_crossLine {l : Launch} {D : va_G} {cI cB cS : ClassId} {ad : Nat → Nat} {N : Nat} {F : Nat → va_E} (hI : iN ad N) (q : Nat) (b : Nat) (g : Nat → Int32) (t : Nat → Nat → Int32) (x : Int32) (hq : q + 1 ≤ N) (hqb : q + 1 ≤ b ∨ b + 11 ≤ q) (hQ : CoF ad F q b) (hb : b + 11 ≤ N) (hF : StF ad cI F b g t) : Ci l D cI cB cS ad N yX0_crossLine cX0_crossLine 3 (some .int) 4 89 [.ref (ad q), .int x] F (fun r F' => r = (s_X0_crossLine g t x).1 ∧ StF ad cI F' b (s_X0_crossLine g t x).2.1 (s_X0_crossLine g t x).2.2 ∧ Fr F F' b (b + 11)) := by
  refine x_met (by decide +kernel) (Nat.le_of_ble_eq_true rfl) ?_
  intro p e s m below meth c X hr hlk hK hw ls hl
  replace hl : lv_has ls 3 [(0, .ref (ad q)), (1, .int x)] := hl
  have hfr : Fr F F (b) (b + 11) := Fr.rf
  refine lv_aload_n X.1 X.2.1 dX0_crossLine_0 rfl (lv_at hl 0 rfl) ?_
  refine x_get X hK hw (C := RX0) (T := TX0) (nf := 1) (k := q) (by omega) hQ rfl inX0 0 (by decide) q119 (fun _ h9 => h9) rfl dX0_crossLine_1 ?_
  refine lv_iload_n X.1 X.2.1 dX0_crossLine_4 rfl (lv_at hl 1 rfl) ?_
  refine x_callVP X hK hw (k := b) (As := [.int x]) (rest := []) (k_X5_hasBoat hI b g t x (by omega) hF) (x_cwV yX5_hasBoat cX5_hasBoat 2 (some .boolean) 1 X q361 q362 q363 q2 q364 hd_X5_hasBoat ⟨Nat.le_of_ble_eq_true rfl, Nat.le_of_ble_eq_true rfl⟩) (by omega) hF.1 rfl rfl hl.1 rfl (Nat.le_of_ble_eq_true rfl) dX0_crossLine_5 ⟨Nat.le_of_ble_eq_true rfl, Nat.le_of_ble_eq_true rfl⟩ (fun H locs hw => ?_)
  refine lv_if_ne (tgt := 13) X.1 X.2.1 dX0_crossLine_8 (by decide) (fun c1 => ?_) (fun c1 => ?_)
  · replace c1 := bI_nz c1
    refine lv_aload_n X.1 X.2.1 dX0_crossLine_13 rfl (lv_at hl 0 rfl) ?_
    refine x_get X hK hw (C := RX0) (T := TX0) (nf := 1) (k := q) (by omega) hQ rfl inX0 0 (by decide) q119 (fun _ h9 => h9) rfl dX0_crossLine_14 ?_
    refine x_callVP X hK hw (k := b) (As := []) (rest := []) (k_X5_isPrepared hI b g t (by omega) hF) (x_cwV yX5_isPrepared cX5_isPrepared 1 (some .boolean) 0 X q289 q290 q291 q2 q292 hd_X5_isPrepared ⟨Nat.le_of_ble_eq_true rfl, Nat.le_of_ble_eq_true rfl⟩) (by omega) hF.1 rfl rfl hl.1 rfl (Nat.le_of_ble_eq_true rfl) dX0_crossLine_17 ⟨Nat.le_of_ble_eq_true rfl, Nat.le_of_ble_eq_true rfl⟩ (fun H locs hw => ?_)
    refine lv_if_ne (tgt := 26) X.1 X.2.1 dX0_crossLine_20 (by decide) (fun c2 => ?_) (fun c2 => ?_)
    · replace c2 := bI_nz c2
      refine lv_aload_n X.1 X.2.1 dX0_crossLine_26 rfl (lv_at hl 0 rfl) ?_
      refine lv_iload_n X.1 X.2.1 dX0_crossLine_27 rfl (lv_at hl 1 rfl) ?_
      refine x_callVP X hK hw (k := q) (As := [.int x]) (rest := []) (k_X0_kindAfterLine hI q b g t x (by omega) (by omega) hQ (by omega) hF) (x_cwV yX0_kindAfterLine cX0_kindAfterLine 2 (some .int) 1 X q365 q367 qs1 q5 q368 hd_X0_kindAfterLine ⟨Nat.le_of_ble_eq_true rfl, Nat.le_of_ble_eq_true rfl⟩) (by omega) hQ rfl rfl hl.1 rfl (Nat.le_of_ble_eq_true rfl) dX0_crossLine_28 ⟨Nat.le_of_ble_eq_true rfl, Nat.le_of_ble_eq_true rfl⟩ (fun H locs hw => ?_)
      refine lv_istore_n (lv' := [(2, .int (s_X0_kindAfterLine g t x)), (0, .ref (ad q)), (1, .int x)]) X.1 X.2.1 dX0_crossLine_31 rfl hl (by decide) rfl (fun ls hl => ?_)
      refine lv_iload_n X.1 X.2.1 dX0_crossLine_32 rfl (lv_at hl 0 rfl) ?_
      refine lv_bipush (v := (-4)) X.1 X.2.1 dX0_crossLine_33 (by decide) ?_
      refine lv_icmp_ne (tgt := 41) X.1 X.2.1 dX0_crossLine_35 (by decide) (fun c3 => ?_) (fun c3 => ?_)
      · refine lv_iload_n X.1 X.2.1 dX0_crossLine_41 rfl (lv_at hl 0 rfl) ?_
        refine lv_iconst (v := nI 3) X.1 X.2.1 dX0_crossLine_42 (by decide) ?_
        refine lv_icmp_ne (tgt := 62) X.1 X.2.1 dX0_crossLine_43 (by decide) (fun c4 => ?_) (fun c4 => ?_)
        · refine lv_aload_n X.1 X.2.1 dX0_crossLine_62 rfl (lv_at hl 1 rfl) ?_
          refine x_get X hK hw (C := RX0) (T := TX0) (nf := 1) (k := q) (by omega) hQ rfl inX0 0 (by decide) q119 (fun _ h9 => h9) rfl dX0_crossLine_63 ?_
          refine lv_iload_n X.1 X.2.1 dX0_crossLine_66 rfl (lv_at hl 2 rfl) ?_
          refine lv_iconst (v := nI 0) X.1 X.2.1 dX0_crossLine_67 (by decide) ?_
          refine lv_iload_n X.1 X.2.1 dX0_crossLine_68 rfl (lv_at hl 0 rfl) ?_
          refine x_callVv X hK hw (k := b) (As := [.int x, .int (nI 0), .int (s_X0_kindAfterLine g t x)]) (rest := []) (k_X5_putLatestEntry hI b g t x (nI 0) (s_X0_kindAfterLine g t x) (by omega) hF) (x_cwV yX5_putLatestEntry cX5_putLatestEntry 4 none 3 X q379 q380 q381 q2 q382 hd_X5_putLatestEntry ⟨Nat.le_of_ble_eq_true rfl, Nat.le_of_ble_eq_true rfl⟩) (by omega) hF.1 rfl rfl hl.1 rfl (Nat.le_of_ble_eq_true rfl) dX0_crossLine_69 ⟨Nat.le_of_ble_eq_true rfl, Nat.le_of_ble_eq_true rfl⟩ (fun F5 H locs hp hw => ?_)
          obtain ⟨hF6, hr7⟩ := hp
          have hq8 := (hr7 _ (by omega)).trans hQ
          replace hfr := hfr.tr hr7 (by omega) (by omega)
          refine lv_iload_n X.1 X.2.1 dX0_crossLine_72 rfl (lv_at hl 0 rfl) ?_
          exact x_iret X hr hlk hK hw (v := s_X0_kindAfterLine g t x) rfl (auto_st (by rw [s_X0_crossLine, if_pos c1, if_pos c2, if_neg c3, if_neg c4] : s_X0_crossLine g t x = (s_X0_kindAfterLine g t x, (g), (c_pl g t x (nI 0) (s_X0_kindAfterLine g t x)))) hF6 hfr) dX0_crossLine_73
        · refine lv_aload_n X.1 X.2.1 dX0_crossLine_46 rfl (lv_at hl 1 rfl) ?_
          refine x_get X hK hw (C := RX0) (T := TX0) (nf := 1) (k := q) (by omega) hQ rfl inX0 0 (by decide) q119 (fun _ h9 => h9) rfl dX0_crossLine_47 ?_
          refine lv_iload_n X.1 X.2.1 dX0_crossLine_50 rfl (lv_at hl 2 rfl) ?_
          refine lv_iconst (v := nI 5) X.1 X.2.1 dX0_crossLine_51 (by decide) ?_
          refine lv_aload_n X.1 X.2.1 dX0_crossLine_52 rfl (lv_at hl 1 rfl) ?_
          refine x_get X hK hw (C := RX0) (T := TX0) (nf := 1) (k := q) (by omega) hQ rfl inX0 0 (by decide) q119 (fun _ h9 => h9) rfl dX0_crossLine_53 ?_
          refine x_get X hK hw (C := RX5) (T := TX5) (nf := 10) (k := b) (by omega) hF.1 rfl inX5 0 (by decide) q59 (fun _ h9 => h9) rfl dX0_crossLine_56 ?_
          refine x_callVv X hK hw (k := b) (As := [.int x, .int (nI 5), .int (g 0)]) (rest := []) (k_X5_putLatestEntry hI b g t x (nI 5) (g 0) (by omega) hF) (x_cwV yX5_putLatestEntry cX5_putLatestEntry 4 none 3 X q379 q380 q381 q2 q382 hd_X5_putLatestEntry ⟨Nat.le_of_ble_eq_true rfl, Nat.le_of_ble_eq_true rfl⟩) (by omega) hF.1 rfl rfl hl.1 rfl (Nat.le_of_ble_eq_true rfl) dX0_crossLine_59 ⟨Nat.le_of_ble_eq_true rfl, Nat.le_of_ble_eq_true rfl⟩ (fun F9 H locs hp hw => ?_)
          obtain ⟨hF10, hr11⟩ := hp
          have hq12 := (hr11 _ (by omega)).trans hQ
          replace hfr := hfr.tr hr11 (by omega) (by omega)
          refine lv_aload_n X.1 X.2.1 dX0_crossLine_62 rfl (lv_at hl 1 rfl) ?_
          refine x_get X hK hw (C := RX0) (T := TX0) (nf := 1) (k := q) (by omega) hq12 rfl inX0 0 (by decide) q119 (fun _ h9 => h9) rfl dX0_crossLine_63 ?_
          refine lv_iload_n X.1 X.2.1 dX0_crossLine_66 rfl (lv_at hl 2 rfl) ?_
          refine lv_iconst (v := nI 0) X.1 X.2.1 dX0_crossLine_67 (by decide) ?_
          refine lv_iload_n X.1 X.2.1 dX0_crossLine_68 rfl (lv_at hl 0 rfl) ?_
          refine x_callVv X hK hw (k := b) (As := [.int x, .int (nI 0), .int (s_X0_kindAfterLine g t x)]) (rest := []) (k_X5_putLatestEntry hI b ((g)) ((c_pl g t x (nI 5) (g 0))) x (nI 0) (s_X0_kindAfterLine g t x) (by omega) hF10) (x_cwV yX5_putLatestEntry cX5_putLatestEntry 4 none 3 X q379 q380 q381 q2 q382 hd_X5_putLatestEntry ⟨Nat.le_of_ble_eq_true rfl, Nat.le_of_ble_eq_true rfl⟩) (by omega) hF10.1 rfl rfl hl.1 rfl (Nat.le_of_ble_eq_true rfl) dX0_crossLine_69 ⟨Nat.le_of_ble_eq_true rfl, Nat.le_of_ble_eq_true rfl⟩ (fun F13 H locs hp hw => ?_)
          obtain ⟨hF14, hr15⟩ := hp
          have hq16 := (hr15 _ (by omega)).trans hq12
          replace hfr := hfr.tr hr15 (by omega) (by omega)
          refine lv_iload_n X.1 X.2.1 dX0_crossLine_72 rfl (lv_at hl 0 rfl) ?_
          exact x_iret X hr hlk hK hw (v := s_X0_kindAfterLine g t x) rfl (auto_st (by rw [s_X0_crossLine, if_pos c1, if_pos c2, if_neg c3, if_pos c4] : s_X0_crossLine g t x = (s_X0_kindAfterLine g t x, (((g))), (c_pl ((g)) ((c_pl g t x (nI 5) (g 0))) x (nI 0) (s_X0_kindAfterLine g t x)))) hF14 hfr) dX0_crossLine_73
      · refine lv_bipush (v := (-4)) X.1 X.2.1 dX0_crossLine_38 (by decide) ?_
        exact x_iret X hr hlk hK hw (v := (-4)) rfl (auto_st (by rw [s_X0_crossLine, if_pos c1, if_pos c2, if_pos c3] : s_X0_crossLine g t x = ((-4), g, t)) hF hfr) dX0_crossLine_40
    · replace c2 := bI_z c2
      refine lv_bipush (v := (-4)) X.1 X.2.1 dX0_crossLine_23 (by decide) ?_
      exact x_iret X hr hlk hK hw (v := (-4)) rfl (auto_st (by rw [s_X0_crossLine, if_pos c1, if_neg c2] : s_X0_crossLine g t x = ((-4), g, t)) hF hfr) dX0_crossLine_25
  · replace c1 := bI_z c1
    refine lv_iconst (v := (-1)) X.1 X.2.1 dX0_crossLine_11 (by decide) ?_
    exact x_iret X hr hlk hK hw (v := (-1)) rfl (auto_st (by rw [s_X0_crossLine, if_neg c1] : s_X0_crossLine g t x = ((-1), g, t)) hF hfr) dX0_crossLine_12
def s_X0_passBuoy (g : Nat → Int32) (t : Nat → Nat → Int32) (x : Int32) (y : Int32) : Int32 × (Nat → Int32) × (Nat → Nat → Int32) := (if ¬ x < 0 ∧ ¬ g 1 ≤ x then (if g 3 = nI 1 then (if y < 0 then ((-2), g, t) else (if y < (tg 3 18 ((t 2)) (g 2 - nI 1) (nI 0)) then (if (c_lat g t x (nI 0)) = (nI 2) then (if (tg 3 18 ((t 2)) (g 2 - nI 1) (nI 0)) ≤ 0 then (c_lat ((g)) ((c_pl g t x (nI 2) ((c_lat g t x (nI 2)) + (nI 1)))) x (nI 1), (g), (c_pl g t x (nI 2) ((c_lat g t x (nI 2)) + (nI 1)))) else (if y = ((c_lat g t x (nI 1)) - (c_lat g t x (nI 1)) / (tg 3 18 ((t 2)) (g 2 - nI 1) (nI 0)) * (tg 3 18 ((t 2)) (g 2 - nI 1) (nI 0))) then (if (s_X0_hasAllRoundings g t x) = 0 then (c_lat ((g)) ((c_pl g t x (nI 1) ((c_lat g t x (nI 1)) + (nI 1)))) x (nI 1), (g), (c_pl g t x (nI 1) ((c_lat g t x (nI 1)) + (nI 1)))) else (c_lat ((g)) ((c_pl g t x (nI 2) ((c_lat g t x (nI 2)) + (nI 1)))) x (nI 1), (g), (c_pl g t x (nI 2) ((c_lat g t x (nI 2)) + (nI 1))))) else (c_lat ((g)) ((c_pl g t x (nI 2) ((c_lat g t x (nI 2)) + (nI 1)))) x (nI 1), (g), (c_pl g t x (nI 2) ((c_lat g t x (nI 2)) + (nI 1)))))) else ((-4), g, t)) else ((-2), g, t))) else ((-2), g, t)) else ((-1), g, t))
set_option maxHeartbeats 4000000 in
set_option maxRecDepth 100000 in
theorem k_X0_passBuoy {l : Launch} {D : va_G} {cI cB cS : ClassId} {ad : Nat → Nat} {N : Nat} {F : Nat → va_E} (hI : iN ad N) (q : Nat) (b : Nat) (g : Nat → Int32) (t : Nat → Nat → Int32) (x : Int32) (y : Int32) (hq : q + 1 ≤ N) (hqb : q + 1 ≤ b ∨ b + 11 ≤ q) (hQ : CoF ad F q b) (hb : b + 11 ≤ N) (hF : StF ad cI F b g t) : Ci l D cI cB cS ad N yX0_passBuoy cX0_passBuoy 7 (some .int) 3 68 [.ref (ad q), .int x, .int y] F (fun r F' => r = (s_X0_passBuoy g t x y).1 ∧ StF ad cI F' b (s_X0_passBuoy g t x y).2.1 (s_X0_passBuoy g t x y).2.2 ∧ Fr F F' b (b + 11)) := by
  refine x_met (by decide +kernel) (Nat.le_of_ble_eq_true rfl) ?_
  intro p e s m below meth c X hr hlk hK hw ls hl
  replace hl : lv_has ls 7 [(0, .ref (ad q)), (1, .int x), (2, .int y)] := hl
  have hfr : Fr F F (b) (b + 11) := Fr.rf
  refine lv_aload_n X.1 X.2.1 dX0_passBuoy_0 rfl (lv_at hl 0 rfl) ?_
  refine x_get X hK hw (C := RX0) (T := TX0) (nf := 1) (k := q) (by omega) hQ rfl inX0 0 (by decide) q119 (fun _ h9 => h9) rfl dX0_passBuoy_1 ?_
  refine lv_iload_n X.1 X.2.1 dX0_passBuoy_4 rfl (lv_at hl 1 rfl) ?_
  refine x_callVP X hK hw (k := b) (As := [.int x]) (rest := []) (k_X5_hasBoat hI b g t x (by omega) hF) (x_cwV yX5_hasBoat cX5_hasBoat 2 (some .boolean) 1 X q361 q362 q363 q2 q364 hd_X5_hasBoat ⟨Nat.le_of_ble_eq_true rfl, Nat.le_of_ble_eq_true rfl⟩) (by omega) hF.1 rfl rfl hl.1 rfl (Nat.le_of_ble_eq_true rfl) dX0_passBuoy_5 ⟨Nat.le_of_ble_eq_true rfl, Nat.le_of_ble_eq_true rfl⟩ (fun H locs hw => ?_)
  refine lv_if_ne (tgt := 13) X.1 X.2.1 dX0_passBuoy_8 (by decide) (fun c1 => ?_) (fun c1 => ?_)
  · replace c1 := bI_nz c1
    refine lv_aload_n X.1 X.2.1 dX0_passBuoy_13 rfl (lv_at hl 0 rfl) ?_
    refine x_get X hK hw (C := RX0) (T := TX0) (nf := 1) (k := q) (by omega) hQ rfl inX0 0 (by decide) q119 (fun _ h9 => h9) rfl dX0_passBuoy_14 ?_
    refine x_get X hK hw (C := RX5) (T := TX5) (nf := 10) (k := b) (by omega) hF.1 rfl inX5 7 (by decide) q83 (fun _ h9 => h9) rfl dX0_passBuoy_17 ?_
    refine lv_aload_n X.1 X.2.1 dX0_passBuoy_20 rfl (lv_at hl 0 rfl) ?_
    refine x_get X hK hw (C := RX0) (T := TX0) (nf := 1) (k := q) (by omega) hQ rfl inX0 0 (by decide) q119 (fun _ h9 => h9) rfl dX0_passBuoy_21 ?_
    refine x_callVP X hK hw (k := b) (As := []) (rest := [.ref (ad (b + 5))]) (k_X5_latestRace hI b g t (by omega) hF) (x_cwV yX5_latestRace cX5_latestRace 1 (some .int) 0 X q297 q298 q299 q2 q300 hd_X5_latestRace ⟨Nat.le_of_ble_eq_true rfl, Nat.le_of_ble_eq_true rfl⟩) (by omega) hF.1 rfl rfl hl.1 rfl (Nat.le_of_ble_eq_true rfl) dX0_passBuoy_24 ⟨Nat.le_of_ble_eq_true rfl, Nat.le_of_ble_eq_true rfl⟩ (fun H locs hw => ?_)
    refine lv_iconst (v := nI 0) X.1 X.2.1 dX0_passBuoy_27 (by decide) ?_
    refine x_callVP X hK hw (k := (b + 5)) (As := [.int (g 2 - nI 1), .int (nI 0)]) (rest := []) (k_X6_get hI ((b + 5)) 3 18 ((t 2)) (g 2 - nI 1) (nI 0) (by omega) (by omega) hF.2.2.2.1) (x_cwV yX6_get cX6_get 4 (some .int) 2 X q378 q327 q328 q3 q329 hd_X6_get ⟨Nat.le_of_ble_eq_true rfl, Nat.le_of_ble_eq_true rfl⟩) (by omega) hF.2.2.2.1.1 rfl rfl hl.1 rfl (Nat.le_of_ble_eq_true rfl) dX0_passBuoy_28 ⟨Nat.le_of_ble_eq_true rfl, Nat.le_of_ble_eq_true rfl⟩ (fun H locs hw => ?_)
    refine lv_istore_n (lv' := [(3, .int (tg 3 18 ((t 2)) (g 2 - nI 1) (nI 0))), (0, .ref (ad q)), (1, .int x), (2, .int y)]) X.1 X.2.1 dX0_passBuoy_31 rfl hl (by decide) rfl (fun ls hl => ?_)
    refine lv_aload_n X.1 X.2.1 dX0_passBuoy_32 rfl (lv_at hl 1 rfl) ?_
    refine x_get X hK hw (C := RX0) (T := TX0) (nf := 1) (k := q) (by omega) hQ rfl inX0 0 (by decide) q119 (fun _ h9 => h9) rfl dX0_passBuoy_33 ?_
    refine x_callVP X hK hw (k := b) (As := []) (rest := []) (k_X5_isPrepared hI b g t (by omega) hF) (x_cwV yX5_isPrepared cX5_isPrepared 1 (some .boolean) 0 X q289 q290 q291 q2 q292 hd_X5_isPrepared ⟨Nat.le_of_ble_eq_true rfl, Nat.le_of_ble_eq_true rfl⟩) (by omega) hF.1 rfl rfl hl.1 rfl (Nat.le_of_ble_eq_true rfl) dX0_passBuoy_36 ⟨Nat.le_of_ble_eq_true rfl, Nat.le_of_ble_eq_true rfl⟩ (fun H locs hw => ?_)
    refine lv_if_eq (tgt := 51) X.1 X.2.1 dX0_passBuoy_39 (by decide) (fun c2 => ?_) (fun c2 => ?_)
    · replace c2 := bI_z c2
      refine lv_bipush (v := (-2)) X.1 X.2.1 dX0_passBuoy_51 (by decide) ?_
      exact x_iret X hr hlk hK hw (v := (-2)) rfl (auto_st (by rw [s_X0_passBuoy, if_pos c1, if_neg c2] : s_X0_passBuoy g t x y = ((-2), g, t)) hF hfr) dX0_passBuoy_53
    · replace c2 := bI_nz c2
      refine lv_iload_n X.1 X.2.1 dX0_passBuoy_42 rfl (lv_at hl 3 rfl) ?_
      refine lv_if_lt (tgt := 51) X.1 X.2.1 dX0_passBuoy_43 (by decide) (fun c3 => ?_) (fun c3 => ?_)
      · refine lv_bipush (v := (-2)) X.1 X.2.1 dX0_passBuoy_51 (by decide) ?_
        exact x_iret X hr hlk hK hw (v := (-2)) rfl (auto_st (by rw [s_X0_passBuoy, if_pos c1, if_pos c2, if_pos c3] : s_X0_passBuoy g t x y = ((-2), g, t)) hF hfr) dX0_passBuoy_53
      · refine lv_iload_n X.1 X.2.1 dX0_passBuoy_46 rfl (lv_at hl 3 rfl) ?_
        refine lv_iload_n X.1 X.2.1 dX0_passBuoy_47 rfl (lv_at hl 0 rfl) ?_
        refine lv_icmp_lt (tgt := 54) X.1 X.2.1 dX0_passBuoy_48 (by decide) (fun c4 => ?_) (fun c4 => ?_)
        · refine lv_aload_n X.1 X.2.1 dX0_passBuoy_54 rfl (lv_at hl 1 rfl) ?_
          refine x_get X hK hw (C := RX0) (T := TX0) (nf := 1) (k := q) (by omega) hQ rfl inX0 0 (by decide) q119 (fun _ h9 => h9) rfl dX0_passBuoy_55 ?_
          refine lv_iload_n X.1 X.2.1 dX0_passBuoy_58 rfl (lv_at hl 2 rfl) ?_
          refine lv_iconst (v := nI 0) X.1 X.2.1 dX0_passBuoy_59 (by decide) ?_
          refine x_callVP X hK hw (k := b) (As := [.int x, .int (nI 0)]) (rest := []) (k_X5_latestEntry hI b g t x (nI 0) (by omega) hF) (x_cwV yX5_latestEntry cX5_latestEntry 3 (some .int) 2 X q369 q370 q371 q2 q372 hd_X5_latestEntry ⟨Nat.le_of_ble_eq_true rfl, Nat.le_of_ble_eq_true rfl⟩) (by omega) hF.1 rfl rfl hl.1 rfl (Nat.le_of_ble_eq_true rfl) dX0_passBuoy_60 ⟨Nat.le_of_ble_eq_true rfl, Nat.le_of_ble_eq_true rfl⟩ (fun H locs hw => ?_)
          refine lv_iconst (v := nI 2) X.1 X.2.1 dX0_passBuoy_63 (by decide) ?_
          refine lv_icmp_eq (tgt := 70) X.1 X.2.1 dX0_passBuoy_64 (by decide) (fun c5 => ?_) (fun c5 => ?_)
          · refine lv_aload_n X.1 X.2.1 dX0_passBuoy_70 rfl (lv_at hl 1 rfl) ?_
            refine x_get X hK hw (C := RX0) (T := TX0) (nf := 1) (k := q) (by omega) hQ rfl inX0 0 (by decide) q119 (fun _ h9 => h9) rfl dX0_passBuoy_71 ?_
            refine lv_iload_n X.1 X.2.1 dX0_passBuoy_74 rfl (lv_at hl 2 rfl) ?_
            refine lv_iconst (v := nI 1) X.1 X.2.1 dX0_passBuoy_75 (by decide) ?_
            refine x_callVP X hK hw (k := b) (As := [.int x, .int (nI 1)]) (rest := []) (k_X5_latestEntry hI b g t x (nI 1) (by omega) hF) (x_cwV yX5_latestEntry cX5_latestEntry 3 (some .int) 2 X q369 q370 q371 q2 q372 hd_X5_latestEntry ⟨Nat.le_of_ble_eq_true rfl, Nat.le_of_ble_eq_true rfl⟩) (by omega) hF.1 rfl rfl hl.1 rfl (Nat.le_of_ble_eq_true rfl) dX0_passBuoy_76 ⟨Nat.le_of_ble_eq_true rfl, Nat.le_of_ble_eq_true rfl⟩ (fun H locs hw => ?_)
            refine lv_istore (lv' := [(4, .int (c_lat g t x (nI 1))), (3, .int (tg 3 18 ((t 2)) (g 2 - nI 1) (nI 0))), (0, .ref (ad q)), (1, .int x), (2, .int y)]) X.1 X.2.1 dX0_passBuoy_79 hl (by decide) rfl (fun ls hl => ?_)
            refine lv_iload_n X.1 X.2.1 dX0_passBuoy_81 rfl (lv_at hl 1 rfl) ?_
            refine lv_if_le (tgt := 105) X.1 X.2.1 dX0_passBuoy_82 (by decide) (fun c6 => ?_) (fun c6 => ?_)
            · refine lv_iconst (v := nI 0) X.1 X.2.1 dX0_passBuoy_105 (by decide) ?_
              refine lv_istore (lv' := [(5, .int (nI 0)), (4, .int (c_lat g t x (nI 1))), (3, .int (tg 3 18 ((t 2)) (g 2 - nI 1) (nI 0))), (0, .ref (ad q)), (1, .int x), (2, .int y)]) X.1 X.2.1 dX0_passBuoy_106 hl (by decide) rfl (fun ls hl => ?_)
              refine lv_iload X.1 X.2.1 dX0_passBuoy_108 (lv_at hl 0 rfl) ?_
              refine lv_if_eq (tgt := 117) X.1 X.2.1 dX0_passBuoy_110 (by decide) (fun c7 => ?_) (fun c7 => ?_)
              · refine lv_iconst (v := nI 2) X.1 X.2.1 dX0_passBuoy_117 (by decide) ?_
                refine lv_istore (lv' := [(6, .int (nI 2)), (5, .int (nI 0)), (4, .int (c_lat g t x (nI 1))), (3, .int (tg 3 18 ((t 2)) (g 2 - nI 1) (nI 0))), (0, .ref (ad q)), (1, .int x), (2, .int y)]) X.1 X.2.1 dX0_passBuoy_118 hl (by decide) rfl (fun ls hl => ?_)
                refine lv_aload_n X.1 X.2.1 dX0_passBuoy_120 rfl (lv_at hl 4 rfl) ?_
                refine x_get X hK hw (C := RX0) (T := TX0) (nf := 1) (k := q) (by omega) hQ rfl inX0 0 (by decide) q119 (fun _ h9 => h9) rfl dX0_passBuoy_121 ?_
                refine lv_iload_n X.1 X.2.1 dX0_passBuoy_124 rfl (lv_at hl 5 rfl) ?_
                refine lv_iload X.1 X.2.1 dX0_passBuoy_125 (lv_at hl 0 rfl) ?_
                refine lv_aload_n X.1 X.2.1 dX0_passBuoy_127 rfl (lv_at hl 4 rfl) ?_
                refine x_get X hK hw (C := RX0) (T := TX0) (nf := 1) (k := q) (by omega) hQ rfl inX0 0 (by decide) q119 (fun _ h9 => h9) rfl dX0_passBuoy_128 ?_
                refine lv_iload_n X.1 X.2.1 dX0_passBuoy_131 rfl (lv_at hl 5 rfl) ?_
                refine lv_iload X.1 X.2.1 dX0_passBuoy_132 (lv_at hl 0 rfl) ?_
                refine x_callVP X hK hw (k := b) (As := [.int x, .int (nI 2)]) (rest := [.int (nI 2), .int x, .ref (ad b)]) (k_X5_latestEntry hI b g t x (nI 2) (by omega) hF) (x_cwV yX5_latestEntry cX5_latestEntry 3 (some .int) 2 X q369 q370 q371 q2 q372 hd_X5_latestEntry ⟨Nat.le_of_ble_eq_true rfl, Nat.le_of_ble_eq_true rfl⟩) (by omega) hF.1 rfl rfl hl.1 rfl (Nat.le_of_ble_eq_true rfl) dX0_passBuoy_134 ⟨Nat.le_of_ble_eq_true rfl, Nat.le_of_ble_eq_true rfl⟩ (fun H locs hw => ?_)
                refine lv_iconst (v := nI 1) X.1 X.2.1 dX0_passBuoy_137 (by decide) ?_
                refine lv_iadd X.1 X.2.1 dX0_passBuoy_138 ?_
                refine x_callVv X hK hw (k := b) (As := [.int x, .int (nI 2), .int ((c_lat g t x (nI 2)) + (nI 1))]) (rest := []) (k_X5_putLatestEntry hI b g t x (nI 2) ((c_lat g t x (nI 2)) + (nI 1)) (by omega) hF) (x_cwV yX5_putLatestEntry cX5_putLatestEntry 4 none 3 X q379 q380 q381 q2 q382 hd_X5_putLatestEntry ⟨Nat.le_of_ble_eq_true rfl, Nat.le_of_ble_eq_true rfl⟩) (by omega) hF.1 rfl rfl hl.1 rfl (Nat.le_of_ble_eq_true rfl) dX0_passBuoy_139 ⟨Nat.le_of_ble_eq_true rfl, Nat.le_of_ble_eq_true rfl⟩ (fun F8 H locs hp hw => ?_)
                obtain ⟨hF9, hr10⟩ := hp
                have hq11 := (hr10 _ (by omega)).trans hQ
                replace hfr := hfr.tr hr10 (by omega) (by omega)
                refine lv_aload_n X.1 X.2.1 dX0_passBuoy_142 rfl (lv_at hl 4 rfl) ?_
                refine x_get X hK hw (C := RX0) (T := TX0) (nf := 1) (k := q) (by omega) hq11 rfl inX0 0 (by decide) q119 (fun _ h9 => h9) rfl dX0_passBuoy_143 ?_
                refine lv_iload_n X.1 X.2.1 dX0_passBuoy_146 rfl (lv_at hl 5 rfl) ?_
                refine lv_iconst (v := nI 1) X.1 X.2.1 dX0_passBuoy_147 (by decide) ?_
                refine x_callVP X hK hw (k := b) (As := [.int x, .int (nI 1)]) (rest := []) (k_X5_latestEntry hI b ((g)) ((c_pl g t x (nI 2) ((c_lat g t x (nI 2)) + (nI 1)))) x (nI 1) (by omega) hF9) (x_cwV yX5_latestEntry cX5_latestEntry 3 (some .int) 2 X q369 q370 q371 q2 q372 hd_X5_latestEntry ⟨Nat.le_of_ble_eq_true rfl, Nat.le_of_ble_eq_true rfl⟩) (by omega) hF9.1 rfl rfl hl.1 rfl (Nat.le_of_ble_eq_true rfl) dX0_passBuoy_148 ⟨Nat.le_of_ble_eq_true rfl, Nat.le_of_ble_eq_true rfl⟩ (fun H locs hw => ?_)
                exact x_iret X hr hlk hK hw (v := c_lat ((g)) ((c_pl g t x (nI 2) ((c_lat g t x (nI 2)) + (nI 1)))) x (nI 1)) rfl (auto_st (by rw [s_X0_passBuoy, if_pos c1, if_pos c2, if_neg c3, if_pos c4, if_pos c5, if_pos c6] : s_X0_passBuoy g t x y = (c_lat ((g)) ((c_pl g t x (nI 2) ((c_lat g t x (nI 2)) + (nI 1)))) x (nI 1), (g), (c_pl g t x (nI 2) ((c_lat g t x (nI 2)) + (nI 1))))) hF9 hfr) dX0_passBuoy_151
              · exact absurd (by decide) c7
            · refine lv_iload_n X.1 X.2.1 dX0_passBuoy_85 rfl (lv_at hl 4 rfl) ?_
              refine lv_iload X.1 X.2.1 dX0_passBuoy_86 (lv_at hl 0 rfl) ?_
              refine lv_iload_n X.1 X.2.1 dX0_passBuoy_88 rfl (lv_at hl 1 rfl) ?_
              refine lv_irem X.1 X.2.1 dX0_passBuoy_89 (by intro h; rw [h] at c6; exact c6 (by decide)) ?_
              refine lv_icmp_ne (tgt := 105) X.1 X.2.1 dX0_passBuoy_90 (by decide) (fun c12 => ?_) (fun c12 => ?_)
              · refine lv_iconst (v := nI 0) X.1 X.2.1 dX0_passBuoy_105 (by decide) ?_
                refine lv_istore (lv' := [(5, .int (nI 0)), (4, .int (c_lat g t x (nI 1))), (3, .int (tg 3 18 ((t 2)) (g 2 - nI 1) (nI 0))), (0, .ref (ad q)), (1, .int x), (2, .int y)]) X.1 X.2.1 dX0_passBuoy_106 hl (by decide) rfl (fun ls hl => ?_)
                refine lv_iload X.1 X.2.1 dX0_passBuoy_108 (lv_at hl 0 rfl) ?_
                refine lv_if_eq (tgt := 117) X.1 X.2.1 dX0_passBuoy_110 (by decide) (fun c13 => ?_) (fun c13 => ?_)
                · refine lv_iconst (v := nI 2) X.1 X.2.1 dX0_passBuoy_117 (by decide) ?_
                  refine lv_istore (lv' := [(6, .int (nI 2)), (5, .int (nI 0)), (4, .int (c_lat g t x (nI 1))), (3, .int (tg 3 18 ((t 2)) (g 2 - nI 1) (nI 0))), (0, .ref (ad q)), (1, .int x), (2, .int y)]) X.1 X.2.1 dX0_passBuoy_118 hl (by decide) rfl (fun ls hl => ?_)
                  refine lv_aload_n X.1 X.2.1 dX0_passBuoy_120 rfl (lv_at hl 4 rfl) ?_
                  refine x_get X hK hw (C := RX0) (T := TX0) (nf := 1) (k := q) (by omega) hQ rfl inX0 0 (by decide) q119 (fun _ h9 => h9) rfl dX0_passBuoy_121 ?_
                  refine lv_iload_n X.1 X.2.1 dX0_passBuoy_124 rfl (lv_at hl 5 rfl) ?_
                  refine lv_iload X.1 X.2.1 dX0_passBuoy_125 (lv_at hl 0 rfl) ?_
                  refine lv_aload_n X.1 X.2.1 dX0_passBuoy_127 rfl (lv_at hl 4 rfl) ?_
                  refine x_get X hK hw (C := RX0) (T := TX0) (nf := 1) (k := q) (by omega) hQ rfl inX0 0 (by decide) q119 (fun _ h9 => h9) rfl dX0_passBuoy_128 ?_
                  refine lv_iload_n X.1 X.2.1 dX0_passBuoy_131 rfl (lv_at hl 5 rfl) ?_
                  refine lv_iload X.1 X.2.1 dX0_passBuoy_132 (lv_at hl 0 rfl) ?_
                  refine x_callVP X hK hw (k := b) (As := [.int x, .int (nI 2)]) (rest := [.int (nI 2), .int x, .ref (ad b)]) (k_X5_latestEntry hI b g t x (nI 2) (by omega) hF) (x_cwV yX5_latestEntry cX5_latestEntry 3 (some .int) 2 X q369 q370 q371 q2 q372 hd_X5_latestEntry ⟨Nat.le_of_ble_eq_true rfl, Nat.le_of_ble_eq_true rfl⟩) (by omega) hF.1 rfl rfl hl.1 rfl (Nat.le_of_ble_eq_true rfl) dX0_passBuoy_134 ⟨Nat.le_of_ble_eq_true rfl, Nat.le_of_ble_eq_true rfl⟩ (fun H locs hw => ?_)
                  refine lv_iconst (v := nI 1) X.1 X.2.1 dX0_passBuoy_137 (by decide) ?_
                  refine lv_iadd X.1 X.2.1 dX0_passBuoy_138 ?_
                  refine x_callVv X hK hw (k := b) (As := [.int x, .int (nI 2), .int ((c_lat g t x (nI 2)) + (nI 1))]) (rest := []) (k_X5_putLatestEntry hI b g t x (nI 2) ((c_lat g t x (nI 2)) + (nI 1)) (by omega) hF) (x_cwV yX5_putLatestEntry cX5_putLatestEntry 4 none 3 X q379 q380 q381 q2 q382 hd_X5_putLatestEntry ⟨Nat.le_of_ble_eq_true rfl, Nat.le_of_ble_eq_true rfl⟩) (by omega) hF.1 rfl rfl hl.1 rfl (Nat.le_of_ble_eq_true rfl) dX0_passBuoy_139 ⟨Nat.le_of_ble_eq_true rfl, Nat.le_of_ble_eq_true rfl⟩ (fun F14 H locs hp hw => ?_)
                  obtain ⟨hF15, hr16⟩ := hp
                  have hq17 := (hr16 _ (by omega)).trans hQ
                  replace hfr := hfr.tr hr16 (by omega) (by omega)
                  refine lv_aload_n X.1 X.2.1 dX0_passBuoy_142 rfl (lv_at hl 4 rfl) ?_
                  refine x_get X hK hw (C := RX0) (T := TX0) (nf := 1) (k := q) (by omega) hq17 rfl inX0 0 (by decide) q119 (fun _ h9 => h9) rfl dX0_passBuoy_143 ?_
                  refine lv_iload_n X.1 X.2.1 dX0_passBuoy_146 rfl (lv_at hl 5 rfl) ?_
                  refine lv_iconst (v := nI 1) X.1 X.2.1 dX0_passBuoy_147 (by decide) ?_
                  refine x_callVP X hK hw (k := b) (As := [.int x, .int (nI 1)]) (rest := []) (k_X5_latestEntry hI b ((g)) ((c_pl g t x (nI 2) ((c_lat g t x (nI 2)) + (nI 1)))) x (nI 1) (by omega) hF15) (x_cwV yX5_latestEntry cX5_latestEntry 3 (some .int) 2 X q369 q370 q371 q2 q372 hd_X5_latestEntry ⟨Nat.le_of_ble_eq_true rfl, Nat.le_of_ble_eq_true rfl⟩) (by omega) hF15.1 rfl rfl hl.1 rfl (Nat.le_of_ble_eq_true rfl) dX0_passBuoy_148 ⟨Nat.le_of_ble_eq_true rfl, Nat.le_of_ble_eq_true rfl⟩ (fun H locs hw => ?_)
                  exact x_iret X hr hlk hK hw (v := c_lat ((g)) ((c_pl g t x (nI 2) ((c_lat g t x (nI 2)) + (nI 1)))) x (nI 1)) rfl (auto_st (by rw [s_X0_passBuoy, if_pos c1, if_pos c2, if_neg c3, if_pos c4, if_pos c5, if_neg c6, if_neg c12] : s_X0_passBuoy g t x y = (c_lat ((g)) ((c_pl g t x (nI 2) ((c_lat g t x (nI 2)) + (nI 1)))) x (nI 1), (g), (c_pl g t x (nI 2) ((c_lat g t x (nI 2)) + (nI 1))))) hF15 hfr) dX0_passBuoy_151
                · exact absurd (by decide) c13
              · refine lv_aload_n X.1 X.2.1 dX0_passBuoy_93 rfl (lv_at hl 2 rfl) ?_
                refine lv_iload_n X.1 X.2.1 dX0_passBuoy_94 rfl (lv_at hl 3 rfl) ?_
                refine x_callVP X hK hw (k := q) (As := [.int x]) (rest := []) (k_X0_hasAllRoundings hI q b g t x (by omega) (by omega) hQ (by omega) hF) (x_cwV yX0_hasAllRoundings cX0_hasAllRoundings 4 (some .boolean) 1 X q374 q376 qs2 q5 q377 hd_X0_hasAllRoundings ⟨Nat.le_of_ble_eq_true rfl, Nat.le_of_ble_eq_true rfl⟩) (by omega) hQ rfl rfl hl.1 rfl (Nat.le_of_ble_eq_true rfl) dX0_passBuoy_95 ⟨Nat.le_of_ble_eq_true rfl, Nat.le_of_ble_eq_true rfl⟩ (fun H locs hw => ?_)
                refine lv_if_ne (tgt := 105) X.1 X.2.1 dX0_passBuoy_98 (by decide) (fun c18 => ?_) (fun c18 => ?_)
                · refine lv_iconst (v := nI 0) X.1 X.2.1 dX0_passBuoy_105 (by decide) ?_
                  refine lv_istore (lv' := [(5, .int (nI 0)), (4, .int (c_lat g t x (nI 1))), (3, .int (tg 3 18 ((t 2)) (g 2 - nI 1) (nI 0))), (0, .ref (ad q)), (1, .int x), (2, .int y)]) X.1 X.2.1 dX0_passBuoy_106 hl (by decide) rfl (fun ls hl => ?_)
                  refine lv_iload X.1 X.2.1 dX0_passBuoy_108 (lv_at hl 0 rfl) ?_
                  refine lv_if_eq (tgt := 117) X.1 X.2.1 dX0_passBuoy_110 (by decide) (fun c19 => ?_) (fun c19 => ?_)
                  · refine lv_iconst (v := nI 2) X.1 X.2.1 dX0_passBuoy_117 (by decide) ?_
                    refine lv_istore (lv' := [(6, .int (nI 2)), (5, .int (nI 0)), (4, .int (c_lat g t x (nI 1))), (3, .int (tg 3 18 ((t 2)) (g 2 - nI 1) (nI 0))), (0, .ref (ad q)), (1, .int x), (2, .int y)]) X.1 X.2.1 dX0_passBuoy_118 hl (by decide) rfl (fun ls hl => ?_)
                    refine lv_aload_n X.1 X.2.1 dX0_passBuoy_120 rfl (lv_at hl 4 rfl) ?_
                    refine x_get X hK hw (C := RX0) (T := TX0) (nf := 1) (k := q) (by omega) hQ rfl inX0 0 (by decide) q119 (fun _ h9 => h9) rfl dX0_passBuoy_121 ?_
                    refine lv_iload_n X.1 X.2.1 dX0_passBuoy_124 rfl (lv_at hl 5 rfl) ?_
                    refine lv_iload X.1 X.2.1 dX0_passBuoy_125 (lv_at hl 0 rfl) ?_
                    refine lv_aload_n X.1 X.2.1 dX0_passBuoy_127 rfl (lv_at hl 4 rfl) ?_
                    refine x_get X hK hw (C := RX0) (T := TX0) (nf := 1) (k := q) (by omega) hQ rfl inX0 0 (by decide) q119 (fun _ h9 => h9) rfl dX0_passBuoy_128 ?_
                    refine lv_iload_n X.1 X.2.1 dX0_passBuoy_131 rfl (lv_at hl 5 rfl) ?_
                    refine lv_iload X.1 X.2.1 dX0_passBuoy_132 (lv_at hl 0 rfl) ?_
                    refine x_callVP X hK hw (k := b) (As := [.int x, .int (nI 2)]) (rest := [.int (nI 2), .int x, .ref (ad b)]) (k_X5_latestEntry hI b g t x (nI 2) (by omega) hF) (x_cwV yX5_latestEntry cX5_latestEntry 3 (some .int) 2 X q369 q370 q371 q2 q372 hd_X5_latestEntry ⟨Nat.le_of_ble_eq_true rfl, Nat.le_of_ble_eq_true rfl⟩) (by omega) hF.1 rfl rfl hl.1 rfl (Nat.le_of_ble_eq_true rfl) dX0_passBuoy_134 ⟨Nat.le_of_ble_eq_true rfl, Nat.le_of_ble_eq_true rfl⟩ (fun H locs hw => ?_)
                    refine lv_iconst (v := nI 1) X.1 X.2.1 dX0_passBuoy_137 (by decide) ?_
                    refine lv_iadd X.1 X.2.1 dX0_passBuoy_138 ?_
                    refine x_callVv X hK hw (k := b) (As := [.int x, .int (nI 2), .int ((c_lat g t x (nI 2)) + (nI 1))]) (rest := []) (k_X5_putLatestEntry hI b g t x (nI 2) ((c_lat g t x (nI 2)) + (nI 1)) (by omega) hF) (x_cwV yX5_putLatestEntry cX5_putLatestEntry 4 none 3 X q379 q380 q381 q2 q382 hd_X5_putLatestEntry ⟨Nat.le_of_ble_eq_true rfl, Nat.le_of_ble_eq_true rfl⟩) (by omega) hF.1 rfl rfl hl.1 rfl (Nat.le_of_ble_eq_true rfl) dX0_passBuoy_139 ⟨Nat.le_of_ble_eq_true rfl, Nat.le_of_ble_eq_true rfl⟩ (fun F20 H locs hp hw => ?_)
                    obtain ⟨hF21, hr22⟩ := hp
                    have hq23 := (hr22 _ (by omega)).trans hQ
                    replace hfr := hfr.tr hr22 (by omega) (by omega)
                    refine lv_aload_n X.1 X.2.1 dX0_passBuoy_142 rfl (lv_at hl 4 rfl) ?_
                    refine x_get X hK hw (C := RX0) (T := TX0) (nf := 1) (k := q) (by omega) hq23 rfl inX0 0 (by decide) q119 (fun _ h9 => h9) rfl dX0_passBuoy_143 ?_
                    refine lv_iload_n X.1 X.2.1 dX0_passBuoy_146 rfl (lv_at hl 5 rfl) ?_
                    refine lv_iconst (v := nI 1) X.1 X.2.1 dX0_passBuoy_147 (by decide) ?_
                    refine x_callVP X hK hw (k := b) (As := [.int x, .int (nI 1)]) (rest := []) (k_X5_latestEntry hI b ((g)) ((c_pl g t x (nI 2) ((c_lat g t x (nI 2)) + (nI 1)))) x (nI 1) (by omega) hF21) (x_cwV yX5_latestEntry cX5_latestEntry 3 (some .int) 2 X q369 q370 q371 q2 q372 hd_X5_latestEntry ⟨Nat.le_of_ble_eq_true rfl, Nat.le_of_ble_eq_true rfl⟩) (by omega) hF21.1 rfl rfl hl.1 rfl (Nat.le_of_ble_eq_true rfl) dX0_passBuoy_148 ⟨Nat.le_of_ble_eq_true rfl, Nat.le_of_ble_eq_true rfl⟩ (fun H locs hw => ?_)
                    exact x_iret X hr hlk hK hw (v := c_lat ((g)) ((c_pl g t x (nI 2) ((c_lat g t x (nI 2)) + (nI 1)))) x (nI 1)) rfl (auto_st (by rw [s_X0_passBuoy, if_pos c1, if_pos c2, if_neg c3, if_pos c4, if_pos c5, if_neg c6, if_pos c12, if_neg c18] : s_X0_passBuoy g t x y = (c_lat ((g)) ((c_pl g t x (nI 2) ((c_lat g t x (nI 2)) + (nI 1)))) x (nI 1), (g), (c_pl g t x (nI 2) ((c_lat g t x (nI 2)) + (nI 1))))) hF21 hfr) dX0_passBuoy_151
                  · exact absurd (by decide) c19
                · refine lv_iconst (v := nI 1) X.1 X.2.1 dX0_passBuoy_101 (by decide) ?_
                  refine lv_goto (tgt := 106) X.1 X.2.1 dX0_passBuoy_102 (by decide) ?_
                  refine lv_istore (lv' := [(5, .int (nI 1)), (4, .int (c_lat g t x (nI 1))), (3, .int (tg 3 18 ((t 2)) (g 2 - nI 1) (nI 0))), (0, .ref (ad q)), (1, .int x), (2, .int y)]) X.1 X.2.1 dX0_passBuoy_106 hl (by decide) rfl (fun ls hl => ?_)
                  refine lv_iload X.1 X.2.1 dX0_passBuoy_108 (lv_at hl 0 rfl) ?_
                  refine lv_if_eq (tgt := 117) X.1 X.2.1 dX0_passBuoy_110 (by decide) (fun c24 => ?_) (fun c24 => ?_)
                  · exact absurd c24 (by decide)
                  · refine lv_iconst (v := nI 1) X.1 X.2.1 dX0_passBuoy_113 (by decide) ?_
                    refine lv_goto (tgt := 118) X.1 X.2.1 dX0_passBuoy_114 (by decide) ?_
                    refine lv_istore (lv' := [(6, .int (nI 1)), (5, .int (nI 1)), (4, .int (c_lat g t x (nI 1))), (3, .int (tg 3 18 ((t 2)) (g 2 - nI 1) (nI 0))), (0, .ref (ad q)), (1, .int x), (2, .int y)]) X.1 X.2.1 dX0_passBuoy_118 hl (by decide) rfl (fun ls hl => ?_)
                    refine lv_aload_n X.1 X.2.1 dX0_passBuoy_120 rfl (lv_at hl 4 rfl) ?_
                    refine x_get X hK hw (C := RX0) (T := TX0) (nf := 1) (k := q) (by omega) hQ rfl inX0 0 (by decide) q119 (fun _ h9 => h9) rfl dX0_passBuoy_121 ?_
                    refine lv_iload_n X.1 X.2.1 dX0_passBuoy_124 rfl (lv_at hl 5 rfl) ?_
                    refine lv_iload X.1 X.2.1 dX0_passBuoy_125 (lv_at hl 0 rfl) ?_
                    refine lv_aload_n X.1 X.2.1 dX0_passBuoy_127 rfl (lv_at hl 4 rfl) ?_
                    refine x_get X hK hw (C := RX0) (T := TX0) (nf := 1) (k := q) (by omega) hQ rfl inX0 0 (by decide) q119 (fun _ h9 => h9) rfl dX0_passBuoy_128 ?_
                    refine lv_iload_n X.1 X.2.1 dX0_passBuoy_131 rfl (lv_at hl 5 rfl) ?_
                    refine lv_iload X.1 X.2.1 dX0_passBuoy_132 (lv_at hl 0 rfl) ?_
                    refine x_callVP X hK hw (k := b) (As := [.int x, .int (nI 1)]) (rest := [.int (nI 1), .int x, .ref (ad b)]) (k_X5_latestEntry hI b g t x (nI 1) (by omega) hF) (x_cwV yX5_latestEntry cX5_latestEntry 3 (some .int) 2 X q369 q370 q371 q2 q372 hd_X5_latestEntry ⟨Nat.le_of_ble_eq_true rfl, Nat.le_of_ble_eq_true rfl⟩) (by omega) hF.1 rfl rfl hl.1 rfl (Nat.le_of_ble_eq_true rfl) dX0_passBuoy_134 ⟨Nat.le_of_ble_eq_true rfl, Nat.le_of_ble_eq_true rfl⟩ (fun H locs hw => ?_)
                    refine lv_iconst (v := nI 1) X.1 X.2.1 dX0_passBuoy_137 (by decide) ?_
                    refine lv_iadd X.1 X.2.1 dX0_passBuoy_138 ?_
                    refine x_callVv X hK hw (k := b) (As := [.int x, .int (nI 1), .int ((c_lat g t x (nI 1)) + (nI 1))]) (rest := []) (k_X5_putLatestEntry hI b g t x (nI 1) ((c_lat g t x (nI 1)) + (nI 1)) (by omega) hF) (x_cwV yX5_putLatestEntry cX5_putLatestEntry 4 none 3 X q379 q380 q381 q2 q382 hd_X5_putLatestEntry ⟨Nat.le_of_ble_eq_true rfl, Nat.le_of_ble_eq_true rfl⟩) (by omega) hF.1 rfl rfl hl.1 rfl (Nat.le_of_ble_eq_true rfl) dX0_passBuoy_139 ⟨Nat.le_of_ble_eq_true rfl, Nat.le_of_ble_eq_true rfl⟩ (fun F25 H locs hp hw => ?_)
                    obtain ⟨hF26, hr27⟩ := hp
                    have hq28 := (hr27 _ (by omega)).trans hQ
                    replace hfr := hfr.tr hr27 (by omega) (by omega)
                    refine lv_aload_n X.1 X.2.1 dX0_passBuoy_142 rfl (lv_at hl 4 rfl) ?_
                    refine x_get X hK hw (C := RX0) (T := TX0) (nf := 1) (k := q) (by omega) hq28 rfl inX0 0 (by decide) q119 (fun _ h9 => h9) rfl dX0_passBuoy_143 ?_
                    refine lv_iload_n X.1 X.2.1 dX0_passBuoy_146 rfl (lv_at hl 5 rfl) ?_
                    refine lv_iconst (v := nI 1) X.1 X.2.1 dX0_passBuoy_147 (by decide) ?_
                    refine x_callVP X hK hw (k := b) (As := [.int x, .int (nI 1)]) (rest := []) (k_X5_latestEntry hI b ((g)) ((c_pl g t x (nI 1) ((c_lat g t x (nI 1)) + (nI 1)))) x (nI 1) (by omega) hF26) (x_cwV yX5_latestEntry cX5_latestEntry 3 (some .int) 2 X q369 q370 q371 q2 q372 hd_X5_latestEntry ⟨Nat.le_of_ble_eq_true rfl, Nat.le_of_ble_eq_true rfl⟩) (by omega) hF26.1 rfl rfl hl.1 rfl (Nat.le_of_ble_eq_true rfl) dX0_passBuoy_148 ⟨Nat.le_of_ble_eq_true rfl, Nat.le_of_ble_eq_true rfl⟩ (fun H locs hw => ?_)
                    exact x_iret X hr hlk hK hw (v := c_lat ((g)) ((c_pl g t x (nI 1) ((c_lat g t x (nI 1)) + (nI 1)))) x (nI 1)) rfl (auto_st (by rw [s_X0_passBuoy, if_pos c1, if_pos c2, if_neg c3, if_pos c4, if_pos c5, if_neg c6, if_pos c12, if_pos c18] : s_X0_passBuoy g t x y = (c_lat ((g)) ((c_pl g t x (nI 1) ((c_lat g t x (nI 1)) + (nI 1)))) x (nI 1), (g), (c_pl g t x (nI 1) ((c_lat g t x (nI 1)) + (nI 1))))) hF26 hfr) dX0_passBuoy_151
          · refine lv_bipush (v := (-4)) X.1 X.2.1 dX0_passBuoy_67 (by decide) ?_
            exact x_iret X hr hlk hK hw (v := (-4)) rfl (auto_st (by rw [s_X0_passBuoy, if_pos c1, if_pos c2, if_neg c3, if_pos c4, if_neg c5] : s_X0_passBuoy g t x y = ((-4), g, t)) hF hfr) dX0_passBuoy_69
        · refine lv_bipush (v := (-2)) X.1 X.2.1 dX0_passBuoy_51 (by decide) ?_
          exact x_iret X hr hlk hK hw (v := (-2)) rfl (auto_st (by rw [s_X0_passBuoy, if_pos c1, if_pos c2, if_neg c3, if_neg c4] : s_X0_passBuoy g t x y = ((-2), g, t)) hF hfr) dX0_passBuoy_53
  · replace c1 := bI_z c1
    refine lv_iconst (v := (-1)) X.1 X.2.1 dX0_passBuoy_11 (by decide) ?_
    exact x_iret X hr hlk hK hw (v := (-1)) rfl (auto_st (by rw [s_X0_passBuoy, if_neg c1] : s_X0_passBuoy g t x y = ((-1), g, t)) hF hfr) dX0_passBuoy_12
def s_X0_retireBoat (g : Nat → Int32) (t : Nat → Nat → Int32) (x : Int32) : Int32 × (Nat → Int32) × (Nat → Nat → Int32) := (if ¬ x < 0 ∧ ¬ g 1 ≤ x then (if g 3 = nI 1 then (if (c_lat g t x (nI 0)) = (nI 3) then ((-4), g, t) else (if (c_lat g t x (nI 0)) = (nI 4) then ((-4), g, t) else (c_lat g t x (nI 0), (g), (c_pl g t x (nI 0) (nI 4))))) else ((-4), g, t)) else ((-1), g, t))
set_option maxHeartbeats 4000000 in
set_option maxRecDepth 100000 in
theorem k_X0_retireBoat {l : Launch} {D : va_G} {cI cB cS : ClassId} {ad : Nat → Nat} {N : Nat} {F : Nat → va_E} (hI : iN ad N) (q : Nat) (b : Nat) (g : Nat → Int32) (t : Nat → Nat → Int32) (x : Int32) (hq : q + 1 ≤ N) (hqb : q + 1 ≤ b ∨ b + 11 ≤ q) (hQ : CoF ad F q b) (hb : b + 11 ≤ N) (hF : StF ad cI F b g t) : Ci l D cI cB cS ad N yX0_retireBoat cX0_retireBoat 3 (some .int) 2 47 [.ref (ad q), .int x] F (fun r F' => r = (s_X0_retireBoat g t x).1 ∧ StF ad cI F' b (s_X0_retireBoat g t x).2.1 (s_X0_retireBoat g t x).2.2 ∧ Fr F F' b (b + 11)) := by
  refine x_met (by decide +kernel) (Nat.le_of_ble_eq_true rfl) ?_
  intro p e s m below meth c X hr hlk hK hw ls hl
  replace hl : lv_has ls 3 [(0, .ref (ad q)), (1, .int x)] := hl
  have hfr : Fr F F (b) (b + 11) := Fr.rf
  refine lv_aload_n X.1 X.2.1 dX0_retireBoat_0 rfl (lv_at hl 0 rfl) ?_
  refine x_get X hK hw (C := RX0) (T := TX0) (nf := 1) (k := q) (by omega) hQ rfl inX0 0 (by decide) q119 (fun _ h9 => h9) rfl dX0_retireBoat_1 ?_
  refine lv_iload_n X.1 X.2.1 dX0_retireBoat_4 rfl (lv_at hl 1 rfl) ?_
  refine x_callVP X hK hw (k := b) (As := [.int x]) (rest := []) (k_X5_hasBoat hI b g t x (by omega) hF) (x_cwV yX5_hasBoat cX5_hasBoat 2 (some .boolean) 1 X q361 q362 q363 q2 q364 hd_X5_hasBoat ⟨Nat.le_of_ble_eq_true rfl, Nat.le_of_ble_eq_true rfl⟩) (by omega) hF.1 rfl rfl hl.1 rfl (Nat.le_of_ble_eq_true rfl) dX0_retireBoat_5 ⟨Nat.le_of_ble_eq_true rfl, Nat.le_of_ble_eq_true rfl⟩ (fun H locs hw => ?_)
  refine lv_if_ne (tgt := 13) X.1 X.2.1 dX0_retireBoat_8 (by decide) (fun c1 => ?_) (fun c1 => ?_)
  · replace c1 := bI_nz c1
    refine lv_aload_n X.1 X.2.1 dX0_retireBoat_13 rfl (lv_at hl 0 rfl) ?_
    refine x_get X hK hw (C := RX0) (T := TX0) (nf := 1) (k := q) (by omega) hQ rfl inX0 0 (by decide) q119 (fun _ h9 => h9) rfl dX0_retireBoat_14 ?_
    refine lv_iload_n X.1 X.2.1 dX0_retireBoat_17 rfl (lv_at hl 1 rfl) ?_
    refine lv_iconst (v := nI 0) X.1 X.2.1 dX0_retireBoat_18 (by decide) ?_
    refine x_callVP X hK hw (k := b) (As := [.int x, .int (nI 0)]) (rest := []) (k_X5_latestEntry hI b g t x (nI 0) (by omega) hF) (x_cwV yX5_latestEntry cX5_latestEntry 3 (some .int) 2 X q369 q370 q371 q2 q372 hd_X5_latestEntry ⟨Nat.le_of_ble_eq_true rfl, Nat.le_of_ble_eq_true rfl⟩) (by omega) hF.1 rfl rfl hl.1 rfl (Nat.le_of_ble_eq_true rfl) dX0_retireBoat_19 ⟨Nat.le_of_ble_eq_true rfl, Nat.le_of_ble_eq_true rfl⟩ (fun H locs hw => ?_)
    refine lv_istore_n (lv' := [(2, .int (c_lat g t x (nI 0))), (0, .ref (ad q)), (1, .int x)]) X.1 X.2.1 dX0_retireBoat_22 rfl hl (by decide) rfl (fun ls hl => ?_)
    refine lv_aload_n X.1 X.2.1 dX0_retireBoat_23 rfl (lv_at hl 1 rfl) ?_
    refine x_get X hK hw (C := RX0) (T := TX0) (nf := 1) (k := q) (by omega) hQ rfl inX0 0 (by decide) q119 (fun _ h9 => h9) rfl dX0_retireBoat_24 ?_
    refine x_callVP X hK hw (k := b) (As := []) (rest := []) (k_X5_isPrepared hI b g t (by omega) hF) (x_cwV yX5_isPrepared cX5_isPrepared 1 (some .boolean) 0 X q289 q290 q291 q2 q292 hd_X5_isPrepared ⟨Nat.le_of_ble_eq_true rfl, Nat.le_of_ble_eq_true rfl⟩) (by omega) hF.1 rfl rfl hl.1 rfl (Nat.le_of_ble_eq_true rfl) dX0_retireBoat_27 ⟨Nat.le_of_ble_eq_true rfl, Nat.le_of_ble_eq_true rfl⟩ (fun H locs hw => ?_)
    refine lv_if_eq (tgt := 43) X.1 X.2.1 dX0_retireBoat_30 (by decide) (fun c2 => ?_) (fun c2 => ?_)
    · replace c2 := bI_z c2
      refine lv_bipush (v := (-4)) X.1 X.2.1 dX0_retireBoat_43 (by decide) ?_
      exact x_iret X hr hlk hK hw (v := (-4)) rfl (auto_st (by rw [s_X0_retireBoat, if_pos c1, if_neg c2] : s_X0_retireBoat g t x = ((-4), g, t)) hF hfr) dX0_retireBoat_45
    · replace c2 := bI_nz c2
      refine lv_iload_n X.1 X.2.1 dX0_retireBoat_33 rfl (lv_at hl 0 rfl) ?_
      refine lv_iconst (v := nI 3) X.1 X.2.1 dX0_retireBoat_34 (by decide) ?_
      refine lv_icmp_eq (tgt := 43) X.1 X.2.1 dX0_retireBoat_35 (by decide) (fun c3 => ?_) (fun c3 => ?_)
      · refine lv_bipush (v := (-4)) X.1 X.2.1 dX0_retireBoat_43 (by decide) ?_
        exact x_iret X hr hlk hK hw (v := (-4)) rfl (auto_st (by rw [s_X0_retireBoat, if_pos c1, if_pos c2, if_pos c3] : s_X0_retireBoat g t x = ((-4), g, t)) hF hfr) dX0_retireBoat_45
      · refine lv_iload_n X.1 X.2.1 dX0_retireBoat_38 rfl (lv_at hl 0 rfl) ?_
        refine lv_iconst (v := nI 4) X.1 X.2.1 dX0_retireBoat_39 (by decide) ?_
        refine lv_icmp_ne (tgt := 46) X.1 X.2.1 dX0_retireBoat_40 (by decide) (fun c4 => ?_) (fun c4 => ?_)
        · refine lv_aload_n X.1 X.2.1 dX0_retireBoat_46 rfl (lv_at hl 1 rfl) ?_
          refine x_get X hK hw (C := RX0) (T := TX0) (nf := 1) (k := q) (by omega) hQ rfl inX0 0 (by decide) q119 (fun _ h9 => h9) rfl dX0_retireBoat_47 ?_
          refine lv_iload_n X.1 X.2.1 dX0_retireBoat_50 rfl (lv_at hl 2 rfl) ?_
          refine lv_iconst (v := nI 0) X.1 X.2.1 dX0_retireBoat_51 (by decide) ?_
          refine lv_iconst (v := nI 4) X.1 X.2.1 dX0_retireBoat_52 (by decide) ?_
          refine x_callVv X hK hw (k := b) (As := [.int x, .int (nI 0), .int (nI 4)]) (rest := []) (k_X5_putLatestEntry hI b g t x (nI 0) (nI 4) (by omega) hF) (x_cwV yX5_putLatestEntry cX5_putLatestEntry 4 none 3 X q379 q380 q381 q2 q382 hd_X5_putLatestEntry ⟨Nat.le_of_ble_eq_true rfl, Nat.le_of_ble_eq_true rfl⟩) (by omega) hF.1 rfl rfl hl.1 rfl (Nat.le_of_ble_eq_true rfl) dX0_retireBoat_53 ⟨Nat.le_of_ble_eq_true rfl, Nat.le_of_ble_eq_true rfl⟩ (fun F5 H locs hp hw => ?_)
          obtain ⟨hF6, hr7⟩ := hp
          have hq8 := (hr7 _ (by omega)).trans hQ
          replace hfr := hfr.tr hr7 (by omega) (by omega)
          refine lv_iload_n X.1 X.2.1 dX0_retireBoat_56 rfl (lv_at hl 0 rfl) ?_
          exact x_iret X hr hlk hK hw (v := c_lat g t x (nI 0)) rfl (auto_st (by rw [s_X0_retireBoat, if_pos c1, if_pos c2, if_neg c3, if_neg c4] : s_X0_retireBoat g t x = (c_lat g t x (nI 0), (g), (c_pl g t x (nI 0) (nI 4)))) hF6 hfr) dX0_retireBoat_57
        · refine lv_bipush (v := (-4)) X.1 X.2.1 dX0_retireBoat_43 (by decide) ?_
          exact x_iret X hr hlk hK hw (v := (-4)) rfl (auto_st (by rw [s_X0_retireBoat, if_pos c1, if_pos c2, if_neg c3, if_pos c4] : s_X0_retireBoat g t x = ((-4), g, t)) hF hfr) dX0_retireBoat_45
  · replace c1 := bI_z c1
    refine lv_iconst (v := (-1)) X.1 X.2.1 dX0_retireBoat_11 (by decide) ?_
    exact x_iret X hr hlk hK hw (v := (-1)) rfl (auto_st (by rw [s_X0_retireBoat, if_neg c1] : s_X0_retireBoat g t x = ((-1), g, t)) hF hfr) dX0_retireBoat_12
theorem hd_X5_entriesWith : yX5_entriesWith.cls = RX5 ∧ yX5_entriesWith.cls ≠ "java/lang/invoke/MethodHandle" ∧ yX5_entriesWith.cls ≠ "java/lang/invoke/VarHandle" ∧ (parseMethodDescriptor yX5_entriesWith.desc).map (fun d => d.parameters.length) = some 3 := by decide +kernel
def s_X0_closeRace (g : Nat → Int32) (t : Nat → Nat → Int32) (nb : Nat) : Int32 × (Nat → Int32) × (Nat → Nat → Int32) := (if g 3 = nI 1 then (if ¬ g 0 < c_start g t then (c_cnt t (((va_up g 3 (nI 2))) 2 - nI 1) (nI 0) (nI 3) nb, (va_up g 3 (nI 2)), t) else ((-4), g, t)) else ((-4), g, t))
set_option maxHeartbeats 4000000 in
set_option maxRecDepth 100000 in
theorem k_X0_closeRace {l : Launch} {D : va_G} {cI cB cS : ClassId} {ad : Nat → Nat} {N : Nat} {F : Nat → va_E} (hI : iN ad N) (q : Nat) (b : Nat) (g : Nat → Int32) (t : Nat → Nat → Int32) (nb : Nat) (hq : q + 1 ≤ N) (hqb : q + 1 ≤ b ∨ b + 11 ≤ q) (hQ : CoF ad F q b) (hb : b + 11 ≤ N) (hF : StF ad cI F b g t) (hg : g 1 = nI nb) (hnb : nb < 2 ^ 31) : Ci l D cI cB cS ad N yX0_closeRace cX0_closeRace 1 (some .int) 3 63 [.ref (ad q)] F (fun r F' => r = (s_X0_closeRace g t nb).1 ∧ StF ad cI F' b (s_X0_closeRace g t nb).2.1 (s_X0_closeRace g t nb).2.2 ∧ Fr F F' b (b + 11)) := by
  refine x_met (by decide +kernel) (Nat.le_of_ble_eq_true rfl) ?_
  intro p e s m below meth c X hr hlk hK hw ls hl
  replace hl : lv_has ls 1 [(0, .ref (ad q))] := hl
  have hfr : Fr F F (b) (b + 11) := Fr.rf
  refine lv_aload_n X.1 X.2.1 dX0_closeRace_0 rfl (lv_at hl 0 rfl) ?_
  refine x_get X hK hw (C := RX0) (T := TX0) (nf := 1) (k := q) (by omega) hQ rfl inX0 0 (by decide) q119 (fun _ h9 => h9) rfl dX0_closeRace_1 ?_
  refine x_callVP X hK hw (k := b) (As := []) (rest := []) (k_X5_isPrepared hI b g t (by omega) hF) (x_cwV yX5_isPrepared cX5_isPrepared 1 (some .boolean) 0 X q289 q290 q291 q2 q292 hd_X5_isPrepared ⟨Nat.le_of_ble_eq_true rfl, Nat.le_of_ble_eq_true rfl⟩) (by omega) hF.1 rfl rfl hl.1 rfl (Nat.le_of_ble_eq_true rfl) dX0_closeRace_4 ⟨Nat.le_of_ble_eq_true rfl, Nat.le_of_ble_eq_true rfl⟩ (fun H locs hw => ?_)
  refine lv_if_eq (tgt := 20) X.1 X.2.1 dX0_closeRace_7 (by decide) (fun c1 => ?_) (fun c1 => ?_)
  · replace c1 := bI_z c1
    refine lv_bipush (v := (-4)) X.1 X.2.1 dX0_closeRace_20 (by decide) ?_
    exact x_iret X hr hlk hK hw (v := (-4)) rfl (auto_st (by rw [s_X0_closeRace, if_neg c1] : s_X0_closeRace g t nb = ((-4), g, t)) hF hfr) dX0_closeRace_22
  · replace c1 := bI_nz c1
    refine lv_aload_n X.1 X.2.1 dX0_closeRace_10 rfl (lv_at hl 0 rfl) ?_
    refine x_get X hK hw (C := RX0) (T := TX0) (nf := 1) (k := q) (by omega) hQ rfl inX0 0 (by decide) q119 (fun _ h9 => h9) rfl dX0_closeRace_11 ?_
    refine x_callVP X hK hw (k := b) (As := []) (rest := []) (k_X5_isStarted hI b g t (by omega) hF) (x_cwV yX5_isStarted cX5_isStarted 1 (some .boolean) 0 X q318 q319 q320 q2 q321 hd_X5_isStarted ⟨Nat.le_of_ble_eq_true rfl, Nat.le_of_ble_eq_true rfl⟩) (by omega) hF.1 rfl rfl hl.1 rfl (Nat.le_of_ble_eq_true rfl) dX0_closeRace_14 ⟨Nat.le_of_ble_eq_true rfl, Nat.le_of_ble_eq_true rfl⟩ (fun H locs hw => ?_)
    refine lv_if_ne (tgt := 23) X.1 X.2.1 dX0_closeRace_17 (by decide) (fun c2 => ?_) (fun c2 => ?_)
    · replace c2 := bI_nz c2
      refine lv_aload_n X.1 X.2.1 dX0_closeRace_23 rfl (lv_at hl 0 rfl) ?_
      refine x_get X hK hw (C := RX0) (T := TX0) (nf := 1) (k := q) (by omega) hQ rfl inX0 0 (by decide) q119 (fun _ h9 => h9) rfl dX0_closeRace_24 ?_
      refine lv_iconst (v := nI 2) X.1 X.2.1 dX0_closeRace_27 (by decide) ?_
      refine x_put2 X hI hK hw (C := RX5) (T := TX5) (nf := 10) (k := b) (ty := .int) (v := .int (nI 2)) (by omega) hF.1 rfl inX5 tyX5 tyX5_ok nmX5 3 (by decide) q70 (fun _ h9 => h9) rfl (by decide +kernel) rfl rfl (Nat.le_of_ble_eq_true rfl) dX0_closeRace_28 (fun F3 H locs eF4 hw => ?_)
      have hF5 : StF ad cI F3 b (va_up g 3 (nI 2)) t := by rw [eF4]; exact StF.pt hF 3 (by decide) _ _ rfl
      have hr6 := fr_eq eF4 (Nat.le_refl _) (Nat.lt_succ_self _)
      have hq7 := (hr6 _ (by omega)).trans hQ
      replace hfr := hfr.tr hr6 (by omega) (by omega)
      refine lv_aload_n X.1 X.2.1 dX0_closeRace_31 rfl (lv_at hl 0 rfl) ?_
      refine x_get X hK hw (C := RX0) (T := TX0) (nf := 1) (k := q) (by omega) hq7 rfl inX0 0 (by decide) q119 (fun _ h9 => h9) rfl dX0_closeRace_32 ?_
      refine lv_aload_n X.1 X.2.1 dX0_closeRace_35 rfl (lv_at hl 0 rfl) ?_
      refine x_get X hK hw (C := RX0) (T := TX0) (nf := 1) (k := q) (by omega) hq7 rfl inX0 0 (by decide) q119 (fun _ h9 => h9) rfl dX0_closeRace_36 ?_
      refine x_callVP X hK hw (k := b) (As := []) (rest := [.ref (ad b)]) (k_X5_latestRace hI b ((va_up g 3 (nI 2))) t (by omega) hF5) (x_cwV yX5_latestRace cX5_latestRace 1 (some .int) 0 X q297 q298 q299 q2 q300 hd_X5_latestRace ⟨Nat.le_of_ble_eq_true rfl, Nat.le_of_ble_eq_true rfl⟩) (by omega) hF5.1 rfl rfl hl.1 rfl (Nat.le_of_ble_eq_true rfl) dX0_closeRace_39 ⟨Nat.le_of_ble_eq_true rfl, Nat.le_of_ble_eq_true rfl⟩ (fun H locs hw => ?_)
      refine lv_iconst (v := nI 0) X.1 X.2.1 dX0_closeRace_42 (by decide) ?_
      refine lv_iconst (v := nI 3) X.1 X.2.1 dX0_closeRace_43 (by decide) ?_
      refine x_callVP X hK hw (k := b) (As := [.int (((va_up g 3 (nI 2))) 2 - nI 1), .int (nI 0), .int (nI 3)]) (rest := []) (k_X5_entriesWith hI b ((va_up g 3 (nI 2))) t (((va_up g 3 (nI 2))) 2 - nI 1) (nI 0) (nI 3) nb (by omega) hF5 hg hnb) (x_cwV yX5_entriesWith cX5_entriesWith 6 (some .int) 3 X q407 q408 q409 q2 q410 hd_X5_entriesWith ⟨Nat.le_of_ble_eq_true rfl, Nat.le_of_ble_eq_true rfl⟩) (by omega) hF5.1 rfl rfl hl.1 rfl (Nat.le_of_ble_eq_true rfl) dX0_closeRace_44 ⟨Nat.le_of_ble_eq_true rfl, Nat.le_of_ble_eq_true rfl⟩ (fun H locs hw => ?_)
      exact x_iret X hr hlk hK hw (v := c_cnt t (((va_up g 3 (nI 2))) 2 - nI 1) (nI 0) (nI 3) nb) rfl (auto_st (by rw [s_X0_closeRace, if_pos c1, if_pos c2] : s_X0_closeRace g t nb = (c_cnt t (((va_up g 3 (nI 2))) 2 - nI 1) (nI 0) (nI 3) nb, (va_up g 3 (nI 2)), t)) hF5 hfr) dX0_closeRace_47
    · replace c2 := bI_z c2
      refine lv_bipush (v := (-4)) X.1 X.2.1 dX0_closeRace_20 (by decide) ?_
      exact x_iret X hr hlk hK hw (v := (-4)) rfl (auto_st (by rw [s_X0_closeRace, if_pos c1, if_neg c2] : s_X0_closeRace g t nb = ((-4), g, t)) hF hfr) dX0_closeRace_22
