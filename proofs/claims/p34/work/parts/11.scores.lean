theorem ScF.tb0 {ad : Nat → Nat} {cI : ClassId} {F F' : Nat → va_E} {q b : Nat} {tm pt sm tl f : Nat → Int32} (h : ScF ad cI F q b tm pt sm tl) (h1 : TbF ad cI F' (q + 1) 1 9 f) (hf : Fr F F' (q + 1) (q + 3)) : ScF ad cI F' q b f pt sm tl := ⟨(hf _ (by omega)).trans h.1, h1, h.2.2.1.cg hf (by omega), h.2.2.2.1.cg hf (by omega), h.2.2.2.2.cg hf (by omega)⟩
theorem ScF.tb1 {ad : Nat → Nat} {cI : ClassId} {F F' : Nat → va_E} {q b : Nat} {tm pt sm tl f : Nat → Int32} (h : ScF ad cI F q b tm pt sm tl) (h1 : TbF ad cI F' (q + 3) 9 54 f) (hf : Fr F F' (q + 3) (q + 5)) : ScF ad cI F' q b tm f sm tl := ⟨(hf _ (by omega)).trans h.1, h.2.1.cg hf (by omega), h1, h.2.2.2.1.cg hf (by omega), h.2.2.2.2.cg hf (by omega)⟩
theorem ScF.tb2 {ad : Nat → Nat} {cI : ClassId} {F F' : Nat → va_E} {q b : Nat} {tm pt sm tl f : Nat → Int32} (h : ScF ad cI F q b tm pt sm tl) (h1 : TbF ad cI F' (q + 5) 4 36 f) (hf : Fr F F' (q + 5) (q + 7)) : ScF ad cI F' q b tm pt f tl := ⟨(hf _ (by omega)).trans h.1, h.2.1.cg hf (by omega), h.2.2.1.cg hf (by omega), h1, h.2.2.2.2.cg hf (by omega)⟩
theorem ScF.tb3 {ad : Nat → Nat} {cI : ClassId} {F F' : Nat → va_E} {q b : Nat} {tm pt sm tl f : Nat → Int32} (h : ScF ad cI F q b tm pt sm tl) (h1 : TbF ad cI F' (q + 7) 10 90 f) (hf : Fr F F' (q + 7) (q + 9)) : ScF ad cI F' q b tm pt sm f := ⟨(hf _ (by omega)).trans h.1, h.2.1.cg hf (by omega), h.2.2.1.cg hf (by omega), h.2.2.2.1.cg hf (by omega), h1⟩
def sc_rt (t : Nat → Nat → Int32) (x : Int32) (tm : Nat → Int32) : Nat → (Nat → Int32)
  | 0 => tm
  | i + 1 => if tg 6 324 (t 3) (x * nI 9 + nI i) (nI 4) = nI 1 then tp 1 9 (sc_rt t x tm i) (nI i) (nI 0) (-5) else tp 1 9 (sc_rt t x tm i) (nI i) (nI 0) (c_co t x (nI i))
def sc_pl (tm : Nat → Int32) (w : Int32) : Nat → Int32
  | 0 => nI 1
  | i + 1 => if tg 1 9 tm (nI i) (nI 0) = (-5) then sc_pl tm w i else if w ≤ tg 1 9 tm (nI i) (nI 0) then sc_pl tm w i else sc_pl tm w i + 1
def s_place (tm : Nat → Int32) (x : Int32) (nb : Nat) : Int32 := if tg 1 9 tm x (nI 0) = (-5) then (-5) else sc_pl tm (tg 1 9 tm x (nI 0)) nb
def sc_ld (tm : Nat → Int32) (nb : Nat) : Nat → Nat → Int32
  | 0, _ => (-5)
  | f + 1, i => if s_place tm (nI i) nb = nI 1 then nI i else sc_ld tm nb f (i + 1)
theorem hd_X5_corrected : yX5_corrected.cls = RX5 ∧ yX5_corrected.cls ≠ "java/lang/invoke/MethodHandle" ∧ yX5_corrected.cls ≠ "java/lang/invoke/VarHandle" ∧ (parseMethodDescriptor yX5_corrected.desc).map (fun d => d.parameters.length) = some 2 := by decide +kernel
set_option maxHeartbeats 4000000 in
set_option maxRecDepth 100000 in
theorem k_X4_readTimes {l : Launch} {D : va_G} {cI cB cS : ClassId} {ad : Nat → Nat} {N : Nat} {F : Nat → va_E} (hI : iN ad N) (q : Nat) (b : Nat) (g : Nat → Int32) (t : Nat → Nat → Int32) (tm : Nat → Int32) (pt : Nat → Int32) (sm : Nat → Int32) (tl : Nat → Int32) (x : Int32) (nb : Nat) (hq : q + 9 ≤ N) (hqb : q + 9 ≤ b ∨ b + 11 ≤ q) (hQ : ScF ad cI F q b tm pt sm tl) (hb : b + 11 ≤ N) (hF : StF ad cI F b g t) (hg : g 1 = nI nb) (hnb : nb < 2 ^ 31) : Cv l D cI cB cS ad N yX4_readTimes cX4_readTimes 4 3 70 [.ref (ad q), .int x] F (fun F' => ScF ad cI F' q b (sc_rt t x tm nb) (pt) (sm) (tl) ∧ Fr F F' q (q + 9)) := by
  refine x_metv (by decide +kernel) (Nat.le_of_ble_eq_true rfl) ?_
  intro p e s m below meth c X hr hlk hK hw ls hl
  replace hl : lv_has ls 4 [(0, .ref (ad q)), (1, .int x)] := hl
  have hfr : Fr F F (q) (q + 9) := Fr.rf
  refine lv_iconst (v := nI 0) X.1 X.2.1 dX4_readTimes_0 (by decide) ?_
  refine lv_istore_n (lv' := [(2, .int (nI 0)), (0, .ref (ad q)), (1, .int x)]) X.1 X.2.1 dX4_readTimes_1 rfl hl (by decide) rfl (fun ls hl => ?_)
  have loop : ∀ (fu : Nat) (i : Nat) (F1 : Nat → va_E) (f1 : Nat → Int32) (hfu : i + fu = nb) (he : f1 = sc_rt t x tm i) (hQ : ScF ad cI F1 q b f1 pt sm tl) (hF : StF ad cI F1 b g t) (hfr : Fr F F1 q (q + 9)) (H : Heap) (locs : List Loc) (hw : HW D (Af ad N s.heap.size) ad N F1 s H locs) (ls : Array Slot) (hl : lv_has ls 4 [(2, .int (nI i)), (0, .ref (ad q)), (1, .int x)]), W p l e { frames := 3, cells := 0, slots := 0, locals := 70 } s m [.ref (ad q), .int x].toArray below meth c H locs 0 0 (MQ below (va_Qv (fun F' => ScF ad cI F' q b (sc_rt t x tm nb) (pt) (sm) (tl) ∧ Fr F F' q (q + 9)) (fun F' t => PO D ad N F' t) (Af ad N s.heap.size)) [.ref (ad q), .int x].toArray s 0 0 (Af ad N s.heap.size)) (F0 m 2 ls []) := by
    intro fu
    induction fu with
    | zero =>
      intro i F1 f1 hfu he hQ hF hfr H locs hw ls hl
      refine lv_iload_n X.1 X.2.1 dX4_readTimes_2 rfl (lv_at hl 0 rfl) ?_
      refine lv_aload_n X.1 X.2.1 dX4_readTimes_3 rfl (lv_at hl 1 rfl) ?_
      refine x_get X hK hw (C := RX4) (T := TX4) (nf := 5) (k := q) (by omega) hQ.1 rfl inX4 0 (by decide) q141 (fun _ h9 => h9) rfl dX4_readTimes_4 ?_
      refine x_get X hK hw (C := RX5) (T := TX5) (nf := 10) (k := b) (by omega) hF.1 rfl inX5 1 (by decide) q62 (fun _ h9 => h9) rfl dX4_readTimes_7 ?_
      refine lv_icmp_ge (tgt := 76) X.1 X.2.1 dX4_readTimes_10 (by decide) (fun c1 => ?_) (fun c1 => ?_)
      · exact x_vret X hr hlk hK hw (⟨by have h := hQ; rw [he, show i = nb by omega] at h; exact h, hfr⟩) dX4_readTimes_76
      · exact absurd (by rw [hg]; exact nI_le (by omega) (by omega)) c1
    | succ fu ih =>
      intro i F1 f1 hfu he hQ hF hfr H locs hw ls hl
      refine lv_iload_n X.1 X.2.1 dX4_readTimes_2 rfl (lv_at hl 0 rfl) ?_
      refine lv_aload_n X.1 X.2.1 dX4_readTimes_3 rfl (lv_at hl 1 rfl) ?_
      refine x_get X hK hw (C := RX4) (T := TX4) (nf := 5) (k := q) (by omega) hQ.1 rfl inX4 0 (by decide) q141 (fun _ h9 => h9) rfl dX4_readTimes_4 ?_
      refine x_get X hK hw (C := RX5) (T := TX5) (nf := 10) (k := b) (by omega) hF.1 rfl inX5 1 (by decide) q62 (fun _ h9 => h9) rfl dX4_readTimes_7 ?_
      refine lv_icmp_ge (tgt := 76) X.1 X.2.1 dX4_readTimes_10 (by decide) (fun c2 => ?_) (fun c2 => ?_)
      · exact absurd c2 (by rw [hg]; exact nI_ge (by omega) (by omega))
      · refine lv_aload_n X.1 X.2.1 dX4_readTimes_13 rfl (lv_at hl 1 rfl) ?_
        refine x_get X hK hw (C := RX4) (T := TX4) (nf := 5) (k := q) (by omega) hQ.1 rfl inX4 0 (by decide) q141 (fun _ h9 => h9) rfl dX4_readTimes_14 ?_
        refine x_get X hK hw (C := RX5) (T := TX5) (nf := 10) (k := b) (by omega) hF.1 rfl inX5 8 (by decide) q86 (fun _ h9 => h9) rfl dX4_readTimes_17 ?_
        refine lv_aload_n X.1 X.2.1 dX4_readTimes_20 rfl (lv_at hl 1 rfl) ?_
        refine x_get X hK hw (C := RX4) (T := TX4) (nf := 5) (k := q) (by omega) hQ.1 rfl inX4 0 (by decide) q141 (fun _ h9 => h9) rfl dX4_readTimes_21 ?_
        refine lv_iload_n X.1 X.2.1 dX4_readTimes_24 rfl (lv_at hl 2 rfl) ?_
        refine lv_iload_n X.1 X.2.1 dX4_readTimes_25 rfl (lv_at hl 0 rfl) ?_
        refine x_callVP X hK hw (k := b) (As := [.int x, .int (nI i)]) (rest := [.ref (ad (b + 7))]) (k_X5_row hI b g t x (nI i) (by omega) hF) (x_cwV yX5_row cX5_row 3 (some .int) 2 X q738 q302 q303 q2 q304 hd_X5_row ⟨Nat.le_of_ble_eq_true rfl, Nat.le_of_ble_eq_true rfl⟩) (by omega) hF.1 rfl rfl hl.1 rfl (Nat.le_of_ble_eq_true rfl) dX4_readTimes_26 ⟨Nat.le_of_ble_eq_true rfl, Nat.le_of_ble_eq_true rfl⟩ (fun H locs hw => ?_)
        refine lv_iconst (v := nI 4) X.1 X.2.1 dX4_readTimes_29 (by decide) ?_
        refine x_callVP X hK hw (k := (b + 7)) (As := [.int (x * nI 9 + (nI i)), .int (nI 4)]) (rest := []) (k_X6_get hI ((b + 7)) 6 324 ((t 3)) (x * nI 9 + (nI i)) (nI 4) (by omega) (by omega) hF.2.2.2.2.1) (x_cwV yX6_get cX6_get 4 (some .int) 2 X q739 q327 q328 q3 q329 hd_X6_get ⟨Nat.le_of_ble_eq_true rfl, Nat.le_of_ble_eq_true rfl⟩) (by omega) hF.2.2.2.2.1.1 rfl rfl hl.1 rfl (Nat.le_of_ble_eq_true rfl) dX4_readTimes_30 ⟨Nat.le_of_ble_eq_true rfl, Nat.le_of_ble_eq_true rfl⟩ (fun H locs hw => ?_)
        refine lv_iconst (v := nI 1) X.1 X.2.1 dX4_readTimes_33 (by decide) ?_
        refine lv_icmp_ne (tgt := 41) X.1 X.2.1 dX4_readTimes_34 (by decide) (fun c3 => ?_) (fun c3 => ?_)
        · refine lv_iconst (v := nI 0) X.1 X.2.1 dX4_readTimes_41 (by decide) ?_
          refine lv_istore_n (lv' := [(3, .int (nI 0)), (2, .int (nI i)), (0, .ref (ad q)), (1, .int x)]) X.1 X.2.1 dX4_readTimes_42 rfl hl (by decide) rfl (fun ls hl => ?_)
          refine lv_aload_n X.1 X.2.1 dX4_readTimes_43 rfl (lv_at hl 2 rfl) ?_
          refine x_get X hK hw (C := RX4) (T := TX4) (nf := 5) (k := q) (by omega) hQ.1 rfl inX4 1 (by decide) q142 (fun _ h9 => h9) rfl dX4_readTimes_44 ?_
          refine lv_iload_n X.1 X.2.1 dX4_readTimes_47 rfl (lv_at hl 1 rfl) ?_
          refine lv_iconst (v := nI 0) X.1 X.2.1 dX4_readTimes_48 (by decide) ?_
          refine lv_iload_n X.1 X.2.1 dX4_readTimes_49 rfl (lv_at hl 0 rfl) ?_
          refine lv_if_eq (tgt := 58) X.1 X.2.1 dX4_readTimes_50 (by decide) (fun c4 => ?_) (fun c4 => ?_)
          · refine lv_aload_n X.1 X.2.1 dX4_readTimes_58 rfl (lv_at hl 2 rfl) ?_
            refine x_get X hK hw (C := RX4) (T := TX4) (nf := 5) (k := q) (by omega) hQ.1 rfl inX4 0 (by decide) q141 (fun _ h9 => h9) rfl dX4_readTimes_59 ?_
            refine lv_iload_n X.1 X.2.1 dX4_readTimes_62 rfl (lv_at hl 3 rfl) ?_
            refine lv_iload_n X.1 X.2.1 dX4_readTimes_63 rfl (lv_at hl 1 rfl) ?_
            refine x_callVP X hK hw (k := b) (As := [.int x, .int (nI i)]) (rest := [.int (nI 0), .int (nI i), .ref (ad (q + 1))]) (k_X5_corrected hI b g t x (nI i) (by omega) hF) (x_cwV yX5_corrected cX5_corrected 5 (some .int) 2 X q740 q719 q720 q2 q721 hd_X5_corrected ⟨Nat.le_of_ble_eq_true rfl, Nat.le_of_ble_eq_true rfl⟩) (by omega) hF.1 rfl rfl hl.1 rfl (Nat.le_of_ble_eq_true rfl) dX4_readTimes_64 ⟨Nat.le_of_ble_eq_true rfl, Nat.le_of_ble_eq_true rfl⟩ (fun H locs hw => ?_)
            refine x_callVv X hK hw (k := (q + 1)) (As := [.int (nI i), .int (nI 0), .int (c_co t x (nI i))]) (rest := []) (k_X6_put hI ((q + 1)) 1 9 f1 (nI i) (nI 0) (c_co t x (nI i)) (by omega) (by omega) hQ.2.1) (x_cwV yX6_put cX6_put 5 none 3 X q741 q54 q55 q3 q56 hd_X6_put ⟨Nat.le_of_ble_eq_true rfl, Nat.le_of_ble_eq_true rfl⟩) (by omega) hQ.2.1.1 rfl rfl hl.1 rfl (Nat.le_of_ble_eq_true rfl) dX4_readTimes_67 ⟨Nat.le_of_ble_eq_true rfl, Nat.le_of_ble_eq_true rfl⟩ (fun F5 H locs hp hw => ?_)
            obtain ⟨hT6, hr7⟩ := hp
            have hF8 := hQ.tb0 hT6 hr7
            have hq9 := hF.cg hr7 (by omega)
            replace hfr := hfr.tr hr7 (by omega) (by omega)
            refine lv_iinc (v := nI (i + 1)) (lv' := [(2, .int (nI (i + 1))), (3, .int (nI 0)), (0, .ref (ad q)), (1, .int x)]) X.1 X.2.1 dX4_readTimes_70 hl (k := 1) rfl (by first | exact nI_1 _ | exact nI_add _ _ | rfl) (by decide) rfl (fun ls hl => ?_)
            refine lv_goto (tgt := 2) X.1 X.2.1 dX4_readTimes_73 (by decide) ?_
            exact ih (i + 1) F5 ((tp 1 9 f1 (nI i) (nI 0) (c_co t x (nI i)))) (by omega) (by rw [he, sc_rt, if_neg c3]) hF8 hq9 hfr _ _ hw _ (lv_sub hl [0, 2, 3] rfl)
          · exact absurd (by decide) c4
        · refine lv_iconst (v := nI 1) X.1 X.2.1 dX4_readTimes_37 (by decide) ?_
          refine lv_goto (tgt := 42) X.1 X.2.1 dX4_readTimes_38 (by decide) ?_
          refine lv_istore_n (lv' := [(3, .int (nI 1)), (2, .int (nI i)), (0, .ref (ad q)), (1, .int x)]) X.1 X.2.1 dX4_readTimes_42 rfl hl (by decide) rfl (fun ls hl => ?_)
          refine lv_aload_n X.1 X.2.1 dX4_readTimes_43 rfl (lv_at hl 2 rfl) ?_
          refine x_get X hK hw (C := RX4) (T := TX4) (nf := 5) (k := q) (by omega) hQ.1 rfl inX4 1 (by decide) q142 (fun _ h9 => h9) rfl dX4_readTimes_44 ?_
          refine lv_iload_n X.1 X.2.1 dX4_readTimes_47 rfl (lv_at hl 1 rfl) ?_
          refine lv_iconst (v := nI 0) X.1 X.2.1 dX4_readTimes_48 (by decide) ?_
          refine lv_iload_n X.1 X.2.1 dX4_readTimes_49 rfl (lv_at hl 0 rfl) ?_
          refine lv_if_eq (tgt := 58) X.1 X.2.1 dX4_readTimes_50 (by decide) (fun c10 => ?_) (fun c10 => ?_)
          · exact absurd c10 (by decide)
          · refine lv_bipush (v := (-5)) X.1 X.2.1 dX4_readTimes_53 (by decide) ?_
            refine lv_goto (tgt := 67) X.1 X.2.1 dX4_readTimes_55 (by decide) ?_
            refine x_callVv X hK hw (k := (q + 1)) (As := [.int (nI i), .int (nI 0), .int ((-5))]) (rest := []) (k_X6_put hI ((q + 1)) 1 9 f1 (nI i) (nI 0) ((-5)) (by omega) (by omega) hQ.2.1) (x_cwV yX6_put cX6_put 5 none 3 X q741 q54 q55 q3 q56 hd_X6_put ⟨Nat.le_of_ble_eq_true rfl, Nat.le_of_ble_eq_true rfl⟩) (by omega) hQ.2.1.1 rfl rfl hl.1 rfl (Nat.le_of_ble_eq_true rfl) dX4_readTimes_67 ⟨Nat.le_of_ble_eq_true rfl, Nat.le_of_ble_eq_true rfl⟩ (fun F11 H locs hp hw => ?_)
            obtain ⟨hT12, hr13⟩ := hp
            have hF14 := hQ.tb0 hT12 hr13
            have hq15 := hF.cg hr13 (by omega)
            replace hfr := hfr.tr hr13 (by omega) (by omega)
            refine lv_iinc (v := nI (i + 1)) (lv' := [(2, .int (nI (i + 1))), (3, .int (nI 1)), (0, .ref (ad q)), (1, .int x)]) X.1 X.2.1 dX4_readTimes_70 hl (k := 1) rfl (by first | exact nI_1 _ | exact nI_add _ _ | rfl) (by decide) rfl (fun ls hl => ?_)
            refine lv_goto (tgt := 2) X.1 X.2.1 dX4_readTimes_73 (by decide) ?_
            exact ih (i + 1) F11 ((tp 1 9 f1 (nI i) (nI 0) ((-5)))) (by omega) (by rw [he, sc_rt, if_pos c3]) hF14 hq15 hfr _ _ hw _ (lv_sub hl [0, 2, 3] rfl)
  exact loop nb 0 F tm (by omega) rfl hQ hF hfr _ _ hw _ (lv_sub hl [0, 1, 2] rfl)
set_option maxHeartbeats 4000000 in
set_option maxRecDepth 100000 in
theorem k_X4_place {l : Launch} {D : va_G} {cI cB cS : ClassId} {ad : Nat → Nat} {N : Nat} {F : Nat → va_E} (hI : iN ad N) (q : Nat) (b : Nat) (g : Nat → Int32) (t : Nat → Nat → Int32) (tm : Nat → Int32) (pt : Nat → Int32) (sm : Nat → Int32) (tl : Nat → Int32) (x : Int32) (nb : Nat) (hq : q + 9 ≤ N) (hqb : q + 9 ≤ b ∨ b + 11 ≤ q) (hQ : ScF ad cI F q b tm pt sm tl) (hb : b + 11 ≤ N) (hF : StF ad cI F b g t) (hg : g 1 = nI nb) (hnb : nb < 2 ^ 31) : Ci l D cI cB cS ad N yX4_place cX4_place 6 (some .int) 1 23 [.ref (ad q), .int x] F (pP (s_place tm x nb) F) := by
  refine x_met (by decide +kernel) (Nat.le_of_ble_eq_true rfl) ?_
  intro p e s m below meth c X hr hlk hK hw ls hl
  replace hl : lv_has ls 6 [(0, .ref (ad q)), (1, .int x)] := hl
  refine lv_aload_n X.1 X.2.1 dX4_place_0 rfl (lv_at hl 0 rfl) ?_
  refine x_get X hK hw (C := RX4) (T := TX4) (nf := 5) (k := q) (by omega) hQ.1 rfl inX4 1 (by decide) q142 (fun _ h9 => h9) rfl dX4_place_1 ?_
  refine lv_iload_n X.1 X.2.1 dX4_place_4 rfl (lv_at hl 1 rfl) ?_
  refine lv_iconst (v := nI 0) X.1 X.2.1 dX4_place_5 (by decide) ?_
  refine x_callVP X hK hw (k := (q + 1)) (As := [.int x, .int (nI 0)]) (rest := []) (k_X6_get hI ((q + 1)) 1 9 tm x (nI 0) (by omega) (by omega) hQ.2.1) (x_cwV yX6_get cX6_get 4 (some .int) 2 X q739 q327 q328 q3 q329 hd_X6_get ⟨Nat.le_of_ble_eq_true rfl, Nat.le_of_ble_eq_true rfl⟩) (by omega) hQ.2.1.1 rfl rfl hl.1 rfl (Nat.le_of_ble_eq_true rfl) dX4_place_6 ⟨Nat.le_of_ble_eq_true rfl, Nat.le_of_ble_eq_true rfl⟩ (fun H locs hw => ?_)
  refine lv_istore_n (lv' := [(2, .int (tg 1 9 tm x (nI 0))), (0, .ref (ad q)), (1, .int x)]) X.1 X.2.1 dX4_place_9 rfl hl (by decide) rfl (fun ls hl => ?_)
  refine lv_iload_n X.1 X.2.1 dX4_place_10 rfl (lv_at hl 0 rfl) ?_
  refine lv_bipush (v := (-5)) X.1 X.2.1 dX4_place_11 (by decide) ?_
  refine lv_icmp_ne (tgt := 19) X.1 X.2.1 dX4_place_13 (by decide) (fun c1 => ?_) (fun c1 => ?_)
  · refine lv_iconst (v := nI 1) X.1 X.2.1 dX4_place_19 (by decide) ?_
    refine lv_istore_n (lv' := [(3, .int (nI 1)), (2, .int (tg 1 9 tm x (nI 0))), (0, .ref (ad q)), (1, .int x)]) X.1 X.2.1 dX4_place_20 rfl hl (by decide) rfl (fun ls hl => ?_)
    refine lv_iconst (v := nI 0) X.1 X.2.1 dX4_place_21 (by decide) ?_
    refine lv_istore (lv' := [(4, .int (nI 0)), (3, .int (nI 1)), (2, .int (tg 1 9 tm x (nI 0))), (0, .ref (ad q)), (1, .int x)]) X.1 X.2.1 dX4_place_22 hl (by decide) rfl (fun ls hl => ?_)
    have loop : ∀ (fu : Nat) (i : Nat) (y : Int32) (hfu : i + fu = nb) (he : y = sc_pl tm (tg 1 9 tm x (nI 0)) i) (H : Heap) (locs : List Loc) (hw : HW D (Af ad N s.heap.size) ad N F s H locs) (ls : Array Slot) (hl : lv_has ls 6 [(4, .int (nI i)), (3, .int y), (0, .ref (ad q)), (1, .int x), (2, .int (tg 1 9 tm x (nI 0)))]), W p l e { frames := 1, cells := 0, slots := 0, locals := 23 } s m [.ref (ad q), .int x].toArray below meth c H locs 0 0 (MQ below (va_Qi (pP (s_place tm x nb) F) (fun F' t => PO D ad N F' t) (Af ad N s.heap.size)) [.ref (ad q), .int x].toArray s 0 0 (Af ad N s.heap.size)) (F0 m 24 ls []) := by
      intro fu
      induction fu with
      | zero =>
        intro i y hfu he H locs hw ls hl
        refine lv_iload X.1 X.2.1 dX4_place_24 (lv_at hl 0 rfl) ?_
        refine lv_aload_n X.1 X.2.1 dX4_place_26 rfl (lv_at hl 2 rfl) ?_
        refine x_get X hK hw (C := RX4) (T := TX4) (nf := 5) (k := q) (by omega) hQ.1 rfl inX4 0 (by decide) q141 (fun _ h9 => h9) rfl dX4_place_27 ?_
        refine x_get X hK hw (C := RX5) (T := TX5) (nf := 10) (k := b) (by omega) hF.1 rfl inX5 1 (by decide) q62 (fun _ h9 => h9) rfl dX4_place_30 ?_
        refine lv_icmp_ge (tgt := 70) X.1 X.2.1 dX4_place_33 (by decide) (fun c2 => ?_) (fun c2 => ?_)
        · refine lv_iload_n X.1 X.2.1 dX4_place_70 rfl (lv_at hl 1 rfl) ?_
          exact x_iret X hr hlk hK hw (v := y) rfl (⟨by rw [s_place, if_neg c1, he, show i = nb by omega], rfl⟩) dX4_place_71
        · exact absurd (by rw [hg]; exact nI_le (by omega) (by omega)) c2
      | succ fu ih =>
        intro i y hfu he H locs hw ls hl
        refine lv_iload X.1 X.2.1 dX4_place_24 (lv_at hl 0 rfl) ?_
        refine lv_aload_n X.1 X.2.1 dX4_place_26 rfl (lv_at hl 2 rfl) ?_
        refine x_get X hK hw (C := RX4) (T := TX4) (nf := 5) (k := q) (by omega) hQ.1 rfl inX4 0 (by decide) q141 (fun _ h9 => h9) rfl dX4_place_27 ?_
        refine x_get X hK hw (C := RX5) (T := TX5) (nf := 10) (k := b) (by omega) hF.1 rfl inX5 1 (by decide) q62 (fun _ h9 => h9) rfl dX4_place_30 ?_
        refine lv_icmp_ge (tgt := 70) X.1 X.2.1 dX4_place_33 (by decide) (fun c3 => ?_) (fun c3 => ?_)
        · exact absurd c3 (by rw [hg]; exact nI_ge (by omega) (by omega))
        · refine lv_aload_n X.1 X.2.1 dX4_place_36 rfl (lv_at hl 2 rfl) ?_
          refine x_get X hK hw (C := RX4) (T := TX4) (nf := 5) (k := q) (by omega) hQ.1 rfl inX4 1 (by decide) q142 (fun _ h9 => h9) rfl dX4_place_37 ?_
          refine lv_iload X.1 X.2.1 dX4_place_40 (lv_at hl 0 rfl) ?_
          refine lv_iconst (v := nI 0) X.1 X.2.1 dX4_place_42 (by decide) ?_
          refine x_callVP X hK hw (k := (q + 1)) (As := [.int (nI i), .int (nI 0)]) (rest := []) (k_X6_get hI ((q + 1)) 1 9 tm (nI i) (nI 0) (by omega) (by omega) hQ.2.1) (x_cwV yX6_get cX6_get 4 (some .int) 2 X q739 q327 q328 q3 q329 hd_X6_get ⟨Nat.le_of_ble_eq_true rfl, Nat.le_of_ble_eq_true rfl⟩) (by omega) hQ.2.1.1 rfl rfl hl.1 rfl (Nat.le_of_ble_eq_true rfl) dX4_place_43 ⟨Nat.le_of_ble_eq_true rfl, Nat.le_of_ble_eq_true rfl⟩ (fun H locs hw => ?_)
          refine lv_istore (lv' := [(5, .int (tg 1 9 tm (nI i) (nI 0))), (4, .int (nI i)), (3, .int y), (0, .ref (ad q)), (1, .int x), (2, .int (tg 1 9 tm x (nI 0)))]) X.1 X.2.1 dX4_place_46 hl (by decide) rfl (fun ls hl => ?_)
          refine lv_iload X.1 X.2.1 dX4_place_48 (lv_at hl 0 rfl) ?_
          refine lv_bipush (v := (-5)) X.1 X.2.1 dX4_place_50 (by decide) ?_
          refine lv_icmp_eq (tgt := 64) X.1 X.2.1 dX4_place_52 (by decide) (fun c4 => ?_) (fun c4 => ?_)
          · refine lv_iinc (v := nI (i + 1)) (lv' := [(4, .int (nI (i + 1))), (5, .int (tg 1 9 tm (nI i) (nI 0))), (3, .int y), (0, .ref (ad q)), (1, .int x), (2, .int (tg 1 9 tm x (nI 0)))]) X.1 X.2.1 dX4_place_64 hl (k := 1) rfl (by first | exact nI_1 _ | exact nI_add _ _ | rfl) (by decide) rfl (fun ls hl => ?_)
            refine lv_goto (tgt := 24) X.1 X.2.1 dX4_place_67 (by decide) ?_
            exact ih (i + 1) y (by omega) (by rw [he, sc_pl, if_pos c4]) _ _ hw _ (lv_sub hl [0, 2, 3, 4, 5] rfl)
          · refine lv_iload X.1 X.2.1 dX4_place_55 (lv_at hl 0 rfl) ?_
            refine lv_iload_n X.1 X.2.1 dX4_place_57 rfl (lv_at hl 5 rfl) ?_
            refine lv_icmp_ge (tgt := 64) X.1 X.2.1 dX4_place_58 (by decide) (fun c5 => ?_) (fun c5 => ?_)
            · refine lv_iinc (v := nI (i + 1)) (lv' := [(4, .int (nI (i + 1))), (5, .int (tg 1 9 tm (nI i) (nI 0))), (3, .int y), (0, .ref (ad q)), (1, .int x), (2, .int (tg 1 9 tm x (nI 0)))]) X.1 X.2.1 dX4_place_64 hl (k := 1) rfl (by first | exact nI_1 _ | exact nI_add _ _ | rfl) (by decide) rfl (fun ls hl => ?_)
              refine lv_goto (tgt := 24) X.1 X.2.1 dX4_place_67 (by decide) ?_
              exact ih (i + 1) y (by omega) (by rw [he, sc_pl, if_neg c4, if_pos c5]) _ _ hw _ (lv_sub hl [0, 2, 3, 4, 5] rfl)
            · refine lv_iinc (v := y + 1) (lv' := [(3, .int (y + 1)), (5, .int (tg 1 9 tm (nI i) (nI 0))), (4, .int (nI i)), (0, .ref (ad q)), (1, .int x), (2, .int (tg 1 9 tm x (nI 0)))]) X.1 X.2.1 dX4_place_61 hl (k := 2) rfl rfl (by decide) rfl (fun ls hl => ?_)
              refine lv_iinc (v := nI (i + 1)) (lv' := [(4, .int (nI (i + 1))), (3, .int (y + 1)), (5, .int (tg 1 9 tm (nI i) (nI 0))), (0, .ref (ad q)), (1, .int x), (2, .int (tg 1 9 tm x (nI 0)))]) X.1 X.2.1 dX4_place_64 hl (k := 2) rfl (by first | exact nI_1 _ | exact nI_add _ _ | rfl) (by decide) rfl (fun ls hl => ?_)
              refine lv_goto (tgt := 24) X.1 X.2.1 dX4_place_67 (by decide) ?_
              exact ih (i + 1) (y + 1) (by omega) (by rw [he, sc_pl, if_neg c4, if_neg c5]) _ _ hw _ (lv_sub hl [0, 1, 3, 4, 5] rfl)
    exact loop nb 0 (nI 1) (by omega) rfl _ _ hw _ (lv_sub hl [0, 1, 3, 4, 2] rfl)
  · refine lv_bipush (v := (-5)) X.1 X.2.1 dX4_place_16 (by decide) ?_
    exact x_iret X hr hlk hK hw (v := (-5)) rfl (⟨by rw [s_place, if_pos c1], rfl⟩) dX4_place_18
def s_X4_pointsFor (g : Nat → Int32) (t : Nat → Nat → Int32) (x : Int32) (y : Int32) (w : Int32) : Int32 := (if (tg 6 324 ((t 3)) (x * nI 9 + y) (nI 4)) = (nI 1) then (g 1) + (nI 2) else (if w = ((-5)) then (g 1) + (nI 1) else w))
set_option maxHeartbeats 4000000 in
set_option maxRecDepth 100000 in
theorem k_X4_pointsFor {l : Launch} {D : va_G} {cI cB cS : ClassId} {ad : Nat → Nat} {N : Nat} {F : Nat → va_E} (hI : iN ad N) (q : Nat) (b : Nat) (g : Nat → Int32) (t : Nat → Nat → Int32) (tm : Nat → Int32) (pt : Nat → Int32) (sm : Nat → Int32) (tl : Nat → Int32) (x : Int32) (y : Int32) (w : Int32) (hq : q + 9 ≤ N) (hqb : q + 9 ≤ b ∨ b + 11 ≤ q) (hQ : ScF ad cI F q b tm pt sm tl) (hb : b + 11 ≤ N) (hF : StF ad cI F b g t) : Ci l D cI cB cS ad N yX4_pointsFor cX4_pointsFor 4 (some .int) 1 23 [.ref (ad q), .int x, .int y, .int w] F (pP (s_X4_pointsFor g t x y w) F) := by
  refine x_met (by decide +kernel) (Nat.le_of_ble_eq_true rfl) ?_
  intro p e s m below meth c X hr hlk hK hw ls hl
  replace hl : lv_has ls 4 [(0, .ref (ad q)), (1, .int x), (2, .int y), (3, .int w)] := hl
  refine lv_aload_n X.1 X.2.1 dX4_pointsFor_0 rfl (lv_at hl 0 rfl) ?_
  refine x_get X hK hw (C := RX4) (T := TX4) (nf := 5) (k := q) (by omega) hQ.1 rfl inX4 0 (by decide) q141 (fun _ h9 => h9) rfl dX4_pointsFor_1 ?_
  refine x_get X hK hw (C := RX5) (T := TX5) (nf := 10) (k := b) (by omega) hF.1 rfl inX5 8 (by decide) q86 (fun _ h9 => h9) rfl dX4_pointsFor_4 ?_
  refine lv_aload_n X.1 X.2.1 dX4_pointsFor_7 rfl (lv_at hl 0 rfl) ?_
  refine x_get X hK hw (C := RX4) (T := TX4) (nf := 5) (k := q) (by omega) hQ.1 rfl inX4 0 (by decide) q141 (fun _ h9 => h9) rfl dX4_pointsFor_8 ?_
  refine lv_iload_n X.1 X.2.1 dX4_pointsFor_11 rfl (lv_at hl 1 rfl) ?_
  refine lv_iload_n X.1 X.2.1 dX4_pointsFor_12 rfl (lv_at hl 2 rfl) ?_
  refine x_callVP X hK hw (k := b) (As := [.int x, .int y]) (rest := [.ref (ad (b + 7))]) (k_X5_row hI b g t x y (by omega) hF) (x_cwV yX5_row cX5_row 3 (some .int) 2 X q738 q302 q303 q2 q304 hd_X5_row ⟨Nat.le_of_ble_eq_true rfl, Nat.le_of_ble_eq_true rfl⟩) (by omega) hF.1 rfl rfl hl.1 rfl (Nat.le_of_ble_eq_true rfl) dX4_pointsFor_13 ⟨Nat.le_of_ble_eq_true rfl, Nat.le_of_ble_eq_true rfl⟩ (fun H locs hw => ?_)
  refine lv_iconst (v := nI 4) X.1 X.2.1 dX4_pointsFor_16 (by decide) ?_
  refine x_callVP X hK hw (k := (b + 7)) (As := [.int (x * nI 9 + y), .int (nI 4)]) (rest := []) (k_X6_get hI ((b + 7)) 6 324 ((t 3)) (x * nI 9 + y) (nI 4) (by omega) (by omega) hF.2.2.2.2.1) (x_cwV yX6_get cX6_get 4 (some .int) 2 X q739 q327 q328 q3 q329 hd_X6_get ⟨Nat.le_of_ble_eq_true rfl, Nat.le_of_ble_eq_true rfl⟩) (by omega) hF.2.2.2.2.1.1 rfl rfl hl.1 rfl (Nat.le_of_ble_eq_true rfl) dX4_pointsFor_17 ⟨Nat.le_of_ble_eq_true rfl, Nat.le_of_ble_eq_true rfl⟩ (fun H locs hw => ?_)
  refine lv_iconst (v := nI 1) X.1 X.2.1 dX4_pointsFor_20 (by decide) ?_
  refine lv_icmp_ne (tgt := 34) X.1 X.2.1 dX4_pointsFor_21 (by decide) (fun c1 => ?_) (fun c1 => ?_)
  · refine lv_iload_n X.1 X.2.1 dX4_pointsFor_34 rfl (lv_at hl 3 rfl) ?_
    refine lv_bipush (v := (-5)) X.1 X.2.1 dX4_pointsFor_35 (by decide) ?_
    refine lv_icmp_ne (tgt := 52) X.1 X.2.1 dX4_pointsFor_37 (by decide) (fun c2 => ?_) (fun c2 => ?_)
    · refine lv_iload_n X.1 X.2.1 dX4_pointsFor_52 rfl (lv_at hl 3 rfl) ?_
      exact x_iret X hr hlk hK hw (v := w) rfl (⟨by rw [s_X4_pointsFor, if_neg c1, if_neg c2], rfl⟩) dX4_pointsFor_53
    · refine lv_aload_n X.1 X.2.1 dX4_pointsFor_40 rfl (lv_at hl 0 rfl) ?_
      refine x_get X hK hw (C := RX4) (T := TX4) (nf := 5) (k := q) (by omega) hQ.1 rfl inX4 0 (by decide) q141 (fun _ h9 => h9) rfl dX4_pointsFor_41 ?_
      refine x_get X hK hw (C := RX5) (T := TX5) (nf := 10) (k := b) (by omega) hF.1 rfl inX5 1 (by decide) q62 (fun _ h9 => h9) rfl dX4_pointsFor_44 ?_
      refine lv_iconst (v := nI 1) X.1 X.2.1 dX4_pointsFor_47 (by decide) ?_
      refine lv_iadd X.1 X.2.1 dX4_pointsFor_48 ?_
      refine lv_goto (tgt := 53) X.1 X.2.1 dX4_pointsFor_49 (by decide) ?_
      exact x_iret X hr hlk hK hw (v := (g 1) + (nI 1)) rfl (⟨by rw [s_X4_pointsFor, if_neg c1, if_pos c2], rfl⟩) dX4_pointsFor_53
  · refine lv_aload_n X.1 X.2.1 dX4_pointsFor_24 rfl (lv_at hl 0 rfl) ?_
    refine x_get X hK hw (C := RX4) (T := TX4) (nf := 5) (k := q) (by omega) hQ.1 rfl inX4 0 (by decide) q141 (fun _ h9 => h9) rfl dX4_pointsFor_25 ?_
    refine x_get X hK hw (C := RX5) (T := TX5) (nf := 10) (k := b) (by omega) hF.1 rfl inX5 1 (by decide) q62 (fun _ h9 => h9) rfl dX4_pointsFor_28 ?_
    refine lv_iconst (v := nI 2) X.1 X.2.1 dX4_pointsFor_31 (by decide) ?_
    refine lv_iadd X.1 X.2.1 dX4_pointsFor_32 ?_
    exact x_iret X hr hlk hK hw (v := (g 1) + (nI 2)) rfl (⟨by rw [s_X4_pointsFor, if_pos c1], rfl⟩) dX4_pointsFor_33
theorem hd_X4_place : yX4_place.cls = RX4 ∧ yX4_place.cls ≠ "java/lang/invoke/MethodHandle" ∧ yX4_place.cls ≠ "java/lang/invoke/VarHandle" ∧ (parseMethodDescriptor yX4_place.desc).map (fun d => d.parameters.length) = some 1 := by decide +kernel
theorem hd_X4_readTimes : yX4_readTimes.cls = RX4 ∧ yX4_readTimes.cls ≠ "java/lang/invoke/MethodHandle" ∧ yX4_readTimes.cls ≠ "java/lang/invoke/VarHandle" ∧ (parseMethodDescriptor yX4_readTimes.desc).map (fun d => d.parameters.length) = some 1 := by decide +kernel
set_option maxHeartbeats 4000000 in
set_option maxRecDepth 100000 in
theorem k_X4_placeIn {l : Launch} {D : va_G} {cI cB cS : ClassId} {ad : Nat → Nat} {N : Nat} {F : Nat → va_E} (hI : iN ad N) (q : Nat) (b : Nat) (g : Nat → Int32) (t : Nat → Nat → Int32) (tm : Nat → Int32) (pt : Nat → Int32) (sm : Nat → Int32) (tl : Nat → Int32) (x : Int32) (y : Int32) (nb : Nat) (hq : q + 9 ≤ N) (hqb : q + 9 ≤ b ∨ b + 11 ≤ q) (hQ : ScF ad cI F q b tm pt sm tl) (hb : b + 11 ≤ N) (hF : StF ad cI F b g t) (hg : g 1 = nI nb) (hnb : nb < 2 ^ 31) : Ci l D cI cB cS ad N yX4_placeIn cX4_placeIn 3 (some .int) 4 93 [.ref (ad q), .int x, .int y] F (fun r F' => r = s_place (sc_rt t x tm nb) y nb ∧ ScF ad cI F' q b (sc_rt t x tm nb) (pt) (sm) (tl) ∧ Fr F F' q (q + 9)) := by
  refine x_met (by decide +kernel) (Nat.le_of_ble_eq_true rfl) ?_
  intro p e s m below meth c X hr hlk hK hw ls hl
  replace hl : lv_has ls 3 [(0, .ref (ad q)), (1, .int x), (2, .int y)] := hl
  have hfr : Fr F F (q) (q + 9) := Fr.rf
  refine lv_aload_n X.1 X.2.1 dX4_placeIn_0 rfl (lv_at hl 0 rfl) ?_
  refine lv_iload_n X.1 X.2.1 dX4_placeIn_1 rfl (lv_at hl 1 rfl) ?_
  refine x_callVv X hK hw (k := q) (As := [.int x]) (rest := []) (k_X4_readTimes hI q b g t tm pt sm tl x nb (by omega) (by omega) hQ (by omega) hF hg hnb) (x_cwV yX4_readTimes cX4_readTimes 4 none 1 X q734 q736 qs10 q7 q737 hd_X4_readTimes ⟨Nat.le_of_ble_eq_true rfl, Nat.le_of_ble_eq_true rfl⟩) (by omega) hQ.1 rfl rfl hl.1 rfl (Nat.le_of_ble_eq_true rfl) dX4_placeIn_2 ⟨Nat.le_of_ble_eq_true rfl, Nat.le_of_ble_eq_true rfl⟩ (fun F1 H locs hp hw => ?_)
  obtain ⟨hS2, hr3⟩ := hp
  have hq4 := hF.cg hr3 (by omega)
  replace hfr := hfr.tr hr3 (by omega) (by omega)
  refine lv_aload_n X.1 X.2.1 dX4_placeIn_5 rfl (lv_at hl 0 rfl) ?_
  refine lv_iload_n X.1 X.2.1 dX4_placeIn_6 rfl (lv_at hl 2 rfl) ?_
  refine x_callVP X hK hw (k := q) (As := [.int y]) (rest := []) (k_X4_place hI q b g t ((sc_rt t x tm nb)) ((pt)) ((sm)) ((tl)) y nb (by omega) (by omega) hS2 (by omega) hq4 hg hnb) (x_cwV yX4_place cX4_place 6 (some .int) 1 X q742 q744 qs11 q7 q745 hd_X4_place ⟨Nat.le_of_ble_eq_true rfl, Nat.le_of_ble_eq_true rfl⟩) (by omega) hS2.1 rfl rfl hl.1 rfl (Nat.le_of_ble_eq_true rfl) dX4_placeIn_7 ⟨Nat.le_of_ble_eq_true rfl, Nat.le_of_ble_eq_true rfl⟩ (fun H locs hw => ?_)
  exact x_iret X hr hlk hK hw (v := s_place ((sc_rt t x tm nb)) y nb) rfl (⟨rfl, hS2, hfr⟩) dX4_placeIn_10
theorem hd_X4_placeIn : yX4_placeIn.cls = RX4 ∧ yX4_placeIn.cls ≠ "java/lang/invoke/MethodHandle" ∧ yX4_placeIn.cls ≠ "java/lang/invoke/VarHandle" ∧ (parseMethodDescriptor yX4_placeIn.desc).map (fun d => d.parameters.length) = some 2 := by decide +kernel
theorem hd_X4_pointsFor : yX4_pointsFor.cls = RX4 ∧ yX4_pointsFor.cls ≠ "java/lang/invoke/MethodHandle" ∧ yX4_pointsFor.cls ≠ "java/lang/invoke/VarHandle" ∧ (parseMethodDescriptor yX4_pointsFor.desc).map (fun d => d.parameters.length) = some 3 := by decide +kernel
set_option maxHeartbeats 4000000 in
set_option maxRecDepth 100000 in
theorem k_X4_pointsIn {l : Launch} {D : va_G} {cI cB cS : ClassId} {ad : Nat → Nat} {N : Nat} {F : Nat → va_E} (hI : iN ad N) (q : Nat) (b : Nat) (g : Nat → Int32) (t : Nat → Nat → Int32) (tm : Nat → Int32) (pt : Nat → Int32) (sm : Nat → Int32) (tl : Nat → Int32) (x : Int32) (y : Int32) (nb : Nat) (hq : q + 9 ≤ N) (hqb : q + 9 ≤ b ∨ b + 11 ≤ q) (hQ : ScF ad cI F q b tm pt sm tl) (hb : b + 11 ≤ N) (hF : StF ad cI F b g t) (hg : g 1 = nI nb) (hnb : nb < 2 ^ 31) : Ci l D cI cB cS ad N yX4_pointsIn cX4_pointsIn 3 (some .int) 5 115 [.ref (ad q), .int x, .int y] F (fun r F' => r = s_X4_pointsFor g t x y (s_place (sc_rt t x tm nb) y nb) ∧ ScF ad cI F' q b (sc_rt t x tm nb) (pt) (sm) (tl) ∧ Fr F F' q (q + 9)) := by
  refine x_met (by decide +kernel) (Nat.le_of_ble_eq_true rfl) ?_
  intro p e s m below meth c X hr hlk hK hw ls hl
  replace hl : lv_has ls 3 [(0, .ref (ad q)), (1, .int x), (2, .int y)] := hl
  have hfr : Fr F F (q) (q + 9) := Fr.rf
  refine lv_aload_n X.1 X.2.1 dX4_pointsIn_0 rfl (lv_at hl 0 rfl) ?_
  refine lv_iload_n X.1 X.2.1 dX4_pointsIn_1 rfl (lv_at hl 1 rfl) ?_
  refine lv_iload_n X.1 X.2.1 dX4_pointsIn_2 rfl (lv_at hl 2 rfl) ?_
  refine lv_aload_n X.1 X.2.1 dX4_pointsIn_3 rfl (lv_at hl 0 rfl) ?_
  refine lv_iload_n X.1 X.2.1 dX4_pointsIn_4 rfl (lv_at hl 1 rfl) ?_
  refine lv_iload_n X.1 X.2.1 dX4_pointsIn_5 rfl (lv_at hl 2 rfl) ?_
  refine x_callV X hK hw (k := q) (As := [.int x, .int y]) (rest := [.int y, .int x, .ref (ad q)]) (k_X4_placeIn hI q b g t tm pt sm tl x y nb (by omega) (by omega) hQ (by omega) hF hg hnb) (x_cwV yX4_placeIn cX4_placeIn 3 (some .int) 2 X q750 q731 q732 q7 q733 hd_X4_placeIn ⟨Nat.le_of_ble_eq_true rfl, Nat.le_of_ble_eq_true rfl⟩) (by omega) hQ.1 rfl rfl hl.1 rfl (Nat.le_of_ble_eq_true rfl) dX4_pointsIn_6 ⟨Nat.le_of_ble_eq_true rfl, Nat.le_of_ble_eq_true rfl⟩ (fun r4 F1 H locs hp hw => ?_)
  obtain ⟨er5, hS2, hr3⟩ := hp
  refine x_top er5 ?_
  have hq6 := hF.cg hr3 (by omega)
  replace hfr := hfr.tr hr3 (by omega) (by omega)
  refine x_callVP X hK hw (k := q) (As := [.int x, .int y, .int (s_place (sc_rt t x tm nb) y nb)]) (rest := []) (k_X4_pointsFor hI q b g t ((sc_rt t x tm nb)) ((pt)) ((sm)) ((tl)) x y (s_place (sc_rt t x tm nb) y nb) (by omega) (by omega) hS2 (by omega) hq6) (x_cwV yX4_pointsFor cX4_pointsFor 4 (some .int) 3 X q751 q753 qs12 q7 q754 hd_X4_pointsFor ⟨Nat.le_of_ble_eq_true rfl, Nat.le_of_ble_eq_true rfl⟩) (by omega) hS2.1 rfl rfl hl.1 rfl (Nat.le_of_ble_eq_true rfl) dX4_pointsIn_9 ⟨Nat.le_of_ble_eq_true rfl, Nat.le_of_ble_eq_true rfl⟩ (fun H locs hw => ?_)
  exact x_iret X hr hlk hK hw (v := s_X4_pointsFor g t x y (s_place (sc_rt t x tm nb) y nb)) rfl (⟨rfl, hS2, hfr⟩) dX4_pointsIn_12
set_option maxHeartbeats 4000000 in
set_option maxRecDepth 100000 in
theorem k_X4_leader {l : Launch} {D : va_G} {cI cB cS : ClassId} {ad : Nat → Nat} {N : Nat} {F : Nat → va_E} (hI : iN ad N) (q : Nat) (b : Nat) (g : Nat → Int32) (t : Nat → Nat → Int32) (tm : Nat → Int32) (pt : Nat → Int32) (sm : Nat → Int32) (tl : Nat → Int32) (x : Int32) (nb : Nat) (hq : q + 9 ≤ N) (hqb : q + 9 ≤ b ∨ b + 11 ≤ q) (hQ : ScF ad cI F q b tm pt sm tl) (hb : b + 11 ≤ N) (hF : StF ad cI F b g t) (hg : g 1 = nI nb) (hnb : nb < 2 ^ 31) : Ci l D cI cB cS ad N yX4_leader cX4_leader 3 (some .int) 4 93 [.ref (ad q), .int x] F (fun r F' => r = sc_ld (sc_rt t x tm nb) nb nb 0 ∧ ScF ad cI F' q b (sc_rt t x tm nb) (pt) (sm) (tl) ∧ Fr F F' q (q + 9)) := by
  refine x_met (by decide +kernel) (Nat.le_of_ble_eq_true rfl) ?_
  intro p e s m below meth c X hr hlk hK hw ls hl
  replace hl : lv_has ls 3 [(0, .ref (ad q)), (1, .int x)] := hl
  have hfr : Fr F F (q) (q + 9) := Fr.rf
  refine lv_aload_n X.1 X.2.1 dX4_leader_0 rfl (lv_at hl 0 rfl) ?_
  refine lv_iload_n X.1 X.2.1 dX4_leader_1 rfl (lv_at hl 1 rfl) ?_
  refine x_callVv X hK hw (k := q) (As := [.int x]) (rest := []) (k_X4_readTimes hI q b g t tm pt sm tl x nb (by omega) (by omega) hQ (by omega) hF hg hnb) (x_cwV yX4_readTimes cX4_readTimes 4 none 1 X q734 q736 qs10 q7 q737 hd_X4_readTimes ⟨Nat.le_of_ble_eq_true rfl, Nat.le_of_ble_eq_true rfl⟩) (by omega) hQ.1 rfl rfl hl.1 rfl (Nat.le_of_ble_eq_true rfl) dX4_leader_2 ⟨Nat.le_of_ble_eq_true rfl, Nat.le_of_ble_eq_true rfl⟩ (fun F1 H locs hp hw => ?_)
  obtain ⟨hS2, hr3⟩ := hp
  have hq4 := hF.cg hr3 (by omega)
  replace hfr := hfr.tr hr3 (by omega) (by omega)
  refine lv_iconst (v := nI 0) X.1 X.2.1 dX4_leader_5 (by decide) ?_
  refine lv_istore_n (lv' := [(2, .int (nI 0)), (0, .ref (ad q)), (1, .int x)]) X.1 X.2.1 dX4_leader_6 rfl hl (by decide) rfl (fun ls hl => ?_)
  have loop : ∀ (fu : Nat) (i : Nat) (hfu : i + fu = nb) (he : sc_ld (sc_rt t x tm nb) nb fu i = sc_ld (sc_rt t x tm nb) nb nb 0) (H : Heap) (locs : List Loc) (hw : HW D (Af ad N s.heap.size) ad N F1 s H locs) (ls : Array Slot) (hl : lv_has ls 3 [(2, .int (nI i)), (0, .ref (ad q)), (1, .int x)]), W p l e { frames := 4, cells := 0, slots := 0, locals := 93 } s m [.ref (ad q), .int x].toArray below meth c H locs 0 0 (MQ below (va_Qi (fun r F' => r = sc_ld (sc_rt t x tm nb) nb nb 0 ∧ ScF ad cI F' q b (sc_rt t x tm nb) (pt) (sm) (tl) ∧ Fr F F' q (q + 9)) (fun F' t => PO D ad N F' t) (Af ad N s.heap.size)) [.ref (ad q), .int x].toArray s 0 0 (Af ad N s.heap.size)) (F0 m 7 ls []) := by
    intro fu
    induction fu with
    | zero =>
      intro i hfu he H locs hw ls hl
      refine lv_iload_n X.1 X.2.1 dX4_leader_7 rfl (lv_at hl 0 rfl) ?_
      refine lv_aload_n X.1 X.2.1 dX4_leader_8 rfl (lv_at hl 1 rfl) ?_
      refine x_get X hK hw (C := RX4) (T := TX4) (nf := 5) (k := q) (by omega) hS2.1 rfl inX4 0 (by decide) q141 (fun _ h9 => h9) rfl dX4_leader_9 ?_
      refine x_get X hK hw (C := RX5) (T := TX5) (nf := 10) (k := b) (by omega) hq4.1 rfl inX5 1 (by decide) q62 (fun _ h9 => h9) rfl dX4_leader_12 ?_
      refine lv_icmp_ge (tgt := 35) X.1 X.2.1 dX4_leader_15 (by decide) (fun c5 => ?_) (fun c5 => ?_)
      · refine lv_bipush (v := (-5)) X.1 X.2.1 dX4_leader_35 (by decide) ?_
        exact x_iret X hr hlk hK hw (v := (-5)) rfl (⟨by rw [← he]; rfl, hS2, hfr⟩) dX4_leader_37
      · exact absurd (by rw [hg]; exact nI_le (by omega) (by omega)) c5
    | succ fu ih =>
      intro i hfu he H locs hw ls hl
      refine lv_iload_n X.1 X.2.1 dX4_leader_7 rfl (lv_at hl 0 rfl) ?_
      refine lv_aload_n X.1 X.2.1 dX4_leader_8 rfl (lv_at hl 1 rfl) ?_
      refine x_get X hK hw (C := RX4) (T := TX4) (nf := 5) (k := q) (by omega) hS2.1 rfl inX4 0 (by decide) q141 (fun _ h9 => h9) rfl dX4_leader_9 ?_
      refine x_get X hK hw (C := RX5) (T := TX5) (nf := 10) (k := b) (by omega) hq4.1 rfl inX5 1 (by decide) q62 (fun _ h9 => h9) rfl dX4_leader_12 ?_
      refine lv_icmp_ge (tgt := 35) X.1 X.2.1 dX4_leader_15 (by decide) (fun c6 => ?_) (fun c6 => ?_)
      · exact absurd c6 (by rw [hg]; exact nI_ge (by omega) (by omega))
      · refine lv_aload_n X.1 X.2.1 dX4_leader_18 rfl (lv_at hl 1 rfl) ?_
        refine lv_iload_n X.1 X.2.1 dX4_leader_19 rfl (lv_at hl 0 rfl) ?_
        refine x_callVP X hK hw (k := q) (As := [.int (nI i)]) (rest := []) (k_X4_place hI q b g t ((sc_rt t x tm nb)) ((pt)) ((sm)) ((tl)) (nI i) nb (by omega) (by omega) hS2 (by omega) hq4 hg hnb) (x_cwV yX4_place cX4_place 6 (some .int) 1 X q742 q744 qs11 q7 q745 hd_X4_place ⟨Nat.le_of_ble_eq_true rfl, Nat.le_of_ble_eq_true rfl⟩) (by omega) hS2.1 rfl rfl hl.1 rfl (Nat.le_of_ble_eq_true rfl) dX4_leader_20 ⟨Nat.le_of_ble_eq_true rfl, Nat.le_of_ble_eq_true rfl⟩ (fun H locs hw => ?_)
        refine lv_iconst (v := nI 1) X.1 X.2.1 dX4_leader_23 (by decide) ?_
        refine lv_icmp_ne (tgt := 29) X.1 X.2.1 dX4_leader_24 (by decide) (fun c7 => ?_) (fun c7 => ?_)
        · refine lv_iinc (v := nI (i + 1)) (lv' := [(2, .int (nI (i + 1))), (0, .ref (ad q)), (1, .int x)]) X.1 X.2.1 dX4_leader_29 hl (k := 0) rfl (by first | exact nI_1 _ | exact nI_add _ _ | rfl) (by decide) rfl (fun ls hl => ?_)
          refine lv_goto (tgt := 7) X.1 X.2.1 dX4_leader_32 (by decide) ?_
          exact ih (i + 1)  (by omega) (by rw [← he, sc_ld, if_neg c7]) _ _ hw _ (lv_sub hl [0, 1, 2] rfl)
        · refine lv_iload_n X.1 X.2.1 dX4_leader_27 rfl (lv_at hl 0 rfl) ?_
          exact x_iret X hr hlk hK hw (v := nI i) rfl (⟨by rw [← he, sc_ld, if_pos c7], hS2, hfr⟩) dX4_leader_28
  exact loop nb 0  (by omega) rfl _ _ hw _ (lv_sub hl [0, 1, 2] rfl)
set_option maxHeartbeats 4000000 in
set_option maxRecDepth 100000 in
theorem k_X4_isDropping {l : Launch} {D : va_G} {cI cB cS : ClassId} {ad : Nat → Nat} {N : Nat} {F : Nat → va_E} (hI : iN ad N) (q : Nat) (b : Nat) (g : Nat → Int32) (t : Nat → Nat → Int32) (tm : Nat → Int32) (pt : Nat → Int32) (sm : Nat → Int32) (tl : Nat → Int32) (nb : Nat) (hq : q + 9 ≤ N) (hqb : q + 9 ≤ b ∨ b + 11 ≤ q) (hQ : ScF ad cI F q b tm pt sm tl) (hb : b + 11 ≤ N) (hF : StF ad cI F b g t) (hg : g 1 = nI nb) (hnb : nb < 2 ^ 31) : Ci l D cI cB cS ad N yX4_isDropping cX4_isDropping 2 (some .boolean) 2 44 [.ref (ad q)] F (pP (bI (decide (¬ tg 1 3 (t 1) (nI 2) (nI 0) = 0 ∧ ¬ c_cl g < tg 1 3 (t 1) (nI 2) (nI 0)))) F) := by
  refine x_met (by decide +kernel) (Nat.le_of_ble_eq_true rfl) ?_
  intro p e s m below meth c X hr hlk hK hw ls hl
  replace hl : lv_has ls 2 [(0, .ref (ad q))] := hl
  refine lv_aload_n X.1 X.2.1 dX4_isDropping_0 rfl (lv_at hl 0 rfl) ?_
  refine x_get X hK hw (C := RX4) (T := TX4) (nf := 5) (k := q) (by omega) hQ.1 rfl inX4 0 (by decide) q141 (fun _ h9 => h9) rfl dX4_isDropping_1 ?_
  refine lv_iconst (v := nI 2) X.1 X.2.1 dX4_isDropping_4 (by decide) ?_
  refine x_callVP X hK hw (k := b) (As := [.int (nI 2)]) (rest := []) (k_X5_setting hI b g t (nI 2) (by omega) hF) (x_cwV yX5_setting cX5_setting 2 (some .int) 1 X q778 q441 q442 q2 q443 hd_X5_setting ⟨Nat.le_of_ble_eq_true rfl, Nat.le_of_ble_eq_true rfl⟩) (by omega) hF.1 rfl rfl hl.1 rfl (Nat.le_of_ble_eq_true rfl) dX4_isDropping_5 ⟨Nat.le_of_ble_eq_true rfl, Nat.le_of_ble_eq_true rfl⟩ (fun H locs hw => ?_)
  refine lv_istore_n (lv' := [(1, .int (tg 1 3 (t 1) (nI 2) (nI 0))), (0, .ref (ad q))]) X.1 X.2.1 dX4_isDropping_8 rfl hl (by decide) rfl (fun ls hl => ?_)
  refine lv_iload_n X.1 X.2.1 dX4_isDropping_9 rfl (lv_at hl 0 rfl) ?_
  refine lv_if_eq (tgt := 28) X.1 X.2.1 dX4_isDropping_10 (by decide) (fun c1 => ?_) (fun c1 => ?_)
  · refine lv_iconst (v := nI 0) X.1 X.2.1 dX4_isDropping_28 (by decide) ?_
    exact x_iret X hr hlk hK hw (v := nI 0) (by first | rfl | exact nr_b _ | decide) (⟨by simp [bI, c1], rfl⟩) dX4_isDropping_29
  · refine lv_aload_n X.1 X.2.1 dX4_isDropping_13 rfl (lv_at hl 1 rfl) ?_
    refine x_get X hK hw (C := RX4) (T := TX4) (nf := 5) (k := q) (by omega) hQ.1 rfl inX4 0 (by decide) q141 (fun _ h9 => h9) rfl dX4_isDropping_14 ?_
    refine x_callVP X hK hw (k := b) (As := []) (rest := []) (k_X5_closedRaces hI b g t (by omega) hF) (x_cwV yX5_closedRaces cX5_closedRaces 1 (some .int) 0 X q764 q727 q728 q2 q729 hd_X5_closedRaces ⟨Nat.le_of_ble_eq_true rfl, Nat.le_of_ble_eq_true rfl⟩) (by omega) hF.1 rfl rfl hl.1 rfl (Nat.le_of_ble_eq_true rfl) dX4_isDropping_17 ⟨Nat.le_of_ble_eq_true rfl, Nat.le_of_ble_eq_true rfl⟩ (fun H locs hw => ?_)
    refine lv_iload_n X.1 X.2.1 dX4_isDropping_20 rfl (lv_at hl 0 rfl) ?_
    refine lv_icmp_lt (tgt := 28) X.1 X.2.1 dX4_isDropping_21 (by decide) (fun c2 => ?_) (fun c2 => ?_)
    · refine lv_iconst (v := nI 0) X.1 X.2.1 dX4_isDropping_28 (by decide) ?_
      exact x_iret X hr hlk hK hw (v := nI 0) (by first | rfl | exact nr_b _ | decide) (⟨by simp [bI, c1, c2], rfl⟩) dX4_isDropping_29
    · refine lv_iconst (v := nI 1) X.1 X.2.1 dX4_isDropping_24 (by decide) ?_
      refine lv_goto (tgt := 29) X.1 X.2.1 dX4_isDropping_25 (by decide) ?_
      exact x_iret X hr hlk hK hw (v := nI 1) (by first | rfl | exact nr_b _ | decide) (⟨by simp [bI, c1, c2], rfl⟩) dX4_isDropping_29
set_option maxHeartbeats 4000000 in
set_option maxRecDepth 100000 in
theorem k_X4_sum {l : Launch} {D : va_G} {cI cB cS : ClassId} {ad : Nat → Nat} {N : Nat} {F : Nat → va_E} (hI : iN ad N) (q : Nat) (b : Nat) (g : Nat → Int32) (t : Nat → Nat → Int32) (tm : Nat → Int32) (pt : Nat → Int32) (sm : Nat → Int32) (tl : Nat → Int32) (x : Int32) (nb : Nat) (hq : q + 9 ≤ N) (hqb : q + 9 ≤ b ∨ b + 11 ≤ q) (hQ : ScF ad cI F q b tm pt sm tl) (hb : b + 11 ≤ N) (hF : StF ad cI F b g t) (hg : g 1 = nI nb) (hnb : nb < 2 ^ 31) : Ci l D cI cB cS ad N yX4_sum cX4_sum 2 (some .int) 1 23 [.ref (ad q), .int x] F (pP (tg 4 36 sm x (nI 0)) F) := by
  refine x_met (by decide +kernel) (Nat.le_of_ble_eq_true rfl) ?_
  intro p e s m below meth c X hr hlk hK hw ls hl
  replace hl : lv_has ls 2 [(0, .ref (ad q)), (1, .int x)] := hl
  refine lv_aload_n X.1 X.2.1 dX4_sum_0 rfl (lv_at hl 0 rfl) ?_
  refine x_get X hK hw (C := RX4) (T := TX4) (nf := 5) (k := q) (by omega) hQ.1 rfl inX4 3 (by decide) q144 (fun _ h9 => h9) rfl dX4_sum_1 ?_
  refine lv_iload_n X.1 X.2.1 dX4_sum_4 rfl (lv_at hl 1 rfl) ?_
  refine lv_iconst (v := nI 0) X.1 X.2.1 dX4_sum_5 (by decide) ?_
  refine x_callVP X hK hw (k := (q + 5)) (As := [.int x, .int (nI 0)]) (rest := []) (k_X6_get hI ((q + 5)) 4 36 sm x (nI 0) (by omega) (by omega) hQ.2.2.2.1) (x_cwV yX6_get cX6_get 4 (some .int) 2 X q739 q327 q328 q3 q329 hd_X6_get ⟨Nat.le_of_ble_eq_true rfl, Nat.le_of_ble_eq_true rfl⟩) (by omega) hQ.2.2.2.1.1 rfl rfl hl.1 rfl (Nat.le_of_ble_eq_true rfl) dX4_sum_6 ⟨Nat.le_of_ble_eq_true rfl, Nat.le_of_ble_eq_true rfl⟩ (fun H locs hw => ?_)
  exact x_iret X hr hlk hK hw (v := tg 4 36 sm x (nI 0)) rfl (⟨rfl, rfl⟩) dX4_sum_9
set_option maxHeartbeats 4000000 in
set_option maxRecDepth 100000 in
theorem k_X4_total {l : Launch} {D : va_G} {cI cB cS : ClassId} {ad : Nat → Nat} {N : Nat} {F : Nat → va_E} (hI : iN ad N) (q : Nat) (b : Nat) (g : Nat → Int32) (t : Nat → Nat → Int32) (tm : Nat → Int32) (pt : Nat → Int32) (sm : Nat → Int32) (tl : Nat → Int32) (x : Int32) (nb : Nat) (hq : q + 9 ≤ N) (hqb : q + 9 ≤ b ∨ b + 11 ≤ q) (hQ : ScF ad cI F q b tm pt sm tl) (hb : b + 11 ≤ N) (hF : StF ad cI F b g t) (hg : g 1 = nI nb) (hnb : nb < 2 ^ 31) : Ci l D cI cB cS ad N yX4_total cX4_total 2 (some .int) 1 23 [.ref (ad q), .int x] F (pP (tg 4 36 sm x (nI 1)) F) := by
  refine x_met (by decide +kernel) (Nat.le_of_ble_eq_true rfl) ?_
  intro p e s m below meth c X hr hlk hK hw ls hl
  replace hl : lv_has ls 2 [(0, .ref (ad q)), (1, .int x)] := hl
  refine lv_aload_n X.1 X.2.1 dX4_total_0 rfl (lv_at hl 0 rfl) ?_
  refine x_get X hK hw (C := RX4) (T := TX4) (nf := 5) (k := q) (by omega) hQ.1 rfl inX4 3 (by decide) q144 (fun _ h9 => h9) rfl dX4_total_1 ?_
  refine lv_iload_n X.1 X.2.1 dX4_total_4 rfl (lv_at hl 1 rfl) ?_
  refine lv_iconst (v := nI 1) X.1 X.2.1 dX4_total_5 (by decide) ?_
  refine x_callVP X hK hw (k := (q + 5)) (As := [.int x, .int (nI 1)]) (rest := []) (k_X6_get hI ((q + 5)) 4 36 sm x (nI 1) (by omega) (by omega) hQ.2.2.2.1) (x_cwV yX6_get cX6_get 4 (some .int) 2 X q739 q327 q328 q3 q329 hd_X6_get ⟨Nat.le_of_ble_eq_true rfl, Nat.le_of_ble_eq_true rfl⟩) (by omega) hQ.2.2.2.1.1 rfl rfl hl.1 rfl (Nat.le_of_ble_eq_true rfl) dX4_total_6 ⟨Nat.le_of_ble_eq_true rfl, Nat.le_of_ble_eq_true rfl⟩ (fun H locs hw => ?_)
  exact x_iret X hr hlk hK hw (v := tg 4 36 sm x (nI 1)) rfl (⟨rfl, rfl⟩) dX4_total_9
set_option maxHeartbeats 4000000 in
set_option maxRecDepth 100000 in
theorem k_X4_dropped {l : Launch} {D : va_G} {cI cB cS : ClassId} {ad : Nat → Nat} {N : Nat} {F : Nat → va_E} (hI : iN ad N) (q : Nat) (b : Nat) (g : Nat → Int32) (t : Nat → Nat → Int32) (tm : Nat → Int32) (pt : Nat → Int32) (sm : Nat → Int32) (tl : Nat → Int32) (x : Int32) (nb : Nat) (hq : q + 9 ≤ N) (hqb : q + 9 ≤ b ∨ b + 11 ≤ q) (hQ : ScF ad cI F q b tm pt sm tl) (hb : b + 11 ≤ N) (hF : StF ad cI F b g t) (hg : g 1 = nI nb) (hnb : nb < 2 ^ 31) : Ci l D cI cB cS ad N yX4_dropped cX4_dropped 2 (some .int) 1 23 [.ref (ad q), .int x] F (pP (tg 4 36 sm x (nI 2)) F) := by
  refine x_met (by decide +kernel) (Nat.le_of_ble_eq_true rfl) ?_
  intro p e s m below meth c X hr hlk hK hw ls hl
  replace hl : lv_has ls 2 [(0, .ref (ad q)), (1, .int x)] := hl
  refine lv_aload_n X.1 X.2.1 dX4_dropped_0 rfl (lv_at hl 0 rfl) ?_
  refine x_get X hK hw (C := RX4) (T := TX4) (nf := 5) (k := q) (by omega) hQ.1 rfl inX4 3 (by decide) q144 (fun _ h9 => h9) rfl dX4_dropped_1 ?_
  refine lv_iload_n X.1 X.2.1 dX4_dropped_4 rfl (lv_at hl 1 rfl) ?_
  refine lv_iconst (v := nI 2) X.1 X.2.1 dX4_dropped_5 (by decide) ?_
  refine x_callVP X hK hw (k := (q + 5)) (As := [.int x, .int (nI 2)]) (rest := []) (k_X6_get hI ((q + 5)) 4 36 sm x (nI 2) (by omega) (by omega) hQ.2.2.2.1) (x_cwV yX6_get cX6_get 4 (some .int) 2 X q739 q327 q328 q3 q329 hd_X6_get ⟨Nat.le_of_ble_eq_true rfl, Nat.le_of_ble_eq_true rfl⟩) (by omega) hQ.2.2.2.1.1 rfl rfl hl.1 rfl (Nat.le_of_ble_eq_true rfl) dX4_dropped_6 ⟨Nat.le_of_ble_eq_true rfl, Nat.le_of_ble_eq_true rfl⟩ (fun H locs hw => ?_)
  exact x_iret X hr hlk hK hw (v := tg 4 36 sm x (nI 2)) rfl (⟨rfl, rfl⟩) dX4_dropped_9
set_option maxHeartbeats 4000000 in
set_option maxRecDepth 100000 in
theorem k_X4_firstPlaces {l : Launch} {D : va_G} {cI cB cS : ClassId} {ad : Nat → Nat} {N : Nat} {F : Nat → va_E} (hI : iN ad N) (q : Nat) (b : Nat) (g : Nat → Int32) (t : Nat → Nat → Int32) (tm : Nat → Int32) (pt : Nat → Int32) (sm : Nat → Int32) (tl : Nat → Int32) (x : Int32) (nb : Nat) (hq : q + 9 ≤ N) (hqb : q + 9 ≤ b ∨ b + 11 ≤ q) (hQ : ScF ad cI F q b tm pt sm tl) (hb : b + 11 ≤ N) (hF : StF ad cI F b g t) (hg : g 1 = nI nb) (hnb : nb < 2 ^ 31) : Ci l D cI cB cS ad N yX4_firstPlaces cX4_firstPlaces 2 (some .int) 1 23 [.ref (ad q), .int x] F (pP (tg 10 90 tl x (nI 1)) F) := by
  refine x_met (by decide +kernel) (Nat.le_of_ble_eq_true rfl) ?_
  intro p e s m below meth c X hr hlk hK hw ls hl
  replace hl : lv_has ls 2 [(0, .ref (ad q)), (1, .int x)] := hl
  refine lv_aload_n X.1 X.2.1 dX4_firstPlaces_0 rfl (lv_at hl 0 rfl) ?_
  refine x_get X hK hw (C := RX4) (T := TX4) (nf := 5) (k := q) (by omega) hQ.1 rfl inX4 4 (by decide) q145 (fun _ h9 => h9) rfl dX4_firstPlaces_1 ?_
  refine lv_iload_n X.1 X.2.1 dX4_firstPlaces_4 rfl (lv_at hl 1 rfl) ?_
  refine lv_iconst (v := nI 1) X.1 X.2.1 dX4_firstPlaces_5 (by decide) ?_
  refine x_callVP X hK hw (k := (q + 7)) (As := [.int x, .int (nI 1)]) (rest := []) (k_X6_get hI ((q + 7)) 10 90 tl x (nI 1) (by omega) (by omega) hQ.2.2.2.2) (x_cwV yX6_get cX6_get 4 (some .int) 2 X q739 q327 q328 q3 q329 hd_X6_get ⟨Nat.le_of_ble_eq_true rfl, Nat.le_of_ble_eq_true rfl⟩) (by omega) hQ.2.2.2.2.1 rfl rfl hl.1 rfl (Nat.le_of_ble_eq_true rfl) dX4_firstPlaces_6 ⟨Nat.le_of_ble_eq_true rfl, Nat.le_of_ble_eq_true rfl⟩ (fun H locs hw => ?_)
  exact x_iret X hr hlk hK hw (v := tg 10 90 tl x (nI 1)) rfl (⟨rfl, rfl⟩) dX4_firstPlaces_9
