def sc_rr (g : Nat → Int32) (t : Nat → Nat → Int32) (x : Int32) (tm : Nat → Int32) (nb : Nat) (pt tl : Nat → Int32) : Nat → (Nat → Int32) × (Nat → Int32)
  | 0 => (pt, tl)
  | i + 1 => if s_place tm (nI i) nb = (-5) then (tp 9 54 (sc_rr g t x tm nb pt tl i).1 x (nI i) (s_X4_pointsFor g t x (nI i) (s_place tm (nI i) nb)), (sc_rr g t x tm nb pt tl i).2) else (tp 9 54 (sc_rr g t x tm nb pt tl i).1 x (nI i) (s_X4_pointsFor g t x (nI i) (s_place tm (nI i) nb)), tp 10 90 (sc_rr g t x tm nb pt tl i).2 (nI i) (s_place tm (nI i) nb) (tg 10 90 (sc_rr g t x tm nb pt tl i).2 (nI i) (s_place tm (nI i) nb) + nI 1))
def sc_su (pt : Nat → Int32) (x : Int32) : Nat → Int32 × Int32 × Int32 × Int32
  | 0 => (nI 0, (-5), nI 0, nI 0)
  | i + 1 => if tg 9 54 pt (nI i) x < (sc_su pt x i).2.2.1 then ((sc_su pt x i).1 + tg 9 54 pt (nI i) x, (sc_su pt x i).2.1, (sc_su pt x i).2.2.1, tg 9 54 pt (nI i) x) else ((sc_su pt x i).1 + tg 9 54 pt (nI i) x, nI i, tg 9 54 pt (nI i) x, tg 9 54 pt (nI i) x)
abbrev c_drp (g : Nat → Int32) (t : Nat → Nat → Int32) : Prop := ¬ tg 1 3 (t 1) (nI 2) (nI 0) = 0 ∧ ¬ c_cl g < tg 1 3 (t 1) (nI 2) (nI 0)
def sc_sum (g : Nat → Int32) (t : Nat → Nat → Int32) (pt sm : Nat → Int32) (x : Int32) (nc : Nat) : Nat → Int32 :=
  tp 4 36 (tp 4 36 (tp 4 36 (tp 4 36 sm x (nI 0) (sc_su pt x nc).1) x (nI 1) (if c_drp g t then (sc_su pt x nc).1 - (sc_su pt x nc).2.2.1 else (sc_su pt x nc).1)) x (nI 2) (if c_drp g t then (sc_su pt x nc).2.1 else (-5))) x (nI 3) (sc_su pt x nc).2.2.2
set_option maxHeartbeats 4000000 in
set_option maxRecDepth 100000 in
theorem k_X4_recountRace {l : Launch} {D : va_G} {cI cB cS : ClassId} {ad : Nat → Nat} {N : Nat} {F : Nat → va_E} (hI : iN ad N) (q : Nat) (b : Nat) (g : Nat → Int32) (t : Nat → Nat → Int32) (tm : Nat → Int32) (pt : Nat → Int32) (sm : Nat → Int32) (tl : Nat → Int32) (x : Int32) (nb : Nat) (hq : q + 9 ≤ N) (hqb : q + 9 ≤ b ∨ b + 11 ≤ q) (hQ : ScF ad cI F q b tm pt sm tl) (hb : b + 11 ≤ N) (hF : StF ad cI F b g t) (hg : g 1 = nI nb) (hnb : nb < 2 ^ 31) : Cv l D cI cB cS ad N yX4_recountRace cX4_recountRace 4 4 93 [.ref (ad q), .int x] F (fun F' => ScF ad cI F' q b (sc_rt t x tm nb) ((sc_rr g t x (sc_rt t x tm nb) nb pt tl nb).1) (sm) ((sc_rr g t x (sc_rt t x tm nb) nb pt tl nb).2) ∧ Fr F F' q (q + 9)) := by
  refine x_metv (by decide +kernel) (Nat.le_of_ble_eq_true rfl) ?_
  intro p e s m below meth c X hr hlk hK hw ls hl
  replace hl : lv_has ls 4 [(0, .ref (ad q)), (1, .int x)] := hl
  have hfr : Fr F F (q) (q + 9) := Fr.rf
  refine lv_aload_n X.1 X.2.1 dX4_recountRace_0 rfl (lv_at hl 0 rfl) ?_
  refine lv_iload_n X.1 X.2.1 dX4_recountRace_1 rfl (lv_at hl 1 rfl) ?_
  refine x_callVv X hK hw (k := q) (As := [.int x]) (rest := []) (k_X4_readTimes hI q b g t tm pt sm tl x nb (by omega) (by omega) hQ (by omega) hF hg hnb) (x_cwV yX4_readTimes cX4_readTimes 4 none 1 X q734 q736 qs10 q7 q737 hd_X4_readTimes ⟨Nat.le_of_ble_eq_true rfl, Nat.le_of_ble_eq_true rfl⟩) (by omega) hQ.1 rfl rfl hl.1 rfl (Nat.le_of_ble_eq_true rfl) dX4_recountRace_2 ⟨Nat.le_of_ble_eq_true rfl, Nat.le_of_ble_eq_true rfl⟩ (fun F1 H locs hp hw => ?_)
  obtain ⟨hS2, hr3⟩ := hp
  have hq4 := hF.cg hr3 (by omega)
  replace hfr := hfr.tr hr3 (by omega) (by omega)
  refine lv_iconst (v := nI 0) X.1 X.2.1 dX4_recountRace_5 (by decide) ?_
  refine lv_istore_n (lv' := [(2, .int (nI 0)), (0, .ref (ad q)), (1, .int x)]) X.1 X.2.1 dX4_recountRace_6 rfl hl (by decide) rfl (fun ls hl => ?_)
  have loop : ∀ (fu : Nat) (i : Nat) (F1 : Nat → va_E) (f1 : Nat → Int32) (f2 : Nat → Int32) (hfu : i + fu = nb) (he : (f1, f2) = sc_rr g t x (sc_rt t x tm nb) nb pt tl i) (hQ : ScF ad cI F1 q b (sc_rt t x tm nb) f1 sm f2) (hF : StF ad cI F1 b g t) (hfr : Fr F F1 q (q + 9)) (H : Heap) (locs : List Loc) (hw : HW D (Af ad N s.heap.size) ad N F1 s H locs) (ls : Array Slot) (hl : lv_has ls 4 [(2, .int (nI i)), (0, .ref (ad q)), (1, .int x)]), W p l e { frames := 4, cells := 0, slots := 0, locals := 93 } s m [.ref (ad q), .int x].toArray below meth c H locs 0 0 (MQ below (va_Qv (fun F' => ScF ad cI F' q b (sc_rt t x tm nb) ((sc_rr g t x (sc_rt t x tm nb) nb pt tl nb).1) (sm) ((sc_rr g t x (sc_rt t x tm nb) nb pt tl nb).2) ∧ Fr F F' q (q + 9)) (fun F' t => PO D ad N F' t) (Af ad N s.heap.size)) [.ref (ad q), .int x].toArray s 0 0 (Af ad N s.heap.size)) (F0 m 7 ls []) := by
    intro fu
    induction fu with
    | zero =>
      intro i F1 f1 f2 hfu he hQ hF hfr H locs hw ls hl
      refine lv_iload_n X.1 X.2.1 dX4_recountRace_7 rfl (lv_at hl 0 rfl) ?_
      refine lv_aload_n X.1 X.2.1 dX4_recountRace_8 rfl (lv_at hl 1 rfl) ?_
      refine x_get X hK hw (C := RX4) (T := TX4) (nf := 5) (k := q) (by omega) hQ.1 rfl inX4 0 (by decide) q141 (fun _ h9 => h9) rfl dX4_recountRace_9 ?_
      refine x_get X hK hw (C := RX5) (T := TX5) (nf := 10) (k := b) (by omega) hF.1 rfl inX5 1 (by decide) q62 (fun _ h9 => h9) rfl dX4_recountRace_12 ?_
      refine lv_icmp_ge (tgt := 62) X.1 X.2.1 dX4_recountRace_15 (by decide) (fun c5 => ?_) (fun c5 => ?_)
      · exact x_vret X hr hlk hK hw (⟨by have h := hQ; rw [show i = nb by omega] at he; rw [← he]; exact h, hfr⟩) dX4_recountRace_62
      · exact absurd (by rw [hg]; exact nI_le (by omega) (by omega)) c5
    | succ fu ih =>
      intro i F1 f1 f2 hfu he hQ hF hfr H locs hw ls hl
      refine lv_iload_n X.1 X.2.1 dX4_recountRace_7 rfl (lv_at hl 0 rfl) ?_
      refine lv_aload_n X.1 X.2.1 dX4_recountRace_8 rfl (lv_at hl 1 rfl) ?_
      refine x_get X hK hw (C := RX4) (T := TX4) (nf := 5) (k := q) (by omega) hQ.1 rfl inX4 0 (by decide) q141 (fun _ h9 => h9) rfl dX4_recountRace_9 ?_
      refine x_get X hK hw (C := RX5) (T := TX5) (nf := 10) (k := b) (by omega) hF.1 rfl inX5 1 (by decide) q62 (fun _ h9 => h9) rfl dX4_recountRace_12 ?_
      refine lv_icmp_ge (tgt := 62) X.1 X.2.1 dX4_recountRace_15 (by decide) (fun c6 => ?_) (fun c6 => ?_)
      · exact absurd c6 (by rw [hg]; exact nI_ge (by omega) (by omega))
      · refine lv_aload_n X.1 X.2.1 dX4_recountRace_18 rfl (lv_at hl 1 rfl) ?_
        refine lv_iload_n X.1 X.2.1 dX4_recountRace_19 rfl (lv_at hl 0 rfl) ?_
        refine x_callVP X hK hw (k := q) (As := [.int (nI i)]) (rest := []) (k_X4_place hI q b g t ((sc_rt t x tm nb)) f1 sm f2 (nI i) nb (by omega) (by omega) hQ (by omega) hF hg hnb) (x_cwV yX4_place cX4_place 6 (some .int) 1 X q742 q744 qs11 q7 q745 hd_X4_place ⟨Nat.le_of_ble_eq_true rfl, Nat.le_of_ble_eq_true rfl⟩) (by omega) hQ.1 rfl rfl hl.1 rfl (Nat.le_of_ble_eq_true rfl) dX4_recountRace_20 ⟨Nat.le_of_ble_eq_true rfl, Nat.le_of_ble_eq_true rfl⟩ (fun H locs hw => ?_)
        refine lv_istore_n (lv' := [(3, .int (s_place ((sc_rt t x tm nb)) (nI i) nb)), (2, .int (nI i)), (0, .ref (ad q)), (1, .int x)]) X.1 X.2.1 dX4_recountRace_23 rfl hl (by decide) rfl (fun ls hl => ?_)
        refine lv_aload_n X.1 X.2.1 dX4_recountRace_24 rfl (lv_at hl 2 rfl) ?_
        refine x_get X hK hw (C := RX4) (T := TX4) (nf := 5) (k := q) (by omega) hQ.1 rfl inX4 2 (by decide) q143 (fun _ h9 => h9) rfl dX4_recountRace_25 ?_
        refine lv_iload_n X.1 X.2.1 dX4_recountRace_28 rfl (lv_at hl 3 rfl) ?_
        refine lv_iload_n X.1 X.2.1 dX4_recountRace_29 rfl (lv_at hl 1 rfl) ?_
        refine lv_aload_n X.1 X.2.1 dX4_recountRace_30 rfl (lv_at hl 2 rfl) ?_
        refine lv_iload_n X.1 X.2.1 dX4_recountRace_31 rfl (lv_at hl 3 rfl) ?_
        refine lv_iload_n X.1 X.2.1 dX4_recountRace_32 rfl (lv_at hl 1 rfl) ?_
        refine lv_iload_n X.1 X.2.1 dX4_recountRace_33 rfl (lv_at hl 0 rfl) ?_
        refine x_callVP X hK hw (k := q) (As := [.int x, .int (nI i), .int (s_place ((sc_rt t x tm nb)) (nI i) nb)]) (rest := [.int (nI i), .int x, .ref (ad (q + 3))]) (k_X4_pointsFor hI q b g t ((sc_rt t x tm nb)) f1 sm f2 x (nI i) (s_place ((sc_rt t x tm nb)) (nI i) nb) (by omega) (by omega) hQ (by omega) hF) (x_cwV yX4_pointsFor cX4_pointsFor 4 (some .int) 3 X q751 q753 qs12 q7 q754 hd_X4_pointsFor ⟨Nat.le_of_ble_eq_true rfl, Nat.le_of_ble_eq_true rfl⟩) (by omega) hQ.1 rfl rfl hl.1 rfl (Nat.le_of_ble_eq_true rfl) dX4_recountRace_34 ⟨Nat.le_of_ble_eq_true rfl, Nat.le_of_ble_eq_true rfl⟩ (fun H locs hw => ?_)
        refine x_callVv X hK hw (k := (q + 3)) (As := [.int x, .int (nI i), .int (s_X4_pointsFor g t x (nI i) (s_place ((sc_rt t x tm nb)) (nI i) nb))]) (rest := []) (k_X6_put hI ((q + 3)) 9 54 f1 x (nI i) (s_X4_pointsFor g t x (nI i) (s_place ((sc_rt t x tm nb)) (nI i) nb)) (by omega) (by omega) hQ.2.2.1) (x_cwV yX6_put cX6_put 5 none 3 X q741 q54 q55 q3 q56 hd_X6_put ⟨Nat.le_of_ble_eq_true rfl, Nat.le_of_ble_eq_true rfl⟩) (by omega) hQ.2.2.1.1 rfl rfl hl.1 rfl (Nat.le_of_ble_eq_true rfl) dX4_recountRace_37 ⟨Nat.le_of_ble_eq_true rfl, Nat.le_of_ble_eq_true rfl⟩ (fun F7 H locs hp hw => ?_)
        obtain ⟨hT8, hr9⟩ := hp
        have hF10 := hQ.tb1 hT8 hr9
        have hq11 := hF.cg hr9 (by omega)
        replace hfr := hfr.tr hr9 (by omega) (by omega)
        refine lv_iload_n X.1 X.2.1 dX4_recountRace_40 rfl (lv_at hl 0 rfl) ?_
        refine lv_bipush (v := (-5)) X.1 X.2.1 dX4_recountRace_41 (by decide) ?_
        refine lv_icmp_eq (tgt := 56) X.1 X.2.1 dX4_recountRace_43 (by decide) (fun c12 => ?_) (fun c12 => ?_)
        · refine lv_iinc (v := nI (i + 1)) (lv' := [(2, .int (nI (i + 1))), (3, .int (s_place ((sc_rt t x tm nb)) (nI i) nb)), (0, .ref (ad q)), (1, .int x)]) X.1 X.2.1 dX4_recountRace_56 hl (k := 1) rfl (by first | exact nI_1 _ | exact nI_add _ _ | rfl) (by decide) rfl (fun ls hl => ?_)
          refine lv_goto (tgt := 7) X.1 X.2.1 dX4_recountRace_59 (by decide) ?_
          exact ih (i + 1) F7 ((tp 9 54 f1 x (nI i) (s_X4_pointsFor g t x (nI i) (s_place ((sc_rt t x tm nb)) (nI i) nb)))) f2 (by omega) (by rw [sc_rr, if_pos c12, ← he]) hF10 hq11 hfr _ _ hw _ (lv_sub hl [0, 2, 3] rfl)
        · refine lv_aload_n X.1 X.2.1 dX4_recountRace_46 rfl (lv_at hl 2 rfl) ?_
          refine x_get X hK hw (C := RX4) (T := TX4) (nf := 5) (k := q) (by omega) hF10.1 rfl inX4 4 (by decide) q145 (fun _ h9 => h9) rfl dX4_recountRace_47 ?_
          refine lv_iload_n X.1 X.2.1 dX4_recountRace_50 rfl (lv_at hl 1 rfl) ?_
          refine lv_iload_n X.1 X.2.1 dX4_recountRace_51 rfl (lv_at hl 0 rfl) ?_
          refine lv_iconst (v := nI 1) X.1 X.2.1 dX4_recountRace_52 (by decide) ?_
          refine x_callVv X hK hw (k := (q + 7)) (As := [.int (nI i), .int (s_place ((sc_rt t x tm nb)) (nI i) nb), .int (nI 1)]) (rest := []) (k_X6_add hI ((q + 7)) 10 90 f2 (nI i) (s_place ((sc_rt t x tm nb)) (nI i) nb) (nI 1) (by omega) (by omega) hF10.2.2.2.2) (x_cwV yX6_add cX6_add 4 none 3 X q769 q331 q332 q3 q333 hd_X6_add ⟨Nat.le_of_ble_eq_true rfl, Nat.le_of_ble_eq_true rfl⟩) (by omega) hF10.2.2.2.2.1 rfl rfl hl.1 rfl (Nat.le_of_ble_eq_true rfl) dX4_recountRace_53 ⟨Nat.le_of_ble_eq_true rfl, Nat.le_of_ble_eq_true rfl⟩ (fun F13 H locs hp hw => ?_)
          obtain ⟨hT14, hr15⟩ := hp
          have hF16 := hF10.tb3 hT14 hr15
          have hq17 := hq11.cg hr15 (by omega)
          replace hfr := hfr.tr hr15 (by omega) (by omega)
          refine lv_iinc (v := nI (i + 1)) (lv' := [(2, .int (nI (i + 1))), (3, .int (s_place ((sc_rt t x tm nb)) (nI i) nb)), (0, .ref (ad q)), (1, .int x)]) X.1 X.2.1 dX4_recountRace_56 hl (k := 1) rfl (by first | exact nI_1 _ | exact nI_add _ _ | rfl) (by decide) rfl (fun ls hl => ?_)
          refine lv_goto (tgt := 7) X.1 X.2.1 dX4_recountRace_59 (by decide) ?_
          exact ih (i + 1) F13 ((tp 9 54 f1 x (nI i) (s_X4_pointsFor g t x (nI i) (s_place ((sc_rt t x tm nb)) (nI i) nb)))) ((tp 10 90 f2 (nI i) (s_place ((sc_rt t x tm nb)) (nI i) nb) (tg 10 90 f2 (nI i) (s_place ((sc_rt t x tm nb)) (nI i) nb) + (nI 1)))) (by omega) (by rw [sc_rr, if_neg c12, ← he]) hF16 hq17 hfr _ _ hw _ (lv_sub hl [0, 2, 3] rfl)
  exact loop nb 0 F1 pt tl (by omega) rfl hS2 hq4 hfr _ _ hw _ (lv_sub hl [0, 1, 2] rfl)
theorem hd_X4_isDropping : yX4_isDropping.cls = RX4 ∧ yX4_isDropping.cls ≠ "java/lang/invoke/MethodHandle" ∧ yX4_isDropping.cls ≠ "java/lang/invoke/VarHandle" ∧ (parseMethodDescriptor yX4_isDropping.desc).map (fun d => d.parameters.length) = some 0 := by decide +kernel
set_option maxHeartbeats 4000000 in
set_option maxRecDepth 100000 in
theorem k_X4_sumUp {l : Launch} {D : va_G} {cI cB cS : ClassId} {ad : Nat → Nat} {N : Nat} {F : Nat → va_E} (hI : iN ad N) (q : Nat) (b : Nat) (g : Nat → Int32) (t : Nat → Nat → Int32) (tm : Nat → Int32) (pt : Nat → Int32) (sm : Nat → Int32) (tl : Nat → Int32) (x : Int32) (nb : Nat) (nc : Nat) (hq : q + 9 ≤ N) (hqb : q + 9 ≤ b ∨ b + 11 ≤ q) (hQ : ScF ad cI F q b tm pt sm tl) (hb : b + 11 ≤ N) (hF : StF ad cI F b g t) (hg : g 1 = nI nb) (hnb : nb < 2 ^ 31) (hc : c_cl g = nI nc) (hnc : nc < 2 ^ 31) : Cv l D cI cB cS ad N yX4_sumUp cX4_sumUp 7 3 65 [.ref (ad q), .int x] F (fun F' => ScF ad cI F' q b (tm) (pt) (sc_sum g t pt sm x nc) (tl) ∧ Fr F F' q (q + 9)) := by
  refine x_metv (by decide +kernel) (Nat.le_of_ble_eq_true rfl) ?_
  intro p e s m below meth c X hr hlk hK hw ls hl
  replace hl : lv_has ls 7 [(0, .ref (ad q)), (1, .int x)] := hl
  have hfr : Fr F F (q) (q + 9) := Fr.rf
  refine lv_iconst (v := nI 0) X.1 X.2.1 dX4_sumUp_0 (by decide) ?_
  refine lv_istore_n (lv' := [(2, .int (nI 0)), (0, .ref (ad q)), (1, .int x)]) X.1 X.2.1 dX4_sumUp_1 rfl hl (by decide) rfl (fun ls hl => ?_)
  refine lv_bipush (v := (-5)) X.1 X.2.1 dX4_sumUp_2 (by decide) ?_
  refine lv_istore_n (lv' := [(3, .int ((-5))), (2, .int (nI 0)), (0, .ref (ad q)), (1, .int x)]) X.1 X.2.1 dX4_sumUp_4 rfl hl (by decide) rfl (fun ls hl => ?_)
  refine lv_iconst (v := nI 0) X.1 X.2.1 dX4_sumUp_5 (by decide) ?_
  refine lv_istore (lv' := [(4, .int (nI 0)), (3, .int ((-5))), (2, .int (nI 0)), (0, .ref (ad q)), (1, .int x)]) X.1 X.2.1 dX4_sumUp_6 hl (by decide) rfl (fun ls hl => ?_)
  refine lv_iconst (v := nI 0) X.1 X.2.1 dX4_sumUp_8 (by decide) ?_
  refine lv_istore (lv' := [(5, .int (nI 0)), (4, .int (nI 0)), (3, .int ((-5))), (2, .int (nI 0)), (0, .ref (ad q)), (1, .int x)]) X.1 X.2.1 dX4_sumUp_9 hl (by decide) rfl (fun ls hl => ?_)
  refine lv_iconst (v := nI 0) X.1 X.2.1 dX4_sumUp_11 (by decide) ?_
  refine lv_istore (lv' := [(6, .int (nI 0)), (5, .int (nI 0)), (4, .int (nI 0)), (3, .int ((-5))), (2, .int (nI 0)), (0, .ref (ad q)), (1, .int x)]) X.1 X.2.1 dX4_sumUp_12 hl (by decide) rfl (fun ls hl => ?_)
  have loop : ∀ (fu : Nat) (i : Nat) (y2 : Int32) (y3 : Int32) (y4 : Int32) (y5 : Int32) (hfu : i + fu = nc) (he : (y2, y3, y4, y5) = sc_su pt x i) (H : Heap) (locs : List Loc) (hw : HW D (Af ad N s.heap.size) ad N F s H locs) (ls : Array Slot) (hl : lv_has ls 7 [(6, .int (nI i)), (2, .int y2), (3, .int y3), (4, .int y4), (5, .int y5), (0, .ref (ad q)), (1, .int x)]), W p l e { frames := 3, cells := 0, slots := 0, locals := 65 } s m [.ref (ad q), .int x].toArray below meth c H locs 0 0 (MQ below (va_Qv (fun F' => ScF ad cI F' q b (tm) (pt) (sc_sum g t pt sm x nc) (tl) ∧ Fr F F' q (q + 9)) (fun F' t => PO D ad N F' t) (Af ad N s.heap.size)) [.ref (ad q), .int x].toArray s 0 0 (Af ad N s.heap.size)) (F0 m 14 ls []) := by
    intro fu
    induction fu with
    | zero =>
      intro i y2 y3 y4 y5 hfu he H locs hw ls hl
      refine lv_iload X.1 X.2.1 dX4_sumUp_14 (lv_at hl 0 rfl) ?_
      refine lv_aload_n X.1 X.2.1 dX4_sumUp_16 rfl (lv_at hl 5 rfl) ?_
      refine x_get X hK hw (C := RX4) (T := TX4) (nf := 5) (k := q) (by omega) hQ.1 rfl inX4 0 (by decide) q141 (fun _ h9 => h9) rfl dX4_sumUp_17 ?_
      refine x_callVP X hK hw (k := b) (As := []) (rest := [.int (nI i)]) (k_X5_closedRaces hI b g t (by omega) hF) (x_cwV yX5_closedRaces cX5_closedRaces 1 (some .int) 0 X q764 q727 q728 q2 q729 hd_X5_closedRaces ⟨Nat.le_of_ble_eq_true rfl, Nat.le_of_ble_eq_true rfl⟩) (by omega) hF.1 rfl rfl hl.1 rfl (Nat.le_of_ble_eq_true rfl) dX4_sumUp_20 ⟨Nat.le_of_ble_eq_true rfl, Nat.le_of_ble_eq_true rfl⟩ (fun H locs hw => ?_)
      refine lv_icmp_ge (tgt := 63) X.1 X.2.1 dX4_sumUp_23 (by decide) (fun c1 => ?_) (fun c1 => ?_)
      · refine lv_aload_n X.1 X.2.1 dX4_sumUp_63 rfl (lv_at hl 5 rfl) ?_
        refine x_callVP X hK hw (k := q) (As := []) (rest := []) (k_X4_isDropping hI q b g t tm pt sm tl nb (by omega) (by omega) hQ (by omega) hF hg hnb) (x_cwV yX4_isDropping cX4_isDropping 2 (some .boolean) 0 X q774 q776 qs15 q7 q777 hd_X4_isDropping ⟨Nat.le_of_ble_eq_true rfl, Nat.le_of_ble_eq_true rfl⟩) (by omega) hQ.1 rfl rfl hl.1 rfl (Nat.le_of_ble_eq_true rfl) dX4_sumUp_64 ⟨Nat.le_of_ble_eq_true rfl, Nat.le_of_ble_eq_true rfl⟩ (fun H locs hw => ?_)
        refine lv_istore (lv' := [(6, .int (bI (decide (¬ tg 1 3 (t 1) (nI 2) (nI 0) = 0 ∧ ¬ c_cl g < tg 1 3 (t 1) (nI 2) (nI 0))))), (2, .int y2), (3, .int y3), (4, .int y4), (5, .int y5), (0, .ref (ad q)), (1, .int x)]) X.1 X.2.1 dX4_sumUp_67 hl (by decide) rfl (fun ls hl => ?_)
        refine lv_aload_n X.1 X.2.1 dX4_sumUp_69 rfl (lv_at hl 5 rfl) ?_
        refine x_get X hK hw (C := RX4) (T := TX4) (nf := 5) (k := q) (by omega) hQ.1 rfl inX4 3 (by decide) q144 (fun _ h9 => h9) rfl dX4_sumUp_70 ?_
        refine lv_iload_n X.1 X.2.1 dX4_sumUp_73 rfl (lv_at hl 6 rfl) ?_
        refine lv_iconst (v := nI 0) X.1 X.2.1 dX4_sumUp_74 (by decide) ?_
        refine lv_iload_n X.1 X.2.1 dX4_sumUp_75 rfl (lv_at hl 1 rfl) ?_
        refine x_callVv X hK hw (k := (q + 5)) (As := [.int x, .int (nI 0), .int y2]) (rest := []) (k_X6_put hI ((q + 5)) 4 36 sm x (nI 0) y2 (by omega) (by omega) hQ.2.2.2.1) (x_cwV yX6_put cX6_put 5 none 3 X q741 q54 q55 q3 q56 hd_X6_put ⟨Nat.le_of_ble_eq_true rfl, Nat.le_of_ble_eq_true rfl⟩) (by omega) hQ.2.2.2.1.1 rfl rfl hl.1 rfl (Nat.le_of_ble_eq_true rfl) dX4_sumUp_76 ⟨Nat.le_of_ble_eq_true rfl, Nat.le_of_ble_eq_true rfl⟩ (fun F2 H locs hp hw => ?_)
        obtain ⟨hT3, hr4⟩ := hp
        have hF5 := hQ.tb2 hT3 hr4
        have hq6 := hF.cg hr4 (by omega)
        replace hfr := hfr.tr hr4 (by omega) (by omega)
        refine lv_aload_n X.1 X.2.1 dX4_sumUp_79 rfl (lv_at hl 5 rfl) ?_
        refine x_get X hK hw (C := RX4) (T := TX4) (nf := 5) (k := q) (by omega) hF5.1 rfl inX4 3 (by decide) q144 (fun _ h9 => h9) rfl dX4_sumUp_80 ?_
        refine lv_iload_n X.1 X.2.1 dX4_sumUp_83 rfl (lv_at hl 6 rfl) ?_
        refine lv_iconst (v := nI 1) X.1 X.2.1 dX4_sumUp_84 (by decide) ?_
        refine lv_iload X.1 X.2.1 dX4_sumUp_85 (lv_at hl 0 rfl) ?_
        refine lv_if_eq (tgt := 97) X.1 X.2.1 dX4_sumUp_87 (by decide) (fun c7 => ?_) (fun c7 => ?_)
        · replace c7 := bI_z c7
          refine lv_iload_n X.1 X.2.1 dX4_sumUp_97 rfl (lv_at hl 1 rfl) ?_
          refine x_callVv X hK hw (k := (q + 5)) (As := [.int x, .int (nI 1), .int y2]) (rest := []) (k_X6_put hI ((q + 5)) 4 36 ((tp 4 36 sm x (nI 0) y2)) x (nI 1) y2 (by omega) (by omega) hF5.2.2.2.1) (x_cwV yX6_put cX6_put 5 none 3 X q741 q54 q55 q3 q56 hd_X6_put ⟨Nat.le_of_ble_eq_true rfl, Nat.le_of_ble_eq_true rfl⟩) (by omega) hF5.2.2.2.1.1 rfl rfl hl.1 rfl (Nat.le_of_ble_eq_true rfl) dX4_sumUp_98 ⟨Nat.le_of_ble_eq_true rfl, Nat.le_of_ble_eq_true rfl⟩ (fun F8 H locs hp hw => ?_)
          obtain ⟨hT9, hr10⟩ := hp
          have hF11 := hF5.tb2 hT9 hr10
          have hq12 := hq6.cg hr10 (by omega)
          replace hfr := hfr.tr hr10 (by omega) (by omega)
          refine lv_aload_n X.1 X.2.1 dX4_sumUp_101 rfl (lv_at hl 5 rfl) ?_
          refine x_get X hK hw (C := RX4) (T := TX4) (nf := 5) (k := q) (by omega) hF11.1 rfl inX4 3 (by decide) q144 (fun _ h9 => h9) rfl dX4_sumUp_102 ?_
          refine lv_iload_n X.1 X.2.1 dX4_sumUp_105 rfl (lv_at hl 6 rfl) ?_
          refine lv_iconst (v := nI 2) X.1 X.2.1 dX4_sumUp_106 (by decide) ?_
          refine lv_iload X.1 X.2.1 dX4_sumUp_107 (lv_at hl 0 rfl) ?_
          refine lv_if_eq (tgt := 116) X.1 X.2.1 dX4_sumUp_109 (by decide) (fun c13 => ?_) (fun c13 => ?_)
          · replace c13 := bI_z c13
            refine lv_bipush (v := (-5)) X.1 X.2.1 dX4_sumUp_116 (by decide) ?_
            refine x_callVv X hK hw (k := (q + 5)) (As := [.int x, .int (nI 2), .int ((-5))]) (rest := []) (k_X6_put hI ((q + 5)) 4 36 ((tp 4 36 ((tp 4 36 sm x (nI 0) y2)) x (nI 1) y2)) x (nI 2) ((-5)) (by omega) (by omega) hF11.2.2.2.1) (x_cwV yX6_put cX6_put 5 none 3 X q741 q54 q55 q3 q56 hd_X6_put ⟨Nat.le_of_ble_eq_true rfl, Nat.le_of_ble_eq_true rfl⟩) (by omega) hF11.2.2.2.1.1 rfl rfl hl.1 rfl (Nat.le_of_ble_eq_true rfl) dX4_sumUp_118 ⟨Nat.le_of_ble_eq_true rfl, Nat.le_of_ble_eq_true rfl⟩ (fun F14 H locs hp hw => ?_)
            obtain ⟨hT15, hr16⟩ := hp
            have hF17 := hF11.tb2 hT15 hr16
            have hq18 := hq12.cg hr16 (by omega)
            replace hfr := hfr.tr hr16 (by omega) (by omega)
            refine lv_aload_n X.1 X.2.1 dX4_sumUp_121 rfl (lv_at hl 5 rfl) ?_
            refine x_get X hK hw (C := RX4) (T := TX4) (nf := 5) (k := q) (by omega) hF17.1 rfl inX4 3 (by decide) q144 (fun _ h9 => h9) rfl dX4_sumUp_122 ?_
            refine lv_iload_n X.1 X.2.1 dX4_sumUp_125 rfl (lv_at hl 6 rfl) ?_
            refine lv_iconst (v := nI 3) X.1 X.2.1 dX4_sumUp_126 (by decide) ?_
            refine lv_iload X.1 X.2.1 dX4_sumUp_127 (lv_at hl 4 rfl) ?_
            refine x_callVv X hK hw (k := (q + 5)) (As := [.int x, .int (nI 3), .int y5]) (rest := []) (k_X6_put hI ((q + 5)) 4 36 ((tp 4 36 ((tp 4 36 ((tp 4 36 sm x (nI 0) y2)) x (nI 1) y2)) x (nI 2) ((-5)))) x (nI 3) y5 (by omega) (by omega) hF17.2.2.2.1) (x_cwV yX6_put cX6_put 5 none 3 X q741 q54 q55 q3 q56 hd_X6_put ⟨Nat.le_of_ble_eq_true rfl, Nat.le_of_ble_eq_true rfl⟩) (by omega) hF17.2.2.2.1.1 rfl rfl hl.1 rfl (Nat.le_of_ble_eq_true rfl) dX4_sumUp_129 ⟨Nat.le_of_ble_eq_true rfl, Nat.le_of_ble_eq_true rfl⟩ (fun F19 H locs hp hw => ?_)
            obtain ⟨hT20, hr21⟩ := hp
            have hF22 := hF17.tb2 hT20 hr21
            have hq23 := hq18.cg hr21 (by omega)
            replace hfr := hfr.tr hr21 (by omega) (by omega)
            exact x_vret X hr hlk hK hw (⟨by have h := hF22; rw [show i = nc by omega] at he; rw [sc_sum, ← he, if_neg c7, if_neg c7]; exact h, hfr⟩) dX4_sumUp_132
          · replace c13 := bI_nz c13
            refine lv_iload_n X.1 X.2.1 dX4_sumUp_112 rfl (lv_at hl 2 rfl) ?_
            refine lv_goto (tgt := 118) X.1 X.2.1 dX4_sumUp_113 (by decide) ?_
            refine x_callVv X hK hw (k := (q + 5)) (As := [.int x, .int (nI 2), .int y3]) (rest := []) (k_X6_put hI ((q + 5)) 4 36 ((tp 4 36 ((tp 4 36 sm x (nI 0) y2)) x (nI 1) y2)) x (nI 2) y3 (by omega) (by omega) hF11.2.2.2.1) (x_cwV yX6_put cX6_put 5 none 3 X q741 q54 q55 q3 q56 hd_X6_put ⟨Nat.le_of_ble_eq_true rfl, Nat.le_of_ble_eq_true rfl⟩) (by omega) hF11.2.2.2.1.1 rfl rfl hl.1 rfl (Nat.le_of_ble_eq_true rfl) dX4_sumUp_118 ⟨Nat.le_of_ble_eq_true rfl, Nat.le_of_ble_eq_true rfl⟩ (fun F24 H locs hp hw => ?_)
            obtain ⟨hT25, hr26⟩ := hp
            have hF27 := hF11.tb2 hT25 hr26
            have hq28 := hq12.cg hr26 (by omega)
            replace hfr := hfr.tr hr26 (by omega) (by omega)
            refine lv_aload_n X.1 X.2.1 dX4_sumUp_121 rfl (lv_at hl 5 rfl) ?_
            refine x_get X hK hw (C := RX4) (T := TX4) (nf := 5) (k := q) (by omega) hF27.1 rfl inX4 3 (by decide) q144 (fun _ h9 => h9) rfl dX4_sumUp_122 ?_
            refine lv_iload_n X.1 X.2.1 dX4_sumUp_125 rfl (lv_at hl 6 rfl) ?_
            refine lv_iconst (v := nI 3) X.1 X.2.1 dX4_sumUp_126 (by decide) ?_
            refine lv_iload X.1 X.2.1 dX4_sumUp_127 (lv_at hl 4 rfl) ?_
            refine x_callVv X hK hw (k := (q + 5)) (As := [.int x, .int (nI 3), .int y5]) (rest := []) (k_X6_put hI ((q + 5)) 4 36 ((tp 4 36 ((tp 4 36 ((tp 4 36 sm x (nI 0) y2)) x (nI 1) y2)) x (nI 2) y3)) x (nI 3) y5 (by omega) (by omega) hF27.2.2.2.1) (x_cwV yX6_put cX6_put 5 none 3 X q741 q54 q55 q3 q56 hd_X6_put ⟨Nat.le_of_ble_eq_true rfl, Nat.le_of_ble_eq_true rfl⟩) (by omega) hF27.2.2.2.1.1 rfl rfl hl.1 rfl (Nat.le_of_ble_eq_true rfl) dX4_sumUp_129 ⟨Nat.le_of_ble_eq_true rfl, Nat.le_of_ble_eq_true rfl⟩ (fun F29 H locs hp hw => ?_)
            obtain ⟨hT30, hr31⟩ := hp
            have hF32 := hF27.tb2 hT30 hr31
            have hq33 := hq28.cg hr31 (by omega)
            replace hfr := hfr.tr hr31 (by omega) (by omega)
            exact x_vret X hr hlk hK hw (absurd c13 c7) dX4_sumUp_132
        · replace c7 := bI_nz c7
          refine lv_iload_n X.1 X.2.1 dX4_sumUp_90 rfl (lv_at hl 1 rfl) ?_
          refine lv_iload X.1 X.2.1 dX4_sumUp_91 (lv_at hl 3 rfl) ?_
          refine lv_isub X.1 X.2.1 dX4_sumUp_93 ?_
          refine lv_goto (tgt := 98) X.1 X.2.1 dX4_sumUp_94 (by decide) ?_
          refine x_callVv X hK hw (k := (q + 5)) (As := [.int x, .int (nI 1), .int (y2 - y4)]) (rest := []) (k_X6_put hI ((q + 5)) 4 36 ((tp 4 36 sm x (nI 0) y2)) x (nI 1) (y2 - y4) (by omega) (by omega) hF5.2.2.2.1) (x_cwV yX6_put cX6_put 5 none 3 X q741 q54 q55 q3 q56 hd_X6_put ⟨Nat.le_of_ble_eq_true rfl, Nat.le_of_ble_eq_true rfl⟩) (by omega) hF5.2.2.2.1.1 rfl rfl hl.1 rfl (Nat.le_of_ble_eq_true rfl) dX4_sumUp_98 ⟨Nat.le_of_ble_eq_true rfl, Nat.le_of_ble_eq_true rfl⟩ (fun F34 H locs hp hw => ?_)
          obtain ⟨hT35, hr36⟩ := hp
          have hF37 := hF5.tb2 hT35 hr36
          have hq38 := hq6.cg hr36 (by omega)
          replace hfr := hfr.tr hr36 (by omega) (by omega)
          refine lv_aload_n X.1 X.2.1 dX4_sumUp_101 rfl (lv_at hl 5 rfl) ?_
          refine x_get X hK hw (C := RX4) (T := TX4) (nf := 5) (k := q) (by omega) hF37.1 rfl inX4 3 (by decide) q144 (fun _ h9 => h9) rfl dX4_sumUp_102 ?_
          refine lv_iload_n X.1 X.2.1 dX4_sumUp_105 rfl (lv_at hl 6 rfl) ?_
          refine lv_iconst (v := nI 2) X.1 X.2.1 dX4_sumUp_106 (by decide) ?_
          refine lv_iload X.1 X.2.1 dX4_sumUp_107 (lv_at hl 0 rfl) ?_
          refine lv_if_eq (tgt := 116) X.1 X.2.1 dX4_sumUp_109 (by decide) (fun c39 => ?_) (fun c39 => ?_)
          · replace c39 := bI_z c39
            refine lv_bipush (v := (-5)) X.1 X.2.1 dX4_sumUp_116 (by decide) ?_
            refine x_callVv X hK hw (k := (q + 5)) (As := [.int x, .int (nI 2), .int ((-5))]) (rest := []) (k_X6_put hI ((q + 5)) 4 36 ((tp 4 36 ((tp 4 36 sm x (nI 0) y2)) x (nI 1) (y2 - y4))) x (nI 2) ((-5)) (by omega) (by omega) hF37.2.2.2.1) (x_cwV yX6_put cX6_put 5 none 3 X q741 q54 q55 q3 q56 hd_X6_put ⟨Nat.le_of_ble_eq_true rfl, Nat.le_of_ble_eq_true rfl⟩) (by omega) hF37.2.2.2.1.1 rfl rfl hl.1 rfl (Nat.le_of_ble_eq_true rfl) dX4_sumUp_118 ⟨Nat.le_of_ble_eq_true rfl, Nat.le_of_ble_eq_true rfl⟩ (fun F40 H locs hp hw => ?_)
            obtain ⟨hT41, hr42⟩ := hp
            have hF43 := hF37.tb2 hT41 hr42
            have hq44 := hq38.cg hr42 (by omega)
            replace hfr := hfr.tr hr42 (by omega) (by omega)
            refine lv_aload_n X.1 X.2.1 dX4_sumUp_121 rfl (lv_at hl 5 rfl) ?_
            refine x_get X hK hw (C := RX4) (T := TX4) (nf := 5) (k := q) (by omega) hF43.1 rfl inX4 3 (by decide) q144 (fun _ h9 => h9) rfl dX4_sumUp_122 ?_
            refine lv_iload_n X.1 X.2.1 dX4_sumUp_125 rfl (lv_at hl 6 rfl) ?_
            refine lv_iconst (v := nI 3) X.1 X.2.1 dX4_sumUp_126 (by decide) ?_
            refine lv_iload X.1 X.2.1 dX4_sumUp_127 (lv_at hl 4 rfl) ?_
            refine x_callVv X hK hw (k := (q + 5)) (As := [.int x, .int (nI 3), .int y5]) (rest := []) (k_X6_put hI ((q + 5)) 4 36 ((tp 4 36 ((tp 4 36 ((tp 4 36 sm x (nI 0) y2)) x (nI 1) (y2 - y4))) x (nI 2) ((-5)))) x (nI 3) y5 (by omega) (by omega) hF43.2.2.2.1) (x_cwV yX6_put cX6_put 5 none 3 X q741 q54 q55 q3 q56 hd_X6_put ⟨Nat.le_of_ble_eq_true rfl, Nat.le_of_ble_eq_true rfl⟩) (by omega) hF43.2.2.2.1.1 rfl rfl hl.1 rfl (Nat.le_of_ble_eq_true rfl) dX4_sumUp_129 ⟨Nat.le_of_ble_eq_true rfl, Nat.le_of_ble_eq_true rfl⟩ (fun F45 H locs hp hw => ?_)
            obtain ⟨hT46, hr47⟩ := hp
            have hF48 := hF43.tb2 hT46 hr47
            have hq49 := hq44.cg hr47 (by omega)
            replace hfr := hfr.tr hr47 (by omega) (by omega)
            exact x_vret X hr hlk hK hw (absurd c7 c39) dX4_sumUp_132
          · replace c39 := bI_nz c39
            refine lv_iload_n X.1 X.2.1 dX4_sumUp_112 rfl (lv_at hl 2 rfl) ?_
            refine lv_goto (tgt := 118) X.1 X.2.1 dX4_sumUp_113 (by decide) ?_
            refine x_callVv X hK hw (k := (q + 5)) (As := [.int x, .int (nI 2), .int y3]) (rest := []) (k_X6_put hI ((q + 5)) 4 36 ((tp 4 36 ((tp 4 36 sm x (nI 0) y2)) x (nI 1) (y2 - y4))) x (nI 2) y3 (by omega) (by omega) hF37.2.2.2.1) (x_cwV yX6_put cX6_put 5 none 3 X q741 q54 q55 q3 q56 hd_X6_put ⟨Nat.le_of_ble_eq_true rfl, Nat.le_of_ble_eq_true rfl⟩) (by omega) hF37.2.2.2.1.1 rfl rfl hl.1 rfl (Nat.le_of_ble_eq_true rfl) dX4_sumUp_118 ⟨Nat.le_of_ble_eq_true rfl, Nat.le_of_ble_eq_true rfl⟩ (fun F50 H locs hp hw => ?_)
            obtain ⟨hT51, hr52⟩ := hp
            have hF53 := hF37.tb2 hT51 hr52
            have hq54 := hq38.cg hr52 (by omega)
            replace hfr := hfr.tr hr52 (by omega) (by omega)
            refine lv_aload_n X.1 X.2.1 dX4_sumUp_121 rfl (lv_at hl 5 rfl) ?_
            refine x_get X hK hw (C := RX4) (T := TX4) (nf := 5) (k := q) (by omega) hF53.1 rfl inX4 3 (by decide) q144 (fun _ h9 => h9) rfl dX4_sumUp_122 ?_
            refine lv_iload_n X.1 X.2.1 dX4_sumUp_125 rfl (lv_at hl 6 rfl) ?_
            refine lv_iconst (v := nI 3) X.1 X.2.1 dX4_sumUp_126 (by decide) ?_
            refine lv_iload X.1 X.2.1 dX4_sumUp_127 (lv_at hl 4 rfl) ?_
            refine x_callVv X hK hw (k := (q + 5)) (As := [.int x, .int (nI 3), .int y5]) (rest := []) (k_X6_put hI ((q + 5)) 4 36 ((tp 4 36 ((tp 4 36 ((tp 4 36 sm x (nI 0) y2)) x (nI 1) (y2 - y4))) x (nI 2) y3)) x (nI 3) y5 (by omega) (by omega) hF53.2.2.2.1) (x_cwV yX6_put cX6_put 5 none 3 X q741 q54 q55 q3 q56 hd_X6_put ⟨Nat.le_of_ble_eq_true rfl, Nat.le_of_ble_eq_true rfl⟩) (by omega) hF53.2.2.2.1.1 rfl rfl hl.1 rfl (Nat.le_of_ble_eq_true rfl) dX4_sumUp_129 ⟨Nat.le_of_ble_eq_true rfl, Nat.le_of_ble_eq_true rfl⟩ (fun F55 H locs hp hw => ?_)
            obtain ⟨hT56, hr57⟩ := hp
            have hF58 := hF53.tb2 hT56 hr57
            have hq59 := hq54.cg hr57 (by omega)
            replace hfr := hfr.tr hr57 (by omega) (by omega)
            exact x_vret X hr hlk hK hw (⟨by have h := hF58; rw [show i = nc by omega] at he; rw [sc_sum, ← he, if_pos c7, if_pos c7]; exact h, hfr⟩) dX4_sumUp_132
      · exact absurd (by rw [hc]; exact nI_le (by omega) (by omega)) c1
    | succ fu ih =>
      intro i y2 y3 y4 y5 hfu he H locs hw ls hl
      refine lv_iload X.1 X.2.1 dX4_sumUp_14 (lv_at hl 0 rfl) ?_
      refine lv_aload_n X.1 X.2.1 dX4_sumUp_16 rfl (lv_at hl 5 rfl) ?_
      refine x_get X hK hw (C := RX4) (T := TX4) (nf := 5) (k := q) (by omega) hQ.1 rfl inX4 0 (by decide) q141 (fun _ h9 => h9) rfl dX4_sumUp_17 ?_
      refine x_callVP X hK hw (k := b) (As := []) (rest := [.int (nI i)]) (k_X5_closedRaces hI b g t (by omega) hF) (x_cwV yX5_closedRaces cX5_closedRaces 1 (some .int) 0 X q764 q727 q728 q2 q729 hd_X5_closedRaces ⟨Nat.le_of_ble_eq_true rfl, Nat.le_of_ble_eq_true rfl⟩) (by omega) hF.1 rfl rfl hl.1 rfl (Nat.le_of_ble_eq_true rfl) dX4_sumUp_20 ⟨Nat.le_of_ble_eq_true rfl, Nat.le_of_ble_eq_true rfl⟩ (fun H locs hw => ?_)
      refine lv_icmp_ge (tgt := 63) X.1 X.2.1 dX4_sumUp_23 (by decide) (fun c60 => ?_) (fun c60 => ?_)
      · exact absurd c60 (by rw [hc]; exact nI_ge (by omega) (by omega))
      · refine lv_aload_n X.1 X.2.1 dX4_sumUp_26 rfl (lv_at hl 5 rfl) ?_
        refine x_get X hK hw (C := RX4) (T := TX4) (nf := 5) (k := q) (by omega) hQ.1 rfl inX4 2 (by decide) q143 (fun _ h9 => h9) rfl dX4_sumUp_27 ?_
        refine lv_iload X.1 X.2.1 dX4_sumUp_30 (lv_at hl 0 rfl) ?_
        refine lv_iload_n X.1 X.2.1 dX4_sumUp_32 rfl (lv_at hl 6 rfl) ?_
        refine x_callVP X hK hw (k := (q + 3)) (As := [.int (nI i), .int x]) (rest := []) (k_X6_get hI ((q + 3)) 9 54 pt (nI i) x (by omega) (by omega) hQ.2.2.1) (x_cwV yX6_get cX6_get 4 (some .int) 2 X q739 q327 q328 q3 q329 hd_X6_get ⟨Nat.le_of_ble_eq_true rfl, Nat.le_of_ble_eq_true rfl⟩) (by omega) hQ.2.2.1.1 rfl rfl hl.1 rfl (Nat.le_of_ble_eq_true rfl) dX4_sumUp_33 ⟨Nat.le_of_ble_eq_true rfl, Nat.le_of_ble_eq_true rfl⟩ (fun H locs hw => ?_)
        refine lv_istore (lv' := [(5, .int (tg 9 54 pt (nI i) x)), (6, .int (nI i)), (2, .int y2), (3, .int y3), (4, .int y4), (0, .ref (ad q)), (1, .int x)]) X.1 X.2.1 dX4_sumUp_36 hl (by decide) rfl (fun ls hl => ?_)
        refine lv_iload_n X.1 X.2.1 dX4_sumUp_38 rfl (lv_at hl 2 rfl) ?_
        refine lv_iload X.1 X.2.1 dX4_sumUp_39 (lv_at hl 0 rfl) ?_
        refine lv_iadd X.1 X.2.1 dX4_sumUp_41 ?_
        refine lv_istore_n (lv' := [(2, .int (y2 + (tg 9 54 pt (nI i) x))), (5, .int (tg 9 54 pt (nI i) x)), (6, .int (nI i)), (3, .int y3), (4, .int y4), (0, .ref (ad q)), (1, .int x)]) X.1 X.2.1 dX4_sumUp_42 rfl hl (by decide) rfl (fun ls hl => ?_)
        refine lv_iload X.1 X.2.1 dX4_sumUp_43 (lv_at hl 1 rfl) ?_
        refine lv_iload X.1 X.2.1 dX4_sumUp_45 (lv_at hl 4 rfl) ?_
        refine lv_icmp_lt (tgt := 57) X.1 X.2.1 dX4_sumUp_47 (by decide) (fun c61 => ?_) (fun c61 => ?_)
        · refine lv_iinc (v := nI (i + 1)) (lv' := [(6, .int (nI (i + 1))), (2, .int (y2 + (tg 9 54 pt (nI i) x))), (5, .int (tg 9 54 pt (nI i) x)), (3, .int y3), (4, .int y4), (0, .ref (ad q)), (1, .int x)]) X.1 X.2.1 dX4_sumUp_57 hl (k := 2) rfl (by first | exact nI_1 _ | exact nI_add _ _ | rfl) (by decide) rfl (fun ls hl => ?_)
          refine lv_goto (tgt := 14) X.1 X.2.1 dX4_sumUp_60 (by decide) ?_
          exact ih (i + 1) (y2 + (tg 9 54 pt (nI i) x)) y3 y4 (tg 9 54 pt (nI i) x) (by omega) (by rw [sc_su, ← he]; exact (if_pos c61).symm) _ _ hw _ (lv_sub hl [0, 1, 3, 4, 2, 5, 6] rfl)
        · refine lv_iload X.1 X.2.1 dX4_sumUp_50 (lv_at hl 1 rfl) ?_
          refine lv_istore (lv' := [(4, .int (tg 9 54 pt (nI i) x)), (2, .int (y2 + (tg 9 54 pt (nI i) x))), (5, .int (tg 9 54 pt (nI i) x)), (6, .int (nI i)), (3, .int y3), (0, .ref (ad q)), (1, .int x)]) X.1 X.2.1 dX4_sumUp_52 hl (by decide) rfl (fun ls hl => ?_)
          refine lv_iload X.1 X.2.1 dX4_sumUp_54 (lv_at hl 3 rfl) ?_
          refine lv_istore_n (lv' := [(3, .int (nI i)), (4, .int (tg 9 54 pt (nI i) x)), (2, .int (y2 + (tg 9 54 pt (nI i) x))), (5, .int (tg 9 54 pt (nI i) x)), (6, .int (nI i)), (0, .ref (ad q)), (1, .int x)]) X.1 X.2.1 dX4_sumUp_56 rfl hl (by decide) rfl (fun ls hl => ?_)
          refine lv_iinc (v := nI (i + 1)) (lv' := [(6, .int (nI (i + 1))), (3, .int (nI i)), (4, .int (tg 9 54 pt (nI i) x)), (2, .int (y2 + (tg 9 54 pt (nI i) x))), (5, .int (tg 9 54 pt (nI i) x)), (0, .ref (ad q)), (1, .int x)]) X.1 X.2.1 dX4_sumUp_57 hl (k := 4) rfl (by first | exact nI_1 _ | exact nI_add _ _ | rfl) (by decide) rfl (fun ls hl => ?_)
          refine lv_goto (tgt := 14) X.1 X.2.1 dX4_sumUp_60 (by decide) ?_
          exact ih (i + 1) (y2 + (tg 9 54 pt (nI i) x)) (nI i) (tg 9 54 pt (nI i) x) (tg 9 54 pt (nI i) x) (by omega) (by rw [sc_su, ← he]; exact (if_neg c61).symm) _ _ hw _ (lv_sub hl [0, 3, 1, 2, 4, 5, 6] rfl)
  exact loop nc 0 (nI 0) ((-5)) (nI 0) (nI 0) (by omega) rfl _ _ hw _ (lv_sub hl [0, 4, 3, 2, 1, 5, 6] rfl)
def sc_ct (tl : Nat → Int32) : Nat → (Nat → Int32)
  | 0 => tl
  | i + 1 => tcl 10 90 (sc_ct tl i) (nI i) 10
def sc_r2 (g : Nat → Int32) (t : Nat → Nat → Int32) (nb : Nat) (tm pt tl : Nat → Int32) : Nat → (Nat → Int32) × (Nat → Int32) × (Nat → Int32)
  | 0 => (tm, pt, tl)
  | i + 1 => (sc_rt t (nI i) (sc_r2 g t nb tm pt tl i).1 nb, (sc_rr g t (nI i) (sc_rt t (nI i) (sc_r2 g t nb tm pt tl i).1 nb) nb (sc_r2 g t nb tm pt tl i).2.1 (sc_r2 g t nb tm pt tl i).2.2 nb).1, (sc_rr g t (nI i) (sc_rt t (nI i) (sc_r2 g t nb tm pt tl i).1 nb) nb (sc_r2 g t nb tm pt tl i).2.1 (sc_r2 g t nb tm pt tl i).2.2 nb).2)
def sc_s3 (g : Nat → Int32) (t : Nat → Nat → Int32) (pt : Nat → Int32) (nc : Nat) (sm : Nat → Int32) : Nat → (Nat → Int32)
  | 0 => sm
  | i + 1 => sc_sum g t pt (sc_s3 g t pt nc sm i) (nI i) nc
theorem hd_X4_recountRace : yX4_recountRace.cls = RX4 ∧ yX4_recountRace.cls ≠ "java/lang/invoke/MethodHandle" ∧ yX4_recountRace.cls ≠ "java/lang/invoke/VarHandle" ∧ (parseMethodDescriptor yX4_recountRace.desc).map (fun d => d.parameters.length) = some 1 := by decide +kernel
theorem hd_X4_sumUp : yX4_sumUp.cls = RX4 ∧ yX4_sumUp.cls ≠ "java/lang/invoke/MethodHandle" ∧ yX4_sumUp.cls ≠ "java/lang/invoke/VarHandle" ∧ (parseMethodDescriptor yX4_sumUp.desc).map (fun d => d.parameters.length) = some 1 := by decide +kernel
set_option maxHeartbeats 4000000 in
set_option maxRecDepth 100000 in
theorem k_X4_recount {l : Launch} {D : va_G} {cI cB cS : ClassId} {ad : Nat → Nat} {N : Nat} {F : Nat → va_E} (hI : iN ad N) (q : Nat) (b : Nat) (g : Nat → Int32) (t : Nat → Nat → Int32) (tm : Nat → Int32) (pt : Nat → Int32) (sm : Nat → Int32) (tl : Nat → Int32) (nb : Nat) (nc : Nat) (hq : q + 9 ≤ N) (hqb : q + 9 ≤ b ∨ b + 11 ≤ q) (hQ : ScF ad cI F q b tm pt sm tl) (hb : b + 11 ≤ N) (hF : StF ad cI F b g t) (hg : g 1 = nI nb) (hnb : nb < 2 ^ 31) (hc : c_cl g = nI nc) (hnc : nc < 2 ^ 31) : Cv l D cI cB cS ad N yX4_recount cX4_recount 2 5 116 [.ref (ad q)] F (fun F' => ScF ad cI F' q b ((sc_r2 g t nb tm pt (sc_ct tl nb) nc).1) ((sc_r2 g t nb tm pt (sc_ct tl nb) nc).2.1) (sc_s3 g t (sc_r2 g t nb tm pt (sc_ct tl nb) nc).2.1 nc sm nb) ((sc_r2 g t nb tm pt (sc_ct tl nb) nc).2.2) ∧ Fr F F' q (q + 9)) := by
  refine x_metv (by decide +kernel) (Nat.le_of_ble_eq_true rfl) ?_
  intro p e s m below meth c X hr hlk hK hw ls hl
  replace hl : lv_has ls 2 [(0, .ref (ad q))] := hl
  have hfr : Fr F F (q) (q + 9) := Fr.rf
  refine lv_iconst (v := nI 0) X.1 X.2.1 dX4_recount_0 (by decide) ?_
  refine lv_istore_n (lv' := [(1, .int (nI 0)), (0, .ref (ad q))]) X.1 X.2.1 dX4_recount_1 rfl hl (by decide) rfl (fun ls hl => ?_)
  have loop1 : ∀ (fu : Nat) (i : Nat) (F1 : Nat → va_E) (f1 : Nat → Int32) (hfu : i + fu = nb) (he : f1 = sc_ct tl i) (hQ : ScF ad cI F1 q b tm pt sm f1) (hF : StF ad cI F1 b g t) (hfr : Fr F F1 q (q + 9)) (H : Heap) (locs : List Loc) (hw : HW D (Af ad N s.heap.size) ad N F1 s H locs) (ls : Array Slot) (hl : lv_has ls 2 [(1, .int (nI i)), (0, .ref (ad q))]), W p l e { frames := 5, cells := 0, slots := 0, locals := 116 } s m [.ref (ad q)].toArray below meth c H locs 0 0 (MQ below (va_Qv (fun F' => ScF ad cI F' q b ((sc_r2 g t nb tm pt (sc_ct tl nb) nc).1) ((sc_r2 g t nb tm pt (sc_ct tl nb) nc).2.1) (sc_s3 g t (sc_r2 g t nb tm pt (sc_ct tl nb) nc).2.1 nc sm nb) ((sc_r2 g t nb tm pt (sc_ct tl nb) nc).2.2) ∧ Fr F F' q (q + 9)) (fun F' t => PO D ad N F' t) (Af ad N s.heap.size)) [.ref (ad q)].toArray s 0 0 (Af ad N s.heap.size)) (F0 m 2 ls []) := by
    intro fu
    induction fu with
    | zero =>
      intro i F1 f1 hfu he hQ hF hfr H locs hw ls hl
      refine lv_iload_n X.1 X.2.1 dX4_recount_2 rfl (lv_at hl 0 rfl) ?_
      refine lv_aload_n X.1 X.2.1 dX4_recount_3 rfl (lv_at hl 1 rfl) ?_
      refine x_get X hK hw (C := RX4) (T := TX4) (nf := 5) (k := q) (by omega) hQ.1 rfl inX4 0 (by decide) q141 (fun _ h9 => h9) rfl dX4_recount_4 ?_
      refine x_get X hK hw (C := RX5) (T := TX5) (nf := 10) (k := b) (by omega) hF.1 rfl inX5 1 (by decide) q62 (fun _ h9 => h9) rfl dX4_recount_7 ?_
      refine lv_icmp_ge (tgt := 27) X.1 X.2.1 dX4_recount_10 (by decide) (fun c1 => ?_) (fun c1 => ?_)
      · refine lv_iconst (v := nI 0) X.1 X.2.1 dX4_recount_27 (by decide) ?_
        refine lv_istore_n (lv' := [(1, .int (nI 0)), (0, .ref (ad q))]) X.1 X.2.1 dX4_recount_28 rfl hl (by decide) rfl (fun ls hl => ?_)
        have loop2 : ∀ (fu : Nat) (j : Nat) (F1 : Nat → va_E) (f0 : Nat → Int32) (f2 : Nat → Int32) (f3 : Nat → Int32) (hfu : j + fu = nc) (he2 : (f0, f2, f3) = sc_r2 g t nb tm pt (sc_ct tl nb) j) (hQ : ScF ad cI F1 q b f0 f2 sm f3) (hF : StF ad cI F1 b g t) (hfr : Fr F F1 q (q + 9)) (H : Heap) (locs : List Loc) (hw : HW D (Af ad N s.heap.size) ad N F1 s H locs) (ls : Array Slot) (hl : lv_has ls 2 [(1, .int (nI j)), (0, .ref (ad q))]), W p l e { frames := 5, cells := 0, slots := 0, locals := 116 } s m [.ref (ad q)].toArray below meth c H locs 0 0 (MQ below (va_Qv (fun F' => ScF ad cI F' q b ((sc_r2 g t nb tm pt (sc_ct tl nb) nc).1) ((sc_r2 g t nb tm pt (sc_ct tl nb) nc).2.1) (sc_s3 g t (sc_r2 g t nb tm pt (sc_ct tl nb) nc).2.1 nc sm nb) ((sc_r2 g t nb tm pt (sc_ct tl nb) nc).2.2) ∧ Fr F F' q (q + 9)) (fun F' t => PO D ad N F' t) (Af ad N s.heap.size)) [.ref (ad q)].toArray s 0 0 (Af ad N s.heap.size)) (F0 m 29 ls []) := by
          intro fu
          induction fu with
          | zero =>
            intro j F1 f0 f2 f3 hfu he2 hQ hF hfr H locs hw ls hl
            refine lv_iload_n X.1 X.2.1 dX4_recount_29 rfl (lv_at hl 0 rfl) ?_
            refine lv_aload_n X.1 X.2.1 dX4_recount_30 rfl (lv_at hl 1 rfl) ?_
            refine x_get X hK hw (C := RX4) (T := TX4) (nf := 5) (k := q) (by omega) hQ.1 rfl inX4 0 (by decide) q141 (fun _ h9 => h9) rfl dX4_recount_31 ?_
            refine x_callVP X hK hw (k := b) (As := []) (rest := [.int (nI j)]) (k_X5_closedRaces hI b g t (by omega) hF) (x_cwV yX5_closedRaces cX5_closedRaces 1 (some .int) 0 X q764 q727 q728 q2 q729 hd_X5_closedRaces ⟨Nat.le_of_ble_eq_true rfl, Nat.le_of_ble_eq_true rfl⟩) (by omega) hF.1 rfl rfl hl.1 rfl (Nat.le_of_ble_eq_true rfl) dX4_recount_34 ⟨Nat.le_of_ble_eq_true rfl, Nat.le_of_ble_eq_true rfl⟩ (fun H locs hw => ?_)
            refine lv_icmp_ge (tgt := 51) X.1 X.2.1 dX4_recount_37 (by decide) (fun c2 => ?_) (fun c2 => ?_)
            · refine lv_iconst (v := nI 0) X.1 X.2.1 dX4_recount_51 (by decide) ?_
              refine lv_istore_n (lv' := [(1, .int (nI 0)), (0, .ref (ad q))]) X.1 X.2.1 dX4_recount_52 rfl hl (by decide) rfl (fun ls hl => ?_)
              have loop3 : ∀ (fu : Nat) (k : Nat) (F1 : Nat → va_E) (f4 : Nat → Int32) (hfu : k + fu = nb) (he3 : f4 = sc_s3 g t (sc_r2 g t nb tm pt (sc_ct tl nb) nc).2.1 nc sm k) (hQ : ScF ad cI F1 q b (sc_r2 g t nb tm pt (sc_ct tl nb) nc).1 (sc_r2 g t nb tm pt (sc_ct tl nb) nc).2.1 f4 (sc_r2 g t nb tm pt (sc_ct tl nb) nc).2.2) (hF : StF ad cI F1 b g t) (hfr : Fr F F1 q (q + 9)) (H : Heap) (locs : List Loc) (hw : HW D (Af ad N s.heap.size) ad N F1 s H locs) (ls : Array Slot) (hl : lv_has ls 2 [(1, .int (nI k)), (0, .ref (ad q))]), W p l e { frames := 5, cells := 0, slots := 0, locals := 116 } s m [.ref (ad q)].toArray below meth c H locs 0 0 (MQ below (va_Qv (fun F' => ScF ad cI F' q b ((sc_r2 g t nb tm pt (sc_ct tl nb) nc).1) ((sc_r2 g t nb tm pt (sc_ct tl nb) nc).2.1) (sc_s3 g t (sc_r2 g t nb tm pt (sc_ct tl nb) nc).2.1 nc sm nb) ((sc_r2 g t nb tm pt (sc_ct tl nb) nc).2.2) ∧ Fr F F' q (q + 9)) (fun F' t => PO D ad N F' t) (Af ad N s.heap.size)) [.ref (ad q)].toArray s 0 0 (Af ad N s.heap.size)) (F0 m 53 ls []) := by
                intro fu
                induction fu with
                | zero =>
                  intro k F1 f4 hfu he3 hQ hF hfr H locs hw ls hl
                  refine lv_iload_n X.1 X.2.1 dX4_recount_53 rfl (lv_at hl 0 rfl) ?_
                  refine lv_aload_n X.1 X.2.1 dX4_recount_54 rfl (lv_at hl 1 rfl) ?_
                  refine x_get X hK hw (C := RX4) (T := TX4) (nf := 5) (k := q) (by omega) hQ.1 rfl inX4 0 (by decide) q141 (fun _ h9 => h9) rfl dX4_recount_55 ?_
                  refine x_get X hK hw (C := RX5) (T := TX5) (nf := 10) (k := b) (by omega) hF.1 rfl inX5 1 (by decide) q62 (fun _ h9 => h9) rfl dX4_recount_58 ?_
                  refine lv_icmp_ge (tgt := 75) X.1 X.2.1 dX4_recount_61 (by decide) (fun c3 => ?_) (fun c3 => ?_)
                  · exact x_vret X hr hlk hK hw (⟨by have h := hQ; rw [he3, show k = nb by omega] at h; exact h, hfr⟩) dX4_recount_75
                  · exact absurd (by rw [hg]; exact nI_le (by omega) (by omega)) c3
                | succ fu ih =>
                  intro k F1 f4 hfu he3 hQ hF hfr H locs hw ls hl
                  refine lv_iload_n X.1 X.2.1 dX4_recount_53 rfl (lv_at hl 0 rfl) ?_
                  refine lv_aload_n X.1 X.2.1 dX4_recount_54 rfl (lv_at hl 1 rfl) ?_
                  refine x_get X hK hw (C := RX4) (T := TX4) (nf := 5) (k := q) (by omega) hQ.1 rfl inX4 0 (by decide) q141 (fun _ h9 => h9) rfl dX4_recount_55 ?_
                  refine x_get X hK hw (C := RX5) (T := TX5) (nf := 10) (k := b) (by omega) hF.1 rfl inX5 1 (by decide) q62 (fun _ h9 => h9) rfl dX4_recount_58 ?_
                  refine lv_icmp_ge (tgt := 75) X.1 X.2.1 dX4_recount_61 (by decide) (fun c4 => ?_) (fun c4 => ?_)
                  · exact absurd c4 (by rw [hg]; exact nI_ge (by omega) (by omega))
                  · refine lv_aload_n X.1 X.2.1 dX4_recount_64 rfl (lv_at hl 1 rfl) ?_
                    refine lv_iload_n X.1 X.2.1 dX4_recount_65 rfl (lv_at hl 0 rfl) ?_
                    refine x_callVv X hK hw (k := q) (As := [.int (nI k)]) (rest := []) (k_X4_sumUp hI q b g t ((sc_r2 g t nb tm pt (sc_ct tl nb) nc).1) ((sc_r2 g t nb tm pt (sc_ct tl nb) nc).2.1) f4 ((sc_r2 g t nb tm pt (sc_ct tl nb) nc).2.2) (nI k) nb nc (by omega) (by omega) hQ (by omega) hF hg hnb hc hnc) (x_cwV yX4_sumUp cX4_sumUp 7 none 1 X q770 q772 qs14 q7 q773 hd_X4_sumUp ⟨Nat.le_of_ble_eq_true rfl, Nat.le_of_ble_eq_true rfl⟩) (by omega) hQ.1 rfl rfl hl.1 rfl (Nat.le_of_ble_eq_true rfl) dX4_recount_66 ⟨Nat.le_of_ble_eq_true rfl, Nat.le_of_ble_eq_true rfl⟩ (fun F5 H locs hp hw => ?_)
                    obtain ⟨hS6, hr7⟩ := hp
                    have hq8 := hF.cg hr7 (by omega)
                    replace hfr := hfr.tr hr7 (by omega) (by omega)
                    refine lv_iinc (v := nI (k + 1)) (lv' := [(1, .int (nI (k + 1))), (0, .ref (ad q))]) X.1 X.2.1 dX4_recount_69 hl (k := 0) rfl (by first | exact nI_1 _ | exact nI_add _ _ | rfl) (by decide) rfl (fun ls hl => ?_)
                    refine lv_goto (tgt := 53) X.1 X.2.1 dX4_recount_72 (by decide) ?_
                    exact ih (k + 1) F5 ((sc_sum g t ((sc_r2 g t nb tm pt (sc_ct tl nb) nc).2.1) f4 (nI k) nc)) (by omega) (by rw [sc_s3, ← he3]) hS6 hq8 hfr _ _ hw _ (lv_sub hl [0, 1] rfl)
              exact loop3 nb 0 F1 sm (by omega) rfl (by have h := hQ; rw [show j = nc by omega] at he2; rw [← he2]; exact h) hF hfr _ _ hw _ (lv_sub hl [0, 1] rfl)
            · exact absurd (by rw [hc]; exact nI_le (by omega) (by omega)) c2
          | succ fu ih =>
            intro j F1 f0 f2 f3 hfu he2 hQ hF hfr H locs hw ls hl
            refine lv_iload_n X.1 X.2.1 dX4_recount_29 rfl (lv_at hl 0 rfl) ?_
            refine lv_aload_n X.1 X.2.1 dX4_recount_30 rfl (lv_at hl 1 rfl) ?_
            refine x_get X hK hw (C := RX4) (T := TX4) (nf := 5) (k := q) (by omega) hQ.1 rfl inX4 0 (by decide) q141 (fun _ h9 => h9) rfl dX4_recount_31 ?_
            refine x_callVP X hK hw (k := b) (As := []) (rest := [.int (nI j)]) (k_X5_closedRaces hI b g t (by omega) hF) (x_cwV yX5_closedRaces cX5_closedRaces 1 (some .int) 0 X q764 q727 q728 q2 q729 hd_X5_closedRaces ⟨Nat.le_of_ble_eq_true rfl, Nat.le_of_ble_eq_true rfl⟩) (by omega) hF.1 rfl rfl hl.1 rfl (Nat.le_of_ble_eq_true rfl) dX4_recount_34 ⟨Nat.le_of_ble_eq_true rfl, Nat.le_of_ble_eq_true rfl⟩ (fun H locs hw => ?_)
            refine lv_icmp_ge (tgt := 51) X.1 X.2.1 dX4_recount_37 (by decide) (fun c9 => ?_) (fun c9 => ?_)
            · exact absurd c9 (by rw [hc]; exact nI_ge (by omega) (by omega))
            · refine lv_aload_n X.1 X.2.1 dX4_recount_40 rfl (lv_at hl 1 rfl) ?_
              refine lv_iload_n X.1 X.2.1 dX4_recount_41 rfl (lv_at hl 0 rfl) ?_
              refine x_callVv X hK hw (k := q) (As := [.int (nI j)]) (rest := []) (k_X4_recountRace hI q b g t f0 f2 sm f3 (nI j) nb (by omega) (by omega) hQ (by omega) hF hg hnb) (x_cwV yX4_recountRace cX4_recountRace 4 none 1 X q765 q767 qs13 q7 q768 hd_X4_recountRace ⟨Nat.le_of_ble_eq_true rfl, Nat.le_of_ble_eq_true rfl⟩) (by omega) hQ.1 rfl rfl hl.1 rfl (Nat.le_of_ble_eq_true rfl) dX4_recount_42 ⟨Nat.le_of_ble_eq_true rfl, Nat.le_of_ble_eq_true rfl⟩ (fun F10 H locs hp hw => ?_)
              obtain ⟨hS11, hr12⟩ := hp
              have hq13 := hF.cg hr12 (by omega)
              replace hfr := hfr.tr hr12 (by omega) (by omega)
              refine lv_iinc (v := nI (j + 1)) (lv' := [(1, .int (nI (j + 1))), (0, .ref (ad q))]) X.1 X.2.1 dX4_recount_45 hl (k := 0) rfl (by first | exact nI_1 _ | exact nI_add _ _ | rfl) (by decide) rfl (fun ls hl => ?_)
              refine lv_goto (tgt := 29) X.1 X.2.1 dX4_recount_48 (by decide) ?_
              exact ih (j + 1) F10 ((sc_rt t (nI j) f0 nb)) (((sc_rr g t (nI j) (sc_rt t (nI j) f0 nb) nb f2 f3 nb).1)) (((sc_rr g t (nI j) (sc_rt t (nI j) f0 nb) nb f2 f3 nb).2)) (by omega) (by rw [sc_r2, ← he2]) hS11 hq13 hfr _ _ hw _ (lv_sub hl [0, 1] rfl)
        exact loop2 nc 0 F1 tm pt ((sc_ct tl nb)) (by omega) rfl (by have h := hQ; rw [he, show i = nb by omega] at h; exact h) hF hfr _ _ hw _ (lv_sub hl [0, 1] rfl)
      · exact absurd (by rw [hg]; exact nI_le (by omega) (by omega)) c1
    | succ fu ih =>
      intro i F1 f1 hfu he hQ hF hfr H locs hw ls hl
      refine lv_iload_n X.1 X.2.1 dX4_recount_2 rfl (lv_at hl 0 rfl) ?_
      refine lv_aload_n X.1 X.2.1 dX4_recount_3 rfl (lv_at hl 1 rfl) ?_
      refine x_get X hK hw (C := RX4) (T := TX4) (nf := 5) (k := q) (by omega) hQ.1 rfl inX4 0 (by decide) q141 (fun _ h9 => h9) rfl dX4_recount_4 ?_
      refine x_get X hK hw (C := RX5) (T := TX5) (nf := 10) (k := b) (by omega) hF.1 rfl inX5 1 (by decide) q62 (fun _ h9 => h9) rfl dX4_recount_7 ?_
      refine lv_icmp_ge (tgt := 27) X.1 X.2.1 dX4_recount_10 (by decide) (fun c14 => ?_) (fun c14 => ?_)
      · exact absurd c14 (by rw [hg]; exact nI_ge (by omega) (by omega))
      · refine lv_aload_n X.1 X.2.1 dX4_recount_13 rfl (lv_at hl 1 rfl) ?_
        refine x_get X hK hw (C := RX4) (T := TX4) (nf := 5) (k := q) (by omega) hQ.1 rfl inX4 4 (by decide) q145 (fun _ h9 => h9) rfl dX4_recount_14 ?_
        refine lv_iload_n X.1 X.2.1 dX4_recount_17 rfl (lv_at hl 0 rfl) ?_
        refine x_callVv X hK hw (k := (q + 7)) (As := [.int (nI i)]) (rest := []) (k_X6_clearRow hI ((q + 7)) 10 90 f1 (nI i) (by omega) (by omega) hQ.2.2.2.2 (by omega)) (x_cwV yX6_clearRow cX6_clearRow 3 none 1 X q763 q306 q307 q3 q308 hd_X6_clearRow ⟨Nat.le_of_ble_eq_true rfl, Nat.le_of_ble_eq_true rfl⟩) (by omega) hQ.2.2.2.2.1 rfl rfl hl.1 rfl (Nat.le_of_ble_eq_true rfl) dX4_recount_18 ⟨Nat.le_of_ble_eq_true rfl, Nat.le_of_ble_eq_true rfl⟩ (fun F15 H locs hp hw => ?_)
        obtain ⟨hT16, hr17⟩ := hp
        have hF18 := hQ.tb3 hT16 hr17
        have hq19 := hF.cg hr17 (by omega)
        replace hfr := hfr.tr hr17 (by omega) (by omega)
        refine lv_iinc (v := nI (i + 1)) (lv' := [(1, .int (nI (i + 1))), (0, .ref (ad q))]) X.1 X.2.1 dX4_recount_21 hl (k := 0) rfl (by first | exact nI_1 _ | exact nI_add _ _ | rfl) (by decide) rfl (fun ls hl => ?_)
        refine lv_goto (tgt := 2) X.1 X.2.1 dX4_recount_24 (by decide) ?_
        exact ih (i + 1) F15 ((tcl 10 90 f1 (nI i) 10)) (by omega) (by rw [he]; rfl) hF18 hq19 hfr _ _ hw _ (lv_sub hl [0, 1] rfl)
  exact loop1 nb 0 F tl (by omega) rfl hQ hF hfr _ _ hw _ (lv_sub hl [0, 1] rfl)
def sc_ah (sm tl : Nat → Int32) (x y : Int32) : Int32 := if tg 4 36 sm x (nI 3) = tg 4 36 sm y (nI 3) then (if y ≤ x then nI 0 else nI 1) else (if tg 4 36 sm y (nI 3) ≤ tg 4 36 sm x (nI 3) then nI 0 else nI 1)
def sc_ap (sm tl : Nat → Int32) (x y : Int32) : Nat → Nat → Int32
  | 0, _ => sc_ah sm tl x y
  | f + 1, i => if tg 10 90 tl x (nI i) = tg 10 90 tl y (nI i) then sc_ap sm tl x y f (i + 1) else if tg 10 90 tl x (nI i) ≤ tg 10 90 tl y (nI i) then nI 0 else nI 1
def sc_ahead (sm tl : Nat → Int32) (x y : Int32) : Int32 := if tg 4 36 sm x (nI 1) = tg 4 36 sm y (nI 1) then sc_ap sm tl x y 9 1 else if tg 4 36 sm y (nI 1) ≤ tg 4 36 sm x (nI 1) then nI 0 else nI 1
def sc_rank (sm tl : Nat → Int32) (x : Int32) : Nat → Int32
  | 0 => nI 1
  | i + 1 => if sc_ahead sm tl (nI i) x = 0 then sc_rank sm tl x i else sc_rank sm tl x i + 1
theorem hd_X4_total : yX4_total.cls = RX4 ∧ yX4_total.cls ≠ "java/lang/invoke/MethodHandle" ∧ yX4_total.cls ≠ "java/lang/invoke/VarHandle" ∧ (parseMethodDescriptor yX4_total.desc).map (fun d => d.parameters.length) = some 1 := by decide +kernel
set_option maxHeartbeats 4000000 in
set_option maxRecDepth 100000 in
theorem k_X4_isAhead {l : Launch} {D : va_G} {cI cB cS : ClassId} {ad : Nat → Nat} {N : Nat} {F : Nat → va_E} (hI : iN ad N) (q : Nat) (b : Nat) (g : Nat → Int32) (t : Nat → Nat → Int32) (tm : Nat → Int32) (pt : Nat → Int32) (sm : Nat → Int32) (tl : Nat → Int32) (x : Int32) (y : Int32) (nb : Nat) (hq : q + 9 ≤ N) (hqb : q + 9 ≤ b ∨ b + 11 ≤ q) (hQ : ScF ad cI F q b tm pt sm tl) (hb : b + 11 ≤ N) (hF : StF ad cI F b g t) (hg : g 1 = nI nb) (hnb : nb < 2 ^ 31) : Ci l D cI cB cS ad N yX4_isAhead cX4_isAhead 4 (some .boolean) 2 44 [.ref (ad q), .int x, .int y] F (pP (sc_ahead sm tl x y) F) := by
  refine x_met (by decide +kernel) (Nat.le_of_ble_eq_true rfl) ?_
  intro p e s m below meth c X hr hlk hK hw ls hl
  replace hl : lv_has ls 4 [(0, .ref (ad q)), (1, .int x), (2, .int y)] := hl
  refine lv_aload_n X.1 X.2.1 dX4_isAhead_0 rfl (lv_at hl 0 rfl) ?_
  refine lv_iload_n X.1 X.2.1 dX4_isAhead_1 rfl (lv_at hl 1 rfl) ?_
  refine x_callVP X hK hw (k := q) (As := [.int x]) (rest := []) (k_X4_total hI q b g t tm pt sm tl x nb (by omega) (by omega) hQ (by omega) hF hg hnb) (x_cwV yX4_total cX4_total 2 (some .int) 1 X q791 q780 q781 q7 q782 hd_X4_total ⟨Nat.le_of_ble_eq_true rfl, Nat.le_of_ble_eq_true rfl⟩) (by omega) hQ.1 rfl rfl hl.1 rfl (Nat.le_of_ble_eq_true rfl) dX4_isAhead_2 ⟨Nat.le_of_ble_eq_true rfl, Nat.le_of_ble_eq_true rfl⟩ (fun H locs hw => ?_)
  refine lv_aload_n X.1 X.2.1 dX4_isAhead_5 rfl (lv_at hl 0 rfl) ?_
  refine lv_iload_n X.1 X.2.1 dX4_isAhead_6 rfl (lv_at hl 2 rfl) ?_
  refine x_callVP X hK hw (k := q) (As := [.int y]) (rest := [.int (tg 4 36 sm x (nI 1))]) (k_X4_total hI q b g t tm pt sm tl y nb (by omega) (by omega) hQ (by omega) hF hg hnb) (x_cwV yX4_total cX4_total 2 (some .int) 1 X q791 q780 q781 q7 q782 hd_X4_total ⟨Nat.le_of_ble_eq_true rfl, Nat.le_of_ble_eq_true rfl⟩) (by omega) hQ.1 rfl rfl hl.1 rfl (Nat.le_of_ble_eq_true rfl) dX4_isAhead_7 ⟨Nat.le_of_ble_eq_true rfl, Nat.le_of_ble_eq_true rfl⟩ (fun H locs hw => ?_)
  refine lv_icmp_eq (tgt := 32) X.1 X.2.1 dX4_isAhead_10 (by decide) (fun c1 => ?_) (fun c1 => ?_)
  · refine lv_iconst (v := nI 1) X.1 X.2.1 dX4_isAhead_32 (by decide) ?_
    refine lv_istore_n (lv' := [(3, .int (nI 1)), (0, .ref (ad q)), (1, .int x), (2, .int y)]) X.1 X.2.1 dX4_isAhead_33 rfl hl (by decide) rfl (fun ls hl => ?_)
    have loop : ∀ (fu : Nat) (i : Nat) (hfu : i + fu = 10) (he : sc_ap sm tl x y fu i = sc_ap sm tl x y 9 1) (H : Heap) (locs : List Loc) (hw : HW D (Af ad N s.heap.size) ad N F s H locs) (ls : Array Slot) (hl : lv_has ls 4 [(3, .int (nI i)), (0, .ref (ad q)), (1, .int x), (2, .int y)]), W p l e { frames := 2, cells := 0, slots := 0, locals := 44 } s m [.ref (ad q), .int x, .int y].toArray below meth c H locs 0 0 (MQ below (va_Qi (pP (sc_ahead sm tl x y) F) (fun F' t => PO D ad N F' t) (Af ad N s.heap.size)) [.ref (ad q), .int x, .int y].toArray s 0 0 (Af ad N s.heap.size)) (F0 m 34 ls []) := by
      intro fu
      induction fu with
      | zero =>
        intro i hfu he H locs hw ls hl
        refine lv_iload_n X.1 X.2.1 dX4_isAhead_34 rfl (lv_at hl 0 rfl) ?_
        refine lv_bipush (v := nI 9) X.1 X.2.1 dX4_isAhead_35 (by decide) ?_
        refine lv_icmp_gt (tgt := 94) X.1 X.2.1 dX4_isAhead_37 (by decide) (fun c2 => ?_) (fun c2 => ?_)
        · refine lv_aload_n X.1 X.2.1 dX4_isAhead_94 rfl (lv_at hl 1 rfl) ?_
          refine x_get X hK hw (C := RX4) (T := TX4) (nf := 5) (k := q) (by omega) hQ.1 rfl inX4 3 (by decide) q144 (fun _ h9 => h9) rfl dX4_isAhead_95 ?_
          refine lv_iload_n X.1 X.2.1 dX4_isAhead_98 rfl (lv_at hl 2 rfl) ?_
          refine lv_iconst (v := nI 3) X.1 X.2.1 dX4_isAhead_99 (by decide) ?_
          refine x_callVP X hK hw (k := (q + 5)) (As := [.int x, .int (nI 3)]) (rest := []) (k_X6_get hI ((q + 5)) 4 36 sm x (nI 3) (by omega) (by omega) hQ.2.2.2.1) (x_cwV yX6_get cX6_get 4 (some .int) 2 X q739 q327 q328 q3 q329 hd_X6_get ⟨Nat.le_of_ble_eq_true rfl, Nat.le_of_ble_eq_true rfl⟩) (by omega) hQ.2.2.2.1.1 rfl rfl hl.1 rfl (Nat.le_of_ble_eq_true rfl) dX4_isAhead_100 ⟨Nat.le_of_ble_eq_true rfl, Nat.le_of_ble_eq_true rfl⟩ (fun H locs hw => ?_)
          refine lv_aload_n X.1 X.2.1 dX4_isAhead_103 rfl (lv_at hl 1 rfl) ?_
          refine x_get X hK hw (C := RX4) (T := TX4) (nf := 5) (k := q) (by omega) hQ.1 rfl inX4 3 (by decide) q144 (fun _ h9 => h9) rfl dX4_isAhead_104 ?_
          refine lv_iload_n X.1 X.2.1 dX4_isAhead_107 rfl (lv_at hl 3 rfl) ?_
          refine lv_iconst (v := nI 3) X.1 X.2.1 dX4_isAhead_108 (by decide) ?_
          refine x_callVP X hK hw (k := (q + 5)) (As := [.int y, .int (nI 3)]) (rest := [.int (tg 4 36 sm x (nI 3))]) (k_X6_get hI ((q + 5)) 4 36 sm y (nI 3) (by omega) (by omega) hQ.2.2.2.1) (x_cwV yX6_get cX6_get 4 (some .int) 2 X q739 q327 q328 q3 q329 hd_X6_get ⟨Nat.le_of_ble_eq_true rfl, Nat.le_of_ble_eq_true rfl⟩) (by omega) hQ.2.2.2.1.1 rfl rfl hl.1 rfl (Nat.le_of_ble_eq_true rfl) dX4_isAhead_109 ⟨Nat.le_of_ble_eq_true rfl, Nat.le_of_ble_eq_true rfl⟩ (fun H locs hw => ?_)
          refine lv_icmp_eq (tgt := 142) X.1 X.2.1 dX4_isAhead_112 (by decide) (fun c3 => ?_) (fun c3 => ?_)
          · refine lv_iload_n X.1 X.2.1 dX4_isAhead_142 rfl (lv_at hl 2 rfl) ?_
            refine lv_iload_n X.1 X.2.1 dX4_isAhead_143 rfl (lv_at hl 3 rfl) ?_
            refine lv_icmp_ge (tgt := 151) X.1 X.2.1 dX4_isAhead_144 (by decide) (fun c4 => ?_) (fun c4 => ?_)
            · refine lv_iconst (v := nI 0) X.1 X.2.1 dX4_isAhead_151 (by decide) ?_
              exact x_iret X hr hlk hK hw (v := nI 0) (by first | rfl | exact nr_b _ | decide) (⟨by rw [sc_ahead, if_pos c1, ← he, sc_ap, sc_ah, if_pos c3, if_pos c4], rfl⟩) dX4_isAhead_152
            · refine lv_iconst (v := nI 1) X.1 X.2.1 dX4_isAhead_147 (by decide) ?_
              refine lv_goto (tgt := 152) X.1 X.2.1 dX4_isAhead_148 (by decide) ?_
              exact x_iret X hr hlk hK hw (v := nI 1) (by first | rfl | exact nr_b _ | decide) (⟨by rw [sc_ahead, if_pos c1, ← he, sc_ap, sc_ah, if_pos c3, if_neg c4], rfl⟩) dX4_isAhead_152
          · refine lv_aload_n X.1 X.2.1 dX4_isAhead_115 rfl (lv_at hl 1 rfl) ?_
            refine x_get X hK hw (C := RX4) (T := TX4) (nf := 5) (k := q) (by omega) hQ.1 rfl inX4 3 (by decide) q144 (fun _ h9 => h9) rfl dX4_isAhead_116 ?_
            refine lv_iload_n X.1 X.2.1 dX4_isAhead_119 rfl (lv_at hl 2 rfl) ?_
            refine lv_iconst (v := nI 3) X.1 X.2.1 dX4_isAhead_120 (by decide) ?_
            refine x_callVP X hK hw (k := (q + 5)) (As := [.int x, .int (nI 3)]) (rest := []) (k_X6_get hI ((q + 5)) 4 36 sm x (nI 3) (by omega) (by omega) hQ.2.2.2.1) (x_cwV yX6_get cX6_get 4 (some .int) 2 X q739 q327 q328 q3 q329 hd_X6_get ⟨Nat.le_of_ble_eq_true rfl, Nat.le_of_ble_eq_true rfl⟩) (by omega) hQ.2.2.2.1.1 rfl rfl hl.1 rfl (Nat.le_of_ble_eq_true rfl) dX4_isAhead_121 ⟨Nat.le_of_ble_eq_true rfl, Nat.le_of_ble_eq_true rfl⟩ (fun H locs hw => ?_)
            refine lv_aload_n X.1 X.2.1 dX4_isAhead_124 rfl (lv_at hl 1 rfl) ?_
            refine x_get X hK hw (C := RX4) (T := TX4) (nf := 5) (k := q) (by omega) hQ.1 rfl inX4 3 (by decide) q144 (fun _ h9 => h9) rfl dX4_isAhead_125 ?_
            refine lv_iload_n X.1 X.2.1 dX4_isAhead_128 rfl (lv_at hl 3 rfl) ?_
            refine lv_iconst (v := nI 3) X.1 X.2.1 dX4_isAhead_129 (by decide) ?_
            refine x_callVP X hK hw (k := (q + 5)) (As := [.int y, .int (nI 3)]) (rest := [.int (tg 4 36 sm x (nI 3))]) (k_X6_get hI ((q + 5)) 4 36 sm y (nI 3) (by omega) (by omega) hQ.2.2.2.1) (x_cwV yX6_get cX6_get 4 (some .int) 2 X q739 q327 q328 q3 q329 hd_X6_get ⟨Nat.le_of_ble_eq_true rfl, Nat.le_of_ble_eq_true rfl⟩) (by omega) hQ.2.2.2.1.1 rfl rfl hl.1 rfl (Nat.le_of_ble_eq_true rfl) dX4_isAhead_130 ⟨Nat.le_of_ble_eq_true rfl, Nat.le_of_ble_eq_true rfl⟩ (fun H locs hw => ?_)
            refine lv_icmp_ge (tgt := 140) X.1 X.2.1 dX4_isAhead_133 (by decide) (fun c5 => ?_) (fun c5 => ?_)
            · refine lv_iconst (v := nI 0) X.1 X.2.1 dX4_isAhead_140 (by decide) ?_
              exact x_iret X hr hlk hK hw (v := nI 0) (by first | rfl | exact nr_b _ | decide) (⟨by rw [sc_ahead, if_pos c1, ← he, sc_ap, sc_ah, if_neg c3, if_pos c5], rfl⟩) dX4_isAhead_141
            · refine lv_iconst (v := nI 1) X.1 X.2.1 dX4_isAhead_136 (by decide) ?_
              refine lv_goto (tgt := 141) X.1 X.2.1 dX4_isAhead_137 (by decide) ?_
              exact x_iret X hr hlk hK hw (v := nI 1) (by first | rfl | exact nr_b _ | decide) (⟨by rw [sc_ahead, if_pos c1, ← he, sc_ap, sc_ah, if_neg c3, if_neg c5], rfl⟩) dX4_isAhead_141
        · exact absurd (nI_lt (by omega) (by omega)) c2
      | succ fu ih =>
        intro i hfu he H locs hw ls hl
        refine lv_iload_n X.1 X.2.1 dX4_isAhead_34 rfl (lv_at hl 0 rfl) ?_
        refine lv_bipush (v := nI 9) X.1 X.2.1 dX4_isAhead_35 (by decide) ?_
        refine lv_icmp_gt (tgt := 94) X.1 X.2.1 dX4_isAhead_37 (by decide) (fun c6 => ?_) (fun c6 => ?_)
        · exact absurd c6 (nI_nlt (by omega) (by omega))
        · refine lv_aload_n X.1 X.2.1 dX4_isAhead_40 rfl (lv_at hl 1 rfl) ?_
          refine x_get X hK hw (C := RX4) (T := TX4) (nf := 5) (k := q) (by omega) hQ.1 rfl inX4 4 (by decide) q145 (fun _ h9 => h9) rfl dX4_isAhead_41 ?_
          refine lv_iload_n X.1 X.2.1 dX4_isAhead_44 rfl (lv_at hl 2 rfl) ?_
          refine lv_iload_n X.1 X.2.1 dX4_isAhead_45 rfl (lv_at hl 0 rfl) ?_
          refine x_callVP X hK hw (k := (q + 7)) (As := [.int x, .int (nI i)]) (rest := []) (k_X6_get hI ((q + 7)) 10 90 tl x (nI i) (by omega) (by omega) hQ.2.2.2.2) (x_cwV yX6_get cX6_get 4 (some .int) 2 X q739 q327 q328 q3 q329 hd_X6_get ⟨Nat.le_of_ble_eq_true rfl, Nat.le_of_ble_eq_true rfl⟩) (by omega) hQ.2.2.2.2.1 rfl rfl hl.1 rfl (Nat.le_of_ble_eq_true rfl) dX4_isAhead_46 ⟨Nat.le_of_ble_eq_true rfl, Nat.le_of_ble_eq_true rfl⟩ (fun H locs hw => ?_)
          refine lv_aload_n X.1 X.2.1 dX4_isAhead_49 rfl (lv_at hl 1 rfl) ?_
          refine x_get X hK hw (C := RX4) (T := TX4) (nf := 5) (k := q) (by omega) hQ.1 rfl inX4 4 (by decide) q145 (fun _ h9 => h9) rfl dX4_isAhead_50 ?_
          refine lv_iload_n X.1 X.2.1 dX4_isAhead_53 rfl (lv_at hl 3 rfl) ?_
          refine lv_iload_n X.1 X.2.1 dX4_isAhead_54 rfl (lv_at hl 0 rfl) ?_
          refine x_callVP X hK hw (k := (q + 7)) (As := [.int y, .int (nI i)]) (rest := [.int (tg 10 90 tl x (nI i))]) (k_X6_get hI ((q + 7)) 10 90 tl y (nI i) (by omega) (by omega) hQ.2.2.2.2) (x_cwV yX6_get cX6_get 4 (some .int) 2 X q739 q327 q328 q3 q329 hd_X6_get ⟨Nat.le_of_ble_eq_true rfl, Nat.le_of_ble_eq_true rfl⟩) (by omega) hQ.2.2.2.2.1 rfl rfl hl.1 rfl (Nat.le_of_ble_eq_true rfl) dX4_isAhead_55 ⟨Nat.le_of_ble_eq_true rfl, Nat.le_of_ble_eq_true rfl⟩ (fun H locs hw => ?_)
          refine lv_icmp_eq (tgt := 88) X.1 X.2.1 dX4_isAhead_58 (by decide) (fun c7 => ?_) (fun c7 => ?_)
          · refine lv_iinc (v := nI (i + 1)) (lv' := [(3, .int (nI (i + 1))), (0, .ref (ad q)), (1, .int x), (2, .int y)]) X.1 X.2.1 dX4_isAhead_88 hl (k := 0) rfl (by first | exact nI_1 _ | exact nI_add _ _ | rfl) (by decide) rfl (fun ls hl => ?_)
            refine lv_goto (tgt := 34) X.1 X.2.1 dX4_isAhead_91 (by decide) ?_
            exact ih (i + 1)  (by omega) (by rw [← he, sc_ap, if_pos c7]) _ _ hw _ (lv_sub hl [0, 1, 2, 3] rfl)
          · refine lv_aload_n X.1 X.2.1 dX4_isAhead_61 rfl (lv_at hl 1 rfl) ?_
            refine x_get X hK hw (C := RX4) (T := TX4) (nf := 5) (k := q) (by omega) hQ.1 rfl inX4 4 (by decide) q145 (fun _ h9 => h9) rfl dX4_isAhead_62 ?_
            refine lv_iload_n X.1 X.2.1 dX4_isAhead_65 rfl (lv_at hl 2 rfl) ?_
            refine lv_iload_n X.1 X.2.1 dX4_isAhead_66 rfl (lv_at hl 0 rfl) ?_
            refine x_callVP X hK hw (k := (q + 7)) (As := [.int x, .int (nI i)]) (rest := []) (k_X6_get hI ((q + 7)) 10 90 tl x (nI i) (by omega) (by omega) hQ.2.2.2.2) (x_cwV yX6_get cX6_get 4 (some .int) 2 X q739 q327 q328 q3 q329 hd_X6_get ⟨Nat.le_of_ble_eq_true rfl, Nat.le_of_ble_eq_true rfl⟩) (by omega) hQ.2.2.2.2.1 rfl rfl hl.1 rfl (Nat.le_of_ble_eq_true rfl) dX4_isAhead_67 ⟨Nat.le_of_ble_eq_true rfl, Nat.le_of_ble_eq_true rfl⟩ (fun H locs hw => ?_)
            refine lv_aload_n X.1 X.2.1 dX4_isAhead_70 rfl (lv_at hl 1 rfl) ?_
            refine x_get X hK hw (C := RX4) (T := TX4) (nf := 5) (k := q) (by omega) hQ.1 rfl inX4 4 (by decide) q145 (fun _ h9 => h9) rfl dX4_isAhead_71 ?_
            refine lv_iload_n X.1 X.2.1 dX4_isAhead_74 rfl (lv_at hl 3 rfl) ?_
            refine lv_iload_n X.1 X.2.1 dX4_isAhead_75 rfl (lv_at hl 0 rfl) ?_
            refine x_callVP X hK hw (k := (q + 7)) (As := [.int y, .int (nI i)]) (rest := [.int (tg 10 90 tl x (nI i))]) (k_X6_get hI ((q + 7)) 10 90 tl y (nI i) (by omega) (by omega) hQ.2.2.2.2) (x_cwV yX6_get cX6_get 4 (some .int) 2 X q739 q327 q328 q3 q329 hd_X6_get ⟨Nat.le_of_ble_eq_true rfl, Nat.le_of_ble_eq_true rfl⟩) (by omega) hQ.2.2.2.2.1 rfl rfl hl.1 rfl (Nat.le_of_ble_eq_true rfl) dX4_isAhead_76 ⟨Nat.le_of_ble_eq_true rfl, Nat.le_of_ble_eq_true rfl⟩ (fun H locs hw => ?_)
            refine lv_icmp_le (tgt := 86) X.1 X.2.1 dX4_isAhead_79 (by decide) (fun c8 => ?_) (fun c8 => ?_)
            · refine lv_iconst (v := nI 0) X.1 X.2.1 dX4_isAhead_86 (by decide) ?_
              exact x_iret X hr hlk hK hw (v := nI 0) (by first | rfl | exact nr_b _ | decide) (⟨by rw [sc_ahead, if_pos c1, ← he, sc_ap, if_neg c7, if_pos c8], rfl⟩) dX4_isAhead_87
            · refine lv_iconst (v := nI 1) X.1 X.2.1 dX4_isAhead_82 (by decide) ?_
              refine lv_goto (tgt := 87) X.1 X.2.1 dX4_isAhead_83 (by decide) ?_
              exact x_iret X hr hlk hK hw (v := nI 1) (by first | rfl | exact nr_b _ | decide) (⟨by rw [sc_ahead, if_pos c1, ← he, sc_ap, if_neg c7, if_neg c8], rfl⟩) dX4_isAhead_87
    exact loop (10 - 1) 1  (by omega) rfl _ _ hw _ (lv_sub hl [0, 1, 2, 3] rfl)
  · refine lv_aload_n X.1 X.2.1 dX4_isAhead_13 rfl (lv_at hl 0 rfl) ?_
    refine lv_iload_n X.1 X.2.1 dX4_isAhead_14 rfl (lv_at hl 1 rfl) ?_
    refine x_callVP X hK hw (k := q) (As := [.int x]) (rest := []) (k_X4_total hI q b g t tm pt sm tl x nb (by omega) (by omega) hQ (by omega) hF hg hnb) (x_cwV yX4_total cX4_total 2 (some .int) 1 X q791 q780 q781 q7 q782 hd_X4_total ⟨Nat.le_of_ble_eq_true rfl, Nat.le_of_ble_eq_true rfl⟩) (by omega) hQ.1 rfl rfl hl.1 rfl (Nat.le_of_ble_eq_true rfl) dX4_isAhead_15 ⟨Nat.le_of_ble_eq_true rfl, Nat.le_of_ble_eq_true rfl⟩ (fun H locs hw => ?_)
    refine lv_aload_n X.1 X.2.1 dX4_isAhead_18 rfl (lv_at hl 0 rfl) ?_
    refine lv_iload_n X.1 X.2.1 dX4_isAhead_19 rfl (lv_at hl 2 rfl) ?_
    refine x_callVP X hK hw (k := q) (As := [.int y]) (rest := [.int (tg 4 36 sm x (nI 1))]) (k_X4_total hI q b g t tm pt sm tl y nb (by omega) (by omega) hQ (by omega) hF hg hnb) (x_cwV yX4_total cX4_total 2 (some .int) 1 X q791 q780 q781 q7 q782 hd_X4_total ⟨Nat.le_of_ble_eq_true rfl, Nat.le_of_ble_eq_true rfl⟩) (by omega) hQ.1 rfl rfl hl.1 rfl (Nat.le_of_ble_eq_true rfl) dX4_isAhead_20 ⟨Nat.le_of_ble_eq_true rfl, Nat.le_of_ble_eq_true rfl⟩ (fun H locs hw => ?_)
    refine lv_icmp_ge (tgt := 30) X.1 X.2.1 dX4_isAhead_23 (by decide) (fun c9 => ?_) (fun c9 => ?_)
    · refine lv_iconst (v := nI 0) X.1 X.2.1 dX4_isAhead_30 (by decide) ?_
      exact x_iret X hr hlk hK hw (v := nI 0) (by first | rfl | exact nr_b _ | decide) (⟨by rw [sc_ahead, if_neg c1, if_pos c9], rfl⟩) dX4_isAhead_31
    · refine lv_iconst (v := nI 1) X.1 X.2.1 dX4_isAhead_26 (by decide) ?_
      refine lv_goto (tgt := 31) X.1 X.2.1 dX4_isAhead_27 (by decide) ?_
      exact x_iret X hr hlk hK hw (v := nI 1) (by first | rfl | exact nr_b _ | decide) (⟨by rw [sc_ahead, if_neg c1, if_neg c9], rfl⟩) dX4_isAhead_31
theorem hd_X4_isAhead : yX4_isAhead.cls = RX4 ∧ yX4_isAhead.cls ≠ "java/lang/invoke/MethodHandle" ∧ yX4_isAhead.cls ≠ "java/lang/invoke/VarHandle" ∧ (parseMethodDescriptor yX4_isAhead.desc).map (fun d => d.parameters.length) = some 2 := by decide +kernel
set_option maxHeartbeats 4000000 in
set_option maxRecDepth 100000 in
theorem k_X4_rank {l : Launch} {D : va_G} {cI cB cS : ClassId} {ad : Nat → Nat} {N : Nat} {F : Nat → va_E} (hI : iN ad N) (q : Nat) (b : Nat) (g : Nat → Int32) (t : Nat → Nat → Int32) (tm : Nat → Int32) (pt : Nat → Int32) (sm : Nat → Int32) (tl : Nat → Int32) (x : Int32) (nb : Nat) (hq : q + 9 ≤ N) (hqb : q + 9 ≤ b ∨ b + 11 ≤ q) (hQ : ScF ad cI F q b tm pt sm tl) (hb : b + 11 ≤ N) (hF : StF ad cI F b g t) (hg : g 1 = nI nb) (hnb : nb < 2 ^ 31) : Ci l D cI cB cS ad N yX4_rank cX4_rank 4 (some .int) 3 67 [.ref (ad q), .int x] F (pP (sc_rank sm tl x nb) F) := by
  refine x_met (by decide +kernel) (Nat.le_of_ble_eq_true rfl) ?_
  intro p e s m below meth c X hr hlk hK hw ls hl
  replace hl : lv_has ls 4 [(0, .ref (ad q)), (1, .int x)] := hl
  refine lv_iconst (v := nI 1) X.1 X.2.1 dX4_rank_0 (by decide) ?_
  refine lv_istore_n (lv' := [(2, .int (nI 1)), (0, .ref (ad q)), (1, .int x)]) X.1 X.2.1 dX4_rank_1 rfl hl (by decide) rfl (fun ls hl => ?_)
  refine lv_iconst (v := nI 0) X.1 X.2.1 dX4_rank_2 (by decide) ?_
  refine lv_istore_n (lv' := [(3, .int (nI 0)), (2, .int (nI 1)), (0, .ref (ad q)), (1, .int x)]) X.1 X.2.1 dX4_rank_3 rfl hl (by decide) rfl (fun ls hl => ?_)
  have loop : ∀ (fu : Nat) (i : Nat) (y : Int32) (hfu : i + fu = nb) (he : y = sc_rank sm tl x i) (H : Heap) (locs : List Loc) (hw : HW D (Af ad N s.heap.size) ad N F s H locs) (ls : Array Slot) (hl : lv_has ls 4 [(3, .int (nI i)), (2, .int y), (0, .ref (ad q)), (1, .int x)]), W p l e { frames := 3, cells := 0, slots := 0, locals := 67 } s m [.ref (ad q), .int x].toArray below meth c H locs 0 0 (MQ below (va_Qi (pP (sc_rank sm tl x nb) F) (fun F' t => PO D ad N F' t) (Af ad N s.heap.size)) [.ref (ad q), .int x].toArray s 0 0 (Af ad N s.heap.size)) (F0 m 4 ls []) := by
    intro fu
    induction fu with
    | zero =>
      intro i y hfu he H locs hw ls hl
      refine lv_iload_n X.1 X.2.1 dX4_rank_4 rfl (lv_at hl 0 rfl) ?_
      refine lv_aload_n X.1 X.2.1 dX4_rank_5 rfl (lv_at hl 2 rfl) ?_
      refine x_get X hK hw (C := RX4) (T := TX4) (nf := 5) (k := q) (by omega) hQ.1 rfl inX4 0 (by decide) q141 (fun _ h9 => h9) rfl dX4_rank_6 ?_
      refine x_get X hK hw (C := RX5) (T := TX5) (nf := 10) (k := b) (by omega) hF.1 rfl inX5 1 (by decide) q62 (fun _ h9 => h9) rfl dX4_rank_9 ?_
      refine lv_icmp_ge (tgt := 33) X.1 X.2.1 dX4_rank_12 (by decide) (fun c1 => ?_) (fun c1 => ?_)
      · refine lv_iload_n X.1 X.2.1 dX4_rank_33 rfl (lv_at hl 1 rfl) ?_
        exact x_iret X hr hlk hK hw (v := y) rfl (⟨by rw [he, show i = nb by omega], rfl⟩) dX4_rank_34
      · exact absurd (by rw [hg]; exact nI_le (by omega) (by omega)) c1
    | succ fu ih =>
      intro i y hfu he H locs hw ls hl
      refine lv_iload_n X.1 X.2.1 dX4_rank_4 rfl (lv_at hl 0 rfl) ?_
      refine lv_aload_n X.1 X.2.1 dX4_rank_5 rfl (lv_at hl 2 rfl) ?_
      refine x_get X hK hw (C := RX4) (T := TX4) (nf := 5) (k := q) (by omega) hQ.1 rfl inX4 0 (by decide) q141 (fun _ h9 => h9) rfl dX4_rank_6 ?_
      refine x_get X hK hw (C := RX5) (T := TX5) (nf := 10) (k := b) (by omega) hF.1 rfl inX5 1 (by decide) q62 (fun _ h9 => h9) rfl dX4_rank_9 ?_
      refine lv_icmp_ge (tgt := 33) X.1 X.2.1 dX4_rank_12 (by decide) (fun c2 => ?_) (fun c2 => ?_)
      · exact absurd c2 (by rw [hg]; exact nI_ge (by omega) (by omega))
      · refine lv_aload_n X.1 X.2.1 dX4_rank_15 rfl (lv_at hl 2 rfl) ?_
        refine lv_iload_n X.1 X.2.1 dX4_rank_16 rfl (lv_at hl 0 rfl) ?_
        refine lv_iload_n X.1 X.2.1 dX4_rank_17 rfl (lv_at hl 3 rfl) ?_
        refine x_callVP X hK hw (k := q) (As := [.int (nI i), .int x]) (rest := []) (k_X4_isAhead hI q b g t tm pt sm tl (nI i) x nb (by omega) (by omega) hQ (by omega) hF hg hnb) (x_cwV yX4_isAhead cX4_isAhead 4 (some .boolean) 2 X q787 q789 qs16 q7 q790 hd_X4_isAhead ⟨Nat.le_of_ble_eq_true rfl, Nat.le_of_ble_eq_true rfl⟩) (by omega) hQ.1 rfl rfl hl.1 rfl (Nat.le_of_ble_eq_true rfl) dX4_rank_18 ⟨Nat.le_of_ble_eq_true rfl, Nat.le_of_ble_eq_true rfl⟩ (fun H locs hw => ?_)
        refine lv_if_eq (tgt := 27) X.1 X.2.1 dX4_rank_21 (by decide) (fun c3 => ?_) (fun c3 => ?_)
        · refine lv_iinc (v := nI (i + 1)) (lv' := [(3, .int (nI (i + 1))), (2, .int y), (0, .ref (ad q)), (1, .int x)]) X.1 X.2.1 dX4_rank_27 hl (k := 0) rfl (by first | exact nI_1 _ | exact nI_add _ _ | rfl) (by decide) rfl (fun ls hl => ?_)
          refine lv_goto (tgt := 4) X.1 X.2.1 dX4_rank_30 (by decide) ?_
          exact ih (i + 1) y (by omega) (by rw [he, sc_rank, if_pos c3]) _ _ hw _ (lv_sub hl [0, 1, 2, 3] rfl)
        · refine lv_iinc (v := y + 1) (lv' := [(2, .int (y + 1)), (3, .int (nI i)), (0, .ref (ad q)), (1, .int x)]) X.1 X.2.1 dX4_rank_24 hl (k := 1) rfl rfl (by decide) rfl (fun ls hl => ?_)
          refine lv_iinc (v := nI (i + 1)) (lv' := [(3, .int (nI (i + 1))), (2, .int (y + 1)), (0, .ref (ad q)), (1, .int x)]) X.1 X.2.1 dX4_rank_27 hl (k := 1) rfl (by first | exact nI_1 _ | exact nI_add _ _ | rfl) (by decide) rfl (fun ls hl => ?_)
          refine lv_goto (tgt := 4) X.1 X.2.1 dX4_rank_30 (by decide) ?_
          exact ih (i + 1) (y + 1) (by omega) (by rw [he, sc_rank, if_neg c3]) _ _ hw _ (lv_sub hl [0, 1, 2, 3] rfl)
  exact loop nb 0 (nI 1) (by omega) rfl _ _ hw _ (lv_sub hl [0, 1, 2, 3] rfl)
