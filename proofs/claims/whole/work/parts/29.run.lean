def rnS (tx : Nat → Nat) (n : Nat) : Nat → Nat → Nat → Nat → (Nat → Int32) → (Nat → Nat → Int32) → Nat × (Nat → Int32) × (Nat → Nat → Int32)
  | 0, _, _, dn, g, t => (dn, g, t)
  | f + 1, i, u, dn, g, t => if nI (sg tx n i) = nI 59 then (if 0 ≤ (s_X7_carryOutEvent g t n tx u i).1 then rnS tx n f (i + 1) (i + 1) (dn + 1) (s_X7_carryOutEvent g t n tx u i).2.1 (s_X7_carryOutEvent g t n tx u i).2.2 else (dn, (s_X7_carryOutEvent g t n tx u i).2.1, (s_X7_carryOutEvent g t n tx u i).2.2)) else rnS tx n f (i + 1) u dn g t
theorem hd_X3_endsEvent : yX3_endsEvent.cls = RX3 ∧ yX3_endsEvent.cls ≠ "java/lang/invoke/MethodHandle" ∧ yX3_endsEvent.cls ≠ "java/lang/invoke/VarHandle" ∧ (parseMethodDescriptor yX3_endsEvent.desc).map (fun d => d.parameters.length) = some 1 := by decide +kernel
theorem hd_X7_carryOutEvent : yX7_carryOutEvent.cls = RX7 ∧ yX7_carryOutEvent.cls ≠ "java/lang/invoke/MethodHandle" ∧ yX7_carryOutEvent.cls ≠ "java/lang/invoke/VarHandle" ∧ (parseMethodDescriptor yX7_carryOutEvent.desc).map (fun d => d.parameters.length) = some 2 := by decide +kernel
set_option maxHeartbeats 4000000 in
set_option maxRecDepth 100000 in
theorem k_X7_run {l : Launch} {D : va_G} {cI cB cS : ClassId} {ad : Nat → Nat} {N : Nat} {F : Nat → va_E} (hI : iN ad N) (q : Nat) (hs : Int32) (g : Nat → Int32) (t : Nat → Nat → Int32) (d : Nat) (z : Nat) (hg : Nat → Nat → Int32) (ht : Nat → Nat → Nat → Int32) (g3 : Nat → Int32) (t3 : Nat → Nat → Int32) (tm1 : Nat → Int32) (pt1 : Nat → Int32) (sm1 : Nat → Int32) (tl1 : Nat → Int32) (g2 : Nat → Int32) (t2 : Nat → Nat → Int32) (tm2 : Nat → Int32) (pt2 : Nat → Int32) (sm2 : Nat → Int32) (tl2 : Nat → Int32) (cap : Nat) (n : Nat) (ml : Int32) (f : Nat → Int32) (tx : Nat → Nat) (hq : q + 114 ≤ N) (hd5 : d < 5) (hz4 : z ≤ 4) (hxMa : MaF ad F q hs) (hxF : StF ad cI F (q + 1) g t) (hxCo : CoF ad F (q + 12) (q + 1)) (hxJu : JuF ad F (q + 13) (q + 1)) (hxHi : HiF ad cI cS F (q + 43) d z hg ht) (hxF3 : StF ad cI F (q + 100) g3 t3) (hxS1 : ScF ad cI F (q + 14) (q + 1) tm1 pt1 sm1 tl1) (hxF2 : StF ad cI F (q + 23) g2 t2) (hxS2 : ScF ad cI F (q + 34) (q + 23) tm2 pt2 sm2 tl2) (hcap : cap < 2 ^ 30) (hnc : n ≤ cap) (hxL : LoF ad F (q + 111)) (hxS : SbF ad cB F (q + 112) cap n ml f) (htx : ∀ j, j < n → tx j < 128 ∧ f j = nI (tx j)) (hn30 : n < 2 ^ 28) : Ci l D cI cB cS ad N yX7_run cX7_run 5 (some .int) 8 193 [.ref (ad q)] F (fun r F' => (¬ ffl tx n n 0 (nI 1) = (-5) ∧ r = (-100) - ffl tx n n 0 (nI 1) ∧ ClF ad cI cS F' q hs g t d z hg ht g3 t3 ∧ Fr F F' q (q + 111)) ∨ (ffl tx n n 0 (nI 1) = (-5) ∧ r = nI (rnS tx n (n + 1) 0 0 0 g t).1 ∧ ClF ad cI cS F' q hs (rnS tx n (n + 1) 0 0 0 g t).2.1 (rnS tx n (n + 1) 0 0 0 g t).2.2 (hn d) (min (z + 1) 4) (va_up hg d g) (va_up ht d t) g3 t3 ∧ Fr F F' q (q + 111))) := by
  refine x_met (by decide +kernel) (Nat.le_of_ble_eq_true rfl) ?_
  intro p e s m below meth c X hr hlk hK hw ls hl
  replace hl : lv_has ls 5 [(0, .ref (ad q))] := hl
  have hfr : Fr F F (q) (q + 111) := Fr.rf
  refine lv_aload_n X.1 X.2.1 dX7_run_0 rfl (lv_at hl 0 rfl) ?_
  refine x_get X hK hw (C := RX7) (T := TX7) (nf := 10) (k := q) (by omega) hxMa rfl inX7 9 (by decide) q227 (fun _ h9 => h9) rfl dX7_run_1 ?_
  refine x_callVP X hK hw (k := (q + 111)) (As := []) (rest := []) (k_X3_firstFault hI ((q + 111)) cap n ml f tx (by omega) (by omega) hnc hxL hxS htx) (x_cwV yX3_firstFault cX3_firstFault 3 (some .int) 0 X q612 q613 q614 q9 q615 hd_X3_firstFault ⟨Nat.le_of_ble_eq_true rfl, Nat.le_of_ble_eq_true rfl⟩) (by omega) hxL rfl rfl hl.1 rfl (Nat.le_of_ble_eq_true rfl) dX7_run_4 ⟨Nat.le_of_ble_eq_true rfl, Nat.le_of_ble_eq_true rfl⟩ (fun H locs hw => ?_)
  refine lv_istore_n (lv' := [(1, .int (ffl tx n n 0 (nI 1))), (0, .ref (ad q))]) X.1 X.2.1 dX7_run_7 rfl hl (by decide) rfl (fun ls hl => ?_)
  refine lv_iload_n X.1 X.2.1 dX7_run_8 rfl (lv_at hl 0 rfl) ?_
  refine lv_bipush (v := (-5)) X.1 X.2.1 dX7_run_9 (by decide) ?_
  refine lv_icmp_eq (tgt := 19) X.1 X.2.1 dX7_run_11 (by decide) (fun c1 => ?_) (fun c1 => ?_)
  · refine lv_aload_n X.1 X.2.1 dX7_run_19 rfl (lv_at hl 1 rfl) ?_
    refine x_get X hK hw (C := RX7) (T := TX7) (nf := 10) (k := q) (by omega) hxMa rfl inX7 6 (by decide) q224 (fun _ h9 => h9) rfl dX7_run_20 ?_
    refine lv_aload_n X.1 X.2.1 dX7_run_23 rfl (lv_at hl 1 rfl) ?_
    refine x_get X hK hw (C := RX7) (T := TX7) (nf := 10) (k := q) (by omega) hxMa rfl inX7 0 (by decide) q218 (fun _ h9 => h9) rfl dX7_run_24 ?_
    refine x_callVv X hK hw (k := (q + 43)) (As := [.ref (ad (q + 1))]) (rest := []) (k_X1_hold hI ((q + 43)) d z hg ht ((q + 1)) g t (by omega) (by omega) (by omega) hxHi (by omega) hxF (by omega)) (x_cwV yX1_hold cX1_hold 3 none 1 X q253 q254 q255 q8 q256 hd_X1_hold ⟨Nat.le_of_ble_eq_true rfl, Nat.le_of_ble_eq_true rfl⟩) (by omega) hxHi.1 rfl rfl hl.1 rfl (Nat.le_of_ble_eq_true rfl) dX7_run_27 ⟨Nat.le_of_ble_eq_true rfl, Nat.le_of_ble_eq_true rfl⟩ (fun F2 H locs hp hw => ?_)
    obtain ⟨hF3, hr4⟩ := hp
    have hq5 := (hr4 _ (by omega)).trans hxMa
    have hq6 := hxF.cg hr4 (by omega)
    have hq7 := (hr4 _ (by omega)).trans hxCo
    have hq8 := (hr4 _ (by omega)).trans hxJu
    have hq9 := hxF3.cg hr4 (by omega)
    have hq10 := hxS1.cg hr4 (by omega)
    have hq11 := hxF2.cg hr4 (by omega)
    have hq12 := hxS2.cg hr4 (by omega)
    have hq13 := (hr4 _ (by omega)).trans hxL
    have hq14 := hxS.cg hr4 (by omega)
    replace hfr := hfr.tr hr4 (by omega) (by omega)
    refine lv_iconst (v := nI 0) X.1 X.2.1 dX7_run_30 (by decide) ?_
    refine lv_istore_n (lv' := [(2, .int (nI 0)), (1, .int (ffl tx n n 0 (nI 1))), (0, .ref (ad q))]) X.1 X.2.1 dX7_run_31 rfl hl (by decide) rfl (fun ls hl => ?_)
    refine lv_iconst (v := nI 0) X.1 X.2.1 dX7_run_32 (by decide) ?_
    refine lv_istore_n (lv' := [(3, .int (nI 0)), (2, .int (nI 0)), (1, .int (ffl tx n n 0 (nI 1))), (0, .ref (ad q))]) X.1 X.2.1 dX7_run_33 rfl hl (by decide) rfl (fun ls hl => ?_)
    refine lv_iconst (v := nI 0) X.1 X.2.1 dX7_run_34 (by decide) ?_
    refine lv_istore (lv' := [(4, .int (nI 0)), (3, .int (nI 0)), (2, .int (nI 0)), (1, .int (ffl tx n n 0 (nI 1))), (0, .ref (ad q))]) X.1 X.2.1 dX7_run_35 hl (by decide) rfl (fun ls hl => ?_)
    have loop : ∀ (fu : Nat) (i : Nat) (F1 : Nat → va_E) (u : Nat) (dn : Nat) (g1 : Nat → Int32) (t1 : Nat → Nat → Int32) (r14a : Nat → Int32) (r14b : Nat → Int32) (r14c : Nat → Int32) (r14d : Nat → Int32) (r34a : Nat → Int32) (r34b : Nat → Int32) (r34c : Nat → Int32) (r34d : Nat → Int32) (r23a : Nat → Int32) (r23b : Nat → Nat → Int32) (hfu : i + fu = (n + 1)) (he : rnS tx n fu i u dn g1 t1 = rnS tx n (n + 1) 0 0 0 g t) (hui : u ≤ i) (hdn : dn ≤ i) (hl0 : MaF ad F1 q hs) (hl1 : StF ad cI F1 (q + 1) g1 t1) (hl12 : CoF ad F1 (q + 12) ((q + 1))) (hl13 : JuF ad F1 (q + 13) ((q + 1))) (hl43 : HiF ad cI cS F1 (q + 43) ((d)) ((z)) ((va_up hg d g)) ((va_up ht d t))) (hl100 : StF ad cI F1 (q + 100) g3 t3) (hl14 : ScF ad cI F1 (q + 14) ((q + 1)) r14a r14b r14c r14d) (hl23 : StF ad cI F1 (q + 23) r23a r23b) (hl34 : ScF ad cI F1 (q + 34) ((q + 23)) r34a r34b r34c r34d) (hl111 : LoF ad F1 (q + 111) ) (hl112 : SbF ad cB F1 (q + 112) cap n ml f) (hfr : Fr F F1 q (q + 111)) (H : Heap) (locs : List Loc) (hw : HW D (Af ad N s.heap.size) ad N F1 s H locs) (ls : Array Slot) (hl : lv_has ls 5 [(4, .int (nI i)), (3, .int (nI u)), (2, .int (nI dn)), (0, .ref (ad q))]), W p l e { frames := 8, cells := 0, slots := 0, locals := 193 } s m [.ref (ad q)].toArray below meth c H locs 0 0 (MQ below (va_Qi (fun r F' => (¬ ffl tx n n 0 (nI 1) = (-5) ∧ r = (-100) - ffl tx n n 0 (nI 1) ∧ ClF ad cI cS F' q hs g t d z hg ht g3 t3 ∧ Fr F F' q (q + 111)) ∨ (ffl tx n n 0 (nI 1) = (-5) ∧ r = nI (rnS tx n (n + 1) 0 0 0 g t).1 ∧ ClF ad cI cS F' q hs (rnS tx n (n + 1) 0 0 0 g t).2.1 (rnS tx n (n + 1) 0 0 0 g t).2.2 (hn d) (min (z + 1) 4) (va_up hg d g) (va_up ht d t) g3 t3 ∧ Fr F F' q (q + 111))) (fun F' t => PO D ad N F' t) (Af ad N s.heap.size)) [.ref (ad q)].toArray s 0 0 (Af ad N s.heap.size)) (F0 m 37 ls []) := by
      intro fu
      induction fu with
      | zero =>
        intro i F1 u dn g1 t1 r14a r14b r14c r14d r34a r34b r34c r34d r23a r23b hfu he hui hdn hl0 hl1 hl12 hl13 hl43 hl100 hl14 hl23 hl34 hl111 hl112 hfr H locs hw ls hl
        refine lv_iload X.1 X.2.1 dX7_run_37 (lv_at hl 0 rfl) ?_
        refine lv_aload_n X.1 X.2.1 dX7_run_39 rfl (lv_at hl 3 rfl) ?_
        refine x_get X hK hw (C := RX7) (T := TX7) (nf := 10) (k := q) (by omega) hl0 rfl inX7 9 (by decide) q227 (fun _ h9 => h9) rfl dX7_run_40 ?_
        refine x_callVP X hK hw (k := (q + 111)) (As := []) (rest := [.int (nI i)]) (k_X3_length hI ((q + 111)) cap n ml f tx (by omega) (by omega) hnc hl111 hl112 htx) (x_cwV yX3_length cX3_length 1 (some .int) 0 X q652 q653 q654 q9 q655 hd_X3_length ⟨Nat.le_of_ble_eq_true rfl, Nat.le_of_ble_eq_true rfl⟩) (by omega) hl111 rfl rfl hl.1 rfl (Nat.le_of_ble_eq_true rfl) dX7_run_43 ⟨Nat.le_of_ble_eq_true rfl, Nat.le_of_ble_eq_true rfl⟩ (fun H locs hw => ?_)
        refine lv_icmp_gt (tgt := 94) X.1 X.2.1 dX7_run_46 (by decide) (fun c15 => ?_) (fun c15 => ?_)
        · refine lv_aload_n X.1 X.2.1 dX7_run_94 rfl (lv_at hl 3 rfl) ?_
          refine x_get X hK hw (C := RX7) (T := TX7) (nf := 10) (k := q) (by omega) hl0 rfl inX7 6 (by decide) q224 (fun _ h9 => h9) rfl dX7_run_95 ?_
          refine lv_iload_n X.1 X.2.1 dX7_run_98 rfl (lv_at hl 2 rfl) ?_
          refine x_callV X hK hw (k := (q + 43)) (As := [.int (nI dn)]) (rest := []) (k_X1_confirm hI ((q + 43)) ((d)) ((z)) ((va_up hg d g)) ((va_up ht d t)) (nI dn) (by omega) (by omega) (by omega) hl43) (x_cwV yX1_confirm cX1_confirm 2 (some .int) 1 X q276 q277 q278 q8 q279 hd_X1_confirm ⟨Nat.le_of_ble_eq_true rfl, Nat.le_of_ble_eq_true rfl⟩) (by omega) hl43.1 rfl rfl hl.1 rfl (Nat.le_of_ble_eq_true rfl) dX7_run_99 ⟨Nat.le_of_ble_eq_true rfl, Nat.le_of_ble_eq_true rfl⟩ (fun r19 F16 H locs hp hw => ?_)
          obtain ⟨er20, hF17, hr18⟩ := hp
          refine x_top er20 ?_
          have hq21 := (hr18 _ (by omega)).trans hl0
          have hq22 := hl1.cg hr18 (by omega)
          have hq23 := (hr18 _ (by omega)).trans hl12
          have hq24 := (hr18 _ (by omega)).trans hl13
          have hq25 := hl100.cg hr18 (by omega)
          have hq26 := hl14.cg hr18 (by omega)
          have hq27 := hl23.cg hr18 (by omega)
          have hq28 := hl34.cg hr18 (by omega)
          have hq29 := (hr18 _ (by omega)).trans hl111
          have hq30 := hl112.cg hr18 (by omega)
          replace hfr := hfr.tr hr18 (by omega) (by omega)
          exact x_iret X hr hlk hK hw (v := (nI dn)) rfl (Or.inr ⟨c1, by rw [← he, rnS], by rw [← he, rnS]; exact ⟨hq21, hq22, hq23, hq24, (by have hz9 := hF17; rw [if_neg (nI_pos (n := dn) (by omega)), if_neg (nI_pos (n := dn) (by omega))] at hz9; exact hz9), hq25, ⟨_, _, _, _, hq26⟩, ⟨_, _, hq27⟩, ⟨_, _, _, _, hq28⟩⟩, hfr⟩) dX7_run_102
        · exact absurd (nI_lt (by omega) (by omega)) c15
      | succ fu ih =>
        intro i F1 u dn g1 t1 r14a r14b r14c r14d r34a r34b r34c r34d r23a r23b hfu he hui hdn hl0 hl1 hl12 hl13 hl43 hl100 hl14 hl23 hl34 hl111 hl112 hfr H locs hw ls hl
        refine lv_iload X.1 X.2.1 dX7_run_37 (lv_at hl 0 rfl) ?_
        refine lv_aload_n X.1 X.2.1 dX7_run_39 rfl (lv_at hl 3 rfl) ?_
        refine x_get X hK hw (C := RX7) (T := TX7) (nf := 10) (k := q) (by omega) hl0 rfl inX7 9 (by decide) q227 (fun _ h9 => h9) rfl dX7_run_40 ?_
        refine x_callVP X hK hw (k := (q + 111)) (As := []) (rest := [.int (nI i)]) (k_X3_length hI ((q + 111)) cap n ml f tx (by omega) (by omega) hnc hl111 hl112 htx) (x_cwV yX3_length cX3_length 1 (some .int) 0 X q652 q653 q654 q9 q655 hd_X3_length ⟨Nat.le_of_ble_eq_true rfl, Nat.le_of_ble_eq_true rfl⟩) (by omega) hl111 rfl rfl hl.1 rfl (Nat.le_of_ble_eq_true rfl) dX7_run_43 ⟨Nat.le_of_ble_eq_true rfl, Nat.le_of_ble_eq_true rfl⟩ (fun H locs hw => ?_)
        refine lv_icmp_gt (tgt := 94) X.1 X.2.1 dX7_run_46 (by decide) (fun c31 => ?_) (fun c31 => ?_)
        · exact absurd c31 (nI_nlt (by omega) (by omega))
        · refine lv_aload_n X.1 X.2.1 dX7_run_49 rfl (lv_at hl 3 rfl) ?_
          refine x_get X hK hw (C := RX7) (T := TX7) (nf := 10) (k := q) (by omega) hl0 rfl inX7 9 (by decide) q227 (fun _ h9 => h9) rfl dX7_run_50 ?_
          refine lv_iload X.1 X.2.1 dX7_run_53 (lv_at hl 0 rfl) ?_
          refine x_callVP X hK hw (k := (q + 111)) (As := [.int (nI i)]) (rest := []) (k_X3_endsEvent hI ((q + 111)) cap n ml f tx i (by omega) (by omega) hnc hl111 hl112 htx (by omega)) (x_cwV yX3_endsEvent cX3_endsEvent 2 (some .boolean) 1 X q656 q657 q658 q9 q659 hd_X3_endsEvent ⟨Nat.le_of_ble_eq_true rfl, Nat.le_of_ble_eq_true rfl⟩) (by omega) hl111 rfl rfl hl.1 rfl (Nat.le_of_ble_eq_true rfl) dX7_run_55 ⟨Nat.le_of_ble_eq_true rfl, Nat.le_of_ble_eq_true rfl⟩ (fun H locs hw => ?_)
          refine lv_if_eq (tgt := 88) X.1 X.2.1 dX7_run_58 (by decide) (fun c32 => ?_) (fun c32 => ?_)
          · replace c32 := bI_z c32
            refine lv_iinc (v := nI (i + 1)) (lv' := [(4, .int (nI (i + 1))), (3, .int (nI u)), (2, .int (nI dn)), (0, .ref (ad q))]) X.1 X.2.1 dX7_run_88 hl (k := 0) rfl (by first | exact nI_1 _ | exact nI_add _ _ | rfl) (by decide) rfl (fun ls hl => ?_)
            refine lv_goto (tgt := 37) X.1 X.2.1 dX7_run_91 (by decide) ?_
            exact ih (i + 1) F1 u dn g1 t1 r14a r14b r14c r14d r34a r34b r34c r34d r23a r23b (by omega) (by rw [← he, rnS, if_neg c32]) (by omega) (by omega) hl0 hl1 hl12 hl13 hl43 hl100 hl14 hl23 hl34 hl111 hl112 hfr _ _ hw _ (lv_sub hl [0, 1, 2, 3] rfl)
          · replace c32 := bI_nz c32
            refine lv_aload_n X.1 X.2.1 dX7_run_61 rfl (lv_at hl 3 rfl) ?_
            refine lv_iload_n X.1 X.2.1 dX7_run_62 rfl (lv_at hl 1 rfl) ?_
            refine lv_iload X.1 X.2.1 dX7_run_63 (lv_at hl 0 rfl) ?_
            refine x_callV X hK hw (k := q) (As := [.int (nI u), .int (nI i)]) (rest := []) (k_X7_carryOutEvent hI q hs g1 t1 ((d)) ((z)) ((va_up hg d g)) ((va_up ht d t)) g3 t3 r14a r14b r14c r14d r23a r23b r34a r34b r34c r34d cap n ml f tx u i (by omega) (by omega) (by omega) hl0 hl1 hl12 hl13 hl43 hl100 hl14 hl23 hl34 (by omega) hnc hl111 hl112 htx (by omega) (by omega)) (x_cwV yX7_carryOutEvent cX7_carryOutEvent 3 (some .int) 2 X q664 q666 qs9 q1 q667 hd_X7_carryOutEvent ⟨Nat.le_of_ble_eq_true rfl, Nat.le_of_ble_eq_true rfl⟩) (by omega) hl0 rfl rfl hl.1 rfl (Nat.le_of_ble_eq_true rfl) dX7_run_65 ⟨Nat.le_of_ble_eq_true rfl, Nat.le_of_ble_eq_true rfl⟩ (fun r35 F33 H locs hp hw => ?_)
            obtain ⟨er36, ⟨hz38, hz39, hz40, hz41, hz42, hz43, ⟨u37a, u37b, u37c, u37d, hz44⟩, ⟨u37e, u37f, hz45⟩, ⟨u37g, u37h, u37i, u37j, hz46⟩⟩, hr34⟩ := hp
            refine x_top er36 ?_
            have hq47 := (hr34 _ (by omega)).trans hl111
            have hq48 := hl112.cg hr34 (by omega)
            replace hfr := hfr.tr hr34 (by omega) (by omega)
            refine lv_if_ge (tgt := 80) X.1 X.2.1 dX7_run_68 (by decide) (fun c49 => ?_) (fun c49 => ?_)
            · refine lv_iinc (v := nI (dn + 1)) (lv' := [(2, .int (nI (dn + 1))), (4, .int (nI i)), (3, .int (nI u)), (0, .ref (ad q))]) X.1 X.2.1 dX7_run_80 hl (k := 2) rfl (by first | exact nI_1 _ | exact nI_add _ _ | rfl) (by decide) rfl (fun ls hl => ?_)
              refine lv_iload X.1 X.2.1 dX7_run_83 (lv_at hl 1 rfl) ?_
              refine lv_iconst (v := nI 1) X.1 X.2.1 dX7_run_85 (by decide) ?_
              refine lv_iadd X.1 X.2.1 dX7_run_86 ?_
              refine x_top (nI_add _ _) ?_
              refine lv_istore_n (lv' := [(3, .int (nI (i + 1))), (2, .int (nI (dn + 1))), (4, .int (nI i)), (0, .ref (ad q))]) X.1 X.2.1 dX7_run_87 rfl hl (by decide) rfl (fun ls hl => ?_)
              refine lv_iinc (v := nI (i + 1)) (lv' := [(4, .int (nI (i + 1))), (3, .int (nI (i + 1))), (2, .int (nI (dn + 1))), (0, .ref (ad q))]) X.1 X.2.1 dX7_run_88 hl (k := 2) rfl (by first | exact nI_1 _ | exact nI_add _ _ | rfl) (by decide) rfl (fun ls hl => ?_)
              refine lv_goto (tgt := 37) X.1 X.2.1 dX7_run_91 (by decide) ?_
              exact ih (i + 1) F33 (i + 1) (dn + 1) ((s_X7_carryOutEvent g1 t1 n tx u i).2.1) ((s_X7_carryOutEvent g1 t1 n tx u i).2.2) u37a u37b u37c u37d u37g u37h u37i u37j u37e u37f (by omega) (by rw [← he, rnS, if_pos c32, if_pos c49]) (by omega) (by omega) hz38 hz39 hz40 hz41 hz42 hz43 hz44 hz45 hz46 hq47 hq48 hfr _ _ hw _ (lv_sub hl [0, 1, 2, 3] rfl)
            · refine lv_aload_n X.1 X.2.1 dX7_run_71 rfl (lv_at hl 3 rfl) ?_
              refine x_get X hK hw (C := RX7) (T := TX7) (nf := 10) (k := q) (by omega) hz38 rfl inX7 6 (by decide) q224 (fun _ h9 => h9) rfl dX7_run_72 ?_
              refine lv_iload_n X.1 X.2.1 dX7_run_75 rfl (lv_at hl 2 rfl) ?_
              refine x_callV X hK hw (k := (q + 43)) (As := [.int (nI dn)]) (rest := []) (k_X1_confirm hI ((q + 43)) ((d)) ((z)) ((va_up hg d g)) ((va_up ht d t)) (nI dn) (by omega) (by omega) (by omega) hz42) (x_cwV yX1_confirm cX1_confirm 2 (some .int) 1 X q276 q277 q278 q8 q279 hd_X1_confirm ⟨Nat.le_of_ble_eq_true rfl, Nat.le_of_ble_eq_true rfl⟩) (by omega) hz42.1 rfl rfl hl.1 rfl (Nat.le_of_ble_eq_true rfl) dX7_run_76 ⟨Nat.le_of_ble_eq_true rfl, Nat.le_of_ble_eq_true rfl⟩ (fun r53 F50 H locs hp hw => ?_)
              obtain ⟨er54, hF51, hr52⟩ := hp
              refine x_top er54 ?_
              have hq55 := (hr52 _ (by omega)).trans hz38
              have hq56 := hz39.cg hr52 (by omega)
              have hq57 := (hr52 _ (by omega)).trans hz40
              have hq58 := (hr52 _ (by omega)).trans hz41
              have hq59 := hz43.cg hr52 (by omega)
              have hq60 := hz44.cg hr52 (by omega)
              have hq61 := hz45.cg hr52 (by omega)
              have hq62 := hz46.cg hr52 (by omega)
              have hq63 := (hr52 _ (by omega)).trans hq47
              have hq64 := hq48.cg hr52 (by omega)
              replace hfr := hfr.tr hr52 (by omega) (by omega)
              exact x_iret X hr hlk hK hw (v := (nI dn)) rfl (Or.inr ⟨c1, by rw [← he, rnS, if_pos c32, if_neg c49], by rw [← he, rnS, if_pos c32, if_neg c49]; exact ⟨hq55, hq56, hq57, hq58, (by have hz9 := hF51; rw [if_neg (nI_pos (n := dn) (by omega)), if_neg (nI_pos (n := dn) (by omega))] at hz9; exact hz9), hq59, ⟨_, _, _, _, hq60⟩, ⟨_, _, hq61⟩, ⟨_, _, _, _, hq62⟩⟩, hfr⟩) dX7_run_79
    exact loop ((n + 1)) 0 F2 0 0 g t tm1 pt1 sm1 tl1 tm2 pt2 sm2 tl2 g2 t2 (by omega) rfl (Nat.le_refl _) (Nat.le_refl _) hq5 hq6 hq7 hq8 hF3 hq9 hq10 hq11 hq12 hq13 hq14 hfr _ _ hw _ (lv_sub hl [0, 1, 2, 4] rfl)
  · refine lv_bipush (v := (-100)) X.1 X.2.1 dX7_run_14 (by decide) ?_
    refine lv_iload_n X.1 X.2.1 dX7_run_16 rfl (lv_at hl 0 rfl) ?_
    refine lv_isub X.1 X.2.1 dX7_run_17 ?_
    exact x_iret X hr hlk hK hw (v := ((-100)) - (ffl tx n n 0 (nI 1))) rfl (Or.inl ⟨c1, rfl, ⟨hxMa, hxF, hxCo, hxJu, hxHi, hxF3, ⟨_, _, _, _, hxS1⟩, ⟨_, _, hxF2⟩, ⟨_, _, _, _, hxS2⟩⟩, hfr⟩) dX7_run_18
