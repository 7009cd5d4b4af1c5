/-! the law's method 'closes' -/
def rqN (B : Nat → Nat) (r b : Nat) : Nat := rk (AH (arr (ep B r b 4 1)) (B 1) (ncl B)) b (B 1)
theorem pl_cls {c : Nat} {A B : Nat → Nat} {r b : Nat} (hA : HJ c A) (hB : HJ c B) (hc : c ≤ 512) (hk : A 0 ≤ 999999) (hr : r < A 2) (hb : b < A 1) (e : ∀ i, i ≠ 16 + 4 * r + 3 → B i = A i) : m_place (arr B) r b (A 1) = m_place (arr A) r b (A 1) := by
  have h9 := hA.1.1
  have h6 := hA.1.2.1
  have e0 := e 0 (by omega)
  have e1 := e 1 (by omega)
  have e2 := e 2 (by omega)
  have ee : ∀ k w, eA B r k w = eA A r k w := fun k w => e _ (by omega)
  have ec : ∀ k, k < 9 → coN B r k = coN A r k := fun k hk9 => by
    unfold coN elN
    rw [ee, ee, show rA B r 2 = rA A r 2 from e _ (by omega), e (7 + k) (by omega)]
  have en : ∀ k, cnP B r k ↔ cnP A r k := fun k => by unfold cnP; rw [ee, ee]
  have ea : ∀ n, n ≤ A 1 → ahN B r b n = ahN A r b n := by
    intro n
    induction n with
    | zero => intro _; rfl
    | succ n ih =>
      intro hn
      show ahN B r b n + (if cnP B r n ∧ coN B r n < coN B r b then 1 else 0) = ahN A r b n + (if cnP A r n ∧ coN A r n < coN A r b then 1 else 0)
      rw [ih (by omega), ec n (by omega), ec b (by omega)]
      by_cases q : cnP A r n ∧ coN A r n < coN A r b
      · rw [if_pos q, if_pos ⟨(en n).mpr q.1, q.2⟩]
      · rw [if_neg q, if_neg (fun z => q ⟨(en n).mp z.1, z.2⟩)]
  have h1 := place_n hB hc (by omega) (r := r) (b := b) (by omega) (by omega)
  rw [e1] at h1
  rw [h1, place_n hA hc hk hr hb]
  have e3 : plN B r b = plN A r b := by unfold plN; rw [e1, ea (A 1) (Nat.le_refl _)]
  by_cases q : cnP A r b
  · rw [if_pos q, if_pos ((en b).mpr q), e3]
  · rw [if_neg q, if_neg (fun z => q ((en b).mp z))]
theorem ar_m {f : Nat → Int32} {g : Nat → Int32} {k : Nat} (h : ∀ i, i < k → f i = g i) : ∀ i, i < k + 1 → upd f k (g k) i = g i := fun i hi => by
  by_cases q : i = k
  · rw [q, pk_us]
  · rw [pk_un q]; exact h i (by omega)
theorem hd_X7_close : yX7_close.cls = RX7 ∧ yX7_close.cls ≠ "java/lang/invoke/MethodHandle" ∧ yX7_close.cls ≠ "java/lang/invoke/VarHandle" ∧ (parseMethodDescriptor yX7_close.desc).map (fun d => d.parameters.length) = some 0 := by decide +kernel
theorem hd_X7_placeNow : yX7_placeNow.cls = RX7 ∧ yX7_placeNow.cls ≠ "java/lang/invoke/MethodHandle" ∧ yX7_placeNow.cls ≠ "java/lang/invoke/VarHandle" ∧ (parseMethodDescriptor yX7_placeNow.desc).map (fun d => d.parameters.length) = some 1 := by decide +kernel
theorem hd_X7_rankIfDisqualified : yX7_rankIfDisqualified.cls = RX7 ∧ yX7_rankIfDisqualified.cls ≠ "java/lang/invoke/MethodHandle" ∧ yX7_rankIfDisqualified.cls ≠ "java/lang/invoke/VarHandle" ∧ (parseMethodDescriptor yX7_rankIfDisqualified.desc).map (fun d => d.parameters.length) = some 2 := by decide +kernel
set_option maxHeartbeats 4000000 in
set_option maxRecDepth 100000 in
theorem closes_z {p : Program} {l : Launch} {e : Env} {s : State} {m : MethodId} {args : Array Value} {below : List Frame} {meth : Method} {c : Code} {H : Heap} {locs : List Loc} {Q : State → Prop} {ls : Array Slot} {D : va_G} {cI cB cS : ClassId} {ad : Nat → Nat} {F : Nat → va_E} {Aw : Nat → Prop} (X : CallFix p m c cL_closes 8 s args lw_g yL_closes.cls) (hI : iN ad 116) (hK : KW D cI cB cS Aw s) (hw : HW D Aw ad 116 F s H locs) {ca : Nat} {hs : Int32} {A A3 : Nat → Nat} (hJ : HJ ca A) (hc : ca ≤ 512) (hk : A 0 ≤ 999999) (hO : OB ad cI cB cS F hs A A3) (hT : F 115 = .inl (cI, 9, .inl (fun _ => 0))) {r : Nat} (h0 : A 2 = 0) (hl : lv_has ls 8 [(2, .int (nI (A 1))), (1, .int ((-1))), (0, .ref (ad 0))]) (kend : ∀ (pc : Nat) (_ : decode cL_closes pc = .ok (.ireturn, 1)) (F' : Nat → va_E) (H : Heap) (locs : List Loc) (ls : Array Slot), HW D Aw ad 116 F' s H locs → ACT ad cI cB cS F' ca A → FrD F F' → W p l e { frames := 7, cells := 1, slots := 9, locals := 200 } s m args below meth c H locs 1 9 Q (F0 m pc ls [.int (nI 1)])) : W p l e { frames := 7, cells := 1, slots := 9, locals := 200 } s m args below meth c H locs 1 9 Q (F0 m 18 ls [.ref (ad 115)]) := by
  have hN : 116 ≤ 116 := Nat.le_refl _
  have h9 := hJ.1.1
  have h6 := hJ.1.2.1
  have h10 := hJ.1.2.2.1
  have hl2 := (lat_le hJ).1
  have hfr : FrD F F := fun _ _ _ => rfl
  have hopn : ¬ opn A := fun q => by have := q.1; omega
  have hl1 : ¬ latN A = 1 := fun q => hopn ((lat_op hJ).mp q)
  refine lv_astore_n (lv' := [(3, .ref (ad 115)), (2, .int (nI (A 1))), (1, .int ((-1))), (0, .ref (ad 0))]) X.1 X.2.1 dL_closes_18 rfl hl (by decide) rfl (fun ls hl => ?_)
  refine lv_iload_n X.1 X.2.1 dL_closes_19 rfl (lv_at hl 2 rfl) ?_
  refine lv_if_ge (tgt := 27) X.1 X.2.1 dL_closes_20 (by decide) (fun c1 => ?_) (fun c1 => ?_)
  · exact absurd c1 (by decide)
  · refine lv_iconst (v := nI 0) X.1 X.2.1 dL_closes_23 (by decide) ?_
    refine lv_goto (tgt := 33) X.1 X.2.1 dL_closes_24 (by decide) ?_
    refine lv_istore (lv' := [(4, .int (nI 0)), (3, .ref (ad 115)), (2, .int (nI (A 1))), (1, .int ((-1))), (0, .ref (ad 0))]) X.1 X.2.1 dL_closes_33 hl (by decide) rfl (fun ls hl => ?_)
    refine lv_aload_n X.1 X.2.1 dL_closes_35 rfl (lv_at hl 4 rfl) ?_
    refine lv_iconst (v := nI 4) X.1 X.2.1 dL_closes_36 (by decide) ?_
    refine x_callV X hK hw (k := 0) (As := [.int (nI 4)]) (rest := []) (w_count hI (by omega) hO (nI 4) (fun g t z n hE => a_cou4 hJ hc hk hE z n)) (x_cwV yX7_count cX7_count 2 (some .int) 1 X q818 q819 q820 q1 q821 hd_X7_count ⟨(Nat.le_of_ble_eq_true rfl), (Nat.le_of_ble_eq_true rfl)⟩) (by omega) hO.ma rfl rfl hl.1 rfl (Nat.le_of_ble_eq_true rfl) dL_closes_37 ⟨(Nat.le_of_ble_eq_true rfl), (Nat.le_of_ble_eq_true rfl)⟩ (fun v2 F3 H locs hp hw => ?_)
    obtain ⟨e4, hO5, hf6⟩ := hp
    refine x_top e4 ?_
    have hT7 := (hf6 115 (by omega)).trans hT
    replace hfr := hfr.tr hf6 (by omega) (by omega)
    refine lv_iconst (v := nI 1) X.1 X.2.1 dL_closes_40 (by decide) ?_
    refine lv_icmp_ne (tgt := 62) X.1 X.2.1 dL_closes_41 (by decide) (fun c8 => ?_) (fun c8 => ?_)
    · have n9 : ¬ (latN A) = 1 := fun z => c8 ((nI_eq (by omega) (by omega)).mpr z)
      refine lv_iconst (v := nI 0) X.1 X.2.1 dL_closes_62 (by decide) ?_
      refine lv_istore (lv' := [(5, .int (nI 0)), (4, .int (nI 0)), (3, .ref (ad 115)), (2, .int (nI (A 1))), (1, .int ((-1))), (0, .ref (ad 0))]) X.1 X.2.1 dL_closes_63 hl (by decide) rfl (fun ls hl => ?_)
      refine lv_iconst (v := nI 0) X.1 X.2.1 dL_closes_65 (by decide) ?_
      refine lv_istore (lv' := [(6, .int (nI 0)), (5, .int (nI 0)), (4, .int (nI 0)), (3, .ref (ad 115)), (2, .int (nI (A 1))), (1, .int ((-1))), (0, .ref (ad 0))]) X.1 X.2.1 dL_closes_66 hl (by decide) rfl (fun ls hl => ?_)
      have way68 : ∀ (b : Nat) (F1 : Nat → va_E) (f1 : Nat → Int32) (hb1 : b ≤ A 1) (hT1 : F1 115 = .inl (cI, 9, .inl f1)) (hfa : ∀ i, i < b → f1 i = (-4)) (hOB : OB ad cI cB cS F1 hs A A3) (hfr : FrD F F1) (hx : A 1 ≤ b) (H : Heap) (locs : List Loc) (hw : HW D Aw ad 116 F1 s H locs) (ls : Array Slot) (hl : lv_has ls 8 [(6, .int (nI b)), (5, .int (nI 0)), (4, .int (nI 0)), (3, .ref (ad 115)), (2, .int (nI (A 1))), (1, .int ((-1))), (0, .ref (ad 0))]), W p l e { frames := 7, cells := 1, slots := 9, locals := 200 } s m args below meth c H locs 1 9 Q (F0 m 90 ls []) := by
        intro b F1 f1 hb1 hT1 hfa hOB hfr hx H locs hw ls hl
        refine lv_aload_n X.1 X.2.1 dL_closes_90 rfl (lv_at hl 6 rfl) ?_
        refine x_callV X hK hw (k := 0) (As := []) (rest := []) (w_close hI (by omega) hOB hJ.1.1 (fun g t hE => a_close_no hJ hc hk (fun q => absurd q hopn) hE)) (x_cwV yX7_close cX7_close 1 (some .int) 0 X q399 q400 q401 q1 q402 hd_X7_close ⟨(Nat.le_of_ble_eq_true rfl), (Nat.le_of_ble_eq_true rfl)⟩) (by omega) hOB.ma rfl rfl hl.1 rfl (Nat.le_of_ble_eq_true rfl) dL_closes_91 ⟨(Nat.le_of_ble_eq_true rfl), (Nat.le_of_ble_eq_true rfl)⟩ (fun v10 F11 H locs hp hw => ?_)
        obtain ⟨e12, hO13, hf14⟩ := hp
        refine x_top e12 ?_
        have hT15 := (hf14 115 (by omega)).trans hT1
        replace hfr := hfr.tr hf14 (by omega) (by omega)
        refine lv_istore (lv' := [(6, .int ((-4))), (5, .int (nI 0)), (4, .int (nI 0)), (3, .ref (ad 115)), (2, .int (nI (A 1))), (1, .int ((-1))), (0, .ref (ad 0))]) X.1 X.2.1 dL_closes_94 hl (by decide) rfl (fun ls hl => ?_)
        refine lv_iload X.1 X.2.1 dL_closes_96 (lv_at hl 1 rfl) ?_
        refine lv_if_ne (tgt := 114) X.1 X.2.1 dL_closes_98 (by decide) (fun c16 => ?_) (fun c16 => ?_)
        · exact absurd (by decide) c16
        · refine lv_iload X.1 X.2.1 dL_closes_101 (lv_at hl 0 rfl) ?_
          refine lv_bipush (v := (-4)) X.1 X.2.1 dL_closes_103 (by decide) ?_
          refine lv_icmp_ne (tgt := 112) X.1 X.2.1 dL_closes_105 (by decide) (fun c17 => ?_) (fun c17 => ?_)
          · exact absurd (by decide) c17
          · refine lv_iconst (v := nI 1) X.1 X.2.1 dL_closes_108 (by decide) ?_
            refine lv_goto (tgt := 113) X.1 X.2.1 dL_closes_109 (by decide) ?_
            exact kend _ dL_closes_113 _ _ _ _ hw (ACT.same hJ hO13) hfr
      have loop68 : ∀ (fu : Nat) (b : Nat) (F1 : Nat → va_E) (f1 : Nat → Int32) (hfu : A 1 ≤ b + fu) (hb1 : b ≤ A 1) (hT1 : F1 115 = .inl (cI, 9, .inl f1)) (hfa : ∀ i, i < b → f1 i = (-4)) (hOB : OB ad cI cB cS F1 hs A A3) (hfr : FrD F F1) (H : Heap) (locs : List Loc) (hw : HW D Aw ad 116 F1 s H locs) (ls : Array Slot) (hl : lv_has ls 8 [(6, .int (nI b)), (5, .int (nI 0)), (4, .int (nI 0)), (3, .ref (ad 115)), (2, .int (nI (A 1))), (1, .int ((-1))), (0, .ref (ad 0))]), W p l e { frames := 7, cells := 1, slots := 9, locals := 200 } s m args below meth c H locs 1 9 Q (F0 m 68 ls []) := by
        intro fu
        induction fu with
        | zero =>
          intro b F1 f1 hfu hb1 hT1 hfa hOB hfr H locs hw ls hl
          refine lv_iload X.1 X.2.1 dL_closes_68 (lv_at hl 0 rfl) ?_
          refine lv_iload_n X.1 X.2.1 dL_closes_70 rfl (lv_at hl 4 rfl) ?_
          refine lv_icmp_ge (tgt := 90) X.1 X.2.1 dL_closes_71 (by decide) (fun c18 => ?_) (fun c18 => ?_)
          · have n19 := (nI_leI (by omega) (by omega)).mp c18
            exact way68 b F1 f1 hb1 hT1 hfa hOB hfr n19 _ _ hw _ (lv_sub hl [0, 1, 2, 3, 4, 5, 6] rfl)
          · exact absurd ((nI_leI (by omega) (by omega)).mpr (by omega)) c18
        | succ fu ih =>
          intro b F1 f1 hfu hb1 hT1 hfa hOB hfr H locs hw ls hl
          refine lv_iload X.1 X.2.1 dL_closes_68 (lv_at hl 0 rfl) ?_
          refine lv_iload_n X.1 X.2.1 dL_closes_70 rfl (lv_at hl 4 rfl) ?_
          refine lv_icmp_ge (tgt := 90) X.1 X.2.1 dL_closes_71 (by decide) (fun c20 => ?_) (fun c20 => ?_)
          · have n21 := (nI_leI (by omega) (by omega)).mp c20
            exact way68 b F1 f1 hb1 hT1 hfa hOB hfr n21 _ _ hw _ (lv_sub hl [0, 1, 2, 3, 4, 5, 6] rfl)
          · have n22 : ¬ (A 1) ≤ b := fun z => c20 ((nI_leI (by omega) (by omega)).mpr z)
            refine lv_aload_n X.1 X.2.1 dL_closes_74 rfl (lv_at hl 3 rfl) ?_
            refine lv_iload X.1 X.2.1 dL_closes_75 (lv_at hl 0 rfl) ?_
            refine lv_aload_n X.1 X.2.1 dL_closes_77 rfl (lv_at hl 6 rfl) ?_
            refine lv_iload X.1 X.2.1 dL_closes_78 (lv_at hl 0 rfl) ?_
            refine x_callV X hK hw (k := 0) (As := [.int (nI b)]) (rest := [.int (nI b), .ref (ad 115)]) (w_placeNow hI (by omega) hJ.1.1 hOB (nI b) (fun g t tm hE => a_plc_no hJ hc hk hE hopn (by omega) tm)) (x_cwV yX7_placeNow cX7_placeNow 2 (some .int) 1 X q828 q829 q830 q1 q831 hd_X7_placeNow ⟨(Nat.le_of_ble_eq_true rfl), (Nat.le_of_ble_eq_true rfl)⟩) (by omega) hOB.ma rfl rfl hl.1 rfl (Nat.le_of_ble_eq_true rfl) dL_closes_80 ⟨(Nat.le_of_ble_eq_true rfl), (Nat.le_of_ble_eq_true rfl)⟩ (fun v23 F24 H locs hp hw => ?_)
            obtain ⟨e25, hO26, hf27⟩ := hp
            refine x_top e25 ?_
            have hT28 := (hf27 115 (by omega)).trans hT1
            replace hfr := hfr.tr hf27 (by omega) (by omega)
            refine x_iastN2 X hI hK hw (k := 115) (by omega) hT28 (i := nI b) (j := b) rfl (by omega) (by omega) dL_closes_83 (fun F29 H locs eF30 hw => ?_)
            have hT31 : F29 115 = .inl (cI, 9, .inl (upd f1 b ((-4)))) := by rw [eF30]; exact up_a
            have hr32 := fr_eq eF30 (Nat.le_refl _) (Nat.lt_succ_self _)
            have hO33 := hO26.cg hr32 (by omega)
            replace hfr := hfr.tr hr32 (by omega) (by omega)
            refine lv_iinc (v := nI (b + 1)) (lv' := [(6, .int (nI (b + 1))), (5, .int (nI 0)), (4, .int (nI 0)), (3, .ref (ad 115)), (2, .int (nI (A 1))), (1, .int ((-1))), (0, .ref (ad 0))]) X.1 X.2.1 dL_closes_84 hl (k := 0) rfl (by first | exact nI_1 _ | exact nI_add _ _ | rfl) (by decide) rfl (fun ls hl => ?_)
            refine lv_goto (tgt := 68) X.1 X.2.1 dL_closes_87 (by decide) ?_
            exact ih (b + 1) F29 (upd f1 b ((-4))) (by omega) (by omega) hT31 (ar_m hfa) hO33 hfr _ _ hw _ (lv_sub hl [0, 1, 2, 3, 4, 5, 6] rfl)
      exact loop68 (A 1) 0 F3 (fun _ => 0) (by omega) (by omega) hT7 (fun i hi => absurd hi (by omega)) hO5 hfr _ _ hw _ (lv_sub hl [0, 1, 2, 3, 4, 5, 6] rfl)
    · exact absurd ((nI_eq (by omega) (by omega)).mp c8) (by omega)
set_option maxHeartbeats 4000000 in
set_option maxRecDepth 100000 in
theorem closes_r {p : Program} {l : Launch} {e : Env} {s : State} {m : MethodId} {args : Array Value} {below : List Frame} {meth : Method} {c : Code} {H : Heap} {locs : List Loc} {Q : State → Prop} {ls : Array Slot} {D : va_G} {cI cB cS : ClassId} {ad : Nat → Nat} {F : Nat → va_E} {Aw : Nat → Prop} (X : CallFix p m c cL_closes 8 s args lw_g yL_closes.cls) (hI : iN ad 116) (hK : KW D cI cB cS Aw s) (hw : HW D Aw ad 116 F s H locs) {ca : Nat} {hs : Int32} {A A3 : Nat → Nat} (hJ : HJ ca A) (hc : ca ≤ 512) (hk : A 0 ≤ 999999) (hO : OB ad cI cB cS F hs A A3) (hT : F 115 = .inl (cI, 9, .inl (fun _ => 0))) {r : Nat} (hrA : r + 1 = A 2) (hl : lv_has ls 8 [(2, .int (nI (A 1))), (1, .int (nI r)), (0, .ref (ad 0))]) (kend : ∀ (pc : Nat) (_ : decode cL_closes pc = .ok (.ireturn, 1)) (F' : Nat → va_E) (H : Heap) (locs : List Loc) (ls : Array Slot), HW D Aw ad 116 F' s H locs → ACT ad cI cB cS F' ca A → FrD F F' → W p l e { frames := 7, cells := 1, slots := 9, locals := 200 } s m args below meth c H locs 1 9 Q (F0 m pc ls [.int (nI 1)])) : W p l e { frames := 7, cells := 1, slots := 9, locals := 200 } s m args below meth c H locs 1 9 Q (F0 m 18 ls [.ref (ad 115)]) := by
  have hN : 116 ≤ 116 := Nat.le_refl _
  have h9 := hJ.1.1
  have h6 := hJ.1.2.1
  have h10 := hJ.1.2.2.1
  have hl2 := (lat_le hJ).1
  have hfr : FrD F F := fun _ _ _ => rfl
  have hst := hJ.st hc hk (by omega)
  rw [show A 2 - 1 = r by omega] at hst
  have hfe := (fin_eq (A := A) (r := r) (fun b hb => (hJ.bj (by omega) hb).1) (A 1) (Nat.le_refl _)).2
  by_cases hopn : opn A
  · have hl1 : latN A = 1 := (lat_op hJ).mpr hopn
    refine lv_astore_n (lv' := [(3, .ref (ad 115)), (2, .int (nI (A 1))), (1, .int (nI r)), (0, .ref (ad 0))]) X.1 X.2.1 dL_closes_18 rfl hl (by decide) rfl (fun ls hl => ?_)
    refine lv_iload_n X.1 X.2.1 dL_closes_19 rfl (lv_at hl 2 rfl) ?_
    refine lv_if_ge (tgt := 27) X.1 X.2.1 dL_closes_20 (by decide) (fun c1 => ?_) (fun c1 => ?_)
    · have n2 := (bz_ge (by omega)).mp c1
      refine lv_aload_n X.1 X.2.1 dL_closes_27 rfl (lv_at hl 3 rfl) ?_
      refine lv_iload_n X.1 X.2.1 dL_closes_28 rfl (lv_at hl 2 rfl) ?_
      refine lv_iconst (v := nI 4) X.1 X.2.1 dL_closes_29 (by decide) ?_
      refine x_callV X hK hw (k := 0) (As := [.int (nI r), .int (nI 4)]) (rest := []) (w_race hI (by omega) hJ.1.1 hO (nI r) (nI 4) (fun g t tm hE => a_rac4 hJ hc hk hE (by omega) tm)) (x_cwV yX7_race cX7_race 3 (some .int) 2 X q804 q805 q806 q1 q807 hd_X7_race ⟨(Nat.le_of_ble_eq_true rfl), (Nat.le_of_ble_eq_true rfl)⟩) (by omega) hO.ma rfl rfl hl.1 rfl (Nat.le_of_ble_eq_true rfl) dL_closes_30 ⟨(Nat.le_of_ble_eq_true rfl), (Nat.le_of_ble_eq_true rfl)⟩ (fun v3 F4 H locs hp hw => ?_)
      obtain ⟨e5, hO6, hf7⟩ := hp
      refine x_top e5 ?_
      have hT8 := (hf7 115 (by omega)).trans hT
      replace hfr := hfr.tr hf7 (by omega) (by omega)
      refine lv_istore (lv' := [(4, .int (nI (finN A r (A 1)))), (3, .ref (ad 115)), (2, .int (nI (A 1))), (1, .int (nI r)), (0, .ref (ad 0))]) X.1 X.2.1 dL_closes_33 hl (by decide) rfl (fun ls hl => ?_)
      refine lv_aload_n X.1 X.2.1 dL_closes_35 rfl (lv_at hl 4 rfl) ?_
      refine lv_iconst (v := nI 4) X.1 X.2.1 dL_closes_36 (by decide) ?_
      refine x_callV X hK hw (k := 0) (As := [.int (nI 4)]) (rest := []) (w_count hI (by omega) hO6 (nI 4) (fun g t z n hE => a_cou4 hJ hc hk hE z n)) (x_cwV yX7_count cX7_count 2 (some .int) 1 X q818 q819 q820 q1 q821 hd_X7_count ⟨(Nat.le_of_ble_eq_true rfl), (Nat.le_of_ble_eq_true rfl)⟩) (by omega) hO6.ma rfl rfl hl.1 rfl (Nat.le_of_ble_eq_true rfl) dL_closes_37 ⟨(Nat.le_of_ble_eq_true rfl), (Nat.le_of_ble_eq_true rfl)⟩ (fun v9 F10 H locs hp hw => ?_)
      obtain ⟨e11, hO12, hf13⟩ := hp
      refine x_top e11 ?_
      have hT14 := (hf13 115 (by omega)).trans hT8
      replace hfr := hfr.tr hf13 (by omega) (by omega)
      refine lv_iconst (v := nI 1) X.1 X.2.1 dL_closes_40 (by decide) ?_
      refine lv_icmp_ne (tgt := 62) X.1 X.2.1 dL_closes_41 (by decide) (fun c15 => ?_) (fun c15 => ?_)
      · exact absurd ((nI_eq (by omega) (by omega)).mpr (by omega)) c15
      · have n16 := (nI_eq (by omega) (by omega)).mp c15
        refine lv_aload_n X.1 X.2.1 dL_closes_44 rfl (lv_at hl 4 rfl) ?_
        refine lv_iconst (v := nI 3) X.1 X.2.1 dL_closes_45 (by decide) ?_
        refine x_callV X hK hw (k := 0) (As := [.int (nI 3)]) (rest := []) (w_count hI (by omega) hO12 (nI 3) (fun g t z n hE => a_cou3 hJ hc hk hE z n)) (x_cwV yX7_count cX7_count 2 (some .int) 1 X q818 q819 q820 q1 q821 hd_X7_count ⟨(Nat.le_of_ble_eq_true rfl), (Nat.le_of_ble_eq_true rfl)⟩) (by omega) hO12.ma rfl rfl hl.1 rfl (Nat.le_of_ble_eq_true rfl) dL_closes_46 ⟨(Nat.le_of_ble_eq_true rfl), (Nat.le_of_ble_eq_true rfl)⟩ (fun v17 F18 H locs hp hw => ?_)
        obtain ⟨e19, hO20, hf21⟩ := hp
        refine x_top e19 ?_
        have hT22 := (hf21 115 (by omega)).trans hT14
        replace hfr := hfr.tr hf21 (by omega) (by omega)
        refine lv_aload_n X.1 X.2.1 dL_closes_49 rfl (lv_at hl 4 rfl) ?_
        refine lv_iload_n X.1 X.2.1 dL_closes_50 rfl (lv_at hl 3 rfl) ?_
        refine lv_iconst (v := nI 2) X.1 X.2.1 dL_closes_51 (by decide) ?_
        refine x_callV X hK hw (k := 0) (As := [.int (nI r), .int (nI 2)]) (rest := [.int (nI (A 0))]) (w_race hI (by omega) hJ.1.1 hO20 (nI r) (nI 2) (fun g t tm hE => a_rac2 hJ hc hk hE (by omega) tm)) (x_cwV yX7_race cX7_race 3 (some .int) 2 X q804 q805 q806 q1 q807 hd_X7_race ⟨(Nat.le_of_ble_eq_true rfl), (Nat.le_of_ble_eq_true rfl)⟩) (by omega) hO20.ma rfl rfl hl.1 rfl (Nat.le_of_ble_eq_true rfl) dL_closes_52 ⟨(Nat.le_of_ble_eq_true rfl), (Nat.le_of_ble_eq_true rfl)⟩ (fun v23 F24 H locs hp hw => ?_)
        obtain ⟨e25, hO26, hf27⟩ := hp
        refine x_top e25 ?_
        have hT28 := (hf27 115 (by omega)).trans hT22
        replace hfr := hfr.tr hf27 (by omega) (by omega)
        refine lv_icmp_lt (tgt := 62) X.1 X.2.1 dL_closes_55 (by decide) (fun c29 => ?_) (fun c29 => ?_)
        · have n30 := (br_lt (by omega) (by omega)).mp c29
          refine lv_iconst (v := nI 0) X.1 X.2.1 dL_closes_62 (by decide) ?_
          refine lv_istore (lv' := [(5, .int (nI 0)), (4, .int (nI (finN A r (A 1)))), (3, .ref (ad 115)), (2, .int (nI (A 1))), (1, .int (nI r)), (0, .ref (ad 0))]) X.1 X.2.1 dL_closes_63 hl (by decide) rfl (fun ls hl => ?_)
          refine lv_iconst (v := nI 0) X.1 X.2.1 dL_closes_65 (by decide) ?_
          refine lv_istore (lv' := [(6, .int (nI 0)), (5, .int (nI 0)), (4, .int (nI (finN A r (A 1)))), (3, .ref (ad 115)), (2, .int (nI (A 1))), (1, .int (nI r)), (0, .ref (ad 0))]) X.1 X.2.1 dL_closes_66 hl (by decide) rfl (fun ls hl => ?_)
          have way68 : ∀ (b : Nat) (F1 : Nat → va_E) (f1 : Nat → Int32) (hb1 : b ≤ A 1) (hT1 : F1 115 = .inl (cI, 9, .inl f1)) (hfa : ∀ i, i < b → f1 i = m_place (arr A) r i (A 1)) (hOB : OB ad cI cB cS F1 hs A A3) (hfr : FrD F F1) (hx : A 1 ≤ b) (H : Heap) (locs : List Loc) (hw : HW D Aw ad 116 F1 s H locs) (ls : Array Slot) (hl : lv_has ls 8 [(6, .int (nI b)), (5, .int (nI 0)), (4, .int (nI (finN A r (A 1)))), (3, .ref (ad 115)), (2, .int (nI (A 1))), (1, .int (nI r)), (0, .ref (ad 0))]), W p l e { frames := 7, cells := 1, slots := 9, locals := 200 } s m args below meth c H locs 1 9 Q (F0 m 90 ls []) := by
            intro b F1 f1 hb1 hT1 hfa hOB hfr hx H locs hw ls hl
            refine lv_aload_n X.1 X.2.1 dL_closes_90 rfl (lv_at hl 6 rfl) ?_
            refine x_callV X hK hw (k := 0) (As := []) (rest := []) (w_close hI (by omega) hOB hJ.1.1 (fun g t hE => a_close_no hJ hc hk (fun _ => by rw [show A 2 - 1 = r by omega]; omega) hE)) (x_cwV yX7_close cX7_close 1 (some .int) 0 X q399 q400 q401 q1 q402 hd_X7_close ⟨(Nat.le_of_ble_eq_true rfl), (Nat.le_of_ble_eq_true rfl)⟩) (by omega) hOB.ma rfl rfl hl.1 rfl (Nat.le_of_ble_eq_true rfl) dL_closes_91 ⟨(Nat.le_of_ble_eq_true rfl), (Nat.le_of_ble_eq_true rfl)⟩ (fun v31 F32 H locs hp hw => ?_)
            obtain ⟨e33, hO34, hf35⟩ := hp
            refine x_top e33 ?_
            have hT36 := (hf35 115 (by omega)).trans hT1
            replace hfr := hfr.tr hf35 (by omega) (by omega)
            refine lv_istore (lv' := [(6, .int ((-4))), (5, .int (nI 0)), (4, .int (nI (finN A r (A 1)))), (3, .ref (ad 115)), (2, .int (nI (A 1))), (1, .int (nI r)), (0, .ref (ad 0))]) X.1 X.2.1 dL_closes_94 hl (by decide) rfl (fun ls hl => ?_)
            refine lv_iload X.1 X.2.1 dL_closes_96 (lv_at hl 1 rfl) ?_
            refine lv_if_ne (tgt := 114) X.1 X.2.1 dL_closes_98 (by decide) (fun c37 => ?_) (fun c37 => ?_)
            · exact absurd (by decide) c37
            · refine lv_iload X.1 X.2.1 dL_closes_101 (lv_at hl 0 rfl) ?_
              refine lv_bipush (v := (-4)) X.1 X.2.1 dL_closes_103 (by decide) ?_
              refine lv_icmp_ne (tgt := 112) X.1 X.2.1 dL_closes_105 (by decide) (fun c38 => ?_) (fun c38 => ?_)
              · exact absurd (by decide) c38
              · refine lv_iconst (v := nI 1) X.1 X.2.1 dL_closes_108 (by decide) ?_
                refine lv_goto (tgt := 113) X.1 X.2.1 dL_closes_109 (by decide) ?_
                exact kend _ dL_closes_113 _ _ _ _ hw (ACT.same hJ hO34) hfr
          have loop68 : ∀ (fu : Nat) (b : Nat) (F1 : Nat → va_E) (f1 : Nat → Int32) (hfu : A 1 ≤ b + fu) (hb1 : b ≤ A 1) (hT1 : F1 115 = .inl (cI, 9, .inl f1)) (hfa : ∀ i, i < b → f1 i = m_place (arr A) r i (A 1)) (hOB : OB ad cI cB cS F1 hs A A3) (hfr : FrD F F1) (H : Heap) (locs : List Loc) (hw : HW D Aw ad 116 F1 s H locs) (ls : Array Slot) (hl : lv_has ls 8 [(6, .int (nI b)), (5, .int (nI 0)), (4, .int (nI (finN A r (A 1)))), (3, .ref (ad 115)), (2, .int (nI (A 1))), (1, .int (nI r)), (0, .ref (ad 0))]), W p l e { frames := 7, cells := 1, slots := 9, locals := 200 } s m args below meth c H locs 1 9 Q (F0 m 68 ls []) := by
            intro fu
            induction fu with
            | zero =>
              intro b F1 f1 hfu hb1 hT1 hfa hOB hfr H locs hw ls hl
              refine lv_iload X.1 X.2.1 dL_closes_68 (lv_at hl 0 rfl) ?_
              refine lv_iload_n X.1 X.2.1 dL_closes_70 rfl (lv_at hl 4 rfl) ?_
              refine lv_icmp_ge (tgt := 90) X.1 X.2.1 dL_closes_71 (by decide) (fun c39 => ?_) (fun c39 => ?_)
              · have n40 := (nI_leI (by omega) (by omega)).mp c39
                exact way68 b F1 f1 hb1 hT1 hfa hOB hfr n40 _ _ hw _ (lv_sub hl [0, 1, 2, 3, 4, 5, 6] rfl)
              · exact absurd ((nI_leI (by omega) (by omega)).mpr (by omega)) c39
            | succ fu ih =>
              intro b F1 f1 hfu hb1 hT1 hfa hOB hfr H locs hw ls hl
              refine lv_iload X.1 X.2.1 dL_closes_68 (lv_at hl 0 rfl) ?_
              refine lv_iload_n X.1 X.2.1 dL_closes_70 rfl (lv_at hl 4 rfl) ?_
              refine lv_icmp_ge (tgt := 90) X.1 X.2.1 dL_closes_71 (by decide) (fun c41 => ?_) (fun c41 => ?_)
              · have n42 := (nI_leI (by omega) (by omega)).mp c41
                exact way68 b F1 f1 hb1 hT1 hfa hOB hfr n42 _ _ hw _ (lv_sub hl [0, 1, 2, 3, 4, 5, 6] rfl)
              · have n43 : ¬ (A 1) ≤ b := fun z => c41 ((nI_leI (by omega) (by omega)).mpr z)
                refine lv_aload_n X.1 X.2.1 dL_closes_74 rfl (lv_at hl 3 rfl) ?_
                refine lv_iload X.1 X.2.1 dL_closes_75 (lv_at hl 0 rfl) ?_
                refine lv_aload_n X.1 X.2.1 dL_closes_77 rfl (lv_at hl 6 rfl) ?_
                refine lv_iload X.1 X.2.1 dL_closes_78 (lv_at hl 0 rfl) ?_
                refine x_callV X hK hw (k := 0) (As := [.int (nI b)]) (rest := [.int (nI b), .ref (ad 115)]) (w_placeNow hI (by omega) hJ.1.1 hOB (nI b) (fun g t tm hE => (a_plc_r hrA hJ hc hk hE hopn (by omega) tm).trans (place_n hJ hc hk (by omega) (by omega)).symm)) (x_cwV yX7_placeNow cX7_placeNow 2 (some .int) 1 X q828 q829 q830 q1 q831 hd_X7_placeNow ⟨(Nat.le_of_ble_eq_true rfl), (Nat.le_of_ble_eq_true rfl)⟩) (by omega) hOB.ma rfl rfl hl.1 rfl (Nat.le_of_ble_eq_true rfl) dL_closes_80 ⟨(Nat.le_of_ble_eq_true rfl), (Nat.le_of_ble_eq_true rfl)⟩ (fun v44 F45 H locs hp hw => ?_)
                obtain ⟨e46, hO47, hf48⟩ := hp
                refine x_top e46 ?_
                have hT49 := (hf48 115 (by omega)).trans hT1
                replace hfr := hfr.tr hf48 (by omega) (by omega)
                refine x_iastN2 X hI hK hw (k := 115) (by omega) hT49 (i := nI b) (j := b) rfl (by omega) (by omega) dL_closes_83 (fun F50 H locs eF51 hw => ?_)
                have hT52 : F50 115 = .inl (cI, 9, .inl (upd f1 b (m_place (arr A) r b (A 1)))) := by rw [eF51]; exact up_a
                have hr53 := fr_eq eF51 (Nat.le_refl _) (Nat.lt_succ_self _)
                have hO54 := hO47.cg hr53 (by omega)
                replace hfr := hfr.tr hr53 (by omega) (by omega)
                refine lv_iinc (v := nI (b + 1)) (lv' := [(6, .int (nI (b + 1))), (5, .int (nI 0)), (4, .int (nI (finN A r (A 1)))), (3, .ref (ad 115)), (2, .int (nI (A 1))), (1, .int (nI r)), (0, .ref (ad 0))]) X.1 X.2.1 dL_closes_84 hl (k := 0) rfl (by first | exact nI_1 _ | exact nI_add _ _ | rfl) (by decide) rfl (fun ls hl => ?_)
                refine lv_goto (tgt := 68) X.1 X.2.1 dL_closes_87 (by decide) ?_
                exact ih (b + 1) F50 (upd f1 b (m_place (arr A) r b (A 1))) (by omega) (by omega) hT52 (ar_m hfa) hO54 hfr _ _ hw _ (lv_sub hl [0, 1, 2, 3, 4, 5, 6] rfl)
          exact loop68 (A 1) 0 F24 (fun _ => 0) (by omega) (by omega) hT28 (fun i hi => absurd hi (by omega)) hO26 hfr _ _ hw _ (lv_sub hl [0, 1, 2, 3, 4, 5, 6] rfl)
        · have n55 : ¬ (A 0) < (rA A r 2) := fun z => c29 ((br_lt (by omega) (by omega)).mpr z)
          refine lv_iconst (v := nI 1) X.1 X.2.1 dL_closes_58 (by decide) ?_
          refine lv_goto (tgt := 63) X.1 X.2.1 dL_closes_59 (by decide) ?_
          refine lv_istore (lv' := [(5, .int (nI 1)), (4, .int (nI (finN A r (A 1)))), (3, .ref (ad 115)), (2, .int (nI (A 1))), (1, .int (nI r)), (0, .ref (ad 0))]) X.1 X.2.1 dL_closes_63 hl (by decide) rfl (fun ls hl => ?_)
          refine lv_iconst (v := nI 0) X.1 X.2.1 dL_closes_65 (by decide) ?_
          refine lv_istore (lv' := [(6, .int (nI 0)), (5, .int (nI 1)), (4, .int (nI (finN A r (A 1)))), (3, .ref (ad 115)), (2, .int (nI (A 1))), (1, .int (nI r)), (0, .ref (ad 0))]) X.1 X.2.1 dL_closes_66 hl (by decide) rfl (fun ls hl => ?_)
          have way68 : ∀ (b : Nat) (F1 : Nat → va_E) (f1 : Nat → Int32) (hb1 : b ≤ A 1) (hT1 : F1 115 = .inl (cI, 9, .inl f1)) (hfa : ∀ i, i < b → f1 i = m_place (arr A) r i (A 1)) (hOB : OB ad cI cB cS F1 hs A A3) (hfr : FrD F F1) (hx : A 1 ≤ b) (H : Heap) (locs : List Loc) (hw : HW D Aw ad 116 F1 s H locs) (ls : Array Slot) (hl : lv_has ls 8 [(6, .int (nI b)), (5, .int (nI 1)), (4, .int (nI (finN A r (A 1)))), (3, .ref (ad 115)), (2, .int (nI (A 1))), (1, .int (nI r)), (0, .ref (ad 0))]), W p l e { frames := 7, cells := 1, slots := 9, locals := 200 } s m args below meth c H locs 1 9 Q (F0 m 90 ls []) := by
            intro b F1 f1 hb1 hT1 hfa hOB hfr hx H locs hw ls hl
            refine lv_aload_n X.1 X.2.1 dL_closes_90 rfl (lv_at hl 6 rfl) ?_
            refine x_callV X hK hw (k := 0) (As := []) (rest := []) (w_close hI (by omega) hOB hJ.1.1 (fun g t hE => a_close_ok_r hrA hJ hk hopn (by omega) hE)) (x_cwV yX7_close cX7_close 1 (some .int) 0 X q399 q400 q401 q1 q402 hd_X7_close ⟨(Nat.le_of_ble_eq_true rfl), (Nat.le_of_ble_eq_true rfl)⟩) (by omega) hOB.ma rfl rfl hl.1 rfl (Nat.le_of_ble_eq_true rfl) dL_closes_91 ⟨(Nat.le_of_ble_eq_true rfl), (Nat.le_of_ble_eq_true rfl)⟩ (fun v56 F57 H locs hp hw => ?_)
            obtain ⟨e58, hO59, hf60⟩ := hp
            refine x_top e58 ?_
            have hT61 := (hf60 115 (by omega)).trans hT1
            replace hfr := hfr.tr hf60 (by omega) (by omega)
            obtain ⟨B62, hB62⟩ : ∃ y, y = nup A (16 + 4 * r + 3) 1 := ⟨_, rfl⟩
            rw [← hB62] at hO59
            have jB62 : HJ ca B62 := by rw [hB62]; exact j_close_r hrA hJ hopn
            have eB62 : ∀ i, i ≠ 16 + 4 * r + 3 → B62 i = A i := fun i hi => by rw [hB62]; exact nup_ne hi
            have b0B62 : B62 0 = A 0 := eB62 0 (by omega)
            have b1B62 : B62 1 = A 1 := eB62 1 (by omega)
            have b2B62 : B62 2 = A 2 := eB62 2 (by omega)
            have c3B62 : rA B62 r 3 = 1 := by rw [hB62]; exact nup_at
            have nopB62 : ¬ opn B62 := fun q => by have := (opn_r (A := B62) (r := r) (by omega)).mp q; omega
            have nlB62 : ncl B62 = B62 2 := by have := ncl_lat jB62; have h := (lat_op jB62); rcases this with ⟨h1, _⟩ | ⟨_, h2⟩; (exact absurd (h.mp h1) nopB62); exact h2
            have ltB62 : latN B62 = 2 := by unfold latN; rw [if_neg (by omega), show B62 2 - 1 = r by omega, c3B62]
            have mB62 : ∀ k, k < A 3 → pA A k 3 ≤ pA B62 k 3 := fun k hk => by rw [show pA B62 k 3 = pA A k 3 from eB62 _ (by omega)]; exact Nat.le_refl _
            refine lv_istore (lv' := [(6, .int (nI (finN A r (A 1)))), (5, .int (nI 1)), (4, .int (nI (finN A r (A 1)))), (3, .ref (ad 115)), (2, .int (nI (A 1))), (1, .int (nI r)), (0, .ref (ad 0))]) X.1 X.2.1 dL_closes_94 hl (by decide) rfl (fun ls hl => ?_)
            refine lv_iload X.1 X.2.1 dL_closes_96 (lv_at hl 1 rfl) ?_
            refine lv_if_ne (tgt := 114) X.1 X.2.1 dL_closes_98 (by decide) (fun c63 => ?_) (fun c63 => ?_)
            · refine lv_iconst (v := nI 0) X.1 X.2.1 dL_closes_114 (by decide) ?_
              refine lv_istore (lv' := [(7, .int (nI 0)), (6, .int (nI (finN A r (A 1)))), (5, .int (nI 1)), (4, .int (nI (finN A r (A 1)))), (3, .ref (ad 115)), (2, .int (nI (A 1))), (1, .int (nI r)), (0, .ref (ad 0))]) X.1 X.2.1 dL_closes_115 hl (by decide) rfl (fun ls hl => ?_)
              have way117 : ∀ (b : Nat) (F2 : Nat → va_E) (hb2 : b ≤ A 1) (hT2 : F2 115 = .inl (cI, 9, .inl f1)) (hOC : OB ad cI cB cS F2 hs B62 A3) (hfr : FrD F F2) (hx2 : A 1 ≤ b) (H : Heap) (locs : List Loc) (hw : HW D Aw ad 116 F2 s H locs) (ls : Array Slot) (hl : lv_has ls 8 [(7, .int (nI b)), (6, .int (nI (finN A r (A 1)))), (5, .int (nI 1)), (4, .int (nI (finN A r (A 1)))), (3, .ref (ad 115)), (2, .int (nI (A 1))), (1, .int (nI r)), (0, .ref (ad 0))]), W p l e { frames := 7, cells := 1, slots := 9, locals := 200 } s m args below meth c H locs 1 9 Q (F0 m 175 ls []) := by
                intro b F2 hb2 hT2 hOC hfr hx2 H locs hw ls hl
                refine lv_iload X.1 X.2.1 dL_closes_175 (lv_at hl 1 rfl) ?_
                refine lv_iload X.1 X.2.1 dL_closes_177 (lv_at hl 3 rfl) ?_
                refine lv_icmp_ne (tgt := 195) X.1 X.2.1 dL_closes_179 (by decide) (fun c64 => ?_) (fun c64 => ?_)
                · exact absurd ((nI_eq (by omega) (by omega)).mpr (by omega)) c64
                · have n65 := (nI_eq (by omega) (by omega)).mp c64
                  refine lv_aload_n X.1 X.2.1 dL_closes_182 rfl (lv_at hl 7 rfl) ?_
                  refine lv_iconst (v := nI 4) X.1 X.2.1 dL_closes_183 (by decide) ?_
                  refine x_callV X hK hw (k := 0) (As := [.int (nI 4)]) (rest := []) (w_count hI (by omega) hOC (nI 4) (fun g t z n hE => a_cou4 jB62 hc (by omega) hE z n)) (x_cwV yX7_count cX7_count 2 (some .int) 1 X q818 q819 q820 q1 q821 hd_X7_count ⟨(Nat.le_of_ble_eq_true rfl), (Nat.le_of_ble_eq_true rfl)⟩) (by omega) hOC.ma rfl rfl hl.1 rfl (Nat.le_of_ble_eq_true rfl) dL_closes_184 ⟨(Nat.le_of_ble_eq_true rfl), (Nat.le_of_ble_eq_true rfl)⟩ (fun v66 F67 H locs hp hw => ?_)
                  obtain ⟨e68, hO69, hf70⟩ := hp
                  refine x_top e68 ?_
                  have hT71 := (hf70 115 (by omega)).trans hT2
                  replace hfr := hfr.tr hf70 (by omega) (by omega)
                  refine lv_iconst (v := nI 2) X.1 X.2.1 dL_closes_187 (by decide) ?_
                  refine lv_icmp_ne (tgt := 195) X.1 X.2.1 dL_closes_188 (by decide) (fun c72 => ?_) (fun c72 => ?_)
                  · exact absurd ((nI_eq (by omega) (by omega)).mpr (by omega)) c72
                  · have n73 := (nI_eq (by omega) (by omega)).mp c72
                    refine lv_iconst (v := nI 1) X.1 X.2.1 dL_closes_191 (by decide) ?_
                    refine lv_goto (tgt := 196) X.1 X.2.1 dL_closes_192 (by decide) ?_
                    exact kend _ dL_closes_196 _ _ _ _ hw (ACT.mk1 jB62 (by omega) (by omega) mB62 hO69) hfr
              have loop117 : ∀ (fu2 : Nat) (b : Nat) (F2 : Nat → va_E) (hfu2 : A 1 ≤ b + fu2) (hb2 : b ≤ A 1) (hT2 : F2 115 = .inl (cI, 9, .inl f1)) (hOC : OB ad cI cB cS F2 hs B62 A3) (hfr : FrD F F2) (H : Heap) (locs : List Loc) (hw : HW D Aw ad 116 F2 s H locs) (ls : Array Slot) (hl : lv_has ls 8 [(7, .int (nI b)), (6, .int (nI (finN A r (A 1)))), (5, .int (nI 1)), (4, .int (nI (finN A r (A 1)))), (3, .ref (ad 115)), (2, .int (nI (A 1))), (1, .int (nI r)), (0, .ref (ad 0))]), W p l e { frames := 7, cells := 1, slots := 9, locals := 200 } s m args below meth c H locs 1 9 Q (F0 m 117 ls []) := by
                intro fu2
                induction fu2 with
                | zero =>
                  intro b F2 hfu2 hb2 hT2 hOC hfr H locs hw ls hl
                  refine lv_iload X.1 X.2.1 dL_closes_117 (lv_at hl 0 rfl) ?_
                  refine lv_iload_n X.1 X.2.1 dL_closes_119 rfl (lv_at hl 5 rfl) ?_
                  refine lv_icmp_ge (tgt := 175) X.1 X.2.1 dL_closes_120 (by decide) (fun c74 => ?_) (fun c74 => ?_)
                  · have n75 := (nI_leI (by omega) (by omega)).mp c74
                    exact way117 b F2 hb2 hT2 hOC hfr n75 _ _ hw _ (lv_sub hl [0, 1, 2, 3, 4, 5, 6, 7] rfl)
                  · exact absurd ((nI_leI (by omega) (by omega)).mpr (by omega)) c74
                | succ fu2 ih2 =>
                  intro b F2 hfu2 hb2 hT2 hOC hfr H locs hw ls hl
                  refine lv_iload X.1 X.2.1 dL_closes_117 (lv_at hl 0 rfl) ?_
                  refine lv_iload_n X.1 X.2.1 dL_closes_119 rfl (lv_at hl 5 rfl) ?_
                  refine lv_icmp_ge (tgt := 175) X.1 X.2.1 dL_closes_120 (by decide) (fun c76 => ?_) (fun c76 => ?_)
                  · have n77 := (nI_leI (by omega) (by omega)).mp c76
                    exact way117 b F2 hb2 hT2 hOC hfr n77 _ _ hw _ (lv_sub hl [0, 1, 2, 3, 4, 5, 6, 7] rfl)
                  · have n78 : ¬ (A 1) ≤ b := fun z => c76 ((nI_leI (by omega) (by omega)).mpr z)
                    refine lv_aload_n X.1 X.2.1 dL_closes_123 rfl (lv_at hl 7 rfl) ?_
                    refine lv_iload_n X.1 X.2.1 dL_closes_124 rfl (lv_at hl 6 rfl) ?_
                    refine lv_iload X.1 X.2.1 dL_closes_125 (lv_at hl 0 rfl) ?_
                    refine lv_bipush (v := nI 7) X.1 X.2.1 dL_closes_127 (by decide) ?_
                    refine x_callV X hK hw (k := 0) (As := [.int (nI r), .int (nI b), .int (nI 7)]) (rest := []) (w_result hI (by omega) jB62.1.1 hOC (nI r) (nI b) (nI 7) (fun g t tm hE => ((a_res7 jB62 hc (by omega) hE (by omega) (by omega) tm).trans (if_pos c3B62)).trans ((congrArg (m_place (arr B62) r b) b1B62).trans (pl_cls hJ jB62 hc hk (by omega) (by omega) eB62)))) (x_cwV yX7_result cX7_result 4 (some .int) 3 X q695 q696 q697 q1 q698 hd_X7_result ⟨(Nat.le_of_ble_eq_true rfl), (Nat.le_of_ble_eq_true rfl)⟩) (by omega) hOC.ma rfl rfl hl.1 rfl (Nat.le_of_ble_eq_true rfl) dL_closes_129 ⟨(Nat.le_of_ble_eq_true rfl), (Nat.le_of_ble_eq_true rfl)⟩ (fun v79 F80 H locs hp hw => ?_)
                    obtain ⟨e81, hO82, hf83⟩ := hp
                    refine x_top e81 ?_
                    have hT84 := (hf83 115 (by omega)).trans hT2
                    replace hfr := hfr.tr hf83 (by omega) (by omega)
                    refine lv_aload_n X.1 X.2.1 dL_closes_132 rfl (lv_at hl 4 rfl) ?_
                    refine lv_iload X.1 X.2.1 dL_closes_133 (lv_at hl 0 rfl) ?_
                    refine x_ialdN X hK hw (k := 115) (by omega) hT84 (i := nI b) (j := b) rfl (by omega) (by omega) dL_closes_135 ?_
                    refine x_top (hfa b (by omega)) ?_
                    refine lv_icmp_ne (tgt := 167) X.1 X.2.1 dL_closes_136 (by decide) (fun c85 => ?_) (fun c85 => ?_)
                    · exact absurd rfl c85
                    · refine lv_aload_n X.1 X.2.1 dL_closes_139 rfl (lv_at hl 7 rfl) ?_
                      refine lv_iload X.1 X.2.1 dL_closes_140 (lv_at hl 0 rfl) ?_
                      refine x_callV X hK hw (k := 0) (As := [.int (nI b)]) (rest := []) (w_placeNow hI (by omega) jB62.1.1 hO82 (nI b) (fun g t tm hE => a_plc_no jB62 hc (by omega) hE nopB62 (by omega) tm)) (x_cwV yX7_placeNow cX7_placeNow 2 (some .int) 1 X q828 q829 q830 q1 q831 hd_X7_placeNow ⟨(Nat.le_of_ble_eq_true rfl), (Nat.le_of_ble_eq_true rfl)⟩) (by omega) hO82.ma rfl rfl hl.1 rfl (Nat.le_of_ble_eq_true rfl) dL_closes_142 ⟨(Nat.le_of_ble_eq_true rfl), (Nat.le_of_ble_eq_true rfl)⟩ (fun v86 F87 H locs hp hw => ?_)
                      obtain ⟨e88, hO89, hf90⟩ := hp
                      refine x_top e88 ?_
                      have hT91 := (hf90 115 (by omega)).trans hT84
                      replace hfr := hfr.tr hf90 (by omega) (by omega)
                      refine lv_bipush (v := (-4)) X.1 X.2.1 dL_closes_145 (by decide) ?_
                      refine lv_icmp_ne (tgt := 167) X.1 X.2.1 dL_closes_147 (by decide) (fun c92 => ?_) (fun c92 => ?_)
                      · exact absurd (by decide) c92
                      · refine lv_aload_n X.1 X.2.1 dL_closes_150 rfl (lv_at hl 7 rfl) ?_
                        refine lv_iload X.1 X.2.1 dL_closes_151 (lv_at hl 0 rfl) ?_
                        refine lv_iload_n X.1 X.2.1 dL_closes_153 rfl (lv_at hl 6 rfl) ?_
                        have hrb := rk_b (AH (arr (ep B62 r b 4 1)) (B62 1) (ncl B62)) b (B62 1)
                        have hrb2 : rqN B62 r b ≤ B62 1 + 1 := hrb
                        have hro : rkN B62 b ≤ rqN B62 r b := rank_out jB62 hc (by omega) (by omega) (by omega)
                        have hrn := rkN_b jB62 (b := b) (by omega)
                        refine x_callV X hK hw (k := 0) (As := [.int (nI b), .int (nI r)]) (rest := []) (w_rankIfDisqualified hI (by omega) jB62 hO89 (nI b) (nI r) (fun g t tm pt sm tl hE => a_rid jB62 hc (by omega) hE (by omega) (by omega) tm pt sm tl)) (x_cwV yX7_rankIfDisqualified cX7_rankIfDisqualified 3 (some .int) 2 X q849 q850 q851 q1 q852 hd_X7_rankIfDisqualified ⟨(Nat.le_of_ble_eq_true rfl), (Nat.le_of_ble_eq_true rfl)⟩) (by omega) hO89.ma rfl rfl hl.1 rfl (Nat.le_of_ble_eq_true rfl) dL_closes_154 ⟨(Nat.le_of_ble_eq_true rfl), (Nat.le_of_ble_eq_true rfl)⟩ (fun v93 F94 H locs hp hw => ?_)
                        obtain ⟨e95, hO96, hf97⟩ := hp
                        refine x_top e95 ?_
                        have hT98 := (hf97 115 (by omega)).trans hT91
                        replace hfr := hfr.tr hf97 (by omega) (by omega)
                        refine lv_aload_n X.1 X.2.1 dL_closes_157 rfl (lv_at hl 7 rfl) ?_
                        refine lv_iload X.1 X.2.1 dL_closes_158 (lv_at hl 0 rfl) ?_
                        refine lv_iconst (v := nI 2) X.1 X.2.1 dL_closes_160 (by decide) ?_
                        refine x_callV X hK hw (k := 0) (As := [.int (nI b), .int (nI 2)]) (rest := [.int (nI (rqN B62 r b))]) (w_boat hI (by omega) jB62 hO96 (nI b) (nI 2) (fun g t tm pt sm tl hE => a_boa2 jB62 hc (by omega) hE (by omega) tm pt sm tl)) (x_cwV yX7_boat cX7_boat 3 (some .int) 2 X q755 q756 q757 q1 q758 hd_X7_boat ⟨(Nat.le_of_ble_eq_true rfl), (Nat.le_of_ble_eq_true rfl)⟩) (by omega) hO96.ma rfl rfl hl.1 rfl (Nat.le_of_ble_eq_true rfl) dL_closes_161 ⟨(Nat.le_of_ble_eq_true rfl), (Nat.le_of_ble_eq_true rfl)⟩ (fun v99 F100 H locs hp hw => ?_)
                        obtain ⟨e101, hO102, hf103⟩ := hp
                        refine x_top e101 ?_
                        have hT104 := (hf103 115 (by omega)).trans hT98
                        replace hfr := hfr.tr hf103 (by omega) (by omega)
                        refine lv_icmp_ge (tgt := 169) X.1 X.2.1 dL_closes_164 (by decide) (fun c105 => ?_) (fun c105 => ?_)
                        · have n106 := (nI_leI (by omega) (by omega)).mp c105
                          refine lv_iinc (v := nI (b + 1)) (lv' := [(7, .int (nI (b + 1))), (6, .int (nI (finN A r (A 1)))), (5, .int (nI 1)), (4, .int (nI (finN A r (A 1)))), (3, .ref (ad 115)), (2, .int (nI (A 1))), (1, .int (nI r)), (0, .ref (ad 0))]) X.1 X.2.1 dL_closes_169 hl (k := 0) rfl (by first | exact nI_1 _ | exact nI_add _ _ | rfl) (by decide) rfl (fun ls hl => ?_)
                          refine lv_goto (tgt := 117) X.1 X.2.1 dL_closes_172 (by decide) ?_
                          exact ih2 (b + 1) F100 (by omega) (by omega) hT104 hO102 hfr _ _ hw _ (lv_sub hl [0, 1, 2, 3, 4, 5, 6, 7] rfl)
                        · exact absurd ((nI_leI (by omega) (by omega)).mpr (by omega)) c105
              exact loop117 (A 1) 0 F57 (by omega) (by omega) hT61 hO59 hfr _ _ hw _ (lv_sub hl [0, 1, 2, 3, 4, 5, 6, 7] rfl)
            · exact absurd c63 (by decide)
          have loop68 : ∀ (fu : Nat) (b : Nat) (F1 : Nat → va_E) (f1 : Nat → Int32) (hfu : A 1 ≤ b + fu) (hb1 : b ≤ A 1) (hT1 : F1 115 = .inl (cI, 9, .inl f1)) (hfa : ∀ i, i < b → f1 i = m_place (arr A) r i (A 1)) (hOB : OB ad cI cB cS F1 hs A A3) (hfr : FrD F F1) (H : Heap) (locs : List Loc) (hw : HW D Aw ad 116 F1 s H locs) (ls : Array Slot) (hl : lv_has ls 8 [(6, .int (nI b)), (5, .int (nI 1)), (4, .int (nI (finN A r (A 1)))), (3, .ref (ad 115)), (2, .int (nI (A 1))), (1, .int (nI r)), (0, .ref (ad 0))]), W p l e { frames := 7, cells := 1, slots := 9, locals := 200 } s m args below meth c H locs 1 9 Q (F0 m 68 ls []) := by
            intro fu
            induction fu with
            | zero =>
              intro b F1 f1 hfu hb1 hT1 hfa hOB hfr H locs hw ls hl
              refine lv_iload X.1 X.2.1 dL_closes_68 (lv_at hl 0 rfl) ?_
              refine lv_iload_n X.1 X.2.1 dL_closes_70 rfl (lv_at hl 4 rfl) ?_
              refine lv_icmp_ge (tgt := 90) X.1 X.2.1 dL_closes_71 (by decide) (fun c107 => ?_) (fun c107 => ?_)
              · have n108 := (nI_leI (by omega) (by omega)).mp c107
                exact way68 b F1 f1 hb1 hT1 hfa hOB hfr n108 _ _ hw _ (lv_sub hl [0, 1, 2, 3, 4, 5, 6] rfl)
              · exact absurd ((nI_leI (by omega) (by omega)).mpr (by omega)) c107
            | succ fu ih =>
              intro b F1 f1 hfu hb1 hT1 hfa hOB hfr H locs hw ls hl
              refine lv_iload X.1 X.2.1 dL_closes_68 (lv_at hl 0 rfl) ?_
              refine lv_iload_n X.1 X.2.1 dL_closes_70 rfl (lv_at hl 4 rfl) ?_
              refine lv_icmp_ge (tgt := 90) X.1 X.2.1 dL_closes_71 (by decide) (fun c109 => ?_) (fun c109 => ?_)
              · have n110 := (nI_leI (by omega) (by omega)).mp c109
                exact way68 b F1 f1 hb1 hT1 hfa hOB hfr n110 _ _ hw _ (lv_sub hl [0, 1, 2, 3, 4, 5, 6] rfl)
              · have n111 : ¬ (A 1) ≤ b := fun z => c109 ((nI_leI (by omega) (by omega)).mpr z)
                refine lv_aload_n X.1 X.2.1 dL_closes_74 rfl (lv_at hl 3 rfl) ?_
                refine lv_iload X.1 X.2.1 dL_closes_75 (lv_at hl 0 rfl) ?_
                refine lv_aload_n X.1 X.2.1 dL_closes_77 rfl (lv_at hl 6 rfl) ?_
                refine lv_iload X.1 X.2.1 dL_closes_78 (lv_at hl 0 rfl) ?_
                refine x_callV X hK hw (k := 0) (As := [.int (nI b)]) (rest := [.int (nI b), .ref (ad 115)]) (w_placeNow hI (by omega) hJ.1.1 hOB (nI b) (fun g t tm hE => (a_plc_r hrA hJ hc hk hE hopn (by omega) tm).trans (place_n hJ hc hk (by omega) (by omega)).symm)) (x_cwV yX7_placeNow cX7_placeNow 2 (some .int) 1 X q828 q829 q830 q1 q831 hd_X7_placeNow ⟨(Nat.le_of_ble_eq_true rfl), (Nat.le_of_ble_eq_true rfl)⟩) (by omega) hOB.ma rfl rfl hl.1 rfl (Nat.le_of_ble_eq_true rfl) dL_closes_80 ⟨(Nat.le_of_ble_eq_true rfl), (Nat.le_of_ble_eq_true rfl)⟩ (fun v112 F113 H locs hp hw => ?_)
                obtain ⟨e114, hO115, hf116⟩ := hp
                refine x_top e114 ?_
                have hT117 := (hf116 115 (by omega)).trans hT1
                replace hfr := hfr.tr hf116 (by omega) (by omega)
                refine x_iastN2 X hI hK hw (k := 115) (by omega) hT117 (i := nI b) (j := b) rfl (by omega) (by omega) dL_closes_83 (fun F118 H locs eF119 hw => ?_)
                have hT120 : F118 115 = .inl (cI, 9, .inl (upd f1 b (m_place (arr A) r b (A 1)))) := by rw [eF119]; exact up_a
                have hr121 := fr_eq eF119 (Nat.le_refl _) (Nat.lt_succ_self _)
                have hO122 := hO115.cg hr121 (by omega)
                replace hfr := hfr.tr hr121 (by omega) (by omega)
                refine lv_iinc (v := nI (b + 1)) (lv' := [(6, .int (nI (b + 1))), (5, .int (nI 1)), (4, .int (nI (finN A r (A 1)))), (3, .ref (ad 115)), (2, .int (nI (A 1))), (1, .int (nI r)), (0, .ref (ad 0))]) X.1 X.2.1 dL_closes_84 hl (k := 0) rfl (by first | exact nI_1 _ | exact nI_add _ _ | rfl) (by decide) rfl (fun ls hl => ?_)
                refine lv_goto (tgt := 68) X.1 X.2.1 dL_closes_87 (by decide) ?_
                exact ih (b + 1) F118 (upd f1 b (m_place (arr A) r b (A 1))) (by omega) (by omega) hT120 (ar_m hfa) hO122 hfr _ _ hw _ (lv_sub hl [0, 1, 2, 3, 4, 5, 6] rfl)
          exact loop68 (A 1) 0 F24 (fun _ => 0) (by omega) (by omega) hT28 (fun i hi => absurd hi (by omega)) hO26 hfr _ _ hw _ (lv_sub hl [0, 1, 2, 3, 4, 5, 6] rfl)
    · exact absurd ((bz_ge (by omega)).mpr (by omega)) c1
  · have hl1 : ¬ latN A = 1 := fun q => hopn ((lat_op hJ).mp q)
    refine lv_astore_n (lv' := [(3, .ref (ad 115)), (2, .int (nI (A 1))), (1, .int (nI r)), (0, .ref (ad 0))]) X.1 X.2.1 dL_closes_18 rfl hl (by decide) rfl (fun ls hl => ?_)
    refine lv_iload_n X.1 X.2.1 dL_closes_19 rfl (lv_at hl 2 rfl) ?_
    refine lv_if_ge (tgt := 27) X.1 X.2.1 dL_closes_20 (by decide) (fun c123 => ?_) (fun c123 => ?_)
    · have n124 := (bz_ge (by omega)).mp c123
      refine lv_aload_n X.1 X.2.1 dL_closes_27 rfl (lv_at hl 3 rfl) ?_
      refine lv_iload_n X.1 X.2.1 dL_closes_28 rfl (lv_at hl 2 rfl) ?_
      refine lv_iconst (v := nI 4) X.1 X.2.1 dL_closes_29 (by decide) ?_
      refine x_callV X hK hw (k := 0) (As := [.int (nI r), .int (nI 4)]) (rest := []) (w_race hI (by omega) hJ.1.1 hO (nI r) (nI 4) (fun g t tm hE => a_rac4 hJ hc hk hE (by omega) tm)) (x_cwV yX7_race cX7_race 3 (some .int) 2 X q804 q805 q806 q1 q807 hd_X7_race ⟨(Nat.le_of_ble_eq_true rfl), (Nat.le_of_ble_eq_true rfl)⟩) (by omega) hO.ma rfl rfl hl.1 rfl (Nat.le_of_ble_eq_true rfl) dL_closes_30 ⟨(Nat.le_of_ble_eq_true rfl), (Nat.le_of_ble_eq_true rfl)⟩ (fun v125 F126 H locs hp hw => ?_)
      obtain ⟨e127, hO128, hf129⟩ := hp
      refine x_top e127 ?_
      have hT130 := (hf129 115 (by omega)).trans hT
      replace hfr := hfr.tr hf129 (by omega) (by omega)
      refine lv_istore (lv' := [(4, .int (nI (finN A r (A 1)))), (3, .ref (ad 115)), (2, .int (nI (A 1))), (1, .int (nI r)), (0, .ref (ad 0))]) X.1 X.2.1 dL_closes_33 hl (by decide) rfl (fun ls hl => ?_)
      refine lv_aload_n X.1 X.2.1 dL_closes_35 rfl (lv_at hl 4 rfl) ?_
      refine lv_iconst (v := nI 4) X.1 X.2.1 dL_closes_36 (by decide) ?_
      refine x_callV X hK hw (k := 0) (As := [.int (nI 4)]) (rest := []) (w_count hI (by omega) hO128 (nI 4) (fun g t z n hE => a_cou4 hJ hc hk hE z n)) (x_cwV yX7_count cX7_count 2 (some .int) 1 X q818 q819 q820 q1 q821 hd_X7_count ⟨(Nat.le_of_ble_eq_true rfl), (Nat.le_of_ble_eq_true rfl)⟩) (by omega) hO128.ma rfl rfl hl.1 rfl (Nat.le_of_ble_eq_true rfl) dL_closes_37 ⟨(Nat.le_of_ble_eq_true rfl), (Nat.le_of_ble_eq_true rfl)⟩ (fun v131 F132 H locs hp hw => ?_)
      obtain ⟨e133, hO134, hf135⟩ := hp
      refine x_top e133 ?_
      have hT136 := (hf135 115 (by omega)).trans hT130
      replace hfr := hfr.tr hf135 (by omega) (by omega)
      refine lv_iconst (v := nI 1) X.1 X.2.1 dL_closes_40 (by decide) ?_
      refine lv_icmp_ne (tgt := 62) X.1 X.2.1 dL_closes_41 (by decide) (fun c137 => ?_) (fun c137 => ?_)
      · have n138 : ¬ (latN A) = 1 := fun z => c137 ((nI_eq (by omega) (by omega)).mpr z)
        refine lv_iconst (v := nI 0) X.1 X.2.1 dL_closes_62 (by decide) ?_
        refine lv_istore (lv' := [(5, .int (nI 0)), (4, .int (nI (finN A r (A 1)))), (3, .ref (ad 115)), (2, .int (nI (A 1))), (1, .int (nI r)), (0, .ref (ad 0))]) X.1 X.2.1 dL_closes_63 hl (by decide) rfl (fun ls hl => ?_)
        refine lv_iconst (v := nI 0) X.1 X.2.1 dL_closes_65 (by decide) ?_
        refine lv_istore (lv' := [(6, .int (nI 0)), (5, .int (nI 0)), (4, .int (nI (finN A r (A 1)))), (3, .ref (ad 115)), (2, .int (nI (A 1))), (1, .int (nI r)), (0, .ref (ad 0))]) X.1 X.2.1 dL_closes_66 hl (by decide) rfl (fun ls hl => ?_)
        have way68 : ∀ (b : Nat) (F1 : Nat → va_E) (f1 : Nat → Int32) (hb1 : b ≤ A 1) (hT1 : F1 115 = .inl (cI, 9, .inl f1)) (hfa : ∀ i, i < b → f1 i = (-4)) (hOB : OB ad cI cB cS F1 hs A A3) (hfr : FrD F F1) (hx : A 1 ≤ b) (H : Heap) (locs : List Loc) (hw : HW D Aw ad 116 F1 s H locs) (ls : Array Slot) (hl : lv_has ls 8 [(6, .int (nI b)), (5, .int (nI 0)), (4, .int (nI (finN A r (A 1)))), (3, .ref (ad 115)), (2, .int (nI (A 1))), (1, .int (nI r)), (0, .ref (ad 0))]), W p l e { frames := 7, cells := 1, slots := 9, locals := 200 } s m args below meth c H locs 1 9 Q (F0 m 90 ls []) := by
          intro b F1 f1 hb1 hT1 hfa hOB hfr hx H locs hw ls hl
          refine lv_aload_n X.1 X.2.1 dL_closes_90 rfl (lv_at hl 6 rfl) ?_
          refine x_callV X hK hw (k := 0) (As := []) (rest := []) (w_close hI (by omega) hOB hJ.1.1 (fun g t hE => a_close_no hJ hc hk (fun q => absurd q hopn) hE)) (x_cwV yX7_close cX7_close 1 (some .int) 0 X q399 q400 q401 q1 q402 hd_X7_close ⟨(Nat.le_of_ble_eq_true rfl), (Nat.le_of_ble_eq_true rfl)⟩) (by omega) hOB.ma rfl rfl hl.1 rfl (Nat.le_of_ble_eq_true rfl) dL_closes_91 ⟨(Nat.le_of_ble_eq_true rfl), (Nat.le_of_ble_eq_true rfl)⟩ (fun v139 F140 H locs hp hw => ?_)
          obtain ⟨e141, hO142, hf143⟩ := hp
          refine x_top e141 ?_
          have hT144 := (hf143 115 (by omega)).trans hT1
          replace hfr := hfr.tr hf143 (by omega) (by omega)
          refine lv_istore (lv' := [(6, .int ((-4))), (5, .int (nI 0)), (4, .int (nI (finN A r (A 1)))), (3, .ref (ad 115)), (2, .int (nI (A 1))), (1, .int (nI r)), (0, .ref (ad 0))]) X.1 X.2.1 dL_closes_94 hl (by decide) rfl (fun ls hl => ?_)
          refine lv_iload X.1 X.2.1 dL_closes_96 (lv_at hl 1 rfl) ?_
          refine lv_if_ne (tgt := 114) X.1 X.2.1 dL_closes_98 (by decide) (fun c145 => ?_) (fun c145 => ?_)
          · exact absurd (by decide) c145
          · refine lv_iload X.1 X.2.1 dL_closes_101 (lv_at hl 0 rfl) ?_
            refine lv_bipush (v := (-4)) X.1 X.2.1 dL_closes_103 (by decide) ?_
            refine lv_icmp_ne (tgt := 112) X.1 X.2.1 dL_closes_105 (by decide) (fun c146 => ?_) (fun c146 => ?_)
            · exact absurd (by decide) c146
            · refine lv_iconst (v := nI 1) X.1 X.2.1 dL_closes_108 (by decide) ?_
              refine lv_goto (tgt := 113) X.1 X.2.1 dL_closes_109 (by decide) ?_
              exact kend _ dL_closes_113 _ _ _ _ hw (ACT.same hJ hO142) hfr
        have loop68 : ∀ (fu : Nat) (b : Nat) (F1 : Nat → va_E) (f1 : Nat → Int32) (hfu : A 1 ≤ b + fu) (hb1 : b ≤ A 1) (hT1 : F1 115 = .inl (cI, 9, .inl f1)) (hfa : ∀ i, i < b → f1 i = (-4)) (hOB : OB ad cI cB cS F1 hs A A3) (hfr : FrD F F1) (H : Heap) (locs : List Loc) (hw : HW D Aw ad 116 F1 s H locs) (ls : Array Slot) (hl : lv_has ls 8 [(6, .int (nI b)), (5, .int (nI 0)), (4, .int (nI (finN A r (A 1)))), (3, .ref (ad 115)), (2, .int (nI (A 1))), (1, .int (nI r)), (0, .ref (ad 0))]), W p l e { frames := 7, cells := 1, slots := 9, locals := 200 } s m args below meth c H locs 1 9 Q (F0 m 68 ls []) := by
          intro fu
          induction fu with
          | zero =>
            intro b F1 f1 hfu hb1 hT1 hfa hOB hfr H locs hw ls hl
            refine lv_iload X.1 X.2.1 dL_closes_68 (lv_at hl 0 rfl) ?_
            refine lv_iload_n X.1 X.2.1 dL_closes_70 rfl (lv_at hl 4 rfl) ?_
            refine lv_icmp_ge (tgt := 90) X.1 X.2.1 dL_closes_71 (by decide) (fun c147 => ?_) (fun c147 => ?_)
            · have n148 := (nI_leI (by omega) (by omega)).mp c147
              exact way68 b F1 f1 hb1 hT1 hfa hOB hfr n148 _ _ hw _ (lv_sub hl [0, 1, 2, 3, 4, 5, 6] rfl)
            · exact absurd ((nI_leI (by omega) (by omega)).mpr (by omega)) c147
          | succ fu ih =>
            intro b F1 f1 hfu hb1 hT1 hfa hOB hfr H locs hw ls hl
            refine lv_iload X.1 X.2.1 dL_closes_68 (lv_at hl 0 rfl) ?_
            refine lv_iload_n X.1 X.2.1 dL_closes_70 rfl (lv_at hl 4 rfl) ?_
            refine lv_icmp_ge (tgt := 90) X.1 X.2.1 dL_closes_71 (by decide) (fun c149 => ?_) (fun c149 => ?_)
            · have n150 := (nI_leI (by omega) (by omega)).mp c149
              exact way68 b F1 f1 hb1 hT1 hfa hOB hfr n150 _ _ hw _ (lv_sub hl [0, 1, 2, 3, 4, 5, 6] rfl)
            · have n151 : ¬ (A 1) ≤ b := fun z => c149 ((nI_leI (by omega) (by omega)).mpr z)
              refine lv_aload_n X.1 X.2.1 dL_closes_74 rfl (lv_at hl 3 rfl) ?_
              refine lv_iload X.1 X.2.1 dL_closes_75 (lv_at hl 0 rfl) ?_
              refine lv_aload_n X.1 X.2.1 dL_closes_77 rfl (lv_at hl 6 rfl) ?_
              refine lv_iload X.1 X.2.1 dL_closes_78 (lv_at hl 0 rfl) ?_
              refine x_callV X hK hw (k := 0) (As := [.int (nI b)]) (rest := [.int (nI b), .ref (ad 115)]) (w_placeNow hI (by omega) hJ.1.1 hOB (nI b) (fun g t tm hE => a_plc_no hJ hc hk hE hopn (by omega) tm)) (x_cwV yX7_placeNow cX7_placeNow 2 (some .int) 1 X q828 q829 q830 q1 q831 hd_X7_placeNow ⟨(Nat.le_of_ble_eq_true rfl), (Nat.le_of_ble_eq_true rfl)⟩) (by omega) hOB.ma rfl rfl hl.1 rfl (Nat.le_of_ble_eq_true rfl) dL_closes_80 ⟨(Nat.le_of_ble_eq_true rfl), (Nat.le_of_ble_eq_true rfl)⟩ (fun v152 F153 H locs hp hw => ?_)
              obtain ⟨e154, hO155, hf156⟩ := hp
              refine x_top e154 ?_
              have hT157 := (hf156 115 (by omega)).trans hT1
              replace hfr := hfr.tr hf156 (by omega) (by omega)
              refine x_iastN2 X hI hK hw (k := 115) (by omega) hT157 (i := nI b) (j := b) rfl (by omega) (by omega) dL_closes_83 (fun F158 H locs eF159 hw => ?_)
              have hT160 : F158 115 = .inl (cI, 9, .inl (upd f1 b ((-4)))) := by rw [eF159]; exact up_a
              have hr161 := fr_eq eF159 (Nat.le_refl _) (Nat.lt_succ_self _)
              have hO162 := hO155.cg hr161 (by omega)
              replace hfr := hfr.tr hr161 (by omega) (by omega)
              refine lv_iinc (v := nI (b + 1)) (lv' := [(6, .int (nI (b + 1))), (5, .int (nI 0)), (4, .int (nI (finN A r (A 1)))), (3, .ref (ad 115)), (2, .int (nI (A 1))), (1, .int (nI r)), (0, .ref (ad 0))]) X.1 X.2.1 dL_closes_84 hl (k := 0) rfl (by first | exact nI_1 _ | exact nI_add _ _ | rfl) (by decide) rfl (fun ls hl => ?_)
              refine lv_goto (tgt := 68) X.1 X.2.1 dL_closes_87 (by decide) ?_
              exact ih (b + 1) F158 (upd f1 b ((-4))) (by omega) (by omega) hT160 (ar_m hfa) hO162 hfr _ _ hw _ (lv_sub hl [0, 1, 2, 3, 4, 5, 6] rfl)
        exact loop68 (A 1) 0 F132 (fun _ => 0) (by omega) (by omega) hT136 (fun i hi => absurd hi (by omega)) hO134 hfr _ _ hw _ (lv_sub hl [0, 1, 2, 3, 4, 5, 6] rfl)
      · exact absurd ((nI_eq (by omega) (by omega)).mp c137) (by omega)
    · exact absurd ((bz_ge (by omega)).mpr (by omega)) c123
set_option maxHeartbeats 4000000 in
set_option maxRecDepth 100000 in
theorem k_L_closes {l : Launch} {D : va_G} {cI cB cS : ClassId} {ad : Nat → Nat} {F : Nat → va_E} (hI : iN ad 115) {ca : Nat} {hs : Int32} {A A3 : Nat → Nat} (hJ : HJ ca A) (hc : ca ≤ 200) (hk : A 0 ≤ 999999) (hO : OB ad cI cB cS F hs A A3) : Cn l D cI cB cS ad 115 yL_closes cL_closes 8 (some .boolean) 7 200 [.ref (ad 0)] F (fun v F' => v = nI 1 ∧ ACT ad cI cB cS F' ca A ∧ ∀ k, 111 ≤ k → F' k = F k) := by
  refine fun sz => x_metg (Qc := fun sz => va_Qi (fun v F' => v = nI 1 ∧ ACT ad cI cB cS F' ca A ∧ ∀ k, 111 ≤ k → F' k = F k) (fun F' t => PO D ad 115 F' t) (Af ad 115 sz)) (by decide +kernel) (Nat.le_of_ble_eq_true rfl) ?_ sz
  intro p e s m below meth c X hr hlk hK hw ls hl
  replace hl : lv_has ls 8 [(0, .ref (ad 0))] := hl
  have hN : 115 ≤ 115 := Nat.le_refl _
  have h9 := hJ.1.1
  have h6 := hJ.1.2.1
  have hfr : Fr F F 0 111 := Fr.rf
  rcases (show A 2 = 0 ∨ ∃ r, r + 1 = A 2 from by rcases Nat.eq_zero_or_pos (A 2) with q | q; (exact Or.inl q); exact Or.inr ⟨A 2 - 1, by omega⟩) with h0 | ⟨r, hrA⟩
  · refine lv_aload_n X.1 X.2.1 dL_closes_0 rfl (lv_at hl 0 rfl) ?_
    refine lv_iconst (v := nI 1) X.1 X.2.1 dL_closes_1 (by decide) ?_
    refine x_callV X hK hw (k := 0) (As := [.int (nI 1)]) (rest := []) (w_count hI (by omega) hO (nI 1) (fun g t z n hE => a_cou1 hJ (by omega) hk hE z n)) (x_cwV yX7_count cX7_count 2 (some .int) 1 X q818 q819 q820 q1 q821 hd_X7_count ⟨(Nat.le_of_ble_eq_true rfl), (Nat.le_of_ble_eq_true rfl)⟩) (by omega) hO.ma rfl rfl hl.1 rfl (Nat.le_of_ble_eq_true rfl) dL_closes_2 ⟨(Nat.le_of_ble_eq_true rfl), (Nat.le_of_ble_eq_true rfl)⟩ (fun v1 F2 H locs hp hw => ?_)
    obtain ⟨e3, hO4, hf5⟩ := hp
    refine x_top e3 ?_
    replace hfr := hfr.tr hf5 (by omega) (by omega)
    refine lv_iconst (v := nI 1) X.1 X.2.1 dL_closes_5 (by decide) ?_
    refine lv_isub X.1 X.2.1 dL_closes_6 ?_
    refine x_top (show nI (A 2) - nI 1 = (-1) by rw [h0]; rfl) ?_
    refine lv_istore_n (lv' := [(1, .int ((-1))), (0, .ref (ad 0))]) X.1 X.2.1 dL_closes_7 rfl hl (by decide) rfl (fun ls hl => ?_)
    refine lv_aload_n X.1 X.2.1 dL_closes_8 rfl (lv_at hl 1 rfl) ?_
    refine lv_iconst (v := nI 0) X.1 X.2.1 dL_closes_9 (by decide) ?_
    refine x_callV X hK hw (k := 0) (As := [.int (nI 0)]) (rest := []) (w_count hI (by omega) hO4 (nI 0) (fun g t z n hE => a_cou0 hJ (by omega) hk hE z n)) (x_cwV yX7_count cX7_count 2 (some .int) 1 X q818 q819 q820 q1 q821 hd_X7_count ⟨(Nat.le_of_ble_eq_true rfl), (Nat.le_of_ble_eq_true rfl)⟩) (by omega) hO4.ma rfl rfl hl.1 rfl (Nat.le_of_ble_eq_true rfl) dL_closes_10 ⟨(Nat.le_of_ble_eq_true rfl), (Nat.le_of_ble_eq_true rfl)⟩ (fun v6 F7 H locs hp hw => ?_)
    obtain ⟨e8, hO9, hf10⟩ := hp
    refine x_top e8 ?_
    replace hfr := hfr.tr hf10 (by omega) (by omega)
    refine lv_istore_n (lv' := [(2, .int (nI (A 1))), (1, .int ((-1))), (0, .ref (ad 0))]) X.1 X.2.1 dL_closes_13 rfl hl (by decide) rfl (fun ls hl => ?_)
    refine lv_bipush (v := nI 9) X.1 X.2.1 dL_closes_14 (by decide) ?_
    refine x_newiG X hK hI hw (N' := 9) rfl (by omega) (Nat.le_of_ble_eq_true rfl) (Nat.le_of_ble_eq_true rfl) dL_closes_16 (fun a F9 H ha hne eF hw => ?_)
    obtain ⟨ad1, h1⟩ : ∃ y, y = va_up ad 115 a := ⟨_, rfl⟩
    rw [← h1] at hw
    have hak : ∀ k, k ≠ 115 → ad1 k = ad k := fun k hk => by rw [h1]; exact up_o hk
    have haN : ad1 115 = a := by rw [h1]; exact up_a
    have hI1 : iN ad1 116 := by rw [h1]; exact iN_push hI hne
    have hO1 : OB ad1 cI cB cS F9 hs A A3 := hO9.ade hak (fun k hk => by rw [eF]; exact up_o (by omega))
    have hT : F9 115 = .inl (cI, 9, .inl (fun _ => 0)) := by rw [eF]; exact up_a
    rw [← haN]
    rw [← hak 0 (by omega)] at hl
    refine closes_z X hI1 hK hw hJ (by omega) hk hO1 hT (r := 0) h0 (lv_sub hl [0, 1, 2] rfl) (fun pc hdg F8 H locs ls hw hA hf => ?_)
    have hq1 : ∀ k, k < 115 → (fun k => if k < 115 then F8 k else F k) k = F8 k := fun k hk => if_pos hk
    have hw2 := hw.drop (N := 115) (ad' := ad) (F' := fun k => if k < 115 then F8 k else F k) (fun k hk => (hak k (by omega)).symm) hq1
    refine x_iret X hr hlk hK hw2 (v := nI 1) rfl ⟨rfl, hA.ade (fun k hk => (hak k hk).symm) (fun k hk => hq1 k (by omega)), fun k hk => ?_⟩ hdg
    by_cases q : k < 115
    · rw [hq1 k q, hf k (by omega) q, eF, up_o (by omega)]; exact hfr k (Or.inr (by omega))
    · show (if k < 115 then F8 k else F k) = F k
      rw [if_neg q]
  · refine lv_aload_n X.1 X.2.1 dL_closes_0 rfl (lv_at hl 0 rfl) ?_
    refine lv_iconst (v := nI 1) X.1 X.2.1 dL_closes_1 (by decide) ?_
    refine x_callV X hK hw (k := 0) (As := [.int (nI 1)]) (rest := []) (w_count hI (by omega) hO (nI 1) (fun g t z n hE => a_cou1 hJ (by omega) hk hE z n)) (x_cwV yX7_count cX7_count 2 (some .int) 1 X q818 q819 q820 q1 q821 hd_X7_count ⟨(Nat.le_of_ble_eq_true rfl), (Nat.le_of_ble_eq_true rfl)⟩) (by omega) hO.ma rfl rfl hl.1 rfl (Nat.le_of_ble_eq_true rfl) dL_closes_2 ⟨(Nat.le_of_ble_eq_true rfl), (Nat.le_of_ble_eq_true rfl)⟩ (fun v11 F12 H locs hp hw => ?_)
    obtain ⟨e13, hO14, hf15⟩ := hp
    refine x_top e13 ?_
    replace hfr := hfr.tr hf15 (by omega) (by omega)
    refine lv_iconst (v := nI 1) X.1 X.2.1 dL_closes_5 (by decide) ?_
    refine lv_isub X.1 X.2.1 dL_closes_6 ?_
    refine x_top (show nI (A 2) - nI 1 = nI r by rw [pk_sub (by omega)]; exact congrArg nI (by omega)) ?_
    refine lv_istore_n (lv' := [(1, .int (nI r)), (0, .ref (ad 0))]) X.1 X.2.1 dL_closes_7 rfl hl (by decide) rfl (fun ls hl => ?_)
    refine lv_aload_n X.1 X.2.1 dL_closes_8 rfl (lv_at hl 1 rfl) ?_
    refine lv_iconst (v := nI 0) X.1 X.2.1 dL_closes_9 (by decide) ?_
    refine x_callV X hK hw (k := 0) (As := [.int (nI 0)]) (rest := []) (w_count hI (by omega) hO14 (nI 0) (fun g t z n hE => a_cou0 hJ (by omega) hk hE z n)) (x_cwV yX7_count cX7_count 2 (some .int) 1 X q818 q819 q820 q1 q821 hd_X7_count ⟨(Nat.le_of_ble_eq_true rfl), (Nat.le_of_ble_eq_true rfl)⟩) (by omega) hO14.ma rfl rfl hl.1 rfl (Nat.le_of_ble_eq_true rfl) dL_closes_10 ⟨(Nat.le_of_ble_eq_true rfl), (Nat.le_of_ble_eq_true rfl)⟩ (fun v16 F17 H locs hp hw => ?_)
    obtain ⟨e18, hO19, hf20⟩ := hp
    refine x_top e18 ?_
    replace hfr := hfr.tr hf20 (by omega) (by omega)
    refine lv_istore_n (lv' := [(2, .int (nI (A 1))), (1, .int (nI r)), (0, .ref (ad 0))]) X.1 X.2.1 dL_closes_13 rfl hl (by decide) rfl (fun ls hl => ?_)
    refine lv_bipush (v := nI 9) X.1 X.2.1 dL_closes_14 (by decide) ?_
    refine x_newiG X hK hI hw (N' := 9) rfl (by omega) (Nat.le_of_ble_eq_true rfl) (Nat.le_of_ble_eq_true rfl) dL_closes_16 (fun a F9 H ha hne eF hw => ?_)
    obtain ⟨ad1, h1⟩ : ∃ y, y = va_up ad 115 a := ⟨_, rfl⟩
    rw [← h1] at hw
    have hak : ∀ k, k ≠ 115 → ad1 k = ad k := fun k hk => by rw [h1]; exact up_o hk
    have haN : ad1 115 = a := by rw [h1]; exact up_a
    have hI1 : iN ad1 116 := by rw [h1]; exact iN_push hI hne
    have hO1 : OB ad1 cI cB cS F9 hs A A3 := hO19.ade hak (fun k hk => by rw [eF]; exact up_o (by omega))
    have hT : F9 115 = .inl (cI, 9, .inl (fun _ => 0)) := by rw [eF]; exact up_a
    rw [← haN]
    rw [← hak 0 (by omega)] at hl
    refine closes_r X hI1 hK hw hJ (by omega) hk hO1 hT hrA (lv_sub hl [0, 1, 2] rfl) (fun pc hdg F8 H locs ls hw hA hf => ?_)
    have hq1 : ∀ k, k < 115 → (fun k => if k < 115 then F8 k else F k) k = F8 k := fun k hk => if_pos hk
    have hw2 := hw.drop (N := 115) (ad' := ad) (F' := fun k => if k < 115 then F8 k else F k) (fun k hk => (hak k (by omega)).symm) hq1
    refine x_iret X hr hlk hK hw2 (v := nI 1) rfl ⟨rfl, hA.ade (fun k hk => (hak k hk).symm) (fun k hk => hq1 k (by omega)), fun k hk => ?_⟩ hdg
    by_cases q : k < 115
    · rw [hq1 k q, hf k (by omega) q, eF, up_o (by omega)]; exact hfr k (Or.inr (by omega))
    · show (if k < 115 then F8 k else F k) = F k
      rw [if_neg q]
