/-! the law's method 'isEntry' -/
def aI (A : Nat → Nat) (r b : Nat) : Nat → Nat
  | 0 => 0
  | i + 1 => aI A r b i + if cnP A r i ∧ ¬ m_co (arr A) r b ≤ m_co (arr A) r i then 1 else 0
theorem aI_y {A : Nat → Nat} {r b i : Nat} (h : cnP A r i ∧ ¬ m_co (arr A) r b ≤ m_co (arr A) r i) : aI A r b i + 1 = aI A r b (i + 1) := by
  show _ = aI A r b i + _
  rw [if_pos h]
theorem aI_n {A : Nat → Nat} {r b i : Nat} (h : ¬ (cnP A r i ∧ ¬ m_co (arr A) r b ≤ m_co (arr A) r i)) : aI A r b i + 0 = aI A r b (i + 1) := by
  show _ = aI A r b i + _
  rw [if_neg h]
theorem aI_le {A : Nat → Nat} {r b : Nat} : ∀ n, aI A r b n ≤ n := by
  intro n
  induction n with
  | zero => exact Nat.le_refl _
  | succ n ih =>
    show aI A r b n + (if cnP A r n ∧ ¬ m_co (arr A) r b ≤ m_co (arr A) r n then 1 else 0) ≤ n + 1
    split <;> omega
theorem aI_ah {c : Nat} {A : Nat → Nat} (hJ : HJ c A) (hc : c ≤ 512) (hk : A 0 ≤ 999999) {r b : Nat} (hr : r < A 2) (hb : b < A 1) (hf : eA A r b 0 = 3) : ∀ n, n ≤ A 1 → aI A r b n = ahN A r b n := by
  intro n
  induction n with
  | zero => intro _; rfl
  | succ n ih =>
    intro hn
    have b1 := co_b hJ hc hk hr hb
    have b2 := co_b hJ hc hk hr (b := n) (by omega)
    show aI A r b n + _ = ahN A r b n + _
    rw [ih (by omega)]
    by_cases q : cnP A r n
    · rw [co_n hJ hc hk hr hb hf, co_n hJ hc hk hr (by omega) q.1]
      by_cases q2 : coN A r n < coN A r b
      · rw [if_pos ⟨q, nI_ge q2 (by omega)⟩, if_pos ⟨q, q2⟩]
      · rw [if_neg (fun z => z.2 (nI_le (by omega) (by omega))), if_neg (fun z => q2 z.2)]
    · rw [if_neg (fun z => q z.1), if_neg (fun z => q z.1)]
theorem hd_X7_boat : yX7_boat.cls = RX7 ∧ yX7_boat.cls ≠ "java/lang/invoke/MethodHandle" ∧ yX7_boat.cls ≠ "java/lang/invoke/VarHandle" ∧ (parseMethodDescriptor yX7_boat.desc).map (fun d => d.parameters.length) = some 2 := by decide +kernel
set_option maxHeartbeats 4000000 in
set_option maxRecDepth 100000 in
theorem k_L_isEntry {l : Launch} {D : va_G} {cI cB cS : ClassId} {ad : Nat → Nat} {N : Nat} {F : Nat → va_E} (hI : iN ad N) (hN : 114 ≤ N) {ca : Nat} {hs : Int32} {A A3 : Nat → Nat} (hJ : HJ ca A) (hc : ca ≤ 512) (hk : A 0 ≤ 999999) (hO : OB ad cI cB cS F hs A A3) {r b : Nat} (hrA : r < A 2) (hb : b < A 1) : Ci l D cI cB cS ad N yL_isEntry cL_isEntry 12 (some .boolean) 7 160 [.ref (ad 0), .int (nI r), .int (nI b)] F (fun v F' => v = nI 1 ∧ OB ad cI cB cS F' hs A A3 ∧ Fr F F' 0 111) := by
  refine x_met (by decide +kernel) (Nat.le_of_ble_eq_true rfl) ?_
  intro p e s m below meth c X hr hlk hK hw ls hl
  replace hl : lv_has ls 12 [(0, .ref (ad 0)), (1, .int (nI r)), (2, .int (nI b))] := hl
  have hfr : Fr F F 0 111 := Fr.rf
  have h9 := hJ.1.1
  have h6 := hJ.1.2.1
  obtain ⟨b1, b2, b3, b4, b5, b6, b7, b8, b9, b10⟩ := hJ.bj (r := r) hrA hb
  obtain ⟨l1, l2, l3, l4⟩ := al_b hJ (r := r) hrA
  have hrt := hJ.rt hb
  have hcb := co_b hJ hc hk hrA hb
  have heb := el_b hJ hc hk hrA hb
  have hptb := ptN_b hJ hrA hb
  have hplb := plN_b hJ (r := r) hb
  have hr3 := (hJ.2.1 r hrA).2.2.2.2.2.1
  have hco : coN A r b = 100 * elN A r b / A (7 + b) := rfl
  have hai := aI_le (A := A) (r := r) (b := b) (A 1)
  by_cases hcl : rA A r 3 = 1
  · refine lv_aload_n X.1 X.2.1 dL_isEntry_0 rfl (lv_at hl 0 rfl) ?_
    refine lv_iload_n X.1 X.2.1 dL_isEntry_1 rfl (lv_at hl 1 rfl) ?_
    refine lv_iload_n X.1 X.2.1 dL_isEntry_2 rfl (lv_at hl 2 rfl) ?_
    refine lv_iconst (v := nI 0) X.1 X.2.1 dL_isEntry_3 (by decide) ?_
    refine x_callV X hK hw (k := 0) (As := [.int (nI r), .int (nI b), .int (nI 0)]) (rest := []) (w_result hI (by omega) hJ.1.1 hO (nI r) (nI b) (nI 0) (fun g t tm hE => a_res0 hJ hc hk hE (by omega) (by omega) tm)) (x_cwV yX7_result cX7_result 4 (some .int) 3 X q695 q696 q697 q1 q698 hd_X7_result ⟨(Nat.le_of_ble_eq_true rfl), (Nat.le_of_ble_eq_true rfl)⟩) (by omega) hO.ma rfl rfl hl.1 rfl (Nat.le_of_ble_eq_true rfl) dL_isEntry_4 ⟨(Nat.le_of_ble_eq_true rfl), (Nat.le_of_ble_eq_true rfl)⟩ (fun v1 F2 H locs hp hw => ?_)
    obtain ⟨e3, hO4, hf5⟩ := hp
    refine x_top e3 ?_
    replace hfr := hfr.tr hf5 (by omega) (by omega)
    refine lv_istore_n (lv' := [(3, .int (nI (eA A r b 0))), (0, .ref (ad 0)), (1, .int (nI r)), (2, .int (nI b))]) X.1 X.2.1 dL_isEntry_7 rfl hl (by decide) rfl (fun ls hl => ?_)
    refine lv_aload_n X.1 X.2.1 dL_isEntry_8 rfl (lv_at hl 1 rfl) ?_
    refine lv_iload_n X.1 X.2.1 dL_isEntry_9 rfl (lv_at hl 2 rfl) ?_
    refine lv_iload_n X.1 X.2.1 dL_isEntry_10 rfl (lv_at hl 3 rfl) ?_
    refine lv_bipush (v := nI 6) X.1 X.2.1 dL_isEntry_11 (by decide) ?_
    refine x_callV X hK hw (k := 0) (As := [.int (nI r), .int (nI b), .int (nI 6)]) (rest := []) (w_result hI (by omega) hJ.1.1 hO4 (nI r) (nI b) (nI 6) (fun g t tm hE => a_res6 hJ hc hk hE hrA (by omega) tm)) (x_cwV yX7_result cX7_result 4 (some .int) 3 X q695 q696 q697 q1 q698 hd_X7_result ⟨(Nat.le_of_ble_eq_true rfl), (Nat.le_of_ble_eq_true rfl)⟩) (by omega) hO4.ma rfl rfl hl.1 rfl (Nat.le_of_ble_eq_true rfl) dL_isEntry_13 ⟨(Nat.le_of_ble_eq_true rfl), (Nat.le_of_ble_eq_true rfl)⟩ (fun v6 F7 H locs hp hw => ?_)
    obtain ⟨e8, hO9, hf10⟩ := hp
    refine x_top e8 ?_
    replace hfr := hfr.tr hf10 (by omega) (by omega)
    refine lv_istore (lv' := [(4, .int (m_co (arr A) r b)), (3, .int (nI (eA A r b 0))), (0, .ref (ad 0)), (1, .int (nI r)), (2, .int (nI b))]) X.1 X.2.1 dL_isEntry_16 hl (by decide) rfl (fun ls hl => ?_)
    refine lv_aload_n X.1 X.2.1 dL_isEntry_18 rfl (lv_at hl 2 rfl) ?_
    refine lv_iload_n X.1 X.2.1 dL_isEntry_19 rfl (lv_at hl 3 rfl) ?_
    refine lv_iload_n X.1 X.2.1 dL_isEntry_20 rfl (lv_at hl 4 rfl) ?_
    refine lv_bipush (v := nI 7) X.1 X.2.1 dL_isEntry_21 (by decide) ?_
    refine x_callV X hK hw (k := 0) (As := [.int (nI r), .int (nI b), .int (nI 7)]) (rest := []) (w_result hI (by omega) hJ.1.1 hO9 (nI r) (nI b) (nI 7) (fun g t tm hE => (a_res7 hJ hc hk hE hrA hb tm).trans (if_pos hcl))) (x_cwV yX7_result cX7_result 4 (some .int) 3 X q695 q696 q697 q1 q698 hd_X7_result ⟨(Nat.le_of_ble_eq_true rfl), (Nat.le_of_ble_eq_true rfl)⟩) (by omega) hO9.ma rfl rfl hl.1 rfl (Nat.le_of_ble_eq_true rfl) dL_isEntry_23 ⟨(Nat.le_of_ble_eq_true rfl), (Nat.le_of_ble_eq_true rfl)⟩ (fun v11 F12 H locs hp hw => ?_)
    obtain ⟨e13, hO14, hf15⟩ := hp
    refine x_top e13 ?_
    replace hfr := hfr.tr hf15 (by omega) (by omega)
    refine lv_istore (lv' := [(5, .int (m_place (arr A) r b (A 1))), (4, .int (m_co (arr A) r b)), (3, .int (nI (eA A r b 0))), (0, .ref (ad 0)), (1, .int (nI r)), (2, .int (nI b))]) X.1 X.2.1 dL_isEntry_26 hl (by decide) rfl (fun ls hl => ?_)
    refine lv_aload_n X.1 X.2.1 dL_isEntry_28 rfl (lv_at hl 3 rfl) ?_
    refine lv_iload_n X.1 X.2.1 dL_isEntry_29 rfl (lv_at hl 4 rfl) ?_
    refine lv_iload_n X.1 X.2.1 dL_isEntry_30 rfl (lv_at hl 5 rfl) ?_
    refine lv_bipush (v := nI 8) X.1 X.2.1 dL_isEntry_31 (by decide) ?_
    refine x_callV X hK hw (k := 0) (As := [.int (nI r), .int (nI b), .int (nI 8)]) (rest := []) (w_result hI (by omega) hJ.1.1 hO14 (nI r) (nI b) (nI 8) (fun g t tm hE => ((a_res8 hJ hc hk hE hrA hb tm).trans (if_pos hcl)).trans (pts_n hJ hc hk hrA hb))) (x_cwV yX7_result cX7_result 4 (some .int) 3 X q695 q696 q697 q1 q698 hd_X7_result ⟨(Nat.le_of_ble_eq_true rfl), (Nat.le_of_ble_eq_true rfl)⟩) (by omega) hO14.ma rfl rfl hl.1 rfl (Nat.le_of_ble_eq_true rfl) dL_isEntry_33 ⟨(Nat.le_of_ble_eq_true rfl), (Nat.le_of_ble_eq_true rfl)⟩ (fun v16 F17 H locs hp hw => ?_)
    obtain ⟨e18, hO19, hf20⟩ := hp
    refine x_top e18 ?_
    replace hfr := hfr.tr hf20 (by omega) (by omega)
    refine lv_istore (lv' := [(6, .int (nI (ptN A r b))), (5, .int (m_place (arr A) r b (A 1))), (4, .int (m_co (arr A) r b)), (3, .int (nI (eA A r b 0))), (0, .ref (ad 0)), (1, .int (nI r)), (2, .int (nI b))]) X.1 X.2.1 dL_isEntry_36 hl (by decide) rfl (fun ls hl => ?_)
    refine lv_aload_n X.1 X.2.1 dL_isEntry_38 rfl (lv_at hl 4 rfl) ?_
    refine lv_iload_n X.1 X.2.1 dL_isEntry_39 rfl (lv_at hl 5 rfl) ?_
    refine lv_iconst (v := nI 3) X.1 X.2.1 dL_isEntry_40 (by decide) ?_
    refine x_callV X hK hw (k := 0) (As := [.int (nI r), .int (nI 3)]) (rest := []) (w_race hI (by omega) hJ.1.1 hO19 (nI r) (nI 3) (fun g t tm hE => a_rac3 hJ hc hk hE (by omega) tm)) (x_cwV yX7_race cX7_race 3 (some .int) 2 X q804 q805 q806 q1 q807 hd_X7_race ⟨(Nat.le_of_ble_eq_true rfl), (Nat.le_of_ble_eq_true rfl)⟩) (by omega) hO19.ma rfl rfl hl.1 rfl (Nat.le_of_ble_eq_true rfl) dL_isEntry_41 ⟨(Nat.le_of_ble_eq_true rfl), (Nat.le_of_ble_eq_true rfl)⟩ (fun v21 F22 H locs hp hw => ?_)
    obtain ⟨e23, hO24, hf25⟩ := hp
    refine x_top e23 ?_
    replace hfr := hfr.tr hf25 (by omega) (by omega)
    refine lv_iconst (v := nI 2) X.1 X.2.1 dL_isEntry_44 (by decide) ?_
    refine lv_icmp_ne (tgt := 52) X.1 X.2.1 dL_isEntry_45 (by decide) (fun c26 => ?_) (fun c26 => ?_)
    · exact absurd ((nI_eq (by omega) (by omega)).mpr (by omega)) c26
    · have n27 := (nI_eq (by omega) (by omega)).mp c26
      refine lv_iconst (v := nI 1) X.1 X.2.1 dL_isEntry_48 (by decide) ?_
      refine lv_goto (tgt := 53) X.1 X.2.1 dL_isEntry_49 (by decide) ?_
      refine lv_istore (lv' := [(7, .int (nI 1)), (6, .int (nI (ptN A r b))), (5, .int (m_place (arr A) r b (A 1))), (4, .int (m_co (arr A) r b)), (3, .int (nI (eA A r b 0))), (0, .ref (ad 0)), (1, .int (nI r)), (2, .int (nI b))]) X.1 X.2.1 dL_isEntry_53 hl (by decide) rfl (fun ls hl => ?_)
      refine lv_aload_n X.1 X.2.1 dL_isEntry_55 rfl (lv_at hl 5 rfl) ?_
      refine lv_iload_n X.1 X.2.1 dL_isEntry_56 rfl (lv_at hl 6 rfl) ?_
      refine lv_iconst (v := nI 0) X.1 X.2.1 dL_isEntry_57 (by decide) ?_
      refine x_callV X hK hw (k := 0) (As := [.int (nI r), .int (nI 0)]) (rest := []) (w_race hI (by omega) hJ.1.1 hO24 (nI r) (nI 0) (fun g t tm hE => a_rac0 hJ hc hk hE (by omega) tm)) (x_cwV yX7_race cX7_race 3 (some .int) 2 X q804 q805 q806 q1 q807 hd_X7_race ⟨(Nat.le_of_ble_eq_true rfl), (Nat.le_of_ble_eq_true rfl)⟩) (by omega) hO24.ma rfl rfl hl.1 rfl (Nat.le_of_ble_eq_true rfl) dL_isEntry_58 ⟨(Nat.le_of_ble_eq_true rfl), (Nat.le_of_ble_eq_true rfl)⟩ (fun v28 F29 H locs hp hw => ?_)
      obtain ⟨e30, hO31, hf32⟩ := hp
      refine x_top e30 ?_
      replace hfr := hfr.tr hf32 (by omega) (by omega)
      refine lv_aload_n X.1 X.2.1 dL_isEntry_61 rfl (lv_at hl 5 rfl) ?_
      refine lv_iload_n X.1 X.2.1 dL_isEntry_62 rfl (lv_at hl 6 rfl) ?_
      refine lv_iconst (v := nI 1) X.1 X.2.1 dL_isEntry_63 (by decide) ?_
      refine x_callV X hK hw (k := 0) (As := [.int (nI r), .int (nI 1)]) (rest := [.int (nI (rA A r 0))]) (w_race hI (by omega) hJ.1.1 hO31 (nI r) (nI 1) (fun g t tm hE => a_rac1 hJ hc hk hE (by omega) tm)) (x_cwV yX7_race cX7_race 3 (some .int) 2 X q804 q805 q806 q1 q807 hd_X7_race ⟨(Nat.le_of_ble_eq_true rfl), (Nat.le_of_ble_eq_true rfl)⟩) (by omega) hO31.ma rfl rfl hl.1 rfl (Nat.le_of_ble_eq_true rfl) dL_isEntry_64 ⟨(Nat.le_of_ble_eq_true rfl), (Nat.le_of_ble_eq_true rfl)⟩ (fun v33 F34 H locs hp hw => ?_)
      obtain ⟨e35, hO36, hf37⟩ := hp
      refine x_top e35 ?_
      replace hfr := hfr.tr hf37 (by omega) (by omega)
      refine lv_imul X.1 X.2.1 dL_isEntry_67 ?_
      refine x_top (pk_mul _ _) ?_
      refine lv_istore (lv' := [(8, .int (nI ((rA A r 0) * (rA A r 1)))), (7, .int (nI 1)), (6, .int (nI (ptN A r b))), (5, .int (m_place (arr A) r b (A 1))), (4, .int (m_co (arr A) r b)), (3, .int (nI (eA A r b 0))), (0, .ref (ad 0)), (1, .int (nI r)), (2, .int (nI b))]) X.1 X.2.1 dL_isEntry_68 hl (by decide) rfl (fun ls hl => ?_)
      refine lv_iconst (v := nI 0) X.1 X.2.1 dL_isEntry_70 (by decide) ?_
      refine lv_istore (lv' := [(9, .int (nI 0)), (8, .int (nI ((rA A r 0) * (rA A r 1)))), (7, .int (nI 1)), (6, .int (nI (ptN A r b))), (5, .int (m_place (arr A) r b (A 1))), (4, .int (m_co (arr A) r b)), (3, .int (nI (eA A r b 0))), (0, .ref (ad 0)), (1, .int (nI r)), (2, .int (nI b))]) X.1 X.2.1 dL_isEntry_71 hl (by decide) rfl (fun ls hl => ?_)
      refine lv_iconst (v := nI 0) X.1 X.2.1 dL_isEntry_73 (by decide) ?_
      refine lv_istore (lv' := [(10, .int (nI 0)), (9, .int (nI 0)), (8, .int (nI ((rA A r 0) * (rA A r 1)))), (7, .int (nI 1)), (6, .int (nI (ptN A r b))), (5, .int (m_place (arr A) r b (A 1))), (4, .int (m_co (arr A) r b)), (3, .int (nI (eA A r b 0))), (0, .ref (ad 0)), (1, .int (nI r)), (2, .int (nI b))]) X.1 X.2.1 dL_isEntry_74 hl (by decide) rfl (fun ls hl => ?_)
      have way76 : ∀ (k : Nat) (F1 : Nat → va_E) (hk1 : k ≤ A 1) (hOB : OB ad cI cB cS F1 hs A A3) (hfr : Fr F F1 0 111) (hx : A 1 ≤ k) (H : Heap) (locs : List Loc) (hw : HW D (Af ad N s.heap.size) ad N F1 s H locs) (ls : Array Slot) (hl : lv_has ls 12 [(9, .int (nI (aI A r b k))), (10, .int (nI k)), (8, .int (nI ((rA A r 0) * (rA A r 1)))), (7, .int (nI 1)), (6, .int (nI (ptN A r b))), (5, .int (m_place (arr A) r b (A 1))), (4, .int (m_co (arr A) r b)), (3, .int (nI (eA A r b 0))), (0, .ref (ad 0)), (1, .int (nI r)), (2, .int (nI b))]), W p l e { frames := 7, cells := 0, slots := 0, locals := 160 } s m [.ref (ad 0), .int (nI r), .int (nI b)].toArray below meth c H locs 0 0 (MQ below (va_Qi (fun v F' => v = nI 1 ∧ OB ad cI cB cS F' hs A A3 ∧ Fr F F' 0 111) (fun F' t => PO D ad N F' t) (Af ad N s.heap.size)) [.ref (ad 0), .int (nI r), .int (nI b)].toArray s 0 0 (Af ad N s.heap.size)) (F0 m 139 ls []) := by
        intro k F1 hk1 hOB hfr hx H locs hw ls hl
        have ekA : k = A 1 := by omega
        have hak : aI A r b k = aI A r b (A 1) := by rw [ekA]
        by_cases hf : eA A r b 0 = 3
        · rw [co_n hJ hc hk hrA hb hf] at hl
          have hah := aI_ah hJ hc hk hrA hb hf (A 1) (Nat.le_refl _)
          by_cases hd : eA A r b 4 = 0
          · rw [place_n hJ hc hk hrA hb, if_pos (show cnP A r b from ⟨hf, hd⟩)] at hl
            have hpt : ptN A r b = plN A r b := if_pos (show cnP A r b from ⟨hf, hd⟩)
            have hpl : plN A r b = ahN A r b (A 1) + 1 := rfl
            refine lv_iload_n X.1 X.2.1 dL_isEntry_139 rfl (lv_at hl 7 rfl) ?_
            refine lv_if_lt (tgt := 278) X.1 X.2.1 dL_isEntry_140 (by decide) (fun c38 => ?_) (fun c38 => ?_)
            · exact absurd ((bz_lt (by omega)).mp c38) (by omega)
            · have n39 : ¬ (eA A r b 0) < 0 := fun z => c38 ((bz_lt (by omega)).mpr z)
              refine lv_iload_n X.1 X.2.1 dL_isEntry_143 rfl (lv_at hl 7 rfl) ?_
              refine lv_iconst (v := nI 4) X.1 X.2.1 dL_isEntry_144 (by decide) ?_
              refine lv_icmp_gt (tgt := 278) X.1 X.2.1 dL_isEntry_145 (by decide) (fun c40 => ?_) (fun c40 => ?_)
              · exact absurd ((br_lt (by omega) (by omega)).mp c40) (by omega)
              · have n41 : ¬ 4 < (eA A r b 0) := fun z => c40 ((br_lt (by omega) (by omega)).mpr z)
                refine lv_aload_n X.1 X.2.1 dL_isEntry_148 rfl (lv_at hl 8 rfl) ?_
                refine lv_iload_n X.1 X.2.1 dL_isEntry_149 rfl (lv_at hl 9 rfl) ?_
                refine lv_iload_n X.1 X.2.1 dL_isEntry_150 rfl (lv_at hl 10 rfl) ?_
                refine lv_iconst (v := nI 5) X.1 X.2.1 dL_isEntry_151 (by decide) ?_
                refine x_callV X hK hw (k := 0) (As := [.int (nI r), .int (nI b), .int (nI 5)]) (rest := []) (w_result hI (by omega) hJ.1.1 hOB (nI r) (nI b) (nI 5) (fun g t tm hE => (a_res5 hJ hc hk hE hrA hb tm).trans (el_n hJ hrA hb hf))) (x_cwV yX7_result cX7_result 4 (some .int) 3 X q695 q696 q697 q1 q698 hd_X7_result ⟨(Nat.le_of_ble_eq_true rfl), (Nat.le_of_ble_eq_true rfl)⟩) (by omega) hOB.ma rfl rfl hl.1 rfl (Nat.le_of_ble_eq_true rfl) dL_isEntry_152 ⟨(Nat.le_of_ble_eq_true rfl), (Nat.le_of_ble_eq_true rfl)⟩ (fun v42 F43 H locs hp hw => ?_)
                obtain ⟨e44, hO45, hf46⟩ := hp
                refine x_top e44 ?_
                replace hfr := hfr.tr hf46 (by omega) (by omega)
                refine lv_if_lt (tgt := 162) X.1 X.2.1 dL_isEntry_155 (by decide) (fun c47 => ?_) (fun c47 => ?_)
                · exact absurd ((bz_lt (by omega)).mp c47) (by omega)
                · have n48 : ¬ (elN A r b) < 0 := fun z => c47 ((bz_lt (by omega)).mpr z)
                  refine lv_iconst (v := nI 1) X.1 X.2.1 dL_isEntry_158 (by decide) ?_
                  refine lv_goto (tgt := 163) X.1 X.2.1 dL_isEntry_159 (by decide) ?_
                  refine lv_iload_n X.1 X.2.1 dL_isEntry_163 rfl (lv_at hl 7 rfl) ?_
                  refine lv_iconst (v := nI 3) X.1 X.2.1 dL_isEntry_164 (by decide) ?_
                  refine lv_icmp_ne (tgt := 172) X.1 X.2.1 dL_isEntry_165 (by decide) (fun c49 => ?_) (fun c49 => ?_)
                  · exact absurd ((nI_eq (by omega) (by omega)).mpr (by omega)) c49
                  · have n50 := (nI_eq (by omega) (by omega)).mp c49
                    refine lv_iconst (v := nI 1) X.1 X.2.1 dL_isEntry_168 (by decide) ?_
                    refine lv_goto (tgt := 173) X.1 X.2.1 dL_isEntry_169 (by decide) ?_
                    refine lv_icmp_ne (tgt := 278) X.1 X.2.1 dL_isEntry_173 (by decide) (fun c51 => ?_) (fun c51 => ?_)
                    · exact absurd (by decide) c51
                    · refine lv_iload_n X.1 X.2.1 dL_isEntry_176 rfl (lv_at hl 7 rfl) ?_
                      refine lv_iconst (v := nI 3) X.1 X.2.1 dL_isEntry_177 (by decide) ?_
                      refine lv_icmp_ne (tgt := 206) X.1 X.2.1 dL_isEntry_178 (by decide) (fun c52 => ?_) (fun c52 => ?_)
                      · exact absurd ((nI_eq (by omega) (by omega)).mpr (by omega)) c52
                      · have n53 := (nI_eq (by omega) (by omega)).mp c52
                        refine lv_iload X.1 X.2.1 dL_isEntry_181 (lv_at hl 6 rfl) ?_
                        refine lv_bipush (v := nI 100) X.1 X.2.1 dL_isEntry_183 (by decide) ?_
                        refine lv_aload_n X.1 X.2.1 dL_isEntry_185 rfl (lv_at hl 8 rfl) ?_
                        refine lv_iload_n X.1 X.2.1 dL_isEntry_186 rfl (lv_at hl 9 rfl) ?_
                        refine lv_iload_n X.1 X.2.1 dL_isEntry_187 rfl (lv_at hl 10 rfl) ?_
                        refine lv_iconst (v := nI 5) X.1 X.2.1 dL_isEntry_188 (by decide) ?_
                        refine x_callV X hK hw (k := 0) (As := [.int (nI r), .int (nI b), .int (nI 5)]) (rest := [.int (nI 100), .int (nI (coN A r b))]) (w_result hI (by omega) hJ.1.1 hO45 (nI r) (nI b) (nI 5) (fun g t tm hE => (a_res5 hJ hc hk hE hrA hb tm).trans (el_n hJ hrA hb hf))) (x_cwV yX7_result cX7_result 4 (some .int) 3 X q695 q696 q697 q1 q698 hd_X7_result ⟨(Nat.le_of_ble_eq_true rfl), (Nat.le_of_ble_eq_true rfl)⟩) (by omega) hO45.ma rfl rfl hl.1 rfl (Nat.le_of_ble_eq_true rfl) dL_isEntry_189 ⟨(Nat.le_of_ble_eq_true rfl), (Nat.le_of_ble_eq_true rfl)⟩ (fun v54 F55 H locs hp hw => ?_)
                        obtain ⟨e56, hO57, hf58⟩ := hp
                        refine x_top e56 ?_
                        replace hfr := hfr.tr hf58 (by omega) (by omega)
                        refine lv_imul X.1 X.2.1 dL_isEntry_192 ?_
                        refine x_top (pk_mul _ _) ?_
                        refine lv_aload_n X.1 X.2.1 dL_isEntry_193 rfl (lv_at hl 8 rfl) ?_
                        refine lv_iload_n X.1 X.2.1 dL_isEntry_194 rfl (lv_at hl 10 rfl) ?_
                        refine lv_iconst (v := nI 0) X.1 X.2.1 dL_isEntry_195 (by decide) ?_
                        refine x_callV X hK hw (k := 0) (As := [.int (nI b), .int (nI 0)]) (rest := [.int (nI (100 * (elN A r b))), .int (nI (coN A r b))]) (w_boat hI (by omega) hJ hO57 (nI b) (nI 0) (fun g t tm pt sm tl hE => a_boa0 hJ hc hk hE (by omega) tm pt sm tl)) (x_cwV yX7_boat cX7_boat 3 (some .int) 2 X q755 q756 q757 q1 q758 hd_X7_boat ⟨(Nat.le_of_ble_eq_true rfl), (Nat.le_of_ble_eq_true rfl)⟩) (by omega) hO57.ma rfl rfl hl.1 rfl (Nat.le_of_ble_eq_true rfl) dL_isEntry_196 ⟨(Nat.le_of_ble_eq_true rfl), (Nat.le_of_ble_eq_true rfl)⟩ (fun v59 F60 H locs hp hw => ?_)
                        obtain ⟨e61, hO62, hf63⟩ := hp
                        refine x_top e61 ?_
                        replace hfr := hfr.tr hf63 (by omega) (by omega)
                        refine lv_idiv X.1 X.2.1 dL_isEntry_199 (fun z => by have := (bz_eq (by omega)).mp z; omega) ?_
                        refine x_top (pk_div (by omega) (by omega) (by omega)) ?_
                        refine lv_icmp_ne (tgt := 278) X.1 X.2.1 dL_isEntry_200 (by decide) (fun c64 => ?_) (fun c64 => ?_)
                        · exact absurd ((nI_eq (by omega) (by omega)).mpr (by omega)) c64
                        · have n65 := (nI_eq (by omega) (by omega)).mp c64
                          refine lv_goto (tgt := 225) X.1 X.2.1 dL_isEntry_203 (by decide) ?_
                          refine lv_aload_n X.1 X.2.1 dL_isEntry_225 rfl (lv_at hl 8 rfl) ?_
                          refine lv_iload_n X.1 X.2.1 dL_isEntry_226 rfl (lv_at hl 9 rfl) ?_
                          refine lv_iload_n X.1 X.2.1 dL_isEntry_227 rfl (lv_at hl 10 rfl) ?_
                          refine lv_iconst (v := nI 1) X.1 X.2.1 dL_isEntry_228 (by decide) ?_
                          refine x_callV X hK hw (k := 0) (As := [.int (nI r), .int (nI b), .int (nI 1)]) (rest := []) (w_result hI (by omega) hJ.1.1 hO62 (nI r) (nI b) (nI 1) (fun g t tm hE => a_res1 hJ hc hk hE (by omega) (by omega) tm)) (x_cwV yX7_result cX7_result 4 (some .int) 3 X q695 q696 q697 q1 q698 hd_X7_result ⟨(Nat.le_of_ble_eq_true rfl), (Nat.le_of_ble_eq_true rfl)⟩) (by omega) hO62.ma rfl rfl hl.1 rfl (Nat.le_of_ble_eq_true rfl) dL_isEntry_229 ⟨(Nat.le_of_ble_eq_true rfl), (Nat.le_of_ble_eq_true rfl)⟩ (fun v66 F67 H locs hp hw => ?_)
                          obtain ⟨e68, hO69, hf70⟩ := hp
                          refine x_top e68 ?_
                          replace hfr := hfr.tr hf70 (by omega) (by omega)
                          refine lv_iload X.1 X.2.1 dL_isEntry_232 (lv_at hl 2 rfl) ?_
                          refine lv_icmp_gt (tgt := 278) X.1 X.2.1 dL_isEntry_234 (by decide) (fun c71 => ?_) (fun c71 => ?_)
                          · exact absurd ((br_lt (by omega) (by omega)).mp c71) (by omega)
                          · have n72 : ¬ ((rA A r 0) * (rA A r 1)) < (eA A r b 1) := fun z => c71 ((br_lt (by omega) (by omega)).mpr z)
                            refine lv_iload_n X.1 X.2.1 dL_isEntry_237 rfl (lv_at hl 7 rfl) ?_
                            refine lv_iconst (v := nI 3) X.1 X.2.1 dL_isEntry_238 (by decide) ?_
                            refine lv_icmp_ne (tgt := 254) X.1 X.2.1 dL_isEntry_239 (by decide) (fun c73 => ?_) (fun c73 => ?_)
                            · exact absurd ((nI_eq (by omega) (by omega)).mpr (by omega)) c73
                            · have n74 := (nI_eq (by omega) (by omega)).mp c73
                              refine lv_aload_n X.1 X.2.1 dL_isEntry_242 rfl (lv_at hl 8 rfl) ?_
                              refine lv_iload_n X.1 X.2.1 dL_isEntry_243 rfl (lv_at hl 9 rfl) ?_
                              refine lv_iload_n X.1 X.2.1 dL_isEntry_244 rfl (lv_at hl 10 rfl) ?_
                              refine lv_iconst (v := nI 1) X.1 X.2.1 dL_isEntry_245 (by decide) ?_
                              refine x_callV X hK hw (k := 0) (As := [.int (nI r), .int (nI b), .int (nI 1)]) (rest := []) (w_result hI (by omega) hJ.1.1 hO69 (nI r) (nI b) (nI 1) (fun g t tm hE => a_res1 hJ hc hk hE (by omega) (by omega) tm)) (x_cwV yX7_result cX7_result 4 (some .int) 3 X q695 q696 q697 q1 q698 hd_X7_result ⟨(Nat.le_of_ble_eq_true rfl), (Nat.le_of_ble_eq_true rfl)⟩) (by omega) hO69.ma rfl rfl hl.1 rfl (Nat.le_of_ble_eq_true rfl) dL_isEntry_246 ⟨(Nat.le_of_ble_eq_true rfl), (Nat.le_of_ble_eq_true rfl)⟩ (fun v75 F76 H locs hp hw => ?_)
                              obtain ⟨e77, hO78, hf79⟩ := hp
                              refine x_top e77 ?_
                              replace hfr := hfr.tr hf79 (by omega) (by omega)
                              refine lv_iload X.1 X.2.1 dL_isEntry_249 (lv_at hl 2 rfl) ?_
                              refine lv_icmp_ne (tgt := 278) X.1 X.2.1 dL_isEntry_251 (by decide) (fun c80 => ?_) (fun c80 => ?_)
                              · exact absurd ((nI_eq (by omega) (by omega)).mpr (by omega)) c80
                              · have n81 := (nI_eq (by omega) (by omega)).mp c80
                                refine lv_aload_n X.1 X.2.1 dL_isEntry_254 rfl (lv_at hl 8 rfl) ?_
                                refine lv_iload_n X.1 X.2.1 dL_isEntry_255 rfl (lv_at hl 9 rfl) ?_
                                refine lv_iload_n X.1 X.2.1 dL_isEntry_256 rfl (lv_at hl 10 rfl) ?_
                                refine lv_iconst (v := nI 2) X.1 X.2.1 dL_isEntry_257 (by decide) ?_
                                refine x_callV X hK hw (k := 0) (As := [.int (nI r), .int (nI b), .int (nI 2)]) (rest := []) (w_result hI (by omega) hJ.1.1 hO78 (nI r) (nI b) (nI 2) (fun g t tm hE => a_res2 hJ hc hk hE (by omega) (by omega) tm)) (x_cwV yX7_result cX7_result 4 (some .int) 3 X q695 q696 q697 q1 q698 hd_X7_result ⟨(Nat.le_of_ble_eq_true rfl), (Nat.le_of_ble_eq_true rfl)⟩) (by omega) hO78.ma rfl rfl hl.1 rfl (Nat.le_of_ble_eq_true rfl) dL_isEntry_258 ⟨(Nat.le_of_ble_eq_true rfl), (Nat.le_of_ble_eq_true rfl)⟩ (fun v82 F83 H locs hp hw => ?_)
                                obtain ⟨e84, hO85, hf86⟩ := hp
                                refine x_top e84 ?_
                                replace hfr := hfr.tr hf86 (by omega) (by omega)
                                refine lv_if_lt (tgt := 278) X.1 X.2.1 dL_isEntry_261 (by decide) (fun c87 => ?_) (fun c87 => ?_)
                                · exact absurd ((bz_lt (by omega)).mp c87) (by omega)
                                · have n88 : ¬ (eA A r b 2) < 0 := fun z => c87 ((bz_lt (by omega)).mpr z)
                                  refine lv_aload_n X.1 X.2.1 dL_isEntry_264 rfl (lv_at hl 8 rfl) ?_
                                  refine lv_iload_n X.1 X.2.1 dL_isEntry_265 rfl (lv_at hl 9 rfl) ?_
                                  refine lv_iload_n X.1 X.2.1 dL_isEntry_266 rfl (lv_at hl 10 rfl) ?_
                                  refine lv_iconst (v := nI 3) X.1 X.2.1 dL_isEntry_267 (by decide) ?_
                                  refine x_callV X hK hw (k := 0) (As := [.int (nI r), .int (nI b), .int (nI 3)]) (rest := []) (w_result hI (by omega) hJ.1.1 hO85 (nI r) (nI b) (nI 3) (fun g t tm hE => a_res3 hJ hc hk hE (by omega) (by omega) tm)) (x_cwV yX7_result cX7_result 4 (some .int) 3 X q695 q696 q697 q1 q698 hd_X7_result ⟨(Nat.le_of_ble_eq_true rfl), (Nat.le_of_ble_eq_true rfl)⟩) (by omega) hO85.ma rfl rfl hl.1 rfl (Nat.le_of_ble_eq_true rfl) dL_isEntry_268 ⟨(Nat.le_of_ble_eq_true rfl), (Nat.le_of_ble_eq_true rfl)⟩ (fun v89 F90 H locs hp hw => ?_)
                                  obtain ⟨e91, hO92, hf93⟩ := hp
                                  refine x_top e91 ?_
                                  replace hfr := hfr.tr hf93 (by omega) (by omega)
                                  refine lv_if_lt (tgt := 278) X.1 X.2.1 dL_isEntry_271 (by decide) (fun c94 => ?_) (fun c94 => ?_)
                                  · exact absurd ((bz_lt (by omega)).mp c94) (by omega)
                                  · have n95 : ¬ (eA A r b 3) < 0 := fun z => c94 ((bz_lt (by omega)).mpr z)
                                    refine lv_iconst (v := nI 1) X.1 X.2.1 dL_isEntry_274 (by decide) ?_
                                    refine lv_goto (tgt := 279) X.1 X.2.1 dL_isEntry_275 (by decide) ?_
                                    refine lv_istore (lv' := [(10, .int (nI 1)), (9, .int (nI (aI A r b k))), (8, .int (nI ((rA A r 0) * (rA A r 1)))), (7, .int (nI 1)), (6, .int (nI (ptN A r b))), (5, .int (nI (plN A r b))), (4, .int (nI (coN A r b))), (3, .int (nI (eA A r b 0))), (0, .ref (ad 0)), (1, .int (nI r)), (2, .int (nI b))]) X.1 X.2.1 dL_isEntry_279 hl (by decide) rfl (fun ls hl => ?_)
                                    refine lv_iload_n X.1 X.2.1 dL_isEntry_281 rfl (lv_at hl 7 rfl) ?_
                                    refine lv_iconst (v := nI 3) X.1 X.2.1 dL_isEntry_282 (by decide) ?_
                                    refine lv_icmp_ne (tgt := 305) X.1 X.2.1 dL_isEntry_283 (by decide) (fun c96 => ?_) (fun c96 => ?_)
                                    · exact absurd ((nI_eq (by omega) (by omega)).mpr (by omega)) c96
                                    · have n97 := (nI_eq (by omega) (by omega)).mp c96
                                      refine lv_aload_n X.1 X.2.1 dL_isEntry_286 rfl (lv_at hl 8 rfl) ?_
                                      refine lv_iload_n X.1 X.2.1 dL_isEntry_287 rfl (lv_at hl 9 rfl) ?_
                                      refine lv_iload_n X.1 X.2.1 dL_isEntry_288 rfl (lv_at hl 10 rfl) ?_
                                      refine lv_iconst (v := nI 4) X.1 X.2.1 dL_isEntry_289 (by decide) ?_
                                      refine x_callV X hK hw (k := 0) (As := [.int (nI r), .int (nI b), .int (nI 4)]) (rest := []) (w_result hI (by omega) hJ.1.1 hO92 (nI r) (nI b) (nI 4) (fun g t tm hE => a_res4 hJ hc hk hE (by omega) (by omega) tm)) (x_cwV yX7_result cX7_result 4 (some .int) 3 X q695 q696 q697 q1 q698 hd_X7_result ⟨(Nat.le_of_ble_eq_true rfl), (Nat.le_of_ble_eq_true rfl)⟩) (by omega) hO92.ma rfl rfl hl.1 rfl (Nat.le_of_ble_eq_true rfl) dL_isEntry_290 ⟨(Nat.le_of_ble_eq_true rfl), (Nat.le_of_ble_eq_true rfl)⟩ (fun v98 F99 H locs hp hw => ?_)
                                      obtain ⟨e100, hO101, hf102⟩ := hp
                                      refine x_top e100 ?_
                                      replace hfr := hfr.tr hf102 (by omega) (by omega)
                                      refine lv_if_ne (tgt := 305) X.1 X.2.1 dL_isEntry_293 (by decide) (fun c103 => ?_) (fun c103 => ?_)
                                      · exact absurd ((bz_eq (by omega)).mpr (by omega)) c103
                                      · have n104 := (bz_eq (by omega)).mp c103
                                        refine lv_iload X.1 X.2.1 dL_isEntry_296 (lv_at hl 3 rfl) ?_
                                        refine lv_if_eq (tgt := 305) X.1 X.2.1 dL_isEntry_298 (by decide) (fun c105 => ?_) (fun c105 => ?_)
                                        · exact absurd c105 (by decide)
                                        · refine lv_iconst (v := nI 1) X.1 X.2.1 dL_isEntry_301 (by decide) ?_
                                          refine lv_goto (tgt := 306) X.1 X.2.1 dL_isEntry_302 (by decide) ?_
                                          refine lv_istore (lv' := [(11, .int (nI 1)), (10, .int (nI 1)), (9, .int (nI (aI A r b k))), (8, .int (nI ((rA A r 0) * (rA A r 1)))), (7, .int (nI 1)), (6, .int (nI (ptN A r b))), (5, .int (nI (plN A r b))), (4, .int (nI (coN A r b))), (3, .int (nI (eA A r b 0))), (0, .ref (ad 0)), (1, .int (nI r)), (2, .int (nI b))]) X.1 X.2.1 dL_isEntry_306 hl (by decide) rfl (fun ls hl => ?_)
                                          refine lv_iload X.1 X.2.1 dL_isEntry_308 (lv_at hl 1 rfl) ?_
                                          refine lv_if_eq (tgt := 413) X.1 X.2.1 dL_isEntry_310 (by decide) (fun c106 => ?_) (fun c106 => ?_)
                                          · exact absurd c106 (by decide)
                                          · refine lv_iload X.1 X.2.1 dL_isEntry_313 (lv_at hl 6 rfl) ?_
                                            refine lv_bipush (v := (-5)) X.1 X.2.1 dL_isEntry_315 (by decide) ?_
                                            refine lv_icmp_eq (tgt := 324) X.1 X.2.1 dL_isEntry_317 (by decide) (fun c107 => ?_) (fun c107 => ?_)
                                            · exact absurd c107 (nI_neN (by omega) (by decide))
                                            · refine lv_iconst (v := nI 1) X.1 X.2.1 dL_isEntry_320 (by decide) ?_
                                              refine lv_goto (tgt := 325) X.1 X.2.1 dL_isEntry_321 (by decide) ?_
                                              refine lv_iload X.1 X.2.1 dL_isEntry_325 (lv_at hl 0 rfl) ?_
                                              refine lv_icmp_ne (tgt := 413) X.1 X.2.1 dL_isEntry_327 (by decide) (fun c108 => ?_) (fun c108 => ?_)
                                              · exact absurd (by decide) c108
                                              · refine lv_iload X.1 X.2.1 dL_isEntry_330 (lv_at hl 0 rfl) ?_
                                                refine lv_if_eq (tgt := 351) X.1 X.2.1 dL_isEntry_332 (by decide) (fun c109 => ?_) (fun c109 => ?_)
                                                · exact absurd c109 (by decide)
                                                · refine lv_iload X.1 X.2.1 dL_isEntry_335 (lv_at hl 5 rfl) ?_
                                                  refine lv_iload X.1 X.2.1 dL_isEntry_337 (lv_at hl 6 rfl) ?_
                                                  refine lv_icmp_ne (tgt := 413) X.1 X.2.1 dL_isEntry_339 (by decide) (fun c110 => ?_) (fun c110 => ?_)
                                                  · exact absurd ((nI_eq (by omega) (by omega)).mpr (by omega)) c110
                                                  · have n111 := (nI_eq (by omega) (by omega)).mp c110
                                                    refine lv_iload X.1 X.2.1 dL_isEntry_342 (lv_at hl 6 rfl) ?_
                                                    refine lv_iload X.1 X.2.1 dL_isEntry_344 (lv_at hl 2 rfl) ?_
                                                    refine lv_iconst (v := nI 1) X.1 X.2.1 dL_isEntry_346 (by decide) ?_
                                                    refine lv_iadd X.1 X.2.1 dL_isEntry_347 ?_
                                                    refine x_top (nI_add _ _) ?_
                                                    refine lv_icmp_ne (tgt := 413) X.1 X.2.1 dL_isEntry_348 (by decide) (fun c112 => ?_) (fun c112 => ?_)
                                                    · exact absurd ((nI_eq (by omega) (by omega)).mpr (by omega)) c112
                                                    · have n113 := (nI_eq (by omega) (by omega)).mp c112
                                                      refine lv_iload X.1 X.2.1 dL_isEntry_351 (lv_at hl 4 rfl) ?_
                                                      refine lv_if_eq (tgt := 402) X.1 X.2.1 dL_isEntry_353 (by decide) (fun c114 => ?_) (fun c114 => ?_)
                                                      · exact absurd c114 (by decide)
                                                      · refine lv_iload X.1 X.2.1 dL_isEntry_356 (lv_at hl 5 rfl) ?_
                                                        refine lv_iconst (v := nI 1) X.1 X.2.1 dL_isEntry_358 (by decide) ?_
                                                        refine lv_icmp_lt (tgt := 413) X.1 X.2.1 dL_isEntry_359 (by decide) (fun c115 => ?_) (fun c115 => ?_)
                                                        · exact absurd ((br_lt (by omega) (by omega)).mp c115) (by omega)
                                                        · have n116 : ¬ (ptN A r b) < 1 := fun z => c115 ((br_lt (by omega) (by omega)).mpr z)
                                                          refine lv_iload X.1 X.2.1 dL_isEntry_362 (lv_at hl 5 rfl) ?_
                                                          refine lv_aload_n X.1 X.2.1 dL_isEntry_364 rfl (lv_at hl 9 rfl) ?_
                                                          refine lv_iconst (v := nI 0) X.1 X.2.1 dL_isEntry_365 (by decide) ?_
                                                          refine x_callV X hK hw (k := 0) (As := [.int (nI 0)]) (rest := [.int (nI (ptN A r b))]) (w_count hI (by omega) hO101 (nI 0) (fun g t z n hE => a_cou0 hJ hc hk hE z n)) (x_cwV yX7_count cX7_count 2 (some .int) 1 X q818 q819 q820 q1 q821 hd_X7_count ⟨(Nat.le_of_ble_eq_true rfl), (Nat.le_of_ble_eq_true rfl)⟩) (by omega) hO101.ma rfl rfl hl.1 rfl (Nat.le_of_ble_eq_true rfl) dL_isEntry_366 ⟨(Nat.le_of_ble_eq_true rfl), (Nat.le_of_ble_eq_true rfl)⟩ (fun v117 F118 H locs hp hw => ?_)
                                                          obtain ⟨e119, hO120, hf121⟩ := hp
                                                          refine x_top e119 ?_
                                                          replace hfr := hfr.tr hf121 (by omega) (by omega)
                                                          refine lv_iconst (v := nI 2) X.1 X.2.1 dL_isEntry_369 (by decide) ?_
                                                          refine lv_iadd X.1 X.2.1 dL_isEntry_370 ?_
                                                          refine x_top (nI_add _ _) ?_
                                                          refine lv_icmp_gt (tgt := 413) X.1 X.2.1 dL_isEntry_371 (by decide) (fun c122 => ?_) (fun c122 => ?_)
                                                          · exact absurd ((br_lt (by omega) (by omega)).mp c122) (by omega)
                                                          · have n123 : ¬ ((A 1) + 2) < (ptN A r b) := fun z => c122 ((br_lt (by omega) (by omega)).mpr z)
                                                            refine lv_iload X.1 X.2.1 dL_isEntry_374 (lv_at hl 0 rfl) ?_
                                                            refine lv_if_ne (tgt := 409) X.1 X.2.1 dL_isEntry_376 (by decide) (fun c124 => ?_) (fun c124 => ?_)
                                                            · refine lv_iconst (v := nI 1) X.1 X.2.1 dL_isEntry_409 (by decide) ?_
                                                              refine lv_goto (tgt := 414) X.1 X.2.1 dL_isEntry_410 (by decide) ?_
                                                              exact x_iret X hr hlk hK hw (v := nI 1) (by first | rfl | exact nr_b _ | decide) (⟨rfl, hO120, hfr⟩) dL_isEntry_414
                                                            · exact absurd c124 (by decide)
          · rw [place_n hJ hc hk hrA hb, if_neg (fun z : cnP A r b => hd z.2)] at hl
            have hpt : ptN A r b = A 1 + 1 + eA A r b 4 := if_neg (fun z : cnP A r b => hd z.2)
            refine lv_iload_n X.1 X.2.1 dL_isEntry_139 rfl (lv_at hl 7 rfl) ?_
            refine lv_if_lt (tgt := 278) X.1 X.2.1 dL_isEntry_140 (by decide) (fun c125 => ?_) (fun c125 => ?_)
            · exact absurd ((bz_lt (by omega)).mp c125) (by omega)
            · have n126 : ¬ (eA A r b 0) < 0 := fun z => c125 ((bz_lt (by omega)).mpr z)
              refine lv_iload_n X.1 X.2.1 dL_isEntry_143 rfl (lv_at hl 7 rfl) ?_
              refine lv_iconst (v := nI 4) X.1 X.2.1 dL_isEntry_144 (by decide) ?_
              refine lv_icmp_gt (tgt := 278) X.1 X.2.1 dL_isEntry_145 (by decide) (fun c127 => ?_) (fun c127 => ?_)
              · exact absurd ((br_lt (by omega) (by omega)).mp c127) (by omega)
              · have n128 : ¬ 4 < (eA A r b 0) := fun z => c127 ((br_lt (by omega) (by omega)).mpr z)
                refine lv_aload_n X.1 X.2.1 dL_isEntry_148 rfl (lv_at hl 8 rfl) ?_
                refine lv_iload_n X.1 X.2.1 dL_isEntry_149 rfl (lv_at hl 9 rfl) ?_
                refine lv_iload_n X.1 X.2.1 dL_isEntry_150 rfl (lv_at hl 10 rfl) ?_
                refine lv_iconst (v := nI 5) X.1 X.2.1 dL_isEntry_151 (by decide) ?_
                refine x_callV X hK hw (k := 0) (As := [.int (nI r), .int (nI b), .int (nI 5)]) (rest := []) (w_result hI (by omega) hJ.1.1 hOB (nI r) (nI b) (nI 5) (fun g t tm hE => (a_res5 hJ hc hk hE hrA hb tm).trans (el_n hJ hrA hb hf))) (x_cwV yX7_result cX7_result 4 (some .int) 3 X q695 q696 q697 q1 q698 hd_X7_result ⟨(Nat.le_of_ble_eq_true rfl), (Nat.le_of_ble_eq_true rfl)⟩) (by omega) hOB.ma rfl rfl hl.1 rfl (Nat.le_of_ble_eq_true rfl) dL_isEntry_152 ⟨(Nat.le_of_ble_eq_true rfl), (Nat.le_of_ble_eq_true rfl)⟩ (fun v129 F130 H locs hp hw => ?_)
                obtain ⟨e131, hO132, hf133⟩ := hp
                refine x_top e131 ?_
                replace hfr := hfr.tr hf133 (by omega) (by omega)
                refine lv_if_lt (tgt := 162) X.1 X.2.1 dL_isEntry_155 (by decide) (fun c134 => ?_) (fun c134 => ?_)
                · exact absurd ((bz_lt (by omega)).mp c134) (by omega)
                · have n135 : ¬ (elN A r b) < 0 := fun z => c134 ((bz_lt (by omega)).mpr z)
                  refine lv_iconst (v := nI 1) X.1 X.2.1 dL_isEntry_158 (by decide) ?_
                  refine lv_goto (tgt := 163) X.1 X.2.1 dL_isEntry_159 (by decide) ?_
                  refine lv_iload_n X.1 X.2.1 dL_isEntry_163 rfl (lv_at hl 7 rfl) ?_
                  refine lv_iconst (v := nI 3) X.1 X.2.1 dL_isEntry_164 (by decide) ?_
                  refine lv_icmp_ne (tgt := 172) X.1 X.2.1 dL_isEntry_165 (by decide) (fun c136 => ?_) (fun c136 => ?_)
                  · exact absurd ((nI_eq (by omega) (by omega)).mpr (by omega)) c136
                  · have n137 := (nI_eq (by omega) (by omega)).mp c136
                    refine lv_iconst (v := nI 1) X.1 X.2.1 dL_isEntry_168 (by decide) ?_
                    refine lv_goto (tgt := 173) X.1 X.2.1 dL_isEntry_169 (by decide) ?_
                    refine lv_icmp_ne (tgt := 278) X.1 X.2.1 dL_isEntry_173 (by decide) (fun c138 => ?_) (fun c138 => ?_)
                    · exact absurd (by decide) c138
                    · refine lv_iload_n X.1 X.2.1 dL_isEntry_176 rfl (lv_at hl 7 rfl) ?_
                      refine lv_iconst (v := nI 3) X.1 X.2.1 dL_isEntry_177 (by decide) ?_
                      refine lv_icmp_ne (tgt := 206) X.1 X.2.1 dL_isEntry_178 (by decide) (fun c139 => ?_) (fun c139 => ?_)
                      · exact absurd ((nI_eq (by omega) (by omega)).mpr (by omega)) c139
                      · have n140 := (nI_eq (by omega) (by omega)).mp c139
                        refine lv_iload X.1 X.2.1 dL_isEntry_181 (lv_at hl 6 rfl) ?_
                        refine lv_bipush (v := nI 100) X.1 X.2.1 dL_isEntry_183 (by decide) ?_
                        refine lv_aload_n X.1 X.2.1 dL_isEntry_185 rfl (lv_at hl 8 rfl) ?_
                        refine lv_iload_n X.1 X.2.1 dL_isEntry_186 rfl (lv_at hl 9 rfl) ?_
                        refine lv_iload_n X.1 X.2.1 dL_isEntry_187 rfl (lv_at hl 10 rfl) ?_
                        refine lv_iconst (v := nI 5) X.1 X.2.1 dL_isEntry_188 (by decide) ?_
                        refine x_callV X hK hw (k := 0) (As := [.int (nI r), .int (nI b), .int (nI 5)]) (rest := [.int (nI 100), .int (nI (coN A r b))]) (w_result hI (by omega) hJ.1.1 hO132 (nI r) (nI b) (nI 5) (fun g t tm hE => (a_res5 hJ hc hk hE hrA hb tm).trans (el_n hJ hrA hb hf))) (x_cwV yX7_result cX7_result 4 (some .int) 3 X q695 q696 q697 q1 q698 hd_X7_result ⟨(Nat.le_of_ble_eq_true rfl), (Nat.le_of_ble_eq_true rfl)⟩) (by omega) hO132.ma rfl rfl hl.1 rfl (Nat.le_of_ble_eq_true rfl) dL_isEntry_189 ⟨(Nat.le_of_ble_eq_true rfl), (Nat.le_of_ble_eq_true rfl)⟩ (fun v141 F142 H locs hp hw => ?_)
                        obtain ⟨e143, hO144, hf145⟩ := hp
                        refine x_top e143 ?_
                        replace hfr := hfr.tr hf145 (by omega) (by omega)
                        refine lv_imul X.1 X.2.1 dL_isEntry_192 ?_
                        refine x_top (pk_mul _ _) ?_
                        refine lv_aload_n X.1 X.2.1 dL_isEntry_193 rfl (lv_at hl 8 rfl) ?_
                        refine lv_iload_n X.1 X.2.1 dL_isEntry_194 rfl (lv_at hl 10 rfl) ?_
                        refine lv_iconst (v := nI 0) X.1 X.2.1 dL_isEntry_195 (by decide) ?_
                        refine x_callV X hK hw (k := 0) (As := [.int (nI b), .int (nI 0)]) (rest := [.int (nI (100 * (elN A r b))), .int (nI (coN A r b))]) (w_boat hI (by omega) hJ hO144 (nI b) (nI 0) (fun g t tm pt sm tl hE => a_boa0 hJ hc hk hE (by omega) tm pt sm tl)) (x_cwV yX7_boat cX7_boat 3 (some .int) 2 X q755 q756 q757 q1 q758 hd_X7_boat ⟨(Nat.le_of_ble_eq_true rfl), (Nat.le_of_ble_eq_true rfl)⟩) (by omega) hO144.ma rfl rfl hl.1 rfl (Nat.le_of_ble_eq_true rfl) dL_isEntry_196 ⟨(Nat.le_of_ble_eq_true rfl), (Nat.le_of_ble_eq_true rfl)⟩ (fun v146 F147 H locs hp hw => ?_)
                        obtain ⟨e148, hO149, hf150⟩ := hp
                        refine x_top e148 ?_
                        replace hfr := hfr.tr hf150 (by omega) (by omega)
                        refine lv_idiv X.1 X.2.1 dL_isEntry_199 (fun z => by have := (bz_eq (by omega)).mp z; omega) ?_
                        refine x_top (pk_div (by omega) (by omega) (by omega)) ?_
                        refine lv_icmp_ne (tgt := 278) X.1 X.2.1 dL_isEntry_200 (by decide) (fun c151 => ?_) (fun c151 => ?_)
                        · exact absurd ((nI_eq (by omega) (by omega)).mpr (by omega)) c151
                        · have n152 := (nI_eq (by omega) (by omega)).mp c151
                          refine lv_goto (tgt := 225) X.1 X.2.1 dL_isEntry_203 (by decide) ?_
                          refine lv_aload_n X.1 X.2.1 dL_isEntry_225 rfl (lv_at hl 8 rfl) ?_
                          refine lv_iload_n X.1 X.2.1 dL_isEntry_226 rfl (lv_at hl 9 rfl) ?_
                          refine lv_iload_n X.1 X.2.1 dL_isEntry_227 rfl (lv_at hl 10 rfl) ?_
                          refine lv_iconst (v := nI 1) X.1 X.2.1 dL_isEntry_228 (by decide) ?_
                          refine x_callV X hK hw (k := 0) (As := [.int (nI r), .int (nI b), .int (nI 1)]) (rest := []) (w_result hI (by omega) hJ.1.1 hO149 (nI r) (nI b) (nI 1) (fun g t tm hE => a_res1 hJ hc hk hE (by omega) (by omega) tm)) (x_cwV yX7_result cX7_result 4 (some .int) 3 X q695 q696 q697 q1 q698 hd_X7_result ⟨(Nat.le_of_ble_eq_true rfl), (Nat.le_of_ble_eq_true rfl)⟩) (by omega) hO149.ma rfl rfl hl.1 rfl (Nat.le_of_ble_eq_true rfl) dL_isEntry_229 ⟨(Nat.le_of_ble_eq_true rfl), (Nat.le_of_ble_eq_true rfl)⟩ (fun v153 F154 H locs hp hw => ?_)
                          obtain ⟨e155, hO156, hf157⟩ := hp
                          refine x_top e155 ?_
                          replace hfr := hfr.tr hf157 (by omega) (by omega)
                          refine lv_iload X.1 X.2.1 dL_isEntry_232 (lv_at hl 2 rfl) ?_
                          refine lv_icmp_gt (tgt := 278) X.1 X.2.1 dL_isEntry_234 (by decide) (fun c158 => ?_) (fun c158 => ?_)
                          · exact absurd ((br_lt (by omega) (by omega)).mp c158) (by omega)
                          · have n159 : ¬ ((rA A r 0) * (rA A r 1)) < (eA A r b 1) := fun z => c158 ((br_lt (by omega) (by omega)).mpr z)
                            refine lv_iload_n X.1 X.2.1 dL_isEntry_237 rfl (lv_at hl 7 rfl) ?_
                            refine lv_iconst (v := nI 3) X.1 X.2.1 dL_isEntry_238 (by decide) ?_
                            refine lv_icmp_ne (tgt := 254) X.1 X.2.1 dL_isEntry_239 (by decide) (fun c160 => ?_) (fun c160 => ?_)
                            · exact absurd ((nI_eq (by omega) (by omega)).mpr (by omega)) c160
                            · have n161 := (nI_eq (by omega) (by omega)).mp c160
                              refine lv_aload_n X.1 X.2.1 dL_isEntry_242 rfl (lv_at hl 8 rfl) ?_
                              refine lv_iload_n X.1 X.2.1 dL_isEntry_243 rfl (lv_at hl 9 rfl) ?_
                              refine lv_iload_n X.1 X.2.1 dL_isEntry_244 rfl (lv_at hl 10 rfl) ?_
                              refine lv_iconst (v := nI 1) X.1 X.2.1 dL_isEntry_245 (by decide) ?_
                              refine x_callV X hK hw (k := 0) (As := [.int (nI r), .int (nI b), .int (nI 1)]) (rest := []) (w_result hI (by omega) hJ.1.1 hO156 (nI r) (nI b) (nI 1) (fun g t tm hE => a_res1 hJ hc hk hE (by omega) (by omega) tm)) (x_cwV yX7_result cX7_result 4 (some .int) 3 X q695 q696 q697 q1 q698 hd_X7_result ⟨(Nat.le_of_ble_eq_true rfl), (Nat.le_of_ble_eq_true rfl)⟩) (by omega) hO156.ma rfl rfl hl.1 rfl (Nat.le_of_ble_eq_true rfl) dL_isEntry_246 ⟨(Nat.le_of_ble_eq_true rfl), (Nat.le_of_ble_eq_true rfl)⟩ (fun v162 F163 H locs hp hw => ?_)
                              obtain ⟨e164, hO165, hf166⟩ := hp
                              refine x_top e164 ?_
                              replace hfr := hfr.tr hf166 (by omega) (by omega)
                              refine lv_iload X.1 X.2.1 dL_isEntry_249 (lv_at hl 2 rfl) ?_
                              refine lv_icmp_ne (tgt := 278) X.1 X.2.1 dL_isEntry_251 (by decide) (fun c167 => ?_) (fun c167 => ?_)
                              · exact absurd ((nI_eq (by omega) (by omega)).mpr (by omega)) c167
                              · have n168 := (nI_eq (by omega) (by omega)).mp c167
                                refine lv_aload_n X.1 X.2.1 dL_isEntry_254 rfl (lv_at hl 8 rfl) ?_
                                refine lv_iload_n X.1 X.2.1 dL_isEntry_255 rfl (lv_at hl 9 rfl) ?_
                                refine lv_iload_n X.1 X.2.1 dL_isEntry_256 rfl (lv_at hl 10 rfl) ?_
                                refine lv_iconst (v := nI 2) X.1 X.2.1 dL_isEntry_257 (by decide) ?_
                                refine x_callV X hK hw (k := 0) (As := [.int (nI r), .int (nI b), .int (nI 2)]) (rest := []) (w_result hI (by omega) hJ.1.1 hO165 (nI r) (nI b) (nI 2) (fun g t tm hE => a_res2 hJ hc hk hE (by omega) (by omega) tm)) (x_cwV yX7_result cX7_result 4 (some .int) 3 X q695 q696 q697 q1 q698 hd_X7_result ⟨(Nat.le_of_ble_eq_true rfl), (Nat.le_of_ble_eq_true rfl)⟩) (by omega) hO165.ma rfl rfl hl.1 rfl (Nat.le_of_ble_eq_true rfl) dL_isEntry_258 ⟨(Nat.le_of_ble_eq_true rfl), (Nat.le_of_ble_eq_true rfl)⟩ (fun v169 F170 H locs hp hw => ?_)
                                obtain ⟨e171, hO172, hf173⟩ := hp
                                refine x_top e171 ?_
                                replace hfr := hfr.tr hf173 (by omega) (by omega)
                                refine lv_if_lt (tgt := 278) X.1 X.2.1 dL_isEntry_261 (by decide) (fun c174 => ?_) (fun c174 => ?_)
                                · exact absurd ((bz_lt (by omega)).mp c174) (by omega)
                                · have n175 : ¬ (eA A r b 2) < 0 := fun z => c174 ((bz_lt (by omega)).mpr z)
                                  refine lv_aload_n X.1 X.2.1 dL_isEntry_264 rfl (lv_at hl 8 rfl) ?_
                                  refine lv_iload_n X.1 X.2.1 dL_isEntry_265 rfl (lv_at hl 9 rfl) ?_
                                  refine lv_iload_n X.1 X.2.1 dL_isEntry_266 rfl (lv_at hl 10 rfl) ?_
                                  refine lv_iconst (v := nI 3) X.1 X.2.1 dL_isEntry_267 (by decide) ?_
                                  refine x_callV X hK hw (k := 0) (As := [.int (nI r), .int (nI b), .int (nI 3)]) (rest := []) (w_result hI (by omega) hJ.1.1 hO172 (nI r) (nI b) (nI 3) (fun g t tm hE => a_res3 hJ hc hk hE (by omega) (by omega) tm)) (x_cwV yX7_result cX7_result 4 (some .int) 3 X q695 q696 q697 q1 q698 hd_X7_result ⟨(Nat.le_of_ble_eq_true rfl), (Nat.le_of_ble_eq_true rfl)⟩) (by omega) hO172.ma rfl rfl hl.1 rfl (Nat.le_of_ble_eq_true rfl) dL_isEntry_268 ⟨(Nat.le_of_ble_eq_true rfl), (Nat.le_of_ble_eq_true rfl)⟩ (fun v176 F177 H locs hp hw => ?_)
                                  obtain ⟨e178, hO179, hf180⟩ := hp
                                  refine x_top e178 ?_
                                  replace hfr := hfr.tr hf180 (by omega) (by omega)
                                  refine lv_if_lt (tgt := 278) X.1 X.2.1 dL_isEntry_271 (by decide) (fun c181 => ?_) (fun c181 => ?_)
                                  · exact absurd ((bz_lt (by omega)).mp c181) (by omega)
                                  · have n182 : ¬ (eA A r b 3) < 0 := fun z => c181 ((bz_lt (by omega)).mpr z)
                                    refine lv_iconst (v := nI 1) X.1 X.2.1 dL_isEntry_274 (by decide) ?_
                                    refine lv_goto (tgt := 279) X.1 X.2.1 dL_isEntry_275 (by decide) ?_
                                    refine lv_istore (lv' := [(10, .int (nI 1)), (9, .int (nI (aI A r b k))), (8, .int (nI ((rA A r 0) * (rA A r 1)))), (7, .int (nI 1)), (6, .int (nI (ptN A r b))), (5, .int ((-5))), (4, .int (nI (coN A r b))), (3, .int (nI (eA A r b 0))), (0, .ref (ad 0)), (1, .int (nI r)), (2, .int (nI b))]) X.1 X.2.1 dL_isEntry_279 hl (by decide) rfl (fun ls hl => ?_)
                                    refine lv_iload_n X.1 X.2.1 dL_isEntry_281 rfl (lv_at hl 7 rfl) ?_
                                    refine lv_iconst (v := nI 3) X.1 X.2.1 dL_isEntry_282 (by decide) ?_
                                    refine lv_icmp_ne (tgt := 305) X.1 X.2.1 dL_isEntry_283 (by decide) (fun c183 => ?_) (fun c183 => ?_)
                                    · exact absurd ((nI_eq (by omega) (by omega)).mpr (by omega)) c183
                                    · have n184 := (nI_eq (by omega) (by omega)).mp c183
                                      refine lv_aload_n X.1 X.2.1 dL_isEntry_286 rfl (lv_at hl 8 rfl) ?_
                                      refine lv_iload_n X.1 X.2.1 dL_isEntry_287 rfl (lv_at hl 9 rfl) ?_
                                      refine lv_iload_n X.1 X.2.1 dL_isEntry_288 rfl (lv_at hl 10 rfl) ?_
                                      refine lv_iconst (v := nI 4) X.1 X.2.1 dL_isEntry_289 (by decide) ?_
                                      refine x_callV X hK hw (k := 0) (As := [.int (nI r), .int (nI b), .int (nI 4)]) (rest := []) (w_result hI (by omega) hJ.1.1 hO179 (nI r) (nI b) (nI 4) (fun g t tm hE => a_res4 hJ hc hk hE (by omega) (by omega) tm)) (x_cwV yX7_result cX7_result 4 (some .int) 3 X q695 q696 q697 q1 q698 hd_X7_result ⟨(Nat.le_of_ble_eq_true rfl), (Nat.le_of_ble_eq_true rfl)⟩) (by omega) hO179.ma rfl rfl hl.1 rfl (Nat.le_of_ble_eq_true rfl) dL_isEntry_290 ⟨(Nat.le_of_ble_eq_true rfl), (Nat.le_of_ble_eq_true rfl)⟩ (fun v185 F186 H locs hp hw => ?_)
                                      obtain ⟨e187, hO188, hf189⟩ := hp
                                      refine x_top e187 ?_
                                      replace hfr := hfr.tr hf189 (by omega) (by omega)
                                      refine lv_if_ne (tgt := 305) X.1 X.2.1 dL_isEntry_293 (by decide) (fun c190 => ?_) (fun c190 => ?_)
                                      · have n191 : ¬ (eA A r b 4) = 0 := fun z => c190 ((bz_eq (by omega)).mpr z)
                                        refine lv_iconst (v := nI 0) X.1 X.2.1 dL_isEntry_305 (by decide) ?_
                                        refine lv_istore (lv' := [(11, .int (nI 0)), (10, .int (nI 1)), (9, .int (nI (aI A r b k))), (8, .int (nI ((rA A r 0) * (rA A r 1)))), (7, .int (nI 1)), (6, .int (nI (ptN A r b))), (5, .int ((-5))), (4, .int (nI (coN A r b))), (3, .int (nI (eA A r b 0))), (0, .ref (ad 0)), (1, .int (nI r)), (2, .int (nI b))]) X.1 X.2.1 dL_isEntry_306 hl (by decide) rfl (fun ls hl => ?_)
                                        refine lv_iload X.1 X.2.1 dL_isEntry_308 (lv_at hl 1 rfl) ?_
                                        refine lv_if_eq (tgt := 413) X.1 X.2.1 dL_isEntry_310 (by decide) (fun c192 => ?_) (fun c192 => ?_)
                                        · exact absurd c192 (by decide)
                                        · refine lv_iload X.1 X.2.1 dL_isEntry_313 (lv_at hl 6 rfl) ?_
                                          refine lv_bipush (v := (-5)) X.1 X.2.1 dL_isEntry_315 (by decide) ?_
                                          refine lv_icmp_eq (tgt := 324) X.1 X.2.1 dL_isEntry_317 (by decide) (fun c193 => ?_) (fun c193 => ?_)
                                          · refine lv_iconst (v := nI 0) X.1 X.2.1 dL_isEntry_324 (by decide) ?_
                                            refine lv_iload X.1 X.2.1 dL_isEntry_325 (lv_at hl 0 rfl) ?_
                                            refine lv_icmp_ne (tgt := 413) X.1 X.2.1 dL_isEntry_327 (by decide) (fun c194 => ?_) (fun c194 => ?_)
                                            · exact absurd (by decide) c194
                                            · refine lv_iload X.1 X.2.1 dL_isEntry_330 (lv_at hl 0 rfl) ?_
                                              refine lv_if_eq (tgt := 351) X.1 X.2.1 dL_isEntry_332 (by decide) (fun c195 => ?_) (fun c195 => ?_)
                                              · refine lv_iload X.1 X.2.1 dL_isEntry_351 (lv_at hl 4 rfl) ?_
                                                refine lv_if_eq (tgt := 402) X.1 X.2.1 dL_isEntry_353 (by decide) (fun c196 => ?_) (fun c196 => ?_)
                                                · exact absurd c196 (by decide)
                                                · refine lv_iload X.1 X.2.1 dL_isEntry_356 (lv_at hl 5 rfl) ?_
                                                  refine lv_iconst (v := nI 1) X.1 X.2.1 dL_isEntry_358 (by decide) ?_
                                                  refine lv_icmp_lt (tgt := 413) X.1 X.2.1 dL_isEntry_359 (by decide) (fun c197 => ?_) (fun c197 => ?_)
                                                  · exact absurd ((br_lt (by omega) (by omega)).mp c197) (by omega)
                                                  · have n198 : ¬ (ptN A r b) < 1 := fun z => c197 ((br_lt (by omega) (by omega)).mpr z)
                                                    refine lv_iload X.1 X.2.1 dL_isEntry_362 (lv_at hl 5 rfl) ?_
                                                    refine lv_aload_n X.1 X.2.1 dL_isEntry_364 rfl (lv_at hl 9 rfl) ?_
                                                    refine lv_iconst (v := nI 0) X.1 X.2.1 dL_isEntry_365 (by decide) ?_
                                                    refine x_callV X hK hw (k := 0) (As := [.int (nI 0)]) (rest := [.int (nI (ptN A r b))]) (w_count hI (by omega) hO188 (nI 0) (fun g t z n hE => a_cou0 hJ hc hk hE z n)) (x_cwV yX7_count cX7_count 2 (some .int) 1 X q818 q819 q820 q1 q821 hd_X7_count ⟨(Nat.le_of_ble_eq_true rfl), (Nat.le_of_ble_eq_true rfl)⟩) (by omega) hO188.ma rfl rfl hl.1 rfl (Nat.le_of_ble_eq_true rfl) dL_isEntry_366 ⟨(Nat.le_of_ble_eq_true rfl), (Nat.le_of_ble_eq_true rfl)⟩ (fun v199 F200 H locs hp hw => ?_)
                                                    obtain ⟨e201, hO202, hf203⟩ := hp
                                                    refine x_top e201 ?_
                                                    replace hfr := hfr.tr hf203 (by omega) (by omega)
                                                    refine lv_iconst (v := nI 2) X.1 X.2.1 dL_isEntry_369 (by decide) ?_
                                                    refine lv_iadd X.1 X.2.1 dL_isEntry_370 ?_
                                                    refine x_top (nI_add _ _) ?_
                                                    refine lv_icmp_gt (tgt := 413) X.1 X.2.1 dL_isEntry_371 (by decide) (fun c204 => ?_) (fun c204 => ?_)
                                                    · exact absurd ((br_lt (by omega) (by omega)).mp c204) (by omega)
                                                    · have n205 : ¬ ((A 1) + 2) < (ptN A r b) := fun z => c204 ((br_lt (by omega) (by omega)).mpr z)
                                                      refine lv_iload X.1 X.2.1 dL_isEntry_374 (lv_at hl 0 rfl) ?_
                                                      refine lv_if_ne (tgt := 409) X.1 X.2.1 dL_isEntry_376 (by decide) (fun c206 => ?_) (fun c206 => ?_)
                                                      · exact absurd (by decide) c206
                                                      · refine lv_iload X.1 X.2.1 dL_isEntry_379 (lv_at hl 5 rfl) ?_
                                                        refine lv_aload_n X.1 X.2.1 dL_isEntry_381 rfl (lv_at hl 9 rfl) ?_
                                                        refine lv_iconst (v := nI 0) X.1 X.2.1 dL_isEntry_382 (by decide) ?_
                                                        refine x_callV X hK hw (k := 0) (As := [.int (nI 0)]) (rest := [.int (nI (ptN A r b))]) (w_count hI (by omega) hO202 (nI 0) (fun g t z n hE => a_cou0 hJ hc hk hE z n)) (x_cwV yX7_count cX7_count 2 (some .int) 1 X q818 q819 q820 q1 q821 hd_X7_count ⟨(Nat.le_of_ble_eq_true rfl), (Nat.le_of_ble_eq_true rfl)⟩) (by omega) hO202.ma rfl rfl hl.1 rfl (Nat.le_of_ble_eq_true rfl) dL_isEntry_383 ⟨(Nat.le_of_ble_eq_true rfl), (Nat.le_of_ble_eq_true rfl)⟩ (fun v207 F208 H locs hp hw => ?_)
                                                        obtain ⟨e209, hO210, hf211⟩ := hp
                                                        refine x_top e209 ?_
                                                        replace hfr := hfr.tr hf211 (by omega) (by omega)
                                                        refine lv_iconst (v := nI 1) X.1 X.2.1 dL_isEntry_386 (by decide) ?_
                                                        refine lv_iadd X.1 X.2.1 dL_isEntry_387 ?_
                                                        refine x_top (nI_add _ _) ?_
                                                        refine lv_aload_n X.1 X.2.1 dL_isEntry_388 rfl (lv_at hl 9 rfl) ?_
                                                        refine lv_iload_n X.1 X.2.1 dL_isEntry_389 rfl (lv_at hl 10 rfl) ?_
                                                        refine lv_iload_n X.1 X.2.1 dL_isEntry_390 rfl (lv_at hl 11 rfl) ?_
                                                        refine lv_iconst (v := nI 4) X.1 X.2.1 dL_isEntry_391 (by decide) ?_
                                                        refine x_callV X hK hw (k := 0) (As := [.int (nI r), .int (nI b), .int (nI 4)]) (rest := [.int (nI ((A 1) + 1)), .int (nI (ptN A r b))]) (w_result hI (by omega) hJ.1.1 hO210 (nI r) (nI b) (nI 4) (fun g t tm hE => a_res4 hJ hc hk hE (by omega) (by omega) tm)) (x_cwV yX7_result cX7_result 4 (some .int) 3 X q695 q696 q697 q1 q698 hd_X7_result ⟨(Nat.le_of_ble_eq_true rfl), (Nat.le_of_ble_eq_true rfl)⟩) (by omega) hO210.ma rfl rfl hl.1 rfl (Nat.le_of_ble_eq_true rfl) dL_isEntry_392 ⟨(Nat.le_of_ble_eq_true rfl), (Nat.le_of_ble_eq_true rfl)⟩ (fun v212 F213 H locs hp hw => ?_)
                                                        obtain ⟨e214, hO215, hf216⟩ := hp
                                                        refine x_top e214 ?_
                                                        replace hfr := hfr.tr hf216 (by omega) (by omega)
                                                        refine lv_iadd X.1 X.2.1 dL_isEntry_395 ?_
                                                        refine x_top (nI_add _ _) ?_
                                                        refine lv_icmp_ne (tgt := 413) X.1 X.2.1 dL_isEntry_396 (by decide) (fun c217 => ?_) (fun c217 => ?_)
                                                        · exact absurd ((nI_eq (by omega) (by omega)).mpr (by omega)) c217
                                                        · have n218 := (nI_eq (by omega) (by omega)).mp c217
                                                          refine lv_goto (tgt := 409) X.1 X.2.1 dL_isEntry_399 (by decide) ?_
                                                          refine lv_iconst (v := nI 1) X.1 X.2.1 dL_isEntry_409 (by decide) ?_
                                                          refine lv_goto (tgt := 414) X.1 X.2.1 dL_isEntry_410 (by decide) ?_
                                                          exact x_iret X hr hlk hK hw (v := nI 1) (by first | rfl | exact nr_b _ | decide) (⟨rfl, hO215, hfr⟩) dL_isEntry_414
                                              · exact absurd (by decide) c195
                                          · exact absurd (by decide) c193
                                      · exact absurd ((bz_eq (by omega)).mp c190) (by omega)
        · rw [co_z hJ hrA hb hf] at hl
          rw [place_n hJ hc hk hrA hb, if_neg (fun z : cnP A r b => hf z.1)] at hl
          have hpt : ptN A r b = A 1 + 1 + eA A r b 4 := if_neg (fun z : cnP A r b => hf z.1)
          refine lv_iload_n X.1 X.2.1 dL_isEntry_139 rfl (lv_at hl 7 rfl) ?_
          refine lv_if_lt (tgt := 278) X.1 X.2.1 dL_isEntry_140 (by decide) (fun c219 => ?_) (fun c219 => ?_)
          · exact absurd ((bz_lt (by omega)).mp c219) (by omega)
          · have n220 : ¬ (eA A r b 0) < 0 := fun z => c219 ((bz_lt (by omega)).mpr z)
            refine lv_iload_n X.1 X.2.1 dL_isEntry_143 rfl (lv_at hl 7 rfl) ?_
            refine lv_iconst (v := nI 4) X.1 X.2.1 dL_isEntry_144 (by decide) ?_
            refine lv_icmp_gt (tgt := 278) X.1 X.2.1 dL_isEntry_145 (by decide) (fun c221 => ?_) (fun c221 => ?_)
            · exact absurd ((br_lt (by omega) (by omega)).mp c221) (by omega)
            · have n222 : ¬ 4 < (eA A r b 0) := fun z => c221 ((br_lt (by omega) (by omega)).mpr z)
              refine lv_aload_n X.1 X.2.1 dL_isEntry_148 rfl (lv_at hl 8 rfl) ?_
              refine lv_iload_n X.1 X.2.1 dL_isEntry_149 rfl (lv_at hl 9 rfl) ?_
              refine lv_iload_n X.1 X.2.1 dL_isEntry_150 rfl (lv_at hl 10 rfl) ?_
              refine lv_iconst (v := nI 5) X.1 X.2.1 dL_isEntry_151 (by decide) ?_
              refine x_callV X hK hw (k := 0) (As := [.int (nI r), .int (nI b), .int (nI 5)]) (rest := []) (w_result hI (by omega) hJ.1.1 hOB (nI r) (nI b) (nI 5) (fun g t tm hE => (a_res5 hJ hc hk hE hrA hb tm).trans (el_z hJ hrA hb hf))) (x_cwV yX7_result cX7_result 4 (some .int) 3 X q695 q696 q697 q1 q698 hd_X7_result ⟨(Nat.le_of_ble_eq_true rfl), (Nat.le_of_ble_eq_true rfl)⟩) (by omega) hOB.ma rfl rfl hl.1 rfl (Nat.le_of_ble_eq_true rfl) dL_isEntry_152 ⟨(Nat.le_of_ble_eq_true rfl), (Nat.le_of_ble_eq_true rfl)⟩ (fun v223 F224 H locs hp hw => ?_)
              obtain ⟨e225, hO226, hf227⟩ := hp
              refine x_top e225 ?_
              replace hfr := hfr.tr hf227 (by omega) (by omega)
              refine lv_if_lt (tgt := 162) X.1 X.2.1 dL_isEntry_155 (by decide) (fun c228 => ?_) (fun c228 => ?_)
              · refine lv_iconst (v := nI 0) X.1 X.2.1 dL_isEntry_162 (by decide) ?_
                refine lv_iload_n X.1 X.2.1 dL_isEntry_163 rfl (lv_at hl 7 rfl) ?_
                refine lv_iconst (v := nI 3) X.1 X.2.1 dL_isEntry_164 (by decide) ?_
                refine lv_icmp_ne (tgt := 172) X.1 X.2.1 dL_isEntry_165 (by decide) (fun c229 => ?_) (fun c229 => ?_)
                · have n230 : ¬ (eA A r b 0) = 3 := fun z => c229 ((nI_eq (by omega) (by omega)).mpr z)
                  refine lv_iconst (v := nI 0) X.1 X.2.1 dL_isEntry_172 (by decide) ?_
                  refine lv_icmp_ne (tgt := 278) X.1 X.2.1 dL_isEntry_173 (by decide) (fun c231 => ?_) (fun c231 => ?_)
                  · exact absurd (by decide) c231
                  · refine lv_iload_n X.1 X.2.1 dL_isEntry_176 rfl (lv_at hl 7 rfl) ?_
                    refine lv_iconst (v := nI 3) X.1 X.2.1 dL_isEntry_177 (by decide) ?_
                    refine lv_icmp_ne (tgt := 206) X.1 X.2.1 dL_isEntry_178 (by decide) (fun c232 => ?_) (fun c232 => ?_)
                    · have n233 : ¬ (eA A r b 0) = 3 := fun z => c232 ((nI_eq (by omega) (by omega)).mpr z)
                      refine lv_iload X.1 X.2.1 dL_isEntry_206 (lv_at hl 6 rfl) ?_
                      refine lv_bipush (v := (-5)) X.1 X.2.1 dL_isEntry_208 (by decide) ?_
                      refine lv_icmp_ne (tgt := 278) X.1 X.2.1 dL_isEntry_210 (by decide) (fun c234 => ?_) (fun c234 => ?_)
                      · exact absurd (by decide) c234
                      · refine lv_aload_n X.1 X.2.1 dL_isEntry_213 rfl (lv_at hl 8 rfl) ?_
                        refine lv_iload_n X.1 X.2.1 dL_isEntry_214 rfl (lv_at hl 9 rfl) ?_
                        refine lv_iload_n X.1 X.2.1 dL_isEntry_215 rfl (lv_at hl 10 rfl) ?_
                        refine lv_iconst (v := nI 5) X.1 X.2.1 dL_isEntry_216 (by decide) ?_
                        refine x_callV X hK hw (k := 0) (As := [.int (nI r), .int (nI b), .int (nI 5)]) (rest := []) (w_result hI (by omega) hJ.1.1 hO226 (nI r) (nI b) (nI 5) (fun g t tm hE => (a_res5 hJ hc hk hE hrA hb tm).trans (el_z hJ hrA hb hf))) (x_cwV yX7_result cX7_result 4 (some .int) 3 X q695 q696 q697 q1 q698 hd_X7_result ⟨(Nat.le_of_ble_eq_true rfl), (Nat.le_of_ble_eq_true rfl)⟩) (by omega) hO226.ma rfl rfl hl.1 rfl (Nat.le_of_ble_eq_true rfl) dL_isEntry_217 ⟨(Nat.le_of_ble_eq_true rfl), (Nat.le_of_ble_eq_true rfl)⟩ (fun v235 F236 H locs hp hw => ?_)
                        obtain ⟨e237, hO238, hf239⟩ := hp
                        refine x_top e237 ?_
                        replace hfr := hfr.tr hf239 (by omega) (by omega)
                        refine lv_bipush (v := (-5)) X.1 X.2.1 dL_isEntry_220 (by decide) ?_
                        refine lv_icmp_ne (tgt := 278) X.1 X.2.1 dL_isEntry_222 (by decide) (fun c240 => ?_) (fun c240 => ?_)
                        · exact absurd (by decide) c240
                        · refine lv_aload_n X.1 X.2.1 dL_isEntry_225 rfl (lv_at hl 8 rfl) ?_
                          refine lv_iload_n X.1 X.2.1 dL_isEntry_226 rfl (lv_at hl 9 rfl) ?_
                          refine lv_iload_n X.1 X.2.1 dL_isEntry_227 rfl (lv_at hl 10 rfl) ?_
                          refine lv_iconst (v := nI 1) X.1 X.2.1 dL_isEntry_228 (by decide) ?_
                          refine x_callV X hK hw (k := 0) (As := [.int (nI r), .int (nI b), .int (nI 1)]) (rest := []) (w_result hI (by omega) hJ.1.1 hO238 (nI r) (nI b) (nI 1) (fun g t tm hE => a_res1 hJ hc hk hE (by omega) (by omega) tm)) (x_cwV yX7_result cX7_result 4 (some .int) 3 X q695 q696 q697 q1 q698 hd_X7_result ⟨(Nat.le_of_ble_eq_true rfl), (Nat.le_of_ble_eq_true rfl)⟩) (by omega) hO238.ma rfl rfl hl.1 rfl (Nat.le_of_ble_eq_true rfl) dL_isEntry_229 ⟨(Nat.le_of_ble_eq_true rfl), (Nat.le_of_ble_eq_true rfl)⟩ (fun v241 F242 H locs hp hw => ?_)
                          obtain ⟨e243, hO244, hf245⟩ := hp
                          refine x_top e243 ?_
                          replace hfr := hfr.tr hf245 (by omega) (by omega)
                          refine lv_iload X.1 X.2.1 dL_isEntry_232 (lv_at hl 2 rfl) ?_
                          refine lv_icmp_gt (tgt := 278) X.1 X.2.1 dL_isEntry_234 (by decide) (fun c246 => ?_) (fun c246 => ?_)
                          · exact absurd ((br_lt (by omega) (by omega)).mp c246) (by omega)
                          · have n247 : ¬ ((rA A r 0) * (rA A r 1)) < (eA A r b 1) := fun z => c246 ((br_lt (by omega) (by omega)).mpr z)
                            refine lv_iload_n X.1 X.2.1 dL_isEntry_237 rfl (lv_at hl 7 rfl) ?_
                            refine lv_iconst (v := nI 3) X.1 X.2.1 dL_isEntry_238 (by decide) ?_
                            refine lv_icmp_ne (tgt := 254) X.1 X.2.1 dL_isEntry_239 (by decide) (fun c248 => ?_) (fun c248 => ?_)
                            · have n249 : ¬ (eA A r b 0) = 3 := fun z => c248 ((nI_eq (by omega) (by omega)).mpr z)
                              refine lv_aload_n X.1 X.2.1 dL_isEntry_254 rfl (lv_at hl 8 rfl) ?_
                              refine lv_iload_n X.1 X.2.1 dL_isEntry_255 rfl (lv_at hl 9 rfl) ?_
                              refine lv_iload_n X.1 X.2.1 dL_isEntry_256 rfl (lv_at hl 10 rfl) ?_
                              refine lv_iconst (v := nI 2) X.1 X.2.1 dL_isEntry_257 (by decide) ?_
                              refine x_callV X hK hw (k := 0) (As := [.int (nI r), .int (nI b), .int (nI 2)]) (rest := []) (w_result hI (by omega) hJ.1.1 hO244 (nI r) (nI b) (nI 2) (fun g t tm hE => a_res2 hJ hc hk hE (by omega) (by omega) tm)) (x_cwV yX7_result cX7_result 4 (some .int) 3 X q695 q696 q697 q1 q698 hd_X7_result ⟨(Nat.le_of_ble_eq_true rfl), (Nat.le_of_ble_eq_true rfl)⟩) (by omega) hO244.ma rfl rfl hl.1 rfl (Nat.le_of_ble_eq_true rfl) dL_isEntry_258 ⟨(Nat.le_of_ble_eq_true rfl), (Nat.le_of_ble_eq_true rfl)⟩ (fun v250 F251 H locs hp hw => ?_)
                              obtain ⟨e252, hO253, hf254⟩ := hp
                              refine x_top e252 ?_
                              replace hfr := hfr.tr hf254 (by omega) (by omega)
                              refine lv_if_lt (tgt := 278) X.1 X.2.1 dL_isEntry_261 (by decide) (fun c255 => ?_) (fun c255 => ?_)
                              · exact absurd ((bz_lt (by omega)).mp c255) (by omega)
                              · have n256 : ¬ (eA A r b 2) < 0 := fun z => c255 ((bz_lt (by omega)).mpr z)
                                refine lv_aload_n X.1 X.2.1 dL_isEntry_264 rfl (lv_at hl 8 rfl) ?_
                                refine lv_iload_n X.1 X.2.1 dL_isEntry_265 rfl (lv_at hl 9 rfl) ?_
                                refine lv_iload_n X.1 X.2.1 dL_isEntry_266 rfl (lv_at hl 10 rfl) ?_
                                refine lv_iconst (v := nI 3) X.1 X.2.1 dL_isEntry_267 (by decide) ?_
                                refine x_callV X hK hw (k := 0) (As := [.int (nI r), .int (nI b), .int (nI 3)]) (rest := []) (w_result hI (by omega) hJ.1.1 hO253 (nI r) (nI b) (nI 3) (fun g t tm hE => a_res3 hJ hc hk hE (by omega) (by omega) tm)) (x_cwV yX7_result cX7_result 4 (some .int) 3 X q695 q696 q697 q1 q698 hd_X7_result ⟨(Nat.le_of_ble_eq_true rfl), (Nat.le_of_ble_eq_true rfl)⟩) (by omega) hO253.ma rfl rfl hl.1 rfl (Nat.le_of_ble_eq_true rfl) dL_isEntry_268 ⟨(Nat.le_of_ble_eq_true rfl), (Nat.le_of_ble_eq_true rfl)⟩ (fun v257 F258 H locs hp hw => ?_)
                                obtain ⟨e259, hO260, hf261⟩ := hp
                                refine x_top e259 ?_
                                replace hfr := hfr.tr hf261 (by omega) (by omega)
                                refine lv_if_lt (tgt := 278) X.1 X.2.1 dL_isEntry_271 (by decide) (fun c262 => ?_) (fun c262 => ?_)
                                · exact absurd ((bz_lt (by omega)).mp c262) (by omega)
                                · have n263 : ¬ (eA A r b 3) < 0 := fun z => c262 ((bz_lt (by omega)).mpr z)
                                  refine lv_iconst (v := nI 1) X.1 X.2.1 dL_isEntry_274 (by decide) ?_
                                  refine lv_goto (tgt := 279) X.1 X.2.1 dL_isEntry_275 (by decide) ?_
                                  refine lv_istore (lv' := [(10, .int (nI 1)), (9, .int (nI (aI A r b k))), (8, .int (nI ((rA A r 0) * (rA A r 1)))), (7, .int (nI 1)), (6, .int (nI (ptN A r b))), (5, .int ((-5))), (4, .int ((-5))), (3, .int (nI (eA A r b 0))), (0, .ref (ad 0)), (1, .int (nI r)), (2, .int (nI b))]) X.1 X.2.1 dL_isEntry_279 hl (by decide) rfl (fun ls hl => ?_)
                                  refine lv_iload_n X.1 X.2.1 dL_isEntry_281 rfl (lv_at hl 7 rfl) ?_
                                  refine lv_iconst (v := nI 3) X.1 X.2.1 dL_isEntry_282 (by decide) ?_
                                  refine lv_icmp_ne (tgt := 305) X.1 X.2.1 dL_isEntry_283 (by decide) (fun c264 => ?_) (fun c264 => ?_)
                                  · have n265 : ¬ (eA A r b 0) = 3 := fun z => c264 ((nI_eq (by omega) (by omega)).mpr z)
                                    refine lv_iconst (v := nI 0) X.1 X.2.1 dL_isEntry_305 (by decide) ?_
                                    refine lv_istore (lv' := [(11, .int (nI 0)), (10, .int (nI 1)), (9, .int (nI (aI A r b k))), (8, .int (nI ((rA A r 0) * (rA A r 1)))), (7, .int (nI 1)), (6, .int (nI (ptN A r b))), (5, .int ((-5))), (4, .int ((-5))), (3, .int (nI (eA A r b 0))), (0, .ref (ad 0)), (1, .int (nI r)), (2, .int (nI b))]) X.1 X.2.1 dL_isEntry_306 hl (by decide) rfl (fun ls hl => ?_)
                                    refine lv_iload X.1 X.2.1 dL_isEntry_308 (lv_at hl 1 rfl) ?_
                                    refine lv_if_eq (tgt := 413) X.1 X.2.1 dL_isEntry_310 (by decide) (fun c266 => ?_) (fun c266 => ?_)
                                    · exact absurd c266 (by decide)
                                    · refine lv_iload X.1 X.2.1 dL_isEntry_313 (lv_at hl 6 rfl) ?_
                                      refine lv_bipush (v := (-5)) X.1 X.2.1 dL_isEntry_315 (by decide) ?_
                                      refine lv_icmp_eq (tgt := 324) X.1 X.2.1 dL_isEntry_317 (by decide) (fun c267 => ?_) (fun c267 => ?_)
                                      · refine lv_iconst (v := nI 0) X.1 X.2.1 dL_isEntry_324 (by decide) ?_
                                        refine lv_iload X.1 X.2.1 dL_isEntry_325 (lv_at hl 0 rfl) ?_
                                        refine lv_icmp_ne (tgt := 413) X.1 X.2.1 dL_isEntry_327 (by decide) (fun c268 => ?_) (fun c268 => ?_)
                                        · exact absurd (by decide) c268
                                        · refine lv_iload X.1 X.2.1 dL_isEntry_330 (lv_at hl 0 rfl) ?_
                                          refine lv_if_eq (tgt := 351) X.1 X.2.1 dL_isEntry_332 (by decide) (fun c269 => ?_) (fun c269 => ?_)
                                          · refine lv_iload X.1 X.2.1 dL_isEntry_351 (lv_at hl 4 rfl) ?_
                                            refine lv_if_eq (tgt := 402) X.1 X.2.1 dL_isEntry_353 (by decide) (fun c270 => ?_) (fun c270 => ?_)
                                            · exact absurd c270 (by decide)
                                            · refine lv_iload X.1 X.2.1 dL_isEntry_356 (lv_at hl 5 rfl) ?_
                                              refine lv_iconst (v := nI 1) X.1 X.2.1 dL_isEntry_358 (by decide) ?_
                                              refine lv_icmp_lt (tgt := 413) X.1 X.2.1 dL_isEntry_359 (by decide) (fun c271 => ?_) (fun c271 => ?_)
                                              · exact absurd ((br_lt (by omega) (by omega)).mp c271) (by omega)
                                              · have n272 : ¬ (ptN A r b) < 1 := fun z => c271 ((br_lt (by omega) (by omega)).mpr z)
                                                refine lv_iload X.1 X.2.1 dL_isEntry_362 (lv_at hl 5 rfl) ?_
                                                refine lv_aload_n X.1 X.2.1 dL_isEntry_364 rfl (lv_at hl 9 rfl) ?_
                                                refine lv_iconst (v := nI 0) X.1 X.2.1 dL_isEntry_365 (by decide) ?_
                                                refine x_callV X hK hw (k := 0) (As := [.int (nI 0)]) (rest := [.int (nI (ptN A r b))]) (w_count hI (by omega) hO260 (nI 0) (fun g t z n hE => a_cou0 hJ hc hk hE z n)) (x_cwV yX7_count cX7_count 2 (some .int) 1 X q818 q819 q820 q1 q821 hd_X7_count ⟨(Nat.le_of_ble_eq_true rfl), (Nat.le_of_ble_eq_true rfl)⟩) (by omega) hO260.ma rfl rfl hl.1 rfl (Nat.le_of_ble_eq_true rfl) dL_isEntry_366 ⟨(Nat.le_of_ble_eq_true rfl), (Nat.le_of_ble_eq_true rfl)⟩ (fun v273 F274 H locs hp hw => ?_)
                                                obtain ⟨e275, hO276, hf277⟩ := hp
                                                refine x_top e275 ?_
                                                replace hfr := hfr.tr hf277 (by omega) (by omega)
                                                refine lv_iconst (v := nI 2) X.1 X.2.1 dL_isEntry_369 (by decide) ?_
                                                refine lv_iadd X.1 X.2.1 dL_isEntry_370 ?_
                                                refine x_top (nI_add _ _) ?_
                                                refine lv_icmp_gt (tgt := 413) X.1 X.2.1 dL_isEntry_371 (by decide) (fun c278 => ?_) (fun c278 => ?_)
                                                · exact absurd ((br_lt (by omega) (by omega)).mp c278) (by omega)
                                                · have n279 : ¬ ((A 1) + 2) < (ptN A r b) := fun z => c278 ((br_lt (by omega) (by omega)).mpr z)
                                                  refine lv_iload X.1 X.2.1 dL_isEntry_374 (lv_at hl 0 rfl) ?_
                                                  refine lv_if_ne (tgt := 409) X.1 X.2.1 dL_isEntry_376 (by decide) (fun c280 => ?_) (fun c280 => ?_)
                                                  · exact absurd (by decide) c280
                                                  · refine lv_iload X.1 X.2.1 dL_isEntry_379 (lv_at hl 5 rfl) ?_
                                                    refine lv_aload_n X.1 X.2.1 dL_isEntry_381 rfl (lv_at hl 9 rfl) ?_
                                                    refine lv_iconst (v := nI 0) X.1 X.2.1 dL_isEntry_382 (by decide) ?_
                                                    refine x_callV X hK hw (k := 0) (As := [.int (nI 0)]) (rest := [.int (nI (ptN A r b))]) (w_count hI (by omega) hO276 (nI 0) (fun g t z n hE => a_cou0 hJ hc hk hE z n)) (x_cwV yX7_count cX7_count 2 (some .int) 1 X q818 q819 q820 q1 q821 hd_X7_count ⟨(Nat.le_of_ble_eq_true rfl), (Nat.le_of_ble_eq_true rfl)⟩) (by omega) hO276.ma rfl rfl hl.1 rfl (Nat.le_of_ble_eq_true rfl) dL_isEntry_383 ⟨(Nat.le_of_ble_eq_true rfl), (Nat.le_of_ble_eq_true rfl)⟩ (fun v281 F282 H locs hp hw => ?_)
                                                    obtain ⟨e283, hO284, hf285⟩ := hp
                                                    refine x_top e283 ?_
                                                    replace hfr := hfr.tr hf285 (by omega) (by omega)
                                                    refine lv_iconst (v := nI 1) X.1 X.2.1 dL_isEntry_386 (by decide) ?_
                                                    refine lv_iadd X.1 X.2.1 dL_isEntry_387 ?_
                                                    refine x_top (nI_add _ _) ?_
                                                    refine lv_aload_n X.1 X.2.1 dL_isEntry_388 rfl (lv_at hl 9 rfl) ?_
                                                    refine lv_iload_n X.1 X.2.1 dL_isEntry_389 rfl (lv_at hl 10 rfl) ?_
                                                    refine lv_iload_n X.1 X.2.1 dL_isEntry_390 rfl (lv_at hl 11 rfl) ?_
                                                    refine lv_iconst (v := nI 4) X.1 X.2.1 dL_isEntry_391 (by decide) ?_
                                                    refine x_callV X hK hw (k := 0) (As := [.int (nI r), .int (nI b), .int (nI 4)]) (rest := [.int (nI ((A 1) + 1)), .int (nI (ptN A r b))]) (w_result hI (by omega) hJ.1.1 hO284 (nI r) (nI b) (nI 4) (fun g t tm hE => a_res4 hJ hc hk hE (by omega) (by omega) tm)) (x_cwV yX7_result cX7_result 4 (some .int) 3 X q695 q696 q697 q1 q698 hd_X7_result ⟨(Nat.le_of_ble_eq_true rfl), (Nat.le_of_ble_eq_true rfl)⟩) (by omega) hO284.ma rfl rfl hl.1 rfl (Nat.le_of_ble_eq_true rfl) dL_isEntry_392 ⟨(Nat.le_of_ble_eq_true rfl), (Nat.le_of_ble_eq_true rfl)⟩ (fun v286 F287 H locs hp hw => ?_)
                                                    obtain ⟨e288, hO289, hf290⟩ := hp
                                                    refine x_top e288 ?_
                                                    replace hfr := hfr.tr hf290 (by omega) (by omega)
                                                    refine lv_iadd X.1 X.2.1 dL_isEntry_395 ?_
                                                    refine x_top (nI_add _ _) ?_
                                                    refine lv_icmp_ne (tgt := 413) X.1 X.2.1 dL_isEntry_396 (by decide) (fun c291 => ?_) (fun c291 => ?_)
                                                    · exact absurd ((nI_eq (by omega) (by omega)).mpr (by omega)) c291
                                                    · have n292 := (nI_eq (by omega) (by omega)).mp c291
                                                      refine lv_goto (tgt := 409) X.1 X.2.1 dL_isEntry_399 (by decide) ?_
                                                      refine lv_iconst (v := nI 1) X.1 X.2.1 dL_isEntry_409 (by decide) ?_
                                                      refine lv_goto (tgt := 414) X.1 X.2.1 dL_isEntry_410 (by decide) ?_
                                                      exact x_iret X hr hlk hK hw (v := nI 1) (by first | rfl | exact nr_b _ | decide) (⟨rfl, hO289, hfr⟩) dL_isEntry_414
                                          · exact absurd (by decide) c269
                                      · exact absurd (by decide) c267
                                  · exact absurd ((nI_eq (by omega) (by omega)).mp c264) (by omega)
                            · exact absurd ((nI_eq (by omega) (by omega)).mp c248) (by omega)
                    · exact absurd ((nI_eq (by omega) (by omega)).mp c232) (by omega)
                · exact absurd ((nI_eq (by omega) (by omega)).mp c229) (by omega)
              · exact absurd (by decide) c228
      have loop76 : ∀ (fu : Nat) (k : Nat) (F1 : Nat → va_E) (hfu : A 1 ≤ k + fu) (hk1 : k ≤ A 1) (hOB : OB ad cI cB cS F1 hs A A3) (hfr : Fr F F1 0 111) (H : Heap) (locs : List Loc) (hw : HW D (Af ad N s.heap.size) ad N F1 s H locs) (ls : Array Slot) (hl : lv_has ls 12 [(9, .int (nI (aI A r b k))), (10, .int (nI k)), (8, .int (nI ((rA A r 0) * (rA A r 1)))), (7, .int (nI 1)), (6, .int (nI (ptN A r b))), (5, .int (m_place (arr A) r b (A 1))), (4, .int (m_co (arr A) r b)), (3, .int (nI (eA A r b 0))), (0, .ref (ad 0)), (1, .int (nI r)), (2, .int (nI b))]), W p l e { frames := 7, cells := 0, slots := 0, locals := 160 } s m [.ref (ad 0), .int (nI r), .int (nI b)].toArray below meth c H locs 0 0 (MQ below (va_Qi (fun v F' => v = nI 1 ∧ OB ad cI cB cS F' hs A A3 ∧ Fr F F' 0 111) (fun F' t => PO D ad N F' t) (Af ad N s.heap.size)) [.ref (ad 0), .int (nI r), .int (nI b)].toArray s 0 0 (Af ad N s.heap.size)) (F0 m 76 ls []) := by
        intro fu
        induction fu with
        | zero =>
          intro k F1 hfu hk1 hOB hfr H locs hw ls hl
          refine lv_iload X.1 X.2.1 dL_isEntry_76 (lv_at hl 1 rfl) ?_
          refine lv_aload_n X.1 X.2.1 dL_isEntry_78 rfl (lv_at hl 8 rfl) ?_
          refine lv_iconst (v := nI 0) X.1 X.2.1 dL_isEntry_79 (by decide) ?_
          refine x_callV X hK hw (k := 0) (As := [.int (nI 0)]) (rest := [.int (nI k)]) (w_count hI (by omega) hOB (nI 0) (fun g t z n hE => a_cou0 hJ hc hk hE z n)) (x_cwV yX7_count cX7_count 2 (some .int) 1 X q818 q819 q820 q1 q821 hd_X7_count ⟨(Nat.le_of_ble_eq_true rfl), (Nat.le_of_ble_eq_true rfl)⟩) (by omega) hOB.ma rfl rfl hl.1 rfl (Nat.le_of_ble_eq_true rfl) dL_isEntry_80 ⟨(Nat.le_of_ble_eq_true rfl), (Nat.le_of_ble_eq_true rfl)⟩ (fun v293 F294 H locs hp hw => ?_)
          obtain ⟨e295, hO296, hf297⟩ := hp
          refine x_top e295 ?_
          replace hfr := hfr.tr hf297 (by omega) (by omega)
          refine lv_icmp_ge (tgt := 139) X.1 X.2.1 dL_isEntry_83 (by decide) (fun c298 => ?_) (fun c298 => ?_)
          · have n299 := (nI_leI (by omega) (by omega)).mp c298
            exact way76 k F294 hk1 hO296 hfr n299 _ _ hw _ (lv_sub hl [0, 1, 2, 3, 4, 5, 6, 7, 8, 9, 10] rfl)
          · exact absurd ((nI_leI (by omega) (by omega)).mpr (by omega)) c298
        | succ fu ih =>
          intro k F1 hfu hk1 hOB hfr H locs hw ls hl
          refine lv_iload X.1 X.2.1 dL_isEntry_76 (lv_at hl 1 rfl) ?_
          refine lv_aload_n X.1 X.2.1 dL_isEntry_78 rfl (lv_at hl 8 rfl) ?_
          refine lv_iconst (v := nI 0) X.1 X.2.1 dL_isEntry_79 (by decide) ?_
          refine x_callV X hK hw (k := 0) (As := [.int (nI 0)]) (rest := [.int (nI k)]) (w_count hI (by omega) hOB (nI 0) (fun g t z n hE => a_cou0 hJ hc hk hE z n)) (x_cwV yX7_count cX7_count 2 (some .int) 1 X q818 q819 q820 q1 q821 hd_X7_count ⟨(Nat.le_of_ble_eq_true rfl), (Nat.le_of_ble_eq_true rfl)⟩) (by omega) hOB.ma rfl rfl hl.1 rfl (Nat.le_of_ble_eq_true rfl) dL_isEntry_80 ⟨(Nat.le_of_ble_eq_true rfl), (Nat.le_of_ble_eq_true rfl)⟩ (fun v300 F301 H locs hp hw => ?_)
          obtain ⟨e302, hO303, hf304⟩ := hp
          refine x_top e302 ?_
          replace hfr := hfr.tr hf304 (by omega) (by omega)
          refine lv_icmp_ge (tgt := 139) X.1 X.2.1 dL_isEntry_83 (by decide) (fun c305 => ?_) (fun c305 => ?_)
          · have n306 := (nI_leI (by omega) (by omega)).mp c305
            exact way76 k F301 hk1 hO303 hfr n306 _ _ hw _ (lv_sub hl [0, 1, 2, 3, 4, 5, 6, 7, 8, 9, 10] rfl)
          · have n307 : ¬ (A 1) ≤ k := fun z => c305 ((nI_leI (by omega) (by omega)).mpr z)
            obtain ⟨k1, k2, k3, k4, k5, k6, k7, k8, k9, k10⟩ := hJ.bj (r := r) (b := k) hrA (by omega)
            have kal := aI_le (A := A) (r := r) (b := b) k
            refine lv_iload X.1 X.2.1 dL_isEntry_86 (lv_at hl 0 rfl) ?_
            refine lv_aload_n X.1 X.2.1 dL_isEntry_88 rfl (lv_at hl 8 rfl) ?_
            refine lv_iload_n X.1 X.2.1 dL_isEntry_89 rfl (lv_at hl 9 rfl) ?_
            refine lv_iload X.1 X.2.1 dL_isEntry_90 (lv_at hl 1 rfl) ?_
            refine lv_iconst (v := nI 0) X.1 X.2.1 dL_isEntry_92 (by decide) ?_
            refine x_callV X hK hw (k := 0) (As := [.int (nI r), .int (nI k), .int (nI 0)]) (rest := [.int (nI (aI A r b k))]) (w_result hI (by omega) hJ.1.1 hO303 (nI r) (nI k) (nI 0) (fun g t tm hE => a_res0 hJ hc hk hE (by omega) (by omega) tm)) (x_cwV yX7_result cX7_result 4 (some .int) 3 X q695 q696 q697 q1 q698 hd_X7_result ⟨(Nat.le_of_ble_eq_true rfl), (Nat.le_of_ble_eq_true rfl)⟩) (by omega) hO303.ma rfl rfl hl.1 rfl (Nat.le_of_ble_eq_true rfl) dL_isEntry_93 ⟨(Nat.le_of_ble_eq_true rfl), (Nat.le_of_ble_eq_true rfl)⟩ (fun v308 F309 H locs hp hw => ?_)
            obtain ⟨e310, hO311, hf312⟩ := hp
            refine x_top e310 ?_
            replace hfr := hfr.tr hf312 (by omega) (by omega)
            refine lv_iconst (v := nI 3) X.1 X.2.1 dL_isEntry_96 (by decide) ?_
            refine lv_icmp_ne (tgt := 129) X.1 X.2.1 dL_isEntry_97 (by decide) (fun c313 => ?_) (fun c313 => ?_)
            · have n314 : ¬ (eA A r k 0) = 3 := fun z => c313 ((nI_eq (by omega) (by omega)).mpr z)
              refine lv_iconst (v := nI 0) X.1 X.2.1 dL_isEntry_129 (by decide) ?_
              refine lv_iadd X.1 X.2.1 dL_isEntry_130 ?_
              refine x_top (nI_add _ _) ?_
              refine x_top (y := nI (aI A r b (k + 1))) (congrArg nI (aI_n (fun z => n314 z.1.1))) ?_
              refine lv_istore (lv' := [(9, .int (nI (aI A r b (k + 1)))), (10, .int (nI k)), (8, .int (nI ((rA A r 0) * (rA A r 1)))), (7, .int (nI 1)), (6, .int (nI (ptN A r b))), (5, .int (m_place (arr A) r b (A 1))), (4, .int (m_co (arr A) r b)), (3, .int (nI (eA A r b 0))), (0, .ref (ad 0)), (1, .int (nI r)), (2, .int (nI b))]) X.1 X.2.1 dL_isEntry_131 hl (by decide) rfl (fun ls hl => ?_)
              refine lv_iinc (v := nI (k + 1)) (lv' := [(10, .int (nI (k + 1))), (9, .int (nI (aI A r b (k + 1)))), (8, .int (nI ((rA A r 0) * (rA A r 1)))), (7, .int (nI 1)), (6, .int (nI (ptN A r b))), (5, .int (m_place (arr A) r b (A 1))), (4, .int (m_co (arr A) r b)), (3, .int (nI (eA A r b 0))), (0, .ref (ad 0)), (1, .int (nI r)), (2, .int (nI b))]) X.1 X.2.1 dL_isEntry_133 hl (k := 1) rfl (by first | exact nI_1 _ | exact nI_add _ _ | rfl) (by decide) rfl (fun ls hl => ?_)
              refine lv_goto (tgt := 76) X.1 X.2.1 dL_isEntry_136 (by decide) ?_
              exact ih (k + 1) F309 (by omega) (by omega) hO311 hfr _ _ hw _ (lv_sub hl [1, 0, 2, 3, 4, 5, 6, 7, 8, 9, 10] rfl)
            · have n315 := (nI_eq (by omega) (by omega)).mp c313
              refine lv_aload_n X.1 X.2.1 dL_isEntry_100 rfl (lv_at hl 8 rfl) ?_
              refine lv_iload_n X.1 X.2.1 dL_isEntry_101 rfl (lv_at hl 9 rfl) ?_
              refine lv_iload X.1 X.2.1 dL_isEntry_102 (lv_at hl 1 rfl) ?_
              refine lv_iconst (v := nI 4) X.1 X.2.1 dL_isEntry_104 (by decide) ?_
              refine x_callV X hK hw (k := 0) (As := [.int (nI r), .int (nI k), .int (nI 4)]) (rest := [.int (nI (aI A r b k))]) (w_result hI (by omega) hJ.1.1 hO311 (nI r) (nI k) (nI 4) (fun g t tm hE => a_res4 hJ hc hk hE (by omega) (by omega) tm)) (x_cwV yX7_result cX7_result 4 (some .int) 3 X q695 q696 q697 q1 q698 hd_X7_result ⟨(Nat.le_of_ble_eq_true rfl), (Nat.le_of_ble_eq_true rfl)⟩) (by omega) hO311.ma rfl rfl hl.1 rfl (Nat.le_of_ble_eq_true rfl) dL_isEntry_105 ⟨(Nat.le_of_ble_eq_true rfl), (Nat.le_of_ble_eq_true rfl)⟩ (fun v316 F317 H locs hp hw => ?_)
              obtain ⟨e318, hO319, hf320⟩ := hp
              refine x_top e318 ?_
              replace hfr := hfr.tr hf320 (by omega) (by omega)
              refine lv_if_ne (tgt := 129) X.1 X.2.1 dL_isEntry_108 (by decide) (fun c321 => ?_) (fun c321 => ?_)
              · have n322 : ¬ (eA A r k 4) = 0 := fun z => c321 ((bz_eq (by omega)).mpr z)
                refine lv_iconst (v := nI 0) X.1 X.2.1 dL_isEntry_129 (by decide) ?_
                refine lv_iadd X.1 X.2.1 dL_isEntry_130 ?_
                refine x_top (nI_add _ _) ?_
                refine x_top (y := nI (aI A r b (k + 1))) (congrArg nI (aI_n (fun z => n322 z.1.2))) ?_
                refine lv_istore (lv' := [(9, .int (nI (aI A r b (k + 1)))), (10, .int (nI k)), (8, .int (nI ((rA A r 0) * (rA A r 1)))), (7, .int (nI 1)), (6, .int (nI (ptN A r b))), (5, .int (m_place (arr A) r b (A 1))), (4, .int (m_co (arr A) r b)), (3, .int (nI (eA A r b 0))), (0, .ref (ad 0)), (1, .int (nI r)), (2, .int (nI b))]) X.1 X.2.1 dL_isEntry_131 hl (by decide) rfl (fun ls hl => ?_)
                refine lv_iinc (v := nI (k + 1)) (lv' := [(10, .int (nI (k + 1))), (9, .int (nI (aI A r b (k + 1)))), (8, .int (nI ((rA A r 0) * (rA A r 1)))), (7, .int (nI 1)), (6, .int (nI (ptN A r b))), (5, .int (m_place (arr A) r b (A 1))), (4, .int (m_co (arr A) r b)), (3, .int (nI (eA A r b 0))), (0, .ref (ad 0)), (1, .int (nI r)), (2, .int (nI b))]) X.1 X.2.1 dL_isEntry_133 hl (k := 1) rfl (by first | exact nI_1 _ | exact nI_add _ _ | rfl) (by decide) rfl (fun ls hl => ?_)
                refine lv_goto (tgt := 76) X.1 X.2.1 dL_isEntry_136 (by decide) ?_
                exact ih (k + 1) F317 (by omega) (by omega) hO319 hfr _ _ hw _ (lv_sub hl [1, 0, 2, 3, 4, 5, 6, 7, 8, 9, 10] rfl)
              · have n323 := (bz_eq (by omega)).mp c321
                refine lv_aload_n X.1 X.2.1 dL_isEntry_111 rfl (lv_at hl 8 rfl) ?_
                refine lv_iload_n X.1 X.2.1 dL_isEntry_112 rfl (lv_at hl 9 rfl) ?_
                refine lv_iload X.1 X.2.1 dL_isEntry_113 (lv_at hl 1 rfl) ?_
                refine lv_bipush (v := nI 6) X.1 X.2.1 dL_isEntry_115 (by decide) ?_
                refine x_callV X hK hw (k := 0) (As := [.int (nI r), .int (nI k), .int (nI 6)]) (rest := [.int (nI (aI A r b k))]) (w_result hI (by omega) hJ.1.1 hO319 (nI r) (nI k) (nI 6) (fun g t tm hE => a_res6 hJ hc hk hE hrA (by omega) tm)) (x_cwV yX7_result cX7_result 4 (some .int) 3 X q695 q696 q697 q1 q698 hd_X7_result ⟨(Nat.le_of_ble_eq_true rfl), (Nat.le_of_ble_eq_true rfl)⟩) (by omega) hO319.ma rfl rfl hl.1 rfl (Nat.le_of_ble_eq_true rfl) dL_isEntry_117 ⟨(Nat.le_of_ble_eq_true rfl), (Nat.le_of_ble_eq_true rfl)⟩ (fun v324 F325 H locs hp hw => ?_)
                obtain ⟨e326, hO327, hf328⟩ := hp
                refine x_top e326 ?_
                replace hfr := hfr.tr hf328 (by omega) (by omega)
                refine lv_iload X.1 X.2.1 dL_isEntry_120 (lv_at hl 6 rfl) ?_
                refine lv_icmp_ge (tgt := 129) X.1 X.2.1 dL_isEntry_122 (by decide) (fun c329 => ?_) (fun c329 => ?_)
                · refine lv_iconst (v := nI 0) X.1 X.2.1 dL_isEntry_129 (by decide) ?_
                  refine lv_iadd X.1 X.2.1 dL_isEntry_130 ?_
                  refine x_top (nI_add _ _) ?_
                  refine x_top (y := nI (aI A r b (k + 1))) (congrArg nI (aI_n (fun z => z.2 c329))) ?_
                  refine lv_istore (lv' := [(9, .int (nI (aI A r b (k + 1)))), (10, .int (nI k)), (8, .int (nI ((rA A r 0) * (rA A r 1)))), (7, .int (nI 1)), (6, .int (nI (ptN A r b))), (5, .int (m_place (arr A) r b (A 1))), (4, .int (m_co (arr A) r b)), (3, .int (nI (eA A r b 0))), (0, .ref (ad 0)), (1, .int (nI r)), (2, .int (nI b))]) X.1 X.2.1 dL_isEntry_131 hl (by decide) rfl (fun ls hl => ?_)
                  refine lv_iinc (v := nI (k + 1)) (lv' := [(10, .int (nI (k + 1))), (9, .int (nI (aI A r b (k + 1)))), (8, .int (nI ((rA A r 0) * (rA A r 1)))), (7, .int (nI 1)), (6, .int (nI (ptN A r b))), (5, .int (m_place (arr A) r b (A 1))), (4, .int (m_co (arr A) r b)), (3, .int (nI (eA A r b 0))), (0, .ref (ad 0)), (1, .int (nI r)), (2, .int (nI b))]) X.1 X.2.1 dL_isEntry_133 hl (k := 1) rfl (by first | exact nI_1 _ | exact nI_add _ _ | rfl) (by decide) rfl (fun ls hl => ?_)
                  refine lv_goto (tgt := 76) X.1 X.2.1 dL_isEntry_136 (by decide) ?_
                  exact ih (k + 1) F325 (by omega) (by omega) hO327 hfr _ _ hw _ (lv_sub hl [1, 0, 2, 3, 4, 5, 6, 7, 8, 9, 10] rfl)
                · refine lv_iconst (v := nI 1) X.1 X.2.1 dL_isEntry_125 (by decide) ?_
                  refine lv_goto (tgt := 130) X.1 X.2.1 dL_isEntry_126 (by decide) ?_
                  refine lv_iadd X.1 X.2.1 dL_isEntry_130 ?_
                  refine x_top (nI_add _ _) ?_
                  refine x_top (y := nI (aI A r b (k + 1))) (congrArg nI (aI_y ⟨⟨n315, n323⟩, c329⟩)) ?_
                  refine lv_istore (lv' := [(9, .int (nI (aI A r b (k + 1)))), (10, .int (nI k)), (8, .int (nI ((rA A r 0) * (rA A r 1)))), (7, .int (nI 1)), (6, .int (nI (ptN A r b))), (5, .int (m_place (arr A) r b (A 1))), (4, .int (m_co (arr A) r b)), (3, .int (nI (eA A r b 0))), (0, .ref (ad 0)), (1, .int (nI r)), (2, .int (nI b))]) X.1 X.2.1 dL_isEntry_131 hl (by decide) rfl (fun ls hl => ?_)
                  refine lv_iinc (v := nI (k + 1)) (lv' := [(10, .int (nI (k + 1))), (9, .int (nI (aI A r b (k + 1)))), (8, .int (nI ((rA A r 0) * (rA A r 1)))), (7, .int (nI 1)), (6, .int (nI (ptN A r b))), (5, .int (m_place (arr A) r b (A 1))), (4, .int (m_co (arr A) r b)), (3, .int (nI (eA A r b 0))), (0, .ref (ad 0)), (1, .int (nI r)), (2, .int (nI b))]) X.1 X.2.1 dL_isEntry_133 hl (k := 1) rfl (by first | exact nI_1 _ | exact nI_add _ _ | rfl) (by decide) rfl (fun ls hl => ?_)
                  refine lv_goto (tgt := 76) X.1 X.2.1 dL_isEntry_136 (by decide) ?_
                  exact ih (k + 1) F325 (by omega) (by omega) hO327 hfr _ _ hw _ (lv_sub hl [1, 0, 2, 3, 4, 5, 6, 7, 8, 9, 10] rfl)
      exact loop76 (A 1) 0 F34 (by omega) (by omega) hO36 hfr _ _ hw _ (lv_sub hl [1, 0, 2, 3, 4, 5, 6, 7, 8, 9, 10] rfl)
  · refine lv_aload_n X.1 X.2.1 dL_isEntry_0 rfl (lv_at hl 0 rfl) ?_
    refine lv_iload_n X.1 X.2.1 dL_isEntry_1 rfl (lv_at hl 1 rfl) ?_
    refine lv_iload_n X.1 X.2.1 dL_isEntry_2 rfl (lv_at hl 2 rfl) ?_
    refine lv_iconst (v := nI 0) X.1 X.2.1 dL_isEntry_3 (by decide) ?_
    refine x_callV X hK hw (k := 0) (As := [.int (nI r), .int (nI b), .int (nI 0)]) (rest := []) (w_result hI (by omega) hJ.1.1 hO (nI r) (nI b) (nI 0) (fun g t tm hE => a_res0 hJ hc hk hE (by omega) (by omega) tm)) (x_cwV yX7_result cX7_result 4 (some .int) 3 X q695 q696 q697 q1 q698 hd_X7_result ⟨(Nat.le_of_ble_eq_true rfl), (Nat.le_of_ble_eq_true rfl)⟩) (by omega) hO.ma rfl rfl hl.1 rfl (Nat.le_of_ble_eq_true rfl) dL_isEntry_4 ⟨(Nat.le_of_ble_eq_true rfl), (Nat.le_of_ble_eq_true rfl)⟩ (fun v330 F331 H locs hp hw => ?_)
    obtain ⟨e332, hO333, hf334⟩ := hp
    refine x_top e332 ?_
    replace hfr := hfr.tr hf334 (by omega) (by omega)
    refine lv_istore_n (lv' := [(3, .int (nI (eA A r b 0))), (0, .ref (ad 0)), (1, .int (nI r)), (2, .int (nI b))]) X.1 X.2.1 dL_isEntry_7 rfl hl (by decide) rfl (fun ls hl => ?_)
    refine lv_aload_n X.1 X.2.1 dL_isEntry_8 rfl (lv_at hl 1 rfl) ?_
    refine lv_iload_n X.1 X.2.1 dL_isEntry_9 rfl (lv_at hl 2 rfl) ?_
    refine lv_iload_n X.1 X.2.1 dL_isEntry_10 rfl (lv_at hl 3 rfl) ?_
    refine lv_bipush (v := nI 6) X.1 X.2.1 dL_isEntry_11 (by decide) ?_
    refine x_callV X hK hw (k := 0) (As := [.int (nI r), .int (nI b), .int (nI 6)]) (rest := []) (w_result hI (by omega) hJ.1.1 hO333 (nI r) (nI b) (nI 6) (fun g t tm hE => a_res6 hJ hc hk hE hrA (by omega) tm)) (x_cwV yX7_result cX7_result 4 (some .int) 3 X q695 q696 q697 q1 q698 hd_X7_result ⟨(Nat.le_of_ble_eq_true rfl), (Nat.le_of_ble_eq_true rfl)⟩) (by omega) hO333.ma rfl rfl hl.1 rfl (Nat.le_of_ble_eq_true rfl) dL_isEntry_13 ⟨(Nat.le_of_ble_eq_true rfl), (Nat.le_of_ble_eq_true rfl)⟩ (fun v335 F336 H locs hp hw => ?_)
    obtain ⟨e337, hO338, hf339⟩ := hp
    refine x_top e337 ?_
    replace hfr := hfr.tr hf339 (by omega) (by omega)
    refine lv_istore (lv' := [(4, .int (m_co (arr A) r b)), (3, .int (nI (eA A r b 0))), (0, .ref (ad 0)), (1, .int (nI r)), (2, .int (nI b))]) X.1 X.2.1 dL_isEntry_16 hl (by decide) rfl (fun ls hl => ?_)
    refine lv_aload_n X.1 X.2.1 dL_isEntry_18 rfl (lv_at hl 2 rfl) ?_
    refine lv_iload_n X.1 X.2.1 dL_isEntry_19 rfl (lv_at hl 3 rfl) ?_
    refine lv_iload_n X.1 X.2.1 dL_isEntry_20 rfl (lv_at hl 4 rfl) ?_
    refine lv_bipush (v := nI 7) X.1 X.2.1 dL_isEntry_21 (by decide) ?_
    refine x_callV X hK hw (k := 0) (As := [.int (nI r), .int (nI b), .int (nI 7)]) (rest := []) (w_result hI (by omega) hJ.1.1 hO338 (nI r) (nI b) (nI 7) (fun g t tm hE => (a_res7 hJ hc hk hE hrA hb tm).trans (if_neg hcl))) (x_cwV yX7_result cX7_result 4 (some .int) 3 X q695 q696 q697 q1 q698 hd_X7_result ⟨(Nat.le_of_ble_eq_true rfl), (Nat.le_of_ble_eq_true rfl)⟩) (by omega) hO338.ma rfl rfl hl.1 rfl (Nat.le_of_ble_eq_true rfl) dL_isEntry_23 ⟨(Nat.le_of_ble_eq_true rfl), (Nat.le_of_ble_eq_true rfl)⟩ (fun v340 F341 H locs hp hw => ?_)
    obtain ⟨e342, hO343, hf344⟩ := hp
    refine x_top e342 ?_
    replace hfr := hfr.tr hf344 (by omega) (by omega)
    refine lv_istore (lv' := [(5, .int ((-5))), (4, .int (m_co (arr A) r b)), (3, .int (nI (eA A r b 0))), (0, .ref (ad 0)), (1, .int (nI r)), (2, .int (nI b))]) X.1 X.2.1 dL_isEntry_26 hl (by decide) rfl (fun ls hl => ?_)
    refine lv_aload_n X.1 X.2.1 dL_isEntry_28 rfl (lv_at hl 3 rfl) ?_
    refine lv_iload_n X.1 X.2.1 dL_isEntry_29 rfl (lv_at hl 4 rfl) ?_
    refine lv_iload_n X.1 X.2.1 dL_isEntry_30 rfl (lv_at hl 5 rfl) ?_
    refine lv_bipush (v := nI 8) X.1 X.2.1 dL_isEntry_31 (by decide) ?_
    refine x_callV X hK hw (k := 0) (As := [.int (nI r), .int (nI b), .int (nI 8)]) (rest := []) (w_result hI (by omega) hJ.1.1 hO343 (nI r) (nI b) (nI 8) (fun g t tm hE => (a_res8 hJ hc hk hE hrA hb tm).trans (if_neg hcl))) (x_cwV yX7_result cX7_result 4 (some .int) 3 X q695 q696 q697 q1 q698 hd_X7_result ⟨(Nat.le_of_ble_eq_true rfl), (Nat.le_of_ble_eq_true rfl)⟩) (by omega) hO343.ma rfl rfl hl.1 rfl (Nat.le_of_ble_eq_true rfl) dL_isEntry_33 ⟨(Nat.le_of_ble_eq_true rfl), (Nat.le_of_ble_eq_true rfl)⟩ (fun v345 F346 H locs hp hw => ?_)
    obtain ⟨e347, hO348, hf349⟩ := hp
    refine x_top e347 ?_
    replace hfr := hfr.tr hf349 (by omega) (by omega)
    refine lv_istore (lv' := [(6, .int ((-5))), (5, .int ((-5))), (4, .int (m_co (arr A) r b)), (3, .int (nI (eA A r b 0))), (0, .ref (ad 0)), (1, .int (nI r)), (2, .int (nI b))]) X.1 X.2.1 dL_isEntry_36 hl (by decide) rfl (fun ls hl => ?_)
    refine lv_aload_n X.1 X.2.1 dL_isEntry_38 rfl (lv_at hl 4 rfl) ?_
    refine lv_iload_n X.1 X.2.1 dL_isEntry_39 rfl (lv_at hl 5 rfl) ?_
    refine lv_iconst (v := nI 3) X.1 X.2.1 dL_isEntry_40 (by decide) ?_
    refine x_callV X hK hw (k := 0) (As := [.int (nI r), .int (nI 3)]) (rest := []) (w_race hI (by omega) hJ.1.1 hO348 (nI r) (nI 3) (fun g t tm hE => a_rac3 hJ hc hk hE (by omega) tm)) (x_cwV yX7_race cX7_race 3 (some .int) 2 X q804 q805 q806 q1 q807 hd_X7_race ⟨(Nat.le_of_ble_eq_true rfl), (Nat.le_of_ble_eq_true rfl)⟩) (by omega) hO348.ma rfl rfl hl.1 rfl (Nat.le_of_ble_eq_true rfl) dL_isEntry_41 ⟨(Nat.le_of_ble_eq_true rfl), (Nat.le_of_ble_eq_true rfl)⟩ (fun v350 F351 H locs hp hw => ?_)
    obtain ⟨e352, hO353, hf354⟩ := hp
    refine x_top e352 ?_
    replace hfr := hfr.tr hf354 (by omega) (by omega)
    refine lv_iconst (v := nI 2) X.1 X.2.1 dL_isEntry_44 (by decide) ?_
    refine lv_icmp_ne (tgt := 52) X.1 X.2.1 dL_isEntry_45 (by decide) (fun c355 => ?_) (fun c355 => ?_)
    · have n356 : ¬ (rA A r 3 + 1) = 2 := fun z => c355 ((nI_eq (by omega) (by omega)).mpr z)
      refine lv_iconst (v := nI 0) X.1 X.2.1 dL_isEntry_52 (by decide) ?_
      refine lv_istore (lv' := [(7, .int (nI 0)), (6, .int ((-5))), (5, .int ((-5))), (4, .int (m_co (arr A) r b)), (3, .int (nI (eA A r b 0))), (0, .ref (ad 0)), (1, .int (nI r)), (2, .int (nI b))]) X.1 X.2.1 dL_isEntry_53 hl (by decide) rfl (fun ls hl => ?_)
      refine lv_aload_n X.1 X.2.1 dL_isEntry_55 rfl (lv_at hl 5 rfl) ?_
      refine lv_iload_n X.1 X.2.1 dL_isEntry_56 rfl (lv_at hl 6 rfl) ?_
      refine lv_iconst (v := nI 0) X.1 X.2.1 dL_isEntry_57 (by decide) ?_
      refine x_callV X hK hw (k := 0) (As := [.int (nI r), .int (nI 0)]) (rest := []) (w_race hI (by omega) hJ.1.1 hO353 (nI r) (nI 0) (fun g t tm hE => a_rac0 hJ hc hk hE (by omega) tm)) (x_cwV yX7_race cX7_race 3 (some .int) 2 X q804 q805 q806 q1 q807 hd_X7_race ⟨(Nat.le_of_ble_eq_true rfl), (Nat.le_of_ble_eq_true rfl)⟩) (by omega) hO353.ma rfl rfl hl.1 rfl (Nat.le_of_ble_eq_true rfl) dL_isEntry_58 ⟨(Nat.le_of_ble_eq_true rfl), (Nat.le_of_ble_eq_true rfl)⟩ (fun v357 F358 H locs hp hw => ?_)
      obtain ⟨e359, hO360, hf361⟩ := hp
      refine x_top e359 ?_
      replace hfr := hfr.tr hf361 (by omega) (by omega)
      refine lv_aload_n X.1 X.2.1 dL_isEntry_61 rfl (lv_at hl 5 rfl) ?_
      refine lv_iload_n X.1 X.2.1 dL_isEntry_62 rfl (lv_at hl 6 rfl) ?_
      refine lv_iconst (v := nI 1) X.1 X.2.1 dL_isEntry_63 (by decide) ?_
      refine x_callV X hK hw (k := 0) (As := [.int (nI r), .int (nI 1)]) (rest := [.int (nI (rA A r 0))]) (w_race hI (by omega) hJ.1.1 hO360 (nI r) (nI 1) (fun g t tm hE => a_rac1 hJ hc hk hE (by omega) tm)) (x_cwV yX7_race cX7_race 3 (some .int) 2 X q804 q805 q806 q1 q807 hd_X7_race ⟨(Nat.le_of_ble_eq_true rfl), (Nat.le_of_ble_eq_true rfl)⟩) (by omega) hO360.ma rfl rfl hl.1 rfl (Nat.le_of_ble_eq_true rfl) dL_isEntry_64 ⟨(Nat.le_of_ble_eq_true rfl), (Nat.le_of_ble_eq_true rfl)⟩ (fun v362 F363 H locs hp hw => ?_)
      obtain ⟨e364, hO365, hf366⟩ := hp
      refine x_top e364 ?_
      replace hfr := hfr.tr hf366 (by omega) (by omega)
      refine lv_imul X.1 X.2.1 dL_isEntry_67 ?_
      refine x_top (pk_mul _ _) ?_
      refine lv_istore (lv' := [(8, .int (nI ((rA A r 0) * (rA A r 1)))), (7, .int (nI 0)), (6, .int ((-5))), (5, .int ((-5))), (4, .int (m_co (arr A) r b)), (3, .int (nI (eA A r b 0))), (0, .ref (ad 0)), (1, .int (nI r)), (2, .int (nI b))]) X.1 X.2.1 dL_isEntry_68 hl (by decide) rfl (fun ls hl => ?_)
      refine lv_iconst (v := nI 0) X.1 X.2.1 dL_isEntry_70 (by decide) ?_
      refine lv_istore (lv' := [(9, .int (nI 0)), (8, .int (nI ((rA A r 0) * (rA A r 1)))), (7, .int (nI 0)), (6, .int ((-5))), (5, .int ((-5))), (4, .int (m_co (arr A) r b)), (3, .int (nI (eA A r b 0))), (0, .ref (ad 0)), (1, .int (nI r)), (2, .int (nI b))]) X.1 X.2.1 dL_isEntry_71 hl (by decide) rfl (fun ls hl => ?_)
      refine lv_iconst (v := nI 0) X.1 X.2.1 dL_isEntry_73 (by decide) ?_
      refine lv_istore (lv' := [(10, .int (nI 0)), (9, .int (nI 0)), (8, .int (nI ((rA A r 0) * (rA A r 1)))), (7, .int (nI 0)), (6, .int ((-5))), (5, .int ((-5))), (4, .int (m_co (arr A) r b)), (3, .int (nI (eA A r b 0))), (0, .ref (ad 0)), (1, .int (nI r)), (2, .int (nI b))]) X.1 X.2.1 dL_isEntry_74 hl (by decide) rfl (fun ls hl => ?_)
      have way76 : ∀ (k : Nat) (F1 : Nat → va_E) (hk1 : k ≤ A 1) (hOB : OB ad cI cB cS F1 hs A A3) (hfr : Fr F F1 0 111) (hx : A 1 ≤ k) (H : Heap) (locs : List Loc) (hw : HW D (Af ad N s.heap.size) ad N F1 s H locs) (ls : Array Slot) (hl : lv_has ls 12 [(9, .int (nI (aI A r b k))), (10, .int (nI k)), (8, .int (nI ((rA A r 0) * (rA A r 1)))), (7, .int (nI 0)), (6, .int ((-5))), (5, .int ((-5))), (4, .int (m_co (arr A) r b)), (3, .int (nI (eA A r b 0))), (0, .ref (ad 0)), (1, .int (nI r)), (2, .int (nI b))]), W p l e { frames := 7, cells := 0, slots := 0, locals := 160 } s m [.ref (ad 0), .int (nI r), .int (nI b)].toArray below meth c H locs 0 0 (MQ below (va_Qi (fun v F' => v = nI 1 ∧ OB ad cI cB cS F' hs A A3 ∧ Fr F F' 0 111) (fun F' t => PO D ad N F' t) (Af ad N s.heap.size)) [.ref (ad 0), .int (nI r), .int (nI b)].toArray s 0 0 (Af ad N s.heap.size)) (F0 m 139 ls []) := by
        intro k F1 hk1 hOB hfr hx H locs hw ls hl
        have ekA : k = A 1 := by omega
        have hak : aI A r b k = aI A r b (A 1) := by rw [ekA]
        by_cases hf : eA A r b 0 = 3
        · rw [co_n hJ hc hk hrA hb hf] at hl
          have hah := aI_ah hJ hc hk hrA hb hf (A 1) (Nat.le_refl _)
          refine lv_iload_n X.1 X.2.1 dL_isEntry_139 rfl (lv_at hl 7 rfl) ?_
          refine lv_if_lt (tgt := 278) X.1 X.2.1 dL_isEntry_140 (by decide) (fun c367 => ?_) (fun c367 => ?_)
          · exact absurd ((bz_lt (by omega)).mp c367) (by omega)
          · have n368 : ¬ (eA A r b 0) < 0 := fun z => c367 ((bz_lt (by omega)).mpr z)
            refine lv_iload_n X.1 X.2.1 dL_isEntry_143 rfl (lv_at hl 7 rfl) ?_
            refine lv_iconst (v := nI 4) X.1 X.2.1 dL_isEntry_144 (by decide) ?_
            refine lv_icmp_gt (tgt := 278) X.1 X.2.1 dL_isEntry_145 (by decide) (fun c369 => ?_) (fun c369 => ?_)
            · exact absurd ((br_lt (by omega) (by omega)).mp c369) (by omega)
            · have n370 : ¬ 4 < (eA A r b 0) := fun z => c369 ((br_lt (by omega) (by omega)).mpr z)
              refine lv_aload_n X.1 X.2.1 dL_isEntry_148 rfl (lv_at hl 8 rfl) ?_
              refine lv_iload_n X.1 X.2.1 dL_isEntry_149 rfl (lv_at hl 9 rfl) ?_
              refine lv_iload_n X.1 X.2.1 dL_isEntry_150 rfl (lv_at hl 10 rfl) ?_
              refine lv_iconst (v := nI 5) X.1 X.2.1 dL_isEntry_151 (by decide) ?_
              refine x_callV X hK hw (k := 0) (As := [.int (nI r), .int (nI b), .int (nI 5)]) (rest := []) (w_result hI (by omega) hJ.1.1 hOB (nI r) (nI b) (nI 5) (fun g t tm hE => (a_res5 hJ hc hk hE hrA hb tm).trans (el_n hJ hrA hb hf))) (x_cwV yX7_result cX7_result 4 (some .int) 3 X q695 q696 q697 q1 q698 hd_X7_result ⟨(Nat.le_of_ble_eq_true rfl), (Nat.le_of_ble_eq_true rfl)⟩) (by omega) hOB.ma rfl rfl hl.1 rfl (Nat.le_of_ble_eq_true rfl) dL_isEntry_152 ⟨(Nat.le_of_ble_eq_true rfl), (Nat.le_of_ble_eq_true rfl)⟩ (fun v371 F372 H locs hp hw => ?_)
              obtain ⟨e373, hO374, hf375⟩ := hp
              refine x_top e373 ?_
              replace hfr := hfr.tr hf375 (by omega) (by omega)
              refine lv_if_lt (tgt := 162) X.1 X.2.1 dL_isEntry_155 (by decide) (fun c376 => ?_) (fun c376 => ?_)
              · exact absurd ((bz_lt (by omega)).mp c376) (by omega)
              · have n377 : ¬ (elN A r b) < 0 := fun z => c376 ((bz_lt (by omega)).mpr z)
                refine lv_iconst (v := nI 1) X.1 X.2.1 dL_isEntry_158 (by decide) ?_
                refine lv_goto (tgt := 163) X.1 X.2.1 dL_isEntry_159 (by decide) ?_
                refine lv_iload_n X.1 X.2.1 dL_isEntry_163 rfl (lv_at hl 7 rfl) ?_
                refine lv_iconst (v := nI 3) X.1 X.2.1 dL_isEntry_164 (by decide) ?_
                refine lv_icmp_ne (tgt := 172) X.1 X.2.1 dL_isEntry_165 (by decide) (fun c378 => ?_) (fun c378 => ?_)
                · exact absurd ((nI_eq (by omega) (by omega)).mpr (by omega)) c378
                · have n379 := (nI_eq (by omega) (by omega)).mp c378
                  refine lv_iconst (v := nI 1) X.1 X.2.1 dL_isEntry_168 (by decide) ?_
                  refine lv_goto (tgt := 173) X.1 X.2.1 dL_isEntry_169 (by decide) ?_
                  refine lv_icmp_ne (tgt := 278) X.1 X.2.1 dL_isEntry_173 (by decide) (fun c380 => ?_) (fun c380 => ?_)
                  · exact absurd (by decide) c380
                  · refine lv_iload_n X.1 X.2.1 dL_isEntry_176 rfl (lv_at hl 7 rfl) ?_
                    refine lv_iconst (v := nI 3) X.1 X.2.1 dL_isEntry_177 (by decide) ?_
                    refine lv_icmp_ne (tgt := 206) X.1 X.2.1 dL_isEntry_178 (by decide) (fun c381 => ?_) (fun c381 => ?_)
                    · exact absurd ((nI_eq (by omega) (by omega)).mpr (by omega)) c381
                    · have n382 := (nI_eq (by omega) (by omega)).mp c381
                      refine lv_iload X.1 X.2.1 dL_isEntry_181 (lv_at hl 6 rfl) ?_
                      refine lv_bipush (v := nI 100) X.1 X.2.1 dL_isEntry_183 (by decide) ?_
                      refine lv_aload_n X.1 X.2.1 dL_isEntry_185 rfl (lv_at hl 8 rfl) ?_
                      refine lv_iload_n X.1 X.2.1 dL_isEntry_186 rfl (lv_at hl 9 rfl) ?_
                      refine lv_iload_n X.1 X.2.1 dL_isEntry_187 rfl (lv_at hl 10 rfl) ?_
                      refine lv_iconst (v := nI 5) X.1 X.2.1 dL_isEntry_188 (by decide) ?_
                      refine x_callV X hK hw (k := 0) (As := [.int (nI r), .int (nI b), .int (nI 5)]) (rest := [.int (nI 100), .int (nI (coN A r b))]) (w_result hI (by omega) hJ.1.1 hO374 (nI r) (nI b) (nI 5) (fun g t tm hE => (a_res5 hJ hc hk hE hrA hb tm).trans (el_n hJ hrA hb hf))) (x_cwV yX7_result cX7_result 4 (some .int) 3 X q695 q696 q697 q1 q698 hd_X7_result ⟨(Nat.le_of_ble_eq_true rfl), (Nat.le_of_ble_eq_true rfl)⟩) (by omega) hO374.ma rfl rfl hl.1 rfl (Nat.le_of_ble_eq_true rfl) dL_isEntry_189 ⟨(Nat.le_of_ble_eq_true rfl), (Nat.le_of_ble_eq_true rfl)⟩ (fun v383 F384 H locs hp hw => ?_)
                      obtain ⟨e385, hO386, hf387⟩ := hp
                      refine x_top e385 ?_
                      replace hfr := hfr.tr hf387 (by omega) (by omega)
                      refine lv_imul X.1 X.2.1 dL_isEntry_192 ?_
                      refine x_top (pk_mul _ _) ?_
                      refine lv_aload_n X.1 X.2.1 dL_isEntry_193 rfl (lv_at hl 8 rfl) ?_
                      refine lv_iload_n X.1 X.2.1 dL_isEntry_194 rfl (lv_at hl 10 rfl) ?_
                      refine lv_iconst (v := nI 0) X.1 X.2.1 dL_isEntry_195 (by decide) ?_
                      refine x_callV X hK hw (k := 0) (As := [.int (nI b), .int (nI 0)]) (rest := [.int (nI (100 * (elN A r b))), .int (nI (coN A r b))]) (w_boat hI (by omega) hJ hO386 (nI b) (nI 0) (fun g t tm pt sm tl hE => a_boa0 hJ hc hk hE (by omega) tm pt sm tl)) (x_cwV yX7_boat cX7_boat 3 (some .int) 2 X q755 q756 q757 q1 q758 hd_X7_boat ⟨(Nat.le_of_ble_eq_true rfl), (Nat.le_of_ble_eq_true rfl)⟩) (by omega) hO386.ma rfl rfl hl.1 rfl (Nat.le_of_ble_eq_true rfl) dL_isEntry_196 ⟨(Nat.le_of_ble_eq_true rfl), (Nat.le_of_ble_eq_true rfl)⟩ (fun v388 F389 H locs hp hw => ?_)
                      obtain ⟨e390, hO391, hf392⟩ := hp
                      refine x_top e390 ?_
                      replace hfr := hfr.tr hf392 (by omega) (by omega)
                      refine lv_idiv X.1 X.2.1 dL_isEntry_199 (fun z => by have := (bz_eq (by omega)).mp z; omega) ?_
                      refine x_top (pk_div (by omega) (by omega) (by omega)) ?_
                      refine lv_icmp_ne (tgt := 278) X.1 X.2.1 dL_isEntry_200 (by decide) (fun c393 => ?_) (fun c393 => ?_)
                      · exact absurd ((nI_eq (by omega) (by omega)).mpr (by omega)) c393
                      · have n394 := (nI_eq (by omega) (by omega)).mp c393
                        refine lv_goto (tgt := 225) X.1 X.2.1 dL_isEntry_203 (by decide) ?_
                        refine lv_aload_n X.1 X.2.1 dL_isEntry_225 rfl (lv_at hl 8 rfl) ?_
                        refine lv_iload_n X.1 X.2.1 dL_isEntry_226 rfl (lv_at hl 9 rfl) ?_
                        refine lv_iload_n X.1 X.2.1 dL_isEntry_227 rfl (lv_at hl 10 rfl) ?_
                        refine lv_iconst (v := nI 1) X.1 X.2.1 dL_isEntry_228 (by decide) ?_
                        refine x_callV X hK hw (k := 0) (As := [.int (nI r), .int (nI b), .int (nI 1)]) (rest := []) (w_result hI (by omega) hJ.1.1 hO391 (nI r) (nI b) (nI 1) (fun g t tm hE => a_res1 hJ hc hk hE (by omega) (by omega) tm)) (x_cwV yX7_result cX7_result 4 (some .int) 3 X q695 q696 q697 q1 q698 hd_X7_result ⟨(Nat.le_of_ble_eq_true rfl), (Nat.le_of_ble_eq_true rfl)⟩) (by omega) hO391.ma rfl rfl hl.1 rfl (Nat.le_of_ble_eq_true rfl) dL_isEntry_229 ⟨(Nat.le_of_ble_eq_true rfl), (Nat.le_of_ble_eq_true rfl)⟩ (fun v395 F396 H locs hp hw => ?_)
                        obtain ⟨e397, hO398, hf399⟩ := hp
                        refine x_top e397 ?_
                        replace hfr := hfr.tr hf399 (by omega) (by omega)
                        refine lv_iload X.1 X.2.1 dL_isEntry_232 (lv_at hl 2 rfl) ?_
                        refine lv_icmp_gt (tgt := 278) X.1 X.2.1 dL_isEntry_234 (by decide) (fun c400 => ?_) (fun c400 => ?_)
                        · exact absurd ((br_lt (by omega) (by omega)).mp c400) (by omega)
                        · have n401 : ¬ ((rA A r 0) * (rA A r 1)) < (eA A r b 1) := fun z => c400 ((br_lt (by omega) (by omega)).mpr z)
                          refine lv_iload_n X.1 X.2.1 dL_isEntry_237 rfl (lv_at hl 7 rfl) ?_
                          refine lv_iconst (v := nI 3) X.1 X.2.1 dL_isEntry_238 (by decide) ?_
                          refine lv_icmp_ne (tgt := 254) X.1 X.2.1 dL_isEntry_239 (by decide) (fun c402 => ?_) (fun c402 => ?_)
                          · exact absurd ((nI_eq (by omega) (by omega)).mpr (by omega)) c402
                          · have n403 := (nI_eq (by omega) (by omega)).mp c402
                            refine lv_aload_n X.1 X.2.1 dL_isEntry_242 rfl (lv_at hl 8 rfl) ?_
                            refine lv_iload_n X.1 X.2.1 dL_isEntry_243 rfl (lv_at hl 9 rfl) ?_
                            refine lv_iload_n X.1 X.2.1 dL_isEntry_244 rfl (lv_at hl 10 rfl) ?_
                            refine lv_iconst (v := nI 1) X.1 X.2.1 dL_isEntry_245 (by decide) ?_
                            refine x_callV X hK hw (k := 0) (As := [.int (nI r), .int (nI b), .int (nI 1)]) (rest := []) (w_result hI (by omega) hJ.1.1 hO398 (nI r) (nI b) (nI 1) (fun g t tm hE => a_res1 hJ hc hk hE (by omega) (by omega) tm)) (x_cwV yX7_result cX7_result 4 (some .int) 3 X q695 q696 q697 q1 q698 hd_X7_result ⟨(Nat.le_of_ble_eq_true rfl), (Nat.le_of_ble_eq_true rfl)⟩) (by omega) hO398.ma rfl rfl hl.1 rfl (Nat.le_of_ble_eq_true rfl) dL_isEntry_246 ⟨(Nat.le_of_ble_eq_true rfl), (Nat.le_of_ble_eq_true rfl)⟩ (fun v404 F405 H locs hp hw => ?_)
                            obtain ⟨e406, hO407, hf408⟩ := hp
                            refine x_top e406 ?_
                            replace hfr := hfr.tr hf408 (by omega) (by omega)
                            refine lv_iload X.1 X.2.1 dL_isEntry_249 (lv_at hl 2 rfl) ?_
                            refine lv_icmp_ne (tgt := 278) X.1 X.2.1 dL_isEntry_251 (by decide) (fun c409 => ?_) (fun c409 => ?_)
                            · exact absurd ((nI_eq (by omega) (by omega)).mpr (by omega)) c409
                            · have n410 := (nI_eq (by omega) (by omega)).mp c409
                              refine lv_aload_n X.1 X.2.1 dL_isEntry_254 rfl (lv_at hl 8 rfl) ?_
                              refine lv_iload_n X.1 X.2.1 dL_isEntry_255 rfl (lv_at hl 9 rfl) ?_
                              refine lv_iload_n X.1 X.2.1 dL_isEntry_256 rfl (lv_at hl 10 rfl) ?_
                              refine lv_iconst (v := nI 2) X.1 X.2.1 dL_isEntry_257 (by decide) ?_
                              refine x_callV X hK hw (k := 0) (As := [.int (nI r), .int (nI b), .int (nI 2)]) (rest := []) (w_result hI (by omega) hJ.1.1 hO407 (nI r) (nI b) (nI 2) (fun g t tm hE => a_res2 hJ hc hk hE (by omega) (by omega) tm)) (x_cwV yX7_result cX7_result 4 (some .int) 3 X q695 q696 q697 q1 q698 hd_X7_result ⟨(Nat.le_of_ble_eq_true rfl), (Nat.le_of_ble_eq_true rfl)⟩) (by omega) hO407.ma rfl rfl hl.1 rfl (Nat.le_of_ble_eq_true rfl) dL_isEntry_258 ⟨(Nat.le_of_ble_eq_true rfl), (Nat.le_of_ble_eq_true rfl)⟩ (fun v411 F412 H locs hp hw => ?_)
                              obtain ⟨e413, hO414, hf415⟩ := hp
                              refine x_top e413 ?_
                              replace hfr := hfr.tr hf415 (by omega) (by omega)
                              refine lv_if_lt (tgt := 278) X.1 X.2.1 dL_isEntry_261 (by decide) (fun c416 => ?_) (fun c416 => ?_)
                              · exact absurd ((bz_lt (by omega)).mp c416) (by omega)
                              · have n417 : ¬ (eA A r b 2) < 0 := fun z => c416 ((bz_lt (by omega)).mpr z)
                                refine lv_aload_n X.1 X.2.1 dL_isEntry_264 rfl (lv_at hl 8 rfl) ?_
                                refine lv_iload_n X.1 X.2.1 dL_isEntry_265 rfl (lv_at hl 9 rfl) ?_
                                refine lv_iload_n X.1 X.2.1 dL_isEntry_266 rfl (lv_at hl 10 rfl) ?_
                                refine lv_iconst (v := nI 3) X.1 X.2.1 dL_isEntry_267 (by decide) ?_
                                refine x_callV X hK hw (k := 0) (As := [.int (nI r), .int (nI b), .int (nI 3)]) (rest := []) (w_result hI (by omega) hJ.1.1 hO414 (nI r) (nI b) (nI 3) (fun g t tm hE => a_res3 hJ hc hk hE (by omega) (by omega) tm)) (x_cwV yX7_result cX7_result 4 (some .int) 3 X q695 q696 q697 q1 q698 hd_X7_result ⟨(Nat.le_of_ble_eq_true rfl), (Nat.le_of_ble_eq_true rfl)⟩) (by omega) hO414.ma rfl rfl hl.1 rfl (Nat.le_of_ble_eq_true rfl) dL_isEntry_268 ⟨(Nat.le_of_ble_eq_true rfl), (Nat.le_of_ble_eq_true rfl)⟩ (fun v418 F419 H locs hp hw => ?_)
                                obtain ⟨e420, hO421, hf422⟩ := hp
                                refine x_top e420 ?_
                                replace hfr := hfr.tr hf422 (by omega) (by omega)
                                refine lv_if_lt (tgt := 278) X.1 X.2.1 dL_isEntry_271 (by decide) (fun c423 => ?_) (fun c423 => ?_)
                                · exact absurd ((bz_lt (by omega)).mp c423) (by omega)
                                · have n424 : ¬ (eA A r b 3) < 0 := fun z => c423 ((bz_lt (by omega)).mpr z)
                                  refine lv_iconst (v := nI 1) X.1 X.2.1 dL_isEntry_274 (by decide) ?_
                                  refine lv_goto (tgt := 279) X.1 X.2.1 dL_isEntry_275 (by decide) ?_
                                  refine lv_istore (lv' := [(10, .int (nI 1)), (9, .int (nI (aI A r b k))), (8, .int (nI ((rA A r 0) * (rA A r 1)))), (7, .int (nI 0)), (6, .int ((-5))), (5, .int ((-5))), (4, .int (nI (coN A r b))), (3, .int (nI (eA A r b 0))), (0, .ref (ad 0)), (1, .int (nI r)), (2, .int (nI b))]) X.1 X.2.1 dL_isEntry_279 hl (by decide) rfl (fun ls hl => ?_)
                                  refine lv_iload_n X.1 X.2.1 dL_isEntry_281 rfl (lv_at hl 7 rfl) ?_
                                  refine lv_iconst (v := nI 3) X.1 X.2.1 dL_isEntry_282 (by decide) ?_
                                  refine lv_icmp_ne (tgt := 305) X.1 X.2.1 dL_isEntry_283 (by decide) (fun c425 => ?_) (fun c425 => ?_)
                                  · exact absurd ((nI_eq (by omega) (by omega)).mpr (by omega)) c425
                                  · have n426 := (nI_eq (by omega) (by omega)).mp c425
                                    refine lv_aload_n X.1 X.2.1 dL_isEntry_286 rfl (lv_at hl 8 rfl) ?_
                                    refine lv_iload_n X.1 X.2.1 dL_isEntry_287 rfl (lv_at hl 9 rfl) ?_
                                    refine lv_iload_n X.1 X.2.1 dL_isEntry_288 rfl (lv_at hl 10 rfl) ?_
                                    refine lv_iconst (v := nI 4) X.1 X.2.1 dL_isEntry_289 (by decide) ?_
                                    refine x_callV X hK hw (k := 0) (As := [.int (nI r), .int (nI b), .int (nI 4)]) (rest := []) (w_result hI (by omega) hJ.1.1 hO421 (nI r) (nI b) (nI 4) (fun g t tm hE => a_res4 hJ hc hk hE (by omega) (by omega) tm)) (x_cwV yX7_result cX7_result 4 (some .int) 3 X q695 q696 q697 q1 q698 hd_X7_result ⟨(Nat.le_of_ble_eq_true rfl), (Nat.le_of_ble_eq_true rfl)⟩) (by omega) hO421.ma rfl rfl hl.1 rfl (Nat.le_of_ble_eq_true rfl) dL_isEntry_290 ⟨(Nat.le_of_ble_eq_true rfl), (Nat.le_of_ble_eq_true rfl)⟩ (fun v427 F428 H locs hp hw => ?_)
                                    obtain ⟨e429, hO430, hf431⟩ := hp
                                    refine x_top e429 ?_
                                    replace hfr := hfr.tr hf431 (by omega) (by omega)
                                    refine lv_if_ne (tgt := 305) X.1 X.2.1 dL_isEntry_293 (by decide) (fun c432 => ?_) (fun c432 => ?_)
                                    · have n433 : ¬ (eA A r b 4) = 0 := fun z => c432 ((bz_eq (by omega)).mpr z)
                                      refine lv_iconst (v := nI 0) X.1 X.2.1 dL_isEntry_305 (by decide) ?_
                                      refine lv_istore (lv' := [(11, .int (nI 0)), (10, .int (nI 1)), (9, .int (nI (aI A r b k))), (8, .int (nI ((rA A r 0) * (rA A r 1)))), (7, .int (nI 0)), (6, .int ((-5))), (5, .int ((-5))), (4, .int (nI (coN A r b))), (3, .int (nI (eA A r b 0))), (0, .ref (ad 0)), (1, .int (nI r)), (2, .int (nI b))]) X.1 X.2.1 dL_isEntry_306 hl (by decide) rfl (fun ls hl => ?_)
                                      refine lv_iload X.1 X.2.1 dL_isEntry_308 (lv_at hl 1 rfl) ?_
                                      refine lv_if_eq (tgt := 413) X.1 X.2.1 dL_isEntry_310 (by decide) (fun c434 => ?_) (fun c434 => ?_)
                                      · exact absurd c434 (by decide)
                                      · refine lv_iload X.1 X.2.1 dL_isEntry_313 (lv_at hl 6 rfl) ?_
                                        refine lv_bipush (v := (-5)) X.1 X.2.1 dL_isEntry_315 (by decide) ?_
                                        refine lv_icmp_eq (tgt := 324) X.1 X.2.1 dL_isEntry_317 (by decide) (fun c435 => ?_) (fun c435 => ?_)
                                        · refine lv_iconst (v := nI 0) X.1 X.2.1 dL_isEntry_324 (by decide) ?_
                                          refine lv_iload X.1 X.2.1 dL_isEntry_325 (lv_at hl 0 rfl) ?_
                                          refine lv_icmp_ne (tgt := 413) X.1 X.2.1 dL_isEntry_327 (by decide) (fun c436 => ?_) (fun c436 => ?_)
                                          · exact absurd (by decide) c436
                                          · refine lv_iload X.1 X.2.1 dL_isEntry_330 (lv_at hl 0 rfl) ?_
                                            refine lv_if_eq (tgt := 351) X.1 X.2.1 dL_isEntry_332 (by decide) (fun c437 => ?_) (fun c437 => ?_)
                                            · refine lv_iload X.1 X.2.1 dL_isEntry_351 (lv_at hl 4 rfl) ?_
                                              refine lv_if_eq (tgt := 402) X.1 X.2.1 dL_isEntry_353 (by decide) (fun c438 => ?_) (fun c438 => ?_)
                                              · refine lv_iload X.1 X.2.1 dL_isEntry_402 (lv_at hl 5 rfl) ?_
                                                refine lv_bipush (v := (-5)) X.1 X.2.1 dL_isEntry_404 (by decide) ?_
                                                refine lv_icmp_ne (tgt := 413) X.1 X.2.1 dL_isEntry_406 (by decide) (fun c439 => ?_) (fun c439 => ?_)
                                                · exact absurd (by decide) c439
                                                · refine lv_iconst (v := nI 1) X.1 X.2.1 dL_isEntry_409 (by decide) ?_
                                                  refine lv_goto (tgt := 414) X.1 X.2.1 dL_isEntry_410 (by decide) ?_
                                                  exact x_iret X hr hlk hK hw (v := nI 1) (by first | rfl | exact nr_b _ | decide) (⟨rfl, hO430, hfr⟩) dL_isEntry_414
                                              · exact absurd (by decide) c438
                                            · exact absurd (by decide) c437
                                        · exact absurd (by decide) c435
                                    · have n440 := (bz_eq (by omega)).mp c432
                                      refine lv_iload X.1 X.2.1 dL_isEntry_296 (lv_at hl 3 rfl) ?_
                                      refine lv_if_eq (tgt := 305) X.1 X.2.1 dL_isEntry_298 (by decide) (fun c441 => ?_) (fun c441 => ?_)
                                      · refine lv_iconst (v := nI 0) X.1 X.2.1 dL_isEntry_305 (by decide) ?_
                                        refine lv_istore (lv' := [(11, .int (nI 0)), (10, .int (nI 1)), (9, .int (nI (aI A r b k))), (8, .int (nI ((rA A r 0) * (rA A r 1)))), (7, .int (nI 0)), (6, .int ((-5))), (5, .int ((-5))), (4, .int (nI (coN A r b))), (3, .int (nI (eA A r b 0))), (0, .ref (ad 0)), (1, .int (nI r)), (2, .int (nI b))]) X.1 X.2.1 dL_isEntry_306 hl (by decide) rfl (fun ls hl => ?_)
                                        refine lv_iload X.1 X.2.1 dL_isEntry_308 (lv_at hl 1 rfl) ?_
                                        refine lv_if_eq (tgt := 413) X.1 X.2.1 dL_isEntry_310 (by decide) (fun c442 => ?_) (fun c442 => ?_)
                                        · exact absurd c442 (by decide)
                                        · refine lv_iload X.1 X.2.1 dL_isEntry_313 (lv_at hl 6 rfl) ?_
                                          refine lv_bipush (v := (-5)) X.1 X.2.1 dL_isEntry_315 (by decide) ?_
                                          refine lv_icmp_eq (tgt := 324) X.1 X.2.1 dL_isEntry_317 (by decide) (fun c443 => ?_) (fun c443 => ?_)
                                          · refine lv_iconst (v := nI 0) X.1 X.2.1 dL_isEntry_324 (by decide) ?_
                                            refine lv_iload X.1 X.2.1 dL_isEntry_325 (lv_at hl 0 rfl) ?_
                                            refine lv_icmp_ne (tgt := 413) X.1 X.2.1 dL_isEntry_327 (by decide) (fun c444 => ?_) (fun c444 => ?_)
                                            · exact absurd (by decide) c444
                                            · refine lv_iload X.1 X.2.1 dL_isEntry_330 (lv_at hl 0 rfl) ?_
                                              refine lv_if_eq (tgt := 351) X.1 X.2.1 dL_isEntry_332 (by decide) (fun c445 => ?_) (fun c445 => ?_)
                                              · refine lv_iload X.1 X.2.1 dL_isEntry_351 (lv_at hl 4 rfl) ?_
                                                refine lv_if_eq (tgt := 402) X.1 X.2.1 dL_isEntry_353 (by decide) (fun c446 => ?_) (fun c446 => ?_)
                                                · refine lv_iload X.1 X.2.1 dL_isEntry_402 (lv_at hl 5 rfl) ?_
                                                  refine lv_bipush (v := (-5)) X.1 X.2.1 dL_isEntry_404 (by decide) ?_
                                                  refine lv_icmp_ne (tgt := 413) X.1 X.2.1 dL_isEntry_406 (by decide) (fun c447 => ?_) (fun c447 => ?_)
                                                  · exact absurd (by decide) c447
                                                  · refine lv_iconst (v := nI 1) X.1 X.2.1 dL_isEntry_409 (by decide) ?_
                                                    refine lv_goto (tgt := 414) X.1 X.2.1 dL_isEntry_410 (by decide) ?_
                                                    exact x_iret X hr hlk hK hw (v := nI 1) (by first | rfl | exact nr_b _ | decide) (⟨rfl, hO430, hfr⟩) dL_isEntry_414
                                                · exact absurd (by decide) c446
                                              · exact absurd (by decide) c445
                                          · exact absurd (by decide) c443
                                      · exact absurd (by decide) c441
        · rw [co_z hJ hrA hb hf] at hl
          refine lv_iload_n X.1 X.2.1 dL_isEntry_139 rfl (lv_at hl 7 rfl) ?_
          refine lv_if_lt (tgt := 278) X.1 X.2.1 dL_isEntry_140 (by decide) (fun c448 => ?_) (fun c448 => ?_)
          · exact absurd ((bz_lt (by omega)).mp c448) (by omega)
          · have n449 : ¬ (eA A r b 0) < 0 := fun z => c448 ((bz_lt (by omega)).mpr z)
            refine lv_iload_n X.1 X.2.1 dL_isEntry_143 rfl (lv_at hl 7 rfl) ?_
            refine lv_iconst (v := nI 4) X.1 X.2.1 dL_isEntry_144 (by decide) ?_
            refine lv_icmp_gt (tgt := 278) X.1 X.2.1 dL_isEntry_145 (by decide) (fun c450 => ?_) (fun c450 => ?_)
            · exact absurd ((br_lt (by omega) (by omega)).mp c450) (by omega)
            · have n451 : ¬ 4 < (eA A r b 0) := fun z => c450 ((br_lt (by omega) (by omega)).mpr z)
              refine lv_aload_n X.1 X.2.1 dL_isEntry_148 rfl (lv_at hl 8 rfl) ?_
              refine lv_iload_n X.1 X.2.1 dL_isEntry_149 rfl (lv_at hl 9 rfl) ?_
              refine lv_iload_n X.1 X.2.1 dL_isEntry_150 rfl (lv_at hl 10 rfl) ?_
              refine lv_iconst (v := nI 5) X.1 X.2.1 dL_isEntry_151 (by decide) ?_
              refine x_callV X hK hw (k := 0) (As := [.int (nI r), .int (nI b), .int (nI 5)]) (rest := []) (w_result hI (by omega) hJ.1.1 hOB (nI r) (nI b) (nI 5) (fun g t tm hE => (a_res5 hJ hc hk hE hrA hb tm).trans (el_z hJ hrA hb hf))) (x_cwV yX7_result cX7_result 4 (some .int) 3 X q695 q696 q697 q1 q698 hd_X7_result ⟨(Nat.le_of_ble_eq_true rfl), (Nat.le_of_ble_eq_true rfl)⟩) (by omega) hOB.ma rfl rfl hl.1 rfl (Nat.le_of_ble_eq_true rfl) dL_isEntry_152 ⟨(Nat.le_of_ble_eq_true rfl), (Nat.le_of_ble_eq_true rfl)⟩ (fun v452 F453 H locs hp hw => ?_)
              obtain ⟨e454, hO455, hf456⟩ := hp
              refine x_top e454 ?_
              replace hfr := hfr.tr hf456 (by omega) (by omega)
              refine lv_if_lt (tgt := 162) X.1 X.2.1 dL_isEntry_155 (by decide) (fun c457 => ?_) (fun c457 => ?_)
              · refine lv_iconst (v := nI 0) X.1 X.2.1 dL_isEntry_162 (by decide) ?_
                refine lv_iload_n X.1 X.2.1 dL_isEntry_163 rfl (lv_at hl 7 rfl) ?_
                refine lv_iconst (v := nI 3) X.1 X.2.1 dL_isEntry_164 (by decide) ?_
                refine lv_icmp_ne (tgt := 172) X.1 X.2.1 dL_isEntry_165 (by decide) (fun c458 => ?_) (fun c458 => ?_)
                · have n459 : ¬ (eA A r b 0) = 3 := fun z => c458 ((nI_eq (by omega) (by omega)).mpr z)
                  refine lv_iconst (v := nI 0) X.1 X.2.1 dL_isEntry_172 (by decide) ?_
                  refine lv_icmp_ne (tgt := 278) X.1 X.2.1 dL_isEntry_173 (by decide) (fun c460 => ?_) (fun c460 => ?_)
                  · exact absurd (by decide) c460
                  · refine lv_iload_n X.1 X.2.1 dL_isEntry_176 rfl (lv_at hl 7 rfl) ?_
                    refine lv_iconst (v := nI 3) X.1 X.2.1 dL_isEntry_177 (by decide) ?_
                    refine lv_icmp_ne (tgt := 206) X.1 X.2.1 dL_isEntry_178 (by decide) (fun c461 => ?_) (fun c461 => ?_)
                    · have n462 : ¬ (eA A r b 0) = 3 := fun z => c461 ((nI_eq (by omega) (by omega)).mpr z)
                      refine lv_iload X.1 X.2.1 dL_isEntry_206 (lv_at hl 6 rfl) ?_
                      refine lv_bipush (v := (-5)) X.1 X.2.1 dL_isEntry_208 (by decide) ?_
                      refine lv_icmp_ne (tgt := 278) X.1 X.2.1 dL_isEntry_210 (by decide) (fun c463 => ?_) (fun c463 => ?_)
                      · exact absurd (by decide) c463
                      · refine lv_aload_n X.1 X.2.1 dL_isEntry_213 rfl (lv_at hl 8 rfl) ?_
                        refine lv_iload_n X.1 X.2.1 dL_isEntry_214 rfl (lv_at hl 9 rfl) ?_
                        refine lv_iload_n X.1 X.2.1 dL_isEntry_215 rfl (lv_at hl 10 rfl) ?_
                        refine lv_iconst (v := nI 5) X.1 X.2.1 dL_isEntry_216 (by decide) ?_
                        refine x_callV X hK hw (k := 0) (As := [.int (nI r), .int (nI b), .int (nI 5)]) (rest := []) (w_result hI (by omega) hJ.1.1 hO455 (nI r) (nI b) (nI 5) (fun g t tm hE => (a_res5 hJ hc hk hE hrA hb tm).trans (el_z hJ hrA hb hf))) (x_cwV yX7_result cX7_result 4 (some .int) 3 X q695 q696 q697 q1 q698 hd_X7_result ⟨(Nat.le_of_ble_eq_true rfl), (Nat.le_of_ble_eq_true rfl)⟩) (by omega) hO455.ma rfl rfl hl.1 rfl (Nat.le_of_ble_eq_true rfl) dL_isEntry_217 ⟨(Nat.le_of_ble_eq_true rfl), (Nat.le_of_ble_eq_true rfl)⟩ (fun v464 F465 H locs hp hw => ?_)
                        obtain ⟨e466, hO467, hf468⟩ := hp
                        refine x_top e466 ?_
                        replace hfr := hfr.tr hf468 (by omega) (by omega)
                        refine lv_bipush (v := (-5)) X.1 X.2.1 dL_isEntry_220 (by decide) ?_
                        refine lv_icmp_ne (tgt := 278) X.1 X.2.1 dL_isEntry_222 (by decide) (fun c469 => ?_) (fun c469 => ?_)
                        · exact absurd (by decide) c469
                        · refine lv_aload_n X.1 X.2.1 dL_isEntry_225 rfl (lv_at hl 8 rfl) ?_
                          refine lv_iload_n X.1 X.2.1 dL_isEntry_226 rfl (lv_at hl 9 rfl) ?_
                          refine lv_iload_n X.1 X.2.1 dL_isEntry_227 rfl (lv_at hl 10 rfl) ?_
                          refine lv_iconst (v := nI 1) X.1 X.2.1 dL_isEntry_228 (by decide) ?_
                          refine x_callV X hK hw (k := 0) (As := [.int (nI r), .int (nI b), .int (nI 1)]) (rest := []) (w_result hI (by omega) hJ.1.1 hO467 (nI r) (nI b) (nI 1) (fun g t tm hE => a_res1 hJ hc hk hE (by omega) (by omega) tm)) (x_cwV yX7_result cX7_result 4 (some .int) 3 X q695 q696 q697 q1 q698 hd_X7_result ⟨(Nat.le_of_ble_eq_true rfl), (Nat.le_of_ble_eq_true rfl)⟩) (by omega) hO467.ma rfl rfl hl.1 rfl (Nat.le_of_ble_eq_true rfl) dL_isEntry_229 ⟨(Nat.le_of_ble_eq_true rfl), (Nat.le_of_ble_eq_true rfl)⟩ (fun v470 F471 H locs hp hw => ?_)
                          obtain ⟨e472, hO473, hf474⟩ := hp
                          refine x_top e472 ?_
                          replace hfr := hfr.tr hf474 (by omega) (by omega)
                          refine lv_iload X.1 X.2.1 dL_isEntry_232 (lv_at hl 2 rfl) ?_
                          refine lv_icmp_gt (tgt := 278) X.1 X.2.1 dL_isEntry_234 (by decide) (fun c475 => ?_) (fun c475 => ?_)
                          · exact absurd ((br_lt (by omega) (by omega)).mp c475) (by omega)
                          · have n476 : ¬ ((rA A r 0) * (rA A r 1)) < (eA A r b 1) := fun z => c475 ((br_lt (by omega) (by omega)).mpr z)
                            refine lv_iload_n X.1 X.2.1 dL_isEntry_237 rfl (lv_at hl 7 rfl) ?_
                            refine lv_iconst (v := nI 3) X.1 X.2.1 dL_isEntry_238 (by decide) ?_
                            refine lv_icmp_ne (tgt := 254) X.1 X.2.1 dL_isEntry_239 (by decide) (fun c477 => ?_) (fun c477 => ?_)
                            · have n478 : ¬ (eA A r b 0) = 3 := fun z => c477 ((nI_eq (by omega) (by omega)).mpr z)
                              refine lv_aload_n X.1 X.2.1 dL_isEntry_254 rfl (lv_at hl 8 rfl) ?_
                              refine lv_iload_n X.1 X.2.1 dL_isEntry_255 rfl (lv_at hl 9 rfl) ?_
                              refine lv_iload_n X.1 X.2.1 dL_isEntry_256 rfl (lv_at hl 10 rfl) ?_
                              refine lv_iconst (v := nI 2) X.1 X.2.1 dL_isEntry_257 (by decide) ?_
                              refine x_callV X hK hw (k := 0) (As := [.int (nI r), .int (nI b), .int (nI 2)]) (rest := []) (w_result hI (by omega) hJ.1.1 hO473 (nI r) (nI b) (nI 2) (fun g t tm hE => a_res2 hJ hc hk hE (by omega) (by omega) tm)) (x_cwV yX7_result cX7_result 4 (some .int) 3 X q695 q696 q697 q1 q698 hd_X7_result ⟨(Nat.le_of_ble_eq_true rfl), (Nat.le_of_ble_eq_true rfl)⟩) (by omega) hO473.ma rfl rfl hl.1 rfl (Nat.le_of_ble_eq_true rfl) dL_isEntry_258 ⟨(Nat.le_of_ble_eq_true rfl), (Nat.le_of_ble_eq_true rfl)⟩ (fun v479 F480 H locs hp hw => ?_)
                              obtain ⟨e481, hO482, hf483⟩ := hp
                              refine x_top e481 ?_
                              replace hfr := hfr.tr hf483 (by omega) (by omega)
                              refine lv_if_lt (tgt := 278) X.1 X.2.1 dL_isEntry_261 (by decide) (fun c484 => ?_) (fun c484 => ?_)
                              · exact absurd ((bz_lt (by omega)).mp c484) (by omega)
                              · have n485 : ¬ (eA A r b 2) < 0 := fun z => c484 ((bz_lt (by omega)).mpr z)
                                refine lv_aload_n X.1 X.2.1 dL_isEntry_264 rfl (lv_at hl 8 rfl) ?_
                                refine lv_iload_n X.1 X.2.1 dL_isEntry_265 rfl (lv_at hl 9 rfl) ?_
                                refine lv_iload_n X.1 X.2.1 dL_isEntry_266 rfl (lv_at hl 10 rfl) ?_
                                refine lv_iconst (v := nI 3) X.1 X.2.1 dL_isEntry_267 (by decide) ?_
                                refine x_callV X hK hw (k := 0) (As := [.int (nI r), .int (nI b), .int (nI 3)]) (rest := []) (w_result hI (by omega) hJ.1.1 hO482 (nI r) (nI b) (nI 3) (fun g t tm hE => a_res3 hJ hc hk hE (by omega) (by omega) tm)) (x_cwV yX7_result cX7_result 4 (some .int) 3 X q695 q696 q697 q1 q698 hd_X7_result ⟨(Nat.le_of_ble_eq_true rfl), (Nat.le_of_ble_eq_true rfl)⟩) (by omega) hO482.ma rfl rfl hl.1 rfl (Nat.le_of_ble_eq_true rfl) dL_isEntry_268 ⟨(Nat.le_of_ble_eq_true rfl), (Nat.le_of_ble_eq_true rfl)⟩ (fun v486 F487 H locs hp hw => ?_)
                                obtain ⟨e488, hO489, hf490⟩ := hp
                                refine x_top e488 ?_
                                replace hfr := hfr.tr hf490 (by omega) (by omega)
                                refine lv_if_lt (tgt := 278) X.1 X.2.1 dL_isEntry_271 (by decide) (fun c491 => ?_) (fun c491 => ?_)
                                · exact absurd ((bz_lt (by omega)).mp c491) (by omega)
                                · have n492 : ¬ (eA A r b 3) < 0 := fun z => c491 ((bz_lt (by omega)).mpr z)
                                  refine lv_iconst (v := nI 1) X.1 X.2.1 dL_isEntry_274 (by decide) ?_
                                  refine lv_goto (tgt := 279) X.1 X.2.1 dL_isEntry_275 (by decide) ?_
                                  refine lv_istore (lv' := [(10, .int (nI 1)), (9, .int (nI (aI A r b k))), (8, .int (nI ((rA A r 0) * (rA A r 1)))), (7, .int (nI 0)), (6, .int ((-5))), (5, .int ((-5))), (4, .int ((-5))), (3, .int (nI (eA A r b 0))), (0, .ref (ad 0)), (1, .int (nI r)), (2, .int (nI b))]) X.1 X.2.1 dL_isEntry_279 hl (by decide) rfl (fun ls hl => ?_)
                                  refine lv_iload_n X.1 X.2.1 dL_isEntry_281 rfl (lv_at hl 7 rfl) ?_
                                  refine lv_iconst (v := nI 3) X.1 X.2.1 dL_isEntry_282 (by decide) ?_
                                  refine lv_icmp_ne (tgt := 305) X.1 X.2.1 dL_isEntry_283 (by decide) (fun c493 => ?_) (fun c493 => ?_)
                                  · have n494 : ¬ (eA A r b 0) = 3 := fun z => c493 ((nI_eq (by omega) (by omega)).mpr z)
                                    refine lv_iconst (v := nI 0) X.1 X.2.1 dL_isEntry_305 (by decide) ?_
                                    refine lv_istore (lv' := [(11, .int (nI 0)), (10, .int (nI 1)), (9, .int (nI (aI A r b k))), (8, .int (nI ((rA A r 0) * (rA A r 1)))), (7, .int (nI 0)), (6, .int ((-5))), (5, .int ((-5))), (4, .int ((-5))), (3, .int (nI (eA A r b 0))), (0, .ref (ad 0)), (1, .int (nI r)), (2, .int (nI b))]) X.1 X.2.1 dL_isEntry_306 hl (by decide) rfl (fun ls hl => ?_)
                                    refine lv_iload X.1 X.2.1 dL_isEntry_308 (lv_at hl 1 rfl) ?_
                                    refine lv_if_eq (tgt := 413) X.1 X.2.1 dL_isEntry_310 (by decide) (fun c495 => ?_) (fun c495 => ?_)
                                    · exact absurd c495 (by decide)
                                    · refine lv_iload X.1 X.2.1 dL_isEntry_313 (lv_at hl 6 rfl) ?_
                                      refine lv_bipush (v := (-5)) X.1 X.2.1 dL_isEntry_315 (by decide) ?_
                                      refine lv_icmp_eq (tgt := 324) X.1 X.2.1 dL_isEntry_317 (by decide) (fun c496 => ?_) (fun c496 => ?_)
                                      · refine lv_iconst (v := nI 0) X.1 X.2.1 dL_isEntry_324 (by decide) ?_
                                        refine lv_iload X.1 X.2.1 dL_isEntry_325 (lv_at hl 0 rfl) ?_
                                        refine lv_icmp_ne (tgt := 413) X.1 X.2.1 dL_isEntry_327 (by decide) (fun c497 => ?_) (fun c497 => ?_)
                                        · exact absurd (by decide) c497
                                        · refine lv_iload X.1 X.2.1 dL_isEntry_330 (lv_at hl 0 rfl) ?_
                                          refine lv_if_eq (tgt := 351) X.1 X.2.1 dL_isEntry_332 (by decide) (fun c498 => ?_) (fun c498 => ?_)
                                          · refine lv_iload X.1 X.2.1 dL_isEntry_351 (lv_at hl 4 rfl) ?_
                                            refine lv_if_eq (tgt := 402) X.1 X.2.1 dL_isEntry_353 (by decide) (fun c499 => ?_) (fun c499 => ?_)
                                            · refine lv_iload X.1 X.2.1 dL_isEntry_402 (lv_at hl 5 rfl) ?_
                                              refine lv_bipush (v := (-5)) X.1 X.2.1 dL_isEntry_404 (by decide) ?_
                                              refine lv_icmp_ne (tgt := 413) X.1 X.2.1 dL_isEntry_406 (by decide) (fun c500 => ?_) (fun c500 => ?_)
                                              · exact absurd (by decide) c500
                                              · refine lv_iconst (v := nI 1) X.1 X.2.1 dL_isEntry_409 (by decide) ?_
                                                refine lv_goto (tgt := 414) X.1 X.2.1 dL_isEntry_410 (by decide) ?_
                                                exact x_iret X hr hlk hK hw (v := nI 1) (by first | rfl | exact nr_b _ | decide) (⟨rfl, hO489, hfr⟩) dL_isEntry_414
                                            · exact absurd (by decide) c499
                                          · exact absurd (by decide) c498
                                      · exact absurd (by decide) c496
                                  · exact absurd ((nI_eq (by omega) (by omega)).mp c493) (by omega)
                            · exact absurd ((nI_eq (by omega) (by omega)).mp c477) (by omega)
                    · exact absurd ((nI_eq (by omega) (by omega)).mp c461) (by omega)
                · exact absurd ((nI_eq (by omega) (by omega)).mp c458) (by omega)
              · exact absurd (by decide) c457
      have loop76 : ∀ (fu : Nat) (k : Nat) (F1 : Nat → va_E) (hfu : A 1 ≤ k + fu) (hk1 : k ≤ A 1) (hOB : OB ad cI cB cS F1 hs A A3) (hfr : Fr F F1 0 111) (H : Heap) (locs : List Loc) (hw : HW D (Af ad N s.heap.size) ad N F1 s H locs) (ls : Array Slot) (hl : lv_has ls 12 [(9, .int (nI (aI A r b k))), (10, .int (nI k)), (8, .int (nI ((rA A r 0) * (rA A r 1)))), (7, .int (nI 0)), (6, .int ((-5))), (5, .int ((-5))), (4, .int (m_co (arr A) r b)), (3, .int (nI (eA A r b 0))), (0, .ref (ad 0)), (1, .int (nI r)), (2, .int (nI b))]), W p l e { frames := 7, cells := 0, slots := 0, locals := 160 } s m [.ref (ad 0), .int (nI r), .int (nI b)].toArray below meth c H locs 0 0 (MQ below (va_Qi (fun v F' => v = nI 1 ∧ OB ad cI cB cS F' hs A A3 ∧ Fr F F' 0 111) (fun F' t => PO D ad N F' t) (Af ad N s.heap.size)) [.ref (ad 0), .int (nI r), .int (nI b)].toArray s 0 0 (Af ad N s.heap.size)) (F0 m 76 ls []) := by
        intro fu
        induction fu with
        | zero =>
          intro k F1 hfu hk1 hOB hfr H locs hw ls hl
          refine lv_iload X.1 X.2.1 dL_isEntry_76 (lv_at hl 1 rfl) ?_
          refine lv_aload_n X.1 X.2.1 dL_isEntry_78 rfl (lv_at hl 8 rfl) ?_
          refine lv_iconst (v := nI 0) X.1 X.2.1 dL_isEntry_79 (by decide) ?_
          refine x_callV X hK hw (k := 0) (As := [.int (nI 0)]) (rest := [.int (nI k)]) (w_count hI (by omega) hOB (nI 0) (fun g t z n hE => a_cou0 hJ hc hk hE z n)) (x_cwV yX7_count cX7_count 2 (some .int) 1 X q818 q819 q820 q1 q821 hd_X7_count ⟨(Nat.le_of_ble_eq_true rfl), (Nat.le_of_ble_eq_true rfl)⟩) (by omega) hOB.ma rfl rfl hl.1 rfl (Nat.le_of_ble_eq_true rfl) dL_isEntry_80 ⟨(Nat.le_of_ble_eq_true rfl), (Nat.le_of_ble_eq_true rfl)⟩ (fun v501 F502 H locs hp hw => ?_)
          obtain ⟨e503, hO504, hf505⟩ := hp
          refine x_top e503 ?_
          replace hfr := hfr.tr hf505 (by omega) (by omega)
          refine lv_icmp_ge (tgt := 139) X.1 X.2.1 dL_isEntry_83 (by decide) (fun c506 => ?_) (fun c506 => ?_)
          · have n507 := (nI_leI (by omega) (by omega)).mp c506
            exact way76 k F502 hk1 hO504 hfr n507 _ _ hw _ (lv_sub hl [0, 1, 2, 3, 4, 5, 6, 7, 8, 9, 10] rfl)
          · exact absurd ((nI_leI (by omega) (by omega)).mpr (by omega)) c506
        | succ fu ih =>
          intro k F1 hfu hk1 hOB hfr H locs hw ls hl
          refine lv_iload X.1 X.2.1 dL_isEntry_76 (lv_at hl 1 rfl) ?_
          refine lv_aload_n X.1 X.2.1 dL_isEntry_78 rfl (lv_at hl 8 rfl) ?_
          refine lv_iconst (v := nI 0) X.1 X.2.1 dL_isEntry_79 (by decide) ?_
          refine x_callV X hK hw (k := 0) (As := [.int (nI 0)]) (rest := [.int (nI k)]) (w_count hI (by omega) hOB (nI 0) (fun g t z n hE => a_cou0 hJ hc hk hE z n)) (x_cwV yX7_count cX7_count 2 (some .int) 1 X q818 q819 q820 q1 q821 hd_X7_count ⟨(Nat.le_of_ble_eq_true rfl), (Nat.le_of_ble_eq_true rfl)⟩) (by omega) hOB.ma rfl rfl hl.1 rfl (Nat.le_of_ble_eq_true rfl) dL_isEntry_80 ⟨(Nat.le_of_ble_eq_true rfl), (Nat.le_of_ble_eq_true rfl)⟩ (fun v508 F509 H locs hp hw => ?_)
          obtain ⟨e510, hO511, hf512⟩ := hp
          refine x_top e510 ?_
          replace hfr := hfr.tr hf512 (by omega) (by omega)
          refine lv_icmp_ge (tgt := 139) X.1 X.2.1 dL_isEntry_83 (by decide) (fun c513 => ?_) (fun c513 => ?_)
          · have n514 := (nI_leI (by omega) (by omega)).mp c513
            exact way76 k F509 hk1 hO511 hfr n514 _ _ hw _ (lv_sub hl [0, 1, 2, 3, 4, 5, 6, 7, 8, 9, 10] rfl)
          · have n515 : ¬ (A 1) ≤ k := fun z => c513 ((nI_leI (by omega) (by omega)).mpr z)
            obtain ⟨k1, k2, k3, k4, k5, k6, k7, k8, k9, k10⟩ := hJ.bj (r := r) (b := k) hrA (by omega)
            have kal := aI_le (A := A) (r := r) (b := b) k
            refine lv_iload X.1 X.2.1 dL_isEntry_86 (lv_at hl 0 rfl) ?_
            refine lv_aload_n X.1 X.2.1 dL_isEntry_88 rfl (lv_at hl 8 rfl) ?_
            refine lv_iload_n X.1 X.2.1 dL_isEntry_89 rfl (lv_at hl 9 rfl) ?_
            refine lv_iload X.1 X.2.1 dL_isEntry_90 (lv_at hl 1 rfl) ?_
            refine lv_iconst (v := nI 0) X.1 X.2.1 dL_isEntry_92 (by decide) ?_
            refine x_callV X hK hw (k := 0) (As := [.int (nI r), .int (nI k), .int (nI 0)]) (rest := [.int (nI (aI A r b k))]) (w_result hI (by omega) hJ.1.1 hO511 (nI r) (nI k) (nI 0) (fun g t tm hE => a_res0 hJ hc hk hE (by omega) (by omega) tm)) (x_cwV yX7_result cX7_result 4 (some .int) 3 X q695 q696 q697 q1 q698 hd_X7_result ⟨(Nat.le_of_ble_eq_true rfl), (Nat.le_of_ble_eq_true rfl)⟩) (by omega) hO511.ma rfl rfl hl.1 rfl (Nat.le_of_ble_eq_true rfl) dL_isEntry_93 ⟨(Nat.le_of_ble_eq_true rfl), (Nat.le_of_ble_eq_true rfl)⟩ (fun v516 F517 H locs hp hw => ?_)
            obtain ⟨e518, hO519, hf520⟩ := hp
            refine x_top e518 ?_
            replace hfr := hfr.tr hf520 (by omega) (by omega)
            refine lv_iconst (v := nI 3) X.1 X.2.1 dL_isEntry_96 (by decide) ?_
            refine lv_icmp_ne (tgt := 129) X.1 X.2.1 dL_isEntry_97 (by decide) (fun c521 => ?_) (fun c521 => ?_)
            · have n522 : ¬ (eA A r k 0) = 3 := fun z => c521 ((nI_eq (by omega) (by omega)).mpr z)
              refine lv_iconst (v := nI 0) X.1 X.2.1 dL_isEntry_129 (by decide) ?_
              refine lv_iadd X.1 X.2.1 dL_isEntry_130 ?_
              refine x_top (nI_add _ _) ?_
              refine x_top (y := nI (aI A r b (k + 1))) (congrArg nI (aI_n (fun z => n522 z.1.1))) ?_
              refine lv_istore (lv' := [(9, .int (nI (aI A r b (k + 1)))), (10, .int (nI k)), (8, .int (nI ((rA A r 0) * (rA A r 1)))), (7, .int (nI 0)), (6, .int ((-5))), (5, .int ((-5))), (4, .int (m_co (arr A) r b)), (3, .int (nI (eA A r b 0))), (0, .ref (ad 0)), (1, .int (nI r)), (2, .int (nI b))]) X.1 X.2.1 dL_isEntry_131 hl (by decide) rfl (fun ls hl => ?_)
              refine lv_iinc (v := nI (k + 1)) (lv' := [(10, .int (nI (k + 1))), (9, .int (nI (aI A r b (k + 1)))), (8, .int (nI ((rA A r 0) * (rA A r 1)))), (7, .int (nI 0)), (6, .int ((-5))), (5, .int ((-5))), (4, .int (m_co (arr A) r b)), (3, .int (nI (eA A r b 0))), (0, .ref (ad 0)), (1, .int (nI r)), (2, .int (nI b))]) X.1 X.2.1 dL_isEntry_133 hl (k := 1) rfl (by first | exact nI_1 _ | exact nI_add _ _ | rfl) (by decide) rfl (fun ls hl => ?_)
              refine lv_goto (tgt := 76) X.1 X.2.1 dL_isEntry_136 (by decide) ?_
              exact ih (k + 1) F517 (by omega) (by omega) hO519 hfr _ _ hw _ (lv_sub hl [1, 0, 2, 3, 4, 5, 6, 7, 8, 9, 10] rfl)
            · have n523 := (nI_eq (by omega) (by omega)).mp c521
              refine lv_aload_n X.1 X.2.1 dL_isEntry_100 rfl (lv_at hl 8 rfl) ?_
              refine lv_iload_n X.1 X.2.1 dL_isEntry_101 rfl (lv_at hl 9 rfl) ?_
              refine lv_iload X.1 X.2.1 dL_isEntry_102 (lv_at hl 1 rfl) ?_
              refine lv_iconst (v := nI 4) X.1 X.2.1 dL_isEntry_104 (by decide) ?_
              refine x_callV X hK hw (k := 0) (As := [.int (nI r), .int (nI k), .int (nI 4)]) (rest := [.int (nI (aI A r b k))]) (w_result hI (by omega) hJ.1.1 hO519 (nI r) (nI k) (nI 4) (fun g t tm hE => a_res4 hJ hc hk hE (by omega) (by omega) tm)) (x_cwV yX7_result cX7_result 4 (some .int) 3 X q695 q696 q697 q1 q698 hd_X7_result ⟨(Nat.le_of_ble_eq_true rfl), (Nat.le_of_ble_eq_true rfl)⟩) (by omega) hO519.ma rfl rfl hl.1 rfl (Nat.le_of_ble_eq_true rfl) dL_isEntry_105 ⟨(Nat.le_of_ble_eq_true rfl), (Nat.le_of_ble_eq_true rfl)⟩ (fun v524 F525 H locs hp hw => ?_)
              obtain ⟨e526, hO527, hf528⟩ := hp
              refine x_top e526 ?_
              replace hfr := hfr.tr hf528 (by omega) (by omega)
              refine lv_if_ne (tgt := 129) X.1 X.2.1 dL_isEntry_108 (by decide) (fun c529 => ?_) (fun c529 => ?_)
              · have n530 : ¬ (eA A r k 4) = 0 := fun z => c529 ((bz_eq (by omega)).mpr z)
                refine lv_iconst (v := nI 0) X.1 X.2.1 dL_isEntry_129 (by decide) ?_
                refine lv_iadd X.1 X.2.1 dL_isEntry_130 ?_
                refine x_top (nI_add _ _) ?_
                refine x_top (y := nI (aI A r b (k + 1))) (congrArg nI (aI_n (fun z => n530 z.1.2))) ?_
                refine lv_istore (lv' := [(9, .int (nI (aI A r b (k + 1)))), (10, .int (nI k)), (8, .int (nI ((rA A r 0) * (rA A r 1)))), (7, .int (nI 0)), (6, .int ((-5))), (5, .int ((-5))), (4, .int (m_co (arr A) r b)), (3, .int (nI (eA A r b 0))), (0, .ref (ad 0)), (1, .int (nI r)), (2, .int (nI b))]) X.1 X.2.1 dL_isEntry_131 hl (by decide) rfl (fun ls hl => ?_)
                refine lv_iinc (v := nI (k + 1)) (lv' := [(10, .int (nI (k + 1))), (9, .int (nI (aI A r b (k + 1)))), (8, .int (nI ((rA A r 0) * (rA A r 1)))), (7, .int (nI 0)), (6, .int ((-5))), (5, .int ((-5))), (4, .int (m_co (arr A) r b)), (3, .int (nI (eA A r b 0))), (0, .ref (ad 0)), (1, .int (nI r)), (2, .int (nI b))]) X.1 X.2.1 dL_isEntry_133 hl (k := 1) rfl (by first | exact nI_1 _ | exact nI_add _ _ | rfl) (by decide) rfl (fun ls hl => ?_)
                refine lv_goto (tgt := 76) X.1 X.2.1 dL_isEntry_136 (by decide) ?_
                exact ih (k + 1) F525 (by omega) (by omega) hO527 hfr _ _ hw _ (lv_sub hl [1, 0, 2, 3, 4, 5, 6, 7, 8, 9, 10] rfl)
              · have n531 := (bz_eq (by omega)).mp c529
                refine lv_aload_n X.1 X.2.1 dL_isEntry_111 rfl (lv_at hl 8 rfl) ?_
                refine lv_iload_n X.1 X.2.1 dL_isEntry_112 rfl (lv_at hl 9 rfl) ?_
                refine lv_iload X.1 X.2.1 dL_isEntry_113 (lv_at hl 1 rfl) ?_
                refine lv_bipush (v := nI 6) X.1 X.2.1 dL_isEntry_115 (by decide) ?_
                refine x_callV X hK hw (k := 0) (As := [.int (nI r), .int (nI k), .int (nI 6)]) (rest := [.int (nI (aI A r b k))]) (w_result hI (by omega) hJ.1.1 hO527 (nI r) (nI k) (nI 6) (fun g t tm hE => a_res6 hJ hc hk hE hrA (by omega) tm)) (x_cwV yX7_result cX7_result 4 (some .int) 3 X q695 q696 q697 q1 q698 hd_X7_result ⟨(Nat.le_of_ble_eq_true rfl), (Nat.le_of_ble_eq_true rfl)⟩) (by omega) hO527.ma rfl rfl hl.1 rfl (Nat.le_of_ble_eq_true rfl) dL_isEntry_117 ⟨(Nat.le_of_ble_eq_true rfl), (Nat.le_of_ble_eq_true rfl)⟩ (fun v532 F533 H locs hp hw => ?_)
                obtain ⟨e534, hO535, hf536⟩ := hp
                refine x_top e534 ?_
                replace hfr := hfr.tr hf536 (by omega) (by omega)
                refine lv_iload X.1 X.2.1 dL_isEntry_120 (lv_at hl 6 rfl) ?_
                refine lv_icmp_ge (tgt := 129) X.1 X.2.1 dL_isEntry_122 (by decide) (fun c537 => ?_) (fun c537 => ?_)
                · refine lv_iconst (v := nI 0) X.1 X.2.1 dL_isEntry_129 (by decide) ?_
                  refine lv_iadd X.1 X.2.1 dL_isEntry_130 ?_
                  refine x_top (nI_add _ _) ?_
                  refine x_top (y := nI (aI A r b (k + 1))) (congrArg nI (aI_n (fun z => z.2 c537))) ?_
                  refine lv_istore (lv' := [(9, .int (nI (aI A r b (k + 1)))), (10, .int (nI k)), (8, .int (nI ((rA A r 0) * (rA A r 1)))), (7, .int (nI 0)), (6, .int ((-5))), (5, .int ((-5))), (4, .int (m_co (arr A) r b)), (3, .int (nI (eA A r b 0))), (0, .ref (ad 0)), (1, .int (nI r)), (2, .int (nI b))]) X.1 X.2.1 dL_isEntry_131 hl (by decide) rfl (fun ls hl => ?_)
                  refine lv_iinc (v := nI (k + 1)) (lv' := [(10, .int (nI (k + 1))), (9, .int (nI (aI A r b (k + 1)))), (8, .int (nI ((rA A r 0) * (rA A r 1)))), (7, .int (nI 0)), (6, .int ((-5))), (5, .int ((-5))), (4, .int (m_co (arr A) r b)), (3, .int (nI (eA A r b 0))), (0, .ref (ad 0)), (1, .int (nI r)), (2, .int (nI b))]) X.1 X.2.1 dL_isEntry_133 hl (k := 1) rfl (by first | exact nI_1 _ | exact nI_add _ _ | rfl) (by decide) rfl (fun ls hl => ?_)
                  refine lv_goto (tgt := 76) X.1 X.2.1 dL_isEntry_136 (by decide) ?_
                  exact ih (k + 1) F533 (by omega) (by omega) hO535 hfr _ _ hw _ (lv_sub hl [1, 0, 2, 3, 4, 5, 6, 7, 8, 9, 10] rfl)
                · refine lv_iconst (v := nI 1) X.1 X.2.1 dL_isEntry_125 (by decide) ?_
                  refine lv_goto (tgt := 130) X.1 X.2.1 dL_isEntry_126 (by decide) ?_
                  refine lv_iadd X.1 X.2.1 dL_isEntry_130 ?_
                  refine x_top (nI_add _ _) ?_
                  refine x_top (y := nI (aI A r b (k + 1))) (congrArg nI (aI_y ⟨⟨n523, n531⟩, c537⟩)) ?_
                  refine lv_istore (lv' := [(9, .int (nI (aI A r b (k + 1)))), (10, .int (nI k)), (8, .int (nI ((rA A r 0) * (rA A r 1)))), (7, .int (nI 0)), (6, .int ((-5))), (5, .int ((-5))), (4, .int (m_co (arr A) r b)), (3, .int (nI (eA A r b 0))), (0, .ref (ad 0)), (1, .int (nI r)), (2, .int (nI b))]) X.1 X.2.1 dL_isEntry_131 hl (by decide) rfl (fun ls hl => ?_)
                  refine lv_iinc (v := nI (k + 1)) (lv' := [(10, .int (nI (k + 1))), (9, .int (nI (aI A r b (k + 1)))), (8, .int (nI ((rA A r 0) * (rA A r 1)))), (7, .int (nI 0)), (6, .int ((-5))), (5, .int ((-5))), (4, .int (m_co (arr A) r b)), (3, .int (nI (eA A r b 0))), (0, .ref (ad 0)), (1, .int (nI r)), (2, .int (nI b))]) X.1 X.2.1 dL_isEntry_133 hl (k := 1) rfl (by first | exact nI_1 _ | exact nI_add _ _ | rfl) (by decide) rfl (fun ls hl => ?_)
                  refine lv_goto (tgt := 76) X.1 X.2.1 dL_isEntry_136 (by decide) ?_
                  exact ih (k + 1) F533 (by omega) (by omega) hO535 hfr _ _ hw _ (lv_sub hl [1, 0, 2, 3, 4, 5, 6, 7, 8, 9, 10] rfl)
      exact loop76 (A 1) 0 F363 (by omega) (by omega) hO365 hfr _ _ hw _ (lv_sub hl [1, 0, 2, 3, 4, 5, 6, 7, 8, 9, 10] rfl)
    · exact absurd ((nI_eq (by omega) (by omega)).mp c355) (by omega)
