/-! the law's method 'areBoats' -/
theorem lo_b {c : Nat} {A : Nat → Nat} (hJ : HJ c A) {r b : Nat} (hr : r < A 2) (hb : b < A 1) : ptN A r b ≤ 11 := by
  have := (ptN_b hJ hr hb).2
  have := hJ.1.1
  omega
theorem hd_X7_mean : yX7_mean.cls = RX7 ∧ yX7_mean.cls ≠ "java/lang/invoke/MethodHandle" ∧ yX7_mean.cls ≠ "java/lang/invoke/VarHandle" ∧ (parseMethodDescriptor yX7_mean.desc).map (fun d => d.parameters.length) = some 1 := by decide +kernel
theorem hd_X7_ranked : yX7_ranked.cls = RX7 ∧ yX7_ranked.cls ≠ "java/lang/invoke/MethodHandle" ∧ yX7_ranked.cls ≠ "java/lang/invoke/VarHandle" ∧ (parseMethodDescriptor yX7_ranked.desc).map (fun d => d.parameters.length) = some 1 := by decide +kernel
set_option maxHeartbeats 4000000 in
set_option maxRecDepth 100000 in
theorem k_L_areBoats {l : Launch} {D : va_G} {cI cB cS : ClassId} {ad : Nat → Nat} {N : Nat} {F : Nat → va_E} (hI : iN ad N) (hN : 114 ≤ N) {ca : Nat} {hs : Int32} {A A3 : Nat → Nat} (hJ : HJ ca A) (hc : ca ≤ 512) (hk : A 0 ≤ 999999) (hO : OB ad cI cB cS F hs A A3) : Ci l D cI cB cS ad N yL_areBoats cL_areBoats 13 (some .boolean) 7 160 [.ref (ad 0)] F (fun v F' => v = nI 1 ∧ OB ad cI cB cS F' hs A A3 ∧ Fr F F' 0 111) := by
  refine x_met (by decide +kernel) (Nat.le_of_ble_eq_true rfl) ?_
  intro p e s m below meth c X hr hlk hK hw ls hl
  replace hl : lv_has ls 13 [(0, .ref (ad 0))] := hl
  have hfr : Fr F F 0 111 := Fr.rf
  have h9 := hJ.1.1
  have h6 := hJ.1.2.1
  have hncl := ncl_le (A := A)
  have hn6 := n6 hJ
  have hs6 := hJ.1.2.2.2.2.2.2.2.2.2.1
  by_cases hd : 0 < A 6 ∧ A 6 ≤ ncl A
  · refine lv_iconst (v := nI 0) X.1 X.2.1 dL_areBoats_0 (by decide) ?_
    refine lv_istore_n (lv' := [(1, .int (nI 0)), (0, .ref (ad 0))]) X.1 X.2.1 dL_areBoats_1 rfl hl (by decide) rfl (fun ls hl => ?_)
    refine lv_aload_n X.1 X.2.1 dL_areBoats_2 rfl (lv_at hl 1 rfl) ?_
    refine lv_iconst (v := nI 0) X.1 X.2.1 dL_areBoats_3 (by decide) ?_
    refine x_callV X hK hw (k := 0) (As := [.int (nI 0)]) (rest := []) (w_count hI (by omega) hO (nI 0) (fun g t z n hE => a_cou0 hJ hc hk hE z n)) (x_cwV yX7_count cX7_count 2 (some .int) 1 X q818 q819 q820 q1 q821 hd_X7_count ⟨(Nat.le_of_ble_eq_true rfl), (Nat.le_of_ble_eq_true rfl)⟩) (by omega) hO.ma rfl rfl hl.1 rfl (Nat.le_of_ble_eq_true rfl) dL_areBoats_4 ⟨(Nat.le_of_ble_eq_true rfl), (Nat.le_of_ble_eq_true rfl)⟩ (fun v1 F2 H locs hp hw => ?_)
    obtain ⟨e3, hO4, hf5⟩ := hp
    refine x_top e3 ?_
    replace hfr := hfr.tr hf5 (by omega) (by omega)
    refine lv_istore_n (lv' := [(2, .int (nI (A 1))), (1, .int (nI 0)), (0, .ref (ad 0))]) X.1 X.2.1 dL_areBoats_7 rfl hl (by decide) rfl (fun ls hl => ?_)
    refine lv_aload_n X.1 X.2.1 dL_areBoats_8 rfl (lv_at hl 2 rfl) ?_
    refine lv_iconst (v := nI 2) X.1 X.2.1 dL_areBoats_9 (by decide) ?_
    refine x_callV X hK hw (k := 0) (As := [.int (nI 2)]) (rest := []) (w_count hI (by omega) hO4 (nI 2) (fun g t z n hE => a_cou2 hJ hc hk hE z n)) (x_cwV yX7_count cX7_count 2 (some .int) 1 X q818 q819 q820 q1 q821 hd_X7_count ⟨(Nat.le_of_ble_eq_true rfl), (Nat.le_of_ble_eq_true rfl)⟩) (by omega) hO4.ma rfl rfl hl.1 rfl (Nat.le_of_ble_eq_true rfl) dL_areBoats_10 ⟨(Nat.le_of_ble_eq_true rfl), (Nat.le_of_ble_eq_true rfl)⟩ (fun v6 F7 H locs hp hw => ?_)
    obtain ⟨e8, hO9, hf10⟩ := hp
    refine x_top e8 ?_
    replace hfr := hfr.tr hf10 (by omega) (by omega)
    refine lv_istore_n (lv' := [(3, .int (nI (ncl A))), (2, .int (nI (A 1))), (1, .int (nI 0)), (0, .ref (ad 0))]) X.1 X.2.1 dL_areBoats_13 rfl hl (by decide) rfl (fun ls hl => ?_)
    refine lv_iconst (v := nI 0) X.1 X.2.1 dL_areBoats_14 (by decide) ?_
    refine lv_istore (lv' := [(4, .int (nI 0)), (3, .int (nI (ncl A))), (2, .int (nI (A 1))), (1, .int (nI 0)), (0, .ref (ad 0))]) X.1 X.2.1 dL_areBoats_15 hl (by decide) rfl (fun ls hl => ?_)
    have way17 : ∀ (b : Nat) (F1 : Nat → va_E) (hb1 : b ≤ A 1) (hOB : OB ad cI cB cS F1 hs A A3) (hfr : Fr F F1 0 111) (hx : A 1 ≤ b) (H : Heap) (locs : List Loc) (hw : HW D (Af ad N s.heap.size) ad N F1 s H locs) (ls : Array Slot) (hl : lv_has ls 13 [(1, .int (nI (orN A b))), (4, .int (nI b)), (3, .int (nI (ncl A))), (2, .int (nI (A 1))), (0, .ref (ad 0))]), W p l e { frames := 7, cells := 0, slots := 0, locals := 160 } s m [.ref (ad 0)].toArray below meth c H locs 0 0 (MQ below (va_Qi (fun v F' => v = nI 1 ∧ OB ad cI cB cS F' hs A A3 ∧ Fr F F' 0 111) (fun F' t => PO D ad N F' t) (Af ad N s.heap.size)) [.ref (ad 0)].toArray s 0 0 (Af ad N s.heap.size)) (F0 m 389 ls []) := by
      intro b F1 hb1 hOB hfr hx H locs hw ls hl
      have hob := or_b hJ b (by omega)
      have hall := or_all hJ hc hk
      have hba : b = A 1 := by omega
      have hoa : orN A b = orN A (A 1) := by rw [hba]
      have hob2 := or_b hJ (A 1) (Nat.le_refl _)
      refine lv_iload_n X.1 X.2.1 dL_areBoats_389 rfl (lv_at hl 0 rfl) ?_
      refine lv_iconst (v := nI 1) X.1 X.2.1 dL_areBoats_390 (by decide) ?_
      refine lv_iload_n X.1 X.2.1 dL_areBoats_391 rfl (lv_at hl 3 rfl) ?_
      refine lv_iconst (v := nI 1) X.1 X.2.1 dL_areBoats_392 (by decide) ?_
      refine lv_iadd X.1 X.2.1 dL_areBoats_393 ?_
      refine x_top (nI_add _ _) ?_
      refine lv_ishl X.1 X.2.1 dL_areBoats_394 ?_
      refine x_top (shl1 (k := (A 1) + 1) (by omega)) ?_
      refine lv_iconst (v := nI 2) X.1 X.2.1 dL_areBoats_395 (by decide) ?_
      refine lv_isub X.1 X.2.1 dL_areBoats_396 ?_
      refine x_top (pk_sub (by omega)) ?_
      refine lv_icmp_ne (tgt := 416) X.1 X.2.1 dL_areBoats_397 (by decide) (fun c11 => ?_) (fun c11 => ?_)
      · exact absurd ((nI_eq (by omega) (by omega)).mpr (by omega)) c11
      · have n12 := (nI_eq (by omega) (by omega)).mp c11
        refine lv_aload_n X.1 X.2.1 dL_areBoats_400 rfl (lv_at hl 4 rfl) ?_
        refine lv_iload_n X.1 X.2.1 dL_areBoats_401 rfl (lv_at hl 3 rfl) ?_
        refine lv_iconst (v := nI 1) X.1 X.2.1 dL_areBoats_402 (by decide) ?_
        refine lv_iadd X.1 X.2.1 dL_areBoats_403 ?_
        refine x_top (nI_add _ _) ?_
        refine x_callV X hK hw (k := 0) (As := [.int (nI ((A 1) + 1))]) (rest := []) (w_ranked hI (by omega) hJ hOB (nI (A 1 + 1)) (fun g t tm pt sm tl hE => a_rkd_no hJ hc hk hE tm pt sm tl)) (x_cwV yX7_ranked cX7_ranked 3 (some .int) 1 X q800 q801 q802 q1 q803 hd_X7_ranked ⟨(Nat.le_of_ble_eq_true rfl), (Nat.le_of_ble_eq_true rfl)⟩) (by omega) hOB.ma rfl rfl hl.1 rfl (Nat.le_of_ble_eq_true rfl) dL_areBoats_404 ⟨(Nat.le_of_ble_eq_true rfl), (Nat.le_of_ble_eq_true rfl)⟩ (fun v13 F14 H locs hp hw => ?_)
        obtain ⟨e15, hO16, hf17⟩ := hp
        refine x_top e15 ?_
        replace hfr := hfr.tr hf17 (by omega) (by omega)
        refine lv_bipush (v := (-5)) X.1 X.2.1 dL_areBoats_407 (by decide) ?_
        refine lv_icmp_ne (tgt := 416) X.1 X.2.1 dL_areBoats_409 (by decide) (fun c18 => ?_) (fun c18 => ?_)
        · exact absurd (by decide) c18
        · refine lv_iconst (v := nI 1) X.1 X.2.1 dL_areBoats_412 (by decide) ?_
          refine lv_goto (tgt := 417) X.1 X.2.1 dL_areBoats_413 (by decide) ?_
          exact x_iret X hr hlk hK hw (v := nI 1) (by first | rfl | exact nr_b _ | decide) (⟨rfl, hO16, hfr⟩) dL_areBoats_417
    have loop17 : ∀ (fu : Nat) (b : Nat) (F1 : Nat → va_E) (hfu : A 1 ≤ b + fu) (hb1 : b ≤ A 1) (hOB : OB ad cI cB cS F1 hs A A3) (hfr : Fr F F1 0 111) (H : Heap) (locs : List Loc) (hw : HW D (Af ad N s.heap.size) ad N F1 s H locs) (ls : Array Slot) (hl : lv_has ls 13 [(1, .int (nI (orN A b))), (4, .int (nI b)), (3, .int (nI (ncl A))), (2, .int (nI (A 1))), (0, .ref (ad 0))]), W p l e { frames := 7, cells := 0, slots := 0, locals := 160 } s m [.ref (ad 0)].toArray below meth c H locs 0 0 (MQ below (va_Qi (fun v F' => v = nI 1 ∧ OB ad cI cB cS F' hs A A3 ∧ Fr F F' 0 111) (fun F' t => PO D ad N F' t) (Af ad N s.heap.size)) [.ref (ad 0)].toArray s 0 0 (Af ad N s.heap.size)) (F0 m 17 ls []) := by
      intro fu
      induction fu with
      | zero =>
        intro b F1 hfu hb1 hOB hfr H locs hw ls hl
        have hob := or_b hJ b (by omega)
        refine lv_iload X.1 X.2.1 dL_areBoats_17 (lv_at hl 1 rfl) ?_
        refine lv_iload_n X.1 X.2.1 dL_areBoats_19 rfl (lv_at hl 3 rfl) ?_
        refine lv_icmp_ge (tgt := 389) X.1 X.2.1 dL_areBoats_20 (by decide) (fun c19 => ?_) (fun c19 => ?_)
        · have n20 := (nI_leI (by omega) (by omega)).mp c19
          exact way17 b F1 hb1 hOB hfr n20 _ _ hw _ (lv_sub hl [0, 1, 2, 3, 4] rfl)
        · exact absurd ((nI_leI (by omega) (by omega)).mpr (by omega)) c19
      | succ fu ih =>
        intro b F1 hfu hb1 hOB hfr H locs hw ls hl
        have hob := or_b hJ b (by omega)
        refine lv_iload X.1 X.2.1 dL_areBoats_17 (lv_at hl 1 rfl) ?_
        refine lv_iload_n X.1 X.2.1 dL_areBoats_19 rfl (lv_at hl 3 rfl) ?_
        refine lv_icmp_ge (tgt := 389) X.1 X.2.1 dL_areBoats_20 (by decide) (fun c21 => ?_) (fun c21 => ?_)
        · have n22 := (nI_leI (by omega) (by omega)).mp c21
          exact way17 b F1 hb1 hOB hfr n22 _ _ hw _ (lv_sub hl [0, 1, 2, 3, 4] rfl)
        · have n23 : ¬ (A 1) ≤ b := fun z => c21 ((nI_leI (by omega) (by omega)).mpr z)
          refine lv_iconst (v := nI 0) X.1 X.2.1 dL_areBoats_23 (by decide) ?_
          refine lv_istore (lv' := [(5, .int (nI 0)), (1, .int (nI (orN A b))), (4, .int (nI b)), (3, .int (nI (ncl A))), (2, .int (nI (A 1))), (0, .ref (ad 0))]) X.1 X.2.1 dL_areBoats_24 hl (by decide) rfl (fun ls hl => ?_)
          refine lv_iconst (v := nI 0) X.1 X.2.1 dL_areBoats_26 (by decide) ?_
          refine lv_istore (lv' := [(6, .int (nI 0)), (5, .int (nI 0)), (1, .int (nI (orN A b))), (4, .int (nI b)), (3, .int (nI (ncl A))), (2, .int (nI (A 1))), (0, .ref (ad 0))]) X.1 X.2.1 dL_areBoats_27 hl (by decide) rfl (fun ls hl => ?_)
          refine lv_iconst (v := nI 0) X.1 X.2.1 dL_areBoats_29 (by decide) ?_
          refine lv_istore (lv' := [(7, .int (nI 0)), (6, .int (nI 0)), (5, .int (nI 0)), (1, .int (nI (orN A b))), (4, .int (nI b)), (3, .int (nI (ncl A))), (2, .int (nI (A 1))), (0, .ref (ad 0))]) X.1 X.2.1 dL_areBoats_30 hl (by decide) rfl (fun ls hl => ?_)
          refine lv_aload_n X.1 X.2.1 dL_areBoats_32 rfl (lv_at hl 7 rfl) ?_
          refine lv_iload X.1 X.2.1 dL_areBoats_33 (lv_at hl 4 rfl) ?_
          refine lv_iconst (v := nI 3) X.1 X.2.1 dL_areBoats_35 (by decide) ?_
          refine x_callV X hK hw (k := 0) (As := [.int (nI b), .int (nI 3)]) (rest := []) (w_boat hI (by omega) hJ hOB (nI b) (nI 3) (fun g t tm pt sm tl hE => (a_boa3 hJ hc hk hE (by omega) tm pt sm tl).trans (if_pos hd))) (x_cwV yX7_boat cX7_boat 3 (some .int) 2 X q755 q756 q757 q1 q758 hd_X7_boat ⟨(Nat.le_of_ble_eq_true rfl), (Nat.le_of_ble_eq_true rfl)⟩) (by omega) hOB.ma rfl rfl hl.1 rfl (Nat.le_of_ble_eq_true rfl) dL_areBoats_36 ⟨(Nat.le_of_ble_eq_true rfl), (Nat.le_of_ble_eq_true rfl)⟩ (fun v24 F25 H locs hp hw => ?_)
          obtain ⟨e26, hO27, hf28⟩ := hp
          refine x_top e26 ?_
          replace hfr := hfr.tr hf28 (by omega) (by omega)
          refine lv_istore (lv' := [(8, .int (nI (loN A b))), (7, .int (nI 0)), (6, .int (nI 0)), (5, .int (nI 0)), (1, .int (nI (orN A b))), (4, .int (nI b)), (3, .int (nI (ncl A))), (2, .int (nI (A 1))), (0, .ref (ad 0))]) X.1 X.2.1 dL_areBoats_39 hl (by decide) rfl (fun ls hl => ?_)
          refine lv_iconst (v := nI 0) X.1 X.2.1 dL_areBoats_41 (by decide) ?_
          refine lv_istore (lv' := [(9, .int (nI 0)), (8, .int (nI (loN A b))), (7, .int (nI 0)), (6, .int (nI 0)), (5, .int (nI 0)), (1, .int (nI (orN A b))), (4, .int (nI b)), (3, .int (nI (ncl A))), (2, .int (nI (A 1))), (0, .ref (ad 0))]) X.1 X.2.1 dL_areBoats_42 hl (by decide) rfl (fun ls hl => ?_)
          have way44 : ∀ (r : Nat) (F2 : Nat → va_E) (hr2 : r ≤ ncl A) (hOC : OB ad cI cB cS F2 hs A A3) (hfr : Fr F F2 0 111) (hx2 : ncl A ≤ r) (H : Heap) (locs : List Loc) (hw : HW D (Af ad N s.heap.size) ad N F2 s H locs) (ls : Array Slot) (hl : lv_has ls 13 [(5, .int (nI (smN A b r))), (6, .int (nI (pfN A b 1 r))), (7, .int (nI (mxN A b r))), (9, .int (nI r)), (8, .int (nI (loN A b))), (1, .int (nI (orN A b))), (4, .int (nI b)), (3, .int (nI (ncl A))), (2, .int (nI (A 1))), (0, .ref (ad 0))]), W p l e { frames := 7, cells := 0, slots := 0, locals := 160 } s m [.ref (ad 0)].toArray below meth c H locs 0 0 (MQ below (va_Qi (fun v F' => v = nI 1 ∧ OB ad cI cB cS F' hs A A3 ∧ Fr F F' 0 111) (fun F' t => PO D ad N F' t) (Af ad N s.heap.size)) [.ref (ad 0)].toArray s 0 0 (Af ad N s.heap.size)) (F0 m 115 ls []) := by
            intro r F2 hr2 hOC hfr hx2 H locs hw ls hl
            have era : r = ncl A := by omega
            subst era
            have hmx2 := (mx_le (A := A) (b := b) (ncl A)).2.1
            have hsm := (sum_n hJ hc hk (b := b) (by omega) (ncl A) ncl_le).2
            have hpf := (pof_n hJ hc hk (b := b) (w := 1) (by omega) (by omega) (ncl A) ncl_le).2
            have hrk := rkN_b hJ (b := b) (by omega)
            have hto := (tot_n hJ hc hk (b := b) (by omega)).2
            obtain ⟨lo1, lo2, lo3, lo4⟩ := lo_n hJ hc hk (b := b) (by omega) hd
            have hml : mxN A b (ncl A) = ptN A (loN A b) b := by
                have h1 := (mx_le (A := A) (b := b) (ncl A)).1 (loN A b) lo2
                rcases (mx_le (A := A) (b := b) (ncl A)).2.2 with h | ⟨i, h, e⟩
                · omega
                · have := lo3 i h; omega
            have htN : toN A b = smN A b (ncl A) - ptN A (loN A b) b := by unfold toN; rw [if_pos hd]
            have hlb := lo_b hJ (b := b) (r := loN A b) (by omega) (by omega)
            refine lv_aload_n X.1 X.2.1 dL_areBoats_115 rfl (lv_at hl 9 rfl) ?_
            refine lv_bipush (v := nI 8) X.1 X.2.1 dL_areBoats_116 (by decide) ?_
            refine x_callV X hK hw (k := 0) (As := [.int (nI 8)]) (rest := []) (w_count hI (by omega) hOC (nI 8) (fun g t z n hE => a_cou8 hJ hc hk hE z n)) (x_cwV yX7_count cX7_count 2 (some .int) 1 X q818 q819 q820 q1 q821 hd_X7_count ⟨(Nat.le_of_ble_eq_true rfl), (Nat.le_of_ble_eq_true rfl)⟩) (by omega) hOC.ma rfl rfl hl.1 rfl (Nat.le_of_ble_eq_true rfl) dL_areBoats_118 ⟨(Nat.le_of_ble_eq_true rfl), (Nat.le_of_ble_eq_true rfl)⟩ (fun v29 F30 H locs hp hw => ?_)
            obtain ⟨e31, hO32, hf33⟩ := hp
            refine x_top e31 ?_
            replace hfr := hfr.tr hf33 (by omega) (by omega)
            refine lv_if_le (tgt := 138) X.1 X.2.1 dL_areBoats_121 (by decide) (fun c34 => ?_) (fun c34 => ?_)
            · exact absurd ((bz_le (by omega)).mp c34) (by omega)
            · have n35 : ¬ (A 6) ≤ 0 := fun z => c34 ((bz_le (by omega)).mpr z)
              refine lv_iload_n X.1 X.2.1 dL_areBoats_124 rfl (lv_at hl 7 rfl) ?_
              refine lv_aload_n X.1 X.2.1 dL_areBoats_125 rfl (lv_at hl 9 rfl) ?_
              refine lv_bipush (v := nI 8) X.1 X.2.1 dL_areBoats_126 (by decide) ?_
              refine x_callV X hK hw (k := 0) (As := [.int (nI 8)]) (rest := [.int (nI (ncl A))]) (w_count hI (by omega) hO32 (nI 8) (fun g t z n hE => a_cou8 hJ hc hk hE z n)) (x_cwV yX7_count cX7_count 2 (some .int) 1 X q818 q819 q820 q1 q821 hd_X7_count ⟨(Nat.le_of_ble_eq_true rfl), (Nat.le_of_ble_eq_true rfl)⟩) (by omega) hO32.ma rfl rfl hl.1 rfl (Nat.le_of_ble_eq_true rfl) dL_areBoats_128 ⟨(Nat.le_of_ble_eq_true rfl), (Nat.le_of_ble_eq_true rfl)⟩ (fun v36 F37 H locs hp hw => ?_)
              obtain ⟨e38, hO39, hf40⟩ := hp
              refine x_top e38 ?_
              replace hfr := hfr.tr hf40 (by omega) (by omega)
              refine lv_icmp_lt (tgt := 138) X.1 X.2.1 dL_areBoats_131 (by decide) (fun c41 => ?_) (fun c41 => ?_)
              · exact absurd ((br_lt (by omega) (by omega)).mp c41) (by omega)
              · have n42 : ¬ (ncl A) < (A 6) := fun z => c41 ((br_lt (by omega) (by omega)).mpr z)
                refine lv_iconst (v := nI 1) X.1 X.2.1 dL_areBoats_134 (by decide) ?_
                refine lv_goto (tgt := 139) X.1 X.2.1 dL_areBoats_135 (by decide) ?_
                refine lv_istore (lv' := [(9, .int (nI 1)), (5, .int (nI (smN A b (ncl A)))), (6, .int (nI (pfN A b 1 (ncl A)))), (7, .int (nI (mxN A b (ncl A)))), (8, .int (nI (loN A b))), (1, .int (nI (orN A b))), (4, .int (nI b)), (3, .int (nI (ncl A))), (2, .int (nI (A 1))), (0, .ref (ad 0))]) X.1 X.2.1 dL_areBoats_139 hl (by decide) rfl (fun ls hl => ?_)
                refine lv_aload_n X.1 X.2.1 dL_areBoats_141 rfl (lv_at hl 9 rfl) ?_
                refine lv_iload X.1 X.2.1 dL_areBoats_142 (lv_at hl 6 rfl) ?_
                refine lv_iconst (v := nI 2) X.1 X.2.1 dL_areBoats_144 (by decide) ?_
                refine x_callV X hK hw (k := 0) (As := [.int (nI b), .int (nI 2)]) (rest := []) (w_boat hI (by omega) hJ hO39 (nI b) (nI 2) (fun g t tm pt sm tl hE => a_boa2 hJ hc hk hE (by omega) tm pt sm tl)) (x_cwV yX7_boat cX7_boat 3 (some .int) 2 X q755 q756 q757 q1 q758 hd_X7_boat ⟨(Nat.le_of_ble_eq_true rfl), (Nat.le_of_ble_eq_true rfl)⟩) (by omega) hO39.ma rfl rfl hl.1 rfl (Nat.le_of_ble_eq_true rfl) dL_areBoats_145 ⟨(Nat.le_of_ble_eq_true rfl), (Nat.le_of_ble_eq_true rfl)⟩ (fun v43 F44 H locs hp hw => ?_)
                obtain ⟨e45, hO46, hf47⟩ := hp
                refine x_top e45 ?_
                replace hfr := hfr.tr hf47 (by omega) (by omega)
                refine lv_istore (lv' := [(10, .int (nI (rkN A b))), (9, .int (nI 1)), (5, .int (nI (smN A b (ncl A)))), (6, .int (nI (pfN A b 1 (ncl A)))), (7, .int (nI (mxN A b (ncl A)))), (8, .int (nI (loN A b))), (1, .int (nI (orN A b))), (4, .int (nI b)), (3, .int (nI (ncl A))), (2, .int (nI (A 1))), (0, .ref (ad 0))]) X.1 X.2.1 dL_areBoats_148 hl (by decide) rfl (fun ls hl => ?_)
                refine lv_iload_n X.1 X.2.1 dL_areBoats_150 rfl (lv_at hl 6 rfl) ?_
                refine lv_iconst (v := nI 1) X.1 X.2.1 dL_areBoats_151 (by decide) ?_
                refine lv_iload X.1 X.2.1 dL_areBoats_152 (lv_at hl 0 rfl) ?_
                refine lv_ishl X.1 X.2.1 dL_areBoats_154 ?_
                refine x_top (shl1 (k := rkN A b) (by omega)) ?_
                refine lv_ior X.1 X.2.1 dL_areBoats_155 ?_
                refine x_top (or_nI _ _) ?_
                refine x_top (y := nI (orN A (b + 1))) rfl ?_
                refine lv_istore_n (lv' := [(1, .int (nI (orN A (b + 1)))), (10, .int (nI (rkN A b))), (9, .int (nI 1)), (5, .int (nI (smN A b (ncl A)))), (6, .int (nI (pfN A b 1 (ncl A)))), (7, .int (nI (mxN A b (ncl A)))), (8, .int (nI (loN A b))), (4, .int (nI b)), (3, .int (nI (ncl A))), (2, .int (nI (A 1))), (0, .ref (ad 0))]) X.1 X.2.1 dL_areBoats_156 rfl hl (by decide) rfl (fun ls hl => ?_)
                refine lv_iload X.1 X.2.1 dL_areBoats_157 (lv_at hl 6 rfl) ?_
                refine lv_if_lt (tgt := 166) X.1 X.2.1 dL_areBoats_159 (by decide) (fun c48 => ?_) (fun c48 => ?_)
                · exact absurd ((bz_lt (by omega)).mp c48) (by omega)
                · have n49 : ¬ (loN A b) < 0 := fun z => c48 ((bz_lt (by omega)).mpr z)
                  refine lv_iconst (v := nI 1) X.1 X.2.1 dL_areBoats_162 (by decide) ?_
                  refine lv_goto (tgt := 167) X.1 X.2.1 dL_areBoats_163 (by decide) ?_
                  refine lv_iload X.1 X.2.1 dL_areBoats_167 (lv_at hl 2 rfl) ?_
                  refine lv_icmp_ne (tgt := 267) X.1 X.2.1 dL_areBoats_169 (by decide) (fun c50 => ?_) (fun c50 => ?_)
                  · exact absurd (by decide) c50
                  · refine lv_aload_n X.1 X.2.1 dL_areBoats_172 rfl (lv_at hl 10 rfl) ?_
                    refine lv_iload X.1 X.2.1 dL_areBoats_173 (lv_at hl 7 rfl) ?_
                    refine lv_iconst (v := nI 1) X.1 X.2.1 dL_areBoats_175 (by decide) ?_
                    refine x_callV X hK hw (k := 0) (As := [.int (nI b), .int (nI 1)]) (rest := []) (w_boat hI (by omega) hJ hO46 (nI b) (nI 1) (fun g t tm pt sm tl hE => a_boa1 hJ hc hk hE (by omega) tm pt sm tl)) (x_cwV yX7_boat cX7_boat 3 (some .int) 2 X q755 q756 q757 q1 q758 hd_X7_boat ⟨(Nat.le_of_ble_eq_true rfl), (Nat.le_of_ble_eq_true rfl)⟩) (by omega) hO46.ma rfl rfl hl.1 rfl (Nat.le_of_ble_eq_true rfl) dL_areBoats_176 ⟨(Nat.le_of_ble_eq_true rfl), (Nat.le_of_ble_eq_true rfl)⟩ (fun v51 F52 H locs hp hw => ?_)
                    obtain ⟨e53, hO54, hf55⟩ := hp
                    refine x_top e53 ?_
                    replace hfr := hfr.tr hf55 (by omega) (by omega)
                    refine lv_iload X.1 X.2.1 dL_areBoats_179 (lv_at hl 3 rfl) ?_
                    refine lv_iload X.1 X.2.1 dL_areBoats_181 (lv_at hl 2 rfl) ?_
                    refine lv_if_eq (tgt := 191) X.1 X.2.1 dL_areBoats_183 (by decide) (fun c56 => ?_) (fun c56 => ?_)
                    · exact absurd c56 (by decide)
                    · refine lv_iload X.1 X.2.1 dL_areBoats_186 (lv_at hl 5 rfl) ?_
                      refine lv_goto (tgt := 192) X.1 X.2.1 dL_areBoats_188 (by decide) ?_
                      refine lv_isub X.1 X.2.1 dL_areBoats_192 ?_
                      refine x_top (pk_sub (by omega)) ?_
                      refine lv_icmp_ne (tgt := 267) X.1 X.2.1 dL_areBoats_193 (by decide) (fun c57 => ?_) (fun c57 => ?_)
                      · exact absurd ((nI_eq (by omega) (by omega)).mpr (by omega)) c57
                      · have n58 := (nI_eq (by omega) (by omega)).mp c57
                        refine lv_iload X.1 X.2.1 dL_areBoats_196 (lv_at hl 2 rfl) ?_
                        refine lv_if_eq (tgt := 216) X.1 X.2.1 dL_areBoats_198 (by decide) (fun c59 => ?_) (fun c59 => ?_)
                        · exact absurd c59 (by decide)
                        · have hnl : rA A (loN A b) 3 = 1 := by rcases ncl_r hJ (r := loN A b) (by omega) with h | h <;> omega
                          refine lv_aload_n X.1 X.2.1 dL_areBoats_201 rfl (lv_at hl 10 rfl) ?_
                          refine lv_iload X.1 X.2.1 dL_areBoats_202 (lv_at hl 6 rfl) ?_
                          refine lv_iload X.1 X.2.1 dL_areBoats_204 (lv_at hl 7 rfl) ?_
                          refine lv_bipush (v := nI 8) X.1 X.2.1 dL_areBoats_206 (by decide) ?_
                          refine x_callV X hK hw (k := 0) (As := [.int (nI (loN A b)), .int (nI b), .int (nI 8)]) (rest := []) (w_result hI (by omega) hJ.1.1 hO54 (nI (loN A b)) (nI b) (nI 8) (fun g t tm hE => ((a_res8 hJ hc hk hE (by omega) (by omega) tm).trans (if_pos (by omega))).trans (pts_n hJ hc hk (by omega) (by omega)))) (x_cwV yX7_result cX7_result 4 (some .int) 3 X q695 q696 q697 q1 q698 hd_X7_result ⟨(Nat.le_of_ble_eq_true rfl), (Nat.le_of_ble_eq_true rfl)⟩) (by omega) hO54.ma rfl rfl hl.1 rfl (Nat.le_of_ble_eq_true rfl) dL_areBoats_208 ⟨(Nat.le_of_ble_eq_true rfl), (Nat.le_of_ble_eq_true rfl)⟩ (fun v60 F61 H locs hp hw => ?_)
                          obtain ⟨e62, hO63, hf64⟩ := hp
                          refine x_top e62 ?_
                          replace hfr := hfr.tr hf64 (by omega) (by omega)
                          refine lv_iload X.1 X.2.1 dL_areBoats_211 (lv_at hl 5 rfl) ?_
                          refine lv_icmp_ne (tgt := 267) X.1 X.2.1 dL_areBoats_213 (by decide) (fun c65 => ?_) (fun c65 => ?_)
                          · exact absurd ((nI_eq (by omega) (by omega)).mpr (by omega)) c65
                          · have n66 := (nI_eq (by omega) (by omega)).mp c65
                            refine lv_aload_n X.1 X.2.1 dL_areBoats_216 rfl (lv_at hl 10 rfl) ?_
                            refine lv_iload X.1 X.2.1 dL_areBoats_217 (lv_at hl 7 rfl) ?_
                            refine lv_iconst (v := nI 4) X.1 X.2.1 dL_areBoats_219 (by decide) ?_
                            refine x_callV X hK hw (k := 0) (As := [.int (nI b), .int (nI 4)]) (rest := []) (w_boat hI (by omega) hJ hO63 (nI b) (nI 4) (fun g t tm pt sm tl hE => a_boa4 hJ hc hk hE (by omega) tm pt sm tl)) (x_cwV yX7_boat cX7_boat 3 (some .int) 2 X q755 q756 q757 q1 q758 hd_X7_boat ⟨(Nat.le_of_ble_eq_true rfl), (Nat.le_of_ble_eq_true rfl)⟩) (by omega) hO63.ma rfl rfl hl.1 rfl (Nat.le_of_ble_eq_true rfl) dL_areBoats_220 ⟨(Nat.le_of_ble_eq_true rfl), (Nat.le_of_ble_eq_true rfl)⟩ (fun v67 F68 H locs hp hw => ?_)
                            obtain ⟨e69, hO70, hf71⟩ := hp
                            refine x_top e69 ?_
                            replace hfr := hfr.tr hf71 (by omega) (by omega)
                            refine lv_iload X.1 X.2.1 dL_areBoats_223 (lv_at hl 4 rfl) ?_
                            refine lv_icmp_ne (tgt := 267) X.1 X.2.1 dL_areBoats_225 (by decide) (fun c72 => ?_) (fun c72 => ?_)
                            · exact absurd ((nI_eq (by omega) (by omega)).mpr (by omega)) c72
                            · have n73 := (nI_eq (by omega) (by omega)).mp c72
                              refine lv_aload_n X.1 X.2.1 dL_areBoats_228 rfl (lv_at hl 10 rfl) ?_
                              refine lv_iload X.1 X.2.1 dL_areBoats_229 (lv_at hl 1 rfl) ?_
                              refine x_callV X hK hw (k := 0) (As := [.int (nI (rkN A b))]) (rest := []) (w_ranked hI (by omega) hJ hO70 (nI (rkN A b)) (fun g t tm pt sm tl hE => a_rkd hJ hc hk hE (k := rkN A b) (b := b) (by omega) (by omega) ⟨by omega, rfl⟩ tm pt sm tl)) (x_cwV yX7_ranked cX7_ranked 3 (some .int) 1 X q800 q801 q802 q1 q803 hd_X7_ranked ⟨(Nat.le_of_ble_eq_true rfl), (Nat.le_of_ble_eq_true rfl)⟩) (by omega) hO70.ma rfl rfl hl.1 rfl (Nat.le_of_ble_eq_true rfl) dL_areBoats_231 ⟨(Nat.le_of_ble_eq_true rfl), (Nat.le_of_ble_eq_true rfl)⟩ (fun v74 F75 H locs hp hw => ?_)
                              obtain ⟨e76, hO77, hf78⟩ := hp
                              refine x_top e76 ?_
                              replace hfr := hfr.tr hf78 (by omega) (by omega)
                              refine lv_iload X.1 X.2.1 dL_areBoats_234 (lv_at hl 7 rfl) ?_
                              refine lv_icmp_ne (tgt := 267) X.1 X.2.1 dL_areBoats_236 (by decide) (fun c79 => ?_) (fun c79 => ?_)
                              · exact absurd ((nI_eq (by omega) (by omega)).mpr (by omega)) c79
                              · have n80 := (nI_eq (by omega) (by omega)).mp c79
                                have hz0 : ¬ ncl A = 0 := by omega
                                refine lv_aload_n X.1 X.2.1 dL_areBoats_239 rfl (lv_at hl 10 rfl) ?_
                                refine lv_iload X.1 X.2.1 dL_areBoats_240 (lv_at hl 7 rfl) ?_
                                refine x_callVf X hK hw (k := 0) (As := [.int (nI b)]) (rest := []) (w_mean hI (by omega) hJ hc hk hO77 (b := b) (by omega)) (x_cwV yX7_mean cX7_mean 3 (some .float) 1 X q854 q855 q856 q1 q857 hd_X7_mean ⟨(Nat.le_of_ble_eq_true rfl), (Nat.le_of_ble_eq_true rfl)⟩) (by omega) hO77.ma rfl rfl hl.1 rfl (Nat.le_of_ble_eq_true rfl) dL_areBoats_242 ⟨(Nat.le_of_ble_eq_true rfl), (Nat.le_of_ble_eq_true rfl)⟩ (fun v81 F82 H locs hp hw => ?_)
                                obtain ⟨e83, hO84, hf85⟩ := hp
                                rw [e83]
                                replace hfr := hfr.tr hf85 (by omega) (by omega)
                                rw [if_neg hz0]
                                refine lv_iload_n X.1 X.2.1 dL_areBoats_245 rfl (lv_at hl 8 rfl) ?_
                                refine lv_if_ne (tgt := 253) X.1 X.2.1 dL_areBoats_246 (by decide) (fun c86 => ?_) (fun c86 => ?_)
                                · have n87 : ¬ (ncl A) = 0 := fun z => c86 ((bz_eq (by omega)).mpr z)
                                  refine lv_iload X.1 X.2.1 dL_areBoats_253 (lv_at hl 3 rfl) ?_
                                  refine lv_i2f X.1 X.2.1 dL_areBoats_255 ?_
                                  refine lv_iload_n X.1 X.2.1 dL_areBoats_256 rfl (lv_at hl 8 rfl) ?_
                                  refine lv_i2f X.1 X.2.1 dL_areBoats_257 ?_
                                  refine lv_fdiv X.1 X.2.1 dL_areBoats_258 (mn_ok (a := smN A b (ncl A)) (c := ncl A) (by omega) (by omega) (by omega)).1 ?_
                                  refine lv_fcmp X.1 X.2.1 dL_areBoats_259 ?_
                                  refine x_top (mn_fc (a := smN A b (ncl A)) (c := ncl A) (by omega) (by omega) (by omega)) ?_
                                  refine lv_if_ne (tgt := 267) X.1 X.2.1 dL_areBoats_260 (by decide) (fun c88 => ?_) (fun c88 => ?_)
                                  · exact absurd (by decide) c88
                                  · refine lv_iconst (v := nI 1) X.1 X.2.1 dL_areBoats_263 (by decide) ?_
                                    refine lv_goto (tgt := 268) X.1 X.2.1 dL_areBoats_264 (by decide) ?_
                                    refine lv_istore (lv' := [(11, .int (nI 1)), (1, .int (nI (orN A (b + 1)))), (10, .int (nI (rkN A b))), (9, .int (nI 1)), (5, .int (nI (smN A b (ncl A)))), (6, .int (nI (pfN A b 1 (ncl A)))), (7, .int (nI (mxN A b (ncl A)))), (8, .int (nI (loN A b))), (4, .int (nI b)), (3, .int (nI (ncl A))), (2, .int (nI (A 1))), (0, .ref (ad 0))]) X.1 X.2.1 dL_areBoats_268 hl (by decide) rfl (fun ls hl => ?_)
                                    refine lv_iload X.1 X.2.1 dL_areBoats_270 (lv_at hl 7 rfl) ?_
                                    refine lv_iconst (v := nI 1) X.1 X.2.1 dL_areBoats_272 (by decide) ?_
                                    refine lv_iadd X.1 X.2.1 dL_areBoats_273 ?_
                                    refine x_top (nI_add _ _) ?_
                                    refine lv_istore (lv' := [(12, .int (nI ((loN A b) + 1))), (11, .int (nI 1)), (1, .int (nI (orN A (b + 1)))), (10, .int (nI (rkN A b))), (9, .int (nI 1)), (5, .int (nI (smN A b (ncl A)))), (6, .int (nI (pfN A b 1 (ncl A)))), (7, .int (nI (mxN A b (ncl A)))), (8, .int (nI (loN A b))), (4, .int (nI b)), (3, .int (nI (ncl A))), (2, .int (nI (A 1))), (0, .ref (ad 0))]) X.1 X.2.1 dL_areBoats_274 hl (by decide) rfl (fun ls hl => ?_)
                                    have way276 : ∀ (i : Nat) (F3 : Nat → va_E) (hi3 : loN A b < i ∧ i ≤ ncl A) (hOD : OB ad cI cB cS F3 hs A A3) (hfr : Fr F F3 0 111) (hx3 : ncl A ≤ i) (H : Heap) (locs : List Loc) (hw : HW D (Af ad N s.heap.size) ad N F3 s H locs) (ls : Array Slot) (hl : lv_has ls 13 [(12, .int (nI i)), (11, .int (nI 1)), (1, .int (nI (orN A (b + 1)))), (10, .int (nI (rkN A b))), (9, .int (nI 1)), (5, .int (nI (smN A b (ncl A)))), (6, .int (nI (pfN A b 1 (ncl A)))), (7, .int (nI (mxN A b (ncl A)))), (8, .int (nI (loN A b))), (4, .int (nI b)), (3, .int (nI (ncl A))), (2, .int (nI (A 1))), (0, .ref (ad 0))]), W p l e { frames := 7, cells := 0, slots := 0, locals := 160 } s m [.ref (ad 0)].toArray below meth c H locs 0 0 (MQ below (va_Qi (fun v F' => v = nI 1 ∧ OB ad cI cB cS F' hs A A3 ∧ Fr F F' 0 111) (fun F' t => PO D ad N F' t) (Af ad N s.heap.size)) [.ref (ad 0)].toArray s 0 0 (Af ad N s.heap.size)) (F0 m 320 ls []) := by
                                      intro i F3 hi3 hOD hfr hx3 H locs hw ls hl
                                      refine lv_iconst (v := nI 0) X.1 X.2.1 dL_areBoats_320 (by decide) ?_
                                      refine lv_istore (lv' := [(12, .int (nI 0)), (11, .int (nI 1)), (1, .int (nI (orN A (b + 1)))), (10, .int (nI (rkN A b))), (9, .int (nI 1)), (5, .int (nI (smN A b (ncl A)))), (6, .int (nI (pfN A b 1 (ncl A)))), (7, .int (nI (mxN A b (ncl A)))), (8, .int (nI (loN A b))), (4, .int (nI b)), (3, .int (nI (ncl A))), (2, .int (nI (A 1))), (0, .ref (ad 0))]) X.1 X.2.1 dL_areBoats_321 hl (by decide) rfl (fun ls hl => ?_)
                                      have way323 : ∀ (k : Nat) (F4 : Nat → va_E) (hk4 : k ≤ A 1) (hOE : OB ad cI cB cS F4 hs A A3) (hfr : Fr F F4 0 111) (hx4 : True) (H : Heap) (locs : List Loc) (hw : HW D (Af ad N s.heap.size) ad N F4 s H locs) (ls : Array Slot) (hl : lv_has ls 13 [(12, .int (nI k)), (11, .int (nI 1)), (1, .int (nI (orN A (b + 1)))), (10, .int (nI (rkN A b))), (9, .int (nI 1)), (5, .int (nI (smN A b (ncl A)))), (6, .int (nI (pfN A b 1 (ncl A)))), (7, .int (nI (mxN A b (ncl A)))), (8, .int (nI (loN A b))), (4, .int (nI b)), (3, .int (nI (ncl A))), (2, .int (nI (A 1))), (0, .ref (ad 0))]), W p l e { frames := 7, cells := 0, slots := 0, locals := 160 } s m [.ref (ad 0)].toArray below meth c H locs 0 0 (MQ below (va_Qi (fun v F' => v = nI 1 ∧ OB ad cI cB cS F' hs A A3 ∧ Fr F F' 0 111) (fun F' t => PO D ad N F' t) (Af ad N s.heap.size)) [.ref (ad 0)].toArray s 0 0 (Af ad N s.heap.size)) (F0 m 376 ls []) := by
                                        intro k F4 hk4 hOE hfr hx4 H locs hw ls hl
                                        refine lv_iload X.1 X.2.1 dL_areBoats_376 (lv_at hl 1 rfl) ?_
                                        refine lv_if_ne (tgt := 383) X.1 X.2.1 dL_areBoats_378 (by decide) (fun c89 => ?_) (fun c89 => ?_)
                                        · refine lv_iinc (v := nI (b + 1)) (lv' := [(4, .int (nI (b + 1))), (12, .int (nI k)), (11, .int (nI 1)), (1, .int (nI (orN A (b + 1)))), (10, .int (nI (rkN A b))), (9, .int (nI 1)), (5, .int (nI (smN A b (ncl A)))), (6, .int (nI (pfN A b 1 (ncl A)))), (7, .int (nI (mxN A b (ncl A)))), (8, .int (nI (loN A b))), (3, .int (nI (ncl A))), (2, .int (nI (A 1))), (0, .ref (ad 0))]) X.1 X.2.1 dL_areBoats_383 hl (k := 9) rfl (by first | exact nI_1 _ | exact nI_add _ _ | rfl) (by decide) rfl (fun ls hl => ?_)
                                          refine lv_goto (tgt := 17) X.1 X.2.1 dL_areBoats_386 (by decide) ?_
                                          exact ih (b + 1) F4 (by omega) (by omega) hOE hfr _ _ hw _ (lv_sub hl [3, 0, 10, 11, 12] rfl)
                                        · exact absurd c89 (by decide)
                                      have loop323 : ∀ (fu4 : Nat) (k : Nat) (F4 : Nat → va_E) (hfu4 : A 1 ≤ k + fu4) (hk4 : k ≤ A 1) (hOE : OB ad cI cB cS F4 hs A A3) (hfr : Fr F F4 0 111) (H : Heap) (locs : List Loc) (hw : HW D (Af ad N s.heap.size) ad N F4 s H locs) (ls : Array Slot) (hl : lv_has ls 13 [(12, .int (nI k)), (11, .int (nI 1)), (1, .int (nI (orN A (b + 1)))), (10, .int (nI (rkN A b))), (9, .int (nI 1)), (5, .int (nI (smN A b (ncl A)))), (6, .int (nI (pfN A b 1 (ncl A)))), (7, .int (nI (mxN A b (ncl A)))), (8, .int (nI (loN A b))), (4, .int (nI b)), (3, .int (nI (ncl A))), (2, .int (nI (A 1))), (0, .ref (ad 0))]), W p l e { frames := 7, cells := 0, slots := 0, locals := 160 } s m [.ref (ad 0)].toArray below meth c H locs 0 0 (MQ below (va_Qi (fun v F' => v = nI 1 ∧ OB ad cI cB cS F' hs A A3 ∧ Fr F F' 0 111) (fun F' t => PO D ad N F' t) (Af ad N s.heap.size)) [.ref (ad 0)].toArray s 0 0 (Af ad N s.heap.size)) (F0 m 323 ls []) := by
                                        intro fu4
                                        induction fu4 with
                                        | zero =>
                                          intro k F4 hfu4 hk4 hOE hfr H locs hw ls hl
                                          refine lv_iload X.1 X.2.1 dL_areBoats_323 (lv_at hl 0 rfl) ?_
                                          refine lv_iload_n X.1 X.2.1 dL_areBoats_325 rfl (lv_at hl 11 rfl) ?_
                                          refine lv_icmp_ge (tgt := 376) X.1 X.2.1 dL_areBoats_326 (by decide) (fun c90 => ?_) (fun c90 => ?_)
                                          · have n91 := (nI_leI (by omega) (by omega)).mp c90
                                            exact way323 k F4 hk4 hOE hfr trivial _ _ hw _ (lv_sub hl [0, 1, 2, 3, 4, 5, 6, 7, 8, 9, 10, 11, 12] rfl)
                                          · exact absurd ((nI_leI (by omega) (by omega)).mpr (by omega)) c90
                                        | succ fu4 ih4 =>
                                          intro k F4 hfu4 hk4 hOE hfr H locs hw ls hl
                                          refine lv_iload X.1 X.2.1 dL_areBoats_323 (lv_at hl 0 rfl) ?_
                                          refine lv_iload_n X.1 X.2.1 dL_areBoats_325 rfl (lv_at hl 11 rfl) ?_
                                          refine lv_icmp_ge (tgt := 376) X.1 X.2.1 dL_areBoats_326 (by decide) (fun c92 => ?_) (fun c92 => ?_)
                                          · have n93 := (nI_leI (by omega) (by omega)).mp c92
                                            exact way323 k F4 hk4 hOE hfr trivial _ _ hw _ (lv_sub hl [0, 1, 2, 3, 4, 5, 6, 7, 8, 9, 10, 11, 12] rfl)
                                          · have n94 : ¬ (A 1) ≤ k := fun z => c92 ((nI_leI (by omega) (by omega)).mpr z)
                                            refine lv_iload X.1 X.2.1 dL_areBoats_329 (lv_at hl 1 rfl) ?_
                                            refine lv_if_eq (tgt := 376) X.1 X.2.1 dL_areBoats_331 (by decide) (fun c95 => ?_) (fun c95 => ?_)
                                            · exact absurd c95 (by decide)
                                            · have hrk2 := rkN_b hJ (b := k) (by omega)
                                              have hto2 := (tot_n hJ hc hk (b := k) (by omega)).2
                                              have hlt2 : toN A k < toN A b → rkN A k < rkN A b := fun q => rkN_lt hJ hc hk (by omega) (by omega) q
                                              refine lv_aload_n X.1 X.2.1 dL_areBoats_334 rfl (lv_at hl 12 rfl) ?_
                                              refine lv_iload X.1 X.2.1 dL_areBoats_335 (lv_at hl 0 rfl) ?_
                                              refine lv_iconst (v := nI 1) X.1 X.2.1 dL_areBoats_337 (by decide) ?_
                                              refine x_callV X hK hw (k := 0) (As := [.int (nI k), .int (nI 1)]) (rest := []) (w_boat hI (by omega) hJ hOE (nI k) (nI 1) (fun g t tm pt sm tl hE => a_boa1 hJ hc hk hE (by omega) tm pt sm tl)) (x_cwV yX7_boat cX7_boat 3 (some .int) 2 X q755 q756 q757 q1 q758 hd_X7_boat ⟨(Nat.le_of_ble_eq_true rfl), (Nat.le_of_ble_eq_true rfl)⟩) (by omega) hOE.ma rfl rfl hl.1 rfl (Nat.le_of_ble_eq_true rfl) dL_areBoats_338 ⟨(Nat.le_of_ble_eq_true rfl), (Nat.le_of_ble_eq_true rfl)⟩ (fun v96 F97 H locs hp hw => ?_)
                                              obtain ⟨e98, hO99, hf100⟩ := hp
                                              refine x_top e98 ?_
                                              replace hfr := hfr.tr hf100 (by omega) (by omega)
                                              refine lv_aload_n X.1 X.2.1 dL_areBoats_341 rfl (lv_at hl 12 rfl) ?_
                                              refine lv_iload X.1 X.2.1 dL_areBoats_342 (lv_at hl 9 rfl) ?_
                                              refine lv_iconst (v := nI 1) X.1 X.2.1 dL_areBoats_344 (by decide) ?_
                                              refine x_callV X hK hw (k := 0) (As := [.int (nI b), .int (nI 1)]) (rest := [.int (nI (toN A k))]) (w_boat hI (by omega) hJ hO99 (nI b) (nI 1) (fun g t tm pt sm tl hE => a_boa1 hJ hc hk hE (by omega) tm pt sm tl)) (x_cwV yX7_boat cX7_boat 3 (some .int) 2 X q755 q756 q757 q1 q758 hd_X7_boat ⟨(Nat.le_of_ble_eq_true rfl), (Nat.le_of_ble_eq_true rfl)⟩) (by omega) hO99.ma rfl rfl hl.1 rfl (Nat.le_of_ble_eq_true rfl) dL_areBoats_345 ⟨(Nat.le_of_ble_eq_true rfl), (Nat.le_of_ble_eq_true rfl)⟩ (fun v101 F102 H locs hp hw => ?_)
                                              obtain ⟨e103, hO104, hf105⟩ := hp
                                              refine x_top e103 ?_
                                              replace hfr := hfr.tr hf105 (by omega) (by omega)
                                              refine lv_icmp_ge (tgt := 363) X.1 X.2.1 dL_areBoats_348 (by decide) (fun c106 => ?_) (fun c106 => ?_)
                                              · have n107 := (nI_leI (by omega) (by omega)).mp c106
                                                refine lv_iconst (v := nI 1) X.1 X.2.1 dL_areBoats_363 (by decide) ?_
                                                refine lv_goto (tgt := 368) X.1 X.2.1 dL_areBoats_364 (by decide) ?_
                                                refine lv_istore (lv' := [(11, .int (nI 1)), (12, .int (nI k)), (1, .int (nI (orN A (b + 1)))), (10, .int (nI (rkN A b))), (9, .int (nI 1)), (5, .int (nI (smN A b (ncl A)))), (6, .int (nI (pfN A b 1 (ncl A)))), (7, .int (nI (mxN A b (ncl A)))), (8, .int (nI (loN A b))), (4, .int (nI b)), (3, .int (nI (ncl A))), (2, .int (nI (A 1))), (0, .ref (ad 0))]) X.1 X.2.1 dL_areBoats_368 hl (by decide) rfl (fun ls hl => ?_)
                                                refine lv_iinc (v := nI (k + 1)) (lv' := [(12, .int (nI (k + 1))), (11, .int (nI 1)), (1, .int (nI (orN A (b + 1)))), (10, .int (nI (rkN A b))), (9, .int (nI 1)), (5, .int (nI (smN A b (ncl A)))), (6, .int (nI (pfN A b 1 (ncl A)))), (7, .int (nI (mxN A b (ncl A)))), (8, .int (nI (loN A b))), (4, .int (nI b)), (3, .int (nI (ncl A))), (2, .int (nI (A 1))), (0, .ref (ad 0))]) X.1 X.2.1 dL_areBoats_370 hl (k := 1) rfl (by first | exact nI_1 _ | exact nI_add _ _ | rfl) (by decide) rfl (fun ls hl => ?_)
                                                refine lv_goto (tgt := 323) X.1 X.2.1 dL_areBoats_373 (by decide) ?_
                                                exact ih4 (k + 1) F102 (by omega) (by omega) hO104 hfr _ _ hw _ (lv_sub hl [0, 1, 2, 3, 4, 5, 6, 7, 8, 9, 10, 11, 12] rfl)
                                              · have n108 : ¬ (toN A b) ≤ (toN A k) := fun z => c106 ((nI_leI (by omega) (by omega)).mpr z)
                                                refine lv_aload_n X.1 X.2.1 dL_areBoats_351 rfl (lv_at hl 12 rfl) ?_
                                                refine lv_iload X.1 X.2.1 dL_areBoats_352 (lv_at hl 0 rfl) ?_
                                                refine lv_iconst (v := nI 2) X.1 X.2.1 dL_areBoats_354 (by decide) ?_
                                                refine x_callV X hK hw (k := 0) (As := [.int (nI k), .int (nI 2)]) (rest := []) (w_boat hI (by omega) hJ hO104 (nI k) (nI 2) (fun g t tm pt sm tl hE => a_boa2 hJ hc hk hE (by omega) tm pt sm tl)) (x_cwV yX7_boat cX7_boat 3 (some .int) 2 X q755 q756 q757 q1 q758 hd_X7_boat ⟨(Nat.le_of_ble_eq_true rfl), (Nat.le_of_ble_eq_true rfl)⟩) (by omega) hO104.ma rfl rfl hl.1 rfl (Nat.le_of_ble_eq_true rfl) dL_areBoats_355 ⟨(Nat.le_of_ble_eq_true rfl), (Nat.le_of_ble_eq_true rfl)⟩ (fun v109 F110 H locs hp hw => ?_)
                                                obtain ⟨e111, hO112, hf113⟩ := hp
                                                refine x_top e111 ?_
                                                replace hfr := hfr.tr hf113 (by omega) (by omega)
                                                refine lv_iload X.1 X.2.1 dL_areBoats_358 (lv_at hl 3 rfl) ?_
                                                refine lv_icmp_ge (tgt := 367) X.1 X.2.1 dL_areBoats_360 (by decide) (fun c114 => ?_) (fun c114 => ?_)
                                                · exact absurd ((nI_leI (by omega) (by omega)).mp c114) (by omega)
                                                · have n115 : ¬ (rkN A b) ≤ (rkN A k) := fun z => c114 ((nI_leI (by omega) (by omega)).mpr z)
                                                  refine lv_iconst (v := nI 1) X.1 X.2.1 dL_areBoats_363 (by decide) ?_
                                                  refine lv_goto (tgt := 368) X.1 X.2.1 dL_areBoats_364 (by decide) ?_
                                                  refine lv_istore (lv' := [(11, .int (nI 1)), (12, .int (nI k)), (1, .int (nI (orN A (b + 1)))), (10, .int (nI (rkN A b))), (9, .int (nI 1)), (5, .int (nI (smN A b (ncl A)))), (6, .int (nI (pfN A b 1 (ncl A)))), (7, .int (nI (mxN A b (ncl A)))), (8, .int (nI (loN A b))), (4, .int (nI b)), (3, .int (nI (ncl A))), (2, .int (nI (A 1))), (0, .ref (ad 0))]) X.1 X.2.1 dL_areBoats_368 hl (by decide) rfl (fun ls hl => ?_)
                                                  refine lv_iinc (v := nI (k + 1)) (lv' := [(12, .int (nI (k + 1))), (11, .int (nI 1)), (1, .int (nI (orN A (b + 1)))), (10, .int (nI (rkN A b))), (9, .int (nI 1)), (5, .int (nI (smN A b (ncl A)))), (6, .int (nI (pfN A b 1 (ncl A)))), (7, .int (nI (mxN A b (ncl A)))), (8, .int (nI (loN A b))), (4, .int (nI b)), (3, .int (nI (ncl A))), (2, .int (nI (A 1))), (0, .ref (ad 0))]) X.1 X.2.1 dL_areBoats_370 hl (k := 1) rfl (by first | exact nI_1 _ | exact nI_add _ _ | rfl) (by decide) rfl (fun ls hl => ?_)
                                                  refine lv_goto (tgt := 323) X.1 X.2.1 dL_areBoats_373 (by decide) ?_
                                                  exact ih4 (k + 1) F110 (by omega) (by omega) hO112 hfr _ _ hw _ (lv_sub hl [0, 1, 2, 3, 4, 5, 6, 7, 8, 9, 10, 11, 12] rfl)
                                      exact loop323 (A 1) 0 F3 (by omega) (by omega) hOD hfr _ _ hw _ (lv_sub hl [0, 1, 2, 3, 4, 5, 6, 7, 8, 9, 10, 11, 12] rfl)
                                    have loop276 : ∀ (fu3 : Nat) (i : Nat) (F3 : Nat → va_E) (hfu3 : ncl A ≤ i + fu3) (hi3 : loN A b < i ∧ i ≤ ncl A) (hOD : OB ad cI cB cS F3 hs A A3) (hfr : Fr F F3 0 111) (H : Heap) (locs : List Loc) (hw : HW D (Af ad N s.heap.size) ad N F3 s H locs) (ls : Array Slot) (hl : lv_has ls 13 [(12, .int (nI i)), (11, .int (nI 1)), (1, .int (nI (orN A (b + 1)))), (10, .int (nI (rkN A b))), (9, .int (nI 1)), (5, .int (nI (smN A b (ncl A)))), (6, .int (nI (pfN A b 1 (ncl A)))), (7, .int (nI (mxN A b (ncl A)))), (8, .int (nI (loN A b))), (4, .int (nI b)), (3, .int (nI (ncl A))), (2, .int (nI (A 1))), (0, .ref (ad 0))]), W p l e { frames := 7, cells := 0, slots := 0, locals := 160 } s m [.ref (ad 0)].toArray below meth c H locs 0 0 (MQ below (va_Qi (fun v F' => v = nI 1 ∧ OB ad cI cB cS F' hs A A3 ∧ Fr F F' 0 111) (fun F' t => PO D ad N F' t) (Af ad N s.heap.size)) [.ref (ad 0)].toArray s 0 0 (Af ad N s.heap.size)) (F0 m 276 ls []) := by
                                      intro fu3
                                      induction fu3 with
                                      | zero =>
                                        intro i F3 hfu3 hi3 hOD hfr H locs hw ls hl
                                        refine lv_iload X.1 X.2.1 dL_areBoats_276 (lv_at hl 0 rfl) ?_
                                        refine lv_iload_n X.1 X.2.1 dL_areBoats_278 rfl (lv_at hl 10 rfl) ?_
                                        refine lv_icmp_ge (tgt := 320) X.1 X.2.1 dL_areBoats_279 (by decide) (fun c116 => ?_) (fun c116 => ?_)
                                        · have n117 := (nI_leI (by omega) (by omega)).mp c116
                                          exact way276 i F3 hi3 hOD hfr n117 _ _ hw _ (lv_sub hl [0, 1, 2, 3, 4, 5, 6, 7, 8, 9, 10, 11, 12] rfl)
                                        · exact absurd ((nI_leI (by omega) (by omega)).mpr (by omega)) c116
                                      | succ fu3 ih3 =>
                                        intro i F3 hfu3 hi3 hOD hfr H locs hw ls hl
                                        refine lv_iload X.1 X.2.1 dL_areBoats_276 (lv_at hl 0 rfl) ?_
                                        refine lv_iload_n X.1 X.2.1 dL_areBoats_278 rfl (lv_at hl 10 rfl) ?_
                                        refine lv_icmp_ge (tgt := 320) X.1 X.2.1 dL_areBoats_279 (by decide) (fun c118 => ?_) (fun c118 => ?_)
                                        · have n119 := (nI_leI (by omega) (by omega)).mp c118
                                          exact way276 i F3 hi3 hOD hfr n119 _ _ hw _ (lv_sub hl [0, 1, 2, 3, 4, 5, 6, 7, 8, 9, 10, 11, 12] rfl)
                                        · have n120 : ¬ (ncl A) ≤ i := fun z => c118 ((nI_leI (by omega) (by omega)).mpr z)
                                          refine lv_iload X.1 X.2.1 dL_areBoats_282 (lv_at hl 4 rfl) ?_
                                          refine lv_if_eq (tgt := 320) X.1 X.2.1 dL_areBoats_284 (by decide) (fun c121 => ?_) (fun c121 => ?_)
                                          · exact absurd c121 (by decide)
                                          · refine lv_iload X.1 X.2.1 dL_areBoats_287 (lv_at hl 1 rfl) ?_
                                            refine lv_if_eq (tgt := 320) X.1 X.2.1 dL_areBoats_289 (by decide) (fun c122 => ?_) (fun c122 => ?_)
                                            · exact absurd c122 (by decide)
                                            · have hni : rA A i 3 = 1 := by rcases ncl_r hJ (r := i) (by omega) with h | h <;> omega
                                              have hpi := ptN_b hJ (r := i) (b := b) (by omega) (by omega)
                                              have hl4 := lo4 i (by omega) (by omega)
                                              refine lv_aload_n X.1 X.2.1 dL_areBoats_292 rfl (lv_at hl 12 rfl) ?_
                                              refine lv_iload X.1 X.2.1 dL_areBoats_293 (lv_at hl 0 rfl) ?_
                                              refine lv_iload X.1 X.2.1 dL_areBoats_295 (lv_at hl 9 rfl) ?_
                                              refine lv_bipush (v := nI 8) X.1 X.2.1 dL_areBoats_297 (by decide) ?_
                                              refine x_callV X hK hw (k := 0) (As := [.int (nI i), .int (nI b), .int (nI 8)]) (rest := []) (w_result hI (by omega) hJ.1.1 hOD (nI (i)) (nI b) (nI 8) (fun g t tm hE => ((a_res8 hJ hc hk hE (by omega) (by omega) tm).trans (if_pos (by omega))).trans (pts_n hJ hc hk (by omega) (by omega)))) (x_cwV yX7_result cX7_result 4 (some .int) 3 X q695 q696 q697 q1 q698 hd_X7_result ⟨(Nat.le_of_ble_eq_true rfl), (Nat.le_of_ble_eq_true rfl)⟩) (by omega) hOD.ma rfl rfl hl.1 rfl (Nat.le_of_ble_eq_true rfl) dL_areBoats_299 ⟨(Nat.le_of_ble_eq_true rfl), (Nat.le_of_ble_eq_true rfl)⟩ (fun v123 F124 H locs hp hw => ?_)
                                              obtain ⟨e125, hO126, hf127⟩ := hp
                                              refine x_top e125 ?_
                                              replace hfr := hfr.tr hf127 (by omega) (by omega)
                                              refine lv_iload X.1 X.2.1 dL_areBoats_302 (lv_at hl 7 rfl) ?_
                                              refine lv_icmp_ge (tgt := 311) X.1 X.2.1 dL_areBoats_304 (by decide) (fun c128 => ?_) (fun c128 => ?_)
                                              · exact absurd ((nI_leI (by omega) (by omega)).mp c128) (by omega)
                                              · have n129 : ¬ (mxN A b (ncl A)) ≤ (ptN A (i) b) := fun z => c128 ((nI_leI (by omega) (by omega)).mpr z)
                                                refine lv_iconst (v := nI 1) X.1 X.2.1 dL_areBoats_307 (by decide) ?_
                                                refine lv_goto (tgt := 312) X.1 X.2.1 dL_areBoats_308 (by decide) ?_
                                                refine lv_istore (lv' := [(11, .int (nI 1)), (12, .int (nI i)), (1, .int (nI (orN A (b + 1)))), (10, .int (nI (rkN A b))), (9, .int (nI 1)), (5, .int (nI (smN A b (ncl A)))), (6, .int (nI (pfN A b 1 (ncl A)))), (7, .int (nI (mxN A b (ncl A)))), (8, .int (nI (loN A b))), (4, .int (nI b)), (3, .int (nI (ncl A))), (2, .int (nI (A 1))), (0, .ref (ad 0))]) X.1 X.2.1 dL_areBoats_312 hl (by decide) rfl (fun ls hl => ?_)
                                                refine lv_iinc (v := nI (i + 1)) (lv' := [(12, .int (nI (i + 1))), (11, .int (nI 1)), (1, .int (nI (orN A (b + 1)))), (10, .int (nI (rkN A b))), (9, .int (nI 1)), (5, .int (nI (smN A b (ncl A)))), (6, .int (nI (pfN A b 1 (ncl A)))), (7, .int (nI (mxN A b (ncl A)))), (8, .int (nI (loN A b))), (4, .int (nI b)), (3, .int (nI (ncl A))), (2, .int (nI (A 1))), (0, .ref (ad 0))]) X.1 X.2.1 dL_areBoats_314 hl (k := 1) rfl (by first | exact nI_1 _ | exact nI_add _ _ | rfl) (by decide) rfl (fun ls hl => ?_)
                                                refine lv_goto (tgt := 276) X.1 X.2.1 dL_areBoats_317 (by decide) ?_
                                                exact ih3 (i + 1) F124 (by omega) ⟨by omega, by omega⟩ hO126 hfr _ _ hw _ (lv_sub hl [0, 1, 2, 3, 4, 5, 6, 7, 8, 9, 10, 11, 12] rfl)
                                    exact loop276 (ncl A) (loN A b + 1) F82 (by omega) ⟨by omega, by omega⟩ hO84 hfr _ _ hw _ (lv_sub hl [0, 1, 2, 3, 4, 5, 6, 7, 8, 9, 10, 11, 12] rfl)
                                · exact absurd ((bz_eq (by omega)).mp c86) (by omega)
          have loop44 : ∀ (fu2 : Nat) (r : Nat) (F2 : Nat → va_E) (hfu2 : ncl A ≤ r + fu2) (hr2 : r ≤ ncl A) (hOC : OB ad cI cB cS F2 hs A A3) (hfr : Fr F F2 0 111) (H : Heap) (locs : List Loc) (hw : HW D (Af ad N s.heap.size) ad N F2 s H locs) (ls : Array Slot) (hl : lv_has ls 13 [(5, .int (nI (smN A b r))), (6, .int (nI (pfN A b 1 r))), (7, .int (nI (mxN A b r))), (9, .int (nI r)), (8, .int (nI (loN A b))), (1, .int (nI (orN A b))), (4, .int (nI b)), (3, .int (nI (ncl A))), (2, .int (nI (A 1))), (0, .ref (ad 0))]), W p l e { frames := 7, cells := 0, slots := 0, locals := 160 } s m [.ref (ad 0)].toArray below meth c H locs 0 0 (MQ below (va_Qi (fun v F' => v = nI 1 ∧ OB ad cI cB cS F' hs A A3 ∧ Fr F F' 0 111) (fun F' t => PO D ad N F' t) (Af ad N s.heap.size)) [.ref (ad 0)].toArray s 0 0 (Af ad N s.heap.size)) (F0 m 44 ls []) := by
            intro fu2
            induction fu2 with
            | zero =>
              intro r F2 hfu2 hr2 hOC hfr H locs hw ls hl
              refine lv_iload X.1 X.2.1 dL_areBoats_44 (lv_at hl 3 rfl) ?_
              refine lv_iload_n X.1 X.2.1 dL_areBoats_46 rfl (lv_at hl 7 rfl) ?_
              refine lv_icmp_ge (tgt := 115) X.1 X.2.1 dL_areBoats_47 (by decide) (fun c130 => ?_) (fun c130 => ?_)
              · have n131 := (nI_leI (by omega) (by omega)).mp c130
                exact way44 r F2 hr2 hOC hfr n131 _ _ hw _ (lv_sub hl [0, 1, 2, 3, 4, 5, 6, 7, 8, 9] rfl)
              · exact absurd ((nI_leI (by omega) (by omega)).mpr (by omega)) c130
            | succ fu2 ih2 =>
              intro r F2 hfu2 hr2 hOC hfr H locs hw ls hl
              refine lv_iload X.1 X.2.1 dL_areBoats_44 (lv_at hl 3 rfl) ?_
              refine lv_iload_n X.1 X.2.1 dL_areBoats_46 rfl (lv_at hl 7 rfl) ?_
              refine lv_icmp_ge (tgt := 115) X.1 X.2.1 dL_areBoats_47 (by decide) (fun c132 => ?_) (fun c132 => ?_)
              · have n133 := (nI_leI (by omega) (by omega)).mp c132
                exact way44 r F2 hr2 hOC hfr n133 _ _ hw _ (lv_sub hl [0, 1, 2, 3, 4, 5, 6, 7, 8, 9] rfl)
              · have n134 : ¬ (ncl A) ≤ r := fun z => c132 ((nI_leI (by omega) (by omega)).mpr z)
                have hnr : rA A r 3 = 1 := by rcases ncl_r hJ (r := r) (by omega) with h | h <;> omega
                have hpb := ptN_b hJ (r := r) (b := b) (by omega) (by omega)
                have hpl := plN_b hJ (r := r) (b := b) (by omega)
                have hmr := (mx_le (A := A) (b := b) r).2.1
                have hsr := (sum_n hJ hc hk (b := b) (by omega) r (by omega)).2
                have hpr := (pof_n hJ hc hk (b := b) (w := 1) (by omega) (by omega) r (by omega)).2
                refine lv_aload_n X.1 X.2.1 dL_areBoats_50 rfl (lv_at hl 9 rfl) ?_
                refine lv_iload X.1 X.2.1 dL_areBoats_51 (lv_at hl 3 rfl) ?_
                refine lv_iload X.1 X.2.1 dL_areBoats_53 (lv_at hl 6 rfl) ?_
                refine lv_bipush (v := nI 8) X.1 X.2.1 dL_areBoats_55 (by decide) ?_
                refine x_callV X hK hw (k := 0) (As := [.int (nI r), .int (nI b), .int (nI 8)]) (rest := []) (w_result hI (by omega) hJ.1.1 hOC (nI r) (nI b) (nI 8) (fun g t tm hE => ((a_res8 hJ hc hk hE (by omega) (by omega) tm).trans (if_pos (by omega))).trans (pts_n hJ hc hk (by omega) (by omega)))) (x_cwV yX7_result cX7_result 4 (some .int) 3 X q695 q696 q697 q1 q698 hd_X7_result ⟨(Nat.le_of_ble_eq_true rfl), (Nat.le_of_ble_eq_true rfl)⟩) (by omega) hOC.ma rfl rfl hl.1 rfl (Nat.le_of_ble_eq_true rfl) dL_areBoats_57 ⟨(Nat.le_of_ble_eq_true rfl), (Nat.le_of_ble_eq_true rfl)⟩ (fun v135 F136 H locs hp hw => ?_)
                obtain ⟨e137, hO138, hf139⟩ := hp
                refine x_top e137 ?_
                replace hfr := hfr.tr hf139 (by omega) (by omega)
                refine lv_istore (lv' := [(10, .int (nI (ptN A r b))), (5, .int (nI (smN A b r))), (6, .int (nI (pfN A b 1 r))), (7, .int (nI (mxN A b r))), (9, .int (nI r)), (8, .int (nI (loN A b))), (1, .int (nI (orN A b))), (4, .int (nI b)), (3, .int (nI (ncl A))), (2, .int (nI (A 1))), (0, .ref (ad 0))]) X.1 X.2.1 dL_areBoats_60 hl (by decide) rfl (fun ls hl => ?_)
                refine lv_iload X.1 X.2.1 dL_areBoats_62 (lv_at hl 1 rfl) ?_
                refine lv_iload X.1 X.2.1 dL_areBoats_64 (lv_at hl 0 rfl) ?_
                refine lv_iadd X.1 X.2.1 dL_areBoats_66 ?_
                refine x_top (nI_add _ _) ?_
                refine x_top (y := nI (smN A b (r + 1))) rfl ?_
                refine lv_istore (lv' := [(5, .int (nI (smN A b (r + 1)))), (10, .int (nI (ptN A r b))), (6, .int (nI (pfN A b 1 r))), (7, .int (nI (mxN A b r))), (9, .int (nI r)), (8, .int (nI (loN A b))), (1, .int (nI (orN A b))), (4, .int (nI b)), (3, .int (nI (ncl A))), (2, .int (nI (A 1))), (0, .ref (ad 0))]) X.1 X.2.1 dL_areBoats_67 hl (by decide) rfl (fun ls hl => ?_)
                refine lv_iload X.1 X.2.1 dL_areBoats_69 (lv_at hl 1 rfl) ?_
                refine lv_iload X.1 X.2.1 dL_areBoats_71 (lv_at hl 3 rfl) ?_
                refine lv_icmp_le (tgt := 81) X.1 X.2.1 dL_areBoats_73 (by decide) (fun c140 => ?_) (fun c140 => ?_)
                · have n141 := (nI_leI (by omega) (by omega)).mp c140
                  refine lv_iload X.1 X.2.1 dL_areBoats_81 (lv_at hl 3 rfl) ?_
                  refine x_top (congrArg nI (mx_y n141)) ?_
                  refine lv_istore (lv' := [(7, .int (nI (mxN A b (r + 1)))), (5, .int (nI (smN A b (r + 1)))), (10, .int (nI (ptN A r b))), (6, .int (nI (pfN A b 1 r))), (9, .int (nI r)), (8, .int (nI (loN A b))), (1, .int (nI (orN A b))), (4, .int (nI b)), (3, .int (nI (ncl A))), (2, .int (nI (A 1))), (0, .ref (ad 0))]) X.1 X.2.1 dL_areBoats_83 hl (by decide) rfl (fun ls hl => ?_)
                  by_cases hcn : cnP A r b
                  · refine lv_iload X.1 X.2.1 dL_areBoats_85 (lv_at hl 3 rfl) ?_
                    refine lv_aload_n X.1 X.2.1 dL_areBoats_87 rfl (lv_at hl 10 rfl) ?_
                    refine lv_iload X.1 X.2.1 dL_areBoats_88 (lv_at hl 4 rfl) ?_
                    refine lv_iload X.1 X.2.1 dL_areBoats_90 (lv_at hl 7 rfl) ?_
                    refine lv_bipush (v := nI 7) X.1 X.2.1 dL_areBoats_92 (by decide) ?_
                    refine x_callV X hK hw (k := 0) (As := [.int (nI r), .int (nI b), .int (nI 7)]) (rest := [.int (nI (pfN A b 1 r))]) (w_result hI (by omega) hJ.1.1 hO138 (nI r) (nI b) (nI 7) (fun g t tm hE => ((a_res7 hJ hc hk hE (by omega) (by omega) tm).trans (if_pos (by omega))).trans ((place_n hJ hc hk (by omega) (by omega)).trans (if_pos hcn)))) (x_cwV yX7_result cX7_result 4 (some .int) 3 X q695 q696 q697 q1 q698 hd_X7_result ⟨(Nat.le_of_ble_eq_true rfl), (Nat.le_of_ble_eq_true rfl)⟩) (by omega) hO138.ma rfl rfl hl.1 rfl (Nat.le_of_ble_eq_true rfl) dL_areBoats_94 ⟨(Nat.le_of_ble_eq_true rfl), (Nat.le_of_ble_eq_true rfl)⟩ (fun v142 F143 H locs hp hw => ?_)
                    obtain ⟨e144, hO145, hf146⟩ := hp
                    refine x_top e144 ?_
                    replace hfr := hfr.tr hf146 (by omega) (by omega)
                    refine lv_iconst (v := nI 1) X.1 X.2.1 dL_areBoats_97 (by decide) ?_
                    refine lv_icmp_ne (tgt := 105) X.1 X.2.1 dL_areBoats_98 (by decide) (fun c147 => ?_) (fun c147 => ?_)
                    · have n148 : ¬ (plN A r b) = 1 := fun z => c147 ((nI_eq (by omega) (by omega)).mpr z)
                      refine lv_iconst (v := nI 0) X.1 X.2.1 dL_areBoats_105 (by decide) ?_
                      refine lv_iadd X.1 X.2.1 dL_areBoats_106 ?_
                      refine x_top (nI_add _ _) ?_
                      refine x_top (y := nI (pfN A b 1 (r + 1))) (congrArg nI (pf_z (fun z => n148 z.2))) ?_
                      refine lv_istore (lv' := [(6, .int (nI (pfN A b 1 (r + 1)))), (7, .int (nI (mxN A b (r + 1)))), (5, .int (nI (smN A b (r + 1)))), (10, .int (nI (ptN A r b))), (9, .int (nI r)), (8, .int (nI (loN A b))), (1, .int (nI (orN A b))), (4, .int (nI b)), (3, .int (nI (ncl A))), (2, .int (nI (A 1))), (0, .ref (ad 0))]) X.1 X.2.1 dL_areBoats_107 hl (by decide) rfl (fun ls hl => ?_)
                      refine lv_iinc (v := nI (r + 1)) (lv' := [(9, .int (nI (r + 1))), (6, .int (nI (pfN A b 1 (r + 1)))), (7, .int (nI (mxN A b (r + 1)))), (5, .int (nI (smN A b (r + 1)))), (10, .int (nI (ptN A r b))), (8, .int (nI (loN A b))), (1, .int (nI (orN A b))), (4, .int (nI b)), (3, .int (nI (ncl A))), (2, .int (nI (A 1))), (0, .ref (ad 0))]) X.1 X.2.1 dL_areBoats_109 hl (k := 4) rfl (by first | exact nI_1 _ | exact nI_add _ _ | rfl) (by decide) rfl (fun ls hl => ?_)
                      refine lv_goto (tgt := 44) X.1 X.2.1 dL_areBoats_112 (by decide) ?_
                      exact ih2 (r + 1) F143 (by omega) (by omega) hO145 hfr _ _ hw _ (lv_sub hl [3, 1, 2, 0, 5, 6, 7, 8, 9, 10] rfl)
                    · have n149 := (nI_eq (by omega) (by omega)).mp c147
                      refine lv_iconst (v := nI 1) X.1 X.2.1 dL_areBoats_101 (by decide) ?_
                      refine lv_goto (tgt := 106) X.1 X.2.1 dL_areBoats_102 (by decide) ?_
                      refine lv_iadd X.1 X.2.1 dL_areBoats_106 ?_
                      refine x_top (nI_add _ _) ?_
                      refine x_top (y := nI (pfN A b 1 (r + 1))) (congrArg nI (pf_y ⟨hcn, n149⟩)) ?_
                      refine lv_istore (lv' := [(6, .int (nI (pfN A b 1 (r + 1)))), (7, .int (nI (mxN A b (r + 1)))), (5, .int (nI (smN A b (r + 1)))), (10, .int (nI (ptN A r b))), (9, .int (nI r)), (8, .int (nI (loN A b))), (1, .int (nI (orN A b))), (4, .int (nI b)), (3, .int (nI (ncl A))), (2, .int (nI (A 1))), (0, .ref (ad 0))]) X.1 X.2.1 dL_areBoats_107 hl (by decide) rfl (fun ls hl => ?_)
                      refine lv_iinc (v := nI (r + 1)) (lv' := [(9, .int (nI (r + 1))), (6, .int (nI (pfN A b 1 (r + 1)))), (7, .int (nI (mxN A b (r + 1)))), (5, .int (nI (smN A b (r + 1)))), (10, .int (nI (ptN A r b))), (8, .int (nI (loN A b))), (1, .int (nI (orN A b))), (4, .int (nI b)), (3, .int (nI (ncl A))), (2, .int (nI (A 1))), (0, .ref (ad 0))]) X.1 X.2.1 dL_areBoats_109 hl (k := 4) rfl (by first | exact nI_1 _ | exact nI_add _ _ | rfl) (by decide) rfl (fun ls hl => ?_)
                      refine lv_goto (tgt := 44) X.1 X.2.1 dL_areBoats_112 (by decide) ?_
                      exact ih2 (r + 1) F143 (by omega) (by omega) hO145 hfr _ _ hw _ (lv_sub hl [3, 1, 2, 0, 5, 6, 7, 8, 9, 10] rfl)
                  · refine lv_iload X.1 X.2.1 dL_areBoats_85 (lv_at hl 3 rfl) ?_
                    refine lv_aload_n X.1 X.2.1 dL_areBoats_87 rfl (lv_at hl 10 rfl) ?_
                    refine lv_iload X.1 X.2.1 dL_areBoats_88 (lv_at hl 4 rfl) ?_
                    refine lv_iload X.1 X.2.1 dL_areBoats_90 (lv_at hl 7 rfl) ?_
                    refine lv_bipush (v := nI 7) X.1 X.2.1 dL_areBoats_92 (by decide) ?_
                    refine x_callV X hK hw (k := 0) (As := [.int (nI r), .int (nI b), .int (nI 7)]) (rest := [.int (nI (pfN A b 1 r))]) (w_result hI (by omega) hJ.1.1 hO138 (nI r) (nI b) (nI 7) (fun g t tm hE => ((a_res7 hJ hc hk hE (by omega) (by omega) tm).trans (if_pos (by omega))).trans ((place_n hJ hc hk (by omega) (by omega)).trans (if_neg hcn)))) (x_cwV yX7_result cX7_result 4 (some .int) 3 X q695 q696 q697 q1 q698 hd_X7_result ⟨(Nat.le_of_ble_eq_true rfl), (Nat.le_of_ble_eq_true rfl)⟩) (by omega) hO138.ma rfl rfl hl.1 rfl (Nat.le_of_ble_eq_true rfl) dL_areBoats_94 ⟨(Nat.le_of_ble_eq_true rfl), (Nat.le_of_ble_eq_true rfl)⟩ (fun v150 F151 H locs hp hw => ?_)
                    obtain ⟨e152, hO153, hf154⟩ := hp
                    refine x_top e152 ?_
                    replace hfr := hfr.tr hf154 (by omega) (by omega)
                    refine lv_iconst (v := nI 1) X.1 X.2.1 dL_areBoats_97 (by decide) ?_
                    refine lv_icmp_ne (tgt := 105) X.1 X.2.1 dL_areBoats_98 (by decide) (fun c155 => ?_) (fun c155 => ?_)
                    · refine lv_iconst (v := nI 0) X.1 X.2.1 dL_areBoats_105 (by decide) ?_
                      refine lv_iadd X.1 X.2.1 dL_areBoats_106 ?_
                      refine x_top (nI_add _ _) ?_
                      refine x_top (y := nI (pfN A b 1 (r + 1))) (congrArg nI (pf_z (fun z => hcn z.1))) ?_
                      refine lv_istore (lv' := [(6, .int (nI (pfN A b 1 (r + 1)))), (7, .int (nI (mxN A b (r + 1)))), (5, .int (nI (smN A b (r + 1)))), (10, .int (nI (ptN A r b))), (9, .int (nI r)), (8, .int (nI (loN A b))), (1, .int (nI (orN A b))), (4, .int (nI b)), (3, .int (nI (ncl A))), (2, .int (nI (A 1))), (0, .ref (ad 0))]) X.1 X.2.1 dL_areBoats_107 hl (by decide) rfl (fun ls hl => ?_)
                      refine lv_iinc (v := nI (r + 1)) (lv' := [(9, .int (nI (r + 1))), (6, .int (nI (pfN A b 1 (r + 1)))), (7, .int (nI (mxN A b (r + 1)))), (5, .int (nI (smN A b (r + 1)))), (10, .int (nI (ptN A r b))), (8, .int (nI (loN A b))), (1, .int (nI (orN A b))), (4, .int (nI b)), (3, .int (nI (ncl A))), (2, .int (nI (A 1))), (0, .ref (ad 0))]) X.1 X.2.1 dL_areBoats_109 hl (k := 4) rfl (by first | exact nI_1 _ | exact nI_add _ _ | rfl) (by decide) rfl (fun ls hl => ?_)
                      refine lv_goto (tgt := 44) X.1 X.2.1 dL_areBoats_112 (by decide) ?_
                      exact ih2 (r + 1) F151 (by omega) (by omega) hO153 hfr _ _ hw _ (lv_sub hl [3, 1, 2, 0, 5, 6, 7, 8, 9, 10] rfl)
                    · exact absurd c155 (by decide)
                · have n156 : ¬ (ptN A r b) ≤ (mxN A b r) := fun z => c140 ((nI_leI (by omega) (by omega)).mpr z)
                  refine lv_iload X.1 X.2.1 dL_areBoats_76 (lv_at hl 1 rfl) ?_
                  refine lv_goto (tgt := 83) X.1 X.2.1 dL_areBoats_78 (by decide) ?_
                  refine x_top (congrArg nI (mx_n n156)) ?_
                  refine lv_istore (lv' := [(7, .int (nI (mxN A b (r + 1)))), (5, .int (nI (smN A b (r + 1)))), (10, .int (nI (ptN A r b))), (6, .int (nI (pfN A b 1 r))), (9, .int (nI r)), (8, .int (nI (loN A b))), (1, .int (nI (orN A b))), (4, .int (nI b)), (3, .int (nI (ncl A))), (2, .int (nI (A 1))), (0, .ref (ad 0))]) X.1 X.2.1 dL_areBoats_83 hl (by decide) rfl (fun ls hl => ?_)
                  by_cases hcn : cnP A r b
                  · refine lv_iload X.1 X.2.1 dL_areBoats_85 (lv_at hl 3 rfl) ?_
                    refine lv_aload_n X.1 X.2.1 dL_areBoats_87 rfl (lv_at hl 10 rfl) ?_
                    refine lv_iload X.1 X.2.1 dL_areBoats_88 (lv_at hl 4 rfl) ?_
                    refine lv_iload X.1 X.2.1 dL_areBoats_90 (lv_at hl 7 rfl) ?_
                    refine lv_bipush (v := nI 7) X.1 X.2.1 dL_areBoats_92 (by decide) ?_
                    refine x_callV X hK hw (k := 0) (As := [.int (nI r), .int (nI b), .int (nI 7)]) (rest := [.int (nI (pfN A b 1 r))]) (w_result hI (by omega) hJ.1.1 hO138 (nI r) (nI b) (nI 7) (fun g t tm hE => ((a_res7 hJ hc hk hE (by omega) (by omega) tm).trans (if_pos (by omega))).trans ((place_n hJ hc hk (by omega) (by omega)).trans (if_pos hcn)))) (x_cwV yX7_result cX7_result 4 (some .int) 3 X q695 q696 q697 q1 q698 hd_X7_result ⟨(Nat.le_of_ble_eq_true rfl), (Nat.le_of_ble_eq_true rfl)⟩) (by omega) hO138.ma rfl rfl hl.1 rfl (Nat.le_of_ble_eq_true rfl) dL_areBoats_94 ⟨(Nat.le_of_ble_eq_true rfl), (Nat.le_of_ble_eq_true rfl)⟩ (fun v157 F158 H locs hp hw => ?_)
                    obtain ⟨e159, hO160, hf161⟩ := hp
                    refine x_top e159 ?_
                    replace hfr := hfr.tr hf161 (by omega) (by omega)
                    refine lv_iconst (v := nI 1) X.1 X.2.1 dL_areBoats_97 (by decide) ?_
                    refine lv_icmp_ne (tgt := 105) X.1 X.2.1 dL_areBoats_98 (by decide) (fun c162 => ?_) (fun c162 => ?_)
                    · have n163 : ¬ (plN A r b) = 1 := fun z => c162 ((nI_eq (by omega) (by omega)).mpr z)
                      refine lv_iconst (v := nI 0) X.1 X.2.1 dL_areBoats_105 (by decide) ?_
                      refine lv_iadd X.1 X.2.1 dL_areBoats_106 ?_
                      refine x_top (nI_add _ _) ?_
                      refine x_top (y := nI (pfN A b 1 (r + 1))) (congrArg nI (pf_z (fun z => n163 z.2))) ?_
                      refine lv_istore (lv' := [(6, .int (nI (pfN A b 1 (r + 1)))), (7, .int (nI (mxN A b (r + 1)))), (5, .int (nI (smN A b (r + 1)))), (10, .int (nI (ptN A r b))), (9, .int (nI r)), (8, .int (nI (loN A b))), (1, .int (nI (orN A b))), (4, .int (nI b)), (3, .int (nI (ncl A))), (2, .int (nI (A 1))), (0, .ref (ad 0))]) X.1 X.2.1 dL_areBoats_107 hl (by decide) rfl (fun ls hl => ?_)
                      refine lv_iinc (v := nI (r + 1)) (lv' := [(9, .int (nI (r + 1))), (6, .int (nI (pfN A b 1 (r + 1)))), (7, .int (nI (mxN A b (r + 1)))), (5, .int (nI (smN A b (r + 1)))), (10, .int (nI (ptN A r b))), (8, .int (nI (loN A b))), (1, .int (nI (orN A b))), (4, .int (nI b)), (3, .int (nI (ncl A))), (2, .int (nI (A 1))), (0, .ref (ad 0))]) X.1 X.2.1 dL_areBoats_109 hl (k := 4) rfl (by first | exact nI_1 _ | exact nI_add _ _ | rfl) (by decide) rfl (fun ls hl => ?_)
                      refine lv_goto (tgt := 44) X.1 X.2.1 dL_areBoats_112 (by decide) ?_
                      exact ih2 (r + 1) F158 (by omega) (by omega) hO160 hfr _ _ hw _ (lv_sub hl [3, 1, 2, 0, 5, 6, 7, 8, 9, 10] rfl)
                    · have n164 := (nI_eq (by omega) (by omega)).mp c162
                      refine lv_iconst (v := nI 1) X.1 X.2.1 dL_areBoats_101 (by decide) ?_
                      refine lv_goto (tgt := 106) X.1 X.2.1 dL_areBoats_102 (by decide) ?_
                      refine lv_iadd X.1 X.2.1 dL_areBoats_106 ?_
                      refine x_top (nI_add _ _) ?_
                      refine x_top (y := nI (pfN A b 1 (r + 1))) (congrArg nI (pf_y ⟨hcn, n164⟩)) ?_
                      refine lv_istore (lv' := [(6, .int (nI (pfN A b 1 (r + 1)))), (7, .int (nI (mxN A b (r + 1)))), (5, .int (nI (smN A b (r + 1)))), (10, .int (nI (ptN A r b))), (9, .int (nI r)), (8, .int (nI (loN A b))), (1, .int (nI (orN A b))), (4, .int (nI b)), (3, .int (nI (ncl A))), (2, .int (nI (A 1))), (0, .ref (ad 0))]) X.1 X.2.1 dL_areBoats_107 hl (by decide) rfl (fun ls hl => ?_)
                      refine lv_iinc (v := nI (r + 1)) (lv' := [(9, .int (nI (r + 1))), (6, .int (nI (pfN A b 1 (r + 1)))), (7, .int (nI (mxN A b (r + 1)))), (5, .int (nI (smN A b (r + 1)))), (10, .int (nI (ptN A r b))), (8, .int (nI (loN A b))), (1, .int (nI (orN A b))), (4, .int (nI b)), (3, .int (nI (ncl A))), (2, .int (nI (A 1))), (0, .ref (ad 0))]) X.1 X.2.1 dL_areBoats_109 hl (k := 4) rfl (by first | exact nI_1 _ | exact nI_add _ _ | rfl) (by decide) rfl (fun ls hl => ?_)
                      refine lv_goto (tgt := 44) X.1 X.2.1 dL_areBoats_112 (by decide) ?_
                      exact ih2 (r + 1) F158 (by omega) (by omega) hO160 hfr _ _ hw _ (lv_sub hl [3, 1, 2, 0, 5, 6, 7, 8, 9, 10] rfl)
                  · refine lv_iload X.1 X.2.1 dL_areBoats_85 (lv_at hl 3 rfl) ?_
                    refine lv_aload_n X.1 X.2.1 dL_areBoats_87 rfl (lv_at hl 10 rfl) ?_
                    refine lv_iload X.1 X.2.1 dL_areBoats_88 (lv_at hl 4 rfl) ?_
                    refine lv_iload X.1 X.2.1 dL_areBoats_90 (lv_at hl 7 rfl) ?_
                    refine lv_bipush (v := nI 7) X.1 X.2.1 dL_areBoats_92 (by decide) ?_
                    refine x_callV X hK hw (k := 0) (As := [.int (nI r), .int (nI b), .int (nI 7)]) (rest := [.int (nI (pfN A b 1 r))]) (w_result hI (by omega) hJ.1.1 hO138 (nI r) (nI b) (nI 7) (fun g t tm hE => ((a_res7 hJ hc hk hE (by omega) (by omega) tm).trans (if_pos (by omega))).trans ((place_n hJ hc hk (by omega) (by omega)).trans (if_neg hcn)))) (x_cwV yX7_result cX7_result 4 (some .int) 3 X q695 q696 q697 q1 q698 hd_X7_result ⟨(Nat.le_of_ble_eq_true rfl), (Nat.le_of_ble_eq_true rfl)⟩) (by omega) hO138.ma rfl rfl hl.1 rfl (Nat.le_of_ble_eq_true rfl) dL_areBoats_94 ⟨(Nat.le_of_ble_eq_true rfl), (Nat.le_of_ble_eq_true rfl)⟩ (fun v165 F166 H locs hp hw => ?_)
                    obtain ⟨e167, hO168, hf169⟩ := hp
                    refine x_top e167 ?_
                    replace hfr := hfr.tr hf169 (by omega) (by omega)
                    refine lv_iconst (v := nI 1) X.1 X.2.1 dL_areBoats_97 (by decide) ?_
                    refine lv_icmp_ne (tgt := 105) X.1 X.2.1 dL_areBoats_98 (by decide) (fun c170 => ?_) (fun c170 => ?_)
                    · refine lv_iconst (v := nI 0) X.1 X.2.1 dL_areBoats_105 (by decide) ?_
                      refine lv_iadd X.1 X.2.1 dL_areBoats_106 ?_
                      refine x_top (nI_add _ _) ?_
                      refine x_top (y := nI (pfN A b 1 (r + 1))) (congrArg nI (pf_z (fun z => hcn z.1))) ?_
                      refine lv_istore (lv' := [(6, .int (nI (pfN A b 1 (r + 1)))), (7, .int (nI (mxN A b (r + 1)))), (5, .int (nI (smN A b (r + 1)))), (10, .int (nI (ptN A r b))), (9, .int (nI r)), (8, .int (nI (loN A b))), (1, .int (nI (orN A b))), (4, .int (nI b)), (3, .int (nI (ncl A))), (2, .int (nI (A 1))), (0, .ref (ad 0))]) X.1 X.2.1 dL_areBoats_107 hl (by decide) rfl (fun ls hl => ?_)
                      refine lv_iinc (v := nI (r + 1)) (lv' := [(9, .int (nI (r + 1))), (6, .int (nI (pfN A b 1 (r + 1)))), (7, .int (nI (mxN A b (r + 1)))), (5, .int (nI (smN A b (r + 1)))), (10, .int (nI (ptN A r b))), (8, .int (nI (loN A b))), (1, .int (nI (orN A b))), (4, .int (nI b)), (3, .int (nI (ncl A))), (2, .int (nI (A 1))), (0, .ref (ad 0))]) X.1 X.2.1 dL_areBoats_109 hl (k := 4) rfl (by first | exact nI_1 _ | exact nI_add _ _ | rfl) (by decide) rfl (fun ls hl => ?_)
                      refine lv_goto (tgt := 44) X.1 X.2.1 dL_areBoats_112 (by decide) ?_
                      exact ih2 (r + 1) F166 (by omega) (by omega) hO168 hfr _ _ hw _ (lv_sub hl [3, 1, 2, 0, 5, 6, 7, 8, 9, 10] rfl)
                    · exact absurd c170 (by decide)
          exact loop44 (ncl A) 0 F25 (by omega) (by omega) hO27 hfr _ _ hw _ (lv_sub hl [4, 3, 2, 0, 1, 5, 6, 7, 8, 9] rfl)
    exact loop17 (A 1) 0 F7 (by omega) (by omega) hO9 hfr _ _ hw _ (lv_sub hl [3, 0, 1, 2, 4] rfl)
  · refine lv_iconst (v := nI 0) X.1 X.2.1 dL_areBoats_0 (by decide) ?_
    refine lv_istore_n (lv' := [(1, .int (nI 0)), (0, .ref (ad 0))]) X.1 X.2.1 dL_areBoats_1 rfl hl (by decide) rfl (fun ls hl => ?_)
    refine lv_aload_n X.1 X.2.1 dL_areBoats_2 rfl (lv_at hl 1 rfl) ?_
    refine lv_iconst (v := nI 0) X.1 X.2.1 dL_areBoats_3 (by decide) ?_
    refine x_callV X hK hw (k := 0) (As := [.int (nI 0)]) (rest := []) (w_count hI (by omega) hO (nI 0) (fun g t z n hE => a_cou0 hJ hc hk hE z n)) (x_cwV yX7_count cX7_count 2 (some .int) 1 X q818 q819 q820 q1 q821 hd_X7_count ⟨(Nat.le_of_ble_eq_true rfl), (Nat.le_of_ble_eq_true rfl)⟩) (by omega) hO.ma rfl rfl hl.1 rfl (Nat.le_of_ble_eq_true rfl) dL_areBoats_4 ⟨(Nat.le_of_ble_eq_true rfl), (Nat.le_of_ble_eq_true rfl)⟩ (fun v171 F172 H locs hp hw => ?_)
    obtain ⟨e173, hO174, hf175⟩ := hp
    refine x_top e173 ?_
    replace hfr := hfr.tr hf175 (by omega) (by omega)
    refine lv_istore_n (lv' := [(2, .int (nI (A 1))), (1, .int (nI 0)), (0, .ref (ad 0))]) X.1 X.2.1 dL_areBoats_7 rfl hl (by decide) rfl (fun ls hl => ?_)
    refine lv_aload_n X.1 X.2.1 dL_areBoats_8 rfl (lv_at hl 2 rfl) ?_
    refine lv_iconst (v := nI 2) X.1 X.2.1 dL_areBoats_9 (by decide) ?_
    refine x_callV X hK hw (k := 0) (As := [.int (nI 2)]) (rest := []) (w_count hI (by omega) hO174 (nI 2) (fun g t z n hE => a_cou2 hJ hc hk hE z n)) (x_cwV yX7_count cX7_count 2 (some .int) 1 X q818 q819 q820 q1 q821 hd_X7_count ⟨(Nat.le_of_ble_eq_true rfl), (Nat.le_of_ble_eq_true rfl)⟩) (by omega) hO174.ma rfl rfl hl.1 rfl (Nat.le_of_ble_eq_true rfl) dL_areBoats_10 ⟨(Nat.le_of_ble_eq_true rfl), (Nat.le_of_ble_eq_true rfl)⟩ (fun v176 F177 H locs hp hw => ?_)
    obtain ⟨e178, hO179, hf180⟩ := hp
    refine x_top e178 ?_
    replace hfr := hfr.tr hf180 (by omega) (by omega)
    refine lv_istore_n (lv' := [(3, .int (nI (ncl A))), (2, .int (nI (A 1))), (1, .int (nI 0)), (0, .ref (ad 0))]) X.1 X.2.1 dL_areBoats_13 rfl hl (by decide) rfl (fun ls hl => ?_)
    refine lv_iconst (v := nI 0) X.1 X.2.1 dL_areBoats_14 (by decide) ?_
    refine lv_istore (lv' := [(4, .int (nI 0)), (3, .int (nI (ncl A))), (2, .int (nI (A 1))), (1, .int (nI 0)), (0, .ref (ad 0))]) X.1 X.2.1 dL_areBoats_15 hl (by decide) rfl (fun ls hl => ?_)
    have way17 : ∀ (b : Nat) (F1 : Nat → va_E) (hb1 : b ≤ A 1) (hOB : OB ad cI cB cS F1 hs A A3) (hfr : Fr F F1 0 111) (hx : A 1 ≤ b) (H : Heap) (locs : List Loc) (hw : HW D (Af ad N s.heap.size) ad N F1 s H locs) (ls : Array Slot) (hl : lv_has ls 13 [(1, .int (nI (orN A b))), (4, .int (nI b)), (3, .int (nI (ncl A))), (2, .int (nI (A 1))), (0, .ref (ad 0))]), W p l e { frames := 7, cells := 0, slots := 0, locals := 160 } s m [.ref (ad 0)].toArray below meth c H locs 0 0 (MQ below (va_Qi (fun v F' => v = nI 1 ∧ OB ad cI cB cS F' hs A A3 ∧ Fr F F' 0 111) (fun F' t => PO D ad N F' t) (Af ad N s.heap.size)) [.ref (ad 0)].toArray s 0 0 (Af ad N s.heap.size)) (F0 m 389 ls []) := by
      intro b F1 hb1 hOB hfr hx H locs hw ls hl
      have hob := or_b hJ b (by omega)
      have hall := or_all hJ hc hk
      have hba : b = A 1 := by omega
      have hoa : orN A b = orN A (A 1) := by rw [hba]
      have hob2 := or_b hJ (A 1) (Nat.le_refl _)
      refine lv_iload_n X.1 X.2.1 dL_areBoats_389 rfl (lv_at hl 0 rfl) ?_
      refine lv_iconst (v := nI 1) X.1 X.2.1 dL_areBoats_390 (by decide) ?_
      refine lv_iload_n X.1 X.2.1 dL_areBoats_391 rfl (lv_at hl 3 rfl) ?_
      refine lv_iconst (v := nI 1) X.1 X.2.1 dL_areBoats_392 (by decide) ?_
      refine lv_iadd X.1 X.2.1 dL_areBoats_393 ?_
      refine x_top (nI_add _ _) ?_
      refine lv_ishl X.1 X.2.1 dL_areBoats_394 ?_
      refine x_top (shl1 (k := (A 1) + 1) (by omega)) ?_
      refine lv_iconst (v := nI 2) X.1 X.2.1 dL_areBoats_395 (by decide) ?_
      refine lv_isub X.1 X.2.1 dL_areBoats_396 ?_
      refine x_top (pk_sub (by omega)) ?_
      refine lv_icmp_ne (tgt := 416) X.1 X.2.1 dL_areBoats_397 (by decide) (fun c181 => ?_) (fun c181 => ?_)
      · exact absurd ((nI_eq (by omega) (by omega)).mpr (by omega)) c181
      · have n182 := (nI_eq (by omega) (by omega)).mp c181
        refine lv_aload_n X.1 X.2.1 dL_areBoats_400 rfl (lv_at hl 4 rfl) ?_
        refine lv_iload_n X.1 X.2.1 dL_areBoats_401 rfl (lv_at hl 3 rfl) ?_
        refine lv_iconst (v := nI 1) X.1 X.2.1 dL_areBoats_402 (by decide) ?_
        refine lv_iadd X.1 X.2.1 dL_areBoats_403 ?_
        refine x_top (nI_add _ _) ?_
        refine x_callV X hK hw (k := 0) (As := [.int (nI ((A 1) + 1))]) (rest := []) (w_ranked hI (by omega) hJ hOB (nI (A 1 + 1)) (fun g t tm pt sm tl hE => a_rkd_no hJ hc hk hE tm pt sm tl)) (x_cwV yX7_ranked cX7_ranked 3 (some .int) 1 X q800 q801 q802 q1 q803 hd_X7_ranked ⟨(Nat.le_of_ble_eq_true rfl), (Nat.le_of_ble_eq_true rfl)⟩) (by omega) hOB.ma rfl rfl hl.1 rfl (Nat.le_of_ble_eq_true rfl) dL_areBoats_404 ⟨(Nat.le_of_ble_eq_true rfl), (Nat.le_of_ble_eq_true rfl)⟩ (fun v183 F184 H locs hp hw => ?_)
        obtain ⟨e185, hO186, hf187⟩ := hp
        refine x_top e185 ?_
        replace hfr := hfr.tr hf187 (by omega) (by omega)
        refine lv_bipush (v := (-5)) X.1 X.2.1 dL_areBoats_407 (by decide) ?_
        refine lv_icmp_ne (tgt := 416) X.1 X.2.1 dL_areBoats_409 (by decide) (fun c188 => ?_) (fun c188 => ?_)
        · exact absurd (by decide) c188
        · refine lv_iconst (v := nI 1) X.1 X.2.1 dL_areBoats_412 (by decide) ?_
          refine lv_goto (tgt := 417) X.1 X.2.1 dL_areBoats_413 (by decide) ?_
          exact x_iret X hr hlk hK hw (v := nI 1) (by first | rfl | exact nr_b _ | decide) (⟨rfl, hO186, hfr⟩) dL_areBoats_417
    have loop17 : ∀ (fu : Nat) (b : Nat) (F1 : Nat → va_E) (hfu : A 1 ≤ b + fu) (hb1 : b ≤ A 1) (hOB : OB ad cI cB cS F1 hs A A3) (hfr : Fr F F1 0 111) (H : Heap) (locs : List Loc) (hw : HW D (Af ad N s.heap.size) ad N F1 s H locs) (ls : Array Slot) (hl : lv_has ls 13 [(1, .int (nI (orN A b))), (4, .int (nI b)), (3, .int (nI (ncl A))), (2, .int (nI (A 1))), (0, .ref (ad 0))]), W p l e { frames := 7, cells := 0, slots := 0, locals := 160 } s m [.ref (ad 0)].toArray below meth c H locs 0 0 (MQ below (va_Qi (fun v F' => v = nI 1 ∧ OB ad cI cB cS F' hs A A3 ∧ Fr F F' 0 111) (fun F' t => PO D ad N F' t) (Af ad N s.heap.size)) [.ref (ad 0)].toArray s 0 0 (Af ad N s.heap.size)) (F0 m 17 ls []) := by
      intro fu
      induction fu with
      | zero =>
        intro b F1 hfu hb1 hOB hfr H locs hw ls hl
        have hob := or_b hJ b (by omega)
        refine lv_iload X.1 X.2.1 dL_areBoats_17 (lv_at hl 1 rfl) ?_
        refine lv_iload_n X.1 X.2.1 dL_areBoats_19 rfl (lv_at hl 3 rfl) ?_
        refine lv_icmp_ge (tgt := 389) X.1 X.2.1 dL_areBoats_20 (by decide) (fun c189 => ?_) (fun c189 => ?_)
        · have n190 := (nI_leI (by omega) (by omega)).mp c189
          exact way17 b F1 hb1 hOB hfr n190 _ _ hw _ (lv_sub hl [0, 1, 2, 3, 4] rfl)
        · exact absurd ((nI_leI (by omega) (by omega)).mpr (by omega)) c189
      | succ fu ih =>
        intro b F1 hfu hb1 hOB hfr H locs hw ls hl
        have hob := or_b hJ b (by omega)
        refine lv_iload X.1 X.2.1 dL_areBoats_17 (lv_at hl 1 rfl) ?_
        refine lv_iload_n X.1 X.2.1 dL_areBoats_19 rfl (lv_at hl 3 rfl) ?_
        refine lv_icmp_ge (tgt := 389) X.1 X.2.1 dL_areBoats_20 (by decide) (fun c191 => ?_) (fun c191 => ?_)
        · have n192 := (nI_leI (by omega) (by omega)).mp c191
          exact way17 b F1 hb1 hOB hfr n192 _ _ hw _ (lv_sub hl [0, 1, 2, 3, 4] rfl)
        · have n193 : ¬ (A 1) ≤ b := fun z => c191 ((nI_leI (by omega) (by omega)).mpr z)
          refine lv_iconst (v := nI 0) X.1 X.2.1 dL_areBoats_23 (by decide) ?_
          refine lv_istore (lv' := [(5, .int (nI 0)), (1, .int (nI (orN A b))), (4, .int (nI b)), (3, .int (nI (ncl A))), (2, .int (nI (A 1))), (0, .ref (ad 0))]) X.1 X.2.1 dL_areBoats_24 hl (by decide) rfl (fun ls hl => ?_)
          refine lv_iconst (v := nI 0) X.1 X.2.1 dL_areBoats_26 (by decide) ?_
          refine lv_istore (lv' := [(6, .int (nI 0)), (5, .int (nI 0)), (1, .int (nI (orN A b))), (4, .int (nI b)), (3, .int (nI (ncl A))), (2, .int (nI (A 1))), (0, .ref (ad 0))]) X.1 X.2.1 dL_areBoats_27 hl (by decide) rfl (fun ls hl => ?_)
          refine lv_iconst (v := nI 0) X.1 X.2.1 dL_areBoats_29 (by decide) ?_
          refine lv_istore (lv' := [(7, .int (nI 0)), (6, .int (nI 0)), (5, .int (nI 0)), (1, .int (nI (orN A b))), (4, .int (nI b)), (3, .int (nI (ncl A))), (2, .int (nI (A 1))), (0, .ref (ad 0))]) X.1 X.2.1 dL_areBoats_30 hl (by decide) rfl (fun ls hl => ?_)
          refine lv_aload_n X.1 X.2.1 dL_areBoats_32 rfl (lv_at hl 7 rfl) ?_
          refine lv_iload X.1 X.2.1 dL_areBoats_33 (lv_at hl 4 rfl) ?_
          refine lv_iconst (v := nI 3) X.1 X.2.1 dL_areBoats_35 (by decide) ?_
          refine x_callV X hK hw (k := 0) (As := [.int (nI b), .int (nI 3)]) (rest := []) (w_boat hI (by omega) hJ hOB (nI b) (nI 3) (fun g t tm pt sm tl hE => (a_boa3 hJ hc hk hE (by omega) tm pt sm tl).trans (if_neg hd))) (x_cwV yX7_boat cX7_boat 3 (some .int) 2 X q755 q756 q757 q1 q758 hd_X7_boat ⟨(Nat.le_of_ble_eq_true rfl), (Nat.le_of_ble_eq_true rfl)⟩) (by omega) hOB.ma rfl rfl hl.1 rfl (Nat.le_of_ble_eq_true rfl) dL_areBoats_36 ⟨(Nat.le_of_ble_eq_true rfl), (Nat.le_of_ble_eq_true rfl)⟩ (fun v194 F195 H locs hp hw => ?_)
          obtain ⟨e196, hO197, hf198⟩ := hp
          refine x_top e196 ?_
          replace hfr := hfr.tr hf198 (by omega) (by omega)
          refine lv_istore (lv' := [(8, .int ((-5))), (7, .int (nI 0)), (6, .int (nI 0)), (5, .int (nI 0)), (1, .int (nI (orN A b))), (4, .int (nI b)), (3, .int (nI (ncl A))), (2, .int (nI (A 1))), (0, .ref (ad 0))]) X.1 X.2.1 dL_areBoats_39 hl (by decide) rfl (fun ls hl => ?_)
          refine lv_iconst (v := nI 0) X.1 X.2.1 dL_areBoats_41 (by decide) ?_
          refine lv_istore (lv' := [(9, .int (nI 0)), (8, .int ((-5))), (7, .int (nI 0)), (6, .int (nI 0)), (5, .int (nI 0)), (1, .int (nI (orN A b))), (4, .int (nI b)), (3, .int (nI (ncl A))), (2, .int (nI (A 1))), (0, .ref (ad 0))]) X.1 X.2.1 dL_areBoats_42 hl (by decide) rfl (fun ls hl => ?_)
          have way44 : ∀ (r : Nat) (F2 : Nat → va_E) (hr2 : r ≤ ncl A) (hOC : OB ad cI cB cS F2 hs A A3) (hfr : Fr F F2 0 111) (hx2 : ncl A ≤ r) (H : Heap) (locs : List Loc) (hw : HW D (Af ad N s.heap.size) ad N F2 s H locs) (ls : Array Slot) (hl : lv_has ls 13 [(5, .int (nI (smN A b r))), (6, .int (nI (pfN A b 1 r))), (7, .int (nI (mxN A b r))), (9, .int (nI r)), (8, .int ((-5))), (1, .int (nI (orN A b))), (4, .int (nI b)), (3, .int (nI (ncl A))), (2, .int (nI (A 1))), (0, .ref (ad 0))]), W p l e { frames := 7, cells := 0, slots := 0, locals := 160 } s m [.ref (ad 0)].toArray below meth c H locs 0 0 (MQ below (va_Qi (fun v F' => v = nI 1 ∧ OB ad cI cB cS F' hs A A3 ∧ Fr F F' 0 111) (fun F' t => PO D ad N F' t) (Af ad N s.heap.size)) [.ref (ad 0)].toArray s 0 0 (Af ad N s.heap.size)) (F0 m 115 ls []) := by
            intro r F2 hr2 hOC hfr hx2 H locs hw ls hl
            have era : r = ncl A := by omega
            subst era
            have hmx2 := (mx_le (A := A) (b := b) (ncl A)).2.1
            have hsm := (sum_n hJ hc hk (b := b) (by omega) (ncl A) ncl_le).2
            have hpf := (pof_n hJ hc hk (b := b) (w := 1) (by omega) (by omega) (ncl A) ncl_le).2
            have hrk := rkN_b hJ (b := b) (by omega)
            have hto := (tot_n hJ hc hk (b := b) (by omega)).2
            have htN : toN A b = smN A b (ncl A) - 0 := by unfold toN; rw [if_neg hd]
            refine lv_aload_n X.1 X.2.1 dL_areBoats_115 rfl (lv_at hl 9 rfl) ?_
            refine lv_bipush (v := nI 8) X.1 X.2.1 dL_areBoats_116 (by decide) ?_
            refine x_callV X hK hw (k := 0) (As := [.int (nI 8)]) (rest := []) (w_count hI (by omega) hOC (nI 8) (fun g t z n hE => a_cou8 hJ hc hk hE z n)) (x_cwV yX7_count cX7_count 2 (some .int) 1 X q818 q819 q820 q1 q821 hd_X7_count ⟨(Nat.le_of_ble_eq_true rfl), (Nat.le_of_ble_eq_true rfl)⟩) (by omega) hOC.ma rfl rfl hl.1 rfl (Nat.le_of_ble_eq_true rfl) dL_areBoats_118 ⟨(Nat.le_of_ble_eq_true rfl), (Nat.le_of_ble_eq_true rfl)⟩ (fun v199 F200 H locs hp hw => ?_)
            obtain ⟨e201, hO202, hf203⟩ := hp
            refine x_top e201 ?_
            replace hfr := hfr.tr hf203 (by omega) (by omega)
            refine lv_if_le (tgt := 138) X.1 X.2.1 dL_areBoats_121 (by decide) (fun c204 => ?_) (fun c204 => ?_)
            · have n205 := (bz_le (by omega)).mp c204
              refine lv_iconst (v := nI 0) X.1 X.2.1 dL_areBoats_138 (by decide) ?_
              refine lv_istore (lv' := [(9, .int (nI 0)), (5, .int (nI (smN A b (ncl A)))), (6, .int (nI (pfN A b 1 (ncl A)))), (7, .int (nI (mxN A b (ncl A)))), (8, .int ((-5))), (1, .int (nI (orN A b))), (4, .int (nI b)), (3, .int (nI (ncl A))), (2, .int (nI (A 1))), (0, .ref (ad 0))]) X.1 X.2.1 dL_areBoats_139 hl (by decide) rfl (fun ls hl => ?_)
              refine lv_aload_n X.1 X.2.1 dL_areBoats_141 rfl (lv_at hl 9 rfl) ?_
              refine lv_iload X.1 X.2.1 dL_areBoats_142 (lv_at hl 6 rfl) ?_
              refine lv_iconst (v := nI 2) X.1 X.2.1 dL_areBoats_144 (by decide) ?_
              refine x_callV X hK hw (k := 0) (As := [.int (nI b), .int (nI 2)]) (rest := []) (w_boat hI (by omega) hJ hO202 (nI b) (nI 2) (fun g t tm pt sm tl hE => a_boa2 hJ hc hk hE (by omega) tm pt sm tl)) (x_cwV yX7_boat cX7_boat 3 (some .int) 2 X q755 q756 q757 q1 q758 hd_X7_boat ⟨(Nat.le_of_ble_eq_true rfl), (Nat.le_of_ble_eq_true rfl)⟩) (by omega) hO202.ma rfl rfl hl.1 rfl (Nat.le_of_ble_eq_true rfl) dL_areBoats_145 ⟨(Nat.le_of_ble_eq_true rfl), (Nat.le_of_ble_eq_true rfl)⟩ (fun v206 F207 H locs hp hw => ?_)
              obtain ⟨e208, hO209, hf210⟩ := hp
              refine x_top e208 ?_
              replace hfr := hfr.tr hf210 (by omega) (by omega)
              refine lv_istore (lv' := [(10, .int (nI (rkN A b))), (9, .int (nI 0)), (5, .int (nI (smN A b (ncl A)))), (6, .int (nI (pfN A b 1 (ncl A)))), (7, .int (nI (mxN A b (ncl A)))), (8, .int ((-5))), (1, .int (nI (orN A b))), (4, .int (nI b)), (3, .int (nI (ncl A))), (2, .int (nI (A 1))), (0, .ref (ad 0))]) X.1 X.2.1 dL_areBoats_148 hl (by decide) rfl (fun ls hl => ?_)
              refine lv_iload_n X.1 X.2.1 dL_areBoats_150 rfl (lv_at hl 6 rfl) ?_
              refine lv_iconst (v := nI 1) X.1 X.2.1 dL_areBoats_151 (by decide) ?_
              refine lv_iload X.1 X.2.1 dL_areBoats_152 (lv_at hl 0 rfl) ?_
              refine lv_ishl X.1 X.2.1 dL_areBoats_154 ?_
              refine x_top (shl1 (k := rkN A b) (by omega)) ?_
              refine lv_ior X.1 X.2.1 dL_areBoats_155 ?_
              refine x_top (or_nI _ _) ?_
              refine x_top (y := nI (orN A (b + 1))) rfl ?_
              refine lv_istore_n (lv' := [(1, .int (nI (orN A (b + 1)))), (10, .int (nI (rkN A b))), (9, .int (nI 0)), (5, .int (nI (smN A b (ncl A)))), (6, .int (nI (pfN A b 1 (ncl A)))), (7, .int (nI (mxN A b (ncl A)))), (8, .int ((-5))), (4, .int (nI b)), (3, .int (nI (ncl A))), (2, .int (nI (A 1))), (0, .ref (ad 0))]) X.1 X.2.1 dL_areBoats_156 rfl hl (by decide) rfl (fun ls hl => ?_)
              refine lv_iload X.1 X.2.1 dL_areBoats_157 (lv_at hl 6 rfl) ?_
              refine lv_if_lt (tgt := 166) X.1 X.2.1 dL_areBoats_159 (by decide) (fun c211 => ?_) (fun c211 => ?_)
              · refine lv_iconst (v := nI 0) X.1 X.2.1 dL_areBoats_166 (by decide) ?_
                refine lv_iload X.1 X.2.1 dL_areBoats_167 (lv_at hl 2 rfl) ?_
                refine lv_icmp_ne (tgt := 267) X.1 X.2.1 dL_areBoats_169 (by decide) (fun c212 => ?_) (fun c212 => ?_)
                · exact absurd (by decide) c212
                · refine lv_aload_n X.1 X.2.1 dL_areBoats_172 rfl (lv_at hl 10 rfl) ?_
                  refine lv_iload X.1 X.2.1 dL_areBoats_173 (lv_at hl 7 rfl) ?_
                  refine lv_iconst (v := nI 1) X.1 X.2.1 dL_areBoats_175 (by decide) ?_
                  refine x_callV X hK hw (k := 0) (As := [.int (nI b), .int (nI 1)]) (rest := []) (w_boat hI (by omega) hJ hO209 (nI b) (nI 1) (fun g t tm pt sm tl hE => a_boa1 hJ hc hk hE (by omega) tm pt sm tl)) (x_cwV yX7_boat cX7_boat 3 (some .int) 2 X q755 q756 q757 q1 q758 hd_X7_boat ⟨(Nat.le_of_ble_eq_true rfl), (Nat.le_of_ble_eq_true rfl)⟩) (by omega) hO209.ma rfl rfl hl.1 rfl (Nat.le_of_ble_eq_true rfl) dL_areBoats_176 ⟨(Nat.le_of_ble_eq_true rfl), (Nat.le_of_ble_eq_true rfl)⟩ (fun v213 F214 H locs hp hw => ?_)
                  obtain ⟨e215, hO216, hf217⟩ := hp
                  refine x_top e215 ?_
                  replace hfr := hfr.tr hf217 (by omega) (by omega)
                  refine lv_iload X.1 X.2.1 dL_areBoats_179 (lv_at hl 3 rfl) ?_
                  refine lv_iload X.1 X.2.1 dL_areBoats_181 (lv_at hl 2 rfl) ?_
                  refine lv_if_eq (tgt := 191) X.1 X.2.1 dL_areBoats_183 (by decide) (fun c218 => ?_) (fun c218 => ?_)
                  · refine lv_iconst (v := nI 0) X.1 X.2.1 dL_areBoats_191 (by decide) ?_
                    refine lv_isub X.1 X.2.1 dL_areBoats_192 ?_
                    refine x_top (pk_sub (by omega)) ?_
                    refine lv_icmp_ne (tgt := 267) X.1 X.2.1 dL_areBoats_193 (by decide) (fun c219 => ?_) (fun c219 => ?_)
                    · exact absurd ((nI_eq (by omega) (by omega)).mpr (by omega)) c219
                    · have n220 := (nI_eq (by omega) (by omega)).mp c219
                      refine lv_iload X.1 X.2.1 dL_areBoats_196 (lv_at hl 2 rfl) ?_
                      refine lv_if_eq (tgt := 216) X.1 X.2.1 dL_areBoats_198 (by decide) (fun c221 => ?_) (fun c221 => ?_)
                      · refine lv_aload_n X.1 X.2.1 dL_areBoats_216 rfl (lv_at hl 10 rfl) ?_
                        refine lv_iload X.1 X.2.1 dL_areBoats_217 (lv_at hl 7 rfl) ?_
                        refine lv_iconst (v := nI 4) X.1 X.2.1 dL_areBoats_219 (by decide) ?_
                        refine x_callV X hK hw (k := 0) (As := [.int (nI b), .int (nI 4)]) (rest := []) (w_boat hI (by omega) hJ hO216 (nI b) (nI 4) (fun g t tm pt sm tl hE => a_boa4 hJ hc hk hE (by omega) tm pt sm tl)) (x_cwV yX7_boat cX7_boat 3 (some .int) 2 X q755 q756 q757 q1 q758 hd_X7_boat ⟨(Nat.le_of_ble_eq_true rfl), (Nat.le_of_ble_eq_true rfl)⟩) (by omega) hO216.ma rfl rfl hl.1 rfl (Nat.le_of_ble_eq_true rfl) dL_areBoats_220 ⟨(Nat.le_of_ble_eq_true rfl), (Nat.le_of_ble_eq_true rfl)⟩ (fun v222 F223 H locs hp hw => ?_)
                        obtain ⟨e224, hO225, hf226⟩ := hp
                        refine x_top e224 ?_
                        replace hfr := hfr.tr hf226 (by omega) (by omega)
                        refine lv_iload X.1 X.2.1 dL_areBoats_223 (lv_at hl 4 rfl) ?_
                        refine lv_icmp_ne (tgt := 267) X.1 X.2.1 dL_areBoats_225 (by decide) (fun c227 => ?_) (fun c227 => ?_)
                        · exact absurd ((nI_eq (by omega) (by omega)).mpr (by omega)) c227
                        · have n228 := (nI_eq (by omega) (by omega)).mp c227
                          refine lv_aload_n X.1 X.2.1 dL_areBoats_228 rfl (lv_at hl 10 rfl) ?_
                          refine lv_iload X.1 X.2.1 dL_areBoats_229 (lv_at hl 1 rfl) ?_
                          refine x_callV X hK hw (k := 0) (As := [.int (nI (rkN A b))]) (rest := []) (w_ranked hI (by omega) hJ hO225 (nI (rkN A b)) (fun g t tm pt sm tl hE => a_rkd hJ hc hk hE (k := rkN A b) (b := b) (by omega) (by omega) ⟨by omega, rfl⟩ tm pt sm tl)) (x_cwV yX7_ranked cX7_ranked 3 (some .int) 1 X q800 q801 q802 q1 q803 hd_X7_ranked ⟨(Nat.le_of_ble_eq_true rfl), (Nat.le_of_ble_eq_true rfl)⟩) (by omega) hO225.ma rfl rfl hl.1 rfl (Nat.le_of_ble_eq_true rfl) dL_areBoats_231 ⟨(Nat.le_of_ble_eq_true rfl), (Nat.le_of_ble_eq_true rfl)⟩ (fun v229 F230 H locs hp hw => ?_)
                          obtain ⟨e231, hO232, hf233⟩ := hp
                          refine x_top e231 ?_
                          replace hfr := hfr.tr hf233 (by omega) (by omega)
                          refine lv_iload X.1 X.2.1 dL_areBoats_234 (lv_at hl 7 rfl) ?_
                          refine lv_icmp_ne (tgt := 267) X.1 X.2.1 dL_areBoats_236 (by decide) (fun c234 => ?_) (fun c234 => ?_)
                          · exact absurd ((nI_eq (by omega) (by omega)).mpr (by omega)) c234
                          · have n235 := (nI_eq (by omega) (by omega)).mp c234
                            by_cases hz0 : ncl A = 0
                            · refine lv_aload_n X.1 X.2.1 dL_areBoats_239 rfl (lv_at hl 10 rfl) ?_
                              refine lv_iload X.1 X.2.1 dL_areBoats_240 (lv_at hl 7 rfl) ?_
                              refine x_callVf X hK hw (k := 0) (As := [.int (nI b)]) (rest := []) (w_mean hI (by omega) hJ hc hk hO232 (b := b) (by omega)) (x_cwV yX7_mean cX7_mean 3 (some .float) 1 X q854 q855 q856 q1 q857 hd_X7_mean ⟨(Nat.le_of_ble_eq_true rfl), (Nat.le_of_ble_eq_true rfl)⟩) (by omega) hO232.ma rfl rfl hl.1 rfl (Nat.le_of_ble_eq_true rfl) dL_areBoats_242 ⟨(Nat.le_of_ble_eq_true rfl), (Nat.le_of_ble_eq_true rfl)⟩ (fun v236 F237 H locs hp hw => ?_)
                              obtain ⟨e238, hO239, hf240⟩ := hp
                              rw [e238]
                              replace hfr := hfr.tr hf240 (by omega) (by omega)
                              rw [if_pos hz0]
                              refine lv_iload_n X.1 X.2.1 dL_areBoats_245 rfl (lv_at hl 8 rfl) ?_
                              refine lv_if_ne (tgt := 253) X.1 X.2.1 dL_areBoats_246 (by decide) (fun c241 => ?_) (fun c241 => ?_)
                              · exact absurd ((bz_eq (by omega)).mpr (by omega)) c241
                              · have n242 := (bz_eq (by omega)).mp c241
                                refine lv_fconst0 X.1 X.2.1 dL_areBoats_249 ?_
                                refine lv_goto (tgt := 259) X.1 X.2.1 dL_areBoats_250 (by decide) ?_
                                refine lv_fcmp X.1 X.2.1 dL_areBoats_259 ?_
                                refine x_top (mn_fz) ?_
                                refine lv_if_ne (tgt := 267) X.1 X.2.1 dL_areBoats_260 (by decide) (fun c243 => ?_) (fun c243 => ?_)
                                · exact absurd (by decide) c243
                                · refine lv_iconst (v := nI 1) X.1 X.2.1 dL_areBoats_263 (by decide) ?_
                                  refine lv_goto (tgt := 268) X.1 X.2.1 dL_areBoats_264 (by decide) ?_
                                  refine lv_istore (lv' := [(11, .int (nI 1)), (1, .int (nI (orN A (b + 1)))), (10, .int (nI (rkN A b))), (9, .int (nI 0)), (5, .int (nI (smN A b (ncl A)))), (6, .int (nI (pfN A b 1 (ncl A)))), (7, .int (nI (mxN A b (ncl A)))), (8, .int ((-5))), (4, .int (nI b)), (3, .int (nI (ncl A))), (2, .int (nI (A 1))), (0, .ref (ad 0))]) X.1 X.2.1 dL_areBoats_268 hl (by decide) rfl (fun ls hl => ?_)
                                  refine lv_iload X.1 X.2.1 dL_areBoats_270 (lv_at hl 7 rfl) ?_
                                  refine lv_iconst (v := nI 1) X.1 X.2.1 dL_areBoats_272 (by decide) ?_
                                  refine lv_iadd X.1 X.2.1 dL_areBoats_273 ?_
                                  refine x_top (show (-5) + nI 1 = (-4) by decide) ?_
                                  refine lv_istore (lv' := [(12, .int ((-4))), (11, .int (nI 1)), (1, .int (nI (orN A (b + 1)))), (10, .int (nI (rkN A b))), (9, .int (nI 0)), (5, .int (nI (smN A b (ncl A)))), (6, .int (nI (pfN A b 1 (ncl A)))), (7, .int (nI (mxN A b (ncl A)))), (8, .int ((-5))), (4, .int (nI b)), (3, .int (nI (ncl A))), (2, .int (nI (A 1))), (0, .ref (ad 0))]) X.1 X.2.1 dL_areBoats_274 hl (by decide) rfl (fun ls hl => ?_)
                                  refine lv_iload X.1 X.2.1 dL_areBoats_276 (lv_at hl 0 rfl) ?_
                                  refine lv_iload_n X.1 X.2.1 dL_areBoats_278 rfl (lv_at hl 10 rfl) ?_
                                  refine lv_icmp_ge (tgt := 320) X.1 X.2.1 dL_areBoats_279 (by decide) (fun c244 => ?_) (fun c244 => ?_)
                                  · exact absurd c244 (nI_nleN (by omega) (by decide))
                                  · refine lv_iload X.1 X.2.1 dL_areBoats_282 (lv_at hl 4 rfl) ?_
                                    refine lv_if_eq (tgt := 320) X.1 X.2.1 dL_areBoats_284 (by decide) (fun c245 => ?_) (fun c245 => ?_)
                                    · refine lv_iconst (v := nI 0) X.1 X.2.1 dL_areBoats_320 (by decide) ?_
                                      refine lv_istore (lv' := [(12, .int (nI 0)), (11, .int (nI 1)), (1, .int (nI (orN A (b + 1)))), (10, .int (nI (rkN A b))), (9, .int (nI 0)), (5, .int (nI (smN A b (ncl A)))), (6, .int (nI (pfN A b 1 (ncl A)))), (7, .int (nI (mxN A b (ncl A)))), (8, .int ((-5))), (4, .int (nI b)), (3, .int (nI (ncl A))), (2, .int (nI (A 1))), (0, .ref (ad 0))]) X.1 X.2.1 dL_areBoats_321 hl (by decide) rfl (fun ls hl => ?_)
                                      have way323 : ∀ (k : Nat) (F4 : Nat → va_E) (hk4 : k ≤ A 1) (hOE : OB ad cI cB cS F4 hs A A3) (hfr : Fr F F4 0 111) (hx4 : True) (H : Heap) (locs : List Loc) (hw : HW D (Af ad N s.heap.size) ad N F4 s H locs) (ls : Array Slot) (hl : lv_has ls 13 [(12, .int (nI k)), (11, .int (nI 1)), (1, .int (nI (orN A (b + 1)))), (10, .int (nI (rkN A b))), (9, .int (nI 0)), (5, .int (nI (smN A b (ncl A)))), (6, .int (nI (pfN A b 1 (ncl A)))), (7, .int (nI (mxN A b (ncl A)))), (8, .int ((-5))), (4, .int (nI b)), (3, .int (nI (ncl A))), (2, .int (nI (A 1))), (0, .ref (ad 0))]), W p l e { frames := 7, cells := 0, slots := 0, locals := 160 } s m [.ref (ad 0)].toArray below meth c H locs 0 0 (MQ below (va_Qi (fun v F' => v = nI 1 ∧ OB ad cI cB cS F' hs A A3 ∧ Fr F F' 0 111) (fun F' t => PO D ad N F' t) (Af ad N s.heap.size)) [.ref (ad 0)].toArray s 0 0 (Af ad N s.heap.size)) (F0 m 376 ls []) := by
                                        intro k F4 hk4 hOE hfr hx4 H locs hw ls hl
                                        refine lv_iload X.1 X.2.1 dL_areBoats_376 (lv_at hl 1 rfl) ?_
                                        refine lv_if_ne (tgt := 383) X.1 X.2.1 dL_areBoats_378 (by decide) (fun c246 => ?_) (fun c246 => ?_)
                                        · refine lv_iinc (v := nI (b + 1)) (lv' := [(4, .int (nI (b + 1))), (12, .int (nI k)), (11, .int (nI 1)), (1, .int (nI (orN A (b + 1)))), (10, .int (nI (rkN A b))), (9, .int (nI 0)), (5, .int (nI (smN A b (ncl A)))), (6, .int (nI (pfN A b 1 (ncl A)))), (7, .int (nI (mxN A b (ncl A)))), (8, .int ((-5))), (3, .int (nI (ncl A))), (2, .int (nI (A 1))), (0, .ref (ad 0))]) X.1 X.2.1 dL_areBoats_383 hl (k := 9) rfl (by first | exact nI_1 _ | exact nI_add _ _ | rfl) (by decide) rfl (fun ls hl => ?_)
                                          refine lv_goto (tgt := 17) X.1 X.2.1 dL_areBoats_386 (by decide) ?_
                                          exact ih (b + 1) F4 (by omega) (by omega) hOE hfr _ _ hw _ (lv_sub hl [3, 0, 10, 11, 12] rfl)
                                        · exact absurd c246 (by decide)
                                      have loop323 : ∀ (fu4 : Nat) (k : Nat) (F4 : Nat → va_E) (hfu4 : A 1 ≤ k + fu4) (hk4 : k ≤ A 1) (hOE : OB ad cI cB cS F4 hs A A3) (hfr : Fr F F4 0 111) (H : Heap) (locs : List Loc) (hw : HW D (Af ad N s.heap.size) ad N F4 s H locs) (ls : Array Slot) (hl : lv_has ls 13 [(12, .int (nI k)), (11, .int (nI 1)), (1, .int (nI (orN A (b + 1)))), (10, .int (nI (rkN A b))), (9, .int (nI 0)), (5, .int (nI (smN A b (ncl A)))), (6, .int (nI (pfN A b 1 (ncl A)))), (7, .int (nI (mxN A b (ncl A)))), (8, .int ((-5))), (4, .int (nI b)), (3, .int (nI (ncl A))), (2, .int (nI (A 1))), (0, .ref (ad 0))]), W p l e { frames := 7, cells := 0, slots := 0, locals := 160 } s m [.ref (ad 0)].toArray below meth c H locs 0 0 (MQ below (va_Qi (fun v F' => v = nI 1 ∧ OB ad cI cB cS F' hs A A3 ∧ Fr F F' 0 111) (fun F' t => PO D ad N F' t) (Af ad N s.heap.size)) [.ref (ad 0)].toArray s 0 0 (Af ad N s.heap.size)) (F0 m 323 ls []) := by
                                        intro fu4
                                        induction fu4 with
                                        | zero =>
                                          intro k F4 hfu4 hk4 hOE hfr H locs hw ls hl
                                          refine lv_iload X.1 X.2.1 dL_areBoats_323 (lv_at hl 0 rfl) ?_
                                          refine lv_iload_n X.1 X.2.1 dL_areBoats_325 rfl (lv_at hl 11 rfl) ?_
                                          refine lv_icmp_ge (tgt := 376) X.1 X.2.1 dL_areBoats_326 (by decide) (fun c247 => ?_) (fun c247 => ?_)
                                          · have n248 := (nI_leI (by omega) (by omega)).mp c247
                                            exact way323 k F4 hk4 hOE hfr trivial _ _ hw _ (lv_sub hl [0, 1, 2, 3, 4, 5, 6, 7, 8, 9, 10, 11, 12] rfl)
                                          · exact absurd ((nI_leI (by omega) (by omega)).mpr (by omega)) c247
                                        | succ fu4 ih4 =>
                                          intro k F4 hfu4 hk4 hOE hfr H locs hw ls hl
                                          refine lv_iload X.1 X.2.1 dL_areBoats_323 (lv_at hl 0 rfl) ?_
                                          refine lv_iload_n X.1 X.2.1 dL_areBoats_325 rfl (lv_at hl 11 rfl) ?_
                                          refine lv_icmp_ge (tgt := 376) X.1 X.2.1 dL_areBoats_326 (by decide) (fun c249 => ?_) (fun c249 => ?_)
                                          · have n250 := (nI_leI (by omega) (by omega)).mp c249
                                            exact way323 k F4 hk4 hOE hfr trivial _ _ hw _ (lv_sub hl [0, 1, 2, 3, 4, 5, 6, 7, 8, 9, 10, 11, 12] rfl)
                                          · have n251 : ¬ (A 1) ≤ k := fun z => c249 ((nI_leI (by omega) (by omega)).mpr z)
                                            refine lv_iload X.1 X.2.1 dL_areBoats_329 (lv_at hl 1 rfl) ?_
                                            refine lv_if_eq (tgt := 376) X.1 X.2.1 dL_areBoats_331 (by decide) (fun c252 => ?_) (fun c252 => ?_)
                                            · exact absurd c252 (by decide)
                                            · have hrk2 := rkN_b hJ (b := k) (by omega)
                                              have hto2 := (tot_n hJ hc hk (b := k) (by omega)).2
                                              have hlt2 : toN A k < toN A b → rkN A k < rkN A b := fun q => rkN_lt hJ hc hk (by omega) (by omega) q
                                              refine lv_aload_n X.1 X.2.1 dL_areBoats_334 rfl (lv_at hl 12 rfl) ?_
                                              refine lv_iload X.1 X.2.1 dL_areBoats_335 (lv_at hl 0 rfl) ?_
                                              refine lv_iconst (v := nI 1) X.1 X.2.1 dL_areBoats_337 (by decide) ?_
                                              refine x_callV X hK hw (k := 0) (As := [.int (nI k), .int (nI 1)]) (rest := []) (w_boat hI (by omega) hJ hOE (nI k) (nI 1) (fun g t tm pt sm tl hE => a_boa1 hJ hc hk hE (by omega) tm pt sm tl)) (x_cwV yX7_boat cX7_boat 3 (some .int) 2 X q755 q756 q757 q1 q758 hd_X7_boat ⟨(Nat.le_of_ble_eq_true rfl), (Nat.le_of_ble_eq_true rfl)⟩) (by omega) hOE.ma rfl rfl hl.1 rfl (Nat.le_of_ble_eq_true rfl) dL_areBoats_338 ⟨(Nat.le_of_ble_eq_true rfl), (Nat.le_of_ble_eq_true rfl)⟩ (fun v253 F254 H locs hp hw => ?_)
                                              obtain ⟨e255, hO256, hf257⟩ := hp
                                              refine x_top e255 ?_
                                              replace hfr := hfr.tr hf257 (by omega) (by omega)
                                              refine lv_aload_n X.1 X.2.1 dL_areBoats_341 rfl (lv_at hl 12 rfl) ?_
                                              refine lv_iload X.1 X.2.1 dL_areBoats_342 (lv_at hl 9 rfl) ?_
                                              refine lv_iconst (v := nI 1) X.1 X.2.1 dL_areBoats_344 (by decide) ?_
                                              refine x_callV X hK hw (k := 0) (As := [.int (nI b), .int (nI 1)]) (rest := [.int (nI (toN A k))]) (w_boat hI (by omega) hJ hO256 (nI b) (nI 1) (fun g t tm pt sm tl hE => a_boa1 hJ hc hk hE (by omega) tm pt sm tl)) (x_cwV yX7_boat cX7_boat 3 (some .int) 2 X q755 q756 q757 q1 q758 hd_X7_boat ⟨(Nat.le_of_ble_eq_true rfl), (Nat.le_of_ble_eq_true rfl)⟩) (by omega) hO256.ma rfl rfl hl.1 rfl (Nat.le_of_ble_eq_true rfl) dL_areBoats_345 ⟨(Nat.le_of_ble_eq_true rfl), (Nat.le_of_ble_eq_true rfl)⟩ (fun v258 F259 H locs hp hw => ?_)
                                              obtain ⟨e260, hO261, hf262⟩ := hp
                                              refine x_top e260 ?_
                                              replace hfr := hfr.tr hf262 (by omega) (by omega)
                                              refine lv_icmp_ge (tgt := 363) X.1 X.2.1 dL_areBoats_348 (by decide) (fun c263 => ?_) (fun c263 => ?_)
                                              · have n264 := (nI_leI (by omega) (by omega)).mp c263
                                                refine lv_iconst (v := nI 1) X.1 X.2.1 dL_areBoats_363 (by decide) ?_
                                                refine lv_goto (tgt := 368) X.1 X.2.1 dL_areBoats_364 (by decide) ?_
                                                refine lv_istore (lv' := [(11, .int (nI 1)), (12, .int (nI k)), (1, .int (nI (orN A (b + 1)))), (10, .int (nI (rkN A b))), (9, .int (nI 0)), (5, .int (nI (smN A b (ncl A)))), (6, .int (nI (pfN A b 1 (ncl A)))), (7, .int (nI (mxN A b (ncl A)))), (8, .int ((-5))), (4, .int (nI b)), (3, .int (nI (ncl A))), (2, .int (nI (A 1))), (0, .ref (ad 0))]) X.1 X.2.1 dL_areBoats_368 hl (by decide) rfl (fun ls hl => ?_)
                                                refine lv_iinc (v := nI (k + 1)) (lv' := [(12, .int (nI (k + 1))), (11, .int (nI 1)), (1, .int (nI (orN A (b + 1)))), (10, .int (nI (rkN A b))), (9, .int (nI 0)), (5, .int (nI (smN A b (ncl A)))), (6, .int (nI (pfN A b 1 (ncl A)))), (7, .int (nI (mxN A b (ncl A)))), (8, .int ((-5))), (4, .int (nI b)), (3, .int (nI (ncl A))), (2, .int (nI (A 1))), (0, .ref (ad 0))]) X.1 X.2.1 dL_areBoats_370 hl (k := 1) rfl (by first | exact nI_1 _ | exact nI_add _ _ | rfl) (by decide) rfl (fun ls hl => ?_)
                                                refine lv_goto (tgt := 323) X.1 X.2.1 dL_areBoats_373 (by decide) ?_
                                                exact ih4 (k + 1) F259 (by omega) (by omega) hO261 hfr _ _ hw _ (lv_sub hl [0, 1, 2, 3, 4, 5, 6, 7, 8, 9, 10, 11, 12] rfl)
                                              · have n265 : ¬ (toN A b) ≤ (toN A k) := fun z => c263 ((nI_leI (by omega) (by omega)).mpr z)
                                                refine lv_aload_n X.1 X.2.1 dL_areBoats_351 rfl (lv_at hl 12 rfl) ?_
                                                refine lv_iload X.1 X.2.1 dL_areBoats_352 (lv_at hl 0 rfl) ?_
                                                refine lv_iconst (v := nI 2) X.1 X.2.1 dL_areBoats_354 (by decide) ?_
                                                refine x_callV X hK hw (k := 0) (As := [.int (nI k), .int (nI 2)]) (rest := []) (w_boat hI (by omega) hJ hO261 (nI k) (nI 2) (fun g t tm pt sm tl hE => a_boa2 hJ hc hk hE (by omega) tm pt sm tl)) (x_cwV yX7_boat cX7_boat 3 (some .int) 2 X q755 q756 q757 q1 q758 hd_X7_boat ⟨(Nat.le_of_ble_eq_true rfl), (Nat.le_of_ble_eq_true rfl)⟩) (by omega) hO261.ma rfl rfl hl.1 rfl (Nat.le_of_ble_eq_true rfl) dL_areBoats_355 ⟨(Nat.le_of_ble_eq_true rfl), (Nat.le_of_ble_eq_true rfl)⟩ (fun v266 F267 H locs hp hw => ?_)
                                                obtain ⟨e268, hO269, hf270⟩ := hp
                                                refine x_top e268 ?_
                                                replace hfr := hfr.tr hf270 (by omega) (by omega)
                                                refine lv_iload X.1 X.2.1 dL_areBoats_358 (lv_at hl 3 rfl) ?_
                                                refine lv_icmp_ge (tgt := 367) X.1 X.2.1 dL_areBoats_360 (by decide) (fun c271 => ?_) (fun c271 => ?_)
                                                · exact absurd ((nI_leI (by omega) (by omega)).mp c271) (by omega)
                                                · have n272 : ¬ (rkN A b) ≤ (rkN A k) := fun z => c271 ((nI_leI (by omega) (by omega)).mpr z)
                                                  refine lv_iconst (v := nI 1) X.1 X.2.1 dL_areBoats_363 (by decide) ?_
                                                  refine lv_goto (tgt := 368) X.1 X.2.1 dL_areBoats_364 (by decide) ?_
                                                  refine lv_istore (lv' := [(11, .int (nI 1)), (12, .int (nI k)), (1, .int (nI (orN A (b + 1)))), (10, .int (nI (rkN A b))), (9, .int (nI 0)), (5, .int (nI (smN A b (ncl A)))), (6, .int (nI (pfN A b 1 (ncl A)))), (7, .int (nI (mxN A b (ncl A)))), (8, .int ((-5))), (4, .int (nI b)), (3, .int (nI (ncl A))), (2, .int (nI (A 1))), (0, .ref (ad 0))]) X.1 X.2.1 dL_areBoats_368 hl (by decide) rfl (fun ls hl => ?_)
                                                  refine lv_iinc (v := nI (k + 1)) (lv' := [(12, .int (nI (k + 1))), (11, .int (nI 1)), (1, .int (nI (orN A (b + 1)))), (10, .int (nI (rkN A b))), (9, .int (nI 0)), (5, .int (nI (smN A b (ncl A)))), (6, .int (nI (pfN A b 1 (ncl A)))), (7, .int (nI (mxN A b (ncl A)))), (8, .int ((-5))), (4, .int (nI b)), (3, .int (nI (ncl A))), (2, .int (nI (A 1))), (0, .ref (ad 0))]) X.1 X.2.1 dL_areBoats_370 hl (k := 1) rfl (by first | exact nI_1 _ | exact nI_add _ _ | rfl) (by decide) rfl (fun ls hl => ?_)
                                                  refine lv_goto (tgt := 323) X.1 X.2.1 dL_areBoats_373 (by decide) ?_
                                                  exact ih4 (k + 1) F267 (by omega) (by omega) hO269 hfr _ _ hw _ (lv_sub hl [0, 1, 2, 3, 4, 5, 6, 7, 8, 9, 10, 11, 12] rfl)
                                      exact loop323 (A 1) 0 F237 (by omega) (by omega) hO239 hfr _ _ hw _ (lv_sub hl [0, 1, 2, 3, 4, 5, 6, 7, 8, 9, 10, 11, 12] rfl)
                                    · exact absurd (by decide) c245
                            · refine lv_aload_n X.1 X.2.1 dL_areBoats_239 rfl (lv_at hl 10 rfl) ?_
                              refine lv_iload X.1 X.2.1 dL_areBoats_240 (lv_at hl 7 rfl) ?_
                              refine x_callVf X hK hw (k := 0) (As := [.int (nI b)]) (rest := []) (w_mean hI (by omega) hJ hc hk hO232 (b := b) (by omega)) (x_cwV yX7_mean cX7_mean 3 (some .float) 1 X q854 q855 q856 q1 q857 hd_X7_mean ⟨(Nat.le_of_ble_eq_true rfl), (Nat.le_of_ble_eq_true rfl)⟩) (by omega) hO232.ma rfl rfl hl.1 rfl (Nat.le_of_ble_eq_true rfl) dL_areBoats_242 ⟨(Nat.le_of_ble_eq_true rfl), (Nat.le_of_ble_eq_true rfl)⟩ (fun v273 F274 H locs hp hw => ?_)
                              obtain ⟨e275, hO276, hf277⟩ := hp
                              rw [e275]
                              replace hfr := hfr.tr hf277 (by omega) (by omega)
                              rw [if_neg hz0]
                              refine lv_iload_n X.1 X.2.1 dL_areBoats_245 rfl (lv_at hl 8 rfl) ?_
                              refine lv_if_ne (tgt := 253) X.1 X.2.1 dL_areBoats_246 (by decide) (fun c278 => ?_) (fun c278 => ?_)
                              · have n279 : ¬ (ncl A) = 0 := fun z => c278 ((bz_eq (by omega)).mpr z)
                                refine lv_iload X.1 X.2.1 dL_areBoats_253 (lv_at hl 3 rfl) ?_
                                refine lv_i2f X.1 X.2.1 dL_areBoats_255 ?_
                                refine lv_iload_n X.1 X.2.1 dL_areBoats_256 rfl (lv_at hl 8 rfl) ?_
                                refine lv_i2f X.1 X.2.1 dL_areBoats_257 ?_
                                refine lv_fdiv X.1 X.2.1 dL_areBoats_258 (mn_ok (a := smN A b (ncl A)) (c := ncl A) (by omega) (by omega) (by omega)).1 ?_
                                refine lv_fcmp X.1 X.2.1 dL_areBoats_259 ?_
                                refine x_top (mn_fc (a := smN A b (ncl A)) (c := ncl A) (by omega) (by omega) (by omega)) ?_
                                refine lv_if_ne (tgt := 267) X.1 X.2.1 dL_areBoats_260 (by decide) (fun c280 => ?_) (fun c280 => ?_)
                                · exact absurd (by decide) c280
                                · refine lv_iconst (v := nI 1) X.1 X.2.1 dL_areBoats_263 (by decide) ?_
                                  refine lv_goto (tgt := 268) X.1 X.2.1 dL_areBoats_264 (by decide) ?_
                                  refine lv_istore (lv' := [(11, .int (nI 1)), (1, .int (nI (orN A (b + 1)))), (10, .int (nI (rkN A b))), (9, .int (nI 0)), (5, .int (nI (smN A b (ncl A)))), (6, .int (nI (pfN A b 1 (ncl A)))), (7, .int (nI (mxN A b (ncl A)))), (8, .int ((-5))), (4, .int (nI b)), (3, .int (nI (ncl A))), (2, .int (nI (A 1))), (0, .ref (ad 0))]) X.1 X.2.1 dL_areBoats_268 hl (by decide) rfl (fun ls hl => ?_)
                                  refine lv_iload X.1 X.2.1 dL_areBoats_270 (lv_at hl 7 rfl) ?_
                                  refine lv_iconst (v := nI 1) X.1 X.2.1 dL_areBoats_272 (by decide) ?_
                                  refine lv_iadd X.1 X.2.1 dL_areBoats_273 ?_
                                  refine x_top (show (-5) + nI 1 = (-4) by decide) ?_
                                  refine lv_istore (lv' := [(12, .int ((-4))), (11, .int (nI 1)), (1, .int (nI (orN A (b + 1)))), (10, .int (nI (rkN A b))), (9, .int (nI 0)), (5, .int (nI (smN A b (ncl A)))), (6, .int (nI (pfN A b 1 (ncl A)))), (7, .int (nI (mxN A b (ncl A)))), (8, .int ((-5))), (4, .int (nI b)), (3, .int (nI (ncl A))), (2, .int (nI (A 1))), (0, .ref (ad 0))]) X.1 X.2.1 dL_areBoats_274 hl (by decide) rfl (fun ls hl => ?_)
                                  refine lv_iload X.1 X.2.1 dL_areBoats_276 (lv_at hl 0 rfl) ?_
                                  refine lv_iload_n X.1 X.2.1 dL_areBoats_278 rfl (lv_at hl 10 rfl) ?_
                                  refine lv_icmp_ge (tgt := 320) X.1 X.2.1 dL_areBoats_279 (by decide) (fun c281 => ?_) (fun c281 => ?_)
                                  · exact absurd c281 (nI_nleN (by omega) (by decide))
                                  · refine lv_iload X.1 X.2.1 dL_areBoats_282 (lv_at hl 4 rfl) ?_
                                    refine lv_if_eq (tgt := 320) X.1 X.2.1 dL_areBoats_284 (by decide) (fun c282 => ?_) (fun c282 => ?_)
                                    · refine lv_iconst (v := nI 0) X.1 X.2.1 dL_areBoats_320 (by decide) ?_
                                      refine lv_istore (lv' := [(12, .int (nI 0)), (11, .int (nI 1)), (1, .int (nI (orN A (b + 1)))), (10, .int (nI (rkN A b))), (9, .int (nI 0)), (5, .int (nI (smN A b (ncl A)))), (6, .int (nI (pfN A b 1 (ncl A)))), (7, .int (nI (mxN A b (ncl A)))), (8, .int ((-5))), (4, .int (nI b)), (3, .int (nI (ncl A))), (2, .int (nI (A 1))), (0, .ref (ad 0))]) X.1 X.2.1 dL_areBoats_321 hl (by decide) rfl (fun ls hl => ?_)
                                      have way323 : ∀ (k : Nat) (F4 : Nat → va_E) (hk4 : k ≤ A 1) (hOE : OB ad cI cB cS F4 hs A A3) (hfr : Fr F F4 0 111) (hx4 : True) (H : Heap) (locs : List Loc) (hw : HW D (Af ad N s.heap.size) ad N F4 s H locs) (ls : Array Slot) (hl : lv_has ls 13 [(12, .int (nI k)), (11, .int (nI 1)), (1, .int (nI (orN A (b + 1)))), (10, .int (nI (rkN A b))), (9, .int (nI 0)), (5, .int (nI (smN A b (ncl A)))), (6, .int (nI (pfN A b 1 (ncl A)))), (7, .int (nI (mxN A b (ncl A)))), (8, .int ((-5))), (4, .int (nI b)), (3, .int (nI (ncl A))), (2, .int (nI (A 1))), (0, .ref (ad 0))]), W p l e { frames := 7, cells := 0, slots := 0, locals := 160 } s m [.ref (ad 0)].toArray below meth c H locs 0 0 (MQ below (va_Qi (fun v F' => v = nI 1 ∧ OB ad cI cB cS F' hs A A3 ∧ Fr F F' 0 111) (fun F' t => PO D ad N F' t) (Af ad N s.heap.size)) [.ref (ad 0)].toArray s 0 0 (Af ad N s.heap.size)) (F0 m 376 ls []) := by
                                        intro k F4 hk4 hOE hfr hx4 H locs hw ls hl
                                        refine lv_iload X.1 X.2.1 dL_areBoats_376 (lv_at hl 1 rfl) ?_
                                        refine lv_if_ne (tgt := 383) X.1 X.2.1 dL_areBoats_378 (by decide) (fun c283 => ?_) (fun c283 => ?_)
                                        · refine lv_iinc (v := nI (b + 1)) (lv' := [(4, .int (nI (b + 1))), (12, .int (nI k)), (11, .int (nI 1)), (1, .int (nI (orN A (b + 1)))), (10, .int (nI (rkN A b))), (9, .int (nI 0)), (5, .int (nI (smN A b (ncl A)))), (6, .int (nI (pfN A b 1 (ncl A)))), (7, .int (nI (mxN A b (ncl A)))), (8, .int ((-5))), (3, .int (nI (ncl A))), (2, .int (nI (A 1))), (0, .ref (ad 0))]) X.1 X.2.1 dL_areBoats_383 hl (k := 9) rfl (by first | exact nI_1 _ | exact nI_add _ _ | rfl) (by decide) rfl (fun ls hl => ?_)
                                          refine lv_goto (tgt := 17) X.1 X.2.1 dL_areBoats_386 (by decide) ?_
                                          exact ih (b + 1) F4 (by omega) (by omega) hOE hfr _ _ hw _ (lv_sub hl [3, 0, 10, 11, 12] rfl)
                                        · exact absurd c283 (by decide)
                                      have loop323 : ∀ (fu4 : Nat) (k : Nat) (F4 : Nat → va_E) (hfu4 : A 1 ≤ k + fu4) (hk4 : k ≤ A 1) (hOE : OB ad cI cB cS F4 hs A A3) (hfr : Fr F F4 0 111) (H : Heap) (locs : List Loc) (hw : HW D (Af ad N s.heap.size) ad N F4 s H locs) (ls : Array Slot) (hl : lv_has ls 13 [(12, .int (nI k)), (11, .int (nI 1)), (1, .int (nI (orN A (b + 1)))), (10, .int (nI (rkN A b))), (9, .int (nI 0)), (5, .int (nI (smN A b (ncl A)))), (6, .int (nI (pfN A b 1 (ncl A)))), (7, .int (nI (mxN A b (ncl A)))), (8, .int ((-5))), (4, .int (nI b)), (3, .int (nI (ncl A))), (2, .int (nI (A 1))), (0, .ref (ad 0))]), W p l e { frames := 7, cells := 0, slots := 0, locals := 160 } s m [.ref (ad 0)].toArray below meth c H locs 0 0 (MQ below (va_Qi (fun v F' => v = nI 1 ∧ OB ad cI cB cS F' hs A A3 ∧ Fr F F' 0 111) (fun F' t => PO D ad N F' t) (Af ad N s.heap.size)) [.ref (ad 0)].toArray s 0 0 (Af ad N s.heap.size)) (F0 m 323 ls []) := by
                                        intro fu4
                                        induction fu4 with
                                        | zero =>
                                          intro k F4 hfu4 hk4 hOE hfr H locs hw ls hl
                                          refine lv_iload X.1 X.2.1 dL_areBoats_323 (lv_at hl 0 rfl) ?_
                                          refine lv_iload_n X.1 X.2.1 dL_areBoats_325 rfl (lv_at hl 11 rfl) ?_
                                          refine lv_icmp_ge (tgt := 376) X.1 X.2.1 dL_areBoats_326 (by decide) (fun c284 => ?_) (fun c284 => ?_)
                                          · have n285 := (nI_leI (by omega) (by omega)).mp c284
                                            exact way323 k F4 hk4 hOE hfr trivial _ _ hw _ (lv_sub hl [0, 1, 2, 3, 4, 5, 6, 7, 8, 9, 10, 11, 12] rfl)
                                          · exact absurd ((nI_leI (by omega) (by omega)).mpr (by omega)) c284
                                        | succ fu4 ih4 =>
                                          intro k F4 hfu4 hk4 hOE hfr H locs hw ls hl
                                          refine lv_iload X.1 X.2.1 dL_areBoats_323 (lv_at hl 0 rfl) ?_
                                          refine lv_iload_n X.1 X.2.1 dL_areBoats_325 rfl (lv_at hl 11 rfl) ?_
                                          refine lv_icmp_ge (tgt := 376) X.1 X.2.1 dL_areBoats_326 (by decide) (fun c286 => ?_) (fun c286 => ?_)
                                          · have n287 := (nI_leI (by omega) (by omega)).mp c286
                                            exact way323 k F4 hk4 hOE hfr trivial _ _ hw _ (lv_sub hl [0, 1, 2, 3, 4, 5, 6, 7, 8, 9, 10, 11, 12] rfl)
                                          · have n288 : ¬ (A 1) ≤ k := fun z => c286 ((nI_leI (by omega) (by omega)).mpr z)
                                            refine lv_iload X.1 X.2.1 dL_areBoats_329 (lv_at hl 1 rfl) ?_
                                            refine lv_if_eq (tgt := 376) X.1 X.2.1 dL_areBoats_331 (by decide) (fun c289 => ?_) (fun c289 => ?_)
                                            · exact absurd c289 (by decide)
                                            · have hrk2 := rkN_b hJ (b := k) (by omega)
                                              have hto2 := (tot_n hJ hc hk (b := k) (by omega)).2
                                              have hlt2 : toN A k < toN A b → rkN A k < rkN A b := fun q => rkN_lt hJ hc hk (by omega) (by omega) q
                                              refine lv_aload_n X.1 X.2.1 dL_areBoats_334 rfl (lv_at hl 12 rfl) ?_
                                              refine lv_iload X.1 X.2.1 dL_areBoats_335 (lv_at hl 0 rfl) ?_
                                              refine lv_iconst (v := nI 1) X.1 X.2.1 dL_areBoats_337 (by decide) ?_
                                              refine x_callV X hK hw (k := 0) (As := [.int (nI k), .int (nI 1)]) (rest := []) (w_boat hI (by omega) hJ hOE (nI k) (nI 1) (fun g t tm pt sm tl hE => a_boa1 hJ hc hk hE (by omega) tm pt sm tl)) (x_cwV yX7_boat cX7_boat 3 (some .int) 2 X q755 q756 q757 q1 q758 hd_X7_boat ⟨(Nat.le_of_ble_eq_true rfl), (Nat.le_of_ble_eq_true rfl)⟩) (by omega) hOE.ma rfl rfl hl.1 rfl (Nat.le_of_ble_eq_true rfl) dL_areBoats_338 ⟨(Nat.le_of_ble_eq_true rfl), (Nat.le_of_ble_eq_true rfl)⟩ (fun v290 F291 H locs hp hw => ?_)
                                              obtain ⟨e292, hO293, hf294⟩ := hp
                                              refine x_top e292 ?_
                                              replace hfr := hfr.tr hf294 (by omega) (by omega)
                                              refine lv_aload_n X.1 X.2.1 dL_areBoats_341 rfl (lv_at hl 12 rfl) ?_
                                              refine lv_iload X.1 X.2.1 dL_areBoats_342 (lv_at hl 9 rfl) ?_
                                              refine lv_iconst (v := nI 1) X.1 X.2.1 dL_areBoats_344 (by decide) ?_
                                              refine x_callV X hK hw (k := 0) (As := [.int (nI b), .int (nI 1)]) (rest := [.int (nI (toN A k))]) (w_boat hI (by omega) hJ hO293 (nI b) (nI 1) (fun g t tm pt sm tl hE => a_boa1 hJ hc hk hE (by omega) tm pt sm tl)) (x_cwV yX7_boat cX7_boat 3 (some .int) 2 X q755 q756 q757 q1 q758 hd_X7_boat ⟨(Nat.le_of_ble_eq_true rfl), (Nat.le_of_ble_eq_true rfl)⟩) (by omega) hO293.ma rfl rfl hl.1 rfl (Nat.le_of_ble_eq_true rfl) dL_areBoats_345 ⟨(Nat.le_of_ble_eq_true rfl), (Nat.le_of_ble_eq_true rfl)⟩ (fun v295 F296 H locs hp hw => ?_)
                                              obtain ⟨e297, hO298, hf299⟩ := hp
                                              refine x_top e297 ?_
                                              replace hfr := hfr.tr hf299 (by omega) (by omega)
                                              refine lv_icmp_ge (tgt := 363) X.1 X.2.1 dL_areBoats_348 (by decide) (fun c300 => ?_) (fun c300 => ?_)
                                              · have n301 := (nI_leI (by omega) (by omega)).mp c300
                                                refine lv_iconst (v := nI 1) X.1 X.2.1 dL_areBoats_363 (by decide) ?_
                                                refine lv_goto (tgt := 368) X.1 X.2.1 dL_areBoats_364 (by decide) ?_
                                                refine lv_istore (lv' := [(11, .int (nI 1)), (12, .int (nI k)), (1, .int (nI (orN A (b + 1)))), (10, .int (nI (rkN A b))), (9, .int (nI 0)), (5, .int (nI (smN A b (ncl A)))), (6, .int (nI (pfN A b 1 (ncl A)))), (7, .int (nI (mxN A b (ncl A)))), (8, .int ((-5))), (4, .int (nI b)), (3, .int (nI (ncl A))), (2, .int (nI (A 1))), (0, .ref (ad 0))]) X.1 X.2.1 dL_areBoats_368 hl (by decide) rfl (fun ls hl => ?_)
                                                refine lv_iinc (v := nI (k + 1)) (lv' := [(12, .int (nI (k + 1))), (11, .int (nI 1)), (1, .int (nI (orN A (b + 1)))), (10, .int (nI (rkN A b))), (9, .int (nI 0)), (5, .int (nI (smN A b (ncl A)))), (6, .int (nI (pfN A b 1 (ncl A)))), (7, .int (nI (mxN A b (ncl A)))), (8, .int ((-5))), (4, .int (nI b)), (3, .int (nI (ncl A))), (2, .int (nI (A 1))), (0, .ref (ad 0))]) X.1 X.2.1 dL_areBoats_370 hl (k := 1) rfl (by first | exact nI_1 _ | exact nI_add _ _ | rfl) (by decide) rfl (fun ls hl => ?_)
                                                refine lv_goto (tgt := 323) X.1 X.2.1 dL_areBoats_373 (by decide) ?_
                                                exact ih4 (k + 1) F296 (by omega) (by omega) hO298 hfr _ _ hw _ (lv_sub hl [0, 1, 2, 3, 4, 5, 6, 7, 8, 9, 10, 11, 12] rfl)
                                              · have n302 : ¬ (toN A b) ≤ (toN A k) := fun z => c300 ((nI_leI (by omega) (by omega)).mpr z)
                                                refine lv_aload_n X.1 X.2.1 dL_areBoats_351 rfl (lv_at hl 12 rfl) ?_
                                                refine lv_iload X.1 X.2.1 dL_areBoats_352 (lv_at hl 0 rfl) ?_
                                                refine lv_iconst (v := nI 2) X.1 X.2.1 dL_areBoats_354 (by decide) ?_
                                                refine x_callV X hK hw (k := 0) (As := [.int (nI k), .int (nI 2)]) (rest := []) (w_boat hI (by omega) hJ hO298 (nI k) (nI 2) (fun g t tm pt sm tl hE => a_boa2 hJ hc hk hE (by omega) tm pt sm tl)) (x_cwV yX7_boat cX7_boat 3 (some .int) 2 X q755 q756 q757 q1 q758 hd_X7_boat ⟨(Nat.le_of_ble_eq_true rfl), (Nat.le_of_ble_eq_true rfl)⟩) (by omega) hO298.ma rfl rfl hl.1 rfl (Nat.le_of_ble_eq_true rfl) dL_areBoats_355 ⟨(Nat.le_of_ble_eq_true rfl), (Nat.le_of_ble_eq_true rfl)⟩ (fun v303 F304 H locs hp hw => ?_)
                                                obtain ⟨e305, hO306, hf307⟩ := hp
                                                refine x_top e305 ?_
                                                replace hfr := hfr.tr hf307 (by omega) (by omega)
                                                refine lv_iload X.1 X.2.1 dL_areBoats_358 (lv_at hl 3 rfl) ?_
                                                refine lv_icmp_ge (tgt := 367) X.1 X.2.1 dL_areBoats_360 (by decide) (fun c308 => ?_) (fun c308 => ?_)
                                                · exact absurd ((nI_leI (by omega) (by omega)).mp c308) (by omega)
                                                · have n309 : ¬ (rkN A b) ≤ (rkN A k) := fun z => c308 ((nI_leI (by omega) (by omega)).mpr z)
                                                  refine lv_iconst (v := nI 1) X.1 X.2.1 dL_areBoats_363 (by decide) ?_
                                                  refine lv_goto (tgt := 368) X.1 X.2.1 dL_areBoats_364 (by decide) ?_
                                                  refine lv_istore (lv' := [(11, .int (nI 1)), (12, .int (nI k)), (1, .int (nI (orN A (b + 1)))), (10, .int (nI (rkN A b))), (9, .int (nI 0)), (5, .int (nI (smN A b (ncl A)))), (6, .int (nI (pfN A b 1 (ncl A)))), (7, .int (nI (mxN A b (ncl A)))), (8, .int ((-5))), (4, .int (nI b)), (3, .int (nI (ncl A))), (2, .int (nI (A 1))), (0, .ref (ad 0))]) X.1 X.2.1 dL_areBoats_368 hl (by decide) rfl (fun ls hl => ?_)
                                                  refine lv_iinc (v := nI (k + 1)) (lv' := [(12, .int (nI (k + 1))), (11, .int (nI 1)), (1, .int (nI (orN A (b + 1)))), (10, .int (nI (rkN A b))), (9, .int (nI 0)), (5, .int (nI (smN A b (ncl A)))), (6, .int (nI (pfN A b 1 (ncl A)))), (7, .int (nI (mxN A b (ncl A)))), (8, .int ((-5))), (4, .int (nI b)), (3, .int (nI (ncl A))), (2, .int (nI (A 1))), (0, .ref (ad 0))]) X.1 X.2.1 dL_areBoats_370 hl (k := 1) rfl (by first | exact nI_1 _ | exact nI_add _ _ | rfl) (by decide) rfl (fun ls hl => ?_)
                                                  refine lv_goto (tgt := 323) X.1 X.2.1 dL_areBoats_373 (by decide) ?_
                                                  exact ih4 (k + 1) F304 (by omega) (by omega) hO306 hfr _ _ hw _ (lv_sub hl [0, 1, 2, 3, 4, 5, 6, 7, 8, 9, 10, 11, 12] rfl)
                                      exact loop323 (A 1) 0 F274 (by omega) (by omega) hO276 hfr _ _ hw _ (lv_sub hl [0, 1, 2, 3, 4, 5, 6, 7, 8, 9, 10, 11, 12] rfl)
                                    · exact absurd (by decide) c282
                              · exact absurd ((bz_eq (by omega)).mp c278) (by omega)
                      · exact absurd (by decide) c221
                  · exact absurd (by decide) c218
              · exact absurd (by decide) c211
            · have n310 : ¬ (A 6) ≤ 0 := fun z => c204 ((bz_le (by omega)).mpr z)
              refine lv_iload_n X.1 X.2.1 dL_areBoats_124 rfl (lv_at hl 7 rfl) ?_
              refine lv_aload_n X.1 X.2.1 dL_areBoats_125 rfl (lv_at hl 9 rfl) ?_
              refine lv_bipush (v := nI 8) X.1 X.2.1 dL_areBoats_126 (by decide) ?_
              refine x_callV X hK hw (k := 0) (As := [.int (nI 8)]) (rest := [.int (nI (ncl A))]) (w_count hI (by omega) hO202 (nI 8) (fun g t z n hE => a_cou8 hJ hc hk hE z n)) (x_cwV yX7_count cX7_count 2 (some .int) 1 X q818 q819 q820 q1 q821 hd_X7_count ⟨(Nat.le_of_ble_eq_true rfl), (Nat.le_of_ble_eq_true rfl)⟩) (by omega) hO202.ma rfl rfl hl.1 rfl (Nat.le_of_ble_eq_true rfl) dL_areBoats_128 ⟨(Nat.le_of_ble_eq_true rfl), (Nat.le_of_ble_eq_true rfl)⟩ (fun v311 F312 H locs hp hw => ?_)
              obtain ⟨e313, hO314, hf315⟩ := hp
              refine x_top e313 ?_
              replace hfr := hfr.tr hf315 (by omega) (by omega)
              refine lv_icmp_lt (tgt := 138) X.1 X.2.1 dL_areBoats_131 (by decide) (fun c316 => ?_) (fun c316 => ?_)
              · have n317 := (br_lt (by omega) (by omega)).mp c316
                refine lv_iconst (v := nI 0) X.1 X.2.1 dL_areBoats_138 (by decide) ?_
                refine lv_istore (lv' := [(9, .int (nI 0)), (5, .int (nI (smN A b (ncl A)))), (6, .int (nI (pfN A b 1 (ncl A)))), (7, .int (nI (mxN A b (ncl A)))), (8, .int ((-5))), (1, .int (nI (orN A b))), (4, .int (nI b)), (3, .int (nI (ncl A))), (2, .int (nI (A 1))), (0, .ref (ad 0))]) X.1 X.2.1 dL_areBoats_139 hl (by decide) rfl (fun ls hl => ?_)
                refine lv_aload_n X.1 X.2.1 dL_areBoats_141 rfl (lv_at hl 9 rfl) ?_
                refine lv_iload X.1 X.2.1 dL_areBoats_142 (lv_at hl 6 rfl) ?_
                refine lv_iconst (v := nI 2) X.1 X.2.1 dL_areBoats_144 (by decide) ?_
                refine x_callV X hK hw (k := 0) (As := [.int (nI b), .int (nI 2)]) (rest := []) (w_boat hI (by omega) hJ hO314 (nI b) (nI 2) (fun g t tm pt sm tl hE => a_boa2 hJ hc hk hE (by omega) tm pt sm tl)) (x_cwV yX7_boat cX7_boat 3 (some .int) 2 X q755 q756 q757 q1 q758 hd_X7_boat ⟨(Nat.le_of_ble_eq_true rfl), (Nat.le_of_ble_eq_true rfl)⟩) (by omega) hO314.ma rfl rfl hl.1 rfl (Nat.le_of_ble_eq_true rfl) dL_areBoats_145 ⟨(Nat.le_of_ble_eq_true rfl), (Nat.le_of_ble_eq_true rfl)⟩ (fun v318 F319 H locs hp hw => ?_)
                obtain ⟨e320, hO321, hf322⟩ := hp
                refine x_top e320 ?_
                replace hfr := hfr.tr hf322 (by omega) (by omega)
                refine lv_istore (lv' := [(10, .int (nI (rkN A b))), (9, .int (nI 0)), (5, .int (nI (smN A b (ncl A)))), (6, .int (nI (pfN A b 1 (ncl A)))), (7, .int (nI (mxN A b (ncl A)))), (8, .int ((-5))), (1, .int (nI (orN A b))), (4, .int (nI b)), (3, .int (nI (ncl A))), (2, .int (nI (A 1))), (0, .ref (ad 0))]) X.1 X.2.1 dL_areBoats_148 hl (by decide) rfl (fun ls hl => ?_)
                refine lv_iload_n X.1 X.2.1 dL_areBoats_150 rfl (lv_at hl 6 rfl) ?_
                refine lv_iconst (v := nI 1) X.1 X.2.1 dL_areBoats_151 (by decide) ?_
                refine lv_iload X.1 X.2.1 dL_areBoats_152 (lv_at hl 0 rfl) ?_
                refine lv_ishl X.1 X.2.1 dL_areBoats_154 ?_
                refine x_top (shl1 (k := rkN A b) (by omega)) ?_
                refine lv_ior X.1 X.2.1 dL_areBoats_155 ?_
                refine x_top (or_nI _ _) ?_
                refine x_top (y := nI (orN A (b + 1))) rfl ?_
                refine lv_istore_n (lv' := [(1, .int (nI (orN A (b + 1)))), (10, .int (nI (rkN A b))), (9, .int (nI 0)), (5, .int (nI (smN A b (ncl A)))), (6, .int (nI (pfN A b 1 (ncl A)))), (7, .int (nI (mxN A b (ncl A)))), (8, .int ((-5))), (4, .int (nI b)), (3, .int (nI (ncl A))), (2, .int (nI (A 1))), (0, .ref (ad 0))]) X.1 X.2.1 dL_areBoats_156 rfl hl (by decide) rfl (fun ls hl => ?_)
                refine lv_iload X.1 X.2.1 dL_areBoats_157 (lv_at hl 6 rfl) ?_
                refine lv_if_lt (tgt := 166) X.1 X.2.1 dL_areBoats_159 (by decide) (fun c323 => ?_) (fun c323 => ?_)
                · refine lv_iconst (v := nI 0) X.1 X.2.1 dL_areBoats_166 (by decide) ?_
                  refine lv_iload X.1 X.2.1 dL_areBoats_167 (lv_at hl 2 rfl) ?_
                  refine lv_icmp_ne (tgt := 267) X.1 X.2.1 dL_areBoats_169 (by decide) (fun c324 => ?_) (fun c324 => ?_)
                  · exact absurd (by decide) c324
                  · refine lv_aload_n X.1 X.2.1 dL_areBoats_172 rfl (lv_at hl 10 rfl) ?_
                    refine lv_iload X.1 X.2.1 dL_areBoats_173 (lv_at hl 7 rfl) ?_
                    refine lv_iconst (v := nI 1) X.1 X.2.1 dL_areBoats_175 (by decide) ?_
                    refine x_callV X hK hw (k := 0) (As := [.int (nI b), .int (nI 1)]) (rest := []) (w_boat hI (by omega) hJ hO321 (nI b) (nI 1) (fun g t tm pt sm tl hE => a_boa1 hJ hc hk hE (by omega) tm pt sm tl)) (x_cwV yX7_boat cX7_boat 3 (some .int) 2 X q755 q756 q757 q1 q758 hd_X7_boat ⟨(Nat.le_of_ble_eq_true rfl), (Nat.le_of_ble_eq_true rfl)⟩) (by omega) hO321.ma rfl rfl hl.1 rfl (Nat.le_of_ble_eq_true rfl) dL_areBoats_176 ⟨(Nat.le_of_ble_eq_true rfl), (Nat.le_of_ble_eq_true rfl)⟩ (fun v325 F326 H locs hp hw => ?_)
                    obtain ⟨e327, hO328, hf329⟩ := hp
                    refine x_top e327 ?_
                    replace hfr := hfr.tr hf329 (by omega) (by omega)
                    refine lv_iload X.1 X.2.1 dL_areBoats_179 (lv_at hl 3 rfl) ?_
                    refine lv_iload X.1 X.2.1 dL_areBoats_181 (lv_at hl 2 rfl) ?_
                    refine lv_if_eq (tgt := 191) X.1 X.2.1 dL_areBoats_183 (by decide) (fun c330 => ?_) (fun c330 => ?_)
                    · refine lv_iconst (v := nI 0) X.1 X.2.1 dL_areBoats_191 (by decide) ?_
                      refine lv_isub X.1 X.2.1 dL_areBoats_192 ?_
                      refine x_top (pk_sub (by omega)) ?_
                      refine lv_icmp_ne (tgt := 267) X.1 X.2.1 dL_areBoats_193 (by decide) (fun c331 => ?_) (fun c331 => ?_)
                      · exact absurd ((nI_eq (by omega) (by omega)).mpr (by omega)) c331
                      · have n332 := (nI_eq (by omega) (by omega)).mp c331
                        refine lv_iload X.1 X.2.1 dL_areBoats_196 (lv_at hl 2 rfl) ?_
                        refine lv_if_eq (tgt := 216) X.1 X.2.1 dL_areBoats_198 (by decide) (fun c333 => ?_) (fun c333 => ?_)
                        · refine lv_aload_n X.1 X.2.1 dL_areBoats_216 rfl (lv_at hl 10 rfl) ?_
                          refine lv_iload X.1 X.2.1 dL_areBoats_217 (lv_at hl 7 rfl) ?_
                          refine lv_iconst (v := nI 4) X.1 X.2.1 dL_areBoats_219 (by decide) ?_
                          refine x_callV X hK hw (k := 0) (As := [.int (nI b), .int (nI 4)]) (rest := []) (w_boat hI (by omega) hJ hO328 (nI b) (nI 4) (fun g t tm pt sm tl hE => a_boa4 hJ hc hk hE (by omega) tm pt sm tl)) (x_cwV yX7_boat cX7_boat 3 (some .int) 2 X q755 q756 q757 q1 q758 hd_X7_boat ⟨(Nat.le_of_ble_eq_true rfl), (Nat.le_of_ble_eq_true rfl)⟩) (by omega) hO328.ma rfl rfl hl.1 rfl (Nat.le_of_ble_eq_true rfl) dL_areBoats_220 ⟨(Nat.le_of_ble_eq_true rfl), (Nat.le_of_ble_eq_true rfl)⟩ (fun v334 F335 H locs hp hw => ?_)
                          obtain ⟨e336, hO337, hf338⟩ := hp
                          refine x_top e336 ?_
                          replace hfr := hfr.tr hf338 (by omega) (by omega)
                          refine lv_iload X.1 X.2.1 dL_areBoats_223 (lv_at hl 4 rfl) ?_
                          refine lv_icmp_ne (tgt := 267) X.1 X.2.1 dL_areBoats_225 (by decide) (fun c339 => ?_) (fun c339 => ?_)
                          · exact absurd ((nI_eq (by omega) (by omega)).mpr (by omega)) c339
                          · have n340 := (nI_eq (by omega) (by omega)).mp c339
                            refine lv_aload_n X.1 X.2.1 dL_areBoats_228 rfl (lv_at hl 10 rfl) ?_
                            refine lv_iload X.1 X.2.1 dL_areBoats_229 (lv_at hl 1 rfl) ?_
                            refine x_callV X hK hw (k := 0) (As := [.int (nI (rkN A b))]) (rest := []) (w_ranked hI (by omega) hJ hO337 (nI (rkN A b)) (fun g t tm pt sm tl hE => a_rkd hJ hc hk hE (k := rkN A b) (b := b) (by omega) (by omega) ⟨by omega, rfl⟩ tm pt sm tl)) (x_cwV yX7_ranked cX7_ranked 3 (some .int) 1 X q800 q801 q802 q1 q803 hd_X7_ranked ⟨(Nat.le_of_ble_eq_true rfl), (Nat.le_of_ble_eq_true rfl)⟩) (by omega) hO337.ma rfl rfl hl.1 rfl (Nat.le_of_ble_eq_true rfl) dL_areBoats_231 ⟨(Nat.le_of_ble_eq_true rfl), (Nat.le_of_ble_eq_true rfl)⟩ (fun v341 F342 H locs hp hw => ?_)
                            obtain ⟨e343, hO344, hf345⟩ := hp
                            refine x_top e343 ?_
                            replace hfr := hfr.tr hf345 (by omega) (by omega)
                            refine lv_iload X.1 X.2.1 dL_areBoats_234 (lv_at hl 7 rfl) ?_
                            refine lv_icmp_ne (tgt := 267) X.1 X.2.1 dL_areBoats_236 (by decide) (fun c346 => ?_) (fun c346 => ?_)
                            · exact absurd ((nI_eq (by omega) (by omega)).mpr (by omega)) c346
                            · have n347 := (nI_eq (by omega) (by omega)).mp c346
                              by_cases hz0 : ncl A = 0
                              · refine lv_aload_n X.1 X.2.1 dL_areBoats_239 rfl (lv_at hl 10 rfl) ?_
                                refine lv_iload X.1 X.2.1 dL_areBoats_240 (lv_at hl 7 rfl) ?_
                                refine x_callVf X hK hw (k := 0) (As := [.int (nI b)]) (rest := []) (w_mean hI (by omega) hJ hc hk hO344 (b := b) (by omega)) (x_cwV yX7_mean cX7_mean 3 (some .float) 1 X q854 q855 q856 q1 q857 hd_X7_mean ⟨(Nat.le_of_ble_eq_true rfl), (Nat.le_of_ble_eq_true rfl)⟩) (by omega) hO344.ma rfl rfl hl.1 rfl (Nat.le_of_ble_eq_true rfl) dL_areBoats_242 ⟨(Nat.le_of_ble_eq_true rfl), (Nat.le_of_ble_eq_true rfl)⟩ (fun v348 F349 H locs hp hw => ?_)
                                obtain ⟨e350, hO351, hf352⟩ := hp
                                rw [e350]
                                replace hfr := hfr.tr hf352 (by omega) (by omega)
                                rw [if_pos hz0]
                                refine lv_iload_n X.1 X.2.1 dL_areBoats_245 rfl (lv_at hl 8 rfl) ?_
                                refine lv_if_ne (tgt := 253) X.1 X.2.1 dL_areBoats_246 (by decide) (fun c353 => ?_) (fun c353 => ?_)
                                · exact absurd ((bz_eq (by omega)).mpr (by omega)) c353
                                · have n354 := (bz_eq (by omega)).mp c353
                                  refine lv_fconst0 X.1 X.2.1 dL_areBoats_249 ?_
                                  refine lv_goto (tgt := 259) X.1 X.2.1 dL_areBoats_250 (by decide) ?_
                                  refine lv_fcmp X.1 X.2.1 dL_areBoats_259 ?_
                                  refine x_top (mn_fz) ?_
                                  refine lv_if_ne (tgt := 267) X.1 X.2.1 dL_areBoats_260 (by decide) (fun c355 => ?_) (fun c355 => ?_)
                                  · exact absurd (by decide) c355
                                  · refine lv_iconst (v := nI 1) X.1 X.2.1 dL_areBoats_263 (by decide) ?_
                                    refine lv_goto (tgt := 268) X.1 X.2.1 dL_areBoats_264 (by decide) ?_
                                    refine lv_istore (lv' := [(11, .int (nI 1)), (1, .int (nI (orN A (b + 1)))), (10, .int (nI (rkN A b))), (9, .int (nI 0)), (5, .int (nI (smN A b (ncl A)))), (6, .int (nI (pfN A b 1 (ncl A)))), (7, .int (nI (mxN A b (ncl A)))), (8, .int ((-5))), (4, .int (nI b)), (3, .int (nI (ncl A))), (2, .int (nI (A 1))), (0, .ref (ad 0))]) X.1 X.2.1 dL_areBoats_268 hl (by decide) rfl (fun ls hl => ?_)
                                    refine lv_iload X.1 X.2.1 dL_areBoats_270 (lv_at hl 7 rfl) ?_
                                    refine lv_iconst (v := nI 1) X.1 X.2.1 dL_areBoats_272 (by decide) ?_
                                    refine lv_iadd X.1 X.2.1 dL_areBoats_273 ?_
                                    refine x_top (show (-5) + nI 1 = (-4) by decide) ?_
                                    refine lv_istore (lv' := [(12, .int ((-4))), (11, .int (nI 1)), (1, .int (nI (orN A (b + 1)))), (10, .int (nI (rkN A b))), (9, .int (nI 0)), (5, .int (nI (smN A b (ncl A)))), (6, .int (nI (pfN A b 1 (ncl A)))), (7, .int (nI (mxN A b (ncl A)))), (8, .int ((-5))), (4, .int (nI b)), (3, .int (nI (ncl A))), (2, .int (nI (A 1))), (0, .ref (ad 0))]) X.1 X.2.1 dL_areBoats_274 hl (by decide) rfl (fun ls hl => ?_)
                                    refine lv_iload X.1 X.2.1 dL_areBoats_276 (lv_at hl 0 rfl) ?_
                                    refine lv_iload_n X.1 X.2.1 dL_areBoats_278 rfl (lv_at hl 10 rfl) ?_
                                    refine lv_icmp_ge (tgt := 320) X.1 X.2.1 dL_areBoats_279 (by decide) (fun c356 => ?_) (fun c356 => ?_)
                                    · exact absurd c356 (nI_nleN (by omega) (by decide))
                                    · refine lv_iload X.1 X.2.1 dL_areBoats_282 (lv_at hl 4 rfl) ?_
                                      refine lv_if_eq (tgt := 320) X.1 X.2.1 dL_areBoats_284 (by decide) (fun c357 => ?_) (fun c357 => ?_)
                                      · refine lv_iconst (v := nI 0) X.1 X.2.1 dL_areBoats_320 (by decide) ?_
                                        refine lv_istore (lv' := [(12, .int (nI 0)), (11, .int (nI 1)), (1, .int (nI (orN A (b + 1)))), (10, .int (nI (rkN A b))), (9, .int (nI 0)), (5, .int (nI (smN A b (ncl A)))), (6, .int (nI (pfN A b 1 (ncl A)))), (7, .int (nI (mxN A b (ncl A)))), (8, .int ((-5))), (4, .int (nI b)), (3, .int (nI (ncl A))), (2, .int (nI (A 1))), (0, .ref (ad 0))]) X.1 X.2.1 dL_areBoats_321 hl (by decide) rfl (fun ls hl => ?_)
                                        have way323 : ∀ (k : Nat) (F4 : Nat → va_E) (hk4 : k ≤ A 1) (hOE : OB ad cI cB cS F4 hs A A3) (hfr : Fr F F4 0 111) (hx4 : True) (H : Heap) (locs : List Loc) (hw : HW D (Af ad N s.heap.size) ad N F4 s H locs) (ls : Array Slot) (hl : lv_has ls 13 [(12, .int (nI k)), (11, .int (nI 1)), (1, .int (nI (orN A (b + 1)))), (10, .int (nI (rkN A b))), (9, .int (nI 0)), (5, .int (nI (smN A b (ncl A)))), (6, .int (nI (pfN A b 1 (ncl A)))), (7, .int (nI (mxN A b (ncl A)))), (8, .int ((-5))), (4, .int (nI b)), (3, .int (nI (ncl A))), (2, .int (nI (A 1))), (0, .ref (ad 0))]), W p l e { frames := 7, cells := 0, slots := 0, locals := 160 } s m [.ref (ad 0)].toArray below meth c H locs 0 0 (MQ below (va_Qi (fun v F' => v = nI 1 ∧ OB ad cI cB cS F' hs A A3 ∧ Fr F F' 0 111) (fun F' t => PO D ad N F' t) (Af ad N s.heap.size)) [.ref (ad 0)].toArray s 0 0 (Af ad N s.heap.size)) (F0 m 376 ls []) := by
                                          intro k F4 hk4 hOE hfr hx4 H locs hw ls hl
                                          refine lv_iload X.1 X.2.1 dL_areBoats_376 (lv_at hl 1 rfl) ?_
                                          refine lv_if_ne (tgt := 383) X.1 X.2.1 dL_areBoats_378 (by decide) (fun c358 => ?_) (fun c358 => ?_)
                                          · refine lv_iinc (v := nI (b + 1)) (lv' := [(4, .int (nI (b + 1))), (12, .int (nI k)), (11, .int (nI 1)), (1, .int (nI (orN A (b + 1)))), (10, .int (nI (rkN A b))), (9, .int (nI 0)), (5, .int (nI (smN A b (ncl A)))), (6, .int (nI (pfN A b 1 (ncl A)))), (7, .int (nI (mxN A b (ncl A)))), (8, .int ((-5))), (3, .int (nI (ncl A))), (2, .int (nI (A 1))), (0, .ref (ad 0))]) X.1 X.2.1 dL_areBoats_383 hl (k := 9) rfl (by first | exact nI_1 _ | exact nI_add _ _ | rfl) (by decide) rfl (fun ls hl => ?_)
                                            refine lv_goto (tgt := 17) X.1 X.2.1 dL_areBoats_386 (by decide) ?_
                                            exact ih (b + 1) F4 (by omega) (by omega) hOE hfr _ _ hw _ (lv_sub hl [3, 0, 10, 11, 12] rfl)
                                          · exact absurd c358 (by decide)
                                        have loop323 : ∀ (fu4 : Nat) (k : Nat) (F4 : Nat → va_E) (hfu4 : A 1 ≤ k + fu4) (hk4 : k ≤ A 1) (hOE : OB ad cI cB cS F4 hs A A3) (hfr : Fr F F4 0 111) (H : Heap) (locs : List Loc) (hw : HW D (Af ad N s.heap.size) ad N F4 s H locs) (ls : Array Slot) (hl : lv_has ls 13 [(12, .int (nI k)), (11, .int (nI 1)), (1, .int (nI (orN A (b + 1)))), (10, .int (nI (rkN A b))), (9, .int (nI 0)), (5, .int (nI (smN A b (ncl A)))), (6, .int (nI (pfN A b 1 (ncl A)))), (7, .int (nI (mxN A b (ncl A)))), (8, .int ((-5))), (4, .int (nI b)), (3, .int (nI (ncl A))), (2, .int (nI (A 1))), (0, .ref (ad 0))]), W p l e { frames := 7, cells := 0, slots := 0, locals := 160 } s m [.ref (ad 0)].toArray below meth c H locs 0 0 (MQ below (va_Qi (fun v F' => v = nI 1 ∧ OB ad cI cB cS F' hs A A3 ∧ Fr F F' 0 111) (fun F' t => PO D ad N F' t) (Af ad N s.heap.size)) [.ref (ad 0)].toArray s 0 0 (Af ad N s.heap.size)) (F0 m 323 ls []) := by
                                          intro fu4
                                          induction fu4 with
                                          | zero =>
                                            intro k F4 hfu4 hk4 hOE hfr H locs hw ls hl
                                            refine lv_iload X.1 X.2.1 dL_areBoats_323 (lv_at hl 0 rfl) ?_
                                            refine lv_iload_n X.1 X.2.1 dL_areBoats_325 rfl (lv_at hl 11 rfl) ?_
                                            refine lv_icmp_ge (tgt := 376) X.1 X.2.1 dL_areBoats_326 (by decide) (fun c359 => ?_) (fun c359 => ?_)
                                            · have n360 := (nI_leI (by omega) (by omega)).mp c359
                                              exact way323 k F4 hk4 hOE hfr trivial _ _ hw _ (lv_sub hl [0, 1, 2, 3, 4, 5, 6, 7, 8, 9, 10, 11, 12] rfl)
                                            · exact absurd ((nI_leI (by omega) (by omega)).mpr (by omega)) c359
                                          | succ fu4 ih4 =>
                                            intro k F4 hfu4 hk4 hOE hfr H locs hw ls hl
                                            refine lv_iload X.1 X.2.1 dL_areBoats_323 (lv_at hl 0 rfl) ?_
                                            refine lv_iload_n X.1 X.2.1 dL_areBoats_325 rfl (lv_at hl 11 rfl) ?_
                                            refine lv_icmp_ge (tgt := 376) X.1 X.2.1 dL_areBoats_326 (by decide) (fun c361 => ?_) (fun c361 => ?_)
                                            · have n362 := (nI_leI (by omega) (by omega)).mp c361
                                              exact way323 k F4 hk4 hOE hfr trivial _ _ hw _ (lv_sub hl [0, 1, 2, 3, 4, 5, 6, 7, 8, 9, 10, 11, 12] rfl)
                                            · have n363 : ¬ (A 1) ≤ k := fun z => c361 ((nI_leI (by omega) (by omega)).mpr z)
                                              refine lv_iload X.1 X.2.1 dL_areBoats_329 (lv_at hl 1 rfl) ?_
                                              refine lv_if_eq (tgt := 376) X.1 X.2.1 dL_areBoats_331 (by decide) (fun c364 => ?_) (fun c364 => ?_)
                                              · exact absurd c364 (by decide)
                                              · have hrk2 := rkN_b hJ (b := k) (by omega)
                                                have hto2 := (tot_n hJ hc hk (b := k) (by omega)).2
                                                have hlt2 : toN A k < toN A b → rkN A k < rkN A b := fun q => rkN_lt hJ hc hk (by omega) (by omega) q
                                                refine lv_aload_n X.1 X.2.1 dL_areBoats_334 rfl (lv_at hl 12 rfl) ?_
                                                refine lv_iload X.1 X.2.1 dL_areBoats_335 (lv_at hl 0 rfl) ?_
                                                refine lv_iconst (v := nI 1) X.1 X.2.1 dL_areBoats_337 (by decide) ?_
                                                refine x_callV X hK hw (k := 0) (As := [.int (nI k), .int (nI 1)]) (rest := []) (w_boat hI (by omega) hJ hOE (nI k) (nI 1) (fun g t tm pt sm tl hE => a_boa1 hJ hc hk hE (by omega) tm pt sm tl)) (x_cwV yX7_boat cX7_boat 3 (some .int) 2 X q755 q756 q757 q1 q758 hd_X7_boat ⟨(Nat.le_of_ble_eq_true rfl), (Nat.le_of_ble_eq_true rfl)⟩) (by omega) hOE.ma rfl rfl hl.1 rfl (Nat.le_of_ble_eq_true rfl) dL_areBoats_338 ⟨(Nat.le_of_ble_eq_true rfl), (Nat.le_of_ble_eq_true rfl)⟩ (fun v365 F366 H locs hp hw => ?_)
                                                obtain ⟨e367, hO368, hf369⟩ := hp
                                                refine x_top e367 ?_
                                                replace hfr := hfr.tr hf369 (by omega) (by omega)
                                                refine lv_aload_n X.1 X.2.1 dL_areBoats_341 rfl (lv_at hl 12 rfl) ?_
                                                refine lv_iload X.1 X.2.1 dL_areBoats_342 (lv_at hl 9 rfl) ?_
                                                refine lv_iconst (v := nI 1) X.1 X.2.1 dL_areBoats_344 (by decide) ?_
                                                refine x_callV X hK hw (k := 0) (As := [.int (nI b), .int (nI 1)]) (rest := [.int (nI (toN A k))]) (w_boat hI (by omega) hJ hO368 (nI b) (nI 1) (fun g t tm pt sm tl hE => a_boa1 hJ hc hk hE (by omega) tm pt sm tl)) (x_cwV yX7_boat cX7_boat 3 (some .int) 2 X q755 q756 q757 q1 q758 hd_X7_boat ⟨(Nat.le_of_ble_eq_true rfl), (Nat.le_of_ble_eq_true rfl)⟩) (by omega) hO368.ma rfl rfl hl.1 rfl (Nat.le_of_ble_eq_true rfl) dL_areBoats_345 ⟨(Nat.le_of_ble_eq_true rfl), (Nat.le_of_ble_eq_true rfl)⟩ (fun v370 F371 H locs hp hw => ?_)
                                                obtain ⟨e372, hO373, hf374⟩ := hp
                                                refine x_top e372 ?_
                                                replace hfr := hfr.tr hf374 (by omega) (by omega)
                                                refine lv_icmp_ge (tgt := 363) X.1 X.2.1 dL_areBoats_348 (by decide) (fun c375 => ?_) (fun c375 => ?_)
                                                · have n376 := (nI_leI (by omega) (by omega)).mp c375
                                                  refine lv_iconst (v := nI 1) X.1 X.2.1 dL_areBoats_363 (by decide) ?_
                                                  refine lv_goto (tgt := 368) X.1 X.2.1 dL_areBoats_364 (by decide) ?_
                                                  refine lv_istore (lv' := [(11, .int (nI 1)), (12, .int (nI k)), (1, .int (nI (orN A (b + 1)))), (10, .int (nI (rkN A b))), (9, .int (nI 0)), (5, .int (nI (smN A b (ncl A)))), (6, .int (nI (pfN A b 1 (ncl A)))), (7, .int (nI (mxN A b (ncl A)))), (8, .int ((-5))), (4, .int (nI b)), (3, .int (nI (ncl A))), (2, .int (nI (A 1))), (0, .ref (ad 0))]) X.1 X.2.1 dL_areBoats_368 hl (by decide) rfl (fun ls hl => ?_)
                                                  refine lv_iinc (v := nI (k + 1)) (lv' := [(12, .int (nI (k + 1))), (11, .int (nI 1)), (1, .int (nI (orN A (b + 1)))), (10, .int (nI (rkN A b))), (9, .int (nI 0)), (5, .int (nI (smN A b (ncl A)))), (6, .int (nI (pfN A b 1 (ncl A)))), (7, .int (nI (mxN A b (ncl A)))), (8, .int ((-5))), (4, .int (nI b)), (3, .int (nI (ncl A))), (2, .int (nI (A 1))), (0, .ref (ad 0))]) X.1 X.2.1 dL_areBoats_370 hl (k := 1) rfl (by first | exact nI_1 _ | exact nI_add _ _ | rfl) (by decide) rfl (fun ls hl => ?_)
                                                  refine lv_goto (tgt := 323) X.1 X.2.1 dL_areBoats_373 (by decide) ?_
                                                  exact ih4 (k + 1) F371 (by omega) (by omega) hO373 hfr _ _ hw _ (lv_sub hl [0, 1, 2, 3, 4, 5, 6, 7, 8, 9, 10, 11, 12] rfl)
                                                · have n377 : ¬ (toN A b) ≤ (toN A k) := fun z => c375 ((nI_leI (by omega) (by omega)).mpr z)
                                                  refine lv_aload_n X.1 X.2.1 dL_areBoats_351 rfl (lv_at hl 12 rfl) ?_
                                                  refine lv_iload X.1 X.2.1 dL_areBoats_352 (lv_at hl 0 rfl) ?_
                                                  refine lv_iconst (v := nI 2) X.1 X.2.1 dL_areBoats_354 (by decide) ?_
                                                  refine x_callV X hK hw (k := 0) (As := [.int (nI k), .int (nI 2)]) (rest := []) (w_boat hI (by omega) hJ hO373 (nI k) (nI 2) (fun g t tm pt sm tl hE => a_boa2 hJ hc hk hE (by omega) tm pt sm tl)) (x_cwV yX7_boat cX7_boat 3 (some .int) 2 X q755 q756 q757 q1 q758 hd_X7_boat ⟨(Nat.le_of_ble_eq_true rfl), (Nat.le_of_ble_eq_true rfl)⟩) (by omega) hO373.ma rfl rfl hl.1 rfl (Nat.le_of_ble_eq_true rfl) dL_areBoats_355 ⟨(Nat.le_of_ble_eq_true rfl), (Nat.le_of_ble_eq_true rfl)⟩ (fun v378 F379 H locs hp hw => ?_)
                                                  obtain ⟨e380, hO381, hf382⟩ := hp
                                                  refine x_top e380 ?_
                                                  replace hfr := hfr.tr hf382 (by omega) (by omega)
                                                  refine lv_iload X.1 X.2.1 dL_areBoats_358 (lv_at hl 3 rfl) ?_
                                                  refine lv_icmp_ge (tgt := 367) X.1 X.2.1 dL_areBoats_360 (by decide) (fun c383 => ?_) (fun c383 => ?_)
                                                  · exact absurd ((nI_leI (by omega) (by omega)).mp c383) (by omega)
                                                  · have n384 : ¬ (rkN A b) ≤ (rkN A k) := fun z => c383 ((nI_leI (by omega) (by omega)).mpr z)
                                                    refine lv_iconst (v := nI 1) X.1 X.2.1 dL_areBoats_363 (by decide) ?_
                                                    refine lv_goto (tgt := 368) X.1 X.2.1 dL_areBoats_364 (by decide) ?_
                                                    refine lv_istore (lv' := [(11, .int (nI 1)), (12, .int (nI k)), (1, .int (nI (orN A (b + 1)))), (10, .int (nI (rkN A b))), (9, .int (nI 0)), (5, .int (nI (smN A b (ncl A)))), (6, .int (nI (pfN A b 1 (ncl A)))), (7, .int (nI (mxN A b (ncl A)))), (8, .int ((-5))), (4, .int (nI b)), (3, .int (nI (ncl A))), (2, .int (nI (A 1))), (0, .ref (ad 0))]) X.1 X.2.1 dL_areBoats_368 hl (by decide) rfl (fun ls hl => ?_)
                                                    refine lv_iinc (v := nI (k + 1)) (lv' := [(12, .int (nI (k + 1))), (11, .int (nI 1)), (1, .int (nI (orN A (b + 1)))), (10, .int (nI (rkN A b))), (9, .int (nI 0)), (5, .int (nI (smN A b (ncl A)))), (6, .int (nI (pfN A b 1 (ncl A)))), (7, .int (nI (mxN A b (ncl A)))), (8, .int ((-5))), (4, .int (nI b)), (3, .int (nI (ncl A))), (2, .int (nI (A 1))), (0, .ref (ad 0))]) X.1 X.2.1 dL_areBoats_370 hl (k := 1) rfl (by first | exact nI_1 _ | exact nI_add _ _ | rfl) (by decide) rfl (fun ls hl => ?_)
                                                    refine lv_goto (tgt := 323) X.1 X.2.1 dL_areBoats_373 (by decide) ?_
                                                    exact ih4 (k + 1) F379 (by omega) (by omega) hO381 hfr _ _ hw _ (lv_sub hl [0, 1, 2, 3, 4, 5, 6, 7, 8, 9, 10, 11, 12] rfl)
                                        exact loop323 (A 1) 0 F349 (by omega) (by omega) hO351 hfr _ _ hw _ (lv_sub hl [0, 1, 2, 3, 4, 5, 6, 7, 8, 9, 10, 11, 12] rfl)
                                      · exact absurd (by decide) c357
                              · refine lv_aload_n X.1 X.2.1 dL_areBoats_239 rfl (lv_at hl 10 rfl) ?_
                                refine lv_iload X.1 X.2.1 dL_areBoats_240 (lv_at hl 7 rfl) ?_
                                refine x_callVf X hK hw (k := 0) (As := [.int (nI b)]) (rest := []) (w_mean hI (by omega) hJ hc hk hO344 (b := b) (by omega)) (x_cwV yX7_mean cX7_mean 3 (some .float) 1 X q854 q855 q856 q1 q857 hd_X7_mean ⟨(Nat.le_of_ble_eq_true rfl), (Nat.le_of_ble_eq_true rfl)⟩) (by omega) hO344.ma rfl rfl hl.1 rfl (Nat.le_of_ble_eq_true rfl) dL_areBoats_242 ⟨(Nat.le_of_ble_eq_true rfl), (Nat.le_of_ble_eq_true rfl)⟩ (fun v385 F386 H locs hp hw => ?_)
                                obtain ⟨e387, hO388, hf389⟩ := hp
                                rw [e387]
                                replace hfr := hfr.tr hf389 (by omega) (by omega)
                                rw [if_neg hz0]
                                refine lv_iload_n X.1 X.2.1 dL_areBoats_245 rfl (lv_at hl 8 rfl) ?_
                                refine lv_if_ne (tgt := 253) X.1 X.2.1 dL_areBoats_246 (by decide) (fun c390 => ?_) (fun c390 => ?_)
                                · have n391 : ¬ (ncl A) = 0 := fun z => c390 ((bz_eq (by omega)).mpr z)
                                  refine lv_iload X.1 X.2.1 dL_areBoats_253 (lv_at hl 3 rfl) ?_
                                  refine lv_i2f X.1 X.2.1 dL_areBoats_255 ?_
                                  refine lv_iload_n X.1 X.2.1 dL_areBoats_256 rfl (lv_at hl 8 rfl) ?_
                                  refine lv_i2f X.1 X.2.1 dL_areBoats_257 ?_
                                  refine lv_fdiv X.1 X.2.1 dL_areBoats_258 (mn_ok (a := smN A b (ncl A)) (c := ncl A) (by omega) (by omega) (by omega)).1 ?_
                                  refine lv_fcmp X.1 X.2.1 dL_areBoats_259 ?_
                                  refine x_top (mn_fc (a := smN A b (ncl A)) (c := ncl A) (by omega) (by omega) (by omega)) ?_
                                  refine lv_if_ne (tgt := 267) X.1 X.2.1 dL_areBoats_260 (by decide) (fun c392 => ?_) (fun c392 => ?_)
                                  · exact absurd (by decide) c392
                                  · refine lv_iconst (v := nI 1) X.1 X.2.1 dL_areBoats_263 (by decide) ?_
                                    refine lv_goto (tgt := 268) X.1 X.2.1 dL_areBoats_264 (by decide) ?_
                                    refine lv_istore (lv' := [(11, .int (nI 1)), (1, .int (nI (orN A (b + 1)))), (10, .int (nI (rkN A b))), (9, .int (nI 0)), (5, .int (nI (smN A b (ncl A)))), (6, .int (nI (pfN A b 1 (ncl A)))), (7, .int (nI (mxN A b (ncl A)))), (8, .int ((-5))), (4, .int (nI b)), (3, .int (nI (ncl A))), (2, .int (nI (A 1))), (0, .ref (ad 0))]) X.1 X.2.1 dL_areBoats_268 hl (by decide) rfl (fun ls hl => ?_)
                                    refine lv_iload X.1 X.2.1 dL_areBoats_270 (lv_at hl 7 rfl) ?_
                                    refine lv_iconst (v := nI 1) X.1 X.2.1 dL_areBoats_272 (by decide) ?_
                                    refine lv_iadd X.1 X.2.1 dL_areBoats_273 ?_
                                    refine x_top (show (-5) + nI 1 = (-4) by decide) ?_
                                    refine lv_istore (lv' := [(12, .int ((-4))), (11, .int (nI 1)), (1, .int (nI (orN A (b + 1)))), (10, .int (nI (rkN A b))), (9, .int (nI 0)), (5, .int (nI (smN A b (ncl A)))), (6, .int (nI (pfN A b 1 (ncl A)))), (7, .int (nI (mxN A b (ncl A)))), (8, .int ((-5))), (4, .int (nI b)), (3, .int (nI (ncl A))), (2, .int (nI (A 1))), (0, .ref (ad 0))]) X.1 X.2.1 dL_areBoats_274 hl (by decide) rfl (fun ls hl => ?_)
                                    refine lv_iload X.1 X.2.1 dL_areBoats_276 (lv_at hl 0 rfl) ?_
                                    refine lv_iload_n X.1 X.2.1 dL_areBoats_278 rfl (lv_at hl 10 rfl) ?_
                                    refine lv_icmp_ge (tgt := 320) X.1 X.2.1 dL_areBoats_279 (by decide) (fun c393 => ?_) (fun c393 => ?_)
                                    · exact absurd c393 (nI_nleN (by omega) (by decide))
                                    · refine lv_iload X.1 X.2.1 dL_areBoats_282 (lv_at hl 4 rfl) ?_
                                      refine lv_if_eq (tgt := 320) X.1 X.2.1 dL_areBoats_284 (by decide) (fun c394 => ?_) (fun c394 => ?_)
                                      · refine lv_iconst (v := nI 0) X.1 X.2.1 dL_areBoats_320 (by decide) ?_
                                        refine lv_istore (lv' := [(12, .int (nI 0)), (11, .int (nI 1)), (1, .int (nI (orN A (b + 1)))), (10, .int (nI (rkN A b))), (9, .int (nI 0)), (5, .int (nI (smN A b (ncl A)))), (6, .int (nI (pfN A b 1 (ncl A)))), (7, .int (nI (mxN A b (ncl A)))), (8, .int ((-5))), (4, .int (nI b)), (3, .int (nI (ncl A))), (2, .int (nI (A 1))), (0, .ref (ad 0))]) X.1 X.2.1 dL_areBoats_321 hl (by decide) rfl (fun ls hl => ?_)
                                        have way323 : ∀ (k : Nat) (F4 : Nat → va_E) (hk4 : k ≤ A 1) (hOE : OB ad cI cB cS F4 hs A A3) (hfr : Fr F F4 0 111) (hx4 : True) (H : Heap) (locs : List Loc) (hw : HW D (Af ad N s.heap.size) ad N F4 s H locs) (ls : Array Slot) (hl : lv_has ls 13 [(12, .int (nI k)), (11, .int (nI 1)), (1, .int (nI (orN A (b + 1)))), (10, .int (nI (rkN A b))), (9, .int (nI 0)), (5, .int (nI (smN A b (ncl A)))), (6, .int (nI (pfN A b 1 (ncl A)))), (7, .int (nI (mxN A b (ncl A)))), (8, .int ((-5))), (4, .int (nI b)), (3, .int (nI (ncl A))), (2, .int (nI (A 1))), (0, .ref (ad 0))]), W p l e { frames := 7, cells := 0, slots := 0, locals := 160 } s m [.ref (ad 0)].toArray below meth c H locs 0 0 (MQ below (va_Qi (fun v F' => v = nI 1 ∧ OB ad cI cB cS F' hs A A3 ∧ Fr F F' 0 111) (fun F' t => PO D ad N F' t) (Af ad N s.heap.size)) [.ref (ad 0)].toArray s 0 0 (Af ad N s.heap.size)) (F0 m 376 ls []) := by
                                          intro k F4 hk4 hOE hfr hx4 H locs hw ls hl
                                          refine lv_iload X.1 X.2.1 dL_areBoats_376 (lv_at hl 1 rfl) ?_
                                          refine lv_if_ne (tgt := 383) X.1 X.2.1 dL_areBoats_378 (by decide) (fun c395 => ?_) (fun c395 => ?_)
                                          · refine lv_iinc (v := nI (b + 1)) (lv' := [(4, .int (nI (b + 1))), (12, .int (nI k)), (11, .int (nI 1)), (1, .int (nI (orN A (b + 1)))), (10, .int (nI (rkN A b))), (9, .int (nI 0)), (5, .int (nI (smN A b (ncl A)))), (6, .int (nI (pfN A b 1 (ncl A)))), (7, .int (nI (mxN A b (ncl A)))), (8, .int ((-5))), (3, .int (nI (ncl A))), (2, .int (nI (A 1))), (0, .ref (ad 0))]) X.1 X.2.1 dL_areBoats_383 hl (k := 9) rfl (by first | exact nI_1 _ | exact nI_add _ _ | rfl) (by decide) rfl (fun ls hl => ?_)
                                            refine lv_goto (tgt := 17) X.1 X.2.1 dL_areBoats_386 (by decide) ?_
                                            exact ih (b + 1) F4 (by omega) (by omega) hOE hfr _ _ hw _ (lv_sub hl [3, 0, 10, 11, 12] rfl)
                                          · exact absurd c395 (by decide)
                                        have loop323 : ∀ (fu4 : Nat) (k : Nat) (F4 : Nat → va_E) (hfu4 : A 1 ≤ k + fu4) (hk4 : k ≤ A 1) (hOE : OB ad cI cB cS F4 hs A A3) (hfr : Fr F F4 0 111) (H : Heap) (locs : List Loc) (hw : HW D (Af ad N s.heap.size) ad N F4 s H locs) (ls : Array Slot) (hl : lv_has ls 13 [(12, .int (nI k)), (11, .int (nI 1)), (1, .int (nI (orN A (b + 1)))), (10, .int (nI (rkN A b))), (9, .int (nI 0)), (5, .int (nI (smN A b (ncl A)))), (6, .int (nI (pfN A b 1 (ncl A)))), (7, .int (nI (mxN A b (ncl A)))), (8, .int ((-5))), (4, .int (nI b)), (3, .int (nI (ncl A))), (2, .int (nI (A 1))), (0, .ref (ad 0))]), W p l e { frames := 7, cells := 0, slots := 0, locals := 160 } s m [.ref (ad 0)].toArray below meth c H locs 0 0 (MQ below (va_Qi (fun v F' => v = nI 1 ∧ OB ad cI cB cS F' hs A A3 ∧ Fr F F' 0 111) (fun F' t => PO D ad N F' t) (Af ad N s.heap.size)) [.ref (ad 0)].toArray s 0 0 (Af ad N s.heap.size)) (F0 m 323 ls []) := by
                                          intro fu4
                                          induction fu4 with
                                          | zero =>
                                            intro k F4 hfu4 hk4 hOE hfr H locs hw ls hl
                                            refine lv_iload X.1 X.2.1 dL_areBoats_323 (lv_at hl 0 rfl) ?_
                                            refine lv_iload_n X.1 X.2.1 dL_areBoats_325 rfl (lv_at hl 11 rfl) ?_
                                            refine lv_icmp_ge (tgt := 376) X.1 X.2.1 dL_areBoats_326 (by decide) (fun c396 => ?_) (fun c396 => ?_)
                                            · have n397 := (nI_leI (by omega) (by omega)).mp c396
                                              exact way323 k F4 hk4 hOE hfr trivial _ _ hw _ (lv_sub hl [0, 1, 2, 3, 4, 5, 6, 7, 8, 9, 10, 11, 12] rfl)
                                            · exact absurd ((nI_leI (by omega) (by omega)).mpr (by omega)) c396
                                          | succ fu4 ih4 =>
                                            intro k F4 hfu4 hk4 hOE hfr H locs hw ls hl
                                            refine lv_iload X.1 X.2.1 dL_areBoats_323 (lv_at hl 0 rfl) ?_
                                            refine lv_iload_n X.1 X.2.1 dL_areBoats_325 rfl (lv_at hl 11 rfl) ?_
                                            refine lv_icmp_ge (tgt := 376) X.1 X.2.1 dL_areBoats_326 (by decide) (fun c398 => ?_) (fun c398 => ?_)
                                            · have n399 := (nI_leI (by omega) (by omega)).mp c398
                                              exact way323 k F4 hk4 hOE hfr trivial _ _ hw _ (lv_sub hl [0, 1, 2, 3, 4, 5, 6, 7, 8, 9, 10, 11, 12] rfl)
                                            · have n400 : ¬ (A 1) ≤ k := fun z => c398 ((nI_leI (by omega) (by omega)).mpr z)
                                              refine lv_iload X.1 X.2.1 dL_areBoats_329 (lv_at hl 1 rfl) ?_
                                              refine lv_if_eq (tgt := 376) X.1 X.2.1 dL_areBoats_331 (by decide) (fun c401 => ?_) (fun c401 => ?_)
                                              · exact absurd c401 (by decide)
                                              · have hrk2 := rkN_b hJ (b := k) (by omega)
                                                have hto2 := (tot_n hJ hc hk (b := k) (by omega)).2
                                                have hlt2 : toN A k < toN A b → rkN A k < rkN A b := fun q => rkN_lt hJ hc hk (by omega) (by omega) q
                                                refine lv_aload_n X.1 X.2.1 dL_areBoats_334 rfl (lv_at hl 12 rfl) ?_
                                                refine lv_iload X.1 X.2.1 dL_areBoats_335 (lv_at hl 0 rfl) ?_
                                                refine lv_iconst (v := nI 1) X.1 X.2.1 dL_areBoats_337 (by decide) ?_
                                                refine x_callV X hK hw (k := 0) (As := [.int (nI k), .int (nI 1)]) (rest := []) (w_boat hI (by omega) hJ hOE (nI k) (nI 1) (fun g t tm pt sm tl hE => a_boa1 hJ hc hk hE (by omega) tm pt sm tl)) (x_cwV yX7_boat cX7_boat 3 (some .int) 2 X q755 q756 q757 q1 q758 hd_X7_boat ⟨(Nat.le_of_ble_eq_true rfl), (Nat.le_of_ble_eq_true rfl)⟩) (by omega) hOE.ma rfl rfl hl.1 rfl (Nat.le_of_ble_eq_true rfl) dL_areBoats_338 ⟨(Nat.le_of_ble_eq_true rfl), (Nat.le_of_ble_eq_true rfl)⟩ (fun v402 F403 H locs hp hw => ?_)
                                                obtain ⟨e404, hO405, hf406⟩ := hp
                                                refine x_top e404 ?_
                                                replace hfr := hfr.tr hf406 (by omega) (by omega)
                                                refine lv_aload_n X.1 X.2.1 dL_areBoats_341 rfl (lv_at hl 12 rfl) ?_
                                                refine lv_iload X.1 X.2.1 dL_areBoats_342 (lv_at hl 9 rfl) ?_
                                                refine lv_iconst (v := nI 1) X.1 X.2.1 dL_areBoats_344 (by decide) ?_
                                                refine x_callV X hK hw (k := 0) (As := [.int (nI b), .int (nI 1)]) (rest := [.int (nI (toN A k))]) (w_boat hI (by omega) hJ hO405 (nI b) (nI 1) (fun g t tm pt sm tl hE => a_boa1 hJ hc hk hE (by omega) tm pt sm tl)) (x_cwV yX7_boat cX7_boat 3 (some .int) 2 X q755 q756 q757 q1 q758 hd_X7_boat ⟨(Nat.le_of_ble_eq_true rfl), (Nat.le_of_ble_eq_true rfl)⟩) (by omega) hO405.ma rfl rfl hl.1 rfl (Nat.le_of_ble_eq_true rfl) dL_areBoats_345 ⟨(Nat.le_of_ble_eq_true rfl), (Nat.le_of_ble_eq_true rfl)⟩ (fun v407 F408 H locs hp hw => ?_)
                                                obtain ⟨e409, hO410, hf411⟩ := hp
                                                refine x_top e409 ?_
                                                replace hfr := hfr.tr hf411 (by omega) (by omega)
                                                refine lv_icmp_ge (tgt := 363) X.1 X.2.1 dL_areBoats_348 (by decide) (fun c412 => ?_) (fun c412 => ?_)
                                                · have n413 := (nI_leI (by omega) (by omega)).mp c412
                                                  refine lv_iconst (v := nI 1) X.1 X.2.1 dL_areBoats_363 (by decide) ?_
                                                  refine lv_goto (tgt := 368) X.1 X.2.1 dL_areBoats_364 (by decide) ?_
                                                  refine lv_istore (lv' := [(11, .int (nI 1)), (12, .int (nI k)), (1, .int (nI (orN A (b + 1)))), (10, .int (nI (rkN A b))), (9, .int (nI 0)), (5, .int (nI (smN A b (ncl A)))), (6, .int (nI (pfN A b 1 (ncl A)))), (7, .int (nI (mxN A b (ncl A)))), (8, .int ((-5))), (4, .int (nI b)), (3, .int (nI (ncl A))), (2, .int (nI (A 1))), (0, .ref (ad 0))]) X.1 X.2.1 dL_areBoats_368 hl (by decide) rfl (fun ls hl => ?_)
                                                  refine lv_iinc (v := nI (k + 1)) (lv' := [(12, .int (nI (k + 1))), (11, .int (nI 1)), (1, .int (nI (orN A (b + 1)))), (10, .int (nI (rkN A b))), (9, .int (nI 0)), (5, .int (nI (smN A b (ncl A)))), (6, .int (nI (pfN A b 1 (ncl A)))), (7, .int (nI (mxN A b (ncl A)))), (8, .int ((-5))), (4, .int (nI b)), (3, .int (nI (ncl A))), (2, .int (nI (A 1))), (0, .ref (ad 0))]) X.1 X.2.1 dL_areBoats_370 hl (k := 1) rfl (by first | exact nI_1 _ | exact nI_add _ _ | rfl) (by decide) rfl (fun ls hl => ?_)
                                                  refine lv_goto (tgt := 323) X.1 X.2.1 dL_areBoats_373 (by decide) ?_
                                                  exact ih4 (k + 1) F408 (by omega) (by omega) hO410 hfr _ _ hw _ (lv_sub hl [0, 1, 2, 3, 4, 5, 6, 7, 8, 9, 10, 11, 12] rfl)
                                                · have n414 : ¬ (toN A b) ≤ (toN A k) := fun z => c412 ((nI_leI (by omega) (by omega)).mpr z)
                                                  refine lv_aload_n X.1 X.2.1 dL_areBoats_351 rfl (lv_at hl 12 rfl) ?_
                                                  refine lv_iload X.1 X.2.1 dL_areBoats_352 (lv_at hl 0 rfl) ?_
                                                  refine lv_iconst (v := nI 2) X.1 X.2.1 dL_areBoats_354 (by decide) ?_
                                                  refine x_callV X hK hw (k := 0) (As := [.int (nI k), .int (nI 2)]) (rest := []) (w_boat hI (by omega) hJ hO410 (nI k) (nI 2) (fun g t tm pt sm tl hE => a_boa2 hJ hc hk hE (by omega) tm pt sm tl)) (x_cwV yX7_boat cX7_boat 3 (some .int) 2 X q755 q756 q757 q1 q758 hd_X7_boat ⟨(Nat.le_of_ble_eq_true rfl), (Nat.le_of_ble_eq_true rfl)⟩) (by omega) hO410.ma rfl rfl hl.1 rfl (Nat.le_of_ble_eq_true rfl) dL_areBoats_355 ⟨(Nat.le_of_ble_eq_true rfl), (Nat.le_of_ble_eq_true rfl)⟩ (fun v415 F416 H locs hp hw => ?_)
                                                  obtain ⟨e417, hO418, hf419⟩ := hp
                                                  refine x_top e417 ?_
                                                  replace hfr := hfr.tr hf419 (by omega) (by omega)
                                                  refine lv_iload X.1 X.2.1 dL_areBoats_358 (lv_at hl 3 rfl) ?_
                                                  refine lv_icmp_ge (tgt := 367) X.1 X.2.1 dL_areBoats_360 (by decide) (fun c420 => ?_) (fun c420 => ?_)
                                                  · exact absurd ((nI_leI (by omega) (by omega)).mp c420) (by omega)
                                                  · have n421 : ¬ (rkN A b) ≤ (rkN A k) := fun z => c420 ((nI_leI (by omega) (by omega)).mpr z)
                                                    refine lv_iconst (v := nI 1) X.1 X.2.1 dL_areBoats_363 (by decide) ?_
                                                    refine lv_goto (tgt := 368) X.1 X.2.1 dL_areBoats_364 (by decide) ?_
                                                    refine lv_istore (lv' := [(11, .int (nI 1)), (12, .int (nI k)), (1, .int (nI (orN A (b + 1)))), (10, .int (nI (rkN A b))), (9, .int (nI 0)), (5, .int (nI (smN A b (ncl A)))), (6, .int (nI (pfN A b 1 (ncl A)))), (7, .int (nI (mxN A b (ncl A)))), (8, .int ((-5))), (4, .int (nI b)), (3, .int (nI (ncl A))), (2, .int (nI (A 1))), (0, .ref (ad 0))]) X.1 X.2.1 dL_areBoats_368 hl (by decide) rfl (fun ls hl => ?_)
                                                    refine lv_iinc (v := nI (k + 1)) (lv' := [(12, .int (nI (k + 1))), (11, .int (nI 1)), (1, .int (nI (orN A (b + 1)))), (10, .int (nI (rkN A b))), (9, .int (nI 0)), (5, .int (nI (smN A b (ncl A)))), (6, .int (nI (pfN A b 1 (ncl A)))), (7, .int (nI (mxN A b (ncl A)))), (8, .int ((-5))), (4, .int (nI b)), (3, .int (nI (ncl A))), (2, .int (nI (A 1))), (0, .ref (ad 0))]) X.1 X.2.1 dL_areBoats_370 hl (k := 1) rfl (by first | exact nI_1 _ | exact nI_add _ _ | rfl) (by decide) rfl (fun ls hl => ?_)
                                                    refine lv_goto (tgt := 323) X.1 X.2.1 dL_areBoats_373 (by decide) ?_
                                                    exact ih4 (k + 1) F416 (by omega) (by omega) hO418 hfr _ _ hw _ (lv_sub hl [0, 1, 2, 3, 4, 5, 6, 7, 8, 9, 10, 11, 12] rfl)
                                        exact loop323 (A 1) 0 F386 (by omega) (by omega) hO388 hfr _ _ hw _ (lv_sub hl [0, 1, 2, 3, 4, 5, 6, 7, 8, 9, 10, 11, 12] rfl)
                                      · exact absurd (by decide) c394
                                · exact absurd ((bz_eq (by omega)).mp c390) (by omega)
                        · exact absurd (by decide) c333
                    · exact absurd (by decide) c330
                · exact absurd (by decide) c323
              · exact absurd ((br_lt (by omega) (by omega)).mpr (by omega)) c316
          have loop44 : ∀ (fu2 : Nat) (r : Nat) (F2 : Nat → va_E) (hfu2 : ncl A ≤ r + fu2) (hr2 : r ≤ ncl A) (hOC : OB ad cI cB cS F2 hs A A3) (hfr : Fr F F2 0 111) (H : Heap) (locs : List Loc) (hw : HW D (Af ad N s.heap.size) ad N F2 s H locs) (ls : Array Slot) (hl : lv_has ls 13 [(5, .int (nI (smN A b r))), (6, .int (nI (pfN A b 1 r))), (7, .int (nI (mxN A b r))), (9, .int (nI r)), (8, .int ((-5))), (1, .int (nI (orN A b))), (4, .int (nI b)), (3, .int (nI (ncl A))), (2, .int (nI (A 1))), (0, .ref (ad 0))]), W p l e { frames := 7, cells := 0, slots := 0, locals := 160 } s m [.ref (ad 0)].toArray below meth c H locs 0 0 (MQ below (va_Qi (fun v F' => v = nI 1 ∧ OB ad cI cB cS F' hs A A3 ∧ Fr F F' 0 111) (fun F' t => PO D ad N F' t) (Af ad N s.heap.size)) [.ref (ad 0)].toArray s 0 0 (Af ad N s.heap.size)) (F0 m 44 ls []) := by
            intro fu2
            induction fu2 with
            | zero =>
              intro r F2 hfu2 hr2 hOC hfr H locs hw ls hl
              refine lv_iload X.1 X.2.1 dL_areBoats_44 (lv_at hl 3 rfl) ?_
              refine lv_iload_n X.1 X.2.1 dL_areBoats_46 rfl (lv_at hl 7 rfl) ?_
              refine lv_icmp_ge (tgt := 115) X.1 X.2.1 dL_areBoats_47 (by decide) (fun c422 => ?_) (fun c422 => ?_)
              · have n423 := (nI_leI (by omega) (by omega)).mp c422
                exact way44 r F2 hr2 hOC hfr n423 _ _ hw _ (lv_sub hl [0, 1, 2, 3, 4, 5, 6, 7, 8, 9] rfl)
              · exact absurd ((nI_leI (by omega) (by omega)).mpr (by omega)) c422
            | succ fu2 ih2 =>
              intro r F2 hfu2 hr2 hOC hfr H locs hw ls hl
              refine lv_iload X.1 X.2.1 dL_areBoats_44 (lv_at hl 3 rfl) ?_
              refine lv_iload_n X.1 X.2.1 dL_areBoats_46 rfl (lv_at hl 7 rfl) ?_
              refine lv_icmp_ge (tgt := 115) X.1 X.2.1 dL_areBoats_47 (by decide) (fun c424 => ?_) (fun c424 => ?_)
              · have n425 := (nI_leI (by omega) (by omega)).mp c424
                exact way44 r F2 hr2 hOC hfr n425 _ _ hw _ (lv_sub hl [0, 1, 2, 3, 4, 5, 6, 7, 8, 9] rfl)
              · have n426 : ¬ (ncl A) ≤ r := fun z => c424 ((nI_leI (by omega) (by omega)).mpr z)
                have hnr : rA A r 3 = 1 := by rcases ncl_r hJ (r := r) (by omega) with h | h <;> omega
                have hpb := ptN_b hJ (r := r) (b := b) (by omega) (by omega)
                have hpl := plN_b hJ (r := r) (b := b) (by omega)
                have hmr := (mx_le (A := A) (b := b) r).2.1
                have hsr := (sum_n hJ hc hk (b := b) (by omega) r (by omega)).2
                have hpr := (pof_n hJ hc hk (b := b) (w := 1) (by omega) (by omega) r (by omega)).2
                refine lv_aload_n X.1 X.2.1 dL_areBoats_50 rfl (lv_at hl 9 rfl) ?_
                refine lv_iload X.1 X.2.1 dL_areBoats_51 (lv_at hl 3 rfl) ?_
                refine lv_iload X.1 X.2.1 dL_areBoats_53 (lv_at hl 6 rfl) ?_
                refine lv_bipush (v := nI 8) X.1 X.2.1 dL_areBoats_55 (by decide) ?_
                refine x_callV X hK hw (k := 0) (As := [.int (nI r), .int (nI b), .int (nI 8)]) (rest := []) (w_result hI (by omega) hJ.1.1 hOC (nI r) (nI b) (nI 8) (fun g t tm hE => ((a_res8 hJ hc hk hE (by omega) (by omega) tm).trans (if_pos (by omega))).trans (pts_n hJ hc hk (by omega) (by omega)))) (x_cwV yX7_result cX7_result 4 (some .int) 3 X q695 q696 q697 q1 q698 hd_X7_result ⟨(Nat.le_of_ble_eq_true rfl), (Nat.le_of_ble_eq_true rfl)⟩) (by omega) hOC.ma rfl rfl hl.1 rfl (Nat.le_of_ble_eq_true rfl) dL_areBoats_57 ⟨(Nat.le_of_ble_eq_true rfl), (Nat.le_of_ble_eq_true rfl)⟩ (fun v427 F428 H locs hp hw => ?_)
                obtain ⟨e429, hO430, hf431⟩ := hp
                refine x_top e429 ?_
                replace hfr := hfr.tr hf431 (by omega) (by omega)
                refine lv_istore (lv' := [(10, .int (nI (ptN A r b))), (5, .int (nI (smN A b r))), (6, .int (nI (pfN A b 1 r))), (7, .int (nI (mxN A b r))), (9, .int (nI r)), (8, .int ((-5))), (1, .int (nI (orN A b))), (4, .int (nI b)), (3, .int (nI (ncl A))), (2, .int (nI (A 1))), (0, .ref (ad 0))]) X.1 X.2.1 dL_areBoats_60 hl (by decide) rfl (fun ls hl => ?_)
                refine lv_iload X.1 X.2.1 dL_areBoats_62 (lv_at hl 1 rfl) ?_
                refine lv_iload X.1 X.2.1 dL_areBoats_64 (lv_at hl 0 rfl) ?_
                refine lv_iadd X.1 X.2.1 dL_areBoats_66 ?_
                refine x_top (nI_add _ _) ?_
                refine x_top (y := nI (smN A b (r + 1))) rfl ?_
                refine lv_istore (lv' := [(5, .int (nI (smN A b (r + 1)))), (10, .int (nI (ptN A r b))), (6, .int (nI (pfN A b 1 r))), (7, .int (nI (mxN A b r))), (9, .int (nI r)), (8, .int ((-5))), (1, .int (nI (orN A b))), (4, .int (nI b)), (3, .int (nI (ncl A))), (2, .int (nI (A 1))), (0, .ref (ad 0))]) X.1 X.2.1 dL_areBoats_67 hl (by decide) rfl (fun ls hl => ?_)
                refine lv_iload X.1 X.2.1 dL_areBoats_69 (lv_at hl 1 rfl) ?_
                refine lv_iload X.1 X.2.1 dL_areBoats_71 (lv_at hl 3 rfl) ?_
                refine lv_icmp_le (tgt := 81) X.1 X.2.1 dL_areBoats_73 (by decide) (fun c432 => ?_) (fun c432 => ?_)
                · have n433 := (nI_leI (by omega) (by omega)).mp c432
                  refine lv_iload X.1 X.2.1 dL_areBoats_81 (lv_at hl 3 rfl) ?_
                  refine x_top (congrArg nI (mx_y n433)) ?_
                  refine lv_istore (lv' := [(7, .int (nI (mxN A b (r + 1)))), (5, .int (nI (smN A b (r + 1)))), (10, .int (nI (ptN A r b))), (6, .int (nI (pfN A b 1 r))), (9, .int (nI r)), (8, .int ((-5))), (1, .int (nI (orN A b))), (4, .int (nI b)), (3, .int (nI (ncl A))), (2, .int (nI (A 1))), (0, .ref (ad 0))]) X.1 X.2.1 dL_areBoats_83 hl (by decide) rfl (fun ls hl => ?_)
                  by_cases hcn : cnP A r b
                  · refine lv_iload X.1 X.2.1 dL_areBoats_85 (lv_at hl 3 rfl) ?_
                    refine lv_aload_n X.1 X.2.1 dL_areBoats_87 rfl (lv_at hl 10 rfl) ?_
                    refine lv_iload X.1 X.2.1 dL_areBoats_88 (lv_at hl 4 rfl) ?_
                    refine lv_iload X.1 X.2.1 dL_areBoats_90 (lv_at hl 7 rfl) ?_
                    refine lv_bipush (v := nI 7) X.1 X.2.1 dL_areBoats_92 (by decide) ?_
                    refine x_callV X hK hw (k := 0) (As := [.int (nI r), .int (nI b), .int (nI 7)]) (rest := [.int (nI (pfN A b 1 r))]) (w_result hI (by omega) hJ.1.1 hO430 (nI r) (nI b) (nI 7) (fun g t tm hE => ((a_res7 hJ hc hk hE (by omega) (by omega) tm).trans (if_pos (by omega))).trans ((place_n hJ hc hk (by omega) (by omega)).trans (if_pos hcn)))) (x_cwV yX7_result cX7_result 4 (some .int) 3 X q695 q696 q697 q1 q698 hd_X7_result ⟨(Nat.le_of_ble_eq_true rfl), (Nat.le_of_ble_eq_true rfl)⟩) (by omega) hO430.ma rfl rfl hl.1 rfl (Nat.le_of_ble_eq_true rfl) dL_areBoats_94 ⟨(Nat.le_of_ble_eq_true rfl), (Nat.le_of_ble_eq_true rfl)⟩ (fun v434 F435 H locs hp hw => ?_)
                    obtain ⟨e436, hO437, hf438⟩ := hp
                    refine x_top e436 ?_
                    replace hfr := hfr.tr hf438 (by omega) (by omega)
                    refine lv_iconst (v := nI 1) X.1 X.2.1 dL_areBoats_97 (by decide) ?_
                    refine lv_icmp_ne (tgt := 105) X.1 X.2.1 dL_areBoats_98 (by decide) (fun c439 => ?_) (fun c439 => ?_)
                    · have n440 : ¬ (plN A r b) = 1 := fun z => c439 ((nI_eq (by omega) (by omega)).mpr z)
                      refine lv_iconst (v := nI 0) X.1 X.2.1 dL_areBoats_105 (by decide) ?_
                      refine lv_iadd X.1 X.2.1 dL_areBoats_106 ?_
                      refine x_top (nI_add _ _) ?_
                      refine x_top (y := nI (pfN A b 1 (r + 1))) (congrArg nI (pf_z (fun z => n440 z.2))) ?_
                      refine lv_istore (lv' := [(6, .int (nI (pfN A b 1 (r + 1)))), (7, .int (nI (mxN A b (r + 1)))), (5, .int (nI (smN A b (r + 1)))), (10, .int (nI (ptN A r b))), (9, .int (nI r)), (8, .int ((-5))), (1, .int (nI (orN A b))), (4, .int (nI b)), (3, .int (nI (ncl A))), (2, .int (nI (A 1))), (0, .ref (ad 0))]) X.1 X.2.1 dL_areBoats_107 hl (by decide) rfl (fun ls hl => ?_)
                      refine lv_iinc (v := nI (r + 1)) (lv' := [(9, .int (nI (r + 1))), (6, .int (nI (pfN A b 1 (r + 1)))), (7, .int (nI (mxN A b (r + 1)))), (5, .int (nI (smN A b (r + 1)))), (10, .int (nI (ptN A r b))), (8, .int ((-5))), (1, .int (nI (orN A b))), (4, .int (nI b)), (3, .int (nI (ncl A))), (2, .int (nI (A 1))), (0, .ref (ad 0))]) X.1 X.2.1 dL_areBoats_109 hl (k := 4) rfl (by first | exact nI_1 _ | exact nI_add _ _ | rfl) (by decide) rfl (fun ls hl => ?_)
                      refine lv_goto (tgt := 44) X.1 X.2.1 dL_areBoats_112 (by decide) ?_
                      exact ih2 (r + 1) F435 (by omega) (by omega) hO437 hfr _ _ hw _ (lv_sub hl [3, 1, 2, 0, 5, 6, 7, 8, 9, 10] rfl)
                    · have n441 := (nI_eq (by omega) (by omega)).mp c439
                      refine lv_iconst (v := nI 1) X.1 X.2.1 dL_areBoats_101 (by decide) ?_
                      refine lv_goto (tgt := 106) X.1 X.2.1 dL_areBoats_102 (by decide) ?_
                      refine lv_iadd X.1 X.2.1 dL_areBoats_106 ?_
                      refine x_top (nI_add _ _) ?_
                      refine x_top (y := nI (pfN A b 1 (r + 1))) (congrArg nI (pf_y ⟨hcn, n441⟩)) ?_
                      refine lv_istore (lv' := [(6, .int (nI (pfN A b 1 (r + 1)))), (7, .int (nI (mxN A b (r + 1)))), (5, .int (nI (smN A b (r + 1)))), (10, .int (nI (ptN A r b))), (9, .int (nI r)), (8, .int ((-5))), (1, .int (nI (orN A b))), (4, .int (nI b)), (3, .int (nI (ncl A))), (2, .int (nI (A 1))), (0, .ref (ad 0))]) X.1 X.2.1 dL_areBoats_107 hl (by decide) rfl (fun ls hl => ?_)
                      refine lv_iinc (v := nI (r + 1)) (lv' := [(9, .int (nI (r + 1))), (6, .int (nI (pfN A b 1 (r + 1)))), (7, .int (nI (mxN A b (r + 1)))), (5, .int (nI (smN A b (r + 1)))), (10, .int (nI (ptN A r b))), (8, .int ((-5))), (1, .int (nI (orN A b))), (4, .int (nI b)), (3, .int (nI (ncl A))), (2, .int (nI (A 1))), (0, .ref (ad 0))]) X.1 X.2.1 dL_areBoats_109 hl (k := 4) rfl (by first | exact nI_1 _ | exact nI_add _ _ | rfl) (by decide) rfl (fun ls hl => ?_)
                      refine lv_goto (tgt := 44) X.1 X.2.1 dL_areBoats_112 (by decide) ?_
                      exact ih2 (r + 1) F435 (by omega) (by omega) hO437 hfr _ _ hw _ (lv_sub hl [3, 1, 2, 0, 5, 6, 7, 8, 9, 10] rfl)
                  · refine lv_iload X.1 X.2.1 dL_areBoats_85 (lv_at hl 3 rfl) ?_
                    refine lv_aload_n X.1 X.2.1 dL_areBoats_87 rfl (lv_at hl 10 rfl) ?_
                    refine lv_iload X.1 X.2.1 dL_areBoats_88 (lv_at hl 4 rfl) ?_
                    refine lv_iload X.1 X.2.1 dL_areBoats_90 (lv_at hl 7 rfl) ?_
                    refine lv_bipush (v := nI 7) X.1 X.2.1 dL_areBoats_92 (by decide) ?_
                    refine x_callV X hK hw (k := 0) (As := [.int (nI r), .int (nI b), .int (nI 7)]) (rest := [.int (nI (pfN A b 1 r))]) (w_result hI (by omega) hJ.1.1 hO430 (nI r) (nI b) (nI 7) (fun g t tm hE => ((a_res7 hJ hc hk hE (by omega) (by omega) tm).trans (if_pos (by omega))).trans ((place_n hJ hc hk (by omega) (by omega)).trans (if_neg hcn)))) (x_cwV yX7_result cX7_result 4 (some .int) 3 X q695 q696 q697 q1 q698 hd_X7_result ⟨(Nat.le_of_ble_eq_true rfl), (Nat.le_of_ble_eq_true rfl)⟩) (by omega) hO430.ma rfl rfl hl.1 rfl (Nat.le_of_ble_eq_true rfl) dL_areBoats_94 ⟨(Nat.le_of_ble_eq_true rfl), (Nat.le_of_ble_eq_true rfl)⟩ (fun v442 F443 H locs hp hw => ?_)
                    obtain ⟨e444, hO445, hf446⟩ := hp
                    refine x_top e444 ?_
                    replace hfr := hfr.tr hf446 (by omega) (by omega)
                    refine lv_iconst (v := nI 1) X.1 X.2.1 dL_areBoats_97 (by decide) ?_
                    refine lv_icmp_ne (tgt := 105) X.1 X.2.1 dL_areBoats_98 (by decide) (fun c447 => ?_) (fun c447 => ?_)
                    · refine lv_iconst (v := nI 0) X.1 X.2.1 dL_areBoats_105 (by decide) ?_
                      refine lv_iadd X.1 X.2.1 dL_areBoats_106 ?_
                      refine x_top (nI_add _ _) ?_
                      refine x_top (y := nI (pfN A b 1 (r + 1))) (congrArg nI (pf_z (fun z => hcn z.1))) ?_
                      refine lv_istore (lv' := [(6, .int (nI (pfN A b 1 (r + 1)))), (7, .int (nI (mxN A b (r + 1)))), (5, .int (nI (smN A b (r + 1)))), (10, .int (nI (ptN A r b))), (9, .int (nI r)), (8, .int ((-5))), (1, .int (nI (orN A b))), (4, .int (nI b)), (3, .int (nI (ncl A))), (2, .int (nI (A 1))), (0, .ref (ad 0))]) X.1 X.2.1 dL_areBoats_107 hl (by decide) rfl (fun ls hl => ?_)
                      refine lv_iinc (v := nI (r + 1)) (lv' := [(9, .int (nI (r + 1))), (6, .int (nI (pfN A b 1 (r + 1)))), (7, .int (nI (mxN A b (r + 1)))), (5, .int (nI (smN A b (r + 1)))), (10, .int (nI (ptN A r b))), (8, .int ((-5))), (1, .int (nI (orN A b))), (4, .int (nI b)), (3, .int (nI (ncl A))), (2, .int (nI (A 1))), (0, .ref (ad 0))]) X.1 X.2.1 dL_areBoats_109 hl (k := 4) rfl (by first | exact nI_1 _ | exact nI_add _ _ | rfl) (by decide) rfl (fun ls hl => ?_)
                      refine lv_goto (tgt := 44) X.1 X.2.1 dL_areBoats_112 (by decide) ?_
                      exact ih2 (r + 1) F443 (by omega) (by omega) hO445 hfr _ _ hw _ (lv_sub hl [3, 1, 2, 0, 5, 6, 7, 8, 9, 10] rfl)
                    · exact absurd c447 (by decide)
                · have n448 : ¬ (ptN A r b) ≤ (mxN A b r) := fun z => c432 ((nI_leI (by omega) (by omega)).mpr z)
                  refine lv_iload X.1 X.2.1 dL_areBoats_76 (lv_at hl 1 rfl) ?_
                  refine lv_goto (tgt := 83) X.1 X.2.1 dL_areBoats_78 (by decide) ?_
                  refine x_top (congrArg nI (mx_n n448)) ?_
                  refine lv_istore (lv' := [(7, .int (nI (mxN A b (r + 1)))), (5, .int (nI (smN A b (r + 1)))), (10, .int (nI (ptN A r b))), (6, .int (nI (pfN A b 1 r))), (9, .int (nI r)), (8, .int ((-5))), (1, .int (nI (orN A b))), (4, .int (nI b)), (3, .int (nI (ncl A))), (2, .int (nI (A 1))), (0, .ref (ad 0))]) X.1 X.2.1 dL_areBoats_83 hl (by decide) rfl (fun ls hl => ?_)
                  by_cases hcn : cnP A r b
                  · refine lv_iload X.1 X.2.1 dL_areBoats_85 (lv_at hl 3 rfl) ?_
                    refine lv_aload_n X.1 X.2.1 dL_areBoats_87 rfl (lv_at hl 10 rfl) ?_
                    refine lv_iload X.1 X.2.1 dL_areBoats_88 (lv_at hl 4 rfl) ?_
                    refine lv_iload X.1 X.2.1 dL_areBoats_90 (lv_at hl 7 rfl) ?_
                    refine lv_bipush (v := nI 7) X.1 X.2.1 dL_areBoats_92 (by decide) ?_
                    refine x_callV X hK hw (k := 0) (As := [.int (nI r), .int (nI b), .int (nI 7)]) (rest := [.int (nI (pfN A b 1 r))]) (w_result hI (by omega) hJ.1.1 hO430 (nI r) (nI b) (nI 7) (fun g t tm hE => ((a_res7 hJ hc hk hE (by omega) (by omega) tm).trans (if_pos (by omega))).trans ((place_n hJ hc hk (by omega) (by omega)).trans (if_pos hcn)))) (x_cwV yX7_result cX7_result 4 (some .int) 3 X q695 q696 q697 q1 q698 hd_X7_result ⟨(Nat.le_of_ble_eq_true rfl), (Nat.le_of_ble_eq_true rfl)⟩) (by omega) hO430.ma rfl rfl hl.1 rfl (Nat.le_of_ble_eq_true rfl) dL_areBoats_94 ⟨(Nat.le_of_ble_eq_true rfl), (Nat.le_of_ble_eq_true rfl)⟩ (fun v449 F450 H locs hp hw => ?_)
                    obtain ⟨e451, hO452, hf453⟩ := hp
                    refine x_top e451 ?_
                    replace hfr := hfr.tr hf453 (by omega) (by omega)
                    refine lv_iconst (v := nI 1) X.1 X.2.1 dL_areBoats_97 (by decide) ?_
                    refine lv_icmp_ne (tgt := 105) X.1 X.2.1 dL_areBoats_98 (by decide) (fun c454 => ?_) (fun c454 => ?_)
                    · have n455 : ¬ (plN A r b) = 1 := fun z => c454 ((nI_eq (by omega) (by omega)).mpr z)
                      refine lv_iconst (v := nI 0) X.1 X.2.1 dL_areBoats_105 (by decide) ?_
                      refine lv_iadd X.1 X.2.1 dL_areBoats_106 ?_
                      refine x_top (nI_add _ _) ?_
                      refine x_top (y := nI (pfN A b 1 (r + 1))) (congrArg nI (pf_z (fun z => n455 z.2))) ?_
                      refine lv_istore (lv' := [(6, .int (nI (pfN A b 1 (r + 1)))), (7, .int (nI (mxN A b (r + 1)))), (5, .int (nI (smN A b (r + 1)))), (10, .int (nI (ptN A r b))), (9, .int (nI r)), (8, .int ((-5))), (1, .int (nI (orN A b))), (4, .int (nI b)), (3, .int (nI (ncl A))), (2, .int (nI (A 1))), (0, .ref (ad 0))]) X.1 X.2.1 dL_areBoats_107 hl (by decide) rfl (fun ls hl => ?_)
                      refine lv_iinc (v := nI (r + 1)) (lv' := [(9, .int (nI (r + 1))), (6, .int (nI (pfN A b 1 (r + 1)))), (7, .int (nI (mxN A b (r + 1)))), (5, .int (nI (smN A b (r + 1)))), (10, .int (nI (ptN A r b))), (8, .int ((-5))), (1, .int (nI (orN A b))), (4, .int (nI b)), (3, .int (nI (ncl A))), (2, .int (nI (A 1))), (0, .ref (ad 0))]) X.1 X.2.1 dL_areBoats_109 hl (k := 4) rfl (by first | exact nI_1 _ | exact nI_add _ _ | rfl) (by decide) rfl (fun ls hl => ?_)
                      refine lv_goto (tgt := 44) X.1 X.2.1 dL_areBoats_112 (by decide) ?_
                      exact ih2 (r + 1) F450 (by omega) (by omega) hO452 hfr _ _ hw _ (lv_sub hl [3, 1, 2, 0, 5, 6, 7, 8, 9, 10] rfl)
                    · have n456 := (nI_eq (by omega) (by omega)).mp c454
                      refine lv_iconst (v := nI 1) X.1 X.2.1 dL_areBoats_101 (by decide) ?_
                      refine lv_goto (tgt := 106) X.1 X.2.1 dL_areBoats_102 (by decide) ?_
                      refine lv_iadd X.1 X.2.1 dL_areBoats_106 ?_
                      refine x_top (nI_add _ _) ?_
                      refine x_top (y := nI (pfN A b 1 (r + 1))) (congrArg nI (pf_y ⟨hcn, n456⟩)) ?_
                      refine lv_istore (lv' := [(6, .int (nI (pfN A b 1 (r + 1)))), (7, .int (nI (mxN A b (r + 1)))), (5, .int (nI (smN A b (r + 1)))), (10, .int (nI (ptN A r b))), (9, .int (nI r)), (8, .int ((-5))), (1, .int (nI (orN A b))), (4, .int (nI b)), (3, .int (nI (ncl A))), (2, .int (nI (A 1))), (0, .ref (ad 0))]) X.1 X.2.1 dL_areBoats_107 hl (by decide) rfl (fun ls hl => ?_)
                      refine lv_iinc (v := nI (r + 1)) (lv' := [(9, .int (nI (r + 1))), (6, .int (nI (pfN A b 1 (r + 1)))), (7, .int (nI (mxN A b (r + 1)))), (5, .int (nI (smN A b (r + 1)))), (10, .int (nI (ptN A r b))), (8, .int ((-5))), (1, .int (nI (orN A b))), (4, .int (nI b)), (3, .int (nI (ncl A))), (2, .int (nI (A 1))), (0, .ref (ad 0))]) X.1 X.2.1 dL_areBoats_109 hl (k := 4) rfl (by first | exact nI_1 _ | exact nI_add _ _ | rfl) (by decide) rfl (fun ls hl => ?_)
                      refine lv_goto (tgt := 44) X.1 X.2.1 dL_areBoats_112 (by decide) ?_
                      exact ih2 (r + 1) F450 (by omega) (by omega) hO452 hfr _ _ hw _ (lv_sub hl [3, 1, 2, 0, 5, 6, 7, 8, 9, 10] rfl)
                  · refine lv_iload X.1 X.2.1 dL_areBoats_85 (lv_at hl 3 rfl) ?_
                    refine lv_aload_n X.1 X.2.1 dL_areBoats_87 rfl (lv_at hl 10 rfl) ?_
                    refine lv_iload X.1 X.2.1 dL_areBoats_88 (lv_at hl 4 rfl) ?_
                    refine lv_iload X.1 X.2.1 dL_areBoats_90 (lv_at hl 7 rfl) ?_
                    refine lv_bipush (v := nI 7) X.1 X.2.1 dL_areBoats_92 (by decide) ?_
                    refine x_callV X hK hw (k := 0) (As := [.int (nI r), .int (nI b), .int (nI 7)]) (rest := [.int (nI (pfN A b 1 r))]) (w_result hI (by omega) hJ.1.1 hO430 (nI r) (nI b) (nI 7) (fun g t tm hE => ((a_res7 hJ hc hk hE (by omega) (by omega) tm).trans (if_pos (by omega))).trans ((place_n hJ hc hk (by omega) (by omega)).trans (if_neg hcn)))) (x_cwV yX7_result cX7_result 4 (some .int) 3 X q695 q696 q697 q1 q698 hd_X7_result ⟨(Nat.le_of_ble_eq_true rfl), (Nat.le_of_ble_eq_true rfl)⟩) (by omega) hO430.ma rfl rfl hl.1 rfl (Nat.le_of_ble_eq_true rfl) dL_areBoats_94 ⟨(Nat.le_of_ble_eq_true rfl), (Nat.le_of_ble_eq_true rfl)⟩ (fun v457 F458 H locs hp hw => ?_)
                    obtain ⟨e459, hO460, hf461⟩ := hp
                    refine x_top e459 ?_
                    replace hfr := hfr.tr hf461 (by omega) (by omega)
                    refine lv_iconst (v := nI 1) X.1 X.2.1 dL_areBoats_97 (by decide) ?_
                    refine lv_icmp_ne (tgt := 105) X.1 X.2.1 dL_areBoats_98 (by decide) (fun c462 => ?_) (fun c462 => ?_)
                    · refine lv_iconst (v := nI 0) X.1 X.2.1 dL_areBoats_105 (by decide) ?_
                      refine lv_iadd X.1 X.2.1 dL_areBoats_106 ?_
                      refine x_top (nI_add _ _) ?_
                      refine x_top (y := nI (pfN A b 1 (r + 1))) (congrArg nI (pf_z (fun z => hcn z.1))) ?_
                      refine lv_istore (lv' := [(6, .int (nI (pfN A b 1 (r + 1)))), (7, .int (nI (mxN A b (r + 1)))), (5, .int (nI (smN A b (r + 1)))), (10, .int (nI (ptN A r b))), (9, .int (nI r)), (8, .int ((-5))), (1, .int (nI (orN A b))), (4, .int (nI b)), (3, .int (nI (ncl A))), (2, .int (nI (A 1))), (0, .ref (ad 0))]) X.1 X.2.1 dL_areBoats_107 hl (by decide) rfl (fun ls hl => ?_)
                      refine lv_iinc (v := nI (r + 1)) (lv' := [(9, .int (nI (r + 1))), (6, .int (nI (pfN A b 1 (r + 1)))), (7, .int (nI (mxN A b (r + 1)))), (5, .int (nI (smN A b (r + 1)))), (10, .int (nI (ptN A r b))), (8, .int ((-5))), (1, .int (nI (orN A b))), (4, .int (nI b)), (3, .int (nI (ncl A))), (2, .int (nI (A 1))), (0, .ref (ad 0))]) X.1 X.2.1 dL_areBoats_109 hl (k := 4) rfl (by first | exact nI_1 _ | exact nI_add _ _ | rfl) (by decide) rfl (fun ls hl => ?_)
                      refine lv_goto (tgt := 44) X.1 X.2.1 dL_areBoats_112 (by decide) ?_
                      exact ih2 (r + 1) F458 (by omega) (by omega) hO460 hfr _ _ hw _ (lv_sub hl [3, 1, 2, 0, 5, 6, 7, 8, 9, 10] rfl)
                    · exact absurd c462 (by decide)
          exact loop44 (ncl A) 0 F195 (by omega) (by omega) hO197 hfr _ _ hw _ (lv_sub hl [4, 3, 2, 0, 1, 5, 6, 7, 8, 9] rfl)
    exact loop17 (A 1) 0 F177 (by omega) (by omega) hO179 hfr _ _ hw _ (lv_sub hl [3, 0, 1, 2, 4] rfl)
