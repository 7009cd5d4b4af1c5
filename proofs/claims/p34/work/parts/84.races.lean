/-! the law's method 'areRaces' -/
theorem fin_y {A : Nat → Nat} {r b : Nat} (h : eA A r b 0 = 3) : finN A r b + 1 = finN A r (b + 1) := by
  show _ = finN A r b + _
  rw [if_pos h]
theorem fin_z {A : Nat → Nat} {r b : Nat} (h : ¬ eA A r b 0 = 3) : finN A r b + 0 = finN A r (b + 1) := by
  show _ = finN A r b + _
  rw [if_neg h]
theorem ah_0 {A : Nat → Nat} {r j : Nat} (h : ∀ i, i < A 1 → cnP A r i → coN A r j ≤ coN A r i) : ∀ n, n ≤ A 1 → ahN A r j n = 0 := by
  intro n
  induction n with
  | zero => intro _; rfl
  | succ n ih =>
    intro hn
    show ahN A r j n + _ = 0
    rw [ih (by omega), if_neg (fun z => by have := h n (by omega) z.1; omega)]
theorem ncl_lat {c : Nat} {A : Nat → Nat} (hJ : HJ c A) : (latN A = 1 ∧ 0 < A 2 ∧ ncl A + 1 = A 2) ∨ (latN A ≠ 1 ∧ ncl A = A 2) := by
  by_cases h : opn A
  · refine Or.inl ⟨(lat_op hJ).mpr h, h.1, ?_⟩
    unfold ncl
    rw [if_pos (show 0 < A 2 ∧ rA A (A 2 - 1) 3 = 0 from h)]
    have := h.1
    omega
  · refine Or.inr ⟨fun q => h ((lat_op hJ).mp q), ?_⟩
    unfold ncl
    rw [if_neg (show ¬ (0 < A 2 ∧ rA A (A 2 - 1) 3 = 0) from h)]
theorem hd_L_isEntry : yL_isEntry.cls = RL ∧ yL_isEntry.cls ≠ "java/lang/invoke/MethodHandle" ∧ yL_isEntry.cls ≠ "java/lang/invoke/VarHandle" ∧ (parseMethodDescriptor yL_isEntry.desc).map (fun d => d.parameters.length) = some 3 := by decide +kernel
set_option maxHeartbeats 4000000 in
set_option maxRecDepth 100000 in
theorem k_L_areRaces {l : Launch} {D : va_G} {cI cB cS : ClassId} {ad : Nat → Nat} {N : Nat} {F : Nat → va_E} (hI : iN ad N) (hN : 114 ≤ N) {ca : Nat} {hs : Int32} {A A3 : Nat → Nat} (hJ : HJ ca A) (hc : ca ≤ 512) (hk : A 0 ≤ 999999) (hO : OB ad cI cB cS F hs A A3) : Ci l D cI cB cS ad N yL_areRaces cL_areRaces 7 (some .boolean) 8 191 [.ref (ad 0)] F (fun v F' => v = nI 1 ∧ OB ad cI cB cS F' hs A A3 ∧ Fr F F' 0 111) := by
  refine x_met (by decide +kernel) (Nat.le_of_ble_eq_true rfl) ?_
  intro p e s m below meth c X hr hlk hK hw ls hl
  replace hl : lv_has ls 7 [(0, .ref (ad 0))] := hl
  have hfr : Fr F F 0 111 := Fr.rf
  have h9 := hJ.1.1
  have h6 := hJ.1.2.1
  have hncl := ncl_le (A := A)
  have hlat := ncl_lat hJ
  have hlat2 := lat_le hJ
  refine lv_aload_n X.1 X.2.1 dL_areRaces_0 rfl (lv_at hl 0 rfl) ?_
  refine lv_iconst (v := nI 1) X.1 X.2.1 dL_areRaces_1 (by decide) ?_
  refine x_callV X hK hw (k := 0) (As := [.int (nI 1)]) (rest := []) (w_count hI (by omega) hO (nI 1) (fun g t z n hE => a_cou1 hJ hc hk hE z n)) (x_cwV yX7_count cX7_count 2 (some .int) 1 X q818 q819 q820 q1 q821 hd_X7_count ⟨(Nat.le_of_ble_eq_true rfl), (Nat.le_of_ble_eq_true rfl)⟩) (by omega) hO.ma rfl rfl hl.1 rfl (Nat.le_of_ble_eq_true rfl) dL_areRaces_2 ⟨(Nat.le_of_ble_eq_true rfl), (Nat.le_of_ble_eq_true rfl)⟩ (fun v1 F2 H locs hp hw => ?_)
  obtain ⟨e3, hO4, hf5⟩ := hp
  refine x_top e3 ?_
  replace hfr := hfr.tr hf5 (by omega) (by omega)
  refine lv_istore_n (lv' := [(1, .int (nI (A 2))), (0, .ref (ad 0))]) X.1 X.2.1 dL_areRaces_5 rfl hl (by decide) rfl (fun ls hl => ?_)
  refine lv_iconst (v := nI 0) X.1 X.2.1 dL_areRaces_6 (by decide) ?_
  refine lv_istore_n (lv' := [(2, .int (nI 0)), (1, .int (nI (A 2))), (0, .ref (ad 0))]) X.1 X.2.1 dL_areRaces_7 rfl hl (by decide) rfl (fun ls hl => ?_)
  refine lv_iconst (v := nI 0) X.1 X.2.1 dL_areRaces_8 (by decide) ?_
  refine lv_istore_n (lv' := [(3, .int (nI 0)), (2, .int (nI 0)), (1, .int (nI (A 2))), (0, .ref (ad 0))]) X.1 X.2.1 dL_areRaces_9 rfl hl (by decide) rfl (fun ls hl => ?_)
  have way10 : ∀ (r : Nat) (F1 : Nat → va_E) (hr2 : r ≤ A 2) (hOB : OB ad cI cB cS F1 hs A A3) (hfr : Fr F F1 0 111) (hx : A 2 ≤ r) (H : Heap) (locs : List Loc) (hw : HW D (Af ad N s.heap.size) ad N F1 s H locs) (ls : Array Slot) (hl : lv_has ls 7 [(2, .int (nI (min r (ncl A)))), (3, .int (nI r)), (1, .int (nI (A 2))), (0, .ref (ad 0))]), W p l e { frames := 8, cells := 0, slots := 0, locals := 191 } s m [.ref (ad 0)].toArray below meth c H locs 0 0 (MQ below (va_Qi (fun v F' => v = nI 1 ∧ OB ad cI cB cS F' hs A A3 ∧ Fr F F' 0 111) (fun F' t => PO D ad N F' t) (Af ad N s.heap.size)) [.ref (ad 0)].toArray s 0 0 (Af ad N s.heap.size)) (F0 m 213 ls []) := by
    intro r F1 hr2 hOB hfr hx H locs hw ls hl
    refine lv_aload_n X.1 X.2.1 dL_areRaces_213 rfl (lv_at hl 3 rfl) ?_
    refine lv_iconst (v := nI 2) X.1 X.2.1 dL_areRaces_214 (by decide) ?_
    refine x_callV X hK hw (k := 0) (As := [.int (nI 2)]) (rest := []) (w_count hI (by omega) hOB (nI 2) (fun g t z n hE => a_cou2 hJ hc hk hE z n)) (x_cwV yX7_count cX7_count 2 (some .int) 1 X q818 q819 q820 q1 q821 hd_X7_count ⟨(Nat.le_of_ble_eq_true rfl), (Nat.le_of_ble_eq_true rfl)⟩) (by omega) hOB.ma rfl rfl hl.1 rfl (Nat.le_of_ble_eq_true rfl) dL_areRaces_215 ⟨(Nat.le_of_ble_eq_true rfl), (Nat.le_of_ble_eq_true rfl)⟩ (fun v6 F7 H locs hp hw => ?_)
    obtain ⟨e8, hO9, hf10⟩ := hp
    refine x_top e8 ?_
    replace hfr := hfr.tr hf10 (by omega) (by omega)
    refine lv_iload_n X.1 X.2.1 dL_areRaces_218 rfl (lv_at hl 0 rfl) ?_
    refine lv_icmp_ne (tgt := 271) X.1 X.2.1 dL_areRaces_219 (by decide) (fun c11 => ?_) (fun c11 => ?_)
    · exact absurd ((nI_eq (by omega) (by omega)).mpr (by omega)) c11
    · have n12 := (nI_eq (by omega) (by omega)).mp c11
      refine lv_iload_n X.1 X.2.1 dL_areRaces_222 rfl (lv_at hl 0 rfl) ?_
      refine lv_iload_n X.1 X.2.1 dL_areRaces_223 rfl (lv_at hl 2 rfl) ?_
      refine lv_aload_n X.1 X.2.1 dL_areRaces_224 rfl (lv_at hl 3 rfl) ?_
      refine lv_iconst (v := nI 4) X.1 X.2.1 dL_areRaces_225 (by decide) ?_
      refine x_callV X hK hw (k := 0) (As := [.int (nI 4)]) (rest := [.int (nI (A 2)), .int (nI (min r (ncl A)))]) (w_count hI (by omega) hO9 (nI 4) (fun g t z n hE => a_cou4 hJ hc hk hE z n)) (x_cwV yX7_count cX7_count 2 (some .int) 1 X q818 q819 q820 q1 q821 hd_X7_count ⟨(Nat.le_of_ble_eq_true rfl), (Nat.le_of_ble_eq_true rfl)⟩) (by omega) hO9.ma rfl rfl hl.1 rfl (Nat.le_of_ble_eq_true rfl) dL_areRaces_226 ⟨(Nat.le_of_ble_eq_true rfl), (Nat.le_of_ble_eq_true rfl)⟩ (fun v13 F14 H locs hp hw => ?_)
      obtain ⟨e15, hO16, hf17⟩ := hp
      refine x_top e15 ?_
      replace hfr := hfr.tr hf17 (by omega) (by omega)
      refine lv_iconst (v := nI 1) X.1 X.2.1 dL_areRaces_229 (by decide) ?_
      refine lv_icmp_ne (tgt := 237) X.1 X.2.1 dL_areRaces_230 (by decide) (fun c18 => ?_) (fun c18 => ?_)
      · have n19 : ¬ (latN A) = 1 := fun z => c18 ((nI_eq (by omega) (by omega)).mpr z)
        refine lv_iconst (v := nI 0) X.1 X.2.1 dL_areRaces_237 (by decide) ?_
        refine lv_isub X.1 X.2.1 dL_areRaces_238 ?_
        refine x_top (pk_sub (by omega)) ?_
        refine lv_icmp_ne (tgt := 271) X.1 X.2.1 dL_areRaces_239 (by decide) (fun c20 => ?_) (fun c20 => ?_)
        · exact absurd ((nI_eq (by omega) (by omega)).mpr (by omega)) c20
        · have n21 := (nI_eq (by omega) (by omega)).mp c20
          refine lv_aload_n X.1 X.2.1 dL_areRaces_242 rfl (lv_at hl 3 rfl) ?_
          refine lv_iconst (v := nI 4) X.1 X.2.1 dL_areRaces_243 (by decide) ?_
          refine x_callV X hK hw (k := 0) (As := [.int (nI 4)]) (rest := []) (w_count hI (by omega) hO16 (nI 4) (fun g t z n hE => a_cou4 hJ hc hk hE z n)) (x_cwV yX7_count cX7_count 2 (some .int) 1 X q818 q819 q820 q1 q821 hd_X7_count ⟨(Nat.le_of_ble_eq_true rfl), (Nat.le_of_ble_eq_true rfl)⟩) (by omega) hO16.ma rfl rfl hl.1 rfl (Nat.le_of_ble_eq_true rfl) dL_areRaces_244 ⟨(Nat.le_of_ble_eq_true rfl), (Nat.le_of_ble_eq_true rfl)⟩ (fun v22 F23 H locs hp hw => ?_)
          obtain ⟨e24, hO25, hf26⟩ := hp
          refine x_top e24 ?_
          replace hfr := hfr.tr hf26 (by omega) (by omega)
          refine lv_if_ne (tgt := 254) X.1 X.2.1 dL_areRaces_247 (by decide) (fun c27 => ?_) (fun c27 => ?_)
          · have n28 : ¬ (latN A) = 0 := fun z => c27 ((bz_eq (by omega)).mpr z)
            refine lv_iconst (v := nI 0) X.1 X.2.1 dL_areRaces_254 (by decide) ?_
            refine lv_iload_n X.1 X.2.1 dL_areRaces_255 rfl (lv_at hl 2 rfl) ?_
            refine lv_if_ne (tgt := 263) X.1 X.2.1 dL_areRaces_256 (by decide) (fun c29 => ?_) (fun c29 => ?_)
            · have n30 : ¬ (A 2) = 0 := fun z => c29 ((bz_eq (by omega)).mpr z)
              refine lv_iconst (v := nI 0) X.1 X.2.1 dL_areRaces_263 (by decide) ?_
              refine lv_icmp_ne (tgt := 271) X.1 X.2.1 dL_areRaces_264 (by decide) (fun c31 => ?_) (fun c31 => ?_)
              · exact absurd (by decide) c31
              · refine lv_iconst (v := nI 1) X.1 X.2.1 dL_areRaces_267 (by decide) ?_
                refine lv_goto (tgt := 272) X.1 X.2.1 dL_areRaces_268 (by decide) ?_
                exact x_iret X hr hlk hK hw (v := nI 1) (by first | rfl | exact nr_b _ | decide) (⟨rfl, hO25, hfr⟩) dL_areRaces_272
            · exact absurd ((bz_eq (by omega)).mp c29) (by omega)
          · have n32 := (bz_eq (by omega)).mp c27
            refine lv_iconst (v := nI 1) X.1 X.2.1 dL_areRaces_250 (by decide) ?_
            refine lv_goto (tgt := 255) X.1 X.2.1 dL_areRaces_251 (by decide) ?_
            refine lv_iload_n X.1 X.2.1 dL_areRaces_255 rfl (lv_at hl 2 rfl) ?_
            refine lv_if_ne (tgt := 263) X.1 X.2.1 dL_areRaces_256 (by decide) (fun c33 => ?_) (fun c33 => ?_)
            · exact absurd ((bz_eq (by omega)).mpr (by omega)) c33
            · have n34 := (bz_eq (by omega)).mp c33
              refine lv_iconst (v := nI 1) X.1 X.2.1 dL_areRaces_259 (by decide) ?_
              refine lv_goto (tgt := 264) X.1 X.2.1 dL_areRaces_260 (by decide) ?_
              refine lv_icmp_ne (tgt := 271) X.1 X.2.1 dL_areRaces_264 (by decide) (fun c35 => ?_) (fun c35 => ?_)
              · exact absurd (by decide) c35
              · refine lv_iconst (v := nI 1) X.1 X.2.1 dL_areRaces_267 (by decide) ?_
                refine lv_goto (tgt := 272) X.1 X.2.1 dL_areRaces_268 (by decide) ?_
                exact x_iret X hr hlk hK hw (v := nI 1) (by first | rfl | exact nr_b _ | decide) (⟨rfl, hO25, hfr⟩) dL_areRaces_272
      · have n36 := (nI_eq (by omega) (by omega)).mp c18
        refine lv_iconst (v := nI 1) X.1 X.2.1 dL_areRaces_233 (by decide) ?_
        refine lv_goto (tgt := 238) X.1 X.2.1 dL_areRaces_234 (by decide) ?_
        refine lv_isub X.1 X.2.1 dL_areRaces_238 ?_
        refine x_top (pk_sub (by omega)) ?_
        refine lv_icmp_ne (tgt := 271) X.1 X.2.1 dL_areRaces_239 (by decide) (fun c37 => ?_) (fun c37 => ?_)
        · exact absurd ((nI_eq (by omega) (by omega)).mpr (by omega)) c37
        · have n38 := (nI_eq (by omega) (by omega)).mp c37
          refine lv_aload_n X.1 X.2.1 dL_areRaces_242 rfl (lv_at hl 3 rfl) ?_
          refine lv_iconst (v := nI 4) X.1 X.2.1 dL_areRaces_243 (by decide) ?_
          refine x_callV X hK hw (k := 0) (As := [.int (nI 4)]) (rest := []) (w_count hI (by omega) hO16 (nI 4) (fun g t z n hE => a_cou4 hJ hc hk hE z n)) (x_cwV yX7_count cX7_count 2 (some .int) 1 X q818 q819 q820 q1 q821 hd_X7_count ⟨(Nat.le_of_ble_eq_true rfl), (Nat.le_of_ble_eq_true rfl)⟩) (by omega) hO16.ma rfl rfl hl.1 rfl (Nat.le_of_ble_eq_true rfl) dL_areRaces_244 ⟨(Nat.le_of_ble_eq_true rfl), (Nat.le_of_ble_eq_true rfl)⟩ (fun v39 F40 H locs hp hw => ?_)
          obtain ⟨e41, hO42, hf43⟩ := hp
          refine x_top e41 ?_
          replace hfr := hfr.tr hf43 (by omega) (by omega)
          refine lv_if_ne (tgt := 254) X.1 X.2.1 dL_areRaces_247 (by decide) (fun c44 => ?_) (fun c44 => ?_)
          · have n45 : ¬ (latN A) = 0 := fun z => c44 ((bz_eq (by omega)).mpr z)
            refine lv_iconst (v := nI 0) X.1 X.2.1 dL_areRaces_254 (by decide) ?_
            refine lv_iload_n X.1 X.2.1 dL_areRaces_255 rfl (lv_at hl 2 rfl) ?_
            refine lv_if_ne (tgt := 263) X.1 X.2.1 dL_areRaces_256 (by decide) (fun c46 => ?_) (fun c46 => ?_)
            · have n47 : ¬ (A 2) = 0 := fun z => c46 ((bz_eq (by omega)).mpr z)
              refine lv_iconst (v := nI 0) X.1 X.2.1 dL_areRaces_263 (by decide) ?_
              refine lv_icmp_ne (tgt := 271) X.1 X.2.1 dL_areRaces_264 (by decide) (fun c48 => ?_) (fun c48 => ?_)
              · exact absurd (by decide) c48
              · refine lv_iconst (v := nI 1) X.1 X.2.1 dL_areRaces_267 (by decide) ?_
                refine lv_goto (tgt := 272) X.1 X.2.1 dL_areRaces_268 (by decide) ?_
                exact x_iret X hr hlk hK hw (v := nI 1) (by first | rfl | exact nr_b _ | decide) (⟨rfl, hO42, hfr⟩) dL_areRaces_272
            · exact absurd ((bz_eq (by omega)).mp c46) (by omega)
          · have n49 := (bz_eq (by omega)).mp c44
            refine lv_iconst (v := nI 1) X.1 X.2.1 dL_areRaces_250 (by decide) ?_
            refine lv_goto (tgt := 255) X.1 X.2.1 dL_areRaces_251 (by decide) ?_
            refine lv_iload_n X.1 X.2.1 dL_areRaces_255 rfl (lv_at hl 2 rfl) ?_
            refine lv_if_ne (tgt := 263) X.1 X.2.1 dL_areRaces_256 (by decide) (fun c50 => ?_) (fun c50 => ?_)
            · exact absurd ((bz_eq (by omega)).mpr (by omega)) c50
            · have n51 := (bz_eq (by omega)).mp c50
              refine lv_iconst (v := nI 1) X.1 X.2.1 dL_areRaces_259 (by decide) ?_
              refine lv_goto (tgt := 264) X.1 X.2.1 dL_areRaces_260 (by decide) ?_
              refine lv_icmp_ne (tgt := 271) X.1 X.2.1 dL_areRaces_264 (by decide) (fun c52 => ?_) (fun c52 => ?_)
              · exact absurd (by decide) c52
              · refine lv_iconst (v := nI 1) X.1 X.2.1 dL_areRaces_267 (by decide) ?_
                refine lv_goto (tgt := 272) X.1 X.2.1 dL_areRaces_268 (by decide) ?_
                exact x_iret X hr hlk hK hw (v := nI 1) (by first | rfl | exact nr_b _ | decide) (⟨rfl, hO42, hfr⟩) dL_areRaces_272
  have loop10 : ∀ (fu : Nat) (r : Nat) (F1 : Nat → va_E) (hfu : A 2 ≤ r + fu) (hr2 : r ≤ A 2) (hOB : OB ad cI cB cS F1 hs A A3) (hfr : Fr F F1 0 111) (H : Heap) (locs : List Loc) (hw : HW D (Af ad N s.heap.size) ad N F1 s H locs) (ls : Array Slot) (hl : lv_has ls 7 [(2, .int (nI (min r (ncl A)))), (3, .int (nI r)), (1, .int (nI (A 2))), (0, .ref (ad 0))]), W p l e { frames := 8, cells := 0, slots := 0, locals := 191 } s m [.ref (ad 0)].toArray below meth c H locs 0 0 (MQ below (va_Qi (fun v F' => v = nI 1 ∧ OB ad cI cB cS F' hs A A3 ∧ Fr F F' 0 111) (fun F' t => PO D ad N F' t) (Af ad N s.heap.size)) [.ref (ad 0)].toArray s 0 0 (Af ad N s.heap.size)) (F0 m 10 ls []) := by
    intro fu
    induction fu with
    | zero =>
      intro r F1 hfu hr2 hOB hfr H locs hw ls hl
      refine lv_iload_n X.1 X.2.1 dL_areRaces_10 rfl (lv_at hl 1 rfl) ?_
      refine lv_iload_n X.1 X.2.1 dL_areRaces_11 rfl (lv_at hl 2 rfl) ?_
      refine lv_icmp_ge (tgt := 213) X.1 X.2.1 dL_areRaces_12 (by decide) (fun c53 => ?_) (fun c53 => ?_)
      · have n54 := (nI_leI (by omega) (by omega)).mp c53
        exact way10 r F1 hr2 hOB hfr n54 _ _ hw _ (lv_sub hl [0, 1, 2, 3] rfl)
      · exact absurd ((nI_leI (by omega) (by omega)).mpr (by omega)) c53
    | succ fu ih =>
      intro r F1 hfu hr2 hOB hfr H locs hw ls hl
      refine lv_iload_n X.1 X.2.1 dL_areRaces_10 rfl (lv_at hl 1 rfl) ?_
      refine lv_iload_n X.1 X.2.1 dL_areRaces_11 rfl (lv_at hl 2 rfl) ?_
      refine lv_icmp_ge (tgt := 213) X.1 X.2.1 dL_areRaces_12 (by decide) (fun c55 => ?_) (fun c55 => ?_)
      · have n56 := (nI_leI (by omega) (by omega)).mp c55
        exact way10 r F1 hr2 hOB hfr n56 _ _ hw _ (lv_sub hl [0, 1, 2, 3] rfl)
      · have n57 : ¬ (A 2) ≤ r := fun z => c55 ((nI_leI (by omega) (by omega)).mpr z)
        have hnr := ncl_r hJ (r := r) (by omega)
        have hR3 := (hJ.2.1 r (by omega)).2.2.2.2.2.1
        have hfe := (fin_eq (A := A) (r := r) (fun b hb => (hJ.bj (by omega) hb).1) (A 1) (Nat.le_refl _)).2
        have hoe := (out_eq (A := A) (r := r) (fun b hb => (hJ.bj (by omega) hb).2.2.2.2.2.1) (A 1) (Nat.le_refl _)).2
        refine lv_iconst (v := nI 0) X.1 X.2.1 dL_areRaces_15 (by decide) ?_
        refine lv_istore (lv' := [(4, .int (nI 0)), (2, .int (nI (min r (ncl A)))), (3, .int (nI r)), (1, .int (nI (A 2))), (0, .ref (ad 0))]) X.1 X.2.1 dL_areRaces_16 hl (by decide) rfl (fun ls hl => ?_)
        refine lv_iconst (v := nI 0) X.1 X.2.1 dL_areRaces_18 (by decide) ?_
        refine lv_istore (lv' := [(5, .int (nI 0)), (4, .int (nI 0)), (2, .int (nI (min r (ncl A)))), (3, .int (nI r)), (1, .int (nI (A 2))), (0, .ref (ad 0))]) X.1 X.2.1 dL_areRaces_19 hl (by decide) rfl (fun ls hl => ?_)
        refine lv_iload_n X.1 X.2.1 dL_areRaces_21 rfl (lv_at hl 2 rfl) ?_
        refine lv_aload_n X.1 X.2.1 dL_areRaces_22 rfl (lv_at hl 5 rfl) ?_
        refine lv_iload_n X.1 X.2.1 dL_areRaces_23 rfl (lv_at hl 3 rfl) ?_
        refine lv_iconst (v := nI 3) X.1 X.2.1 dL_areRaces_24 (by decide) ?_
        refine x_callV X hK hw (k := 0) (As := [.int (nI r), .int (nI 3)]) (rest := [.int (nI (min r (ncl A)))]) (w_race hI (by omega) hJ.1.1 hOB (nI r) (nI 3) (fun g t tm hE => a_rac3 hJ hc hk hE (by omega) tm)) (x_cwV yX7_race cX7_race 3 (some .int) 2 X q804 q805 q806 q1 q807 hd_X7_race ⟨(Nat.le_of_ble_eq_true rfl), (Nat.le_of_ble_eq_true rfl)⟩) (by omega) hOB.ma rfl rfl hl.1 rfl (Nat.le_of_ble_eq_true rfl) dL_areRaces_25 ⟨(Nat.le_of_ble_eq_true rfl), (Nat.le_of_ble_eq_true rfl)⟩ (fun v58 F59 H locs hp hw => ?_)
        obtain ⟨e60, hO61, hf62⟩ := hp
        refine x_top e60 ?_
        replace hfr := hfr.tr hf62 (by omega) (by omega)
        refine lv_iconst (v := nI 2) X.1 X.2.1 dL_areRaces_28 (by decide) ?_
        refine lv_icmp_ne (tgt := 36) X.1 X.2.1 dL_areRaces_29 (by decide) (fun c63 => ?_) (fun c63 => ?_)
        · have n64 : ¬ (rA A r 3 + 1) = 2 := fun z => c63 ((nI_eq (by omega) (by omega)).mpr z)
          refine lv_iconst (v := nI 0) X.1 X.2.1 dL_areRaces_36 (by decide) ?_
          refine lv_iadd X.1 X.2.1 dL_areRaces_37 ?_
          refine x_top (nI_add _ _) ?_
          refine x_top (y := nI (min (r + 1) (ncl A))) (congrArg nI (by omega)) ?_
          refine lv_istore_n (lv' := [(2, .int (nI (min (r + 1) (ncl A)))), (5, .int (nI 0)), (4, .int (nI 0)), (3, .int (nI r)), (1, .int (nI (A 2))), (0, .ref (ad 0))]) X.1 X.2.1 dL_areRaces_38 rfl hl (by decide) rfl (fun ls hl => ?_)
          refine lv_iconst (v := nI 0) X.1 X.2.1 dL_areRaces_39 (by decide) ?_
          refine lv_istore (lv' := [(6, .int (nI 0)), (2, .int (nI (min (r + 1) (ncl A)))), (5, .int (nI 0)), (4, .int (nI 0)), (3, .int (nI r)), (1, .int (nI (A 2))), (0, .ref (ad 0))]) X.1 X.2.1 dL_areRaces_40 hl (by decide) rfl (fun ls hl => ?_)
          have way42 : ∀ (b : Nat) (F2 : Nat → va_E) (hb2 : b ≤ A 1) (hOC : OB ad cI cB cS F2 hs A A3) (hfr : Fr F F2 0 111) (hx2 : A 1 ≤ b) (H : Heap) (locs : List Loc) (hw : HW D (Af ad N s.heap.size) ad N F2 s H locs) (ls : Array Slot) (hl : lv_has ls 7 [(4, .int (nI (finN A r b))), (5, .int (nI (outN A r b))), (6, .int (nI b)), (2, .int (nI (min (r + 1) (ncl A)))), (3, .int (nI r)), (1, .int (nI (A 2))), (0, .ref (ad 0))]), W p l e { frames := 8, cells := 0, slots := 0, locals := 191 } s m [.ref (ad 0)].toArray below meth c H locs 0 0 (MQ below (va_Qi (fun v F' => v = nI 1 ∧ OB ad cI cB cS F' hs A A3 ∧ Fr F F' 0 111) (fun F' t => PO D ad N F' t) (Af ad N s.heap.size)) [.ref (ad 0)].toArray s 0 0 (Af ad N s.heap.size)) (F0 m 105 ls []) := by
            intro b F2 hb2 hOC hfr hx2 H locs hw ls hl
            have ebA : b = A 1 := by omega
            have hfb : finN A r b = finN A r (A 1) := by rw [ebA]
            have hob : outN A r b = outN A r (A 1) := by rw [ebA]
            rcases bst_n hJ hc hk (r := r) (by omega) with ⟨hbn, hbz⟩ | ⟨j, hj, hj1, hj2, hj3⟩
            · refine lv_aload_n X.1 X.2.1 dL_areRaces_105 rfl (lv_at hl 6 rfl) ?_
              refine lv_iload_n X.1 X.2.1 dL_areRaces_106 rfl (lv_at hl 4 rfl) ?_
              refine lv_bipush (v := nI 6) X.1 X.2.1 dL_areRaces_107 (by decide) ?_
              refine x_callV X hK hw (k := 0) (As := [.int (nI r), .int (nI 6)]) (rest := []) (w_race hI (by omega) hJ.1.1 hOC (nI r) (nI 6) (fun g t tm hE => (a_rac6 hJ hc hk hE (by omega) tm).trans (congrArg oI hbn))) (x_cwV yX7_race cX7_race 3 (some .int) 2 X q804 q805 q806 q1 q807 hd_X7_race ⟨(Nat.le_of_ble_eq_true rfl), (Nat.le_of_ble_eq_true rfl)⟩) (by omega) hOC.ma rfl rfl hl.1 rfl (Nat.le_of_ble_eq_true rfl) dL_areRaces_109 ⟨(Nat.le_of_ble_eq_true rfl), (Nat.le_of_ble_eq_true rfl)⟩ (fun v65 F66 H locs hp hw => ?_)
              obtain ⟨e67, hO68, hf69⟩ := hp
              refine x_top e67 ?_
              replace hfr := hfr.tr hf69 (by omega) (by omega)
              refine lv_istore (lv' := [(6, .int ((-5))), (4, .int (nI (finN A r b))), (5, .int (nI (outN A r b))), (2, .int (nI (min (r + 1) (ncl A)))), (3, .int (nI r)), (1, .int (nI (A 2))), (0, .ref (ad 0))]) X.1 X.2.1 dL_areRaces_112 hl (by decide) rfl (fun ls hl => ?_)
              refine lv_aload_n X.1 X.2.1 dL_areRaces_114 rfl (lv_at hl 6 rfl) ?_
              refine lv_iload_n X.1 X.2.1 dL_areRaces_115 rfl (lv_at hl 4 rfl) ?_
              refine lv_iconst (v := nI 4) X.1 X.2.1 dL_areRaces_116 (by decide) ?_
              refine x_callV X hK hw (k := 0) (As := [.int (nI r), .int (nI 4)]) (rest := []) (w_race hI (by omega) hJ.1.1 hO68 (nI r) (nI 4) (fun g t tm hE => a_rac4 hJ hc hk hE (by omega) tm)) (x_cwV yX7_race cX7_race 3 (some .int) 2 X q804 q805 q806 q1 q807 hd_X7_race ⟨(Nat.le_of_ble_eq_true rfl), (Nat.le_of_ble_eq_true rfl)⟩) (by omega) hO68.ma rfl rfl hl.1 rfl (Nat.le_of_ble_eq_true rfl) dL_areRaces_117 ⟨(Nat.le_of_ble_eq_true rfl), (Nat.le_of_ble_eq_true rfl)⟩ (fun v70 F71 H locs hp hw => ?_)
              obtain ⟨e72, hO73, hf74⟩ := hp
              refine x_top e72 ?_
              replace hfr := hfr.tr hf74 (by omega) (by omega)
              refine lv_iload X.1 X.2.1 dL_areRaces_120 (lv_at hl 1 rfl) ?_
              refine lv_icmp_ne (tgt := 205) X.1 X.2.1 dL_areRaces_122 (by decide) (fun c75 => ?_) (fun c75 => ?_)
              · exact absurd ((nI_eq (by omega) (by omega)).mpr (by omega)) c75
              · have n76 := (nI_eq (by omega) (by omega)).mp c75
                refine lv_aload_n X.1 X.2.1 dL_areRaces_125 rfl (lv_at hl 6 rfl) ?_
                refine lv_iload_n X.1 X.2.1 dL_areRaces_126 rfl (lv_at hl 4 rfl) ?_
                refine lv_iconst (v := nI 5) X.1 X.2.1 dL_areRaces_127 (by decide) ?_
                refine x_callV X hK hw (k := 0) (As := [.int (nI r), .int (nI 5)]) (rest := []) (w_race hI (by omega) hJ.1.1 hO73 (nI r) (nI 5) (fun g t tm hE => a_rac5 hJ hc hk hE (by omega) tm)) (x_cwV yX7_race cX7_race 3 (some .int) 2 X q804 q805 q806 q1 q807 hd_X7_race ⟨(Nat.le_of_ble_eq_true rfl), (Nat.le_of_ble_eq_true rfl)⟩) (by omega) hO73.ma rfl rfl hl.1 rfl (Nat.le_of_ble_eq_true rfl) dL_areRaces_128 ⟨(Nat.le_of_ble_eq_true rfl), (Nat.le_of_ble_eq_true rfl)⟩ (fun v77 F78 H locs hp hw => ?_)
                obtain ⟨e79, hO80, hf81⟩ := hp
                refine x_top e79 ?_
                replace hfr := hfr.tr hf81 (by omega) (by omega)
                refine lv_iload X.1 X.2.1 dL_areRaces_131 (lv_at hl 2 rfl) ?_
                refine lv_icmp_ne (tgt := 205) X.1 X.2.1 dL_areRaces_133 (by decide) (fun c82 => ?_) (fun c82 => ?_)
                · exact absurd ((nI_eq (by omega) (by omega)).mpr (by omega)) c82
                · have n83 := (nI_eq (by omega) (by omega)).mp c82
                  refine lv_iload_n X.1 X.2.1 dL_areRaces_136 rfl (lv_at hl 4 rfl) ?_
                  refine lv_iload_n X.1 X.2.1 dL_areRaces_137 rfl (lv_at hl 5 rfl) ?_
                  refine lv_iconst (v := nI 1) X.1 X.2.1 dL_areRaces_138 (by decide) ?_
                  refine lv_isub X.1 X.2.1 dL_areRaces_139 ?_
                  refine x_top (pk_sub (by omega)) ?_
                  refine lv_icmp_ge (tgt := 153) X.1 X.2.1 dL_areRaces_140 (by decide) (fun c84 => ?_) (fun c84 => ?_)
                  · have n85 := (nI_leI (by omega) (by omega)).mp c84
                    refine lv_iload X.1 X.2.1 dL_areRaces_153 (lv_at hl 0 rfl) ?_
                    refine lv_if_lt (tgt := 207) X.1 X.2.1 dL_areRaces_155 (by decide) (fun c86 => ?_) (fun c86 => ?_)
                    · refine lv_iinc (v := nI (r + 1)) (lv' := [(3, .int (nI (r + 1))), (6, .int ((-5))), (4, .int (nI (finN A r b))), (5, .int (nI (outN A r b))), (2, .int (nI (min (r + 1) (ncl A)))), (1, .int (nI (A 2))), (0, .ref (ad 0))]) X.1 X.2.1 dL_areRaces_207 hl (k := 4) rfl (by first | exact nI_1 _ | exact nI_add _ _ | rfl) (by decide) rfl (fun ls hl => ?_)
                      refine lv_goto (tgt := 10) X.1 X.2.1 dL_areRaces_210 (by decide) ?_
                      exact ih (r + 1) F78 (by omega) (by omega) hO80 hfr _ _ hw _ (lv_sub hl [4, 0, 5, 6] rfl)
                    · exact absurd (by decide) c86
                  · have n87 : ¬ ((A 2) - 1) ≤ r := fun z => c84 ((nI_leI (by omega) (by omega)).mpr z)
                    refine lv_aload_n X.1 X.2.1 dL_areRaces_143 rfl (lv_at hl 6 rfl) ?_
                    refine lv_iload_n X.1 X.2.1 dL_areRaces_144 rfl (lv_at hl 4 rfl) ?_
                    refine lv_iconst (v := nI 3) X.1 X.2.1 dL_areRaces_145 (by decide) ?_
                    refine x_callV X hK hw (k := 0) (As := [.int (nI r), .int (nI 3)]) (rest := []) (w_race hI (by omega) hJ.1.1 hO80 (nI r) (nI 3) (fun g t tm hE => a_rac3 hJ hc hk hE (by omega) tm)) (x_cwV yX7_race cX7_race 3 (some .int) 2 X q804 q805 q806 q1 q807 hd_X7_race ⟨(Nat.le_of_ble_eq_true rfl), (Nat.le_of_ble_eq_true rfl)⟩) (by omega) hO80.ma rfl rfl hl.1 rfl (Nat.le_of_ble_eq_true rfl) dL_areRaces_146 ⟨(Nat.le_of_ble_eq_true rfl), (Nat.le_of_ble_eq_true rfl)⟩ (fun v88 F89 H locs hp hw => ?_)
                    obtain ⟨e90, hO91, hf92⟩ := hp
                    refine x_top e90 ?_
                    replace hfr := hfr.tr hf92 (by omega) (by omega)
                    refine lv_iconst (v := nI 2) X.1 X.2.1 dL_areRaces_149 (by decide) ?_
                    refine lv_icmp_ne (tgt := 205) X.1 X.2.1 dL_areRaces_150 (by decide) (fun c93 => ?_) (fun c93 => ?_)
                    · exact absurd ((nI_eq (by omega) (by omega)).mpr (by omega)) c93
                    · have n94 := (nI_eq (by omega) (by omega)).mp c93
                      refine lv_iload X.1 X.2.1 dL_areRaces_153 (lv_at hl 0 rfl) ?_
                      refine lv_if_lt (tgt := 207) X.1 X.2.1 dL_areRaces_155 (by decide) (fun c95 => ?_) (fun c95 => ?_)
                      · refine lv_iinc (v := nI (r + 1)) (lv' := [(3, .int (nI (r + 1))), (6, .int ((-5))), (4, .int (nI (finN A r b))), (5, .int (nI (outN A r b))), (2, .int (nI (min (r + 1) (ncl A)))), (1, .int (nI (A 2))), (0, .ref (ad 0))]) X.1 X.2.1 dL_areRaces_207 hl (k := 4) rfl (by first | exact nI_1 _ | exact nI_add _ _ | rfl) (by decide) rfl (fun ls hl => ?_)
                        refine lv_goto (tgt := 10) X.1 X.2.1 dL_areRaces_210 (by decide) ?_
                        exact ih (r + 1) F89 (by omega) (by omega) hO91 hfr _ _ hw _ (lv_sub hl [4, 0, 5, 6] rfl)
                      · exact absurd (by decide) c95
            · have hp0 : plN A r j = 1 := by unfold plN; rw [ah_0 hj3 (A 1) (Nat.le_refl _)]
              have hj4 := hj2.1
              have hj5 := hj2.2
              refine lv_aload_n X.1 X.2.1 dL_areRaces_105 rfl (lv_at hl 6 rfl) ?_
              refine lv_iload_n X.1 X.2.1 dL_areRaces_106 rfl (lv_at hl 4 rfl) ?_
              refine lv_bipush (v := nI 6) X.1 X.2.1 dL_areRaces_107 (by decide) ?_
              refine x_callV X hK hw (k := 0) (As := [.int (nI r), .int (nI 6)]) (rest := []) (w_race hI (by omega) hJ.1.1 hOC (nI r) (nI 6) (fun g t tm hE => (a_rac6 hJ hc hk hE (by omega) tm).trans (congrArg oI hj))) (x_cwV yX7_race cX7_race 3 (some .int) 2 X q804 q805 q806 q1 q807 hd_X7_race ⟨(Nat.le_of_ble_eq_true rfl), (Nat.le_of_ble_eq_true rfl)⟩) (by omega) hOC.ma rfl rfl hl.1 rfl (Nat.le_of_ble_eq_true rfl) dL_areRaces_109 ⟨(Nat.le_of_ble_eq_true rfl), (Nat.le_of_ble_eq_true rfl)⟩ (fun v96 F97 H locs hp hw => ?_)
              obtain ⟨e98, hO99, hf100⟩ := hp
              refine x_top e98 ?_
              replace hfr := hfr.tr hf100 (by omega) (by omega)
              refine lv_istore (lv' := [(6, .int (nI j)), (4, .int (nI (finN A r b))), (5, .int (nI (outN A r b))), (2, .int (nI (min (r + 1) (ncl A)))), (3, .int (nI r)), (1, .int (nI (A 2))), (0, .ref (ad 0))]) X.1 X.2.1 dL_areRaces_112 hl (by decide) rfl (fun ls hl => ?_)
              refine lv_aload_n X.1 X.2.1 dL_areRaces_114 rfl (lv_at hl 6 rfl) ?_
              refine lv_iload_n X.1 X.2.1 dL_areRaces_115 rfl (lv_at hl 4 rfl) ?_
              refine lv_iconst (v := nI 4) X.1 X.2.1 dL_areRaces_116 (by decide) ?_
              refine x_callV X hK hw (k := 0) (As := [.int (nI r), .int (nI 4)]) (rest := []) (w_race hI (by omega) hJ.1.1 hO99 (nI r) (nI 4) (fun g t tm hE => a_rac4 hJ hc hk hE (by omega) tm)) (x_cwV yX7_race cX7_race 3 (some .int) 2 X q804 q805 q806 q1 q807 hd_X7_race ⟨(Nat.le_of_ble_eq_true rfl), (Nat.le_of_ble_eq_true rfl)⟩) (by omega) hO99.ma rfl rfl hl.1 rfl (Nat.le_of_ble_eq_true rfl) dL_areRaces_117 ⟨(Nat.le_of_ble_eq_true rfl), (Nat.le_of_ble_eq_true rfl)⟩ (fun v101 F102 H locs hp hw => ?_)
              obtain ⟨e103, hO104, hf105⟩ := hp
              refine x_top e103 ?_
              replace hfr := hfr.tr hf105 (by omega) (by omega)
              refine lv_iload X.1 X.2.1 dL_areRaces_120 (lv_at hl 1 rfl) ?_
              refine lv_icmp_ne (tgt := 205) X.1 X.2.1 dL_areRaces_122 (by decide) (fun c106 => ?_) (fun c106 => ?_)
              · exact absurd ((nI_eq (by omega) (by omega)).mpr (by omega)) c106
              · have n107 := (nI_eq (by omega) (by omega)).mp c106
                refine lv_aload_n X.1 X.2.1 dL_areRaces_125 rfl (lv_at hl 6 rfl) ?_
                refine lv_iload_n X.1 X.2.1 dL_areRaces_126 rfl (lv_at hl 4 rfl) ?_
                refine lv_iconst (v := nI 5) X.1 X.2.1 dL_areRaces_127 (by decide) ?_
                refine x_callV X hK hw (k := 0) (As := [.int (nI r), .int (nI 5)]) (rest := []) (w_race hI (by omega) hJ.1.1 hO104 (nI r) (nI 5) (fun g t tm hE => a_rac5 hJ hc hk hE (by omega) tm)) (x_cwV yX7_race cX7_race 3 (some .int) 2 X q804 q805 q806 q1 q807 hd_X7_race ⟨(Nat.le_of_ble_eq_true rfl), (Nat.le_of_ble_eq_true rfl)⟩) (by omega) hO104.ma rfl rfl hl.1 rfl (Nat.le_of_ble_eq_true rfl) dL_areRaces_128 ⟨(Nat.le_of_ble_eq_true rfl), (Nat.le_of_ble_eq_true rfl)⟩ (fun v108 F109 H locs hp hw => ?_)
                obtain ⟨e110, hO111, hf112⟩ := hp
                refine x_top e110 ?_
                replace hfr := hfr.tr hf112 (by omega) (by omega)
                refine lv_iload X.1 X.2.1 dL_areRaces_131 (lv_at hl 2 rfl) ?_
                refine lv_icmp_ne (tgt := 205) X.1 X.2.1 dL_areRaces_133 (by decide) (fun c113 => ?_) (fun c113 => ?_)
                · exact absurd ((nI_eq (by omega) (by omega)).mpr (by omega)) c113
                · have n114 := (nI_eq (by omega) (by omega)).mp c113
                  refine lv_iload_n X.1 X.2.1 dL_areRaces_136 rfl (lv_at hl 4 rfl) ?_
                  refine lv_iload_n X.1 X.2.1 dL_areRaces_137 rfl (lv_at hl 5 rfl) ?_
                  refine lv_iconst (v := nI 1) X.1 X.2.1 dL_areRaces_138 (by decide) ?_
                  refine lv_isub X.1 X.2.1 dL_areRaces_139 ?_
                  refine x_top (pk_sub (by omega)) ?_
                  refine lv_icmp_ge (tgt := 153) X.1 X.2.1 dL_areRaces_140 (by decide) (fun c115 => ?_) (fun c115 => ?_)
                  · have n116 := (nI_leI (by omega) (by omega)).mp c115
                    refine lv_iload X.1 X.2.1 dL_areRaces_153 (lv_at hl 0 rfl) ?_
                    refine lv_if_lt (tgt := 207) X.1 X.2.1 dL_areRaces_155 (by decide) (fun c117 => ?_) (fun c117 => ?_)
                    · have n118 := (bz_lt (by omega)).mp c117
                      refine lv_iinc (v := nI (r + 1)) (lv' := [(3, .int (nI (r + 1))), (6, .int (nI j)), (4, .int (nI (finN A r b))), (5, .int (nI (outN A r b))), (2, .int (nI (min (r + 1) (ncl A)))), (1, .int (nI (A 2))), (0, .ref (ad 0))]) X.1 X.2.1 dL_areRaces_207 hl (k := 4) rfl (by first | exact nI_1 _ | exact nI_add _ _ | rfl) (by decide) rfl (fun ls hl => ?_)
                      refine lv_goto (tgt := 10) X.1 X.2.1 dL_areRaces_210 (by decide) ?_
                      exact ih (r + 1) F109 (by omega) (by omega) hO111 hfr _ _ hw _ (lv_sub hl [4, 0, 5, 6] rfl)
                    · have n119 : ¬ j < 0 := fun z => c117 ((bz_lt (by omega)).mpr z)
                      refine lv_aload_n X.1 X.2.1 dL_areRaces_158 rfl (lv_at hl 6 rfl) ?_
                      refine lv_iload_n X.1 X.2.1 dL_areRaces_159 rfl (lv_at hl 4 rfl) ?_
                      refine lv_iload X.1 X.2.1 dL_areRaces_160 (lv_at hl 0 rfl) ?_
                      refine lv_iconst (v := nI 0) X.1 X.2.1 dL_areRaces_162 (by decide) ?_
                      refine x_callV X hK hw (k := 0) (As := [.int (nI r), .int (nI j), .int (nI 0)]) (rest := []) (w_result hI (by omega) hJ.1.1 hO111 (nI r) (nI j) (nI 0) (fun g t tm hE => a_res0 hJ hc hk hE (by omega) (by omega) tm)) (x_cwV yX7_result cX7_result 4 (some .int) 3 X q695 q696 q697 q1 q698 hd_X7_result ⟨(Nat.le_of_ble_eq_true rfl), (Nat.le_of_ble_eq_true rfl)⟩) (by omega) hO111.ma rfl rfl hl.1 rfl (Nat.le_of_ble_eq_true rfl) dL_areRaces_163 ⟨(Nat.le_of_ble_eq_true rfl), (Nat.le_of_ble_eq_true rfl)⟩ (fun v120 F121 H locs hp hw => ?_)
                      obtain ⟨e122, hO123, hf124⟩ := hp
                      refine x_top e122 ?_
                      replace hfr := hfr.tr hf124 (by omega) (by omega)
                      refine lv_iconst (v := nI 3) X.1 X.2.1 dL_areRaces_166 (by decide) ?_
                      refine lv_icmp_ne (tgt := 205) X.1 X.2.1 dL_areRaces_167 (by decide) (fun c125 => ?_) (fun c125 => ?_)
                      · exact absurd ((nI_eq (by omega) (by omega)).mpr (by omega)) c125
                      · have n126 := (nI_eq (by omega) (by omega)).mp c125
                        refine lv_aload_n X.1 X.2.1 dL_areRaces_170 rfl (lv_at hl 6 rfl) ?_
                        refine lv_iload_n X.1 X.2.1 dL_areRaces_171 rfl (lv_at hl 4 rfl) ?_
                        refine lv_iload X.1 X.2.1 dL_areRaces_172 (lv_at hl 0 rfl) ?_
                        refine lv_iconst (v := nI 4) X.1 X.2.1 dL_areRaces_174 (by decide) ?_
                        refine x_callV X hK hw (k := 0) (As := [.int (nI r), .int (nI j), .int (nI 4)]) (rest := []) (w_result hI (by omega) hJ.1.1 hO123 (nI r) (nI j) (nI 4) (fun g t tm hE => a_res4 hJ hc hk hE (by omega) (by omega) tm)) (x_cwV yX7_result cX7_result 4 (some .int) 3 X q695 q696 q697 q1 q698 hd_X7_result ⟨(Nat.le_of_ble_eq_true rfl), (Nat.le_of_ble_eq_true rfl)⟩) (by omega) hO123.ma rfl rfl hl.1 rfl (Nat.le_of_ble_eq_true rfl) dL_areRaces_175 ⟨(Nat.le_of_ble_eq_true rfl), (Nat.le_of_ble_eq_true rfl)⟩ (fun v127 F128 H locs hp hw => ?_)
                        obtain ⟨e129, hO130, hf131⟩ := hp
                        refine x_top e129 ?_
                        replace hfr := hfr.tr hf131 (by omega) (by omega)
                        refine lv_iconst (v := nI 1) X.1 X.2.1 dL_areRaces_178 (by decide) ?_
                        refine lv_icmp_eq (tgt := 205) X.1 X.2.1 dL_areRaces_179 (by decide) (fun c132 => ?_) (fun c132 => ?_)
                        · exact absurd ((nI_eq (by omega) (by omega)).mp c132) (by omega)
                        · have n133 : ¬ (eA A r j 4) = 1 := fun z => c132 ((nI_eq (by omega) (by omega)).mpr z)
                          refine lv_aload_n X.1 X.2.1 dL_areRaces_182 rfl (lv_at hl 6 rfl) ?_
                          refine lv_iload_n X.1 X.2.1 dL_areRaces_183 rfl (lv_at hl 4 rfl) ?_
                          refine lv_iconst (v := nI 3) X.1 X.2.1 dL_areRaces_184 (by decide) ?_
                          refine x_callV X hK hw (k := 0) (As := [.int (nI r), .int (nI 3)]) (rest := []) (w_race hI (by omega) hJ.1.1 hO130 (nI r) (nI 3) (fun g t tm hE => a_rac3 hJ hc hk hE (by omega) tm)) (x_cwV yX7_race cX7_race 3 (some .int) 2 X q804 q805 q806 q1 q807 hd_X7_race ⟨(Nat.le_of_ble_eq_true rfl), (Nat.le_of_ble_eq_true rfl)⟩) (by omega) hO130.ma rfl rfl hl.1 rfl (Nat.le_of_ble_eq_true rfl) dL_areRaces_185 ⟨(Nat.le_of_ble_eq_true rfl), (Nat.le_of_ble_eq_true rfl)⟩ (fun v134 F135 H locs hp hw => ?_)
                          obtain ⟨e136, hO137, hf138⟩ := hp
                          refine x_top e136 ?_
                          replace hfr := hfr.tr hf138 (by omega) (by omega)
                          refine lv_iconst (v := nI 2) X.1 X.2.1 dL_areRaces_188 (by decide) ?_
                          refine lv_icmp_ne (tgt := 207) X.1 X.2.1 dL_areRaces_189 (by decide) (fun c139 => ?_) (fun c139 => ?_)
                          · have n140 : ¬ (rA A r 3 + 1) = 2 := fun z => c139 ((nI_eq (by omega) (by omega)).mpr z)
                            refine lv_iinc (v := nI (r + 1)) (lv' := [(3, .int (nI (r + 1))), (6, .int (nI j)), (4, .int (nI (finN A r b))), (5, .int (nI (outN A r b))), (2, .int (nI (min (r + 1) (ncl A)))), (1, .int (nI (A 2))), (0, .ref (ad 0))]) X.1 X.2.1 dL_areRaces_207 hl (k := 4) rfl (by first | exact nI_1 _ | exact nI_add _ _ | rfl) (by decide) rfl (fun ls hl => ?_)
                            refine lv_goto (tgt := 10) X.1 X.2.1 dL_areRaces_210 (by decide) ?_
                            exact ih (r + 1) F135 (by omega) (by omega) hO137 hfr _ _ hw _ (lv_sub hl [4, 0, 5, 6] rfl)
                          · have n141 := (nI_eq (by omega) (by omega)).mp c139
                            refine lv_aload_n X.1 X.2.1 dL_areRaces_192 rfl (lv_at hl 6 rfl) ?_
                            refine lv_iload_n X.1 X.2.1 dL_areRaces_193 rfl (lv_at hl 4 rfl) ?_
                            refine lv_iload X.1 X.2.1 dL_areRaces_194 (lv_at hl 0 rfl) ?_
                            refine lv_bipush (v := nI 7) X.1 X.2.1 dL_areRaces_196 (by decide) ?_
                            refine x_callV X hK hw (k := 0) (As := [.int (nI r), .int (nI j), .int (nI 7)]) (rest := []) (w_result hI (by omega) hJ.1.1 hO137 (nI r) (nI j) (nI 7) (fun g t tm hE => (a_res7 hJ hc hk hE (by omega) hj1 tm).trans ((if_pos (by omega)).trans ((place_n hJ hc hk (by omega) hj1).trans (if_pos hj2))))) (x_cwV yX7_result cX7_result 4 (some .int) 3 X q695 q696 q697 q1 q698 hd_X7_result ⟨(Nat.le_of_ble_eq_true rfl), (Nat.le_of_ble_eq_true rfl)⟩) (by omega) hO137.ma rfl rfl hl.1 rfl (Nat.le_of_ble_eq_true rfl) dL_areRaces_198 ⟨(Nat.le_of_ble_eq_true rfl), (Nat.le_of_ble_eq_true rfl)⟩ (fun v142 F143 H locs hp hw => ?_)
                            obtain ⟨e144, hO145, hf146⟩ := hp
                            refine x_top e144 ?_
                            replace hfr := hfr.tr hf146 (by omega) (by omega)
                            refine lv_iconst (v := nI 1) X.1 X.2.1 dL_areRaces_201 (by decide) ?_
                            refine lv_icmp_eq (tgt := 207) X.1 X.2.1 dL_areRaces_202 (by decide) (fun c147 => ?_) (fun c147 => ?_)
                            · have n148 := (nI_eq (by omega) (by omega)).mp c147
                              refine lv_iinc (v := nI (r + 1)) (lv' := [(3, .int (nI (r + 1))), (6, .int (nI j)), (4, .int (nI (finN A r b))), (5, .int (nI (outN A r b))), (2, .int (nI (min (r + 1) (ncl A)))), (1, .int (nI (A 2))), (0, .ref (ad 0))]) X.1 X.2.1 dL_areRaces_207 hl (k := 4) rfl (by first | exact nI_1 _ | exact nI_add _ _ | rfl) (by decide) rfl (fun ls hl => ?_)
                              refine lv_goto (tgt := 10) X.1 X.2.1 dL_areRaces_210 (by decide) ?_
                              exact ih (r + 1) F143 (by omega) (by omega) hO145 hfr _ _ hw _ (lv_sub hl [4, 0, 5, 6] rfl)
                            · exact absurd ((nI_eq (by omega) (by omega)).mpr (by omega)) c147
                  · have n149 : ¬ ((A 2) - 1) ≤ r := fun z => c115 ((nI_leI (by omega) (by omega)).mpr z)
                    refine lv_aload_n X.1 X.2.1 dL_areRaces_143 rfl (lv_at hl 6 rfl) ?_
                    refine lv_iload_n X.1 X.2.1 dL_areRaces_144 rfl (lv_at hl 4 rfl) ?_
                    refine lv_iconst (v := nI 3) X.1 X.2.1 dL_areRaces_145 (by decide) ?_
                    refine x_callV X hK hw (k := 0) (As := [.int (nI r), .int (nI 3)]) (rest := []) (w_race hI (by omega) hJ.1.1 hO111 (nI r) (nI 3) (fun g t tm hE => a_rac3 hJ hc hk hE (by omega) tm)) (x_cwV yX7_race cX7_race 3 (some .int) 2 X q804 q805 q806 q1 q807 hd_X7_race ⟨(Nat.le_of_ble_eq_true rfl), (Nat.le_of_ble_eq_true rfl)⟩) (by omega) hO111.ma rfl rfl hl.1 rfl (Nat.le_of_ble_eq_true rfl) dL_areRaces_146 ⟨(Nat.le_of_ble_eq_true rfl), (Nat.le_of_ble_eq_true rfl)⟩ (fun v150 F151 H locs hp hw => ?_)
                    obtain ⟨e152, hO153, hf154⟩ := hp
                    refine x_top e152 ?_
                    replace hfr := hfr.tr hf154 (by omega) (by omega)
                    refine lv_iconst (v := nI 2) X.1 X.2.1 dL_areRaces_149 (by decide) ?_
                    refine lv_icmp_ne (tgt := 205) X.1 X.2.1 dL_areRaces_150 (by decide) (fun c155 => ?_) (fun c155 => ?_)
                    · exact absurd ((nI_eq (by omega) (by omega)).mpr (by omega)) c155
                    · have n156 := (nI_eq (by omega) (by omega)).mp c155
                      refine lv_iload X.1 X.2.1 dL_areRaces_153 (lv_at hl 0 rfl) ?_
                      refine lv_if_lt (tgt := 207) X.1 X.2.1 dL_areRaces_155 (by decide) (fun c157 => ?_) (fun c157 => ?_)
                      · have n158 := (bz_lt (by omega)).mp c157
                        refine lv_iinc (v := nI (r + 1)) (lv' := [(3, .int (nI (r + 1))), (6, .int (nI j)), (4, .int (nI (finN A r b))), (5, .int (nI (outN A r b))), (2, .int (nI (min (r + 1) (ncl A)))), (1, .int (nI (A 2))), (0, .ref (ad 0))]) X.1 X.2.1 dL_areRaces_207 hl (k := 4) rfl (by first | exact nI_1 _ | exact nI_add _ _ | rfl) (by decide) rfl (fun ls hl => ?_)
                        refine lv_goto (tgt := 10) X.1 X.2.1 dL_areRaces_210 (by decide) ?_
                        exact ih (r + 1) F151 (by omega) (by omega) hO153 hfr _ _ hw _ (lv_sub hl [4, 0, 5, 6] rfl)
                      · have n159 : ¬ j < 0 := fun z => c157 ((bz_lt (by omega)).mpr z)
                        refine lv_aload_n X.1 X.2.1 dL_areRaces_158 rfl (lv_at hl 6 rfl) ?_
                        refine lv_iload_n X.1 X.2.1 dL_areRaces_159 rfl (lv_at hl 4 rfl) ?_
                        refine lv_iload X.1 X.2.1 dL_areRaces_160 (lv_at hl 0 rfl) ?_
                        refine lv_iconst (v := nI 0) X.1 X.2.1 dL_areRaces_162 (by decide) ?_
                        refine x_callV X hK hw (k := 0) (As := [.int (nI r), .int (nI j), .int (nI 0)]) (rest := []) (w_result hI (by omega) hJ.1.1 hO153 (nI r) (nI j) (nI 0) (fun g t tm hE => a_res0 hJ hc hk hE (by omega) (by omega) tm)) (x_cwV yX7_result cX7_result 4 (some .int) 3 X q695 q696 q697 q1 q698 hd_X7_result ⟨(Nat.le_of_ble_eq_true rfl), (Nat.le_of_ble_eq_true rfl)⟩) (by omega) hO153.ma rfl rfl hl.1 rfl (Nat.le_of_ble_eq_true rfl) dL_areRaces_163 ⟨(Nat.le_of_ble_eq_true rfl), (Nat.le_of_ble_eq_true rfl)⟩ (fun v160 F161 H locs hp hw => ?_)
                        obtain ⟨e162, hO163, hf164⟩ := hp
                        refine x_top e162 ?_
                        replace hfr := hfr.tr hf164 (by omega) (by omega)
                        refine lv_iconst (v := nI 3) X.1 X.2.1 dL_areRaces_166 (by decide) ?_
                        refine lv_icmp_ne (tgt := 205) X.1 X.2.1 dL_areRaces_167 (by decide) (fun c165 => ?_) (fun c165 => ?_)
                        · exact absurd ((nI_eq (by omega) (by omega)).mpr (by omega)) c165
                        · have n166 := (nI_eq (by omega) (by omega)).mp c165
                          refine lv_aload_n X.1 X.2.1 dL_areRaces_170 rfl (lv_at hl 6 rfl) ?_
                          refine lv_iload_n X.1 X.2.1 dL_areRaces_171 rfl (lv_at hl 4 rfl) ?_
                          refine lv_iload X.1 X.2.1 dL_areRaces_172 (lv_at hl 0 rfl) ?_
                          refine lv_iconst (v := nI 4) X.1 X.2.1 dL_areRaces_174 (by decide) ?_
                          refine x_callV X hK hw (k := 0) (As := [.int (nI r), .int (nI j), .int (nI 4)]) (rest := []) (w_result hI (by omega) hJ.1.1 hO163 (nI r) (nI j) (nI 4) (fun g t tm hE => a_res4 hJ hc hk hE (by omega) (by omega) tm)) (x_cwV yX7_result cX7_result 4 (some .int) 3 X q695 q696 q697 q1 q698 hd_X7_result ⟨(Nat.le_of_ble_eq_true rfl), (Nat.le_of_ble_eq_true rfl)⟩) (by omega) hO163.ma rfl rfl hl.1 rfl (Nat.le_of_ble_eq_true rfl) dL_areRaces_175 ⟨(Nat.le_of_ble_eq_true rfl), (Nat.le_of_ble_eq_true rfl)⟩ (fun v167 F168 H locs hp hw => ?_)
                          obtain ⟨e169, hO170, hf171⟩ := hp
                          refine x_top e169 ?_
                          replace hfr := hfr.tr hf171 (by omega) (by omega)
                          refine lv_iconst (v := nI 1) X.1 X.2.1 dL_areRaces_178 (by decide) ?_
                          refine lv_icmp_eq (tgt := 205) X.1 X.2.1 dL_areRaces_179 (by decide) (fun c172 => ?_) (fun c172 => ?_)
                          · exact absurd ((nI_eq (by omega) (by omega)).mp c172) (by omega)
                          · have n173 : ¬ (eA A r j 4) = 1 := fun z => c172 ((nI_eq (by omega) (by omega)).mpr z)
                            refine lv_aload_n X.1 X.2.1 dL_areRaces_182 rfl (lv_at hl 6 rfl) ?_
                            refine lv_iload_n X.1 X.2.1 dL_areRaces_183 rfl (lv_at hl 4 rfl) ?_
                            refine lv_iconst (v := nI 3) X.1 X.2.1 dL_areRaces_184 (by decide) ?_
                            refine x_callV X hK hw (k := 0) (As := [.int (nI r), .int (nI 3)]) (rest := []) (w_race hI (by omega) hJ.1.1 hO170 (nI r) (nI 3) (fun g t tm hE => a_rac3 hJ hc hk hE (by omega) tm)) (x_cwV yX7_race cX7_race 3 (some .int) 2 X q804 q805 q806 q1 q807 hd_X7_race ⟨(Nat.le_of_ble_eq_true rfl), (Nat.le_of_ble_eq_true rfl)⟩) (by omega) hO170.ma rfl rfl hl.1 rfl (Nat.le_of_ble_eq_true rfl) dL_areRaces_185 ⟨(Nat.le_of_ble_eq_true rfl), (Nat.le_of_ble_eq_true rfl)⟩ (fun v174 F175 H locs hp hw => ?_)
                            obtain ⟨e176, hO177, hf178⟩ := hp
                            refine x_top e176 ?_
                            replace hfr := hfr.tr hf178 (by omega) (by omega)
                            refine lv_iconst (v := nI 2) X.1 X.2.1 dL_areRaces_188 (by decide) ?_
                            refine lv_icmp_ne (tgt := 207) X.1 X.2.1 dL_areRaces_189 (by decide) (fun c179 => ?_) (fun c179 => ?_)
                            · have n180 : ¬ (rA A r 3 + 1) = 2 := fun z => c179 ((nI_eq (by omega) (by omega)).mpr z)
                              refine lv_iinc (v := nI (r + 1)) (lv' := [(3, .int (nI (r + 1))), (6, .int (nI j)), (4, .int (nI (finN A r b))), (5, .int (nI (outN A r b))), (2, .int (nI (min (r + 1) (ncl A)))), (1, .int (nI (A 2))), (0, .ref (ad 0))]) X.1 X.2.1 dL_areRaces_207 hl (k := 4) rfl (by first | exact nI_1 _ | exact nI_add _ _ | rfl) (by decide) rfl (fun ls hl => ?_)
                              refine lv_goto (tgt := 10) X.1 X.2.1 dL_areRaces_210 (by decide) ?_
                              exact ih (r + 1) F175 (by omega) (by omega) hO177 hfr _ _ hw _ (lv_sub hl [4, 0, 5, 6] rfl)
                            · have n181 := (nI_eq (by omega) (by omega)).mp c179
                              refine lv_aload_n X.1 X.2.1 dL_areRaces_192 rfl (lv_at hl 6 rfl) ?_
                              refine lv_iload_n X.1 X.2.1 dL_areRaces_193 rfl (lv_at hl 4 rfl) ?_
                              refine lv_iload X.1 X.2.1 dL_areRaces_194 (lv_at hl 0 rfl) ?_
                              refine lv_bipush (v := nI 7) X.1 X.2.1 dL_areRaces_196 (by decide) ?_
                              refine x_callV X hK hw (k := 0) (As := [.int (nI r), .int (nI j), .int (nI 7)]) (rest := []) (w_result hI (by omega) hJ.1.1 hO177 (nI r) (nI j) (nI 7) (fun g t tm hE => (a_res7 hJ hc hk hE (by omega) hj1 tm).trans ((if_pos (by omega)).trans ((place_n hJ hc hk (by omega) hj1).trans (if_pos hj2))))) (x_cwV yX7_result cX7_result 4 (some .int) 3 X q695 q696 q697 q1 q698 hd_X7_result ⟨(Nat.le_of_ble_eq_true rfl), (Nat.le_of_ble_eq_true rfl)⟩) (by omega) hO177.ma rfl rfl hl.1 rfl (Nat.le_of_ble_eq_true rfl) dL_areRaces_198 ⟨(Nat.le_of_ble_eq_true rfl), (Nat.le_of_ble_eq_true rfl)⟩ (fun v182 F183 H locs hp hw => ?_)
                              obtain ⟨e184, hO185, hf186⟩ := hp
                              refine x_top e184 ?_
                              replace hfr := hfr.tr hf186 (by omega) (by omega)
                              refine lv_iconst (v := nI 1) X.1 X.2.1 dL_areRaces_201 (by decide) ?_
                              refine lv_icmp_eq (tgt := 207) X.1 X.2.1 dL_areRaces_202 (by decide) (fun c187 => ?_) (fun c187 => ?_)
                              · have n188 := (nI_eq (by omega) (by omega)).mp c187
                                refine lv_iinc (v := nI (r + 1)) (lv' := [(3, .int (nI (r + 1))), (6, .int (nI j)), (4, .int (nI (finN A r b))), (5, .int (nI (outN A r b))), (2, .int (nI (min (r + 1) (ncl A)))), (1, .int (nI (A 2))), (0, .ref (ad 0))]) X.1 X.2.1 dL_areRaces_207 hl (k := 4) rfl (by first | exact nI_1 _ | exact nI_add _ _ | rfl) (by decide) rfl (fun ls hl => ?_)
                                refine lv_goto (tgt := 10) X.1 X.2.1 dL_areRaces_210 (by decide) ?_
                                exact ih (r + 1) F183 (by omega) (by omega) hO185 hfr _ _ hw _ (lv_sub hl [4, 0, 5, 6] rfl)
                              · exact absurd ((nI_eq (by omega) (by omega)).mpr (by omega)) c187
          have loop42 : ∀ (fu2 : Nat) (b : Nat) (F2 : Nat → va_E) (hfu2 : A 1 ≤ b + fu2) (hb2 : b ≤ A 1) (hOC : OB ad cI cB cS F2 hs A A3) (hfr : Fr F F2 0 111) (H : Heap) (locs : List Loc) (hw : HW D (Af ad N s.heap.size) ad N F2 s H locs) (ls : Array Slot) (hl : lv_has ls 7 [(4, .int (nI (finN A r b))), (5, .int (nI (outN A r b))), (6, .int (nI b)), (2, .int (nI (min (r + 1) (ncl A)))), (3, .int (nI r)), (1, .int (nI (A 2))), (0, .ref (ad 0))]), W p l e { frames := 8, cells := 0, slots := 0, locals := 191 } s m [.ref (ad 0)].toArray below meth c H locs 0 0 (MQ below (va_Qi (fun v F' => v = nI 1 ∧ OB ad cI cB cS F' hs A A3 ∧ Fr F F' 0 111) (fun F' t => PO D ad N F' t) (Af ad N s.heap.size)) [.ref (ad 0)].toArray s 0 0 (Af ad N s.heap.size)) (F0 m 42 ls []) := by
            intro fu2
            induction fu2 with
            | zero =>
              intro b F2 hfu2 hb2 hOC hfr H locs hw ls hl
              refine lv_iload X.1 X.2.1 dL_areRaces_42 (lv_at hl 2 rfl) ?_
              refine lv_aload_n X.1 X.2.1 dL_areRaces_44 rfl (lv_at hl 6 rfl) ?_
              refine lv_iconst (v := nI 0) X.1 X.2.1 dL_areRaces_45 (by decide) ?_
              refine x_callV X hK hw (k := 0) (As := [.int (nI 0)]) (rest := [.int (nI b)]) (w_count hI (by omega) hOC (nI 0) (fun g t z n hE => a_cou0 hJ hc hk hE z n)) (x_cwV yX7_count cX7_count 2 (some .int) 1 X q818 q819 q820 q1 q821 hd_X7_count ⟨(Nat.le_of_ble_eq_true rfl), (Nat.le_of_ble_eq_true rfl)⟩) (by omega) hOC.ma rfl rfl hl.1 rfl (Nat.le_of_ble_eq_true rfl) dL_areRaces_46 ⟨(Nat.le_of_ble_eq_true rfl), (Nat.le_of_ble_eq_true rfl)⟩ (fun v189 F190 H locs hp hw => ?_)
              obtain ⟨e191, hO192, hf193⟩ := hp
              refine x_top e191 ?_
              replace hfr := hfr.tr hf193 (by omega) (by omega)
              refine lv_icmp_ge (tgt := 105) X.1 X.2.1 dL_areRaces_49 (by decide) (fun c194 => ?_) (fun c194 => ?_)
              · have n195 := (nI_leI (by omega) (by omega)).mp c194
                exact way42 b F190 hb2 hO192 hfr n195 _ _ hw _ (lv_sub hl [0, 1, 2, 3, 4, 5, 6] rfl)
              · exact absurd ((nI_leI (by omega) (by omega)).mpr (by omega)) c194
            | succ fu2 ih2 =>
              intro b F2 hfu2 hb2 hOC hfr H locs hw ls hl
              refine lv_iload X.1 X.2.1 dL_areRaces_42 (lv_at hl 2 rfl) ?_
              refine lv_aload_n X.1 X.2.1 dL_areRaces_44 rfl (lv_at hl 6 rfl) ?_
              refine lv_iconst (v := nI 0) X.1 X.2.1 dL_areRaces_45 (by decide) ?_
              refine x_callV X hK hw (k := 0) (As := [.int (nI 0)]) (rest := [.int (nI b)]) (w_count hI (by omega) hOC (nI 0) (fun g t z n hE => a_cou0 hJ hc hk hE z n)) (x_cwV yX7_count cX7_count 2 (some .int) 1 X q818 q819 q820 q1 q821 hd_X7_count ⟨(Nat.le_of_ble_eq_true rfl), (Nat.le_of_ble_eq_true rfl)⟩) (by omega) hOC.ma rfl rfl hl.1 rfl (Nat.le_of_ble_eq_true rfl) dL_areRaces_46 ⟨(Nat.le_of_ble_eq_true rfl), (Nat.le_of_ble_eq_true rfl)⟩ (fun v196 F197 H locs hp hw => ?_)
              obtain ⟨e198, hO199, hf200⟩ := hp
              refine x_top e198 ?_
              replace hfr := hfr.tr hf200 (by omega) (by omega)
              refine lv_icmp_ge (tgt := 105) X.1 X.2.1 dL_areRaces_49 (by decide) (fun c201 => ?_) (fun c201 => ?_)
              · have n202 := (nI_leI (by omega) (by omega)).mp c201
                exact way42 b F197 hb2 hO199 hfr n202 _ _ hw _ (lv_sub hl [0, 1, 2, 3, 4, 5, 6] rfl)
              · have n203 : ¬ (A 1) ≤ b := fun z => c201 ((nI_leI (by omega) (by omega)).mpr z)
                obtain ⟨k1, k2, k3, k4, k5, k6, k7, k8, k9, k10⟩ := hJ.bj (r := r) (b := b) (by omega) (by omega)
                have kfe := (fin_eq (A := A) (r := r) (fun b hb => (hJ.bj (by omega) hb).1) b (by omega)).2
                have koe := (out_eq (A := A) (r := r) (fun b hb => (hJ.bj (by omega) hb).2.2.2.2.2.1) b (by omega)).2
                refine lv_iload X.1 X.2.1 dL_areRaces_52 (lv_at hl 0 rfl) ?_
                refine lv_aload_n X.1 X.2.1 dL_areRaces_54 rfl (lv_at hl 6 rfl) ?_
                refine lv_iload_n X.1 X.2.1 dL_areRaces_55 rfl (lv_at hl 4 rfl) ?_
                refine lv_iload X.1 X.2.1 dL_areRaces_56 (lv_at hl 2 rfl) ?_
                refine lv_iconst (v := nI 0) X.1 X.2.1 dL_areRaces_58 (by decide) ?_
                refine x_callV X hK hw (k := 0) (As := [.int (nI r), .int (nI b), .int (nI 0)]) (rest := [.int (nI (finN A r b))]) (w_result hI (by omega) hJ.1.1 hO199 (nI r) (nI b) (nI 0) (fun g t tm hE => a_res0 hJ hc hk hE (by omega) (by omega) tm)) (x_cwV yX7_result cX7_result 4 (some .int) 3 X q695 q696 q697 q1 q698 hd_X7_result ⟨(Nat.le_of_ble_eq_true rfl), (Nat.le_of_ble_eq_true rfl)⟩) (by omega) hO199.ma rfl rfl hl.1 rfl (Nat.le_of_ble_eq_true rfl) dL_areRaces_59 ⟨(Nat.le_of_ble_eq_true rfl), (Nat.le_of_ble_eq_true rfl)⟩ (fun v204 F205 H locs hp hw => ?_)
                obtain ⟨e206, hO207, hf208⟩ := hp
                refine x_top e206 ?_
                replace hfr := hfr.tr hf208 (by omega) (by omega)
                refine lv_iconst (v := nI 3) X.1 X.2.1 dL_areRaces_62 (by decide) ?_
                refine lv_icmp_ne (tgt := 70) X.1 X.2.1 dL_areRaces_63 (by decide) (fun c209 => ?_) (fun c209 => ?_)
                · have n210 : ¬ (eA A r b 0) = 3 := fun z => c209 ((nI_eq (by omega) (by omega)).mpr z)
                  refine lv_iconst (v := nI 0) X.1 X.2.1 dL_areRaces_70 (by decide) ?_
                  refine lv_iadd X.1 X.2.1 dL_areRaces_71 ?_
                  refine x_top (nI_add _ _) ?_
                  refine x_top (y := nI (finN A r (b + 1))) (congrArg nI (fin_z n210)) ?_
                  refine lv_istore (lv' := [(4, .int (nI (finN A r (b + 1)))), (5, .int (nI (outN A r b))), (6, .int (nI b)), (2, .int (nI (min (r + 1) (ncl A)))), (3, .int (nI r)), (1, .int (nI (A 2))), (0, .ref (ad 0))]) X.1 X.2.1 dL_areRaces_72 hl (by decide) rfl (fun ls hl => ?_)
                  refine lv_iload X.1 X.2.1 dL_areRaces_74 (lv_at hl 1 rfl) ?_
                  refine lv_aload_n X.1 X.2.1 dL_areRaces_76 rfl (lv_at hl 6 rfl) ?_
                  refine lv_iload_n X.1 X.2.1 dL_areRaces_77 rfl (lv_at hl 4 rfl) ?_
                  refine lv_iload X.1 X.2.1 dL_areRaces_78 (lv_at hl 2 rfl) ?_
                  refine lv_iconst (v := nI 4) X.1 X.2.1 dL_areRaces_80 (by decide) ?_
                  refine x_callV X hK hw (k := 0) (As := [.int (nI r), .int (nI b), .int (nI 4)]) (rest := [.int (nI (outN A r b))]) (w_result hI (by omega) hJ.1.1 hO207 (nI r) (nI b) (nI 4) (fun g t tm hE => a_res4 hJ hc hk hE (by omega) (by omega) tm)) (x_cwV yX7_result cX7_result 4 (some .int) 3 X q695 q696 q697 q1 q698 hd_X7_result ⟨(Nat.le_of_ble_eq_true rfl), (Nat.le_of_ble_eq_true rfl)⟩) (by omega) hO207.ma rfl rfl hl.1 rfl (Nat.le_of_ble_eq_true rfl) dL_areRaces_81 ⟨(Nat.le_of_ble_eq_true rfl), (Nat.le_of_ble_eq_true rfl)⟩ (fun v211 F212 H locs hp hw => ?_)
                  obtain ⟨e213, hO214, hf215⟩ := hp
                  refine x_top e213 ?_
                  replace hfr := hfr.tr hf215 (by omega) (by omega)
                  refine lv_iadd X.1 X.2.1 dL_areRaces_84 ?_
                  refine x_top (nI_add _ _) ?_
                  refine x_top (y := nI (outN A r (b + 1))) rfl ?_
                  refine lv_istore (lv' := [(5, .int (nI (outN A r (b + 1)))), (4, .int (nI (finN A r (b + 1)))), (6, .int (nI b)), (2, .int (nI (min (r + 1) (ncl A)))), (3, .int (nI r)), (1, .int (nI (A 2))), (0, .ref (ad 0))]) X.1 X.2.1 dL_areRaces_85 hl (by decide) rfl (fun ls hl => ?_)
                  refine lv_aload_n X.1 X.2.1 dL_areRaces_87 rfl (lv_at hl 6 rfl) ?_
                  refine lv_iload_n X.1 X.2.1 dL_areRaces_88 rfl (lv_at hl 4 rfl) ?_
                  refine lv_iload X.1 X.2.1 dL_areRaces_89 (lv_at hl 2 rfl) ?_
                  refine x_callS X hK hw (As := [.ref (ad 0), .int (nI r), .int (nI b)]) (rest := []) (k_L_isEntry hI (by omega) hJ hc hk hO214 (r := r) (b := b) (by omega) (by omega)) (x_cwS yL_isEntry cL_isEntry 12 (some .boolean) 3 X q1382 q1383 q0 q1384 hd_L_isEntry ⟨(Nat.le_of_ble_eq_true rfl), (Nat.le_of_ble_eq_true rfl)⟩) rfl hl.1 rfl (Nat.le_of_ble_eq_true rfl) dL_areRaces_91 ⟨(Nat.le_of_ble_eq_true rfl), (Nat.le_of_ble_eq_true rfl)⟩ (fun v216 F217 H locs hp hw => ?_)
                  obtain ⟨e218, hO219, hf220⟩ := hp
                  refine x_top e218 ?_
                  replace hfr := hfr.tr hf220 (by omega) (by omega)
                  refine lv_if_ne (tgt := 99) X.1 X.2.1 dL_areRaces_94 (by decide) (fun c221 => ?_) (fun c221 => ?_)
                  · refine lv_iinc (v := nI (b + 1)) (lv' := [(6, .int (nI (b + 1))), (5, .int (nI (outN A r (b + 1)))), (4, .int (nI (finN A r (b + 1)))), (2, .int (nI (min (r + 1) (ncl A)))), (3, .int (nI r)), (1, .int (nI (A 2))), (0, .ref (ad 0))]) X.1 X.2.1 dL_areRaces_99 hl (k := 2) rfl (by first | exact nI_1 _ | exact nI_add _ _ | rfl) (by decide) rfl (fun ls hl => ?_)
                    refine lv_goto (tgt := 42) X.1 X.2.1 dL_areRaces_102 (by decide) ?_
                    exact ih2 (b + 1) F217 (by omega) (by omega) hO219 hfr _ _ hw _ (lv_sub hl [2, 1, 0, 3, 4, 5, 6] rfl)
                  · exact absurd c221 (by decide)
                · have n222 := (nI_eq (by omega) (by omega)).mp c209
                  refine lv_iconst (v := nI 1) X.1 X.2.1 dL_areRaces_66 (by decide) ?_
                  refine lv_goto (tgt := 71) X.1 X.2.1 dL_areRaces_67 (by decide) ?_
                  refine lv_iadd X.1 X.2.1 dL_areRaces_71 ?_
                  refine x_top (nI_add _ _) ?_
                  refine x_top (y := nI (finN A r (b + 1))) (congrArg nI (fin_y n222)) ?_
                  refine lv_istore (lv' := [(4, .int (nI (finN A r (b + 1)))), (5, .int (nI (outN A r b))), (6, .int (nI b)), (2, .int (nI (min (r + 1) (ncl A)))), (3, .int (nI r)), (1, .int (nI (A 2))), (0, .ref (ad 0))]) X.1 X.2.1 dL_areRaces_72 hl (by decide) rfl (fun ls hl => ?_)
                  refine lv_iload X.1 X.2.1 dL_areRaces_74 (lv_at hl 1 rfl) ?_
                  refine lv_aload_n X.1 X.2.1 dL_areRaces_76 rfl (lv_at hl 6 rfl) ?_
                  refine lv_iload_n X.1 X.2.1 dL_areRaces_77 rfl (lv_at hl 4 rfl) ?_
                  refine lv_iload X.1 X.2.1 dL_areRaces_78 (lv_at hl 2 rfl) ?_
                  refine lv_iconst (v := nI 4) X.1 X.2.1 dL_areRaces_80 (by decide) ?_
                  refine x_callV X hK hw (k := 0) (As := [.int (nI r), .int (nI b), .int (nI 4)]) (rest := [.int (nI (outN A r b))]) (w_result hI (by omega) hJ.1.1 hO207 (nI r) (nI b) (nI 4) (fun g t tm hE => a_res4 hJ hc hk hE (by omega) (by omega) tm)) (x_cwV yX7_result cX7_result 4 (some .int) 3 X q695 q696 q697 q1 q698 hd_X7_result ⟨(Nat.le_of_ble_eq_true rfl), (Nat.le_of_ble_eq_true rfl)⟩) (by omega) hO207.ma rfl rfl hl.1 rfl (Nat.le_of_ble_eq_true rfl) dL_areRaces_81 ⟨(Nat.le_of_ble_eq_true rfl), (Nat.le_of_ble_eq_true rfl)⟩ (fun v223 F224 H locs hp hw => ?_)
                  obtain ⟨e225, hO226, hf227⟩ := hp
                  refine x_top e225 ?_
                  replace hfr := hfr.tr hf227 (by omega) (by omega)
                  refine lv_iadd X.1 X.2.1 dL_areRaces_84 ?_
                  refine x_top (nI_add _ _) ?_
                  refine x_top (y := nI (outN A r (b + 1))) rfl ?_
                  refine lv_istore (lv' := [(5, .int (nI (outN A r (b + 1)))), (4, .int (nI (finN A r (b + 1)))), (6, .int (nI b)), (2, .int (nI (min (r + 1) (ncl A)))), (3, .int (nI r)), (1, .int (nI (A 2))), (0, .ref (ad 0))]) X.1 X.2.1 dL_areRaces_85 hl (by decide) rfl (fun ls hl => ?_)
                  refine lv_aload_n X.1 X.2.1 dL_areRaces_87 rfl (lv_at hl 6 rfl) ?_
                  refine lv_iload_n X.1 X.2.1 dL_areRaces_88 rfl (lv_at hl 4 rfl) ?_
                  refine lv_iload X.1 X.2.1 dL_areRaces_89 (lv_at hl 2 rfl) ?_
                  refine x_callS X hK hw (As := [.ref (ad 0), .int (nI r), .int (nI b)]) (rest := []) (k_L_isEntry hI (by omega) hJ hc hk hO226 (r := r) (b := b) (by omega) (by omega)) (x_cwS yL_isEntry cL_isEntry 12 (some .boolean) 3 X q1382 q1383 q0 q1384 hd_L_isEntry ⟨(Nat.le_of_ble_eq_true rfl), (Nat.le_of_ble_eq_true rfl)⟩) rfl hl.1 rfl (Nat.le_of_ble_eq_true rfl) dL_areRaces_91 ⟨(Nat.le_of_ble_eq_true rfl), (Nat.le_of_ble_eq_true rfl)⟩ (fun v228 F229 H locs hp hw => ?_)
                  obtain ⟨e230, hO231, hf232⟩ := hp
                  refine x_top e230 ?_
                  replace hfr := hfr.tr hf232 (by omega) (by omega)
                  refine lv_if_ne (tgt := 99) X.1 X.2.1 dL_areRaces_94 (by decide) (fun c233 => ?_) (fun c233 => ?_)
                  · refine lv_iinc (v := nI (b + 1)) (lv' := [(6, .int (nI (b + 1))), (5, .int (nI (outN A r (b + 1)))), (4, .int (nI (finN A r (b + 1)))), (2, .int (nI (min (r + 1) (ncl A)))), (3, .int (nI r)), (1, .int (nI (A 2))), (0, .ref (ad 0))]) X.1 X.2.1 dL_areRaces_99 hl (k := 2) rfl (by first | exact nI_1 _ | exact nI_add _ _ | rfl) (by decide) rfl (fun ls hl => ?_)
                    refine lv_goto (tgt := 42) X.1 X.2.1 dL_areRaces_102 (by decide) ?_
                    exact ih2 (b + 1) F229 (by omega) (by omega) hO231 hfr _ _ hw _ (lv_sub hl [2, 1, 0, 3, 4, 5, 6] rfl)
                  · exact absurd c233 (by decide)
          exact loop42 (A 1) 0 F59 (by omega) (by omega) hO61 hfr _ _ hw _ (lv_sub hl [3, 2, 0, 1, 4, 5, 6] rfl)
        · have n234 := (nI_eq (by omega) (by omega)).mp c63
          refine lv_iconst (v := nI 1) X.1 X.2.1 dL_areRaces_32 (by decide) ?_
          refine lv_goto (tgt := 37) X.1 X.2.1 dL_areRaces_33 (by decide) ?_
          refine lv_iadd X.1 X.2.1 dL_areRaces_37 ?_
          refine x_top (nI_add _ _) ?_
          refine x_top (y := nI (min (r + 1) (ncl A))) (congrArg nI (by omega)) ?_
          refine lv_istore_n (lv' := [(2, .int (nI (min (r + 1) (ncl A)))), (5, .int (nI 0)), (4, .int (nI 0)), (3, .int (nI r)), (1, .int (nI (A 2))), (0, .ref (ad 0))]) X.1 X.2.1 dL_areRaces_38 rfl hl (by decide) rfl (fun ls hl => ?_)
          refine lv_iconst (v := nI 0) X.1 X.2.1 dL_areRaces_39 (by decide) ?_
          refine lv_istore (lv' := [(6, .int (nI 0)), (2, .int (nI (min (r + 1) (ncl A)))), (5, .int (nI 0)), (4, .int (nI 0)), (3, .int (nI r)), (1, .int (nI (A 2))), (0, .ref (ad 0))]) X.1 X.2.1 dL_areRaces_40 hl (by decide) rfl (fun ls hl => ?_)
          have way42 : ∀ (b : Nat) (F2 : Nat → va_E) (hb2 : b ≤ A 1) (hOC : OB ad cI cB cS F2 hs A A3) (hfr : Fr F F2 0 111) (hx2 : A 1 ≤ b) (H : Heap) (locs : List Loc) (hw : HW D (Af ad N s.heap.size) ad N F2 s H locs) (ls : Array Slot) (hl : lv_has ls 7 [(4, .int (nI (finN A r b))), (5, .int (nI (outN A r b))), (6, .int (nI b)), (2, .int (nI (min (r + 1) (ncl A)))), (3, .int (nI r)), (1, .int (nI (A 2))), (0, .ref (ad 0))]), W p l e { frames := 8, cells := 0, slots := 0, locals := 191 } s m [.ref (ad 0)].toArray below meth c H locs 0 0 (MQ below (va_Qi (fun v F' => v = nI 1 ∧ OB ad cI cB cS F' hs A A3 ∧ Fr F F' 0 111) (fun F' t => PO D ad N F' t) (Af ad N s.heap.size)) [.ref (ad 0)].toArray s 0 0 (Af ad N s.heap.size)) (F0 m 105 ls []) := by
            intro b F2 hb2 hOC hfr hx2 H locs hw ls hl
            have ebA : b = A 1 := by omega
            have hfb : finN A r b = finN A r (A 1) := by rw [ebA]
            have hob : outN A r b = outN A r (A 1) := by rw [ebA]
            rcases bst_n hJ hc hk (r := r) (by omega) with ⟨hbn, hbz⟩ | ⟨j, hj, hj1, hj2, hj3⟩
            · refine lv_aload_n X.1 X.2.1 dL_areRaces_105 rfl (lv_at hl 6 rfl) ?_
              refine lv_iload_n X.1 X.2.1 dL_areRaces_106 rfl (lv_at hl 4 rfl) ?_
              refine lv_bipush (v := nI 6) X.1 X.2.1 dL_areRaces_107 (by decide) ?_
              refine x_callV X hK hw (k := 0) (As := [.int (nI r), .int (nI 6)]) (rest := []) (w_race hI (by omega) hJ.1.1 hOC (nI r) (nI 6) (fun g t tm hE => (a_rac6 hJ hc hk hE (by omega) tm).trans (congrArg oI hbn))) (x_cwV yX7_race cX7_race 3 (some .int) 2 X q804 q805 q806 q1 q807 hd_X7_race ⟨(Nat.le_of_ble_eq_true rfl), (Nat.le_of_ble_eq_true rfl)⟩) (by omega) hOC.ma rfl rfl hl.1 rfl (Nat.le_of_ble_eq_true rfl) dL_areRaces_109 ⟨(Nat.le_of_ble_eq_true rfl), (Nat.le_of_ble_eq_true rfl)⟩ (fun v235 F236 H locs hp hw => ?_)
              obtain ⟨e237, hO238, hf239⟩ := hp
              refine x_top e237 ?_
              replace hfr := hfr.tr hf239 (by omega) (by omega)
              refine lv_istore (lv' := [(6, .int ((-5))), (4, .int (nI (finN A r b))), (5, .int (nI (outN A r b))), (2, .int (nI (min (r + 1) (ncl A)))), (3, .int (nI r)), (1, .int (nI (A 2))), (0, .ref (ad 0))]) X.1 X.2.1 dL_areRaces_112 hl (by decide) rfl (fun ls hl => ?_)
              refine lv_aload_n X.1 X.2.1 dL_areRaces_114 rfl (lv_at hl 6 rfl) ?_
              refine lv_iload_n X.1 X.2.1 dL_areRaces_115 rfl (lv_at hl 4 rfl) ?_
              refine lv_iconst (v := nI 4) X.1 X.2.1 dL_areRaces_116 (by decide) ?_
              refine x_callV X hK hw (k := 0) (As := [.int (nI r), .int (nI 4)]) (rest := []) (w_race hI (by omega) hJ.1.1 hO238 (nI r) (nI 4) (fun g t tm hE => a_rac4 hJ hc hk hE (by omega) tm)) (x_cwV yX7_race cX7_race 3 (some .int) 2 X q804 q805 q806 q1 q807 hd_X7_race ⟨(Nat.le_of_ble_eq_true rfl), (Nat.le_of_ble_eq_true rfl)⟩) (by omega) hO238.ma rfl rfl hl.1 rfl (Nat.le_of_ble_eq_true rfl) dL_areRaces_117 ⟨(Nat.le_of_ble_eq_true rfl), (Nat.le_of_ble_eq_true rfl)⟩ (fun v240 F241 H locs hp hw => ?_)
              obtain ⟨e242, hO243, hf244⟩ := hp
              refine x_top e242 ?_
              replace hfr := hfr.tr hf244 (by omega) (by omega)
              refine lv_iload X.1 X.2.1 dL_areRaces_120 (lv_at hl 1 rfl) ?_
              refine lv_icmp_ne (tgt := 205) X.1 X.2.1 dL_areRaces_122 (by decide) (fun c245 => ?_) (fun c245 => ?_)
              · exact absurd ((nI_eq (by omega) (by omega)).mpr (by omega)) c245
              · have n246 := (nI_eq (by omega) (by omega)).mp c245
                refine lv_aload_n X.1 X.2.1 dL_areRaces_125 rfl (lv_at hl 6 rfl) ?_
                refine lv_iload_n X.1 X.2.1 dL_areRaces_126 rfl (lv_at hl 4 rfl) ?_
                refine lv_iconst (v := nI 5) X.1 X.2.1 dL_areRaces_127 (by decide) ?_
                refine x_callV X hK hw (k := 0) (As := [.int (nI r), .int (nI 5)]) (rest := []) (w_race hI (by omega) hJ.1.1 hO243 (nI r) (nI 5) (fun g t tm hE => a_rac5 hJ hc hk hE (by omega) tm)) (x_cwV yX7_race cX7_race 3 (some .int) 2 X q804 q805 q806 q1 q807 hd_X7_race ⟨(Nat.le_of_ble_eq_true rfl), (Nat.le_of_ble_eq_true rfl)⟩) (by omega) hO243.ma rfl rfl hl.1 rfl (Nat.le_of_ble_eq_true rfl) dL_areRaces_128 ⟨(Nat.le_of_ble_eq_true rfl), (Nat.le_of_ble_eq_true rfl)⟩ (fun v247 F248 H locs hp hw => ?_)
                obtain ⟨e249, hO250, hf251⟩ := hp
                refine x_top e249 ?_
                replace hfr := hfr.tr hf251 (by omega) (by omega)
                refine lv_iload X.1 X.2.1 dL_areRaces_131 (lv_at hl 2 rfl) ?_
                refine lv_icmp_ne (tgt := 205) X.1 X.2.1 dL_areRaces_133 (by decide) (fun c252 => ?_) (fun c252 => ?_)
                · exact absurd ((nI_eq (by omega) (by omega)).mpr (by omega)) c252
                · have n253 := (nI_eq (by omega) (by omega)).mp c252
                  refine lv_iload_n X.1 X.2.1 dL_areRaces_136 rfl (lv_at hl 4 rfl) ?_
                  refine lv_iload_n X.1 X.2.1 dL_areRaces_137 rfl (lv_at hl 5 rfl) ?_
                  refine lv_iconst (v := nI 1) X.1 X.2.1 dL_areRaces_138 (by decide) ?_
                  refine lv_isub X.1 X.2.1 dL_areRaces_139 ?_
                  refine x_top (pk_sub (by omega)) ?_
                  refine lv_icmp_ge (tgt := 153) X.1 X.2.1 dL_areRaces_140 (by decide) (fun c254 => ?_) (fun c254 => ?_)
                  · have n255 := (nI_leI (by omega) (by omega)).mp c254
                    refine lv_iload X.1 X.2.1 dL_areRaces_153 (lv_at hl 0 rfl) ?_
                    refine lv_if_lt (tgt := 207) X.1 X.2.1 dL_areRaces_155 (by decide) (fun c256 => ?_) (fun c256 => ?_)
                    · refine lv_iinc (v := nI (r + 1)) (lv' := [(3, .int (nI (r + 1))), (6, .int ((-5))), (4, .int (nI (finN A r b))), (5, .int (nI (outN A r b))), (2, .int (nI (min (r + 1) (ncl A)))), (1, .int (nI (A 2))), (0, .ref (ad 0))]) X.1 X.2.1 dL_areRaces_207 hl (k := 4) rfl (by first | exact nI_1 _ | exact nI_add _ _ | rfl) (by decide) rfl (fun ls hl => ?_)
                      refine lv_goto (tgt := 10) X.1 X.2.1 dL_areRaces_210 (by decide) ?_
                      exact ih (r + 1) F248 (by omega) (by omega) hO250 hfr _ _ hw _ (lv_sub hl [4, 0, 5, 6] rfl)
                    · exact absurd (by decide) c256
                  · have n257 : ¬ ((A 2) - 1) ≤ r := fun z => c254 ((nI_leI (by omega) (by omega)).mpr z)
                    refine lv_aload_n X.1 X.2.1 dL_areRaces_143 rfl (lv_at hl 6 rfl) ?_
                    refine lv_iload_n X.1 X.2.1 dL_areRaces_144 rfl (lv_at hl 4 rfl) ?_
                    refine lv_iconst (v := nI 3) X.1 X.2.1 dL_areRaces_145 (by decide) ?_
                    refine x_callV X hK hw (k := 0) (As := [.int (nI r), .int (nI 3)]) (rest := []) (w_race hI (by omega) hJ.1.1 hO250 (nI r) (nI 3) (fun g t tm hE => a_rac3 hJ hc hk hE (by omega) tm)) (x_cwV yX7_race cX7_race 3 (some .int) 2 X q804 q805 q806 q1 q807 hd_X7_race ⟨(Nat.le_of_ble_eq_true rfl), (Nat.le_of_ble_eq_true rfl)⟩) (by omega) hO250.ma rfl rfl hl.1 rfl (Nat.le_of_ble_eq_true rfl) dL_areRaces_146 ⟨(Nat.le_of_ble_eq_true rfl), (Nat.le_of_ble_eq_true rfl)⟩ (fun v258 F259 H locs hp hw => ?_)
                    obtain ⟨e260, hO261, hf262⟩ := hp
                    refine x_top e260 ?_
                    replace hfr := hfr.tr hf262 (by omega) (by omega)
                    refine lv_iconst (v := nI 2) X.1 X.2.1 dL_areRaces_149 (by decide) ?_
                    refine lv_icmp_ne (tgt := 205) X.1 X.2.1 dL_areRaces_150 (by decide) (fun c263 => ?_) (fun c263 => ?_)
                    · exact absurd ((nI_eq (by omega) (by omega)).mpr (by omega)) c263
                    · have n264 := (nI_eq (by omega) (by omega)).mp c263
                      refine lv_iload X.1 X.2.1 dL_areRaces_153 (lv_at hl 0 rfl) ?_
                      refine lv_if_lt (tgt := 207) X.1 X.2.1 dL_areRaces_155 (by decide) (fun c265 => ?_) (fun c265 => ?_)
                      · refine lv_iinc (v := nI (r + 1)) (lv' := [(3, .int (nI (r + 1))), (6, .int ((-5))), (4, .int (nI (finN A r b))), (5, .int (nI (outN A r b))), (2, .int (nI (min (r + 1) (ncl A)))), (1, .int (nI (A 2))), (0, .ref (ad 0))]) X.1 X.2.1 dL_areRaces_207 hl (k := 4) rfl (by first | exact nI_1 _ | exact nI_add _ _ | rfl) (by decide) rfl (fun ls hl => ?_)
                        refine lv_goto (tgt := 10) X.1 X.2.1 dL_areRaces_210 (by decide) ?_
                        exact ih (r + 1) F259 (by omega) (by omega) hO261 hfr _ _ hw _ (lv_sub hl [4, 0, 5, 6] rfl)
                      · exact absurd (by decide) c265
            · have hp0 : plN A r j = 1 := by unfold plN; rw [ah_0 hj3 (A 1) (Nat.le_refl _)]
              have hj4 := hj2.1
              have hj5 := hj2.2
              refine lv_aload_n X.1 X.2.1 dL_areRaces_105 rfl (lv_at hl 6 rfl) ?_
              refine lv_iload_n X.1 X.2.1 dL_areRaces_106 rfl (lv_at hl 4 rfl) ?_
              refine lv_bipush (v := nI 6) X.1 X.2.1 dL_areRaces_107 (by decide) ?_
              refine x_callV X hK hw (k := 0) (As := [.int (nI r), .int (nI 6)]) (rest := []) (w_race hI (by omega) hJ.1.1 hOC (nI r) (nI 6) (fun g t tm hE => (a_rac6 hJ hc hk hE (by omega) tm).trans (congrArg oI hj))) (x_cwV yX7_race cX7_race 3 (some .int) 2 X q804 q805 q806 q1 q807 hd_X7_race ⟨(Nat.le_of_ble_eq_true rfl), (Nat.le_of_ble_eq_true rfl)⟩) (by omega) hOC.ma rfl rfl hl.1 rfl (Nat.le_of_ble_eq_true rfl) dL_areRaces_109 ⟨(Nat.le_of_ble_eq_true rfl), (Nat.le_of_ble_eq_true rfl)⟩ (fun v266 F267 H locs hp hw => ?_)
              obtain ⟨e268, hO269, hf270⟩ := hp
              refine x_top e268 ?_
              replace hfr := hfr.tr hf270 (by omega) (by omega)
              refine lv_istore (lv' := [(6, .int (nI j)), (4, .int (nI (finN A r b))), (5, .int (nI (outN A r b))), (2, .int (nI (min (r + 1) (ncl A)))), (3, .int (nI r)), (1, .int (nI (A 2))), (0, .ref (ad 0))]) X.1 X.2.1 dL_areRaces_112 hl (by decide) rfl (fun ls hl => ?_)
              refine lv_aload_n X.1 X.2.1 dL_areRaces_114 rfl (lv_at hl 6 rfl) ?_
              refine lv_iload_n X.1 X.2.1 dL_areRaces_115 rfl (lv_at hl 4 rfl) ?_
              refine lv_iconst (v := nI 4) X.1 X.2.1 dL_areRaces_116 (by decide) ?_
              refine x_callV X hK hw (k := 0) (As := [.int (nI r), .int (nI 4)]) (rest := []) (w_race hI (by omega) hJ.1.1 hO269 (nI r) (nI 4) (fun g t tm hE => a_rac4 hJ hc hk hE (by omega) tm)) (x_cwV yX7_race cX7_race 3 (some .int) 2 X q804 q805 q806 q1 q807 hd_X7_race ⟨(Nat.le_of_ble_eq_true rfl), (Nat.le_of_ble_eq_true rfl)⟩) (by omega) hO269.ma rfl rfl hl.1 rfl (Nat.le_of_ble_eq_true rfl) dL_areRaces_117 ⟨(Nat.le_of_ble_eq_true rfl), (Nat.le_of_ble_eq_true rfl)⟩ (fun v271 F272 H locs hp hw => ?_)
              obtain ⟨e273, hO274, hf275⟩ := hp
              refine x_top e273 ?_
              replace hfr := hfr.tr hf275 (by omega) (by omega)
              refine lv_iload X.1 X.2.1 dL_areRaces_120 (lv_at hl 1 rfl) ?_
              refine lv_icmp_ne (tgt := 205) X.1 X.2.1 dL_areRaces_122 (by decide) (fun c276 => ?_) (fun c276 => ?_)
              · exact absurd ((nI_eq (by omega) (by omega)).mpr (by omega)) c276
              · have n277 := (nI_eq (by omega) (by omega)).mp c276
                refine lv_aload_n X.1 X.2.1 dL_areRaces_125 rfl (lv_at hl 6 rfl) ?_
                refine lv_iload_n X.1 X.2.1 dL_areRaces_126 rfl (lv_at hl 4 rfl) ?_
                refine lv_iconst (v := nI 5) X.1 X.2.1 dL_areRaces_127 (by decide) ?_
                refine x_callV X hK hw (k := 0) (As := [.int (nI r), .int (nI 5)]) (rest := []) (w_race hI (by omega) hJ.1.1 hO274 (nI r) (nI 5) (fun g t tm hE => a_rac5 hJ hc hk hE (by omega) tm)) (x_cwV yX7_race cX7_race 3 (some .int) 2 X q804 q805 q806 q1 q807 hd_X7_race ⟨(Nat.le_of_ble_eq_true rfl), (Nat.le_of_ble_eq_true rfl)⟩) (by omega) hO274.ma rfl rfl hl.1 rfl (Nat.le_of_ble_eq_true rfl) dL_areRaces_128 ⟨(Nat.le_of_ble_eq_true rfl), (Nat.le_of_ble_eq_true rfl)⟩ (fun v278 F279 H locs hp hw => ?_)
                obtain ⟨e280, hO281, hf282⟩ := hp
                refine x_top e280 ?_
                replace hfr := hfr.tr hf282 (by omega) (by omega)
                refine lv_iload X.1 X.2.1 dL_areRaces_131 (lv_at hl 2 rfl) ?_
                refine lv_icmp_ne (tgt := 205) X.1 X.2.1 dL_areRaces_133 (by decide) (fun c283 => ?_) (fun c283 => ?_)
                · exact absurd ((nI_eq (by omega) (by omega)).mpr (by omega)) c283
                · have n284 := (nI_eq (by omega) (by omega)).mp c283
                  refine lv_iload_n X.1 X.2.1 dL_areRaces_136 rfl (lv_at hl 4 rfl) ?_
                  refine lv_iload_n X.1 X.2.1 dL_areRaces_137 rfl (lv_at hl 5 rfl) ?_
                  refine lv_iconst (v := nI 1) X.1 X.2.1 dL_areRaces_138 (by decide) ?_
                  refine lv_isub X.1 X.2.1 dL_areRaces_139 ?_
                  refine x_top (pk_sub (by omega)) ?_
                  refine lv_icmp_ge (tgt := 153) X.1 X.2.1 dL_areRaces_140 (by decide) (fun c285 => ?_) (fun c285 => ?_)
                  · have n286 := (nI_leI (by omega) (by omega)).mp c285
                    refine lv_iload X.1 X.2.1 dL_areRaces_153 (lv_at hl 0 rfl) ?_
                    refine lv_if_lt (tgt := 207) X.1 X.2.1 dL_areRaces_155 (by decide) (fun c287 => ?_) (fun c287 => ?_)
                    · have n288 := (bz_lt (by omega)).mp c287
                      refine lv_iinc (v := nI (r + 1)) (lv' := [(3, .int (nI (r + 1))), (6, .int (nI j)), (4, .int (nI (finN A r b))), (5, .int (nI (outN A r b))), (2, .int (nI (min (r + 1) (ncl A)))), (1, .int (nI (A 2))), (0, .ref (ad 0))]) X.1 X.2.1 dL_areRaces_207 hl (k := 4) rfl (by first | exact nI_1 _ | exact nI_add _ _ | rfl) (by decide) rfl (fun ls hl => ?_)
                      refine lv_goto (tgt := 10) X.1 X.2.1 dL_areRaces_210 (by decide) ?_
                      exact ih (r + 1) F279 (by omega) (by omega) hO281 hfr _ _ hw _ (lv_sub hl [4, 0, 5, 6] rfl)
                    · have n289 : ¬ j < 0 := fun z => c287 ((bz_lt (by omega)).mpr z)
                      refine lv_aload_n X.1 X.2.1 dL_areRaces_158 rfl (lv_at hl 6 rfl) ?_
                      refine lv_iload_n X.1 X.2.1 dL_areRaces_159 rfl (lv_at hl 4 rfl) ?_
                      refine lv_iload X.1 X.2.1 dL_areRaces_160 (lv_at hl 0 rfl) ?_
                      refine lv_iconst (v := nI 0) X.1 X.2.1 dL_areRaces_162 (by decide) ?_
                      refine x_callV X hK hw (k := 0) (As := [.int (nI r), .int (nI j), .int (nI 0)]) (rest := []) (w_result hI (by omega) hJ.1.1 hO281 (nI r) (nI j) (nI 0) (fun g t tm hE => a_res0 hJ hc hk hE (by omega) (by omega) tm)) (x_cwV yX7_result cX7_result 4 (some .int) 3 X q695 q696 q697 q1 q698 hd_X7_result ⟨(Nat.le_of_ble_eq_true rfl), (Nat.le_of_ble_eq_true rfl)⟩) (by omega) hO281.ma rfl rfl hl.1 rfl (Nat.le_of_ble_eq_true rfl) dL_areRaces_163 ⟨(Nat.le_of_ble_eq_true rfl), (Nat.le_of_ble_eq_true rfl)⟩ (fun v290 F291 H locs hp hw => ?_)
                      obtain ⟨e292, hO293, hf294⟩ := hp
                      refine x_top e292 ?_
                      replace hfr := hfr.tr hf294 (by omega) (by omega)
                      refine lv_iconst (v := nI 3) X.1 X.2.1 dL_areRaces_166 (by decide) ?_
                      refine lv_icmp_ne (tgt := 205) X.1 X.2.1 dL_areRaces_167 (by decide) (fun c295 => ?_) (fun c295 => ?_)
                      · exact absurd ((nI_eq (by omega) (by omega)).mpr (by omega)) c295
                      · have n296 := (nI_eq (by omega) (by omega)).mp c295
                        refine lv_aload_n X.1 X.2.1 dL_areRaces_170 rfl (lv_at hl 6 rfl) ?_
                        refine lv_iload_n X.1 X.2.1 dL_areRaces_171 rfl (lv_at hl 4 rfl) ?_
                        refine lv_iload X.1 X.2.1 dL_areRaces_172 (lv_at hl 0 rfl) ?_
                        refine lv_iconst (v := nI 4) X.1 X.2.1 dL_areRaces_174 (by decide) ?_
                        refine x_callV X hK hw (k := 0) (As := [.int (nI r), .int (nI j), .int (nI 4)]) (rest := []) (w_result hI (by omega) hJ.1.1 hO293 (nI r) (nI j) (nI 4) (fun g t tm hE => a_res4 hJ hc hk hE (by omega) (by omega) tm)) (x_cwV yX7_result cX7_result 4 (some .int) 3 X q695 q696 q697 q1 q698 hd_X7_result ⟨(Nat.le_of_ble_eq_true rfl), (Nat.le_of_ble_eq_true rfl)⟩) (by omega) hO293.ma rfl rfl hl.1 rfl (Nat.le_of_ble_eq_true rfl) dL_areRaces_175 ⟨(Nat.le_of_ble_eq_true rfl), (Nat.le_of_ble_eq_true rfl)⟩ (fun v297 F298 H locs hp hw => ?_)
                        obtain ⟨e299, hO300, hf301⟩ := hp
                        refine x_top e299 ?_
                        replace hfr := hfr.tr hf301 (by omega) (by omega)
                        refine lv_iconst (v := nI 1) X.1 X.2.1 dL_areRaces_178 (by decide) ?_
                        refine lv_icmp_eq (tgt := 205) X.1 X.2.1 dL_areRaces_179 (by decide) (fun c302 => ?_) (fun c302 => ?_)
                        · exact absurd ((nI_eq (by omega) (by omega)).mp c302) (by omega)
                        · have n303 : ¬ (eA A r j 4) = 1 := fun z => c302 ((nI_eq (by omega) (by omega)).mpr z)
                          refine lv_aload_n X.1 X.2.1 dL_areRaces_182 rfl (lv_at hl 6 rfl) ?_
                          refine lv_iload_n X.1 X.2.1 dL_areRaces_183 rfl (lv_at hl 4 rfl) ?_
                          refine lv_iconst (v := nI 3) X.1 X.2.1 dL_areRaces_184 (by decide) ?_
                          refine x_callV X hK hw (k := 0) (As := [.int (nI r), .int (nI 3)]) (rest := []) (w_race hI (by omega) hJ.1.1 hO300 (nI r) (nI 3) (fun g t tm hE => a_rac3 hJ hc hk hE (by omega) tm)) (x_cwV yX7_race cX7_race 3 (some .int) 2 X q804 q805 q806 q1 q807 hd_X7_race ⟨(Nat.le_of_ble_eq_true rfl), (Nat.le_of_ble_eq_true rfl)⟩) (by omega) hO300.ma rfl rfl hl.1 rfl (Nat.le_of_ble_eq_true rfl) dL_areRaces_185 ⟨(Nat.le_of_ble_eq_true rfl), (Nat.le_of_ble_eq_true rfl)⟩ (fun v304 F305 H locs hp hw => ?_)
                          obtain ⟨e306, hO307, hf308⟩ := hp
                          refine x_top e306 ?_
                          replace hfr := hfr.tr hf308 (by omega) (by omega)
                          refine lv_iconst (v := nI 2) X.1 X.2.1 dL_areRaces_188 (by decide) ?_
                          refine lv_icmp_ne (tgt := 207) X.1 X.2.1 dL_areRaces_189 (by decide) (fun c309 => ?_) (fun c309 => ?_)
                          · have n310 : ¬ (rA A r 3 + 1) = 2 := fun z => c309 ((nI_eq (by omega) (by omega)).mpr z)
                            refine lv_iinc (v := nI (r + 1)) (lv' := [(3, .int (nI (r + 1))), (6, .int (nI j)), (4, .int (nI (finN A r b))), (5, .int (nI (outN A r b))), (2, .int (nI (min (r + 1) (ncl A)))), (1, .int (nI (A 2))), (0, .ref (ad 0))]) X.1 X.2.1 dL_areRaces_207 hl (k := 4) rfl (by first | exact nI_1 _ | exact nI_add _ _ | rfl) (by decide) rfl (fun ls hl => ?_)
                            refine lv_goto (tgt := 10) X.1 X.2.1 dL_areRaces_210 (by decide) ?_
                            exact ih (r + 1) F305 (by omega) (by omega) hO307 hfr _ _ hw _ (lv_sub hl [4, 0, 5, 6] rfl)
                          · have n311 := (nI_eq (by omega) (by omega)).mp c309
                            refine lv_aload_n X.1 X.2.1 dL_areRaces_192 rfl (lv_at hl 6 rfl) ?_
                            refine lv_iload_n X.1 X.2.1 dL_areRaces_193 rfl (lv_at hl 4 rfl) ?_
                            refine lv_iload X.1 X.2.1 dL_areRaces_194 (lv_at hl 0 rfl) ?_
                            refine lv_bipush (v := nI 7) X.1 X.2.1 dL_areRaces_196 (by decide) ?_
                            refine x_callV X hK hw (k := 0) (As := [.int (nI r), .int (nI j), .int (nI 7)]) (rest := []) (w_result hI (by omega) hJ.1.1 hO307 (nI r) (nI j) (nI 7) (fun g t tm hE => (a_res7 hJ hc hk hE (by omega) hj1 tm).trans ((if_pos (by omega)).trans ((place_n hJ hc hk (by omega) hj1).trans (if_pos hj2))))) (x_cwV yX7_result cX7_result 4 (some .int) 3 X q695 q696 q697 q1 q698 hd_X7_result ⟨(Nat.le_of_ble_eq_true rfl), (Nat.le_of_ble_eq_true rfl)⟩) (by omega) hO307.ma rfl rfl hl.1 rfl (Nat.le_of_ble_eq_true rfl) dL_areRaces_198 ⟨(Nat.le_of_ble_eq_true rfl), (Nat.le_of_ble_eq_true rfl)⟩ (fun v312 F313 H locs hp hw => ?_)
                            obtain ⟨e314, hO315, hf316⟩ := hp
                            refine x_top e314 ?_
                            replace hfr := hfr.tr hf316 (by omega) (by omega)
                            refine lv_iconst (v := nI 1) X.1 X.2.1 dL_areRaces_201 (by decide) ?_
                            refine lv_icmp_eq (tgt := 207) X.1 X.2.1 dL_areRaces_202 (by decide) (fun c317 => ?_) (fun c317 => ?_)
                            · have n318 := (nI_eq (by omega) (by omega)).mp c317
                              refine lv_iinc (v := nI (r + 1)) (lv' := [(3, .int (nI (r + 1))), (6, .int (nI j)), (4, .int (nI (finN A r b))), (5, .int (nI (outN A r b))), (2, .int (nI (min (r + 1) (ncl A)))), (1, .int (nI (A 2))), (0, .ref (ad 0))]) X.1 X.2.1 dL_areRaces_207 hl (k := 4) rfl (by first | exact nI_1 _ | exact nI_add _ _ | rfl) (by decide) rfl (fun ls hl => ?_)
                              refine lv_goto (tgt := 10) X.1 X.2.1 dL_areRaces_210 (by decide) ?_
                              exact ih (r + 1) F313 (by omega) (by omega) hO315 hfr _ _ hw _ (lv_sub hl [4, 0, 5, 6] rfl)
                            · exact absurd ((nI_eq (by omega) (by omega)).mpr (by omega)) c317
                  · have n319 : ¬ ((A 2) - 1) ≤ r := fun z => c285 ((nI_leI (by omega) (by omega)).mpr z)
                    refine lv_aload_n X.1 X.2.1 dL_areRaces_143 rfl (lv_at hl 6 rfl) ?_
                    refine lv_iload_n X.1 X.2.1 dL_areRaces_144 rfl (lv_at hl 4 rfl) ?_
                    refine lv_iconst (v := nI 3) X.1 X.2.1 dL_areRaces_145 (by decide) ?_
                    refine x_callV X hK hw (k := 0) (As := [.int (nI r), .int (nI 3)]) (rest := []) (w_race hI (by omega) hJ.1.1 hO281 (nI r) (nI 3) (fun g t tm hE => a_rac3 hJ hc hk hE (by omega) tm)) (x_cwV yX7_race cX7_race 3 (some .int) 2 X q804 q805 q806 q1 q807 hd_X7_race ⟨(Nat.le_of_ble_eq_true rfl), (Nat.le_of_ble_eq_true rfl)⟩) (by omega) hO281.ma rfl rfl hl.1 rfl (Nat.le_of_ble_eq_true rfl) dL_areRaces_146 ⟨(Nat.le_of_ble_eq_true rfl), (Nat.le_of_ble_eq_true rfl)⟩ (fun v320 F321 H locs hp hw => ?_)
                    obtain ⟨e322, hO323, hf324⟩ := hp
                    refine x_top e322 ?_
                    replace hfr := hfr.tr hf324 (by omega) (by omega)
                    refine lv_iconst (v := nI 2) X.1 X.2.1 dL_areRaces_149 (by decide) ?_
                    refine lv_icmp_ne (tgt := 205) X.1 X.2.1 dL_areRaces_150 (by decide) (fun c325 => ?_) (fun c325 => ?_)
                    · exact absurd ((nI_eq (by omega) (by omega)).mpr (by omega)) c325
                    · have n326 := (nI_eq (by omega) (by omega)).mp c325
                      refine lv_iload X.1 X.2.1 dL_areRaces_153 (lv_at hl 0 rfl) ?_
                      refine lv_if_lt (tgt := 207) X.1 X.2.1 dL_areRaces_155 (by decide) (fun c327 => ?_) (fun c327 => ?_)
                      · have n328 := (bz_lt (by omega)).mp c327
                        refine lv_iinc (v := nI (r + 1)) (lv' := [(3, .int (nI (r + 1))), (6, .int (nI j)), (4, .int (nI (finN A r b))), (5, .int (nI (outN A r b))), (2, .int (nI (min (r + 1) (ncl A)))), (1, .int (nI (A 2))), (0, .ref (ad 0))]) X.1 X.2.1 dL_areRaces_207 hl (k := 4) rfl (by first | exact nI_1 _ | exact nI_add _ _ | rfl) (by decide) rfl (fun ls hl => ?_)
                        refine lv_goto (tgt := 10) X.1 X.2.1 dL_areRaces_210 (by decide) ?_
                        exact ih (r + 1) F321 (by omega) (by omega) hO323 hfr _ _ hw _ (lv_sub hl [4, 0, 5, 6] rfl)
                      · have n329 : ¬ j < 0 := fun z => c327 ((bz_lt (by omega)).mpr z)
                        refine lv_aload_n X.1 X.2.1 dL_areRaces_158 rfl (lv_at hl 6 rfl) ?_
                        refine lv_iload_n X.1 X.2.1 dL_areRaces_159 rfl (lv_at hl 4 rfl) ?_
                        refine lv_iload X.1 X.2.1 dL_areRaces_160 (lv_at hl 0 rfl) ?_
                        refine lv_iconst (v := nI 0) X.1 X.2.1 dL_areRaces_162 (by decide) ?_
                        refine x_callV X hK hw (k := 0) (As := [.int (nI r), .int (nI j), .int (nI 0)]) (rest := []) (w_result hI (by omega) hJ.1.1 hO323 (nI r) (nI j) (nI 0) (fun g t tm hE => a_res0 hJ hc hk hE (by omega) (by omega) tm)) (x_cwV yX7_result cX7_result 4 (some .int) 3 X q695 q696 q697 q1 q698 hd_X7_result ⟨(Nat.le_of_ble_eq_true rfl), (Nat.le_of_ble_eq_true rfl)⟩) (by omega) hO323.ma rfl rfl hl.1 rfl (Nat.le_of_ble_eq_true rfl) dL_areRaces_163 ⟨(Nat.le_of_ble_eq_true rfl), (Nat.le_of_ble_eq_true rfl)⟩ (fun v330 F331 H locs hp hw => ?_)
                        obtain ⟨e332, hO333, hf334⟩ := hp
                        refine x_top e332 ?_
                        replace hfr := hfr.tr hf334 (by omega) (by omega)
                        refine lv_iconst (v := nI 3) X.1 X.2.1 dL_areRaces_166 (by decide) ?_
                        refine lv_icmp_ne (tgt := 205) X.1 X.2.1 dL_areRaces_167 (by decide) (fun c335 => ?_) (fun c335 => ?_)
                        · exact absurd ((nI_eq (by omega) (by omega)).mpr (by omega)) c335
                        · have n336 := (nI_eq (by omega) (by omega)).mp c335
                          refine lv_aload_n X.1 X.2.1 dL_areRaces_170 rfl (lv_at hl 6 rfl) ?_
                          refine lv_iload_n X.1 X.2.1 dL_areRaces_171 rfl (lv_at hl 4 rfl) ?_
                          refine lv_iload X.1 X.2.1 dL_areRaces_172 (lv_at hl 0 rfl) ?_
                          refine lv_iconst (v := nI 4) X.1 X.2.1 dL_areRaces_174 (by decide) ?_
                          refine x_callV X hK hw (k := 0) (As := [.int (nI r), .int (nI j), .int (nI 4)]) (rest := []) (w_result hI (by omega) hJ.1.1 hO333 (nI r) (nI j) (nI 4) (fun g t tm hE => a_res4 hJ hc hk hE (by omega) (by omega) tm)) (x_cwV yX7_result cX7_result 4 (some .int) 3 X q695 q696 q697 q1 q698 hd_X7_result ⟨(Nat.le_of_ble_eq_true rfl), (Nat.le_of_ble_eq_true rfl)⟩) (by omega) hO333.ma rfl rfl hl.1 rfl (Nat.le_of_ble_eq_true rfl) dL_areRaces_175 ⟨(Nat.le_of_ble_eq_true rfl), (Nat.le_of_ble_eq_true rfl)⟩ (fun v337 F338 H locs hp hw => ?_)
                          obtain ⟨e339, hO340, hf341⟩ := hp
                          refine x_top e339 ?_
                          replace hfr := hfr.tr hf341 (by omega) (by omega)
                          refine lv_iconst (v := nI 1) X.1 X.2.1 dL_areRaces_178 (by decide) ?_
                          refine lv_icmp_eq (tgt := 205) X.1 X.2.1 dL_areRaces_179 (by decide) (fun c342 => ?_) (fun c342 => ?_)
                          · exact absurd ((nI_eq (by omega) (by omega)).mp c342) (by omega)
                          · have n343 : ¬ (eA A r j 4) = 1 := fun z => c342 ((nI_eq (by omega) (by omega)).mpr z)
                            refine lv_aload_n X.1 X.2.1 dL_areRaces_182 rfl (lv_at hl 6 rfl) ?_
                            refine lv_iload_n X.1 X.2.1 dL_areRaces_183 rfl (lv_at hl 4 rfl) ?_
                            refine lv_iconst (v := nI 3) X.1 X.2.1 dL_areRaces_184 (by decide) ?_
                            refine x_callV X hK hw (k := 0) (As := [.int (nI r), .int (nI 3)]) (rest := []) (w_race hI (by omega) hJ.1.1 hO340 (nI r) (nI 3) (fun g t tm hE => a_rac3 hJ hc hk hE (by omega) tm)) (x_cwV yX7_race cX7_race 3 (some .int) 2 X q804 q805 q806 q1 q807 hd_X7_race ⟨(Nat.le_of_ble_eq_true rfl), (Nat.le_of_ble_eq_true rfl)⟩) (by omega) hO340.ma rfl rfl hl.1 rfl (Nat.le_of_ble_eq_true rfl) dL_areRaces_185 ⟨(Nat.le_of_ble_eq_true rfl), (Nat.le_of_ble_eq_true rfl)⟩ (fun v344 F345 H locs hp hw => ?_)
                            obtain ⟨e346, hO347, hf348⟩ := hp
                            refine x_top e346 ?_
                            replace hfr := hfr.tr hf348 (by omega) (by omega)
                            refine lv_iconst (v := nI 2) X.1 X.2.1 dL_areRaces_188 (by decide) ?_
                            refine lv_icmp_ne (tgt := 207) X.1 X.2.1 dL_areRaces_189 (by decide) (fun c349 => ?_) (fun c349 => ?_)
                            · have n350 : ¬ (rA A r 3 + 1) = 2 := fun z => c349 ((nI_eq (by omega) (by omega)).mpr z)
                              refine lv_iinc (v := nI (r + 1)) (lv' := [(3, .int (nI (r + 1))), (6, .int (nI j)), (4, .int (nI (finN A r b))), (5, .int (nI (outN A r b))), (2, .int (nI (min (r + 1) (ncl A)))), (1, .int (nI (A 2))), (0, .ref (ad 0))]) X.1 X.2.1 dL_areRaces_207 hl (k := 4) rfl (by first | exact nI_1 _ | exact nI_add _ _ | rfl) (by decide) rfl (fun ls hl => ?_)
                              refine lv_goto (tgt := 10) X.1 X.2.1 dL_areRaces_210 (by decide) ?_
                              exact ih (r + 1) F345 (by omega) (by omega) hO347 hfr _ _ hw _ (lv_sub hl [4, 0, 5, 6] rfl)
                            · have n351 := (nI_eq (by omega) (by omega)).mp c349
                              refine lv_aload_n X.1 X.2.1 dL_areRaces_192 rfl (lv_at hl 6 rfl) ?_
                              refine lv_iload_n X.1 X.2.1 dL_areRaces_193 rfl (lv_at hl 4 rfl) ?_
                              refine lv_iload X.1 X.2.1 dL_areRaces_194 (lv_at hl 0 rfl) ?_
                              refine lv_bipush (v := nI 7) X.1 X.2.1 dL_areRaces_196 (by decide) ?_
                              refine x_callV X hK hw (k := 0) (As := [.int (nI r), .int (nI j), .int (nI 7)]) (rest := []) (w_result hI (by omega) hJ.1.1 hO347 (nI r) (nI j) (nI 7) (fun g t tm hE => (a_res7 hJ hc hk hE (by omega) hj1 tm).trans ((if_pos (by omega)).trans ((place_n hJ hc hk (by omega) hj1).trans (if_pos hj2))))) (x_cwV yX7_result cX7_result 4 (some .int) 3 X q695 q696 q697 q1 q698 hd_X7_result ⟨(Nat.le_of_ble_eq_true rfl), (Nat.le_of_ble_eq_true rfl)⟩) (by omega) hO347.ma rfl rfl hl.1 rfl (Nat.le_of_ble_eq_true rfl) dL_areRaces_198 ⟨(Nat.le_of_ble_eq_true rfl), (Nat.le_of_ble_eq_true rfl)⟩ (fun v352 F353 H locs hp hw => ?_)
                              obtain ⟨e354, hO355, hf356⟩ := hp
                              refine x_top e354 ?_
                              replace hfr := hfr.tr hf356 (by omega) (by omega)
                              refine lv_iconst (v := nI 1) X.1 X.2.1 dL_areRaces_201 (by decide) ?_
                              refine lv_icmp_eq (tgt := 207) X.1 X.2.1 dL_areRaces_202 (by decide) (fun c357 => ?_) (fun c357 => ?_)
                              · have n358 := (nI_eq (by omega) (by omega)).mp c357
                                refine lv_iinc (v := nI (r + 1)) (lv' := [(3, .int (nI (r + 1))), (6, .int (nI j)), (4, .int (nI (finN A r b))), (5, .int (nI (outN A r b))), (2, .int (nI (min (r + 1) (ncl A)))), (1, .int (nI (A 2))), (0, .ref (ad 0))]) X.1 X.2.1 dL_areRaces_207 hl (k := 4) rfl (by first | exact nI_1 _ | exact nI_add _ _ | rfl) (by decide) rfl (fun ls hl => ?_)
                                refine lv_goto (tgt := 10) X.1 X.2.1 dL_areRaces_210 (by decide) ?_
                                exact ih (r + 1) F353 (by omega) (by omega) hO355 hfr _ _ hw _ (lv_sub hl [4, 0, 5, 6] rfl)
                              · exact absurd ((nI_eq (by omega) (by omega)).mpr (by omega)) c357
          have loop42 : ∀ (fu2 : Nat) (b : Nat) (F2 : Nat → va_E) (hfu2 : A 1 ≤ b + fu2) (hb2 : b ≤ A 1) (hOC : OB ad cI cB cS F2 hs A A3) (hfr : Fr F F2 0 111) (H : Heap) (locs : List Loc) (hw : HW D (Af ad N s.heap.size) ad N F2 s H locs) (ls : Array Slot) (hl : lv_has ls 7 [(4, .int (nI (finN A r b))), (5, .int (nI (outN A r b))), (6, .int (nI b)), (2, .int (nI (min (r + 1) (ncl A)))), (3, .int (nI r)), (1, .int (nI (A 2))), (0, .ref (ad 0))]), W p l e { frames := 8, cells := 0, slots := 0, locals := 191 } s m [.ref (ad 0)].toArray below meth c H locs 0 0 (MQ below (va_Qi (fun v F' => v = nI 1 ∧ OB ad cI cB cS F' hs A A3 ∧ Fr F F' 0 111) (fun F' t => PO D ad N F' t) (Af ad N s.heap.size)) [.ref (ad 0)].toArray s 0 0 (Af ad N s.heap.size)) (F0 m 42 ls []) := by
            intro fu2
            induction fu2 with
            | zero =>
              intro b F2 hfu2 hb2 hOC hfr H locs hw ls hl
              refine lv_iload X.1 X.2.1 dL_areRaces_42 (lv_at hl 2 rfl) ?_
              refine lv_aload_n X.1 X.2.1 dL_areRaces_44 rfl (lv_at hl 6 rfl) ?_
              refine lv_iconst (v := nI 0) X.1 X.2.1 dL_areRaces_45 (by decide) ?_
              refine x_callV X hK hw (k := 0) (As := [.int (nI 0)]) (rest := [.int (nI b)]) (w_count hI (by omega) hOC (nI 0) (fun g t z n hE => a_cou0 hJ hc hk hE z n)) (x_cwV yX7_count cX7_count 2 (some .int) 1 X q818 q819 q820 q1 q821 hd_X7_count ⟨(Nat.le_of_ble_eq_true rfl), (Nat.le_of_ble_eq_true rfl)⟩) (by omega) hOC.ma rfl rfl hl.1 rfl (Nat.le_of_ble_eq_true rfl) dL_areRaces_46 ⟨(Nat.le_of_ble_eq_true rfl), (Nat.le_of_ble_eq_true rfl)⟩ (fun v359 F360 H locs hp hw => ?_)
              obtain ⟨e361, hO362, hf363⟩ := hp
              refine x_top e361 ?_
              replace hfr := hfr.tr hf363 (by omega) (by omega)
              refine lv_icmp_ge (tgt := 105) X.1 X.2.1 dL_areRaces_49 (by decide) (fun c364 => ?_) (fun c364 => ?_)
              · have n365 := (nI_leI (by omega) (by omega)).mp c364
                exact way42 b F360 hb2 hO362 hfr n365 _ _ hw _ (lv_sub hl [0, 1, 2, 3, 4, 5, 6] rfl)
              · exact absurd ((nI_leI (by omega) (by omega)).mpr (by omega)) c364
            | succ fu2 ih2 =>
              intro b F2 hfu2 hb2 hOC hfr H locs hw ls hl
              refine lv_iload X.1 X.2.1 dL_areRaces_42 (lv_at hl 2 rfl) ?_
              refine lv_aload_n X.1 X.2.1 dL_areRaces_44 rfl (lv_at hl 6 rfl) ?_
              refine lv_iconst (v := nI 0) X.1 X.2.1 dL_areRaces_45 (by decide) ?_
              refine x_callV X hK hw (k := 0) (As := [.int (nI 0)]) (rest := [.int (nI b)]) (w_count hI (by omega) hOC (nI 0) (fun g t z n hE => a_cou0 hJ hc hk hE z n)) (x_cwV yX7_count cX7_count 2 (some .int) 1 X q818 q819 q820 q1 q821 hd_X7_count ⟨(Nat.le_of_ble_eq_true rfl), (Nat.le_of_ble_eq_true rfl)⟩) (by omega) hOC.ma rfl rfl hl.1 rfl (Nat.le_of_ble_eq_true rfl) dL_areRaces_46 ⟨(Nat.le_of_ble_eq_true rfl), (Nat.le_of_ble_eq_true rfl)⟩ (fun v366 F367 H locs hp hw => ?_)
              obtain ⟨e368, hO369, hf370⟩ := hp
              refine x_top e368 ?_
              replace hfr := hfr.tr hf370 (by omega) (by omega)
              refine lv_icmp_ge (tgt := 105) X.1 X.2.1 dL_areRaces_49 (by decide) (fun c371 => ?_) (fun c371 => ?_)
              · have n372 := (nI_leI (by omega) (by omega)).mp c371
                exact way42 b F367 hb2 hO369 hfr n372 _ _ hw _ (lv_sub hl [0, 1, 2, 3, 4, 5, 6] rfl)
              · have n373 : ¬ (A 1) ≤ b := fun z => c371 ((nI_leI (by omega) (by omega)).mpr z)
                obtain ⟨k1, k2, k3, k4, k5, k6, k7, k8, k9, k10⟩ := hJ.bj (r := r) (b := b) (by omega) (by omega)
                have kfe := (fin_eq (A := A) (r := r) (fun b hb => (hJ.bj (by omega) hb).1) b (by omega)).2
                have koe := (out_eq (A := A) (r := r) (fun b hb => (hJ.bj (by omega) hb).2.2.2.2.2.1) b (by omega)).2
                refine lv_iload X.1 X.2.1 dL_areRaces_52 (lv_at hl 0 rfl) ?_
                refine lv_aload_n X.1 X.2.1 dL_areRaces_54 rfl (lv_at hl 6 rfl) ?_
                refine lv_iload_n X.1 X.2.1 dL_areRaces_55 rfl (lv_at hl 4 rfl) ?_
                refine lv_iload X.1 X.2.1 dL_areRaces_56 (lv_at hl 2 rfl) ?_
                refine lv_iconst (v := nI 0) X.1 X.2.1 dL_areRaces_58 (by decide) ?_
                refine x_callV X hK hw (k := 0) (As := [.int (nI r), .int (nI b), .int (nI 0)]) (rest := [.int (nI (finN A r b))]) (w_result hI (by omega) hJ.1.1 hO369 (nI r) (nI b) (nI 0) (fun g t tm hE => a_res0 hJ hc hk hE (by omega) (by omega) tm)) (x_cwV yX7_result cX7_result 4 (some .int) 3 X q695 q696 q697 q1 q698 hd_X7_result ⟨(Nat.le_of_ble_eq_true rfl), (Nat.le_of_ble_eq_true rfl)⟩) (by omega) hO369.ma rfl rfl hl.1 rfl (Nat.le_of_ble_eq_true rfl) dL_areRaces_59 ⟨(Nat.le_of_ble_eq_true rfl), (Nat.le_of_ble_eq_true rfl)⟩ (fun v374 F375 H locs hp hw => ?_)
                obtain ⟨e376, hO377, hf378⟩ := hp
                refine x_top e376 ?_
                replace hfr := hfr.tr hf378 (by omega) (by omega)
                refine lv_iconst (v := nI 3) X.1 X.2.1 dL_areRaces_62 (by decide) ?_
                refine lv_icmp_ne (tgt := 70) X.1 X.2.1 dL_areRaces_63 (by decide) (fun c379 => ?_) (fun c379 => ?_)
                · have n380 : ¬ (eA A r b 0) = 3 := fun z => c379 ((nI_eq (by omega) (by omega)).mpr z)
                  refine lv_iconst (v := nI 0) X.1 X.2.1 dL_areRaces_70 (by decide) ?_
                  refine lv_iadd X.1 X.2.1 dL_areRaces_71 ?_
                  refine x_top (nI_add _ _) ?_
                  refine x_top (y := nI (finN A r (b + 1))) (congrArg nI (fin_z n380)) ?_
                  refine lv_istore (lv' := [(4, .int (nI (finN A r (b + 1)))), (5, .int (nI (outN A r b))), (6, .int (nI b)), (2, .int (nI (min (r + 1) (ncl A)))), (3, .int (nI r)), (1, .int (nI (A 2))), (0, .ref (ad 0))]) X.1 X.2.1 dL_areRaces_72 hl (by decide) rfl (fun ls hl => ?_)
                  refine lv_iload X.1 X.2.1 dL_areRaces_74 (lv_at hl 1 rfl) ?_
                  refine lv_aload_n X.1 X.2.1 dL_areRaces_76 rfl (lv_at hl 6 rfl) ?_
                  refine lv_iload_n X.1 X.2.1 dL_areRaces_77 rfl (lv_at hl 4 rfl) ?_
                  refine lv_iload X.1 X.2.1 dL_areRaces_78 (lv_at hl 2 rfl) ?_
                  refine lv_iconst (v := nI 4) X.1 X.2.1 dL_areRaces_80 (by decide) ?_
                  refine x_callV X hK hw (k := 0) (As := [.int (nI r), .int (nI b), .int (nI 4)]) (rest := [.int (nI (outN A r b))]) (w_result hI (by omega) hJ.1.1 hO377 (nI r) (nI b) (nI 4) (fun g t tm hE => a_res4 hJ hc hk hE (by omega) (by omega) tm)) (x_cwV yX7_result cX7_result 4 (some .int) 3 X q695 q696 q697 q1 q698 hd_X7_result ⟨(Nat.le_of_ble_eq_true rfl), (Nat.le_of_ble_eq_true rfl)⟩) (by omega) hO377.ma rfl rfl hl.1 rfl (Nat.le_of_ble_eq_true rfl) dL_areRaces_81 ⟨(Nat.le_of_ble_eq_true rfl), (Nat.le_of_ble_eq_true rfl)⟩ (fun v381 F382 H locs hp hw => ?_)
                  obtain ⟨e383, hO384, hf385⟩ := hp
                  refine x_top e383 ?_
                  replace hfr := hfr.tr hf385 (by omega) (by omega)
                  refine lv_iadd X.1 X.2.1 dL_areRaces_84 ?_
                  refine x_top (nI_add _ _) ?_
                  refine x_top (y := nI (outN A r (b + 1))) rfl ?_
                  refine lv_istore (lv' := [(5, .int (nI (outN A r (b + 1)))), (4, .int (nI (finN A r (b + 1)))), (6, .int (nI b)), (2, .int (nI (min (r + 1) (ncl A)))), (3, .int (nI r)), (1, .int (nI (A 2))), (0, .ref (ad 0))]) X.1 X.2.1 dL_areRaces_85 hl (by decide) rfl (fun ls hl => ?_)
                  refine lv_aload_n X.1 X.2.1 dL_areRaces_87 rfl (lv_at hl 6 rfl) ?_
                  refine lv_iload_n X.1 X.2.1 dL_areRaces_88 rfl (lv_at hl 4 rfl) ?_
                  refine lv_iload X.1 X.2.1 dL_areRaces_89 (lv_at hl 2 rfl) ?_
                  refine x_callS X hK hw (As := [.ref (ad 0), .int (nI r), .int (nI b)]) (rest := []) (k_L_isEntry hI (by omega) hJ hc hk hO384 (r := r) (b := b) (by omega) (by omega)) (x_cwS yL_isEntry cL_isEntry 12 (some .boolean) 3 X q1382 q1383 q0 q1384 hd_L_isEntry ⟨(Nat.le_of_ble_eq_true rfl), (Nat.le_of_ble_eq_true rfl)⟩) rfl hl.1 rfl (Nat.le_of_ble_eq_true rfl) dL_areRaces_91 ⟨(Nat.le_of_ble_eq_true rfl), (Nat.le_of_ble_eq_true rfl)⟩ (fun v386 F387 H locs hp hw => ?_)
                  obtain ⟨e388, hO389, hf390⟩ := hp
                  refine x_top e388 ?_
                  replace hfr := hfr.tr hf390 (by omega) (by omega)
                  refine lv_if_ne (tgt := 99) X.1 X.2.1 dL_areRaces_94 (by decide) (fun c391 => ?_) (fun c391 => ?_)
                  · refine lv_iinc (v := nI (b + 1)) (lv' := [(6, .int (nI (b + 1))), (5, .int (nI (outN A r (b + 1)))), (4, .int (nI (finN A r (b + 1)))), (2, .int (nI (min (r + 1) (ncl A)))), (3, .int (nI r)), (1, .int (nI (A 2))), (0, .ref (ad 0))]) X.1 X.2.1 dL_areRaces_99 hl (k := 2) rfl (by first | exact nI_1 _ | exact nI_add _ _ | rfl) (by decide) rfl (fun ls hl => ?_)
                    refine lv_goto (tgt := 42) X.1 X.2.1 dL_areRaces_102 (by decide) ?_
                    exact ih2 (b + 1) F387 (by omega) (by omega) hO389 hfr _ _ hw _ (lv_sub hl [2, 1, 0, 3, 4, 5, 6] rfl)
                  · exact absurd c391 (by decide)
                · have n392 := (nI_eq (by omega) (by omega)).mp c379
                  refine lv_iconst (v := nI 1) X.1 X.2.1 dL_areRaces_66 (by decide) ?_
                  refine lv_goto (tgt := 71) X.1 X.2.1 dL_areRaces_67 (by decide) ?_
                  refine lv_iadd X.1 X.2.1 dL_areRaces_71 ?_
                  refine x_top (nI_add _ _) ?_
                  refine x_top (y := nI (finN A r (b + 1))) (congrArg nI (fin_y n392)) ?_
                  refine lv_istore (lv' := [(4, .int (nI (finN A r (b + 1)))), (5, .int (nI (outN A r b))), (6, .int (nI b)), (2, .int (nI (min (r + 1) (ncl A)))), (3, .int (nI r)), (1, .int (nI (A 2))), (0, .ref (ad 0))]) X.1 X.2.1 dL_areRaces_72 hl (by decide) rfl (fun ls hl => ?_)
                  refine lv_iload X.1 X.2.1 dL_areRaces_74 (lv_at hl 1 rfl) ?_
                  refine lv_aload_n X.1 X.2.1 dL_areRaces_76 rfl (lv_at hl 6 rfl) ?_
                  refine lv_iload_n X.1 X.2.1 dL_areRaces_77 rfl (lv_at hl 4 rfl) ?_
                  refine lv_iload X.1 X.2.1 dL_areRaces_78 (lv_at hl 2 rfl) ?_
                  refine lv_iconst (v := nI 4) X.1 X.2.1 dL_areRaces_80 (by decide) ?_
                  refine x_callV X hK hw (k := 0) (As := [.int (nI r), .int (nI b), .int (nI 4)]) (rest := [.int (nI (outN A r b))]) (w_result hI (by omega) hJ.1.1 hO377 (nI r) (nI b) (nI 4) (fun g t tm hE => a_res4 hJ hc hk hE (by omega) (by omega) tm)) (x_cwV yX7_result cX7_result 4 (some .int) 3 X q695 q696 q697 q1 q698 hd_X7_result ⟨(Nat.le_of_ble_eq_true rfl), (Nat.le_of_ble_eq_true rfl)⟩) (by omega) hO377.ma rfl rfl hl.1 rfl (Nat.le_of_ble_eq_true rfl) dL_areRaces_81 ⟨(Nat.le_of_ble_eq_true rfl), (Nat.le_of_ble_eq_true rfl)⟩ (fun v393 F394 H locs hp hw => ?_)
                  obtain ⟨e395, hO396, hf397⟩ := hp
                  refine x_top e395 ?_
                  replace hfr := hfr.tr hf397 (by omega) (by omega)
                  refine lv_iadd X.1 X.2.1 dL_areRaces_84 ?_
                  refine x_top (nI_add _ _) ?_
                  refine x_top (y := nI (outN A r (b + 1))) rfl ?_
                  refine lv_istore (lv' := [(5, .int (nI (outN A r (b + 1)))), (4, .int (nI (finN A r (b + 1)))), (6, .int (nI b)), (2, .int (nI (min (r + 1) (ncl A)))), (3, .int (nI r)), (1, .int (nI (A 2))), (0, .ref (ad 0))]) X.1 X.2.1 dL_areRaces_85 hl (by decide) rfl (fun ls hl => ?_)
                  refine lv_aload_n X.1 X.2.1 dL_areRaces_87 rfl (lv_at hl 6 rfl) ?_
                  refine lv_iload_n X.1 X.2.1 dL_areRaces_88 rfl (lv_at hl 4 rfl) ?_
                  refine lv_iload X.1 X.2.1 dL_areRaces_89 (lv_at hl 2 rfl) ?_
                  refine x_callS X hK hw (As := [.ref (ad 0), .int (nI r), .int (nI b)]) (rest := []) (k_L_isEntry hI (by omega) hJ hc hk hO396 (r := r) (b := b) (by omega) (by omega)) (x_cwS yL_isEntry cL_isEntry 12 (some .boolean) 3 X q1382 q1383 q0 q1384 hd_L_isEntry ⟨(Nat.le_of_ble_eq_true rfl), (Nat.le_of_ble_eq_true rfl)⟩) rfl hl.1 rfl (Nat.le_of_ble_eq_true rfl) dL_areRaces_91 ⟨(Nat.le_of_ble_eq_true rfl), (Nat.le_of_ble_eq_true rfl)⟩ (fun v398 F399 H locs hp hw => ?_)
                  obtain ⟨e400, hO401, hf402⟩ := hp
                  refine x_top e400 ?_
                  replace hfr := hfr.tr hf402 (by omega) (by omega)
                  refine lv_if_ne (tgt := 99) X.1 X.2.1 dL_areRaces_94 (by decide) (fun c403 => ?_) (fun c403 => ?_)
                  · refine lv_iinc (v := nI (b + 1)) (lv' := [(6, .int (nI (b + 1))), (5, .int (nI (outN A r (b + 1)))), (4, .int (nI (finN A r (b + 1)))), (2, .int (nI (min (r + 1) (ncl A)))), (3, .int (nI r)), (1, .int (nI (A 2))), (0, .ref (ad 0))]) X.1 X.2.1 dL_areRaces_99 hl (k := 2) rfl (by first | exact nI_1 _ | exact nI_add _ _ | rfl) (by decide) rfl (fun ls hl => ?_)
                    refine lv_goto (tgt := 42) X.1 X.2.1 dL_areRaces_102 (by decide) ?_
                    exact ih2 (b + 1) F399 (by omega) (by omega) hO401 hfr _ _ hw _ (lv_sub hl [2, 1, 0, 3, 4, 5, 6] rfl)
                  · exact absurd c403 (by decide)
          exact loop42 (A 1) 0 F59 (by omega) (by omega) hO61 hfr _ _ hw _ (lv_sub hl [3, 2, 0, 1, 4, 5, 6] rfl)
  exact loop10 (A 2) 0 F2 (by omega) (by omega) hO4 hfr _ _ hw _ (lv_sub hl [1, 0, 2, 3] rfl)
