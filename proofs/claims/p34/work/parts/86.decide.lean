/-! the law's methods 'low' and 'protests' -/
def lowN (v : Int32) (n : Nat) : Nat := v.toBitVec.toNat % 2 ^ 31 % n
theorem lowN_lt {v : Int32} {n : Nat} (h : 0 < n) : lowN v n < n := Nat.mod_lt _ h
theorem nI_mod2 {a b : Nat} (hb : 0 < b) (hb2 : b < 2 ^ 31) (ha : a < 2 ^ 31) : nI a - nI a / nI b * nI b = nI (a % b) := by
  have h1 : nI a / nI b = nI (a / b) := pk_div ha hb hb2
  have h2 : a / b * b ≤ a := Nat.div_mul_le_self a b
  rw [h1, pk_mul, pk_sub h2]
  have h3 : a % b = a - a / b * b := by rw [Nat.mod_def, Nat.mul_comm]
  rw [h3]
set_option maxHeartbeats 4000000 in
set_option maxRecDepth 100000 in
theorem k_L_low {l : Launch} {D : va_G} {cI cB cS : ClassId} {ad : Nat → Nat} {N : Nat} {F : Nat → va_E} (v : Int32) (n : Nat) (hn0 : 0 < n) (hn : n < 2 ^ 30) : Ci l D cI cB cS ad N yL_low cL_low 2 (some .int) 0 0 [.int v, .int (nI n)] F (pP (nI (lowN v n)) F) := by
  refine x_met (by decide +kernel) (Nat.le_of_ble_eq_true rfl) ?_
  intro p e s m below meth c X hr hlk hK hw ls hl
  replace hl : lv_has ls 2 [(0, .int v), (1, .int (nI n))] := hl
  refine lv_iload_n X.1 X.2.1 dL_low_0 rfl (lv_at hl 0 rfl) ?_
  refine lv_ldc (v := nI 2147483647) X.1 X.2.1 X.2.2.2.1 (X.2.2.2.2 _ q1397) dL_low_1 ?_
  refine lv_iand X.1 X.2.1 dL_low_3 ?_
  refine x_top (pk_and v 31 (by decide)) ?_
  refine lv_iload_n X.1 X.2.1 dL_low_4 rfl (lv_at hl 1 rfl) ?_
  refine lv_irem X.1 X.2.1 dL_low_5 (fun z => by have := (bz_eq (by omega)).mp z; omega) ?_
  refine x_top (nI_mod2 hn0 (by omega) (Nat.mod_lt _ (by decide))) ?_
  exact x_iret X hr hlk hK hw (v := nI (lowN v n)) rfl ⟨rfl, rfl⟩ dL_low_6
/-- what an act of the law leaves -/
def ACT (ad : Nat → Nat) (cI cB cS : ClassId) (F : Nat → va_E) (c : Nat) (A : Nat → Nat) : Prop := ∃ A' hs' A3', HJ (c + 1) A' ∧ A' 0 ≤ A 0 + 130 ∧ (A' 2 ≠ A 2 ∨ A' 3 < A 3 ∨ ∀ k, k < A 3 → pA A k 3 ≤ pA A' k 3) ∧ OB ad cI cB cS F hs' A' A3'
theorem ACT.same {ad : Nat → Nat} {cI cB cS : ClassId} {F : Nat → va_E} {c : Nat} {A A3 : Nat → Nat} {hs : Int32} (hJ : HJ c A) (hO : OB ad cI cB cS F hs A A3) : ACT ad cI cB cS F c A := ⟨A, hs, A3, hJ.mono (Nat.le_succ _), by omega, Or.inr (Or.inr fun _ _ => Nat.le_refl _), hO⟩
theorem ACT.mk1 {ad : Nat → Nat} {cI cB cS : ClassId} {F : Nat → va_E} {c c' : Nat} {A B A3 : Nat → Nat} {hs : Int32} (hJ : HJ c' B) (hc : c' ≤ c + 1) (h0 : B 0 ≤ A 0 + 130) (h : ∀ k, k < A 3 → pA A k 3 ≤ pA B k 3) (hO : OB ad cI cB cS F hs B A3) : ACT ad cI cB cS F c A := ⟨B, hs, A3, hJ.mono hc, h0, Or.inr (Or.inr h), hO⟩
theorem ACT.mk2 {ad : Nat → Nat} {cI cB cS : ClassId} {F : Nat → va_E} {c c' : Nat} {A B A3 : Nat → Nat} {hs : Int32} (hJ : HJ c' B) (hc : c' ≤ c + 1) (h0 : B 0 ≤ A 0 + 130) (h : B 2 ≠ A 2 ∨ B 3 < A 3) (hO : OB ad cI cB cS F hs B A3) : ACT ad cI cB cS F c A := ⟨B, hs, A3, hJ.mono hc, h0, h.elim Or.inl (fun q => Or.inr (Or.inl q)), hO⟩
theorem hd_X7_accept : yX7_accept.cls = RX7 ∧ yX7_accept.cls ≠ "java/lang/invoke/MethodHandle" ∧ yX7_accept.cls ≠ "java/lang/invoke/VarHandle" ∧ (parseMethodDescriptor yX7_accept.desc).map (fun d => d.parameters.length) = some 1 := by decide +kernel
theorem hd_X7_decide : yX7_decide.cls = RX7 ∧ yX7_decide.cls ≠ "java/lang/invoke/MethodHandle" ∧ yX7_decide.cls ≠ "java/lang/invoke/VarHandle" ∧ (parseMethodDescriptor yX7_decide.desc).map (fun d => d.parameters.length) = some 2 := by decide +kernel
theorem hd_X7_file : yX7_file.cls = RX7 ∧ yX7_file.cls ≠ "java/lang/invoke/MethodHandle" ∧ yX7_file.cls ≠ "java/lang/invoke/VarHandle" ∧ (parseMethodDescriptor yX7_file.desc).map (fun d => d.parameters.length) = some 1 := by decide +kernel
theorem hd_L_low : yL_low.cls = RL ∧ yL_low.cls ≠ "java/lang/invoke/MethodHandle" ∧ yL_low.cls ≠ "java/lang/invoke/VarHandle" ∧ (parseMethodDescriptor yL_low.desc).map (fun d => d.parameters.length) = some 2 := by decide +kernel
set_option maxHeartbeats 4000000 in
set_option maxRecDepth 100000 in
theorem k_L_protests {l : Launch} {D : va_G} {cI cB cS : ClassId} {ad : Nat → Nat} {N : Nat} {F : Nat → va_E} (hI : iN ad N) (hN : 114 ≤ N) {ca : Nat} {hs : Int32} {A A3 : Nat → Nat} (hJ : HJ ca A) (hc : ca ≤ 200) (hk : A 0 ≤ 999999) (hO : OB ad cI cB cS F hs A A3) (v : Int32) : Ci l D cI cB cS ad N yL_protests cL_protests 9 (some .boolean) 7 160 [.ref (ad 0), .int v] F (fun z F' => z = nI 1 ∧ ACT ad cI cB cS F' ca A ∧ Fr F F' 0 111) := by
  refine x_met (by decide +kernel) (Nat.le_of_ble_eq_true rfl) ?_
  intro p e s m below meth c X hr hlk hK hw ls hl
  replace hl : lv_has ls 9 [(0, .ref (ad 0)), (1, .int v)] := hl
  have hfr : Fr F F 0 111 := Fr.rf
  have h9 := hJ.1.1
  have h6 := hJ.1.2.1
  have h10 := hJ.1.2.2.1
  have hs4 := hJ.1.2.2.2.2.2.2.1
  have hs5 := hJ.1.2.2.2.2.2.2.2.2.1
  rcases Nat.eq_zero_or_pos (A 3) with h3 | h3
  · refine lv_aload_n X.1 X.2.1 dL_protests_0 rfl (lv_at hl 0 rfl) ?_
    refine lv_iconst (v := nI 5) X.1 X.2.1 dL_protests_1 (by decide) ?_
    refine x_callV X hK hw (k := 0) (As := [.int (nI 5)]) (rest := []) (w_count hI (by omega) hO (nI 5) (fun g t z n hE => a_cou5 hJ (by omega) hk hE z n)) (x_cwV yX7_count cX7_count 2 (some .int) 1 X q818 q819 q820 q1 q821 hd_X7_count ⟨(Nat.le_of_ble_eq_true rfl), (Nat.le_of_ble_eq_true rfl)⟩) (by omega) hO.ma rfl rfl hl.1 rfl (Nat.le_of_ble_eq_true rfl) dL_protests_2 ⟨(Nat.le_of_ble_eq_true rfl), (Nat.le_of_ble_eq_true rfl)⟩ (fun v1 F2 H locs hp hw => ?_)
    obtain ⟨e3, hO4, hf5⟩ := hp
    refine x_top e3 ?_
    replace hfr := hfr.tr hf5 (by omega) (by omega)
    refine lv_istore_n (lv' := [(2, .int (nI (A 3))), (0, .ref (ad 0)), (1, .int v)]) X.1 X.2.1 dL_protests_5 rfl hl (by decide) rfl (fun ls hl => ?_)
    refine lv_aload_n X.1 X.2.1 dL_protests_6 rfl (lv_at hl 1 rfl) ?_
    refine lv_iconst (v := nI 1) X.1 X.2.1 dL_protests_7 (by decide) ?_
    refine x_callV X hK hw (k := 0) (As := [.int (nI 1)]) (rest := []) (w_count hI (by omega) hO4 (nI 1) (fun g t z n hE => a_cou1 hJ (by omega) hk hE z n)) (x_cwV yX7_count cX7_count 2 (some .int) 1 X q818 q819 q820 q1 q821 hd_X7_count ⟨(Nat.le_of_ble_eq_true rfl), (Nat.le_of_ble_eq_true rfl)⟩) (by omega) hO4.ma rfl rfl hl.1 rfl (Nat.le_of_ble_eq_true rfl) dL_protests_8 ⟨(Nat.le_of_ble_eq_true rfl), (Nat.le_of_ble_eq_true rfl)⟩ (fun v6 F7 H locs hp hw => ?_)
    obtain ⟨e8, hO9, hf10⟩ := hp
    refine x_top e8 ?_
    replace hfr := hfr.tr hf10 (by omega) (by omega)
    refine lv_iconst (v := nI 1) X.1 X.2.1 dL_protests_11 (by decide) ?_
    refine lv_isub X.1 X.2.1 dL_protests_12 ?_
    refine x_top (show nI (A 2) - nI 1 = nI (A 2) - nI 1 from rfl) ?_
    refine lv_istore_n (lv' := [(3, .int (nI (A 2) - nI 1)), (2, .int (nI (A 3))), (0, .ref (ad 0)), (1, .int v)]) X.1 X.2.1 dL_protests_13 rfl hl (by decide) rfl (fun ls hl => ?_)
    refine lv_iload_n X.1 X.2.1 dL_protests_14 rfl (lv_at hl 1 rfl) ?_
    refine lv_if_ne (tgt := 33) X.1 X.2.1 dL_protests_15 (by decide) (fun c11 => ?_) (fun c11 => ?_)
    · exact absurd ((bz_eq (by omega)).mpr (by omega)) c11
    · have n12 := (bz_eq (by omega)).mp c11
      refine lv_aload_n X.1 X.2.1 dL_protests_18 rfl (lv_at hl 2 rfl) ?_
      refine lv_iconst (v := nI 0) X.1 X.2.1 dL_protests_19 (by decide) ?_
      refine x_callV X hK hw (k := 0) (As := [.int (nI 0)]) (rest := []) (w_file hI (by omega) hO9 (nI 0) (fun g t hE => a_file_none h3 hE)) (x_cwV yX7_file cX7_file 2 (some .int) 1 X q427 q428 q429 q1 q430 hd_X7_file ⟨(Nat.le_of_ble_eq_true rfl), (Nat.le_of_ble_eq_true rfl)⟩) (by omega) hO9.ma rfl rfl hl.1 rfl (Nat.le_of_ble_eq_true rfl) dL_protests_20 ⟨(Nat.le_of_ble_eq_true rfl), (Nat.le_of_ble_eq_true rfl)⟩ (fun v13 F14 H locs hp hw => ?_)
      obtain ⟨e15, hO16, hf17⟩ := hp
      refine x_top e15 ?_
      replace hfr := hfr.tr hf17 (by omega) (by omega)
      refine lv_iconst (v := (-1)) X.1 X.2.1 dL_protests_23 (by decide) ?_
      refine lv_icmp_ne (tgt := 31) X.1 X.2.1 dL_protests_24 (by decide) (fun c18 => ?_) (fun c18 => ?_)
      · exact absurd (by decide) c18
      · refine lv_iconst (v := nI 1) X.1 X.2.1 dL_protests_27 (by decide) ?_
        refine lv_goto (tgt := 32) X.1 X.2.1 dL_protests_28 (by decide) ?_
        exact x_iret X hr hlk hK hw (v := nI 1) (by first | rfl | exact nr_b _ | decide) (⟨rfl, ACT.same hJ hO16, hfr⟩) dL_protests_32
  · have hn := hJ.1.2.2.2.1 h3
    obtain ⟨r, hrA⟩ : ∃ r, r + 1 = A 2 := ⟨A 2 - 1, by omega⟩
    refine lv_aload_n X.1 X.2.1 dL_protests_0 rfl (lv_at hl 0 rfl) ?_
    refine lv_iconst (v := nI 5) X.1 X.2.1 dL_protests_1 (by decide) ?_
    refine x_callV X hK hw (k := 0) (As := [.int (nI 5)]) (rest := []) (w_count hI (by omega) hO (nI 5) (fun g t z n hE => a_cou5 hJ (by omega) hk hE z n)) (x_cwV yX7_count cX7_count 2 (some .int) 1 X q818 q819 q820 q1 q821 hd_X7_count ⟨(Nat.le_of_ble_eq_true rfl), (Nat.le_of_ble_eq_true rfl)⟩) (by omega) hO.ma rfl rfl hl.1 rfl (Nat.le_of_ble_eq_true rfl) dL_protests_2 ⟨(Nat.le_of_ble_eq_true rfl), (Nat.le_of_ble_eq_true rfl)⟩ (fun v19 F20 H locs hp hw => ?_)
    obtain ⟨e21, hO22, hf23⟩ := hp
    refine x_top e21 ?_
    replace hfr := hfr.tr hf23 (by omega) (by omega)
    refine lv_istore_n (lv' := [(2, .int (nI (A 3))), (0, .ref (ad 0)), (1, .int v)]) X.1 X.2.1 dL_protests_5 rfl hl (by decide) rfl (fun ls hl => ?_)
    refine lv_aload_n X.1 X.2.1 dL_protests_6 rfl (lv_at hl 1 rfl) ?_
    refine lv_iconst (v := nI 1) X.1 X.2.1 dL_protests_7 (by decide) ?_
    refine x_callV X hK hw (k := 0) (As := [.int (nI 1)]) (rest := []) (w_count hI (by omega) hO22 (nI 1) (fun g t z n hE => a_cou1 hJ (by omega) hk hE z n)) (x_cwV yX7_count cX7_count 2 (some .int) 1 X q818 q819 q820 q1 q821 hd_X7_count ⟨(Nat.le_of_ble_eq_true rfl), (Nat.le_of_ble_eq_true rfl)⟩) (by omega) hO22.ma rfl rfl hl.1 rfl (Nat.le_of_ble_eq_true rfl) dL_protests_8 ⟨(Nat.le_of_ble_eq_true rfl), (Nat.le_of_ble_eq_true rfl)⟩ (fun v24 F25 H locs hp hw => ?_)
    obtain ⟨e26, hO27, hf28⟩ := hp
    refine x_top e26 ?_
    replace hfr := hfr.tr hf28 (by omega) (by omega)
    refine lv_iconst (v := nI 1) X.1 X.2.1 dL_protests_11 (by decide) ?_
    refine lv_isub X.1 X.2.1 dL_protests_12 ?_
    refine x_top (show nI (A 2) - nI 1 = nI r by rw [pk_sub (by omega)]; exact congrArg nI (by omega)) ?_
    refine lv_istore_n (lv' := [(3, .int (nI r)), (2, .int (nI (A 3))), (0, .ref (ad 0)), (1, .int v)]) X.1 X.2.1 dL_protests_13 rfl hl (by decide) rfl (fun ls hl => ?_)
    refine lv_iload_n X.1 X.2.1 dL_protests_14 rfl (lv_at hl 1 rfl) ?_
    refine lv_if_ne (tgt := 33) X.1 X.2.1 dL_protests_15 (by decide) (fun c29 => ?_) (fun c29 => ?_)
    · have n30 : ¬ (A 3) = 0 := fun z => c29 ((bz_eq (by omega)).mpr z)
      refine lv_iload_n X.1 X.2.1 dL_protests_33 rfl (lv_at hl 3 rfl) ?_
      refine lv_iload_n X.1 X.2.1 dL_protests_34 rfl (lv_at hl 1 rfl) ?_
      refine x_callSP X hK hw (As := [.int v, .int (nI (A 3))]) (rest := []) (k_L_low v (A 3) (by omega) (by omega)) (x_cwS yL_low cL_low 2 (some .int) 2 X q1394 q1395 q0 q1396 hd_L_low ⟨(Nat.le_of_ble_eq_true rfl), (Nat.le_of_ble_eq_true rfl)⟩) rfl hl.1 rfl (Nat.le_of_ble_eq_true rfl) dL_protests_35 ⟨(Nat.le_of_ble_eq_true rfl), (Nat.le_of_ble_eq_true rfl)⟩ (fun H locs hw => ?_)
      have hw31 := lowN_lt (v := v) (n := A 3) (by omega)
      obtain ⟨k, hkv⟩ : ∃ y, y = lowN v (A 3) := ⟨_, rfl⟩
      rw [← hkv]
      have hkp : k < A 3 := by rw [hkv]; omega
      obtain ⟨p1, p2, p3, p4, p5⟩ := hJ.pr hkp
      obtain ⟨x1, x2, x3, x4, x5, x6, x7, x8, x9, x10⟩ := hJ.bj (r := r) (by omega) p1
      obtain ⟨y1, y2, y3, y4, y5, y6, y7, y8, y9, y10⟩ := hJ.bj (r := r) (by omega) p2
      refine lv_istore (lv' := [(4, .int (nI k)), (3, .int (nI r)), (2, .int (nI (A 3))), (0, .ref (ad 0)), (1, .int v)]) X.1 X.2.1 dL_protests_38 hl (by decide) rfl (fun ls hl => ?_)
      refine lv_aload_n X.1 X.2.1 dL_protests_40 rfl (lv_at hl 3 rfl) ?_
      refine lv_iload X.1 X.2.1 dL_protests_41 (lv_at hl 0 rfl) ?_
      refine lv_iconst (v := nI 3) X.1 X.2.1 dL_protests_43 (by decide) ?_
      refine x_callV X hK hw (k := 0) (As := [.int (nI k), .int (nI 3)]) (rest := []) (w_protest hI (by omega) hO27 (nI k) (nI 3) (fun g t hE => a_pro3 hJ (by omega) hk hE (by omega))) (x_cwV yX7_protest cX7_protest 3 (some .int) 2 X q813 q814 q815 q1 q816 hd_X7_protest ⟨(Nat.le_of_ble_eq_true rfl), (Nat.le_of_ble_eq_true rfl)⟩) (by omega) hO27.ma rfl rfl hl.1 rfl (Nat.le_of_ble_eq_true rfl) dL_protests_44 ⟨(Nat.le_of_ble_eq_true rfl), (Nat.le_of_ble_eq_true rfl)⟩ (fun v32 F33 H locs hp hw => ?_)
      obtain ⟨e34, hO35, hf36⟩ := hp
      refine x_top e34 ?_
      replace hfr := hfr.tr hf36 (by omega) (by omega)
      refine lv_istore (lv' := [(5, .int (nI (pA A k 3))), (4, .int (nI k)), (3, .int (nI r)), (2, .int (nI (A 3))), (0, .ref (ad 0)), (1, .int v)]) X.1 X.2.1 dL_protests_47 hl (by decide) rfl (fun ls hl => ?_)
      refine lv_aload_n X.1 X.2.1 dL_protests_49 rfl (lv_at hl 4 rfl) ?_
      refine lv_iload X.1 X.2.1 dL_protests_50 (lv_at hl 1 rfl) ?_
      refine lv_iconst (v := nI 1) X.1 X.2.1 dL_protests_52 (by decide) ?_
      refine x_callV X hK hw (k := 0) (As := [.int (nI k), .int (nI 1)]) (rest := []) (w_protest hI (by omega) hO35 (nI k) (nI 1) (fun g t hE => a_pro1 hJ (by omega) hk hE (by omega))) (x_cwV yX7_protest cX7_protest 3 (some .int) 2 X q813 q814 q815 q1 q816 hd_X7_protest ⟨(Nat.le_of_ble_eq_true rfl), (Nat.le_of_ble_eq_true rfl)⟩) (by omega) hO35.ma rfl rfl hl.1 rfl (Nat.le_of_ble_eq_true rfl) dL_protests_53 ⟨(Nat.le_of_ble_eq_true rfl), (Nat.le_of_ble_eq_true rfl)⟩ (fun v37 F38 H locs hp hw => ?_)
      obtain ⟨e39, hO40, hf41⟩ := hp
      refine x_top e39 ?_
      replace hfr := hfr.tr hf41 (by omega) (by omega)
      refine lv_istore (lv' := [(6, .int (nI (pA A k 1))), (5, .int (nI (pA A k 3))), (4, .int (nI k)), (3, .int (nI r)), (2, .int (nI (A 3))), (0, .ref (ad 0)), (1, .int v)]) X.1 X.2.1 dL_protests_56 hl (by decide) rfl (fun ls hl => ?_)
      refine lv_iload_n X.1 X.2.1 dL_protests_58 rfl (lv_at hl 6 rfl) ?_
      refine lv_iconst (v := nI 4) X.1 X.2.1 dL_protests_59 (by decide) ?_
      refine lv_ishr X.1 X.2.1 dL_protests_60 ?_
      refine lv_iconst (v := nI 3) X.1 X.2.1 dL_protests_61 (by decide) ?_
      refine x_callSP X hK hw (As := [.int (v >>> ((nI 4) &&& 31)), .int (nI 3)]) (rest := []) (k_L_low (v >>> ((nI 4) &&& 31)) 3 (by omega) (by omega)) (x_cwS yL_low cL_low 2 (some .int) 2 X q1394 q1395 q0 q1396 hd_L_low ⟨(Nat.le_of_ble_eq_true rfl), (Nat.le_of_ble_eq_true rfl)⟩) rfl hl.1 rfl (Nat.le_of_ble_eq_true rfl) dL_protests_62 ⟨(Nat.le_of_ble_eq_true rfl), (Nat.le_of_ble_eq_true rfl)⟩ (fun H locs hw => ?_)
      have hw42 := lowN_lt (v := v >>> ((nI 4) &&& 31)) (n := 3) (by omega)
      rcases (show lowN (v >>> ((nI 4) &&& 31)) 3 = 0 ∨ lowN (v >>> ((nI 4) &&& 31)) 3 = 1 ∨ lowN (v >>> ((nI 4) &&& 31)) 3 = 2 by omega) with qv | qv | qv
      · refine lv_lookup (tgt := 92) X.1 X.2.1 dL_protests_65 (by decide) (by rw [qv] <;> rfl) (by decide) ?_
        by_cases hq : pA A k 3 = 0 ∧ eA A r (pA A k 0) 0 = 3 ∧ A 0 ≤ eA A r (pA A k 0) 5 + A 4
        · refine lv_aload_n X.1 X.2.1 dL_protests_92 rfl (lv_at hl 5 rfl) ?_
          refine lv_iload X.1 X.2.1 dL_protests_93 (lv_at hl 2 rfl) ?_
          refine x_callV X hK hw (k := 0) (As := [.int (nI k)]) (rest := []) (w_file hI (by omega) hO40 (nI k) (fun g t hE => a_file_ok_r hrA hJ hk hkp hq.1 hq.2.1 hq.2.2 hE)) (x_cwV yX7_file cX7_file 2 (some .int) 1 X q427 q428 q429 q1 q430 hd_X7_file ⟨(Nat.le_of_ble_eq_true rfl), (Nat.le_of_ble_eq_true rfl)⟩) (by omega) hO40.ma rfl rfl hl.1 rfl (Nat.le_of_ble_eq_true rfl) dL_protests_95 ⟨(Nat.le_of_ble_eq_true rfl), (Nat.le_of_ble_eq_true rfl)⟩ (fun v43 F44 H locs hp hw => ?_)
          obtain ⟨e45, hO46, hf47⟩ := hp
          refine x_top e45 ?_
          replace hfr := hfr.tr hf47 (by omega) (by omega)
          obtain ⟨B48, hB48⟩ : ∃ y, y = nup A (40 + 4 * k + 3) 1 := ⟨_, rfl⟩
          rw [← hB48] at hO46
          have jB48 : HJ ca B48 := by rw [hB48]; exact j_stage hJ hkp (by omega) ⟨by omega, by omega⟩ ⟨by omega, by omega⟩
          have eB48 : ∀ i, i ≠ 40 + 4 * k + 3 → B48 i = A i := fun i hi => by rw [hB48]; exact nup_ne hi
          have sB48 : pA B48 k 3 = 1 := by rw [hB48]; exact nup_at
          have b0B48 : B48 0 = A 0 := eB48 0 (by omega)
          have b1B48 : B48 1 = A 1 := eB48 1 (by omega)
          have b2B48 : B48 2 = A 2 := eB48 2 (by omega)
          have b3B48 : B48 3 = A 3 := eB48 3 (by omega)
          have b4B48 : B48 4 = A 4 := eB48 4 (by omega)
          have mB48 : ∀ k, k < A 3 → pA A k 3 ≤ pA B48 k 3 := fun k2 h2 => by
            by_cases q : k2 = k
            · rw [q, sB48]; omega
            · rw [show pA B48 k2 3 = pA A k2 3 from eB48 _ (by omega)]; exact Nat.le_refl _
          refine lv_istore (lv' := [(7, .int (nI (eA A r (pA A k 0) 5 + A 4 - A 0))), (6, .int (nI (pA A k 1))), (5, .int (nI (pA A k 3))), (4, .int (nI k)), (3, .int (nI r)), (2, .int (nI (A 3))), (0, .ref (ad 0)), (1, .int v)]) X.1 X.2.1 dL_protests_98 hl (by decide) rfl (fun ls hl => ?_)
          refine lv_iload X.1 X.2.1 dL_protests_100 (lv_at hl 0 rfl) ?_
          refine lv_bipush (v := (-4)) X.1 X.2.1 dL_protests_102 (by decide) ?_
          refine lv_icmp_ne (tgt := 127) X.1 X.2.1 dL_protests_104 (by decide) (fun c49 => ?_) (fun c49 => ?_)
          · refine lv_iload X.1 X.2.1 dL_protests_127 (lv_at hl 2 rfl) ?_
            refine lv_if_ne (tgt := 163) X.1 X.2.1 dL_protests_129 (by decide) (fun c50 => ?_) (fun c50 => ?_)
            · exact absurd ((bz_eq (by omega)).mpr (by omega)) c50
            · have n51 := (bz_eq (by omega)).mp c50
              refine lv_iload X.1 X.2.1 dL_protests_132 (lv_at hl 0 rfl) ?_
              refine lv_if_lt (tgt := 163) X.1 X.2.1 dL_protests_134 (by decide) (fun c52 => ?_) (fun c52 => ?_)
              · exact absurd ((bz_lt (by omega)).mp c52) (by omega)
              · have n53 : ¬ (eA A r (pA A k 0) 5 + A 4 - A 0) < 0 := fun z => c52 ((bz_lt (by omega)).mpr z)
                refine lv_iload X.1 X.2.1 dL_protests_137 (lv_at hl 0 rfl) ?_
                refine lv_aload_n X.1 X.2.1 dL_protests_139 rfl (lv_at hl 6 rfl) ?_
                refine lv_bipush (v := nI 6) X.1 X.2.1 dL_protests_140 (by decide) ?_
                refine x_callV X hK hw (k := 0) (As := [.int (nI 6)]) (rest := [.int (nI (eA A r (pA A k 0) 5 + A 4 - A 0))]) (w_count hI (by omega) hO46 (nI 6) (fun g t z n hE => a_cou6 jB48 (by omega) (by omega) hE z n)) (x_cwV yX7_count cX7_count 2 (some .int) 1 X q818 q819 q820 q1 q821 hd_X7_count ⟨(Nat.le_of_ble_eq_true rfl), (Nat.le_of_ble_eq_true rfl)⟩) (by omega) hO46.ma rfl rfl hl.1 rfl (Nat.le_of_ble_eq_true rfl) dL_protests_142 ⟨(Nat.le_of_ble_eq_true rfl), (Nat.le_of_ble_eq_true rfl)⟩ (fun v54 F55 H locs hp hw => ?_)
                obtain ⟨e56, hO57, hf58⟩ := hp
                refine x_top e56 ?_
                replace hfr := hfr.tr hf58 (by omega) (by omega)
                refine lv_icmp_gt (tgt := 163) X.1 X.2.1 dL_protests_145 (by decide) (fun c59 => ?_) (fun c59 => ?_)
                · exact absurd ((br_lt (by omega) (by omega)).mp c59) (by omega)
                · have n60 : ¬ (B48 4) < (eA A r (pA A k 0) 5 + A 4 - A 0) := fun z => c59 ((br_lt (by omega) (by omega)).mpr z)
                  refine lv_aload_n X.1 X.2.1 dL_protests_148 rfl (lv_at hl 6 rfl) ?_
                  refine lv_iload X.1 X.2.1 dL_protests_149 (lv_at hl 3 rfl) ?_
                  refine lv_iconst (v := nI 3) X.1 X.2.1 dL_protests_151 (by decide) ?_
                  refine x_callV X hK hw (k := 0) (As := [.int (nI k), .int (nI 3)]) (rest := []) (w_protest hI (by omega) hO57 (nI k) (nI 3) (fun g t hE => a_pro3 jB48 (by omega) (by omega) hE (by omega))) (x_cwV yX7_protest cX7_protest 3 (some .int) 2 X q813 q814 q815 q1 q816 hd_X7_protest ⟨(Nat.le_of_ble_eq_true rfl), (Nat.le_of_ble_eq_true rfl)⟩) (by omega) hO57.ma rfl rfl hl.1 rfl (Nat.le_of_ble_eq_true rfl) dL_protests_152 ⟨(Nat.le_of_ble_eq_true rfl), (Nat.le_of_ble_eq_true rfl)⟩ (fun v61 F62 H locs hp hw => ?_)
                  obtain ⟨e63, hO64, hf65⟩ := hp
                  refine x_top e63 ?_
                  replace hfr := hfr.tr hf65 (by omega) (by omega)
                  refine lv_iconst (v := nI 1) X.1 X.2.1 dL_protests_155 (by decide) ?_
                  refine lv_icmp_ne (tgt := 163) X.1 X.2.1 dL_protests_156 (by decide) (fun c66 => ?_) (fun c66 => ?_)
                  · exact absurd ((nI_eq (by omega) (by omega)).mpr (by omega)) c66
                  · have n67 := (nI_eq (by omega) (by omega)).mp c66
                    refine lv_iconst (v := nI 1) X.1 X.2.1 dL_protests_159 (by decide) ?_
                    refine lv_goto (tgt := 164) X.1 X.2.1 dL_protests_160 (by decide) ?_
                    exact x_iret X hr hlk hK hw (v := nI 1) (by first | rfl | exact nr_b _ | decide) (⟨rfl, ACT.mk1 jB48 (by omega) (by omega) mB48 hO64, hfr⟩) dL_protests_164
          · exact absurd c49 (nI_neN (by omega) (by decide))
        · refine lv_aload_n X.1 X.2.1 dL_protests_92 rfl (lv_at hl 5 rfl) ?_
          refine lv_iload X.1 X.2.1 dL_protests_93 (lv_at hl 2 rfl) ?_
          refine x_callV X hK hw (k := 0) (As := [.int (nI k)]) (rest := []) (w_file hI (by omega) hO40 (nI k) (fun g t hE => a_file_no_r hrA hJ hk hkp hq hE)) (x_cwV yX7_file cX7_file 2 (some .int) 1 X q427 q428 q429 q1 q430 hd_X7_file ⟨(Nat.le_of_ble_eq_true rfl), (Nat.le_of_ble_eq_true rfl)⟩) (by omega) hO40.ma rfl rfl hl.1 rfl (Nat.le_of_ble_eq_true rfl) dL_protests_95 ⟨(Nat.le_of_ble_eq_true rfl), (Nat.le_of_ble_eq_true rfl)⟩ (fun v68 F69 H locs hp hw => ?_)
          obtain ⟨e70, hO71, hf72⟩ := hp
          refine x_top e70 ?_
          replace hfr := hfr.tr hf72 (by omega) (by omega)
          refine lv_istore (lv' := [(7, .int ((-4))), (6, .int (nI (pA A k 1))), (5, .int (nI (pA A k 3))), (4, .int (nI k)), (3, .int (nI r)), (2, .int (nI (A 3))), (0, .ref (ad 0)), (1, .int v)]) X.1 X.2.1 dL_protests_98 hl (by decide) rfl (fun ls hl => ?_)
          refine lv_iload X.1 X.2.1 dL_protests_100 (lv_at hl 0 rfl) ?_
          refine lv_bipush (v := (-4)) X.1 X.2.1 dL_protests_102 (by decide) ?_
          refine lv_icmp_ne (tgt := 127) X.1 X.2.1 dL_protests_104 (by decide) (fun c73 => ?_) (fun c73 => ?_)
          · exact absurd (by decide) c73
          · refine lv_aload_n X.1 X.2.1 dL_protests_107 rfl (lv_at hl 6 rfl) ?_
            refine lv_iload X.1 X.2.1 dL_protests_108 (lv_at hl 3 rfl) ?_
            refine lv_iconst (v := nI 3) X.1 X.2.1 dL_protests_110 (by decide) ?_
            refine x_callV X hK hw (k := 0) (As := [.int (nI k), .int (nI 3)]) (rest := []) (w_protest hI (by omega) hO71 (nI k) (nI 3) (fun g t hE => a_pro3 hJ (by omega) hk hE (by omega))) (x_cwV yX7_protest cX7_protest 3 (some .int) 2 X q813 q814 q815 q1 q816 hd_X7_protest ⟨(Nat.le_of_ble_eq_true rfl), (Nat.le_of_ble_eq_true rfl)⟩) (by omega) hO71.ma rfl rfl hl.1 rfl (Nat.le_of_ble_eq_true rfl) dL_protests_111 ⟨(Nat.le_of_ble_eq_true rfl), (Nat.le_of_ble_eq_true rfl)⟩ (fun v74 F75 H locs hp hw => ?_)
            obtain ⟨e76, hO77, hf78⟩ := hp
            refine x_top e76 ?_
            replace hfr := hfr.tr hf78 (by omega) (by omega)
            refine lv_iload X.1 X.2.1 dL_protests_114 (lv_at hl 2 rfl) ?_
            refine lv_icmp_ne (tgt := 123) X.1 X.2.1 dL_protests_116 (by decide) (fun c79 => ?_) (fun c79 => ?_)
            · exact absurd ((nI_eq (by omega) (by omega)).mpr (by omega)) c79
            · have n80 := (nI_eq (by omega) (by omega)).mp c79
              refine lv_iconst (v := nI 1) X.1 X.2.1 dL_protests_119 (by decide) ?_
              refine lv_goto (tgt := 164) X.1 X.2.1 dL_protests_120 (by decide) ?_
              exact x_iret X hr hlk hK hw (v := nI 1) (by first | rfl | exact nr_b _ | decide) (⟨rfl, ACT.same hJ hO77, hfr⟩) dL_protests_164
      · refine lv_lookup (tgt := 165) X.1 X.2.1 dL_protests_65 (by decide) (by rw [qv] <;> rfl) (by decide) ?_
        refine lv_aload_n X.1 X.2.1 dL_protests_165 rfl (lv_at hl 5 rfl) ?_
        refine lv_iload_n X.1 X.2.1 dL_protests_166 rfl (lv_at hl 3 rfl) ?_
        refine lv_iload X.1 X.2.1 dL_protests_167 (lv_at hl 0 rfl) ?_
        refine lv_iconst (v := nI 3) X.1 X.2.1 dL_protests_169 (by decide) ?_
        refine x_callV X hK hw (k := 0) (As := [.int (nI r), .int (nI (pA A k 1)), .int (nI 3)]) (rest := []) (w_result hI (by omega) hJ.1.1 hO40 (nI r) (nI (pA A k 1)) (nI 3) (fun g t tm hE => a_res3 hJ (by omega) hk hE (by omega) (by omega) tm)) (x_cwV yX7_result cX7_result 4 (some .int) 3 X q695 q696 q697 q1 q698 hd_X7_result ⟨(Nat.le_of_ble_eq_true rfl), (Nat.le_of_ble_eq_true rfl)⟩) (by omega) hO40.ma rfl rfl hl.1 rfl (Nat.le_of_ble_eq_true rfl) dL_protests_170 ⟨(Nat.le_of_ble_eq_true rfl), (Nat.le_of_ble_eq_true rfl)⟩ (fun v81 F82 H locs hp hw => ?_)
        obtain ⟨e83, hO84, hf85⟩ := hp
        refine x_top e83 ?_
        replace hfr := hfr.tr hf85 (by omega) (by omega)
        refine lv_istore (lv' := [(7, .int (nI (eA A r (pA A k 1) 3))), (6, .int (nI (pA A k 1))), (5, .int (nI (pA A k 3))), (4, .int (nI k)), (3, .int (nI r)), (2, .int (nI (A 3))), (0, .ref (ad 0)), (1, .int v)]) X.1 X.2.1 dL_protests_173 hl (by decide) rfl (fun ls hl => ?_)
        refine lv_iload X.1 X.2.1 dL_protests_175 (lv_at hl 2 rfl) ?_
        refine lv_iconst (v := nI 2) X.1 X.2.1 dL_protests_177 (by decide) ?_
        refine lv_icmp_ge (tgt := 197) X.1 X.2.1 dL_protests_178 (by decide) (fun c86 => ?_) (fun c86 => ?_)
        · have n87 := (nI_leI (by omega) (by omega)).mp c86
          refine lv_iconst (v := nI 0) X.1 X.2.1 dL_protests_197 (by decide) ?_
          refine lv_istore (lv' := [(8, .int (nI 0)), (7, .int (nI (eA A r (pA A k 1) 3))), (6, .int (nI (pA A k 1))), (5, .int (nI (pA A k 3))), (4, .int (nI k)), (3, .int (nI r)), (2, .int (nI (A 3))), (0, .ref (ad 0)), (1, .int v)]) X.1 X.2.1 dL_protests_198 hl (by decide) rfl (fun ls hl => ?_)
          refine lv_aload_n X.1 X.2.1 dL_protests_200 rfl (lv_at hl 7 rfl) ?_
          refine lv_iload X.1 X.2.1 dL_protests_201 (lv_at hl 4 rfl) ?_
          refine x_callV X hK hw (k := 0) (As := [.int (nI k)]) (rest := []) (w_accept hI (by omega) hO84 (nI k) (fun g t hE => a_acc_no_r hrA hJ hkp (by omega) hE)) (x_cwV yX7_accept cX7_accept 2 (some .int) 1 X q444 q445 q446 q1 q447 hd_X7_accept ⟨(Nat.le_of_ble_eq_true rfl), (Nat.le_of_ble_eq_true rfl)⟩) (by omega) hO84.ma rfl rfl hl.1 rfl (Nat.le_of_ble_eq_true rfl) dL_protests_203 ⟨(Nat.le_of_ble_eq_true rfl), (Nat.le_of_ble_eq_true rfl)⟩ (fun v88 F89 H locs hp hw => ?_)
          obtain ⟨e90, hO91, hf92⟩ := hp
          refine x_top e90 ?_
          replace hfr := hfr.tr hf92 (by omega) (by omega)
          refine lv_iload X.1 X.2.1 dL_protests_206 (lv_at hl 0 rfl) ?_
          refine lv_if_eq (tgt := 223) X.1 X.2.1 dL_protests_208 (by decide) (fun c93 => ?_) (fun c93 => ?_)
          · refine lv_bipush (v := (-4)) X.1 X.2.1 dL_protests_223 (by decide) ?_
            refine lv_icmp_ne (tgt := 253) X.1 X.2.1 dL_protests_225 (by decide) (fun c94 => ?_) (fun c94 => ?_)
            · exact absurd (by decide) c94
            · refine lv_aload_n X.1 X.2.1 dL_protests_228 rfl (lv_at hl 7 rfl) ?_
              refine lv_iload X.1 X.2.1 dL_protests_229 (lv_at hl 4 rfl) ?_
              refine lv_iconst (v := nI 3) X.1 X.2.1 dL_protests_231 (by decide) ?_
              refine x_callV X hK hw (k := 0) (As := [.int (nI k), .int (nI 3)]) (rest := []) (w_protest hI (by omega) hO91 (nI k) (nI 3) (fun g t hE => a_pro3 hJ (by omega) hk hE (by omega))) (x_cwV yX7_protest cX7_protest 3 (some .int) 2 X q813 q814 q815 q1 q816 hd_X7_protest ⟨(Nat.le_of_ble_eq_true rfl), (Nat.le_of_ble_eq_true rfl)⟩) (by omega) hO91.ma rfl rfl hl.1 rfl (Nat.le_of_ble_eq_true rfl) dL_protests_232 ⟨(Nat.le_of_ble_eq_true rfl), (Nat.le_of_ble_eq_true rfl)⟩ (fun v95 F96 H locs hp hw => ?_)
              obtain ⟨e97, hO98, hf99⟩ := hp
              refine x_top e97 ?_
              replace hfr := hfr.tr hf99 (by omega) (by omega)
              refine lv_iload X.1 X.2.1 dL_protests_235 (lv_at hl 0 rfl) ?_
              refine lv_if_eq (tgt := 244) X.1 X.2.1 dL_protests_237 (by decide) (fun c100 => ?_) (fun c100 => ?_)
              · refine lv_iload X.1 X.2.1 dL_protests_244 (lv_at hl 3 rfl) ?_
                refine lv_icmp_ne (tgt := 253) X.1 X.2.1 dL_protests_246 (by decide) (fun c101 => ?_) (fun c101 => ?_)
                · exact absurd ((nI_eq (by omega) (by omega)).mpr (by omega)) c101
                · have n102 := (nI_eq (by omega) (by omega)).mp c101
                  refine lv_iconst (v := nI 1) X.1 X.2.1 dL_protests_249 (by decide) ?_
                  refine lv_goto (tgt := 254) X.1 X.2.1 dL_protests_250 (by decide) ?_
                  exact x_iret X hr hlk hK hw (v := nI 1) (by first | rfl | exact nr_b _ | decide) (⟨rfl, ACT.same hJ hO98, hfr⟩) dL_protests_254
              · exact absurd (by decide) c100
          · exact absurd (by decide) c93
        · have n103 : ¬ 2 ≤ (pA A k 3) := fun z => c86 ((nI_leI (by omega) (by omega)).mpr z)
          refine lv_aload_n X.1 X.2.1 dL_protests_181 rfl (lv_at hl 6 rfl) ?_
          refine lv_iload_n X.1 X.2.1 dL_protests_182 rfl (lv_at hl 4 rfl) ?_
          refine lv_iload X.1 X.2.1 dL_protests_183 (lv_at hl 1 rfl) ?_
          refine lv_iconst (v := nI 0) X.1 X.2.1 dL_protests_185 (by decide) ?_
          refine x_callV X hK hw (k := 0) (As := [.int (nI r), .int (nI (pA A k 1)), .int (nI 0)]) (rest := []) (w_result hI (by omega) hJ.1.1 hO84 (nI r) (nI (pA A k 1)) (nI 0) (fun g t tm hE => a_res0 hJ (by omega) hk hE (by omega) (by omega) tm)) (x_cwV yX7_result cX7_result 4 (some .int) 3 X q695 q696 q697 q1 q698 hd_X7_result ⟨(Nat.le_of_ble_eq_true rfl), (Nat.le_of_ble_eq_true rfl)⟩) (by omega) hO84.ma rfl rfl hl.1 rfl (Nat.le_of_ble_eq_true rfl) dL_protests_186 ⟨(Nat.le_of_ble_eq_true rfl), (Nat.le_of_ble_eq_true rfl)⟩ (fun v104 F105 H locs hp hw => ?_)
          obtain ⟨e106, hO107, hf108⟩ := hp
          refine x_top e106 ?_
          replace hfr := hfr.tr hf108 (by omega) (by omega)
          refine lv_iconst (v := nI 4) X.1 X.2.1 dL_protests_189 (by decide) ?_
          refine lv_icmp_eq (tgt := 197) X.1 X.2.1 dL_protests_190 (by decide) (fun c109 => ?_) (fun c109 => ?_)
          · have n110 := (nI_eq (by omega) (by omega)).mp c109
            refine lv_iconst (v := nI 0) X.1 X.2.1 dL_protests_197 (by decide) ?_
            refine lv_istore (lv' := [(8, .int (nI 0)), (7, .int (nI (eA A r (pA A k 1) 3))), (6, .int (nI (pA A k 1))), (5, .int (nI (pA A k 3))), (4, .int (nI k)), (3, .int (nI r)), (2, .int (nI (A 3))), (0, .ref (ad 0)), (1, .int v)]) X.1 X.2.1 dL_protests_198 hl (by decide) rfl (fun ls hl => ?_)
            refine lv_aload_n X.1 X.2.1 dL_protests_200 rfl (lv_at hl 7 rfl) ?_
            refine lv_iload X.1 X.2.1 dL_protests_201 (lv_at hl 4 rfl) ?_
            refine x_callV X hK hw (k := 0) (As := [.int (nI k)]) (rest := []) (w_accept hI (by omega) hO107 (nI k) (fun g t hE => a_acc_no_r hrA hJ hkp (by omega) hE)) (x_cwV yX7_accept cX7_accept 2 (some .int) 1 X q444 q445 q446 q1 q447 hd_X7_accept ⟨(Nat.le_of_ble_eq_true rfl), (Nat.le_of_ble_eq_true rfl)⟩) (by omega) hO107.ma rfl rfl hl.1 rfl (Nat.le_of_ble_eq_true rfl) dL_protests_203 ⟨(Nat.le_of_ble_eq_true rfl), (Nat.le_of_ble_eq_true rfl)⟩ (fun v111 F112 H locs hp hw => ?_)
            obtain ⟨e113, hO114, hf115⟩ := hp
            refine x_top e113 ?_
            replace hfr := hfr.tr hf115 (by omega) (by omega)
            refine lv_iload X.1 X.2.1 dL_protests_206 (lv_at hl 0 rfl) ?_
            refine lv_if_eq (tgt := 223) X.1 X.2.1 dL_protests_208 (by decide) (fun c116 => ?_) (fun c116 => ?_)
            · refine lv_bipush (v := (-4)) X.1 X.2.1 dL_protests_223 (by decide) ?_
              refine lv_icmp_ne (tgt := 253) X.1 X.2.1 dL_protests_225 (by decide) (fun c117 => ?_) (fun c117 => ?_)
              · exact absurd (by decide) c117
              · refine lv_aload_n X.1 X.2.1 dL_protests_228 rfl (lv_at hl 7 rfl) ?_
                refine lv_iload X.1 X.2.1 dL_protests_229 (lv_at hl 4 rfl) ?_
                refine lv_iconst (v := nI 3) X.1 X.2.1 dL_protests_231 (by decide) ?_
                refine x_callV X hK hw (k := 0) (As := [.int (nI k), .int (nI 3)]) (rest := []) (w_protest hI (by omega) hO114 (nI k) (nI 3) (fun g t hE => a_pro3 hJ (by omega) hk hE (by omega))) (x_cwV yX7_protest cX7_protest 3 (some .int) 2 X q813 q814 q815 q1 q816 hd_X7_protest ⟨(Nat.le_of_ble_eq_true rfl), (Nat.le_of_ble_eq_true rfl)⟩) (by omega) hO114.ma rfl rfl hl.1 rfl (Nat.le_of_ble_eq_true rfl) dL_protests_232 ⟨(Nat.le_of_ble_eq_true rfl), (Nat.le_of_ble_eq_true rfl)⟩ (fun v118 F119 H locs hp hw => ?_)
                obtain ⟨e120, hO121, hf122⟩ := hp
                refine x_top e120 ?_
                replace hfr := hfr.tr hf122 (by omega) (by omega)
                refine lv_iload X.1 X.2.1 dL_protests_235 (lv_at hl 0 rfl) ?_
                refine lv_if_eq (tgt := 244) X.1 X.2.1 dL_protests_237 (by decide) (fun c123 => ?_) (fun c123 => ?_)
                · refine lv_iload X.1 X.2.1 dL_protests_244 (lv_at hl 3 rfl) ?_
                  refine lv_icmp_ne (tgt := 253) X.1 X.2.1 dL_protests_246 (by decide) (fun c124 => ?_) (fun c124 => ?_)
                  · exact absurd ((nI_eq (by omega) (by omega)).mpr (by omega)) c124
                  · have n125 := (nI_eq (by omega) (by omega)).mp c124
                    refine lv_iconst (v := nI 1) X.1 X.2.1 dL_protests_249 (by decide) ?_
                    refine lv_goto (tgt := 254) X.1 X.2.1 dL_protests_250 (by decide) ?_
                    exact x_iret X hr hlk hK hw (v := nI 1) (by first | rfl | exact nr_b _ | decide) (⟨rfl, ACT.same hJ hO121, hfr⟩) dL_protests_254
                · exact absurd (by decide) c123
            · exact absurd (by decide) c116
          · have n126 : ¬ (eA A r (pA A k 1) 0) = 4 := fun z => c109 ((nI_eq (by omega) (by omega)).mpr z)
            refine lv_iconst (v := nI 1) X.1 X.2.1 dL_protests_193 (by decide) ?_
            refine lv_goto (tgt := 198) X.1 X.2.1 dL_protests_194 (by decide) ?_
            refine lv_istore (lv' := [(8, .int (nI 1)), (7, .int (nI (eA A r (pA A k 1) 3))), (6, .int (nI (pA A k 1))), (5, .int (nI (pA A k 3))), (4, .int (nI k)), (3, .int (nI r)), (2, .int (nI (A 3))), (0, .ref (ad 0)), (1, .int v)]) X.1 X.2.1 dL_protests_198 hl (by decide) rfl (fun ls hl => ?_)
            refine lv_aload_n X.1 X.2.1 dL_protests_200 rfl (lv_at hl 7 rfl) ?_
            refine lv_iload X.1 X.2.1 dL_protests_201 (lv_at hl 4 rfl) ?_
            refine x_callV X hK hw (k := 0) (As := [.int (nI k)]) (rest := []) (w_accept hI (by omega) hO107 (nI k) (fun g t hE => a_acc_ok_r hrA hJ hkp (by omega) (by omega) hE)) (x_cwV yX7_accept cX7_accept 2 (some .int) 1 X q444 q445 q446 q1 q447 hd_X7_accept ⟨(Nat.le_of_ble_eq_true rfl), (Nat.le_of_ble_eq_true rfl)⟩) (by omega) hO107.ma rfl rfl hl.1 rfl (Nat.le_of_ble_eq_true rfl) dL_protests_203 ⟨(Nat.le_of_ble_eq_true rfl), (Nat.le_of_ble_eq_true rfl)⟩ (fun v127 F128 H locs hp hw => ?_)
            obtain ⟨e129, hO130, hf131⟩ := hp
            refine x_top e129 ?_
            replace hfr := hfr.tr hf131 (by omega) (by omega)
            obtain ⟨B132, hB132⟩ : ∃ y, y = nup (ep A r (pA A k 1) 3 (eA A r (pA A k 1) 3 + A 5)) (40 + 4 * k + 3) 2 := ⟨_, rfl⟩
            rw [← hB132] at hO130
            have jB132 : HJ (ca + 1) B132 := by rw [hB132]; exact j_acc_r hrA hJ hkp (by omega)
            have eB132 : ∀ i, i < 80 → i ≠ 40 + 4 * k + 3 → B132 i = A i := fun i h1 h2 => by rw [hB132]; exact (nup_ne h2).trans (ep_lo h1)
            have sB132 : pA B132 k 3 = 2 := by rw [hB132]; exact nup_at
            have b0B132 : B132 0 = A 0 := eB132 0 (by omega) (by omega)
            have b1B132 : B132 1 = A 1 := eB132 1 (by omega) (by omega)
            have b2B132 : B132 2 = A 2 := eB132 2 (by omega) (by omega)
            have b3B132 : B132 3 = A 3 := eB132 3 (by omega) (by omega)
            have b5B132 : B132 5 = A 5 := eB132 5 (by omega) (by omega)
            have mB132 : ∀ k, k < A 3 → pA A k 3 ≤ pA B132 k 3 := fun k2 h2 => by
              by_cases q : k2 = k
              · rw [q, sB132]; omega
              · rw [show pA B132 k2 3 = pA A k2 3 from eB132 _ (by omega) (by omega)]; exact Nat.le_refl _
            refine lv_iload X.1 X.2.1 dL_protests_206 (lv_at hl 0 rfl) ?_
            refine lv_if_eq (tgt := 223) X.1 X.2.1 dL_protests_208 (by decide) (fun c133 => ?_) (fun c133 => ?_)
            · exact absurd c133 (by decide)
            · refine lv_iload X.1 X.2.1 dL_protests_211 (lv_at hl 1 rfl) ?_
              refine lv_aload_n X.1 X.2.1 dL_protests_213 rfl (lv_at hl 7 rfl) ?_
              refine lv_bipush (v := nI 7) X.1 X.2.1 dL_protests_214 (by decide) ?_
              refine x_callV X hK hw (k := 0) (As := [.int (nI 7)]) (rest := [.int (nI (eA A r (pA A k 1) 3)), .int (nI (eA A r (pA A k 1) 3 + A 5))]) (w_count hI (by omega) hO130 (nI 7) (fun g t z n hE => a_cou7 jB132 (by omega) (by omega) hE z n)) (x_cwV yX7_count cX7_count 2 (some .int) 1 X q818 q819 q820 q1 q821 hd_X7_count ⟨(Nat.le_of_ble_eq_true rfl), (Nat.le_of_ble_eq_true rfl)⟩) (by omega) hO130.ma rfl rfl hl.1 rfl (Nat.le_of_ble_eq_true rfl) dL_protests_216 ⟨(Nat.le_of_ble_eq_true rfl), (Nat.le_of_ble_eq_true rfl)⟩ (fun v134 F135 H locs hp hw => ?_)
              obtain ⟨e136, hO137, hf138⟩ := hp
              refine x_top e136 ?_
              replace hfr := hfr.tr hf138 (by omega) (by omega)
              refine lv_iadd X.1 X.2.1 dL_protests_219 ?_
              refine x_top (nI_add _ _) ?_
              refine lv_goto (tgt := 225) X.1 X.2.1 dL_protests_220 (by decide) ?_
              refine lv_icmp_ne (tgt := 253) X.1 X.2.1 dL_protests_225 (by decide) (fun c139 => ?_) (fun c139 => ?_)
              · exact absurd ((nI_eq (by omega) (by omega)).mpr (by omega)) c139
              · have n140 := (nI_eq (by omega) (by omega)).mp c139
                refine lv_aload_n X.1 X.2.1 dL_protests_228 rfl (lv_at hl 7 rfl) ?_
                refine lv_iload X.1 X.2.1 dL_protests_229 (lv_at hl 4 rfl) ?_
                refine lv_iconst (v := nI 3) X.1 X.2.1 dL_protests_231 (by decide) ?_
                refine x_callV X hK hw (k := 0) (As := [.int (nI k), .int (nI 3)]) (rest := []) (w_protest hI (by omega) hO137 (nI k) (nI 3) (fun g t hE => a_pro3 jB132 (by omega) (by omega) hE (by omega))) (x_cwV yX7_protest cX7_protest 3 (some .int) 2 X q813 q814 q815 q1 q816 hd_X7_protest ⟨(Nat.le_of_ble_eq_true rfl), (Nat.le_of_ble_eq_true rfl)⟩) (by omega) hO137.ma rfl rfl hl.1 rfl (Nat.le_of_ble_eq_true rfl) dL_protests_232 ⟨(Nat.le_of_ble_eq_true rfl), (Nat.le_of_ble_eq_true rfl)⟩ (fun v141 F142 H locs hp hw => ?_)
                obtain ⟨e143, hO144, hf145⟩ := hp
                refine x_top e143 ?_
                replace hfr := hfr.tr hf145 (by omega) (by omega)
                refine lv_iload X.1 X.2.1 dL_protests_235 (lv_at hl 0 rfl) ?_
                refine lv_if_eq (tgt := 244) X.1 X.2.1 dL_protests_237 (by decide) (fun c146 => ?_) (fun c146 => ?_)
                · exact absurd c146 (by decide)
                · refine lv_iconst (v := nI 2) X.1 X.2.1 dL_protests_240 (by decide) ?_
                  refine lv_goto (tgt := 246) X.1 X.2.1 dL_protests_241 (by decide) ?_
                  refine lv_icmp_ne (tgt := 253) X.1 X.2.1 dL_protests_246 (by decide) (fun c147 => ?_) (fun c147 => ?_)
                  · exact absurd ((nI_eq (by omega) (by omega)).mpr (by omega)) c147
                  · have n148 := (nI_eq (by omega) (by omega)).mp c147
                    refine lv_iconst (v := nI 1) X.1 X.2.1 dL_protests_249 (by decide) ?_
                    refine lv_goto (tgt := 254) X.1 X.2.1 dL_protests_250 (by decide) ?_
                    exact x_iret X hr hlk hK hw (v := nI 1) (by first | rfl | exact nr_b _ | decide) (⟨rfl, ACT.mk1 jB132 (by omega) (by omega) mB132 hO144, hfr⟩) dL_protests_254
      · refine lv_lookup (tgt := 255) X.1 X.2.1 dL_protests_65 (by decide) (by rw [qv] <;> rfl) (by decide) ?_
        refine lv_iload_n X.1 X.2.1 dL_protests_255 rfl (lv_at hl 6 rfl) ?_
        refine lv_bipush (v := nI 6) X.1 X.2.1 dL_protests_256 (by decide) ?_
        refine lv_ishr X.1 X.2.1 dL_protests_258 ?_
        refine lv_iconst (v := nI 2) X.1 X.2.1 dL_protests_259 (by decide) ?_
        refine x_callSP X hK hw (As := [.int (v >>> ((nI 6) &&& 31)), .int (nI 2)]) (rest := []) (k_L_low (v >>> ((nI 6) &&& 31)) 2 (by omega) (by omega)) (x_cwS yL_low cL_low 2 (some .int) 2 X q1394 q1395 q0 q1396 hd_L_low ⟨(Nat.le_of_ble_eq_true rfl), (Nat.le_of_ble_eq_true rfl)⟩) rfl hl.1 rfl (Nat.le_of_ble_eq_true rfl) dL_protests_260 ⟨(Nat.le_of_ble_eq_true rfl), (Nat.le_of_ble_eq_true rfl)⟩ (fun H locs hw => ?_)
        have hw149 := lowN_lt (v := v >>> ((nI 6) &&& 31)) (n := 2) (by omega)
        refine lv_if_ne (tgt := 270) X.1 X.2.1 dL_protests_263 (by decide) (fun c150 => ?_) (fun c150 => ?_)
        · have n151 : ¬ (lowN (v >>> ((nI 6) &&& 31)) 2) = 0 := fun z => c150 ((bz_eq (by omega)).mpr z)
          refine lv_iconst (v := nI 0) X.1 X.2.1 dL_protests_270 (by decide) ?_
          refine lv_istore (lv' := [(7, .int (nI 0)), (6, .int (nI (pA A k 1))), (5, .int (nI (pA A k 3))), (4, .int (nI k)), (3, .int (nI r)), (2, .int (nI (A 3))), (0, .ref (ad 0)), (1, .int v)]) X.1 X.2.1 dL_protests_271 hl (by decide) rfl (fun ls hl => ?_)
          by_cases hd1 : pA A k 3 = 1
          · refine lv_aload_n X.1 X.2.1 dL_protests_273 rfl (lv_at hl 6 rfl) ?_
            refine lv_iload X.1 X.2.1 dL_protests_274 (lv_at hl 3 rfl) ?_
            refine lv_iload X.1 X.2.1 dL_protests_276 (lv_at hl 0 rfl) ?_
            refine x_callV X hK hw (k := 0) (As := [.int (nI k), .int (nI 0)]) (rest := []) (w_decide hI (by omega) hO40 hJ.1.1 (nI k) (nI 0) (fun g t hE => a_dec_dis_r hrA hJ hkp hd1 hE)) (x_cwV yX7_decide cX7_decide 3 (some .int) 2 X q453 q454 q455 q1 q456 hd_X7_decide ⟨(Nat.le_of_ble_eq_true rfl), (Nat.le_of_ble_eq_true rfl)⟩) (by omega) hO40.ma rfl rfl hl.1 rfl (Nat.le_of_ble_eq_true rfl) dL_protests_278 ⟨(Nat.le_of_ble_eq_true rfl), (Nat.le_of_ble_eq_true rfl)⟩ (fun v152 F153 H locs hp hw => ?_)
            obtain ⟨e154, hO155, hf156⟩ := hp
            refine x_top e154 ?_
            replace hfr := hfr.tr hf156 (by omega) (by omega)
            obtain ⟨B157, hB157⟩ : ∃ y, y = nup A (40 + 4 * k + 3) 4 := ⟨_, rfl⟩
            rw [← hB157] at hO155
            have jB157 : HJ ca B157 := by rw [hB157]; exact j_stage hJ hkp (by omega) ⟨by omega, by omega⟩ ⟨by omega, by omega⟩
            have eB157 : ∀ i, i ≠ 40 + 4 * k + 3 → B157 i = A i := fun i hi => by rw [hB157]; exact nup_ne hi
            have sB157 : pA B157 k 3 = 4 := by rw [hB157]; exact nup_at
            have b0B157 : B157 0 = A 0 := eB157 0 (by omega)
            have b1B157 : B157 1 = A 1 := eB157 1 (by omega)
            have b2B157 : B157 2 = A 2 := eB157 2 (by omega)
            have b3B157 : B157 3 = A 3 := eB157 3 (by omega)
            have b4B157 : B157 4 = A 4 := eB157 4 (by omega)
            have mB157 : ∀ k, k < A 3 → pA A k 3 ≤ pA B157 k 3 := fun k2 h2 => by
              by_cases q : k2 = k
              · rw [q, sB157]; omega
              · rw [show pA B157 k2 3 = pA A k2 3 from eB157 _ (by omega)]; exact Nat.le_refl _
            have oB157 : outN B157 r (B157 1) = outN (nup A (40 + 4 * k + 3) 4) r (A 1) := by rw [b1B157, hB157]
            have obB157 := (out_eq (A := B157) (r := r) (fun b hb => (jB157.bj (by omega) hb).2.2.2.2.2.1) (B157 1) (Nat.le_refl _)).2
            refine lv_istore (lv' := [(8, .int (nI (outN (nup A (40 + 4 * k + 3) 4) r (A 1)))), (7, .int (nI 0)), (6, .int (nI (pA A k 1))), (5, .int (nI (pA A k 3))), (4, .int (nI k)), (3, .int (nI r)), (2, .int (nI (A 3))), (0, .ref (ad 0)), (1, .int v)]) X.1 X.2.1 dL_protests_281 hl (by decide) rfl (fun ls hl => ?_)
            refine lv_iload X.1 X.2.1 dL_protests_283 (lv_at hl 3 rfl) ?_
            refine lv_iconst (v := nI 1) X.1 X.2.1 dL_protests_285 (by decide) ?_
            refine lv_icmp_ne (tgt := 328) X.1 X.2.1 dL_protests_286 (by decide) (fun c158 => ?_) (fun c158 => ?_)
            · exact absurd ((nI_eq (by omega) (by omega)).mpr (by omega)) c158
            · have n159 := (nI_eq (by omega) (by omega)).mp c158
              refine lv_iload X.1 X.2.1 dL_protests_289 (lv_at hl 0 rfl) ?_
              refine lv_aload_n X.1 X.2.1 dL_protests_291 rfl (lv_at hl 7 rfl) ?_
              refine lv_iload_n X.1 X.2.1 dL_protests_292 rfl (lv_at hl 5 rfl) ?_
              refine lv_iconst (v := nI 5) X.1 X.2.1 dL_protests_293 (by decide) ?_
              refine x_callV X hK hw (k := 0) (As := [.int (nI r), .int (nI 5)]) (rest := [.int (nI (outN (nup A (40 + 4 * k + 3) 4) r (A 1)))]) (w_race hI (by omega) jB157.1.1 hO155 (nI r) (nI 5) (fun g t tm hE => a_rac5 jB157 (by omega) (by omega) hE (by omega) tm)) (x_cwV yX7_race cX7_race 3 (some .int) 2 X q804 q805 q806 q1 q807 hd_X7_race ⟨(Nat.le_of_ble_eq_true rfl), (Nat.le_of_ble_eq_true rfl)⟩) (by omega) hO155.ma rfl rfl hl.1 rfl (Nat.le_of_ble_eq_true rfl) dL_protests_294 ⟨(Nat.le_of_ble_eq_true rfl), (Nat.le_of_ble_eq_true rfl)⟩ (fun v160 F161 H locs hp hw => ?_)
              obtain ⟨e162, hO163, hf164⟩ := hp
              refine x_top e162 ?_
              replace hfr := hfr.tr hf164 (by omega) (by omega)
              refine lv_icmp_ne (tgt := 324) X.1 X.2.1 dL_protests_297 (by decide) (fun c165 => ?_) (fun c165 => ?_)
              · exact absurd ((nI_eq (by omega) (by omega)).mpr (by omega)) c165
              · have n166 := (nI_eq (by omega) (by omega)).mp c165
                refine lv_aload_n X.1 X.2.1 dL_protests_300 rfl (lv_at hl 7 rfl) ?_
                refine lv_iload X.1 X.2.1 dL_protests_301 (lv_at hl 4 rfl) ?_
                refine lv_iconst (v := nI 3) X.1 X.2.1 dL_protests_303 (by decide) ?_
                refine x_callV X hK hw (k := 0) (As := [.int (nI k), .int (nI 3)]) (rest := []) (w_protest hI (by omega) hO163 (nI k) (nI 3) (fun g t hE => a_pro3 jB157 (by omega) (by omega) hE (by omega))) (x_cwV yX7_protest cX7_protest 3 (some .int) 2 X q813 q814 q815 q1 q816 hd_X7_protest ⟨(Nat.le_of_ble_eq_true rfl), (Nat.le_of_ble_eq_true rfl)⟩) (by omega) hO163.ma rfl rfl hl.1 rfl (Nat.le_of_ble_eq_true rfl) dL_protests_304 ⟨(Nat.le_of_ble_eq_true rfl), (Nat.le_of_ble_eq_true rfl)⟩ (fun v167 F168 H locs hp hw => ?_)
                obtain ⟨e169, hO170, hf171⟩ := hp
                refine x_top e169 ?_
                replace hfr := hfr.tr hf171 (by omega) (by omega)
                refine lv_iload X.1 X.2.1 dL_protests_307 (lv_at hl 1 rfl) ?_
                refine lv_if_eq (tgt := 316) X.1 X.2.1 dL_protests_309 (by decide) (fun c172 => ?_) (fun c172 => ?_)
                · refine lv_iconst (v := nI 4) X.1 X.2.1 dL_protests_316 (by decide) ?_
                  refine lv_icmp_ne (tgt := 324) X.1 X.2.1 dL_protests_317 (by decide) (fun c173 => ?_) (fun c173 => ?_)
                  · exact absurd ((nI_eq (by omega) (by omega)).mpr (by omega)) c173
                  · have n174 := (nI_eq (by omega) (by omega)).mp c173
                    refine lv_iconst (v := nI 1) X.1 X.2.1 dL_protests_320 (by decide) ?_
                    refine lv_goto (tgt := 352) X.1 X.2.1 dL_protests_321 (by decide) ?_
                    exact x_iret X hr hlk hK hw (v := nI 1) (by first | rfl | exact nr_b _ | decide) (⟨rfl, ACT.mk1 jB157 (by omega) (by omega) mB157 hO170, hfr⟩) dL_protests_352
                · exact absurd (by decide) c172
          · refine lv_aload_n X.1 X.2.1 dL_protests_273 rfl (lv_at hl 6 rfl) ?_
            refine lv_iload X.1 X.2.1 dL_protests_274 (lv_at hl 3 rfl) ?_
            refine lv_iload X.1 X.2.1 dL_protests_276 (lv_at hl 0 rfl) ?_
            refine x_callV X hK hw (k := 0) (As := [.int (nI k), .int (nI 0)]) (rest := []) (w_decide hI (by omega) hO40 hJ.1.1 (nI k) (nI 0) (fun g t hE => a_dec_no hJ hkp hd1 hE)) (x_cwV yX7_decide cX7_decide 3 (some .int) 2 X q453 q454 q455 q1 q456 hd_X7_decide ⟨(Nat.le_of_ble_eq_true rfl), (Nat.le_of_ble_eq_true rfl)⟩) (by omega) hO40.ma rfl rfl hl.1 rfl (Nat.le_of_ble_eq_true rfl) dL_protests_278 ⟨(Nat.le_of_ble_eq_true rfl), (Nat.le_of_ble_eq_true rfl)⟩ (fun v175 F176 H locs hp hw => ?_)
            obtain ⟨e177, hO178, hf179⟩ := hp
            refine x_top e177 ?_
            replace hfr := hfr.tr hf179 (by omega) (by omega)
            refine lv_istore (lv' := [(8, .int ((-4))), (7, .int (nI 0)), (6, .int (nI (pA A k 1))), (5, .int (nI (pA A k 3))), (4, .int (nI k)), (3, .int (nI r)), (2, .int (nI (A 3))), (0, .ref (ad 0)), (1, .int v)]) X.1 X.2.1 dL_protests_281 hl (by decide) rfl (fun ls hl => ?_)
            refine lv_iload X.1 X.2.1 dL_protests_283 (lv_at hl 3 rfl) ?_
            refine lv_iconst (v := nI 1) X.1 X.2.1 dL_protests_285 (by decide) ?_
            refine lv_icmp_ne (tgt := 328) X.1 X.2.1 dL_protests_286 (by decide) (fun c180 => ?_) (fun c180 => ?_)
            · have n181 : ¬ (pA A k 3) = 1 := fun z => c180 ((nI_eq (by omega) (by omega)).mpr z)
              refine lv_iload X.1 X.2.1 dL_protests_328 (lv_at hl 0 rfl) ?_
              refine lv_bipush (v := (-4)) X.1 X.2.1 dL_protests_330 (by decide) ?_
              refine lv_icmp_ne (tgt := 351) X.1 X.2.1 dL_protests_332 (by decide) (fun c182 => ?_) (fun c182 => ?_)
              · exact absurd (by decide) c182
              · refine lv_aload_n X.1 X.2.1 dL_protests_335 rfl (lv_at hl 7 rfl) ?_
                refine lv_iload X.1 X.2.1 dL_protests_336 (lv_at hl 4 rfl) ?_
                refine lv_iconst (v := nI 3) X.1 X.2.1 dL_protests_338 (by decide) ?_
                refine x_callV X hK hw (k := 0) (As := [.int (nI k), .int (nI 3)]) (rest := []) (w_protest hI (by omega) hO178 (nI k) (nI 3) (fun g t hE => a_pro3 hJ (by omega) hk hE (by omega))) (x_cwV yX7_protest cX7_protest 3 (some .int) 2 X q813 q814 q815 q1 q816 hd_X7_protest ⟨(Nat.le_of_ble_eq_true rfl), (Nat.le_of_ble_eq_true rfl)⟩) (by omega) hO178.ma rfl rfl hl.1 rfl (Nat.le_of_ble_eq_true rfl) dL_protests_339 ⟨(Nat.le_of_ble_eq_true rfl), (Nat.le_of_ble_eq_true rfl)⟩ (fun v183 F184 H locs hp hw => ?_)
                obtain ⟨e185, hO186, hf187⟩ := hp
                refine x_top e185 ?_
                replace hfr := hfr.tr hf187 (by omega) (by omega)
                refine lv_iload X.1 X.2.1 dL_protests_342 (lv_at hl 3 rfl) ?_
                refine lv_icmp_ne (tgt := 351) X.1 X.2.1 dL_protests_344 (by decide) (fun c188 => ?_) (fun c188 => ?_)
                · exact absurd ((nI_eq (by omega) (by omega)).mpr (by omega)) c188
                · have n189 := (nI_eq (by omega) (by omega)).mp c188
                  refine lv_iconst (v := nI 1) X.1 X.2.1 dL_protests_347 (by decide) ?_
                  refine lv_goto (tgt := 352) X.1 X.2.1 dL_protests_348 (by decide) ?_
                  exact x_iret X hr hlk hK hw (v := nI 1) (by first | rfl | exact nr_b _ | decide) (⟨rfl, ACT.same hJ hO186, hfr⟩) dL_protests_352
            · exact absurd ((nI_eq (by omega) (by omega)).mp c180) (by omega)
        · have n190 := (bz_eq (by omega)).mp c150
          refine lv_iconst (v := nI 1) X.1 X.2.1 dL_protests_266 (by decide) ?_
          refine lv_goto (tgt := 271) X.1 X.2.1 dL_protests_267 (by decide) ?_
          refine lv_istore (lv' := [(7, .int (nI 1)), (6, .int (nI (pA A k 1))), (5, .int (nI (pA A k 3))), (4, .int (nI k)), (3, .int (nI r)), (2, .int (nI (A 3))), (0, .ref (ad 0)), (1, .int v)]) X.1 X.2.1 dL_protests_271 hl (by decide) rfl (fun ls hl => ?_)
          by_cases hd1 : pA A k 3 = 1
          · refine lv_aload_n X.1 X.2.1 dL_protests_273 rfl (lv_at hl 6 rfl) ?_
            refine lv_iload X.1 X.2.1 dL_protests_274 (lv_at hl 3 rfl) ?_
            refine lv_iload X.1 X.2.1 dL_protests_276 (lv_at hl 0 rfl) ?_
            refine x_callV X hK hw (k := 0) (As := [.int (nI k), .int (nI 1)]) (rest := []) (w_decide hI (by omega) hO40 hJ.1.1 (nI k) (nI 1) (fun g t hE => a_dec_up hJ hkp hd1 hE)) (x_cwV yX7_decide cX7_decide 3 (some .int) 2 X q453 q454 q455 q1 q456 hd_X7_decide ⟨(Nat.le_of_ble_eq_true rfl), (Nat.le_of_ble_eq_true rfl)⟩) (by omega) hO40.ma rfl rfl hl.1 rfl (Nat.le_of_ble_eq_true rfl) dL_protests_278 ⟨(Nat.le_of_ble_eq_true rfl), (Nat.le_of_ble_eq_true rfl)⟩ (fun v191 F192 H locs hp hw => ?_)
            obtain ⟨e193, hO194, hf195⟩ := hp
            refine x_top e193 ?_
            replace hfr := hfr.tr hf195 (by omega) (by omega)
            obtain ⟨B196, hB196⟩ : ∃ y, y = upA A k := ⟨_, rfl⟩
            rw [← hB196] at hO194
            have jB196 : HJ ca B196 := by rw [hB196]; exact j_up hJ hkp hd1
            have eB196 : ∀ i, i < 80 → i ≠ 40 + 4 * k + 3 → B196 i = A i := fun i h1 h2 => by rw [hB196]; exact (ep_lo h1).trans (nup_ne h2)
            have sB196 : pA B196 k 3 = 3 := by rw [hB196]; exact (ep_lo (by omega)).trans nup_at
            have b0B196 : B196 0 = A 0 := eB196 0 (by omega) (by omega)
            have b1B196 : B196 1 = A 1 := eB196 1 (by omega) (by omega)
            have b2B196 : B196 2 = A 2 := eB196 2 (by omega) (by omega)
            have b3B196 : B196 3 = A 3 := eB196 3 (by omega) (by omega)
            have mB196 : ∀ k, k < A 3 → pA A k 3 ≤ pA B196 k 3 := fun k2 h2 => by
              by_cases q : k2 = k
              · rw [q, sB196]; omega
              · rw [show pA B196 k2 3 = pA A k2 3 from eB196 _ (by omega) (by omega)]; exact Nat.le_refl _
            have oB196 : outN B196 r (B196 1) = outN (upA A k) (A 2 - 1) (A 1) := by rw [b1B196, hB196, show A 2 - 1 = r by omega]
            have obB196 := (out_eq (A := B196) (r := r) (fun b hb => (jB196.bj (by omega) hb).2.2.2.2.2.1) (B196 1) (Nat.le_refl _)).2
            refine lv_istore (lv' := [(8, .int (nI (outN (upA A k) (A 2 - 1) (A 1)))), (7, .int (nI 1)), (6, .int (nI (pA A k 1))), (5, .int (nI (pA A k 3))), (4, .int (nI k)), (3, .int (nI r)), (2, .int (nI (A 3))), (0, .ref (ad 0)), (1, .int v)]) X.1 X.2.1 dL_protests_281 hl (by decide) rfl (fun ls hl => ?_)
            refine lv_iload X.1 X.2.1 dL_protests_283 (lv_at hl 3 rfl) ?_
            refine lv_iconst (v := nI 1) X.1 X.2.1 dL_protests_285 (by decide) ?_
            refine lv_icmp_ne (tgt := 328) X.1 X.2.1 dL_protests_286 (by decide) (fun c197 => ?_) (fun c197 => ?_)
            · exact absurd ((nI_eq (by omega) (by omega)).mpr (by omega)) c197
            · have n198 := (nI_eq (by omega) (by omega)).mp c197
              refine lv_iload X.1 X.2.1 dL_protests_289 (lv_at hl 0 rfl) ?_
              refine lv_aload_n X.1 X.2.1 dL_protests_291 rfl (lv_at hl 7 rfl) ?_
              refine lv_iload_n X.1 X.2.1 dL_protests_292 rfl (lv_at hl 5 rfl) ?_
              refine lv_iconst (v := nI 5) X.1 X.2.1 dL_protests_293 (by decide) ?_
              refine x_callV X hK hw (k := 0) (As := [.int (nI r), .int (nI 5)]) (rest := [.int (nI (outN (upA A k) (A 2 - 1) (A 1)))]) (w_race hI (by omega) jB196.1.1 hO194 (nI r) (nI 5) (fun g t tm hE => a_rac5 jB196 (by omega) (by omega) hE (by omega) tm)) (x_cwV yX7_race cX7_race 3 (some .int) 2 X q804 q805 q806 q1 q807 hd_X7_race ⟨(Nat.le_of_ble_eq_true rfl), (Nat.le_of_ble_eq_true rfl)⟩) (by omega) hO194.ma rfl rfl hl.1 rfl (Nat.le_of_ble_eq_true rfl) dL_protests_294 ⟨(Nat.le_of_ble_eq_true rfl), (Nat.le_of_ble_eq_true rfl)⟩ (fun v199 F200 H locs hp hw => ?_)
              obtain ⟨e201, hO202, hf203⟩ := hp
              refine x_top e201 ?_
              replace hfr := hfr.tr hf203 (by omega) (by omega)
              refine lv_icmp_ne (tgt := 324) X.1 X.2.1 dL_protests_297 (by decide) (fun c204 => ?_) (fun c204 => ?_)
              · exact absurd ((nI_eq (by omega) (by omega)).mpr (by omega)) c204
              · have n205 := (nI_eq (by omega) (by omega)).mp c204
                refine lv_aload_n X.1 X.2.1 dL_protests_300 rfl (lv_at hl 7 rfl) ?_
                refine lv_iload X.1 X.2.1 dL_protests_301 (lv_at hl 4 rfl) ?_
                refine lv_iconst (v := nI 3) X.1 X.2.1 dL_protests_303 (by decide) ?_
                refine x_callV X hK hw (k := 0) (As := [.int (nI k), .int (nI 3)]) (rest := []) (w_protest hI (by omega) hO202 (nI k) (nI 3) (fun g t hE => a_pro3 jB196 (by omega) (by omega) hE (by omega))) (x_cwV yX7_protest cX7_protest 3 (some .int) 2 X q813 q814 q815 q1 q816 hd_X7_protest ⟨(Nat.le_of_ble_eq_true rfl), (Nat.le_of_ble_eq_true rfl)⟩) (by omega) hO202.ma rfl rfl hl.1 rfl (Nat.le_of_ble_eq_true rfl) dL_protests_304 ⟨(Nat.le_of_ble_eq_true rfl), (Nat.le_of_ble_eq_true rfl)⟩ (fun v206 F207 H locs hp hw => ?_)
                obtain ⟨e208, hO209, hf210⟩ := hp
                refine x_top e208 ?_
                replace hfr := hfr.tr hf210 (by omega) (by omega)
                refine lv_iload X.1 X.2.1 dL_protests_307 (lv_at hl 1 rfl) ?_
                refine lv_if_eq (tgt := 316) X.1 X.2.1 dL_protests_309 (by decide) (fun c211 => ?_) (fun c211 => ?_)
                · exact absurd c211 (by decide)
                · refine lv_iconst (v := nI 3) X.1 X.2.1 dL_protests_312 (by decide) ?_
                  refine lv_goto (tgt := 317) X.1 X.2.1 dL_protests_313 (by decide) ?_
                  refine lv_icmp_ne (tgt := 324) X.1 X.2.1 dL_protests_317 (by decide) (fun c212 => ?_) (fun c212 => ?_)
                  · exact absurd ((nI_eq (by omega) (by omega)).mpr (by omega)) c212
                  · have n213 := (nI_eq (by omega) (by omega)).mp c212
                    refine lv_iconst (v := nI 1) X.1 X.2.1 dL_protests_320 (by decide) ?_
                    refine lv_goto (tgt := 352) X.1 X.2.1 dL_protests_321 (by decide) ?_
                    exact x_iret X hr hlk hK hw (v := nI 1) (by first | rfl | exact nr_b _ | decide) (⟨rfl, ACT.mk1 jB196 (by omega) (by omega) mB196 hO209, hfr⟩) dL_protests_352
          · refine lv_aload_n X.1 X.2.1 dL_protests_273 rfl (lv_at hl 6 rfl) ?_
            refine lv_iload X.1 X.2.1 dL_protests_274 (lv_at hl 3 rfl) ?_
            refine lv_iload X.1 X.2.1 dL_protests_276 (lv_at hl 0 rfl) ?_
            refine x_callV X hK hw (k := 0) (As := [.int (nI k), .int (nI 1)]) (rest := []) (w_decide hI (by omega) hO40 hJ.1.1 (nI k) (nI 1) (fun g t hE => a_dec_no hJ hkp hd1 hE)) (x_cwV yX7_decide cX7_decide 3 (some .int) 2 X q453 q454 q455 q1 q456 hd_X7_decide ⟨(Nat.le_of_ble_eq_true rfl), (Nat.le_of_ble_eq_true rfl)⟩) (by omega) hO40.ma rfl rfl hl.1 rfl (Nat.le_of_ble_eq_true rfl) dL_protests_278 ⟨(Nat.le_of_ble_eq_true rfl), (Nat.le_of_ble_eq_true rfl)⟩ (fun v214 F215 H locs hp hw => ?_)
            obtain ⟨e216, hO217, hf218⟩ := hp
            refine x_top e216 ?_
            replace hfr := hfr.tr hf218 (by omega) (by omega)
            refine lv_istore (lv' := [(8, .int ((-4))), (7, .int (nI 1)), (6, .int (nI (pA A k 1))), (5, .int (nI (pA A k 3))), (4, .int (nI k)), (3, .int (nI r)), (2, .int (nI (A 3))), (0, .ref (ad 0)), (1, .int v)]) X.1 X.2.1 dL_protests_281 hl (by decide) rfl (fun ls hl => ?_)
            refine lv_iload X.1 X.2.1 dL_protests_283 (lv_at hl 3 rfl) ?_
            refine lv_iconst (v := nI 1) X.1 X.2.1 dL_protests_285 (by decide) ?_
            refine lv_icmp_ne (tgt := 328) X.1 X.2.1 dL_protests_286 (by decide) (fun c219 => ?_) (fun c219 => ?_)
            · have n220 : ¬ (pA A k 3) = 1 := fun z => c219 ((nI_eq (by omega) (by omega)).mpr z)
              refine lv_iload X.1 X.2.1 dL_protests_328 (lv_at hl 0 rfl) ?_
              refine lv_bipush (v := (-4)) X.1 X.2.1 dL_protests_330 (by decide) ?_
              refine lv_icmp_ne (tgt := 351) X.1 X.2.1 dL_protests_332 (by decide) (fun c221 => ?_) (fun c221 => ?_)
              · exact absurd (by decide) c221
              · refine lv_aload_n X.1 X.2.1 dL_protests_335 rfl (lv_at hl 7 rfl) ?_
                refine lv_iload X.1 X.2.1 dL_protests_336 (lv_at hl 4 rfl) ?_
                refine lv_iconst (v := nI 3) X.1 X.2.1 dL_protests_338 (by decide) ?_
                refine x_callV X hK hw (k := 0) (As := [.int (nI k), .int (nI 3)]) (rest := []) (w_protest hI (by omega) hO217 (nI k) (nI 3) (fun g t hE => a_pro3 hJ (by omega) hk hE (by omega))) (x_cwV yX7_protest cX7_protest 3 (some .int) 2 X q813 q814 q815 q1 q816 hd_X7_protest ⟨(Nat.le_of_ble_eq_true rfl), (Nat.le_of_ble_eq_true rfl)⟩) (by omega) hO217.ma rfl rfl hl.1 rfl (Nat.le_of_ble_eq_true rfl) dL_protests_339 ⟨(Nat.le_of_ble_eq_true rfl), (Nat.le_of_ble_eq_true rfl)⟩ (fun v222 F223 H locs hp hw => ?_)
                obtain ⟨e224, hO225, hf226⟩ := hp
                refine x_top e224 ?_
                replace hfr := hfr.tr hf226 (by omega) (by omega)
                refine lv_iload X.1 X.2.1 dL_protests_342 (lv_at hl 3 rfl) ?_
                refine lv_icmp_ne (tgt := 351) X.1 X.2.1 dL_protests_344 (by decide) (fun c227 => ?_) (fun c227 => ?_)
                · exact absurd ((nI_eq (by omega) (by omega)).mpr (by omega)) c227
                · have n228 := (nI_eq (by omega) (by omega)).mp c227
                  refine lv_iconst (v := nI 1) X.1 X.2.1 dL_protests_347 (by decide) ?_
                  refine lv_goto (tgt := 352) X.1 X.2.1 dL_protests_348 (by decide) ?_
                  exact x_iret X hr hlk hK hw (v := nI 1) (by first | rfl | exact nr_b _ | decide) (⟨rfl, ACT.same hJ hO225, hfr⟩) dL_protests_352
            · exact absurd ((nI_eq (by omega) (by omega)).mp c219) (by omega)
    · exact absurd ((bz_eq (by omega)).mp c29) (by omega)
