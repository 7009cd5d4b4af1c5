theorem sw_0_4 (x : Int32) : x = 0 ∨ x = 1 ∨ x = 2 ∨ x = 3 ∨ x = 4 ∨ (x.toInt < 0 ∨ 4 < x.toInt) := by
  by_cases h : x.toInt < 0 ∨ 4 < x.toInt
  · simp [h]
  · have h1 : 0 ≤ x.toInt ∧ x.toInt ≤ 4 := by omega
    obtain ⟨k, rfl⟩ : ∃ k : Fin 5, x = Int32.ofInt (0 + (k.val : Int)) := ⟨⟨(x.toInt - 0).toNat, by omega⟩, by
      show x = Int32.ofInt (0 + (((x.toInt - 0).toNat : Nat) : Int))
      rw [show (0 + (((x.toInt - 0).toNat : Nat) : Int)) = x.toInt by omega]
      simp⟩
    clear h h1; revert k; decide +kernel
theorem sw_0_6 (x : Int32) : x = 0 ∨ x = 1 ∨ x = 2 ∨ x = 3 ∨ x = 4 ∨ x = 5 ∨ x = 6 ∨ (x.toInt < 0 ∨ 6 < x.toInt) := by
  by_cases h : x.toInt < 0 ∨ 6 < x.toInt
  · simp [h]
  · have h1 : 0 ≤ x.toInt ∧ x.toInt ≤ 6 := by omega
    obtain ⟨k, rfl⟩ : ∃ k : Fin 7, x = Int32.ofInt (0 + (k.val : Int)) := ⟨⟨(x.toInt - 0).toNat, by omega⟩, by
      show x = Int32.ofInt (0 + (((x.toInt - 0).toNat : Nat) : Int))
      rw [show (0 + (((x.toInt - 0).toNat : Nat) : Int)) = x.toInt by omega]
      simp⟩
    clear h h1; revert k; decide +kernel
theorem sw_0_8 (x : Int32) : x = 0 ∨ x = 1 ∨ x = 2 ∨ x = 3 ∨ x = 4 ∨ x = 5 ∨ x = 6 ∨ x = 7 ∨ x = 8 ∨ (x.toInt < 0 ∨ 8 < x.toInt) := by
  by_cases h : x.toInt < 0 ∨ 8 < x.toInt
  · simp [h]
  · have h1 : 0 ≤ x.toInt ∧ x.toInt ≤ 8 := by omega
    obtain ⟨k, rfl⟩ : ∃ k : Fin 9, x = Int32.ofInt (0 + (k.val : Int)) := ⟨⟨(x.toInt - 0).toNat, by omega⟩, by
      show x = Int32.ofInt (0 + (((x.toInt - 0).toNat : Nat) : Int))
      rw [show (0 + (((x.toInt - 0).toNat : Nat) : Int)) = x.toInt by omega]
      simp⟩
    clear h h1; revert k; decide +kernel
theorem sw_0_10 (x : Int32) : x = 0 ∨ x = 1 ∨ x = 2 ∨ x = 3 ∨ x = 4 ∨ x = 5 ∨ x = 6 ∨ x = 7 ∨ x = 8 ∨ x = 9 ∨ x = 10 ∨ (x.toInt < 0 ∨ 10 < x.toInt) := by
  by_cases h : x.toInt < 0 ∨ 10 < x.toInt
  · simp [h]
  · have h1 : 0 ≤ x.toInt ∧ x.toInt ≤ 10 := by omega
    obtain ⟨k, rfl⟩ : ∃ k : Fin 11, x = Int32.ofInt (0 + (k.val : Int)) := ⟨⟨(x.toInt - 0).toNat, by omega⟩, by
      show x = Int32.ofInt (0 + (((x.toInt - 0).toNat : Nat) : Int))
      rw [show (0 + (((x.toInt - 0).toNat : Nat) : Int)) = x.toInt by omega]
      simp⟩
    clear h h1; revert k; decide +kernel
theorem hd_X8_isRace : yX8_isRace.cls = RX8 ∧ yX8_isRace.cls ≠ "java/lang/invoke/MethodHandle" ∧ yX8_isRace.cls ≠ "java/lang/invoke/VarHandle" ∧ (parseMethodDescriptor yX8_isRace.desc).map (fun d => d.parameters.length) = some 1 := by decide +kernel
def s_X8_result (a : Nat → Int32) (x : Int32) (y : Int32) (w : Int32) (nb : Nat) : Int32 := (if ¬ x < nI 0 ∧ ¬ a 2 - nI 1 < x then (if ¬ y < nI 0 ∧ ¬ a 1 - nI 1 < y then (if (m_r a x.toNatClampNeg 3) = (nI 1) then (if w = 0 then m_e a x.toNatClampNeg y.toNatClampNeg 0 else (if w = 1 then m_e a x.toNatClampNeg y.toNatClampNeg 1 else (if w = 2 then m_e a x.toNatClampNeg y.toNatClampNeg 2 else (if w = 3 then m_e a x.toNatClampNeg y.toNatClampNeg 3 else (if w = 4 then m_e a x.toNatClampNeg y.toNatClampNeg 4 else (if w = 5 then m_el a x.toNatClampNeg y.toNatClampNeg else (if w = 6 then m_co a x.toNatClampNeg y.toNatClampNeg else (if w = 7 then m_place a x.toNatClampNeg y.toNatClampNeg nb else (if w = 8 then m_pts a x.toNatClampNeg y.toNatClampNeg nb else (-2)))))))))) else (if w = 0 then m_e a x.toNatClampNeg y.toNatClampNeg 0 else (if w = 1 then m_e a x.toNatClampNeg y.toNatClampNeg 1 else (if w = 2 then m_e a x.toNatClampNeg y.toNatClampNeg 2 else (if w = 3 then m_e a x.toNatClampNeg y.toNatClampNeg 3 else (if w = 4 then m_e a x.toNatClampNeg y.toNatClampNeg 4 else (if w = 5 then m_el a x.toNatClampNeg y.toNatClampNeg else (if w = 6 then m_co a x.toNatClampNeg y.toNatClampNeg else (if w = 7 then (-5) else (if w = 8 then (-5) else (-2))))))))))) else (-1)) else (-1))
set_option maxHeartbeats 4000000 in
set_option maxRecDepth 100000 in
theorem k_X8_result {l : Launch} {D : va_G} {cI cB cS : ClassId} {ad : Nat → Nat} {N : Nat} {F : Nat → va_E} (hI : iN ad N) (o : Nat) (a : Nat → Int32) (h : Nat → Int32) (sn : Nat → Int32) (tx : Nat → Int32) (k : Nat → Int32) (x : Int32) (y : Int32) (w : Int32) (nb : Nat) (nr : Nat) (np : Nat) (nc : Nat) (hc5 : o + 5 ≤ N) (hF : MoF ad cI F o a h sn tx k) (hM : MI a nb nr np nc) : Ci l D cI cB cS ad N yX8_result cX8_result 5 (some .int) 5 114 [.ref (ad o), .int x, .int y, .int w] F (pP (s_X8_result a x y w nb) F) := by
  refine x_met (by decide +kernel) (Nat.le_of_ble_eq_true rfl) ?_
  intro p e s m below meth c X hr hlk hK hw ls hl
  replace hl : lv_has ls 5 [(0, .ref (ad o)), (1, .int x), (2, .int y), (3, .int w)] := hl
  have ⟨h1, hb9, h2, hr6, h3, hp10, hcl, hnc, hrt, hpr⟩ := hM
  refine lv_aload_n X.1 X.2.1 dX8_result_0 rfl (lv_at hl 0 rfl) ?_
  refine lv_iload_n X.1 X.2.1 dX8_result_1 rfl (lv_at hl 1 rfl) ?_
  refine x_callVP X hK hw (k := o) (As := [.int x]) (rest := []) (k_X8_isRace hI o a h sn tx k x (by omega) hF) (x_cwV yX8_isRace cX8_isRace 2 (some .boolean) 1 X q1140 q1142 qs52 q14 q1143 hd_X8_isRace ⟨Nat.le_of_ble_eq_true rfl, Nat.le_of_ble_eq_true rfl⟩) (by omega) hF.1 rfl rfl hl.1 rfl (Nat.le_of_ble_eq_true rfl) dX8_result_2 ⟨Nat.le_of_ble_eq_true rfl, Nat.le_of_ble_eq_true rfl⟩ (fun H locs hw => ?_)
  refine lv_if_eq (tgt := 16) X.1 X.2.1 dX8_result_5 (by decide) (fun c1 => ?_) (fun c1 => ?_)
  · replace c1 := bI_z c1
    refine lv_iconst (v := (-1)) X.1 X.2.1 dX8_result_16 (by decide) ?_
    exact x_iret X hr hlk hK hw (v := (-1)) rfl (⟨by rw [s_X8_result, if_neg c1], rfl⟩) dX8_result_17
  · replace c1 := bI_nz c1
    have ⟨hj2, hx3⟩ := isb_of (n := nr) c1 h2 (by omega)
    rw [hx3] at hl
    replace hl : lv_has ls 5 [(0, .ref (ad o)), (1, .int (nI x.toNatClampNeg)), (2, .int y), (3, .int w)] := hl
    refine lv_aload_n X.1 X.2.1 dX8_result_8 rfl (lv_at hl 0 rfl) ?_
    refine lv_iload_n X.1 X.2.1 dX8_result_9 rfl (lv_at hl 2 rfl) ?_
    refine x_callVP X hK hw (k := o) (As := [.int y]) (rest := []) (k_X8_isBoat hI o a h sn tx k y (by omega) hF) (x_cwV yX8_isBoat cX8_isBoat 2 (some .boolean) 1 X q976 q978 qs27 q14 q979 hd_X8_isBoat ⟨Nat.le_of_ble_eq_true rfl, Nat.le_of_ble_eq_true rfl⟩) (by omega) hF.1 rfl rfl hl.1 rfl (Nat.le_of_ble_eq_true rfl) dX8_result_10 ⟨Nat.le_of_ble_eq_true rfl, Nat.le_of_ble_eq_true rfl⟩ (fun H locs hw => ?_)
    refine lv_if_ne (tgt := 18) X.1 X.2.1 dX8_result_13 (by decide) (fun c4 => ?_) (fun c4 => ?_)
    · replace c4 := bI_nz c4
      have ⟨hj5, hx6⟩ := isb_of (n := nb) c4 h1 (by omega)
      rw [hx6] at hl
      replace hl : lv_has ls 5 [(0, .ref (ad o)), (1, .int (nI x.toNatClampNeg)), (2, .int (nI y.toNatClampNeg)), (3, .int w)] := hl
      refine lv_aload_n X.1 X.2.1 dX8_result_18 rfl (lv_at hl 0 rfl) ?_
      refine lv_iload_n X.1 X.2.1 dX8_result_19 rfl (lv_at hl 1 rfl) ?_
      refine lv_iconst (v := nI 3) X.1 X.2.1 dX8_result_20 (by decide) ?_
      refine x_callVP X hK hw (k := o) (As := [.int (nI x.toNatClampNeg), .int (nI 3)]) (rest := []) (k_X8_ofRace hI o a h sn tx k x.toNatClampNeg 3 (by omega) hF (by omega)) (x_cwV yX8_ofRace cX8_ofRace 3 (some .int) 2 X q931 q933 qs20 q14 q934 hd_X8_ofRace ⟨Nat.le_of_ble_eq_true rfl, Nat.le_of_ble_eq_true rfl⟩) (by omega) hF.1 rfl rfl hl.1 rfl (Nat.le_of_ble_eq_true rfl) dX8_result_21 ⟨Nat.le_of_ble_eq_true rfl, Nat.le_of_ble_eq_true rfl⟩ (fun H locs hw => ?_)
      refine lv_iconst (v := nI 1) X.1 X.2.1 dX8_result_24 (by decide) ?_
      refine lv_icmp_ne (tgt := 32) X.1 X.2.1 dX8_result_25 (by decide) (fun c7 => ?_) (fun c7 => ?_)
      · refine lv_iconst (v := nI 0) X.1 X.2.1 dX8_result_32 (by decide) ?_
        refine lv_istore (lv' := [(4, .int (nI 0)), (0, .ref (ad o)), (1, .int (nI x.toNatClampNeg)), (2, .int (nI y.toNatClampNeg)), (3, .int w)]) X.1 X.2.1 dX8_result_33 hl (by decide) rfl (fun ls hl => ?_)
        refine lv_iload_n X.1 X.2.1 dX8_result_35 rfl (lv_at hl 4 rfl) ?_
        rcases sw_0_8 w with c8 | c8 | c8 | c8 | c8 | c8 | c8 | c8 | c8 | c8
        · refine lv_tableIn (tgt := 88) X.1 X.2.1 dX8_result_36 (by rw [c8]; decide) (by rw [c8]; decide) (by rw [c8]; rfl) (by decide) ?_
          have ek : w = nI 0 := c8.trans rfl
          rw [ek] at hl
          replace hl : lv_has ls 5 [(4, .int (nI 0)), (0, .ref (ad o)), (1, .int (nI x.toNatClampNeg)), (2, .int (nI y.toNatClampNeg)), (3, .int (nI 0))] := hl
          refine lv_aload_n X.1 X.2.1 dX8_result_88 rfl (lv_at hl 1 rfl) ?_
          refine lv_iload_n X.1 X.2.1 dX8_result_89 rfl (lv_at hl 2 rfl) ?_
          refine lv_iload_n X.1 X.2.1 dX8_result_90 rfl (lv_at hl 3 rfl) ?_
          refine lv_iload_n X.1 X.2.1 dX8_result_91 rfl (lv_at hl 4 rfl) ?_
          refine x_callVP X hK hw (k := o) (As := [.int (nI x.toNatClampNeg), .int (nI y.toNatClampNeg), .int (nI 0)]) (rest := []) (k_X8_of hI o a h sn tx k x.toNatClampNeg y.toNatClampNeg 0 (by omega) hF (by omega)) (x_cwV yX8_of cX8_of 4 (some .int) 3 X q984 q986 qs29 q14 q987 hd_X8_of ⟨Nat.le_of_ble_eq_true rfl, Nat.le_of_ble_eq_true rfl⟩) (by omega) hF.1 rfl rfl hl.1 rfl (Nat.le_of_ble_eq_true rfl) dX8_result_92 ⟨Nat.le_of_ble_eq_true rfl, Nat.le_of_ble_eq_true rfl⟩ (fun H locs hw => ?_)
          exact x_iret X hr hlk hK hw (v := m_e a x.toNatClampNeg y.toNatClampNeg 0) rfl (⟨by rw [s_X8_result, if_pos c1, if_pos c4, if_neg c7, if_pos c8], rfl⟩) dX8_result_95
        · refine lv_tableIn (tgt := 88) X.1 X.2.1 dX8_result_36 (by rw [c8]; decide) (by rw [c8]; decide) (by rw [c8]; rfl) (by decide) ?_
          have ek : w = nI 1 := c8.trans rfl
          rw [ek] at hl
          replace hl : lv_has ls 5 [(4, .int (nI 0)), (0, .ref (ad o)), (1, .int (nI x.toNatClampNeg)), (2, .int (nI y.toNatClampNeg)), (3, .int (nI 1))] := hl
          refine lv_aload_n X.1 X.2.1 dX8_result_88 rfl (lv_at hl 1 rfl) ?_
          refine lv_iload_n X.1 X.2.1 dX8_result_89 rfl (lv_at hl 2 rfl) ?_
          refine lv_iload_n X.1 X.2.1 dX8_result_90 rfl (lv_at hl 3 rfl) ?_
          refine lv_iload_n X.1 X.2.1 dX8_result_91 rfl (lv_at hl 4 rfl) ?_
          refine x_callVP X hK hw (k := o) (As := [.int (nI x.toNatClampNeg), .int (nI y.toNatClampNeg), .int (nI 1)]) (rest := []) (k_X8_of hI o a h sn tx k x.toNatClampNeg y.toNatClampNeg 1 (by omega) hF (by omega)) (x_cwV yX8_of cX8_of 4 (some .int) 3 X q984 q986 qs29 q14 q987 hd_X8_of ⟨Nat.le_of_ble_eq_true rfl, Nat.le_of_ble_eq_true rfl⟩) (by omega) hF.1 rfl rfl hl.1 rfl (Nat.le_of_ble_eq_true rfl) dX8_result_92 ⟨Nat.le_of_ble_eq_true rfl, Nat.le_of_ble_eq_true rfl⟩ (fun H locs hw => ?_)
          exact x_iret X hr hlk hK hw (v := m_e a x.toNatClampNeg y.toNatClampNeg 1) rfl (⟨by rw [s_X8_result, if_pos c1, if_pos c4, if_neg c7, if_neg (by rw [c8]; decide), if_pos c8], rfl⟩) dX8_result_95
        · refine lv_tableIn (tgt := 88) X.1 X.2.1 dX8_result_36 (by rw [c8]; decide) (by rw [c8]; decide) (by rw [c8]; rfl) (by decide) ?_
          have ek : w = nI 2 := c8.trans rfl
          rw [ek] at hl
          replace hl : lv_has ls 5 [(4, .int (nI 0)), (0, .ref (ad o)), (1, .int (nI x.toNatClampNeg)), (2, .int (nI y.toNatClampNeg)), (3, .int (nI 2))] := hl
          refine lv_aload_n X.1 X.2.1 dX8_result_88 rfl (lv_at hl 1 rfl) ?_
          refine lv_iload_n X.1 X.2.1 dX8_result_89 rfl (lv_at hl 2 rfl) ?_
          refine lv_iload_n X.1 X.2.1 dX8_result_90 rfl (lv_at hl 3 rfl) ?_
          refine lv_iload_n X.1 X.2.1 dX8_result_91 rfl (lv_at hl 4 rfl) ?_
          refine x_callVP X hK hw (k := o) (As := [.int (nI x.toNatClampNeg), .int (nI y.toNatClampNeg), .int (nI 2)]) (rest := []) (k_X8_of hI o a h sn tx k x.toNatClampNeg y.toNatClampNeg 2 (by omega) hF (by omega)) (x_cwV yX8_of cX8_of 4 (some .int) 3 X q984 q986 qs29 q14 q987 hd_X8_of ⟨Nat.le_of_ble_eq_true rfl, Nat.le_of_ble_eq_true rfl⟩) (by omega) hF.1 rfl rfl hl.1 rfl (Nat.le_of_ble_eq_true rfl) dX8_result_92 ⟨Nat.le_of_ble_eq_true rfl, Nat.le_of_ble_eq_true rfl⟩ (fun H locs hw => ?_)
          exact x_iret X hr hlk hK hw (v := m_e a x.toNatClampNeg y.toNatClampNeg 2) rfl (⟨by rw [s_X8_result, if_pos c1, if_pos c4, if_neg c7, if_neg (by rw [c8]; decide), if_neg (by rw [c8]; decide), if_pos c8], rfl⟩) dX8_result_95
        · refine lv_tableIn (tgt := 88) X.1 X.2.1 dX8_result_36 (by rw [c8]; decide) (by rw [c8]; decide) (by rw [c8]; rfl) (by decide) ?_
          have ek : w = nI 3 := c8.trans rfl
          rw [ek] at hl
          replace hl : lv_has ls 5 [(4, .int (nI 0)), (0, .ref (ad o)), (1, .int (nI x.toNatClampNeg)), (2, .int (nI y.toNatClampNeg)), (3, .int (nI 3))] := hl
          refine lv_aload_n X.1 X.2.1 dX8_result_88 rfl (lv_at hl 1 rfl) ?_
          refine lv_iload_n X.1 X.2.1 dX8_result_89 rfl (lv_at hl 2 rfl) ?_
          refine lv_iload_n X.1 X.2.1 dX8_result_90 rfl (lv_at hl 3 rfl) ?_
          refine lv_iload_n X.1 X.2.1 dX8_result_91 rfl (lv_at hl 4 rfl) ?_
          refine x_callVP X hK hw (k := o) (As := [.int (nI x.toNatClampNeg), .int (nI y.toNatClampNeg), .int (nI 3)]) (rest := []) (k_X8_of hI o a h sn tx k x.toNatClampNeg y.toNatClampNeg 3 (by omega) hF (by omega)) (x_cwV yX8_of cX8_of 4 (some .int) 3 X q984 q986 qs29 q14 q987 hd_X8_of ⟨Nat.le_of_ble_eq_true rfl, Nat.le_of_ble_eq_true rfl⟩) (by omega) hF.1 rfl rfl hl.1 rfl (Nat.le_of_ble_eq_true rfl) dX8_result_92 ⟨Nat.le_of_ble_eq_true rfl, Nat.le_of_ble_eq_true rfl⟩ (fun H locs hw => ?_)
          exact x_iret X hr hlk hK hw (v := m_e a x.toNatClampNeg y.toNatClampNeg 3) rfl (⟨by rw [s_X8_result, if_pos c1, if_pos c4, if_neg c7, if_neg (by rw [c8]; decide), if_neg (by rw [c8]; decide), if_neg (by rw [c8]; decide), if_pos c8], rfl⟩) dX8_result_95
        · refine lv_tableIn (tgt := 88) X.1 X.2.1 dX8_result_36 (by rw [c8]; decide) (by rw [c8]; decide) (by rw [c8]; rfl) (by decide) ?_
          have ek : w = nI 4 := c8.trans rfl
          rw [ek] at hl
          replace hl : lv_has ls 5 [(4, .int (nI 0)), (0, .ref (ad o)), (1, .int (nI x.toNatClampNeg)), (2, .int (nI y.toNatClampNeg)), (3, .int (nI 4))] := hl
          refine lv_aload_n X.1 X.2.1 dX8_result_88 rfl (lv_at hl 1 rfl) ?_
          refine lv_iload_n X.1 X.2.1 dX8_result_89 rfl (lv_at hl 2 rfl) ?_
          refine lv_iload_n X.1 X.2.1 dX8_result_90 rfl (lv_at hl 3 rfl) ?_
          refine lv_iload_n X.1 X.2.1 dX8_result_91 rfl (lv_at hl 4 rfl) ?_
          refine x_callVP X hK hw (k := o) (As := [.int (nI x.toNatClampNeg), .int (nI y.toNatClampNeg), .int (nI 4)]) (rest := []) (k_X8_of hI o a h sn tx k x.toNatClampNeg y.toNatClampNeg 4 (by omega) hF (by omega)) (x_cwV yX8_of cX8_of 4 (some .int) 3 X q984 q986 qs29 q14 q987 hd_X8_of ⟨Nat.le_of_ble_eq_true rfl, Nat.le_of_ble_eq_true rfl⟩) (by omega) hF.1 rfl rfl hl.1 rfl (Nat.le_of_ble_eq_true rfl) dX8_result_92 ⟨Nat.le_of_ble_eq_true rfl, Nat.le_of_ble_eq_true rfl⟩ (fun H locs hw => ?_)
          exact x_iret X hr hlk hK hw (v := m_e a x.toNatClampNeg y.toNatClampNeg 4) rfl (⟨by rw [s_X8_result, if_pos c1, if_pos c4, if_neg c7, if_neg (by rw [c8]; decide), if_neg (by rw [c8]; decide), if_neg (by rw [c8]; decide), if_neg (by rw [c8]; decide), if_pos c8], rfl⟩) dX8_result_95
        · refine lv_tableIn (tgt := 96) X.1 X.2.1 dX8_result_36 (by rw [c8]; decide) (by rw [c8]; decide) (by rw [c8]; rfl) (by decide) ?_
          have ek : w = nI 5 := c8.trans rfl
          rw [ek] at hl
          replace hl : lv_has ls 5 [(4, .int (nI 0)), (0, .ref (ad o)), (1, .int (nI x.toNatClampNeg)), (2, .int (nI y.toNatClampNeg)), (3, .int (nI 5))] := hl
          refine lv_aload_n X.1 X.2.1 dX8_result_96 rfl (lv_at hl 1 rfl) ?_
          refine lv_iload_n X.1 X.2.1 dX8_result_97 rfl (lv_at hl 2 rfl) ?_
          refine lv_iload_n X.1 X.2.1 dX8_result_98 rfl (lv_at hl 3 rfl) ?_
          refine x_callVP X hK hw (k := o) (As := [.int (nI x.toNatClampNeg), .int (nI y.toNatClampNeg)]) (rest := []) (k_X8_elapsed hI o a h sn tx k x.toNatClampNeg y.toNatClampNeg (by omega) hF (by omega) (by omega)) (x_cwV yX8_elapsed cX8_elapsed 3 (some .int) 2 X q1144 q1146 qs53 q14 q1147 hd_X8_elapsed ⟨Nat.le_of_ble_eq_true rfl, Nat.le_of_ble_eq_true rfl⟩) (by omega) hF.1 rfl rfl hl.1 rfl (Nat.le_of_ble_eq_true rfl) dX8_result_99 ⟨Nat.le_of_ble_eq_true rfl, Nat.le_of_ble_eq_true rfl⟩ (fun H locs hw => ?_)
          exact x_iret X hr hlk hK hw (v := m_el a x.toNatClampNeg y.toNatClampNeg) rfl (⟨by rw [s_X8_result, if_pos c1, if_pos c4, if_neg c7, if_neg (by rw [c8]; decide), if_neg (by rw [c8]; decide), if_neg (by rw [c8]; decide), if_neg (by rw [c8]; decide), if_neg (by rw [c8]; decide), if_pos c8], rfl⟩) dX8_result_102
        · refine lv_tableIn (tgt := 103) X.1 X.2.1 dX8_result_36 (by rw [c8]; decide) (by rw [c8]; decide) (by rw [c8]; rfl) (by decide) ?_
          have ek : w = nI 6 := c8.trans rfl
          rw [ek] at hl
          replace hl : lv_has ls 5 [(4, .int (nI 0)), (0, .ref (ad o)), (1, .int (nI x.toNatClampNeg)), (2, .int (nI y.toNatClampNeg)), (3, .int (nI 6))] := hl
          refine lv_aload_n X.1 X.2.1 dX8_result_103 rfl (lv_at hl 1 rfl) ?_
          refine lv_iload_n X.1 X.2.1 dX8_result_104 rfl (lv_at hl 2 rfl) ?_
          refine lv_iload_n X.1 X.2.1 dX8_result_105 rfl (lv_at hl 3 rfl) ?_
          refine x_callVP X hK hw (k := o) (As := [.int (nI x.toNatClampNeg), .int (nI y.toNatClampNeg)]) (rest := []) (k_X8_corrected hI o a h sn tx k x.toNatClampNeg y.toNatClampNeg nb nr np nc (by omega) hF hM (by omega) (by omega)) (x_cwV yX8_corrected cX8_corrected 3 (some .int) 2 X q1148 q1150 qs54 q14 q1151 hd_X8_corrected ⟨Nat.le_of_ble_eq_true rfl, Nat.le_of_ble_eq_true rfl⟩) (by omega) hF.1 rfl rfl hl.1 rfl (Nat.le_of_ble_eq_true rfl) dX8_result_106 ⟨Nat.le_of_ble_eq_true rfl, Nat.le_of_ble_eq_true rfl⟩ (fun H locs hw => ?_)
          exact x_iret X hr hlk hK hw (v := m_co a x.toNatClampNeg y.toNatClampNeg) rfl (⟨by rw [s_X8_result, if_pos c1, if_pos c4, if_neg c7, if_neg (by rw [c8]; decide), if_neg (by rw [c8]; decide), if_neg (by rw [c8]; decide), if_neg (by rw [c8]; decide), if_neg (by rw [c8]; decide), if_neg (by rw [c8]; decide), if_pos c8], rfl⟩) dX8_result_109
        · refine lv_tableIn (tgt := 110) X.1 X.2.1 dX8_result_36 (by rw [c8]; decide) (by rw [c8]; decide) (by rw [c8]; rfl) (by decide) ?_
          have ek : w = nI 7 := c8.trans rfl
          rw [ek] at hl
          replace hl : lv_has ls 5 [(4, .int (nI 0)), (0, .ref (ad o)), (1, .int (nI x.toNatClampNeg)), (2, .int (nI y.toNatClampNeg)), (3, .int (nI 7))] := hl
          refine lv_iload X.1 X.2.1 dX8_result_110 (lv_at hl 0 rfl) ?_
          refine lv_if_eq (tgt := 124) X.1 X.2.1 dX8_result_112 (by decide) (fun c9 => ?_) (fun c9 => ?_)
          · refine lv_bipush (v := (-5)) X.1 X.2.1 dX8_result_124 (by decide) ?_
            exact x_iret X hr hlk hK hw (v := (-5)) rfl (⟨by rw [s_X8_result, if_pos c1, if_pos c4, if_neg c7, if_neg (by rw [c8]; decide), if_neg (by rw [c8]; decide), if_neg (by rw [c8]; decide), if_neg (by rw [c8]; decide), if_neg (by rw [c8]; decide), if_neg (by rw [c8]; decide), if_neg (by rw [c8]; decide), if_pos c8], rfl⟩) dX8_result_126
          · exact absurd (by decide) c9
        · refine lv_tableIn (tgt := 127) X.1 X.2.1 dX8_result_36 (by rw [c8]; decide) (by rw [c8]; decide) (by rw [c8]; rfl) (by decide) ?_
          have ek : w = nI 8 := c8.trans rfl
          rw [ek] at hl
          replace hl : lv_has ls 5 [(4, .int (nI 0)), (0, .ref (ad o)), (1, .int (nI x.toNatClampNeg)), (2, .int (nI y.toNatClampNeg)), (3, .int (nI 8))] := hl
          refine lv_iload X.1 X.2.1 dX8_result_127 (lv_at hl 0 rfl) ?_
          refine lv_if_eq (tgt := 141) X.1 X.2.1 dX8_result_129 (by decide) (fun c10 => ?_) (fun c10 => ?_)
          · refine lv_bipush (v := (-5)) X.1 X.2.1 dX8_result_141 (by decide) ?_
            exact x_iret X hr hlk hK hw (v := (-5)) rfl (⟨by rw [s_X8_result, if_pos c1, if_pos c4, if_neg c7, if_neg (by rw [c8]; decide), if_neg (by rw [c8]; decide), if_neg (by rw [c8]; decide), if_neg (by rw [c8]; decide), if_neg (by rw [c8]; decide), if_neg (by rw [c8]; decide), if_neg (by rw [c8]; decide), if_neg (by rw [c8]; decide), if_pos c8], rfl⟩) dX8_result_143
          · exact absurd (by decide) c10
        · refine lv_tableOut (tgt := 144) X.1 X.2.1 dX8_result_36 c8 (by decide) ?_
          refine lv_bipush (v := (-2)) X.1 X.2.1 dX8_result_144 (by decide) ?_
          exact x_iret X hr hlk hK hw (v := (-2)) rfl (⟨by rw [s_X8_result, if_pos c1, if_pos c4, if_neg c7, if_neg (fun h => by rw [h] at c8; revert c8; decide), if_neg (fun h => by rw [h] at c8; revert c8; decide), if_neg (fun h => by rw [h] at c8; revert c8; decide), if_neg (fun h => by rw [h] at c8; revert c8; decide), if_neg (fun h => by rw [h] at c8; revert c8; decide), if_neg (fun h => by rw [h] at c8; revert c8; decide), if_neg (fun h => by rw [h] at c8; revert c8; decide), if_neg (fun h => by rw [h] at c8; revert c8; decide), if_neg (fun h => by rw [h] at c8; revert c8; decide)], rfl⟩) dX8_result_146
      · refine lv_iconst (v := nI 1) X.1 X.2.1 dX8_result_28 (by decide) ?_
        refine lv_goto (tgt := 33) X.1 X.2.1 dX8_result_29 (by decide) ?_
        refine lv_istore (lv' := [(4, .int (nI 1)), (0, .ref (ad o)), (1, .int (nI x.toNatClampNeg)), (2, .int (nI y.toNatClampNeg)), (3, .int w)]) X.1 X.2.1 dX8_result_33 hl (by decide) rfl (fun ls hl => ?_)
        refine lv_iload_n X.1 X.2.1 dX8_result_35 rfl (lv_at hl 4 rfl) ?_
        rcases sw_0_8 w with c11 | c11 | c11 | c11 | c11 | c11 | c11 | c11 | c11 | c11
        · refine lv_tableIn (tgt := 88) X.1 X.2.1 dX8_result_36 (by rw [c11]; decide) (by rw [c11]; decide) (by rw [c11]; rfl) (by decide) ?_
          have ek : w = nI 0 := c11.trans rfl
          rw [ek] at hl
          replace hl : lv_has ls 5 [(4, .int (nI 1)), (0, .ref (ad o)), (1, .int (nI x.toNatClampNeg)), (2, .int (nI y.toNatClampNeg)), (3, .int (nI 0))] := hl
          refine lv_aload_n X.1 X.2.1 dX8_result_88 rfl (lv_at hl 1 rfl) ?_
          refine lv_iload_n X.1 X.2.1 dX8_result_89 rfl (lv_at hl 2 rfl) ?_
          refine lv_iload_n X.1 X.2.1 dX8_result_90 rfl (lv_at hl 3 rfl) ?_
          refine lv_iload_n X.1 X.2.1 dX8_result_91 rfl (lv_at hl 4 rfl) ?_
          refine x_callVP X hK hw (k := o) (As := [.int (nI x.toNatClampNeg), .int (nI y.toNatClampNeg), .int (nI 0)]) (rest := []) (k_X8_of hI o a h sn tx k x.toNatClampNeg y.toNatClampNeg 0 (by omega) hF (by omega)) (x_cwV yX8_of cX8_of 4 (some .int) 3 X q984 q986 qs29 q14 q987 hd_X8_of ⟨Nat.le_of_ble_eq_true rfl, Nat.le_of_ble_eq_true rfl⟩) (by omega) hF.1 rfl rfl hl.1 rfl (Nat.le_of_ble_eq_true rfl) dX8_result_92 ⟨Nat.le_of_ble_eq_true rfl, Nat.le_of_ble_eq_true rfl⟩ (fun H locs hw => ?_)
          exact x_iret X hr hlk hK hw (v := m_e a x.toNatClampNeg y.toNatClampNeg 0) rfl (⟨by rw [s_X8_result, if_pos c1, if_pos c4, if_pos c7, if_pos c11], rfl⟩) dX8_result_95
        · refine lv_tableIn (tgt := 88) X.1 X.2.1 dX8_result_36 (by rw [c11]; decide) (by rw [c11]; decide) (by rw [c11]; rfl) (by decide) ?_
          have ek : w = nI 1 := c11.trans rfl
          rw [ek] at hl
          replace hl : lv_has ls 5 [(4, .int (nI 1)), (0, .ref (ad o)), (1, .int (nI x.toNatClampNeg)), (2, .int (nI y.toNatClampNeg)), (3, .int (nI 1))] := hl
          refine lv_aload_n X.1 X.2.1 dX8_result_88 rfl (lv_at hl 1 rfl) ?_
          refine lv_iload_n X.1 X.2.1 dX8_result_89 rfl (lv_at hl 2 rfl) ?_
          refine lv_iload_n X.1 X.2.1 dX8_result_90 rfl (lv_at hl 3 rfl) ?_
          refine lv_iload_n X.1 X.2.1 dX8_result_91 rfl (lv_at hl 4 rfl) ?_
          refine x_callVP X hK hw (k := o) (As := [.int (nI x.toNatClampNeg), .int (nI y.toNatClampNeg), .int (nI 1)]) (rest := []) (k_X8_of hI o a h sn tx k x.toNatClampNeg y.toNatClampNeg 1 (by omega) hF (by omega)) (x_cwV yX8_of cX8_of 4 (some .int) 3 X q984 q986 qs29 q14 q987 hd_X8_of ⟨Nat.le_of_ble_eq_true rfl, Nat.le_of_ble_eq_true rfl⟩) (by omega) hF.1 rfl rfl hl.1 rfl (Nat.le_of_ble_eq_true rfl) dX8_result_92 ⟨Nat.le_of_ble_eq_true rfl, Nat.le_of_ble_eq_true rfl⟩ (fun H locs hw => ?_)
          exact x_iret X hr hlk hK hw (v := m_e a x.toNatClampNeg y.toNatClampNeg 1) rfl (⟨by rw [s_X8_result, if_pos c1, if_pos c4, if_pos c7, if_neg (by rw [c11]; decide), if_pos c11], rfl⟩) dX8_result_95
        · refine lv_tableIn (tgt := 88) X.1 X.2.1 dX8_result_36 (by rw [c11]; decide) (by rw [c11]; decide) (by rw [c11]; rfl) (by decide) ?_
          have ek : w = nI 2 := c11.trans rfl
          rw [ek] at hl
          replace hl : lv_has ls 5 [(4, .int (nI 1)), (0, .ref (ad o)), (1, .int (nI x.toNatClampNeg)), (2, .int (nI y.toNatClampNeg)), (3, .int (nI 2))] := hl
          refine lv_aload_n X.1 X.2.1 dX8_result_88 rfl (lv_at hl 1 rfl) ?_
          refine lv_iload_n X.1 X.2.1 dX8_result_89 rfl (lv_at hl 2 rfl) ?_
          refine lv_iload_n X.1 X.2.1 dX8_result_90 rfl (lv_at hl 3 rfl) ?_
          refine lv_iload_n X.1 X.2.1 dX8_result_91 rfl (lv_at hl 4 rfl) ?_
          refine x_callVP X hK hw (k := o) (As := [.int (nI x.toNatClampNeg), .int (nI y.toNatClampNeg), .int (nI 2)]) (rest := []) (k_X8_of hI o a h sn tx k x.toNatClampNeg y.toNatClampNeg 2 (by omega) hF (by omega)) (x_cwV yX8_of cX8_of 4 (some .int) 3 X q984 q986 qs29 q14 q987 hd_X8_of ⟨Nat.le_of_ble_eq_true rfl, Nat.le_of_ble_eq_true rfl⟩) (by omega) hF.1 rfl rfl hl.1 rfl (Nat.le_of_ble_eq_true rfl) dX8_result_92 ⟨Nat.le_of_ble_eq_true rfl, Nat.le_of_ble_eq_true rfl⟩ (fun H locs hw => ?_)
          exact x_iret X hr hlk hK hw (v := m_e a x.toNatClampNeg y.toNatClampNeg 2) rfl (⟨by rw [s_X8_result, if_pos c1, if_pos c4, if_pos c7, if_neg (by rw [c11]; decide), if_neg (by rw [c11]; decide), if_pos c11], rfl⟩) dX8_result_95
        · refine lv_tableIn (tgt := 88) X.1 X.2.1 dX8_result_36 (by rw [c11]; decide) (by rw [c11]; decide) (by rw [c11]; rfl) (by decide) ?_
          have ek : w = nI 3 := c11.trans rfl
          rw [ek] at hl
          replace hl : lv_has ls 5 [(4, .int (nI 1)), (0, .ref (ad o)), (1, .int (nI x.toNatClampNeg)), (2, .int (nI y.toNatClampNeg)), (3, .int (nI 3))] := hl
          refine lv_aload_n X.1 X.2.1 dX8_result_88 rfl (lv_at hl 1 rfl) ?_
          refine lv_iload_n X.1 X.2.1 dX8_result_89 rfl (lv_at hl 2 rfl) ?_
          refine lv_iload_n X.1 X.2.1 dX8_result_90 rfl (lv_at hl 3 rfl) ?_
          refine lv_iload_n X.1 X.2.1 dX8_result_91 rfl (lv_at hl 4 rfl) ?_
          refine x_callVP X hK hw (k := o) (As := [.int (nI x.toNatClampNeg), .int (nI y.toNatClampNeg), .int (nI 3)]) (rest := []) (k_X8_of hI o a h sn tx k x.toNatClampNeg y.toNatClampNeg 3 (by omega) hF (by omega)) (x_cwV yX8_of cX8_of 4 (some .int) 3 X q984 q986 qs29 q14 q987 hd_X8_of ⟨Nat.le_of_ble_eq_true rfl, Nat.le_of_ble_eq_true rfl⟩) (by omega) hF.1 rfl rfl hl.1 rfl (Nat.le_of_ble_eq_true rfl) dX8_result_92 ⟨Nat.le_of_ble_eq_true rfl, Nat.le_of_ble_eq_true rfl⟩ (fun H locs hw => ?_)
          exact x_iret X hr hlk hK hw (v := m_e a x.toNatClampNeg y.toNatClampNeg 3) rfl (⟨by rw [s_X8_result, if_pos c1, if_pos c4, if_pos c7, if_neg (by rw [c11]; decide), if_neg (by rw [c11]; decide), if_neg (by rw [c11]; decide), if_pos c11], rfl⟩) dX8_result_95
        · refine lv_tableIn (tgt := 88) X.1 X.2.1 dX8_result_36 (by rw [c11]; decide) (by rw [c11]; decide) (by rw [c11]; rfl) (by decide) ?_
          have ek : w = nI 4 := c11.trans rfl
          rw [ek] at hl
          replace hl : lv_has ls 5 [(4, .int (nI 1)), (0, .ref (ad o)), (1, .int (nI x.toNatClampNeg)), (2, .int (nI y.toNatClampNeg)), (3, .int (nI 4))] := hl
          refine lv_aload_n X.1 X.2.1 dX8_result_88 rfl (lv_at hl 1 rfl) ?_
          refine lv_iload_n X.1 X.2.1 dX8_result_89 rfl (lv_at hl 2 rfl) ?_
          refine lv_iload_n X.1 X.2.1 dX8_result_90 rfl (lv_at hl 3 rfl) ?_
          refine lv_iload_n X.1 X.2.1 dX8_result_91 rfl (lv_at hl 4 rfl) ?_
          refine x_callVP X hK hw (k := o) (As := [.int (nI x.toNatClampNeg), .int (nI y.toNatClampNeg), .int (nI 4)]) (rest := []) (k_X8_of hI o a h sn tx k x.toNatClampNeg y.toNatClampNeg 4 (by omega) hF (by omega)) (x_cwV yX8_of cX8_of 4 (some .int) 3 X q984 q986 qs29 q14 q987 hd_X8_of ⟨Nat.le_of_ble_eq_true rfl, Nat.le_of_ble_eq_true rfl⟩) (by omega) hF.1 rfl rfl hl.1 rfl (Nat.le_of_ble_eq_true rfl) dX8_result_92 ⟨Nat.le_of_ble_eq_true rfl, Nat.le_of_ble_eq_true rfl⟩ (fun H locs hw => ?_)
          exact x_iret X hr hlk hK hw (v := m_e a x.toNatClampNeg y.toNatClampNeg 4) rfl (⟨by rw [s_X8_result, if_pos c1, if_pos c4, if_pos c7, if_neg (by rw [c11]; decide), if_neg (by rw [c11]; decide), if_neg (by rw [c11]; decide), if_neg (by rw [c11]; decide), if_pos c11], rfl⟩) dX8_result_95
        · refine lv_tableIn (tgt := 96) X.1 X.2.1 dX8_result_36 (by rw [c11]; decide) (by rw [c11]; decide) (by rw [c11]; rfl) (by decide) ?_
          have ek : w = nI 5 := c11.trans rfl
          rw [ek] at hl
          replace hl : lv_has ls 5 [(4, .int (nI 1)), (0, .ref (ad o)), (1, .int (nI x.toNatClampNeg)), (2, .int (nI y.toNatClampNeg)), (3, .int (nI 5))] := hl
          refine lv_aload_n X.1 X.2.1 dX8_result_96 rfl (lv_at hl 1 rfl) ?_
          refine lv_iload_n X.1 X.2.1 dX8_result_97 rfl (lv_at hl 2 rfl) ?_
          refine lv_iload_n X.1 X.2.1 dX8_result_98 rfl (lv_at hl 3 rfl) ?_
          refine x_callVP X hK hw (k := o) (As := [.int (nI x.toNatClampNeg), .int (nI y.toNatClampNeg)]) (rest := []) (k_X8_elapsed hI o a h sn tx k x.toNatClampNeg y.toNatClampNeg (by omega) hF (by omega) (by omega)) (x_cwV yX8_elapsed cX8_elapsed 3 (some .int) 2 X q1144 q1146 qs53 q14 q1147 hd_X8_elapsed ⟨Nat.le_of_ble_eq_true rfl, Nat.le_of_ble_eq_true rfl⟩) (by omega) hF.1 rfl rfl hl.1 rfl (Nat.le_of_ble_eq_true rfl) dX8_result_99 ⟨Nat.le_of_ble_eq_true rfl, Nat.le_of_ble_eq_true rfl⟩ (fun H locs hw => ?_)
          exact x_iret X hr hlk hK hw (v := m_el a x.toNatClampNeg y.toNatClampNeg) rfl (⟨by rw [s_X8_result, if_pos c1, if_pos c4, if_pos c7, if_neg (by rw [c11]; decide), if_neg (by rw [c11]; decide), if_neg (by rw [c11]; decide), if_neg (by rw [c11]; decide), if_neg (by rw [c11]; decide), if_pos c11], rfl⟩) dX8_result_102
        · refine lv_tableIn (tgt := 103) X.1 X.2.1 dX8_result_36 (by rw [c11]; decide) (by rw [c11]; decide) (by rw [c11]; rfl) (by decide) ?_
          have ek : w = nI 6 := c11.trans rfl
          rw [ek] at hl
          replace hl : lv_has ls 5 [(4, .int (nI 1)), (0, .ref (ad o)), (1, .int (nI x.toNatClampNeg)), (2, .int (nI y.toNatClampNeg)), (3, .int (nI 6))] := hl
          refine lv_aload_n X.1 X.2.1 dX8_result_103 rfl (lv_at hl 1 rfl) ?_
          refine lv_iload_n X.1 X.2.1 dX8_result_104 rfl (lv_at hl 2 rfl) ?_
          refine lv_iload_n X.1 X.2.1 dX8_result_105 rfl (lv_at hl 3 rfl) ?_
          refine x_callVP X hK hw (k := o) (As := [.int (nI x.toNatClampNeg), .int (nI y.toNatClampNeg)]) (rest := []) (k_X8_corrected hI o a h sn tx k x.toNatClampNeg y.toNatClampNeg nb nr np nc (by omega) hF hM (by omega) (by omega)) (x_cwV yX8_corrected cX8_corrected 3 (some .int) 2 X q1148 q1150 qs54 q14 q1151 hd_X8_corrected ⟨Nat.le_of_ble_eq_true rfl, Nat.le_of_ble_eq_true rfl⟩) (by omega) hF.1 rfl rfl hl.1 rfl (Nat.le_of_ble_eq_true rfl) dX8_result_106 ⟨Nat.le_of_ble_eq_true rfl, Nat.le_of_ble_eq_true rfl⟩ (fun H locs hw => ?_)
          exact x_iret X hr hlk hK hw (v := m_co a x.toNatClampNeg y.toNatClampNeg) rfl (⟨by rw [s_X8_result, if_pos c1, if_pos c4, if_pos c7, if_neg (by rw [c11]; decide), if_neg (by rw [c11]; decide), if_neg (by rw [c11]; decide), if_neg (by rw [c11]; decide), if_neg (by rw [c11]; decide), if_neg (by rw [c11]; decide), if_pos c11], rfl⟩) dX8_result_109
        · refine lv_tableIn (tgt := 110) X.1 X.2.1 dX8_result_36 (by rw [c11]; decide) (by rw [c11]; decide) (by rw [c11]; rfl) (by decide) ?_
          have ek : w = nI 7 := c11.trans rfl
          rw [ek] at hl
          replace hl : lv_has ls 5 [(4, .int (nI 1)), (0, .ref (ad o)), (1, .int (nI x.toNatClampNeg)), (2, .int (nI y.toNatClampNeg)), (3, .int (nI 7))] := hl
          refine lv_iload X.1 X.2.1 dX8_result_110 (lv_at hl 0 rfl) ?_
          refine lv_if_eq (tgt := 124) X.1 X.2.1 dX8_result_112 (by decide) (fun c12 => ?_) (fun c12 => ?_)
          · exact absurd c12 (by decide)
          · refine lv_aload_n X.1 X.2.1 dX8_result_115 rfl (lv_at hl 1 rfl) ?_
            refine lv_iload_n X.1 X.2.1 dX8_result_116 rfl (lv_at hl 2 rfl) ?_
            refine lv_iload_n X.1 X.2.1 dX8_result_117 rfl (lv_at hl 3 rfl) ?_
            refine x_callVP X hK hw (k := o) (As := [.int (nI x.toNatClampNeg), .int (nI y.toNatClampNeg)]) (rest := []) (k_X8_placeIn hI o a h sn tx k x.toNatClampNeg y.toNatClampNeg nb nr np nc (by omega) hF hM (by omega) (by omega)) (x_cwV yX8_placeIn cX8_placeIn 5 (some .int) 2 X q1152 q1154 qs55 q14 q1155 hd_X8_placeIn ⟨Nat.le_of_ble_eq_true rfl, Nat.le_of_ble_eq_true rfl⟩) (by omega) hF.1 rfl rfl hl.1 rfl (Nat.le_of_ble_eq_true rfl) dX8_result_118 ⟨Nat.le_of_ble_eq_true rfl, Nat.le_of_ble_eq_true rfl⟩ (fun H locs hw => ?_)
            refine lv_goto (tgt := 126) X.1 X.2.1 dX8_result_121 (by decide) ?_
            exact x_iret X hr hlk hK hw (v := m_place a x.toNatClampNeg y.toNatClampNeg nb) rfl (⟨by rw [s_X8_result, if_pos c1, if_pos c4, if_pos c7, if_neg (by rw [c11]; decide), if_neg (by rw [c11]; decide), if_neg (by rw [c11]; decide), if_neg (by rw [c11]; decide), if_neg (by rw [c11]; decide), if_neg (by rw [c11]; decide), if_neg (by rw [c11]; decide), if_pos c11], rfl⟩) dX8_result_126
        · refine lv_tableIn (tgt := 127) X.1 X.2.1 dX8_result_36 (by rw [c11]; decide) (by rw [c11]; decide) (by rw [c11]; rfl) (by decide) ?_
          have ek : w = nI 8 := c11.trans rfl
          rw [ek] at hl
          replace hl : lv_has ls 5 [(4, .int (nI 1)), (0, .ref (ad o)), (1, .int (nI x.toNatClampNeg)), (2, .int (nI y.toNatClampNeg)), (3, .int (nI 8))] := hl
          refine lv_iload X.1 X.2.1 dX8_result_127 (lv_at hl 0 rfl) ?_
          refine lv_if_eq (tgt := 141) X.1 X.2.1 dX8_result_129 (by decide) (fun c13 => ?_) (fun c13 => ?_)
          · exact absurd c13 (by decide)
          · refine lv_aload_n X.1 X.2.1 dX8_result_132 rfl (lv_at hl 1 rfl) ?_
            refine lv_iload_n X.1 X.2.1 dX8_result_133 rfl (lv_at hl 2 rfl) ?_
            refine lv_iload_n X.1 X.2.1 dX8_result_134 rfl (lv_at hl 3 rfl) ?_
            refine x_callVP X hK hw (k := o) (As := [.int (nI x.toNatClampNeg), .int (nI y.toNatClampNeg)]) (rest := []) (k_X8_pointsIn hI o a h sn tx k x.toNatClampNeg y.toNatClampNeg nb nr np nc (by omega) hF hM (by omega) (by omega)) (x_cwV yX8_pointsIn cX8_pointsIn 4 (some .int) 2 X q1160 q1162 qs57 q14 q1163 hd_X8_pointsIn ⟨Nat.le_of_ble_eq_true rfl, Nat.le_of_ble_eq_true rfl⟩) (by omega) hF.1 rfl rfl hl.1 rfl (Nat.le_of_ble_eq_true rfl) dX8_result_135 ⟨Nat.le_of_ble_eq_true rfl, Nat.le_of_ble_eq_true rfl⟩ (fun H locs hw => ?_)
            refine lv_goto (tgt := 143) X.1 X.2.1 dX8_result_138 (by decide) ?_
            exact x_iret X hr hlk hK hw (v := m_pts a x.toNatClampNeg y.toNatClampNeg nb) rfl (⟨by rw [s_X8_result, if_pos c1, if_pos c4, if_pos c7, if_neg (by rw [c11]; decide), if_neg (by rw [c11]; decide), if_neg (by rw [c11]; decide), if_neg (by rw [c11]; decide), if_neg (by rw [c11]; decide), if_neg (by rw [c11]; decide), if_neg (by rw [c11]; decide), if_neg (by rw [c11]; decide), if_pos c11], rfl⟩) dX8_result_143
        · refine lv_tableOut (tgt := 144) X.1 X.2.1 dX8_result_36 c11 (by decide) ?_
          refine lv_bipush (v := (-2)) X.1 X.2.1 dX8_result_144 (by decide) ?_
          exact x_iret X hr hlk hK hw (v := (-2)) rfl (⟨by rw [s_X8_result, if_pos c1, if_pos c4, if_pos c7, if_neg (fun h => by rw [h] at c11; revert c11; decide), if_neg (fun h => by rw [h] at c11; revert c11; decide), if_neg (fun h => by rw [h] at c11; revert c11; decide), if_neg (fun h => by rw [h] at c11; revert c11; decide), if_neg (fun h => by rw [h] at c11; revert c11; decide), if_neg (fun h => by rw [h] at c11; revert c11; decide), if_neg (fun h => by rw [h] at c11; revert c11; decide), if_neg (fun h => by rw [h] at c11; revert c11; decide), if_neg (fun h => by rw [h] at c11; revert c11; decide)], rfl⟩) dX8_result_146
    · replace c4 := bI_z c4
      refine lv_iconst (v := (-1)) X.1 X.2.1 dX8_result_16 (by decide) ?_
      exact x_iret X hr hlk hK hw (v := (-1)) rfl (⟨by rw [s_X8_result, if_pos c1, if_neg c4], rfl⟩) dX8_result_17
theorem hd_X8_rank : yX8_rank.cls = RX8 ∧ yX8_rank.cls ≠ "java/lang/invoke/MethodHandle" ∧ yX8_rank.cls ≠ "java/lang/invoke/VarHandle" ∧ (parseMethodDescriptor yX8_rank.desc).map (fun d => d.parameters.length) = some 1 := by decide +kernel
def s_X8_boat (a : Nat → Int32) (x : Int32) (w : Int32) (nb : Nat) (nc : Nat) : Int32 := (if ¬ x < nI 0 ∧ ¬ a 1 - nI 1 < x then (if w = 0 then a (7 + x.toNatClampNeg) else (if w = 1 then m_tot a x.toNatClampNeg nb nc else (if w = 2 then m_rk a x.toNatClampNeg nb nc nb else (if w = 3 then oI (m_lo a x.toNatClampNeg nb nc) else (if w = 4 then m_pof a x.toNatClampNeg nb 1 nc else (-2)))))) else (-1))
set_option maxHeartbeats 4000000 in
set_option maxRecDepth 100000 in
theorem k_X8_boat {l : Launch} {D : va_G} {cI cB cS : ClassId} {ad : Nat → Nat} {N : Nat} {F : Nat → va_E} (hI : iN ad N) (o : Nat) (a : Nat → Int32) (h : Nat → Int32) (sn : Nat → Int32) (tx : Nat → Int32) (k : Nat → Int32) (x : Int32) (w : Int32) (nb : Nat) (nr : Nat) (np : Nat) (nc : Nat) (hc5 : o + 5 ≤ N) (hF : MoF ad cI F o a h sn tx k) (hM : MI a nb nr np nc) : Ci l D cI cB cS ad N yX8_boat cX8_boat 3 (some .int) 9 207 [.ref (ad o), .int x, .int w] F (pP (s_X8_boat a x w nb nc) F) := by
  refine x_met (by decide +kernel) (Nat.le_of_ble_eq_true rfl) ?_
  intro p e s m below meth c X hr hlk hK hw ls hl
  replace hl : lv_has ls 3 [(0, .ref (ad o)), (1, .int x), (2, .int w)] := hl
  have ⟨h1, hb9, h2, hr6, h3, hp10, hcl, hnc, hrt, hpr⟩ := hM
  refine lv_aload_n X.1 X.2.1 dX8_boat_0 rfl (lv_at hl 0 rfl) ?_
  refine lv_iload_n X.1 X.2.1 dX8_boat_1 rfl (lv_at hl 1 rfl) ?_
  refine x_callVP X hK hw (k := o) (As := [.int x]) (rest := []) (k_X8_isBoat hI o a h sn tx k x (by omega) hF) (x_cwV yX8_isBoat cX8_isBoat 2 (some .boolean) 1 X q976 q978 qs27 q14 q979 hd_X8_isBoat ⟨Nat.le_of_ble_eq_true rfl, Nat.le_of_ble_eq_true rfl⟩) (by omega) hF.1 rfl rfl hl.1 rfl (Nat.le_of_ble_eq_true rfl) dX8_boat_2 ⟨Nat.le_of_ble_eq_true rfl, Nat.le_of_ble_eq_true rfl⟩ (fun H locs hw => ?_)
  refine lv_if_ne (tgt := 10) X.1 X.2.1 dX8_boat_5 (by decide) (fun c1 => ?_) (fun c1 => ?_)
  · replace c1 := bI_nz c1
    have ⟨hj2, hx3⟩ := isb_of (n := nb) c1 h1 (by omega)
    rw [hx3] at hl
    replace hl : lv_has ls 3 [(0, .ref (ad o)), (1, .int (nI x.toNatClampNeg)), (2, .int w)] := hl
    refine lv_iload_n X.1 X.2.1 dX8_boat_10 rfl (lv_at hl 2 rfl) ?_
    rcases sw_0_4 w with c4 | c4 | c4 | c4 | c4 | c4
    · refine lv_tableIn (tgt := 44) X.1 X.2.1 dX8_boat_11 (by rw [c4]; decide) (by rw [c4]; decide) (by rw [c4]; rfl) (by decide) ?_
      refine lv_aload_n X.1 X.2.1 dX8_boat_44 rfl (lv_at hl 0 rfl) ?_
      refine x_get X hK hw (C := RX8) (T := TX8) (nf := 12) (k := o) (by omega) hF.1 rfl inX8 0 (by decide) q868 (fun _ h9 => h9) rfl dX8_boat_45 ?_
      refine lv_bipush (v := nI 7) X.1 X.2.1 dX8_boat_48 (by decide) ?_
      refine lv_iload_n X.1 X.2.1 dX8_boat_50 rfl (lv_at hl 1 rfl) ?_
      refine lv_iadd X.1 X.2.1 dX8_boat_51 ?_
      refine x_top (nI_add _ _) ?_
      refine x_ialdN X hK hw (k := (o + 1)) (by omega) hF.2.1 (i := nI (7 + x.toNatClampNeg)) (j := 7 + x.toNatClampNeg) rfl (by omega) (by omega) dX8_boat_52 ?_
      exact x_iret X hr hlk hK hw (v := a (7 + x.toNatClampNeg)) rfl (⟨by rw [s_X8_boat, if_pos c1, if_pos c4], rfl⟩) dX8_boat_53
    · refine lv_tableIn (tgt := 54) X.1 X.2.1 dX8_boat_11 (by rw [c4]; decide) (by rw [c4]; decide) (by rw [c4]; rfl) (by decide) ?_
      refine lv_aload_n X.1 X.2.1 dX8_boat_54 rfl (lv_at hl 0 rfl) ?_
      refine lv_iload_n X.1 X.2.1 dX8_boat_55 rfl (lv_at hl 1 rfl) ?_
      refine x_callVP X hK hw (k := o) (As := [.int (nI x.toNatClampNeg)]) (rest := []) (k_X8_total hI o a h sn tx k x.toNatClampNeg nb nr np nc (by omega) hF hM (by omega)) (x_cwV yX8_total cX8_total 3 (some .int) 1 X q1168 q1170 qs58 q14 q1171 hd_X8_total ⟨Nat.le_of_ble_eq_true rfl, Nat.le_of_ble_eq_true rfl⟩) (by omega) hF.1 rfl rfl hl.1 rfl (Nat.le_of_ble_eq_true rfl) dX8_boat_56 ⟨Nat.le_of_ble_eq_true rfl, Nat.le_of_ble_eq_true rfl⟩ (fun H locs hw => ?_)
      exact x_iret X hr hlk hK hw (v := m_tot a x.toNatClampNeg nb nc) rfl (⟨by rw [s_X8_boat, if_pos c1, if_neg (by rw [c4]; decide), if_pos c4], rfl⟩) dX8_boat_59
    · refine lv_tableIn (tgt := 60) X.1 X.2.1 dX8_boat_11 (by rw [c4]; decide) (by rw [c4]; decide) (by rw [c4]; rfl) (by decide) ?_
      refine lv_aload_n X.1 X.2.1 dX8_boat_60 rfl (lv_at hl 0 rfl) ?_
      refine lv_iload_n X.1 X.2.1 dX8_boat_61 rfl (lv_at hl 1 rfl) ?_
      refine x_callVP X hK hw (k := o) (As := [.int (nI x.toNatClampNeg)]) (rest := []) (k_X8_rank hI o a h sn tx k x.toNatClampNeg nb nr np nc (by omega) hF hM (by omega)) (x_cwV yX8_rank cX8_rank 4 (some .int) 1 X q1184 q1186 qs62 q14 q1187 hd_X8_rank ⟨Nat.le_of_ble_eq_true rfl, Nat.le_of_ble_eq_true rfl⟩) (by omega) hF.1 rfl rfl hl.1 rfl (Nat.le_of_ble_eq_true rfl) dX8_boat_62 ⟨Nat.le_of_ble_eq_true rfl, Nat.le_of_ble_eq_true rfl⟩ (fun H locs hw => ?_)
      exact x_iret X hr hlk hK hw (v := m_rk a x.toNatClampNeg nb nc nb) rfl (⟨by rw [s_X8_boat, if_pos c1, if_neg (by rw [c4]; decide), if_neg (by rw [c4]; decide), if_pos c4], rfl⟩) dX8_boat_65
    · refine lv_tableIn (tgt := 66) X.1 X.2.1 dX8_boat_11 (by rw [c4]; decide) (by rw [c4]; decide) (by rw [c4]; rfl) (by decide) ?_
      refine lv_aload_n X.1 X.2.1 dX8_boat_66 rfl (lv_at hl 0 rfl) ?_
      refine lv_iload_n X.1 X.2.1 dX8_boat_67 rfl (lv_at hl 1 rfl) ?_
      refine x_callVP X hK hw (k := o) (As := [.int (nI x.toNatClampNeg)]) (rest := []) (k_X8_leftOut hI o a h sn tx k x.toNatClampNeg nb nr np nc (by omega) hF hM (by omega)) (x_cwV yX8_leftOut cX8_leftOut 5 (some .int) 1 X q1172 q1174 qs59 q14 q1175 hd_X8_leftOut ⟨Nat.le_of_ble_eq_true rfl, Nat.le_of_ble_eq_true rfl⟩) (by omega) hF.1 rfl rfl hl.1 rfl (Nat.le_of_ble_eq_true rfl) dX8_boat_68 ⟨Nat.le_of_ble_eq_true rfl, Nat.le_of_ble_eq_true rfl⟩ (fun H locs hw => ?_)
      exact x_iret X hr hlk hK hw (v := oI (m_lo a x.toNatClampNeg nb nc)) rfl (⟨by rw [s_X8_boat, if_pos c1, if_neg (by rw [c4]; decide), if_neg (by rw [c4]; decide), if_neg (by rw [c4]; decide), if_pos c4], rfl⟩) dX8_boat_71
    · refine lv_tableIn (tgt := 72) X.1 X.2.1 dX8_boat_11 (by rw [c4]; decide) (by rw [c4]; decide) (by rw [c4]; rfl) (by decide) ?_
      refine lv_aload_n X.1 X.2.1 dX8_boat_72 rfl (lv_at hl 0 rfl) ?_
      refine lv_iload_n X.1 X.2.1 dX8_boat_73 rfl (lv_at hl 1 rfl) ?_
      refine lv_iconst (v := nI 1) X.1 X.2.1 dX8_boat_74 (by decide) ?_
      refine x_callVP X hK hw (k := o) (As := [.int (nI x.toNatClampNeg), .int (nI 1)]) (rest := []) (k_X8_placesOf hI o a h sn tx k x.toNatClampNeg 1 nb nr np nc (by omega) hF hM (by omega)) (x_cwV yX8_placesOf cX8_placesOf 5 (some .int) 2 X q1192 q1194 qs64 q14 q1195 hd_X8_placesOf ⟨Nat.le_of_ble_eq_true rfl, Nat.le_of_ble_eq_true rfl⟩) (by omega) hF.1 rfl rfl hl.1 rfl (Nat.le_of_ble_eq_true rfl) dX8_boat_75 ⟨Nat.le_of_ble_eq_true rfl, Nat.le_of_ble_eq_true rfl⟩ (fun H locs hw => ?_)
      exact x_iret X hr hlk hK hw (v := m_pof a x.toNatClampNeg nb 1 nc) rfl (⟨by rw [s_X8_boat, if_pos c1, if_neg (by rw [c4]; decide), if_neg (by rw [c4]; decide), if_neg (by rw [c4]; decide), if_neg (by rw [c4]; decide), if_pos c4], rfl⟩) dX8_boat_78
    · refine lv_tableOut (tgt := 79) X.1 X.2.1 dX8_boat_11 c4 (by decide) ?_
      refine lv_bipush (v := (-2)) X.1 X.2.1 dX8_boat_79 (by decide) ?_
      exact x_iret X hr hlk hK hw (v := (-2)) rfl (⟨by rw [s_X8_boat, if_pos c1, if_neg (fun h => by rw [h] at c4; revert c4; decide), if_neg (fun h => by rw [h] at c4; revert c4; decide), if_neg (fun h => by rw [h] at c4; revert c4; decide), if_neg (fun h => by rw [h] at c4; revert c4; decide), if_neg (fun h => by rw [h] at c4; revert c4; decide)], rfl⟩) dX8_boat_81
  · replace c1 := bI_z c1
    refine lv_iconst (v := (-1)) X.1 X.2.1 dX8_boat_8 (by decide) ?_
    exact x_iret X hr hlk hK hw (v := (-1)) rfl (⟨by rw [s_X8_boat, if_neg c1], rfl⟩) dX8_boat_9
def m_rkd (s : Nat → Int32) (x : Int32) (nb nc : Nat) : Nat → Int32
  | 0 => (-5)
  | i + 1 => if m_rk s i nb nc nb = x then nI i else m_rkd s x nb nc i
set_option maxHeartbeats 4000000 in
set_option maxRecDepth 100000 in
theorem k_X8_ranked {l : Launch} {D : va_G} {cI cB cS : ClassId} {ad : Nat → Nat} {N : Nat} {F : Nat → va_E} (hI : iN ad N) (o : Nat) (a : Nat → Int32) (h : Nat → Int32) (sn : Nat → Int32) (tx : Nat → Int32) (k : Nat → Int32) (x : Int32) (nb : Nat) (nr : Nat) (np : Nat) (nc : Nat) (hc5 : o + 5 ≤ N) (hF : MoF ad cI F o a h sn tx k) (hM : MI a nb nr np nc) : Ci l D cI cB cS ad N yX8_ranked cX8_ranked 4 (some .int) 9 207 [.ref (ad o), .int x] F (pP (if nI 1 ≤ x then m_rkd a x nb nc nb else (-2)) F) := by
  refine x_met (by decide +kernel) (Nat.le_of_ble_eq_true rfl) ?_
  intro p e s m below meth c X hr hlk hK hw ls hl
  replace hl : lv_has ls 4 [(0, .ref (ad o)), (1, .int x)] := hl
  have ⟨h1, hb9, h2, hr6, h3, hp10, hcl, hnc, hrt, hpr⟩ := hM
  refine lv_iload_n X.1 X.2.1 dX8_ranked_0 rfl (lv_at hl 1 rfl) ?_
  refine lv_iconst (v := nI 1) X.1 X.2.1 dX8_ranked_1 (by decide) ?_
  refine lv_icmp_ge (tgt := 8) X.1 X.2.1 dX8_ranked_2 (by decide) (fun c1 => ?_) (fun c1 => ?_)
  · refine lv_bipush (v := (-5)) X.1 X.2.1 dX8_ranked_8 (by decide) ?_
    refine lv_istore_n (lv' := [(2, .int ((-5))), (0, .ref (ad o)), (1, .int x)]) X.1 X.2.1 dX8_ranked_10 rfl hl (by decide) rfl (fun ls hl => ?_)
    refine lv_iconst (v := nI 0) X.1 X.2.1 dX8_ranked_11 (by decide) ?_
    refine lv_istore_n (lv' := [(3, .int (nI 0)), (2, .int ((-5))), (0, .ref (ad o)), (1, .int x)]) X.1 X.2.1 dX8_ranked_12 rfl hl (by decide) rfl (fun ls hl => ?_)
    have loop : ∀ (fu : Nat) (i : Nat) (y : Int32) (hfu : i + fu = nb) (he : y = m_rkd a x nb nc i) (H : Heap) (locs : List Loc) (hw : HW D (Af ad N s.heap.size) ad N F s H locs) (ls : Array Slot) (hl : lv_has ls 4 [(3, .int (nI i)), (2, .int y), (0, .ref (ad o)), (1, .int x)]), W p l e { frames := 9, cells := 0, slots := 0, locals := 207 } s m [.ref (ad o), .int x].toArray below meth c H locs 0 0 (MQ below (va_Qi (pP (if nI 1 ≤ x then m_rkd a x nb nc nb else (-2)) F) (fun F' t => PO D ad N F' t) (Af ad N s.heap.size)) [.ref (ad o), .int x].toArray s 0 0 (Af ad N s.heap.size)) (F0 m 13 ls []) := by
      intro fu
      induction fu with
      | zero =>
        intro i y hfu he H locs hw ls hl
        refine lv_iload_n X.1 X.2.1 dX8_ranked_13 rfl (lv_at hl 0 rfl) ?_
        refine lv_aload_n X.1 X.2.1 dX8_ranked_14 rfl (lv_at hl 2 rfl) ?_
        refine x_get X hK hw (C := RX8) (T := TX8) (nf := 12) (k := o) (by omega) hF.1 rfl inX8 0 (by decide) q868 (fun _ h9 => h9) rfl dX8_ranked_15 ?_
        refine lv_iconst (v := nI 1) X.1 X.2.1 dX8_ranked_18 (by decide) ?_
        refine x_ialdN X hK hw (k := (o + 1)) (by omega) hF.2.1 (i := nI 1) (j := 1) rfl (by omega) (by omega) dX8_ranked_19 ?_
        refine lv_icmp_ge (tgt := 44) X.1 X.2.1 dX8_ranked_20 (by decide) (fun c2 => ?_) (fun c2 => ?_)
        · refine lv_iload_n X.1 X.2.1 dX8_ranked_44 rfl (lv_at hl 1 rfl) ?_
          exact x_iret X hr hlk hK hw (v := y) rfl (⟨by rw [if_pos c1, he, show i = nb by omega], rfl⟩) dX8_ranked_45
        · exact absurd (by rw [h1]; exact nI_le (by omega) (by omega)) c2
      | succ fu ih =>
        intro i y hfu he H locs hw ls hl
        refine lv_iload_n X.1 X.2.1 dX8_ranked_13 rfl (lv_at hl 0 rfl) ?_
        refine lv_aload_n X.1 X.2.1 dX8_ranked_14 rfl (lv_at hl 2 rfl) ?_
        refine x_get X hK hw (C := RX8) (T := TX8) (nf := 12) (k := o) (by omega) hF.1 rfl inX8 0 (by decide) q868 (fun _ h9 => h9) rfl dX8_ranked_15 ?_
        refine lv_iconst (v := nI 1) X.1 X.2.1 dX8_ranked_18 (by decide) ?_
        refine x_ialdN X hK hw (k := (o + 1)) (by omega) hF.2.1 (i := nI 1) (j := 1) rfl (by omega) (by omega) dX8_ranked_19 ?_
        refine lv_icmp_ge (tgt := 44) X.1 X.2.1 dX8_ranked_20 (by decide) (fun c3 => ?_) (fun c3 => ?_)
        · exact absurd c3 (by rw [h1]; exact nI_ge (by omega) (by omega))
        · refine lv_aload_n X.1 X.2.1 dX8_ranked_23 rfl (lv_at hl 2 rfl) ?_
          refine lv_iload_n X.1 X.2.1 dX8_ranked_24 rfl (lv_at hl 0 rfl) ?_
          refine x_callVP X hK hw (k := o) (As := [.int (nI i)]) (rest := []) (k_X8_rank hI o a h sn tx k i nb nr np nc (by omega) hF hM (by omega)) (x_cwV yX8_rank cX8_rank 4 (some .int) 1 X q1184 q1186 qs62 q14 q1187 hd_X8_rank ⟨Nat.le_of_ble_eq_true rfl, Nat.le_of_ble_eq_true rfl⟩) (by omega) hF.1 rfl rfl hl.1 rfl (Nat.le_of_ble_eq_true rfl) dX8_ranked_25 ⟨Nat.le_of_ble_eq_true rfl, Nat.le_of_ble_eq_true rfl⟩ (fun H locs hw => ?_)
          refine lv_iload_n X.1 X.2.1 dX8_ranked_28 rfl (lv_at hl 3 rfl) ?_
          refine lv_icmp_ne (tgt := 36) X.1 X.2.1 dX8_ranked_29 (by decide) (fun c4 => ?_) (fun c4 => ?_)
          · refine lv_iload_n X.1 X.2.1 dX8_ranked_36 rfl (lv_at hl 1 rfl) ?_
            refine lv_istore_n (lv' := [(2, .int y), (3, .int (nI i)), (0, .ref (ad o)), (1, .int x)]) X.1 X.2.1 dX8_ranked_37 rfl hl (by decide) rfl (fun ls hl => ?_)
            refine lv_iinc (v := nI (i + 1)) (lv' := [(3, .int (nI (i + 1))), (2, .int y), (0, .ref (ad o)), (1, .int x)]) X.1 X.2.1 dX8_ranked_38 hl (k := 1) rfl (by first | exact nI_1 _ | exact nI_add _ _ | rfl) (by decide) rfl (fun ls hl => ?_)
            refine lv_goto (tgt := 13) X.1 X.2.1 dX8_ranked_41 (by decide) ?_
            exact ih (i + 1) y (by omega) (by rw [he, m_rkd, if_neg c4]) _ _ hw _ (lv_sub hl [0, 1, 2, 3] rfl)
          · refine lv_iload_n X.1 X.2.1 dX8_ranked_32 rfl (lv_at hl 0 rfl) ?_
            refine lv_goto (tgt := 37) X.1 X.2.1 dX8_ranked_33 (by decide) ?_
            refine lv_istore_n (lv' := [(2, .int (nI i)), (3, .int (nI i)), (0, .ref (ad o)), (1, .int x)]) X.1 X.2.1 dX8_ranked_37 rfl hl (by decide) rfl (fun ls hl => ?_)
            refine lv_iinc (v := nI (i + 1)) (lv' := [(3, .int (nI (i + 1))), (2, .int (nI i)), (0, .ref (ad o)), (1, .int x)]) X.1 X.2.1 dX8_ranked_38 hl (k := 1) rfl (by first | exact nI_1 _ | exact nI_add _ _ | rfl) (by decide) rfl (fun ls hl => ?_)
            refine lv_goto (tgt := 13) X.1 X.2.1 dX8_ranked_41 (by decide) ?_
            exact ih (i + 1) (nI i) (by omega) (by rw [m_rkd, if_pos c4]) _ _ hw _ (lv_sub hl [0, 1, 2, 3] rfl)
    exact loop nb 0 ((-5)) (by omega) rfl _ _ hw _ (lv_sub hl [0, 1, 2, 3] rfl)
  · refine lv_bipush (v := (-2)) X.1 X.2.1 dX8_ranked_5 (by decide) ?_
    exact x_iret X hr hlk hK hw (v := (-2)) rfl (⟨by rw [if_neg c1], rfl⟩) dX8_ranked_7
theorem hd_X8_bestIn : yX8_bestIn.cls = RX8 ∧ yX8_bestIn.cls ≠ "java/lang/invoke/MethodHandle" ∧ yX8_bestIn.cls ≠ "java/lang/invoke/VarHandle" ∧ (parseMethodDescriptor yX8_bestIn.desc).map (fun d => d.parameters.length) = some 1 := by decide +kernel
def s_X8_race (a : Nat → Int32) (x : Int32) (w : Int32) (nb : Nat) : Int32 := (if ¬ x < nI 0 ∧ ¬ a 2 - nI 1 < x then (if w = 0 then m_r a x.toNatClampNeg 0 else (if w = 1 then m_r a x.toNatClampNeg 1 else (if w = 2 then m_r a x.toNatClampNeg 2 else (if w = 3 then (m_r a x.toNatClampNeg 3) + (nI 1) else (if w = 4 then m_fin a x.toNatClampNeg nb else (if w = 5 then m_out a x.toNatClampNeg nb else (if w = 6 then oI (m_bst a x.toNatClampNeg nb) else (-2)))))))) else (-1))
set_option maxHeartbeats 4000000 in
set_option maxRecDepth 100000 in
theorem k_X8_race {l : Launch} {D : va_G} {cI cB cS : ClassId} {ad : Nat → Nat} {N : Nat} {F : Nat → va_E} (hI : iN ad N) (o : Nat) (a : Nat → Int32) (h : Nat → Int32) (sn : Nat → Int32) (tx : Nat → Int32) (k : Nat → Int32) (x : Int32) (w : Int32) (nb : Nat) (nr : Nat) (np : Nat) (nc : Nat) (hc5 : o + 5 ≤ N) (hF : MoF ad cI F o a h sn tx k) (hM : MI a nb nr np nc) : Ci l D cI cB cS ad N yX8_race cX8_race 3 (some .int) 4 90 [.ref (ad o), .int x, .int w] F (pP (s_X8_race a x w nb) F) := by
  refine x_met (by decide +kernel) (Nat.le_of_ble_eq_true rfl) ?_
  intro p e s m below meth c X hr hlk hK hw ls hl
  replace hl : lv_has ls 3 [(0, .ref (ad o)), (1, .int x), (2, .int w)] := hl
  have ⟨h1, hb9, h2, hr6, h3, hp10, hcl, hnc, hrt, hpr⟩ := hM
  refine lv_aload_n X.1 X.2.1 dX8_race_0 rfl (lv_at hl 0 rfl) ?_
  refine lv_iload_n X.1 X.2.1 dX8_race_1 rfl (lv_at hl 1 rfl) ?_
  refine x_callVP X hK hw (k := o) (As := [.int x]) (rest := []) (k_X8_isRace hI o a h sn tx k x (by omega) hF) (x_cwV yX8_isRace cX8_isRace 2 (some .boolean) 1 X q1140 q1142 qs52 q14 q1143 hd_X8_isRace ⟨Nat.le_of_ble_eq_true rfl, Nat.le_of_ble_eq_true rfl⟩) (by omega) hF.1 rfl rfl hl.1 rfl (Nat.le_of_ble_eq_true rfl) dX8_race_2 ⟨Nat.le_of_ble_eq_true rfl, Nat.le_of_ble_eq_true rfl⟩ (fun H locs hw => ?_)
  refine lv_if_ne (tgt := 10) X.1 X.2.1 dX8_race_5 (by decide) (fun c1 => ?_) (fun c1 => ?_)
  · replace c1 := bI_nz c1
    have ⟨hj2, hx3⟩ := isb_of (n := nr) c1 h2 (by omega)
    rw [hx3] at hl
    replace hl : lv_has ls 3 [(0, .ref (ad o)), (1, .int (nI x.toNatClampNeg)), (2, .int w)] := hl
    refine lv_iload_n X.1 X.2.1 dX8_race_10 rfl (lv_at hl 2 rfl) ?_
    rcases sw_0_6 w with c4 | c4 | c4 | c4 | c4 | c4 | c4 | c4
    · refine lv_tableIn (tgt := 52) X.1 X.2.1 dX8_race_11 (by rw [c4]; decide) (by rw [c4]; decide) (by rw [c4]; rfl) (by decide) ?_
      have ek : w = nI 0 := c4.trans rfl
      rw [ek] at hl
      replace hl : lv_has ls 3 [(0, .ref (ad o)), (1, .int (nI x.toNatClampNeg)), (2, .int (nI 0))] := hl
      refine lv_aload_n X.1 X.2.1 dX8_race_52 rfl (lv_at hl 0 rfl) ?_
      refine lv_iload_n X.1 X.2.1 dX8_race_53 rfl (lv_at hl 1 rfl) ?_
      refine lv_iload_n X.1 X.2.1 dX8_race_54 rfl (lv_at hl 2 rfl) ?_
      refine x_callVP X hK hw (k := o) (As := [.int (nI x.toNatClampNeg), .int (nI 0)]) (rest := []) (k_X8_ofRace hI o a h sn tx k x.toNatClampNeg 0 (by omega) hF (by omega)) (x_cwV yX8_ofRace cX8_ofRace 3 (some .int) 2 X q931 q933 qs20 q14 q934 hd_X8_ofRace ⟨Nat.le_of_ble_eq_true rfl, Nat.le_of_ble_eq_true rfl⟩) (by omega) hF.1 rfl rfl hl.1 rfl (Nat.le_of_ble_eq_true rfl) dX8_race_55 ⟨Nat.le_of_ble_eq_true rfl, Nat.le_of_ble_eq_true rfl⟩ (fun H locs hw => ?_)
      exact x_iret X hr hlk hK hw (v := m_r a x.toNatClampNeg 0) rfl (⟨by rw [s_X8_race, if_pos c1, if_pos c4], rfl⟩) dX8_race_58
    · refine lv_tableIn (tgt := 52) X.1 X.2.1 dX8_race_11 (by rw [c4]; decide) (by rw [c4]; decide) (by rw [c4]; rfl) (by decide) ?_
      have ek : w = nI 1 := c4.trans rfl
      rw [ek] at hl
      replace hl : lv_has ls 3 [(0, .ref (ad o)), (1, .int (nI x.toNatClampNeg)), (2, .int (nI 1))] := hl
      refine lv_aload_n X.1 X.2.1 dX8_race_52 rfl (lv_at hl 0 rfl) ?_
      refine lv_iload_n X.1 X.2.1 dX8_race_53 rfl (lv_at hl 1 rfl) ?_
      refine lv_iload_n X.1 X.2.1 dX8_race_54 rfl (lv_at hl 2 rfl) ?_
      refine x_callVP X hK hw (k := o) (As := [.int (nI x.toNatClampNeg), .int (nI 1)]) (rest := []) (k_X8_ofRace hI o a h sn tx k x.toNatClampNeg 1 (by omega) hF (by omega)) (x_cwV yX8_ofRace cX8_ofRace 3 (some .int) 2 X q931 q933 qs20 q14 q934 hd_X8_ofRace ⟨Nat.le_of_ble_eq_true rfl, Nat.le_of_ble_eq_true rfl⟩) (by omega) hF.1 rfl rfl hl.1 rfl (Nat.le_of_ble_eq_true rfl) dX8_race_55 ⟨Nat.le_of_ble_eq_true rfl, Nat.le_of_ble_eq_true rfl⟩ (fun H locs hw => ?_)
      exact x_iret X hr hlk hK hw (v := m_r a x.toNatClampNeg 1) rfl (⟨by rw [s_X8_race, if_pos c1, if_neg (by rw [c4]; decide), if_pos c4], rfl⟩) dX8_race_58
    · refine lv_tableIn (tgt := 52) X.1 X.2.1 dX8_race_11 (by rw [c4]; decide) (by rw [c4]; decide) (by rw [c4]; rfl) (by decide) ?_
      have ek : w = nI 2 := c4.trans rfl
      rw [ek] at hl
      replace hl : lv_has ls 3 [(0, .ref (ad o)), (1, .int (nI x.toNatClampNeg)), (2, .int (nI 2))] := hl
      refine lv_aload_n X.1 X.2.1 dX8_race_52 rfl (lv_at hl 0 rfl) ?_
      refine lv_iload_n X.1 X.2.1 dX8_race_53 rfl (lv_at hl 1 rfl) ?_
      refine lv_iload_n X.1 X.2.1 dX8_race_54 rfl (lv_at hl 2 rfl) ?_
      refine x_callVP X hK hw (k := o) (As := [.int (nI x.toNatClampNeg), .int (nI 2)]) (rest := []) (k_X8_ofRace hI o a h sn tx k x.toNatClampNeg 2 (by omega) hF (by omega)) (x_cwV yX8_ofRace cX8_ofRace 3 (some .int) 2 X q931 q933 qs20 q14 q934 hd_X8_ofRace ⟨Nat.le_of_ble_eq_true rfl, Nat.le_of_ble_eq_true rfl⟩) (by omega) hF.1 rfl rfl hl.1 rfl (Nat.le_of_ble_eq_true rfl) dX8_race_55 ⟨Nat.le_of_ble_eq_true rfl, Nat.le_of_ble_eq_true rfl⟩ (fun H locs hw => ?_)
      exact x_iret X hr hlk hK hw (v := m_r a x.toNatClampNeg 2) rfl (⟨by rw [s_X8_race, if_pos c1, if_neg (by rw [c4]; decide), if_neg (by rw [c4]; decide), if_pos c4], rfl⟩) dX8_race_58
    · refine lv_tableIn (tgt := 59) X.1 X.2.1 dX8_race_11 (by rw [c4]; decide) (by rw [c4]; decide) (by rw [c4]; rfl) (by decide) ?_
      have ek : w = nI 3 := c4.trans rfl
      rw [ek] at hl
      replace hl : lv_has ls 3 [(0, .ref (ad o)), (1, .int (nI x.toNatClampNeg)), (2, .int (nI 3))] := hl
      refine lv_aload_n X.1 X.2.1 dX8_race_59 rfl (lv_at hl 0 rfl) ?_
      refine lv_iload_n X.1 X.2.1 dX8_race_60 rfl (lv_at hl 1 rfl) ?_
      refine lv_iconst (v := nI 3) X.1 X.2.1 dX8_race_61 (by decide) ?_
      refine x_callVP X hK hw (k := o) (As := [.int (nI x.toNatClampNeg), .int (nI 3)]) (rest := []) (k_X8_ofRace hI o a h sn tx k x.toNatClampNeg 3 (by omega) hF (by omega)) (x_cwV yX8_ofRace cX8_ofRace 3 (some .int) 2 X q931 q933 qs20 q14 q934 hd_X8_ofRace ⟨Nat.le_of_ble_eq_true rfl, Nat.le_of_ble_eq_true rfl⟩) (by omega) hF.1 rfl rfl hl.1 rfl (Nat.le_of_ble_eq_true rfl) dX8_race_62 ⟨Nat.le_of_ble_eq_true rfl, Nat.le_of_ble_eq_true rfl⟩ (fun H locs hw => ?_)
      refine lv_iconst (v := nI 1) X.1 X.2.1 dX8_race_65 (by decide) ?_
      refine lv_iadd X.1 X.2.1 dX8_race_66 ?_
      exact x_iret X hr hlk hK hw (v := (m_r a x.toNatClampNeg 3) + (nI 1)) rfl (⟨by rw [s_X8_race, if_pos c1, if_neg (by rw [c4]; decide), if_neg (by rw [c4]; decide), if_neg (by rw [c4]; decide), if_pos c4], rfl⟩) dX8_race_67
    · refine lv_tableIn (tgt := 68) X.1 X.2.1 dX8_race_11 (by rw [c4]; decide) (by rw [c4]; decide) (by rw [c4]; rfl) (by decide) ?_
      have ek : w = nI 4 := c4.trans rfl
      rw [ek] at hl
      replace hl : lv_has ls 3 [(0, .ref (ad o)), (1, .int (nI x.toNatClampNeg)), (2, .int (nI 4))] := hl
      refine lv_aload_n X.1 X.2.1 dX8_race_68 rfl (lv_at hl 0 rfl) ?_
      refine lv_iload_n X.1 X.2.1 dX8_race_69 rfl (lv_at hl 1 rfl) ?_
      refine x_callVP X hK hw (k := o) (As := [.int (nI x.toNatClampNeg)]) (rest := []) (k_X8_finishedIn hI o a h sn tx k x.toNatClampNeg nb (by omega) hF h1 (by omega) (by omega)) (x_cwV yX8_finishedIn cX8_finishedIn 4 (some .int) 1 X q1024 q1026 qs36 q14 q1027 hd_X8_finishedIn ⟨Nat.le_of_ble_eq_true rfl, Nat.le_of_ble_eq_true rfl⟩) (by omega) hF.1 rfl rfl hl.1 rfl (Nat.le_of_ble_eq_true rfl) dX8_race_70 ⟨Nat.le_of_ble_eq_true rfl, Nat.le_of_ble_eq_true rfl⟩ (fun H locs hw => ?_)
      exact x_iret X hr hlk hK hw (v := m_fin a x.toNatClampNeg nb) rfl (⟨by rw [s_X8_race, if_pos c1, if_neg (by rw [c4]; decide), if_neg (by rw [c4]; decide), if_neg (by rw [c4]; decide), if_neg (by rw [c4]; decide), if_pos c4], rfl⟩) dX8_race_73
    · refine lv_tableIn (tgt := 74) X.1 X.2.1 dX8_race_11 (by rw [c4]; decide) (by rw [c4]; decide) (by rw [c4]; rfl) (by decide) ?_
      have ek : w = nI 5 := c4.trans rfl
      rw [ek] at hl
      replace hl : lv_has ls 3 [(0, .ref (ad o)), (1, .int (nI x.toNatClampNeg)), (2, .int (nI 5))] := hl
      refine lv_aload_n X.1 X.2.1 dX8_race_74 rfl (lv_at hl 0 rfl) ?_
      refine lv_iload_n X.1 X.2.1 dX8_race_75 rfl (lv_at hl 1 rfl) ?_
      refine x_callVP X hK hw (k := o) (As := [.int (nI x.toNatClampNeg)]) (rest := []) (k_X8_outIn hI o a h sn tx k x.toNatClampNeg nb (by omega) hF h1 (by omega) (by omega)) (x_cwV yX8_outIn cX8_outIn 4 (some .int) 1 X q1068 q1070 qs43 q14 q1071 hd_X8_outIn ⟨Nat.le_of_ble_eq_true rfl, Nat.le_of_ble_eq_true rfl⟩) (by omega) hF.1 rfl rfl hl.1 rfl (Nat.le_of_ble_eq_true rfl) dX8_race_76 ⟨Nat.le_of_ble_eq_true rfl, Nat.le_of_ble_eq_true rfl⟩ (fun H locs hw => ?_)
      exact x_iret X hr hlk hK hw (v := m_out a x.toNatClampNeg nb) rfl (⟨by rw [s_X8_race, if_pos c1, if_neg (by rw [c4]; decide), if_neg (by rw [c4]; decide), if_neg (by rw [c4]; decide), if_neg (by rw [c4]; decide), if_neg (by rw [c4]; decide), if_pos c4], rfl⟩) dX8_race_79
    · refine lv_tableIn (tgt := 80) X.1 X.2.1 dX8_race_11 (by rw [c4]; decide) (by rw [c4]; decide) (by rw [c4]; rfl) (by decide) ?_
      have ek : w = nI 6 := c4.trans rfl
      rw [ek] at hl
      replace hl : lv_has ls 3 [(0, .ref (ad o)), (1, .int (nI x.toNatClampNeg)), (2, .int (nI 6))] := hl
      refine lv_aload_n X.1 X.2.1 dX8_race_80 rfl (lv_at hl 0 rfl) ?_
      refine lv_iload_n X.1 X.2.1 dX8_race_81 rfl (lv_at hl 1 rfl) ?_
      refine x_callVP X hK hw (k := o) (As := [.int (nI x.toNatClampNeg)]) (rest := []) (k_X8_bestIn hI o a h sn tx k x.toNatClampNeg nb nr np nc (by omega) hF hM (by omega)) (x_cwV yX8_bestIn cX8_bestIn 4 (some .int) 1 X q1204 q1206 qs65 q14 q1207 hd_X8_bestIn ⟨Nat.le_of_ble_eq_true rfl, Nat.le_of_ble_eq_true rfl⟩) (by omega) hF.1 rfl rfl hl.1 rfl (Nat.le_of_ble_eq_true rfl) dX8_race_82 ⟨Nat.le_of_ble_eq_true rfl, Nat.le_of_ble_eq_true rfl⟩ (fun H locs hw => ?_)
      exact x_iret X hr hlk hK hw (v := oI (m_bst a x.toNatClampNeg nb)) rfl (⟨by rw [s_X8_race, if_pos c1, if_neg (by rw [c4]; decide), if_neg (by rw [c4]; decide), if_neg (by rw [c4]; decide), if_neg (by rw [c4]; decide), if_neg (by rw [c4]; decide), if_neg (by rw [c4]; decide), if_pos c4], rfl⟩) dX8_race_85
    · refine lv_tableOut (tgt := 86) X.1 X.2.1 dX8_race_11 c4 (by decide) ?_
      refine lv_bipush (v := (-2)) X.1 X.2.1 dX8_race_86 (by decide) ?_
      exact x_iret X hr hlk hK hw (v := (-2)) rfl (⟨by rw [s_X8_race, if_pos c1, if_neg (fun h => by rw [h] at c4; revert c4; decide), if_neg (fun h => by rw [h] at c4; revert c4; decide), if_neg (fun h => by rw [h] at c4; revert c4; decide), if_neg (fun h => by rw [h] at c4; revert c4; decide), if_neg (fun h => by rw [h] at c4; revert c4; decide), if_neg (fun h => by rw [h] at c4; revert c4; decide), if_neg (fun h => by rw [h] at c4; revert c4; decide)], rfl⟩) dX8_race_88
  · replace c1 := bI_z c1
    refine lv_iconst (v := (-1)) X.1 X.2.1 dX8_race_8 (by decide) ?_
    exact x_iret X hr hlk hK hw (v := (-1)) rfl (⟨by rw [s_X8_race, if_neg c1], rfl⟩) dX8_race_9
theorem in4_of {x : Int32} (h : ¬ x < nI 0 ∧ ¬ nI 3 < x) : x.toNatClampNeg < 4 ∧ x = nI x.toNatClampNeg := by
  obtain ⟨j, hj, rfl⟩ := nI_of (x := x) h.1
  have h3 := Int32.not_lt.mp h.2
  rw [nI_leI hj (by omega)] at h3
  rw [nI_clamp hj]
  exact ⟨by omega, rfl⟩
def s_X8_protest (a : Nat → Int32) (x : Int32) (w : Int32) : Int32 := (if ¬ x < nI 0 ∧ ¬ a 3 - nI 1 < x then (if ¬ w < (nI 0) ∧ ¬ (nI 3) < w then m_p a x.toNatClampNeg w.toNatClampNeg else (-2)) else (-1))
set_option maxHeartbeats 4000000 in
set_option maxRecDepth 100000 in
theorem k_X8_protest {l : Launch} {D : va_G} {cI cB cS : ClassId} {ad : Nat → Nat} {N : Nat} {F : Nat → va_E} (hI : iN ad N) (o : Nat) (a : Nat → Int32) (h : Nat → Int32) (sn : Nat → Int32) (tx : Nat → Int32) (k : Nat → Int32) (x : Int32) (w : Int32) (nb : Nat) (nr : Nat) (np : Nat) (nc : Nat) (hc5 : o + 5 ≤ N) (hF : MoF ad cI F o a h sn tx k) (hM : MI a nb nr np nc) : Ci l D cI cB cS ad N yX8_protest cX8_protest 3 (some .int) 2 43 [.ref (ad o), .int x, .int w] F (pP (s_X8_protest a x w) F) := by
  refine x_met (by decide +kernel) (Nat.le_of_ble_eq_true rfl) ?_
  intro p e s m below meth c X hr hlk hK hw ls hl
  replace hl : lv_has ls 3 [(0, .ref (ad o)), (1, .int x), (2, .int w)] := hl
  have ⟨h1, hb9, h2, hr6, h3, hp10, hcl, hnc, hrt, hpr⟩ := hM
  refine lv_aload_n X.1 X.2.1 dX8_protest_0 rfl (lv_at hl 0 rfl) ?_
  refine lv_iload_n X.1 X.2.1 dX8_protest_1 rfl (lv_at hl 1 rfl) ?_
  refine x_callVP X hK hw (k := o) (As := [.int x]) (rest := []) (k_X8_isProtest hI o a h sn tx k x (by omega) hF) (x_cwV yX8_isProtest cX8_isProtest 2 (some .boolean) 1 X q1048 q1050 qs40 q14 q1051 hd_X8_isProtest ⟨Nat.le_of_ble_eq_true rfl, Nat.le_of_ble_eq_true rfl⟩) (by omega) hF.1 rfl rfl hl.1 rfl (Nat.le_of_ble_eq_true rfl) dX8_protest_2 ⟨Nat.le_of_ble_eq_true rfl, Nat.le_of_ble_eq_true rfl⟩ (fun H locs hw => ?_)
  refine lv_if_ne (tgt := 10) X.1 X.2.1 dX8_protest_5 (by decide) (fun c1 => ?_) (fun c1 => ?_)
  · replace c1 := bI_nz c1
    have ⟨hj2, hx3⟩ := isb_of (n := np) c1 h3 (by omega)
    rw [hx3] at hl
    replace hl : lv_has ls 3 [(0, .ref (ad o)), (1, .int (nI x.toNatClampNeg)), (2, .int w)] := hl
    refine lv_iload_n X.1 X.2.1 dX8_protest_10 rfl (lv_at hl 2 rfl) ?_
    refine lv_iconst (v := nI 0) X.1 X.2.1 dX8_protest_11 (by decide) ?_
    refine lv_iconst (v := nI 3) X.1 X.2.1 dX8_protest_12 (by decide) ?_
    refine x_callSP X hK hw (As := [.int w, .int (nI 0), .int (nI 3)]) (rest := []) (k_X8_in hI w (nI 0) (nI 3)) (x_cwS yX8_in cX8_in 3 (some .boolean) 3 X q909 q910 q14 q911 hd_X8_in ⟨Nat.le_of_ble_eq_true rfl, Nat.le_of_ble_eq_true rfl⟩) rfl hl.1 rfl (Nat.le_of_ble_eq_true rfl) dX8_protest_13 ⟨Nat.le_of_ble_eq_true rfl, Nat.le_of_ble_eq_true rfl⟩ (fun H locs hw => ?_)
    refine lv_if_eq (tgt := 28) X.1 X.2.1 dX8_protest_16 (by decide) (fun c4 => ?_) (fun c4 => ?_)
    · replace c4 := bI_z c4
      refine lv_bipush (v := (-2)) X.1 X.2.1 dX8_protest_28 (by decide) ?_
      exact x_iret X hr hlk hK hw (v := (-2)) rfl (⟨by rw [s_X8_protest, if_pos c1, if_neg c4], rfl⟩) dX8_protest_30
    · replace c4 := bI_nz c4
      have ⟨hj5, hx6⟩ := in4_of c4
      rw [hx6] at hl
      replace hl : lv_has ls 3 [(0, .ref (ad o)), (1, .int (nI x.toNatClampNeg)), (2, .int (nI w.toNatClampNeg))] := hl
      refine lv_aload_n X.1 X.2.1 dX8_protest_19 rfl (lv_at hl 0 rfl) ?_
      refine lv_iload_n X.1 X.2.1 dX8_protest_20 rfl (lv_at hl 1 rfl) ?_
      refine lv_iload_n X.1 X.2.1 dX8_protest_21 rfl (lv_at hl 2 rfl) ?_
      refine x_callVP X hK hw (k := o) (As := [.int (nI x.toNatClampNeg), .int (nI w.toNatClampNeg)]) (rest := []) (k_X8_ofProtest hI o a h sn tx k x.toNatClampNeg w.toNatClampNeg (by omega) hF (by omega)) (x_cwV yX8_ofProtest cX8_ofProtest 3 (some .int) 2 X q1052 q1054 qs41 q14 q1055 hd_X8_ofProtest ⟨Nat.le_of_ble_eq_true rfl, Nat.le_of_ble_eq_true rfl⟩) (by omega) hF.1 rfl rfl hl.1 rfl (Nat.le_of_ble_eq_true rfl) dX8_protest_22 ⟨Nat.le_of_ble_eq_true rfl, Nat.le_of_ble_eq_true rfl⟩ (fun H locs hw => ?_)
      refine lv_goto (tgt := 30) X.1 X.2.1 dX8_protest_25 (by decide) ?_
      exact x_iret X hr hlk hK hw (v := m_p a x.toNatClampNeg w.toNatClampNeg) rfl (⟨by rw [s_X8_protest, if_pos c1, if_pos c4], rfl⟩) dX8_protest_30
  · replace c1 := bI_z c1
    refine lv_iconst (v := (-1)) X.1 X.2.1 dX8_protest_8 (by decide) ?_
    exact x_iret X hr hlk hK hw (v := (-1)) rfl (⟨by rw [s_X8_protest, if_neg c1], rfl⟩) dX8_protest_9
def s_X8_count (a : Nat → Int32) (k : Nat → Int32) (w : Int32) (nr : Nat) (nc : Nat) : Int32 := (if w = 0 then a 1 else (if w = 1 then a 2 else (if w = 2 then nI nc else (if w = 3 then a 0 else (if w = 4 then (if (a 2) = 0 then nI 0 else (if 0 < nr ∧ m_r a (nr - 1) 3 = 0 then nI 1 else nI 2)) else (if w = 5 then a 3 else (if w = 6 then a ((4 + 6) - 6) else (if w = 7 then a ((4 + 7) - 6) else (if w = 8 then a ((4 + 8) - 6) else (if w = 9 then k 0 else (if w = 10 then k 2 else (-2))))))))))))
set_option maxHeartbeats 4000000 in
set_option maxRecDepth 100000 in
theorem k_X8_count {l : Launch} {D : va_G} {cI cB cS : ClassId} {ad : Nat → Nat} {N : Nat} {F : Nat → va_E} (hI : iN ad N) (o : Nat) (a : Nat → Int32) (h : Nat → Int32) (sn : Nat → Int32) (tx : Nat → Int32) (k : Nat → Int32) (w : Int32) (nb : Nat) (nr : Nat) (np : Nat) (nc : Nat) (hc5 : o + 5 ≤ N) (hF : MoF ad cI F o a h sn tx k) (hM : MI a nb nr np nc) : Ci l D cI cB cS ad N yX8_count cX8_count 2 (some .int) 2 44 [.ref (ad o), .int w] F (pP (s_X8_count a k w nr nc) F) := by
  refine x_met (by decide +kernel) (Nat.le_of_ble_eq_true rfl) ?_
  intro p e s m below meth c X hr hlk hK hw ls hl
  replace hl : lv_has ls 2 [(0, .ref (ad o)), (1, .int w)] := hl
  have ⟨h1, hb9, h2, hr6, h3, hp10, hcl, hnc, hrt, hpr⟩ := hM
  refine lv_iload_n X.1 X.2.1 dX8_count_0 rfl (lv_at hl 1 rfl) ?_
  rcases sw_0_10 w with c1 | c1 | c1 | c1 | c1 | c1 | c1 | c1 | c1 | c1 | c1 | c1
  · refine lv_tableIn (tgt := 60) X.1 X.2.1 dX8_count_1 (by rw [c1]; decide) (by rw [c1]; decide) (by rw [c1]; rfl) (by decide) ?_
    have ek : w = nI 0 := c1.trans rfl
    rw [ek] at hl
    replace hl : lv_has ls 2 [(0, .ref (ad o)), (1, .int (nI 0))] := hl
    refine lv_aload_n X.1 X.2.1 dX8_count_60 rfl (lv_at hl 0 rfl) ?_
    refine x_get X hK hw (C := RX8) (T := TX8) (nf := 12) (k := o) (by omega) hF.1 rfl inX8 0 (by decide) q868 (fun _ h9 => h9) rfl dX8_count_61 ?_
    refine lv_iconst (v := nI 1) X.1 X.2.1 dX8_count_64 (by decide) ?_
    refine x_ialdN X hK hw (k := (o + 1)) (by omega) hF.2.1 (i := nI 1) (j := 1) rfl (by omega) (by omega) dX8_count_65 ?_
    exact x_iret X hr hlk hK hw (v := a 1) rfl (⟨by rw [s_X8_count, if_pos c1], rfl⟩) dX8_count_66
  · refine lv_tableIn (tgt := 67) X.1 X.2.1 dX8_count_1 (by rw [c1]; decide) (by rw [c1]; decide) (by rw [c1]; rfl) (by decide) ?_
    have ek : w = nI 1 := c1.trans rfl
    rw [ek] at hl
    replace hl : lv_has ls 2 [(0, .ref (ad o)), (1, .int (nI 1))] := hl
    refine lv_aload_n X.1 X.2.1 dX8_count_67 rfl (lv_at hl 0 rfl) ?_
    refine x_get X hK hw (C := RX8) (T := TX8) (nf := 12) (k := o) (by omega) hF.1 rfl inX8 0 (by decide) q868 (fun _ h9 => h9) rfl dX8_count_68 ?_
    refine lv_iconst (v := nI 2) X.1 X.2.1 dX8_count_71 (by decide) ?_
    refine x_ialdN X hK hw (k := (o + 1)) (by omega) hF.2.1 (i := nI 2) (j := 2) rfl (by omega) (by omega) dX8_count_72 ?_
    exact x_iret X hr hlk hK hw (v := a 2) rfl (⟨by rw [s_X8_count, if_neg (by rw [c1]; decide), if_pos c1], rfl⟩) dX8_count_73
  · refine lv_tableIn (tgt := 74) X.1 X.2.1 dX8_count_1 (by rw [c1]; decide) (by rw [c1]; decide) (by rw [c1]; rfl) (by decide) ?_
    have ek : w = nI 2 := c1.trans rfl
    rw [ek] at hl
    replace hl : lv_has ls 2 [(0, .ref (ad o)), (1, .int (nI 2))] := hl
    refine lv_aload_n X.1 X.2.1 dX8_count_74 rfl (lv_at hl 0 rfl) ?_
    refine x_callVP X hK hw (k := o) (As := []) (rest := []) (k_X8_closed hI o a h sn tx k nb nr np nc (by omega) hF hM) (x_cwV yX8_closed cX8_closed 3 (some .int) 0 X q1176 q1178 qs60 q14 q1179 hd_X8_closed ⟨Nat.le_of_ble_eq_true rfl, Nat.le_of_ble_eq_true rfl⟩) (by omega) hF.1 rfl rfl hl.1 rfl (Nat.le_of_ble_eq_true rfl) dX8_count_75 ⟨Nat.le_of_ble_eq_true rfl, Nat.le_of_ble_eq_true rfl⟩ (fun H locs hw => ?_)
    exact x_iret X hr hlk hK hw (v := nI nc) rfl (⟨by rw [s_X8_count, if_neg (by rw [c1]; decide), if_neg (by rw [c1]; decide), if_pos c1], rfl⟩) dX8_count_78
  · refine lv_tableIn (tgt := 79) X.1 X.2.1 dX8_count_1 (by rw [c1]; decide) (by rw [c1]; decide) (by rw [c1]; rfl) (by decide) ?_
    have ek : w = nI 3 := c1.trans rfl
    rw [ek] at hl
    replace hl : lv_has ls 2 [(0, .ref (ad o)), (1, .int (nI 3))] := hl
    refine lv_aload_n X.1 X.2.1 dX8_count_79 rfl (lv_at hl 0 rfl) ?_
    refine x_get X hK hw (C := RX8) (T := TX8) (nf := 12) (k := o) (by omega) hF.1 rfl inX8 0 (by decide) q868 (fun _ h9 => h9) rfl dX8_count_80 ?_
    refine lv_iconst (v := nI 0) X.1 X.2.1 dX8_count_83 (by decide) ?_
    refine x_ialdN X hK hw (k := (o + 1)) (by omega) hF.2.1 (i := nI 0) (j := 0) rfl (by omega) (by omega) dX8_count_84 ?_
    exact x_iret X hr hlk hK hw (v := a 0) rfl (⟨by rw [s_X8_count, if_neg (by rw [c1]; decide), if_neg (by rw [c1]; decide), if_neg (by rw [c1]; decide), if_pos c1], rfl⟩) dX8_count_85
  · refine lv_tableIn (tgt := 86) X.1 X.2.1 dX8_count_1 (by rw [c1]; decide) (by rw [c1]; decide) (by rw [c1]; rfl) (by decide) ?_
    have ek : w = nI 4 := c1.trans rfl
    rw [ek] at hl
    replace hl : lv_has ls 2 [(0, .ref (ad o)), (1, .int (nI 4))] := hl
    refine lv_aload_n X.1 X.2.1 dX8_count_86 rfl (lv_at hl 0 rfl) ?_
    refine x_get X hK hw (C := RX8) (T := TX8) (nf := 12) (k := o) (by omega) hF.1 rfl inX8 0 (by decide) q868 (fun _ h9 => h9) rfl dX8_count_87 ?_
    refine lv_iconst (v := nI 2) X.1 X.2.1 dX8_count_90 (by decide) ?_
    refine x_ialdN X hK hw (k := (o + 1)) (by omega) hF.2.1 (i := nI 2) (j := 2) rfl (by omega) (by omega) dX8_count_91 ?_
    refine lv_if_ne (tgt := 99) X.1 X.2.1 dX8_count_92 (by decide) (fun c2 => ?_) (fun c2 => ?_)
    · refine lv_aload_n X.1 X.2.1 dX8_count_99 rfl (lv_at hl 0 rfl) ?_
      refine x_callVP X hK hw (k := o) (As := []) (rest := []) (k_X8_isPrepared hI o a h sn tx k nr (by omega) hF h2 (by omega)) (x_cwV yX8_isPrepared cX8_isPrepared 1 (some .boolean) 0 X q923 q925 qs18 q14 q926 hd_X8_isPrepared ⟨Nat.le_of_ble_eq_true rfl, Nat.le_of_ble_eq_true rfl⟩) (by omega) hF.1 rfl rfl hl.1 rfl (Nat.le_of_ble_eq_true rfl) dX8_count_100 ⟨Nat.le_of_ble_eq_true rfl, Nat.le_of_ble_eq_true rfl⟩ (fun H locs hw => ?_)
      refine lv_if_eq (tgt := 110) X.1 X.2.1 dX8_count_103 (by decide) (fun c3 => ?_) (fun c3 => ?_)
      · replace c3 := bI_z c3
        refine lv_iconst (v := nI 2) X.1 X.2.1 dX8_count_110 (by decide) ?_
        exact x_iret X hr hlk hK hw (v := nI 2) rfl (⟨by rw [s_X8_count, if_neg (by rw [c1]; decide), if_neg (by rw [c1]; decide), if_neg (by rw [c1]; decide), if_neg (by rw [c1]; decide), if_pos c1, if_neg c2, if_neg c3], rfl⟩) dX8_count_111
      · replace c3 := bI_nz c3
        refine lv_iconst (v := nI 1) X.1 X.2.1 dX8_count_106 (by decide) ?_
        refine lv_goto (tgt := 111) X.1 X.2.1 dX8_count_107 (by decide) ?_
        exact x_iret X hr hlk hK hw (v := nI 1) rfl (⟨by rw [s_X8_count, if_neg (by rw [c1]; decide), if_neg (by rw [c1]; decide), if_neg (by rw [c1]; decide), if_neg (by rw [c1]; decide), if_pos c1, if_neg c2, if_pos c3], rfl⟩) dX8_count_111
    · refine lv_iconst (v := nI 0) X.1 X.2.1 dX8_count_95 (by decide) ?_
      refine lv_goto (tgt := 111) X.1 X.2.1 dX8_count_96 (by decide) ?_
      exact x_iret X hr hlk hK hw (v := nI 0) rfl (⟨by rw [s_X8_count, if_neg (by rw [c1]; decide), if_neg (by rw [c1]; decide), if_neg (by rw [c1]; decide), if_neg (by rw [c1]; decide), if_pos c1, if_pos c2], rfl⟩) dX8_count_111
  · refine lv_tableIn (tgt := 112) X.1 X.2.1 dX8_count_1 (by rw [c1]; decide) (by rw [c1]; decide) (by rw [c1]; rfl) (by decide) ?_
    have ek : w = nI 5 := c1.trans rfl
    rw [ek] at hl
    replace hl : lv_has ls 2 [(0, .ref (ad o)), (1, .int (nI 5))] := hl
    refine lv_aload_n X.1 X.2.1 dX8_count_112 rfl (lv_at hl 0 rfl) ?_
    refine x_get X hK hw (C := RX8) (T := TX8) (nf := 12) (k := o) (by omega) hF.1 rfl inX8 0 (by decide) q868 (fun _ h9 => h9) rfl dX8_count_113 ?_
    refine lv_iconst (v := nI 3) X.1 X.2.1 dX8_count_116 (by decide) ?_
    refine x_ialdN X hK hw (k := (o + 1)) (by omega) hF.2.1 (i := nI 3) (j := 3) rfl (by omega) (by omega) dX8_count_117 ?_
    exact x_iret X hr hlk hK hw (v := a 3) rfl (⟨by rw [s_X8_count, if_neg (by rw [c1]; decide), if_neg (by rw [c1]; decide), if_neg (by rw [c1]; decide), if_neg (by rw [c1]; decide), if_neg (by rw [c1]; decide), if_pos c1], rfl⟩) dX8_count_118
  · refine lv_tableIn (tgt := 119) X.1 X.2.1 dX8_count_1 (by rw [c1]; decide) (by rw [c1]; decide) (by rw [c1]; rfl) (by decide) ?_
    have ek : w = nI 6 := c1.trans rfl
    rw [ek] at hl
    replace hl : lv_has ls 2 [(0, .ref (ad o)), (1, .int (nI 6))] := hl
    refine lv_aload_n X.1 X.2.1 dX8_count_119 rfl (lv_at hl 0 rfl) ?_
    refine x_get X hK hw (C := RX8) (T := TX8) (nf := 12) (k := o) (by omega) hF.1 rfl inX8 0 (by decide) q868 (fun _ h9 => h9) rfl dX8_count_120 ?_
    refine lv_iconst (v := nI 4) X.1 X.2.1 dX8_count_123 (by decide) ?_
    refine lv_iload_n X.1 X.2.1 dX8_count_124 rfl (lv_at hl 1 rfl) ?_
    refine lv_iadd X.1 X.2.1 dX8_count_125 ?_
    refine x_top (nI_add _ _) ?_
    refine lv_bipush (v := nI 6) X.1 X.2.1 dX8_count_126 (by decide) ?_
    refine lv_isub X.1 X.2.1 dX8_count_128 ?_
    refine x_top (pk_sub (by omega)) ?_
    refine x_ialdN X hK hw (k := (o + 1)) (by omega) hF.2.1 (i := nI ((4 + 6) - 6)) (j := (4 + 6) - 6) rfl (by omega) (by omega) dX8_count_129 ?_
    exact x_iret X hr hlk hK hw (v := a ((4 + 6) - 6)) rfl (⟨by rw [s_X8_count, if_neg (by rw [c1]; decide), if_neg (by rw [c1]; decide), if_neg (by rw [c1]; decide), if_neg (by rw [c1]; decide), if_neg (by rw [c1]; decide), if_neg (by rw [c1]; decide), if_pos c1], rfl⟩) dX8_count_130
  · refine lv_tableIn (tgt := 119) X.1 X.2.1 dX8_count_1 (by rw [c1]; decide) (by rw [c1]; decide) (by rw [c1]; rfl) (by decide) ?_
    have ek : w = nI 7 := c1.trans rfl
    rw [ek] at hl
    replace hl : lv_has ls 2 [(0, .ref (ad o)), (1, .int (nI 7))] := hl
    refine lv_aload_n X.1 X.2.1 dX8_count_119 rfl (lv_at hl 0 rfl) ?_
    refine x_get X hK hw (C := RX8) (T := TX8) (nf := 12) (k := o) (by omega) hF.1 rfl inX8 0 (by decide) q868 (fun _ h9 => h9) rfl dX8_count_120 ?_
    refine lv_iconst (v := nI 4) X.1 X.2.1 dX8_count_123 (by decide) ?_
    refine lv_iload_n X.1 X.2.1 dX8_count_124 rfl (lv_at hl 1 rfl) ?_
    refine lv_iadd X.1 X.2.1 dX8_count_125 ?_
    refine x_top (nI_add _ _) ?_
    refine lv_bipush (v := nI 6) X.1 X.2.1 dX8_count_126 (by decide) ?_
    refine lv_isub X.1 X.2.1 dX8_count_128 ?_
    refine x_top (pk_sub (by omega)) ?_
    refine x_ialdN X hK hw (k := (o + 1)) (by omega) hF.2.1 (i := nI ((4 + 7) - 6)) (j := (4 + 7) - 6) rfl (by omega) (by omega) dX8_count_129 ?_
    exact x_iret X hr hlk hK hw (v := a ((4 + 7) - 6)) rfl (⟨by rw [s_X8_count, if_neg (by rw [c1]; decide), if_neg (by rw [c1]; decide), if_neg (by rw [c1]; decide), if_neg (by rw [c1]; decide), if_neg (by rw [c1]; decide), if_neg (by rw [c1]; decide), if_neg (by rw [c1]; decide), if_pos c1], rfl⟩) dX8_count_130
  · refine lv_tableIn (tgt := 119) X.1 X.2.1 dX8_count_1 (by rw [c1]; decide) (by rw [c1]; decide) (by rw [c1]; rfl) (by decide) ?_
    have ek : w = nI 8 := c1.trans rfl
    rw [ek] at hl
    replace hl : lv_has ls 2 [(0, .ref (ad o)), (1, .int (nI 8))] := hl
    refine lv_aload_n X.1 X.2.1 dX8_count_119 rfl (lv_at hl 0 rfl) ?_
    refine x_get X hK hw (C := RX8) (T := TX8) (nf := 12) (k := o) (by omega) hF.1 rfl inX8 0 (by decide) q868 (fun _ h9 => h9) rfl dX8_count_120 ?_
    refine lv_iconst (v := nI 4) X.1 X.2.1 dX8_count_123 (by decide) ?_
    refine lv_iload_n X.1 X.2.1 dX8_count_124 rfl (lv_at hl 1 rfl) ?_
    refine lv_iadd X.1 X.2.1 dX8_count_125 ?_
    refine x_top (nI_add _ _) ?_
    refine lv_bipush (v := nI 6) X.1 X.2.1 dX8_count_126 (by decide) ?_
    refine lv_isub X.1 X.2.1 dX8_count_128 ?_
    refine x_top (pk_sub (by omega)) ?_
    refine x_ialdN X hK hw (k := (o + 1)) (by omega) hF.2.1 (i := nI ((4 + 8) - 6)) (j := (4 + 8) - 6) rfl (by omega) (by omega) dX8_count_129 ?_
    exact x_iret X hr hlk hK hw (v := a ((4 + 8) - 6)) rfl (⟨by rw [s_X8_count, if_neg (by rw [c1]; decide), if_neg (by rw [c1]; decide), if_neg (by rw [c1]; decide), if_neg (by rw [c1]; decide), if_neg (by rw [c1]; decide), if_neg (by rw [c1]; decide), if_neg (by rw [c1]; decide), if_neg (by rw [c1]; decide), if_pos c1], rfl⟩) dX8_count_130
  · refine lv_tableIn (tgt := 131) X.1 X.2.1 dX8_count_1 (by rw [c1]; decide) (by rw [c1]; decide) (by rw [c1]; rfl) (by decide) ?_
    have ek : w = nI 9 := c1.trans rfl
    rw [ek] at hl
    replace hl : lv_has ls 2 [(0, .ref (ad o)), (1, .int (nI 9))] := hl
    refine lv_aload_n X.1 X.2.1 dX8_count_131 rfl (lv_at hl 0 rfl) ?_
    refine x_get X hK hw (C := RX8) (T := TX8) (nf := 12) (k := o) (by omega) hF.1 rfl inX8 2 (by decide) q870 (fun _ h9 => h9) rfl dX8_count_132 ?_
    exact x_iret X hr hlk hK hw (v := k 0) rfl (⟨by rw [s_X8_count, if_neg (by rw [c1]; decide), if_neg (by rw [c1]; decide), if_neg (by rw [c1]; decide), if_neg (by rw [c1]; decide), if_neg (by rw [c1]; decide), if_neg (by rw [c1]; decide), if_neg (by rw [c1]; decide), if_neg (by rw [c1]; decide), if_neg (by rw [c1]; decide), if_pos c1], rfl⟩) dX8_count_135
  · refine lv_tableIn (tgt := 136) X.1 X.2.1 dX8_count_1 (by rw [c1]; decide) (by rw [c1]; decide) (by rw [c1]; rfl) (by decide) ?_
    have ek : w = nI 10 := c1.trans rfl
    rw [ek] at hl
    replace hl : lv_has ls 2 [(0, .ref (ad o)), (1, .int (nI 10))] := hl
    refine lv_aload_n X.1 X.2.1 dX8_count_136 rfl (lv_at hl 0 rfl) ?_
    refine x_get X hK hw (C := RX8) (T := TX8) (nf := 12) (k := o) (by omega) hF.1 rfl inX8 6 (by decide) q874 (fun _ h9 => h9) rfl dX8_count_137 ?_
    exact x_iret X hr hlk hK hw (v := k 2) rfl (⟨by rw [s_X8_count, if_neg (by rw [c1]; decide), if_neg (by rw [c1]; decide), if_neg (by rw [c1]; decide), if_neg (by rw [c1]; decide), if_neg (by rw [c1]; decide), if_neg (by rw [c1]; decide), if_neg (by rw [c1]; decide), if_neg (by rw [c1]; decide), if_neg (by rw [c1]; decide), if_neg (by rw [c1]; decide), if_pos c1], rfl⟩) dX8_count_140
  · refine lv_tableOut (tgt := 141) X.1 X.2.1 dX8_count_1 c1 (by decide) ?_
    refine lv_bipush (v := (-2)) X.1 X.2.1 dX8_count_141 (by decide) ?_
    exact x_iret X hr hlk hK hw (v := (-2)) rfl (⟨by rw [s_X8_count, if_neg (fun h => by rw [h] at c1; revert c1; decide), if_neg (fun h => by rw [h] at c1; revert c1; decide), if_neg (fun h => by rw [h] at c1; revert c1; decide), if_neg (fun h => by rw [h] at c1; revert c1; decide), if_neg (fun h => by rw [h] at c1; revert c1; decide), if_neg (fun h => by rw [h] at c1; revert c1; decide), if_neg (fun h => by rw [h] at c1; revert c1; decide), if_neg (fun h => by rw [h] at c1; revert c1; decide), if_neg (fun h => by rw [h] at c1; revert c1; decide), if_neg (fun h => by rw [h] at c1; revert c1; decide), if_neg (fun h => by rw [h] at c1; revert c1; decide)], rfl⟩) dX8_count_143
def s_X8_placeNow (a : Nat → Int32) (x : Int32) (nb : Nat) (nr : Nat) : Int32 := (if ¬ x < nI 0 ∧ ¬ a 1 - nI 1 < x then (if 0 < nr ∧ m_r a (nr - 1) 3 = 0 then m_place a (nr - 1) x.toNatClampNeg nb else (-4)) else (-1))
set_option maxHeartbeats 4000000 in
set_option maxRecDepth 100000 in
theorem k_X8_placeNow {l : Launch} {D : va_G} {cI cB cS : ClassId} {ad : Nat → Nat} {N : Nat} {F : Nat → va_E} (hI : iN ad N) (o : Nat) (a : Nat → Int32) (h : Nat → Int32) (sn : Nat → Int32) (tx : Nat → Int32) (k : Nat → Int32) (x : Int32) (nb : Nat) (nr : Nat) (np : Nat) (nc : Nat) (hc5 : o + 5 ≤ N) (hF : MoF ad cI F o a h sn tx k) (hM : MI a nb nr np nc) : Ci l D cI cB cS ad N yX8_placeNow cX8_placeNow 2 (some .int) 4 91 [.ref (ad o), .int x] F (pP (s_X8_placeNow a x nb nr) F) := by
  refine x_met (by decide +kernel) (Nat.le_of_ble_eq_true rfl) ?_
  intro p e s m below meth c X hr hlk hK hw ls hl
  replace hl : lv_has ls 2 [(0, .ref (ad o)), (1, .int x)] := hl
  have ⟨h1, hb9, h2, hr6, h3, hp10, hcl, hnc, hrt, hpr⟩ := hM
  refine lv_aload_n X.1 X.2.1 dX8_placeNow_0 rfl (lv_at hl 0 rfl) ?_
  refine lv_iload_n X.1 X.2.1 dX8_placeNow_1 rfl (lv_at hl 1 rfl) ?_
  refine x_callVP X hK hw (k := o) (As := [.int x]) (rest := []) (k_X8_isBoat hI o a h sn tx k x (by omega) hF) (x_cwV yX8_isBoat cX8_isBoat 2 (some .boolean) 1 X q976 q978 qs27 q14 q979 hd_X8_isBoat ⟨Nat.le_of_ble_eq_true rfl, Nat.le_of_ble_eq_true rfl⟩) (by omega) hF.1 rfl rfl hl.1 rfl (Nat.le_of_ble_eq_true rfl) dX8_placeNow_2 ⟨Nat.le_of_ble_eq_true rfl, Nat.le_of_ble_eq_true rfl⟩ (fun H locs hw => ?_)
  refine lv_if_ne (tgt := 10) X.1 X.2.1 dX8_placeNow_5 (by decide) (fun c1 => ?_) (fun c1 => ?_)
  · replace c1 := bI_nz c1
    have ⟨hj2, hx3⟩ := isb_of (n := nb) c1 h1 (by omega)
    rw [hx3] at hl
    replace hl : lv_has ls 2 [(0, .ref (ad o)), (1, .int (nI x.toNatClampNeg))] := hl
    refine lv_aload_n X.1 X.2.1 dX8_placeNow_10 rfl (lv_at hl 0 rfl) ?_
    refine x_callVP X hK hw (k := o) (As := []) (rest := []) (k_X8_isPrepared hI o a h sn tx k nr (by omega) hF h2 (by omega)) (x_cwV yX8_isPrepared cX8_isPrepared 1 (some .boolean) 0 X q923 q925 qs18 q14 q926 hd_X8_isPrepared ⟨Nat.le_of_ble_eq_true rfl, Nat.le_of_ble_eq_true rfl⟩) (by omega) hF.1 rfl rfl hl.1 rfl (Nat.le_of_ble_eq_true rfl) dX8_placeNow_11 ⟨Nat.le_of_ble_eq_true rfl, Nat.le_of_ble_eq_true rfl⟩ (fun H locs hw => ?_)
    refine lv_if_eq (tgt := 29) X.1 X.2.1 dX8_placeNow_14 (by decide) (fun c4 => ?_) (fun c4 => ?_)
    · replace c4 := bI_z c4
      refine lv_bipush (v := (-4)) X.1 X.2.1 dX8_placeNow_29 (by decide) ?_
      exact x_iret X hr hlk hK hw (v := (-4)) rfl (⟨by rw [s_X8_placeNow, if_pos c1, if_neg c4], rfl⟩) dX8_placeNow_31
    · replace c4 := bI_nz c4
      have hn := c4.1
      refine lv_aload_n X.1 X.2.1 dX8_placeNow_17 rfl (lv_at hl 0 rfl) ?_
      refine lv_aload_n X.1 X.2.1 dX8_placeNow_18 rfl (lv_at hl 0 rfl) ?_
      refine x_callVP X hK hw (k := o) (As := []) (rest := [.ref (ad o)]) (k_X8_latest hI o a h sn tx k nr (by omega) hF h2 (by omega) hn) (x_cwV yX8_latest cX8_latest 1 (some .int) 0 X q927 q929 qs19 q14 q930 hd_X8_latest ⟨Nat.le_of_ble_eq_true rfl, Nat.le_of_ble_eq_true rfl⟩) (by omega) hF.1 rfl rfl hl.1 rfl (Nat.le_of_ble_eq_true rfl) dX8_placeNow_19 ⟨Nat.le_of_ble_eq_true rfl, Nat.le_of_ble_eq_true rfl⟩ (fun H locs hw => ?_)
      refine lv_iload_n X.1 X.2.1 dX8_placeNow_22 rfl (lv_at hl 1 rfl) ?_
      refine x_callVP X hK hw (k := o) (As := [.int (nI (nr - 1)), .int (nI x.toNatClampNeg)]) (rest := []) (k_X8_placeIn hI o a h sn tx k (nr - 1) x.toNatClampNeg nb nr np nc (by omega) hF hM (by omega) (by omega)) (x_cwV yX8_placeIn cX8_placeIn 5 (some .int) 2 X q1152 q1154 qs55 q14 q1155 hd_X8_placeIn ⟨Nat.le_of_ble_eq_true rfl, Nat.le_of_ble_eq_true rfl⟩) (by omega) hF.1 rfl rfl hl.1 rfl (Nat.le_of_ble_eq_true rfl) dX8_placeNow_23 ⟨Nat.le_of_ble_eq_true rfl, Nat.le_of_ble_eq_true rfl⟩ (fun H locs hw => ?_)
      refine lv_goto (tgt := 31) X.1 X.2.1 dX8_placeNow_26 (by decide) ?_
      exact x_iret X hr hlk hK hw (v := m_place a (nr - 1) x.toNatClampNeg nb) rfl (⟨by rw [s_X8_placeNow, if_pos c1, if_pos c4], rfl⟩) dX8_placeNow_31
  · replace c1 := bI_z c1
    refine lv_iconst (v := (-1)) X.1 X.2.1 dX8_placeNow_8 (by decide) ?_
    exact x_iret X hr hlk hK hw (v := (-1)) rfl (⟨by rw [s_X8_placeNow, if_neg c1], rfl⟩) dX8_placeNow_9
def m_bj (s : Nat → Int32) (r nb : Nat) : Nat := (m_bst s r nb).getD 0
theorem m_bj_of {s : Nat → Int32} {r nb j : Nat} (h : some j = m_bst s r nb) : j = m_bj s r nb := by rw [m_bj, ← h]; rfl
def s_X8_secondsLeft (a : Nat → Int32) (x : Int32) (nb : Nat) (nr : Nat) : Int32 := (if ¬ x < nI 0 ∧ ¬ a 1 - nI 1 < x then (if 0 < nr ∧ m_r a (nr - 1) 3 = 0 then (if (m_e a (nr - 1) x.toNatClampNeg 0) = (nI 2) then (if m_bst a (nr - 1) nb = none then (-5) else (if ((m_co a (nr - 1) ((m_bj a (nr - 1) nb))) * (a (7 + x.toNatClampNeg))) = 0 then (-5) else (if 0 ≤ (((((m_co a (nr - 1) ((m_bj a (nr - 1) nb))) * (a (7 + x.toNatClampNeg))) - (nI 1)) / (nI 100)) - (((a 0) - (m_r a (nr - 1) 2)) + (m_e a (nr - 1) x.toNatClampNeg 3))) then ((((m_co a (nr - 1) ((m_bj a (nr - 1) nb))) * (a (7 + x.toNatClampNeg))) - (nI 1)) / (nI 100)) - (((a 0) - (m_r a (nr - 1) 2)) + (m_e a (nr - 1) x.toNatClampNeg 3)) else (-5)))) else (-4)) else (-4)) else (-1))
set_option maxHeartbeats 4000000 in
set_option maxRecDepth 100000 in
theorem k_X8_secondsLeft {l : Launch} {D : va_G} {cI cB cS : ClassId} {ad : Nat → Nat} {N : Nat} {F : Nat → va_E} (hI : iN ad N) (o : Nat) (a : Nat → Int32) (h : Nat → Int32) (sn : Nat → Int32) (tx : Nat → Int32) (k : Nat → Int32) (x : Int32) (nb : Nat) (nr : Nat) (np : Nat) (nc : Nat) (hc5 : o + 5 ≤ N) (hF : MoF ad cI F o a h sn tx k) (hM : MI a nb nr np nc) : Ci l D cI cB cS ad N yX8_secondsLeft cX8_secondsLeft 5 (some .int) 4 90 [.ref (ad o), .int x] F (pP (s_X8_secondsLeft a x nb nr) F) := by
  refine x_met (by decide +kernel) (Nat.le_of_ble_eq_true rfl) ?_
  intro p e s m below meth c X hr hlk hK hw ls hl
  replace hl : lv_has ls 5 [(0, .ref (ad o)), (1, .int x)] := hl
  have ⟨h1, hb9, h2, hr6, h3, hp10, hcl, hnc, hrt, hpr⟩ := hM
  refine lv_aload_n X.1 X.2.1 dX8_secondsLeft_0 rfl (lv_at hl 0 rfl) ?_
  refine lv_iload_n X.1 X.2.1 dX8_secondsLeft_1 rfl (lv_at hl 1 rfl) ?_
  refine x_callVP X hK hw (k := o) (As := [.int x]) (rest := []) (k_X8_isBoat hI o a h sn tx k x (by omega) hF) (x_cwV yX8_isBoat cX8_isBoat 2 (some .boolean) 1 X q976 q978 qs27 q14 q979 hd_X8_isBoat ⟨Nat.le_of_ble_eq_true rfl, Nat.le_of_ble_eq_true rfl⟩) (by omega) hF.1 rfl rfl hl.1 rfl (Nat.le_of_ble_eq_true rfl) dX8_secondsLeft_2 ⟨Nat.le_of_ble_eq_true rfl, Nat.le_of_ble_eq_true rfl⟩ (fun H locs hw => ?_)
  refine lv_if_ne (tgt := 10) X.1 X.2.1 dX8_secondsLeft_5 (by decide) (fun c1 => ?_) (fun c1 => ?_)
  · replace c1 := bI_nz c1
    have ⟨hj2, hx3⟩ := isb_of (n := nb) c1 h1 (by omega)
    rw [hx3] at hl
    replace hl : lv_has ls 5 [(0, .ref (ad o)), (1, .int (nI x.toNatClampNeg))] := hl
    refine lv_aload_n X.1 X.2.1 dX8_secondsLeft_10 rfl (lv_at hl 0 rfl) ?_
    refine x_callVP X hK hw (k := o) (As := []) (rest := []) (k_X8_isPrepared hI o a h sn tx k nr (by omega) hF h2 (by omega)) (x_cwV yX8_isPrepared cX8_isPrepared 1 (some .boolean) 0 X q923 q925 qs18 q14 q926 hd_X8_isPrepared ⟨Nat.le_of_ble_eq_true rfl, Nat.le_of_ble_eq_true rfl⟩) (by omega) hF.1 rfl rfl hl.1 rfl (Nat.le_of_ble_eq_true rfl) dX8_secondsLeft_11 ⟨Nat.le_of_ble_eq_true rfl, Nat.le_of_ble_eq_true rfl⟩ (fun H locs hw => ?_)
    refine lv_if_eq (tgt := 26) X.1 X.2.1 dX8_secondsLeft_14 (by decide) (fun c4 => ?_) (fun c4 => ?_)
    · replace c4 := bI_z c4
      refine lv_bipush (v := (-4)) X.1 X.2.1 dX8_secondsLeft_26 (by decide) ?_
      exact x_iret X hr hlk hK hw (v := (-4)) rfl (⟨by rw [s_X8_secondsLeft, if_pos c1, if_neg c4], rfl⟩) dX8_secondsLeft_28
    · replace c4 := bI_nz c4
      have hn := c4.1
      refine lv_aload_n X.1 X.2.1 dX8_secondsLeft_17 rfl (lv_at hl 0 rfl) ?_
      refine lv_iload_n X.1 X.2.1 dX8_secondsLeft_18 rfl (lv_at hl 1 rfl) ?_
      refine x_callVP X hK hw (k := o) (As := [.int (nI x.toNatClampNeg)]) (rest := []) (k_X8_status hI o a h sn tx k x.toNatClampNeg nr (by omega) hF h2 (by omega) hn (by omega)) (x_cwV yX8_status cX8_status 2 (some .int) 1 X q980 q982 qs28 q14 q983 hd_X8_status ⟨Nat.le_of_ble_eq_true rfl, Nat.le_of_ble_eq_true rfl⟩) (by omega) hF.1 rfl rfl hl.1 rfl (Nat.le_of_ble_eq_true rfl) dX8_secondsLeft_19 ⟨Nat.le_of_ble_eq_true rfl, Nat.le_of_ble_eq_true rfl⟩ (fun H locs hw => ?_)
      refine lv_iconst (v := nI 2) X.1 X.2.1 dX8_secondsLeft_22 (by decide) ?_
      refine lv_icmp_eq (tgt := 29) X.1 X.2.1 dX8_secondsLeft_23 (by decide) (fun c5 => ?_) (fun c5 => ?_)
      · refine lv_aload_n X.1 X.2.1 dX8_secondsLeft_29 rfl (lv_at hl 0 rfl) ?_
        refine lv_aload_n X.1 X.2.1 dX8_secondsLeft_30 rfl (lv_at hl 0 rfl) ?_
        refine x_callVP X hK hw (k := o) (As := []) (rest := [.ref (ad o)]) (k_X8_latest hI o a h sn tx k nr (by omega) hF h2 (by omega) hn) (x_cwV yX8_latest cX8_latest 1 (some .int) 0 X q927 q929 qs19 q14 q930 hd_X8_latest ⟨Nat.le_of_ble_eq_true rfl, Nat.le_of_ble_eq_true rfl⟩) (by omega) hF.1 rfl rfl hl.1 rfl (Nat.le_of_ble_eq_true rfl) dX8_secondsLeft_31 ⟨Nat.le_of_ble_eq_true rfl, Nat.le_of_ble_eq_true rfl⟩ (fun H locs hw => ?_)
        refine x_callVP X hK hw (k := o) (As := [.int (nI (nr - 1))]) (rest := []) (k_X8_bestIn hI o a h sn tx k (nr - 1) nb nr np nc (by omega) hF hM (by omega)) (x_cwV yX8_bestIn cX8_bestIn 4 (some .int) 1 X q1204 q1206 qs65 q14 q1207 hd_X8_bestIn ⟨Nat.le_of_ble_eq_true rfl, Nat.le_of_ble_eq_true rfl⟩) (by omega) hF.1 rfl rfl hl.1 rfl (Nat.le_of_ble_eq_true rfl) dX8_secondsLeft_34 ⟨Nat.le_of_ble_eq_true rfl, Nat.le_of_ble_eq_true rfl⟩ (fun H locs hw => ?_)
        refine lv_istore_n (lv' := [(2, .int (oI (m_bst a (nr - 1) nb))), (0, .ref (ad o)), (1, .int (nI x.toNatClampNeg))]) X.1 X.2.1 dX8_secondsLeft_37 rfl hl (by decide) rfl (fun ls hl => ?_)
        obtain ⟨fo, he⟩ : ∃ y, y = m_bst a (nr - 1) nb := ⟨_, rfl⟩
        rw [← he] at hl
        rcases fo with _ | j
        · replace hl : lv_has ls 5 [(2, .int ((-5))), (0, .ref (ad o)), (1, .int (nI x.toNatClampNeg))] := hl
          refine lv_iload_n X.1 X.2.1 dX8_secondsLeft_38 rfl (lv_at hl 0 rfl) ?_
          refine lv_bipush (v := (-5)) X.1 X.2.1 dX8_secondsLeft_39 (by decide) ?_
          refine lv_icmp_ne (tgt := 48) X.1 X.2.1 dX8_secondsLeft_41 (by decide) (fun c6 => ?_) (fun c6 => ?_)
          · exact absurd rfl c6
          · refine lv_iconst (v := nI 0) X.1 X.2.1 dX8_secondsLeft_44 (by decide) ?_
            refine lv_goto (tgt := 67) X.1 X.2.1 dX8_secondsLeft_45 (by decide) ?_
            refine lv_istore_n (lv' := [(3, .int (nI 0)), (2, .int ((-5))), (0, .ref (ad o)), (1, .int (nI x.toNatClampNeg))]) X.1 X.2.1 dX8_secondsLeft_67 rfl hl (by decide) rfl (fun ls hl => ?_)
            refine lv_iload_n X.1 X.2.1 dX8_secondsLeft_68 rfl (lv_at hl 0 rfl) ?_
            refine lv_if_ne (tgt := 75) X.1 X.2.1 dX8_secondsLeft_69 (by decide) (fun c7 => ?_) (fun c7 => ?_)
            · exact absurd rfl c7
            · refine lv_bipush (v := (-5)) X.1 X.2.1 dX8_secondsLeft_72 (by decide) ?_
              exact x_iret X hr hlk hK hw (v := (-5)) rfl (⟨by rw [s_X8_secondsLeft, if_pos c1, if_pos c4, if_pos c5, if_pos he.symm], rfl⟩) dX8_secondsLeft_74
        · have hj := m_bst_lt a (nr - 1) nb j he.symm
          have hjj := m_bj_of he
          rw [hjj] at hl hj
          replace hl : lv_has ls 5 [(2, .int (nI ((m_bj a (nr - 1) nb)))), (0, .ref (ad o)), (1, .int (nI x.toNatClampNeg))] := hl
          refine lv_iload_n X.1 X.2.1 dX8_secondsLeft_38 rfl (lv_at hl 0 rfl) ?_
          refine lv_bipush (v := (-5)) X.1 X.2.1 dX8_secondsLeft_39 (by decide) ?_
          refine lv_icmp_ne (tgt := 48) X.1 X.2.1 dX8_secondsLeft_41 (by decide) (fun c8 => ?_) (fun c8 => ?_)
          · refine lv_aload_n X.1 X.2.1 dX8_secondsLeft_48 rfl (lv_at hl 1 rfl) ?_
            refine lv_aload_n X.1 X.2.1 dX8_secondsLeft_49 rfl (lv_at hl 1 rfl) ?_
            refine x_callVP X hK hw (k := o) (As := []) (rest := [.ref (ad o)]) (k_X8_latest hI o a h sn tx k nr (by omega) hF h2 (by omega) hn) (x_cwV yX8_latest cX8_latest 1 (some .int) 0 X q927 q929 qs19 q14 q930 hd_X8_latest ⟨Nat.le_of_ble_eq_true rfl, Nat.le_of_ble_eq_true rfl⟩) (by omega) hF.1 rfl rfl hl.1 rfl (Nat.le_of_ble_eq_true rfl) dX8_secondsLeft_50 ⟨Nat.le_of_ble_eq_true rfl, Nat.le_of_ble_eq_true rfl⟩ (fun H locs hw => ?_)
            refine lv_iload_n X.1 X.2.1 dX8_secondsLeft_53 rfl (lv_at hl 0 rfl) ?_
            refine x_callVP X hK hw (k := o) (As := [.int (nI (nr - 1)), .int (nI ((m_bj a (nr - 1) nb)))]) (rest := []) (k_X8_corrected hI o a h sn tx k (nr - 1) ((m_bj a (nr - 1) nb)) nb nr np nc (by omega) hF hM (by omega) (by omega)) (x_cwV yX8_corrected cX8_corrected 3 (some .int) 2 X q1148 q1150 qs54 q14 q1151 hd_X8_corrected ⟨Nat.le_of_ble_eq_true rfl, Nat.le_of_ble_eq_true rfl⟩) (by omega) hF.1 rfl rfl hl.1 rfl (Nat.le_of_ble_eq_true rfl) dX8_secondsLeft_54 ⟨Nat.le_of_ble_eq_true rfl, Nat.le_of_ble_eq_true rfl⟩ (fun H locs hw => ?_)
            refine lv_aload_n X.1 X.2.1 dX8_secondsLeft_57 rfl (lv_at hl 1 rfl) ?_
            refine x_get X hK hw (C := RX8) (T := TX8) (nf := 12) (k := o) (by omega) hF.1 rfl inX8 0 (by decide) q868 (fun _ h9 => h9) rfl dX8_secondsLeft_58 ?_
            refine lv_bipush (v := nI 7) X.1 X.2.1 dX8_secondsLeft_61 (by decide) ?_
            refine lv_iload_n X.1 X.2.1 dX8_secondsLeft_63 rfl (lv_at hl 2 rfl) ?_
            refine lv_iadd X.1 X.2.1 dX8_secondsLeft_64 ?_
            refine x_top (nI_add _ _) ?_
            refine x_ialdN X hK hw (k := (o + 1)) (by omega) hF.2.1 (i := nI (7 + x.toNatClampNeg)) (j := 7 + x.toNatClampNeg) rfl (by omega) (by omega) dX8_secondsLeft_65 ?_
            refine lv_imul X.1 X.2.1 dX8_secondsLeft_66 ?_
            refine lv_istore_n (lv' := [(3, .int ((m_co a (nr - 1) ((m_bj a (nr - 1) nb))) * (a (7 + x.toNatClampNeg)))), (2, .int (nI ((m_bj a (nr - 1) nb)))), (0, .ref (ad o)), (1, .int (nI x.toNatClampNeg))]) X.1 X.2.1 dX8_secondsLeft_67 rfl hl (by decide) rfl (fun ls hl => ?_)
            refine lv_iload_n X.1 X.2.1 dX8_secondsLeft_68 rfl (lv_at hl 0 rfl) ?_
            refine lv_if_ne (tgt := 75) X.1 X.2.1 dX8_secondsLeft_69 (by decide) (fun c9 => ?_) (fun c9 => ?_)
            · refine lv_iload_n X.1 X.2.1 dX8_secondsLeft_75 rfl (lv_at hl 0 rfl) ?_
              refine lv_iconst (v := nI 1) X.1 X.2.1 dX8_secondsLeft_76 (by decide) ?_
              refine lv_isub X.1 X.2.1 dX8_secondsLeft_77 ?_
              refine lv_bipush (v := nI 100) X.1 X.2.1 dX8_secondsLeft_78 (by decide) ?_
              refine lv_idiv X.1 X.2.1 dX8_secondsLeft_80 (by decide) ?_
              refine lv_aload_n X.1 X.2.1 dX8_secondsLeft_81 rfl (lv_at hl 2 rfl) ?_
              refine x_get X hK hw (C := RX8) (T := TX8) (nf := 12) (k := o) (by omega) hF.1 rfl inX8 0 (by decide) q868 (fun _ h9 => h9) rfl dX8_secondsLeft_82 ?_
              refine lv_iconst (v := nI 0) X.1 X.2.1 dX8_secondsLeft_85 (by decide) ?_
              refine x_ialdN X hK hw (k := (o + 1)) (by omega) hF.2.1 (i := nI 0) (j := 0) rfl (by omega) (by omega) dX8_secondsLeft_86 ?_
              refine lv_aload_n X.1 X.2.1 dX8_secondsLeft_87 rfl (lv_at hl 2 rfl) ?_
              refine x_callVP X hK hw (k := o) (As := []) (rest := [.int (a 0), .int ((((m_co a (nr - 1) ((m_bj a (nr - 1) nb))) * (a (7 + x.toNatClampNeg))) - (nI 1)) / (nI 100))]) (k_X8_start hI o a h sn tx k nr (by omega) hF h2 (by omega) hn) (x_cwV yX8_start cX8_start 1 (some .int) 0 X q947 q949 qs23 q14 q950 hd_X8_start ⟨Nat.le_of_ble_eq_true rfl, Nat.le_of_ble_eq_true rfl⟩) (by omega) hF.1 rfl rfl hl.1 rfl (Nat.le_of_ble_eq_true rfl) dX8_secondsLeft_88 ⟨Nat.le_of_ble_eq_true rfl, Nat.le_of_ble_eq_true rfl⟩ (fun H locs hw => ?_)
              refine lv_isub X.1 X.2.1 dX8_secondsLeft_91 ?_
              refine lv_aload_n X.1 X.2.1 dX8_secondsLeft_92 rfl (lv_at hl 2 rfl) ?_
              refine lv_aload_n X.1 X.2.1 dX8_secondsLeft_93 rfl (lv_at hl 2 rfl) ?_
              refine x_callVP X hK hw (k := o) (As := []) (rest := [.ref (ad o), .int ((a 0) - (m_r a (nr - 1) 2)), .int ((((m_co a (nr - 1) ((m_bj a (nr - 1) nb))) * (a (7 + x.toNatClampNeg))) - (nI 1)) / (nI 100))]) (k_X8_latest hI o a h sn tx k nr (by omega) hF h2 (by omega) hn) (x_cwV yX8_latest cX8_latest 1 (some .int) 0 X q927 q929 qs19 q14 q930 hd_X8_latest ⟨Nat.le_of_ble_eq_true rfl, Nat.le_of_ble_eq_true rfl⟩) (by omega) hF.1 rfl rfl hl.1 rfl (Nat.le_of_ble_eq_true rfl) dX8_secondsLeft_94 ⟨Nat.le_of_ble_eq_true rfl, Nat.le_of_ble_eq_true rfl⟩ (fun H locs hw => ?_)
              refine lv_iload_n X.1 X.2.1 dX8_secondsLeft_97 rfl (lv_at hl 3 rfl) ?_
              refine lv_iconst (v := nI 3) X.1 X.2.1 dX8_secondsLeft_98 (by decide) ?_
              refine x_callVP X hK hw (k := o) (As := [.int (nI (nr - 1)), .int (nI x.toNatClampNeg), .int (nI 3)]) (rest := [.int ((a 0) - (m_r a (nr - 1) 2)), .int ((((m_co a (nr - 1) ((m_bj a (nr - 1) nb))) * (a (7 + x.toNatClampNeg))) - (nI 1)) / (nI 100))]) (k_X8_of hI o a h sn tx k (nr - 1) x.toNatClampNeg 3 (by omega) hF (by omega)) (x_cwV yX8_of cX8_of 4 (some .int) 3 X q984 q986 qs29 q14 q987 hd_X8_of ⟨Nat.le_of_ble_eq_true rfl, Nat.le_of_ble_eq_true rfl⟩) (by omega) hF.1 rfl rfl hl.1 rfl (Nat.le_of_ble_eq_true rfl) dX8_secondsLeft_99 ⟨Nat.le_of_ble_eq_true rfl, Nat.le_of_ble_eq_true rfl⟩ (fun H locs hw => ?_)
              refine lv_iadd X.1 X.2.1 dX8_secondsLeft_102 ?_
              refine lv_isub X.1 X.2.1 dX8_secondsLeft_103 ?_
              refine lv_istore (lv' := [(4, .int (((((m_co a (nr - 1) ((m_bj a (nr - 1) nb))) * (a (7 + x.toNatClampNeg))) - (nI 1)) / (nI 100)) - (((a 0) - (m_r a (nr - 1) 2)) + (m_e a (nr - 1) x.toNatClampNeg 3)))), (3, .int ((m_co a (nr - 1) ((m_bj a (nr - 1) nb))) * (a (7 + x.toNatClampNeg)))), (2, .int (nI ((m_bj a (nr - 1) nb)))), (0, .ref (ad o)), (1, .int (nI x.toNatClampNeg))]) X.1 X.2.1 dX8_secondsLeft_104 hl (by decide) rfl (fun ls hl => ?_)
              refine lv_iload X.1 X.2.1 dX8_secondsLeft_106 (lv_at hl 0 rfl) ?_
              refine lv_if_ge (tgt := 116) X.1 X.2.1 dX8_secondsLeft_108 (by decide) (fun c10 => ?_) (fun c10 => ?_)
              · refine lv_iload X.1 X.2.1 dX8_secondsLeft_116 (lv_at hl 0 rfl) ?_
                exact x_iret X hr hlk hK hw (v := ((((m_co a (nr - 1) ((m_bj a (nr - 1) nb))) * (a (7 + x.toNatClampNeg))) - (nI 1)) / (nI 100)) - (((a 0) - (m_r a (nr - 1) 2)) + (m_e a (nr - 1) x.toNatClampNeg 3))) rfl (⟨by rw [s_X8_secondsLeft, if_pos c1, if_pos c4, if_pos c5, if_neg (fun q => by rw [q] at he; cases he), if_neg c9, if_pos c10], rfl⟩) dX8_secondsLeft_118
              · refine lv_bipush (v := (-5)) X.1 X.2.1 dX8_secondsLeft_111 (by decide) ?_
                refine lv_goto (tgt := 118) X.1 X.2.1 dX8_secondsLeft_113 (by decide) ?_
                exact x_iret X hr hlk hK hw (v := (-5)) rfl (⟨by rw [s_X8_secondsLeft, if_pos c1, if_pos c4, if_pos c5, if_neg (fun q => by rw [q] at he; cases he), if_neg c9, if_neg c10], rfl⟩) dX8_secondsLeft_118
            · refine lv_bipush (v := (-5)) X.1 X.2.1 dX8_secondsLeft_72 (by decide) ?_
              exact x_iret X hr hlk hK hw (v := (-5)) rfl (⟨by rw [s_X8_secondsLeft, if_pos c1, if_pos c4, if_pos c5, if_neg (fun q => by rw [q] at he; cases he), if_pos c9], rfl⟩) dX8_secondsLeft_74
          · exact absurd c8 (nI_ne5 (by omega))
      · refine lv_bipush (v := (-4)) X.1 X.2.1 dX8_secondsLeft_26 (by decide) ?_
        exact x_iret X hr hlk hK hw (v := (-4)) rfl (⟨by rw [s_X8_secondsLeft, if_pos c1, if_pos c4, if_neg c5], rfl⟩) dX8_secondsLeft_28
  · replace c1 := bI_z c1
    refine lv_iconst (v := (-1)) X.1 X.2.1 dX8_secondsLeft_8 (by decide) ?_
    exact x_iret X hr hlk hK hw (v := (-1)) rfl (⟨by rw [s_X8_secondsLeft, if_neg c1], rfl⟩) dX8_secondsLeft_9
theorem m_cl_ly {a : Nat → Int32} {r b : Nat} {v : Int32} : ∀ i, i ≤ 6 → m_cl (ly a r b 4 v) i = m_cl a i := by
  intro i
  induction i with
  | zero => intro _; rfl
  | succ i ih => intro h; rw [m_cl, m_cl, ih (by omega), m_r, m_r, ly_lo (by omega)]
theorem MI_ly {a : Nat → Int32} {r b nb nr np nc : Nat} {v : Int32} (h : MI a nb nr np nc) : MI (ly a r b 4 v) nb nr np nc := by
  obtain ⟨h1, hb9, h2, hr6, h3, hp10, hcl, hnc, hrt, hpr⟩ := h
  exact ⟨(ly_lo (by omega)).trans h1, hb9, (ly_lo (by omega)).trans h2, hr6, (ly_lo (by omega)).trans h3, hp10, (m_cl_ly nr hr6).trans hcl, hnc, fun q hq => by rw [ly_lo (by omega)]; exact hrt q hq, hpr⟩
def s_X8_rankIfDisqualified (a : Nat → Int32) (h : Nat → Int32) (sn : Nat → Int32) (tx : Nat → Int32) (k : Nat → Int32) (x : Int32) (y : Int32) (nb : Nat) (nc : Nat) : Int32 × (Nat → Int32) × (Nat → Int32) × (Nat → Int32) × (Nat → Int32) × (Nat → Int32) := (if ¬ x < nI 0 ∧ ¬ a 1 - nI 1 < x then (if ¬ y < nI 0 ∧ ¬ a 2 - nI 1 < y then (if (m_r a y.toNatClampNeg 3) = 0 then ((-4), a, h, sn, tx, k) else (m_rk ((ly a y.toNatClampNeg x.toNatClampNeg 4 (nI 1))) x.toNatClampNeg nb nc nb, (ly ((ly a y.toNatClampNeg x.toNatClampNeg 4 (nI 1))) y.toNatClampNeg x.toNatClampNeg 4 (m_e a y.toNatClampNeg x.toNatClampNeg 4)), h, sn, tx, k)) else ((-1), a, h, sn, tx, k)) else ((-1), a, h, sn, tx, k))
set_option maxHeartbeats 4000000 in
set_option maxRecDepth 100000 in
theorem k_X8_rankIfDisqualified {l : Launch} {D : va_G} {cI cB cS : ClassId} {ad : Nat → Nat} {N : Nat} {F : Nat → va_E} (hI : iN ad N) (o : Nat) (a : Nat → Int32) (h : Nat → Int32) (sn : Nat → Int32) (tx : Nat → Int32) (k : Nat → Int32) (x : Int32) (y : Int32) (nb : Nat) (nr : Nat) (np : Nat) (nc : Nat) (hc5 : o + 5 ≤ N) (hF : MoF ad cI F o a h sn tx k) (hM : MI a nb nr np nc) : Ci l D cI cB cS ad N yX8_rankIfDisqualified cX8_rankIfDisqualified 5 (some .int) 9 207 [.ref (ad o), .int x, .int y] F (fun r F' => r = (s_X8_rankIfDisqualified a h sn tx k x y nb nc).1 ∧ MoF ad cI F' o ((s_X8_rankIfDisqualified a h sn tx k x y nb nc).2.1) ((s_X8_rankIfDisqualified a h sn tx k x y nb nc).2.2.1) ((s_X8_rankIfDisqualified a h sn tx k x y nb nc).2.2.2.1) ((s_X8_rankIfDisqualified a h sn tx k x y nb nc).2.2.2.2.1) ((s_X8_rankIfDisqualified a h sn tx k x y nb nc).2.2.2.2.2) ∧ Fr F F' o (o + 5)) := by
  refine x_met (by decide +kernel) (Nat.le_of_ble_eq_true rfl) ?_
  intro p e s m below meth c X hr hlk hK hw ls hl
  replace hl : lv_has ls 5 [(0, .ref (ad o)), (1, .int x), (2, .int y)] := hl
  have hfr : Fr F F (o) (o + 5) := Fr.rf
  have ⟨h1, hb9, h2, hr6, h3, hp10, hcl, hnc, hrt, hpr⟩ := hM
  refine lv_aload_n X.1 X.2.1 dX8_rankIfDisqualified_0 rfl (lv_at hl 0 rfl) ?_
  refine lv_iload_n X.1 X.2.1 dX8_rankIfDisqualified_1 rfl (lv_at hl 1 rfl) ?_
  refine x_callVP X hK hw (k := o) (As := [.int x]) (rest := []) (k_X8_isBoat hI o a h sn tx k x (by omega) hF) (x_cwV yX8_isBoat cX8_isBoat 2 (some .boolean) 1 X q976 q978 qs27 q14 q979 hd_X8_isBoat ⟨Nat.le_of_ble_eq_true rfl, Nat.le_of_ble_eq_true rfl⟩) (by omega) hF.1 rfl rfl hl.1 rfl (Nat.le_of_ble_eq_true rfl) dX8_rankIfDisqualified_2 ⟨Nat.le_of_ble_eq_true rfl, Nat.le_of_ble_eq_true rfl⟩ (fun H locs hw => ?_)
  refine lv_if_eq (tgt := 16) X.1 X.2.1 dX8_rankIfDisqualified_5 (by decide) (fun c1 => ?_) (fun c1 => ?_)
  · replace c1 := bI_z c1
    refine lv_iconst (v := (-1)) X.1 X.2.1 dX8_rankIfDisqualified_16 (by decide) ?_
    exact x_iret X hr hlk hK hw (v := (-1)) rfl (auto_mo (by rw [s_X8_rankIfDisqualified, if_neg c1] : s_X8_rankIfDisqualified a h sn tx k x y nb nc = ((-1), a, h, sn, tx, k)) hF hfr) dX8_rankIfDisqualified_17
  · replace c1 := bI_nz c1
    have ⟨hj2, hx3⟩ := isb_of (n := nb) c1 h1 (by omega)
    rw [hx3] at hl
    replace hl : lv_has ls 5 [(0, .ref (ad o)), (1, .int (nI x.toNatClampNeg)), (2, .int y)] := hl
    refine lv_aload_n X.1 X.2.1 dX8_rankIfDisqualified_8 rfl (lv_at hl 0 rfl) ?_
    refine lv_iload_n X.1 X.2.1 dX8_rankIfDisqualified_9 rfl (lv_at hl 2 rfl) ?_
    refine x_callVP X hK hw (k := o) (As := [.int y]) (rest := []) (k_X8_isRace hI o a h sn tx k y (by omega) hF) (x_cwV yX8_isRace cX8_isRace 2 (some .boolean) 1 X q1140 q1142 qs52 q14 q1143 hd_X8_isRace ⟨Nat.le_of_ble_eq_true rfl, Nat.le_of_ble_eq_true rfl⟩) (by omega) hF.1 rfl rfl hl.1 rfl (Nat.le_of_ble_eq_true rfl) dX8_rankIfDisqualified_10 ⟨Nat.le_of_ble_eq_true rfl, Nat.le_of_ble_eq_true rfl⟩ (fun H locs hw => ?_)
    refine lv_if_ne (tgt := 18) X.1 X.2.1 dX8_rankIfDisqualified_13 (by decide) (fun c4 => ?_) (fun c4 => ?_)
    · replace c4 := bI_nz c4
      have ⟨hj5, hx6⟩ := isb_of (n := nr) c4 h2 (by omega)
      rw [hx6] at hl
      replace hl : lv_has ls 5 [(0, .ref (ad o)), (1, .int (nI x.toNatClampNeg)), (2, .int (nI y.toNatClampNeg))] := hl
      refine lv_aload_n X.1 X.2.1 dX8_rankIfDisqualified_18 rfl (lv_at hl 0 rfl) ?_
      refine lv_iload_n X.1 X.2.1 dX8_rankIfDisqualified_19 rfl (lv_at hl 2 rfl) ?_
      refine lv_iconst (v := nI 3) X.1 X.2.1 dX8_rankIfDisqualified_20 (by decide) ?_
      refine x_callVP X hK hw (k := o) (As := [.int (nI y.toNatClampNeg), .int (nI 3)]) (rest := []) (k_X8_ofRace hI o a h sn tx k y.toNatClampNeg 3 (by omega) hF (by omega)) (x_cwV yX8_ofRace cX8_ofRace 3 (some .int) 2 X q931 q933 qs20 q14 q934 hd_X8_ofRace ⟨Nat.le_of_ble_eq_true rfl, Nat.le_of_ble_eq_true rfl⟩) (by omega) hF.1 rfl rfl hl.1 rfl (Nat.le_of_ble_eq_true rfl) dX8_rankIfDisqualified_21 ⟨Nat.le_of_ble_eq_true rfl, Nat.le_of_ble_eq_true rfl⟩ (fun H locs hw => ?_)
      refine lv_if_ne (tgt := 30) X.1 X.2.1 dX8_rankIfDisqualified_24 (by decide) (fun c7 => ?_) (fun c7 => ?_)
      · refine lv_aload_n X.1 X.2.1 dX8_rankIfDisqualified_30 rfl (lv_at hl 0 rfl) ?_
        refine lv_iload_n X.1 X.2.1 dX8_rankIfDisqualified_31 rfl (lv_at hl 2 rfl) ?_
        refine lv_iload_n X.1 X.2.1 dX8_rankIfDisqualified_32 rfl (lv_at hl 1 rfl) ?_
        refine lv_iconst (v := nI 4) X.1 X.2.1 dX8_rankIfDisqualified_33 (by decide) ?_
        refine x_callVP X hK hw (k := o) (As := [.int (nI y.toNatClampNeg), .int (nI x.toNatClampNeg), .int (nI 4)]) (rest := []) (k_X8_of hI o a h sn tx k y.toNatClampNeg x.toNatClampNeg 4 (by omega) hF (by omega)) (x_cwV yX8_of cX8_of 4 (some .int) 3 X q984 q986 qs29 q14 q987 hd_X8_of ⟨Nat.le_of_ble_eq_true rfl, Nat.le_of_ble_eq_true rfl⟩) (by omega) hF.1 rfl rfl hl.1 rfl (Nat.le_of_ble_eq_true rfl) dX8_rankIfDisqualified_34 ⟨Nat.le_of_ble_eq_true rfl, Nat.le_of_ble_eq_true rfl⟩ (fun H locs hw => ?_)
        refine lv_istore_n (lv' := [(3, .int (m_e a y.toNatClampNeg x.toNatClampNeg 4)), (0, .ref (ad o)), (1, .int (nI x.toNatClampNeg)), (2, .int (nI y.toNatClampNeg))]) X.1 X.2.1 dX8_rankIfDisqualified_37 rfl hl (by decide) rfl (fun ls hl => ?_)
        refine lv_aload_n X.1 X.2.1 dX8_rankIfDisqualified_38 rfl (lv_at hl 1 rfl) ?_
        refine lv_iload_n X.1 X.2.1 dX8_rankIfDisqualified_39 rfl (lv_at hl 3 rfl) ?_
        refine lv_iload_n X.1 X.2.1 dX8_rankIfDisqualified_40 rfl (lv_at hl 2 rfl) ?_
        refine lv_iconst (v := nI 4) X.1 X.2.1 dX8_rankIfDisqualified_41 (by decide) ?_
        refine lv_iconst (v := nI 1) X.1 X.2.1 dX8_rankIfDisqualified_42 (by decide) ?_
        refine x_callVv X hK hw (k := o) (As := [.int (nI y.toNatClampNeg), .int (nI x.toNatClampNeg), .int (nI 4), .int (nI 1)]) (rest := []) (k_X8_lay hI o a h sn tx k y.toNatClampNeg x.toNatClampNeg 4 (nI 1) (by omega) hF (by omega)) (x_cwV yX8_lay cX8_lay 5 none 4 X q939 q941 qs22 q14 q942 hd_X8_lay ⟨Nat.le_of_ble_eq_true rfl, Nat.le_of_ble_eq_true rfl⟩) (by omega) hF.1 rfl rfl hl.1 rfl (Nat.le_of_ble_eq_true rfl) dX8_rankIfDisqualified_43 ⟨Nat.le_of_ble_eq_true rfl, Nat.le_of_ble_eq_true rfl⟩ (fun F8 H locs hp hw => ?_)
        obtain ⟨hF9, hr10⟩ := hp
        replace hfr := hfr.tr hr10 (by omega) (by omega)
        refine lv_aload_n X.1 X.2.1 dX8_rankIfDisqualified_46 rfl (lv_at hl 1 rfl) ?_
        refine lv_iload_n X.1 X.2.1 dX8_rankIfDisqualified_47 rfl (lv_at hl 2 rfl) ?_
        refine x_callVP X hK hw (k := o) (As := [.int (nI x.toNatClampNeg)]) (rest := []) (k_X8_rank hI o ((ly a y.toNatClampNeg x.toNatClampNeg 4 (nI 1))) h sn tx k x.toNatClampNeg nb nr np nc (by omega) hF9 (MI_ly hM) (by omega)) (x_cwV yX8_rank cX8_rank 4 (some .int) 1 X q1184 q1186 qs62 q14 q1187 hd_X8_rank ⟨Nat.le_of_ble_eq_true rfl, Nat.le_of_ble_eq_true rfl⟩) (by omega) hF9.1 rfl rfl hl.1 rfl (Nat.le_of_ble_eq_true rfl) dX8_rankIfDisqualified_48 ⟨Nat.le_of_ble_eq_true rfl, Nat.le_of_ble_eq_true rfl⟩ (fun H locs hw => ?_)
        refine lv_istore (lv' := [(4, .int (m_rk ((ly a y.toNatClampNeg x.toNatClampNeg 4 (nI 1))) x.toNatClampNeg nb nc nb)), (3, .int (m_e a y.toNatClampNeg x.toNatClampNeg 4)), (0, .ref (ad o)), (1, .int (nI x.toNatClampNeg)), (2, .int (nI y.toNatClampNeg))]) X.1 X.2.1 dX8_rankIfDisqualified_51 hl (by decide) rfl (fun ls hl => ?_)
        refine lv_aload_n X.1 X.2.1 dX8_rankIfDisqualified_53 rfl (lv_at hl 2 rfl) ?_
        refine lv_iload_n X.1 X.2.1 dX8_rankIfDisqualified_54 rfl (lv_at hl 4 rfl) ?_
        refine lv_iload_n X.1 X.2.1 dX8_rankIfDisqualified_55 rfl (lv_at hl 3 rfl) ?_
        refine lv_iconst (v := nI 4) X.1 X.2.1 dX8_rankIfDisqualified_56 (by decide) ?_
        refine lv_iload_n X.1 X.2.1 dX8_rankIfDisqualified_57 rfl (lv_at hl 1 rfl) ?_
        refine x_callVv X hK hw (k := o) (As := [.int (nI y.toNatClampNeg), .int (nI x.toNatClampNeg), .int (nI 4), .int (m_e a y.toNatClampNeg x.toNatClampNeg 4)]) (rest := []) (k_X8_lay hI o ((ly a y.toNatClampNeg x.toNatClampNeg 4 (nI 1))) h sn tx k y.toNatClampNeg x.toNatClampNeg 4 (m_e a y.toNatClampNeg x.toNatClampNeg 4) (by omega) hF9 (by omega)) (x_cwV yX8_lay cX8_lay 5 none 4 X q939 q941 qs22 q14 q942 hd_X8_lay ⟨Nat.le_of_ble_eq_true rfl, Nat.le_of_ble_eq_true rfl⟩) (by omega) hF9.1 rfl rfl hl.1 rfl (Nat.le_of_ble_eq_true rfl) dX8_rankIfDisqualified_58 ⟨Nat.le_of_ble_eq_true rfl, Nat.le_of_ble_eq_true rfl⟩ (fun F11 H locs hp hw => ?_)
        obtain ⟨hF12, hr13⟩ := hp
        replace hfr := hfr.tr hr13 (by omega) (by omega)
        refine lv_iload X.1 X.2.1 dX8_rankIfDisqualified_61 (lv_at hl 0 rfl) ?_
        exact x_iret X hr hlk hK hw (v := m_rk ((ly a y.toNatClampNeg x.toNatClampNeg 4 (nI 1))) x.toNatClampNeg nb nc nb) rfl (auto_mo (by rw [s_X8_rankIfDisqualified, if_pos c1, if_pos c4, if_neg c7] : s_X8_rankIfDisqualified a h sn tx k x y nb nc = (m_rk ((ly a y.toNatClampNeg x.toNatClampNeg 4 (nI 1))) x.toNatClampNeg nb nc nb, (ly ((ly a y.toNatClampNeg x.toNatClampNeg 4 (nI 1))) y.toNatClampNeg x.toNatClampNeg 4 (m_e a y.toNatClampNeg x.toNatClampNeg 4)), h, sn, tx, k)) hF12 hfr) dX8_rankIfDisqualified_63
      · refine lv_bipush (v := (-4)) X.1 X.2.1 dX8_rankIfDisqualified_27 (by decide) ?_
        exact x_iret X hr hlk hK hw (v := (-4)) rfl (auto_mo (by rw [s_X8_rankIfDisqualified, if_pos c1, if_pos c4, if_pos c7] : s_X8_rankIfDisqualified a h sn tx k x y nb nc = ((-4), a, h, sn, tx, k)) hF hfr) dX8_rankIfDisqualified_29
    · replace c4 := bI_z c4
      refine lv_iconst (v := (-1)) X.1 X.2.1 dX8_rankIfDisqualified_16 (by decide) ?_
      exact x_iret X hr hlk hK hw (v := (-1)) rfl (auto_mo (by rw [s_X8_rankIfDisqualified, if_pos c1, if_neg c4] : s_X8_rankIfDisqualified a h sn tx k x y nb nc = ((-1), a, h, sn, tx, k)) hF hfr) dX8_rankIfDisqualified_17
