theorem nI_ne5 {j : Nat} (h : j < 2 ^ 31) : ¬ nI j = (-5) := by
  intro q
  have := congrArg Int32.toInt q
  rw [nI_toInt h] at this
  have h2 : ((-5 : Int32)).toInt = -5 := by decide
  omega
def m_e (s : Nat → Int32) (r b w : Nat) : Int32 := s (80 + 6 * (9 * r + b) + w)
def m_r (s : Nat → Int32) (r w : Nat) : Int32 := s (16 + 4 * r + w)
def m_p (s : Nat → Int32) (p w : Nat) : Int32 := s (40 + 4 * p + w)
abbrev m_cnt (s : Nat → Int32) (r b : Nat) : Prop := m_e s r b 0 = nI 3 ∧ m_e s r b 4 = 0
def m_el (s : Nat → Int32) (r b : Nat) : Int32 := if m_e s r b 0 = nI 3 then m_e s r b 5 - m_r s r 2 + m_e s r b 3 else (-5)
def m_co (s : Nat → Int32) (r b : Nat) : Int32 := if m_e s r b 0 = nI 3 then nI 100 * m_el s r b / s (7 + b) else (-5)
def m_pl (s : Nat → Int32) (r b : Nat) : Nat → Int32
  | 0 => nI 1
  | i + 1 => if m_cnt s r i then (if m_co s r b ≤ m_co s r i then m_pl s r b i + nI 0 else m_pl s r b i + nI 1) else m_pl s r b i + nI 0
def m_place (s : Nat → Int32) (r b nb : Nat) : Int32 := if m_cnt s r b then m_pl s r b nb else (-5)
def m_pts (s : Nat → Int32) (r b nb : Nat) : Int32 := if m_place s r b nb = (-5) then (if m_e s r b 4 = nI 1 then s 1 + nI 2 else s 1 + nI 1) else m_place s r b nb
def m_cl (s : Nat → Int32) : Nat → Int32
  | 0 => nI 0
  | i + 1 => m_cl s i + m_r s i 3
def m_sum (s : Nat → Int32) (b nb : Nat) : Nat → Int32
  | 0 => nI 0
  | i + 1 => m_sum s b nb i + m_pts s i b nb
def oI (o : Option Nat) : Int32 := match o with | none => (-5) | some j => nI j
abbrev m_is (s : Nat → Int32) (nc : Nat) : Prop := 0 < s 6 ∧ ¬ nI nc < s 6
def m_lf (s : Nat → Int32) (b nb : Nat) : Nat → Option Nat
  | 0 => none
  | i + 1 => match m_lf s b nb i with
    | none => some i
    | some j => if m_pts s i b nb < m_pts s j b nb then some j else some i
def m_lo (s : Nat → Int32) (b nb nc : Nat) : Option Nat := if m_is s nc then m_lf s b nb nc else none
def m_tot (s : Nat → Int32) (b nb nc : Nat) : Int32 := match m_lo s b nb nc with | none => m_sum s b nb nc - nI 0 | some j => m_sum s b nb nc - m_pts s j b nb
def m_pof (s : Nat → Int32) (b nb : Nat) (w : Nat) : Nat → Int32
  | 0 => nI 0
  | i + 1 => if m_place s i b nb = nI w then m_pof s b nb w i + nI 1 else m_pof s b nb w i + nI 0
def m_by (s : Nat → Int32) (a b nb nc : Nat) : Nat → Int32
  | 0 => m_tot s b nb nc - m_tot s a nb nc
  | i + 1 => if m_by s a b nb nc i = 0 then m_pof s a nb (i + 1) nc - m_pof s b nb (i + 1) nc else m_by s a b nb nc i
def m_fin (s : Nat → Int32) (r : Nat) : Nat → Int32
  | 0 => nI 0
  | i + 1 => if m_e s r i 0 = nI 3 then m_fin s r i + nI 1 else m_fin s r i + nI 0
def m_out (s : Nat → Int32) (r : Nat) : Nat → Int32
  | 0 => nI 0
  | i + 1 => m_out s r i + m_e s r i 4
def m_bst (s : Nat → Int32) (r : Nat) : Nat → Option Nat
  | 0 => none
  | i + 1 => if m_cnt s r i then (match m_bst s r i with
    | none => some i
    | some j => if m_co s r j ≤ m_co s r i then some j else some i) else m_bst s r i
abbrev MI (s : Nat → Int32) (nb nr np nc : Nat) : Prop := s 1 = nI nb ∧ nb ≤ 9 ∧ s 2 = nI nr ∧ nr ≤ 6 ∧ s 3 = nI np ∧ np ≤ 10 ∧ m_cl s nr = nI nc ∧ nc ≤ nr ∧ (∀ b, b < nb → ¬ s (7 + b) = 0) ∧ (0 < np → 0 < nr)
theorem m_lf_lt (s : Nat → Int32) (b nb : Nat) : ∀ (i j : Nat), m_lf s b nb i = some j → j < i := by
  intro i
  induction i with
  | zero => intro j h; cases h
  | succ i ih =>
    intro j h
    simp only [m_lf] at h
    cases hp : m_lf s b nb i with
    | none => rw [hp] at h; simp only [Option.some.injEq] at h; omega
    | some j0 =>
      rw [hp] at h
      have := ih j0 hp
      simp only at h
      split at h <;> simp only [Option.some.injEq] at h <;> omega
theorem m_lo_lt {s : Nat → Int32} {b nb nc j : Nat} (h : m_lo s b nb nc = some j) : j < nc := by
  simp only [m_lo] at h
  split at h
  · exact m_lf_lt s b nb nc j h
  · cases h
theorem m_bst_lt (s : Nat → Int32) (r : Nat) : ∀ (i j : Nat), m_bst s r i = some j → j < i := by
  intro i
  induction i with
  | zero => intro j h; cases h
  | succ i ih =>
    intro j h
    simp only [m_bst] at h
    split at h
    · cases hp : m_bst s r i with
      | none => rw [hp] at h; simp only [Option.some.injEq] at h; omega
      | some j0 =>
        rw [hp] at h
        have := ih j0 hp
        simp only at h
        split at h <;> simp only [Option.some.injEq] at h <;> omega
    · have := ih j h; omega
set_option maxHeartbeats 4000000 in
set_option maxRecDepth 100000 in
theorem k_X8_in {l : Launch} {D : va_G} {cI cB cS : ClassId} {ad : Nat → Nat} {N : Nat} {F : Nat → va_E} (hI : iN ad N) (x : Int32) (y : Int32) (w : Int32)  : Ci l D cI cB cS ad N yX8_in cX8_in 3 (some .boolean) 0 0 [.int x, .int y, .int w] F (pP (bI (decide (¬ x < y ∧ ¬ w < x))) F) := by
  refine x_met (by decide +kernel) (Nat.le_of_ble_eq_true rfl) ?_
  intro p e s m below meth c X hr hlk hK hw ls hl
  replace hl : lv_has ls 3 [(0, .int x), (1, .int y), (2, .int w)] := hl
  refine lv_iload_n X.1 X.2.1 dX8_in_0 rfl (lv_at hl 0 rfl) ?_
  refine lv_iload_n X.1 X.2.1 dX8_in_1 rfl (lv_at hl 1 rfl) ?_
  refine lv_icmp_lt (tgt := 14) X.1 X.2.1 dX8_in_2 (by decide) (fun c1 => ?_) (fun c1 => ?_)
  · refine lv_iconst (v := nI 0) X.1 X.2.1 dX8_in_14 (by decide) ?_
    exact x_iret X hr hlk hK hw (v := nI 0) (by first | rfl | exact nr_b _ | decide) (⟨by simp [bI, c1], rfl⟩) dX8_in_15
  · refine lv_iload_n X.1 X.2.1 dX8_in_5 rfl (lv_at hl 0 rfl) ?_
    refine lv_iload_n X.1 X.2.1 dX8_in_6 rfl (lv_at hl 2 rfl) ?_
    refine lv_icmp_gt (tgt := 14) X.1 X.2.1 dX8_in_7 (by decide) (fun c2 => ?_) (fun c2 => ?_)
    · refine lv_iconst (v := nI 0) X.1 X.2.1 dX8_in_14 (by decide) ?_
      exact x_iret X hr hlk hK hw (v := nI 0) (by first | rfl | exact nr_b _ | decide) (⟨by simp [bI, c1, c2], rfl⟩) dX8_in_15
    · refine lv_iconst (v := nI 1) X.1 X.2.1 dX8_in_10 (by decide) ?_
      refine lv_goto (tgt := 15) X.1 X.2.1 dX8_in_11 (by decide) ?_
      exact x_iret X hr hlk hK hw (v := nI 1) (by first | rfl | exact nr_b _ | decide) (⟨by simp [bI, c1, c2], rfl⟩) dX8_in_15
theorem hd_X8_in : yX8_in.cls = RX8 ∧ yX8_in.cls ≠ "java/lang/invoke/MethodHandle" ∧ yX8_in.cls ≠ "java/lang/invoke/VarHandle" ∧ (parseMethodDescriptor yX8_in.desc).map (fun d => d.parameters.length) = some 3 := by decide +kernel
set_option maxHeartbeats 4000000 in
set_option maxRecDepth 100000 in
theorem k_X8_isBoat {l : Launch} {D : va_G} {cI cB cS : ClassId} {ad : Nat → Nat} {N : Nat} {F : Nat → va_E} (hI : iN ad N) (o : Nat) (a : Nat → Int32) (h : Nat → Int32) (sn : Nat → Int32) (tx : Nat → Int32) (k : Nat → Int32) (x : Int32) (hc5 : o + 5 ≤ N) (hF : MoF ad cI F o a h sn tx k) : Ci l D cI cB cS ad N yX8_isBoat cX8_isBoat 2 (some .boolean) 1 22 [.ref (ad o), .int x] F (pP (bI (decide (¬ x < nI 0 ∧ ¬ a 1 - nI 1 < x))) F) := by
  refine x_met (by decide +kernel) (Nat.le_of_ble_eq_true rfl) ?_
  intro p e s m below meth c X hr hlk hK hw ls hl
  replace hl : lv_has ls 2 [(0, .ref (ad o)), (1, .int x)] := hl
  refine lv_iload_n X.1 X.2.1 dX8_isBoat_0 rfl (lv_at hl 1 rfl) ?_
  refine lv_iconst (v := nI 0) X.1 X.2.1 dX8_isBoat_1 (by decide) ?_
  refine lv_aload_n X.1 X.2.1 dX8_isBoat_2 rfl (lv_at hl 0 rfl) ?_
  refine x_get X hK hw (C := RX8) (T := TX8) (nf := 12) (k := o) (by omega) hF.1 rfl inX8 0 (by decide) q868 (fun _ h9 => h9) rfl dX8_isBoat_3 ?_
  refine lv_iconst (v := nI 1) X.1 X.2.1 dX8_isBoat_6 (by decide) ?_
  refine x_ialdN X hK hw (k := (o + 1)) (by omega) hF.2.1 (i := nI 1) (j := 1) rfl (by omega) (by omega) dX8_isBoat_7 ?_
  refine lv_iconst (v := nI 1) X.1 X.2.1 dX8_isBoat_8 (by decide) ?_
  refine lv_isub X.1 X.2.1 dX8_isBoat_9 ?_
  refine x_callSP X hK hw (As := [.int x, .int (nI 0), .int ((a 1) - (nI 1))]) (rest := []) (k_X8_in hI x (nI 0) ((a 1) - (nI 1))) (x_cwS yX8_in cX8_in 3 (some .boolean) 3 X q909 q910 q14 q911 hd_X8_in ⟨Nat.le_of_ble_eq_true rfl, Nat.le_of_ble_eq_true rfl⟩) rfl hl.1 rfl (Nat.le_of_ble_eq_true rfl) dX8_isBoat_10 ⟨Nat.le_of_ble_eq_true rfl, Nat.le_of_ble_eq_true rfl⟩ (fun H locs hw => ?_)
  exact x_iret X hr hlk hK hw (v := bI (decide (¬ x < (nI 0) ∧ ¬ ((a 1) - (nI 1)) < x))) (nr_b _) (⟨rfl, rfl⟩) dX8_isBoat_13
set_option maxHeartbeats 4000000 in
set_option maxRecDepth 100000 in
theorem k_X8_isRace {l : Launch} {D : va_G} {cI cB cS : ClassId} {ad : Nat → Nat} {N : Nat} {F : Nat → va_E} (hI : iN ad N) (o : Nat) (a : Nat → Int32) (h : Nat → Int32) (sn : Nat → Int32) (tx : Nat → Int32) (k : Nat → Int32) (x : Int32) (hc5 : o + 5 ≤ N) (hF : MoF ad cI F o a h sn tx k) : Ci l D cI cB cS ad N yX8_isRace cX8_isRace 2 (some .boolean) 1 22 [.ref (ad o), .int x] F (pP (bI (decide (¬ x < nI 0 ∧ ¬ a 2 - nI 1 < x))) F) := by
  refine x_met (by decide +kernel) (Nat.le_of_ble_eq_true rfl) ?_
  intro p e s m below meth c X hr hlk hK hw ls hl
  replace hl : lv_has ls 2 [(0, .ref (ad o)), (1, .int x)] := hl
  refine lv_iload_n X.1 X.2.1 dX8_isRace_0 rfl (lv_at hl 1 rfl) ?_
  refine lv_iconst (v := nI 0) X.1 X.2.1 dX8_isRace_1 (by decide) ?_
  refine lv_aload_n X.1 X.2.1 dX8_isRace_2 rfl (lv_at hl 0 rfl) ?_
  refine x_get X hK hw (C := RX8) (T := TX8) (nf := 12) (k := o) (by omega) hF.1 rfl inX8 0 (by decide) q868 (fun _ h9 => h9) rfl dX8_isRace_3 ?_
  refine lv_iconst (v := nI 2) X.1 X.2.1 dX8_isRace_6 (by decide) ?_
  refine x_ialdN X hK hw (k := (o + 1)) (by omega) hF.2.1 (i := nI 2) (j := 2) rfl (by omega) (by omega) dX8_isRace_7 ?_
  refine lv_iconst (v := nI 1) X.1 X.2.1 dX8_isRace_8 (by decide) ?_
  refine lv_isub X.1 X.2.1 dX8_isRace_9 ?_
  refine x_callSP X hK hw (As := [.int x, .int (nI 0), .int ((a 2) - (nI 1))]) (rest := []) (k_X8_in hI x (nI 0) ((a 2) - (nI 1))) (x_cwS yX8_in cX8_in 3 (some .boolean) 3 X q909 q910 q14 q911 hd_X8_in ⟨Nat.le_of_ble_eq_true rfl, Nat.le_of_ble_eq_true rfl⟩) rfl hl.1 rfl (Nat.le_of_ble_eq_true rfl) dX8_isRace_10 ⟨Nat.le_of_ble_eq_true rfl, Nat.le_of_ble_eq_true rfl⟩ (fun H locs hw => ?_)
  exact x_iret X hr hlk hK hw (v := bI (decide (¬ x < (nI 0) ∧ ¬ ((a 2) - (nI 1)) < x))) (nr_b _) (⟨rfl, rfl⟩) dX8_isRace_13
set_option maxHeartbeats 4000000 in
set_option maxRecDepth 100000 in
theorem k_X8_isProtest {l : Launch} {D : va_G} {cI cB cS : ClassId} {ad : Nat → Nat} {N : Nat} {F : Nat → va_E} (hI : iN ad N) (o : Nat) (a : Nat → Int32) (h : Nat → Int32) (sn : Nat → Int32) (tx : Nat → Int32) (k : Nat → Int32) (x : Int32) (hc5 : o + 5 ≤ N) (hF : MoF ad cI F o a h sn tx k) : Ci l D cI cB cS ad N yX8_isProtest cX8_isProtest 2 (some .boolean) 1 22 [.ref (ad o), .int x] F (pP (bI (decide (¬ x < nI 0 ∧ ¬ a 3 - nI 1 < x))) F) := by
  refine x_met (by decide +kernel) (Nat.le_of_ble_eq_true rfl) ?_
  intro p e s m below meth c X hr hlk hK hw ls hl
  replace hl : lv_has ls 2 [(0, .ref (ad o)), (1, .int x)] := hl
  refine lv_iload_n X.1 X.2.1 dX8_isProtest_0 rfl (lv_at hl 1 rfl) ?_
  refine lv_iconst (v := nI 0) X.1 X.2.1 dX8_isProtest_1 (by decide) ?_
  refine lv_aload_n X.1 X.2.1 dX8_isProtest_2 rfl (lv_at hl 0 rfl) ?_
  refine x_get X hK hw (C := RX8) (T := TX8) (nf := 12) (k := o) (by omega) hF.1 rfl inX8 0 (by decide) q868 (fun _ h9 => h9) rfl dX8_isProtest_3 ?_
  refine lv_iconst (v := nI 3) X.1 X.2.1 dX8_isProtest_6 (by decide) ?_
  refine x_ialdN X hK hw (k := (o + 1)) (by omega) hF.2.1 (i := nI 3) (j := 3) rfl (by omega) (by omega) dX8_isProtest_7 ?_
  refine lv_iconst (v := nI 1) X.1 X.2.1 dX8_isProtest_8 (by decide) ?_
  refine lv_isub X.1 X.2.1 dX8_isProtest_9 ?_
  refine x_callSP X hK hw (As := [.int x, .int (nI 0), .int ((a 3) - (nI 1))]) (rest := []) (k_X8_in hI x (nI 0) ((a 3) - (nI 1))) (x_cwS yX8_in cX8_in 3 (some .boolean) 3 X q909 q910 q14 q911 hd_X8_in ⟨Nat.le_of_ble_eq_true rfl, Nat.le_of_ble_eq_true rfl⟩) rfl hl.1 rfl (Nat.le_of_ble_eq_true rfl) dX8_isProtest_10 ⟨Nat.le_of_ble_eq_true rfl, Nat.le_of_ble_eq_true rfl⟩ (fun H locs hw => ?_)
  exact x_iret X hr hlk hK hw (v := bI (decide (¬ x < (nI 0) ∧ ¬ ((a 3) - (nI 1)) < x))) (nr_b _) (⟨rfl, rfl⟩) dX8_isProtest_13
set_option maxHeartbeats 4000000 in
set_option maxRecDepth 100000 in
theorem k_X8_ofRace {l : Launch} {D : va_G} {cI cB cS : ClassId} {ad : Nat → Nat} {N : Nat} {F : Nat → va_E} (hI : iN ad N) (o : Nat) (a : Nat → Int32) (h : Nat → Int32) (sn : Nat → Int32) (tx : Nat → Int32) (k : Nat → Int32) (r : Nat) (w : Nat) (hc5 : o + 5 ≤ N) (hF : MoF ad cI F o a h sn tx k) (hi : 16 + 4 * r + w < 404) : Ci l D cI cB cS ad N yX8_ofRace cX8_ofRace 3 (some .int) 0 0 [.ref (ad o), .int (nI r), .int (nI w)] F (pP (m_r a r w) F) := by
  refine x_met (by decide +kernel) (Nat.le_of_ble_eq_true rfl) ?_
  intro p e s m below meth c X hr hlk hK hw ls hl
  replace hl : lv_has ls 3 [(0, .ref (ad o)), (1, .int (nI r)), (2, .int (nI w))] := hl
  refine lv_aload_n X.1 X.2.1 dX8_ofRace_0 rfl (lv_at hl 0 rfl) ?_
  refine x_get X hK hw (C := RX8) (T := TX8) (nf := 12) (k := o) (by omega) hF.1 rfl inX8 0 (by decide) q868 (fun _ h9 => h9) rfl dX8_ofRace_1 ?_
  refine lv_bipush (v := nI 16) X.1 X.2.1 dX8_ofRace_4 (by decide) ?_
  refine lv_iconst (v := nI 4) X.1 X.2.1 dX8_ofRace_6 (by decide) ?_
  refine lv_iload_n X.1 X.2.1 dX8_ofRace_7 rfl (lv_at hl 1 rfl) ?_
  refine lv_imul X.1 X.2.1 dX8_ofRace_8 ?_
  refine x_top (pk_mul _ _) ?_
  refine lv_iadd X.1 X.2.1 dX8_ofRace_9 ?_
  refine x_top (nI_add _ _) ?_
  refine lv_iload_n X.1 X.2.1 dX8_ofRace_10 rfl (lv_at hl 2 rfl) ?_
  refine lv_iadd X.1 X.2.1 dX8_ofRace_11 ?_
  refine x_top (nI_add _ _) ?_
  refine x_ialdN X hK hw (k := (o + 1)) (by omega) hF.2.1 (i := nI ((16 + (4 * r)) + w)) (j := (16 + (4 * r)) + w) rfl (by omega) (by omega) dX8_ofRace_12 ?_
  exact x_iret X hr hlk hK hw (v := a ((16 + (4 * r)) + w)) rfl (⟨rfl, rfl⟩) dX8_ofRace_13
set_option maxHeartbeats 4000000 in
set_option maxRecDepth 100000 in
theorem k_X8_of {l : Launch} {D : va_G} {cI cB cS : ClassId} {ad : Nat → Nat} {N : Nat} {F : Nat → va_E} (hI : iN ad N) (o : Nat) (a : Nat → Int32) (h : Nat → Int32) (sn : Nat → Int32) (tx : Nat → Int32) (k : Nat → Int32) (r : Nat) (b : Nat) (w : Nat) (hc5 : o + 5 ≤ N) (hF : MoF ad cI F o a h sn tx k) (hi : 80 + 6 * (9 * r + b) + w < 404) : Ci l D cI cB cS ad N yX8_of cX8_of 4 (some .int) 0 0 [.ref (ad o), .int (nI r), .int (nI b), .int (nI w)] F (pP (m_e a r b w) F) := by
  refine x_met (by decide +kernel) (Nat.le_of_ble_eq_true rfl) ?_
  intro p e s m below meth c X hr hlk hK hw ls hl
  replace hl : lv_has ls 4 [(0, .ref (ad o)), (1, .int (nI r)), (2, .int (nI b)), (3, .int (nI w))] := hl
  refine lv_aload_n X.1 X.2.1 dX8_of_0 rfl (lv_at hl 0 rfl) ?_
  refine x_get X hK hw (C := RX8) (T := TX8) (nf := 12) (k := o) (by omega) hF.1 rfl inX8 0 (by decide) q868 (fun _ h9 => h9) rfl dX8_of_1 ?_
  refine lv_bipush (v := nI 80) X.1 X.2.1 dX8_of_4 (by decide) ?_
  refine lv_bipush (v := nI 6) X.1 X.2.1 dX8_of_6 (by decide) ?_
  refine lv_bipush (v := nI 9) X.1 X.2.1 dX8_of_8 (by decide) ?_
  refine lv_iload_n X.1 X.2.1 dX8_of_10 rfl (lv_at hl 1 rfl) ?_
  refine lv_imul X.1 X.2.1 dX8_of_11 ?_
  refine x_top (pk_mul _ _) ?_
  refine lv_iload_n X.1 X.2.1 dX8_of_12 rfl (lv_at hl 2 rfl) ?_
  refine lv_iadd X.1 X.2.1 dX8_of_13 ?_
  refine x_top (nI_add _ _) ?_
  refine lv_imul X.1 X.2.1 dX8_of_14 ?_
  refine x_top (pk_mul _ _) ?_
  refine lv_iadd X.1 X.2.1 dX8_of_15 ?_
  refine x_top (nI_add _ _) ?_
  refine lv_iload_n X.1 X.2.1 dX8_of_16 rfl (lv_at hl 3 rfl) ?_
  refine lv_iadd X.1 X.2.1 dX8_of_17 ?_
  refine x_top (nI_add _ _) ?_
  refine x_ialdN X hK hw (k := (o + 1)) (by omega) hF.2.1 (i := nI ((80 + (6 * ((9 * r) + b))) + w)) (j := (80 + (6 * ((9 * r) + b))) + w) rfl (by omega) (by omega) dX8_of_18 ?_
  exact x_iret X hr hlk hK hw (v := a ((80 + (6 * ((9 * r) + b))) + w)) rfl (⟨rfl, rfl⟩) dX8_of_19
set_option maxHeartbeats 4000000 in
set_option maxRecDepth 100000 in
theorem k_X8_ofProtest {l : Launch} {D : va_G} {cI cB cS : ClassId} {ad : Nat → Nat} {N : Nat} {F : Nat → va_E} (hI : iN ad N) (o : Nat) (a : Nat → Int32) (h : Nat → Int32) (sn : Nat → Int32) (tx : Nat → Int32) (k : Nat → Int32) (r : Nat) (w : Nat) (hc5 : o + 5 ≤ N) (hF : MoF ad cI F o a h sn tx k) (hi : 40 + 4 * r + w < 404) : Ci l D cI cB cS ad N yX8_ofProtest cX8_ofProtest 3 (some .int) 0 0 [.ref (ad o), .int (nI r), .int (nI w)] F (pP (m_p a r w) F) := by
  refine x_met (by decide +kernel) (Nat.le_of_ble_eq_true rfl) ?_
  intro p e s m below meth c X hr hlk hK hw ls hl
  replace hl : lv_has ls 3 [(0, .ref (ad o)), (1, .int (nI r)), (2, .int (nI w))] := hl
  refine lv_aload_n X.1 X.2.1 dX8_ofProtest_0 rfl (lv_at hl 0 rfl) ?_
  refine x_get X hK hw (C := RX8) (T := TX8) (nf := 12) (k := o) (by omega) hF.1 rfl inX8 0 (by decide) q868 (fun _ h9 => h9) rfl dX8_ofProtest_1 ?_
  refine lv_bipush (v := nI 40) X.1 X.2.1 dX8_ofProtest_4 (by decide) ?_
  refine lv_iconst (v := nI 4) X.1 X.2.1 dX8_ofProtest_6 (by decide) ?_
  refine lv_iload_n X.1 X.2.1 dX8_ofProtest_7 rfl (lv_at hl 1 rfl) ?_
  refine lv_imul X.1 X.2.1 dX8_ofProtest_8 ?_
  refine x_top (pk_mul _ _) ?_
  refine lv_iadd X.1 X.2.1 dX8_ofProtest_9 ?_
  refine x_top (nI_add _ _) ?_
  refine lv_iload_n X.1 X.2.1 dX8_ofProtest_10 rfl (lv_at hl 2 rfl) ?_
  refine lv_iadd X.1 X.2.1 dX8_ofProtest_11 ?_
  refine x_top (nI_add _ _) ?_
  refine x_ialdN X hK hw (k := (o + 1)) (by omega) hF.2.1 (i := nI ((40 + (4 * r)) + w)) (j := (40 + (4 * r)) + w) rfl (by omega) (by omega) dX8_ofProtest_12 ?_
  exact x_iret X hr hlk hK hw (v := a ((40 + (4 * r)) + w)) rfl (⟨rfl, rfl⟩) dX8_ofProtest_13
set_option maxHeartbeats 4000000 in
set_option maxRecDepth 100000 in
theorem k_X8_latest {l : Launch} {D : va_G} {cI cB cS : ClassId} {ad : Nat → Nat} {N : Nat} {F : Nat → va_E} (hI : iN ad N) (o : Nat) (a : Nat → Int32) (h : Nat → Int32) (sn : Nat → Int32) (tx : Nat → Int32) (k : Nat → Int32) (nr : Nat) (hc5 : o + 5 ≤ N) (hF : MoF ad cI F o a h sn tx k) (h2 : a 2 = nI nr) (hr6 : nr ≤ 6) (hn : 0 < nr) : Ci l D cI cB cS ad N yX8_latest cX8_latest 1 (some .int) 0 0 [.ref (ad o)] F (pP (nI (nr - 1)) F) := by
  refine x_met (by decide +kernel) (Nat.le_of_ble_eq_true rfl) ?_
  intro p e s m below meth c X hr hlk hK hw ls hl
  replace hl : lv_has ls 1 [(0, .ref (ad o))] := hl
  refine lv_aload_n X.1 X.2.1 dX8_latest_0 rfl (lv_at hl 0 rfl) ?_
  refine x_get X hK hw (C := RX8) (T := TX8) (nf := 12) (k := o) (by omega) hF.1 rfl inX8 0 (by decide) q868 (fun _ h9 => h9) rfl dX8_latest_1 ?_
  refine lv_iconst (v := nI 2) X.1 X.2.1 dX8_latest_4 (by decide) ?_
  refine x_ialdN X hK hw (k := (o + 1)) (by omega) hF.2.1 (i := nI 2) (j := 2) rfl (by omega) (by omega) dX8_latest_5 ?_
  refine lv_iconst (v := nI 1) X.1 X.2.1 dX8_latest_6 (by decide) ?_
  refine lv_isub X.1 X.2.1 dX8_latest_7 ?_
  exact x_iret X hr hlk hK hw (v := (a 2) - (nI 1)) rfl (⟨by rw [h2]; exact pk_sub hn, rfl⟩) dX8_latest_8
theorem hd_X8_latest : yX8_latest.cls = RX8 ∧ yX8_latest.cls ≠ "java/lang/invoke/MethodHandle" ∧ yX8_latest.cls ≠ "java/lang/invoke/VarHandle" ∧ (parseMethodDescriptor yX8_latest.desc).map (fun d => d.parameters.length) = some 0 := by decide +kernel
theorem hd_X8_ofRace : yX8_ofRace.cls = RX8 ∧ yX8_ofRace.cls ≠ "java/lang/invoke/MethodHandle" ∧ yX8_ofRace.cls ≠ "java/lang/invoke/VarHandle" ∧ (parseMethodDescriptor yX8_ofRace.desc).map (fun d => d.parameters.length) = some 2 := by decide +kernel
set_option maxHeartbeats 4000000 in
set_option maxRecDepth 100000 in
theorem k_X8_isPrepared {l : Launch} {D : va_G} {cI cB cS : ClassId} {ad : Nat → Nat} {N : Nat} {F : Nat → va_E} (hI : iN ad N) (o : Nat) (a : Nat → Int32) (h : Nat → Int32) (sn : Nat → Int32) (tx : Nat → Int32) (k : Nat → Int32) (nr : Nat) (hc5 : o + 5 ≤ N) (hF : MoF ad cI F o a h sn tx k) (h2 : a 2 = nI nr) (hr6 : nr ≤ 6) : Ci l D cI cB cS ad N yX8_isPrepared cX8_isPrepared 1 (some .boolean) 1 22 [.ref (ad o)] F (pP (bI (decide (0 < nr ∧ m_r a (nr - 1) 3 = 0))) F) := by
  refine x_met (by decide +kernel) (Nat.le_of_ble_eq_true rfl) ?_
  intro p e s m below meth c X hr hlk hK hw ls hl
  replace hl : lv_has ls 1 [(0, .ref (ad o))] := hl
  refine lv_aload_n X.1 X.2.1 dX8_isPrepared_0 rfl (lv_at hl 0 rfl) ?_
  refine x_get X hK hw (C := RX8) (T := TX8) (nf := 12) (k := o) (by omega) hF.1 rfl inX8 0 (by decide) q868 (fun _ h9 => h9) rfl dX8_isPrepared_1 ?_
  refine lv_iconst (v := nI 2) X.1 X.2.1 dX8_isPrepared_4 (by decide) ?_
  refine x_ialdN X hK hw (k := (o + 1)) (by omega) hF.2.1 (i := nI 2) (j := 2) rfl (by omega) (by omega) dX8_isPrepared_5 ?_
  refine lv_if_le (tgt := 25) X.1 X.2.1 dX8_isPrepared_6 (by decide) (fun c1 => ?_) (fun c1 => ?_)
  · refine lv_iconst (v := nI 0) X.1 X.2.1 dX8_isPrepared_25 (by decide) ?_
    exact x_iret X hr hlk hK hw (v := nI 0) (by first | rfl | exact nr_b _ | decide) (⟨by rw [h2] at c1; simp only [bI]; rw [if_neg]; simp; intro q; exact absurd c1 (by have := nI_lt (a := 0) (b := nr) q (by omega); exact Int32.not_le.mpr this), rfl⟩) dX8_isPrepared_26
  · have hn : 0 < nr := by rcases Nat.eq_zero_or_pos nr with q | q; (exact absurd (by rw [h2, q]; decide) c1); exact q
    refine lv_aload_n X.1 X.2.1 dX8_isPrepared_9 rfl (lv_at hl 0 rfl) ?_
    refine lv_aload_n X.1 X.2.1 dX8_isPrepared_10 rfl (lv_at hl 0 rfl) ?_
    refine x_callVP X hK hw (k := o) (As := []) (rest := [.ref (ad o)]) (k_X8_latest hI o a h sn tx k nr (by omega) hF h2 (by omega) hn) (x_cwV yX8_latest cX8_latest 1 (some .int) 0 X q927 q929 qs19 q14 q930 hd_X8_latest ⟨Nat.le_of_ble_eq_true rfl, Nat.le_of_ble_eq_true rfl⟩) (by omega) hF.1 rfl rfl hl.1 rfl (Nat.le_of_ble_eq_true rfl) dX8_isPrepared_11 ⟨Nat.le_of_ble_eq_true rfl, Nat.le_of_ble_eq_true rfl⟩ (fun H locs hw => ?_)
    refine lv_iconst (v := nI 3) X.1 X.2.1 dX8_isPrepared_14 (by decide) ?_
    refine x_callVP X hK hw (k := o) (As := [.int (nI (nr - 1)), .int (nI 3)]) (rest := []) (k_X8_ofRace hI o a h sn tx k (nr - 1) 3 (by omega) hF (by omega)) (x_cwV yX8_ofRace cX8_ofRace 3 (some .int) 2 X q931 q933 qs20 q14 q934 hd_X8_ofRace ⟨Nat.le_of_ble_eq_true rfl, Nat.le_of_ble_eq_true rfl⟩) (by omega) hF.1 rfl rfl hl.1 rfl (Nat.le_of_ble_eq_true rfl) dX8_isPrepared_15 ⟨Nat.le_of_ble_eq_true rfl, Nat.le_of_ble_eq_true rfl⟩ (fun H locs hw => ?_)
    refine lv_if_ne (tgt := 25) X.1 X.2.1 dX8_isPrepared_18 (by decide) (fun c2 => ?_) (fun c2 => ?_)
    · refine lv_iconst (v := nI 0) X.1 X.2.1 dX8_isPrepared_25 (by decide) ?_
      exact x_iret X hr hlk hK hw (v := nI 0) (by first | rfl | exact nr_b _ | decide) (⟨by simp [bI, hn, c2], rfl⟩) dX8_isPrepared_26
    · refine lv_iconst (v := nI 1) X.1 X.2.1 dX8_isPrepared_21 (by decide) ?_
      refine lv_goto (tgt := 26) X.1 X.2.1 dX8_isPrepared_22 (by decide) ?_
      exact x_iret X hr hlk hK hw (v := nI 1) (by first | rfl | exact nr_b _ | decide) (⟨by simp [bI, hn, c2], rfl⟩) dX8_isPrepared_26
set_option maxHeartbeats 4000000 in
set_option maxRecDepth 100000 in
theorem k_X8_start {l : Launch} {D : va_G} {cI cB cS : ClassId} {ad : Nat → Nat} {N : Nat} {F : Nat → va_E} (hI : iN ad N) (o : Nat) (a : Nat → Int32) (h : Nat → Int32) (sn : Nat → Int32) (tx : Nat → Int32) (k : Nat → Int32) (nr : Nat) (hc5 : o + 5 ≤ N) (hF : MoF ad cI F o a h sn tx k) (h2 : a 2 = nI nr) (hr6 : nr ≤ 6) (hn : 0 < nr) : Ci l D cI cB cS ad N yX8_start cX8_start 1 (some .int) 1 22 [.ref (ad o)] F (pP (m_r a (nr - 1) 2) F) := by
  refine x_met (by decide +kernel) (Nat.le_of_ble_eq_true rfl) ?_
  intro p e s m below meth c X hr hlk hK hw ls hl
  replace hl : lv_has ls 1 [(0, .ref (ad o))] := hl
  refine lv_aload_n X.1 X.2.1 dX8_start_0 rfl (lv_at hl 0 rfl) ?_
  refine lv_aload_n X.1 X.2.1 dX8_start_1 rfl (lv_at hl 0 rfl) ?_
  refine x_callVP X hK hw (k := o) (As := []) (rest := [.ref (ad o)]) (k_X8_latest hI o a h sn tx k nr (by omega) hF h2 (by omega) hn) (x_cwV yX8_latest cX8_latest 1 (some .int) 0 X q927 q929 qs19 q14 q930 hd_X8_latest ⟨Nat.le_of_ble_eq_true rfl, Nat.le_of_ble_eq_true rfl⟩) (by omega) hF.1 rfl rfl hl.1 rfl (Nat.le_of_ble_eq_true rfl) dX8_start_2 ⟨Nat.le_of_ble_eq_true rfl, Nat.le_of_ble_eq_true rfl⟩ (fun H locs hw => ?_)
  refine lv_iconst (v := nI 2) X.1 X.2.1 dX8_start_5 (by decide) ?_
  refine x_callVP X hK hw (k := o) (As := [.int (nI (nr - 1)), .int (nI 2)]) (rest := []) (k_X8_ofRace hI o a h sn tx k (nr - 1) 2 (by omega) hF (by omega)) (x_cwV yX8_ofRace cX8_ofRace 3 (some .int) 2 X q931 q933 qs20 q14 q934 hd_X8_ofRace ⟨Nat.le_of_ble_eq_true rfl, Nat.le_of_ble_eq_true rfl⟩) (by omega) hF.1 rfl rfl hl.1 rfl (Nat.le_of_ble_eq_true rfl) dX8_start_6 ⟨Nat.le_of_ble_eq_true rfl, Nat.le_of_ble_eq_true rfl⟩ (fun H locs hw => ?_)
  exact x_iret X hr hlk hK hw (v := m_r a (nr - 1) 2) rfl (⟨rfl, rfl⟩) dX8_start_9
theorem hd_X8_of : yX8_of.cls = RX8 ∧ yX8_of.cls ≠ "java/lang/invoke/MethodHandle" ∧ yX8_of.cls ≠ "java/lang/invoke/VarHandle" ∧ (parseMethodDescriptor yX8_of.desc).map (fun d => d.parameters.length) = some 3 := by decide +kernel
set_option maxHeartbeats 4000000 in
set_option maxRecDepth 100000 in
theorem k_X8_status {l : Launch} {D : va_G} {cI cB cS : ClassId} {ad : Nat → Nat} {N : Nat} {F : Nat → va_E} (hI : iN ad N) (o : Nat) (a : Nat → Int32) (h : Nat → Int32) (sn : Nat → Int32) (tx : Nat → Int32) (k : Nat → Int32) (b : Nat) (nr : Nat) (hc5 : o + 5 ≤ N) (hF : MoF ad cI F o a h sn tx k) (h2 : a 2 = nI nr) (hr6 : nr ≤ 6) (hn : 0 < nr) (hb : b < 9) : Ci l D cI cB cS ad N yX8_status cX8_status 2 (some .int) 1 23 [.ref (ad o), .int (nI b)] F (pP (m_e a (nr - 1) b 0) F) := by
  refine x_met (by decide +kernel) (Nat.le_of_ble_eq_true rfl) ?_
  intro p e s m below meth c X hr hlk hK hw ls hl
  replace hl : lv_has ls 2 [(0, .ref (ad o)), (1, .int (nI b))] := hl
  refine lv_aload_n X.1 X.2.1 dX8_status_0 rfl (lv_at hl 0 rfl) ?_
  refine lv_aload_n X.1 X.2.1 dX8_status_1 rfl (lv_at hl 0 rfl) ?_
  refine x_callVP X hK hw (k := o) (As := []) (rest := [.ref (ad o)]) (k_X8_latest hI o a h sn tx k nr (by omega) hF h2 (by omega) hn) (x_cwV yX8_latest cX8_latest 1 (some .int) 0 X q927 q929 qs19 q14 q930 hd_X8_latest ⟨Nat.le_of_ble_eq_true rfl, Nat.le_of_ble_eq_true rfl⟩) (by omega) hF.1 rfl rfl hl.1 rfl (Nat.le_of_ble_eq_true rfl) dX8_status_2 ⟨Nat.le_of_ble_eq_true rfl, Nat.le_of_ble_eq_true rfl⟩ (fun H locs hw => ?_)
  refine lv_iload_n X.1 X.2.1 dX8_status_5 rfl (lv_at hl 1 rfl) ?_
  refine lv_iconst (v := nI 0) X.1 X.2.1 dX8_status_6 (by decide) ?_
  refine x_callVP X hK hw (k := o) (As := [.int (nI (nr - 1)), .int (nI b), .int (nI 0)]) (rest := []) (k_X8_of hI o a h sn tx k (nr - 1) b 0 (by omega) hF (by omega)) (x_cwV yX8_of cX8_of 4 (some .int) 3 X q984 q986 qs29 q14 q987 hd_X8_of ⟨Nat.le_of_ble_eq_true rfl, Nat.le_of_ble_eq_true rfl⟩) (by omega) hF.1 rfl rfl hl.1 rfl (Nat.le_of_ble_eq_true rfl) dX8_status_7 ⟨Nat.le_of_ble_eq_true rfl, Nat.le_of_ble_eq_true rfl⟩ (fun H locs hw => ?_)
  exact x_iret X hr hlk hK hw (v := m_e a (nr - 1) b 0) rfl (⟨rfl, rfl⟩) dX8_status_10
set_option maxHeartbeats 4000000 in
set_option maxRecDepth 100000 in
theorem k_X8_elapsed {l : Launch} {D : va_G} {cI cB cS : ClassId} {ad : Nat → Nat} {N : Nat} {F : Nat → va_E} (hI : iN ad N) (o : Nat) (a : Nat → Int32) (h : Nat → Int32) (sn : Nat → Int32) (tx : Nat → Int32) (k : Nat → Int32) (r : Nat) (b : Nat) (hc5 : o + 5 ≤ N) (hF : MoF ad cI F o a h sn tx k) (hrr : r < 6) (hb : b < 9) : Ci l D cI cB cS ad N yX8_elapsed cX8_elapsed 3 (some .int) 1 23 [.ref (ad o), .int (nI r), .int (nI b)] F (pP (m_el a r b) F) := by
  refine x_met (by decide +kernel) (Nat.le_of_ble_eq_true rfl) ?_
  intro p e s m below meth c X hr hlk hK hw ls hl
  replace hl : lv_has ls 3 [(0, .ref (ad o)), (1, .int (nI r)), (2, .int (nI b))] := hl
  refine lv_aload_n X.1 X.2.1 dX8_elapsed_0 rfl (lv_at hl 0 rfl) ?_
  refine lv_iload_n X.1 X.2.1 dX8_elapsed_1 rfl (lv_at hl 1 rfl) ?_
  refine lv_iload_n X.1 X.2.1 dX8_elapsed_2 rfl (lv_at hl 2 rfl) ?_
  refine lv_iconst (v := nI 0) X.1 X.2.1 dX8_elapsed_3 (by decide) ?_
  refine x_callVP X hK hw (k := o) (As := [.int (nI r), .int (nI b), .int (nI 0)]) (rest := []) (k_X8_of hI o a h sn tx k r b 0 (by omega) hF (by omega)) (x_cwV yX8_of cX8_of 4 (some .int) 3 X q984 q986 qs29 q14 q987 hd_X8_of ⟨Nat.le_of_ble_eq_true rfl, Nat.le_of_ble_eq_true rfl⟩) (by omega) hF.1 rfl rfl hl.1 rfl (Nat.le_of_ble_eq_true rfl) dX8_elapsed_4 ⟨Nat.le_of_ble_eq_true rfl, Nat.le_of_ble_eq_true rfl⟩ (fun H locs hw => ?_)
  refine lv_iconst (v := nI 3) X.1 X.2.1 dX8_elapsed_7 (by decide) ?_
  refine lv_icmp_ne (tgt := 36) X.1 X.2.1 dX8_elapsed_8 (by decide) (fun c1 => ?_) (fun c1 => ?_)
  · refine lv_bipush (v := (-5)) X.1 X.2.1 dX8_elapsed_36 (by decide) ?_
    exact x_iret X hr hlk hK hw (v := (-5)) rfl (⟨by rw [m_el, if_neg c1], rfl⟩) dX8_elapsed_38
  · refine lv_aload_n X.1 X.2.1 dX8_elapsed_11 rfl (lv_at hl 0 rfl) ?_
    refine lv_iload_n X.1 X.2.1 dX8_elapsed_12 rfl (lv_at hl 1 rfl) ?_
    refine lv_iload_n X.1 X.2.1 dX8_elapsed_13 rfl (lv_at hl 2 rfl) ?_
    refine lv_iconst (v := nI 5) X.1 X.2.1 dX8_elapsed_14 (by decide) ?_
    refine x_callVP X hK hw (k := o) (As := [.int (nI r), .int (nI b), .int (nI 5)]) (rest := []) (k_X8_of hI o a h sn tx k r b 5 (by omega) hF (by omega)) (x_cwV yX8_of cX8_of 4 (some .int) 3 X q984 q986 qs29 q14 q987 hd_X8_of ⟨Nat.le_of_ble_eq_true rfl, Nat.le_of_ble_eq_true rfl⟩) (by omega) hF.1 rfl rfl hl.1 rfl (Nat.le_of_ble_eq_true rfl) dX8_elapsed_15 ⟨Nat.le_of_ble_eq_true rfl, Nat.le_of_ble_eq_true rfl⟩ (fun H locs hw => ?_)
    refine lv_aload_n X.1 X.2.1 dX8_elapsed_18 rfl (lv_at hl 0 rfl) ?_
    refine lv_iload_n X.1 X.2.1 dX8_elapsed_19 rfl (lv_at hl 1 rfl) ?_
    refine lv_iconst (v := nI 2) X.1 X.2.1 dX8_elapsed_20 (by decide) ?_
    refine x_callVP X hK hw (k := o) (As := [.int (nI r), .int (nI 2)]) (rest := [.int (m_e a r b 5)]) (k_X8_ofRace hI o a h sn tx k r 2 (by omega) hF (by omega)) (x_cwV yX8_ofRace cX8_ofRace 3 (some .int) 2 X q931 q933 qs20 q14 q934 hd_X8_ofRace ⟨Nat.le_of_ble_eq_true rfl, Nat.le_of_ble_eq_true rfl⟩) (by omega) hF.1 rfl rfl hl.1 rfl (Nat.le_of_ble_eq_true rfl) dX8_elapsed_21 ⟨Nat.le_of_ble_eq_true rfl, Nat.le_of_ble_eq_true rfl⟩ (fun H locs hw => ?_)
    refine lv_isub X.1 X.2.1 dX8_elapsed_24 ?_
    refine lv_aload_n X.1 X.2.1 dX8_elapsed_25 rfl (lv_at hl 0 rfl) ?_
    refine lv_iload_n X.1 X.2.1 dX8_elapsed_26 rfl (lv_at hl 1 rfl) ?_
    refine lv_iload_n X.1 X.2.1 dX8_elapsed_27 rfl (lv_at hl 2 rfl) ?_
    refine lv_iconst (v := nI 3) X.1 X.2.1 dX8_elapsed_28 (by decide) ?_
    refine x_callVP X hK hw (k := o) (As := [.int (nI r), .int (nI b), .int (nI 3)]) (rest := [.int ((m_e a r b 5) - (m_r a r 2))]) (k_X8_of hI o a h sn tx k r b 3 (by omega) hF (by omega)) (x_cwV yX8_of cX8_of 4 (some .int) 3 X q984 q986 qs29 q14 q987 hd_X8_of ⟨Nat.le_of_ble_eq_true rfl, Nat.le_of_ble_eq_true rfl⟩) (by omega) hF.1 rfl rfl hl.1 rfl (Nat.le_of_ble_eq_true rfl) dX8_elapsed_29 ⟨Nat.le_of_ble_eq_true rfl, Nat.le_of_ble_eq_true rfl⟩ (fun H locs hw => ?_)
    refine lv_iadd X.1 X.2.1 dX8_elapsed_32 ?_
    refine lv_goto (tgt := 38) X.1 X.2.1 dX8_elapsed_33 (by decide) ?_
    exact x_iret X hr hlk hK hw (v := ((m_e a r b 5) - (m_r a r 2)) + (m_e a r b 3)) rfl (⟨by rw [m_el, if_pos c1], rfl⟩) dX8_elapsed_38
theorem hd_X8_elapsed : yX8_elapsed.cls = RX8 ∧ yX8_elapsed.cls ≠ "java/lang/invoke/MethodHandle" ∧ yX8_elapsed.cls ≠ "java/lang/invoke/VarHandle" ∧ (parseMethodDescriptor yX8_elapsed.desc).map (fun d => d.parameters.length) = some 2 := by decide +kernel
set_option maxHeartbeats 4000000 in
set_option maxRecDepth 100000 in
theorem k_X8_corrected {l : Launch} {D : va_G} {cI cB cS : ClassId} {ad : Nat → Nat} {N : Nat} {F : Nat → va_E} (hI : iN ad N) (o : Nat) (a : Nat → Int32) (h : Nat → Int32) (sn : Nat → Int32) (tx : Nat → Int32) (k : Nat → Int32) (r : Nat) (b : Nat) (nb : Nat) (nr : Nat) (np : Nat) (nc : Nat) (hc5 : o + 5 ≤ N) (hF : MoF ad cI F o a h sn tx k) (hM : MI a nb nr np nc) (hrr : r < 6) (hb : b < nb) : Ci l D cI cB cS ad N yX8_corrected cX8_corrected 3 (some .int) 2 45 [.ref (ad o), .int (nI r), .int (nI b)] F (pP (m_co a r b) F) := by
  refine x_met (by decide +kernel) (Nat.le_of_ble_eq_true rfl) ?_
  intro p e s m below meth c X hr hlk hK hw ls hl
  replace hl : lv_has ls 3 [(0, .ref (ad o)), (1, .int (nI r)), (2, .int (nI b))] := hl
  have ⟨h1, hb9, h2, hr6, h3, hp10, hcl, hnc, hrt, hpr⟩ := hM
  refine lv_aload_n X.1 X.2.1 dX8_corrected_0 rfl (lv_at hl 0 rfl) ?_
  refine lv_iload_n X.1 X.2.1 dX8_corrected_1 rfl (lv_at hl 1 rfl) ?_
  refine lv_iload_n X.1 X.2.1 dX8_corrected_2 rfl (lv_at hl 2 rfl) ?_
  refine lv_iconst (v := nI 0) X.1 X.2.1 dX8_corrected_3 (by decide) ?_
  refine x_callVP X hK hw (k := o) (As := [.int (nI r), .int (nI b), .int (nI 0)]) (rest := []) (k_X8_of hI o a h sn tx k r b 0 (by omega) hF (by omega)) (x_cwV yX8_of cX8_of 4 (some .int) 3 X q984 q986 qs29 q14 q987 hd_X8_of ⟨Nat.le_of_ble_eq_true rfl, Nat.le_of_ble_eq_true rfl⟩) (by omega) hF.1 rfl rfl hl.1 rfl (Nat.le_of_ble_eq_true rfl) dX8_corrected_4 ⟨Nat.le_of_ble_eq_true rfl, Nat.le_of_ble_eq_true rfl⟩ (fun H locs hw => ?_)
  refine lv_iconst (v := nI 3) X.1 X.2.1 dX8_corrected_7 (by decide) ?_
  refine lv_icmp_ne (tgt := 33) X.1 X.2.1 dX8_corrected_8 (by decide) (fun c1 => ?_) (fun c1 => ?_)
  · refine lv_bipush (v := (-5)) X.1 X.2.1 dX8_corrected_33 (by decide) ?_
    exact x_iret X hr hlk hK hw (v := (-5)) rfl (⟨by rw [m_co, if_neg c1], rfl⟩) dX8_corrected_35
  · refine lv_bipush (v := nI 100) X.1 X.2.1 dX8_corrected_11 (by decide) ?_
    refine lv_aload_n X.1 X.2.1 dX8_corrected_13 rfl (lv_at hl 0 rfl) ?_
    refine lv_iload_n X.1 X.2.1 dX8_corrected_14 rfl (lv_at hl 1 rfl) ?_
    refine lv_iload_n X.1 X.2.1 dX8_corrected_15 rfl (lv_at hl 2 rfl) ?_
    refine x_callVP X hK hw (k := o) (As := [.int (nI r), .int (nI b)]) (rest := [.int (nI 100)]) (k_X8_elapsed hI o a h sn tx k r b (by omega) hF (by omega) (by omega)) (x_cwV yX8_elapsed cX8_elapsed 3 (some .int) 2 X q1144 q1146 qs53 q14 q1147 hd_X8_elapsed ⟨Nat.le_of_ble_eq_true rfl, Nat.le_of_ble_eq_true rfl⟩) (by omega) hF.1 rfl rfl hl.1 rfl (Nat.le_of_ble_eq_true rfl) dX8_corrected_16 ⟨Nat.le_of_ble_eq_true rfl, Nat.le_of_ble_eq_true rfl⟩ (fun H locs hw => ?_)
    refine lv_imul X.1 X.2.1 dX8_corrected_19 ?_
    refine lv_aload_n X.1 X.2.1 dX8_corrected_20 rfl (lv_at hl 0 rfl) ?_
    refine x_get X hK hw (C := RX8) (T := TX8) (nf := 12) (k := o) (by omega) hF.1 rfl inX8 0 (by decide) q868 (fun _ h9 => h9) rfl dX8_corrected_21 ?_
    refine lv_bipush (v := nI 7) X.1 X.2.1 dX8_corrected_24 (by decide) ?_
    refine lv_iload_n X.1 X.2.1 dX8_corrected_26 rfl (lv_at hl 2 rfl) ?_
    refine lv_iadd X.1 X.2.1 dX8_corrected_27 ?_
    refine x_top (nI_add _ _) ?_
    refine x_ialdN X hK hw (k := (o + 1)) (by omega) hF.2.1 (i := nI (7 + b)) (j := 7 + b) rfl (by omega) (by omega) dX8_corrected_28 ?_
    refine lv_idiv X.1 X.2.1 dX8_corrected_29 (hrt _ hb) ?_
    refine lv_goto (tgt := 35) X.1 X.2.1 dX8_corrected_30 (by decide) ?_
    exact x_iret X hr hlk hK hw (v := ((nI 100) * (m_el a r b)) / (a (7 + b))) rfl (⟨by rw [m_co, if_pos c1], rfl⟩) dX8_corrected_35
set_option maxHeartbeats 4000000 in
set_option maxRecDepth 100000 in
theorem k_X8_counts {l : Launch} {D : va_G} {cI cB cS : ClassId} {ad : Nat → Nat} {N : Nat} {F : Nat → va_E} (hI : iN ad N) (o : Nat) (a : Nat → Int32) (h : Nat → Int32) (sn : Nat → Int32) (tx : Nat → Int32) (k : Nat → Int32) (r : Nat) (b : Nat) (hc5 : o + 5 ≤ N) (hF : MoF ad cI F o a h sn tx k) (hrr : r < 6) (hb : b < 9) : Ci l D cI cB cS ad N yX8_counts cX8_counts 3 (some .boolean) 1 23 [.ref (ad o), .int (nI r), .int (nI b)] F (pP (bI (decide (m_cnt a r b))) F) := by
  refine x_met (by decide +kernel) (Nat.le_of_ble_eq_true rfl) ?_
  intro p e s m below meth c X hr hlk hK hw ls hl
  replace hl : lv_has ls 3 [(0, .ref (ad o)), (1, .int (nI r)), (2, .int (nI b))] := hl
  refine lv_aload_n X.1 X.2.1 dX8_counts_0 rfl (lv_at hl 0 rfl) ?_
  refine lv_iload_n X.1 X.2.1 dX8_counts_1 rfl (lv_at hl 1 rfl) ?_
  refine lv_iload_n X.1 X.2.1 dX8_counts_2 rfl (lv_at hl 2 rfl) ?_
  refine lv_iconst (v := nI 0) X.1 X.2.1 dX8_counts_3 (by decide) ?_
  refine x_callVP X hK hw (k := o) (As := [.int (nI r), .int (nI b), .int (nI 0)]) (rest := []) (k_X8_of hI o a h sn tx k r b 0 (by omega) hF (by omega)) (x_cwV yX8_of cX8_of 4 (some .int) 3 X q984 q986 qs29 q14 q987 hd_X8_of ⟨Nat.le_of_ble_eq_true rfl, Nat.le_of_ble_eq_true rfl⟩) (by omega) hF.1 rfl rfl hl.1 rfl (Nat.le_of_ble_eq_true rfl) dX8_counts_4 ⟨Nat.le_of_ble_eq_true rfl, Nat.le_of_ble_eq_true rfl⟩ (fun H locs hw => ?_)
  refine lv_iconst (v := nI 3) X.1 X.2.1 dX8_counts_7 (by decide) ?_
  refine lv_icmp_ne (tgt := 25) X.1 X.2.1 dX8_counts_8 (by decide) (fun c1 => ?_) (fun c1 => ?_)
  · refine lv_iconst (v := nI 0) X.1 X.2.1 dX8_counts_25 (by decide) ?_
    exact x_iret X hr hlk hK hw (v := nI 0) (by first | rfl | exact nr_b _ | decide) (⟨by simp [bI, c1], rfl⟩) dX8_counts_26
  · refine lv_aload_n X.1 X.2.1 dX8_counts_11 rfl (lv_at hl 0 rfl) ?_
    refine lv_iload_n X.1 X.2.1 dX8_counts_12 rfl (lv_at hl 1 rfl) ?_
    refine lv_iload_n X.1 X.2.1 dX8_counts_13 rfl (lv_at hl 2 rfl) ?_
    refine lv_iconst (v := nI 4) X.1 X.2.1 dX8_counts_14 (by decide) ?_
    refine x_callVP X hK hw (k := o) (As := [.int (nI r), .int (nI b), .int (nI 4)]) (rest := []) (k_X8_of hI o a h sn tx k r b 4 (by omega) hF (by omega)) (x_cwV yX8_of cX8_of 4 (some .int) 3 X q984 q986 qs29 q14 q987 hd_X8_of ⟨Nat.le_of_ble_eq_true rfl, Nat.le_of_ble_eq_true rfl⟩) (by omega) hF.1 rfl rfl hl.1 rfl (Nat.le_of_ble_eq_true rfl) dX8_counts_15 ⟨Nat.le_of_ble_eq_true rfl, Nat.le_of_ble_eq_true rfl⟩ (fun H locs hw => ?_)
    refine lv_if_ne (tgt := 25) X.1 X.2.1 dX8_counts_18 (by decide) (fun c2 => ?_) (fun c2 => ?_)
    · refine lv_iconst (v := nI 0) X.1 X.2.1 dX8_counts_25 (by decide) ?_
      exact x_iret X hr hlk hK hw (v := nI 0) (by first | rfl | exact nr_b _ | decide) (⟨by simp [bI, c1, c2], rfl⟩) dX8_counts_26
    · refine lv_iconst (v := nI 1) X.1 X.2.1 dX8_counts_21 (by decide) ?_
      refine lv_goto (tgt := 26) X.1 X.2.1 dX8_counts_22 (by decide) ?_
      exact x_iret X hr hlk hK hw (v := nI 1) (by first | rfl | exact nr_b _ | decide) (⟨by simp [bI, c1, c2], rfl⟩) dX8_counts_26
theorem hd_X8_corrected : yX8_corrected.cls = RX8 ∧ yX8_corrected.cls ≠ "java/lang/invoke/MethodHandle" ∧ yX8_corrected.cls ≠ "java/lang/invoke/VarHandle" ∧ (parseMethodDescriptor yX8_corrected.desc).map (fun d => d.parameters.length) = some 2 := by decide +kernel
theorem hd_X8_counts : yX8_counts.cls = RX8 ∧ yX8_counts.cls ≠ "java/lang/invoke/MethodHandle" ∧ yX8_counts.cls ≠ "java/lang/invoke/VarHandle" ∧ (parseMethodDescriptor yX8_counts.desc).map (fun d => d.parameters.length) = some 2 := by decide +kernel
set_option maxHeartbeats 4000000 in
set_option maxRecDepth 100000 in
theorem k_X8_placeIn {l : Launch} {D : va_G} {cI cB cS : ClassId} {ad : Nat → Nat} {N : Nat} {F : Nat → va_E} (hI : iN ad N) (o : Nat) (a : Nat → Int32) (h : Nat → Int32) (sn : Nat → Int32) (tx : Nat → Int32) (k : Nat → Int32) (r : Nat) (b : Nat) (nb : Nat) (nr : Nat) (np : Nat) (nc : Nat) (hc5 : o + 5 ≤ N) (hF : MoF ad cI F o a h sn tx k) (hM : MI a nb nr np nc) (hrr : r < 6) (hb : b < nb) : Ci l D cI cB cS ad N yX8_placeIn cX8_placeIn 5 (some .int) 3 67 [.ref (ad o), .int (nI r), .int (nI b)] F (pP (m_place a r b nb) F) := by
  refine x_met (by decide +kernel) (Nat.le_of_ble_eq_true rfl) ?_
  intro p e s m below meth c X hr hlk hK hw ls hl
  replace hl : lv_has ls 5 [(0, .ref (ad o)), (1, .int (nI r)), (2, .int (nI b))] := hl
  have ⟨h1, hb9, h2, hr6, h3, hp10, hcl, hnc, hrt, hpr⟩ := hM
  refine lv_aload_n X.1 X.2.1 dX8_placeIn_0 rfl (lv_at hl 0 rfl) ?_
  refine lv_iload_n X.1 X.2.1 dX8_placeIn_1 rfl (lv_at hl 1 rfl) ?_
  refine lv_iload_n X.1 X.2.1 dX8_placeIn_2 rfl (lv_at hl 2 rfl) ?_
  refine x_callVP X hK hw (k := o) (As := [.int (nI r), .int (nI b)]) (rest := []) (k_X8_counts hI o a h sn tx k r b (by omega) hF (by omega) (by omega)) (x_cwV yX8_counts cX8_counts 3 (some .boolean) 2 X q1156 q1158 qs56 q14 q1159 hd_X8_counts ⟨Nat.le_of_ble_eq_true rfl, Nat.le_of_ble_eq_true rfl⟩) (by omega) hF.1 rfl rfl hl.1 rfl (Nat.le_of_ble_eq_true rfl) dX8_placeIn_3 ⟨Nat.le_of_ble_eq_true rfl, Nat.le_of_ble_eq_true rfl⟩ (fun H locs hw => ?_)
  refine lv_if_ne (tgt := 12) X.1 X.2.1 dX8_placeIn_6 (by decide) (fun c1 => ?_) (fun c1 => ?_)
  · replace c1 := bI_nz c1
    refine lv_iconst (v := nI 1) X.1 X.2.1 dX8_placeIn_12 (by decide) ?_
    refine lv_istore_n (lv' := [(3, .int (nI 1)), (0, .ref (ad o)), (1, .int (nI r)), (2, .int (nI b))]) X.1 X.2.1 dX8_placeIn_13 rfl hl (by decide) rfl (fun ls hl => ?_)
    refine lv_iconst (v := nI 0) X.1 X.2.1 dX8_placeIn_14 (by decide) ?_
    refine lv_istore (lv' := [(4, .int (nI 0)), (3, .int (nI 1)), (0, .ref (ad o)), (1, .int (nI r)), (2, .int (nI b))]) X.1 X.2.1 dX8_placeIn_15 hl (by decide) rfl (fun ls hl => ?_)
    have loop : ∀ (fu : Nat) (i : Nat) (y : Int32) (hfu : i + fu = nb) (he : y = m_pl a r b i) (H : Heap) (locs : List Loc) (hw : HW D (Af ad N s.heap.size) ad N F s H locs) (ls : Array Slot) (hl : lv_has ls 5 [(4, .int (nI i)), (3, .int y), (0, .ref (ad o)), (1, .int (nI r)), (2, .int (nI b))]), W p l e { frames := 3, cells := 0, slots := 0, locals := 67 } s m [.ref (ad o), .int (nI r), .int (nI b)].toArray below meth c H locs 0 0 (MQ below (va_Qi (pP (m_place a r b nb) F) (fun F' t => PO D ad N F' t) (Af ad N s.heap.size)) [.ref (ad o), .int (nI r), .int (nI b)].toArray s 0 0 (Af ad N s.heap.size)) (F0 m 17 ls []) := by
      intro fu
      induction fu with
      | zero =>
        intro i y hfu he H locs hw ls hl
        refine lv_iload X.1 X.2.1 dX8_placeIn_17 (lv_at hl 0 rfl) ?_
        refine lv_aload_n X.1 X.2.1 dX8_placeIn_19 rfl (lv_at hl 2 rfl) ?_
        refine x_get X hK hw (C := RX8) (T := TX8) (nf := 12) (k := o) (by omega) hF.1 rfl inX8 0 (by decide) q868 (fun _ h9 => h9) rfl dX8_placeIn_20 ?_
        refine lv_iconst (v := nI 1) X.1 X.2.1 dX8_placeIn_23 (by decide) ?_
        refine x_ialdN X hK hw (k := (o + 1)) (by omega) hF.2.1 (i := nI 1) (j := 1) rfl (by omega) (by omega) dX8_placeIn_24 ?_
        refine lv_icmp_ge (tgt := 68) X.1 X.2.1 dX8_placeIn_25 (by decide) (fun c2 => ?_) (fun c2 => ?_)
        · refine lv_iload_n X.1 X.2.1 dX8_placeIn_68 rfl (lv_at hl 1 rfl) ?_
          exact x_iret X hr hlk hK hw (v := y) rfl (⟨by rw [m_place, if_pos c1, he, show i = nb by omega], rfl⟩) dX8_placeIn_69
        · exact absurd (by rw [h1]; exact nI_le (by omega) (by omega)) c2
      | succ fu ih =>
        intro i y hfu he H locs hw ls hl
        refine lv_iload X.1 X.2.1 dX8_placeIn_17 (lv_at hl 0 rfl) ?_
        refine lv_aload_n X.1 X.2.1 dX8_placeIn_19 rfl (lv_at hl 2 rfl) ?_
        refine x_get X hK hw (C := RX8) (T := TX8) (nf := 12) (k := o) (by omega) hF.1 rfl inX8 0 (by decide) q868 (fun _ h9 => h9) rfl dX8_placeIn_20 ?_
        refine lv_iconst (v := nI 1) X.1 X.2.1 dX8_placeIn_23 (by decide) ?_
        refine x_ialdN X hK hw (k := (o + 1)) (by omega) hF.2.1 (i := nI 1) (j := 1) rfl (by omega) (by omega) dX8_placeIn_24 ?_
        refine lv_icmp_ge (tgt := 68) X.1 X.2.1 dX8_placeIn_25 (by decide) (fun c3 => ?_) (fun c3 => ?_)
        · exact absurd c3 (by rw [h1]; exact nI_ge (by omega) (by omega))
        · refine lv_iload_n X.1 X.2.1 dX8_placeIn_28 rfl (lv_at hl 1 rfl) ?_
          refine lv_aload_n X.1 X.2.1 dX8_placeIn_29 rfl (lv_at hl 2 rfl) ?_
          refine lv_iload_n X.1 X.2.1 dX8_placeIn_30 rfl (lv_at hl 3 rfl) ?_
          refine lv_iload X.1 X.2.1 dX8_placeIn_31 (lv_at hl 0 rfl) ?_
          refine x_callVP X hK hw (k := o) (As := [.int (nI r), .int (nI i)]) (rest := [.int y]) (k_X8_counts hI o a h sn tx k r i (by omega) hF (by omega) (by omega)) (x_cwV yX8_counts cX8_counts 3 (some .boolean) 2 X q1156 q1158 qs56 q14 q1159 hd_X8_counts ⟨Nat.le_of_ble_eq_true rfl, Nat.le_of_ble_eq_true rfl⟩) (by omega) hF.1 rfl rfl hl.1 rfl (Nat.le_of_ble_eq_true rfl) dX8_placeIn_33 ⟨Nat.le_of_ble_eq_true rfl, Nat.le_of_ble_eq_true rfl⟩ (fun H locs hw => ?_)
          refine lv_if_eq (tgt := 59) X.1 X.2.1 dX8_placeIn_36 (by decide) (fun c4 => ?_) (fun c4 => ?_)
          · replace c4 := bI_z c4
            refine lv_iconst (v := nI 0) X.1 X.2.1 dX8_placeIn_59 (by decide) ?_
            refine lv_iadd X.1 X.2.1 dX8_placeIn_60 ?_
            refine lv_istore_n (lv' := [(3, .int (y + (nI 0))), (4, .int (nI i)), (0, .ref (ad o)), (1, .int (nI r)), (2, .int (nI b))]) X.1 X.2.1 dX8_placeIn_61 rfl hl (by decide) rfl (fun ls hl => ?_)
            refine lv_iinc (v := nI (i + 1)) (lv' := [(4, .int (nI (i + 1))), (3, .int (y + (nI 0))), (0, .ref (ad o)), (1, .int (nI r)), (2, .int (nI b))]) X.1 X.2.1 dX8_placeIn_62 hl (k := 1) rfl (by first | exact nI_1 _ | exact nI_add _ _ | rfl) (by decide) rfl (fun ls hl => ?_)
            refine lv_goto (tgt := 17) X.1 X.2.1 dX8_placeIn_65 (by decide) ?_
            exact ih (i + 1) (y + (nI 0)) (by omega) (by rw [he, m_pl, if_neg c4]) _ _ hw _ (lv_sub hl [0, 1, 2, 3, 4] rfl)
          · replace c4 := bI_nz c4
            refine lv_aload_n X.1 X.2.1 dX8_placeIn_39 rfl (lv_at hl 2 rfl) ?_
            refine lv_iload_n X.1 X.2.1 dX8_placeIn_40 rfl (lv_at hl 3 rfl) ?_
            refine lv_iload X.1 X.2.1 dX8_placeIn_41 (lv_at hl 0 rfl) ?_
            refine x_callVP X hK hw (k := o) (As := [.int (nI r), .int (nI i)]) (rest := [.int y]) (k_X8_corrected hI o a h sn tx k r i nb nr np nc (by omega) hF hM (by omega) (by omega)) (x_cwV yX8_corrected cX8_corrected 3 (some .int) 2 X q1148 q1150 qs54 q14 q1151 hd_X8_corrected ⟨Nat.le_of_ble_eq_true rfl, Nat.le_of_ble_eq_true rfl⟩) (by omega) hF.1 rfl rfl hl.1 rfl (Nat.le_of_ble_eq_true rfl) dX8_placeIn_43 ⟨Nat.le_of_ble_eq_true rfl, Nat.le_of_ble_eq_true rfl⟩ (fun H locs hw => ?_)
            refine lv_aload_n X.1 X.2.1 dX8_placeIn_46 rfl (lv_at hl 2 rfl) ?_
            refine lv_iload_n X.1 X.2.1 dX8_placeIn_47 rfl (lv_at hl 3 rfl) ?_
            refine lv_iload_n X.1 X.2.1 dX8_placeIn_48 rfl (lv_at hl 4 rfl) ?_
            refine x_callVP X hK hw (k := o) (As := [.int (nI r), .int (nI b)]) (rest := [.int (m_co a r i), .int y]) (k_X8_corrected hI o a h sn tx k r b nb nr np nc (by omega) hF hM (by omega) (by omega)) (x_cwV yX8_corrected cX8_corrected 3 (some .int) 2 X q1148 q1150 qs54 q14 q1151 hd_X8_corrected ⟨Nat.le_of_ble_eq_true rfl, Nat.le_of_ble_eq_true rfl⟩) (by omega) hF.1 rfl rfl hl.1 rfl (Nat.le_of_ble_eq_true rfl) dX8_placeIn_49 ⟨Nat.le_of_ble_eq_true rfl, Nat.le_of_ble_eq_true rfl⟩ (fun H locs hw => ?_)
            refine lv_icmp_ge (tgt := 59) X.1 X.2.1 dX8_placeIn_52 (by decide) (fun c5 => ?_) (fun c5 => ?_)
            · refine lv_iconst (v := nI 0) X.1 X.2.1 dX8_placeIn_59 (by decide) ?_
              refine lv_iadd X.1 X.2.1 dX8_placeIn_60 ?_
              refine lv_istore_n (lv' := [(3, .int (y + (nI 0))), (4, .int (nI i)), (0, .ref (ad o)), (1, .int (nI r)), (2, .int (nI b))]) X.1 X.2.1 dX8_placeIn_61 rfl hl (by decide) rfl (fun ls hl => ?_)
              refine lv_iinc (v := nI (i + 1)) (lv' := [(4, .int (nI (i + 1))), (3, .int (y + (nI 0))), (0, .ref (ad o)), (1, .int (nI r)), (2, .int (nI b))]) X.1 X.2.1 dX8_placeIn_62 hl (k := 1) rfl (by first | exact nI_1 _ | exact nI_add _ _ | rfl) (by decide) rfl (fun ls hl => ?_)
              refine lv_goto (tgt := 17) X.1 X.2.1 dX8_placeIn_65 (by decide) ?_
              exact ih (i + 1) (y + (nI 0)) (by omega) (by rw [he, m_pl, if_pos c4, if_pos c5]) _ _ hw _ (lv_sub hl [0, 1, 2, 3, 4] rfl)
            · refine lv_iconst (v := nI 1) X.1 X.2.1 dX8_placeIn_55 (by decide) ?_
              refine lv_goto (tgt := 60) X.1 X.2.1 dX8_placeIn_56 (by decide) ?_
              refine lv_iadd X.1 X.2.1 dX8_placeIn_60 ?_
              refine lv_istore_n (lv' := [(3, .int (y + (nI 1))), (4, .int (nI i)), (0, .ref (ad o)), (1, .int (nI r)), (2, .int (nI b))]) X.1 X.2.1 dX8_placeIn_61 rfl hl (by decide) rfl (fun ls hl => ?_)
              refine lv_iinc (v := nI (i + 1)) (lv' := [(4, .int (nI (i + 1))), (3, .int (y + (nI 1))), (0, .ref (ad o)), (1, .int (nI r)), (2, .int (nI b))]) X.1 X.2.1 dX8_placeIn_62 hl (k := 1) rfl (by first | exact nI_1 _ | exact nI_add _ _ | rfl) (by decide) rfl (fun ls hl => ?_)
              refine lv_goto (tgt := 17) X.1 X.2.1 dX8_placeIn_65 (by decide) ?_
              exact ih (i + 1) (y + (nI 1)) (by omega) (by rw [he, m_pl, if_pos c4, if_neg c5]) _ _ hw _ (lv_sub hl [0, 1, 2, 3, 4] rfl)
    exact loop nb 0 (nI 1) (by omega) rfl _ _ hw _ (lv_sub hl [0, 1, 2, 3, 4] rfl)
  · replace c1 := bI_z c1
    refine lv_bipush (v := (-5)) X.1 X.2.1 dX8_placeIn_9 (by decide) ?_
    exact x_iret X hr hlk hK hw (v := (-5)) rfl (⟨by rw [m_place, if_neg c1], rfl⟩) dX8_placeIn_11
theorem hd_X8_placeIn : yX8_placeIn.cls = RX8 ∧ yX8_placeIn.cls ≠ "java/lang/invoke/MethodHandle" ∧ yX8_placeIn.cls ≠ "java/lang/invoke/VarHandle" ∧ (parseMethodDescriptor yX8_placeIn.desc).map (fun d => d.parameters.length) = some 2 := by decide +kernel
set_option maxHeartbeats 4000000 in
set_option maxRecDepth 100000 in
theorem k_X8_pointsIn {l : Launch} {D : va_G} {cI cB cS : ClassId} {ad : Nat → Nat} {N : Nat} {F : Nat → va_E} (hI : iN ad N) (o : Nat) (a : Nat → Int32) (h : Nat → Int32) (sn : Nat → Int32) (tx : Nat → Int32) (k : Nat → Int32) (r : Nat) (b : Nat) (nb : Nat) (nr : Nat) (np : Nat) (nc : Nat) (hc5 : o + 5 ≤ N) (hF : MoF ad cI F o a h sn tx k) (hM : MI a nb nr np nc) (hrr : r < 6) (hb : b < nb) : Ci l D cI cB cS ad N yX8_pointsIn cX8_pointsIn 4 (some .int) 4 91 [.ref (ad o), .int (nI r), .int (nI b)] F (pP (m_pts a r b nb) F) := by
  refine x_met (by decide +kernel) (Nat.le_of_ble_eq_true rfl) ?_
  intro p e s m below meth c X hr hlk hK hw ls hl
  replace hl : lv_has ls 4 [(0, .ref (ad o)), (1, .int (nI r)), (2, .int (nI b))] := hl
  have ⟨h1, hb9, h2, hr6, h3, hp10, hcl, hnc, hrt, hpr⟩ := hM
  refine lv_aload_n X.1 X.2.1 dX8_pointsIn_0 rfl (lv_at hl 0 rfl) ?_
  refine lv_iload_n X.1 X.2.1 dX8_pointsIn_1 rfl (lv_at hl 1 rfl) ?_
  refine lv_iload_n X.1 X.2.1 dX8_pointsIn_2 rfl (lv_at hl 2 rfl) ?_
  refine x_callVP X hK hw (k := o) (As := [.int (nI r), .int (nI b)]) (rest := []) (k_X8_placeIn hI o a h sn tx k r b nb nr np nc (by omega) hF hM (by omega) (by omega)) (x_cwV yX8_placeIn cX8_placeIn 5 (some .int) 2 X q1152 q1154 qs55 q14 q1155 hd_X8_placeIn ⟨Nat.le_of_ble_eq_true rfl, Nat.le_of_ble_eq_true rfl⟩) (by omega) hF.1 rfl rfl hl.1 rfl (Nat.le_of_ble_eq_true rfl) dX8_pointsIn_3 ⟨Nat.le_of_ble_eq_true rfl, Nat.le_of_ble_eq_true rfl⟩ (fun H locs hw => ?_)
  refine lv_istore_n (lv' := [(3, .int (m_place a r b nb)), (0, .ref (ad o)), (1, .int (nI r)), (2, .int (nI b))]) X.1 X.2.1 dX8_pointsIn_6 rfl hl (by decide) rfl (fun ls hl => ?_)
  refine lv_iload_n X.1 X.2.1 dX8_pointsIn_7 rfl (lv_at hl 0 rfl) ?_
  refine lv_bipush (v := (-5)) X.1 X.2.1 dX8_pointsIn_8 (by decide) ?_
  refine lv_icmp_eq (tgt := 17) X.1 X.2.1 dX8_pointsIn_10 (by decide) (fun c1 => ?_) (fun c1 => ?_)
  · refine lv_aload_n X.1 X.2.1 dX8_pointsIn_17 rfl (lv_at hl 1 rfl) ?_
    refine x_get X hK hw (C := RX8) (T := TX8) (nf := 12) (k := o) (by omega) hF.1 rfl inX8 0 (by decide) q868 (fun _ h9 => h9) rfl dX8_pointsIn_18 ?_
    refine lv_iconst (v := nI 1) X.1 X.2.1 dX8_pointsIn_21 (by decide) ?_
    refine x_ialdN X hK hw (k := (o + 1)) (by omega) hF.2.1 (i := nI 1) (j := 1) rfl (by omega) (by omega) dX8_pointsIn_22 ?_
    refine lv_aload_n X.1 X.2.1 dX8_pointsIn_23 rfl (lv_at hl 1 rfl) ?_
    refine lv_iload_n X.1 X.2.1 dX8_pointsIn_24 rfl (lv_at hl 2 rfl) ?_
    refine lv_iload_n X.1 X.2.1 dX8_pointsIn_25 rfl (lv_at hl 3 rfl) ?_
    refine lv_iconst (v := nI 4) X.1 X.2.1 dX8_pointsIn_26 (by decide) ?_
    refine x_callVP X hK hw (k := o) (As := [.int (nI r), .int (nI b), .int (nI 4)]) (rest := [.int (a 1)]) (k_X8_of hI o a h sn tx k r b 4 (by omega) hF (by omega)) (x_cwV yX8_of cX8_of 4 (some .int) 3 X q984 q986 qs29 q14 q987 hd_X8_of ⟨Nat.le_of_ble_eq_true rfl, Nat.le_of_ble_eq_true rfl⟩) (by omega) hF.1 rfl rfl hl.1 rfl (Nat.le_of_ble_eq_true rfl) dX8_pointsIn_27 ⟨Nat.le_of_ble_eq_true rfl, Nat.le_of_ble_eq_true rfl⟩ (fun H locs hw => ?_)
    refine lv_iconst (v := nI 1) X.1 X.2.1 dX8_pointsIn_30 (by decide) ?_
    refine lv_icmp_ne (tgt := 38) X.1 X.2.1 dX8_pointsIn_31 (by decide) (fun c2 => ?_) (fun c2 => ?_)
    · refine lv_iconst (v := nI 1) X.1 X.2.1 dX8_pointsIn_38 (by decide) ?_
      refine lv_iadd X.1 X.2.1 dX8_pointsIn_39 ?_
      exact x_iret X hr hlk hK hw (v := (a 1) + (nI 1)) rfl (⟨by rw [m_pts, if_pos c1, if_neg c2], rfl⟩) dX8_pointsIn_40
    · refine lv_iconst (v := nI 2) X.1 X.2.1 dX8_pointsIn_34 (by decide) ?_
      refine lv_goto (tgt := 39) X.1 X.2.1 dX8_pointsIn_35 (by decide) ?_
      refine lv_iadd X.1 X.2.1 dX8_pointsIn_39 ?_
      exact x_iret X hr hlk hK hw (v := (a 1) + (nI 2)) rfl (⟨by rw [m_pts, if_pos c1, if_pos c2], rfl⟩) dX8_pointsIn_40
  · refine lv_iload_n X.1 X.2.1 dX8_pointsIn_13 rfl (lv_at hl 0 rfl) ?_
    refine lv_goto (tgt := 40) X.1 X.2.1 dX8_pointsIn_14 (by decide) ?_
    exact x_iret X hr hlk hK hw (v := m_place a r b nb) rfl (⟨by rw [m_pts, if_neg c1], rfl⟩) dX8_pointsIn_40
set_option maxHeartbeats 4000000 in
set_option maxRecDepth 100000 in
theorem k_X8_closed {l : Launch} {D : va_G} {cI cB cS : ClassId} {ad : Nat → Nat} {N : Nat} {F : Nat → va_E} (hI : iN ad N) (o : Nat) (a : Nat → Int32) (h : Nat → Int32) (sn : Nat → Int32) (tx : Nat → Int32) (k : Nat → Int32) (nb : Nat) (nr : Nat) (np : Nat) (nc : Nat) (hc5 : o + 5 ≤ N) (hF : MoF ad cI F o a h sn tx k) (hM : MI a nb nr np nc) : Ci l D cI cB cS ad N yX8_closed cX8_closed 3 (some .int) 1 22 [.ref (ad o)] F (pP (nI nc) F) := by
  refine x_met (by decide +kernel) (Nat.le_of_ble_eq_true rfl) ?_
  intro p e s m below meth c X hr hlk hK hw ls hl
  replace hl : lv_has ls 3 [(0, .ref (ad o))] := hl
  have ⟨h1, hb9, h2, hr6, h3, hp10, hcl, hnc, hrt, hpr⟩ := hM
  refine lv_iconst (v := nI 0) X.1 X.2.1 dX8_closed_0 (by decide) ?_
  refine lv_istore_n (lv' := [(1, .int (nI 0)), (0, .ref (ad o))]) X.1 X.2.1 dX8_closed_1 rfl hl (by decide) rfl (fun ls hl => ?_)
  refine lv_iconst (v := nI 0) X.1 X.2.1 dX8_closed_2 (by decide) ?_
  refine lv_istore_n (lv' := [(2, .int (nI 0)), (1, .int (nI 0)), (0, .ref (ad o))]) X.1 X.2.1 dX8_closed_3 rfl hl (by decide) rfl (fun ls hl => ?_)
  have loop : ∀ (fu : Nat) (i : Nat) (y : Int32) (hfu : i + fu = nr) (he : y = m_cl a i) (H : Heap) (locs : List Loc) (hw : HW D (Af ad N s.heap.size) ad N F s H locs) (ls : Array Slot) (hl : lv_has ls 3 [(2, .int (nI i)), (1, .int y), (0, .ref (ad o))]), W p l e { frames := 1, cells := 0, slots := 0, locals := 22 } s m [.ref (ad o)].toArray below meth c H locs 0 0 (MQ below (va_Qi (pP (nI nc) F) (fun F' t => PO D ad N F' t) (Af ad N s.heap.size)) [.ref (ad o)].toArray s 0 0 (Af ad N s.heap.size)) (F0 m 4 ls []) := by
    intro fu
    induction fu with
    | zero =>
      intro i y hfu he H locs hw ls hl
      refine lv_iload_n X.1 X.2.1 dX8_closed_4 rfl (lv_at hl 0 rfl) ?_
      refine lv_aload_n X.1 X.2.1 dX8_closed_5 rfl (lv_at hl 2 rfl) ?_
      refine x_get X hK hw (C := RX8) (T := TX8) (nf := 12) (k := o) (by omega) hF.1 rfl inX8 0 (by decide) q868 (fun _ h9 => h9) rfl dX8_closed_6 ?_
      refine lv_iconst (v := nI 2) X.1 X.2.1 dX8_closed_9 (by decide) ?_
      refine x_ialdN X hK hw (k := (o + 1)) (by omega) hF.2.1 (i := nI 2) (j := 2) rfl (by omega) (by omega) dX8_closed_10 ?_
      refine lv_icmp_ge (tgt := 29) X.1 X.2.1 dX8_closed_11 (by decide) (fun c1 => ?_) (fun c1 => ?_)
      · refine lv_iload_n X.1 X.2.1 dX8_closed_29 rfl (lv_at hl 1 rfl) ?_
        exact x_iret X hr hlk hK hw (v := y) rfl (⟨by rw [he, show i = nr by omega, hcl], rfl⟩) dX8_closed_30
      · exact absurd (by rw [h2]; exact nI_le (by omega) (by omega)) c1
    | succ fu ih =>
      intro i y hfu he H locs hw ls hl
      refine lv_iload_n X.1 X.2.1 dX8_closed_4 rfl (lv_at hl 0 rfl) ?_
      refine lv_aload_n X.1 X.2.1 dX8_closed_5 rfl (lv_at hl 2 rfl) ?_
      refine x_get X hK hw (C := RX8) (T := TX8) (nf := 12) (k := o) (by omega) hF.1 rfl inX8 0 (by decide) q868 (fun _ h9 => h9) rfl dX8_closed_6 ?_
      refine lv_iconst (v := nI 2) X.1 X.2.1 dX8_closed_9 (by decide) ?_
      refine x_ialdN X hK hw (k := (o + 1)) (by omega) hF.2.1 (i := nI 2) (j := 2) rfl (by omega) (by omega) dX8_closed_10 ?_
      refine lv_icmp_ge (tgt := 29) X.1 X.2.1 dX8_closed_11 (by decide) (fun c2 => ?_) (fun c2 => ?_)
      · exact absurd c2 (by rw [h2]; exact nI_ge (by omega) (by omega))
      · refine lv_iload_n X.1 X.2.1 dX8_closed_14 rfl (lv_at hl 1 rfl) ?_
        refine lv_aload_n X.1 X.2.1 dX8_closed_15 rfl (lv_at hl 2 rfl) ?_
        refine lv_iload_n X.1 X.2.1 dX8_closed_16 rfl (lv_at hl 0 rfl) ?_
        refine lv_iconst (v := nI 3) X.1 X.2.1 dX8_closed_17 (by decide) ?_
        refine x_callVP X hK hw (k := o) (As := [.int (nI i), .int (nI 3)]) (rest := [.int y]) (k_X8_ofRace hI o a h sn tx k i 3 (by omega) hF (by omega)) (x_cwV yX8_ofRace cX8_ofRace 3 (some .int) 2 X q931 q933 qs20 q14 q934 hd_X8_ofRace ⟨Nat.le_of_ble_eq_true rfl, Nat.le_of_ble_eq_true rfl⟩) (by omega) hF.1 rfl rfl hl.1 rfl (Nat.le_of_ble_eq_true rfl) dX8_closed_18 ⟨Nat.le_of_ble_eq_true rfl, Nat.le_of_ble_eq_true rfl⟩ (fun H locs hw => ?_)
        refine lv_iadd X.1 X.2.1 dX8_closed_21 ?_
        refine lv_istore_n (lv' := [(1, .int (y + (m_r a i 3))), (2, .int (nI i)), (0, .ref (ad o))]) X.1 X.2.1 dX8_closed_22 rfl hl (by decide) rfl (fun ls hl => ?_)
        refine lv_iinc (v := nI (i + 1)) (lv' := [(2, .int (nI (i + 1))), (1, .int (y + (m_r a i 3))), (0, .ref (ad o))]) X.1 X.2.1 dX8_closed_23 hl (k := 1) rfl (by first | exact nI_1 _ | exact nI_add _ _ | rfl) (by decide) rfl (fun ls hl => ?_)
        refine lv_goto (tgt := 4) X.1 X.2.1 dX8_closed_26 (by decide) ?_
        exact ih (i + 1) (y + (m_r a i 3)) (by omega) (by rw [he, m_cl]) _ _ hw _ (lv_sub hl [0, 1, 2] rfl)
  exact loop nr 0 (nI 0) (by omega) rfl _ _ hw _ (lv_sub hl [0, 1, 2] rfl)
theorem hd_X8_closed : yX8_closed.cls = RX8 ∧ yX8_closed.cls ≠ "java/lang/invoke/MethodHandle" ∧ yX8_closed.cls ≠ "java/lang/invoke/VarHandle" ∧ (parseMethodDescriptor yX8_closed.desc).map (fun d => d.parameters.length) = some 0 := by decide +kernel
theorem hd_X8_pointsIn : yX8_pointsIn.cls = RX8 ∧ yX8_pointsIn.cls ≠ "java/lang/invoke/MethodHandle" ∧ yX8_pointsIn.cls ≠ "java/lang/invoke/VarHandle" ∧ (parseMethodDescriptor yX8_pointsIn.desc).map (fun d => d.parameters.length) = some 2 := by decide +kernel
set_option maxHeartbeats 4000000 in
set_option maxRecDepth 100000 in
theorem k_X8_sumOf {l : Launch} {D : va_G} {cI cB cS : ClassId} {ad : Nat → Nat} {N : Nat} {F : Nat → va_E} (hI : iN ad N) (o : Nat) (a : Nat → Int32) (h : Nat → Int32) (sn : Nat → Int32) (tx : Nat → Int32) (k : Nat → Int32) (b : Nat) (nb : Nat) (nr : Nat) (np : Nat) (nc : Nat) (hc5 : o + 5 ≤ N) (hF : MoF ad cI F o a h sn tx k) (hM : MI a nb nr np nc) (hb : b < nb) : Ci l D cI cB cS ad N yX8_sumOf cX8_sumOf 4 (some .int) 5 114 [.ref (ad o), .int (nI b)] F (pP (m_sum a b nb nc) F) := by
  refine x_met (by decide +kernel) (Nat.le_of_ble_eq_true rfl) ?_
  intro p e s m below meth c X hr hlk hK hw ls hl
  replace hl : lv_has ls 4 [(0, .ref (ad o)), (1, .int (nI b))] := hl
  have ⟨h1, hb9, h2, hr6, h3, hp10, hcl, hnc, hrt, hpr⟩ := hM
  refine lv_iconst (v := nI 0) X.1 X.2.1 dX8_sumOf_0 (by decide) ?_
  refine lv_istore_n (lv' := [(2, .int (nI 0)), (0, .ref (ad o)), (1, .int (nI b))]) X.1 X.2.1 dX8_sumOf_1 rfl hl (by decide) rfl (fun ls hl => ?_)
  refine lv_iconst (v := nI 0) X.1 X.2.1 dX8_sumOf_2 (by decide) ?_
  refine lv_istore_n (lv' := [(3, .int (nI 0)), (2, .int (nI 0)), (0, .ref (ad o)), (1, .int (nI b))]) X.1 X.2.1 dX8_sumOf_3 rfl hl (by decide) rfl (fun ls hl => ?_)
  have loop : ∀ (fu : Nat) (i : Nat) (y : Int32) (hfu : i + fu = nc) (he : y = m_sum a b nb i) (H : Heap) (locs : List Loc) (hw : HW D (Af ad N s.heap.size) ad N F s H locs) (ls : Array Slot) (hl : lv_has ls 4 [(3, .int (nI i)), (2, .int y), (0, .ref (ad o)), (1, .int (nI b))]), W p l e { frames := 5, cells := 0, slots := 0, locals := 114 } s m [.ref (ad o), .int (nI b)].toArray below meth c H locs 0 0 (MQ below (va_Qi (pP (m_sum a b nb nc) F) (fun F' t => PO D ad N F' t) (Af ad N s.heap.size)) [.ref (ad o), .int (nI b)].toArray s 0 0 (Af ad N s.heap.size)) (F0 m 4 ls []) := by
    intro fu
    induction fu with
    | zero =>
      intro i y hfu he H locs hw ls hl
      refine lv_iload_n X.1 X.2.1 dX8_sumOf_4 rfl (lv_at hl 0 rfl) ?_
      refine lv_aload_n X.1 X.2.1 dX8_sumOf_5 rfl (lv_at hl 2 rfl) ?_
      refine x_callVP X hK hw (k := o) (As := []) (rest := [.int (nI i)]) (k_X8_closed hI o a h sn tx k nb nr np nc (by omega) hF hM) (x_cwV yX8_closed cX8_closed 3 (some .int) 0 X q1176 q1178 qs60 q14 q1179 hd_X8_closed ⟨Nat.le_of_ble_eq_true rfl, Nat.le_of_ble_eq_true rfl⟩) (by omega) hF.1 rfl rfl hl.1 rfl (Nat.le_of_ble_eq_true rfl) dX8_sumOf_6 ⟨Nat.le_of_ble_eq_true rfl, Nat.le_of_ble_eq_true rfl⟩ (fun H locs hw => ?_)
      refine lv_icmp_ge (tgt := 27) X.1 X.2.1 dX8_sumOf_9 (by decide) (fun c1 => ?_) (fun c1 => ?_)
      · refine lv_iload_n X.1 X.2.1 dX8_sumOf_27 rfl (lv_at hl 1 rfl) ?_
        exact x_iret X hr hlk hK hw (v := y) rfl (⟨by rw [he, show i = nc by omega], rfl⟩) dX8_sumOf_28
      · exact absurd (nI_le (by omega) (by omega)) c1
    | succ fu ih =>
      intro i y hfu he H locs hw ls hl
      refine lv_iload_n X.1 X.2.1 dX8_sumOf_4 rfl (lv_at hl 0 rfl) ?_
      refine lv_aload_n X.1 X.2.1 dX8_sumOf_5 rfl (lv_at hl 2 rfl) ?_
      refine x_callVP X hK hw (k := o) (As := []) (rest := [.int (nI i)]) (k_X8_closed hI o a h sn tx k nb nr np nc (by omega) hF hM) (x_cwV yX8_closed cX8_closed 3 (some .int) 0 X q1176 q1178 qs60 q14 q1179 hd_X8_closed ⟨Nat.le_of_ble_eq_true rfl, Nat.le_of_ble_eq_true rfl⟩) (by omega) hF.1 rfl rfl hl.1 rfl (Nat.le_of_ble_eq_true rfl) dX8_sumOf_6 ⟨Nat.le_of_ble_eq_true rfl, Nat.le_of_ble_eq_true rfl⟩ (fun H locs hw => ?_)
      refine lv_icmp_ge (tgt := 27) X.1 X.2.1 dX8_sumOf_9 (by decide) (fun c2 => ?_) (fun c2 => ?_)
      · exact absurd c2 (nI_ge (by omega) (by omega))
      · refine lv_iload_n X.1 X.2.1 dX8_sumOf_12 rfl (lv_at hl 1 rfl) ?_
        refine lv_aload_n X.1 X.2.1 dX8_sumOf_13 rfl (lv_at hl 2 rfl) ?_
        refine lv_iload_n X.1 X.2.1 dX8_sumOf_14 rfl (lv_at hl 0 rfl) ?_
        refine lv_iload_n X.1 X.2.1 dX8_sumOf_15 rfl (lv_at hl 3 rfl) ?_
        refine x_callVP X hK hw (k := o) (As := [.int (nI i), .int (nI b)]) (rest := [.int y]) (k_X8_pointsIn hI o a h sn tx k i b nb nr np nc (by omega) hF hM (by omega) (by omega)) (x_cwV yX8_pointsIn cX8_pointsIn 4 (some .int) 2 X q1160 q1162 qs57 q14 q1163 hd_X8_pointsIn ⟨Nat.le_of_ble_eq_true rfl, Nat.le_of_ble_eq_true rfl⟩) (by omega) hF.1 rfl rfl hl.1 rfl (Nat.le_of_ble_eq_true rfl) dX8_sumOf_16 ⟨Nat.le_of_ble_eq_true rfl, Nat.le_of_ble_eq_true rfl⟩ (fun H locs hw => ?_)
        refine lv_iadd X.1 X.2.1 dX8_sumOf_19 ?_
        refine lv_istore_n (lv' := [(2, .int (y + (m_pts a i b nb))), (3, .int (nI i)), (0, .ref (ad o)), (1, .int (nI b))]) X.1 X.2.1 dX8_sumOf_20 rfl hl (by decide) rfl (fun ls hl => ?_)
        refine lv_iinc (v := nI (i + 1)) (lv' := [(3, .int (nI (i + 1))), (2, .int (y + (m_pts a i b nb))), (0, .ref (ad o)), (1, .int (nI b))]) X.1 X.2.1 dX8_sumOf_21 hl (k := 1) rfl (by first | exact nI_1 _ | exact nI_add _ _ | rfl) (by decide) rfl (fun ls hl => ?_)
        refine lv_goto (tgt := 4) X.1 X.2.1 dX8_sumOf_24 (by decide) ?_
        exact ih (i + 1) (y + (m_pts a i b nb)) (by omega) (by rw [he, m_sum]) _ _ hw _ (lv_sub hl [0, 1, 2, 3] rfl)
  exact loop nc 0 (nI 0) (by omega) rfl _ _ hw _ (lv_sub hl [0, 1, 2, 3] rfl)
-- leftOut
set_option maxHeartbeats 4000000 in
set_option maxRecDepth 100000 in
theorem k_X8_leftOut {l : Launch} {D : va_G} {cI cB cS : ClassId} {ad : Nat → Nat} {N : Nat} {F : Nat → va_E} (hI : iN ad N) (o : Nat) (a : Nat → Int32) (h : Nat → Int32) (sn : Nat → Int32) (tx : Nat → Int32) (k : Nat → Int32) (b : Nat) (nb : Nat) (nr : Nat) (np : Nat) (nc : Nat) (hc5 : o + 5 ≤ N) (hF : MoF ad cI F o a h sn tx k) (hM : MI a nb nr np nc) (hb : b < nb) : Ci l D cI cB cS ad N yX8_leftOut cX8_leftOut 5 (some .int) 5 114 [.ref (ad o), .int (nI b)] F (pP (oI (m_lo a b nb nc)) F) := by
  refine x_met (by decide +kernel) (Nat.le_of_ble_eq_true rfl) ?_
  intro p e s m below meth c X hr hlk hK hw ls hl
  replace hl : lv_has ls 5 [(0, .ref (ad o)), (1, .int (nI b))] := hl
  have ⟨h1, hb9, h2, hr6, h3, hp10, hcl, hnc, hrt, hpr⟩ := hM
  refine lv_bipush (v := (-5)) X.1 X.2.1 dX8_leftOut_0 (by decide) ?_
  refine lv_istore_n (lv' := [(2, .int ((-5))), (0, .ref (ad o)), (1, .int (nI b))]) X.1 X.2.1 dX8_leftOut_2 rfl hl (by decide) rfl (fun ls hl => ?_)
  refine lv_aload_n X.1 X.2.1 dX8_leftOut_3 rfl (lv_at hl 1 rfl) ?_
  refine x_get X hK hw (C := RX8) (T := TX8) (nf := 12) (k := o) (by omega) hF.1 rfl inX8 0 (by decide) q868 (fun _ h9 => h9) rfl dX8_leftOut_4 ?_
  refine lv_bipush (v := nI 6) X.1 X.2.1 dX8_leftOut_7 (by decide) ?_
  refine x_ialdN X hK hw (k := (o + 1)) (by omega) hF.2.1 (i := nI 6) (j := 6) rfl (by omega) (by omega) dX8_leftOut_9 ?_
  refine lv_if_le (tgt := 31) X.1 X.2.1 dX8_leftOut_10 (by decide) (fun c1 => ?_) (fun c1 => ?_)
  · refine lv_iconst (v := nI 0) X.1 X.2.1 dX8_leftOut_31 (by decide) ?_
    refine lv_istore_n (lv' := [(3, .int (nI 0)), (2, .int ((-5))), (0, .ref (ad o)), (1, .int (nI b))]) X.1 X.2.1 dX8_leftOut_32 rfl hl (by decide) rfl (fun ls hl => ?_)
    refine lv_iconst (v := nI 0) X.1 X.2.1 dX8_leftOut_33 (by decide) ?_
    refine lv_istore (lv' := [(4, .int (nI 0)), (3, .int (nI 0)), (2, .int ((-5))), (0, .ref (ad o)), (1, .int (nI b))]) X.1 X.2.1 dX8_leftOut_34 hl (by decide) rfl (fun ls hl => ?_)
    have loopz : ∀ (fu : Nat) (i : Nat) (hfu : i + fu = nc) (H : Heap) (locs : List Loc) (hw : HW D (Af ad N s.heap.size) ad N F s H locs) (ls : Array Slot) (hl : lv_has ls 5 [(4, .int (nI i)), (0, .ref (ad o)), (1, .int (nI b)), (2, .int ((-5))), (3, .int (nI 0))]), W p l e { frames := 5, cells := 0, slots := 0, locals := 114 } s m [.ref (ad o), .int (nI b)].toArray below meth c H locs 0 0 (MQ below (va_Qi (pP (oI (m_lo a b nb nc)) F) (fun F' t => PO D ad N F' t) (Af ad N s.heap.size)) [.ref (ad o), .int (nI b)].toArray s 0 0 (Af ad N s.heap.size)) (F0 m 36 ls []) := by
      intro fu
      induction fu with
      | zero =>
        intro i hfu H locs hw ls hl
        refine lv_iload X.1 X.2.1 dX8_leftOut_36 (lv_at hl 0 rfl) ?_
        refine lv_aload_n X.1 X.2.1 dX8_leftOut_38 rfl (lv_at hl 1 rfl) ?_
        refine x_callVP X hK hw (k := o) (As := []) (rest := [.int (nI i)]) (k_X8_closed hI o a h sn tx k nb nr np nc (by omega) hF hM) (x_cwV yX8_closed cX8_closed 3 (some .int) 0 X q1176 q1178 qs60 q14 q1179 hd_X8_closed ⟨Nat.le_of_ble_eq_true rfl, Nat.le_of_ble_eq_true rfl⟩) (by omega) hF.1 rfl rfl hl.1 rfl (Nat.le_of_ble_eq_true rfl) dX8_leftOut_39 ⟨Nat.le_of_ble_eq_true rfl, Nat.le_of_ble_eq_true rfl⟩ (fun H locs hw => ?_)
        refine lv_icmp_ge (tgt := 84) X.1 X.2.1 dX8_leftOut_42 (by decide) (fun c2 => ?_) (fun c2 => ?_)
        · refine lv_iload_n X.1 X.2.1 dX8_leftOut_84 rfl (lv_at hl 3 rfl) ?_
          exact x_iret X hr hlk hK hw (v := (-5)) rfl (⟨by rw [m_lo, if_neg (fun q => Int32.not_le.mpr q.1 c1)]; rfl, rfl⟩) dX8_leftOut_85
        · exact absurd (nI_le (by omega) (by omega)) c2
      | succ fu ih =>
        intro i hfu H locs hw ls hl
        refine lv_iload X.1 X.2.1 dX8_leftOut_36 (lv_at hl 0 rfl) ?_
        refine lv_aload_n X.1 X.2.1 dX8_leftOut_38 rfl (lv_at hl 1 rfl) ?_
        refine x_callVP X hK hw (k := o) (As := []) (rest := [.int (nI i)]) (k_X8_closed hI o a h sn tx k nb nr np nc (by omega) hF hM) (x_cwV yX8_closed cX8_closed 3 (some .int) 0 X q1176 q1178 qs60 q14 q1179 hd_X8_closed ⟨Nat.le_of_ble_eq_true rfl, Nat.le_of_ble_eq_true rfl⟩) (by omega) hF.1 rfl rfl hl.1 rfl (Nat.le_of_ble_eq_true rfl) dX8_leftOut_39 ⟨Nat.le_of_ble_eq_true rfl, Nat.le_of_ble_eq_true rfl⟩ (fun H locs hw => ?_)
        refine lv_icmp_ge (tgt := 84) X.1 X.2.1 dX8_leftOut_42 (by decide) (fun c3 => ?_) (fun c3 => ?_)
        · exact absurd c3 (nI_ge (by omega) (by omega))
        · refine lv_iload_n X.1 X.2.1 dX8_leftOut_45 rfl (lv_at hl 4 rfl) ?_
          refine lv_if_eq (tgt := 84) X.1 X.2.1 dX8_leftOut_46 (by decide) (fun c4 => ?_) (fun c4 => ?_)
          · refine lv_iload_n X.1 X.2.1 dX8_leftOut_84 rfl (lv_at hl 3 rfl) ?_
            exact x_iret X hr hlk hK hw (v := (-5)) rfl (⟨by rw [m_lo, if_neg (fun q => Int32.not_le.mpr q.1 c1)]; rfl, rfl⟩) dX8_leftOut_85
          · exact absurd (by decide) c4
    exact loopz nc 0  (by omega)  _ _ hw _ (lv_sub hl [0, 3, 4, 2, 1] rfl)
  · refine lv_aload_n X.1 X.2.1 dX8_leftOut_13 rfl (lv_at hl 1 rfl) ?_
    refine x_callVP X hK hw (k := o) (As := []) (rest := []) (k_X8_closed hI o a h sn tx k nb nr np nc (by omega) hF hM) (x_cwV yX8_closed cX8_closed 3 (some .int) 0 X q1176 q1178 qs60 q14 q1179 hd_X8_closed ⟨Nat.le_of_ble_eq_true rfl, Nat.le_of_ble_eq_true rfl⟩) (by omega) hF.1 rfl rfl hl.1 rfl (Nat.le_of_ble_eq_true rfl) dX8_leftOut_14 ⟨Nat.le_of_ble_eq_true rfl, Nat.le_of_ble_eq_true rfl⟩ (fun H locs hw => ?_)
    refine lv_aload_n X.1 X.2.1 dX8_leftOut_17 rfl (lv_at hl 1 rfl) ?_
    refine x_get X hK hw (C := RX8) (T := TX8) (nf := 12) (k := o) (by omega) hF.1 rfl inX8 0 (by decide) q868 (fun _ h9 => h9) rfl dX8_leftOut_18 ?_
    refine lv_bipush (v := nI 6) X.1 X.2.1 dX8_leftOut_21 (by decide) ?_
    refine x_ialdN X hK hw (k := (o + 1)) (by omega) hF.2.1 (i := nI 6) (j := 6) rfl (by omega) (by omega) dX8_leftOut_23 ?_
    refine lv_icmp_lt (tgt := 31) X.1 X.2.1 dX8_leftOut_24 (by decide) (fun c5 => ?_) (fun c5 => ?_)
    · refine lv_iconst (v := nI 0) X.1 X.2.1 dX8_leftOut_31 (by decide) ?_
      refine lv_istore_n (lv' := [(3, .int (nI 0)), (2, .int ((-5))), (0, .ref (ad o)), (1, .int (nI b))]) X.1 X.2.1 dX8_leftOut_32 rfl hl (by decide) rfl (fun ls hl => ?_)
      refine lv_iconst (v := nI 0) X.1 X.2.1 dX8_leftOut_33 (by decide) ?_
      refine lv_istore (lv' := [(4, .int (nI 0)), (3, .int (nI 0)), (2, .int ((-5))), (0, .ref (ad o)), (1, .int (nI b))]) X.1 X.2.1 dX8_leftOut_34 hl (by decide) rfl (fun ls hl => ?_)
      have loopz : ∀ (fu : Nat) (i : Nat) (hfu : i + fu = nc) (H : Heap) (locs : List Loc) (hw : HW D (Af ad N s.heap.size) ad N F s H locs) (ls : Array Slot) (hl : lv_has ls 5 [(4, .int (nI i)), (0, .ref (ad o)), (1, .int (nI b)), (2, .int ((-5))), (3, .int (nI 0))]), W p l e { frames := 5, cells := 0, slots := 0, locals := 114 } s m [.ref (ad o), .int (nI b)].toArray below meth c H locs 0 0 (MQ below (va_Qi (pP (oI (m_lo a b nb nc)) F) (fun F' t => PO D ad N F' t) (Af ad N s.heap.size)) [.ref (ad o), .int (nI b)].toArray s 0 0 (Af ad N s.heap.size)) (F0 m 36 ls []) := by
        intro fu
        induction fu with
        | zero =>
          intro i hfu H locs hw ls hl
          refine lv_iload X.1 X.2.1 dX8_leftOut_36 (lv_at hl 0 rfl) ?_
          refine lv_aload_n X.1 X.2.1 dX8_leftOut_38 rfl (lv_at hl 1 rfl) ?_
          refine x_callVP X hK hw (k := o) (As := []) (rest := [.int (nI i)]) (k_X8_closed hI o a h sn tx k nb nr np nc (by omega) hF hM) (x_cwV yX8_closed cX8_closed 3 (some .int) 0 X q1176 q1178 qs60 q14 q1179 hd_X8_closed ⟨Nat.le_of_ble_eq_true rfl, Nat.le_of_ble_eq_true rfl⟩) (by omega) hF.1 rfl rfl hl.1 rfl (Nat.le_of_ble_eq_true rfl) dX8_leftOut_39 ⟨Nat.le_of_ble_eq_true rfl, Nat.le_of_ble_eq_true rfl⟩ (fun H locs hw => ?_)
          refine lv_icmp_ge (tgt := 84) X.1 X.2.1 dX8_leftOut_42 (by decide) (fun c6 => ?_) (fun c6 => ?_)
          · refine lv_iload_n X.1 X.2.1 dX8_leftOut_84 rfl (lv_at hl 3 rfl) ?_
            exact x_iret X hr hlk hK hw (v := (-5)) rfl (⟨by rw [m_lo, if_neg (fun q => q.2 c5)]; rfl, rfl⟩) dX8_leftOut_85
          · exact absurd (nI_le (by omega) (by omega)) c6
        | succ fu ih =>
          intro i hfu H locs hw ls hl
          refine lv_iload X.1 X.2.1 dX8_leftOut_36 (lv_at hl 0 rfl) ?_
          refine lv_aload_n X.1 X.2.1 dX8_leftOut_38 rfl (lv_at hl 1 rfl) ?_
          refine x_callVP X hK hw (k := o) (As := []) (rest := [.int (nI i)]) (k_X8_closed hI o a h sn tx k nb nr np nc (by omega) hF hM) (x_cwV yX8_closed cX8_closed 3 (some .int) 0 X q1176 q1178 qs60 q14 q1179 hd_X8_closed ⟨Nat.le_of_ble_eq_true rfl, Nat.le_of_ble_eq_true rfl⟩) (by omega) hF.1 rfl rfl hl.1 rfl (Nat.le_of_ble_eq_true rfl) dX8_leftOut_39 ⟨Nat.le_of_ble_eq_true rfl, Nat.le_of_ble_eq_true rfl⟩ (fun H locs hw => ?_)
          refine lv_icmp_ge (tgt := 84) X.1 X.2.1 dX8_leftOut_42 (by decide) (fun c7 => ?_) (fun c7 => ?_)
          · exact absurd c7 (nI_ge (by omega) (by omega))
          · refine lv_iload_n X.1 X.2.1 dX8_leftOut_45 rfl (lv_at hl 4 rfl) ?_
            refine lv_if_eq (tgt := 84) X.1 X.2.1 dX8_leftOut_46 (by decide) (fun c8 => ?_) (fun c8 => ?_)
            · refine lv_iload_n X.1 X.2.1 dX8_leftOut_84 rfl (lv_at hl 3 rfl) ?_
              exact x_iret X hr hlk hK hw (v := (-5)) rfl (⟨by rw [m_lo, if_neg (fun q => q.2 c5)]; rfl, rfl⟩) dX8_leftOut_85
            · exact absurd (by decide) c8
      exact loopz nc 0  (by omega)  _ _ hw _ (lv_sub hl [0, 3, 4, 2, 1] rfl)
    · refine lv_iconst (v := nI 1) X.1 X.2.1 dX8_leftOut_27 (by decide) ?_
      refine lv_goto (tgt := 32) X.1 X.2.1 dX8_leftOut_28 (by decide) ?_
      refine lv_istore_n (lv' := [(3, .int (nI 1)), (2, .int ((-5))), (0, .ref (ad o)), (1, .int (nI b))]) X.1 X.2.1 dX8_leftOut_32 rfl hl (by decide) rfl (fun ls hl => ?_)
      refine lv_iconst (v := nI 0) X.1 X.2.1 dX8_leftOut_33 (by decide) ?_
      refine lv_istore (lv' := [(4, .int (nI 0)), (3, .int (nI 1)), (2, .int ((-5))), (0, .ref (ad o)), (1, .int (nI b))]) X.1 X.2.1 dX8_leftOut_34 hl (by decide) rfl (fun ls hl => ?_)
      have loop : ∀ (fu : Nat) (i : Nat) (fo : Option Nat) (hfu : i + fu = nc) (he : fo = m_lf a b nb i) (H : Heap) (locs : List Loc) (hw : HW D (Af ad N s.heap.size) ad N F s H locs) (ls : Array Slot) (hl : lv_has ls 5 [(4, .int (nI i)), (0, .ref (ad o)), (1, .int (nI b)), (2, .int (oI fo)), (3, .int (nI 1))]), W p l e { frames := 5, cells := 0, slots := 0, locals := 114 } s m [.ref (ad o), .int (nI b)].toArray below meth c H locs 0 0 (MQ below (va_Qi (pP (oI (m_lo a b nb nc)) F) (fun F' t => PO D ad N F' t) (Af ad N s.heap.size)) [.ref (ad o), .int (nI b)].toArray s 0 0 (Af ad N s.heap.size)) (F0 m 36 ls []) := by
        intro fu
        induction fu with
        | zero =>
          intro i fo hfu he H locs hw ls hl
          rcases fo with _ | j
          · refine lv_iload X.1 X.2.1 dX8_leftOut_36 (lv_at hl 0 rfl) ?_
            refine lv_aload_n X.1 X.2.1 dX8_leftOut_38 rfl (lv_at hl 1 rfl) ?_
            refine x_callVP X hK hw (k := o) (As := []) (rest := [.int (nI i)]) (k_X8_closed hI o a h sn tx k nb nr np nc (by omega) hF hM) (x_cwV yX8_closed cX8_closed 3 (some .int) 0 X q1176 q1178 qs60 q14 q1179 hd_X8_closed ⟨Nat.le_of_ble_eq_true rfl, Nat.le_of_ble_eq_true rfl⟩) (by omega) hF.1 rfl rfl hl.1 rfl (Nat.le_of_ble_eq_true rfl) dX8_leftOut_39 ⟨Nat.le_of_ble_eq_true rfl, Nat.le_of_ble_eq_true rfl⟩ (fun H locs hw => ?_)
            refine lv_icmp_ge (tgt := 84) X.1 X.2.1 dX8_leftOut_42 (by decide) (fun c9 => ?_) (fun c9 => ?_)
            · refine lv_iload_n X.1 X.2.1 dX8_leftOut_84 rfl (lv_at hl 3 rfl) ?_
              exact x_iret X hr hlk hK hw (v := (-5)) rfl (⟨by rw [m_lo, if_pos ⟨Int32.not_le.mp c1, c5⟩, ← show i = nc by omega, ← he]; rfl, rfl⟩) dX8_leftOut_85
            · exact absurd (nI_le (by omega) (by omega)) c9
          · have hj := m_lf_lt a b nb i j he.symm
            refine lv_iload X.1 X.2.1 dX8_leftOut_36 (lv_at hl 0 rfl) ?_
            refine lv_aload_n X.1 X.2.1 dX8_leftOut_38 rfl (lv_at hl 1 rfl) ?_
            refine x_callVP X hK hw (k := o) (As := []) (rest := [.int (nI i)]) (k_X8_closed hI o a h sn tx k nb nr np nc (by omega) hF hM) (x_cwV yX8_closed cX8_closed 3 (some .int) 0 X q1176 q1178 qs60 q14 q1179 hd_X8_closed ⟨Nat.le_of_ble_eq_true rfl, Nat.le_of_ble_eq_true rfl⟩) (by omega) hF.1 rfl rfl hl.1 rfl (Nat.le_of_ble_eq_true rfl) dX8_leftOut_39 ⟨Nat.le_of_ble_eq_true rfl, Nat.le_of_ble_eq_true rfl⟩ (fun H locs hw => ?_)
            refine lv_icmp_ge (tgt := 84) X.1 X.2.1 dX8_leftOut_42 (by decide) (fun c10 => ?_) (fun c10 => ?_)
            · refine lv_iload_n X.1 X.2.1 dX8_leftOut_84 rfl (lv_at hl 3 rfl) ?_
              exact x_iret X hr hlk hK hw (v := nI j) rfl (⟨by rw [m_lo, if_pos ⟨Int32.not_le.mp c1, c5⟩, ← show i = nc by omega, ← he]; rfl, rfl⟩) dX8_leftOut_85
            · exact absurd (nI_le (by omega) (by omega)) c10
        | succ fu ih =>
          intro i fo hfu he H locs hw ls hl
          rcases fo with _ | j
          · refine lv_iload X.1 X.2.1 dX8_leftOut_36 (lv_at hl 0 rfl) ?_
            refine lv_aload_n X.1 X.2.1 dX8_leftOut_38 rfl (lv_at hl 1 rfl) ?_
            refine x_callVP X hK hw (k := o) (As := []) (rest := [.int (nI i)]) (k_X8_closed hI o a h sn tx k nb nr np nc (by omega) hF hM) (x_cwV yX8_closed cX8_closed 3 (some .int) 0 X q1176 q1178 qs60 q14 q1179 hd_X8_closed ⟨Nat.le_of_ble_eq_true rfl, Nat.le_of_ble_eq_true rfl⟩) (by omega) hF.1 rfl rfl hl.1 rfl (Nat.le_of_ble_eq_true rfl) dX8_leftOut_39 ⟨Nat.le_of_ble_eq_true rfl, Nat.le_of_ble_eq_true rfl⟩ (fun H locs hw => ?_)
            refine lv_icmp_ge (tgt := 84) X.1 X.2.1 dX8_leftOut_42 (by decide) (fun c11 => ?_) (fun c11 => ?_)
            · exact absurd c11 (nI_ge (by omega) (by omega))
            · refine lv_iload_n X.1 X.2.1 dX8_leftOut_45 rfl (lv_at hl 4 rfl) ?_
              refine lv_if_eq (tgt := 84) X.1 X.2.1 dX8_leftOut_46 (by decide) (fun c12 => ?_) (fun c12 => ?_)
              · exact absurd c12 (by decide)
              · refine lv_iload_n X.1 X.2.1 dX8_leftOut_49 rfl (lv_at hl 3 rfl) ?_
                refine lv_bipush (v := (-5)) X.1 X.2.1 dX8_leftOut_50 (by decide) ?_
                refine lv_icmp_eq (tgt := 71) X.1 X.2.1 dX8_leftOut_52 (by decide) (fun c13 => ?_) (fun c13 => ?_)
                · refine lv_iload X.1 X.2.1 dX8_leftOut_71 (lv_at hl 0 rfl) ?_
                  refine lv_goto (tgt := 77) X.1 X.2.1 dX8_leftOut_73 (by decide) ?_
                  refine lv_istore_n (lv' := [(2, .int (nI i)), (4, .int (nI i)), (0, .ref (ad o)), (1, .int (nI b)), (3, .int (nI 1))]) X.1 X.2.1 dX8_leftOut_77 rfl hl (by decide) rfl (fun ls hl => ?_)
                  refine lv_iinc (v := nI (i + 1)) (lv' := [(4, .int (nI (i + 1))), (2, .int (nI i)), (0, .ref (ad o)), (1, .int (nI b)), (3, .int (nI 1))]) X.1 X.2.1 dX8_leftOut_78 hl (k := 1) rfl (by first | exact nI_1 _ | exact nI_add _ _ | rfl) (by decide) rfl (fun ls hl => ?_)
                  refine lv_goto (tgt := 36) X.1 X.2.1 dX8_leftOut_81 (by decide) ?_
                  exact ih (i + 1) ((some i)) (by omega) (by simp only [m_lf, ← he]) _ _ hw _ (lv_sub hl [0, 2, 3, 1, 4] rfl)
                · exact absurd rfl c13
          · have hj := m_lf_lt a b nb i j he.symm
            refine lv_iload X.1 X.2.1 dX8_leftOut_36 (lv_at hl 0 rfl) ?_
            refine lv_aload_n X.1 X.2.1 dX8_leftOut_38 rfl (lv_at hl 1 rfl) ?_
            refine x_callVP X hK hw (k := o) (As := []) (rest := [.int (nI i)]) (k_X8_closed hI o a h sn tx k nb nr np nc (by omega) hF hM) (x_cwV yX8_closed cX8_closed 3 (some .int) 0 X q1176 q1178 qs60 q14 q1179 hd_X8_closed ⟨Nat.le_of_ble_eq_true rfl, Nat.le_of_ble_eq_true rfl⟩) (by omega) hF.1 rfl rfl hl.1 rfl (Nat.le_of_ble_eq_true rfl) dX8_leftOut_39 ⟨Nat.le_of_ble_eq_true rfl, Nat.le_of_ble_eq_true rfl⟩ (fun H locs hw => ?_)
            refine lv_icmp_ge (tgt := 84) X.1 X.2.1 dX8_leftOut_42 (by decide) (fun c14 => ?_) (fun c14 => ?_)
            · exact absurd c14 (nI_ge (by omega) (by omega))
            · refine lv_iload_n X.1 X.2.1 dX8_leftOut_45 rfl (lv_at hl 4 rfl) ?_
              refine lv_if_eq (tgt := 84) X.1 X.2.1 dX8_leftOut_46 (by decide) (fun c15 => ?_) (fun c15 => ?_)
              · exact absurd c15 (by decide)
              · refine lv_iload_n X.1 X.2.1 dX8_leftOut_49 rfl (lv_at hl 3 rfl) ?_
                refine lv_bipush (v := (-5)) X.1 X.2.1 dX8_leftOut_50 (by decide) ?_
                refine lv_icmp_eq (tgt := 71) X.1 X.2.1 dX8_leftOut_52 (by decide) (fun c16 => ?_) (fun c16 => ?_)
                · exact absurd c16 (nI_ne5 (by omega))
                · refine lv_aload_n X.1 X.2.1 dX8_leftOut_55 rfl (lv_at hl 1 rfl) ?_
                  refine lv_iload X.1 X.2.1 dX8_leftOut_56 (lv_at hl 0 rfl) ?_
                  refine lv_iload_n X.1 X.2.1 dX8_leftOut_58 rfl (lv_at hl 2 rfl) ?_
                  refine x_callVP X hK hw (k := o) (As := [.int (nI i), .int (nI b)]) (rest := []) (k_X8_pointsIn hI o a h sn tx k i b nb nr np nc (by omega) hF hM (by omega) (by omega)) (x_cwV yX8_pointsIn cX8_pointsIn 4 (some .int) 2 X q1160 q1162 qs57 q14 q1163 hd_X8_pointsIn ⟨Nat.le_of_ble_eq_true rfl, Nat.le_of_ble_eq_true rfl⟩) (by omega) hF.1 rfl rfl hl.1 rfl (Nat.le_of_ble_eq_true rfl) dX8_leftOut_59 ⟨Nat.le_of_ble_eq_true rfl, Nat.le_of_ble_eq_true rfl⟩ (fun H locs hw => ?_)
                  refine lv_aload_n X.1 X.2.1 dX8_leftOut_62 rfl (lv_at hl 1 rfl) ?_
                  refine lv_iload_n X.1 X.2.1 dX8_leftOut_63 rfl (lv_at hl 3 rfl) ?_
                  refine lv_iload_n X.1 X.2.1 dX8_leftOut_64 rfl (lv_at hl 2 rfl) ?_
                  refine x_callVP X hK hw (k := o) (As := [.int (nI j), .int (nI b)]) (rest := [.int (m_pts a i b nb)]) (k_X8_pointsIn hI o a h sn tx k j b nb nr np nc (by omega) hF hM (by have := m_lf_lt a b nb i j he.symm; omega) (by omega)) (x_cwV yX8_pointsIn cX8_pointsIn 4 (some .int) 2 X q1160 q1162 qs57 q14 q1163 hd_X8_pointsIn ⟨Nat.le_of_ble_eq_true rfl, Nat.le_of_ble_eq_true rfl⟩) (by omega) hF.1 rfl rfl hl.1 rfl (Nat.le_of_ble_eq_true rfl) dX8_leftOut_65 ⟨Nat.le_of_ble_eq_true rfl, Nat.le_of_ble_eq_true rfl⟩ (fun H locs hw => ?_)
                  refine lv_icmp_lt (tgt := 76) X.1 X.2.1 dX8_leftOut_68 (by decide) (fun c17 => ?_) (fun c17 => ?_)
                  · refine lv_iload_n X.1 X.2.1 dX8_leftOut_76 rfl (lv_at hl 3 rfl) ?_
                    refine lv_istore_n (lv' := [(2, .int (nI j)), (4, .int (nI i)), (0, .ref (ad o)), (1, .int (nI b)), (3, .int (nI 1))]) X.1 X.2.1 dX8_leftOut_77 rfl hl (by decide) rfl (fun ls hl => ?_)
                    refine lv_iinc (v := nI (i + 1)) (lv' := [(4, .int (nI (i + 1))), (2, .int (nI j)), (0, .ref (ad o)), (1, .int (nI b)), (3, .int (nI 1))]) X.1 X.2.1 dX8_leftOut_78 hl (k := 1) rfl (by first | exact nI_1 _ | exact nI_add _ _ | rfl) (by decide) rfl (fun ls hl => ?_)
                    refine lv_goto (tgt := 36) X.1 X.2.1 dX8_leftOut_81 (by decide) ?_
                    exact ih (i + 1) ((some j)) (by omega) (by simp only [m_lf, ← he]; rw [if_pos c17]) _ _ hw _ (lv_sub hl [0, 2, 3, 1, 4] rfl)
                  · refine lv_iload X.1 X.2.1 dX8_leftOut_71 (lv_at hl 0 rfl) ?_
                    refine lv_goto (tgt := 77) X.1 X.2.1 dX8_leftOut_73 (by decide) ?_
                    refine lv_istore_n (lv' := [(2, .int (nI i)), (4, .int (nI i)), (0, .ref (ad o)), (1, .int (nI b)), (3, .int (nI 1))]) X.1 X.2.1 dX8_leftOut_77 rfl hl (by decide) rfl (fun ls hl => ?_)
                    refine lv_iinc (v := nI (i + 1)) (lv' := [(4, .int (nI (i + 1))), (2, .int (nI i)), (0, .ref (ad o)), (1, .int (nI b)), (3, .int (nI 1))]) X.1 X.2.1 dX8_leftOut_78 hl (k := 1) rfl (by first | exact nI_1 _ | exact nI_add _ _ | rfl) (by decide) rfl (fun ls hl => ?_)
                    refine lv_goto (tgt := 36) X.1 X.2.1 dX8_leftOut_81 (by decide) ?_
                    exact ih (i + 1) ((some i)) (by omega) (by simp only [m_lf, ← he]; rw [if_neg c17]) _ _ hw _ (lv_sub hl [0, 2, 3, 1, 4] rfl)
      exact loop nc 0 none (by omega) rfl _ _ hw _ (lv_sub hl [0, 3, 4, 2, 1] rfl)
theorem hd_X8_leftOut : yX8_leftOut.cls = RX8 ∧ yX8_leftOut.cls ≠ "java/lang/invoke/MethodHandle" ∧ yX8_leftOut.cls ≠ "java/lang/invoke/VarHandle" ∧ (parseMethodDescriptor yX8_leftOut.desc).map (fun d => d.parameters.length) = some 1 := by decide +kernel
theorem hd_X8_sumOf : yX8_sumOf.cls = RX8 ∧ yX8_sumOf.cls ≠ "java/lang/invoke/MethodHandle" ∧ yX8_sumOf.cls ≠ "java/lang/invoke/VarHandle" ∧ (parseMethodDescriptor yX8_sumOf.desc).map (fun d => d.parameters.length) = some 1 := by decide +kernel
set_option maxHeartbeats 4000000 in
set_option maxRecDepth 100000 in
theorem k_X8_total {l : Launch} {D : va_G} {cI cB cS : ClassId} {ad : Nat → Nat} {N : Nat} {F : Nat → va_E} (hI : iN ad N) (o : Nat) (a : Nat → Int32) (h : Nat → Int32) (sn : Nat → Int32) (tx : Nat → Int32) (k : Nat → Int32) (b : Nat) (nb : Nat) (nr : Nat) (np : Nat) (nc : Nat) (hc5 : o + 5 ≤ N) (hF : MoF ad cI F o a h sn tx k) (hM : MI a nb nr np nc) (hb : b < nb) : Ci l D cI cB cS ad N yX8_total cX8_total 3 (some .int) 6 138 [.ref (ad o), .int (nI b)] F (pP (m_tot a b nb nc) F) := by
  refine x_met (by decide +kernel) (Nat.le_of_ble_eq_true rfl) ?_
  intro p e s m below meth c X hr hlk hK hw ls hl
  replace hl : lv_has ls 3 [(0, .ref (ad o)), (1, .int (nI b))] := hl
  have ⟨h1, hb9, h2, hr6, h3, hp10, hcl, hnc, hrt, hpr⟩ := hM
  refine lv_aload_n X.1 X.2.1 dX8_total_0 rfl (lv_at hl 0 rfl) ?_
  refine lv_iload_n X.1 X.2.1 dX8_total_1 rfl (lv_at hl 1 rfl) ?_
  refine x_callVP X hK hw (k := o) (As := [.int (nI b)]) (rest := []) (k_X8_leftOut hI o a h sn tx k b nb nr np nc (by omega) hF hM (by omega)) (x_cwV yX8_leftOut cX8_leftOut 5 (some .int) 1 X q1172 q1174 qs59 q14 q1175 hd_X8_leftOut ⟨Nat.le_of_ble_eq_true rfl, Nat.le_of_ble_eq_true rfl⟩) (by omega) hF.1 rfl rfl hl.1 rfl (Nat.le_of_ble_eq_true rfl) dX8_total_2 ⟨Nat.le_of_ble_eq_true rfl, Nat.le_of_ble_eq_true rfl⟩ (fun H locs hw => ?_)
  refine lv_istore_n (lv' := [(2, .int (oI (m_lo a b nb nc))), (0, .ref (ad o)), (1, .int (nI b))]) X.1 X.2.1 dX8_total_5 rfl hl (by decide) rfl (fun ls hl => ?_)
  obtain ⟨fo, he⟩ : ∃ y, y = m_lo a b nb nc := ⟨_, rfl⟩
  rw [← he] at hl
  rcases fo with _ | j
  · replace hl : lv_has ls 3 [(2, .int ((-5))), (0, .ref (ad o)), (1, .int (nI b))] := hl
    refine lv_aload_n X.1 X.2.1 dX8_total_6 rfl (lv_at hl 1 rfl) ?_
    refine lv_iload_n X.1 X.2.1 dX8_total_7 rfl (lv_at hl 2 rfl) ?_
    refine x_callVP X hK hw (k := o) (As := [.int (nI b)]) (rest := []) (k_X8_sumOf hI o a h sn tx k b nb nr np nc (by omega) hF hM (by omega)) (x_cwV yX8_sumOf cX8_sumOf 4 (some .int) 1 X q1180 q1182 qs61 q14 q1183 hd_X8_sumOf ⟨Nat.le_of_ble_eq_true rfl, Nat.le_of_ble_eq_true rfl⟩) (by omega) hF.1 rfl rfl hl.1 rfl (Nat.le_of_ble_eq_true rfl) dX8_total_8 ⟨Nat.le_of_ble_eq_true rfl, Nat.le_of_ble_eq_true rfl⟩ (fun H locs hw => ?_)
    refine lv_iload_n X.1 X.2.1 dX8_total_11 rfl (lv_at hl 0 rfl) ?_
    refine lv_bipush (v := (-5)) X.1 X.2.1 dX8_total_12 (by decide) ?_
    refine lv_icmp_ne (tgt := 21) X.1 X.2.1 dX8_total_14 (by decide) (fun c1 => ?_) (fun c1 => ?_)
    · exact absurd rfl c1
    · refine lv_iconst (v := nI 0) X.1 X.2.1 dX8_total_17 (by decide) ?_
      refine lv_goto (tgt := 27) X.1 X.2.1 dX8_total_18 (by decide) ?_
      refine lv_isub X.1 X.2.1 dX8_total_27 ?_
      exact x_iret X hr hlk hK hw (v := (m_sum a b nb nc) - (nI 0)) rfl (⟨by simp only [m_tot, ← he], rfl⟩) dX8_total_28
  · have hj := m_lo_lt he.symm
    replace hl : lv_has ls 3 [(2, .int (nI j)), (0, .ref (ad o)), (1, .int (nI b))] := hl
    refine lv_aload_n X.1 X.2.1 dX8_total_6 rfl (lv_at hl 1 rfl) ?_
    refine lv_iload_n X.1 X.2.1 dX8_total_7 rfl (lv_at hl 2 rfl) ?_
    refine x_callVP X hK hw (k := o) (As := [.int (nI b)]) (rest := []) (k_X8_sumOf hI o a h sn tx k b nb nr np nc (by omega) hF hM (by omega)) (x_cwV yX8_sumOf cX8_sumOf 4 (some .int) 1 X q1180 q1182 qs61 q14 q1183 hd_X8_sumOf ⟨Nat.le_of_ble_eq_true rfl, Nat.le_of_ble_eq_true rfl⟩) (by omega) hF.1 rfl rfl hl.1 rfl (Nat.le_of_ble_eq_true rfl) dX8_total_8 ⟨Nat.le_of_ble_eq_true rfl, Nat.le_of_ble_eq_true rfl⟩ (fun H locs hw => ?_)
    refine lv_iload_n X.1 X.2.1 dX8_total_11 rfl (lv_at hl 0 rfl) ?_
    refine lv_bipush (v := (-5)) X.1 X.2.1 dX8_total_12 (by decide) ?_
    refine lv_icmp_ne (tgt := 21) X.1 X.2.1 dX8_total_14 (by decide) (fun c2 => ?_) (fun c2 => ?_)
    · refine lv_aload_n X.1 X.2.1 dX8_total_21 rfl (lv_at hl 1 rfl) ?_
      refine lv_iload_n X.1 X.2.1 dX8_total_22 rfl (lv_at hl 0 rfl) ?_
      refine lv_iload_n X.1 X.2.1 dX8_total_23 rfl (lv_at hl 2 rfl) ?_
      refine x_callVP X hK hw (k := o) (As := [.int (nI j), .int (nI b)]) (rest := [.int (m_sum a b nb nc)]) (k_X8_pointsIn hI o a h sn tx k j b nb nr np nc (by omega) hF hM (by omega) (by omega)) (x_cwV yX8_pointsIn cX8_pointsIn 4 (some .int) 2 X q1160 q1162 qs57 q14 q1163 hd_X8_pointsIn ⟨Nat.le_of_ble_eq_true rfl, Nat.le_of_ble_eq_true rfl⟩) (by omega) hF.1 rfl rfl hl.1 rfl (Nat.le_of_ble_eq_true rfl) dX8_total_24 ⟨Nat.le_of_ble_eq_true rfl, Nat.le_of_ble_eq_true rfl⟩ (fun H locs hw => ?_)
      refine lv_isub X.1 X.2.1 dX8_total_27 ?_
      exact x_iret X hr hlk hK hw (v := (m_sum a b nb nc) - (m_pts a j b nb)) rfl (⟨by simp only [m_tot, ← he], rfl⟩) dX8_total_28
    · exact absurd c2 (nI_ne5 (by omega))
set_option maxHeartbeats 4000000 in
set_option maxRecDepth 100000 in
theorem k_X8_placesOf {l : Launch} {D : va_G} {cI cB cS : ClassId} {ad : Nat → Nat} {N : Nat} {F : Nat → va_E} (hI : iN ad N) (o : Nat) (a : Nat → Int32) (h : Nat → Int32) (sn : Nat → Int32) (tx : Nat → Int32) (k : Nat → Int32) (b : Nat) (w : Nat) (nb : Nat) (nr : Nat) (np : Nat) (nc : Nat) (hc5 : o + 5 ≤ N) (hF : MoF ad cI F o a h sn tx k) (hM : MI a nb nr np nc) (hb : b < nb) : Ci l D cI cB cS ad N yX8_placesOf cX8_placesOf 5 (some .int) 4 91 [.ref (ad o), .int (nI b), .int (nI w)] F (pP (m_pof a b nb w nc) F) := by
  refine x_met (by decide +kernel) (Nat.le_of_ble_eq_true rfl) ?_
  intro p e s m below meth c X hr hlk hK hw ls hl
  replace hl : lv_has ls 5 [(0, .ref (ad o)), (1, .int (nI b)), (2, .int (nI w))] := hl
  have ⟨h1, hb9, h2, hr6, h3, hp10, hcl, hnc, hrt, hpr⟩ := hM
  refine lv_iconst (v := nI 0) X.1 X.2.1 dX8_placesOf_0 (by decide) ?_
  refine lv_istore_n (lv' := [(3, .int (nI 0)), (0, .ref (ad o)), (1, .int (nI b)), (2, .int (nI w))]) X.1 X.2.1 dX8_placesOf_1 rfl hl (by decide) rfl (fun ls hl => ?_)
  refine lv_iconst (v := nI 0) X.1 X.2.1 dX8_placesOf_2 (by decide) ?_
  refine lv_istore (lv' := [(4, .int (nI 0)), (3, .int (nI 0)), (0, .ref (ad o)), (1, .int (nI b)), (2, .int (nI w))]) X.1 X.2.1 dX8_placesOf_3 hl (by decide) rfl (fun ls hl => ?_)
  have loop : ∀ (fu : Nat) (i : Nat) (y : Int32) (hfu : i + fu = nc) (he : y = m_pof a b nb w i) (H : Heap) (locs : List Loc) (hw : HW D (Af ad N s.heap.size) ad N F s H locs) (ls : Array Slot) (hl : lv_has ls 5 [(4, .int (nI i)), (3, .int y), (0, .ref (ad o)), (1, .int (nI b)), (2, .int (nI w))]), W p l e { frames := 4, cells := 0, slots := 0, locals := 91 } s m [.ref (ad o), .int (nI b), .int (nI w)].toArray below meth c H locs 0 0 (MQ below (va_Qi (pP (m_pof a b nb w nc) F) (fun F' t => PO D ad N F' t) (Af ad N s.heap.size)) [.ref (ad o), .int (nI b), .int (nI w)].toArray s 0 0 (Af ad N s.heap.size)) (F0 m 5 ls []) := by
    intro fu
    induction fu with
    | zero =>
      intro i y hfu he H locs hw ls hl
      refine lv_iload X.1 X.2.1 dX8_placesOf_5 (lv_at hl 0 rfl) ?_
      refine lv_aload_n X.1 X.2.1 dX8_placesOf_7 rfl (lv_at hl 2 rfl) ?_
      refine x_callVP X hK hw (k := o) (As := []) (rest := [.int (nI i)]) (k_X8_closed hI o a h sn tx k nb nr np nc (by omega) hF hM) (x_cwV yX8_closed cX8_closed 3 (some .int) 0 X q1176 q1178 qs60 q14 q1179 hd_X8_closed ⟨Nat.le_of_ble_eq_true rfl, Nat.le_of_ble_eq_true rfl⟩) (by omega) hF.1 rfl rfl hl.1 rfl (Nat.le_of_ble_eq_true rfl) dX8_placesOf_8 ⟨Nat.le_of_ble_eq_true rfl, Nat.le_of_ble_eq_true rfl⟩ (fun H locs hw => ?_)
      refine lv_icmp_ge (tgt := 39) X.1 X.2.1 dX8_placesOf_11 (by decide) (fun c1 => ?_) (fun c1 => ?_)
      · refine lv_iload_n X.1 X.2.1 dX8_placesOf_39 rfl (lv_at hl 1 rfl) ?_
        exact x_iret X hr hlk hK hw (v := y) rfl (⟨by rw [he, show i = nc by omega], rfl⟩) dX8_placesOf_40
      · exact absurd (nI_le (by omega) (by omega)) c1
    | succ fu ih =>
      intro i y hfu he H locs hw ls hl
      refine lv_iload X.1 X.2.1 dX8_placesOf_5 (lv_at hl 0 rfl) ?_
      refine lv_aload_n X.1 X.2.1 dX8_placesOf_7 rfl (lv_at hl 2 rfl) ?_
      refine x_callVP X hK hw (k := o) (As := []) (rest := [.int (nI i)]) (k_X8_closed hI o a h sn tx k nb nr np nc (by omega) hF hM) (x_cwV yX8_closed cX8_closed 3 (some .int) 0 X q1176 q1178 qs60 q14 q1179 hd_X8_closed ⟨Nat.le_of_ble_eq_true rfl, Nat.le_of_ble_eq_true rfl⟩) (by omega) hF.1 rfl rfl hl.1 rfl (Nat.le_of_ble_eq_true rfl) dX8_placesOf_8 ⟨Nat.le_of_ble_eq_true rfl, Nat.le_of_ble_eq_true rfl⟩ (fun H locs hw => ?_)
      refine lv_icmp_ge (tgt := 39) X.1 X.2.1 dX8_placesOf_11 (by decide) (fun c2 => ?_) (fun c2 => ?_)
      · exact absurd c2 (nI_ge (by omega) (by omega))
      · refine lv_iload_n X.1 X.2.1 dX8_placesOf_14 rfl (lv_at hl 1 rfl) ?_
        refine lv_aload_n X.1 X.2.1 dX8_placesOf_15 rfl (lv_at hl 2 rfl) ?_
        refine lv_iload X.1 X.2.1 dX8_placesOf_16 (lv_at hl 0 rfl) ?_
        refine lv_iload_n X.1 X.2.1 dX8_placesOf_18 rfl (lv_at hl 3 rfl) ?_
        refine x_callVP X hK hw (k := o) (As := [.int (nI i), .int (nI b)]) (rest := [.int y]) (k_X8_placeIn hI o a h sn tx k i b nb nr np nc (by omega) hF hM (by omega) (by omega)) (x_cwV yX8_placeIn cX8_placeIn 5 (some .int) 2 X q1152 q1154 qs55 q14 q1155 hd_X8_placeIn ⟨Nat.le_of_ble_eq_true rfl, Nat.le_of_ble_eq_true rfl⟩) (by omega) hF.1 rfl rfl hl.1 rfl (Nat.le_of_ble_eq_true rfl) dX8_placesOf_19 ⟨Nat.le_of_ble_eq_true rfl, Nat.le_of_ble_eq_true rfl⟩ (fun H locs hw => ?_)
        refine lv_iload_n X.1 X.2.1 dX8_placesOf_22 rfl (lv_at hl 4 rfl) ?_
        refine lv_icmp_ne (tgt := 30) X.1 X.2.1 dX8_placesOf_23 (by decide) (fun c3 => ?_) (fun c3 => ?_)
        · refine lv_iconst (v := nI 0) X.1 X.2.1 dX8_placesOf_30 (by decide) ?_
          refine lv_iadd X.1 X.2.1 dX8_placesOf_31 ?_
          refine lv_istore_n (lv' := [(3, .int (y + (nI 0))), (4, .int (nI i)), (0, .ref (ad o)), (1, .int (nI b)), (2, .int (nI w))]) X.1 X.2.1 dX8_placesOf_32 rfl hl (by decide) rfl (fun ls hl => ?_)
          refine lv_iinc (v := nI (i + 1)) (lv' := [(4, .int (nI (i + 1))), (3, .int (y + (nI 0))), (0, .ref (ad o)), (1, .int (nI b)), (2, .int (nI w))]) X.1 X.2.1 dX8_placesOf_33 hl (k := 1) rfl (by first | exact nI_1 _ | exact nI_add _ _ | rfl) (by decide) rfl (fun ls hl => ?_)
          refine lv_goto (tgt := 5) X.1 X.2.1 dX8_placesOf_36 (by decide) ?_
          exact ih (i + 1) (y + (nI 0)) (by omega) (by rw [he, m_pof, if_neg c3]) _ _ hw _ (lv_sub hl [0, 1, 2, 3, 4] rfl)
        · refine lv_iconst (v := nI 1) X.1 X.2.1 dX8_placesOf_26 (by decide) ?_
          refine lv_goto (tgt := 31) X.1 X.2.1 dX8_placesOf_27 (by decide) ?_
          refine lv_iadd X.1 X.2.1 dX8_placesOf_31 ?_
          refine lv_istore_n (lv' := [(3, .int (y + (nI 1))), (4, .int (nI i)), (0, .ref (ad o)), (1, .int (nI b)), (2, .int (nI w))]) X.1 X.2.1 dX8_placesOf_32 rfl hl (by decide) rfl (fun ls hl => ?_)
          refine lv_iinc (v := nI (i + 1)) (lv' := [(4, .int (nI (i + 1))), (3, .int (y + (nI 1))), (0, .ref (ad o)), (1, .int (nI b)), (2, .int (nI w))]) X.1 X.2.1 dX8_placesOf_33 hl (k := 1) rfl (by first | exact nI_1 _ | exact nI_add _ _ | rfl) (by decide) rfl (fun ls hl => ?_)
          refine lv_goto (tgt := 5) X.1 X.2.1 dX8_placesOf_36 (by decide) ?_
          exact ih (i + 1) (y + (nI 1)) (by omega) (by rw [he, m_pof, if_pos c3]) _ _ hw _ (lv_sub hl [0, 1, 2, 3, 4] rfl)
  exact loop nc 0 (nI 0) (by omega) rfl _ _ hw _ (lv_sub hl [0, 1, 2, 3, 4] rfl)
def m_last (s : Nat → Int32) (a b nb nc : Nat) (y : Int32) : Int32 := if y = 0 then (if 0 < nc then m_pts s (nc - 1) b nb - m_pts s (nc - 1) a nb else y) else y
def m_ahd (a b : Nat) (y : Int32) : Int32 := if 0 < y then nI 1 else if y = 0 then (if nI b ≤ nI a then nI 0 else nI 1) else nI 0
def m_ahead (s : Nat → Int32) (a b nb nc : Nat) : Int32 := m_ahd a b (m_last s a b nb nc (m_by s a b nb nc 9))
theorem m_by_ne {s : Nat → Int32} {a b nb nc i : Nat} (h : ¬ m_by s a b nb nc i = 0) : ∀ d, m_by s a b nb nc (i + d) = m_by s a b nb nc i := by
  intro d
  induction d with
  | zero => rfl
  | succ d ih => rw [← Nat.add_assoc, m_by, if_neg (by rw [ih]; exact h), ih]
theorem m_by_9 {s : Nat → Int32} {a b nb nc i : Nat} (h : ¬ m_by s a b nb nc i = 0) (hi : i ≤ 9) : m_by s a b nb nc 9 = m_by s a b nb nc i := by
  have := m_by_ne h (9 - i)
  rwa [show i + (9 - i) = 9 by omega] at this
theorem hd_X8_placesOf : yX8_placesOf.cls = RX8 ∧ yX8_placesOf.cls ≠ "java/lang/invoke/MethodHandle" ∧ yX8_placesOf.cls ≠ "java/lang/invoke/VarHandle" ∧ (parseMethodDescriptor yX8_placesOf.desc).map (fun d => d.parameters.length) = some 2 := by decide +kernel
theorem hd_X8_total : yX8_total.cls = RX8 ∧ yX8_total.cls ≠ "java/lang/invoke/MethodHandle" ∧ yX8_total.cls ≠ "java/lang/invoke/VarHandle" ∧ (parseMethodDescriptor yX8_total.desc).map (fun d => d.parameters.length) = some 1 := by decide +kernel
set_option maxHeartbeats 4000000 in
set_option maxRecDepth 100000 in
theorem k_X8_isAhead {l : Launch} {D : va_G} {cI cB cS : ClassId} {ad : Nat → Nat} {N : Nat} {F : Nat → va_E} (hI : iN ad N) (o : Nat) (a : Nat → Int32) (h : Nat → Int32) (sn : Nat → Int32) (tx : Nat → Int32) (k : Nat → Int32) (x : Nat) (w : Nat) (nb : Nat) (nr : Nat) (np : Nat) (nc : Nat) (hc5 : o + 5 ≤ N) (hF : MoF ad cI F o a h sn tx k) (hM : MI a nb nr np nc) (hx : x < nb) (hww : w < nb) : Ci l D cI cB cS ad N yX8_isAhead cX8_isAhead 5 (some .boolean) 7 160 [.ref (ad o), .int (nI x), .int (nI w)] F (pP (m_ahead a x w nb nc) F) := by
  refine x_met (by decide +kernel) (Nat.le_of_ble_eq_true rfl) ?_
  intro p e s m below meth c X hr hlk hK hw ls hl
  replace hl : lv_has ls 5 [(0, .ref (ad o)), (1, .int (nI x)), (2, .int (nI w))] := hl
  have ⟨h1, hb9, h2, hr6, h3, hp10, hcl, hnc, hrt, hpr⟩ := hM
  refine lv_aload_n X.1 X.2.1 dX8_isAhead_0 rfl (lv_at hl 0 rfl) ?_
  refine lv_iload_n X.1 X.2.1 dX8_isAhead_1 rfl (lv_at hl 2 rfl) ?_
  refine x_callVP X hK hw (k := o) (As := [.int (nI w)]) (rest := []) (k_X8_total hI o a h sn tx k w nb nr np nc (by omega) hF hM (by omega)) (x_cwV yX8_total cX8_total 3 (some .int) 1 X q1168 q1170 qs58 q14 q1171 hd_X8_total ⟨Nat.le_of_ble_eq_true rfl, Nat.le_of_ble_eq_true rfl⟩) (by omega) hF.1 rfl rfl hl.1 rfl (Nat.le_of_ble_eq_true rfl) dX8_isAhead_2 ⟨Nat.le_of_ble_eq_true rfl, Nat.le_of_ble_eq_true rfl⟩ (fun H locs hw => ?_)
  refine lv_aload_n X.1 X.2.1 dX8_isAhead_5 rfl (lv_at hl 0 rfl) ?_
  refine lv_iload_n X.1 X.2.1 dX8_isAhead_6 rfl (lv_at hl 1 rfl) ?_
  refine x_callVP X hK hw (k := o) (As := [.int (nI x)]) (rest := [.int (m_tot a w nb nc)]) (k_X8_total hI o a h sn tx k x nb nr np nc (by omega) hF hM (by omega)) (x_cwV yX8_total cX8_total 3 (some .int) 1 X q1168 q1170 qs58 q14 q1171 hd_X8_total ⟨Nat.le_of_ble_eq_true rfl, Nat.le_of_ble_eq_true rfl⟩) (by omega) hF.1 rfl rfl hl.1 rfl (Nat.le_of_ble_eq_true rfl) dX8_isAhead_7 ⟨Nat.le_of_ble_eq_true rfl, Nat.le_of_ble_eq_true rfl⟩ (fun H locs hw => ?_)
  refine lv_isub X.1 X.2.1 dX8_isAhead_10 ?_
  refine lv_istore_n (lv' := [(3, .int ((m_tot a w nb nc) - (m_tot a x nb nc))), (0, .ref (ad o)), (1, .int (nI x)), (2, .int (nI w))]) X.1 X.2.1 dX8_isAhead_11 rfl hl (by decide) rfl (fun ls hl => ?_)
  refine lv_iconst (v := nI 1) X.1 X.2.1 dX8_isAhead_12 (by decide) ?_
  refine lv_istore (lv' := [(4, .int (nI 1)), (3, .int ((m_tot a w nb nc) - (m_tot a x nb nc))), (0, .ref (ad o)), (1, .int (nI x)), (2, .int (nI w))]) X.1 X.2.1 dX8_isAhead_13 hl (by decide) rfl (fun ls hl => ?_)
  have fin : ∀ (y : Int32) (hy : y = m_by a x w nb nc 9) (H : Heap) (locs : List Loc) (hw : HW D (Af ad N s.heap.size) ad N F s H locs) (ls : Array Slot) (hl : lv_has ls 5 [(3, .int y), (0, .ref (ad o)), (1, .int (nI x)), (2, .int (nI w))]), W p l e { frames := 7, cells := 0, slots := 0, locals := 160 } s m [.ref (ad o), .int (nI x), .int (nI w)].toArray below meth c H locs 0 0 (MQ below (va_Qi (pP (m_ahead a x w nb nc) F) (fun F' t => PO D ad N F' t) (Af ad N s.heap.size)) [.ref (ad o), .int (nI x), .int (nI w)].toArray s 0 0 (Af ad N s.heap.size)) (F0 m 48 ls []) := by
    intro y hy H locs hw ls hl
    refine lv_iload_n X.1 X.2.1 dX8_isAhead_48 rfl (lv_at hl 0 rfl) ?_
    refine lv_if_ne (tgt := 83) X.1 X.2.1 dX8_isAhead_49 (by decide) (fun c1 => ?_) (fun c1 => ?_)
    · refine lv_iload_n X.1 X.2.1 dX8_isAhead_83 rfl (lv_at hl 0 rfl) ?_
      refine lv_if_gt (tgt := 96) X.1 X.2.1 dX8_isAhead_84 (by decide) (fun c2 => ?_) (fun c2 => ?_)
      · refine lv_iconst (v := nI 1) X.1 X.2.1 dX8_isAhead_96 (by decide) ?_
        refine lv_goto (tgt := 101) X.1 X.2.1 dX8_isAhead_97 (by decide) ?_
        exact x_iret X hr hlk hK hw (v := nI 1) (by decide) (⟨by rw [m_ahead, ← hy, m_last, if_neg c1, m_ahd, if_pos c2], rfl⟩) dX8_isAhead_101
      · refine lv_iload_n X.1 X.2.1 dX8_isAhead_87 rfl (lv_at hl 0 rfl) ?_
        refine lv_if_ne (tgt := 100) X.1 X.2.1 dX8_isAhead_88 (by decide) (fun c3 => ?_) (fun c3 => ?_)
        · refine lv_iconst (v := nI 0) X.1 X.2.1 dX8_isAhead_100 (by decide) ?_
          exact x_iret X hr hlk hK hw (v := nI 0) (by decide) (⟨by rw [m_ahead, ← hy, m_last, if_neg c1, m_ahd, if_neg c2, if_neg c3], rfl⟩) dX8_isAhead_101
        · refine lv_iload_n X.1 X.2.1 dX8_isAhead_91 rfl (lv_at hl 2 rfl) ?_
          refine lv_iload_n X.1 X.2.1 dX8_isAhead_92 rfl (lv_at hl 3 rfl) ?_
          refine lv_icmp_ge (tgt := 100) X.1 X.2.1 dX8_isAhead_93 (by decide) (fun c4 => ?_) (fun c4 => ?_)
          · refine lv_iconst (v := nI 0) X.1 X.2.1 dX8_isAhead_100 (by decide) ?_
            exact x_iret X hr hlk hK hw (v := nI 0) (by decide) (⟨by rw [m_ahead, ← hy, m_last, if_neg c1, m_ahd, if_neg c2, if_pos c3, if_pos c4], rfl⟩) dX8_isAhead_101
          · refine lv_iconst (v := nI 1) X.1 X.2.1 dX8_isAhead_96 (by decide) ?_
            refine lv_goto (tgt := 101) X.1 X.2.1 dX8_isAhead_97 (by decide) ?_
            exact x_iret X hr hlk hK hw (v := nI 1) (by decide) (⟨by rw [m_ahead, ← hy, m_last, if_neg c1, m_ahd, if_neg c2, if_pos c3, if_neg c4], rfl⟩) dX8_isAhead_101
    · refine lv_aload_n X.1 X.2.1 dX8_isAhead_52 rfl (lv_at hl 1 rfl) ?_
      refine x_callVP X hK hw (k := o) (As := []) (rest := []) (k_X8_closed hI o a h sn tx k nb nr np nc (by omega) hF hM) (x_cwV yX8_closed cX8_closed 3 (some .int) 0 X q1176 q1178 qs60 q14 q1179 hd_X8_closed ⟨Nat.le_of_ble_eq_true rfl, Nat.le_of_ble_eq_true rfl⟩) (by omega) hF.1 rfl rfl hl.1 rfl (Nat.le_of_ble_eq_true rfl) dX8_isAhead_53 ⟨Nat.le_of_ble_eq_true rfl, Nat.le_of_ble_eq_true rfl⟩ (fun H locs hw => ?_)
      refine lv_if_le (tgt := 83) X.1 X.2.1 dX8_isAhead_56 (by decide) (fun c5 => ?_) (fun c5 => ?_)
      · have hz : ¬ 0 < nc := fun q => absurd (nI_lt (a := 0) q (by omega)) (Int32.not_lt.mpr c5)
        refine lv_iload_n X.1 X.2.1 dX8_isAhead_83 rfl (lv_at hl 0 rfl) ?_
        refine lv_if_gt (tgt := 96) X.1 X.2.1 dX8_isAhead_84 (by decide) (fun c6 => ?_) (fun c6 => ?_)
        · refine lv_iconst (v := nI 1) X.1 X.2.1 dX8_isAhead_96 (by decide) ?_
          refine lv_goto (tgt := 101) X.1 X.2.1 dX8_isAhead_97 (by decide) ?_
          exact x_iret X hr hlk hK hw (v := nI 1) (by decide) (⟨by rw [m_ahead, ← hy, m_last, if_pos c1, if_neg hz, m_ahd, if_pos c6], rfl⟩) dX8_isAhead_101
        · refine lv_iload_n X.1 X.2.1 dX8_isAhead_87 rfl (lv_at hl 0 rfl) ?_
          refine lv_if_ne (tgt := 100) X.1 X.2.1 dX8_isAhead_88 (by decide) (fun c7 => ?_) (fun c7 => ?_)
          · refine lv_iconst (v := nI 0) X.1 X.2.1 dX8_isAhead_100 (by decide) ?_
            exact x_iret X hr hlk hK hw (v := nI 0) (by decide) (⟨by rw [m_ahead, ← hy, m_last, if_pos c1, if_neg hz, m_ahd, if_neg c6, if_neg c7], rfl⟩) dX8_isAhead_101
          · refine lv_iload_n X.1 X.2.1 dX8_isAhead_91 rfl (lv_at hl 2 rfl) ?_
            refine lv_iload_n X.1 X.2.1 dX8_isAhead_92 rfl (lv_at hl 3 rfl) ?_
            refine lv_icmp_ge (tgt := 100) X.1 X.2.1 dX8_isAhead_93 (by decide) (fun c8 => ?_) (fun c8 => ?_)
            · refine lv_iconst (v := nI 0) X.1 X.2.1 dX8_isAhead_100 (by decide) ?_
              exact x_iret X hr hlk hK hw (v := nI 0) (by decide) (⟨by rw [m_ahead, ← hy, m_last, if_pos c1, if_neg hz, m_ahd, if_neg c6, if_pos c7, if_pos c8], rfl⟩) dX8_isAhead_101
            · refine lv_iconst (v := nI 1) X.1 X.2.1 dX8_isAhead_96 (by decide) ?_
              refine lv_goto (tgt := 101) X.1 X.2.1 dX8_isAhead_97 (by decide) ?_
              exact x_iret X hr hlk hK hw (v := nI 1) (by decide) (⟨by rw [m_ahead, ← hy, m_last, if_pos c1, if_neg hz, m_ahd, if_neg c6, if_pos c7, if_neg c8], rfl⟩) dX8_isAhead_101
      · have hz : 0 < nc := by rcases Nat.eq_zero_or_pos nc with q | q; (exact absurd (by rw [q]; decide) c5); exact q
        refine lv_aload_n X.1 X.2.1 dX8_isAhead_59 rfl (lv_at hl 1 rfl) ?_
        refine lv_aload_n X.1 X.2.1 dX8_isAhead_60 rfl (lv_at hl 1 rfl) ?_
        refine x_callVP X hK hw (k := o) (As := []) (rest := [.ref (ad o)]) (k_X8_closed hI o a h sn tx k nb nr np nc (by omega) hF hM) (x_cwV yX8_closed cX8_closed 3 (some .int) 0 X q1176 q1178 qs60 q14 q1179 hd_X8_closed ⟨Nat.le_of_ble_eq_true rfl, Nat.le_of_ble_eq_true rfl⟩) (by omega) hF.1 rfl rfl hl.1 rfl (Nat.le_of_ble_eq_true rfl) dX8_isAhead_61 ⟨Nat.le_of_ble_eq_true rfl, Nat.le_of_ble_eq_true rfl⟩ (fun H locs hw => ?_)
        refine lv_iconst (v := nI 1) X.1 X.2.1 dX8_isAhead_64 (by decide) ?_
        refine lv_isub X.1 X.2.1 dX8_isAhead_65 ?_
        refine x_top (pk_sub (by omega)) ?_
        refine lv_iload_n X.1 X.2.1 dX8_isAhead_66 rfl (lv_at hl 3 rfl) ?_
        refine x_callVP X hK hw (k := o) (As := [.int (nI (nc - 1)), .int (nI w)]) (rest := []) (k_X8_pointsIn hI o a h sn tx k (nc - 1) w nb nr np nc (by omega) hF hM (by omega) (by omega)) (x_cwV yX8_pointsIn cX8_pointsIn 4 (some .int) 2 X q1160 q1162 qs57 q14 q1163 hd_X8_pointsIn ⟨Nat.le_of_ble_eq_true rfl, Nat.le_of_ble_eq_true rfl⟩) (by omega) hF.1 rfl rfl hl.1 rfl (Nat.le_of_ble_eq_true rfl) dX8_isAhead_67 ⟨Nat.le_of_ble_eq_true rfl, Nat.le_of_ble_eq_true rfl⟩ (fun H locs hw => ?_)
        refine lv_aload_n X.1 X.2.1 dX8_isAhead_70 rfl (lv_at hl 1 rfl) ?_
        refine lv_aload_n X.1 X.2.1 dX8_isAhead_71 rfl (lv_at hl 1 rfl) ?_
        refine x_callVP X hK hw (k := o) (As := []) (rest := [.ref (ad o), .int (m_pts a (nc - 1) w nb)]) (k_X8_closed hI o a h sn tx k nb nr np nc (by omega) hF hM) (x_cwV yX8_closed cX8_closed 3 (some .int) 0 X q1176 q1178 qs60 q14 q1179 hd_X8_closed ⟨Nat.le_of_ble_eq_true rfl, Nat.le_of_ble_eq_true rfl⟩) (by omega) hF.1 rfl rfl hl.1 rfl (Nat.le_of_ble_eq_true rfl) dX8_isAhead_72 ⟨Nat.le_of_ble_eq_true rfl, Nat.le_of_ble_eq_true rfl⟩ (fun H locs hw => ?_)
        refine lv_iconst (v := nI 1) X.1 X.2.1 dX8_isAhead_75 (by decide) ?_
        refine lv_isub X.1 X.2.1 dX8_isAhead_76 ?_
        refine x_top (pk_sub (by omega)) ?_
        refine lv_iload_n X.1 X.2.1 dX8_isAhead_77 rfl (lv_at hl 2 rfl) ?_
        refine x_callVP X hK hw (k := o) (As := [.int (nI (nc - 1)), .int (nI x)]) (rest := [.int (m_pts a (nc - 1) w nb)]) (k_X8_pointsIn hI o a h sn tx k (nc - 1) x nb nr np nc (by omega) hF hM (by omega) (by omega)) (x_cwV yX8_pointsIn cX8_pointsIn 4 (some .int) 2 X q1160 q1162 qs57 q14 q1163 hd_X8_pointsIn ⟨Nat.le_of_ble_eq_true rfl, Nat.le_of_ble_eq_true rfl⟩) (by omega) hF.1 rfl rfl hl.1 rfl (Nat.le_of_ble_eq_true rfl) dX8_isAhead_78 ⟨Nat.le_of_ble_eq_true rfl, Nat.le_of_ble_eq_true rfl⟩ (fun H locs hw => ?_)
        refine lv_isub X.1 X.2.1 dX8_isAhead_81 ?_
        refine lv_istore_n (lv' := [(3, .int ((m_pts a (nc - 1) w nb) - (m_pts a (nc - 1) x nb))), (0, .ref (ad o)), (1, .int (nI x)), (2, .int (nI w))]) X.1 X.2.1 dX8_isAhead_82 rfl hl (by decide) rfl (fun ls hl => ?_)
        refine lv_iload_n X.1 X.2.1 dX8_isAhead_83 rfl (lv_at hl 0 rfl) ?_
        refine lv_if_gt (tgt := 96) X.1 X.2.1 dX8_isAhead_84 (by decide) (fun c9 => ?_) (fun c9 => ?_)
        · refine lv_iconst (v := nI 1) X.1 X.2.1 dX8_isAhead_96 (by decide) ?_
          refine lv_goto (tgt := 101) X.1 X.2.1 dX8_isAhead_97 (by decide) ?_
          exact x_iret X hr hlk hK hw (v := nI 1) (by decide) (⟨by rw [m_ahead, ← hy, m_last, if_pos c1, if_pos hz, m_ahd, if_pos c9], rfl⟩) dX8_isAhead_101
        · refine lv_iload_n X.1 X.2.1 dX8_isAhead_87 rfl (lv_at hl 0 rfl) ?_
          refine lv_if_ne (tgt := 100) X.1 X.2.1 dX8_isAhead_88 (by decide) (fun c10 => ?_) (fun c10 => ?_)
          · refine lv_iconst (v := nI 0) X.1 X.2.1 dX8_isAhead_100 (by decide) ?_
            exact x_iret X hr hlk hK hw (v := nI 0) (by decide) (⟨by rw [m_ahead, ← hy, m_last, if_pos c1, if_pos hz, m_ahd, if_neg c9, if_neg c10], rfl⟩) dX8_isAhead_101
          · refine lv_iload_n X.1 X.2.1 dX8_isAhead_91 rfl (lv_at hl 2 rfl) ?_
            refine lv_iload_n X.1 X.2.1 dX8_isAhead_92 rfl (lv_at hl 3 rfl) ?_
            refine lv_icmp_ge (tgt := 100) X.1 X.2.1 dX8_isAhead_93 (by decide) (fun c11 => ?_) (fun c11 => ?_)
            · refine lv_iconst (v := nI 0) X.1 X.2.1 dX8_isAhead_100 (by decide) ?_
              exact x_iret X hr hlk hK hw (v := nI 0) (by decide) (⟨by rw [m_ahead, ← hy, m_last, if_pos c1, if_pos hz, m_ahd, if_neg c9, if_pos c10, if_pos c11], rfl⟩) dX8_isAhead_101
            · refine lv_iconst (v := nI 1) X.1 X.2.1 dX8_isAhead_96 (by decide) ?_
              refine lv_goto (tgt := 101) X.1 X.2.1 dX8_isAhead_97 (by decide) ?_
              exact x_iret X hr hlk hK hw (v := nI 1) (by decide) (⟨by rw [m_ahead, ← hy, m_last, if_pos c1, if_pos hz, m_ahd, if_neg c9, if_pos c10, if_neg c11], rfl⟩) dX8_isAhead_101
  have loop : ∀ (fu : Nat) (i : Nat) (y : Int32) (hfu : i + fu = 9) (he : y = m_by a x w nb nc i) (H : Heap) (locs : List Loc) (hw : HW D (Af ad N s.heap.size) ad N F s H locs) (ls : Array Slot) (hl : lv_has ls 5 [(4, .int (nI (i + 1))), (3, .int y), (0, .ref (ad o)), (1, .int (nI x)), (2, .int (nI w))]), W p l e { frames := 7, cells := 0, slots := 0, locals := 160 } s m [.ref (ad o), .int (nI x), .int (nI w)].toArray below meth c H locs 0 0 (MQ below (va_Qi (pP (m_ahead a x w nb nc) F) (fun F' t => PO D ad N F' t) (Af ad N s.heap.size)) [.ref (ad o), .int (nI x), .int (nI w)].toArray s 0 0 (Af ad N s.heap.size)) (F0 m 15 ls []) := by
    intro fu
    induction fu with
    | zero =>
      intro i y hfu he H locs hw ls hl
      refine lv_iload X.1 X.2.1 dX8_isAhead_15 (lv_at hl 0 rfl) ?_
      refine lv_bipush (v := nI 9) X.1 X.2.1 dX8_isAhead_17 (by decide) ?_
      refine lv_icmp_gt (tgt := 48) X.1 X.2.1 dX8_isAhead_19 (by decide) (fun c12 => ?_) (fun c12 => ?_)
      · exact fin _ (he.trans (by rw [show i = 9 by omega])) _ _ hw _ (lv_sub hl [1, 2, 3, 4] rfl)
      · exact absurd (nI_lt (by omega) (by omega)) c12
    | succ fu ih =>
      intro i y hfu he H locs hw ls hl
      refine lv_iload X.1 X.2.1 dX8_isAhead_15 (lv_at hl 0 rfl) ?_
      refine lv_bipush (v := nI 9) X.1 X.2.1 dX8_isAhead_17 (by decide) ?_
      refine lv_icmp_gt (tgt := 48) X.1 X.2.1 dX8_isAhead_19 (by decide) (fun c13 => ?_) (fun c13 => ?_)
      · exact absurd c13 (nI_nlt (by omega) (by omega))
      · refine lv_iload_n X.1 X.2.1 dX8_isAhead_22 rfl (lv_at hl 1 rfl) ?_
        refine lv_if_ne (tgt := 48) X.1 X.2.1 dX8_isAhead_23 (by decide) (fun c14 => ?_) (fun c14 => ?_)
        · exact fin _ ((he.trans (m_by_9 (by rw [← he]; exact c14) (by omega)).symm)) _ _ hw _ (lv_sub hl [1, 2, 3, 4] rfl)
        · refine lv_aload_n X.1 X.2.1 dX8_isAhead_26 rfl (lv_at hl 2 rfl) ?_
          refine lv_iload_n X.1 X.2.1 dX8_isAhead_27 rfl (lv_at hl 3 rfl) ?_
          refine lv_iload X.1 X.2.1 dX8_isAhead_28 (lv_at hl 0 rfl) ?_
          refine x_callVP X hK hw (k := o) (As := [.int (nI x), .int (nI (i + 1))]) (rest := []) (k_X8_placesOf hI o a h sn tx k x (i + 1) nb nr np nc (by omega) hF hM (by omega)) (x_cwV yX8_placesOf cX8_placesOf 5 (some .int) 2 X q1192 q1194 qs64 q14 q1195 hd_X8_placesOf ⟨Nat.le_of_ble_eq_true rfl, Nat.le_of_ble_eq_true rfl⟩) (by omega) hF.1 rfl rfl hl.1 rfl (Nat.le_of_ble_eq_true rfl) dX8_isAhead_30 ⟨Nat.le_of_ble_eq_true rfl, Nat.le_of_ble_eq_true rfl⟩ (fun H locs hw => ?_)
          refine lv_aload_n X.1 X.2.1 dX8_isAhead_33 rfl (lv_at hl 2 rfl) ?_
          refine lv_iload_n X.1 X.2.1 dX8_isAhead_34 rfl (lv_at hl 4 rfl) ?_
          refine lv_iload X.1 X.2.1 dX8_isAhead_35 (lv_at hl 0 rfl) ?_
          refine x_callVP X hK hw (k := o) (As := [.int (nI w), .int (nI (i + 1))]) (rest := [.int (m_pof a x nb (i + 1) nc)]) (k_X8_placesOf hI o a h sn tx k w (i + 1) nb nr np nc (by omega) hF hM (by omega)) (x_cwV yX8_placesOf cX8_placesOf 5 (some .int) 2 X q1192 q1194 qs64 q14 q1195 hd_X8_placesOf ⟨Nat.le_of_ble_eq_true rfl, Nat.le_of_ble_eq_true rfl⟩) (by omega) hF.1 rfl rfl hl.1 rfl (Nat.le_of_ble_eq_true rfl) dX8_isAhead_37 ⟨Nat.le_of_ble_eq_true rfl, Nat.le_of_ble_eq_true rfl⟩ (fun H locs hw => ?_)
          refine lv_isub X.1 X.2.1 dX8_isAhead_40 ?_
          refine lv_istore_n (lv' := [(3, .int ((m_pof a x nb (i + 1) nc) - (m_pof a w nb (i + 1) nc))), (4, .int (nI (i + 1))), (0, .ref (ad o)), (1, .int (nI x)), (2, .int (nI w))]) X.1 X.2.1 dX8_isAhead_41 rfl hl (by decide) rfl (fun ls hl => ?_)
          refine lv_iinc (v := nI (i + 1 + 1)) (lv' := [(4, .int (nI (i + 1 + 1))), (3, .int ((m_pof a x nb (i + 1) nc) - (m_pof a w nb (i + 1) nc))), (0, .ref (ad o)), (1, .int (nI x)), (2, .int (nI w))]) X.1 X.2.1 dX8_isAhead_42 hl (k := 1) rfl (by first | exact nI_1 _ | exact nI_add _ _ | rfl) (by decide) rfl (fun ls hl => ?_)
          refine lv_goto (tgt := 15) X.1 X.2.1 dX8_isAhead_45 (by decide) ?_
          exact ih (i + 1) ((m_pof a x nb (i + 1) nc) - (m_pof a w nb (i + 1) nc)) (by omega) (by rw [m_by, if_pos (by rw [← he]; exact c14)]) _ _ hw _ (lv_sub hl [0, 1, 2, 3, 4] rfl)
  exact loop 9 0 (m_tot a w nb nc - m_tot a x nb nc) (by omega) rfl _ _ hw _ (lv_sub hl [0, 1, 2, 3, 4] rfl)
def m_rk (s : Nat → Int32) (b nb nc : Nat) : Nat → Int32
  | 0 => nI 1
  | i + 1 => if nI i = nI b then m_rk s b nb nc i + nI 0 else if m_ahead s i b nb nc = 0 then m_rk s b nb nc i + nI 0 else m_rk s b nb nc i + nI 1
theorem hd_X8_isAhead : yX8_isAhead.cls = RX8 ∧ yX8_isAhead.cls ≠ "java/lang/invoke/MethodHandle" ∧ yX8_isAhead.cls ≠ "java/lang/invoke/VarHandle" ∧ (parseMethodDescriptor yX8_isAhead.desc).map (fun d => d.parameters.length) = some 2 := by decide +kernel
set_option maxHeartbeats 4000000 in
set_option maxRecDepth 100000 in
theorem k_X8_rank {l : Launch} {D : va_G} {cI cB cS : ClassId} {ad : Nat → Nat} {N : Nat} {F : Nat → va_E} (hI : iN ad N) (o : Nat) (a : Nat → Int32) (h : Nat → Int32) (sn : Nat → Int32) (tx : Nat → Int32) (k : Nat → Int32) (b : Nat) (nb : Nat) (nr : Nat) (np : Nat) (nc : Nat) (hc5 : o + 5 ≤ N) (hF : MoF ad cI F o a h sn tx k) (hM : MI a nb nr np nc) (hb : b < nb) : Ci l D cI cB cS ad N yX8_rank cX8_rank 4 (some .int) 8 184 [.ref (ad o), .int (nI b)] F (pP (m_rk a b nb nc nb) F) := by
  refine x_met (by decide +kernel) (Nat.le_of_ble_eq_true rfl) ?_
  intro p e s m below meth c X hr hlk hK hw ls hl
  replace hl : lv_has ls 4 [(0, .ref (ad o)), (1, .int (nI b))] := hl
  have ⟨h1, hb9, h2, hr6, h3, hp10, hcl, hnc, hrt, hpr⟩ := hM
  refine lv_iconst (v := nI 1) X.1 X.2.1 dX8_rank_0 (by decide) ?_
  refine lv_istore_n (lv' := [(2, .int (nI 1)), (0, .ref (ad o)), (1, .int (nI b))]) X.1 X.2.1 dX8_rank_1 rfl hl (by decide) rfl (fun ls hl => ?_)
  refine lv_iconst (v := nI 0) X.1 X.2.1 dX8_rank_2 (by decide) ?_
  refine lv_istore_n (lv' := [(3, .int (nI 0)), (2, .int (nI 1)), (0, .ref (ad o)), (1, .int (nI b))]) X.1 X.2.1 dX8_rank_3 rfl hl (by decide) rfl (fun ls hl => ?_)
  have loop : ∀ (fu : Nat) (i : Nat) (y : Int32) (hfu : i + fu = nb) (he : y = m_rk a b nb nc i) (H : Heap) (locs : List Loc) (hw : HW D (Af ad N s.heap.size) ad N F s H locs) (ls : Array Slot) (hl : lv_has ls 4 [(3, .int (nI i)), (2, .int y), (0, .ref (ad o)), (1, .int (nI b))]), W p l e { frames := 8, cells := 0, slots := 0, locals := 184 } s m [.ref (ad o), .int (nI b)].toArray below meth c H locs 0 0 (MQ below (va_Qi (pP (m_rk a b nb nc nb) F) (fun F' t => PO D ad N F' t) (Af ad N s.heap.size)) [.ref (ad o), .int (nI b)].toArray s 0 0 (Af ad N s.heap.size)) (F0 m 4 ls []) := by
    intro fu
    induction fu with
    | zero =>
      intro i y hfu he H locs hw ls hl
      refine lv_iload_n X.1 X.2.1 dX8_rank_4 rfl (lv_at hl 0 rfl) ?_
      refine lv_aload_n X.1 X.2.1 dX8_rank_5 rfl (lv_at hl 2 rfl) ?_
      refine x_get X hK hw (C := RX8) (T := TX8) (nf := 12) (k := o) (by omega) hF.1 rfl inX8 0 (by decide) q868 (fun _ h9 => h9) rfl dX8_rank_6 ?_
      refine lv_iconst (v := nI 1) X.1 X.2.1 dX8_rank_9 (by decide) ?_
      refine x_ialdN X hK hw (k := (o + 1)) (by omega) hF.2.1 (i := nI 1) (j := 1) rfl (by omega) (by omega) dX8_rank_10 ?_
      refine lv_icmp_ge (tgt := 42) X.1 X.2.1 dX8_rank_11 (by decide) (fun c1 => ?_) (fun c1 => ?_)
      · refine lv_iload_n X.1 X.2.1 dX8_rank_42 rfl (lv_at hl 1 rfl) ?_
        exact x_iret X hr hlk hK hw (v := y) rfl (⟨by rw [he, show i = nb by omega], rfl⟩) dX8_rank_43
      · exact absurd (by rw [h1]; exact nI_le (by omega) (by omega)) c1
    | succ fu ih =>
      intro i y hfu he H locs hw ls hl
      refine lv_iload_n X.1 X.2.1 dX8_rank_4 rfl (lv_at hl 0 rfl) ?_
      refine lv_aload_n X.1 X.2.1 dX8_rank_5 rfl (lv_at hl 2 rfl) ?_
      refine x_get X hK hw (C := RX8) (T := TX8) (nf := 12) (k := o) (by omega) hF.1 rfl inX8 0 (by decide) q868 (fun _ h9 => h9) rfl dX8_rank_6 ?_
      refine lv_iconst (v := nI 1) X.1 X.2.1 dX8_rank_9 (by decide) ?_
      refine x_ialdN X hK hw (k := (o + 1)) (by omega) hF.2.1 (i := nI 1) (j := 1) rfl (by omega) (by omega) dX8_rank_10 ?_
      refine lv_icmp_ge (tgt := 42) X.1 X.2.1 dX8_rank_11 (by decide) (fun c2 => ?_) (fun c2 => ?_)
      · exact absurd c2 (by rw [h1]; exact nI_ge (by omega) (by omega))
      · refine lv_iload_n X.1 X.2.1 dX8_rank_14 rfl (lv_at hl 1 rfl) ?_
        refine lv_iload_n X.1 X.2.1 dX8_rank_15 rfl (lv_at hl 0 rfl) ?_
        refine lv_iload_n X.1 X.2.1 dX8_rank_16 rfl (lv_at hl 3 rfl) ?_
        refine lv_icmp_eq (tgt := 33) X.1 X.2.1 dX8_rank_17 (by decide) (fun c3 => ?_) (fun c3 => ?_)
        · refine lv_iconst (v := nI 0) X.1 X.2.1 dX8_rank_33 (by decide) ?_
          refine lv_iadd X.1 X.2.1 dX8_rank_34 ?_
          refine lv_istore_n (lv' := [(2, .int (y + (nI 0))), (3, .int (nI i)), (0, .ref (ad o)), (1, .int (nI b))]) X.1 X.2.1 dX8_rank_35 rfl hl (by decide) rfl (fun ls hl => ?_)
          refine lv_iinc (v := nI (i + 1)) (lv' := [(3, .int (nI (i + 1))), (2, .int (y + (nI 0))), (0, .ref (ad o)), (1, .int (nI b))]) X.1 X.2.1 dX8_rank_36 hl (k := 1) rfl (by first | exact nI_1 _ | exact nI_add _ _ | rfl) (by decide) rfl (fun ls hl => ?_)
          refine lv_goto (tgt := 4) X.1 X.2.1 dX8_rank_39 (by decide) ?_
          exact ih (i + 1) (y + (nI 0)) (by omega) (by rw [he, m_rk, if_pos c3]) _ _ hw _ (lv_sub hl [0, 1, 2, 3] rfl)
        · refine lv_aload_n X.1 X.2.1 dX8_rank_20 rfl (lv_at hl 2 rfl) ?_
          refine lv_iload_n X.1 X.2.1 dX8_rank_21 rfl (lv_at hl 0 rfl) ?_
          refine lv_iload_n X.1 X.2.1 dX8_rank_22 rfl (lv_at hl 3 rfl) ?_
          refine x_callVP X hK hw (k := o) (As := [.int (nI i), .int (nI b)]) (rest := [.int y]) (k_X8_isAhead hI o a h sn tx k i b nb nr np nc (by omega) hF hM (by omega) (by omega)) (x_cwV yX8_isAhead cX8_isAhead 5 (some .boolean) 2 X q1188 q1190 qs63 q14 q1191 hd_X8_isAhead ⟨Nat.le_of_ble_eq_true rfl, Nat.le_of_ble_eq_true rfl⟩) (by omega) hF.1 rfl rfl hl.1 rfl (Nat.le_of_ble_eq_true rfl) dX8_rank_23 ⟨Nat.le_of_ble_eq_true rfl, Nat.le_of_ble_eq_true rfl⟩ (fun H locs hw => ?_)
          refine lv_if_eq (tgt := 33) X.1 X.2.1 dX8_rank_26 (by decide) (fun c4 => ?_) (fun c4 => ?_)
          · refine lv_iconst (v := nI 0) X.1 X.2.1 dX8_rank_33 (by decide) ?_
            refine lv_iadd X.1 X.2.1 dX8_rank_34 ?_
            refine lv_istore_n (lv' := [(2, .int (y + (nI 0))), (3, .int (nI i)), (0, .ref (ad o)), (1, .int (nI b))]) X.1 X.2.1 dX8_rank_35 rfl hl (by decide) rfl (fun ls hl => ?_)
            refine lv_iinc (v := nI (i + 1)) (lv' := [(3, .int (nI (i + 1))), (2, .int (y + (nI 0))), (0, .ref (ad o)), (1, .int (nI b))]) X.1 X.2.1 dX8_rank_36 hl (k := 1) rfl (by first | exact nI_1 _ | exact nI_add _ _ | rfl) (by decide) rfl (fun ls hl => ?_)
            refine lv_goto (tgt := 4) X.1 X.2.1 dX8_rank_39 (by decide) ?_
            exact ih (i + 1) (y + (nI 0)) (by omega) (by rw [he, m_rk, if_neg c3, if_pos c4]) _ _ hw _ (lv_sub hl [0, 1, 2, 3] rfl)
          · refine lv_iconst (v := nI 1) X.1 X.2.1 dX8_rank_29 (by decide) ?_
            refine lv_goto (tgt := 34) X.1 X.2.1 dX8_rank_30 (by decide) ?_
            refine lv_iadd X.1 X.2.1 dX8_rank_34 ?_
            refine lv_istore_n (lv' := [(2, .int (y + (nI 1))), (3, .int (nI i)), (0, .ref (ad o)), (1, .int (nI b))]) X.1 X.2.1 dX8_rank_35 rfl hl (by decide) rfl (fun ls hl => ?_)
            refine lv_iinc (v := nI (i + 1)) (lv' := [(3, .int (nI (i + 1))), (2, .int (y + (nI 1))), (0, .ref (ad o)), (1, .int (nI b))]) X.1 X.2.1 dX8_rank_36 hl (k := 1) rfl (by first | exact nI_1 _ | exact nI_add _ _ | rfl) (by decide) rfl (fun ls hl => ?_)
            refine lv_goto (tgt := 4) X.1 X.2.1 dX8_rank_39 (by decide) ?_
            exact ih (i + 1) (y + (nI 1)) (by omega) (by rw [he, m_rk, if_neg c3, if_neg c4]) _ _ hw _ (lv_sub hl [0, 1, 2, 3] rfl)
  exact loop nb 0 (nI 1) (by omega) rfl _ _ hw _ (lv_sub hl [0, 1, 2, 3] rfl)
set_option maxHeartbeats 4000000 in
set_option maxRecDepth 100000 in
theorem k_X8_finishedIn {l : Launch} {D : va_G} {cI cB cS : ClassId} {ad : Nat → Nat} {N : Nat} {F : Nat → va_E} (hI : iN ad N) (o : Nat) (a : Nat → Int32) (h : Nat → Int32) (sn : Nat → Int32) (tx : Nat → Int32) (k : Nat → Int32) (r : Nat) (nb : Nat) (hc5 : o + 5 ≤ N) (hF : MoF ad cI F o a h sn tx k) (h1 : a 1 = nI nb) (hb9 : nb ≤ 9) (hrr : r < 6) : Ci l D cI cB cS ad N yX8_finishedIn cX8_finishedIn 4 (some .int) 1 23 [.ref (ad o), .int (nI r)] F (pP (m_fin a r nb) F) := by
  refine x_met (by decide +kernel) (Nat.le_of_ble_eq_true rfl) ?_
  intro p e s m below meth c X hr hlk hK hw ls hl
  replace hl : lv_has ls 4 [(0, .ref (ad o)), (1, .int (nI r))] := hl
  refine lv_iconst (v := nI 0) X.1 X.2.1 dX8_finishedIn_0 (by decide) ?_
  refine lv_istore_n (lv' := [(2, .int (nI 0)), (0, .ref (ad o)), (1, .int (nI r))]) X.1 X.2.1 dX8_finishedIn_1 rfl hl (by decide) rfl (fun ls hl => ?_)
  refine lv_iconst (v := nI 0) X.1 X.2.1 dX8_finishedIn_2 (by decide) ?_
  refine lv_istore_n (lv' := [(3, .int (nI 0)), (2, .int (nI 0)), (0, .ref (ad o)), (1, .int (nI r))]) X.1 X.2.1 dX8_finishedIn_3 rfl hl (by decide) rfl (fun ls hl => ?_)
  have loop : ∀ (fu : Nat) (i : Nat) (y : Int32) (hfu : i + fu = nb) (he : y = m_fin a r i) (H : Heap) (locs : List Loc) (hw : HW D (Af ad N s.heap.size) ad N F s H locs) (ls : Array Slot) (hl : lv_has ls 4 [(3, .int (nI i)), (2, .int y), (0, .ref (ad o)), (1, .int (nI r))]), W p l e { frames := 1, cells := 0, slots := 0, locals := 23 } s m [.ref (ad o), .int (nI r)].toArray below meth c H locs 0 0 (MQ below (va_Qi (pP (m_fin a r nb) F) (fun F' t => PO D ad N F' t) (Af ad N s.heap.size)) [.ref (ad o), .int (nI r)].toArray s 0 0 (Af ad N s.heap.size)) (F0 m 4 ls []) := by
    intro fu
    induction fu with
    | zero =>
      intro i y hfu he H locs hw ls hl
      refine lv_iload_n X.1 X.2.1 dX8_finishedIn_4 rfl (lv_at hl 0 rfl) ?_
      refine lv_aload_n X.1 X.2.1 dX8_finishedIn_5 rfl (lv_at hl 2 rfl) ?_
      refine x_get X hK hw (C := RX8) (T := TX8) (nf := 12) (k := o) (by omega) hF.1 rfl inX8 0 (by decide) q868 (fun _ h9 => h9) rfl dX8_finishedIn_6 ?_
      refine lv_iconst (v := nI 1) X.1 X.2.1 dX8_finishedIn_9 (by decide) ?_
      refine x_ialdN X hK hw (k := (o + 1)) (by omega) hF.2.1 (i := nI 1) (j := 1) rfl (by omega) (by omega) dX8_finishedIn_10 ?_
      refine lv_icmp_ge (tgt := 39) X.1 X.2.1 dX8_finishedIn_11 (by decide) (fun c1 => ?_) (fun c1 => ?_)
      · refine lv_iload_n X.1 X.2.1 dX8_finishedIn_39 rfl (lv_at hl 1 rfl) ?_
        exact x_iret X hr hlk hK hw (v := y) rfl (⟨by rw [he, show i = nb by omega], rfl⟩) dX8_finishedIn_40
      · exact absurd (by rw [h1]; exact nI_le (by omega) (by omega)) c1
    | succ fu ih =>
      intro i y hfu he H locs hw ls hl
      refine lv_iload_n X.1 X.2.1 dX8_finishedIn_4 rfl (lv_at hl 0 rfl) ?_
      refine lv_aload_n X.1 X.2.1 dX8_finishedIn_5 rfl (lv_at hl 2 rfl) ?_
      refine x_get X hK hw (C := RX8) (T := TX8) (nf := 12) (k := o) (by omega) hF.1 rfl inX8 0 (by decide) q868 (fun _ h9 => h9) rfl dX8_finishedIn_6 ?_
      refine lv_iconst (v := nI 1) X.1 X.2.1 dX8_finishedIn_9 (by decide) ?_
      refine x_ialdN X hK hw (k := (o + 1)) (by omega) hF.2.1 (i := nI 1) (j := 1) rfl (by omega) (by omega) dX8_finishedIn_10 ?_
      refine lv_icmp_ge (tgt := 39) X.1 X.2.1 dX8_finishedIn_11 (by decide) (fun c2 => ?_) (fun c2 => ?_)
      · exact absurd c2 (by rw [h1]; exact nI_ge (by omega) (by omega))
      · refine lv_iload_n X.1 X.2.1 dX8_finishedIn_14 rfl (lv_at hl 1 rfl) ?_
        refine lv_aload_n X.1 X.2.1 dX8_finishedIn_15 rfl (lv_at hl 2 rfl) ?_
        refine lv_iload_n X.1 X.2.1 dX8_finishedIn_16 rfl (lv_at hl 3 rfl) ?_
        refine lv_iload_n X.1 X.2.1 dX8_finishedIn_17 rfl (lv_at hl 0 rfl) ?_
        refine lv_iconst (v := nI 0) X.1 X.2.1 dX8_finishedIn_18 (by decide) ?_
        refine x_callVP X hK hw (k := o) (As := [.int (nI r), .int (nI i), .int (nI 0)]) (rest := [.int y]) (k_X8_of hI o a h sn tx k r i 0 (by omega) hF (by omega)) (x_cwV yX8_of cX8_of 4 (some .int) 3 X q984 q986 qs29 q14 q987 hd_X8_of ⟨Nat.le_of_ble_eq_true rfl, Nat.le_of_ble_eq_true rfl⟩) (by omega) hF.1 rfl rfl hl.1 rfl (Nat.le_of_ble_eq_true rfl) dX8_finishedIn_19 ⟨Nat.le_of_ble_eq_true rfl, Nat.le_of_ble_eq_true rfl⟩ (fun H locs hw => ?_)
        refine lv_iconst (v := nI 3) X.1 X.2.1 dX8_finishedIn_22 (by decide) ?_
        refine lv_icmp_ne (tgt := 30) X.1 X.2.1 dX8_finishedIn_23 (by decide) (fun c3 => ?_) (fun c3 => ?_)
        · refine lv_iconst (v := nI 0) X.1 X.2.1 dX8_finishedIn_30 (by decide) ?_
          refine lv_iadd X.1 X.2.1 dX8_finishedIn_31 ?_
          refine lv_istore_n (lv' := [(2, .int (y + (nI 0))), (3, .int (nI i)), (0, .ref (ad o)), (1, .int (nI r))]) X.1 X.2.1 dX8_finishedIn_32 rfl hl (by decide) rfl (fun ls hl => ?_)
          refine lv_iinc (v := nI (i + 1)) (lv' := [(3, .int (nI (i + 1))), (2, .int (y + (nI 0))), (0, .ref (ad o)), (1, .int (nI r))]) X.1 X.2.1 dX8_finishedIn_33 hl (k := 1) rfl (by first | exact nI_1 _ | exact nI_add _ _ | rfl) (by decide) rfl (fun ls hl => ?_)
          refine lv_goto (tgt := 4) X.1 X.2.1 dX8_finishedIn_36 (by decide) ?_
          exact ih (i + 1) (y + (nI 0)) (by omega) (by rw [he, m_fin, if_neg c3]) _ _ hw _ (lv_sub hl [0, 1, 2, 3] rfl)
        · refine lv_iconst (v := nI 1) X.1 X.2.1 dX8_finishedIn_26 (by decide) ?_
          refine lv_goto (tgt := 31) X.1 X.2.1 dX8_finishedIn_27 (by decide) ?_
          refine lv_iadd X.1 X.2.1 dX8_finishedIn_31 ?_
          refine lv_istore_n (lv' := [(2, .int (y + (nI 1))), (3, .int (nI i)), (0, .ref (ad o)), (1, .int (nI r))]) X.1 X.2.1 dX8_finishedIn_32 rfl hl (by decide) rfl (fun ls hl => ?_)
          refine lv_iinc (v := nI (i + 1)) (lv' := [(3, .int (nI (i + 1))), (2, .int (y + (nI 1))), (0, .ref (ad o)), (1, .int (nI r))]) X.1 X.2.1 dX8_finishedIn_33 hl (k := 1) rfl (by first | exact nI_1 _ | exact nI_add _ _ | rfl) (by decide) rfl (fun ls hl => ?_)
          refine lv_goto (tgt := 4) X.1 X.2.1 dX8_finishedIn_36 (by decide) ?_
          exact ih (i + 1) (y + (nI 1)) (by omega) (by rw [he, m_fin, if_pos c3]) _ _ hw _ (lv_sub hl [0, 1, 2, 3] rfl)
  exact loop nb 0 (nI 0) (by omega) rfl _ _ hw _ (lv_sub hl [0, 1, 2, 3] rfl)
set_option maxHeartbeats 4000000 in
set_option maxRecDepth 100000 in
theorem k_X8_outIn {l : Launch} {D : va_G} {cI cB cS : ClassId} {ad : Nat → Nat} {N : Nat} {F : Nat → va_E} (hI : iN ad N) (o : Nat) (a : Nat → Int32) (h : Nat → Int32) (sn : Nat → Int32) (tx : Nat → Int32) (k : Nat → Int32) (r : Nat) (nb : Nat) (hc5 : o + 5 ≤ N) (hF : MoF ad cI F o a h sn tx k) (h1 : a 1 = nI nb) (hb9 : nb ≤ 9) (hrr : r < 6) : Ci l D cI cB cS ad N yX8_outIn cX8_outIn 4 (some .int) 1 23 [.ref (ad o), .int (nI r)] F (pP (m_out a r nb) F) := by
  refine x_met (by decide +kernel) (Nat.le_of_ble_eq_true rfl) ?_
  intro p e s m below meth c X hr hlk hK hw ls hl
  replace hl : lv_has ls 4 [(0, .ref (ad o)), (1, .int (nI r))] := hl
  refine lv_iconst (v := nI 0) X.1 X.2.1 dX8_outIn_0 (by decide) ?_
  refine lv_istore_n (lv' := [(2, .int (nI 0)), (0, .ref (ad o)), (1, .int (nI r))]) X.1 X.2.1 dX8_outIn_1 rfl hl (by decide) rfl (fun ls hl => ?_)
  refine lv_iconst (v := nI 0) X.1 X.2.1 dX8_outIn_2 (by decide) ?_
  refine lv_istore_n (lv' := [(3, .int (nI 0)), (2, .int (nI 0)), (0, .ref (ad o)), (1, .int (nI r))]) X.1 X.2.1 dX8_outIn_3 rfl hl (by decide) rfl (fun ls hl => ?_)
  have loop : ∀ (fu : Nat) (i : Nat) (y : Int32) (hfu : i + fu = nb) (he : y = m_out a r i) (H : Heap) (locs : List Loc) (hw : HW D (Af ad N s.heap.size) ad N F s H locs) (ls : Array Slot) (hl : lv_has ls 4 [(3, .int (nI i)), (2, .int y), (0, .ref (ad o)), (1, .int (nI r))]), W p l e { frames := 1, cells := 0, slots := 0, locals := 23 } s m [.ref (ad o), .int (nI r)].toArray below meth c H locs 0 0 (MQ below (va_Qi (pP (m_out a r nb) F) (fun F' t => PO D ad N F' t) (Af ad N s.heap.size)) [.ref (ad o), .int (nI r)].toArray s 0 0 (Af ad N s.heap.size)) (F0 m 4 ls []) := by
    intro fu
    induction fu with
    | zero =>
      intro i y hfu he H locs hw ls hl
      refine lv_iload_n X.1 X.2.1 dX8_outIn_4 rfl (lv_at hl 0 rfl) ?_
      refine lv_aload_n X.1 X.2.1 dX8_outIn_5 rfl (lv_at hl 2 rfl) ?_
      refine x_get X hK hw (C := RX8) (T := TX8) (nf := 12) (k := o) (by omega) hF.1 rfl inX8 0 (by decide) q868 (fun _ h9 => h9) rfl dX8_outIn_6 ?_
      refine lv_iconst (v := nI 1) X.1 X.2.1 dX8_outIn_9 (by decide) ?_
      refine x_ialdN X hK hw (k := (o + 1)) (by omega) hF.2.1 (i := nI 1) (j := 1) rfl (by omega) (by omega) dX8_outIn_10 ?_
      refine lv_icmp_ge (tgt := 30) X.1 X.2.1 dX8_outIn_11 (by decide) (fun c1 => ?_) (fun c1 => ?_)
      · refine lv_iload_n X.1 X.2.1 dX8_outIn_30 rfl (lv_at hl 1 rfl) ?_
        exact x_iret X hr hlk hK hw (v := y) rfl (⟨by rw [he, show i = nb by omega], rfl⟩) dX8_outIn_31
      · exact absurd (by rw [h1]; exact nI_le (by omega) (by omega)) c1
    | succ fu ih =>
      intro i y hfu he H locs hw ls hl
      refine lv_iload_n X.1 X.2.1 dX8_outIn_4 rfl (lv_at hl 0 rfl) ?_
      refine lv_aload_n X.1 X.2.1 dX8_outIn_5 rfl (lv_at hl 2 rfl) ?_
      refine x_get X hK hw (C := RX8) (T := TX8) (nf := 12) (k := o) (by omega) hF.1 rfl inX8 0 (by decide) q868 (fun _ h9 => h9) rfl dX8_outIn_6 ?_
      refine lv_iconst (v := nI 1) X.1 X.2.1 dX8_outIn_9 (by decide) ?_
      refine x_ialdN X hK hw (k := (o + 1)) (by omega) hF.2.1 (i := nI 1) (j := 1) rfl (by omega) (by omega) dX8_outIn_10 ?_
      refine lv_icmp_ge (tgt := 30) X.1 X.2.1 dX8_outIn_11 (by decide) (fun c2 => ?_) (fun c2 => ?_)
      · exact absurd c2 (by rw [h1]; exact nI_ge (by omega) (by omega))
      · refine lv_iload_n X.1 X.2.1 dX8_outIn_14 rfl (lv_at hl 1 rfl) ?_
        refine lv_aload_n X.1 X.2.1 dX8_outIn_15 rfl (lv_at hl 2 rfl) ?_
        refine lv_iload_n X.1 X.2.1 dX8_outIn_16 rfl (lv_at hl 3 rfl) ?_
        refine lv_iload_n X.1 X.2.1 dX8_outIn_17 rfl (lv_at hl 0 rfl) ?_
        refine lv_iconst (v := nI 4) X.1 X.2.1 dX8_outIn_18 (by decide) ?_
        refine x_callVP X hK hw (k := o) (As := [.int (nI r), .int (nI i), .int (nI 4)]) (rest := [.int y]) (k_X8_of hI o a h sn tx k r i 4 (by omega) hF (by omega)) (x_cwV yX8_of cX8_of 4 (some .int) 3 X q984 q986 qs29 q14 q987 hd_X8_of ⟨Nat.le_of_ble_eq_true rfl, Nat.le_of_ble_eq_true rfl⟩) (by omega) hF.1 rfl rfl hl.1 rfl (Nat.le_of_ble_eq_true rfl) dX8_outIn_19 ⟨Nat.le_of_ble_eq_true rfl, Nat.le_of_ble_eq_true rfl⟩ (fun H locs hw => ?_)
        refine lv_iadd X.1 X.2.1 dX8_outIn_22 ?_
        refine lv_istore_n (lv' := [(2, .int (y + (m_e a r i 4))), (3, .int (nI i)), (0, .ref (ad o)), (1, .int (nI r))]) X.1 X.2.1 dX8_outIn_23 rfl hl (by decide) rfl (fun ls hl => ?_)
        refine lv_iinc (v := nI (i + 1)) (lv' := [(3, .int (nI (i + 1))), (2, .int (y + (m_e a r i 4))), (0, .ref (ad o)), (1, .int (nI r))]) X.1 X.2.1 dX8_outIn_24 hl (k := 1) rfl (by first | exact nI_1 _ | exact nI_add _ _ | rfl) (by decide) rfl (fun ls hl => ?_)
        refine lv_goto (tgt := 4) X.1 X.2.1 dX8_outIn_27 (by decide) ?_
        exact ih (i + 1) (y + (m_e a r i 4)) (by omega) (by rw [he, m_out]) _ _ hw _ (lv_sub hl [0, 1, 2, 3] rfl)
  exact loop nb 0 (nI 0) (by omega) rfl _ _ hw _ (lv_sub hl [0, 1, 2, 3] rfl)
set_option maxHeartbeats 4000000 in
set_option maxRecDepth 100000 in
theorem k_X8_bestIn {l : Launch} {D : va_G} {cI cB cS : ClassId} {ad : Nat → Nat} {N : Nat} {F : Nat → va_E} (hI : iN ad N) (o : Nat) (a : Nat → Int32) (h : Nat → Int32) (sn : Nat → Int32) (tx : Nat → Int32) (k : Nat → Int32) (r : Nat) (nb : Nat) (nr : Nat) (np : Nat) (nc : Nat) (hc5 : o + 5 ≤ N) (hF : MoF ad cI F o a h sn tx k) (hM : MI a nb nr np nc) (hrr : r < 6) : Ci l D cI cB cS ad N yX8_bestIn cX8_bestIn 4 (some .int) 3 67 [.ref (ad o), .int (nI r)] F (pP (oI (m_bst a r nb)) F) := by
  refine x_met (by decide +kernel) (Nat.le_of_ble_eq_true rfl) ?_
  intro p e s m below meth c X hr hlk hK hw ls hl
  replace hl : lv_has ls 4 [(0, .ref (ad o)), (1, .int (nI r))] := hl
  have ⟨h1, hb9, h2, hr6, h3, hp10, hcl, hnc, hrt, hpr⟩ := hM
  refine lv_bipush (v := (-5)) X.1 X.2.1 dX8_bestIn_0 (by decide) ?_
  refine lv_istore_n (lv' := [(2, .int ((-5))), (0, .ref (ad o)), (1, .int (nI r))]) X.1 X.2.1 dX8_bestIn_2 rfl hl (by decide) rfl (fun ls hl => ?_)
  refine lv_iconst (v := nI 0) X.1 X.2.1 dX8_bestIn_3 (by decide) ?_
  refine lv_istore_n (lv' := [(3, .int (nI 0)), (2, .int ((-5))), (0, .ref (ad o)), (1, .int (nI r))]) X.1 X.2.1 dX8_bestIn_4 rfl hl (by decide) rfl (fun ls hl => ?_)
  have loop : ∀ (fu : Nat) (i : Nat) (fo : Option Nat) (hfu : i + fu = nb) (he : fo = m_bst a r i) (H : Heap) (locs : List Loc) (hw : HW D (Af ad N s.heap.size) ad N F s H locs) (ls : Array Slot) (hl : lv_has ls 4 [(3, .int (nI i)), (0, .ref (ad o)), (1, .int (nI r)), (2, .int (oI fo))]), W p l e { frames := 3, cells := 0, slots := 0, locals := 67 } s m [.ref (ad o), .int (nI r)].toArray below meth c H locs 0 0 (MQ below (va_Qi (pP (oI (m_bst a r nb)) F) (fun F' t => PO D ad N F' t) (Af ad N s.heap.size)) [.ref (ad o), .int (nI r)].toArray s 0 0 (Af ad N s.heap.size)) (F0 m 5 ls []) := by
    intro fu
    induction fu with
    | zero =>
      intro i fo hfu he H locs hw ls hl
      rcases fo with _ | j
      · refine lv_iload_n X.1 X.2.1 dX8_bestIn_5 rfl (lv_at hl 0 rfl) ?_
        refine lv_aload_n X.1 X.2.1 dX8_bestIn_6 rfl (lv_at hl 1 rfl) ?_
        refine x_get X hK hw (C := RX8) (T := TX8) (nf := 12) (k := o) (by omega) hF.1 rfl inX8 0 (by decide) q868 (fun _ h9 => h9) rfl dX8_bestIn_7 ?_
        refine lv_iconst (v := nI 1) X.1 X.2.1 dX8_bestIn_10 (by decide) ?_
        refine x_ialdN X hK hw (k := (o + 1)) (by omega) hF.2.1 (i := nI 1) (j := 1) rfl (by omega) (by omega) dX8_bestIn_11 ?_
        refine lv_icmp_ge (tgt := 57) X.1 X.2.1 dX8_bestIn_12 (by decide) (fun c1 => ?_) (fun c1 => ?_)
        · refine lv_iload_n X.1 X.2.1 dX8_bestIn_57 rfl (lv_at hl 3 rfl) ?_
          exact x_iret X hr hlk hK hw (v := (-5)) rfl (⟨by rw [← show i = nb by omega, ← he]; rfl, rfl⟩) dX8_bestIn_58
        · exact absurd (by rw [h1]; exact nI_le (by omega) (by omega)) c1
      · have hj := m_bst_lt a r i j he.symm
        refine lv_iload_n X.1 X.2.1 dX8_bestIn_5 rfl (lv_at hl 0 rfl) ?_
        refine lv_aload_n X.1 X.2.1 dX8_bestIn_6 rfl (lv_at hl 1 rfl) ?_
        refine x_get X hK hw (C := RX8) (T := TX8) (nf := 12) (k := o) (by omega) hF.1 rfl inX8 0 (by decide) q868 (fun _ h9 => h9) rfl dX8_bestIn_7 ?_
        refine lv_iconst (v := nI 1) X.1 X.2.1 dX8_bestIn_10 (by decide) ?_
        refine x_ialdN X hK hw (k := (o + 1)) (by omega) hF.2.1 (i := nI 1) (j := 1) rfl (by omega) (by omega) dX8_bestIn_11 ?_
        refine lv_icmp_ge (tgt := 57) X.1 X.2.1 dX8_bestIn_12 (by decide) (fun c2 => ?_) (fun c2 => ?_)
        · refine lv_iload_n X.1 X.2.1 dX8_bestIn_57 rfl (lv_at hl 3 rfl) ?_
          exact x_iret X hr hlk hK hw (v := nI j) rfl (⟨by rw [← show i = nb by omega, ← he]; rfl, rfl⟩) dX8_bestIn_58
        · exact absurd (by rw [h1]; exact nI_le (by omega) (by omega)) c2
    | succ fu ih =>
      intro i fo hfu he H locs hw ls hl
      rcases fo with _ | j
      · refine lv_iload_n X.1 X.2.1 dX8_bestIn_5 rfl (lv_at hl 0 rfl) ?_
        refine lv_aload_n X.1 X.2.1 dX8_bestIn_6 rfl (lv_at hl 1 rfl) ?_
        refine x_get X hK hw (C := RX8) (T := TX8) (nf := 12) (k := o) (by omega) hF.1 rfl inX8 0 (by decide) q868 (fun _ h9 => h9) rfl dX8_bestIn_7 ?_
        refine lv_iconst (v := nI 1) X.1 X.2.1 dX8_bestIn_10 (by decide) ?_
        refine x_ialdN X hK hw (k := (o + 1)) (by omega) hF.2.1 (i := nI 1) (j := 1) rfl (by omega) (by omega) dX8_bestIn_11 ?_
        refine lv_icmp_ge (tgt := 57) X.1 X.2.1 dX8_bestIn_12 (by decide) (fun c3 => ?_) (fun c3 => ?_)
        · exact absurd c3 (by rw [h1]; exact nI_ge (by omega) (by omega))
        · refine lv_aload_n X.1 X.2.1 dX8_bestIn_15 rfl (lv_at hl 1 rfl) ?_
          refine lv_iload_n X.1 X.2.1 dX8_bestIn_16 rfl (lv_at hl 2 rfl) ?_
          refine lv_iload_n X.1 X.2.1 dX8_bestIn_17 rfl (lv_at hl 0 rfl) ?_
          refine x_callVP X hK hw (k := o) (As := [.int (nI r), .int (nI i)]) (rest := []) (k_X8_counts hI o a h sn tx k r i (by omega) hF (by omega) (by omega)) (x_cwV yX8_counts cX8_counts 3 (some .boolean) 2 X q1156 q1158 qs56 q14 q1159 hd_X8_counts ⟨Nat.le_of_ble_eq_true rfl, Nat.le_of_ble_eq_true rfl⟩) (by omega) hF.1 rfl rfl hl.1 rfl (Nat.le_of_ble_eq_true rfl) dX8_bestIn_18 ⟨Nat.le_of_ble_eq_true rfl, Nat.le_of_ble_eq_true rfl⟩ (fun H locs hw => ?_)
          refine lv_if_eq (tgt := 49) X.1 X.2.1 dX8_bestIn_21 (by decide) (fun c4 => ?_) (fun c4 => ?_)
          · replace c4 := bI_z c4
            refine lv_iload_n X.1 X.2.1 dX8_bestIn_49 rfl (lv_at hl 3 rfl) ?_
            refine lv_istore_n (lv' := [(2, .int ((-5))), (3, .int (nI i)), (0, .ref (ad o)), (1, .int (nI r))]) X.1 X.2.1 dX8_bestIn_50 rfl hl (by decide) rfl (fun ls hl => ?_)
            refine lv_iinc (v := nI (i + 1)) (lv' := [(3, .int (nI (i + 1))), (2, .int ((-5))), (0, .ref (ad o)), (1, .int (nI r))]) X.1 X.2.1 dX8_bestIn_51 hl (k := 1) rfl (by first | exact nI_1 _ | exact nI_add _ _ | rfl) (by decide) rfl (fun ls hl => ?_)
            refine lv_goto (tgt := 5) X.1 X.2.1 dX8_bestIn_54 (by decide) ?_
            exact ih (i + 1) none (by omega) (by simp only [m_bst, ← he]; rw [if_neg c4]) _ _ hw _ (lv_sub hl [0, 2, 3, 1] rfl)
          · replace c4 := bI_nz c4
            refine lv_iload_n X.1 X.2.1 dX8_bestIn_24 rfl (lv_at hl 3 rfl) ?_
            refine lv_bipush (v := (-5)) X.1 X.2.1 dX8_bestIn_25 (by decide) ?_
            refine lv_icmp_eq (tgt := 45) X.1 X.2.1 dX8_bestIn_27 (by decide) (fun c5 => ?_) (fun c5 => ?_)
            · refine lv_iload_n X.1 X.2.1 dX8_bestIn_45 rfl (lv_at hl 0 rfl) ?_
              refine lv_goto (tgt := 50) X.1 X.2.1 dX8_bestIn_46 (by decide) ?_
              refine lv_istore_n (lv' := [(2, .int (nI i)), (3, .int (nI i)), (0, .ref (ad o)), (1, .int (nI r))]) X.1 X.2.1 dX8_bestIn_50 rfl hl (by decide) rfl (fun ls hl => ?_)
              refine lv_iinc (v := nI (i + 1)) (lv' := [(3, .int (nI (i + 1))), (2, .int (nI i)), (0, .ref (ad o)), (1, .int (nI r))]) X.1 X.2.1 dX8_bestIn_51 hl (k := 1) rfl (by first | exact nI_1 _ | exact nI_add _ _ | rfl) (by decide) rfl (fun ls hl => ?_)
              refine lv_goto (tgt := 5) X.1 X.2.1 dX8_bestIn_54 (by decide) ?_
              exact ih (i + 1) ((some i)) (by omega) (by simp only [m_bst, ← he]; rw [if_pos c4]) _ _ hw _ (lv_sub hl [0, 2, 3, 1] rfl)
            · exact absurd rfl c5
      · have hj := m_bst_lt a r i j he.symm
        refine lv_iload_n X.1 X.2.1 dX8_bestIn_5 rfl (lv_at hl 0 rfl) ?_
        refine lv_aload_n X.1 X.2.1 dX8_bestIn_6 rfl (lv_at hl 1 rfl) ?_
        refine x_get X hK hw (C := RX8) (T := TX8) (nf := 12) (k := o) (by omega) hF.1 rfl inX8 0 (by decide) q868 (fun _ h9 => h9) rfl dX8_bestIn_7 ?_
        refine lv_iconst (v := nI 1) X.1 X.2.1 dX8_bestIn_10 (by decide) ?_
        refine x_ialdN X hK hw (k := (o + 1)) (by omega) hF.2.1 (i := nI 1) (j := 1) rfl (by omega) (by omega) dX8_bestIn_11 ?_
        refine lv_icmp_ge (tgt := 57) X.1 X.2.1 dX8_bestIn_12 (by decide) (fun c6 => ?_) (fun c6 => ?_)
        · exact absurd c6 (by rw [h1]; exact nI_ge (by omega) (by omega))
        · refine lv_aload_n X.1 X.2.1 dX8_bestIn_15 rfl (lv_at hl 1 rfl) ?_
          refine lv_iload_n X.1 X.2.1 dX8_bestIn_16 rfl (lv_at hl 2 rfl) ?_
          refine lv_iload_n X.1 X.2.1 dX8_bestIn_17 rfl (lv_at hl 0 rfl) ?_
          refine x_callVP X hK hw (k := o) (As := [.int (nI r), .int (nI i)]) (rest := []) (k_X8_counts hI o a h sn tx k r i (by omega) hF (by omega) (by omega)) (x_cwV yX8_counts cX8_counts 3 (some .boolean) 2 X q1156 q1158 qs56 q14 q1159 hd_X8_counts ⟨Nat.le_of_ble_eq_true rfl, Nat.le_of_ble_eq_true rfl⟩) (by omega) hF.1 rfl rfl hl.1 rfl (Nat.le_of_ble_eq_true rfl) dX8_bestIn_18 ⟨Nat.le_of_ble_eq_true rfl, Nat.le_of_ble_eq_true rfl⟩ (fun H locs hw => ?_)
          refine lv_if_eq (tgt := 49) X.1 X.2.1 dX8_bestIn_21 (by decide) (fun c7 => ?_) (fun c7 => ?_)
          · replace c7 := bI_z c7
            refine lv_iload_n X.1 X.2.1 dX8_bestIn_49 rfl (lv_at hl 3 rfl) ?_
            refine lv_istore_n (lv' := [(2, .int (nI j)), (3, .int (nI i)), (0, .ref (ad o)), (1, .int (nI r))]) X.1 X.2.1 dX8_bestIn_50 rfl hl (by decide) rfl (fun ls hl => ?_)
            refine lv_iinc (v := nI (i + 1)) (lv' := [(3, .int (nI (i + 1))), (2, .int (nI j)), (0, .ref (ad o)), (1, .int (nI r))]) X.1 X.2.1 dX8_bestIn_51 hl (k := 1) rfl (by first | exact nI_1 _ | exact nI_add _ _ | rfl) (by decide) rfl (fun ls hl => ?_)
            refine lv_goto (tgt := 5) X.1 X.2.1 dX8_bestIn_54 (by decide) ?_
            exact ih (i + 1) ((some j)) (by omega) (by simp only [m_bst, ← he]; rw [if_neg c7]) _ _ hw _ (lv_sub hl [0, 2, 3, 1] rfl)
          · replace c7 := bI_nz c7
            refine lv_iload_n X.1 X.2.1 dX8_bestIn_24 rfl (lv_at hl 3 rfl) ?_
            refine lv_bipush (v := (-5)) X.1 X.2.1 dX8_bestIn_25 (by decide) ?_
            refine lv_icmp_eq (tgt := 45) X.1 X.2.1 dX8_bestIn_27 (by decide) (fun c8 => ?_) (fun c8 => ?_)
            · exact absurd c8 (nI_ne5 (by omega))
            · refine lv_aload_n X.1 X.2.1 dX8_bestIn_30 rfl (lv_at hl 1 rfl) ?_
              refine lv_iload_n X.1 X.2.1 dX8_bestIn_31 rfl (lv_at hl 2 rfl) ?_
              refine lv_iload_n X.1 X.2.1 dX8_bestIn_32 rfl (lv_at hl 0 rfl) ?_
              refine x_callVP X hK hw (k := o) (As := [.int (nI r), .int (nI i)]) (rest := []) (k_X8_corrected hI o a h sn tx k r i nb nr np nc (by omega) hF hM (by omega) (by omega)) (x_cwV yX8_corrected cX8_corrected 3 (some .int) 2 X q1148 q1150 qs54 q14 q1151 hd_X8_corrected ⟨Nat.le_of_ble_eq_true rfl, Nat.le_of_ble_eq_true rfl⟩) (by omega) hF.1 rfl rfl hl.1 rfl (Nat.le_of_ble_eq_true rfl) dX8_bestIn_33 ⟨Nat.le_of_ble_eq_true rfl, Nat.le_of_ble_eq_true rfl⟩ (fun H locs hw => ?_)
              refine lv_aload_n X.1 X.2.1 dX8_bestIn_36 rfl (lv_at hl 1 rfl) ?_
              refine lv_iload_n X.1 X.2.1 dX8_bestIn_37 rfl (lv_at hl 2 rfl) ?_
              refine lv_iload_n X.1 X.2.1 dX8_bestIn_38 rfl (lv_at hl 3 rfl) ?_
              refine x_callVP X hK hw (k := o) (As := [.int (nI r), .int (nI j)]) (rest := [.int (m_co a r i)]) (k_X8_corrected hI o a h sn tx k r j nb nr np nc (by omega) hF hM (by omega) (by omega)) (x_cwV yX8_corrected cX8_corrected 3 (some .int) 2 X q1148 q1150 qs54 q14 q1151 hd_X8_corrected ⟨Nat.le_of_ble_eq_true rfl, Nat.le_of_ble_eq_true rfl⟩) (by omega) hF.1 rfl rfl hl.1 rfl (Nat.le_of_ble_eq_true rfl) dX8_bestIn_39 ⟨Nat.le_of_ble_eq_true rfl, Nat.le_of_ble_eq_true rfl⟩ (fun H locs hw => ?_)
              refine lv_icmp_ge (tgt := 49) X.1 X.2.1 dX8_bestIn_42 (by decide) (fun c9 => ?_) (fun c9 => ?_)
              · refine lv_iload_n X.1 X.2.1 dX8_bestIn_49 rfl (lv_at hl 3 rfl) ?_
                refine lv_istore_n (lv' := [(2, .int (nI j)), (3, .int (nI i)), (0, .ref (ad o)), (1, .int (nI r))]) X.1 X.2.1 dX8_bestIn_50 rfl hl (by decide) rfl (fun ls hl => ?_)
                refine lv_iinc (v := nI (i + 1)) (lv' := [(3, .int (nI (i + 1))), (2, .int (nI j)), (0, .ref (ad o)), (1, .int (nI r))]) X.1 X.2.1 dX8_bestIn_51 hl (k := 1) rfl (by first | exact nI_1 _ | exact nI_add _ _ | rfl) (by decide) rfl (fun ls hl => ?_)
                refine lv_goto (tgt := 5) X.1 X.2.1 dX8_bestIn_54 (by decide) ?_
                exact ih (i + 1) ((some j)) (by omega) (by simp only [m_bst, ← he]; rw [if_pos c7, if_pos c9]) _ _ hw _ (lv_sub hl [0, 2, 3, 1] rfl)
              · refine lv_iload_n X.1 X.2.1 dX8_bestIn_45 rfl (lv_at hl 0 rfl) ?_
                refine lv_goto (tgt := 50) X.1 X.2.1 dX8_bestIn_46 (by decide) ?_
                refine lv_istore_n (lv' := [(2, .int (nI i)), (3, .int (nI i)), (0, .ref (ad o)), (1, .int (nI r))]) X.1 X.2.1 dX8_bestIn_50 rfl hl (by decide) rfl (fun ls hl => ?_)
                refine lv_iinc (v := nI (i + 1)) (lv' := [(3, .int (nI (i + 1))), (2, .int (nI i)), (0, .ref (ad o)), (1, .int (nI r))]) X.1 X.2.1 dX8_bestIn_51 hl (k := 1) rfl (by first | exact nI_1 _ | exact nI_add _ _ | rfl) (by decide) rfl (fun ls hl => ?_)
                refine lv_goto (tgt := 5) X.1 X.2.1 dX8_bestIn_54 (by decide) ?_
                exact ih (i + 1) ((some i)) (by omega) (by simp only [m_bst, ← he]; rw [if_pos c7, if_neg c9]) _ _ hw _ (lv_sub hl [0, 2, 3, 1] rfl)
  exact loop nb 0 none (by omega) rfl _ _ hw _ (lv_sub hl [0, 2, 3, 1] rfl)
