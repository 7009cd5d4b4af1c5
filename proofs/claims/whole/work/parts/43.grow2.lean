theorem max1 {a : Nat} (h : a < 2 ^ 30) : (if nI 1 < nI (a + 2) then nI (a + 2) else nI 1) = nI (a + 2) := if_pos (nI_lt (by omega) (by omega))
theorem x_sec {p : Program} {l : Launch} {e : Env} {R : Room} {s : State} {m : MethodId} {args : Array Value} {below : List Frame} {meth : Method} {c : Code} {H : Heap} {locs : List Loc} {cells slots : Nat} {Q : State → Prop} {pc : Nat} {ls : Array Slot} {v : Value} {rest : List Value} {x y : Nat} (h : x = y) (k : W p l e R s m args below meth c H locs cells slots Q (F0 m pc ls (v :: .ref y :: rest))) : W p l e R s m args below meth c H locs cells slots Q (F0 m pc ls (v :: .ref x :: rest)) := h ▸ k
set_option maxHeartbeats 4000000 in
set_option maxRecDepth 100000 in
theorem k_J8_newLength_cabcc {l : Launch} {D : va_G} {cI cB cS : ClassId} {ad : Nat → Nat} {N : Nat} {F : Nat → va_E} (hI : iN ad N) (a : Nat) (ha : a < 2 ^ 20) : Ci l D cI cB cS ad N yJ8_newLength_cabcc cJ8_newLength_cabcc 4 (some .int) 1 60 [.int (nI a), .int (nI 1), .int (nI ((a + 2)))] F (pP (nI (a + (a + 2))) F) := by
  refine x_met (by decide +kernel) (Nat.le_of_ble_eq_true rfl) ?_
  intro p e s m below meth c X hr hlk hK hw ls hl
  replace hl : lv_has ls 4 [(0, .int (nI a)), (1, .int (nI 1)), (2, .int (nI ((a + 2))))] := hl
  refine lv_iload_n X.1 X.2.1 dJ8_newLength_cabcc_0 rfl (lv_at hl 0 rfl) ?_
  refine lv_iload_n X.1 X.2.1 dJ8_newLength_cabcc_1 rfl (lv_at hl 1 rfl) ?_
  refine lv_iload_n X.1 X.2.1 dJ8_newLength_cabcc_2 rfl (lv_at hl 2 rfl) ?_
  refine x_max X hl.1 (rest := [.int (nI a)]) q509 (Nat.le_of_ble_eq_true rfl) (Nat.le_of_ble_eq_true rfl) (Nat.zero_le _) (Nat.zero_le _) dJ8_newLength_cabcc_3 ?_
  refine x_top (y := nI (a + 2)) (max1 (by omega)) ?_
  refine lv_iadd X.1 X.2.1 dJ8_newLength_cabcc_6 ?_
  refine x_top (nI_add _ _) ?_
  refine lv_istore_n (lv' := [(3, .int (nI (a + (a + 2)))), (0, .int (nI a)), (1, .int (nI 1)), (2, .int (nI ((a + 2))))]) X.1 X.2.1 dJ8_newLength_cabcc_7 rfl hl (by decide) rfl (fun ls hl => ?_)
  refine lv_iconst (v := nI 0) X.1 X.2.1 dJ8_newLength_cabcc_8 (by decide) ?_
  refine lv_iload_n X.1 X.2.1 dJ8_newLength_cabcc_9 rfl (lv_at hl 0 rfl) ?_
  refine lv_icmp_ge (tgt := 21) X.1 X.2.1 dJ8_newLength_cabcc_10 (by decide) (fun c1 => ?_) (fun c1 => ?_)
  · exact absurd ((nI_leI (by omega) (by omega)).mp c1) (by omega)
  · refine lv_iload_n X.1 X.2.1 dJ8_newLength_cabcc_13 rfl (lv_at hl 0 rfl) ?_
    refine lv_ldc (v := nI 2147483639) X.1 X.2.1 X.2.2.2.1 (X.2.2.2.2 _ q510) dJ8_newLength_cabcc_14 ?_
    refine lv_icmp_gt (tgt := 21) X.1 X.2.1 dJ8_newLength_cabcc_16 (by decide) (fun c2 => ?_) (fun c2 => ?_)
    · exact absurd ((nI_ltI (by omega) (by omega)).mp c2) (by omega)
    · refine lv_iload_n X.1 X.2.1 dJ8_newLength_cabcc_19 rfl (lv_at hl 0 rfl) ?_
      exact x_iret X hr hlk hK hw (v := nI (a + (a + 2))) rfl (⟨rfl, rfl⟩) dJ8_newLength_cabcc_20
theorem hd_J8_newLength_cabcc : yJ8_newLength_cabcc.cls = RJ8 ∧ yJ8_newLength_cabcc.cls ≠ "java/lang/invoke/MethodHandle" ∧ yJ8_newLength_cabcc.cls ≠ "java/lang/invoke/VarHandle" ∧ (parseMethodDescriptor yJ8_newLength_cabcc.desc).map (fun d => d.parameters.length) = some 3 := by decide +kernel
set_option maxHeartbeats 4000000 in
set_option maxRecDepth 100000 in
theorem k_J5_newCapacity_0f7a4 {l : Launch} {D : va_G} {cI cB cS : ClassId} {ad : Nat → Nat} {N : Nat} {F : Nat → va_E} (hI : iN ad N) (e0 : Nat) (cap : Nat) (n : Nat) (ml : Int32) (f : Nat → Int32) (he2 : e0 + 2 ≤ N) (hcap : cap < 2 ^ 30) (hnc : n ≤ cap) (hS : SbF ad cB F e0 cap n ml f) (hc2 : cap < 2 ^ 20) : Ci l D cI cB cS ad N yJ5_newCapacity_0f7a4 cJ5_newCapacity_0f7a4 6 (some .int) 2 83 [.ref (ad e0), .int (nI ((cap + 1)))] F (pP (nI (cap + (cap + 2))) F) := by
  refine x_met (by decide +kernel) (Nat.le_of_ble_eq_true rfl) ?_
  intro p e s m below meth c X hr hlk hK hw ls hl
  replace hl : lv_has ls 6 [(0, .ref (ad e0)), (1, .int (nI ((cap + 1))))] := hl
  refine lv_aload_n X.1 X.2.1 dJ5_newCapacity_0f7a4_0 rfl (lv_at hl 0 rfl) ?_
  refine x_get X hK hw (C := RJ4) (T := TJ4) (nf := 4) (k := e0) (by omega) hS.1 rfl inJ4 0 (by decide) q200 (fun _ h9 => h9) rfl dJ5_newCapacity_0f7a4_1 ?_
  refine x_balen X hK hw (k := (e0 + 1)) (by omega) hS.2 dJ5_newCapacity_0f7a4_4 ?_
  refine lv_istore_n (lv' := [(2, .int (nI cap)), (0, .ref (ad e0)), (1, .int (nI ((cap + 1))))]) X.1 X.2.1 dJ5_newCapacity_0f7a4_5 rfl hl (by decide) rfl (fun ls hl => ?_)
  refine lv_iload_n X.1 X.2.1 dJ5_newCapacity_0f7a4_6 rfl (lv_at hl 2 rfl) ?_
  refine lv_aload_n X.1 X.2.1 dJ5_newCapacity_0f7a4_7 rfl (lv_at hl 1 rfl) ?_
  refine x_get X hK hw (C := RJ4) (T := TJ4) (nf := 4) (k := e0) (by omega) hS.1 rfl inJ4 1 (by decide) q201 (fun _ h9 => h9) rfl dJ5_newCapacity_0f7a4_8 ?_
  refine lv_ishl X.1 X.2.1 dJ5_newCapacity_0f7a4_11 ?_
  refine x_top (y := nI ((cap + 1))) (shl0 _) ?_
  refine lv_istore_n (lv' := [(3, .int (nI ((cap + 1)))), (2, .int (nI cap)), (0, .ref (ad e0)), (1, .int (nI ((cap + 1))))]) X.1 X.2.1 dJ5_newCapacity_0f7a4_12 rfl hl (by decide) rfl (fun ls hl => ?_)
  refine lv_iload_n X.1 X.2.1 dJ5_newCapacity_0f7a4_13 rfl (lv_at hl 0 rfl) ?_
  refine lv_iload_n X.1 X.2.1 dJ5_newCapacity_0f7a4_14 rfl (lv_at hl 1 rfl) ?_
  refine lv_isub X.1 X.2.1 dJ5_newCapacity_0f7a4_15 ?_
  refine x_top (pk_sub (by omega)) ?_
  refine x_top (y := nI 1) (congrArg nI (by omega)) ?_
  refine lv_istore (lv' := [(4, .int (nI 1)), (3, .int (nI ((cap + 1)))), (2, .int (nI cap)), (0, .ref (ad e0)), (1, .int (nI ((cap + 1))))]) X.1 X.2.1 dJ5_newCapacity_0f7a4_16 hl (by decide) rfl (fun ls hl => ?_)
  refine lv_iload_n X.1 X.2.1 dJ5_newCapacity_0f7a4_18 rfl (lv_at hl 2 rfl) ?_
  refine lv_iload X.1 X.2.1 dJ5_newCapacity_0f7a4_19 (lv_at hl 0 rfl) ?_
  refine lv_iload_n X.1 X.2.1 dJ5_newCapacity_0f7a4_21 rfl (lv_at hl 2 rfl) ?_
  refine lv_iconst (v := nI 2) X.1 X.2.1 dJ5_newCapacity_0f7a4_22 (by decide) ?_
  refine lv_aload_n X.1 X.2.1 dJ5_newCapacity_0f7a4_23 rfl (lv_at hl 3 rfl) ?_
  refine x_get X hK hw (C := RJ4) (T := TJ4) (nf := 4) (k := e0) (by omega) hS.1 rfl inJ4 1 (by decide) q201 (fun _ h9 => h9) rfl dJ5_newCapacity_0f7a4_24 ?_
  refine lv_ishl X.1 X.2.1 dJ5_newCapacity_0f7a4_27 ?_
  refine x_top (y := nI 2) (shl0 _) ?_
  refine lv_iadd X.1 X.2.1 dJ5_newCapacity_0f7a4_28 ?_
  refine x_top (nI_add _ _) ?_
  refine x_callSP X hK hw (As := [.int (nI cap), .int (nI 1), .int (nI (cap + 2))]) (rest := []) (k_J8_newLength_cabcc hI cap (by omega)) (x_cwS2 yJ8_newLength_cabcc cJ8_newLength_cabcc 4 (some .int) 3 X q506 q507 q16 q508 hd_J8_newLength_cabcc.2 ⟨Nat.le_of_ble_eq_true rfl, Nat.le_of_ble_eq_true rfl⟩) rfl hl.1 rfl (Nat.le_of_ble_eq_true rfl) dJ5_newCapacity_0f7a4_29 ⟨Nat.le_of_ble_eq_true rfl, Nat.le_of_ble_eq_true rfl⟩ (fun H locs hw => ?_)
  refine lv_istore (lv' := [(5, .int (nI (cap + (cap + 2)))), (4, .int (nI 1)), (3, .int (nI ((cap + 1)))), (2, .int (nI cap)), (0, .ref (ad e0)), (1, .int (nI ((cap + 1))))]) X.1 X.2.1 dJ5_newCapacity_0f7a4_32 hl (by decide) rfl (fun ls hl => ?_)
  refine lv_iload X.1 X.2.1 dJ5_newCapacity_0f7a4_34 (lv_at hl 0 rfl) ?_
  refine lv_ldc (v := nI 2147483647) X.1 X.2.1 X.2.2.2.1 (X.2.2.2.2 _ q514) dJ5_newCapacity_0f7a4_36 ?_
  refine lv_icmp_ne (tgt := 51) X.1 X.2.1 dJ5_newCapacity_0f7a4_38 (by decide) (fun c1 => ?_) (fun c1 => ?_)
  · refine lv_iload X.1 X.2.1 dJ5_newCapacity_0f7a4_51 (lv_at hl 0 rfl) ?_
    refine lv_aload_n X.1 X.2.1 dJ5_newCapacity_0f7a4_53 rfl (lv_at hl 4 rfl) ?_
    refine x_get X hK hw (C := RJ4) (T := TJ4) (nf := 4) (k := e0) (by omega) hS.1 rfl inJ4 1 (by decide) q201 (fun _ h9 => h9) rfl dJ5_newCapacity_0f7a4_54 ?_
    refine lv_ishr X.1 X.2.1 dJ5_newCapacity_0f7a4_57 ?_
    refine x_top (y := nI (cap + (cap + 2))) (shr0 _) ?_
    exact x_iret X hr hlk hK hw (v := nI (cap + (cap + 2))) rfl (⟨rfl, rfl⟩) dJ5_newCapacity_0f7a4_58
  · exact absurd ((nI_eq (by omega) (by omega)).mp c1) (by omega)
theorem va_up2 {F : Nat → va_E} {k : Nat} {e e2 : va_E} : va_up (va_up F k e) k e2 = va_up F k e2 := by
  funext j
  by_cases h : j = k
  · rw [h, up_a, up_a]
  · rw [up_o h, up_o h, up_o h]
theorem up_self {α : Type} {f : Nat → α} {k : Nat} {e : α} : va_up f k (va_up f k e k) = va_up f k e := by rw [up_a]
set_option maxHeartbeats 4000000 in
set_option maxRecDepth 100000 in
theorem k_copyOf {l : Launch} {D : va_G} {cI cB cS : ClassId} {ad : Nat → Nat} {N : Nat} {F : Nat → va_E} (hI : iN ad N) (k cap mn : Nat) (f : Nat → Int32) (hk : k < N) (hcap : cap < 2 ^ 20) (hmn : cap < mn) (hmn2 : mn < 2 ^ 21) (he : F k = .inl (cB, cap, .inl f)) (hb : Byt cap f) : Ccp l D cI cB cS ad N yJ7_copyOf_9075b cJ7_copyOf_9075b 3 (.array .byte) 1 60 [.ref (ad k), .int (nI mn)] F mn (va_cpy f (fun _ => 0) 0 0 cap) := by
  refine fun sz => x_metg (Qc := fun sz => va_Qr (fun (_ : Unit) => True) (fun _ a t => sz ≤ a ∧ (∀ k, k < N → ad k ≠ a) ∧ va_P D vwCl (wl (va_up ad N a) (N + 1) (va_up F N (.inl (cB, mn, .inl (va_cpy f (fun _ => 0) 0 0 cap))))) t.heap) (Af ad N sz)) (by decide +kernel) (Nat.le_of_ble_eq_true rfl) ?_ sz
  intro p e s m below meth c X hr hlk hK hw ls hl
  replace hl : lv_has ls 3 [(0, .ref (ad k)), (1, .int (nI mn))] := hl
  refine lv_iload_n X.1 X.2.1 dJ7_copyOf_9075b_0 rfl (lv_at hl 1 rfl) ?_
  refine lv_aload_n X.1 X.2.1 dJ7_copyOf_9075b_1 rfl (lv_at hl 0 rfl) ?_
  refine x_balen X hK hw (k := k) (by omega) he dJ7_copyOf_9075b_2 ?_
  refine lv_icmp_ne (tgt := 14) X.1 X.2.1 dJ7_copyOf_9075b_3 (by decide) (fun c1 => ?_) (fun c1 => ?_)
  · refine lv_iload_n X.1 X.2.1 dJ7_copyOf_9075b_14 rfl (lv_at hl 1 rfl) ?_
    refine x_newbG X hK hI hw (N' := mn) rfl (by omega) (Nat.le_of_ble_eq_true rfl) (by show 0 + mn ≤ mn; omega) dJ7_copyOf_9075b_15 (fun a F1 H ha hne eF hw => ?_)
    refine W.widen (k := 1) (n := mn) (by omega) (by omega) ?_
    refine lv_astore_n (lv' := [(2, .ref a), (0, .ref (ad k)), (1, .int (nI mn))]) X.1 X.2.1 dJ7_copyOf_9075b_17 rfl hl (by decide) rfl (fun ls hl => ?_)
    have e0 : ad k = va_up ad N a k := (up_o (by omega)).symm
    have eN : a = va_up ad N a N := up_a.symm
    have hI1 : iN (va_up ad N a) (N + 1) := iN_push hI hne
    obtain ⟨ad1, h1⟩ : ∃ y, y = va_up ad N a := ⟨_, rfl⟩
    rw [← h1] at hw e0 eN hI1
    have hl1 : lv_has ls 3 [(2, .ref (ad1 N)), (0, .ref (ad1 k)), (1, .int (nI mn))] := by rw [← eN, ← e0]; exact hl
    have he1 : F1 k = .inl (cB, cap, .inl f) := by rw [eF]; exact (up_o (by omega)).trans he
    have hN1 : F1 N = .inl (cB, mn, .inl (fun _ => 0)) := by rw [eF]; exact up_a
    refine lv_aload_n X.1 X.2.1 dJ7_copyOf_9075b_18 rfl (lv_at hl1 1 rfl) ?_
    refine lv_iconst (v := nI 0) X.1 X.2.1 dJ7_copyOf_9075b_19 (by decide) ?_
    refine lv_aload_n X.1 X.2.1 dJ7_copyOf_9075b_20 rfl (lv_at hl1 0 rfl) ?_
    refine lv_iconst (v := nI 0) X.1 X.2.1 dJ7_copyOf_9075b_21 (by decide) ?_
    refine lv_aload_n X.1 X.2.1 dJ7_copyOf_9075b_22 rfl (lv_at hl1 1 rfl) ?_
    refine x_balen X hK hw (k := k) (by omega) he1 dJ7_copyOf_9075b_23 ?_
    refine lv_iload_n X.1 X.2.1 dJ7_copyOf_9075b_24 rfl (lv_at hl1 2 rfl) ?_
    refine x_min X hl.1 (rest := [.int (nI 0), .ref (ad1 N), .int (nI 0), .ref (ad1 k)]) q525 (Nat.le_of_ble_eq_true rfl) (Nat.le_of_ble_eq_true rfl) (Nat.le_of_ble_eq_true rfl) (Nat.le_refl _) dJ7_copyOf_9075b_25 ?_
    refine x_top (min_le (by omega) (by omega)) ?_
    refine x_copyb X hI1 hK hw hl.1 (rest := []) (k0 := k) (k1 := N) (by omega) (by omega) he1 hN1 (n := cap) (by omega) (Nat.le_refl _) (by omega) hb q526 (Nat.le_of_ble_eq_true rfl) (show (([] : List Value).map fun v => v.category).sum + (nativeFrameWords "java/lang/System" "arraycopy" 5 + 11) ≤ 60 by decide +kernel) dJ7_copyOf_9075b_28 (fun F2 H locs eF2 hw => ?_)
    refine lv_aload_n X.1 X.2.1 dJ7_copyOf_9075b_31 rfl (lv_at hl1 0 rfl) ?_
    refine W.aret X.1 X.2.1 hr (Or.inr ⟨_, rfl⟩) (Or.inr ⟨_, rfl⟩) (fun t ht hW => ⟨⟨(), ad1 N, rfl, trivial, by rw [← eN]; exact ha, fun k hk => by rw [← eN]; exact hne k hk, ?_⟩, hw.2.1.F ht⟩) hw.2.1.2.2 dJ7_copyOf_9075b_32 hlk
    rw [← eN, ← h1, ht]
    have e2 : F2 = va_up F N (.inl (cB, mn, .inl (va_cpy f (fun _ => 0) 0 0 cap))) := by rw [eF2, eF, va_up2]
    rw [← e2]
    exact hw.1
  · exact absurd ((nI_eq (by omega) (by omega)).mp c1) (by omega)
theorem hk_J5_newCapacity_0f7a4 : yJ5_newCapacity_0f7a4.cls ≠ "java/lang/invoke/MethodHandle" ∧ yJ5_newCapacity_0f7a4.cls ≠ "java/lang/invoke/VarHandle" ∧ (parseMethodDescriptor yJ5_newCapacity_0f7a4.desc).map (fun d => d.parameters.length) = some 1 := by decide +kernel
theorem hd_copyOf : yJ7_copyOf_9075b.cls ≠ "java/lang/invoke/MethodHandle" ∧ yJ7_copyOf_9075b.cls ≠ "java/lang/invoke/VarHandle" ∧ (parseMethodDescriptor yJ7_copyOf_9075b.desc).map (fun d => d.parameters.length) = some 2 := by decide +kernel
theorem wl_out {ad : Nat → Nat} {N : Nat} {F : Nat → va_E} {e : va_E} : wl ad N (va_up F N e) = wl ad N F := by
  unfold wl
  apply List.map_congr_left
  intro k hk
  rw [up_o (by have := List.mem_range.mp hk; omega)]
/-- room for one sign more -/
def GP (cB : ClassId) (ad : Nat → Nat) (F : Nat → va_E) (e0 n : Nat) (ml : Int32) (f : Nat → Int32) (ad' : Nat → Nat) (F' : Nat → va_E) : Prop := ∃ (cap' : Nat) (f' : Nat → Int32), SbF ad' cB F' e0 cap' n ml f' ∧ n + 1 ≤ cap' ∧ cap' ≤ 160 ∧ (∀ j, j < n → f' j = f j) ∧ Byt cap' f' ∧ (∀ k, k ≠ e0 + 1 → ad' k = ad k) ∧ ∀ k, k ≠ e0 → k ≠ e0 + 1 → F' k = F k
theorem cpy_b {cap mn : Nat} {f : Nat → Int32} (h : Byt cap f) : Byt mn (va_cpy f (fun _ => 0) 0 0 cap) := fun j _ => by
  unfold va_cpy
  by_cases q : 0 ≤ j ∧ j < 0 + cap
  · rw [if_pos q]
    obtain ⟨u, hu, e⟩ := h (0 + (j - 0)) (by omega)
    exact ⟨u, hu, e⟩
  · rw [if_neg q]; exact ⟨0, by omega, rfl⟩
theorem cpy_l {cap j : Nat} {f : Nat → Int32} (h : j < cap) : va_cpy f (fun _ => 0) 0 0 cap j = f j := by
  unfold va_cpy
  rw [if_pos (by omega)]
  congr 1; omega
set_option maxHeartbeats 4000000 in
set_option maxRecDepth 100000 in
theorem k_ensure {l : Launch} {D : va_G} {cI cB cS : ClassId} {ad : Nat → Nat} {N : Nat} {F : Nat → va_E} (hI : iN ad N) (e0 cap n : Nat) (ml : Int32) (f : Nat → Int32) (he2 : e0 + 2 ≤ N) (hcap : cap ≤ 160) (hnc : n ≤ cap) (hn80 : n < 80) (hS : SbF ad cB F e0 cap n ml f) (hb : Byt cap f) : Cgv l D cI cB cS ad N yJ5_ensureCapacityInternal_d00df cJ5_ensureCapacityInternal_d00df 3 3 108 [.ref (ad e0), .int (nI (n + 1))] F (GP cB ad F e0 n ml f) := by
  refine fun sz => x_metg (Qc := fun sz => va_Qv (fun u => GP cB ad F e0 n ml f u.1 u.2 ∧ gR ad N sz u) (fun u t => PO D u.1 N u.2 t) (Af ad N sz)) (by decide +kernel) (Nat.le_of_ble_eq_true rfl) ?_ sz
  intro p e s m below meth c X hr hlk hK hw ls hl
  replace hl : lv_has ls 3 [(0, .ref (ad e0)), (1, .int (nI (n + 1)))] := hl
  refine lv_aload_n X.1 X.2.1 dJ5_ensureCapacityInternal_d00df_0 rfl (lv_at hl 0 rfl) ?_
  refine x_get X hK hw (C := RJ4) (T := TJ4) (nf := 4) (k := e0) (by omega) hS.1 rfl inJ4 0 (by decide) q200 (fun _ h9 => h9) rfl dJ5_ensureCapacityInternal_d00df_1 ?_
  refine x_balen X hK hw (k := e0 + 1) (by omega) hS.2 dJ5_ensureCapacityInternal_d00df_4 ?_
  refine lv_aload_n X.1 X.2.1 dJ5_ensureCapacityInternal_d00df_5 rfl (lv_at hl 0 rfl) ?_
  refine x_get X hK hw (C := RJ4) (T := TJ4) (nf := 4) (k := e0) (by omega) hS.1 rfl inJ4 1 (by decide) q201 (fun _ h9 => h9) rfl dJ5_ensureCapacityInternal_d00df_6 ?_
  refine lv_ishr X.1 X.2.1 dJ5_ensureCapacityInternal_d00df_9 ?_
  refine x_top (y := nI cap) (shr0 _) ?_
  refine lv_istore_n (lv' := [(2, .int (nI cap)), (0, .ref (ad e0)), (1, .int (nI (n + 1)))]) X.1 X.2.1 dJ5_ensureCapacityInternal_d00df_10 rfl hl (by decide) rfl (fun ls hl => ?_)
  refine lv_iload_n X.1 X.2.1 dJ5_ensureCapacityInternal_d00df_11 rfl (lv_at hl 2 rfl) ?_
  refine lv_iload_n X.1 X.2.1 dJ5_ensureCapacityInternal_d00df_12 rfl (lv_at hl 0 rfl) ?_
  refine lv_isub X.1 X.2.1 dJ5_ensureCapacityInternal_d00df_13 ?_
  rcases Nat.lt_or_ge n cap with hlt | hge
  · refine lv_if_le (tgt := 38) X.1 X.2.1 dJ5_ensureCapacityInternal_d00df_14 (by decide) (fun c1 => ?_) (fun c1 => ?_)
    · refine W.widen (k := 1) (n := 162) (by omega) (by omega) ?_
      exact x_vretg X hr hlk hI (fun k hk => Or.inl ⟨k, hk, rfl⟩) hw (post := GP cB ad F e0 n ml f) ⟨cap, f, hS, by omega, hcap, fun _ _ => rfl, hb, fun _ _ => rfl, fun _ _ _ => rfl⟩ dJ5_ensureCapacityInternal_d00df_38
    · exact absurd (sub_le (by omega) (by omega)) c1
  · obtain rfl : n = cap := by omega
    refine x_top (y := nI 1) ((pk_sub (by omega)).trans (congrArg nI (by omega))) ?_
    refine lv_if_le (tgt := 38) X.1 X.2.1 dJ5_ensureCapacityInternal_d00df_14 (by decide) (fun c1 => ?_) (fun c1 => ?_)
    · exact absurd c1 (by decide)
    · refine lv_aload_n X.1 X.2.1 dJ5_ensureCapacityInternal_d00df_17 rfl (lv_at hl 1 rfl) ?_
      refine lv_aload_n X.1 X.2.1 dJ5_ensureCapacityInternal_d00df_18 rfl (lv_at hl 1 rfl) ?_
      refine x_get X hK hw (C := RJ4) (T := TJ4) (nf := 4) (k := e0) (by omega) hS.1 rfl inJ4 0 (by decide) q200 (fun _ h9 => h9) rfl dJ5_ensureCapacityInternal_d00df_19 ?_
      refine lv_aload_n X.1 X.2.1 dJ5_ensureCapacityInternal_d00df_22 rfl (lv_at hl 1 rfl) ?_
      refine lv_iload_n X.1 X.2.1 dJ5_ensureCapacityInternal_d00df_23 rfl (lv_at hl 2 rfl) ?_
      refine x_callUP X hK hw (k := e0) (As := [.int (nI (n + 1))]) (rest := [.ref (ad (e0 + 1)), .ref (ad e0)]) (k_J5_newCapacity_0f7a4 hI e0 n n ml f (by omega) (by omega) (by omega) hS (by omega)) (x_cwU RJ4 yJ5_newCapacity_0f7a4 cJ5_newCapacity_0f7a4 6 (some .int) 1 X q502 q1235 (X.2.2.2.2 _ qx1) q504 q10 q505 hk_J5_newCapacity_0f7a4 ⟨(Nat.le_of_ble_eq_true rfl), (Nat.le_of_ble_eq_true rfl)⟩) (by omega) hS.1 rfl rfl hl.1 rfl (Nat.le_of_ble_eq_true rfl) dJ5_ensureCapacityInternal_d00df_24 ⟨Nat.le_of_ble_eq_true rfl, Nat.le_of_ble_eq_true rfl⟩ (fun H locs hw => ?_)
      refine lv_aload_n X.1 X.2.1 dJ5_ensureCapacityInternal_d00df_27 rfl (lv_at hl 1 rfl) ?_
      refine x_get X hK hw (C := RJ4) (T := TJ4) (nf := 4) (k := e0) (by omega) hS.1 rfl inJ4 1 (by decide) q201 (fun _ h9 => h9) rfl dJ5_ensureCapacityInternal_d00df_28 ?_
      refine lv_ishl X.1 X.2.1 dJ5_ensureCapacityInternal_d00df_31 ?_
      refine x_top (y := nI (n + (n + 2))) (shl0 _) ?_
      refine x_callScp X hK hw (As := [.ref (ad (e0 + 1)), .int (nI (n + (n + 2)))]) (rest := [.ref (ad e0)]) (k_copyOf hI (e0 + 1) n (n + (n + 2)) f (by omega) (by omega) (by omega) (by omega) hS.2 hb) (x_cwS3 yJ7_copyOf_9075b cJ7_copyOf_9075b 3 (some (.array .byte)) 2 X q515 q516 q17 q517 hd_copyOf ⟨(Nat.le_of_ble_eq_true rfl), (Nat.le_of_ble_eq_true rfl)⟩) rfl hl.1 rfl (Nat.le_of_ble_eq_true rfl) dJ5_ensureCapacityInternal_d00df_32 ⟨Nat.le_of_ble_eq_true rfl, by show 0 + (n + (n + 2)) ≤ 162; omega⟩ (fun a F1 H locs ha hne eF hw => ?_)
      have hI1 : iN (va_up ad N a) (N + 1) := iN_push hI hne
      have hS1 : F1 e0 = .inr (0, [.ref (ad (e0 + 1)), .int (nI 0), .int ml, .int (nI n)]) := by rw [eF]; exact (up_o (by omega)).trans hS.1
      refine x_sec (up_o (by omega) : va_up ad N a e0 = ad e0).symm ?_
      refine x_put2 X hI1 hK hw (C := RJ4) (T := TJ4) (nf := 4) (k := e0) (ty := (.array .byte)) (v := .ref a) (by omega) hS1 rfl inJ4 tyJ4 tyJ4_ok nmJ4 0 (by decide) q200 (fun _ h9 => h9) rfl (by decide +kernel) rfl rfl (Nat.le_of_ble_eq_true rfl) dJ5_ensureCapacityInternal_d00df_35 (fun F2 H locs eF2 hw => ?_)
      refine W.widen (k := 1) (n := 162) (by omega) (by omega) ?_
      have hw2 : HW D (Af ad N s.heap.size) (va_up ad (e0 + 1) a) N (va_up (va_up F2 (e0 + 1) (F2 N)) N (F N)) s H locs := ⟨by rw [wl_out]; exact va_P_swap hw.1 (by omega), hw.2.1, fun k hk => by
        by_cases q : k = e0 + 1
        · rw [q, up_a]; exact Or.inr ha
        · rw [up_o q]; exact Or.inl ⟨k, hk, rfl⟩, hw.2.2.2⟩
      refine x_vretg X hr hlk (iN_swap hI hne) (fun k hk => hw2.2.2.1 k hk) hw2 (post := GP cB ad F e0 n ml f) ⟨n + (n + 2), va_cpy f (fun _ => 0) 0 0 n, ⟨?_, ?_⟩, by omega, by omega, fun j hj => cpy_l hj, cpy_b hb, fun k hk => up_o hk, fun k h1 h2 => ?_⟩ dJ5_ensureCapacityInternal_d00df_38
      · rw [up_o (by omega), up_o (by omega), eF2, up_a, up_a]; rfl
      · rw [up_o (by omega), up_a, eF2, up_o (by omega), eF, up_a]
      · by_cases q : k = N
        · rw [q, up_a]
        · rw [up_o q, up_o h2, eF2, up_o h1, eF, up_o q]
