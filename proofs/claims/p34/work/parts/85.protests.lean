/-! the law's method 'areProtests' -/
def cuN (A : Nat → Nat) (b v : Nat) : Nat → Nat
  | 0 => 0
  | i + 1 => cuN A b v i + if pA A i 1 = b ∧ pA A i 3 = v then 1 else 0
theorem cu_y {A : Nat → Nat} {b v i : Nat} (h : pA A i 1 = b ∧ pA A i 3 = v) : cuN A b v i + 1 = cuN A b v (i + 1) := by
  show _ = cuN A b v i + _
  rw [if_pos h]
theorem cu_z {A : Nat → Nat} {b v i : Nat} (h : ¬ (pA A i 1 = b ∧ pA A i 3 = v)) : cuN A b v i + 0 = cuN A b v (i + 1) := by
  show _ = cuN A b v i + _
  rw [if_neg h]
theorem cu_le {A : Nat → Nat} {b v : Nat} : ∀ n, cuN A b v n ≤ n ∧ (0 < cuN A b v n ↔ ∃ p, p < n ∧ pA A p 1 = b ∧ pA A p 3 = v) := by
  intro n
  induction n with
  | zero => exact ⟨Nat.le_refl _, ⟨fun h => absurd h (Nat.lt_irrefl _), fun ⟨p, h, _⟩ => absurd h (Nat.not_lt_zero _)⟩⟩
  | succ n ih =>
    by_cases q : pA A n 1 = b ∧ pA A n 3 = v
    · rw [← cu_y q]
      exact ⟨by omega, ⟨fun _ => ⟨n, by omega, q⟩, fun _ => by omega⟩⟩
    · rw [← cu_z q]
      refine ⟨by omega, ⟨fun h => ?_, fun ⟨p, h1, h2⟩ => ?_⟩⟩
      · obtain ⟨p, h1, h2⟩ := ih.2.mp h
        exact ⟨p, by omega, h2⟩
      · by_cases w : p = n
        · rw [w] at h2; exact absurd h2 q
        · exact ih.2.mpr ⟨p, by omega, h2⟩
def tN (A : Nat → Nat) (k : Nat) : Nat := if k < A 3 then pA A k 3 else 0
theorem ar_a {f : Nat → Int32} {g : Nat → Nat} {k : Nat} (h : ∀ i, i < k → f i = nI (g i)) : ∀ i, i < k + 1 → upd f k (nI (g k)) i = nI (g i) := fun i hi => by
  by_cases q : i = k
  · rw [q, pk_us]
  · rw [pk_un q]; exact h i (by omega)
theorem ar_b {f : Nat → Int32} {g : Nat → Nat} {k n : Nat} {v : Int32} (h : ∀ i, k ≤ i → i < n → f i = nI (g i)) : ∀ i, k + 1 ≤ i → i < n → upd f k v i = nI (g i) := fun i h1 h2 => by
  rw [pk_un (by omega)]; exact h i (by omega) h2
theorem ar_c {f : Nat → Int32} {g : Nat → Nat} {k n : Nat} {v : Int32} (hk : n ≤ k) (h : ∀ i, i < n → f i = nI (g i)) : ∀ i, i < n → upd f k v i = nI (g i) := fun i hi => by
  rw [pk_un (by omega)]; exact h i hi
theorem ar_d {f : Nat → Int32} {k n : Nat} (h : ∀ i, n ≤ i → i < k → f i = nI 0) : ∀ i, n ≤ i → i < k + 1 → upd f k (nI 0) i = nI 0 := fun i h1 h2 => by
  by_cases q : i = k
  · rw [q, pk_us]
  · rw [pk_un q]; exact h i h1 (by omega)
theorem hd_X7_protest : yX7_protest.cls = RX7 ∧ yX7_protest.cls ≠ "java/lang/invoke/MethodHandle" ∧ yX7_protest.cls ≠ "java/lang/invoke/VarHandle" ∧ (parseMethodDescriptor yX7_protest.desc).map (fun d => d.parameters.length) = some 2 := by decide +kernel
set_option maxHeartbeats 4000000 in
set_option maxRecDepth 100000 in
theorem k_L_areProtests {l : Launch} {D : va_G} {cI cB cS : ClassId} {ad : Nat → Nat} {N : Nat} {F : Nat → va_E} (hI : iN ad N) (hN : 115 ≤ N) {ca : Nat} {hs : Int32} {A A3 : Nat → Nat} (hJ : HJ ca A) (hc : ca ≤ 512) (hk : A 0 ≤ 999999) (hO : OB ad cI cB cS F hs A A3) {f : Nat → Int32} {T : Nat → Nat} (hT : F 114 = .inl (cI, 10, .inl f)) (hTv : ∀ k, k < 10 → f k = nI (T k)) (hTle : ∀ k, k < A 3 → T k ≤ pA A k 3) : Ci l D cI cB cS ad N yL_areProtests cL_areProtests 7 (some .boolean) 7 160 [.ref (ad 0), .ref (ad 114)] F (fun v F' => v = nI 1 ∧ OB ad cI cB cS F' hs A A3 ∧ (∃ f', F' 114 = .inl (cI, 10, .inl f') ∧ ∀ k, k < 10 → f' k = nI (tN A k)) ∧ Fr F F' 0 115) := by
  refine x_met (by decide +kernel) (Nat.le_of_ble_eq_true rfl) ?_
  intro p e s m below meth c X hr hlk hK hw ls hl
  replace hl : lv_has ls 7 [(0, .ref (ad 0)), (1, .ref (ad 114))] := hl
  have hfr : Fr F F 0 115 := Fr.rf
  have h9 := hJ.1.1
  have h6 := hJ.1.2.1
  have h10 := hJ.1.2.2.1
  rcases (show A 2 = 0 ∨ ∃ r, r + 1 = A 2 from by rcases Nat.eq_zero_or_pos (A 2) with q | q; (exact Or.inl q); exact Or.inr ⟨A 2 - 1, by omega⟩) with h0 | ⟨r, hrA⟩
  · refine lv_aload_n X.1 X.2.1 dL_areProtests_0 rfl (lv_at hl 0 rfl) ?_
    refine lv_iconst (v := nI 1) X.1 X.2.1 dL_areProtests_1 (by decide) ?_
    refine x_callV X hK hw (k := 0) (As := [.int (nI 1)]) (rest := []) (w_count hI (by omega) hO (nI 1) (fun g t z n hE => a_cou1 hJ hc hk hE z n)) (x_cwV yX7_count cX7_count 2 (some .int) 1 X q818 q819 q820 q1 q821 hd_X7_count ⟨(Nat.le_of_ble_eq_true rfl), (Nat.le_of_ble_eq_true rfl)⟩) (by omega) hO.ma rfl rfl hl.1 rfl (Nat.le_of_ble_eq_true rfl) dL_areProtests_2 ⟨(Nat.le_of_ble_eq_true rfl), (Nat.le_of_ble_eq_true rfl)⟩ (fun v1 F2 H locs hp hw => ?_)
    obtain ⟨e3, hO4, hf5⟩ := hp
    refine x_top e3 ?_
    have hT6 := (hf5 114 (by omega)).trans hT
    replace hfr := hfr.tr hf5 (by omega) (by omega)
    refine lv_iconst (v := nI 1) X.1 X.2.1 dL_areProtests_5 (by decide) ?_
    refine lv_isub X.1 X.2.1 dL_areProtests_6 ?_
    refine x_top (show nI (A 2) - nI 1 = (-1) by rw [h0]; rfl) ?_
    refine lv_istore_n (lv' := [(2, .int ((-1))), (0, .ref (ad 0)), (1, .ref (ad 114))]) X.1 X.2.1 dL_areProtests_7 rfl hl (by decide) rfl (fun ls hl => ?_)
    refine lv_iconst (v := nI 0) X.1 X.2.1 dL_areProtests_8 (by decide) ?_
    refine lv_istore_n (lv' := [(3, .int (nI 0)), (2, .int ((-1))), (0, .ref (ad 0)), (1, .ref (ad 114))]) X.1 X.2.1 dL_areProtests_9 rfl hl (by decide) rfl (fun ls hl => ?_)
    have way10 : ∀ (b : Nat) (F1 : Nat → va_E) (hb1 : b ≤ A 1) (hT1 : F1 114 = .inl (cI, 10, .inl f)) (hOB : OB ad cI cB cS F1 hs A A3) (hfr : Fr F F1 0 115) (hx : True) (H : Heap) (locs : List Loc) (hw : HW D (Af ad N s.heap.size) ad N F1 s H locs) (ls : Array Slot) (hl : lv_has ls 7 [(2, .int ((-1))), (3, .int (nI b)), (0, .ref (ad 0)), (1, .ref (ad 114))]), W p l e { frames := 7, cells := 0, slots := 0, locals := 160 } s m [.ref (ad 0), .ref (ad 114)].toArray below meth c H locs 0 0 (MQ below (va_Qi (fun v F' => v = nI 1 ∧ OB ad cI cB cS F' hs A A3 ∧ (∃ f', F' 114 = .inl (cI, 10, .inl f') ∧ ∀ k, k < 10 → f' k = nI (tN A k)) ∧ Fr F F' 0 115) (fun F' t => PO D ad N F' t) (Af ad N s.heap.size)) [.ref (ad 0), .ref (ad 114)].toArray s 0 0 (Af ad N s.heap.size)) (F0 m 168 ls []) := by
      intro b F1 hb1 hT1 hOB hfr hx H locs hw ls hl
      refine lv_iconst (v := nI 0) X.1 X.2.1 dL_areProtests_168 (by decide) ?_
      refine lv_istore_n (lv' := [(3, .int (nI 0)), (2, .int ((-1))), (0, .ref (ad 0)), (1, .ref (ad 114))]) X.1 X.2.1 dL_areProtests_169 rfl hl (by decide) rfl (fun ls hl => ?_)
      have way170 : ∀ (k : Nat) (F3 : Nat → va_E) (f1 : Nat → Int32) (hk3 : k ≤ A 3) (hT3 : F3 114 = .inl (cI, 10, .inl f1)) (hfa : ∀ i, i < k → f1 i = nI (pA A i 3)) (hfb : ∀ i, k ≤ i → i < A 3 → f1 i = nI (T i)) (hOD : OB ad cI cB cS F3 hs A A3) (hfr : Fr F F3 0 115) (hx : A 3 ≤ k) (H : Heap) (locs : List Loc) (hw : HW D (Af ad N s.heap.size) ad N F3 s H locs) (ls : Array Slot) (hl : lv_has ls 7 [(3, .int (nI k)), (2, .int ((-1))), (0, .ref (ad 0)), (1, .ref (ad 114))]), W p l e { frames := 7, cells := 0, slots := 0, locals := 160 } s m [.ref (ad 0), .ref (ad 114)].toArray below meth c H locs 0 0 (MQ below (va_Qi (fun v F' => v = nI 1 ∧ OB ad cI cB cS F' hs A A3 ∧ (∃ f', F' 114 = .inl (cI, 10, .inl f') ∧ ∀ k, k < 10 → f' k = nI (tN A k)) ∧ Fr F F' 0 115) (fun F' t => PO D ad N F' t) (Af ad N s.heap.size)) [.ref (ad 0), .ref (ad 114)].toArray s 0 0 (Af ad N s.heap.size)) (F0 m 247 ls []) := by
        intro k F3 f1 hk3 hT3 hfa hfb hOD hfr hx H locs hw ls hl
        refine lv_aload_n X.1 X.2.1 dL_areProtests_247 rfl (lv_at hl 2 rfl) ?_
        refine lv_iconst (v := nI 5) X.1 X.2.1 dL_areProtests_248 (by decide) ?_
        refine x_callV X hK hw (k := 0) (As := [.int (nI 5)]) (rest := []) (w_count hI (by omega) hOD (nI 5) (fun g t z n hE => a_cou5 hJ hc hk hE z n)) (x_cwV yX7_count cX7_count 2 (some .int) 1 X q818 q819 q820 q1 q821 hd_X7_count ⟨(Nat.le_of_ble_eq_true rfl), (Nat.le_of_ble_eq_true rfl)⟩) (by omega) hOD.ma rfl rfl hl.1 rfl (Nat.le_of_ble_eq_true rfl) dL_areProtests_249 ⟨(Nat.le_of_ble_eq_true rfl), (Nat.le_of_ble_eq_true rfl)⟩ (fun v7 F8 H locs hp hw => ?_)
        obtain ⟨e9, hO10, hf11⟩ := hp
        refine x_top e9 ?_
        have hT12 := (hf11 114 (by omega)).trans hT3
        replace hfr := hfr.tr hf11 (by omega) (by omega)
        refine lv_istore_n (lv' := [(3, .int (nI (A 3))), (2, .int ((-1))), (0, .ref (ad 0)), (1, .ref (ad 114))]) X.1 X.2.1 dL_areProtests_252 rfl hl (by decide) rfl (fun ls hl => ?_)
        have way253 : ∀ (k : Nat) (F4 : Nat → va_E) (f1 : Nat → Int32) (hk4 : A 3 ≤ k ∧ k ≤ 10) (hT4 : F4 114 = .inl (cI, 10, .inl f1)) (hfa : ∀ i, i < A 3 → f1 i = nI (pA A i 3)) (hfb : ∀ i, A 3 ≤ i → i < k → f1 i = nI 0) (hOE : OB ad cI cB cS F4 hs A A3) (hfr : Fr F F4 0 115) (hx : 10 ≤ k) (H : Heap) (locs : List Loc) (hw : HW D (Af ad N s.heap.size) ad N F4 s H locs) (ls : Array Slot) (hl : lv_has ls 7 [(3, .int (nI k)), (2, .int ((-1))), (0, .ref (ad 0)), (1, .ref (ad 114))]), W p l e { frames := 7, cells := 0, slots := 0, locals := 160 } s m [.ref (ad 0), .ref (ad 114)].toArray below meth c H locs 0 0 (MQ below (va_Qi (fun v F' => v = nI 1 ∧ OB ad cI cB cS F' hs A A3 ∧ (∃ f', F' 114 = .inl (cI, 10, .inl f') ∧ ∀ k, k < 10 → f' k = nI (tN A k)) ∧ Fr F F' 0 115) (fun F' t => PO D ad N F' t) (Af ad N s.heap.size)) [.ref (ad 0), .ref (ad 114)].toArray s 0 0 (Af ad N s.heap.size)) (F0 m 269 ls []) := by
          intro k F4 f1 hk4 hT4 hfa hfb hOE hfr hx H locs hw ls hl
          refine lv_aload_n X.1 X.2.1 dL_areProtests_269 rfl (lv_at hl 2 rfl) ?_
          refine lv_iconst (v := nI 5) X.1 X.2.1 dL_areProtests_270 (by decide) ?_
          refine x_callV X hK hw (k := 0) (As := [.int (nI 5)]) (rest := []) (w_count hI (by omega) hOE (nI 5) (fun g t z n hE => a_cou5 hJ hc hk hE z n)) (x_cwV yX7_count cX7_count 2 (some .int) 1 X q818 q819 q820 q1 q821 hd_X7_count ⟨(Nat.le_of_ble_eq_true rfl), (Nat.le_of_ble_eq_true rfl)⟩) (by omega) hOE.ma rfl rfl hl.1 rfl (Nat.le_of_ble_eq_true rfl) dL_areProtests_271 ⟨(Nat.le_of_ble_eq_true rfl), (Nat.le_of_ble_eq_true rfl)⟩ (fun v13 F14 H locs hp hw => ?_)
          obtain ⟨e15, hO16, hf17⟩ := hp
          refine x_top e15 ?_
          have hT18 := (hf17 114 (by omega)).trans hT4
          replace hfr := hfr.tr hf17 (by omega) (by omega)
          refine lv_bipush (v := nI 10) X.1 X.2.1 dL_areProtests_274 (by decide) ?_
          refine lv_icmp_gt (tgt := 283) X.1 X.2.1 dL_areProtests_276 (by decide) (fun c19 => ?_) (fun c19 => ?_)
          · exact absurd ((br_lt (by omega) (by omega)).mp c19) (by omega)
          · have n20 : ¬ 10 < (A 3) := fun z => c19 ((br_lt (by omega) (by omega)).mpr z)
            refine lv_iconst (v := nI 1) X.1 X.2.1 dL_areProtests_279 (by decide) ?_
            refine lv_goto (tgt := 284) X.1 X.2.1 dL_areProtests_280 (by decide) ?_
            exact x_iret X hr hlk hK hw (v := nI 1) (by first | rfl | exact nr_b _ | decide) (⟨rfl, hO16, ⟨f1, hT18, fun i hi => by unfold tN; split; (exact hfa i (by omega)); exact hfb i (by omega) (by omega)⟩, hfr⟩) dL_areProtests_284
        have loop253 : ∀ (fu : Nat) (k : Nat) (F4 : Nat → va_E) (f1 : Nat → Int32) (hfu : 10 ≤ k + fu) (hk4 : A 3 ≤ k ∧ k ≤ 10) (hT4 : F4 114 = .inl (cI, 10, .inl f1)) (hfa : ∀ i, i < A 3 → f1 i = nI (pA A i 3)) (hfb : ∀ i, A 3 ≤ i → i < k → f1 i = nI 0) (hOE : OB ad cI cB cS F4 hs A A3) (hfr : Fr F F4 0 115) (H : Heap) (locs : List Loc) (hw : HW D (Af ad N s.heap.size) ad N F4 s H locs) (ls : Array Slot) (hl : lv_has ls 7 [(3, .int (nI k)), (2, .int ((-1))), (0, .ref (ad 0)), (1, .ref (ad 114))]), W p l e { frames := 7, cells := 0, slots := 0, locals := 160 } s m [.ref (ad 0), .ref (ad 114)].toArray below meth c H locs 0 0 (MQ below (va_Qi (fun v F' => v = nI 1 ∧ OB ad cI cB cS F' hs A A3 ∧ (∃ f', F' 114 = .inl (cI, 10, .inl f') ∧ ∀ k, k < 10 → f' k = nI (tN A k)) ∧ Fr F F' 0 115) (fun F' t => PO D ad N F' t) (Af ad N s.heap.size)) [.ref (ad 0), .ref (ad 114)].toArray s 0 0 (Af ad N s.heap.size)) (F0 m 253 ls []) := by
          intro fu
          induction fu with
          | zero =>
            intro k F4 f1 hfu hk4 hT4 hfa hfb hOE hfr H locs hw ls hl
            refine lv_iload_n X.1 X.2.1 dL_areProtests_253 rfl (lv_at hl 0 rfl) ?_
            refine lv_bipush (v := nI 10) X.1 X.2.1 dL_areProtests_254 (by decide) ?_
            refine lv_icmp_ge (tgt := 269) X.1 X.2.1 dL_areProtests_256 (by decide) (fun c21 => ?_) (fun c21 => ?_)
            · have n22 := (nI_leI (by omega) (by omega)).mp c21
              exact way253 k F4 f1 hk4 hT4 hfa hfb hOE hfr n22 _ _ hw _ (lv_sub hl [0, 1, 2, 3] rfl)
            · exact absurd ((nI_leI (by omega) (by omega)).mpr (by omega)) c21
          | succ fu ih =>
            intro k F4 f1 hfu hk4 hT4 hfa hfb hOE hfr H locs hw ls hl
            refine lv_iload_n X.1 X.2.1 dL_areProtests_253 rfl (lv_at hl 0 rfl) ?_
            refine lv_bipush (v := nI 10) X.1 X.2.1 dL_areProtests_254 (by decide) ?_
            refine lv_icmp_ge (tgt := 269) X.1 X.2.1 dL_areProtests_256 (by decide) (fun c23 => ?_) (fun c23 => ?_)
            · have n24 := (nI_leI (by omega) (by omega)).mp c23
              exact way253 k F4 f1 hk4 hT4 hfa hfb hOE hfr n24 _ _ hw _ (lv_sub hl [0, 1, 2, 3] rfl)
            · have n25 : ¬ 10 ≤ k := fun z => c23 ((nI_leI (by omega) (by omega)).mpr z)
              refine lv_aload_n X.1 X.2.1 dL_areProtests_259 rfl (lv_at hl 3 rfl) ?_
              refine lv_iload_n X.1 X.2.1 dL_areProtests_260 rfl (lv_at hl 0 rfl) ?_
              refine lv_iconst (v := nI 0) X.1 X.2.1 dL_areProtests_261 (by decide) ?_
              refine x_iastN2 X hI hK hw (k := 114) (by omega) hT4 (i := nI k) (j := k) rfl (by omega) (by omega) dL_areProtests_262 (fun F26 H locs eF27 hw => ?_)
              have hT28 : F26 114 = .inl (cI, 10, .inl (upd f1 k (nI 0))) := by rw [eF27]; exact up_a
              have hr29 := fr_eq eF27 (Nat.le_refl _) (Nat.lt_succ_self _)
              have hO30 := hOE.cg hr29 (by omega)
              replace hfr := hfr.tr hr29 (by omega) (by omega)
              refine lv_iinc (v := nI (k + 1)) (lv' := [(3, .int (nI (k + 1))), (2, .int ((-1))), (0, .ref (ad 0)), (1, .ref (ad 114))]) X.1 X.2.1 dL_areProtests_263 hl (k := 0) rfl (by first | exact nI_1 _ | exact nI_add _ _ | rfl) (by decide) rfl (fun ls hl => ?_)
              refine lv_goto (tgt := 253) X.1 X.2.1 dL_areProtests_266 (by decide) ?_
              exact ih (k + 1) F26 (upd f1 k (nI 0)) (by omega) ⟨by omega, by omega⟩ hT28 (ar_c hk4.1 hfa) (ar_d hfb) hO30 hfr _ _ hw _ (lv_sub hl [0, 1, 2, 3] rfl)
        exact loop253 10 (A 3) F8 f1 (by omega) ⟨by omega, by omega⟩ hT12 (fun i hi => hfa i (by omega)) (fun i h1 h2 => absurd h1 (by omega)) hO10 hfr _ _ hw _ (lv_sub hl [0, 1, 2, 3] rfl)
      have loop170 : ∀ (fu : Nat) (k : Nat) (F3 : Nat → va_E) (f1 : Nat → Int32) (hfu : A 3 ≤ k + fu) (hk3 : k ≤ A 3) (hT3 : F3 114 = .inl (cI, 10, .inl f1)) (hfa : ∀ i, i < k → f1 i = nI (pA A i 3)) (hfb : ∀ i, k ≤ i → i < A 3 → f1 i = nI (T i)) (hOD : OB ad cI cB cS F3 hs A A3) (hfr : Fr F F3 0 115) (H : Heap) (locs : List Loc) (hw : HW D (Af ad N s.heap.size) ad N F3 s H locs) (ls : Array Slot) (hl : lv_has ls 7 [(3, .int (nI k)), (2, .int ((-1))), (0, .ref (ad 0)), (1, .ref (ad 114))]), W p l e { frames := 7, cells := 0, slots := 0, locals := 160 } s m [.ref (ad 0), .ref (ad 114)].toArray below meth c H locs 0 0 (MQ below (va_Qi (fun v F' => v = nI 1 ∧ OB ad cI cB cS F' hs A A3 ∧ (∃ f', F' 114 = .inl (cI, 10, .inl f') ∧ ∀ k, k < 10 → f' k = nI (tN A k)) ∧ Fr F F' 0 115) (fun F' t => PO D ad N F' t) (Af ad N s.heap.size)) [.ref (ad 0), .ref (ad 114)].toArray s 0 0 (Af ad N s.heap.size)) (F0 m 170 ls []) := by
        intro fu
        induction fu with
        | zero =>
          intro k F3 f1 hfu hk3 hT3 hfa hfb hOD hfr H locs hw ls hl
          refine lv_iload_n X.1 X.2.1 dL_areProtests_170 rfl (lv_at hl 0 rfl) ?_
          refine lv_aload_n X.1 X.2.1 dL_areProtests_171 rfl (lv_at hl 2 rfl) ?_
          refine lv_iconst (v := nI 5) X.1 X.2.1 dL_areProtests_172 (by decide) ?_
          refine x_callV X hK hw (k := 0) (As := [.int (nI 5)]) (rest := [.int (nI k)]) (w_count hI (by omega) hOD (nI 5) (fun g t z n hE => a_cou5 hJ hc hk hE z n)) (x_cwV yX7_count cX7_count 2 (some .int) 1 X q818 q819 q820 q1 q821 hd_X7_count ⟨(Nat.le_of_ble_eq_true rfl), (Nat.le_of_ble_eq_true rfl)⟩) (by omega) hOD.ma rfl rfl hl.1 rfl (Nat.le_of_ble_eq_true rfl) dL_areProtests_173 ⟨(Nat.le_of_ble_eq_true rfl), (Nat.le_of_ble_eq_true rfl)⟩ (fun v31 F32 H locs hp hw => ?_)
          obtain ⟨e33, hO34, hf35⟩ := hp
          refine x_top e33 ?_
          have hT36 := (hf35 114 (by omega)).trans hT3
          replace hfr := hfr.tr hf35 (by omega) (by omega)
          refine lv_icmp_ge (tgt := 247) X.1 X.2.1 dL_areProtests_176 (by decide) (fun c37 => ?_) (fun c37 => ?_)
          · have n38 := (nI_leI (by omega) (by omega)).mp c37
            exact way170 k F32 f1 hk3 hT36 hfa hfb hO34 hfr n38 _ _ hw _ (lv_sub hl [0, 1, 2, 3] rfl)
          · exact absurd ((nI_leI (by omega) (by omega)).mpr (by omega)) c37
        | succ fu ih =>
          intro k F3 f1 hfu hk3 hT3 hfa hfb hOD hfr H locs hw ls hl
          refine lv_iload_n X.1 X.2.1 dL_areProtests_170 rfl (lv_at hl 0 rfl) ?_
          refine lv_aload_n X.1 X.2.1 dL_areProtests_171 rfl (lv_at hl 2 rfl) ?_
          refine lv_iconst (v := nI 5) X.1 X.2.1 dL_areProtests_172 (by decide) ?_
          refine x_callV X hK hw (k := 0) (As := [.int (nI 5)]) (rest := [.int (nI k)]) (w_count hI (by omega) hOD (nI 5) (fun g t z n hE => a_cou5 hJ hc hk hE z n)) (x_cwV yX7_count cX7_count 2 (some .int) 1 X q818 q819 q820 q1 q821 hd_X7_count ⟨(Nat.le_of_ble_eq_true rfl), (Nat.le_of_ble_eq_true rfl)⟩) (by omega) hOD.ma rfl rfl hl.1 rfl (Nat.le_of_ble_eq_true rfl) dL_areProtests_173 ⟨(Nat.le_of_ble_eq_true rfl), (Nat.le_of_ble_eq_true rfl)⟩ (fun v39 F40 H locs hp hw => ?_)
          obtain ⟨e41, hO42, hf43⟩ := hp
          refine x_top e41 ?_
          have hT44 := (hf43 114 (by omega)).trans hT3
          replace hfr := hfr.tr hf43 (by omega) (by omega)
          refine lv_icmp_ge (tgt := 247) X.1 X.2.1 dL_areProtests_176 (by decide) (fun c45 => ?_) (fun c45 => ?_)
          · have n46 := (nI_leI (by omega) (by omega)).mp c45
            exact way170 k F40 f1 hk3 hT44 hfa hfb hO42 hfr n46 _ _ hw _ (lv_sub hl [0, 1, 2, 3] rfl)
          · have n47 : ¬ (A 3) ≤ k := fun z => c45 ((nI_leI (by omega) (by omega)).mpr z)
            obtain ⟨p1, p2, p3, p4, p5⟩ := hJ.pr (p := k) (by omega)
            have hle := hTle k (by omega)
            refine lv_aload_n X.1 X.2.1 dL_areProtests_179 rfl (lv_at hl 2 rfl) ?_
            refine lv_iload_n X.1 X.2.1 dL_areProtests_180 rfl (lv_at hl 0 rfl) ?_
            refine lv_iconst (v := nI 3) X.1 X.2.1 dL_areProtests_181 (by decide) ?_
            refine x_callV X hK hw (k := 0) (As := [.int (nI k), .int (nI 3)]) (rest := []) (w_protest hI (by omega) hO42 (nI k) (nI 3) (fun g t hE => a_pro3 hJ hc hk hE (by omega))) (x_cwV yX7_protest cX7_protest 3 (some .int) 2 X q813 q814 q815 q1 q816 hd_X7_protest ⟨(Nat.le_of_ble_eq_true rfl), (Nat.le_of_ble_eq_true rfl)⟩) (by omega) hO42.ma rfl rfl hl.1 rfl (Nat.le_of_ble_eq_true rfl) dL_areProtests_182 ⟨(Nat.le_of_ble_eq_true rfl), (Nat.le_of_ble_eq_true rfl)⟩ (fun v48 F49 H locs hp hw => ?_)
            obtain ⟨e50, hO51, hf52⟩ := hp
            refine x_top e50 ?_
            have hT53 := (hf52 114 (by omega)).trans hT44
            replace hfr := hfr.tr hf52 (by omega) (by omega)
            refine lv_aload_n X.1 X.2.1 dL_areProtests_185 rfl (lv_at hl 3 rfl) ?_
            refine lv_iload_n X.1 X.2.1 dL_areProtests_186 rfl (lv_at hl 0 rfl) ?_
            refine x_ialdN X hK hw (k := 114) (by omega) hT53 (i := nI k) (j := k) rfl (by omega) (by omega) dL_areProtests_187 ?_
            refine x_top (y := nI (T k)) (hfb k (Nat.le_refl _) (by omega)) ?_
            refine lv_icmp_lt (tgt := 230) X.1 X.2.1 dL_areProtests_188 (by decide) (fun c54 => ?_) (fun c54 => ?_)
            · exact absurd ((br_lt (by omega) (by omega)).mp c54) (by omega)
            · have n55 : ¬ (pA A k 3) < (T k) := fun z => c54 ((br_lt (by omega) (by omega)).mpr z)
              refine lv_aload_n X.1 X.2.1 dL_areProtests_191 rfl (lv_at hl 2 rfl) ?_
              refine lv_iload_n X.1 X.2.1 dL_areProtests_192 rfl (lv_at hl 0 rfl) ?_
              refine lv_iconst (v := nI 3) X.1 X.2.1 dL_areProtests_193 (by decide) ?_
              refine x_callV X hK hw (k := 0) (As := [.int (nI k), .int (nI 3)]) (rest := []) (w_protest hI (by omega) hO51 (nI k) (nI 3) (fun g t hE => a_pro3 hJ hc hk hE (by omega))) (x_cwV yX7_protest cX7_protest 3 (some .int) 2 X q813 q814 q815 q1 q816 hd_X7_protest ⟨(Nat.le_of_ble_eq_true rfl), (Nat.le_of_ble_eq_true rfl)⟩) (by omega) hO51.ma rfl rfl hl.1 rfl (Nat.le_of_ble_eq_true rfl) dL_areProtests_194 ⟨(Nat.le_of_ble_eq_true rfl), (Nat.le_of_ble_eq_true rfl)⟩ (fun v56 F57 H locs hp hw => ?_)
              obtain ⟨e58, hO59, hf60⟩ := hp
              refine x_top e58 ?_
              have hT61 := (hf60 114 (by omega)).trans hT53
              replace hfr := hfr.tr hf60 (by omega) (by omega)
              refine lv_iconst (v := nI 4) X.1 X.2.1 dL_areProtests_197 (by decide) ?_
              refine lv_icmp_gt (tgt := 230) X.1 X.2.1 dL_areProtests_198 (by decide) (fun c62 => ?_) (fun c62 => ?_)
              · exact absurd ((br_lt (by omega) (by omega)).mp c62) (by omega)
              · have n63 : ¬ 4 < (pA A k 3) := fun z => c62 ((br_lt (by omega) (by omega)).mpr z)
                refine lv_aload_n X.1 X.2.1 dL_areProtests_201 rfl (lv_at hl 2 rfl) ?_
                refine lv_iload_n X.1 X.2.1 dL_areProtests_202 rfl (lv_at hl 0 rfl) ?_
                refine lv_iconst (v := nI 0) X.1 X.2.1 dL_areProtests_203 (by decide) ?_
                refine x_callV X hK hw (k := 0) (As := [.int (nI k), .int (nI 0)]) (rest := []) (w_protest hI (by omega) hO59 (nI k) (nI 0) (fun g t hE => a_pro0 hJ hc hk hE (by omega))) (x_cwV yX7_protest cX7_protest 3 (some .int) 2 X q813 q814 q815 q1 q816 hd_X7_protest ⟨(Nat.le_of_ble_eq_true rfl), (Nat.le_of_ble_eq_true rfl)⟩) (by omega) hO59.ma rfl rfl hl.1 rfl (Nat.le_of_ble_eq_true rfl) dL_areProtests_204 ⟨(Nat.le_of_ble_eq_true rfl), (Nat.le_of_ble_eq_true rfl)⟩ (fun v64 F65 H locs hp hw => ?_)
                obtain ⟨e66, hO67, hf68⟩ := hp
                refine x_top e66 ?_
                have hT69 := (hf68 114 (by omega)).trans hT61
                replace hfr := hfr.tr hf68 (by omega) (by omega)
                refine lv_aload_n X.1 X.2.1 dL_areProtests_207 rfl (lv_at hl 2 rfl) ?_
                refine lv_iload_n X.1 X.2.1 dL_areProtests_208 rfl (lv_at hl 0 rfl) ?_
                refine lv_iconst (v := nI 1) X.1 X.2.1 dL_areProtests_209 (by decide) ?_
                refine x_callV X hK hw (k := 0) (As := [.int (nI k), .int (nI 1)]) (rest := [.int (nI (pA A k 0))]) (w_protest hI (by omega) hO67 (nI k) (nI 1) (fun g t hE => a_pro1 hJ hc hk hE (by omega))) (x_cwV yX7_protest cX7_protest 3 (some .int) 2 X q813 q814 q815 q1 q816 hd_X7_protest ⟨(Nat.le_of_ble_eq_true rfl), (Nat.le_of_ble_eq_true rfl)⟩) (by omega) hO67.ma rfl rfl hl.1 rfl (Nat.le_of_ble_eq_true rfl) dL_areProtests_210 ⟨(Nat.le_of_ble_eq_true rfl), (Nat.le_of_ble_eq_true rfl)⟩ (fun v70 F71 H locs hp hw => ?_)
                obtain ⟨e72, hO73, hf74⟩ := hp
                refine x_top e72 ?_
                have hT75 := (hf74 114 (by omega)).trans hT69
                replace hfr := hfr.tr hf74 (by omega) (by omega)
                refine lv_icmp_eq (tgt := 230) X.1 X.2.1 dL_areProtests_213 (by decide) (fun c76 => ?_) (fun c76 => ?_)
                · exact absurd ((nI_eq (by omega) (by omega)).mp c76) (by omega)
                · have n77 : ¬ (pA A k 0) = (pA A k 1) := fun z => c76 ((nI_eq (by omega) (by omega)).mpr z)
                  refine lv_aload_n X.1 X.2.1 dL_areProtests_216 rfl (lv_at hl 2 rfl) ?_
                  refine lv_iload_n X.1 X.2.1 dL_areProtests_217 rfl (lv_at hl 0 rfl) ?_
                  refine lv_iconst (v := nI 2) X.1 X.2.1 dL_areProtests_218 (by decide) ?_
                  refine x_callV X hK hw (k := 0) (As := [.int (nI k), .int (nI 2)]) (rest := []) (w_protest hI (by omega) hO73 (nI k) (nI 2) (fun g t hE => a_pro2 hJ hc hk hE (by omega))) (x_cwV yX7_protest cX7_protest 3 (some .int) 2 X q813 q814 q815 q1 q816 hd_X7_protest ⟨(Nat.le_of_ble_eq_true rfl), (Nat.le_of_ble_eq_true rfl)⟩) (by omega) hO73.ma rfl rfl hl.1 rfl (Nat.le_of_ble_eq_true rfl) dL_areProtests_219 ⟨(Nat.le_of_ble_eq_true rfl), (Nat.le_of_ble_eq_true rfl)⟩ (fun v78 F79 H locs hp hw => ?_)
                  obtain ⟨e80, hO81, hf82⟩ := hp
                  refine x_top e80 ?_
                  have hT83 := (hf82 114 (by omega)).trans hT75
                  replace hfr := hfr.tr hf82 (by omega) (by omega)
                  refine lv_aload_n X.1 X.2.1 dL_areProtests_222 rfl (lv_at hl 2 rfl) ?_
                  refine lv_iconst (v := nI 3) X.1 X.2.1 dL_areProtests_223 (by decide) ?_
                  refine x_callV X hK hw (k := 0) (As := [.int (nI 3)]) (rest := [.int (nI (pA A k 2))]) (w_count hI (by omega) hO81 (nI 3) (fun g t z n hE => a_cou3 hJ hc hk hE z n)) (x_cwV yX7_count cX7_count 2 (some .int) 1 X q818 q819 q820 q1 q821 hd_X7_count ⟨(Nat.le_of_ble_eq_true rfl), (Nat.le_of_ble_eq_true rfl)⟩) (by omega) hO81.ma rfl rfl hl.1 rfl (Nat.le_of_ble_eq_true rfl) dL_areProtests_224 ⟨(Nat.le_of_ble_eq_true rfl), (Nat.le_of_ble_eq_true rfl)⟩ (fun v84 F85 H locs hp hw => ?_)
                  obtain ⟨e86, hO87, hf88⟩ := hp
                  refine x_top e86 ?_
                  have hT89 := (hf88 114 (by omega)).trans hT83
                  replace hfr := hfr.tr hf88 (by omega) (by omega)
                  refine lv_icmp_le (tgt := 232) X.1 X.2.1 dL_areProtests_227 (by decide) (fun c90 => ?_) (fun c90 => ?_)
                  · have n91 := (nI_leI (by omega) (by omega)).mp c90
                    refine lv_aload_n X.1 X.2.1 dL_areProtests_232 rfl (lv_at hl 3 rfl) ?_
                    refine lv_iload_n X.1 X.2.1 dL_areProtests_233 rfl (lv_at hl 0 rfl) ?_
                    refine lv_aload_n X.1 X.2.1 dL_areProtests_234 rfl (lv_at hl 2 rfl) ?_
                    refine lv_iload_n X.1 X.2.1 dL_areProtests_235 rfl (lv_at hl 0 rfl) ?_
                    refine lv_iconst (v := nI 3) X.1 X.2.1 dL_areProtests_236 (by decide) ?_
                    refine x_callV X hK hw (k := 0) (As := [.int (nI k), .int (nI 3)]) (rest := [.int (nI k), .ref (ad 114)]) (w_protest hI (by omega) hO87 (nI k) (nI 3) (fun g t hE => a_pro3 hJ hc hk hE (by omega))) (x_cwV yX7_protest cX7_protest 3 (some .int) 2 X q813 q814 q815 q1 q816 hd_X7_protest ⟨(Nat.le_of_ble_eq_true rfl), (Nat.le_of_ble_eq_true rfl)⟩) (by omega) hO87.ma rfl rfl hl.1 rfl (Nat.le_of_ble_eq_true rfl) dL_areProtests_237 ⟨(Nat.le_of_ble_eq_true rfl), (Nat.le_of_ble_eq_true rfl)⟩ (fun v92 F93 H locs hp hw => ?_)
                    obtain ⟨e94, hO95, hf96⟩ := hp
                    refine x_top e94 ?_
                    have hT97 := (hf96 114 (by omega)).trans hT89
                    replace hfr := hfr.tr hf96 (by omega) (by omega)
                    refine x_iastN2 X hI hK hw (k := 114) (by omega) hT97 (i := nI k) (j := k) rfl (by omega) (by omega) dL_areProtests_240 (fun F98 H locs eF99 hw => ?_)
                    have hT100 : F98 114 = .inl (cI, 10, .inl (upd f1 k (nI (pA A k 3)))) := by rw [eF99]; exact up_a
                    have hr101 := fr_eq eF99 (Nat.le_refl _) (Nat.lt_succ_self _)
                    have hO102 := hO95.cg hr101 (by omega)
                    replace hfr := hfr.tr hr101 (by omega) (by omega)
                    refine lv_iinc (v := nI (k + 1)) (lv' := [(3, .int (nI (k + 1))), (2, .int ((-1))), (0, .ref (ad 0)), (1, .ref (ad 114))]) X.1 X.2.1 dL_areProtests_241 hl (k := 0) rfl (by first | exact nI_1 _ | exact nI_add _ _ | rfl) (by decide) rfl (fun ls hl => ?_)
                    refine lv_goto (tgt := 170) X.1 X.2.1 dL_areProtests_244 (by decide) ?_
                    exact ih (k + 1) F98 (upd f1 k (nI (pA A k 3))) (by omega) (by omega) hT100 (ar_a hfa) (ar_b hfb) hO102 hfr _ _ hw _ (lv_sub hl [0, 1, 2, 3] rfl)
                  · exact absurd ((nI_leI (by omega) (by omega)).mpr (by omega)) c90
      exact loop170 (A 3) 0 F1 f (by omega) (by omega) hT1 (fun i hi => absurd hi (by omega)) (fun i _ hi => hTv i (by omega)) hOB hfr _ _ hw _ (lv_sub hl [0, 1, 2, 3] rfl)
    have loop10 : ∀ (fu : Nat) (b : Nat) (F1 : Nat → va_E) (hfu : A 1 ≤ b + fu) (hb1 : b ≤ A 1) (hT1 : F1 114 = .inl (cI, 10, .inl f)) (hOB : OB ad cI cB cS F1 hs A A3) (hfr : Fr F F1 0 115) (H : Heap) (locs : List Loc) (hw : HW D (Af ad N s.heap.size) ad N F1 s H locs) (ls : Array Slot) (hl : lv_has ls 7 [(2, .int ((-1))), (3, .int (nI b)), (0, .ref (ad 0)), (1, .ref (ad 114))]), W p l e { frames := 7, cells := 0, slots := 0, locals := 160 } s m [.ref (ad 0), .ref (ad 114)].toArray below meth c H locs 0 0 (MQ below (va_Qi (fun v F' => v = nI 1 ∧ OB ad cI cB cS F' hs A A3 ∧ (∃ f', F' 114 = .inl (cI, 10, .inl f') ∧ ∀ k, k < 10 → f' k = nI (tN A k)) ∧ Fr F F' 0 115) (fun F' t => PO D ad N F' t) (Af ad N s.heap.size)) [.ref (ad 0), .ref (ad 114)].toArray s 0 0 (Af ad N s.heap.size)) (F0 m 10 ls []) := by
      intro fu
      induction fu with
      | zero =>
        intro b F1 hfu hb1 hT1 hOB hfr H locs hw ls hl
        refine lv_iload_n X.1 X.2.1 dL_areProtests_10 rfl (lv_at hl 1 rfl) ?_
        refine lv_aload_n X.1 X.2.1 dL_areProtests_11 rfl (lv_at hl 2 rfl) ?_
        refine lv_iconst (v := nI 0) X.1 X.2.1 dL_areProtests_12 (by decide) ?_
        refine x_callV X hK hw (k := 0) (As := [.int (nI 0)]) (rest := [.int (nI b)]) (w_count hI (by omega) hOB (nI 0) (fun g t z n hE => a_cou0 hJ hc hk hE z n)) (x_cwV yX7_count cX7_count 2 (some .int) 1 X q818 q819 q820 q1 q821 hd_X7_count ⟨(Nat.le_of_ble_eq_true rfl), (Nat.le_of_ble_eq_true rfl)⟩) (by omega) hOB.ma rfl rfl hl.1 rfl (Nat.le_of_ble_eq_true rfl) dL_areProtests_13 ⟨(Nat.le_of_ble_eq_true rfl), (Nat.le_of_ble_eq_true rfl)⟩ (fun v103 F104 H locs hp hw => ?_)
        obtain ⟨e105, hO106, hf107⟩ := hp
        refine x_top e105 ?_
        have hT108 := (hf107 114 (by omega)).trans hT1
        replace hfr := hfr.tr hf107 (by omega) (by omega)
        refine lv_icmp_ge (tgt := 168) X.1 X.2.1 dL_areProtests_16 (by decide) (fun c109 => ?_) (fun c109 => ?_)
        · have n110 := (nI_leI (by omega) (by omega)).mp c109
          exact way10 b F104 hb1 hT108 hO106 hfr trivial _ _ hw _ (lv_sub hl [0, 1, 2, 3] rfl)
        · exact absurd ((nI_leI (by omega) (by omega)).mpr (by omega)) c109
      | succ fu ih =>
        intro b F1 hfu hb1 hT1 hOB hfr H locs hw ls hl
        refine lv_iload_n X.1 X.2.1 dL_areProtests_10 rfl (lv_at hl 1 rfl) ?_
        refine lv_aload_n X.1 X.2.1 dL_areProtests_11 rfl (lv_at hl 2 rfl) ?_
        refine lv_iconst (v := nI 0) X.1 X.2.1 dL_areProtests_12 (by decide) ?_
        refine x_callV X hK hw (k := 0) (As := [.int (nI 0)]) (rest := [.int (nI b)]) (w_count hI (by omega) hOB (nI 0) (fun g t z n hE => a_cou0 hJ hc hk hE z n)) (x_cwV yX7_count cX7_count 2 (some .int) 1 X q818 q819 q820 q1 q821 hd_X7_count ⟨(Nat.le_of_ble_eq_true rfl), (Nat.le_of_ble_eq_true rfl)⟩) (by omega) hOB.ma rfl rfl hl.1 rfl (Nat.le_of_ble_eq_true rfl) dL_areProtests_13 ⟨(Nat.le_of_ble_eq_true rfl), (Nat.le_of_ble_eq_true rfl)⟩ (fun v111 F112 H locs hp hw => ?_)
        obtain ⟨e113, hO114, hf115⟩ := hp
        refine x_top e113 ?_
        have hT116 := (hf115 114 (by omega)).trans hT1
        replace hfr := hfr.tr hf115 (by omega) (by omega)
        refine lv_icmp_ge (tgt := 168) X.1 X.2.1 dL_areProtests_16 (by decide) (fun c117 => ?_) (fun c117 => ?_)
        · have n118 := (nI_leI (by omega) (by omega)).mp c117
          exact way10 b F112 hb1 hT116 hO114 hfr trivial _ _ hw _ (lv_sub hl [0, 1, 2, 3] rfl)
        · have n119 : ¬ (A 1) ≤ b := fun z => c117 ((nI_leI (by omega) (by omega)).mpr z)
          refine lv_iload_n X.1 X.2.1 dL_areProtests_19 rfl (lv_at hl 0 rfl) ?_
          refine lv_if_lt (tgt := 168) X.1 X.2.1 dL_areProtests_20 (by decide) (fun c120 => ?_) (fun c120 => ?_)
          · exact way10 b F112 hb1 hT116 hO114 hfr trivial _ _ hw _ (lv_sub hl [0, 1, 2, 3] rfl)
          · exact absurd (by decide) c120
    exact loop10 (A 1) 0 F2 (by omega) (by omega) hT6 hO4 hfr _ _ hw _ (lv_sub hl [1, 0, 2, 3] rfl)
  · refine lv_aload_n X.1 X.2.1 dL_areProtests_0 rfl (lv_at hl 0 rfl) ?_
    refine lv_iconst (v := nI 1) X.1 X.2.1 dL_areProtests_1 (by decide) ?_
    refine x_callV X hK hw (k := 0) (As := [.int (nI 1)]) (rest := []) (w_count hI (by omega) hO (nI 1) (fun g t z n hE => a_cou1 hJ hc hk hE z n)) (x_cwV yX7_count cX7_count 2 (some .int) 1 X q818 q819 q820 q1 q821 hd_X7_count ⟨(Nat.le_of_ble_eq_true rfl), (Nat.le_of_ble_eq_true rfl)⟩) (by omega) hO.ma rfl rfl hl.1 rfl (Nat.le_of_ble_eq_true rfl) dL_areProtests_2 ⟨(Nat.le_of_ble_eq_true rfl), (Nat.le_of_ble_eq_true rfl)⟩ (fun v121 F122 H locs hp hw => ?_)
    obtain ⟨e123, hO124, hf125⟩ := hp
    refine x_top e123 ?_
    have hT126 := (hf125 114 (by omega)).trans hT
    replace hfr := hfr.tr hf125 (by omega) (by omega)
    refine lv_iconst (v := nI 1) X.1 X.2.1 dL_areProtests_5 (by decide) ?_
    refine lv_isub X.1 X.2.1 dL_areProtests_6 ?_
    refine x_top (show nI (A 2) - nI 1 = nI r by rw [pk_sub (by omega)]; exact congrArg nI (by omega)) ?_
    refine lv_istore_n (lv' := [(2, .int (nI r)), (0, .ref (ad 0)), (1, .ref (ad 114))]) X.1 X.2.1 dL_areProtests_7 rfl hl (by decide) rfl (fun ls hl => ?_)
    refine lv_iconst (v := nI 0) X.1 X.2.1 dL_areProtests_8 (by decide) ?_
    refine lv_istore_n (lv' := [(3, .int (nI 0)), (2, .int (nI r)), (0, .ref (ad 0)), (1, .ref (ad 114))]) X.1 X.2.1 dL_areProtests_9 rfl hl (by decide) rfl (fun ls hl => ?_)
    have way10 : ∀ (b : Nat) (F1 : Nat → va_E) (hb1 : b ≤ A 1) (hT1 : F1 114 = .inl (cI, 10, .inl f)) (hOB : OB ad cI cB cS F1 hs A A3) (hfr : Fr F F1 0 115) (hx : True) (H : Heap) (locs : List Loc) (hw : HW D (Af ad N s.heap.size) ad N F1 s H locs) (ls : Array Slot) (hl : lv_has ls 7 [(2, .int (nI r)), (3, .int (nI b)), (0, .ref (ad 0)), (1, .ref (ad 114))]), W p l e { frames := 7, cells := 0, slots := 0, locals := 160 } s m [.ref (ad 0), .ref (ad 114)].toArray below meth c H locs 0 0 (MQ below (va_Qi (fun v F' => v = nI 1 ∧ OB ad cI cB cS F' hs A A3 ∧ (∃ f', F' 114 = .inl (cI, 10, .inl f') ∧ ∀ k, k < 10 → f' k = nI (tN A k)) ∧ Fr F F' 0 115) (fun F' t => PO D ad N F' t) (Af ad N s.heap.size)) [.ref (ad 0), .ref (ad 114)].toArray s 0 0 (Af ad N s.heap.size)) (F0 m 168 ls []) := by
      intro b F1 hb1 hT1 hOB hfr hx H locs hw ls hl
      refine lv_iconst (v := nI 0) X.1 X.2.1 dL_areProtests_168 (by decide) ?_
      refine lv_istore_n (lv' := [(3, .int (nI 0)), (2, .int (nI r)), (0, .ref (ad 0)), (1, .ref (ad 114))]) X.1 X.2.1 dL_areProtests_169 rfl hl (by decide) rfl (fun ls hl => ?_)
      have way170 : ∀ (k : Nat) (F3 : Nat → va_E) (f1 : Nat → Int32) (hk3 : k ≤ A 3) (hT3 : F3 114 = .inl (cI, 10, .inl f1)) (hfa : ∀ i, i < k → f1 i = nI (pA A i 3)) (hfb : ∀ i, k ≤ i → i < A 3 → f1 i = nI (T i)) (hOD : OB ad cI cB cS F3 hs A A3) (hfr : Fr F F3 0 115) (hx : A 3 ≤ k) (H : Heap) (locs : List Loc) (hw : HW D (Af ad N s.heap.size) ad N F3 s H locs) (ls : Array Slot) (hl : lv_has ls 7 [(3, .int (nI k)), (2, .int (nI r)), (0, .ref (ad 0)), (1, .ref (ad 114))]), W p l e { frames := 7, cells := 0, slots := 0, locals := 160 } s m [.ref (ad 0), .ref (ad 114)].toArray below meth c H locs 0 0 (MQ below (va_Qi (fun v F' => v = nI 1 ∧ OB ad cI cB cS F' hs A A3 ∧ (∃ f', F' 114 = .inl (cI, 10, .inl f') ∧ ∀ k, k < 10 → f' k = nI (tN A k)) ∧ Fr F F' 0 115) (fun F' t => PO D ad N F' t) (Af ad N s.heap.size)) [.ref (ad 0), .ref (ad 114)].toArray s 0 0 (Af ad N s.heap.size)) (F0 m 247 ls []) := by
        intro k F3 f1 hk3 hT3 hfa hfb hOD hfr hx H locs hw ls hl
        refine lv_aload_n X.1 X.2.1 dL_areProtests_247 rfl (lv_at hl 2 rfl) ?_
        refine lv_iconst (v := nI 5) X.1 X.2.1 dL_areProtests_248 (by decide) ?_
        refine x_callV X hK hw (k := 0) (As := [.int (nI 5)]) (rest := []) (w_count hI (by omega) hOD (nI 5) (fun g t z n hE => a_cou5 hJ hc hk hE z n)) (x_cwV yX7_count cX7_count 2 (some .int) 1 X q818 q819 q820 q1 q821 hd_X7_count ⟨(Nat.le_of_ble_eq_true rfl), (Nat.le_of_ble_eq_true rfl)⟩) (by omega) hOD.ma rfl rfl hl.1 rfl (Nat.le_of_ble_eq_true rfl) dL_areProtests_249 ⟨(Nat.le_of_ble_eq_true rfl), (Nat.le_of_ble_eq_true rfl)⟩ (fun v127 F128 H locs hp hw => ?_)
        obtain ⟨e129, hO130, hf131⟩ := hp
        refine x_top e129 ?_
        have hT132 := (hf131 114 (by omega)).trans hT3
        replace hfr := hfr.tr hf131 (by omega) (by omega)
        refine lv_istore_n (lv' := [(3, .int (nI (A 3))), (2, .int (nI r)), (0, .ref (ad 0)), (1, .ref (ad 114))]) X.1 X.2.1 dL_areProtests_252 rfl hl (by decide) rfl (fun ls hl => ?_)
        have way253 : ∀ (k : Nat) (F4 : Nat → va_E) (f1 : Nat → Int32) (hk4 : A 3 ≤ k ∧ k ≤ 10) (hT4 : F4 114 = .inl (cI, 10, .inl f1)) (hfa : ∀ i, i < A 3 → f1 i = nI (pA A i 3)) (hfb : ∀ i, A 3 ≤ i → i < k → f1 i = nI 0) (hOE : OB ad cI cB cS F4 hs A A3) (hfr : Fr F F4 0 115) (hx : 10 ≤ k) (H : Heap) (locs : List Loc) (hw : HW D (Af ad N s.heap.size) ad N F4 s H locs) (ls : Array Slot) (hl : lv_has ls 7 [(3, .int (nI k)), (2, .int (nI r)), (0, .ref (ad 0)), (1, .ref (ad 114))]), W p l e { frames := 7, cells := 0, slots := 0, locals := 160 } s m [.ref (ad 0), .ref (ad 114)].toArray below meth c H locs 0 0 (MQ below (va_Qi (fun v F' => v = nI 1 ∧ OB ad cI cB cS F' hs A A3 ∧ (∃ f', F' 114 = .inl (cI, 10, .inl f') ∧ ∀ k, k < 10 → f' k = nI (tN A k)) ∧ Fr F F' 0 115) (fun F' t => PO D ad N F' t) (Af ad N s.heap.size)) [.ref (ad 0), .ref (ad 114)].toArray s 0 0 (Af ad N s.heap.size)) (F0 m 269 ls []) := by
          intro k F4 f1 hk4 hT4 hfa hfb hOE hfr hx H locs hw ls hl
          refine lv_aload_n X.1 X.2.1 dL_areProtests_269 rfl (lv_at hl 2 rfl) ?_
          refine lv_iconst (v := nI 5) X.1 X.2.1 dL_areProtests_270 (by decide) ?_
          refine x_callV X hK hw (k := 0) (As := [.int (nI 5)]) (rest := []) (w_count hI (by omega) hOE (nI 5) (fun g t z n hE => a_cou5 hJ hc hk hE z n)) (x_cwV yX7_count cX7_count 2 (some .int) 1 X q818 q819 q820 q1 q821 hd_X7_count ⟨(Nat.le_of_ble_eq_true rfl), (Nat.le_of_ble_eq_true rfl)⟩) (by omega) hOE.ma rfl rfl hl.1 rfl (Nat.le_of_ble_eq_true rfl) dL_areProtests_271 ⟨(Nat.le_of_ble_eq_true rfl), (Nat.le_of_ble_eq_true rfl)⟩ (fun v133 F134 H locs hp hw => ?_)
          obtain ⟨e135, hO136, hf137⟩ := hp
          refine x_top e135 ?_
          have hT138 := (hf137 114 (by omega)).trans hT4
          replace hfr := hfr.tr hf137 (by omega) (by omega)
          refine lv_bipush (v := nI 10) X.1 X.2.1 dL_areProtests_274 (by decide) ?_
          refine lv_icmp_gt (tgt := 283) X.1 X.2.1 dL_areProtests_276 (by decide) (fun c139 => ?_) (fun c139 => ?_)
          · exact absurd ((br_lt (by omega) (by omega)).mp c139) (by omega)
          · have n140 : ¬ 10 < (A 3) := fun z => c139 ((br_lt (by omega) (by omega)).mpr z)
            refine lv_iconst (v := nI 1) X.1 X.2.1 dL_areProtests_279 (by decide) ?_
            refine lv_goto (tgt := 284) X.1 X.2.1 dL_areProtests_280 (by decide) ?_
            exact x_iret X hr hlk hK hw (v := nI 1) (by first | rfl | exact nr_b _ | decide) (⟨rfl, hO136, ⟨f1, hT138, fun i hi => by unfold tN; split; (exact hfa i (by omega)); exact hfb i (by omega) (by omega)⟩, hfr⟩) dL_areProtests_284
        have loop253 : ∀ (fu : Nat) (k : Nat) (F4 : Nat → va_E) (f1 : Nat → Int32) (hfu : 10 ≤ k + fu) (hk4 : A 3 ≤ k ∧ k ≤ 10) (hT4 : F4 114 = .inl (cI, 10, .inl f1)) (hfa : ∀ i, i < A 3 → f1 i = nI (pA A i 3)) (hfb : ∀ i, A 3 ≤ i → i < k → f1 i = nI 0) (hOE : OB ad cI cB cS F4 hs A A3) (hfr : Fr F F4 0 115) (H : Heap) (locs : List Loc) (hw : HW D (Af ad N s.heap.size) ad N F4 s H locs) (ls : Array Slot) (hl : lv_has ls 7 [(3, .int (nI k)), (2, .int (nI r)), (0, .ref (ad 0)), (1, .ref (ad 114))]), W p l e { frames := 7, cells := 0, slots := 0, locals := 160 } s m [.ref (ad 0), .ref (ad 114)].toArray below meth c H locs 0 0 (MQ below (va_Qi (fun v F' => v = nI 1 ∧ OB ad cI cB cS F' hs A A3 ∧ (∃ f', F' 114 = .inl (cI, 10, .inl f') ∧ ∀ k, k < 10 → f' k = nI (tN A k)) ∧ Fr F F' 0 115) (fun F' t => PO D ad N F' t) (Af ad N s.heap.size)) [.ref (ad 0), .ref (ad 114)].toArray s 0 0 (Af ad N s.heap.size)) (F0 m 253 ls []) := by
          intro fu
          induction fu with
          | zero =>
            intro k F4 f1 hfu hk4 hT4 hfa hfb hOE hfr H locs hw ls hl
            refine lv_iload_n X.1 X.2.1 dL_areProtests_253 rfl (lv_at hl 0 rfl) ?_
            refine lv_bipush (v := nI 10) X.1 X.2.1 dL_areProtests_254 (by decide) ?_
            refine lv_icmp_ge (tgt := 269) X.1 X.2.1 dL_areProtests_256 (by decide) (fun c141 => ?_) (fun c141 => ?_)
            · have n142 := (nI_leI (by omega) (by omega)).mp c141
              exact way253 k F4 f1 hk4 hT4 hfa hfb hOE hfr n142 _ _ hw _ (lv_sub hl [0, 1, 2, 3] rfl)
            · exact absurd ((nI_leI (by omega) (by omega)).mpr (by omega)) c141
          | succ fu ih =>
            intro k F4 f1 hfu hk4 hT4 hfa hfb hOE hfr H locs hw ls hl
            refine lv_iload_n X.1 X.2.1 dL_areProtests_253 rfl (lv_at hl 0 rfl) ?_
            refine lv_bipush (v := nI 10) X.1 X.2.1 dL_areProtests_254 (by decide) ?_
            refine lv_icmp_ge (tgt := 269) X.1 X.2.1 dL_areProtests_256 (by decide) (fun c143 => ?_) (fun c143 => ?_)
            · have n144 := (nI_leI (by omega) (by omega)).mp c143
              exact way253 k F4 f1 hk4 hT4 hfa hfb hOE hfr n144 _ _ hw _ (lv_sub hl [0, 1, 2, 3] rfl)
            · have n145 : ¬ 10 ≤ k := fun z => c143 ((nI_leI (by omega) (by omega)).mpr z)
              refine lv_aload_n X.1 X.2.1 dL_areProtests_259 rfl (lv_at hl 3 rfl) ?_
              refine lv_iload_n X.1 X.2.1 dL_areProtests_260 rfl (lv_at hl 0 rfl) ?_
              refine lv_iconst (v := nI 0) X.1 X.2.1 dL_areProtests_261 (by decide) ?_
              refine x_iastN2 X hI hK hw (k := 114) (by omega) hT4 (i := nI k) (j := k) rfl (by omega) (by omega) dL_areProtests_262 (fun F146 H locs eF147 hw => ?_)
              have hT148 : F146 114 = .inl (cI, 10, .inl (upd f1 k (nI 0))) := by rw [eF147]; exact up_a
              have hr149 := fr_eq eF147 (Nat.le_refl _) (Nat.lt_succ_self _)
              have hO150 := hOE.cg hr149 (by omega)
              replace hfr := hfr.tr hr149 (by omega) (by omega)
              refine lv_iinc (v := nI (k + 1)) (lv' := [(3, .int (nI (k + 1))), (2, .int (nI r)), (0, .ref (ad 0)), (1, .ref (ad 114))]) X.1 X.2.1 dL_areProtests_263 hl (k := 0) rfl (by first | exact nI_1 _ | exact nI_add _ _ | rfl) (by decide) rfl (fun ls hl => ?_)
              refine lv_goto (tgt := 253) X.1 X.2.1 dL_areProtests_266 (by decide) ?_
              exact ih (k + 1) F146 (upd f1 k (nI 0)) (by omega) ⟨by omega, by omega⟩ hT148 (ar_c hk4.1 hfa) (ar_d hfb) hO150 hfr _ _ hw _ (lv_sub hl [0, 1, 2, 3] rfl)
        exact loop253 10 (A 3) F128 f1 (by omega) ⟨by omega, by omega⟩ hT132 (fun i hi => hfa i (by omega)) (fun i h1 h2 => absurd h1 (by omega)) hO130 hfr _ _ hw _ (lv_sub hl [0, 1, 2, 3] rfl)
      have loop170 : ∀ (fu : Nat) (k : Nat) (F3 : Nat → va_E) (f1 : Nat → Int32) (hfu : A 3 ≤ k + fu) (hk3 : k ≤ A 3) (hT3 : F3 114 = .inl (cI, 10, .inl f1)) (hfa : ∀ i, i < k → f1 i = nI (pA A i 3)) (hfb : ∀ i, k ≤ i → i < A 3 → f1 i = nI (T i)) (hOD : OB ad cI cB cS F3 hs A A3) (hfr : Fr F F3 0 115) (H : Heap) (locs : List Loc) (hw : HW D (Af ad N s.heap.size) ad N F3 s H locs) (ls : Array Slot) (hl : lv_has ls 7 [(3, .int (nI k)), (2, .int (nI r)), (0, .ref (ad 0)), (1, .ref (ad 114))]), W p l e { frames := 7, cells := 0, slots := 0, locals := 160 } s m [.ref (ad 0), .ref (ad 114)].toArray below meth c H locs 0 0 (MQ below (va_Qi (fun v F' => v = nI 1 ∧ OB ad cI cB cS F' hs A A3 ∧ (∃ f', F' 114 = .inl (cI, 10, .inl f') ∧ ∀ k, k < 10 → f' k = nI (tN A k)) ∧ Fr F F' 0 115) (fun F' t => PO D ad N F' t) (Af ad N s.heap.size)) [.ref (ad 0), .ref (ad 114)].toArray s 0 0 (Af ad N s.heap.size)) (F0 m 170 ls []) := by
        intro fu
        induction fu with
        | zero =>
          intro k F3 f1 hfu hk3 hT3 hfa hfb hOD hfr H locs hw ls hl
          refine lv_iload_n X.1 X.2.1 dL_areProtests_170 rfl (lv_at hl 0 rfl) ?_
          refine lv_aload_n X.1 X.2.1 dL_areProtests_171 rfl (lv_at hl 2 rfl) ?_
          refine lv_iconst (v := nI 5) X.1 X.2.1 dL_areProtests_172 (by decide) ?_
          refine x_callV X hK hw (k := 0) (As := [.int (nI 5)]) (rest := [.int (nI k)]) (w_count hI (by omega) hOD (nI 5) (fun g t z n hE => a_cou5 hJ hc hk hE z n)) (x_cwV yX7_count cX7_count 2 (some .int) 1 X q818 q819 q820 q1 q821 hd_X7_count ⟨(Nat.le_of_ble_eq_true rfl), (Nat.le_of_ble_eq_true rfl)⟩) (by omega) hOD.ma rfl rfl hl.1 rfl (Nat.le_of_ble_eq_true rfl) dL_areProtests_173 ⟨(Nat.le_of_ble_eq_true rfl), (Nat.le_of_ble_eq_true rfl)⟩ (fun v151 F152 H locs hp hw => ?_)
          obtain ⟨e153, hO154, hf155⟩ := hp
          refine x_top e153 ?_
          have hT156 := (hf155 114 (by omega)).trans hT3
          replace hfr := hfr.tr hf155 (by omega) (by omega)
          refine lv_icmp_ge (tgt := 247) X.1 X.2.1 dL_areProtests_176 (by decide) (fun c157 => ?_) (fun c157 => ?_)
          · have n158 := (nI_leI (by omega) (by omega)).mp c157
            exact way170 k F152 f1 hk3 hT156 hfa hfb hO154 hfr n158 _ _ hw _ (lv_sub hl [0, 1, 2, 3] rfl)
          · exact absurd ((nI_leI (by omega) (by omega)).mpr (by omega)) c157
        | succ fu ih =>
          intro k F3 f1 hfu hk3 hT3 hfa hfb hOD hfr H locs hw ls hl
          refine lv_iload_n X.1 X.2.1 dL_areProtests_170 rfl (lv_at hl 0 rfl) ?_
          refine lv_aload_n X.1 X.2.1 dL_areProtests_171 rfl (lv_at hl 2 rfl) ?_
          refine lv_iconst (v := nI 5) X.1 X.2.1 dL_areProtests_172 (by decide) ?_
          refine x_callV X hK hw (k := 0) (As := [.int (nI 5)]) (rest := [.int (nI k)]) (w_count hI (by omega) hOD (nI 5) (fun g t z n hE => a_cou5 hJ hc hk hE z n)) (x_cwV yX7_count cX7_count 2 (some .int) 1 X q818 q819 q820 q1 q821 hd_X7_count ⟨(Nat.le_of_ble_eq_true rfl), (Nat.le_of_ble_eq_true rfl)⟩) (by omega) hOD.ma rfl rfl hl.1 rfl (Nat.le_of_ble_eq_true rfl) dL_areProtests_173 ⟨(Nat.le_of_ble_eq_true rfl), (Nat.le_of_ble_eq_true rfl)⟩ (fun v159 F160 H locs hp hw => ?_)
          obtain ⟨e161, hO162, hf163⟩ := hp
          refine x_top e161 ?_
          have hT164 := (hf163 114 (by omega)).trans hT3
          replace hfr := hfr.tr hf163 (by omega) (by omega)
          refine lv_icmp_ge (tgt := 247) X.1 X.2.1 dL_areProtests_176 (by decide) (fun c165 => ?_) (fun c165 => ?_)
          · have n166 := (nI_leI (by omega) (by omega)).mp c165
            exact way170 k F160 f1 hk3 hT164 hfa hfb hO162 hfr n166 _ _ hw _ (lv_sub hl [0, 1, 2, 3] rfl)
          · have n167 : ¬ (A 3) ≤ k := fun z => c165 ((nI_leI (by omega) (by omega)).mpr z)
            obtain ⟨p1, p2, p3, p4, p5⟩ := hJ.pr (p := k) (by omega)
            have hle := hTle k (by omega)
            refine lv_aload_n X.1 X.2.1 dL_areProtests_179 rfl (lv_at hl 2 rfl) ?_
            refine lv_iload_n X.1 X.2.1 dL_areProtests_180 rfl (lv_at hl 0 rfl) ?_
            refine lv_iconst (v := nI 3) X.1 X.2.1 dL_areProtests_181 (by decide) ?_
            refine x_callV X hK hw (k := 0) (As := [.int (nI k), .int (nI 3)]) (rest := []) (w_protest hI (by omega) hO162 (nI k) (nI 3) (fun g t hE => a_pro3 hJ hc hk hE (by omega))) (x_cwV yX7_protest cX7_protest 3 (some .int) 2 X q813 q814 q815 q1 q816 hd_X7_protest ⟨(Nat.le_of_ble_eq_true rfl), (Nat.le_of_ble_eq_true rfl)⟩) (by omega) hO162.ma rfl rfl hl.1 rfl (Nat.le_of_ble_eq_true rfl) dL_areProtests_182 ⟨(Nat.le_of_ble_eq_true rfl), (Nat.le_of_ble_eq_true rfl)⟩ (fun v168 F169 H locs hp hw => ?_)
            obtain ⟨e170, hO171, hf172⟩ := hp
            refine x_top e170 ?_
            have hT173 := (hf172 114 (by omega)).trans hT164
            replace hfr := hfr.tr hf172 (by omega) (by omega)
            refine lv_aload_n X.1 X.2.1 dL_areProtests_185 rfl (lv_at hl 3 rfl) ?_
            refine lv_iload_n X.1 X.2.1 dL_areProtests_186 rfl (lv_at hl 0 rfl) ?_
            refine x_ialdN X hK hw (k := 114) (by omega) hT173 (i := nI k) (j := k) rfl (by omega) (by omega) dL_areProtests_187 ?_
            refine x_top (y := nI (T k)) (hfb k (Nat.le_refl _) (by omega)) ?_
            refine lv_icmp_lt (tgt := 230) X.1 X.2.1 dL_areProtests_188 (by decide) (fun c174 => ?_) (fun c174 => ?_)
            · exact absurd ((br_lt (by omega) (by omega)).mp c174) (by omega)
            · have n175 : ¬ (pA A k 3) < (T k) := fun z => c174 ((br_lt (by omega) (by omega)).mpr z)
              refine lv_aload_n X.1 X.2.1 dL_areProtests_191 rfl (lv_at hl 2 rfl) ?_
              refine lv_iload_n X.1 X.2.1 dL_areProtests_192 rfl (lv_at hl 0 rfl) ?_
              refine lv_iconst (v := nI 3) X.1 X.2.1 dL_areProtests_193 (by decide) ?_
              refine x_callV X hK hw (k := 0) (As := [.int (nI k), .int (nI 3)]) (rest := []) (w_protest hI (by omega) hO171 (nI k) (nI 3) (fun g t hE => a_pro3 hJ hc hk hE (by omega))) (x_cwV yX7_protest cX7_protest 3 (some .int) 2 X q813 q814 q815 q1 q816 hd_X7_protest ⟨(Nat.le_of_ble_eq_true rfl), (Nat.le_of_ble_eq_true rfl)⟩) (by omega) hO171.ma rfl rfl hl.1 rfl (Nat.le_of_ble_eq_true rfl) dL_areProtests_194 ⟨(Nat.le_of_ble_eq_true rfl), (Nat.le_of_ble_eq_true rfl)⟩ (fun v176 F177 H locs hp hw => ?_)
              obtain ⟨e178, hO179, hf180⟩ := hp
              refine x_top e178 ?_
              have hT181 := (hf180 114 (by omega)).trans hT173
              replace hfr := hfr.tr hf180 (by omega) (by omega)
              refine lv_iconst (v := nI 4) X.1 X.2.1 dL_areProtests_197 (by decide) ?_
              refine lv_icmp_gt (tgt := 230) X.1 X.2.1 dL_areProtests_198 (by decide) (fun c182 => ?_) (fun c182 => ?_)
              · exact absurd ((br_lt (by omega) (by omega)).mp c182) (by omega)
              · have n183 : ¬ 4 < (pA A k 3) := fun z => c182 ((br_lt (by omega) (by omega)).mpr z)
                refine lv_aload_n X.1 X.2.1 dL_areProtests_201 rfl (lv_at hl 2 rfl) ?_
                refine lv_iload_n X.1 X.2.1 dL_areProtests_202 rfl (lv_at hl 0 rfl) ?_
                refine lv_iconst (v := nI 0) X.1 X.2.1 dL_areProtests_203 (by decide) ?_
                refine x_callV X hK hw (k := 0) (As := [.int (nI k), .int (nI 0)]) (rest := []) (w_protest hI (by omega) hO179 (nI k) (nI 0) (fun g t hE => a_pro0 hJ hc hk hE (by omega))) (x_cwV yX7_protest cX7_protest 3 (some .int) 2 X q813 q814 q815 q1 q816 hd_X7_protest ⟨(Nat.le_of_ble_eq_true rfl), (Nat.le_of_ble_eq_true rfl)⟩) (by omega) hO179.ma rfl rfl hl.1 rfl (Nat.le_of_ble_eq_true rfl) dL_areProtests_204 ⟨(Nat.le_of_ble_eq_true rfl), (Nat.le_of_ble_eq_true rfl)⟩ (fun v184 F185 H locs hp hw => ?_)
                obtain ⟨e186, hO187, hf188⟩ := hp
                refine x_top e186 ?_
                have hT189 := (hf188 114 (by omega)).trans hT181
                replace hfr := hfr.tr hf188 (by omega) (by omega)
                refine lv_aload_n X.1 X.2.1 dL_areProtests_207 rfl (lv_at hl 2 rfl) ?_
                refine lv_iload_n X.1 X.2.1 dL_areProtests_208 rfl (lv_at hl 0 rfl) ?_
                refine lv_iconst (v := nI 1) X.1 X.2.1 dL_areProtests_209 (by decide) ?_
                refine x_callV X hK hw (k := 0) (As := [.int (nI k), .int (nI 1)]) (rest := [.int (nI (pA A k 0))]) (w_protest hI (by omega) hO187 (nI k) (nI 1) (fun g t hE => a_pro1 hJ hc hk hE (by omega))) (x_cwV yX7_protest cX7_protest 3 (some .int) 2 X q813 q814 q815 q1 q816 hd_X7_protest ⟨(Nat.le_of_ble_eq_true rfl), (Nat.le_of_ble_eq_true rfl)⟩) (by omega) hO187.ma rfl rfl hl.1 rfl (Nat.le_of_ble_eq_true rfl) dL_areProtests_210 ⟨(Nat.le_of_ble_eq_true rfl), (Nat.le_of_ble_eq_true rfl)⟩ (fun v190 F191 H locs hp hw => ?_)
                obtain ⟨e192, hO193, hf194⟩ := hp
                refine x_top e192 ?_
                have hT195 := (hf194 114 (by omega)).trans hT189
                replace hfr := hfr.tr hf194 (by omega) (by omega)
                refine lv_icmp_eq (tgt := 230) X.1 X.2.1 dL_areProtests_213 (by decide) (fun c196 => ?_) (fun c196 => ?_)
                · exact absurd ((nI_eq (by omega) (by omega)).mp c196) (by omega)
                · have n197 : ¬ (pA A k 0) = (pA A k 1) := fun z => c196 ((nI_eq (by omega) (by omega)).mpr z)
                  refine lv_aload_n X.1 X.2.1 dL_areProtests_216 rfl (lv_at hl 2 rfl) ?_
                  refine lv_iload_n X.1 X.2.1 dL_areProtests_217 rfl (lv_at hl 0 rfl) ?_
                  refine lv_iconst (v := nI 2) X.1 X.2.1 dL_areProtests_218 (by decide) ?_
                  refine x_callV X hK hw (k := 0) (As := [.int (nI k), .int (nI 2)]) (rest := []) (w_protest hI (by omega) hO193 (nI k) (nI 2) (fun g t hE => a_pro2 hJ hc hk hE (by omega))) (x_cwV yX7_protest cX7_protest 3 (some .int) 2 X q813 q814 q815 q1 q816 hd_X7_protest ⟨(Nat.le_of_ble_eq_true rfl), (Nat.le_of_ble_eq_true rfl)⟩) (by omega) hO193.ma rfl rfl hl.1 rfl (Nat.le_of_ble_eq_true rfl) dL_areProtests_219 ⟨(Nat.le_of_ble_eq_true rfl), (Nat.le_of_ble_eq_true rfl)⟩ (fun v198 F199 H locs hp hw => ?_)
                  obtain ⟨e200, hO201, hf202⟩ := hp
                  refine x_top e200 ?_
                  have hT203 := (hf202 114 (by omega)).trans hT195
                  replace hfr := hfr.tr hf202 (by omega) (by omega)
                  refine lv_aload_n X.1 X.2.1 dL_areProtests_222 rfl (lv_at hl 2 rfl) ?_
                  refine lv_iconst (v := nI 3) X.1 X.2.1 dL_areProtests_223 (by decide) ?_
                  refine x_callV X hK hw (k := 0) (As := [.int (nI 3)]) (rest := [.int (nI (pA A k 2))]) (w_count hI (by omega) hO201 (nI 3) (fun g t z n hE => a_cou3 hJ hc hk hE z n)) (x_cwV yX7_count cX7_count 2 (some .int) 1 X q818 q819 q820 q1 q821 hd_X7_count ⟨(Nat.le_of_ble_eq_true rfl), (Nat.le_of_ble_eq_true rfl)⟩) (by omega) hO201.ma rfl rfl hl.1 rfl (Nat.le_of_ble_eq_true rfl) dL_areProtests_224 ⟨(Nat.le_of_ble_eq_true rfl), (Nat.le_of_ble_eq_true rfl)⟩ (fun v204 F205 H locs hp hw => ?_)
                  obtain ⟨e206, hO207, hf208⟩ := hp
                  refine x_top e206 ?_
                  have hT209 := (hf208 114 (by omega)).trans hT203
                  replace hfr := hfr.tr hf208 (by omega) (by omega)
                  refine lv_icmp_le (tgt := 232) X.1 X.2.1 dL_areProtests_227 (by decide) (fun c210 => ?_) (fun c210 => ?_)
                  · have n211 := (nI_leI (by omega) (by omega)).mp c210
                    refine lv_aload_n X.1 X.2.1 dL_areProtests_232 rfl (lv_at hl 3 rfl) ?_
                    refine lv_iload_n X.1 X.2.1 dL_areProtests_233 rfl (lv_at hl 0 rfl) ?_
                    refine lv_aload_n X.1 X.2.1 dL_areProtests_234 rfl (lv_at hl 2 rfl) ?_
                    refine lv_iload_n X.1 X.2.1 dL_areProtests_235 rfl (lv_at hl 0 rfl) ?_
                    refine lv_iconst (v := nI 3) X.1 X.2.1 dL_areProtests_236 (by decide) ?_
                    refine x_callV X hK hw (k := 0) (As := [.int (nI k), .int (nI 3)]) (rest := [.int (nI k), .ref (ad 114)]) (w_protest hI (by omega) hO207 (nI k) (nI 3) (fun g t hE => a_pro3 hJ hc hk hE (by omega))) (x_cwV yX7_protest cX7_protest 3 (some .int) 2 X q813 q814 q815 q1 q816 hd_X7_protest ⟨(Nat.le_of_ble_eq_true rfl), (Nat.le_of_ble_eq_true rfl)⟩) (by omega) hO207.ma rfl rfl hl.1 rfl (Nat.le_of_ble_eq_true rfl) dL_areProtests_237 ⟨(Nat.le_of_ble_eq_true rfl), (Nat.le_of_ble_eq_true rfl)⟩ (fun v212 F213 H locs hp hw => ?_)
                    obtain ⟨e214, hO215, hf216⟩ := hp
                    refine x_top e214 ?_
                    have hT217 := (hf216 114 (by omega)).trans hT209
                    replace hfr := hfr.tr hf216 (by omega) (by omega)
                    refine x_iastN2 X hI hK hw (k := 114) (by omega) hT217 (i := nI k) (j := k) rfl (by omega) (by omega) dL_areProtests_240 (fun F218 H locs eF219 hw => ?_)
                    have hT220 : F218 114 = .inl (cI, 10, .inl (upd f1 k (nI (pA A k 3)))) := by rw [eF219]; exact up_a
                    have hr221 := fr_eq eF219 (Nat.le_refl _) (Nat.lt_succ_self _)
                    have hO222 := hO215.cg hr221 (by omega)
                    replace hfr := hfr.tr hr221 (by omega) (by omega)
                    refine lv_iinc (v := nI (k + 1)) (lv' := [(3, .int (nI (k + 1))), (2, .int (nI r)), (0, .ref (ad 0)), (1, .ref (ad 114))]) X.1 X.2.1 dL_areProtests_241 hl (k := 0) rfl (by first | exact nI_1 _ | exact nI_add _ _ | rfl) (by decide) rfl (fun ls hl => ?_)
                    refine lv_goto (tgt := 170) X.1 X.2.1 dL_areProtests_244 (by decide) ?_
                    exact ih (k + 1) F218 (upd f1 k (nI (pA A k 3))) (by omega) (by omega) hT220 (ar_a hfa) (ar_b hfb) hO222 hfr _ _ hw _ (lv_sub hl [0, 1, 2, 3] rfl)
                  · exact absurd ((nI_leI (by omega) (by omega)).mpr (by omega)) c210
      exact loop170 (A 3) 0 F1 f (by omega) (by omega) hT1 (fun i hi => absurd hi (by omega)) (fun i _ hi => hTv i (by omega)) hOB hfr _ _ hw _ (lv_sub hl [0, 1, 2, 3] rfl)
    have loop10 : ∀ (fu : Nat) (b : Nat) (F1 : Nat → va_E) (hfu : A 1 ≤ b + fu) (hb1 : b ≤ A 1) (hT1 : F1 114 = .inl (cI, 10, .inl f)) (hOB : OB ad cI cB cS F1 hs A A3) (hfr : Fr F F1 0 115) (H : Heap) (locs : List Loc) (hw : HW D (Af ad N s.heap.size) ad N F1 s H locs) (ls : Array Slot) (hl : lv_has ls 7 [(2, .int (nI r)), (3, .int (nI b)), (0, .ref (ad 0)), (1, .ref (ad 114))]), W p l e { frames := 7, cells := 0, slots := 0, locals := 160 } s m [.ref (ad 0), .ref (ad 114)].toArray below meth c H locs 0 0 (MQ below (va_Qi (fun v F' => v = nI 1 ∧ OB ad cI cB cS F' hs A A3 ∧ (∃ f', F' 114 = .inl (cI, 10, .inl f') ∧ ∀ k, k < 10 → f' k = nI (tN A k)) ∧ Fr F F' 0 115) (fun F' t => PO D ad N F' t) (Af ad N s.heap.size)) [.ref (ad 0), .ref (ad 114)].toArray s 0 0 (Af ad N s.heap.size)) (F0 m 10 ls []) := by
      intro fu
      induction fu with
      | zero =>
        intro b F1 hfu hb1 hT1 hOB hfr H locs hw ls hl
        refine lv_iload_n X.1 X.2.1 dL_areProtests_10 rfl (lv_at hl 1 rfl) ?_
        refine lv_aload_n X.1 X.2.1 dL_areProtests_11 rfl (lv_at hl 2 rfl) ?_
        refine lv_iconst (v := nI 0) X.1 X.2.1 dL_areProtests_12 (by decide) ?_
        refine x_callV X hK hw (k := 0) (As := [.int (nI 0)]) (rest := [.int (nI b)]) (w_count hI (by omega) hOB (nI 0) (fun g t z n hE => a_cou0 hJ hc hk hE z n)) (x_cwV yX7_count cX7_count 2 (some .int) 1 X q818 q819 q820 q1 q821 hd_X7_count ⟨(Nat.le_of_ble_eq_true rfl), (Nat.le_of_ble_eq_true rfl)⟩) (by omega) hOB.ma rfl rfl hl.1 rfl (Nat.le_of_ble_eq_true rfl) dL_areProtests_13 ⟨(Nat.le_of_ble_eq_true rfl), (Nat.le_of_ble_eq_true rfl)⟩ (fun v223 F224 H locs hp hw => ?_)
        obtain ⟨e225, hO226, hf227⟩ := hp
        refine x_top e225 ?_
        have hT228 := (hf227 114 (by omega)).trans hT1
        replace hfr := hfr.tr hf227 (by omega) (by omega)
        refine lv_icmp_ge (tgt := 168) X.1 X.2.1 dL_areProtests_16 (by decide) (fun c229 => ?_) (fun c229 => ?_)
        · have n230 := (nI_leI (by omega) (by omega)).mp c229
          exact way10 b F224 hb1 hT228 hO226 hfr trivial _ _ hw _ (lv_sub hl [0, 1, 2, 3] rfl)
        · exact absurd ((nI_leI (by omega) (by omega)).mpr (by omega)) c229
      | succ fu ih =>
        intro b F1 hfu hb1 hT1 hOB hfr H locs hw ls hl
        refine lv_iload_n X.1 X.2.1 dL_areProtests_10 rfl (lv_at hl 1 rfl) ?_
        refine lv_aload_n X.1 X.2.1 dL_areProtests_11 rfl (lv_at hl 2 rfl) ?_
        refine lv_iconst (v := nI 0) X.1 X.2.1 dL_areProtests_12 (by decide) ?_
        refine x_callV X hK hw (k := 0) (As := [.int (nI 0)]) (rest := [.int (nI b)]) (w_count hI (by omega) hOB (nI 0) (fun g t z n hE => a_cou0 hJ hc hk hE z n)) (x_cwV yX7_count cX7_count 2 (some .int) 1 X q818 q819 q820 q1 q821 hd_X7_count ⟨(Nat.le_of_ble_eq_true rfl), (Nat.le_of_ble_eq_true rfl)⟩) (by omega) hOB.ma rfl rfl hl.1 rfl (Nat.le_of_ble_eq_true rfl) dL_areProtests_13 ⟨(Nat.le_of_ble_eq_true rfl), (Nat.le_of_ble_eq_true rfl)⟩ (fun v231 F232 H locs hp hw => ?_)
        obtain ⟨e233, hO234, hf235⟩ := hp
        refine x_top e233 ?_
        have hT236 := (hf235 114 (by omega)).trans hT1
        replace hfr := hfr.tr hf235 (by omega) (by omega)
        refine lv_icmp_ge (tgt := 168) X.1 X.2.1 dL_areProtests_16 (by decide) (fun c237 => ?_) (fun c237 => ?_)
        · have n238 := (nI_leI (by omega) (by omega)).mp c237
          exact way10 b F232 hb1 hT236 hO234 hfr trivial _ _ hw _ (lv_sub hl [0, 1, 2, 3] rfl)
        · have n239 : ¬ (A 1) ≤ b := fun z => c237 ((nI_leI (by omega) (by omega)).mpr z)
          refine lv_iload_n X.1 X.2.1 dL_areProtests_19 rfl (lv_at hl 0 rfl) ?_
          refine lv_if_lt (tgt := 168) X.1 X.2.1 dL_areProtests_20 (by decide) (fun c240 => ?_) (fun c240 => ?_)
          · exact absurd ((bz_lt (by omega)).mp c240) (by omega)
          · have n241 : ¬ r < 0 := fun z => c240 ((bz_lt (by omega)).mpr z)
            refine lv_iconst (v := nI 0) X.1 X.2.1 dL_areProtests_23 (by decide) ?_
            refine lv_istore (lv' := [(4, .int (nI 0)), (2, .int (nI r)), (3, .int (nI b)), (0, .ref (ad 0)), (1, .ref (ad 114))]) X.1 X.2.1 dL_areProtests_24 hl (by decide) rfl (fun ls hl => ?_)
            refine lv_iconst (v := nI 0) X.1 X.2.1 dL_areProtests_26 (by decide) ?_
            refine lv_istore (lv' := [(5, .int (nI 0)), (4, .int (nI 0)), (2, .int (nI r)), (3, .int (nI b)), (0, .ref (ad 0)), (1, .ref (ad 114))]) X.1 X.2.1 dL_areProtests_27 hl (by decide) rfl (fun ls hl => ?_)
            refine lv_iconst (v := nI 0) X.1 X.2.1 dL_areProtests_29 (by decide) ?_
            refine lv_istore (lv' := [(6, .int (nI 0)), (5, .int (nI 0)), (4, .int (nI 0)), (2, .int (nI r)), (3, .int (nI b)), (0, .ref (ad 0)), (1, .ref (ad 114))]) X.1 X.2.1 dL_areProtests_30 hl (by decide) rfl (fun ls hl => ?_)
            have way32 : ∀ (k : Nat) (F2 : Nat → va_E) (hk2 : k ≤ A 3) (hT2 : F2 114 = .inl (cI, 10, .inl f)) (hOC : OB ad cI cB cS F2 hs A A3) (hfr : Fr F F2 0 115) (hx2 : A 3 ≤ k) (H : Heap) (locs : List Loc) (hw : HW D (Af ad N s.heap.size) ad N F2 s H locs) (ls : Array Slot) (hl : lv_has ls 7 [(4, .int (nI (cuN A b 3 k))), (5, .int (nI (cuN A b 2 k))), (6, .int (nI k)), (2, .int (nI r)), (3, .int (nI b)), (0, .ref (ad 0)), (1, .ref (ad 114))]), W p l e { frames := 7, cells := 0, slots := 0, locals := 160 } s m [.ref (ad 0), .ref (ad 114)].toArray below meth c H locs 0 0 (MQ below (va_Qi (fun v F' => v = nI 1 ∧ OB ad cI cB cS F' hs A A3 ∧ (∃ f', F' 114 = .inl (cI, 10, .inl f') ∧ ∀ k, k < 10 → f' k = nI (tN A k)) ∧ Fr F F' 0 115) (fun F' t => PO D ad N F' t) (Af ad N s.heap.size)) [.ref (ad 0), .ref (ad 114)].toArray s 0 0 (Af ad N s.heap.size)) (F0 m 112 ls []) := by
              intro k F2 hk2 hT2 hOC hfr hx2 H locs hw ls hl
              have ekA : k = A 3 := by omega
              have hu1 := cu_le (A := A) (b := b) (v := 3) (A 3)
              have hu2 := cu_le (A := A) (b := b) (v := 2) (A 3)
              have hu3 : cuN A b 3 k = cuN A b 3 (A 3) := by rw [ekA]
              have hu4 : cuN A b 2 k = cuN A b 2 (A 3) := by rw [ekA]
              have hL := hJ.2.2.2.2.at hrA (b := b) (by omega)
              have hL1 : eA A r b 4 = 1 ↔ 0 < cuN A b 3 (A 3) := hL.1.trans hu1.2.symm
              have hL2 : 0 < eA A r b 3 ↔ 0 < cuN A b 2 (A 3) := hL.2.trans hu2.2.symm
              obtain ⟨b1, b2, b3, b4, b5, b6, b7, b8, b9, b10⟩ := hJ.bj (r := r) (b := b) (by omega) (by omega)
              refine lv_aload_n X.1 X.2.1 dL_areProtests_112 rfl (lv_at hl 5 rfl) ?_
              refine lv_iload_n X.1 X.2.1 dL_areProtests_113 rfl (lv_at hl 3 rfl) ?_
              refine lv_iload_n X.1 X.2.1 dL_areProtests_114 rfl (lv_at hl 4 rfl) ?_
              refine lv_iconst (v := nI 4) X.1 X.2.1 dL_areProtests_115 (by decide) ?_
              refine x_callV X hK hw (k := 0) (As := [.int (nI r), .int (nI b), .int (nI 4)]) (rest := []) (w_result hI (by omega) hJ.1.1 hOC (nI r) (nI b) (nI 4) (fun g t tm hE => a_res4 hJ hc hk hE (by omega) (by omega) tm)) (x_cwV yX7_result cX7_result 4 (some .int) 3 X q695 q696 q697 q1 q698 hd_X7_result ⟨(Nat.le_of_ble_eq_true rfl), (Nat.le_of_ble_eq_true rfl)⟩) (by omega) hOC.ma rfl rfl hl.1 rfl (Nat.le_of_ble_eq_true rfl) dL_areProtests_116 ⟨(Nat.le_of_ble_eq_true rfl), (Nat.le_of_ble_eq_true rfl)⟩ (fun v242 F243 H locs hp hw => ?_)
              obtain ⟨e244, hO245, hf246⟩ := hp
              refine x_top e244 ?_
              have hT247 := (hf246 114 (by omega)).trans hT2
              replace hfr := hfr.tr hf246 (by omega) (by omega)
              refine lv_iload X.1 X.2.1 dL_areProtests_119 (lv_at hl 0 rfl) ?_
              refine lv_if_le (tgt := 128) X.1 X.2.1 dL_areProtests_121 (by decide) (fun c248 => ?_) (fun c248 => ?_)
              · have n249 := (bz_le (by omega)).mp c248
                refine lv_iconst (v := nI 0) X.1 X.2.1 dL_areProtests_128 (by decide) ?_
                refine lv_icmp_ne (tgt := 160) X.1 X.2.1 dL_areProtests_129 (by decide) (fun c250 => ?_) (fun c250 => ?_)
                · exact absurd ((nI_eq (by omega) (by omega)).mpr (by omega)) c250
                · have n251 := (nI_eq (by omega) (by omega)).mp c250
                  refine lv_aload_n X.1 X.2.1 dL_areProtests_132 rfl (lv_at hl 5 rfl) ?_
                  refine lv_iload_n X.1 X.2.1 dL_areProtests_133 rfl (lv_at hl 3 rfl) ?_
                  refine lv_iload_n X.1 X.2.1 dL_areProtests_134 rfl (lv_at hl 4 rfl) ?_
                  refine lv_iconst (v := nI 3) X.1 X.2.1 dL_areProtests_135 (by decide) ?_
                  refine x_callV X hK hw (k := 0) (As := [.int (nI r), .int (nI b), .int (nI 3)]) (rest := []) (w_result hI (by omega) hJ.1.1 hO245 (nI r) (nI b) (nI 3) (fun g t tm hE => a_res3 hJ hc hk hE (by omega) (by omega) tm)) (x_cwV yX7_result cX7_result 4 (some .int) 3 X q695 q696 q697 q1 q698 hd_X7_result ⟨(Nat.le_of_ble_eq_true rfl), (Nat.le_of_ble_eq_true rfl)⟩) (by omega) hO245.ma rfl rfl hl.1 rfl (Nat.le_of_ble_eq_true rfl) dL_areProtests_136 ⟨(Nat.le_of_ble_eq_true rfl), (Nat.le_of_ble_eq_true rfl)⟩ (fun v252 F253 H locs hp hw => ?_)
                  obtain ⟨e254, hO255, hf256⟩ := hp
                  refine x_top e254 ?_
                  have hT257 := (hf256 114 (by omega)).trans hT247
                  replace hfr := hfr.tr hf256 (by omega) (by omega)
                  refine lv_if_le (tgt := 146) X.1 X.2.1 dL_areProtests_139 (by decide) (fun c258 => ?_) (fun c258 => ?_)
                  · have n259 := (bz_le (by omega)).mp c258
                    refine lv_iconst (v := nI 0) X.1 X.2.1 dL_areProtests_146 (by decide) ?_
                    refine lv_iload X.1 X.2.1 dL_areProtests_147 (lv_at hl 1 rfl) ?_
                    refine lv_if_le (tgt := 156) X.1 X.2.1 dL_areProtests_149 (by decide) (fun c260 => ?_) (fun c260 => ?_)
                    · have n261 := (bz_le (by omega)).mp c260
                      refine lv_iconst (v := nI 0) X.1 X.2.1 dL_areProtests_156 (by decide) ?_
                      refine lv_icmp_eq (tgt := 162) X.1 X.2.1 dL_areProtests_157 (by decide) (fun c262 => ?_) (fun c262 => ?_)
                      · refine lv_iinc (v := nI (b + 1)) (lv' := [(3, .int (nI (b + 1))), (4, .int (nI (cuN A b 3 k))), (5, .int (nI (cuN A b 2 k))), (6, .int (nI k)), (2, .int (nI r)), (0, .ref (ad 0)), (1, .ref (ad 114))]) X.1 X.2.1 dL_areProtests_162 hl (k := 4) rfl (by first | exact nI_1 _ | exact nI_add _ _ | rfl) (by decide) rfl (fun ls hl => ?_)
                        refine lv_goto (tgt := 10) X.1 X.2.1 dL_areProtests_165 (by decide) ?_
                        exact ih (b + 1) F253 (by omega) (by omega) hT257 hO255 hfr _ _ hw _ (lv_sub hl [4, 0, 5, 6] rfl)
                      · exact absurd (by decide) c262
                    · exact absurd ((bz_le (by omega)).mpr (by omega)) c260
                  · have n263 : ¬ (eA A r b 3) ≤ 0 := fun z => c258 ((bz_le (by omega)).mpr z)
                    refine lv_iconst (v := nI 1) X.1 X.2.1 dL_areProtests_142 (by decide) ?_
                    refine lv_goto (tgt := 147) X.1 X.2.1 dL_areProtests_143 (by decide) ?_
                    refine lv_iload X.1 X.2.1 dL_areProtests_147 (lv_at hl 1 rfl) ?_
                    refine lv_if_le (tgt := 156) X.1 X.2.1 dL_areProtests_149 (by decide) (fun c264 => ?_) (fun c264 => ?_)
                    · exact absurd ((bz_le (by omega)).mp c264) (by omega)
                    · have n265 : ¬ (cuN A b 2 k) ≤ 0 := fun z => c264 ((bz_le (by omega)).mpr z)
                      refine lv_iconst (v := nI 1) X.1 X.2.1 dL_areProtests_152 (by decide) ?_
                      refine lv_goto (tgt := 157) X.1 X.2.1 dL_areProtests_153 (by decide) ?_
                      refine lv_icmp_eq (tgt := 162) X.1 X.2.1 dL_areProtests_157 (by decide) (fun c266 => ?_) (fun c266 => ?_)
                      · refine lv_iinc (v := nI (b + 1)) (lv' := [(3, .int (nI (b + 1))), (4, .int (nI (cuN A b 3 k))), (5, .int (nI (cuN A b 2 k))), (6, .int (nI k)), (2, .int (nI r)), (0, .ref (ad 0)), (1, .ref (ad 114))]) X.1 X.2.1 dL_areProtests_162 hl (k := 4) rfl (by first | exact nI_1 _ | exact nI_add _ _ | rfl) (by decide) rfl (fun ls hl => ?_)
                        refine lv_goto (tgt := 10) X.1 X.2.1 dL_areProtests_165 (by decide) ?_
                        exact ih (b + 1) F253 (by omega) (by omega) hT257 hO255 hfr _ _ hw _ (lv_sub hl [4, 0, 5, 6] rfl)
                      · exact absurd (by decide) c266
              · have n267 : ¬ (cuN A b 3 k) ≤ 0 := fun z => c248 ((bz_le (by omega)).mpr z)
                refine lv_iconst (v := nI 1) X.1 X.2.1 dL_areProtests_124 (by decide) ?_
                refine lv_goto (tgt := 129) X.1 X.2.1 dL_areProtests_125 (by decide) ?_
                refine lv_icmp_ne (tgt := 160) X.1 X.2.1 dL_areProtests_129 (by decide) (fun c268 => ?_) (fun c268 => ?_)
                · exact absurd ((nI_eq (by omega) (by omega)).mpr (by omega)) c268
                · have n269 := (nI_eq (by omega) (by omega)).mp c268
                  refine lv_aload_n X.1 X.2.1 dL_areProtests_132 rfl (lv_at hl 5 rfl) ?_
                  refine lv_iload_n X.1 X.2.1 dL_areProtests_133 rfl (lv_at hl 3 rfl) ?_
                  refine lv_iload_n X.1 X.2.1 dL_areProtests_134 rfl (lv_at hl 4 rfl) ?_
                  refine lv_iconst (v := nI 3) X.1 X.2.1 dL_areProtests_135 (by decide) ?_
                  refine x_callV X hK hw (k := 0) (As := [.int (nI r), .int (nI b), .int (nI 3)]) (rest := []) (w_result hI (by omega) hJ.1.1 hO245 (nI r) (nI b) (nI 3) (fun g t tm hE => a_res3 hJ hc hk hE (by omega) (by omega) tm)) (x_cwV yX7_result cX7_result 4 (some .int) 3 X q695 q696 q697 q1 q698 hd_X7_result ⟨(Nat.le_of_ble_eq_true rfl), (Nat.le_of_ble_eq_true rfl)⟩) (by omega) hO245.ma rfl rfl hl.1 rfl (Nat.le_of_ble_eq_true rfl) dL_areProtests_136 ⟨(Nat.le_of_ble_eq_true rfl), (Nat.le_of_ble_eq_true rfl)⟩ (fun v270 F271 H locs hp hw => ?_)
                  obtain ⟨e272, hO273, hf274⟩ := hp
                  refine x_top e272 ?_
                  have hT275 := (hf274 114 (by omega)).trans hT247
                  replace hfr := hfr.tr hf274 (by omega) (by omega)
                  refine lv_if_le (tgt := 146) X.1 X.2.1 dL_areProtests_139 (by decide) (fun c276 => ?_) (fun c276 => ?_)
                  · have n277 := (bz_le (by omega)).mp c276
                    refine lv_iconst (v := nI 0) X.1 X.2.1 dL_areProtests_146 (by decide) ?_
                    refine lv_iload X.1 X.2.1 dL_areProtests_147 (lv_at hl 1 rfl) ?_
                    refine lv_if_le (tgt := 156) X.1 X.2.1 dL_areProtests_149 (by decide) (fun c278 => ?_) (fun c278 => ?_)
                    · have n279 := (bz_le (by omega)).mp c278
                      refine lv_iconst (v := nI 0) X.1 X.2.1 dL_areProtests_156 (by decide) ?_
                      refine lv_icmp_eq (tgt := 162) X.1 X.2.1 dL_areProtests_157 (by decide) (fun c280 => ?_) (fun c280 => ?_)
                      · refine lv_iinc (v := nI (b + 1)) (lv' := [(3, .int (nI (b + 1))), (4, .int (nI (cuN A b 3 k))), (5, .int (nI (cuN A b 2 k))), (6, .int (nI k)), (2, .int (nI r)), (0, .ref (ad 0)), (1, .ref (ad 114))]) X.1 X.2.1 dL_areProtests_162 hl (k := 4) rfl (by first | exact nI_1 _ | exact nI_add _ _ | rfl) (by decide) rfl (fun ls hl => ?_)
                        refine lv_goto (tgt := 10) X.1 X.2.1 dL_areProtests_165 (by decide) ?_
                        exact ih (b + 1) F271 (by omega) (by omega) hT275 hO273 hfr _ _ hw _ (lv_sub hl [4, 0, 5, 6] rfl)
                      · exact absurd (by decide) c280
                    · exact absurd ((bz_le (by omega)).mpr (by omega)) c278
                  · have n281 : ¬ (eA A r b 3) ≤ 0 := fun z => c276 ((bz_le (by omega)).mpr z)
                    refine lv_iconst (v := nI 1) X.1 X.2.1 dL_areProtests_142 (by decide) ?_
                    refine lv_goto (tgt := 147) X.1 X.2.1 dL_areProtests_143 (by decide) ?_
                    refine lv_iload X.1 X.2.1 dL_areProtests_147 (lv_at hl 1 rfl) ?_
                    refine lv_if_le (tgt := 156) X.1 X.2.1 dL_areProtests_149 (by decide) (fun c282 => ?_) (fun c282 => ?_)
                    · exact absurd ((bz_le (by omega)).mp c282) (by omega)
                    · have n283 : ¬ (cuN A b 2 k) ≤ 0 := fun z => c282 ((bz_le (by omega)).mpr z)
                      refine lv_iconst (v := nI 1) X.1 X.2.1 dL_areProtests_152 (by decide) ?_
                      refine lv_goto (tgt := 157) X.1 X.2.1 dL_areProtests_153 (by decide) ?_
                      refine lv_icmp_eq (tgt := 162) X.1 X.2.1 dL_areProtests_157 (by decide) (fun c284 => ?_) (fun c284 => ?_)
                      · refine lv_iinc (v := nI (b + 1)) (lv' := [(3, .int (nI (b + 1))), (4, .int (nI (cuN A b 3 k))), (5, .int (nI (cuN A b 2 k))), (6, .int (nI k)), (2, .int (nI r)), (0, .ref (ad 0)), (1, .ref (ad 114))]) X.1 X.2.1 dL_areProtests_162 hl (k := 4) rfl (by first | exact nI_1 _ | exact nI_add _ _ | rfl) (by decide) rfl (fun ls hl => ?_)
                        refine lv_goto (tgt := 10) X.1 X.2.1 dL_areProtests_165 (by decide) ?_
                        exact ih (b + 1) F271 (by omega) (by omega) hT275 hO273 hfr _ _ hw _ (lv_sub hl [4, 0, 5, 6] rfl)
                      · exact absurd (by decide) c284
            have loop32 : ∀ (fu2 : Nat) (k : Nat) (F2 : Nat → va_E) (hfu2 : A 3 ≤ k + fu2) (hk2 : k ≤ A 3) (hT2 : F2 114 = .inl (cI, 10, .inl f)) (hOC : OB ad cI cB cS F2 hs A A3) (hfr : Fr F F2 0 115) (H : Heap) (locs : List Loc) (hw : HW D (Af ad N s.heap.size) ad N F2 s H locs) (ls : Array Slot) (hl : lv_has ls 7 [(4, .int (nI (cuN A b 3 k))), (5, .int (nI (cuN A b 2 k))), (6, .int (nI k)), (2, .int (nI r)), (3, .int (nI b)), (0, .ref (ad 0)), (1, .ref (ad 114))]), W p l e { frames := 7, cells := 0, slots := 0, locals := 160 } s m [.ref (ad 0), .ref (ad 114)].toArray below meth c H locs 0 0 (MQ below (va_Qi (fun v F' => v = nI 1 ∧ OB ad cI cB cS F' hs A A3 ∧ (∃ f', F' 114 = .inl (cI, 10, .inl f') ∧ ∀ k, k < 10 → f' k = nI (tN A k)) ∧ Fr F F' 0 115) (fun F' t => PO D ad N F' t) (Af ad N s.heap.size)) [.ref (ad 0), .ref (ad 114)].toArray s 0 0 (Af ad N s.heap.size)) (F0 m 32 ls []) := by
              intro fu2
              induction fu2 with
              | zero =>
                intro k F2 hfu2 hk2 hT2 hOC hfr H locs hw ls hl
                refine lv_iload X.1 X.2.1 dL_areProtests_32 (lv_at hl 2 rfl) ?_
                refine lv_aload_n X.1 X.2.1 dL_areProtests_34 rfl (lv_at hl 5 rfl) ?_
                refine lv_iconst (v := nI 5) X.1 X.2.1 dL_areProtests_35 (by decide) ?_
                refine x_callV X hK hw (k := 0) (As := [.int (nI 5)]) (rest := [.int (nI k)]) (w_count hI (by omega) hOC (nI 5) (fun g t z n hE => a_cou5 hJ hc hk hE z n)) (x_cwV yX7_count cX7_count 2 (some .int) 1 X q818 q819 q820 q1 q821 hd_X7_count ⟨(Nat.le_of_ble_eq_true rfl), (Nat.le_of_ble_eq_true rfl)⟩) (by omega) hOC.ma rfl rfl hl.1 rfl (Nat.le_of_ble_eq_true rfl) dL_areProtests_36 ⟨(Nat.le_of_ble_eq_true rfl), (Nat.le_of_ble_eq_true rfl)⟩ (fun v285 F286 H locs hp hw => ?_)
                obtain ⟨e287, hO288, hf289⟩ := hp
                refine x_top e287 ?_
                have hT290 := (hf289 114 (by omega)).trans hT2
                replace hfr := hfr.tr hf289 (by omega) (by omega)
                refine lv_icmp_ge (tgt := 112) X.1 X.2.1 dL_areProtests_39 (by decide) (fun c291 => ?_) (fun c291 => ?_)
                · have n292 := (nI_leI (by omega) (by omega)).mp c291
                  exact way32 k F286 hk2 hT290 hO288 hfr n292 _ _ hw _ (lv_sub hl [0, 1, 2, 3, 4, 5, 6] rfl)
                · exact absurd ((nI_leI (by omega) (by omega)).mpr (by omega)) c291
              | succ fu2 ih2 =>
                intro k F2 hfu2 hk2 hT2 hOC hfr H locs hw ls hl
                refine lv_iload X.1 X.2.1 dL_areProtests_32 (lv_at hl 2 rfl) ?_
                refine lv_aload_n X.1 X.2.1 dL_areProtests_34 rfl (lv_at hl 5 rfl) ?_
                refine lv_iconst (v := nI 5) X.1 X.2.1 dL_areProtests_35 (by decide) ?_
                refine x_callV X hK hw (k := 0) (As := [.int (nI 5)]) (rest := [.int (nI k)]) (w_count hI (by omega) hOC (nI 5) (fun g t z n hE => a_cou5 hJ hc hk hE z n)) (x_cwV yX7_count cX7_count 2 (some .int) 1 X q818 q819 q820 q1 q821 hd_X7_count ⟨(Nat.le_of_ble_eq_true rfl), (Nat.le_of_ble_eq_true rfl)⟩) (by omega) hOC.ma rfl rfl hl.1 rfl (Nat.le_of_ble_eq_true rfl) dL_areProtests_36 ⟨(Nat.le_of_ble_eq_true rfl), (Nat.le_of_ble_eq_true rfl)⟩ (fun v293 F294 H locs hp hw => ?_)
                obtain ⟨e295, hO296, hf297⟩ := hp
                refine x_top e295 ?_
                have hT298 := (hf297 114 (by omega)).trans hT2
                replace hfr := hfr.tr hf297 (by omega) (by omega)
                refine lv_icmp_ge (tgt := 112) X.1 X.2.1 dL_areProtests_39 (by decide) (fun c299 => ?_) (fun c299 => ?_)
                · have n300 := (nI_leI (by omega) (by omega)).mp c299
                  exact way32 k F294 hk2 hT298 hO296 hfr n300 _ _ hw _ (lv_sub hl [0, 1, 2, 3, 4, 5, 6] rfl)
                · have n301 : ¬ (A 3) ≤ k := fun z => c299 ((nI_leI (by omega) (by omega)).mpr z)
                  obtain ⟨p1, p2, p3, p4, p5⟩ := hJ.pr (p := k) (by omega)
                  have kc1 := (cu_le (A := A) (b := b) (v := 3) k).1
                  have kc2 := (cu_le (A := A) (b := b) (v := 2) k).1
                  refine lv_iload X.1 X.2.1 dL_areProtests_42 (lv_at hl 0 rfl) ?_
                  refine lv_aload_n X.1 X.2.1 dL_areProtests_44 rfl (lv_at hl 5 rfl) ?_
                  refine lv_iload X.1 X.2.1 dL_areProtests_45 (lv_at hl 2 rfl) ?_
                  refine lv_iconst (v := nI 1) X.1 X.2.1 dL_areProtests_47 (by decide) ?_
                  refine x_callV X hK hw (k := 0) (As := [.int (nI k), .int (nI 1)]) (rest := [.int (nI (cuN A b 3 k))]) (w_protest hI (by omega) hO296 (nI k) (nI 1) (fun g t hE => a_pro1 hJ hc hk hE (by omega))) (x_cwV yX7_protest cX7_protest 3 (some .int) 2 X q813 q814 q815 q1 q816 hd_X7_protest ⟨(Nat.le_of_ble_eq_true rfl), (Nat.le_of_ble_eq_true rfl)⟩) (by omega) hO296.ma rfl rfl hl.1 rfl (Nat.le_of_ble_eq_true rfl) dL_areProtests_48 ⟨(Nat.le_of_ble_eq_true rfl), (Nat.le_of_ble_eq_true rfl)⟩ (fun v302 F303 H locs hp hw => ?_)
                  obtain ⟨e304, hO305, hf306⟩ := hp
                  refine x_top e304 ?_
                  have hT307 := (hf306 114 (by omega)).trans hT298
                  replace hfr := hfr.tr hf306 (by omega) (by omega)
                  refine lv_iload_n X.1 X.2.1 dL_areProtests_51 rfl (lv_at hl 4 rfl) ?_
                  refine lv_icmp_ne (tgt := 70) X.1 X.2.1 dL_areProtests_52 (by decide) (fun c308 => ?_) (fun c308 => ?_)
                  · have n309 : ¬ (pA A k 1) = b := fun z => c308 ((nI_eq (by omega) (by omega)).mpr z)
                    refine lv_iconst (v := nI 0) X.1 X.2.1 dL_areProtests_70 (by decide) ?_
                    refine lv_iadd X.1 X.2.1 dL_areProtests_71 ?_
                    refine x_top (nI_add _ _) ?_
                    refine x_top (y := nI (cuN A b 3 (k + 1))) (congrArg nI (cu_z (fun z => n309 z.1))) ?_
                    refine lv_istore (lv' := [(4, .int (nI (cuN A b 3 (k + 1)))), (5, .int (nI (cuN A b 2 k))), (6, .int (nI k)), (2, .int (nI r)), (3, .int (nI b)), (0, .ref (ad 0)), (1, .ref (ad 114))]) X.1 X.2.1 dL_areProtests_72 hl (by decide) rfl (fun ls hl => ?_)
                    refine lv_iload X.1 X.2.1 dL_areProtests_74 (lv_at hl 1 rfl) ?_
                    refine lv_aload_n X.1 X.2.1 dL_areProtests_76 rfl (lv_at hl 5 rfl) ?_
                    refine lv_iload X.1 X.2.1 dL_areProtests_77 (lv_at hl 2 rfl) ?_
                    refine lv_iconst (v := nI 1) X.1 X.2.1 dL_areProtests_79 (by decide) ?_
                    refine x_callV X hK hw (k := 0) (As := [.int (nI k), .int (nI 1)]) (rest := [.int (nI (cuN A b 2 k))]) (w_protest hI (by omega) hO305 (nI k) (nI 1) (fun g t hE => a_pro1 hJ hc hk hE (by omega))) (x_cwV yX7_protest cX7_protest 3 (some .int) 2 X q813 q814 q815 q1 q816 hd_X7_protest ⟨(Nat.le_of_ble_eq_true rfl), (Nat.le_of_ble_eq_true rfl)⟩) (by omega) hO305.ma rfl rfl hl.1 rfl (Nat.le_of_ble_eq_true rfl) dL_areProtests_80 ⟨(Nat.le_of_ble_eq_true rfl), (Nat.le_of_ble_eq_true rfl)⟩ (fun v310 F311 H locs hp hw => ?_)
                    obtain ⟨e312, hO313, hf314⟩ := hp
                    refine x_top e312 ?_
                    have hT315 := (hf314 114 (by omega)).trans hT307
                    replace hfr := hfr.tr hf314 (by omega) (by omega)
                    refine lv_iload_n X.1 X.2.1 dL_areProtests_83 rfl (lv_at hl 4 rfl) ?_
                    refine lv_icmp_ne (tgt := 102) X.1 X.2.1 dL_areProtests_84 (by decide) (fun c316 => ?_) (fun c316 => ?_)
                    · have n317 : ¬ (pA A k 1) = b := fun z => c316 ((nI_eq (by omega) (by omega)).mpr z)
                      refine lv_iconst (v := nI 0) X.1 X.2.1 dL_areProtests_102 (by decide) ?_
                      refine lv_iadd X.1 X.2.1 dL_areProtests_103 ?_
                      refine x_top (nI_add _ _) ?_
                      refine x_top (y := nI (cuN A b 2 (k + 1))) (congrArg nI (cu_z (fun z => n317 z.1))) ?_
                      refine lv_istore (lv' := [(5, .int (nI (cuN A b 2 (k + 1)))), (4, .int (nI (cuN A b 3 (k + 1)))), (6, .int (nI k)), (2, .int (nI r)), (3, .int (nI b)), (0, .ref (ad 0)), (1, .ref (ad 114))]) X.1 X.2.1 dL_areProtests_104 hl (by decide) rfl (fun ls hl => ?_)
                      refine lv_iinc (v := nI (k + 1)) (lv' := [(6, .int (nI (k + 1))), (5, .int (nI (cuN A b 2 (k + 1)))), (4, .int (nI (cuN A b 3 (k + 1)))), (2, .int (nI r)), (3, .int (nI b)), (0, .ref (ad 0)), (1, .ref (ad 114))]) X.1 X.2.1 dL_areProtests_106 hl (k := 2) rfl (by first | exact nI_1 _ | exact nI_add _ _ | rfl) (by decide) rfl (fun ls hl => ?_)
                      refine lv_goto (tgt := 32) X.1 X.2.1 dL_areProtests_109 (by decide) ?_
                      exact ih2 (k + 1) F311 (by omega) (by omega) hT315 hO313 hfr _ _ hw _ (lv_sub hl [2, 1, 0, 3, 4, 5, 6] rfl)
                    · have n318 := (nI_eq (by omega) (by omega)).mp c316
                      refine lv_aload_n X.1 X.2.1 dL_areProtests_87 rfl (lv_at hl 5 rfl) ?_
                      refine lv_iload X.1 X.2.1 dL_areProtests_88 (lv_at hl 2 rfl) ?_
                      refine lv_iconst (v := nI 3) X.1 X.2.1 dL_areProtests_90 (by decide) ?_
                      refine x_callV X hK hw (k := 0) (As := [.int (nI k), .int (nI 3)]) (rest := [.int (nI (cuN A b 2 k))]) (w_protest hI (by omega) hO313 (nI k) (nI 3) (fun g t hE => a_pro3 hJ hc hk hE (by omega))) (x_cwV yX7_protest cX7_protest 3 (some .int) 2 X q813 q814 q815 q1 q816 hd_X7_protest ⟨(Nat.le_of_ble_eq_true rfl), (Nat.le_of_ble_eq_true rfl)⟩) (by omega) hO313.ma rfl rfl hl.1 rfl (Nat.le_of_ble_eq_true rfl) dL_areProtests_91 ⟨(Nat.le_of_ble_eq_true rfl), (Nat.le_of_ble_eq_true rfl)⟩ (fun v319 F320 H locs hp hw => ?_)
                      obtain ⟨e321, hO322, hf323⟩ := hp
                      refine x_top e321 ?_
                      have hT324 := (hf323 114 (by omega)).trans hT315
                      replace hfr := hfr.tr hf323 (by omega) (by omega)
                      refine lv_iconst (v := nI 2) X.1 X.2.1 dL_areProtests_94 (by decide) ?_
                      refine lv_icmp_ne (tgt := 102) X.1 X.2.1 dL_areProtests_95 (by decide) (fun c325 => ?_) (fun c325 => ?_)
                      · have n326 : ¬ (pA A k 3) = 2 := fun z => c325 ((nI_eq (by omega) (by omega)).mpr z)
                        refine lv_iconst (v := nI 0) X.1 X.2.1 dL_areProtests_102 (by decide) ?_
                        refine lv_iadd X.1 X.2.1 dL_areProtests_103 ?_
                        refine x_top (nI_add _ _) ?_
                        refine x_top (y := nI (cuN A b 2 (k + 1))) (congrArg nI (cu_z (fun z => n326 z.2))) ?_
                        refine lv_istore (lv' := [(5, .int (nI (cuN A b 2 (k + 1)))), (4, .int (nI (cuN A b 3 (k + 1)))), (6, .int (nI k)), (2, .int (nI r)), (3, .int (nI b)), (0, .ref (ad 0)), (1, .ref (ad 114))]) X.1 X.2.1 dL_areProtests_104 hl (by decide) rfl (fun ls hl => ?_)
                        refine lv_iinc (v := nI (k + 1)) (lv' := [(6, .int (nI (k + 1))), (5, .int (nI (cuN A b 2 (k + 1)))), (4, .int (nI (cuN A b 3 (k + 1)))), (2, .int (nI r)), (3, .int (nI b)), (0, .ref (ad 0)), (1, .ref (ad 114))]) X.1 X.2.1 dL_areProtests_106 hl (k := 2) rfl (by first | exact nI_1 _ | exact nI_add _ _ | rfl) (by decide) rfl (fun ls hl => ?_)
                        refine lv_goto (tgt := 32) X.1 X.2.1 dL_areProtests_109 (by decide) ?_
                        exact ih2 (k + 1) F320 (by omega) (by omega) hT324 hO322 hfr _ _ hw _ (lv_sub hl [2, 1, 0, 3, 4, 5, 6] rfl)
                      · have n327 := (nI_eq (by omega) (by omega)).mp c325
                        refine lv_iconst (v := nI 1) X.1 X.2.1 dL_areProtests_98 (by decide) ?_
                        refine lv_goto (tgt := 103) X.1 X.2.1 dL_areProtests_99 (by decide) ?_
                        refine lv_iadd X.1 X.2.1 dL_areProtests_103 ?_
                        refine x_top (nI_add _ _) ?_
                        refine x_top (y := nI (cuN A b 2 (k + 1))) (congrArg nI (cu_y ⟨n318, n327⟩)) ?_
                        refine lv_istore (lv' := [(5, .int (nI (cuN A b 2 (k + 1)))), (4, .int (nI (cuN A b 3 (k + 1)))), (6, .int (nI k)), (2, .int (nI r)), (3, .int (nI b)), (0, .ref (ad 0)), (1, .ref (ad 114))]) X.1 X.2.1 dL_areProtests_104 hl (by decide) rfl (fun ls hl => ?_)
                        refine lv_iinc (v := nI (k + 1)) (lv' := [(6, .int (nI (k + 1))), (5, .int (nI (cuN A b 2 (k + 1)))), (4, .int (nI (cuN A b 3 (k + 1)))), (2, .int (nI r)), (3, .int (nI b)), (0, .ref (ad 0)), (1, .ref (ad 114))]) X.1 X.2.1 dL_areProtests_106 hl (k := 2) rfl (by first | exact nI_1 _ | exact nI_add _ _ | rfl) (by decide) rfl (fun ls hl => ?_)
                        refine lv_goto (tgt := 32) X.1 X.2.1 dL_areProtests_109 (by decide) ?_
                        exact ih2 (k + 1) F320 (by omega) (by omega) hT324 hO322 hfr _ _ hw _ (lv_sub hl [2, 1, 0, 3, 4, 5, 6] rfl)
                  · have n328 := (nI_eq (by omega) (by omega)).mp c308
                    refine lv_aload_n X.1 X.2.1 dL_areProtests_55 rfl (lv_at hl 5 rfl) ?_
                    refine lv_iload X.1 X.2.1 dL_areProtests_56 (lv_at hl 2 rfl) ?_
                    refine lv_iconst (v := nI 3) X.1 X.2.1 dL_areProtests_58 (by decide) ?_
                    refine x_callV X hK hw (k := 0) (As := [.int (nI k), .int (nI 3)]) (rest := [.int (nI (cuN A b 3 k))]) (w_protest hI (by omega) hO305 (nI k) (nI 3) (fun g t hE => a_pro3 hJ hc hk hE (by omega))) (x_cwV yX7_protest cX7_protest 3 (some .int) 2 X q813 q814 q815 q1 q816 hd_X7_protest ⟨(Nat.le_of_ble_eq_true rfl), (Nat.le_of_ble_eq_true rfl)⟩) (by omega) hO305.ma rfl rfl hl.1 rfl (Nat.le_of_ble_eq_true rfl) dL_areProtests_59 ⟨(Nat.le_of_ble_eq_true rfl), (Nat.le_of_ble_eq_true rfl)⟩ (fun v329 F330 H locs hp hw => ?_)
                    obtain ⟨e331, hO332, hf333⟩ := hp
                    refine x_top e331 ?_
                    have hT334 := (hf333 114 (by omega)).trans hT307
                    replace hfr := hfr.tr hf333 (by omega) (by omega)
                    refine lv_iconst (v := nI 3) X.1 X.2.1 dL_areProtests_62 (by decide) ?_
                    refine lv_icmp_ne (tgt := 70) X.1 X.2.1 dL_areProtests_63 (by decide) (fun c335 => ?_) (fun c335 => ?_)
                    · have n336 : ¬ (pA A k 3) = 3 := fun z => c335 ((nI_eq (by omega) (by omega)).mpr z)
                      refine lv_iconst (v := nI 0) X.1 X.2.1 dL_areProtests_70 (by decide) ?_
                      refine lv_iadd X.1 X.2.1 dL_areProtests_71 ?_
                      refine x_top (nI_add _ _) ?_
                      refine x_top (y := nI (cuN A b 3 (k + 1))) (congrArg nI (cu_z (fun z => n336 z.2))) ?_
                      refine lv_istore (lv' := [(4, .int (nI (cuN A b 3 (k + 1)))), (5, .int (nI (cuN A b 2 k))), (6, .int (nI k)), (2, .int (nI r)), (3, .int (nI b)), (0, .ref (ad 0)), (1, .ref (ad 114))]) X.1 X.2.1 dL_areProtests_72 hl (by decide) rfl (fun ls hl => ?_)
                      refine lv_iload X.1 X.2.1 dL_areProtests_74 (lv_at hl 1 rfl) ?_
                      refine lv_aload_n X.1 X.2.1 dL_areProtests_76 rfl (lv_at hl 5 rfl) ?_
                      refine lv_iload X.1 X.2.1 dL_areProtests_77 (lv_at hl 2 rfl) ?_
                      refine lv_iconst (v := nI 1) X.1 X.2.1 dL_areProtests_79 (by decide) ?_
                      refine x_callV X hK hw (k := 0) (As := [.int (nI k), .int (nI 1)]) (rest := [.int (nI (cuN A b 2 k))]) (w_protest hI (by omega) hO332 (nI k) (nI 1) (fun g t hE => a_pro1 hJ hc hk hE (by omega))) (x_cwV yX7_protest cX7_protest 3 (some .int) 2 X q813 q814 q815 q1 q816 hd_X7_protest ⟨(Nat.le_of_ble_eq_true rfl), (Nat.le_of_ble_eq_true rfl)⟩) (by omega) hO332.ma rfl rfl hl.1 rfl (Nat.le_of_ble_eq_true rfl) dL_areProtests_80 ⟨(Nat.le_of_ble_eq_true rfl), (Nat.le_of_ble_eq_true rfl)⟩ (fun v337 F338 H locs hp hw => ?_)
                      obtain ⟨e339, hO340, hf341⟩ := hp
                      refine x_top e339 ?_
                      have hT342 := (hf341 114 (by omega)).trans hT334
                      replace hfr := hfr.tr hf341 (by omega) (by omega)
                      refine lv_iload_n X.1 X.2.1 dL_areProtests_83 rfl (lv_at hl 4 rfl) ?_
                      refine lv_icmp_ne (tgt := 102) X.1 X.2.1 dL_areProtests_84 (by decide) (fun c343 => ?_) (fun c343 => ?_)
                      · have n344 : ¬ (pA A k 1) = b := fun z => c343 ((nI_eq (by omega) (by omega)).mpr z)
                        refine lv_iconst (v := nI 0) X.1 X.2.1 dL_areProtests_102 (by decide) ?_
                        refine lv_iadd X.1 X.2.1 dL_areProtests_103 ?_
                        refine x_top (nI_add _ _) ?_
                        refine x_top (y := nI (cuN A b 2 (k + 1))) (congrArg nI (cu_z (fun z => n344 z.1))) ?_
                        refine lv_istore (lv' := [(5, .int (nI (cuN A b 2 (k + 1)))), (4, .int (nI (cuN A b 3 (k + 1)))), (6, .int (nI k)), (2, .int (nI r)), (3, .int (nI b)), (0, .ref (ad 0)), (1, .ref (ad 114))]) X.1 X.2.1 dL_areProtests_104 hl (by decide) rfl (fun ls hl => ?_)
                        refine lv_iinc (v := nI (k + 1)) (lv' := [(6, .int (nI (k + 1))), (5, .int (nI (cuN A b 2 (k + 1)))), (4, .int (nI (cuN A b 3 (k + 1)))), (2, .int (nI r)), (3, .int (nI b)), (0, .ref (ad 0)), (1, .ref (ad 114))]) X.1 X.2.1 dL_areProtests_106 hl (k := 2) rfl (by first | exact nI_1 _ | exact nI_add _ _ | rfl) (by decide) rfl (fun ls hl => ?_)
                        refine lv_goto (tgt := 32) X.1 X.2.1 dL_areProtests_109 (by decide) ?_
                        exact ih2 (k + 1) F338 (by omega) (by omega) hT342 hO340 hfr _ _ hw _ (lv_sub hl [2, 1, 0, 3, 4, 5, 6] rfl)
                      · have n345 := (nI_eq (by omega) (by omega)).mp c343
                        refine lv_aload_n X.1 X.2.1 dL_areProtests_87 rfl (lv_at hl 5 rfl) ?_
                        refine lv_iload X.1 X.2.1 dL_areProtests_88 (lv_at hl 2 rfl) ?_
                        refine lv_iconst (v := nI 3) X.1 X.2.1 dL_areProtests_90 (by decide) ?_
                        refine x_callV X hK hw (k := 0) (As := [.int (nI k), .int (nI 3)]) (rest := [.int (nI (cuN A b 2 k))]) (w_protest hI (by omega) hO340 (nI k) (nI 3) (fun g t hE => a_pro3 hJ hc hk hE (by omega))) (x_cwV yX7_protest cX7_protest 3 (some .int) 2 X q813 q814 q815 q1 q816 hd_X7_protest ⟨(Nat.le_of_ble_eq_true rfl), (Nat.le_of_ble_eq_true rfl)⟩) (by omega) hO340.ma rfl rfl hl.1 rfl (Nat.le_of_ble_eq_true rfl) dL_areProtests_91 ⟨(Nat.le_of_ble_eq_true rfl), (Nat.le_of_ble_eq_true rfl)⟩ (fun v346 F347 H locs hp hw => ?_)
                        obtain ⟨e348, hO349, hf350⟩ := hp
                        refine x_top e348 ?_
                        have hT351 := (hf350 114 (by omega)).trans hT342
                        replace hfr := hfr.tr hf350 (by omega) (by omega)
                        refine lv_iconst (v := nI 2) X.1 X.2.1 dL_areProtests_94 (by decide) ?_
                        refine lv_icmp_ne (tgt := 102) X.1 X.2.1 dL_areProtests_95 (by decide) (fun c352 => ?_) (fun c352 => ?_)
                        · have n353 : ¬ (pA A k 3) = 2 := fun z => c352 ((nI_eq (by omega) (by omega)).mpr z)
                          refine lv_iconst (v := nI 0) X.1 X.2.1 dL_areProtests_102 (by decide) ?_
                          refine lv_iadd X.1 X.2.1 dL_areProtests_103 ?_
                          refine x_top (nI_add _ _) ?_
                          refine x_top (y := nI (cuN A b 2 (k + 1))) (congrArg nI (cu_z (fun z => n353 z.2))) ?_
                          refine lv_istore (lv' := [(5, .int (nI (cuN A b 2 (k + 1)))), (4, .int (nI (cuN A b 3 (k + 1)))), (6, .int (nI k)), (2, .int (nI r)), (3, .int (nI b)), (0, .ref (ad 0)), (1, .ref (ad 114))]) X.1 X.2.1 dL_areProtests_104 hl (by decide) rfl (fun ls hl => ?_)
                          refine lv_iinc (v := nI (k + 1)) (lv' := [(6, .int (nI (k + 1))), (5, .int (nI (cuN A b 2 (k + 1)))), (4, .int (nI (cuN A b 3 (k + 1)))), (2, .int (nI r)), (3, .int (nI b)), (0, .ref (ad 0)), (1, .ref (ad 114))]) X.1 X.2.1 dL_areProtests_106 hl (k := 2) rfl (by first | exact nI_1 _ | exact nI_add _ _ | rfl) (by decide) rfl (fun ls hl => ?_)
                          refine lv_goto (tgt := 32) X.1 X.2.1 dL_areProtests_109 (by decide) ?_
                          exact ih2 (k + 1) F347 (by omega) (by omega) hT351 hO349 hfr _ _ hw _ (lv_sub hl [2, 1, 0, 3, 4, 5, 6] rfl)
                        · have n354 := (nI_eq (by omega) (by omega)).mp c352
                          refine lv_iconst (v := nI 1) X.1 X.2.1 dL_areProtests_98 (by decide) ?_
                          refine lv_goto (tgt := 103) X.1 X.2.1 dL_areProtests_99 (by decide) ?_
                          refine lv_iadd X.1 X.2.1 dL_areProtests_103 ?_
                          refine x_top (nI_add _ _) ?_
                          refine x_top (y := nI (cuN A b 2 (k + 1))) (congrArg nI (cu_y ⟨n345, n354⟩)) ?_
                          refine lv_istore (lv' := [(5, .int (nI (cuN A b 2 (k + 1)))), (4, .int (nI (cuN A b 3 (k + 1)))), (6, .int (nI k)), (2, .int (nI r)), (3, .int (nI b)), (0, .ref (ad 0)), (1, .ref (ad 114))]) X.1 X.2.1 dL_areProtests_104 hl (by decide) rfl (fun ls hl => ?_)
                          refine lv_iinc (v := nI (k + 1)) (lv' := [(6, .int (nI (k + 1))), (5, .int (nI (cuN A b 2 (k + 1)))), (4, .int (nI (cuN A b 3 (k + 1)))), (2, .int (nI r)), (3, .int (nI b)), (0, .ref (ad 0)), (1, .ref (ad 114))]) X.1 X.2.1 dL_areProtests_106 hl (k := 2) rfl (by first | exact nI_1 _ | exact nI_add _ _ | rfl) (by decide) rfl (fun ls hl => ?_)
                          refine lv_goto (tgt := 32) X.1 X.2.1 dL_areProtests_109 (by decide) ?_
                          exact ih2 (k + 1) F347 (by omega) (by omega) hT351 hO349 hfr _ _ hw _ (lv_sub hl [2, 1, 0, 3, 4, 5, 6] rfl)
                    · have n355 := (nI_eq (by omega) (by omega)).mp c335
                      refine lv_iconst (v := nI 1) X.1 X.2.1 dL_areProtests_66 (by decide) ?_
                      refine lv_goto (tgt := 71) X.1 X.2.1 dL_areProtests_67 (by decide) ?_
                      refine lv_iadd X.1 X.2.1 dL_areProtests_71 ?_
                      refine x_top (nI_add _ _) ?_
                      refine x_top (y := nI (cuN A b 3 (k + 1))) (congrArg nI (cu_y ⟨n328, n355⟩)) ?_
                      refine lv_istore (lv' := [(4, .int (nI (cuN A b 3 (k + 1)))), (5, .int (nI (cuN A b 2 k))), (6, .int (nI k)), (2, .int (nI r)), (3, .int (nI b)), (0, .ref (ad 0)), (1, .ref (ad 114))]) X.1 X.2.1 dL_areProtests_72 hl (by decide) rfl (fun ls hl => ?_)
                      refine lv_iload X.1 X.2.1 dL_areProtests_74 (lv_at hl 1 rfl) ?_
                      refine lv_aload_n X.1 X.2.1 dL_areProtests_76 rfl (lv_at hl 5 rfl) ?_
                      refine lv_iload X.1 X.2.1 dL_areProtests_77 (lv_at hl 2 rfl) ?_
                      refine lv_iconst (v := nI 1) X.1 X.2.1 dL_areProtests_79 (by decide) ?_
                      refine x_callV X hK hw (k := 0) (As := [.int (nI k), .int (nI 1)]) (rest := [.int (nI (cuN A b 2 k))]) (w_protest hI (by omega) hO332 (nI k) (nI 1) (fun g t hE => a_pro1 hJ hc hk hE (by omega))) (x_cwV yX7_protest cX7_protest 3 (some .int) 2 X q813 q814 q815 q1 q816 hd_X7_protest ⟨(Nat.le_of_ble_eq_true rfl), (Nat.le_of_ble_eq_true rfl)⟩) (by omega) hO332.ma rfl rfl hl.1 rfl (Nat.le_of_ble_eq_true rfl) dL_areProtests_80 ⟨(Nat.le_of_ble_eq_true rfl), (Nat.le_of_ble_eq_true rfl)⟩ (fun v356 F357 H locs hp hw => ?_)
                      obtain ⟨e358, hO359, hf360⟩ := hp
                      refine x_top e358 ?_
                      have hT361 := (hf360 114 (by omega)).trans hT334
                      replace hfr := hfr.tr hf360 (by omega) (by omega)
                      refine lv_iload_n X.1 X.2.1 dL_areProtests_83 rfl (lv_at hl 4 rfl) ?_
                      refine lv_icmp_ne (tgt := 102) X.1 X.2.1 dL_areProtests_84 (by decide) (fun c362 => ?_) (fun c362 => ?_)
                      · have n363 : ¬ (pA A k 1) = b := fun z => c362 ((nI_eq (by omega) (by omega)).mpr z)
                        refine lv_iconst (v := nI 0) X.1 X.2.1 dL_areProtests_102 (by decide) ?_
                        refine lv_iadd X.1 X.2.1 dL_areProtests_103 ?_
                        refine x_top (nI_add _ _) ?_
                        refine x_top (y := nI (cuN A b 2 (k + 1))) (congrArg nI (cu_z (fun z => n363 z.1))) ?_
                        refine lv_istore (lv' := [(5, .int (nI (cuN A b 2 (k + 1)))), (4, .int (nI (cuN A b 3 (k + 1)))), (6, .int (nI k)), (2, .int (nI r)), (3, .int (nI b)), (0, .ref (ad 0)), (1, .ref (ad 114))]) X.1 X.2.1 dL_areProtests_104 hl (by decide) rfl (fun ls hl => ?_)
                        refine lv_iinc (v := nI (k + 1)) (lv' := [(6, .int (nI (k + 1))), (5, .int (nI (cuN A b 2 (k + 1)))), (4, .int (nI (cuN A b 3 (k + 1)))), (2, .int (nI r)), (3, .int (nI b)), (0, .ref (ad 0)), (1, .ref (ad 114))]) X.1 X.2.1 dL_areProtests_106 hl (k := 2) rfl (by first | exact nI_1 _ | exact nI_add _ _ | rfl) (by decide) rfl (fun ls hl => ?_)
                        refine lv_goto (tgt := 32) X.1 X.2.1 dL_areProtests_109 (by decide) ?_
                        exact ih2 (k + 1) F357 (by omega) (by omega) hT361 hO359 hfr _ _ hw _ (lv_sub hl [2, 1, 0, 3, 4, 5, 6] rfl)
                      · have n364 := (nI_eq (by omega) (by omega)).mp c362
                        refine lv_aload_n X.1 X.2.1 dL_areProtests_87 rfl (lv_at hl 5 rfl) ?_
                        refine lv_iload X.1 X.2.1 dL_areProtests_88 (lv_at hl 2 rfl) ?_
                        refine lv_iconst (v := nI 3) X.1 X.2.1 dL_areProtests_90 (by decide) ?_
                        refine x_callV X hK hw (k := 0) (As := [.int (nI k), .int (nI 3)]) (rest := [.int (nI (cuN A b 2 k))]) (w_protest hI (by omega) hO359 (nI k) (nI 3) (fun g t hE => a_pro3 hJ hc hk hE (by omega))) (x_cwV yX7_protest cX7_protest 3 (some .int) 2 X q813 q814 q815 q1 q816 hd_X7_protest ⟨(Nat.le_of_ble_eq_true rfl), (Nat.le_of_ble_eq_true rfl)⟩) (by omega) hO359.ma rfl rfl hl.1 rfl (Nat.le_of_ble_eq_true rfl) dL_areProtests_91 ⟨(Nat.le_of_ble_eq_true rfl), (Nat.le_of_ble_eq_true rfl)⟩ (fun v365 F366 H locs hp hw => ?_)
                        obtain ⟨e367, hO368, hf369⟩ := hp
                        refine x_top e367 ?_
                        have hT370 := (hf369 114 (by omega)).trans hT361
                        replace hfr := hfr.tr hf369 (by omega) (by omega)
                        refine lv_iconst (v := nI 2) X.1 X.2.1 dL_areProtests_94 (by decide) ?_
                        refine lv_icmp_ne (tgt := 102) X.1 X.2.1 dL_areProtests_95 (by decide) (fun c371 => ?_) (fun c371 => ?_)
                        · have n372 : ¬ (pA A k 3) = 2 := fun z => c371 ((nI_eq (by omega) (by omega)).mpr z)
                          refine lv_iconst (v := nI 0) X.1 X.2.1 dL_areProtests_102 (by decide) ?_
                          refine lv_iadd X.1 X.2.1 dL_areProtests_103 ?_
                          refine x_top (nI_add _ _) ?_
                          refine x_top (y := nI (cuN A b 2 (k + 1))) (congrArg nI (cu_z (fun z => n372 z.2))) ?_
                          refine lv_istore (lv' := [(5, .int (nI (cuN A b 2 (k + 1)))), (4, .int (nI (cuN A b 3 (k + 1)))), (6, .int (nI k)), (2, .int (nI r)), (3, .int (nI b)), (0, .ref (ad 0)), (1, .ref (ad 114))]) X.1 X.2.1 dL_areProtests_104 hl (by decide) rfl (fun ls hl => ?_)
                          refine lv_iinc (v := nI (k + 1)) (lv' := [(6, .int (nI (k + 1))), (5, .int (nI (cuN A b 2 (k + 1)))), (4, .int (nI (cuN A b 3 (k + 1)))), (2, .int (nI r)), (3, .int (nI b)), (0, .ref (ad 0)), (1, .ref (ad 114))]) X.1 X.2.1 dL_areProtests_106 hl (k := 2) rfl (by first | exact nI_1 _ | exact nI_add _ _ | rfl) (by decide) rfl (fun ls hl => ?_)
                          refine lv_goto (tgt := 32) X.1 X.2.1 dL_areProtests_109 (by decide) ?_
                          exact ih2 (k + 1) F366 (by omega) (by omega) hT370 hO368 hfr _ _ hw _ (lv_sub hl [2, 1, 0, 3, 4, 5, 6] rfl)
                        · have n373 := (nI_eq (by omega) (by omega)).mp c371
                          refine lv_iconst (v := nI 1) X.1 X.2.1 dL_areProtests_98 (by decide) ?_
                          refine lv_goto (tgt := 103) X.1 X.2.1 dL_areProtests_99 (by decide) ?_
                          refine lv_iadd X.1 X.2.1 dL_areProtests_103 ?_
                          refine x_top (nI_add _ _) ?_
                          refine x_top (y := nI (cuN A b 2 (k + 1))) (congrArg nI (cu_y ⟨n364, n373⟩)) ?_
                          refine lv_istore (lv' := [(5, .int (nI (cuN A b 2 (k + 1)))), (4, .int (nI (cuN A b 3 (k + 1)))), (6, .int (nI k)), (2, .int (nI r)), (3, .int (nI b)), (0, .ref (ad 0)), (1, .ref (ad 114))]) X.1 X.2.1 dL_areProtests_104 hl (by decide) rfl (fun ls hl => ?_)
                          refine lv_iinc (v := nI (k + 1)) (lv' := [(6, .int (nI (k + 1))), (5, .int (nI (cuN A b 2 (k + 1)))), (4, .int (nI (cuN A b 3 (k + 1)))), (2, .int (nI r)), (3, .int (nI b)), (0, .ref (ad 0)), (1, .ref (ad 114))]) X.1 X.2.1 dL_areProtests_106 hl (k := 2) rfl (by first | exact nI_1 _ | exact nI_add _ _ | rfl) (by decide) rfl (fun ls hl => ?_)
                          refine lv_goto (tgt := 32) X.1 X.2.1 dL_areProtests_109 (by decide) ?_
                          exact ih2 (k + 1) F366 (by omega) (by omega) hT370 hO368 hfr _ _ hw _ (lv_sub hl [2, 1, 0, 3, 4, 5, 6] rfl)
            exact loop32 (A 3) 0 F232 (by omega) (by omega) hT236 hO234 hfr _ _ hw _ (lv_sub hl [2, 1, 0, 3, 4, 5, 6] rfl)
    exact loop10 (A 1) 0 F122 (by omega) (by omega) hT126 hO124 hfr _ _ hw _ (lv_sub hl [1, 0, 2, 3] rfl)
