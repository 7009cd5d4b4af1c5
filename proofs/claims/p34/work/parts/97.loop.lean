/-! the law: its cell, its loop -/
theorem hd_L_cell : yL_cell.cls = RL ∧ yL_cell.cls ≠ "java/lang/invoke/MethodHandle" ∧ yL_cell.cls ≠ "java/lang/invoke/VarHandle" ∧ (parseMethodDescriptor yL_cell.desc).map (fun d => d.parameters.length) = some 2 := by decide +kernel
theorem hd_L_areRaces : yL_areRaces.cls = RL ∧ yL_areRaces.cls ≠ "java/lang/invoke/MethodHandle" ∧ yL_areRaces.cls ≠ "java/lang/invoke/VarHandle" ∧ (parseMethodDescriptor yL_areRaces.desc).map (fun d => d.parameters.length) = some 1 := by decide +kernel
theorem hd_L_areBoats : yL_areBoats.cls = RL ∧ yL_areBoats.cls ≠ "java/lang/invoke/MethodHandle" ∧ yL_areBoats.cls ≠ "java/lang/invoke/VarHandle" ∧ (parseMethodDescriptor yL_areBoats.desc).map (fun d => d.parameters.length) = some 1 := by decide +kernel
theorem hd_L_areProtests : yL_areProtests.cls = RL ∧ yL_areProtests.cls ≠ "java/lang/invoke/MethodHandle" ∧ yL_areProtests.cls ≠ "java/lang/invoke/VarHandle" ∧ (parseMethodDescriptor yL_areProtests.desc).map (fun d => d.parameters.length) = some 2 := by decide +kernel
theorem hd_L_act : yL_act.cls = RL ∧ yL_act.cls ≠ "java/lang/invoke/MethodHandle" ∧ yL_act.cls ≠ "java/lang/invoke/VarHandle" ∧ (parseMethodDescriptor yL_act.desc).map (fun d => d.parameters.length) = some 4 := by decide +kernel
theorem cell_w {p : Program} {l : Launch} {e : Env} {R : Room} {s : State} {m : MethodId} {args : Array Value} {below : List Frame} {meth : Method} {c : Code} {b L j : Nat} {xs : Nat → Int32} {ls : Array Slot} (X : CallFix p m c cL_cell 2 s args lw_g "RegattaTimesLaw") (hX : va_X b L xs s s.heap) (hbs : b < s.heap.size) (hL : L ≤ 260) (hj : j < 1000) (hr : meth.sig.returnType = some .int) (hlk : meth.locks = false) (hl : lv_has ls 2 [(0, .ref b), (1, .int (nI j))]) : W p l e R s m args below meth c s.heap [] 0 0 (MQ below (va_Qi (fun (_ : Int32) (_ : Unit) => True) (fun _ _ => True) (fun q => s.heap.size ≤ q)) args s 0 0 (fun q => s.heap.size ≤ q)) (F0 m 0 ls []) := by
  have hS : va_S (fun q => s.heap.size ≤ q) s.heap s.heap [] := va_S.rf
  have ret : ∀ v : Int32, W p l e R s m args below meth c s.heap [] 0 0 (MQ below (va_Qi (fun (_ : Int32) (_ : Unit) => True) (fun _ _ => True) (fun q => s.heap.size ≤ q)) args s 0 0 (fun q => s.heap.size ≤ q)) (F0 m 21 ls [.int v]) := fun v =>
    W.zret X.1 X.2.1 hr rfl (fun t ht hW => ⟨⟨v, (), rfl, trivial, trivial⟩, hS.F ht⟩) hS.2.2 dL_cell_21 hlk
  refine lv_iload_n X.1 X.2.1 dL_cell_0 rfl (lv_at hl 1 rfl) ?_
  refine lv_aload_n X.1 X.2.1 dL_cell_1 rfl (lv_at hl 0 rfl) ?_
  refine va_slen X.1 X.2.1 hX hbs (Nat.not_le.mpr hbs) hS dL_cell_2 ?_
  refine lv_icmp_ge (tgt := 12) X.1 X.2.1 dL_cell_3 (by decide) (fun c1 => ?_) (fun c1 => ?_)
  · refine lv_ldc (v := 799663575) X.1 X.2.1 X.2.2.2.1 (X.2.2.2.2 _ q1377) dL_cell_12 ?_
    refine lv_iload_n X.1 X.2.1 dL_cell_14 rfl (lv_at hl 1 rfl) ?_
    refine lv_iconst (v := nI 5) X.1 X.2.1 dL_cell_15 (by decide) ?_
    refine lv_iadd X.1 X.2.1 dL_cell_16 ?_
    refine lv_imul X.1 X.2.1 dL_cell_17 ?_
    refine lv_ldc (v := 935441365) X.1 X.2.1 X.2.2.2.1 (X.2.2.2.2 _ q1378) dL_cell_18 ?_
    refine lv_iadd X.1 X.2.1 dL_cell_20 ?_
    exact ret _
  · have hjl : j < L := Nat.lt_of_not_le fun z => c1 ((nI_leI (a := L) (b := j) (by omega) (by omega)).mpr z)
    refine lv_aload_n X.1 X.2.1 dL_cell_6 rfl (lv_at hl 0 rfl) ?_
    refine lv_iload_n X.1 X.2.1 dL_cell_7 rfl (lv_at hl 1 rfl) ?_
    refine va_sld X.1 X.2.1 hX hbs (Nat.not_le.mpr hbs) hS (vp_in_nI hjl (by omega)) dL_cell_8 ?_
    refine lv_goto (tgt := 21) X.1 X.2.1 dL_cell_9 (by decide) ?_
    exact ret _
theorem k_L_cell {l : Launch} {b L j : Nat} {xs : Nat → Int32} (hL : L ≤ 260) (hj : j < 1000) (sz : Nat) : Met l yL_cell (Cond.code yL_cell cL_cell 2 (some .int) :: lw_g) { frames := 0, cells := 0, slots := 0, locals := 0 } (va_Pc [.ref b, .int (nI j)] (fun U => U.heap.size = sz ∧ b < sz ∧ va_X b L xs U U.heap)) (va_Qi (fun (_ : Int32) (_ : Unit) => True) (fun _ _ => True) (fun q => sz ≤ q)) 0 0 (fun q => sz ≤ q) := by
  refine Met.ofW (cc := cL_cell) (maxL := 2) (ret := some .int) (by decide +kernel) rfl ?_
  intro p e s m args below meth c s₁ B hml hv
  obtain ⟨rfl, hsz, hb, hX⟩ := hv
  subst hsz
  have hts0 := atoms_spec (ws := Cond.code yL_cell cL_cell 2 (some .int) :: lw_g) B.pre
  rw [lg_entry_eq]
  exact cell_w ⟨B.exec, B.bytes, hml, findClass_of_methodNamed B.named, fun w hw => hts0 w (List.mem_cons_of_mem _ hw)⟩ hX hb hL hj B.returns B.notSynchronized (lv_entry [Value.ref b, Value.int (nI j)] (Nat.le_of_ble_eq_true rfl))
theorem x_cell {p : Program} {l : Launch} {e : Env} {s : State} {m : MethodId} {below : List Frame} {meth : Method} {c : Code} {Q : State → Prop} {D : va_G} {cI cB cS : ClassId} {b L : Nat} {xs : Nat → Int32} (X : CallFix p m c cL_law 8 s #[Value.ref b] lw_g "RegattaTimesLaw") (hK : KW D cI cB cS (lA s) s) (hX : va_X b L xs s s.heap) (hbs : b < s.heap.size) (hL : L ≤ 260) {ad : Nat → Nat} {N : Nat} {F : Nat → va_E} {H : Heap} {locs : List Loc} {cells slots pc j : Nat} {ls : Array Slot} {rest : List Value} (hw : HW D (lA s) ad N F s H locs) (hl : ls.size = 8) (hj : j < 1000) (hr : (rest.map fun v => v.category).sum ≤ 8) (hdg : decode cL_law pc = .ok (.invokestatic 133, 3)) (hcs : cells ≤ room_1.cells ∧ slots ≤ room_1.slots)
    (kk : ∀ (r : Int32) (H' : Heap) (locs' : List Loc), HW D (lA s) ad N F s H' locs' → W p l e room_1 s m #[Value.ref b] below meth c H' locs' cells slots Q (F0 m (pc + 3) ls (.int r :: rest))) : W p l e room_1 s m #[Value.ref b] below meth c H locs cells slots Q (F0 m pc ls (.int (nI j) :: .ref b :: rest)) :=
  va_calli (va_runS (As := [.ref b, .int (nI j)]) (rest := rest) X (k_L_cell (b := b) (xs := xs) hL hj H.size) (x_cwS yL_cell cL_cell 2 (some .int) 2 X q1374 q1375 q0 q1376 hd_L_cell ⟨(Nat.le_of_ble_eq_true rfl), (Nat.le_of_ble_eq_true rfl)⟩) ⟨fun a U g mk q => ⟨q.1, q.2.1, q.2.2.1, va_X.moved (u := U) (U := U.calling g mk a) (Vm.Alike.refl U.vm) q.2.2.2⟩, fun U hU hW => ⟨rfl, by rw [hU], Nat.lt_of_lt_of_le hbs hw.2.1.1, by rw [hU]; exact (va_X.moved hW.alike hX).kept (hw.2.1.2.1 b hbs (Nat.not_le.mpr hbs))⟩⟩ rfl rfl hl rfl (lv_room hr) hdg hcs) hw.2.1 (fun q h1 h2 => absurd h2 (Nat.not_le.mpr h1)) (fun q h => Nat.le_trans hw.2.1.1 h) (fun r _ t H1 locs1 ht _ _ _ _ hk hS => kk r H1 locs1 ⟨hw.1.kept (fun k x hx => hk x.1 (hw.1 k x hx).lt (Nat.not_le.mpr (hw.1 k x hx).lt)), hS, hw.2.2⟩)
/-- what holds before the act i -/
def LI (D : va_G) (cI cB cS : ClassId) (s : State) (b i : Nat) (ad : Nat → Nat) (F : Nat → va_E) (H : Heap) (locs : List Loc) (ls : Array Slot) : Prop := iN ad 115 ∧ HW D (lA s) ad 115 F s H locs ∧ lv_has ls 8 [(0, .ref b), (1, .ref (ad 0)), (2, .ref (ad 114)), (3, .int (nI i))] ∧ ∃ hs A A3 f, HJ i A ∧ A 0 ≤ 130 * i ∧ OB ad cI cB cS F hs A A3 ∧ F 114 = .inl (cI, 10, .inl f) ∧ ∀ k, k < 10 → f k = nI (tN A k)
abbrev LK (p : Program) (l : Launch) (e : Env) (s : State) (m : MethodId) (below : List Frame) (meth : Method) (c : Code) (Q : State → Prop) (D : va_G) (cI cB cS : ClassId) (b i cells slots pc : Nat) : Prop := ∀ ad F H locs ls, LI D cI cB cS s b i ad F H locs ls → W p l e room_1 s m #[Value.ref b] below meth c H locs cells slots Q (F0 m pc ls [])
set_option maxHeartbeats 4000000 in
set_option maxRecDepth 100000 in
theorem lw_tail {p : Program} {l : Launch} {e : Env} {s : State} {m : MethodId} {below : List Frame} {meth : Method} {c : Code} {Q : State → Prop} {D : va_G} {cI cB cS : ClassId} {b L : Nat} {xs : Nat → Int32} (X : CallFix p m c cL_law 8 s #[Value.ref b] lw_g "RegattaTimesLaw") (hK : KW D cI cB cS (lA s) s) (hX : va_X b L xs s s.heap) (hbs : b < s.heap.size) (hL : L ≤ 260) {i cells slots : Nat} {ad : Nat → Nat} {F : Nat → va_E} {H : Heap} {locs : List Loc} {ls : Array Slot} {A B A3 : Nat → Nat} {hs : Int32} {f : Nat → Int32} {T : Nat → Nat} {v k : Int32} (hI : iN ad 115) (hi : i < 80) (hf0 : cells ≤ room_1.cells ∧ slots ≤ room_1.slots) (jB : HJ (i + 1) B) (hB : B 0 ≤ 130 * (i + 1)) (hO : OB ad cI cB cS F hs B A3) (hT : F 114 = .inl (cI, 10, .inl f)) (hTv : ∀ k, k < 10 → f k = nI (T k)) (hTle : ∀ k, k < B 3 → T k ≤ pA B k 3) (hw : HW D (lA s) ad 115 F s H locs) (hl : lv_has ls 8 [(7, .int k), (6, .int (nI (A 3))), (5, .int (nI (A 2))), (4, .int v), (0, .ref b), (1, .ref (ad 0)), (2, .ref (ad 114)), (3, .int (nI i))]) (kk : LK p l e s m below meth c Q D cI cB cS b (i + 1) cells slots 50) : W p l e room_1 s m #[Value.ref b] below meth c H locs cells slots Q (F0 m 150 ls []) := by
  have k200 : i + 1 ≤ 512 := by omega
  have k9 : B 0 ≤ 999999 := by omega
  refine lv_aload_n X.1 X.2.1 dL_law_150 rfl (lv_at hl 5 rfl) ?_
  refine lv_aload_n X.1 X.2.1 dL_law_151 rfl (lv_at hl 6 rfl) ?_
  refine x_callS X hK hw (As := [.ref (ad 0), .ref (ad 114)]) (rest := []) (k_L_areProtests hI (by omega) jB k200 k9 hO hT hTv hTle) (x_cwS yL_areProtests cL_areProtests 7 (some .boolean) 2 X q1388 q1389 q0 q1390 hd_L_areProtests ⟨(Nat.le_of_ble_eq_true rfl), (Nat.le_of_ble_eq_true rfl)⟩) rfl hl.1 rfl (Nat.le_of_ble_eq_true rfl) dL_law_152 hf0 (fun v F1 H locs hp hw => ?_)
  obtain ⟨rfl, hO, ⟨f', hT', hf'⟩, hfr⟩ := hp
  clear hT hTv hTle
  have w181 : ∀ (F : Nat → va_E) (H : Heap) (locs : List Loc), HW D (lA s) ad 115 F s H locs → OB ad cI cB cS F hs B A3 → F 114 = .inl (cI, 10, .inl f') → W p l e room_1 s m #[Value.ref b] below meth c H locs cells slots Q (F0 m 181 ls []) := by
    intro F H locs hw hO hT'
    refine lv_iinc (v := nI (i + 1)) (lv' := [(3, .int (nI (i + 1))), (7, .int k), (6, .int (nI (A 3))), (5, .int (nI (A 2))), (4, .int v), (0, .ref b), (1, .ref (ad 0)), (2, .ref (ad 114))]) X.1 X.2.1 dL_law_181 hl (k := 7) rfl (nI_1 _) (by decide) rfl (fun ls hl => ?_)
    refine lv_goto (tgt := 50) X.1 X.2.1 dL_law_184 (by decide) ?_
    exact kk ad F H locs ls ⟨hI, hw, lv_sub hl [5, 6, 7, 0] rfl, hs, B, A3, f', jB, hB, hO, hT', hf'⟩
  refine lv_if_eq (tgt := 179) X.1 X.2.1 dL_law_155 (by decide) (fun z => absurd z (by decide)) (fun _ => ?_)
  refine lv_iload_n X.1 X.2.1 dL_law_158 rfl (lv_at hl 7 rfl) ?_
  refine lv_iconst (v := nI 4) X.1 X.2.1 dL_law_159 (by decide) ?_
  refine lv_irem X.1 X.2.1 dL_law_160 (by decide) ?_
  refine lv_iconst (v := nI 3) X.1 X.2.1 dL_law_161 (by decide) ?_
  refine lv_icmp_ne (tgt := 181) X.1 X.2.1 dL_law_162 (by decide) (fun _ => w181 F1 H locs hw hO hT') (fun _ => ?_)
  refine lv_aload_n X.1 X.2.1 dL_law_165 rfl (lv_at hl 5 rfl) ?_
  refine x_callS X hK hw (As := [.ref (ad 0)]) (rest := []) (k_L_areRaces hI (by omega) jB k200 k9 hO) (x_cwS yL_areRaces cL_areRaces 7 (some .boolean) 1 X q1379 q1380 q0 q1381 hd_L_areRaces ⟨(Nat.le_of_ble_eq_true rfl), (Nat.le_of_ble_eq_true rfl)⟩) rfl hl.1 rfl (Nat.le_of_ble_eq_true rfl) dL_law_166 hf0 (fun v F2 H locs hp hw => ?_)
  obtain ⟨rfl, hO, hf2⟩ := hp
  have hT2 := (hf2 114 (by omega)).trans hT'
  refine lv_if_eq (tgt := 179) X.1 X.2.1 dL_law_169 (by decide) (fun z => absurd z (by decide)) (fun _ => ?_)
  refine lv_aload_n X.1 X.2.1 dL_law_172 rfl (lv_at hl 5 rfl) ?_
  refine x_callS X hK hw (As := [.ref (ad 0)]) (rest := []) (k_L_areBoats hI (by omega) jB k200 k9 hO) (x_cwS yL_areBoats cL_areBoats 13 (some .boolean) 1 X q1385 q1386 q0 q1387 hd_L_areBoats ⟨(Nat.le_of_ble_eq_true rfl), (Nat.le_of_ble_eq_true rfl)⟩) rfl hl.1 rfl (Nat.le_of_ble_eq_true rfl) dL_law_173 hf0 (fun v F3 H locs hp hw => ?_)
  obtain ⟨rfl, hO, hf3⟩ := hp
  have hT3 := (hf3 114 (by omega)).trans hT2
  exact lv_if_ne (tgt := 181) X.1 X.2.1 dL_law_176 (by decide) (fun _ => w181 F3 H locs hw hO hT3) (fun z => absurd z (by decide))
set_option maxHeartbeats 4000000 in
set_option maxRecDepth 100000 in
theorem lw_clear {p : Program} {l : Launch} {e : Env} {s : State} {m : MethodId} {below : List Frame} {meth : Method} {c : Code} {Q : State → Prop} {D : va_G} {cI cB cS : ClassId} {b L : Nat} {xs : Nat → Int32} (X : CallFix p m c cL_law 8 s #[Value.ref b] lw_g "RegattaTimesLaw") (hK : KW D cI cB cS (lA s) s) (hX : va_X b L xs s s.heap) (hbs : b < s.heap.size) (hL : L ≤ 260) {i cells slots : Nat} {ad : Nat → Nat} {A B A3 : Nat → Nat} {hs : Int32} {v : Int32} (hI : iN ad 115) (hi : i < 80) (hA2 : A 2 ≤ 6) (hA3 : A 3 ≤ 10) (hf0 : cells ≤ room_1.cells ∧ slots ≤ room_1.slots) (jB : HJ (i + 1) B) (hB : B 0 ≤ 130 * (i + 1)) (hch : B 2 ≠ A 2 ∨ B 3 < A 3) (kk : LK p l e s m below meth c Q D cI cB cS b (i + 1) cells slots 50) : ∀ (fu k : Nat) (F : Nat → va_E) (H : Heap) (locs : List Loc) (ls : Array Slot) (f : Nat → Int32), k + fu = 10 → OB ad cI cB cS F hs B A3 → F 114 = .inl (cI, 10, .inl f) → (∀ j, j < k → f j = nI 0) → HW D (lA s) ad 115 F s H locs → lv_has ls 8 [(7, .int (nI k)), (6, .int (nI (A 3))), (5, .int (nI (A 2))), (4, .int v), (0, .ref b), (1, .ref (ad 0)), (2, .ref (ad 114)), (3, .int (nI i))] → W p l e room_1 s m #[Value.ref b] below meth c H locs cells slots Q (F0 m 112 ls []) := by
  have k200 : i + 1 ≤ 512 := by omega
  have k9 : B 0 ≤ 999999 := by omega
  have hB2 := jB.1.2.1
  have hB3 := jB.1.2.2.1
  intro fu
  induction fu with
  | zero =>
    intro k F H locs ls f hfu hO hT hz hw hl
    refine lv_iload X.1 X.2.1 dL_law_112 (lv_at hl 0 rfl) ?_
    refine lv_bipush (v := nI 10) X.1 X.2.1 dL_law_114 (by decide) ?_
    refine lv_icmp_ge (tgt := 150) X.1 X.2.1 dL_law_116 (by decide) (fun _ => ?_) (fun z => absurd ((nI_leI (a := 10) (b := k) (by omega) (by omega)).mpr (by omega)) z)
    exact lw_tail X hK hX hbs hL (T := fun _ => 0) hI hi hf0 jB hB hO hT (fun j hj => hz j (by omega)) (fun j _ => Nat.zero_le _) hw hl kk
  | succ fu ih =>
    intro k F H locs ls f hfu hO hT hz hw hl
    refine lv_iload X.1 X.2.1 dL_law_112 (lv_at hl 0 rfl) ?_
    refine lv_bipush (v := nI 10) X.1 X.2.1 dL_law_114 (by decide) ?_
    refine lv_icmp_ge (tgt := 150) X.1 X.2.1 dL_law_116 (by decide) (fun z => absurd ((nI_leI (a := 10) (b := k) (by omega) (by omega)).mp z) (by omega)) (fun _ => ?_)
    have w139 : ∀ (F : Nat → va_E) (H : Heap) (locs : List Loc), HW D (lA s) ad 115 F s H locs → OB ad cI cB cS F hs B A3 → F 114 = .inl (cI, 10, .inl f) → W p l e room_1 s m #[Value.ref b] below meth c H locs cells slots Q (F0 m 139 ls []) := by
      intro F H locs hw hO hT
      refine lv_aload_n X.1 X.2.1 dL_law_139 rfl (lv_at hl 6 rfl) ?_
      refine lv_iload X.1 X.2.1 dL_law_140 (lv_at hl 0 rfl) ?_
      refine lv_iconst (v := nI 0) X.1 X.2.1 dL_law_142 (by decide) ?_
      refine x_iastN2 X hI hK hw (k := 114) (by omega) hT (i := nI k) (j := k) rfl (by omega) (by omega) dL_law_143 (fun F1 H locs eF hw => ?_)
      refine lv_iinc (v := nI (k + 1)) (lv' := [(7, .int (nI (k + 1))), (6, .int (nI (A 3))), (5, .int (nI (A 2))), (4, .int v), (0, .ref b), (1, .ref (ad 0)), (2, .ref (ad 114)), (3, .int (nI i))]) X.1 X.2.1 dL_law_144 hl (k := 0) rfl (nI_1 _) (by decide) rfl (fun ls hl => ?_)
      refine lv_goto (tgt := 112) X.1 X.2.1 dL_law_147 (by decide) ?_
      have hr : Fr F F1 114 115 := fr_eq eF (Nat.le_refl _) (Nat.lt_succ_self _)
      refine ih (k + 1) F1 H locs ls (upd f k (nI 0)) (by omega) (hO.cg hr (Nat.le_refl _)) (by rw [eF]; exact up_at) (fun j hj => ?_) hw hl
      show (if j = k then nI 0 else f j) = nI 0
      split
      · rfl
      · exact hz j (by omega)
    refine lv_aload_n X.1 X.2.1 dL_law_119 rfl (lv_at hl 5 rfl) ?_
    refine lv_iconst (v := nI 1) X.1 X.2.1 dL_law_120 (by decide) ?_
    refine x_callV X hK hw (k := 0) (As := [.int (nI 1)]) (rest := []) (w_count hI (by omega) hO (nI 1) (fun g t z n hE => a_cou1 jB k200 k9 hE z n)) (x_cwV yX7_count cX7_count 2 (some .int) 1 X q818 q819 q820 q1 q821 hd_X7_count ⟨(Nat.le_of_ble_eq_true rfl), (Nat.le_of_ble_eq_true rfl)⟩) (by omega) hO.ma rfl rfl hl.1 rfl (Nat.le_of_ble_eq_true rfl) dL_law_121 hf0 (fun v F1 H locs hp hw => ?_)
    obtain ⟨rfl, hO, hf1⟩ := hp
    have hT1 := (hf1 114 (by omega)).trans hT
    refine lv_iload X.1 X.2.1 dL_law_124 (lv_at hl 2 rfl) ?_
    refine lv_icmp_ne (tgt := 139) X.1 X.2.1 dL_law_126 (by decide) (fun _ => w139 F1 H locs hw hO hT1) (fun z => ?_)
    have z2 : B 2 = A 2 := (nI_eq (by omega) (by omega)).mp z
    refine lv_aload_n X.1 X.2.1 dL_law_129 rfl (lv_at hl 5 rfl) ?_
    refine lv_iconst (v := nI 5) X.1 X.2.1 dL_law_130 (by decide) ?_
    refine x_callV X hK hw (k := 0) (As := [.int (nI 5)]) (rest := []) (w_count hI (by omega) hO (nI 5) (fun g t z n hE => a_cou5 jB k200 k9 hE z n)) (x_cwV yX7_count cX7_count 2 (some .int) 1 X q818 q819 q820 q1 q821 hd_X7_count ⟨(Nat.le_of_ble_eq_true rfl), (Nat.le_of_ble_eq_true rfl)⟩) (by omega) hO.ma rfl rfl hl.1 rfl (Nat.le_of_ble_eq_true rfl) dL_law_131 hf0 (fun v F2 H locs hp hw => ?_)
    obtain ⟨rfl, hO, hf2⟩ := hp
    have hT2 := (hf2 114 (by omega)).trans hT1
    refine lv_iload X.1 X.2.1 dL_law_134 (lv_at hl 1 rfl) ?_
    exact lv_icmp_ge (tgt := 150) X.1 X.2.1 dL_law_136 (by decide) (fun q => absurd ((nI_leI (a := A 3) (b := B 3) (by omega) (by omega)).mp q) (by omega)) (fun _ => w139 F2 H locs hw hO hT2)
set_option maxHeartbeats 4000000 in
set_option maxRecDepth 100000 in
theorem lw_body {p : Program} {l : Launch} {e : Env} {s : State} {m : MethodId} {below : List Frame} {meth : Method} {c : Code} {Q : State → Prop} {D : va_G} {cI cB cS : ClassId} {b L : Nat} {xs : Nat → Int32} (X : CallFix p m c cL_law 8 s #[Value.ref b] lw_g "RegattaTimesLaw") (hK : KW D cI cB cS (lA s) s) (hX : va_X b L xs s s.heap) (hbs : b < s.heap.size) (hL : L ≤ 260) {i cells slots : Nat} (hi : i < 80) (hf : cells + 1 ≤ 600000 ∧ slots + 9 ≤ 7302250) (kk : LK p l e s m below meth c Q D cI cB cS b (i + 1) (cells + 1) (slots + 9) 50) : LK p l e s m below meth c Q D cI cB cS b i cells slots 56 := by
  intro ad F H locs ls hh
  obtain ⟨hI, hw, hl, hs, A, A3, f, hJ, h0, hO, hT, hTv⟩ := hh
  have hf0 : cells ≤ room_1.cells ∧ slots ≤ room_1.slots := by show cells ≤ 600000 ∧ slots ≤ 7302250; omega
  have hf1 : cells + 1 ≤ room_1.cells ∧ slots + 9 ≤ room_1.slots := hf
  have k200 : i ≤ 200 := by omega
  have k512 : i ≤ 512 := by omega
  have k9 : A 0 ≤ 999999 := by omega
  have k5 : A 0 ≤ 100000 := by omega
  have hA2 := hJ.1.2.1
  have hA3 := hJ.1.2.2.1
  have w72 : ∀ (v : Int32) (H : Heap) (locs : List Loc), HW D (lA s) ad 115 F s H locs → W p l e room_1 s m #[Value.ref b] below meth c H locs cells slots Q (F0 m 72 ls [.int v]) := by
    intro v H locs hw
    refine lv_istore (lv' := [(4, .int v), (0, .ref b), (1, .ref (ad 0)), (2, .ref (ad 114)), (3, .int (nI i))]) X.1 X.2.1 dL_law_72 hl (by decide) rfl (fun ls hl => ?_)
    refine lv_aload_n X.1 X.2.1 dL_law_74 rfl (lv_at hl 2 rfl) ?_
    refine lv_iconst (v := nI 1) X.1 X.2.1 dL_law_75 (by decide) ?_
    refine x_callV X hK hw (k := 0) (As := [.int (nI 1)]) (rest := []) (w_count hI (by omega) hO (nI 1) (fun g t z n hE => a_cou1 hJ k512 k9 hE z n)) (x_cwV yX7_count cX7_count 2 (some .int) 1 X q818 q819 q820 q1 q821 hd_X7_count ⟨(Nat.le_of_ble_eq_true rfl), (Nat.le_of_ble_eq_true rfl)⟩) (by omega) hO.ma rfl rfl hl.1 rfl (Nat.le_of_ble_eq_true rfl) dL_law_76 hf0 (fun v1 F1 H locs hp hw => ?_)
    obtain ⟨rfl, hO1, hfa⟩ := hp
    have hT1 := (hfa 114 (by omega)).trans hT
    refine lv_istore (lv' := [(5, .int (nI (A 2))), (4, .int v), (0, .ref b), (1, .ref (ad 0)), (2, .ref (ad 114)), (3, .int (nI i))]) X.1 X.2.1 dL_law_79 hl (by decide) rfl (fun ls hl => ?_)
    refine lv_aload_n X.1 X.2.1 dL_law_81 rfl (lv_at hl 3 rfl) ?_
    refine lv_iconst (v := nI 5) X.1 X.2.1 dL_law_82 (by decide) ?_
    refine x_callV X hK hw (k := 0) (As := [.int (nI 5)]) (rest := []) (w_count hI (by omega) hO1 (nI 5) (fun g t z n hE => a_cou5 hJ k512 k9 hE z n)) (x_cwV yX7_count cX7_count 2 (some .int) 1 X q818 q819 q820 q1 q821 hd_X7_count ⟨(Nat.le_of_ble_eq_true rfl), (Nat.le_of_ble_eq_true rfl)⟩) (by omega) hO1.ma rfl rfl hl.1 rfl (Nat.le_of_ble_eq_true rfl) dL_law_83 hf0 (fun v2 F2 H locs hp hw => ?_)
    obtain ⟨rfl, hO2, hfb⟩ := hp
    have hT2 := (hfb 114 (by omega)).trans hT1
    refine lv_istore (lv' := [(6, .int (nI (A 3))), (5, .int (nI (A 2))), (4, .int v), (0, .ref b), (1, .ref (ad 0)), (2, .ref (ad 114)), (3, .int (nI i))]) X.1 X.2.1 dL_law_86 hl (by decide) rfl (fun ls hl => ?_)
    refine lv_aload_n X.1 X.2.1 dL_law_88 rfl (lv_at hl 4 rfl) ?_
    refine lv_iload X.1 X.2.1 dL_law_89 (lv_at hl 2 rfl) ?_
    refine lv_aload_n X.1 X.2.1 dL_law_91 rfl (lv_at hl 3 rfl) ?_
    refine lv_iconst (v := nI 2) X.1 X.2.1 dL_law_92 (by decide) ?_
    refine lv_iload_n X.1 X.2.1 dL_law_93 rfl (lv_at hl 6 rfl) ?_
    refine lv_imul X.1 X.2.1 dL_law_94 ?_
    refine x_top (pk_mul _ _) ?_
    refine lv_iconst (v := nI 1) X.1 X.2.1 dL_law_95 (by decide) ?_
    refine lv_iadd X.1 X.2.1 dL_law_96 ?_
    refine x_top (nI_add _ _) ?_
    refine x_cell X hK hX hbs hL hw hl.1 (by omega) (Nat.le_of_ble_eq_true rfl) dL_law_97 hf0 (fun r H locs hw => ?_)
    refine lv_aload_n X.1 X.2.1 dL_law_100 rfl (lv_at hl 5 rfl) ?_
    refine x_callSn X hK hw (As := [.ref (ad 0), .int v, .int r, .ref (ad 114)]) (rest := []) (k_L_act hI hJ k200 k9 hO2 k5 v r) (x_cwSn yL_act cL_act 10 (some .boolean) 4 X q1391 q1392 q0 q1393 hd_L_act ⟨(Nat.le_of_ble_eq_true rfl), (Nat.le_of_ble_eq_true rfl)⟩) rfl hl.1 rfl (Nat.le_of_ble_eq_true rfl) dL_law_101 hf1 (fun z F3 H locs hp hw => ?_)
    obtain ⟨rfl, ⟨B, hs', A3', jB, hB0, hBx, hOB⟩, hfc⟩ := hp
    have hT3 := (hfc 114 (by omega)).trans hT2
    have hB1 : B 0 ≤ 130 * (i + 1) := by omega
    refine lv_if_ne (tgt := 109) X.1 X.2.1 dL_law_104 (by decide) (fun _ => ?_) (fun z => absurd z (by decide))
    refine lv_iconst (v := nI 0) X.1 X.2.1 dL_law_109 (by decide) ?_
    refine lv_istore (lv' := [(7, .int (nI 0)), (6, .int (nI (A 3))), (5, .int (nI (A 2))), (4, .int v), (0, .ref b), (1, .ref (ad 0)), (2, .ref (ad 114)), (3, .int (nI i))]) X.1 X.2.1 dL_law_110 hl (by decide) rfl (fun ls hl => ?_)
    have hB2 := jB.1.2.1
    have hB3 := jB.1.2.2.1
    by_cases hch : B 2 ≠ A 2 ∨ B 3 < A 3
    · exact lw_clear X hK hX hbs hL hI hi hA2 hA3 hf1 jB hB1 hch kk 10 0 F3 H locs ls f rfl hOB hT3 (fun j hj => absurd hj (Nat.not_lt_zero _)) hw hl
    · have e2 : B 2 = A 2 := by omega
      have e3 : A 3 ≤ B 3 := by omega
      have hle : ∀ k, k < A 3 → pA A k 3 ≤ pA B k 3 := by
        rcases hBx with q | q | q
        · exact absurd e2 q
        · omega
        · exact q
      have b512 : i + 1 ≤ 512 := by omega
      have b9 : B 0 ≤ 999999 := by omega
      have hf0 := hf1
      refine lv_iload X.1 X.2.1 dL_law_112 (lv_at hl 0 rfl) ?_
      refine lv_bipush (v := nI 10) X.1 X.2.1 dL_law_114 (by decide) ?_
      refine lv_icmp_ge (tgt := 150) X.1 X.2.1 dL_law_116 (by decide) (fun z => absurd z (by decide)) (fun _ => ?_)
      refine lv_aload_n X.1 X.2.1 dL_law_119 rfl (lv_at hl 5 rfl) ?_
      refine lv_iconst (v := nI 1) X.1 X.2.1 dL_law_120 (by decide) ?_
      refine x_callV X hK hw (k := 0) (As := [.int (nI 1)]) (rest := []) (w_count hI (by omega) hOB (nI 1) (fun g t z n hE => a_cou1 jB b512 b9 hE z n)) (x_cwV yX7_count cX7_count 2 (some .int) 1 X q818 q819 q820 q1 q821 hd_X7_count ⟨(Nat.le_of_ble_eq_true rfl), (Nat.le_of_ble_eq_true rfl)⟩) (by omega) hOB.ma rfl rfl hl.1 rfl (Nat.le_of_ble_eq_true rfl) dL_law_121 hf0 (fun v1 F4 H locs hp hw => ?_)
      obtain ⟨rfl, hO4, hfd⟩ := hp
      have hT4 := (hfd 114 (by omega)).trans hT3
      refine lv_iload X.1 X.2.1 dL_law_124 (lv_at hl 2 rfl) ?_
      refine lv_icmp_ne (tgt := 139) X.1 X.2.1 dL_law_126 (by decide) (fun z => absurd (congrArg nI e2) z) (fun _ => ?_)
      refine lv_aload_n X.1 X.2.1 dL_law_129 rfl (lv_at hl 5 rfl) ?_
      refine lv_iconst (v := nI 5) X.1 X.2.1 dL_law_130 (by decide) ?_
      refine x_callV X hK hw (k := 0) (As := [.int (nI 5)]) (rest := []) (w_count hI (by omega) hO4 (nI 5) (fun g t z n hE => a_cou5 jB b512 b9 hE z n)) (x_cwV yX7_count cX7_count 2 (some .int) 1 X q818 q819 q820 q1 q821 hd_X7_count ⟨(Nat.le_of_ble_eq_true rfl), (Nat.le_of_ble_eq_true rfl)⟩) (by omega) hO4.ma rfl rfl hl.1 rfl (Nat.le_of_ble_eq_true rfl) dL_law_131 hf0 (fun v1 F5 H locs hp hw => ?_)
      obtain ⟨rfl, hO5, hfe⟩ := hp
      have hT5 := (hfe 114 (by omega)).trans hT4
      refine lv_iload X.1 X.2.1 dL_law_134 (lv_at hl 1 rfl) ?_
      refine lv_icmp_ge (tgt := 150) X.1 X.2.1 dL_law_136 (by decide) (fun _ => ?_) (fun q => absurd ((nI_leI (a := A 3) (b := B 3) (by omega) (by omega)).mpr e3) q)
      refine lw_tail X hK hX hbs hL (T := tN A) hI hi hf1 jB hB1 hO5 hT5 hTv (fun k hk => ?_) hw hl kk
      unfold tN
      split
      · exact hle k ‹_›
      · exact Nat.zero_le _
  refine lv_iload_n X.1 X.2.1 dL_law_56 rfl (lv_at hl 3 rfl) ?_
  refine lv_iconst (v := nI 2) X.1 X.2.1 dL_law_57 (by decide) ?_
  refine lv_icmp_ge (tgt := 65) X.1 X.2.1 dL_law_58 (by decide) (fun _ => ?_) (fun _ => ?_)
  · refine lv_aload_n X.1 X.2.1 dL_law_65 rfl (lv_at hl 0 rfl) ?_
    refine lv_iconst (v := nI 2) X.1 X.2.1 dL_law_66 (by decide) ?_
    refine lv_iload_n X.1 X.2.1 dL_law_67 rfl (lv_at hl 3 rfl) ?_
    refine lv_imul X.1 X.2.1 dL_law_68 ?_
    refine x_top (pk_mul _ _) ?_
    exact x_cell X hK hX hbs hL hw hl.1 (by omega) (Nat.le_of_ble_eq_true rfl) dL_law_69 hf0 (fun r H locs hw => w72 r H locs hw)
  · refine lv_iconst (v := nI 0) X.1 X.2.1 dL_law_61 (by decide) ?_
    refine lv_goto (tgt := 72) X.1 X.2.1 dL_law_62 (by decide) ?_
    exact w72 _ H locs hw
theorem lw_loop {p : Program} {l : Launch} {e : Env} {s : State} {m : MethodId} {below : List Frame} {meth : Method} {c : Code} {Q : State → Prop} {D : va_G} {cI cB cS : ClassId} {b L : Nat} {xs : Nat → Int32} (X : CallFix p m c cL_law 8 s #[Value.ref b] lw_g "RegattaTimesLaw") (hK : KW D cI cB cS (lA s) s) (hX : va_X b L xs s s.heap) (hbs : b < s.heap.size) (hL : L ≤ 260) (kend : LK p l e s m below meth c Q D cI cB cS b 80 (115 + 80) (3767 + 9 * 80) 187) : ∀ fu i, i + fu = 80 → LK p l e s m below meth c Q D cI cB cS b i (115 + i) (3767 + 9 * i) 50 := by
  intro fu
  induction fu with
  | zero =>
    intro i hc ad F H locs ls hh
    obtain rfl : i = 80 := by omega
    have hl := hh.2.2.1
    refine lv_iload_n X.1 X.2.1 dL_law_50 rfl (lv_at hl 3 rfl) ?_
    refine lv_bipush (v := nI 80) X.1 X.2.1 dL_law_51 (by decide) ?_
    exact lv_icmp_ge (tgt := 187) X.1 X.2.1 dL_law_53 (by decide) (fun _ => kend ad F H locs ls hh) (fun z => absurd ((nI_leI (a := 80) (b := 80) (by omega) (by omega)).mpr (Nat.le_refl _)) z)
  | succ fu ih =>
    intro i hc ad F H locs ls hh
    have ih2 := ih (i + 1) (by omega)
    rw [show 115 + (i + 1) = 115 + i + 1 by omega, show 3767 + 9 * (i + 1) = 3767 + 9 * i + 9 by omega] at ih2
    have hl := hh.2.2.1
    refine lv_iload_n X.1 X.2.1 dL_law_50 rfl (lv_at hl 3 rfl) ?_
    refine lv_bipush (v := nI 80) X.1 X.2.1 dL_law_51 (by decide) ?_
    exact lv_icmp_ge (tgt := 187) X.1 X.2.1 dL_law_53 (by decide) (fun z => absurd ((nI_leI (a := 80) (b := i) (by omega) (by omega)).mp z) (by omega)) (fun _ => lw_body X hK hX hbs hL (by omega) (by omega) ih2 ad F H locs ls hh)
set_option maxHeartbeats 4000000 in
set_option maxRecDepth 100000 in
theorem lw_run {p : Program} {l : Launch} {e : Env} {s : State} {m : MethodId} {below : List Frame} {meth : Method} {c : Code} {Q : State → Prop} {D : va_G} {cI cB cS : ClassId} {b L : Nat} {xs : Nat → Int32} {ls : Array Slot} (X : CallFix p m c cL_law 8 s #[Value.ref b] lw_g "RegattaTimesLaw") (hK : KW D cI cB cS (lA s) s) (hAO : AO s) (hX : va_X b L xs s s.heap) (hbs : b < s.heap.size) (hL : L ≤ 260) (hl : lv_has ls 8 [(0, .ref b)]) (kend : LK p l e s m below meth c Q D cI cB cS b 80 (115 + 80) (3767 + 9 * 80) 187) : W p l e room_1 s m #[Value.ref b] below meth c s.heap [] 0 0 Q (F0 m 0 ls []) := by
  obtain ⟨ad, had⟩ : ∃ ad : Nat → Nat, ad = fun k => s.heap.size + k := ⟨_, rfl⟩
  have hA : hAd ad := by rw [had]; intro k; rfl
  have hs0 : s.heap.size = ad 0 := by rw [had]; rfl
  have hI : iN ad 115 := hA.iN
  have hw : HW D (lA s) ad 0 (fun _ => .inr (0, [])) s s.heap [] := ⟨fun k q h => absurd (wl_mem h).1 (Nat.not_lt_zero _), va_S.rf, fun k h => absurd h (Nat.not_lt_zero _), fun q h => h⟩
  refine x_new X hA hK hw (N0 := 0) hs0 rfl (C := RX7) (T := TX7) (nf := 10) (ci := 8) (fs := [.null, .null, .null, .null, .null, .null, .null, .null, .int (nI 0), .null]) inX7 tyX7 tyX7_ok q20 q21 q1 rfl (fun j hj => by rcases (show j = 0 ∨ j = 1 ∨ j = 2 ∨ j = 3 ∨ j = 4 ∨ j = 5 ∨ j = 6 ∨ j = 7 ∨ j = 8 ∨ j = 9 by omega) with rfl | rfl | rfl | rfl | rfl | rfl | rfl | rfl | rfl | rfl <;> rfl) (Nat.le_of_ble_eq_true rfl) (Nat.le_of_ble_eq_true rfl) dL_law_0 (fun F1 H eF1 hw => ?_)
  refine lv_dup X.1 X.2.1 dL_law_3 rfl ?_
  have e0 : F1 0 = .inr (8, [.null, .null, .null, .null, .null, .null, .null, .null, .int (nI 0), .null]) := by rw [eF1]; exact up_at
  refine x_callI X hA hK hAO hw (N0 := 0) hs0 rfl (k := 0) (As := []) (rest := [.ref (ad 0)]) (k_X7_init hA 0 e0) (x_cwI yX7_init cX7_init 1 0 X q22 q23 q1 q24 hi_X7_init ⟨(Nat.le_of_ble_eq_true rfl), (Nat.le_of_ble_eq_true rfl)⟩) rfl hl.1 rfl (Nat.le_of_ble_eq_true rfl) dL_law_4 ⟨(Nat.le_of_ble_eq_true rfl), (Nat.le_of_ble_eq_true rfl)⟩ (fun F2 H locs hp hw => ?_)
  obtain ⟨c1, c2, c3, c4, c5, c6, c7, c8, c9, c10, c11, -⟩ := hp
  have hC : ClF ad cI cS F2 0 (nI 0) g0 t0 0 0 (fun _ => g0) (fun _ => t0) g0 t0 := ⟨c1, c2, c3, c4, c8, c9, ⟨_, _, _, _, c5⟩, ⟨_, _, c6⟩, _, _, _, _, c7⟩
  have hLg : LgF ad cB F2 (0 + 111) 0 (fun _ => 0) := ⟨c10, 16, nI 0, fun _ => 0, c11, by omega, by omega, fun j hj => absurd hj (by omega), fun j hj => ⟨0, by omega, rfl⟩⟩
  refine lv_astore_n (lv' := [(1, .ref (ad 0)), (0, .ref b)]) X.1 X.2.1 dL_law_7 rfl hl (by decide) rfl (fun ls hl => ?_)
  refine lv_bipush (v := nI 10) X.1 X.2.1 dL_law_8 (by decide) ?_
  refine x_newi X hA hK hw (N0 := 0) hs0 rfl (N' := 10) rfl (by omega) (Nat.le_of_ble_eq_true rfl) (Nat.le_of_ble_eq_true rfl) dL_law_10 (fun F3 H eF3 hw => ?_)
  have hr3 : Fr F2 F3 114 115 := fr_eq eF3 (Nat.le_refl _) (Nat.lt_succ_self _)
  have hT : F3 114 = .inl (cI, 10, .inl (fun _ => 0)) := by rw [eF3]; exact up_at
  have hO : OB ad cI cB cS F3 (nI 0) A0 A0 := ⟨g0, t0, 0, 0, fun _ => g0, fun _ => t0, g0, t0, 0, fun _ => 0, hC.cg hr3 (by omega), by omega, by omega, hLg.cg hr3 (by omega), eq0, eq0⟩
  clear eF1 eF3 e0 hr3 hC hLg c1 c2 c3 c4 c5 c6 c7 c8 c9 c10 c11
  refine lv_astore_n (lv' := [(2, .ref (ad 114)), (1, .ref (ad 0)), (0, .ref b)]) X.1 X.2.1 dL_law_12 rfl hl (by decide) rfl (fun ls hl => ?_)
  have hw : HW D (lA s) ad 115 F3 s H locs := hw
  have hf0 : 115 ≤ room_1.cells ∧ 3767 ≤ room_1.slots := by show 115 ≤ 600000 ∧ 3767 ≤ 7302250; omega
  show W p l e room_1 s m #[Value.ref b] below meth c H locs 115 3767 Q (F0 m 13 ls [])
  have jA := hj0
  have z0 : A0 0 = 0 := rfl
  have z1 : A0 1 = 0 := rfl
  have z2 : A0 2 = 0 := rfl
  have z3 : A0 3 = 0 := rfl
  generalize A0 = A at jA z0 z1 z2 z3 hO
  refine lv_aload_n X.1 X.2.1 dL_law_13 rfl (lv_at hl 1 rfl) ?_
  refine x_callS X hK hw (As := [.ref (ad 0)]) (rest := []) (k_L_areRaces hI (by omega) jA (by omega) (by omega) hO) (x_cwS yL_areRaces cL_areRaces 7 (some .boolean) 1 X q1379 q1380 q0 q1381 hd_L_areRaces ⟨(Nat.le_of_ble_eq_true rfl), (Nat.le_of_ble_eq_true rfl)⟩) rfl hl.1 rfl (Nat.le_of_ble_eq_true rfl) dL_law_14 hf0 (fun v F4 H locs hp hw => ?_)
  obtain ⟨rfl, hO, hfa⟩ := hp
  replace hT := (hfa 114 (by omega)).trans hT
  refine lv_if_eq (tgt := 46) X.1 X.2.1 dL_law_17 (by decide) (fun z => absurd z (by decide)) (fun _ => ?_)
  refine lv_aload_n X.1 X.2.1 dL_law_20 rfl (lv_at hl 1 rfl) ?_
  refine x_callS X hK hw (As := [.ref (ad 0)]) (rest := []) (k_L_areBoats hI (by omega) jA (by omega) (by omega) hO) (x_cwS yL_areBoats cL_areBoats 13 (some .boolean) 1 X q1385 q1386 q0 q1387 hd_L_areBoats ⟨(Nat.le_of_ble_eq_true rfl), (Nat.le_of_ble_eq_true rfl)⟩) rfl hl.1 rfl (Nat.le_of_ble_eq_true rfl) dL_law_21 hf0 (fun v F5 H locs hp hw => ?_)
  obtain ⟨rfl, hO, hfb⟩ := hp
  replace hT := (hfb 114 (by omega)).trans hT
  refine lv_if_eq (tgt := 46) X.1 X.2.1 dL_law_24 (by decide) (fun z => absurd z (by decide)) (fun _ => ?_)
  refine lv_aload_n X.1 X.2.1 dL_law_27 rfl (lv_at hl 1 rfl) ?_
  refine lv_bipush (v := nI 100) X.1 X.2.1 dL_law_28 (by decide) ?_
  refine x_callV X hK hw (k := 0) (As := [.int (nI 100)]) (rest := []) (w_enter hI (by omega) hO (nI 100) (fun g t hE => a_ent_ok jA z2 (by omega) (by omega) (by omega) hE)) (x_cwV yX7_enter cX7_enter 2 (some .int) 1 X q249 q250 q251 q1 q252 hd_X7_enter ⟨(Nat.le_of_ble_eq_true rfl), (Nat.le_of_ble_eq_true rfl)⟩) (by omega) hO.ma rfl rfl hl.1 rfl (Nat.le_of_ble_eq_true rfl) dL_law_30 hf0 (fun v F6 H locs hp hw => ?_)
  obtain ⟨rfl, hO, hfc⟩ := hp
  replace hT := (hfc 114 (by omega)).trans hT
  rw [z1]
  refine lv_if_ne (tgt := 46) X.1 X.2.1 dL_law_33 (by decide) (fun z => (z (by decide)).elim) (fun _ => ?_)
  have jB := j_ent jA z2 (by omega) (v := 100) (by omega) (by omega)
  have y0 : nup (nup A (7 + A 1) 100) 1 (A 1 + 1) 0 = 0 := by rw [nup_ne (by omega), nup_ne (by omega)]; exact z0
  have y1 : nup (nup A (7 + A 1) 100) 1 (A 1 + 1) 1 = 1 := by rw [nup_at]; omega
  have y2 : nup (nup A (7 + A 1) 100) 1 (A 1 + 1) 2 = 0 := by rw [nup_ne (by omega), nup_ne (by omega)]; exact z2
  have y3 : nup (nup A (7 + A 1) 100) 1 (A 1 + 1) 3 = 0 := by rw [nup_ne (by omega), nup_ne (by omega)]; exact z3
  generalize nup (nup A (7 + A 1) 100) 1 (A 1 + 1) = B at jB y0 y1 y2 y3 hO
  refine lv_aload_n X.1 X.2.1 dL_law_36 rfl (lv_at hl 1 rfl) ?_
  refine lv_bipush (v := nI 120) X.1 X.2.1 dL_law_37 (by decide) ?_
  refine x_callV X hK hw (k := 0) (As := [.int (nI 120)]) (rest := []) (w_enter hI (by omega) hO (nI 120) (fun g t hE => a_ent_ok jB y2 (by omega) (by omega) (by omega) hE)) (x_cwV yX7_enter cX7_enter 2 (some .int) 1 X q249 q250 q251 q1 q252 hd_X7_enter ⟨(Nat.le_of_ble_eq_true rfl), (Nat.le_of_ble_eq_true rfl)⟩) (by omega) hO.ma rfl rfl hl.1 rfl (Nat.le_of_ble_eq_true rfl) dL_law_39 hf0 (fun v F7 H locs hp hw => ?_)
  obtain ⟨rfl, hO, hfd⟩ := hp
  replace hT := (hfd 114 (by omega)).trans hT
  rw [y1]
  refine lv_iconst (v := nI 1) X.1 X.2.1 dL_law_42 (by decide) ?_
  refine lv_icmp_eq (tgt := 48) X.1 X.2.1 dL_law_43 (by decide) (fun _ => ?_) (fun z => (z (by decide)).elim)
  refine lv_iconst (v := nI 0) X.1 X.2.1 dL_law_48 (by decide) ?_
  refine lv_istore_n (lv' := [(3, .int (nI 0)), (2, .ref (ad 114)), (1, .ref (ad 0)), (0, .ref b)]) X.1 X.2.1 dL_law_49 rfl hl (by decide) rfl (fun ls hl => ?_)
  have jC := j_ent jB y2 (by omega) (v := 120) (by omega) (by omega)
  have x0 : nup (nup B (7 + B 1) 120) 1 (B 1 + 1) 0 = 0 := by rw [nup_ne (by omega), nup_ne (by omega)]; exact y0
  have x3 : nup (nup B (7 + B 1) 120) 1 (B 1 + 1) 3 = 0 := by rw [nup_ne (by omega), nup_ne (by omega)]; exact y3
  refine lw_loop X hK hX hbs hL kend 80 0 rfl ad F7 H locs ls ⟨hI, hw, lv_sub hl [3, 2, 1, 0] rfl, nI 0, _, A, _, jC, by omega, hO, hT, fun k hk => ?_⟩
  show (0 : Int32) = nI (tN _ k)
  unfold tN
  rw [if_neg (by omega)]
  rfl
