theorem min5 {z : Nat} (h : z ≤ 4) : (if nI 4 < nI (z + 1) then nI 4 else nI (z + 1)) = nI (min (z + 1) 4) := by
  by_cases q : z = 4
  · subst q; rfl
  · rw [if_neg (nI_nlt (by omega) (by omega)), Nat.min_eq_left (by omega)]
def Fr2 (F F' : Nat → va_E) (lo hi a b : Nat) : Prop := ∀ k, (k < lo ∨ hi ≤ k) → (k < a ∨ b ≤ k) → F' k = F k
def Cr (l : Launch) (D : va_G) (cI cB cS : ClassId) (ad : Nat → Nat) (N : Nat) (y : MethodName) (b : ByteArray) (n : Nat) (rt : FieldType) (fr lo : Nat) (av : List Value) (F : Nat → va_E) (a0 : Nat) : Prop :=
  ∀ sz, Met l y (Cond.code y b n (some rt) :: lw_g) { frames := fr, cells := 0, slots := 0, locals := lo } (va_Pc av (fun U => U.heap.size = sz ∧ PW D cI cB cS ad N F U)) (va_Qr (fun F' => F' = F) (fun F' a t => a = a0 ∧ PO D ad N F' t) (Af ad N sz)) 0 0 (Af ad N sz)
theorem x_metr {l : Launch} {D : va_G} {cI cB cS : ClassId} {ad : Nat → Nat} {N : Nat} {y : MethodName} {b : ByteArray} {n : Nat} {rt : FieldType} {fr lo : Nat} {av : List Value} {F : Nat → va_E} {a0 : Nat} (hy : plainName y.cls = true) (hn : (lg_sl av).length ≤ n)
    (h : ∀ (p : Program) (e : Env) (s : State) (m : MethodId) (below : List Frame) (meth : Method) (c : Code), CallFix p m c b n s av.toArray lw_g y.cls → meth.sig.returnType = some rt → meth.locks = false → KW D cI cB cS (Af ad N s.heap.size) s → HW D (Af ad N s.heap.size) ad N F s s.heap [] → ∀ ls, lv_has ls n (lv_args 0 av) → W p l e { frames := fr, cells := 0, slots := 0, locals := lo } s m av.toArray below meth c s.heap [] 0 0 (MQ below (va_Qr (fun F' => F' = F) (fun F' a t => a = a0 ∧ PO D ad N F' t) (Af ad N s.heap.size)) av.toArray s 0 0 (Af ad N s.heap.size)) (F0 m 0 ls [])) : Cr l D cI cB cS ad N y b n rt fr lo av F a0 := by
  intro sz
  refine Met.ofW (cc := b) (maxL := n) (ret := some rt) hy rfl ?_
  intro p e s m args below meth c s₁ B hml hv
  obtain ⟨rfl, hsz, hP, hK⟩ := hv
  subst hsz
  have hts0 := atoms_spec (ws := Cond.code y b n (some rt) :: lw_g) B.pre
  rw [lg_entry_eq]
  exact h p e s m below meth c ⟨B.exec, B.bytes, hml, findClass_of_methodNamed B.named, fun w hw => hts0 w (List.mem_cons_of_mem _ hw)⟩ B.returns B.notSynchronized hK ⟨hP, va_S.rf, fun k h => Or.inl ⟨k, h, rfl⟩, fun q h => Or.inr h⟩ _ (lv_entry av hn)
theorem x_callVr {p : Program} {l : Launch} {e : Env} {R : Room} {s : State} {m : MethodId} {args : Array Value} {below : List Frame} {meth : Method} {c : Code} {H : Heap} {locs : List Loc} {cells slots : Nat} {Q : State → Prop} {cc : ByteArray} {nL pc : Nat} {own : String} {ls : Array Slot} {rest : List Value} {D : va_G} {cI cB cS : ClassId} {ad : Nat → Nat} {N : Nat} {F : Nat → va_E} {A : Nat → Prop} (X : CallFix p m c cc nL s args lw_g own) (hK : KW D cI cB cS A s) (hw : HW D A ad N F s H locs) {y : MethodName} {b : ByteArray} {n : Nat} {rt : FieldType} {fr lo k a0 : Nat} {As : List Value} (hC : Cr l D cI cB cS ad N y b n rt fr lo (.ref (ad k) :: As) F a0) {C : String} {index na : Nat} (cw : CallW R s args own C index y b n (some rt) (Cond.code y b n (some rt) :: lw_g) { frames := fr, cells := 0, slots := 0, locals := lo } 0 0 na) (hk : k < N) {ci : Nat} {fs : List Value} (he : F k = .inr (ci, fs)) {T : u_T} {nf : Nat} (hc : vwCl[ci]? = some (C, T, nf)) (hn : As.length = na) (hl : ls.size = nL) {st : List Value} (hst : st = As.reverse ++ .ref (ad k) :: rest) (hr : (rest.map fun v => v.category).sum ≤ 8) (hdg : decode cc pc = .ok (.invokevirtual index, 3)) (hf : cells ≤ R.cells ∧ slots ≤ R.slots)
    (kk : ∀ (H' : Heap) (locs' : List Loc), HW D A ad N F s H' locs' → W p l e R s m args below meth c H' locs' cells slots Q (F0 m (pc + 3) ls (.ref a0 :: rest))) : W p l e R s m args below meth c H locs cells slots Q (F0 m pc ls st) :=
  va_callr (va_runV (As := As) (rest := rest) X (hC H.size) cw ⟨PW_blind, va_recv hK.1 hw.1 hc (wl_getE hk he), fun U hU hW => ⟨rfl, by rw [hU], by rw [hU]; exact hw.1, hK.at hw hU hW⟩⟩ rfl hn hl hst (lv_room hr) hdg hf) hw.2.1 (fun q _ h => Af_all hw h) (fun q h => Af_all hw h) (fun u a t H1 locs1 ht _ hpost hB _ _ hS => by
    obtain ⟨ha, hB⟩ := hB
    rw [ha]
    refine kk H1 locs1 ⟨?_, hS, hw.2.2⟩
    rw [← ht]
    have hB' := hB
    rw [hpost] at hB'
    exact hB')
theorem x_alenS {p : Program} {l : Launch} {e : Env} {R : Room} {s : State} {m : MethodId} {args : Array Value} {below : List Frame} {meth : Method} {c : Code} {H : Heap} {locs : List Loc} {cells slots : Nat} {Q : State → Prop} {cc : ByteArray} {nL pc : Nat} {own : String} {ls : Array Slot} {rest : List Value} {D : va_G} {cI cB cS : ClassId} {ad : Nat → Nat} {N : Nat} {F : Nat → va_E} {A : Nat → Prop} (X : CallFix p m c cc nL s args lw_g own) (hK : KW D cI cB cS A s) (hw : HW D A ad N F s H locs) {k n : Nat} (hk : k < N) {f : Nat → Option Nat} (he : F k = .inl (cS, n, .inr (.inr (.inr (.inr f))))) {v : Int32} (hv : Int32.ofNat n = v) (hdg : decode cc pc = .ok (.arraylength, 1)) (kk : W p l e R s m args below meth c H locs cells slots Q (F0 m (pc + 1) ls (.int v :: rest))) : W p l e R s m args below meth c H locs cells slots Q (F0 m pc ls (.ref (ad k) :: rest)) :=
  va_alen X.1 X.2.1 hK.1 hw.1 k 2 (wl_getE hk he) rfl hv hdg kk
set_option maxHeartbeats 4000000 in
set_option maxRecDepth 100000 in
theorem k_X1_slot {l : Launch} {D : va_G} {cI cB cS : ClassId} {ad : Nat → Nat} {N : Nat} {F : Nat → va_E} (w d z : Nat) (hg : Nat → Nat → Int32) (ht : Nat → Nat → Nat → Int32) (j : Nat) (hw57 : w + 57 ≤ N) (hj : j < 5) (hH : HiF ad cI cS F w d z hg ht) : Cr l D cI cB cS ad N yX1_slot cX1_slot 2 (.object "RegattaTimes$State") 0 0 [.ref (ad w), .int (nI j)] F (ad (w + 2 + 11 * j)) := by
  refine x_metr (by decide +kernel) (Nat.le_of_ble_eq_true rfl) ?_
  intro p e s m below meth c X hr hlk hK hw ls hl
  replace hl : lv_has ls 2 [(0, .ref (ad w)), (1, .int (nI j))] := hl
  refine lv_iload_n X.1 X.2.1 dX1_slot_0 rfl (lv_at hl 1 rfl) ?_
  refine lv_if_lt (tgt := 22) X.1 X.2.1 dX1_slot_1 (by decide) (fun c1 => ?_) (fun c1 => ?_)
  · exact absurd c1 (nI_pos (by omega))
  · refine lv_iload_n X.1 X.2.1 dX1_slot_4 rfl (lv_at hl 1 rfl) ?_
    refine lv_aload_n X.1 X.2.1 dX1_slot_5 rfl (lv_at hl 0 rfl) ?_
    refine x_get X hK hw (C := RX1) (T := TX1) (nf := 3) (k := w) (by omega) hH.1 rfl inX1 0 (by decide) q166 (fun _ h9 => h9) rfl dX1_slot_6 ?_
    refine x_alenS X hK hw (k := w + 1) (by omega) hH.2.1 (v := nI 5) rfl dX1_slot_9 ?_
    refine lv_icmp_ge (tgt := 22) X.1 X.2.1 dX1_slot_10 (by decide) (fun c2 => ?_) (fun c2 => ?_)
    · exact absurd c2 (nI_ge hj (by omega))
    · refine lv_aload_n X.1 X.2.1 dX1_slot_13 rfl (lv_at hl 0 rfl) ?_
      refine x_get X hK hw (C := RX1) (T := TX1) (nf := 3) (k := w) (by omega) hH.1 rfl inX1 0 (by decide) q166 (fun _ h9 => h9) rfl dX1_slot_14 ?_
      refine lv_iload_n X.1 X.2.1 dX1_slot_17 rfl (lv_at hl 1 rfl) ?_
      refine x_aald X hK hw (k := w + 1) (by omega) hH.2.1 (i := nI j) (j := j) rfl hj (by omega) rfl dX1_slot_18 ?_
      refine lv_goto (tgt := 23) X.1 X.2.1 dX1_slot_19 (by decide) ?_
      exact W.aret X.1 X.2.1 hr (Or.inl ⟨_, rfl⟩) (Or.inr ⟨_, rfl⟩) (fun t ht hW => ⟨⟨F, _, rfl, rfl, rfl, by show va_P D vwCl (wl ad N F) t.heap; rw [ht]; exact hw.1⟩, hw.2.1.F ht⟩) hw.2.1.2.2 dX1_slot_23 hlk
theorem hd_X1_slot : yX1_slot.cls = RX1 ∧ yX1_slot.cls ≠ "java/lang/invoke/MethodHandle" ∧ yX1_slot.cls ≠ "java/lang/invoke/VarHandle" ∧ (parseMethodDescriptor yX1_slot.desc).map (fun d => d.parameters.length) = some 1 := by decide +kernel
theorem hd_X5_copyFrom : yX5_copyFrom.cls = RX5 ∧ yX5_copyFrom.cls ≠ "java/lang/invoke/MethodHandle" ∧ yX5_copyFrom.cls ≠ "java/lang/invoke/VarHandle" ∧ (parseMethodDescriptor yX5_copyFrom.desc).map (fun d => d.parameters.length) = some 1 := by decide +kernel
set_option maxHeartbeats 4000000 in
set_option maxRecDepth 100000 in
theorem k_X1_hold {l : Launch} {D : va_G} {cI cB cS : ClassId} {ad : Nat → Nat} {N : Nat} {F : Nat → va_E} (hI : iN ad N) (w : Nat) (d : Nat) (z : Nat) (hg : Nat → Nat → Int32) (ht : Nat → Nat → Nat → Int32) (b : Nat) (g : Nat → Int32) (t : Nat → Nat → Int32) (hw57 : w + 57 ≤ N) (hd5 : d < 5) (hz4 : z ≤ 4) (hH : HiF ad cI cS F w d z hg ht) (hb : b + 11 ≤ N) (hF : StF ad cI F b g t) (hdis : b + 11 ≤ w ∨ w + 57 ≤ b) : Cv l D cI cB cS ad N yX1_hold cX1_hold 3 3 103 [.ref (ad w), .ref (ad b)] F (fun F' => HiF ad cI cS F' w d z (va_up hg d g) (va_up ht d t) ∧ Fr F F' w (w + 57)) := by
  refine x_metv (by decide +kernel) (Nat.le_of_ble_eq_true rfl) ?_
  intro p e s m below meth c X hr hlk hK hw ls hl
  replace hl : lv_has ls 3 [(0, .ref (ad w)), (1, .ref (ad b))] := hl
  refine lv_aload_n X.1 X.2.1 dX1_hold_0 rfl (lv_at hl 0 rfl) ?_
  refine lv_aload_n X.1 X.2.1 dX1_hold_1 rfl (lv_at hl 0 rfl) ?_
  refine x_get X hK hw (C := RX1) (T := TX1) (nf := 3) (k := w) (by omega) hH.1 rfl inX1 1 (by decide) q167 (fun _ h9 => h9) rfl dX1_hold_2 ?_
  refine x_callVr X hK hw (k := w) (As := [.int (nI d)]) (rest := []) (k_X1_slot w d z hg ht (d) (by omega) hd5 hH) (x_cwV yX1_slot cX1_slot 2 (some (.object "RegattaTimes$State")) 1 X q1280 q1282 qs66 q8 q1283 hd_X1_slot ⟨Nat.le_of_ble_eq_true rfl, Nat.le_of_ble_eq_true rfl⟩) (by omega) hH.1 rfl rfl hl.1 rfl (Nat.le_of_ble_eq_true rfl) dX1_hold_5 ⟨Nat.le_of_ble_eq_true rfl, Nat.le_of_ble_eq_true rfl⟩ (fun H locs hw => ?_)
  refine lv_astore_n (lv' := [(2, .ref (ad (w + 2 + 11 * d))), (0, .ref (ad w)), (1, .ref (ad b))]) X.1 X.2.1 dX1_hold_8 rfl hl (by decide) rfl (fun ls hl => ?_)
  refine lv_aload_n X.1 X.2.1 dX1_hold_9 rfl (lv_at hl 0 rfl) ?_
  refine lv_ifnull X.1 X.2.1 dX1_hold_10 ?_
  refine lv_aload_n X.1 X.2.1 dX1_hold_13 rfl (lv_at hl 0 rfl) ?_
  refine lv_aload_n X.1 X.2.1 dX1_hold_14 rfl (lv_at hl 2 rfl) ?_
  refine x_callVv X hK hw (k := (w + 2 + 11 * d)) (As := [.ref (ad b)]) (rest := []) (k_X5_copyFrom hI ((w + 2 + 11 * d)) ((hg d)) ((ht d)) b g t (by omega) (hH.2.2 _ hd5) (by omega) hF (by omega)) (x_cwV yX5_copyFrom cX5_copyFrom 2 none 1 X q257 q258 q259 q2 q260 hd_X5_copyFrom ⟨Nat.le_of_ble_eq_true rfl, Nat.le_of_ble_eq_true rfl⟩) (by omega) (hH.2.2 _ hd5).1 rfl rfl hl.1 rfl (Nat.le_of_ble_eq_true rfl) dX1_hold_15 ⟨Nat.le_of_ble_eq_true rfl, Nat.le_of_ble_eq_true rfl⟩ (fun F1 H locs hp hw => ?_)
  obtain ⟨hF2, hr3⟩ := hp
  have hq4 := hF.cg hr3 (by omega)
  have hH1 := hH.sl hd5 hF2 hr3
  have hfr1 : Fr F _ w (w + 57) := Fr.mono hr3 (by omega) (by omega)
  exact x_vret X hr hlk hK hw (⟨hH1, hfr1⟩) dX1_hold_18
set_option maxHeartbeats 4000000 in
set_option maxRecDepth 100000 in
theorem k_X1_confirm {l : Launch} {D : va_G} {cI cB cS : ClassId} {ad : Nat → Nat} {N : Nat} {F : Nat → va_E} (hI : iN ad N) (w : Nat) (d : Nat) (z : Nat) (hg : Nat → Nat → Int32) (ht : Nat → Nat → Nat → Int32) (x : Int32) (hw57 : w + 57 ≤ N) (hd5 : d < 5) (hz4 : z ≤ 4) (hH : HiF ad cI cS F w d z hg ht) : Ci l D cI cB cS ad N yX1_confirm cX1_confirm 2 (some .int) 1 60 [.ref (ad w), .int x] F (fun r F' => r = x ∧ HiF ad cI cS F' w (if x < 0 then d else hn d) (if x < 0 then z else min (z + 1) 4) hg ht ∧ Fr F F' w (w + 57)) := by
  refine x_met (by decide +kernel) (Nat.le_of_ble_eq_true rfl) ?_
  intro p e s m below meth c X hr hlk hK hw ls hl
  replace hl : lv_has ls 2 [(0, .ref (ad w)), (1, .int x)] := hl
  have hfr : Fr F F (w) (w + 57) := Fr.rf
  refine lv_iload_n X.1 X.2.1 dX1_confirm_0 rfl (lv_at hl 1 rfl) ?_
  refine lv_if_lt (tgt := 42) X.1 X.2.1 dX1_confirm_1 (by decide) (fun c1 => ?_) (fun c1 => ?_)
  · refine lv_iload_n X.1 X.2.1 dX1_confirm_42 rfl (lv_at hl 1 rfl) ?_
    exact x_iret X hr hlk hK hw (v := x) rfl (⟨rfl, by rw [if_pos c1, if_pos c1]; exact hH, hfr⟩) dX1_confirm_43
  · refine lv_aload_n X.1 X.2.1 dX1_confirm_4 rfl (lv_at hl 0 rfl) ?_
    refine lv_aload_n X.1 X.2.1 dX1_confirm_5 rfl (lv_at hl 0 rfl) ?_
    refine x_get X hK hw (C := RX1) (T := TX1) (nf := 3) (k := w) (by omega) hH.1 rfl inX1 1 (by decide) q167 (fun _ h9 => h9) rfl dX1_confirm_6 ?_
    refine lv_iconst (v := nI 1) X.1 X.2.1 dX1_confirm_9 (by decide) ?_
    refine lv_iadd X.1 X.2.1 dX1_confirm_10 ?_
    refine x_top (nI_add _ _) ?_
    refine lv_iconst (v := nI 5) X.1 X.2.1 dX1_confirm_11 (by decide) ?_
    refine lv_icmp_ge (tgt := 24) X.1 X.2.1 dX1_confirm_12 (by decide) (fun c2 => ?_) (fun c2 => ?_)
    · refine lv_iconst (v := nI 0) X.1 X.2.1 dX1_confirm_24 (by decide) ?_
      refine x_put2 X hI hK hw (C := RX1) (T := TX1) (nf := 3) (k := w) (ty := .int) (v := .int (nI 0)) (by omega) hH.1 rfl inX1 tyX1 tyX1_ok nmX1 1 (by decide) q167 (fun _ h9 => h9) rfl (by decide +kernel) rfl rfl (Nat.le_of_ble_eq_true rfl) dX1_confirm_25 (fun F3 H locs eF4 hw => ?_)
      have hF5 : HiF ad cI cS F3 w 0 z hg ht := hH.pt eF4 rfl
      have hr6 := fr_eq eF4 (Nat.le_refl _) (Nat.lt_succ_self _)
      replace hfr := hfr.tr hr6 (by omega) (by omega)
      refine lv_aload_n X.1 X.2.1 dX1_confirm_28 rfl (lv_at hl 0 rfl) ?_
      refine lv_aload_n X.1 X.2.1 dX1_confirm_29 rfl (lv_at hl 0 rfl) ?_
      refine x_get X hK hw (C := RX1) (T := TX1) (nf := 3) (k := w) (by omega) hF5.1 rfl inX1 2 (by decide) q168 (fun _ h9 => h9) rfl dX1_confirm_30 ?_
      refine lv_iconst (v := nI 1) X.1 X.2.1 dX1_confirm_33 (by decide) ?_
      refine lv_iadd X.1 X.2.1 dX1_confirm_34 ?_
      refine x_top (nI_add _ _) ?_
      refine lv_iconst (v := nI 4) X.1 X.2.1 dX1_confirm_35 (by decide) ?_
      refine x_min X hl.1 (rest := [.ref (ad w)]) q280 (Nat.le_of_ble_eq_true rfl) (Nat.le_of_ble_eq_true rfl) (Nat.le_of_ble_eq_true rfl) (Nat.le_of_ble_eq_true rfl) dX1_confirm_36 ?_
      refine x_top (min5 hz4) ?_
      refine x_put2 X hI hK hw (C := RX1) (T := TX1) (nf := 3) (k := w) (ty := .int) (v := .int (nI (min (z + 1) 4))) (by omega) hF5.1 rfl inX1 tyX1 tyX1_ok nmX1 2 (by decide) q168 (fun _ h9 => h9) rfl (by decide +kernel) rfl rfl (Nat.le_of_ble_eq_true rfl) dX1_confirm_39 (fun F7 H locs eF8 hw => ?_)
      have hF9 : HiF ad cI cS F7 w 0 (min (z + 1) 4) hg ht := hF5.pt eF8 rfl
      have hr10 := fr_eq eF8 (Nat.le_refl _) (Nat.lt_succ_self _)
      replace hfr := hfr.tr hr10 (by omega) (by omega)
      refine lv_iload_n X.1 X.2.1 dX1_confirm_42 rfl (lv_at hl 1 rfl) ?_
      exact x_iret X hr hlk hK hw (v := x) rfl (⟨rfl, by rw [if_neg c1, if_neg c1, hn, if_neg (fun q => absurd c2 (nI_ge q (by omega)))]; exact hF9, hfr⟩) dX1_confirm_43
    · refine lv_aload_n X.1 X.2.1 dX1_confirm_15 rfl (lv_at hl 0 rfl) ?_
      refine x_get X hK hw (C := RX1) (T := TX1) (nf := 3) (k := w) (by omega) hH.1 rfl inX1 1 (by decide) q167 (fun _ h9 => h9) rfl dX1_confirm_16 ?_
      refine lv_iconst (v := nI 1) X.1 X.2.1 dX1_confirm_19 (by decide) ?_
      refine lv_iadd X.1 X.2.1 dX1_confirm_20 ?_
      refine x_top (nI_add _ _) ?_
      refine lv_goto (tgt := 25) X.1 X.2.1 dX1_confirm_21 (by decide) ?_
      refine x_put2 X hI hK hw (C := RX1) (T := TX1) (nf := 3) (k := w) (ty := .int) (v := .int (nI (d + 1))) (by omega) hH.1 rfl inX1 tyX1 tyX1_ok nmX1 1 (by decide) q167 (fun _ h9 => h9) rfl (by decide +kernel) rfl rfl (Nat.le_of_ble_eq_true rfl) dX1_confirm_25 (fun F11 H locs eF12 hw => ?_)
      have hF13 : HiF ad cI cS F11 w (d + 1) z hg ht := hH.pt eF12 rfl
      have hr14 := fr_eq eF12 (Nat.le_refl _) (Nat.lt_succ_self _)
      replace hfr := hfr.tr hr14 (by omega) (by omega)
      refine lv_aload_n X.1 X.2.1 dX1_confirm_28 rfl (lv_at hl 0 rfl) ?_
      refine lv_aload_n X.1 X.2.1 dX1_confirm_29 rfl (lv_at hl 0 rfl) ?_
      refine x_get X hK hw (C := RX1) (T := TX1) (nf := 3) (k := w) (by omega) hF13.1 rfl inX1 2 (by decide) q168 (fun _ h9 => h9) rfl dX1_confirm_30 ?_
      refine lv_iconst (v := nI 1) X.1 X.2.1 dX1_confirm_33 (by decide) ?_
      refine lv_iadd X.1 X.2.1 dX1_confirm_34 ?_
      refine x_top (nI_add _ _) ?_
      refine lv_iconst (v := nI 4) X.1 X.2.1 dX1_confirm_35 (by decide) ?_
      refine x_min X hl.1 (rest := [.ref (ad w)]) q280 (Nat.le_of_ble_eq_true rfl) (Nat.le_of_ble_eq_true rfl) (Nat.le_of_ble_eq_true rfl) (Nat.le_of_ble_eq_true rfl) dX1_confirm_36 ?_
      refine x_top (min5 hz4) ?_
      refine x_put2 X hI hK hw (C := RX1) (T := TX1) (nf := 3) (k := w) (ty := .int) (v := .int (nI (min (z + 1) 4))) (by omega) hF13.1 rfl inX1 tyX1 tyX1_ok nmX1 2 (by decide) q168 (fun _ h9 => h9) rfl (by decide +kernel) rfl rfl (Nat.le_of_ble_eq_true rfl) dX1_confirm_39 (fun F15 H locs eF16 hw => ?_)
      have hF17 : HiF ad cI cS F15 w (d + 1) (min (z + 1) 4) hg ht := hF13.pt eF16 rfl
      have hr18 := fr_eq eF16 (Nat.le_refl _) (Nat.lt_succ_self _)
      replace hfr := hfr.tr hr18 (by omega) (by omega)
      refine lv_iload_n X.1 X.2.1 dX1_confirm_42 rfl (lv_at hl 1 rfl) ?_
      exact x_iret X hr hlk hK hw (v := x) rfl (⟨rfl, by rw [if_neg c1, if_neg c1, hn, if_pos (Classical.byContradiction fun q => c2 (nI_le (by omega) (by omega)))]; exact hF17, hfr⟩) dX1_confirm_43
set_option maxHeartbeats 4000000 in
set_option maxRecDepth 100000 in
theorem k_X1_size {l : Launch} {D : va_G} {cI cB cS : ClassId} {ad : Nat → Nat} {N : Nat} {F : Nat → va_E} (hI : iN ad N) (w : Nat) (d : Nat) (z : Nat) (hg : Nat → Nat → Int32) (ht : Nat → Nat → Nat → Int32) (hw57 : w + 57 ≤ N) (hd5 : d < 5) (hz4 : z ≤ 4) (hH : HiF ad cI cS F w d z hg ht) : Ci l D cI cB cS ad N yX1_size cX1_size 1 (some .int) 0 0 [.ref (ad w)] F (pP (nI z) F) := by
  refine x_met (by decide +kernel) (Nat.le_of_ble_eq_true rfl) ?_
  intro p e s m below meth c X hr hlk hK hw ls hl
  replace hl : lv_has ls 1 [(0, .ref (ad w))] := hl
  refine lv_aload_n X.1 X.2.1 dX1_size_0 rfl (lv_at hl 0 rfl) ?_
  refine x_get X hK hw (C := RX1) (T := TX1) (nf := 3) (k := w) (by omega) hH.1 rfl inX1 2 (by decide) q168 (fun _ h9 => h9) rfl dX1_size_1 ?_
  exact x_iret X hr hlk hK hw (v := nI z) rfl (⟨rfl, rfl⟩) dX1_size_4
