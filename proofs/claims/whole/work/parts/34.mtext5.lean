theorem rsl_le {tn : Nat → Nat} {len : Nat} : ∀ (f i v : Nat), i ≤ len → i ≤ (rsl tn len f i v).1 ∧ (rsl tn len f i v).1 ≤ len := by
  intro f
  induction f with
  | zero => intro i v h; exact ⟨Nat.le_refl _, h⟩
  | succ f ih =>
    intro i v h
    simp only [rsl]
    split
    · rename_i q
      split
      · exact ⟨Nat.le_refl _, h⟩
      · have := ih (i + 1) (10 * v + tn i - 48) q.1; omega
    · exact ⟨Nat.le_refl _, h⟩
theorem re_pos {tn : Nat → Nat} {len p : Nat} {y : Nat × Nat × Nat × Nat} (hp : p ≤ len) (h : re tn len p = some y) : p + 1 ≤ y.2.2.2 ∧ y.2.2.2 ≤ len := by
  unfold re at h
  split at h
  · obtain ⟨v, hv, rfl⟩ := Option.map_eq_some_iff.mp h
    have q : isn tn len (p + 1) 49 57 := by unfold rsc at hv; split at hv; assumption; cases hv
    have := rsl_le (tn := tn) (len := len) (len - (p + 1)) (p + 1) 0 (by have := q.1; omega)
    show p + 1 ≤ rsp tn len (p + 1) ∧ _
    rw [rsp, if_pos q]; exact this
  · split at h
    · obtain ⟨v, hv, rfl⟩ := Option.map_eq_some_iff.mp h
      have := (rd_some hv).1.1
      show p + 1 ≤ p + 2 ∧ p + 2 ≤ len
      omega
    · split at h
      · obtain ⟨v, hv, h2⟩ := Option.bind_eq_some_iff.mp h
        obtain ⟨w, hw, rfl⟩ := Option.map_eq_some_iff.mp h2
        have := (rd_some hw).1.1
        show p + 1 ≤ p + 3 ∧ p + 3 ≤ len
        omega
      · cases h
def pt (tn : Nat → Nat) (len : Nat) : Nat → Nat → Nat → Bool × Nat × Nat
  | 0, p, n => (false, p, n)
  | f + 1, p, n => match re tn len p with
    | none => (false, rf tn len p, n)
    | some y => if y.2.2.2 = len then (true, len, n + 1) else if isn tn len y.2.2.2 59 59 then pt tn len f (y.2.2.2 + 1) (n + 1) else (false, y.2.2.2, n + 1)
def mt (tn : Nat → Nat) (len p : Nat) (k1 : Nat → Int32) : Option (Nat × Nat × Nat × Nat) → Prop
  | none => k1 3 = nI (rf tn len p)
  | some x => k1 4 = nI x.1 ∧ k1 5 = nI x.2.1 ∧ (x.1 = 98 ∨ x.1 = 104 → k1 6 = nI x.2.2.1) ∧ k1 3 = nI x.2.2.2
def rI (x : Option (Nat × Nat × Nat × Nat)) : Int32 := match x with | none => nI 0 | some _ => nI 1
theorem mt_of {tn : Nat → Nat} {len p : Nat} {k1 : Nat → Int32} {r : Int32} {x : Option (Nat × Nat × Nat × Nat)} (h : match x with | none => r = nI 0 ∧ k1 3 = nI (rf tn len p) | some x => r = nI 1 ∧ k1 4 = nI x.1 ∧ k1 5 = nI x.2.1 ∧ (x.1 = 98 ∨ x.1 = 104 → k1 6 = nI x.2.2.1) ∧ k1 3 = nI x.2.2.2) : r = rI x ∧ mt tn len p k1 x := by
  cases x with
  | none => exact h
  | some y => exact h
theorem ptn {tn : Nat → Nat} {len p n : Nat} (h : re tn len p = none) : ∀ {f : Nat}, 0 < f → pt tn len f p n = (false, rf tn len p, n) := by
  intro f hf
  cases f with
  | zero => cases hf
  | succ f => rw [pt, h]
theorem hd_X8_readEvent : yX8_readEvent.cls = RX8 ∧ yX8_readEvent.cls ≠ "java/lang/invoke/MethodHandle" ∧ yX8_readEvent.cls ≠ "java/lang/invoke/VarHandle" ∧ (parseMethodDescriptor yX8_readEvent.desc).map (fun d => d.parameters.length) = some 0 := by decide +kernel
theorem hd_X8_takes : yX8_takes.cls = RX8 ∧ yX8_takes.cls ≠ "java/lang/invoke/MethodHandle" ∧ yX8_takes.cls ≠ "java/lang/invoke/VarHandle" ∧ (parseMethodDescriptor yX8_takes.desc).map (fun d => d.parameters.length) = some 1 := by decide +kernel
set_option maxHeartbeats 4000000 in
set_option maxRecDepth 100000 in
theorem k_X8_readText_f {l : Launch} {D : va_G} {cI cB cS : ClassId} {ad : Nat → Nat} {N : Nat} {F : Nat → va_E} (hI : iN ad N) (o : Nat) (a : Nat → Int32) (h : Nat → Int32) (sn : Nat → Int32) (tx : Nat → Int32) (k : Nat → Int32) (len : Nat) (tn : Nat → Nat) (hc5 : o + 5 ≤ N) (hF : MoF ad cI F o a h sn tx k) (hlen : k 2 = nI len) (hl80 : len ≤ 80) (htn : ∀ j, j < len → tx j = nI (tn j) ∧ tn j < 128) : Ci l D cI cB cS ad N yX8_readText cX8_readText 3 (some .boolean) 4 86 [.ref (ad o), .int (nI 0)] F (fun r F' => r = bI (pt tn len (len + 1) 0 0).1 ∧ (∃ k', MoF ad cI F' o a h sn tx k' ∧ k' 0 = k 0 ∧ k' 1 = k 1 ∧ k' 2 = nI len ∧ k' 3 = nI (pt tn len (len + 1) 0 0).2.1) ∧ Fr F F' o (o + 5)) := by
  refine x_met (by decide +kernel) (Nat.le_of_ble_eq_true rfl) ?_
  intro p e s m below meth c X hr hlk hK hw ls hl
  replace hl : lv_has ls 3 [(0, .ref (ad o)), (1, .int (nI 0))] := hl
  have hfr : Fr F F (o) (o + 5) := Fr.rf
  refine lv_aload_n X.1 X.2.1 dX8_readText_0 rfl (lv_at hl 0 rfl) ?_
  refine lv_iconst (v := nI 0) X.1 X.2.1 dX8_readText_1 (by decide) ?_
  refine x_put2 X hI hK hw (C := RX8) (T := TX8) (nf := 12) (k := o) (ty := .int) (v := .int (nI 0)) (by omega) hF.1 rfl inX8 tyX8 tyX8_ok nmX8 7 (by decide) q875 (fun _ h9 => h9) rfl (by decide +kernel) rfl rfl (Nat.le_of_ble_eq_true rfl) dX8_readText_2 (fun F1 H locs eF2 hw => ?_)
  have hF3 : MoF ad cI F1 o a h sn tx (va_up k 3 (nI 0)) := by rw [eF2]; exact MoF.pt hF 3 (nI 0) _ rfl
  have hr4 := fr_eq eF2 (Nat.le_refl _) (Nat.lt_succ_self _)
  replace hfr := hfr.tr hr4 (by omega) (by omega)
  refine lv_aload_n X.1 X.2.1 dX8_readText_5 rfl (lv_at hl 0 rfl) ?_
  refine lv_iconst (v := nI 0) X.1 X.2.1 dX8_readText_6 (by decide) ?_
  refine x_put2 X hI hK hw (C := RX8) (T := TX8) (nf := 12) (k := o) (ty := .int) (v := .int (nI 0)) (by omega) hF3.1 rfl inX8 tyX8 tyX8_ok nmX8 11 (by decide) q879 (fun _ h9 => h9) rfl (by decide +kernel) rfl rfl (Nat.le_of_ble_eq_true rfl) dX8_readText_7 (fun F5 H locs eF6 hw => ?_)
  have hF7 : MoF ad cI F5 o a h sn tx (va_up ((va_up k 3 (nI 0))) 7 (nI 0)) := by rw [eF6]; exact MoF.pt hF3 7 (nI 0) _ rfl
  have hr8 := fr_eq eF6 (Nat.le_refl _) (Nat.lt_succ_self _)
  replace hfr := hfr.tr hr8 (by omega) (by omega)
  refine lv_aload_n X.1 X.2.1 dX8_readText_10 rfl (lv_at hl 0 rfl) ?_
  refine x_callV X hK hw (k := o) (As := []) (rest := []) (k_X8_readEvent hI o a h sn tx ((va_up ((va_up k 3 (nI 0))) 7 (nI 0))) len 0 tn (by omega) hF7 hlen (by omega) rfl (by omega) htn (by omega)) (x_cwV yX8_readEvent cX8_readEvent 1 (some .boolean) 0 X q1092 q1094 qs45 q14 q1095 hd_X8_readEvent ⟨Nat.le_of_ble_eq_true rfl, Nat.le_of_ble_eq_true rfl⟩) (by omega) hF7.1 rfl rfl hl.1 rfl (Nat.le_of_ble_eq_true rfl) dX8_readText_11 ⟨Nat.le_of_ble_eq_true rfl, Nat.le_of_ble_eq_true rfl⟩ (fun r1 F10 H locs hpp hw => ?_)
  obtain ⟨⟨k9, hF11, f0, f1, f2, f7, hm⟩, hr12⟩ := hpp
  have e0 := f0
  have e1 := f1
  have e2 := f2
  have e7 := f7
  obtain ⟨er, hmt⟩ := mt_of hm
  refine x_top er ?_
  replace hfr := hfr.tr hr12 (by omega) (by omega)
  refine lv_istore_n (lv' := [(2, .int (rI (re tn len 0))), (0, .ref (ad o)), (1, .int (nI 0))]) X.1 X.2.1 dX8_readText_14 rfl hl (by decide) rfl (fun ls hl => ?_)
  have loop : ∀ (fu ps dn : Nat) (k1 : Nat → Int32) (x : Option (Nat × Nat × Nat × Nat)) (F1 : Nat → va_E) (hfu : len < ps + fu) (hp : ps ≤ len) (hx0 : re tn len ps = x) (e0 : k1 0 = k 0) (e1 : k1 1 = k 1) (e2 : k1 2 = nI len) (e7 : k1 7 = nI dn) (hmt : mt tn len ps k1 x) (he : pt tn len fu ps dn = pt tn len (len + 1) 0 0) (hF : MoF ad cI F1 o a h sn tx k1) (hfr : Fr F F1 o (o + 5)) (H : Heap) (locs : List Loc) (hw : HW D (Af ad N s.heap.size) ad N F1 s H locs) (ls : Array Slot) (hl : lv_has ls 3 [(2, .int (rI x)), (0, .ref (ad o)), (1, .int (nI 0))]), W p l e { frames := 4, cells := 0, slots := 0, locals := 86 } s m [.ref (ad o), .int (nI 0)].toArray below meth c H locs 0 0 (MQ below (va_Qi (fun r F' => r = bI (pt tn len (len + 1) 0 0).1 ∧ (∃ k', MoF ad cI F' o a h sn tx k' ∧ k' 0 = k 0 ∧ k' 1 = k 1 ∧ k' 2 = nI len ∧ k' 3 = nI (pt tn len (len + 1) 0 0).2.1) ∧ Fr F F' o (o + 5)) (fun F' t => PO D ad N F' t) (Af ad N s.heap.size)) [.ref (ad o), .int (nI 0)].toArray s 0 0 (Af ad N s.heap.size)) (F0 m 15 ls []) := by
    intro fu
    induction fu with
    | zero => intro ps dn k1 x F1 hfu hp; exact absurd hp (by omega)
    | succ fu ih =>
      intro ps dn k1 x F1 hfu hp hx0 e0 e1 e2 e7 hmt he hF hfr H locs hw ls hl
      rcases x with _ | ⟨xL, x1, y1, p2⟩
      · replace hl : lv_has ls 3 [(2, .int (nI 0)), (0, .ref (ad o)), (1, .int (nI 0))] := hl
        refine lv_iload_n X.1 X.2.1 dX8_readText_15 rfl (lv_at hl 0 rfl) ?_
        refine lv_if_eq (tgt := 85) X.1 X.2.1 dX8_readText_16 (by decide) (fun c13 => ?_) (fun c13 => ?_)
        · refine lv_iconst (v := nI 0) X.1 X.2.1 dX8_readText_85 (by decide) ?_
          exact x_iret X hr hlk hK hw (v := nI 0) (by decide +kernel) (⟨by rw [← he, pt, hx0]; rfl, ⟨_, hF, e0, e1, e2, by rw [← he, pt, hx0]; exact hmt⟩, hfr⟩) dX8_readText_86
        · exact absurd (by decide) c13
      · replace hl : lv_has ls 3 [(2, .int (nI 1)), (0, .ref (ad o)), (1, .int (nI 0))] := hl
        have hp2 := re_pos hp hx0
        simp only at hp2
        obtain ⟨m4, m5, m6, m3⟩ := hmt
        simp only at m3
        refine lv_iload_n X.1 X.2.1 dX8_readText_15 rfl (lv_at hl 0 rfl) ?_
        refine lv_if_eq (tgt := 85) X.1 X.2.1 dX8_readText_16 (by decide) (fun c14 => ?_) (fun c14 => ?_)
        · exact absurd c14 (by decide)
        · refine lv_iload_n X.1 X.2.1 dX8_readText_19 rfl (lv_at hl 2 rfl) ?_
          refine lv_if_eq (tgt := 37) X.1 X.2.1 dX8_readText_20 (by decide) (fun c15 => ?_) (fun c15 => ?_)
          · refine lv_aload_n X.1 X.2.1 dX8_readText_37 rfl (lv_at hl 1 rfl) ?_
            refine lv_dup X.1 X.2.1 dX8_readText_38 rfl ?_
            refine x_get X hK hw (C := RX8) (T := TX8) (nf := 12) (k := o) (by omega) hF.1 rfl inX8 11 (by decide) q879 (fun _ h9 => h9) rfl dX8_readText_39 ?_
            refine x_top (y := nI dn) e7 ?_
            refine lv_iconst (v := nI 1) X.1 X.2.1 dX8_readText_42 (by decide) ?_
            refine lv_iadd X.1 X.2.1 dX8_readText_43 ?_
            refine x_top (nI_add _ _) ?_
            refine x_put2 X hI hK hw (C := RX8) (T := TX8) (nf := 12) (k := o) (ty := .int) (v := .int (nI (dn + 1))) (by omega) hF.1 rfl inX8 tyX8 tyX8_ok nmX8 11 (by decide) q879 (fun _ h9 => h9) rfl (by decide +kernel) rfl rfl (Nat.le_of_ble_eq_true rfl) dX8_readText_44 (fun F16 H locs eF17 hw => ?_)
            have hF18 : MoF ad cI F16 o a h sn tx (va_up k1 7 (nI (dn + 1))) := by rw [eF17]; exact MoF.pt hF 7 (nI (dn + 1)) _ rfl
            have hr19 := fr_eq eF17 (Nat.le_refl _) (Nat.lt_succ_self _)
            replace hfr := hfr.tr hr19 (by omega) (by omega)
            refine lv_aload_n X.1 X.2.1 dX8_readText_47 rfl (lv_at hl 1 rfl) ?_
            refine x_get X hK hw (C := RX8) (T := TX8) (nf := 12) (k := o) (by omega) hF18.1 rfl inX8 7 (by decide) q875 (fun _ h9 => h9) rfl dX8_readText_48 ?_
            refine x_top (y := nI p2) m3 ?_
            refine lv_aload_n X.1 X.2.1 dX8_readText_51 rfl (lv_at hl 1 rfl) ?_
            refine x_get X hK hw (C := RX8) (T := TX8) (nf := 12) (k := o) (by omega) hF18.1 rfl inX8 6 (by decide) q874 (fun _ h9 => h9) rfl dX8_readText_52 ?_
            refine x_top (y := nI len) e2 ?_
            refine lv_icmp_ne (tgt := 60) X.1 X.2.1 dX8_readText_55 (by decide) (fun c20 => ?_) (fun c20 => ?_)
            · have hne : ¬ p2 = len := fun q => c20 (by rw [q])
              refine lv_aload_n X.1 X.2.1 dX8_readText_60 rfl (lv_at hl 1 rfl) ?_
              refine lv_bipush (v := nI 59) X.1 X.2.1 dX8_readText_61 (by decide) ?_
              refine x_callV X hK hw (k := o) (As := [.int (nI 59)]) (rest := []) (k_X8_takes hI o a h sn tx ((va_up k1 7 (nI (dn + 1)))) 59 len p2 tn (by omega) hF18 e2 (by omega) m3 (by omega) htn (by omega)) (x_cwV yX8_takes cX8_takes 3 (some .boolean) 1 X q1116 q1118 qs51 q14 q1119 hd_X8_takes ⟨Nat.le_of_ble_eq_true rfl, Nat.le_of_ble_eq_true rfl⟩) (by omega) hF18.1 rfl rfl hl.1 rfl (Nat.le_of_ble_eq_true rfl) dX8_readText_63 ⟨Nat.le_of_ble_eq_true rfl, Nat.le_of_ble_eq_true rfl⟩ (fun r24 F21 H locs hp hw => ?_)
              obtain ⟨er25, hF22, hr23⟩ := hp
              refine x_top er25 ?_
              replace hfr := hfr.tr hr23 (by omega) (by omega)
              refine lv_if_eq (tgt := 80) X.1 X.2.1 dX8_readText_66 (by decide) (fun c26 => ?_) (fun c26 => ?_)
              · have hns := bI_z c26
                refine lv_iconst (v := nI 0) X.1 X.2.1 dX8_readText_80 (by decide) ?_
                refine lv_istore_n (lv' := [(2, .int (nI 0)), (0, .ref (ad o)), (1, .int (nI 0))]) X.1 X.2.1 dX8_readText_81 rfl hl (by decide) rfl (fun ls hl => ?_)
                refine lv_goto (tgt := 15) X.1 X.2.1 dX8_readText_82 (by decide) ?_
                refine lv_iload_n X.1 X.2.1 dX8_readText_15 rfl (lv_at hl 0 rfl) ?_
                refine lv_if_eq (tgt := 85) X.1 X.2.1 dX8_readText_16 (by decide) (fun c27 => ?_) (fun c27 => ?_)
                · refine lv_iconst (v := nI 0) X.1 X.2.1 dX8_readText_85 (by decide) ?_
                  exact x_iret X hr hlk hK hw (v := nI 0) (by decide +kernel) (⟨by rw [← he, pt, hx0]; simp only []; rw [if_neg hne, if_neg hns]; rfl, ⟨_, hF22, e0, e1, e2, by rw [← he, pt, hx0]; simp only []; rw [if_neg hne, if_neg hns, if_neg hns]; exact rfl⟩, hfr⟩) dX8_readText_86
                · exact absurd (by decide) c27
              · have his := bI_nz c26
                have hlt := his.1
                refine lv_aload_n X.1 X.2.1 dX8_readText_69 rfl (lv_at hl 1 rfl) ?_
                refine x_callV X hK hw (k := o) (As := []) (rest := []) (k_X8_readEvent hI o a h sn tx ((va_up ((va_up k1 7 (nI (dn + 1)))) 3 (nI (if isn tn len p2 59 59 then p2 + 1 else p2)))) len ((p2 + 1)) tn (by omega) hF22 e2 (by omega) (by show nI (if isn tn len p2 59 59 then p2 + 1 else p2) = nI (p2 + 1); rw [if_pos his]) (by have := his.1; omega) htn (by have := his.1; omega)) (x_cwV yX8_readEvent cX8_readEvent 1 (some .boolean) 0 X q1092 q1094 qs45 q14 q1095 hd_X8_readEvent ⟨Nat.le_of_ble_eq_true rfl, Nat.le_of_ble_eq_true rfl⟩) (by omega) hF22.1 rfl rfl hl.1 rfl (Nat.le_of_ble_eq_true rfl) dX8_readText_70 ⟨Nat.le_of_ble_eq_true rfl, Nat.le_of_ble_eq_true rfl⟩ (fun r1 F29 H locs hpp hw => ?_)
                obtain ⟨⟨k28, hF30, f0, f1, f2, f7, hm⟩, hr31⟩ := hpp
                replace e0 := f0.trans e0
                replace e1 := f1.trans e1
                replace e2 := f2.trans e2
                replace e7 := f7.trans (rfl : _ = nI (dn + 1))
                obtain ⟨er, hmt⟩ := mt_of hm
                refine x_top er ?_
                replace hfr := hfr.tr hr31 (by omega) (by omega)
                rcases hre : re tn len (p2 + 1) with _ | y2
                · rw [hre] at hmt
                  refine x_top (y := nI 0) rfl ?_
                  refine lv_if_eq (tgt := 80) X.1 X.2.1 dX8_readText_73 (by decide) (fun c32 => ?_) (fun c32 => ?_)
                  · refine lv_iconst (v := nI 0) X.1 X.2.1 dX8_readText_80 (by decide) ?_
                    refine lv_istore_n (lv' := [(2, .int (nI 0)), (0, .ref (ad o)), (1, .int (nI 0))]) X.1 X.2.1 dX8_readText_81 rfl hl (by decide) rfl (fun ls hl => ?_)
                    refine lv_goto (tgt := 15) X.1 X.2.1 dX8_readText_82 (by decide) ?_
                    refine lv_iload_n X.1 X.2.1 dX8_readText_15 rfl (lv_at hl 0 rfl) ?_
                    refine lv_if_eq (tgt := 85) X.1 X.2.1 dX8_readText_16 (by decide) (fun c33 => ?_) (fun c33 => ?_)
                    · refine lv_iconst (v := nI 0) X.1 X.2.1 dX8_readText_85 (by decide) ?_
                      exact x_iret X hr hlk hK hw (v := nI 0) (by decide +kernel) (⟨by rw [← he, pt, hx0]; simp only []; rw [if_neg hne, if_pos his, ptn hre (by omega)]; rfl, ⟨_, hF30, e0, e1, e2, by rw [← he, pt, hx0]; simp only []; rw [if_neg hne, if_pos his, ptn hre (by omega)]; exact hmt⟩, hfr⟩) dX8_readText_86
                    · exact absurd (by decide) c33
                  · exact absurd (by decide) c32
                · rw [hre] at hmt
                  refine x_top (y := nI 1) rfl ?_
                  refine lv_if_eq (tgt := 80) X.1 X.2.1 dX8_readText_73 (by decide) (fun c34 => ?_) (fun c34 => ?_)
                  · exact absurd c34 (by decide)
                  · refine lv_iconst (v := nI 1) X.1 X.2.1 dX8_readText_76 (by decide) ?_
                    refine lv_goto (tgt := 81) X.1 X.2.1 dX8_readText_77 (by decide) ?_
                    refine lv_istore_n (lv' := [(2, .int (nI 1)), (0, .ref (ad o)), (1, .int (nI 0))]) X.1 X.2.1 dX8_readText_81 rfl hl (by decide) rfl (fun ls hl => ?_)
                    refine lv_goto (tgt := 15) X.1 X.2.1 dX8_readText_82 (by decide) ?_
                    exact ih (p2 + 1) (dn + 1) k28 (some y2) _ (by omega) (by omega) hre (e0) (e1) (e2) (e7) hmt (by rw [← he, pt, hx0]; simp only []; rw [if_neg hne, if_pos his]) hF30 hfr _ _ hw _ (lv_sub hl [0, 1, 2] rfl)
            · have heq : p2 = len := (nI_eq (by omega) (by omega)).mp c20
              refine lv_iconst (v := nI 1) X.1 X.2.1 dX8_readText_58 (by decide) ?_
              exact x_iret X hr hlk hK hw (v := nI 1) (by decide +kernel) (⟨by rw [← he, pt, hx0]; simp only []; rw [if_pos heq]; rfl, ⟨_, hF18, e0, e1, e2, by rw [← he, pt, hx0]; simp only []; rw [if_pos heq]; exact (heq ▸ m3)⟩, hfr⟩) dX8_readText_59
          · exact absurd (by decide) c15
  exact loop (len + 1) 0 0 k9 (re tn len 0) _ (by omega) (Nat.zero_le _) rfl e0 e1 (e2.trans hlen) e7 hmt rfl hF11 hfr _ _ hw _ (lv_sub hl [0, 1, 2] rfl)
