/-! the text is carried out, by the reference -/
def pr (tn : Nat → Nat) (len nr : Nat) : Nat → Nat → Nat → (Nat → Int32) → Bool × Nat × (Nat → Int32)
  | 0, _, n, a => (false, n, a)
  | f + 1, p, n, a => match re tn len p with
    | none => (false, n, a)
    | some y => if erA a y nr < 0 then (true, n, a) else if y.2.2.2 = len then (true, n + 1, dzA a y nr) else if isn tn len y.2.2.2 59 59 then pr tn len nr f (y.2.2.2 + 1) (n + 1) (dzA a y nr) else (false, n + 1, dzA a y nr)
theorem prn {tn : Nat → Nat} {len nr p n : Nat} {a : Nat → Int32} (h : re tn len p = none) : ∀ {f : Nat}, 0 < f → pr tn len nr f p n a = (false, n, a) := by
  intro f hf
  cases f with
  | zero => cases hf
  | succ f => rw [pr, h]
theorem re_x {tn : Nat → Nat} {len p : Nat} {y : Ev} (ht : ∀ j, j < len → tn j < 128) (h : re tn len p = some y) : y.2.1 < 1000 := by
  unfold re at h
  split at h
  · obtain ⟨v, hv, rfl⟩ := Option.map_eq_some_iff.mp h
    have := rsc_lt hv; show v < 1000; omega
  · split at h
    · obtain ⟨v, hv, rfl⟩ := Option.map_eq_some_iff.mp h
      have q := rd_some hv; have := ht _ q.1.1; have := q.2; show v < 1000; omega
    · split at h
      · obtain ⟨v, hv, h2⟩ := Option.bind_eq_some_iff.mp h
        obtain ⟨w, hw, rfl⟩ := Option.map_eq_some_iff.mp h2
        have q := rd_some hv; have := ht _ q.1.1; have := q.2; show v < 1000; omega
      · cases h
theorem er_done {a k1 : Nat → Int32} {y : Ev} {nr nb np : Nat} (hL : isL y.1) (h4 : k1 4 = nI y.1) (h1 : a 1 = nI nb) (hb9 : nb ≤ 9) (hx : y.2.1 < 1000) (h : 0 ≤ erA a y nr) (h3 : a 3 = nI np) (hp : np ≤ 10) (hbu : 0 < nr → ¬ m_r a (nr - 1) 0 = 0) (hnr : nr ≤ 6) : (¬ k1 4 = 43 → y.2.1 < 9) ∧ (¬ k1 4 = 43 → 0 < nr) ∧ (k1 4 = 98 → ¬ m_r a (nr - 1) 0 = 0) ∧ (∃ np', dzA a y nr 3 = nI np' ∧ np' ≤ 10) ∧ dzA a y nr 1 = a 1 ∧ dzA a y nr 2 = a 2 ∧ (0 < nr → ¬ m_r (dzA a y nr) (nr - 1) 0 = 0) := by
  have h43 : ¬ k1 4 = 43 → ¬ y.1 = 43 := fun q e => q (by rw [h4, e]; rfl)
  have hi : ¬ y.1 = 43 → y.2.1 < nb ∧ 0 < nr ∧ (y.1 = 104 → ¬ a 3 = nI 10) := fun q => er_in hL h1 hb9 (by omega) h q
  refine ⟨fun q => by have := (hi (h43 q)).1; omega, fun q => (hi (h43 q)).2.1, fun q => hbu (hi (h43 (by rw [q]; decide))).2.1, ?_, dz_lo hL (by omega) (by omega) (by omega), dz_lo hL (by omega) (by omega) (by omega), fun q => ?_⟩
  · by_cases q : y.1 = 43
    · exact dz_3 hL h3 hp (fun e => by omega)
    · exact dz_3 hL h3 hp (hi q).2.2
  · show ¬ dzA a y nr (16 + 4 * (nr - 1) + 0) = 0
    rw [dz_lo hL (by omega) (by omega) (by omega)]
    exact hbu q
theorem hd_X8_does : yX8_does.cls = RX8 ∧ yX8_does.cls ≠ "java/lang/invoke/MethodHandle" ∧ yX8_does.cls ≠ "java/lang/invoke/VarHandle" ∧ (parseMethodDescriptor yX8_does.desc).map (fun d => d.parameters.length) = some 0 := by decide +kernel
theorem hd_X8_errorOfEvent : yX8_errorOfEvent.cls = RX8 ∧ yX8_errorOfEvent.cls ≠ "java/lang/invoke/MethodHandle" ∧ yX8_errorOfEvent.cls ≠ "java/lang/invoke/VarHandle" ∧ (parseMethodDescriptor yX8_errorOfEvent.desc).map (fun d => d.parameters.length) = some 0 := by decide +kernel
set_option maxHeartbeats 4000000 in
set_option maxRecDepth 100000 in
theorem k_X8_readText_t {l : Launch} {D : va_G} {cI cB cS : ClassId} {ad : Nat → Nat} {N : Nat} {F : Nat → va_E} (hI : iN ad N) (o : Nat) (a : Nat → Int32) (h : Nat → Int32) (sn : Nat → Int32) (tx : Nat → Int32) (k : Nat → Int32) (len : Nat) (tn : Nat → Nat) (nb : Nat) (nr : Nat) (np : Nat) (hc5 : o + 5 ≤ N) (hF : MoF ad cI F o a h sn tx k) (hlen : k 2 = nI len) (hl80 : len ≤ 80) (htn : ∀ j, j < len → tx j = nI (tn j) ∧ tn j < 128) (h1 : a 1 = nI nb) (hb9 : nb ≤ 9) (h2 : a 2 = nI nr) (hr6 : nr ≤ 6) (h3 : a 3 = nI np) (hp10 : np ≤ 10) (hbu : 0 < nr → ¬ m_r a (nr - 1) 0 = 0) : Ci l D cI cB cS ad N yX8_readText cX8_readText 3 (some .boolean) 5 107 [.ref (ad o), .int (nI 1)] F (fun r F' => r = bI (pr tn len nr (len + 1) 0 0 a).1 ∧ (∃ k', MoF ad cI F' o (pr tn len nr (len + 1) 0 0 a).2.2 h sn tx k' ∧ k' 0 = k 0 ∧ k' 1 = k 1 ∧ k' 2 = nI len ∧ k' 7 = nI (pr tn len nr (len + 1) 0 0 a).2.1) ∧ Fr F F' o (o + 5)) := by
  refine x_met (by decide +kernel) (Nat.le_of_ble_eq_true rfl) ?_
  intro p e s m below meth c X hr hlk hK hw ls hl
  replace hl : lv_has ls 3 [(0, .ref (ad o)), (1, .int (nI 1))] := hl
  have hfr : Fr F F (o) (o + 5) := Fr.rf
  refine lv_aload_n X.1 X.2.1 dX8_readText_0 rfl (lv_at hl 0 rfl) ?_
  refine lv_iconst (v := nI 0) X.1 X.2.1 dX8_readText_1 (by decide) ?_
  refine x_put2 X hI hK hw (C := RX8) (T := TX8) (nf := 12) (k := o) (ty := .int) (v := .int (nI 0)) (by omega) hF.1 rfl inX8 tyX8 tyX8_ok nmX8 7 (by decide) q875 (fun _ h9 => h9) rfl (by decide +kernel) rfl rfl (Nat.le_of_ble_eq_true rfl) dX8_readText_2 (fun F1 H locs eF2 hw => ?_)
  have hF3 : MoF ad cI F1 o a h sn tx (va_up k 3 (nI 0)) := by rw [eF2]; exact MoF.pt hF 3 (nI 0) _ rfl
  have hr4 := fr_eq eF2 (Nat.le_refl _) (Nat.lt_succ_self _)
  replace hfr := hfr.tr hr4 (by omega) (by omega)
  refine lv_aload_n X.1 X.2.1 dX8_readText_5 rfl (lv_at hl 0 rfl) ?_
  refine lv_iconst (v := nI 0) X.1 X.2.1 dX8_readText_6 (by decide) ?_
  refine x_put2 X hI hK hw (C := RX8) (T := TX8) (nf := 12) (k := o) (ty := .int) (v := .int (nI 0)) (by omega) hF3.1 rfl inX8 tyX8 tyX8_ok nmX8 11 (by decide) q879 (fun _ h9 => h9) rfl (by decide +kernel) rfl rfl (Nat.le_of_ble_eq_true rfl) dX8_readText_7 (fun F5 H locs eF6 hw => ?_)
  have hF7 : MoF ad cI F5 o a h sn tx (va_up ((va_up k 3 (nI 0))) 7 (nI 0)) := by rw [eF6]; exact MoF.pt hF3 7 (nI 0) _ rfl
  have hr8 := fr_eq eF6 (Nat.le_refl _) (Nat.lt_succ_self _)
  replace hfr := hfr.tr hr8 (by omega) (by omega)
  refine lv_aload_n X.1 X.2.1 dX8_readText_10 rfl (lv_at hl 0 rfl) ?_
  refine x_callV X hK hw (k := o) (As := []) (rest := []) (k_X8_readEvent hI o a h sn tx ((va_up ((va_up k 3 (nI 0))) 7 (nI 0))) len 0 tn (by omega) hF7 hlen (by omega) rfl (by omega) htn (by omega)) (x_cwV yX8_readEvent cX8_readEvent 1 (some .boolean) 0 X q1092 q1094 qs45 q14 q1095 hd_X8_readEvent ⟨Nat.le_of_ble_eq_true rfl, Nat.le_of_ble_eq_true rfl⟩) (by omega) hF7.1 rfl rfl hl.1 rfl (Nat.le_of_ble_eq_true rfl) dX8_readText_11 ⟨Nat.le_of_ble_eq_true rfl, Nat.le_of_ble_eq_true rfl⟩ (fun r1 F10 H locs hpp hw => ?_)
  obtain ⟨⟨k9, hF11, f0, f1, f2, f7, hm⟩, hr12⟩ := hpp
  have e0 := f0
  have e1 := f1
  have e2 := f2
  have e7 := f7
  obtain ⟨er, hmt⟩ := mt_of hm
  refine x_top er ?_
  replace hfr := hfr.tr hr12 (by omega) (by omega)
  refine lv_istore_n (lv' := [(2, .int (rI (re tn len 0))), (0, .ref (ad o)), (1, .int (nI 1))]) X.1 X.2.1 dX8_readText_14 rfl hl (by decide) rfl (fun ls hl => ?_)
  have loop : ∀ (fu ps dn np1 : Nat) (k1 a1 : Nat → Int32) (x : Option (Nat × Nat × Nat × Nat)) (F1 : Nat → va_E) (hfu : len < ps + fu) (hp : ps ≤ len) (hx0 : re tn len ps = x) (e0 : k1 0 = k 0) (e1 : k1 1 = k 1) (e2 : k1 2 = nI len) (e7 : k1 7 = nI dn) (hmt : mt tn len ps k1 x) (g1 : a1 1 = nI nb) (g2 : a1 2 = nI nr) (g3 : a1 3 = nI np1) (g10 : np1 ≤ 10) (gbu : 0 < nr → ¬ m_r a1 (nr - 1) 0 = 0) (he : pr tn len nr fu ps dn a1 = pr tn len nr (len + 1) 0 0 a) (hF : MoF ad cI F1 o a1 h sn tx k1) (hfr : Fr F F1 o (o + 5)) (H : Heap) (locs : List Loc) (hw : HW D (Af ad N s.heap.size) ad N F1 s H locs) (ls : Array Slot) (hl : lv_has ls 3 [(2, .int (rI x)), (0, .ref (ad o)), (1, .int (nI 1))]), W p l e { frames := 5, cells := 0, slots := 0, locals := 107 } s m [.ref (ad o), .int (nI 1)].toArray below meth c H locs 0 0 (MQ below (va_Qi (fun r F' => r = bI (pr tn len nr (len + 1) 0 0 a).1 ∧ (∃ k', MoF ad cI F' o (pr tn len nr (len + 1) 0 0 a).2.2 h sn tx k' ∧ k' 0 = k 0 ∧ k' 1 = k 1 ∧ k' 2 = nI len ∧ k' 7 = nI (pr tn len nr (len + 1) 0 0 a).2.1) ∧ Fr F F' o (o + 5)) (fun F' t => PO D ad N F' t) (Af ad N s.heap.size)) [.ref (ad o), .int (nI 1)].toArray s 0 0 (Af ad N s.heap.size)) (F0 m 15 ls []) := by
    intro fu
    induction fu with
    | zero => intro ps dn np1 k1 a1 x F1 hfu hp; exact absurd hp (by omega)
    | succ fu ih =>
      intro ps dn np1 k1 a1 x F1 hfu hp hx0 e0 e1 e2 e7 hmt g1 g2 g3 g10 gbu he hF hfr H locs hw ls hl
      rcases x with _ | ⟨xL, x1, y1, p2⟩
      · replace hl : lv_has ls 3 [(2, .int (nI 0)), (0, .ref (ad o)), (1, .int (nI 1))] := hl
        refine lv_iload_n X.1 X.2.1 dX8_readText_15 rfl (lv_at hl 0 rfl) ?_
        refine lv_if_eq (tgt := 85) X.1 X.2.1 dX8_readText_16 (by decide) (fun c13 => ?_) (fun c13 => ?_)
        · refine lv_iconst (v := nI 0) X.1 X.2.1 dX8_readText_85 (by decide) ?_
          exact x_iret X hr hlk hK hw (v := nI 0) (by decide +kernel) (⟨by rw [← he, pr, hx0]; rfl, ⟨k1, by rw [← he, pr, hx0]; exact hF, e0, e1, e2, by rw [← he, pr, hx0]; exact e7⟩, hfr⟩) dX8_readText_86
        · exact absurd (by decide) c13
      · replace hl : lv_has ls 3 [(2, .int (nI 1)), (0, .ref (ad o)), (1, .int (nI 1))] := hl
        have hp2 := re_pos hp hx0
        simp only at hp2
        obtain ⟨m4, m5, m6, m3⟩ := hmt
        simp only at m3 m4 m5 m6
        refine lv_iload_n X.1 X.2.1 dX8_readText_15 rfl (lv_at hl 0 rfl) ?_
        refine lv_if_eq (tgt := 85) X.1 X.2.1 dX8_readText_16 (by decide) (fun c14 => ?_) (fun c14 => ?_)
        · exact absurd c14 (by decide)
        · refine lv_iload_n X.1 X.2.1 dX8_readText_19 rfl (lv_at hl 2 rfl) ?_
          refine lv_if_eq (tgt := 37) X.1 X.2.1 dX8_readText_20 (by decide) (fun c15 => ?_) (fun c15 => ?_)
          · exact absurd c15 (by decide)
          · refine lv_aload_n X.1 X.2.1 dX8_readText_23 rfl (lv_at hl 1 rfl) ?_
            refine x_callVP X hK hw (k := o) (As := []) (rest := []) (k_X8_errorOfEvent hI o a1 h sn tx k1 nb nr (by omega) hF g1 (by omega) g2 (by omega)) (x_cwV yX8_errorOfEvent cX8_errorOfEvent 1 (some .int) 0 X q1108 q1110 qs49 q14 q1111 hd_X8_errorOfEvent ⟨Nat.le_of_ble_eq_true rfl, Nat.le_of_ble_eq_true rfl⟩) (by omega) hF.1 rfl rfl hl.1 rfl (Nat.le_of_ble_eq_true rfl) dX8_readText_24 ⟨Nat.le_of_ble_eq_true rfl, Nat.le_of_ble_eq_true rfl⟩ (fun H locs hw => ?_)
            refine lv_if_ge (tgt := 32) X.1 X.2.1 dX8_readText_27 (by decide) (fun c16 => ?_) (fun c16 => ?_)
            · have hge : 0 ≤ erA a1 (xL, x1, y1, p2) nr := (er_eq (re_letter hx0) m4 m5 m6) ▸ c16
              obtain ⟨w9, w0, wb, ⟨np2, n3, n10⟩, n1, n2, nbu⟩ := er_done (re_letter hx0) m4 g1 hb9 (re_x (fun j hj => (htn j hj).2) hx0) hge g3 g10 gbu hr6
              have hnl : ¬ erA a1 (xL, x1, y1, p2) nr < 0 := Int32.not_lt.mpr hge
              refine lv_aload_n X.1 X.2.1 dX8_readText_32 rfl (lv_at hl 1 rfl) ?_
              refine x_callV X hK hw (k := o) (As := []) (rest := []) (k_X8_does hI o a1 h sn tx k1 nr np1 x1 (by omega) hF g2 (by omega) g3 g10 m5 w9 w0 wb) (x_cwV yX8_does cX8_does 1 (some .int) 0 X q1112 q1114 qs50 q14 q1115 hd_X8_does ⟨Nat.le_of_ble_eq_true rfl, Nat.le_of_ble_eq_true rfl⟩) (by omega) hF.1 rfl rfl hl.1 rfl (Nat.le_of_ble_eq_true rfl) dX8_readText_33 ⟨Nat.le_of_ble_eq_true rfl, Nat.le_of_ble_eq_true rfl⟩ (fun r1 F17 H locs hpp hw => ?_)
              obtain ⟨er, hF18, hr19⟩ := hpp
              rw [dz_eq (re_letter hx0) g3 (by omega) m4 m5 m6] at hF18
              replace hF18 : MoF ad cI F17 o (dzA a1 (xL, x1, y1, p2) nr) h sn tx k1 := hF18
              replace hfr := hfr.tr hr19 (by omega) (by omega)
              refine x_top er ?_
              refine lv_pop X.1 X.2.1 dX8_readText_36 rfl ?_
              refine lv_aload_n X.1 X.2.1 dX8_readText_37 rfl (lv_at hl 1 rfl) ?_
              refine lv_dup X.1 X.2.1 dX8_readText_38 rfl ?_
              refine x_get X hK hw (C := RX8) (T := TX8) (nf := 12) (k := o) (by omega) hF18.1 rfl inX8 11 (by decide) q879 (fun _ h9 => h9) rfl dX8_readText_39 ?_
              refine x_top (y := nI dn) e7 ?_
              refine lv_iconst (v := nI 1) X.1 X.2.1 dX8_readText_42 (by decide) ?_
              refine lv_iadd X.1 X.2.1 dX8_readText_43 ?_
              refine x_top (nI_add _ _) ?_
              refine x_put2 X hI hK hw (C := RX8) (T := TX8) (nf := 12) (k := o) (ty := .int) (v := .int (nI (dn + 1))) (by omega) hF18.1 rfl inX8 tyX8 tyX8_ok nmX8 11 (by decide) q879 (fun _ h9 => h9) rfl (by decide +kernel) rfl rfl (Nat.le_of_ble_eq_true rfl) dX8_readText_44 (fun F20 H locs eF21 hw => ?_)
              have hF22 : MoF ad cI F20 o ((dzA a1 (xL, x1, y1, p2) nr)) h sn tx (va_up k1 7 (nI (dn + 1))) := by rw [eF21]; exact MoF.pt hF18 7 (nI (dn + 1)) _ rfl
              have hr23 := fr_eq eF21 (Nat.le_refl _) (Nat.lt_succ_self _)
              replace hfr := hfr.tr hr23 (by omega) (by omega)
              refine lv_aload_n X.1 X.2.1 dX8_readText_47 rfl (lv_at hl 1 rfl) ?_
              refine x_get X hK hw (C := RX8) (T := TX8) (nf := 12) (k := o) (by omega) hF22.1 rfl inX8 7 (by decide) q875 (fun _ h9 => h9) rfl dX8_readText_48 ?_
              refine x_top (y := nI p2) m3 ?_
              refine lv_aload_n X.1 X.2.1 dX8_readText_51 rfl (lv_at hl 1 rfl) ?_
              refine x_get X hK hw (C := RX8) (T := TX8) (nf := 12) (k := o) (by omega) hF22.1 rfl inX8 6 (by decide) q874 (fun _ h9 => h9) rfl dX8_readText_52 ?_
              refine x_top (y := nI len) e2 ?_
              refine lv_icmp_ne (tgt := 60) X.1 X.2.1 dX8_readText_55 (by decide) (fun c24 => ?_) (fun c24 => ?_)
              · have hne : ¬ p2 = len := fun q => c24 (by rw [q])
                refine lv_aload_n X.1 X.2.1 dX8_readText_60 rfl (lv_at hl 1 rfl) ?_
                refine lv_bipush (v := nI 59) X.1 X.2.1 dX8_readText_61 (by decide) ?_
                refine x_callV X hK hw (k := o) (As := [.int (nI 59)]) (rest := []) (k_X8_takes hI o ((dzA a1 (xL, x1, y1, p2) nr)) h sn tx ((va_up k1 7 (nI (dn + 1)))) 59 len p2 tn (by omega) hF22 e2 (by omega) m3 (by omega) htn (by omega)) (x_cwV yX8_takes cX8_takes 3 (some .boolean) 1 X q1116 q1118 qs51 q14 q1119 hd_X8_takes ⟨Nat.le_of_ble_eq_true rfl, Nat.le_of_ble_eq_true rfl⟩) (by omega) hF22.1 rfl rfl hl.1 rfl (Nat.le_of_ble_eq_true rfl) dX8_readText_63 ⟨Nat.le_of_ble_eq_true rfl, Nat.le_of_ble_eq_true rfl⟩ (fun r28 F25 H locs hp hw => ?_)
                obtain ⟨er29, hF26, hr27⟩ := hp
                refine x_top er29 ?_
                replace hfr := hfr.tr hr27 (by omega) (by omega)
                refine lv_if_eq (tgt := 80) X.1 X.2.1 dX8_readText_66 (by decide) (fun c30 => ?_) (fun c30 => ?_)
                · have hns := bI_z c30
                  refine lv_iconst (v := nI 0) X.1 X.2.1 dX8_readText_80 (by decide) ?_
                  refine lv_istore_n (lv' := [(2, .int (nI 0)), (0, .ref (ad o)), (1, .int (nI 1))]) X.1 X.2.1 dX8_readText_81 rfl hl (by decide) rfl (fun ls hl => ?_)
                  refine lv_goto (tgt := 15) X.1 X.2.1 dX8_readText_82 (by decide) ?_
                  refine lv_iload_n X.1 X.2.1 dX8_readText_15 rfl (lv_at hl 0 rfl) ?_
                  refine lv_if_eq (tgt := 85) X.1 X.2.1 dX8_readText_16 (by decide) (fun c31 => ?_) (fun c31 => ?_)
                  · refine lv_iconst (v := nI 0) X.1 X.2.1 dX8_readText_85 (by decide) ?_
                    exact x_iret X hr hlk hK hw (v := nI 0) (by decide +kernel) (⟨by rw [← he, pr, hx0]; simp only []; rw [if_neg hnl, if_neg hne, if_neg hns]; rfl, ⟨(va_up ((va_up k1 7 (nI (dn + 1)))) 3 (nI (if isn tn len p2 59 59 then p2 + 1 else p2))), by rw [← he, pr, hx0]; simp only []; rw [if_neg hnl, if_neg hne, if_neg hns]; exact hF26, e0, e1, e2, (congrArg nI (by rw [← he, pr, hx0]; simp only []; rw [if_neg hnl, if_neg hne, if_neg hns] : (pr tn len nr (len + 1) 0 0 a).2.1 = dn + 1)).symm⟩, hfr⟩) dX8_readText_86
                  · exact absurd (by decide) c31
                · have his := bI_nz c30
                  have hlt := his.1
                  refine lv_aload_n X.1 X.2.1 dX8_readText_69 rfl (lv_at hl 1 rfl) ?_
                  refine x_callV X hK hw (k := o) (As := []) (rest := []) (k_X8_readEvent hI o ((((dzA a1 (xL, x1, y1, p2) nr)))) h sn tx ((va_up ((va_up k1 7 (nI (dn + 1)))) 3 (nI (if isn tn len p2 59 59 then p2 + 1 else p2)))) len ((p2 + 1)) tn (by omega) hF26 e2 (by omega) (by show nI (if isn tn len p2 59 59 then p2 + 1 else p2) = nI (p2 + 1); rw [if_pos his]) (by have := his.1; omega) htn (by have := his.1; omega)) (x_cwV yX8_readEvent cX8_readEvent 1 (some .boolean) 0 X q1092 q1094 qs45 q14 q1095 hd_X8_readEvent ⟨Nat.le_of_ble_eq_true rfl, Nat.le_of_ble_eq_true rfl⟩) (by omega) hF26.1 rfl rfl hl.1 rfl (Nat.le_of_ble_eq_true rfl) dX8_readText_70 ⟨Nat.le_of_ble_eq_true rfl, Nat.le_of_ble_eq_true rfl⟩ (fun r1 F33 H locs hpp hw => ?_)
                  obtain ⟨⟨k32, hF34, f0, f1, f2, f7, hm⟩, hr35⟩ := hpp
                  replace e0 := f0.trans e0
                  replace e1 := f1.trans e1
                  replace e2 := f2.trans e2
                  replace e7 := f7.trans (rfl : _ = nI (dn + 1))
                  obtain ⟨er, hmt⟩ := mt_of hm
                  refine x_top er ?_
                  replace hfr := hfr.tr hr35 (by omega) (by omega)
                  rcases hre : re tn len (p2 + 1) with _ | y2
                  · rw [hre] at hmt
                    refine x_top (y := nI 0) rfl ?_
                    refine lv_if_eq (tgt := 80) X.1 X.2.1 dX8_readText_73 (by decide) (fun c36 => ?_) (fun c36 => ?_)
                    · refine lv_iconst (v := nI 0) X.1 X.2.1 dX8_readText_80 (by decide) ?_
                      refine lv_istore_n (lv' := [(2, .int (nI 0)), (0, .ref (ad o)), (1, .int (nI 1))]) X.1 X.2.1 dX8_readText_81 rfl hl (by decide) rfl (fun ls hl => ?_)
                      refine lv_goto (tgt := 15) X.1 X.2.1 dX8_readText_82 (by decide) ?_
                      refine lv_iload_n X.1 X.2.1 dX8_readText_15 rfl (lv_at hl 0 rfl) ?_
                      refine lv_if_eq (tgt := 85) X.1 X.2.1 dX8_readText_16 (by decide) (fun c37 => ?_) (fun c37 => ?_)
                      · refine lv_iconst (v := nI 0) X.1 X.2.1 dX8_readText_85 (by decide) ?_
                        exact x_iret X hr hlk hK hw (v := nI 0) (by decide +kernel) (⟨by rw [← he, pr, hx0]; simp only []; rw [if_neg hnl, if_neg hne, if_pos his, prn hre (by omega)]; rfl, ⟨k32, by rw [← he, pr, hx0]; simp only []; rw [if_neg hnl, if_neg hne, if_pos his, prn hre (by omega)]; exact hF34, e0, e1, e2, by rw [← he, pr, hx0]; simp only []; rw [if_neg hnl, if_neg hne, if_pos his, prn hre (by omega)]; exact e7⟩, hfr⟩) dX8_readText_86
                      · exact absurd (by decide) c37
                    · exact absurd (by decide) c36
                  · rw [hre] at hmt
                    refine x_top (y := nI 1) rfl ?_
                    refine lv_if_eq (tgt := 80) X.1 X.2.1 dX8_readText_73 (by decide) (fun c38 => ?_) (fun c38 => ?_)
                    · exact absurd c38 (by decide)
                    · refine lv_iconst (v := nI 1) X.1 X.2.1 dX8_readText_76 (by decide) ?_
                      refine lv_goto (tgt := 81) X.1 X.2.1 dX8_readText_77 (by decide) ?_
                      refine lv_istore_n (lv' := [(2, .int (nI 1)), (0, .ref (ad o)), (1, .int (nI 1))]) X.1 X.2.1 dX8_readText_81 rfl hl (by decide) rfl (fun ls hl => ?_)
                      refine lv_goto (tgt := 15) X.1 X.2.1 dX8_readText_82 (by decide) ?_
                      exact ih (p2 + 1) (dn + 1) np2 k32 (dzA a1 (xL, x1, y1, p2) nr) (some y2) _ (by omega) (by omega) hre (e0) (e1) (e2) (e7) hmt (n1.trans g1) (n2.trans g2) n3 n10 nbu (by rw [← he, pr, hx0]; simp only []; rw [if_neg hnl, if_neg hne, if_pos his]) hF34 hfr _ _ hw _ (lv_sub hl [0, 1, 2] rfl)
              · have heq : p2 = len := (nI_eq (by omega) (by omega)).mp c24
                refine lv_iconst (v := nI 1) X.1 X.2.1 dX8_readText_58 (by decide) ?_
                exact x_iret X hr hlk hK hw (v := nI 1) (by decide +kernel) (⟨by rw [← he, pr, hx0]; simp only []; rw [if_neg hnl, if_pos heq]; rfl, ⟨(va_up k1 7 (nI (dn + 1))), by rw [← he, pr, hx0]; simp only []; rw [if_neg hnl, if_pos heq]; exact hF22, e0, e1, e2, (congrArg nI (by rw [← he, pr, hx0]; simp only []; rw [if_neg hnl, if_pos heq] : (pr tn len nr (len + 1) 0 0 a).2.1 = dn + 1)).symm⟩, hfr⟩) dX8_readText_59
            · have hlt0 : erA a1 (xL, x1, y1, p2) nr < 0 := (er_eq (re_letter hx0) m4 m5 m6) ▸ (Int32.not_le.mp c16)
              refine lv_iconst (v := nI 1) X.1 X.2.1 dX8_readText_30 (by decide) ?_
              exact x_iret X hr hlk hK hw (v := nI 1) (by decide +kernel) (⟨by rw [← he, pr, hx0]; simp only []; rw [if_pos hlt0]; rfl, ⟨k1, by rw [← he, pr, hx0]; simp only []; rw [if_pos hlt0]; exact hF, e0, e1, e2, by rw [← he, pr, hx0]; simp only []; rw [if_pos hlt0]; exact e7⟩, hfr⟩) dX8_readText_31
  exact loop (len + 1) 0 0 np k9 a (re tn len 0) _ (by omega) (Nat.zero_le _) rfl e0 e1 (e2.trans hlen) e7 hmt h1 h2 h3 hp10 hbu rfl hF11 hfr _ _ hw _ (lv_sub hl [0, 1, 2] rfl)
