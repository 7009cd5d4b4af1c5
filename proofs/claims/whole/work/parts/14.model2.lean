def ArF (cI : ClassId) (F : Nat → va_E) (k n : Nat) (f : Nat → Int32) : Prop := F k = .inl (cI, n, .inl f)
theorem ArF.cg {cI : ClassId} {F F' : Nat → va_E} {k n : Nat} {f : Nat → Int32} (h : ArF cI F k n f) {lo hi : Nat} (hf : Fr F F' lo hi) (hd : k + 1 ≤ lo ∨ hi ≤ k) : ArF cI F' k n f := (hf _ (by omega)).trans h
def cpy (f0 f1 : Nat → Int32) (f t : Nat) : Nat → (Nat → Int32)
  | 0 => f1
  | i + 1 => upd (cpy f0 f1 f t i) (t + i) (f0 (f + i))
theorem isb_of {x y : Int32} {n : Nat} (h : ¬ x < nI 0 ∧ ¬ y - nI 1 < x) (hy : y = nI n) (hn : n < 2 ^ 30) : x.toNatClampNeg < n ∧ x = nI x.toNatClampNeg := by
  obtain ⟨j, hj, rfl⟩ := nI_of (x := x) h.1
  have h2 := h.2
  rcases Nat.eq_zero_or_pos n with q | q
  · exfalso
    apply h2
    rw [hy, q]
    show nI 0 - nI 1 < nI j
    rw [Int32.lt_iff_toInt_lt, nI_toInt hj]
    have : (nI 0 - nI 1).toInt = -1 := by decide
    omega
  · rw [hy, pk_sub (by omega)] at h2
    have h3 := Int32.not_lt.mp h2
    rw [nI_leI hj (by omega)] at h3
    rw [nI_clamp hj]
    exact ⟨by omega, rfl⟩
theorem MoF.st0 {ad : Nat → Nat} {cI : ClassId} {F F' : Nat → va_E} {o : Nat} {a h sn tx k f : Nat → Int32} (hm : MoF ad cI F o a h sn tx k) (he : F' = va_up F (o + 1) (.inl (cI, 404, .inl f))) : MoF ad cI F' o f h sn tx k := by
  subst he; exact ⟨by rw [← hm.1]; simp [va_up], by simp [va_up], by rw [← hm.2.2.1]; simp [va_up], by rw [← hm.2.2.2.1]; simp [va_up], by rw [← hm.2.2.2.2]; simp [va_up]⟩
theorem MoF.st1 {ad : Nat → Nat} {cI : ClassId} {F F' : Nat → va_E} {o : Nat} {a h sn tx k f : Nat → Int32} (hm : MoF ad cI F o a h sn tx k) (he : F' = va_up F (o + 2) (.inl (cI, 1616, .inl f))) : MoF ad cI F' o a f sn tx k := by
  subst he; exact ⟨by rw [← hm.1]; simp [va_up], by rw [← hm.2.1]; simp [va_up], by simp [va_up], by rw [← hm.2.2.2.1]; simp [va_up], by rw [← hm.2.2.2.2]; simp [va_up]⟩
theorem MoF.st2 {ad : Nat → Nat} {cI : ClassId} {F F' : Nat → va_E} {o : Nat} {a h sn tx k f : Nat → Int32} (hm : MoF ad cI F o a h sn tx k) (he : F' = va_up F (o + 3) (.inl (cI, 404, .inl f))) : MoF ad cI F' o a h f tx k := by
  subst he; exact ⟨by rw [← hm.1]; simp [va_up], by rw [← hm.2.1]; simp [va_up], by rw [← hm.2.2.1]; simp [va_up], by simp [va_up], by rw [← hm.2.2.2.2]; simp [va_up]⟩
theorem MoF.st3 {ad : Nat → Nat} {cI : ClassId} {F F' : Nat → va_E} {o : Nat} {a h sn tx k f : Nat → Int32} (hm : MoF ad cI F o a h sn tx k) (he : F' = va_up F (o + 4) (.inl (cI, 80, .inl f))) : MoF ad cI F' o a h sn f k := by
  subst he; exact ⟨by rw [← hm.1]; simp [va_up], by rw [← hm.2.1]; simp [va_up], by rw [← hm.2.2.1]; simp [va_up], by rw [← hm.2.2.2.1]; simp [va_up], by simp [va_up]⟩
theorem MoF.pt {ad : Nat → Nat} {cI : ClassId} {F : Nat → va_E} {o : Nat} {a h sn tx k : Nat → Int32} (hm : MoF ad cI F o a h sn tx k) (j : Nat) (v : Int32) (fs : List Value) (hfs : fs = [.ref (ad (o + 1)), .ref (ad (o + 2)), .int (va_up k j v 0), .ref (ad (o + 3)), .int (va_up k j v 1), .ref (ad (o + 4)), .int (va_up k j v 2), .int (va_up k j v 3), .int (va_up k j v 4), .int (va_up k j v 5), .int (va_up k j v 6), .int (va_up k j v 7)]) : MoF ad cI (va_up F o (.inr (9, fs))) o a h sn tx (va_up k j v) :=
  ⟨by rw [hfs]; simp [va_up], by rw [← hm.2.1]; simp [va_up], by rw [← hm.2.2.1]; simp [va_up], by rw [← hm.2.2.2.1]; simp [va_up], by rw [← hm.2.2.2.2]; simp [va_up]⟩
theorem MoF.ar0 {ad : Nat → Nat} {cI : ClassId} {F F' : Nat → va_E} {o : Nat} {a h sn tx k f : Nat → Int32} (hm : MoF ad cI F o a h sn tx k) (h1 : ArF cI F' (o + 1) 404 f) (hr : Fr F F' (o + 1) (o + 1 + 1)) : MoF ad cI F' o f h sn tx k := ⟨(hr _ (by omega)).trans hm.1, h1, (hr _ (by omega)).trans hm.2.2.1, (hr _ (by omega)).trans hm.2.2.2.1, (hr _ (by omega)).trans hm.2.2.2.2⟩
theorem MoF.ar1 {ad : Nat → Nat} {cI : ClassId} {F F' : Nat → va_E} {o : Nat} {a h sn tx k f : Nat → Int32} (hm : MoF ad cI F o a h sn tx k) (h1 : ArF cI F' (o + 2) 1616 f) (hr : Fr F F' (o + 2) (o + 2 + 1)) : MoF ad cI F' o a f sn tx k := ⟨(hr _ (by omega)).trans hm.1, (hr _ (by omega)).trans hm.2.1, h1, (hr _ (by omega)).trans hm.2.2.2.1, (hr _ (by omega)).trans hm.2.2.2.2⟩
theorem MoF.ar2 {ad : Nat → Nat} {cI : ClassId} {F F' : Nat → va_E} {o : Nat} {a h sn tx k f : Nat → Int32} (hm : MoF ad cI F o a h sn tx k) (h1 : ArF cI F' (o + 3) 404 f) (hr : Fr F F' (o + 3) (o + 3 + 1)) : MoF ad cI F' o a h f tx k := ⟨(hr _ (by omega)).trans hm.1, (hr _ (by omega)).trans hm.2.1, (hr _ (by omega)).trans hm.2.2.1, h1, (hr _ (by omega)).trans hm.2.2.2.2⟩
theorem auto_mo {ad : Nat → Nat} {cI : ClassId} {F F' : Nat → va_E} {o lo hi : Nat} {x : Int32 × (Nat → Int32) × (Nat → Int32) × (Nat → Int32) × (Nat → Int32) × (Nat → Int32)} {v : Int32} {a h sn tx k : Nat → Int32} (he : x = (v, a, h, sn, tx, k)) (hF : MoF ad cI F' o a h sn tx k) (hf : Fr F F' lo hi) : v = x.1 ∧ MoF ad cI F' o x.2.1 x.2.2.1 x.2.2.2.1 x.2.2.2.2.1 x.2.2.2.2.2 ∧ Fr F F' lo hi := by
  subst he; exact ⟨rfl, hF, hf⟩
theorem auto_mov {ad : Nat → Nat} {cI : ClassId} {F F' : Nat → va_E} {o lo hi : Nat} {x : Int32 × (Nat → Int32) × (Nat → Int32) × (Nat → Int32) × (Nat → Int32) × (Nat → Int32)} {v : Int32} {a h sn tx k : Nat → Int32} (he : x = (v, a, h, sn, tx, k)) (hF : MoF ad cI F' o a h sn tx k) (hf : Fr F F' lo hi) : MoF ad cI F' o x.2.1 x.2.2.1 x.2.2.2.1 x.2.2.2.2.1 x.2.2.2.2.2 ∧ Fr F F' lo hi := by
  subst he; exact ⟨hF, hf⟩
set_option maxHeartbeats 4000000 in
set_option maxRecDepth 100000 in
theorem k_X8_copy {l : Launch} {D : va_G} {cI cB cS : ClassId} {ad : Nat → Nat} {N : Nat} {F : Nat → va_E} (hI : iN ad N) (k0 : Nat) (n0 : Nat) (f0 : Nat → Int32) (k1 : Nat) (n1 : Nat) (f1 : Nat → Int32) (f : Nat) (t : Nat) (hka : k0 + 1 ≤ N) (hkb : k1 + 1 ≤ N) (hA0 : ArF cI F k0 n0 f0) (hA1 : ArF cI F k1 n1 f1) (hne : k0 ≠ k1) (hi0 : f + 404 ≤ n0) (hi1 : t + 404 ≤ n1) (hn0 : n0 < 2 ^ 31) (hn1 : n1 < 2 ^ 31) : Cv l D cI cB cS ad N yX8_copy cX8_copy 5 0 0 [.ref (ad k0), .int (nI f), .ref (ad k1), .int (nI t)] F (fun F' => ArF cI F' k1 n1 (cpy f0 f1 f t 404) ∧ Fr F F' k1 (k1 + 1)) := by
  refine x_metv (by decide +kernel) (Nat.le_of_ble_eq_true rfl) ?_
  intro p e s m below meth c X hr hlk hK hw ls hl
  replace hl : lv_has ls 5 [(0, .ref (ad k0)), (1, .int (nI f)), (2, .ref (ad k1)), (3, .int (nI t))] := hl
  refine lv_iconst (v := nI 0) X.1 X.2.1 dX8_copy_0 (by decide) ?_
  refine lv_istore (lv' := [(4, .int (nI 0)), (0, .ref (ad k0)), (1, .int (nI f)), (2, .ref (ad k1)), (3, .int (nI t))]) X.1 X.2.1 dX8_copy_1 hl (by decide) rfl (fun ls hl => ?_)
  have loop : ∀ (fu : Nat) (i : Nat) (F1 : Nat → va_E) (g1 : Nat → Int32) (hfu : i + fu = 404) (he : g1 = cpy f0 f1 f t i) (hA0 : ArF cI F1 k0 n0 f0) (hA1 : ArF cI F1 k1 n1 g1) (hfr : Fr F F1 k1 (k1 + 1)) (H : Heap) (locs : List Loc) (hw : HW D (Af ad N s.heap.size) ad N F1 s H locs) (ls : Array Slot) (hl : lv_has ls 5 [(4, .int (nI i)), (0, .ref (ad k0)), (1, .int (nI f)), (2, .ref (ad k1)), (3, .int (nI t))]), W p l e { frames := 0, cells := 0, slots := 0, locals := 0 } s m [.ref (ad k0), .int (nI f), .ref (ad k1), .int (nI t)].toArray below meth c H locs 0 0 (MQ below (va_Qv (fun F' => ArF cI F' k1 n1 (cpy f0 f1 f t 404) ∧ Fr F F' k1 (k1 + 1)) (fun F' t => PO D ad N F' t) (Af ad N s.heap.size)) [.ref (ad k0), .int (nI f), .ref (ad k1), .int (nI t)].toArray s 0 0 (Af ad N s.heap.size)) (F0 m 3 ls []) := by
    intro fu
    induction fu with
    | zero =>
      intro i F1 g1 hfu he hA0 hA1 hfr H locs hw ls hl
      refine lv_iload X.1 X.2.1 dX8_copy_3 (lv_at hl 0 rfl) ?_
      refine lv_sipush (v := nI 404) X.1 X.2.1 dX8_copy_5 (by decide) ?_
      refine lv_icmp_ge (tgt := 29) X.1 X.2.1 dX8_copy_8 (by decide) (fun c1 => ?_) (fun c1 => ?_)
      · exact x_vret X hr hlk hK hw (⟨by have h := hA1; rw [he, show i = 404 by omega] at h; exact h, hfr⟩) dX8_copy_29
      · exact absurd (nI_le (by omega) (by omega)) c1
    | succ fu ih =>
      intro i F1 g1 hfu he hA0 hA1 hfr H locs hw ls hl
      refine lv_iload X.1 X.2.1 dX8_copy_3 (lv_at hl 0 rfl) ?_
      refine lv_sipush (v := nI 404) X.1 X.2.1 dX8_copy_5 (by decide) ?_
      refine lv_icmp_ge (tgt := 29) X.1 X.2.1 dX8_copy_8 (by decide) (fun c2 => ?_) (fun c2 => ?_)
      · exact absurd c2 (nI_ge (by omega) (by omega))
      · refine lv_aload_n X.1 X.2.1 dX8_copy_11 rfl (lv_at hl 3 rfl) ?_
        refine lv_iload_n X.1 X.2.1 dX8_copy_12 rfl (lv_at hl 4 rfl) ?_
        refine lv_iload X.1 X.2.1 dX8_copy_13 (lv_at hl 0 rfl) ?_
        refine lv_iadd X.1 X.2.1 dX8_copy_15 ?_
        refine x_top (nI_add _ _) ?_
        refine lv_aload_n X.1 X.2.1 dX8_copy_16 rfl (lv_at hl 1 rfl) ?_
        refine lv_iload_n X.1 X.2.1 dX8_copy_17 rfl (lv_at hl 2 rfl) ?_
        refine lv_iload X.1 X.2.1 dX8_copy_18 (lv_at hl 0 rfl) ?_
        refine lv_iadd X.1 X.2.1 dX8_copy_20 ?_
        refine x_top (nI_add _ _) ?_
        refine x_ialdN X hK hw (k := k0) (by omega) hA0 (i := nI (f + i)) (j := f + i) rfl (by omega) (by omega) dX8_copy_21 ?_
        refine x_iastN2 X hI hK hw (k := k1) (by omega) hA1 (i := nI (t + i)) (j := t + i) rfl (by omega) (by omega) dX8_copy_22 (fun F3 H locs eF4 hw => ?_)
        have hA0 : ArF cI F3 k0 n0 f0 := by rw [eF4]; exact (va_up_ne _ _ hne).trans hA0
        have hA1 : ArF cI F3 k1 n1 (upd g1 (t + i) (f0 (f + i))) := by rw [eF4]; simp [ArF, va_up]
        replace hfr := hfr.tr (fr_eq eF4 (Nat.le_refl _) (Nat.lt_succ_self _)) (by omega) (by omega)
        refine lv_iinc (v := nI (i + 1)) (lv' := [(4, .int (nI (i + 1))), (0, .ref (ad k0)), (1, .int (nI f)), (2, .ref (ad k1)), (3, .int (nI t))]) X.1 X.2.1 dX8_copy_23 hl (k := 0) rfl (by first | exact nI_1 _ | exact nI_add _ _ | rfl) (by decide) rfl (fun ls hl => ?_)
        refine lv_goto (tgt := 3) X.1 X.2.1 dX8_copy_26 (by decide) ?_
        exact ih (i + 1) F3 (upd g1 (t + i) (f0 (f + i))) (by omega) (by rw [he, cpy]) hA0 hA1 hfr _ _ hw _ (lv_sub hl [0, 1, 2, 3, 4] rfl)
  exact loop 404 0 F f1 (by omega) rfl hA0 hA1 Fr.rf _ _ hw _ (lv_sub hl [0, 1, 2, 3, 4] rfl)
