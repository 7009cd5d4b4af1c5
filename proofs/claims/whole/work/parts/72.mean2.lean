theorem hd_X7_mean : yX7_mean.cls = RX7 ∧ yX7_mean.cls ≠ "java/lang/invoke/MethodHandle" ∧ yX7_mean.cls ≠ "java/lang/invoke/VarHandle" ∧ (parseMethodDescriptor yX7_mean.desc).map (fun d => d.parameters.length) = some 1 := by decide +kernel
theorem hd_X8_mean : yX8_mean.cls = RX8 ∧ yX8_mean.cls ≠ "java/lang/invoke/MethodHandle" ∧ yX8_mean.cls ≠ "java/lang/invoke/VarHandle" ∧ (parseMethodDescriptor yX8_mean.desc).map (fun d => d.parameters.length) = some 1 := by decide +kernel
theorem x_callVf {p : Program} {l : Launch} {e : Env} {R : Room} {s : State} {m : MethodId} {args : Array Value} {below : List Frame} {meth : Method} {c : Code} {H : Heap} {locs : List Loc} {cells slots : Nat} {Q : State → Prop} {cc : ByteArray} {nL pc : Nat} {own : String} {ls : Array Slot} {rest : List Value} {D : va_G} {cI cB cS : ClassId} {ad : Nat → Nat} {N : Nat} {F : Nat → va_E} {A : Nat → Prop} (X : CallFix p m c cc nL s args lw_g own) (hK : KW D cI cB cS A s) (hw : HW D A ad N F s H locs) {y : MethodName} {b : ByteArray} {n : Nat} {ret : Option FieldType} {fr lo k : Nat} {As : List Value} {post : UInt32 → (Nat → va_E) → Prop} (hC : Cf l D cI cB cS ad N y b n ret fr lo (.ref (ad k) :: As) F post) {C : String} {index na : Nat} (cw : CallW R s args own C index y b n ret (Cond.code y b n ret :: lw_g) { frames := fr, cells := 0, slots := 0, locals := lo } 0 0 na) (hk : k < N) {ci : Nat} {fs : List Value} (he : F k = .inr (ci, fs)) {T : u_T} {nf : Nat} (hc : vwCl[ci]? = some (C, T, nf)) (hn : As.length = na) (hl : ls.size = nL) {st : List Value} (hst : st = As.reverse ++ .ref (ad k) :: rest) (hr : (rest.map fun v => v.category).sum ≤ 8) (hdg : decode cc pc = .ok (.invokevirtual index, 3)) (hf : cells ≤ R.cells ∧ slots ≤ R.slots)
    (kk : ∀ (r : UInt32) (F' : Nat → va_E) (H' : Heap) (locs' : List Loc), post r F' → HW D A ad N F' s H' locs' → W p l e R s m args below meth c H' locs' cells slots Q (F0 m (pc + 3) ls (.float r :: rest))) : W p l e R s m args below meth c H locs cells slots Q (F0 m pc ls st) :=
  va_callf (va_runV (As := As) (rest := rest) X (hC H.size) cw ⟨PW_blind, va_recv hK.1 hw.1 hc (wl_getE hk he), fun U hU hW => ⟨rfl, by rw [hU], by rw [hU]; exact hw.1, hK.at hw hU hW⟩⟩ rfl hn hl hst (lv_room hr) hdg hf) hw.2.1 (fun q _ h => Af_all hw h) (fun q h => Af_all hw h) (fun r F' t H1 locs1 ht _ hpost hB _ _ hS => kk r F' H1 locs1 hpost ⟨by rw [← ht]; exact hB, hS, hw.2.2⟩)
theorem mn_z0 : FP.f2d FP.fconst0 &&& 0x7fffffffffffffff ≤ 0x7ff0000000000000 ∧ Op.cmpValue (FP.dcmp (FP.f2d FP.fconst0) (FP.f2d FP.fconst0)) .l = 0 := by decide +kernel
theorem mn_z : vf_n64 (FP.f2d FP.fconst0) ∧ Op.cmpValue (FP.dcmp (FP.f2d FP.fconst0) (FP.f2d FP.fconst0)) .l = 0 := mn_z0
set_option maxHeartbeats 4000000 in
set_option maxRecDepth 100000 in
theorem lc_mean {p : Program} {l : Launch} {e : Env} {s : State} {m : MethodId} {below : List Frame} {meth : Method} {c : Code} {Q : State → Prop} {D : va_G} {cI cB cS : ClassId} {b L cn i cells slots : Nat} {xs : Nat → Int32} (X : CallFix p m c cL_law 8 s #[Value.ref b] lw_g "RegattaTimesLaw") (hK : KW D cI cB cS (lA s) s) (hX : va_X b L xs s s.heap) (hbs : b < s.heap.size) (hcn : cn < 512) (hiL : i + 4 ≤ L) (hL : L ≤ 2048) (hf : cells + 1 ≤ room_1.cells ∧ slots + 162 ≤ room_1.slots) (kk : LK p l e s m below meth c Q D cI cB cS b (cn + 1) i (cells + 1) (slots + 162) 971) : LK p l e s m below meth c Q D cI cB cS b cn i cells slots 918 := by
  intro ad F H locs ls hh
  obtain ⟨hI, hw, hl, hs, g, t, d, z, hg, ht, g3, t3, n, tx, a, h, sn, txm, k, hC, hLg, hMo, hJ⟩ := hh
  have hJ0 := hJ
  obtain ⟨hd5, hz4, hkz, ⟨nb, nr, np, ck, hV, hE⟩, -, -, -, hn80, hkn, htx⟩ := hJ0
  have hC0 := hC
  obtain ⟨hxMa, hxF, hxCo, hxJu, hxHi, hxF3, ⟨tm1, pt1, sm1, tl1, hxS1⟩, ⟨g2, t2, hxF2⟩, tm2, pt2, sm2, tl2, hxS2⟩ := hC0
  have hV0 := hV
  obtain ⟨h1, hb9, h2, hr6, h3, hp10, hpr, -⟩ := hV0
  have hg1 : g 1 = nI nb := hE.2.1.trans h1
  have hf1 : cells ≤ room_1.cells := by omega
  have hf2 : slots ≤ room_1.slots := by omega
  obtain ⟨nc, hncr, hcc, hmc, hr3, -⟩ := closed_ok hV hE
  have hM := MI_of hV hmc hncr
  obtain ⟨ai, v, hai, hsum7, hsum8, e7, e8, hv1, hv2⟩ : ∃ (ai : Nat) (v : UInt32), ai < 100 ∧ ((¬ (xs (i + 1)) < 0 ∧ ¬ g 1 ≤ (xs (i + 1))) → 0 < nc → tg 4 36 (sc_s3 g t (sc_r2 g t nb tm1 pt1 (sc_ct tl1 nb) nc).2.1 nc sm1 nb) (xs (i + 1)) (nI 0) = nI ai) ∧ ((¬ (xs (i + 1)) < nI 0 ∧ ¬ a 1 - nI 1 < (xs (i + 1))) → 0 < nc → m_sum a (xs (i + 1)).toNatClampNeg nb nc = nI ai) ∧ (if (¬ (xs (i + 1)) < 0 ∧ ¬ g 1 ≤ (xs (i + 1))) ∧ 0 < nc then mnF ai nc else FP.fconst0) = v ∧ (if (¬ (xs (i + 1)) < nI 0 ∧ ¬ a 1 - nI 1 < (xs (i + 1))) ∧ 0 < nc then mnF ai nc else FP.fconst0) = v ∧ vf_n64 (FP.f2d v) ∧ Op.cmpValue (FP.dcmp (FP.f2d v) (FP.f2d v)) .l = 0 := by
    rw [hg1, h1]
    rcases inN (xs (i + 1)) (show nb ≤ 40 by omega) with ⟨bx, hbx, ex, ec, p7, p8⟩ | ⟨p7, p8⟩
    · obtain ⟨sm, es, hsm, -⟩ := sum_nat hV hbx nc
      have hre := (rec_ok (by omega) hV hE hcc hncr tm1 pt1 sm1 tl1 bx hbx).1
      by_cases hc0 : 0 < nc
      · have hmo := mn_ok (a := sm) (show sm < 100 by omega) hc0 (show nc ≤ 6 by omega)
        exact ⟨sm, mnF sm nc, by omega, fun _ _ => by rw [ex]; exact hre.trans es, fun _ _ => by rw [ec]; exact es, if_pos ⟨p7, hc0⟩, if_pos ⟨p8, hc0⟩, hmo.2.1, hmo.2.2⟩
      · exact ⟨0, FP.fconst0, by omega, fun _ q => absurd q hc0, fun _ q => absurd q hc0, if_neg (fun q => hc0 q.2), if_neg (fun q => hc0 q.2), mn_z.1, mn_z.2⟩
    · exact ⟨0, FP.fconst0, by omega, fun q => absurd q p7, fun q => absurd q p8, if_neg (fun q => p7 q.1), if_neg (fun q => p8 q.1), mn_z.1, mn_z.2⟩
  refine lv_aload_n X.1 X.2.1 dL_law_918 rfl (lv_at hl 1 rfl) ?_
  refine lv_aload_n X.1 X.2.1 dL_law_919 rfl (lv_at hl 0 rfl) ?_
  refine lv_iload_n X.1 X.2.1 dL_law_920 rfl (lv_at hl 3 rfl) ?_
  refine lv_iconst (v := nI 1) X.1 X.2.1 dL_law_921 (by decide) ?_
  refine lv_iadd X.1 X.2.1 dL_law_922 ?_
  refine x_top (nI_add _ _) ?_
  refine x_sld X hX hbs hw (i := nI (i + 1)) (j := i + 1) rfl (by omega) hL dL_law_923 ?_
  refine x_callVf X hK hw (k := 0) (As := [.int (xs (i + 1))]) (rest := []) (k_X7_mean hI 0 hs g t d z hg ht g3 t3 tm1 pt1 sm1 tl1 g2 t2 tm2 pt2 sm2 tl2 (xs (i + 1)) nb nc ai (by omega) hd5 hz4 hxMa hxF hxCo hxJu hxHi hxF3 hxS1 hxF2 hxS2 hg1 (by omega) hcc (by omega) (by omega) hai hsum7) (x_cwV yX7_mean cX7_mean 3 (some .float) 1 X q854 q855 q856 q1 q857 hd_X7_mean ⟨Nat.le_of_ble_eq_true rfl, Nat.le_of_ble_eq_true rfl⟩) (by omega) hxMa rfl rfl hl.1 rfl (Nat.le_of_ble_eq_true rfl) dL_law_924 ⟨by omega, by omega⟩ (fun r1 F1 H1 locs1 hp hw1 => ?_)
  obtain ⟨er, hC1, hr1⟩ := hp
  have hw := hw1
  have hLg1 := hLg.cg hr1 (by omega)
  have hMo1 := hMo.cg hr1 (by omega)
  rw [er.trans e7]
  refine lv_f2d X.1 X.2.1 dL_law_927 hv1 ?_
  refine lv_dstore (lv' := [(4, .double (FP.f2d v)), (0, .ref b), (1, .ref (ad 0)), (2, .ref (ad 114)), (3, .int (nI i))]) X.1 X.2.1 dL_law_928 hl (by decide) rfl (fun ls hl => ?_)
  refine lv_aload_n X.1 X.2.1 dL_law_930 rfl (lv_at hl 3 rfl) ?_
  refine lv_aload_n X.1 X.2.1 dL_law_931 rfl (lv_at hl 1 rfl) ?_
  refine lv_iload_n X.1 X.2.1 dL_law_932 rfl (lv_at hl 4 rfl) ?_
  refine lv_iconst (v := nI 1) X.1 X.2.1 dL_law_933 (by decide) ?_
  refine lv_iadd X.1 X.2.1 dL_law_934 ?_
  refine x_top (nI_add _ _) ?_
  refine x_sld X hX hbs hw (i := nI (i + 1)) (j := i + 1) rfl (by omega) hL dL_law_935 ?_
  refine x_callVf X hK hw (k := 114) (As := [.int (xs (i + 1))]) (rest := []) (k_X8_mean hI 114 a h sn txm k (xs (i + 1)) nb nr np nc ai (by omega) hMo1 hM (by omega) hai hsum8) (x_cwV yX8_mean cX8_mean 2 (some .float) 1 X q1228 q1229 q1230 q14 q1231 hd_X8_mean ⟨Nat.le_of_ble_eq_true rfl, Nat.le_of_ble_eq_true rfl⟩) (by omega) hMo1.1 rfl rfl hl.1 rfl (Nat.le_of_ble_eq_true rfl) dL_law_936 ⟨by omega, by omega⟩ (fun r2 F2 H2 locs2 hp hw2 => ?_)
  obtain ⟨er2, rfl⟩ := hp
  have hw := hw2
  rw [er2.trans e8]
  refine lv_f2d X.1 X.2.1 dL_law_939 hv1 ?_
  refine lv_dstore (lv' := [(6, .double (FP.f2d v)), (4, .double (FP.f2d v)), (0, .ref b), (1, .ref (ad 0)), (2, .ref (ad 114)), (3, .int (nI i))]) X.1 X.2.1 dL_law_940 hl (by decide) rfl (fun ls hl => ?_)
  refine lv_dload X.1 X.2.1 dL_law_942 (lv_at hl 1 rfl) ?_
  refine lv_dload X.1 X.2.1 dL_law_944 (lv_at hl 0 rfl) ?_
  refine lv_dcmp X.1 X.2.1 dL_law_946 ?_
  refine lv_if_eq (tgt := 968) X.1 X.2.1 dL_law_947 (by decide) (fun c8 => ?_) (fun c8 => absurd hv2 c8)
  refine lv_goto (tgt := 971) X.1 X.2.1 dL_law_968 (by decide) ?_
  exact W.widen (Nat.le_succ _) (by omega) (kk _ _ _ _ _ ⟨hI, hw, lv_sub hl [2, 3, 4, 5] rfl, _, _, _, _, _, _, _, _, _, _, _, _, _, _, _, _, hC1, hLg1, hMo1, hJ.mono (Nat.le_succ _)⟩)
