theorem hd_X7_enter : yX7_enter.cls = RX7 ∧ yX7_enter.cls ≠ "java/lang/invoke/MethodHandle" ∧ yX7_enter.cls ≠ "java/lang/invoke/VarHandle" ∧ (parseMethodDescriptor yX7_enter.desc).map (fun d => d.parameters.length) = some 1 := by decide +kernel
theorem hd_X8_enter : yX8_enter.cls = RX8 ∧ yX8_enter.cls ≠ "java/lang/invoke/MethodHandle" ∧ yX8_enter.cls ≠ "java/lang/invoke/VarHandle" ∧ (parseMethodDescriptor yX8_enter.desc).map (fun d => d.parameters.length) = some 1 := by decide +kernel
set_option maxHeartbeats 4000000 in
set_option maxRecDepth 100000 in
theorem lc_enter {p : Program} {l : Launch} {e : Env} {s : State} {m : MethodId} {below : List Frame} {meth : Method} {c : Code} {Q : State → Prop} {D : va_G} {cI cB cS : ClassId} {b L cn i cells slots : Nat} {xs : Nat → Int32} (X : CallFix p m c cL_law 8 s #[Value.ref b] lw_g "RegattaTimesLaw") (hK : KW D cI cB cS (lA s) s) (hX : va_X b L xs s s.heap) (hbs : b < s.heap.size) (hcn : cn < 512) (hiL : i + 4 ≤ L) (hL : L ≤ 2048) (hf : cells + 1 ≤ room_1.cells ∧ slots + 162 ≤ room_1.slots) (kk : LK p l e s m below meth c Q D cI cB cS b (cn + 1) i (cells + 1) (slots + 162) 971) : LK p l e s m below meth c Q D cI cB cS b cn i cells slots 172 := by
  intro ad F H locs ls hh
  obtain ⟨hI, hw, hl, hs, g, t, d, z, hg, ht, g3, t3, n, tx, a, h, sn, txm, k, hC, hLg, hMo, hJ⟩ := hh
  have hJ0 := hJ
  obtain ⟨hd5, hz4, hkz, ⟨nb, nr, np, ck, hV, hE⟩, -, -, -, hn80, hkn, htx⟩ := hJ0
  have hC0 := hC
  obtain ⟨hxMa, hxF, hxCo, hxJu, hxHi, hxF3, ⟨tm1, pt1, sm1, tl1, hxS1⟩, ⟨g2, t2, hxF2⟩, tm2, pt2, sm2, tl2, hxS2⟩ := hC0
  have hV0 := hV
  obtain ⟨h1, hb9, h2, hr6, h3, hp10, hpr, -⟩ := hV0
  have hg1 : g 1 = nI nb := hE.2.1.trans h1
  have hf1 : cells ≤ room_1.cells := by omega
  have hf2 : slots ≤ room_1.slots := by omega
  refine lv_aload_n X.1 X.2.1 dL_law_172 rfl (lv_at hl 1 rfl) ?_
  refine lv_aload_n X.1 X.2.1 dL_law_173 rfl (lv_at hl 0 rfl) ?_
  refine lv_iload_n X.1 X.2.1 dL_law_174 rfl (lv_at hl 3 rfl) ?_
  refine lv_iconst (v := nI 1) X.1 X.2.1 dL_law_175 (by decide) ?_
  refine lv_iadd X.1 X.2.1 dL_law_176 ?_
  refine x_top (nI_add _ _) ?_
  refine x_sld X hX hbs hw (i := nI (i + 1)) (j := i + 1) rfl (by omega) hL dL_law_177 ?_
  refine x_callV X hK hw (k := 0) (As := [.int (xs (i + 1))]) (rest := []) (k_X7_enter hI 0 hs g t d z hg ht g3 t3 tm1 pt1 sm1 tl1 g2 t2 tm2 pt2 sm2 tl2 (xs (i + 1)) (by omega) hd5 hz4 hxMa hxF hxCo hxJu hxHi hxF3 hxS1 hxF2 hxS2) (x_cwV yX7_enter cX7_enter 2 (some .int) 1 X q249 q250 q251 q1 q252 hd_X7_enter ⟨Nat.le_of_ble_eq_true rfl, Nat.le_of_ble_eq_true rfl⟩) (by omega) hxMa rfl rfl hl.1 rfl (Nat.le_of_ble_eq_true rfl) dL_law_178 ⟨by omega, by omega⟩ (fun r1 F1 H locs hp hw => ?_)
  obtain ⟨er, hC1, hr1⟩ := hp
  have hLg1 := hLg.cg hr1 (by omega)
  have hMo1 := hMo.cg hr1 (by omega)
  refine lv_aload_n X.1 X.2.1 dL_law_181 rfl (lv_at hl 2 rfl) ?_
  refine lv_aload_n X.1 X.2.1 dL_law_182 rfl (lv_at hl 0 rfl) ?_
  refine lv_iload_n X.1 X.2.1 dL_law_183 rfl (lv_at hl 3 rfl) ?_
  refine lv_iconst (v := nI 1) X.1 X.2.1 dL_law_184 (by decide) ?_
  refine lv_iadd X.1 X.2.1 dL_law_185 ?_
  refine x_top (nI_add _ _) ?_
  refine x_sld X hX hbs hw (i := nI (i + 1)) (j := i + 1) rfl (by omega) hL dL_law_186 ?_
  refine x_callV X hK hw (k := 114) (As := [.int (xs (i + 1))]) (rest := [.int r1]) (k_X8_enter hI 114 a h sn txm k (xs (i + 1)) nb z (by omega) hMo1 h1 hb9 hkz hz4) (x_cwV yX8_enter cX8_enter 2 (some .int) 1 X q905 q906 q907 q14 q908 hd_X8_enter ⟨Nat.le_of_ble_eq_true rfl, Nat.le_of_ble_eq_true rfl⟩) (by omega) hMo1.1 rfl rfl hl.1 rfl (Nat.le_of_ble_eq_true rfl) dL_law_187 ⟨by omega, by omega⟩ (fun r2 F2 H locs hp hw => ?_)
  obtain ⟨er2, hMo2, hr2⟩ := hp
  have hC2 := hC1.cg hr2 (by omega)
  have hLg2 := hLg1.cg hr2 (by omega)
  obtain ⟨er3, hJ2⟩ := jr_step hJ (st_enter hV hE (xs (i + 1)))
  refine lv_icmp_eq (tgt := 971) X.1 X.2.1 dL_law_190 (by decide) (fun c9 => ?_) (fun c9 => absurd (er.trans (er3.trans er2.symm)) c9)
  exact W.widen (Nat.le_succ _) (by omega) (kk _ _ _ _ _ ⟨hI, hw, hl, _, _, _, _, _, _, _, _, _, _, _, _, _, _, _, _, hC2, hLg2, hMo2, hJ2⟩)
theorem hd_X7_prepare : yX7_prepare.cls = RX7 ∧ yX7_prepare.cls ≠ "java/lang/invoke/MethodHandle" ∧ yX7_prepare.cls ≠ "java/lang/invoke/VarHandle" ∧ (parseMethodDescriptor yX7_prepare.desc).map (fun d => d.parameters.length) = some 3 := by decide +kernel
theorem hd_X8_prepare : yX8_prepare.cls = RX8 ∧ yX8_prepare.cls ≠ "java/lang/invoke/MethodHandle" ∧ yX8_prepare.cls ≠ "java/lang/invoke/VarHandle" ∧ (parseMethodDescriptor yX8_prepare.desc).map (fun d => d.parameters.length) = some 3 := by decide +kernel
set_option maxHeartbeats 4000000 in
set_option maxRecDepth 100000 in
theorem lc_prepare {p : Program} {l : Launch} {e : Env} {s : State} {m : MethodId} {below : List Frame} {meth : Method} {c : Code} {Q : State → Prop} {D : va_G} {cI cB cS : ClassId} {b L cn i cells slots : Nat} {xs : Nat → Int32} (X : CallFix p m c cL_law 8 s #[Value.ref b] lw_g "RegattaTimesLaw") (hK : KW D cI cB cS (lA s) s) (hX : va_X b L xs s s.heap) (hbs : b < s.heap.size) (hcn : cn < 512) (hiL : i + 4 ≤ L) (hL : L ≤ 2048) (hf : cells + 1 ≤ room_1.cells ∧ slots + 162 ≤ room_1.slots) (kk : LK p l e s m below meth c Q D cI cB cS b (cn + 1) i (cells + 1) (slots + 162) 971) : LK p l e s m below meth c Q D cI cB cS b cn i cells slots 195 := by
  intro ad F H locs ls hh
  obtain ⟨hI, hw, hl, hs, g, t, d, z, hg, ht, g3, t3, n, tx, a, h, sn, txm, k, hC, hLg, hMo, hJ⟩ := hh
  have hJ0 := hJ
  obtain ⟨hd5, hz4, hkz, ⟨nb, nr, np, ck, hV, hE⟩, -, -, -, hn80, hkn, htx⟩ := hJ0
  have hC0 := hC
  obtain ⟨hxMa, hxF, hxCo, hxJu, hxHi, hxF3, ⟨tm1, pt1, sm1, tl1, hxS1⟩, ⟨g2, t2, hxF2⟩, tm2, pt2, sm2, tl2, hxS2⟩ := hC0
  have hV0 := hV
  obtain ⟨h1, hb9, h2, hr6, h3, hp10, hpr, -⟩ := hV0
  have hg1 : g 1 = nI nb := hE.2.1.trans h1
  have hf1 : cells ≤ room_1.cells := by omega
  have hf2 : slots ≤ room_1.slots := by omega
  refine lv_aload_n X.1 X.2.1 dL_law_195 rfl (lv_at hl 1 rfl) ?_
  refine lv_aload_n X.1 X.2.1 dL_law_196 rfl (lv_at hl 0 rfl) ?_
  refine lv_iload_n X.1 X.2.1 dL_law_197 rfl (lv_at hl 3 rfl) ?_
  refine lv_iconst (v := nI 1) X.1 X.2.1 dL_law_198 (by decide) ?_
  refine lv_iadd X.1 X.2.1 dL_law_199 ?_
  refine x_top (nI_add _ _) ?_
  refine x_sld X hX hbs hw (i := nI (i + 1)) (j := i + 1) rfl (by omega) hL dL_law_200 ?_
  refine lv_aload_n X.1 X.2.1 dL_law_201 rfl (lv_at hl 0 rfl) ?_
  refine lv_iload_n X.1 X.2.1 dL_law_202 rfl (lv_at hl 3 rfl) ?_
  refine lv_iconst (v := nI 2) X.1 X.2.1 dL_law_203 (by decide) ?_
  refine lv_iadd X.1 X.2.1 dL_law_204 ?_
  refine x_top (nI_add _ _) ?_
  refine x_sld X hX hbs hw (i := nI (i + 2)) (j := i + 2) rfl (by omega) hL dL_law_205 ?_
  refine lv_aload_n X.1 X.2.1 dL_law_206 rfl (lv_at hl 0 rfl) ?_
  refine lv_iload_n X.1 X.2.1 dL_law_207 rfl (lv_at hl 3 rfl) ?_
  refine lv_iconst (v := nI 3) X.1 X.2.1 dL_law_208 (by decide) ?_
  refine lv_iadd X.1 X.2.1 dL_law_209 ?_
  refine x_top (nI_add _ _) ?_
  refine x_sld X hX hbs hw (i := nI (i + 3)) (j := i + 3) rfl (by omega) hL dL_law_210 ?_
  refine x_callV X hK hw (k := 0) (As := [.int (xs (i + 1)), .int (xs (i + 2)), .int (xs (i + 3))]) (rest := []) (k_X7_prepare hI 0 hs g t d z hg ht g3 t3 tm1 pt1 sm1 tl1 g2 t2 tm2 pt2 sm2 tl2 (xs (i + 1)) (xs (i + 2)) (xs (i + 3)) nb (by omega) hd5 hz4 hxMa hxF hxCo hxJu hxHi hxF3 hxS1 hxF2 hxS2 hg1 (by omega)) (x_cwV yX7_prepare cX7_prepare 4 (some .int) 3 X q281 q282 q283 q1 q284 hd_X7_prepare ⟨Nat.le_of_ble_eq_true rfl, Nat.le_of_ble_eq_true rfl⟩) (by omega) hxMa rfl rfl hl.1 rfl (Nat.le_of_ble_eq_true rfl) dL_law_211 ⟨by omega, by omega⟩ (fun r1 F1 H locs hp hw => ?_)
  obtain ⟨er, hC1, hr1⟩ := hp
  have hLg1 := hLg.cg hr1 (by omega)
  have hMo1 := hMo.cg hr1 (by omega)
  refine lv_aload_n X.1 X.2.1 dL_law_214 rfl (lv_at hl 2 rfl) ?_
  refine lv_aload_n X.1 X.2.1 dL_law_215 rfl (lv_at hl 0 rfl) ?_
  refine lv_iload_n X.1 X.2.1 dL_law_216 rfl (lv_at hl 3 rfl) ?_
  refine lv_iconst (v := nI 1) X.1 X.2.1 dL_law_217 (by decide) ?_
  refine lv_iadd X.1 X.2.1 dL_law_218 ?_
  refine x_top (nI_add _ _) ?_
  refine x_sld X hX hbs hw (i := nI (i + 1)) (j := i + 1) rfl (by omega) hL dL_law_219 ?_
  refine lv_aload_n X.1 X.2.1 dL_law_220 rfl (lv_at hl 0 rfl) ?_
  refine lv_iload_n X.1 X.2.1 dL_law_221 rfl (lv_at hl 3 rfl) ?_
  refine lv_iconst (v := nI 2) X.1 X.2.1 dL_law_222 (by decide) ?_
  refine lv_iadd X.1 X.2.1 dL_law_223 ?_
  refine x_top (nI_add _ _) ?_
  refine x_sld X hX hbs hw (i := nI (i + 2)) (j := i + 2) rfl (by omega) hL dL_law_224 ?_
  refine lv_aload_n X.1 X.2.1 dL_law_225 rfl (lv_at hl 0 rfl) ?_
  refine lv_iload_n X.1 X.2.1 dL_law_226 rfl (lv_at hl 3 rfl) ?_
  refine lv_iconst (v := nI 3) X.1 X.2.1 dL_law_227 (by decide) ?_
  refine lv_iadd X.1 X.2.1 dL_law_228 ?_
  refine x_top (nI_add _ _) ?_
  refine x_sld X hX hbs hw (i := nI (i + 3)) (j := i + 3) rfl (by omega) hL dL_law_229 ?_
  refine x_callV X hK hw (k := 114) (As := [.int (xs (i + 1)), .int (xs (i + 2)), .int (xs (i + 3))]) (rest := [.int r1]) (k_X8_prepare hI 114 a h sn txm k (xs (i + 1)) (xs (i + 2)) (xs (i + 3)) nr z (by omega) hMo1 h2 hr6 hkz hz4) (x_cwV yX8_prepare cX8_prepare 5 (some .int) 3 X q919 q920 q921 q14 q922 hd_X8_prepare ⟨Nat.le_of_ble_eq_true rfl, Nat.le_of_ble_eq_true rfl⟩) (by omega) hMo1.1 rfl rfl hl.1 rfl (Nat.le_of_ble_eq_true rfl) dL_law_230 ⟨by omega, by omega⟩ (fun r2 F2 H locs hp hw => ?_)
  obtain ⟨er2, hMo2, hr2⟩ := hp
  have hC2 := hC1.cg hr2 (by omega)
  have hLg2 := hLg1.cg hr2 (by omega)
  obtain ⟨er3, hJ2⟩ := jr_step hJ (st_prepare (by omega) hV hE (xs (i + 1)) (xs (i + 2)) (xs (i + 3)))
  refine lv_icmp_eq (tgt := 971) X.1 X.2.1 dL_law_233 (by decide) (fun c9 => ?_) (fun c9 => absurd (er.trans (er3.trans er2.symm)) c9)
  exact W.widen (Nat.le_succ _) (by omega) (kk _ _ _ _ _ ⟨hI, hw, hl, _, _, _, _, _, _, _, _, _, _, _, _, _, _, _, _, hC2, hLg2, hMo2, hJ2⟩)
theorem hd_X7_postpone : yX7_postpone.cls = RX7 ∧ yX7_postpone.cls ≠ "java/lang/invoke/MethodHandle" ∧ yX7_postpone.cls ≠ "java/lang/invoke/VarHandle" ∧ (parseMethodDescriptor yX7_postpone.desc).map (fun d => d.parameters.length) = some 1 := by decide +kernel
theorem hd_X8_postpone : yX8_postpone.cls = RX8 ∧ yX8_postpone.cls ≠ "java/lang/invoke/MethodHandle" ∧ yX8_postpone.cls ≠ "java/lang/invoke/VarHandle" ∧ (parseMethodDescriptor yX8_postpone.desc).map (fun d => d.parameters.length) = some 1 := by decide +kernel
set_option maxHeartbeats 4000000 in
set_option maxRecDepth 100000 in
theorem lc_postpone {p : Program} {l : Launch} {e : Env} {s : State} {m : MethodId} {below : List Frame} {meth : Method} {c : Code} {Q : State → Prop} {D : va_G} {cI cB cS : ClassId} {b L cn i cells slots : Nat} {xs : Nat → Int32} (X : CallFix p m c cL_law 8 s #[Value.ref b] lw_g "RegattaTimesLaw") (hK : KW D cI cB cS (lA s) s) (hX : va_X b L xs s s.heap) (hbs : b < s.heap.size) (hcn : cn < 512) (hiL : i + 4 ≤ L) (hL : L ≤ 2048) (hf : cells + 1 ≤ room_1.cells ∧ slots + 162 ≤ room_1.slots) (kk : LK p l e s m below meth c Q D cI cB cS b (cn + 1) i (cells + 1) (slots + 162) 971) : LK p l e s m below meth c Q D cI cB cS b cn i cells slots 238 := by
  intro ad F H locs ls hh
  obtain ⟨hI, hw, hl, hs, g, t, d, z, hg, ht, g3, t3, n, tx, a, h, sn, txm, k, hC, hLg, hMo, hJ⟩ := hh
  have hJ0 := hJ
  obtain ⟨hd5, hz4, hkz, ⟨nb, nr, np, ck, hV, hE⟩, -, -, -, hn80, hkn, htx⟩ := hJ0
  have hC0 := hC
  obtain ⟨hxMa, hxF, hxCo, hxJu, hxHi, hxF3, ⟨tm1, pt1, sm1, tl1, hxS1⟩, ⟨g2, t2, hxF2⟩, tm2, pt2, sm2, tl2, hxS2⟩ := hC0
  have hV0 := hV
  obtain ⟨h1, hb9, h2, hr6, h3, hp10, hpr, -⟩ := hV0
  have hg1 : g 1 = nI nb := hE.2.1.trans h1
  have hf1 : cells ≤ room_1.cells := by omega
  have hf2 : slots ≤ room_1.slots := by omega
  refine lv_aload_n X.1 X.2.1 dL_law_238 rfl (lv_at hl 1 rfl) ?_
  refine lv_aload_n X.1 X.2.1 dL_law_239 rfl (lv_at hl 0 rfl) ?_
  refine lv_iload_n X.1 X.2.1 dL_law_240 rfl (lv_at hl 3 rfl) ?_
  refine lv_iconst (v := nI 1) X.1 X.2.1 dL_law_241 (by decide) ?_
  refine lv_iadd X.1 X.2.1 dL_law_242 ?_
  refine x_top (nI_add _ _) ?_
  refine x_sld X hX hbs hw (i := nI (i + 1)) (j := i + 1) rfl (by omega) hL dL_law_243 ?_
  refine x_callV X hK hw (k := 0) (As := [.int (xs (i + 1))]) (rest := []) (k_X7_postpone hI 0 hs g t d z hg ht g3 t3 tm1 pt1 sm1 tl1 g2 t2 tm2 pt2 sm2 tl2 (xs (i + 1)) (by omega) hd5 hz4 hxMa hxF hxCo hxJu hxHi hxF3 hxS1 hxF2 hxS2) (x_cwV yX7_postpone cX7_postpone 2 (some .int) 1 X q310 q311 q312 q1 q313 hd_X7_postpone ⟨Nat.le_of_ble_eq_true rfl, Nat.le_of_ble_eq_true rfl⟩) (by omega) hxMa rfl rfl hl.1 rfl (Nat.le_of_ble_eq_true rfl) dL_law_244 ⟨by omega, by omega⟩ (fun r1 F1 H locs hp hw => ?_)
  obtain ⟨er, hC1, hr1⟩ := hp
  have hLg1 := hLg.cg hr1 (by omega)
  have hMo1 := hMo.cg hr1 (by omega)
  refine lv_aload_n X.1 X.2.1 dL_law_247 rfl (lv_at hl 2 rfl) ?_
  refine lv_aload_n X.1 X.2.1 dL_law_248 rfl (lv_at hl 0 rfl) ?_
  refine lv_iload_n X.1 X.2.1 dL_law_249 rfl (lv_at hl 3 rfl) ?_
  refine lv_iconst (v := nI 1) X.1 X.2.1 dL_law_250 (by decide) ?_
  refine lv_iadd X.1 X.2.1 dL_law_251 ?_
  refine x_top (nI_add _ _) ?_
  refine x_sld X hX hbs hw (i := nI (i + 1)) (j := i + 1) rfl (by omega) hL dL_law_252 ?_
  refine x_callV X hK hw (k := 114) (As := [.int (xs (i + 1))]) (rest := [.int r1]) (k_X8_postpone hI 114 a h sn txm k (xs (i + 1)) nr z (by omega) hMo1 h2 hr6 hkz hz4) (x_cwV yX8_postpone cX8_postpone 2 (some .int) 1 X q943 q944 q945 q14 q946 hd_X8_postpone ⟨Nat.le_of_ble_eq_true rfl, Nat.le_of_ble_eq_true rfl⟩) (by omega) hMo1.1 rfl rfl hl.1 rfl (Nat.le_of_ble_eq_true rfl) dL_law_253 ⟨by omega, by omega⟩ (fun r2 F2 H locs hp hw => ?_)
  obtain ⟨er2, hMo2, hr2⟩ := hp
  have hC2 := hC1.cg hr2 (by omega)
  have hLg2 := hLg1.cg hr2 (by omega)
  obtain ⟨er3, hJ2⟩ := jr_step hJ (st_postpone (by omega) hV hE (xs (i + 1)))
  refine lv_icmp_eq (tgt := 971) X.1 X.2.1 dL_law_256 (by decide) (fun c9 => ?_) (fun c9 => absurd (er.trans (er3.trans er2.symm)) c9)
  exact W.widen (Nat.le_succ _) (by omega) (kk _ _ _ _ _ ⟨hI, hw, hl, _, _, _, _, _, _, _, _, _, _, _, _, _, _, _, _, hC2, hLg2, hMo2, hJ2⟩)
theorem hd_X7_recall : yX7_recall.cls = RX7 ∧ yX7_recall.cls ≠ "java/lang/invoke/MethodHandle" ∧ yX7_recall.cls ≠ "java/lang/invoke/VarHandle" ∧ (parseMethodDescriptor yX7_recall.desc).map (fun d => d.parameters.length) = some 0 := by decide +kernel
theorem hd_X8_recall : yX8_recall.cls = RX8 ∧ yX8_recall.cls ≠ "java/lang/invoke/MethodHandle" ∧ yX8_recall.cls ≠ "java/lang/invoke/VarHandle" ∧ (parseMethodDescriptor yX8_recall.desc).map (fun d => d.parameters.length) = some 0 := by decide +kernel
set_option maxHeartbeats 4000000 in
set_option maxRecDepth 100000 in
theorem lc_recall {p : Program} {l : Launch} {e : Env} {s : State} {m : MethodId} {below : List Frame} {meth : Method} {c : Code} {Q : State → Prop} {D : va_G} {cI cB cS : ClassId} {b L cn i cells slots : Nat} {xs : Nat → Int32} (X : CallFix p m c cL_law 8 s #[Value.ref b] lw_g "RegattaTimesLaw") (hK : KW D cI cB cS (lA s) s) (hX : va_X b L xs s s.heap) (hbs : b < s.heap.size) (hcn : cn < 512) (hiL : i + 4 ≤ L) (hL : L ≤ 2048) (hf : cells + 1 ≤ room_1.cells ∧ slots + 162 ≤ room_1.slots) (kk : LK p l e s m below meth c Q D cI cB cS b (cn + 1) i (cells + 1) (slots + 162) 971) : LK p l e s m below meth c Q D cI cB cS b cn i cells slots 261 := by
  intro ad F H locs ls hh
  obtain ⟨hI, hw, hl, hs, g, t, d, z, hg, ht, g3, t3, n, tx, a, h, sn, txm, k, hC, hLg, hMo, hJ⟩ := hh
  have hJ0 := hJ
  obtain ⟨hd5, hz4, hkz, ⟨nb, nr, np, ck, hV, hE⟩, -, -, -, hn80, hkn, htx⟩ := hJ0
  have hC0 := hC
  obtain ⟨hxMa, hxF, hxCo, hxJu, hxHi, hxF3, ⟨tm1, pt1, sm1, tl1, hxS1⟩, ⟨g2, t2, hxF2⟩, tm2, pt2, sm2, tl2, hxS2⟩ := hC0
  have hV0 := hV
  obtain ⟨h1, hb9, h2, hr6, h3, hp10, hpr, -⟩ := hV0
  have hg1 : g 1 = nI nb := hE.2.1.trans h1
  have hf1 : cells ≤ room_1.cells := by omega
  have hf2 : slots ≤ room_1.slots := by omega
  refine lv_aload_n X.1 X.2.1 dL_law_261 rfl (lv_at hl 1 rfl) ?_
  refine x_callV X hK hw (k := 0) (As := []) (rest := []) (k_X7_recall hI 0 hs g t d z hg ht g3 t3 tm1 pt1 sm1 tl1 g2 t2 tm2 pt2 sm2 tl2 nb (by omega) hd5 hz4 hxMa hxF hxCo hxJu hxHi hxF3 hxS1 hxF2 hxS2 hg1 (by omega)) (x_cwV yX7_recall cX7_recall 1 (some .int) 0 X q336 q337 q338 q1 q339 hd_X7_recall ⟨Nat.le_of_ble_eq_true rfl, Nat.le_of_ble_eq_true rfl⟩) (by omega) hxMa rfl rfl hl.1 rfl (Nat.le_of_ble_eq_true rfl) dL_law_262 ⟨by omega, by omega⟩ (fun r1 F1 H locs hp hw => ?_)
  obtain ⟨er, hC1, hr1⟩ := hp
  have hLg1 := hLg.cg hr1 (by omega)
  have hMo1 := hMo.cg hr1 (by omega)
  refine lv_aload_n X.1 X.2.1 dL_law_265 rfl (lv_at hl 2 rfl) ?_
  refine x_callV X hK hw (k := 114) (As := []) (rest := [.int r1]) (k_X8_recall hI 114 a h sn txm k nr z (by omega) hMo1 h2 hr6 hkz hz4) (x_cwV yX8_recall cX8_recall 1 (some .int) 0 X q951 q952 q953 q14 q954 hd_X8_recall ⟨Nat.le_of_ble_eq_true rfl, Nat.le_of_ble_eq_true rfl⟩) (by omega) hMo1.1 rfl rfl hl.1 rfl (Nat.le_of_ble_eq_true rfl) dL_law_266 ⟨by omega, by omega⟩ (fun r2 F2 H locs hp hw => ?_)
  obtain ⟨er2, hMo2, hr2⟩ := hp
  have hC2 := hC1.cg hr2 (by omega)
  have hLg2 := hLg1.cg hr2 (by omega)
  obtain ⟨er3, hJ2⟩ := jr_step hJ (st_recall (by omega) hV hE)
  refine lv_icmp_eq (tgt := 971) X.1 X.2.1 dL_law_269 (by decide) (fun c9 => ?_) (fun c9 => absurd (er.trans (er3.trans er2.symm)) c9)
  exact W.widen (Nat.le_succ _) (by omega) (kk _ _ _ _ _ ⟨hI, hw, hl, _, _, _, _, _, _, _, _, _, _, _, _, _, _, _, _, hC2, hLg2, hMo2, hJ2⟩)
theorem hd_X7_pass : yX7_pass.cls = RX7 ∧ yX7_pass.cls ≠ "java/lang/invoke/MethodHandle" ∧ yX7_pass.cls ≠ "java/lang/invoke/VarHandle" ∧ (parseMethodDescriptor yX7_pass.desc).map (fun d => d.parameters.length) = some 1 := by decide +kernel
theorem hd_X8_pass : yX8_pass.cls = RX8 ∧ yX8_pass.cls ≠ "java/lang/invoke/MethodHandle" ∧ yX8_pass.cls ≠ "java/lang/invoke/VarHandle" ∧ (parseMethodDescriptor yX8_pass.desc).map (fun d => d.parameters.length) = some 1 := by decide +kernel
set_option maxHeartbeats 4000000 in
set_option maxRecDepth 100000 in
theorem lc_pass {p : Program} {l : Launch} {e : Env} {s : State} {m : MethodId} {below : List Frame} {meth : Method} {c : Code} {Q : State → Prop} {D : va_G} {cI cB cS : ClassId} {b L cn i cells slots : Nat} {xs : Nat → Int32} (X : CallFix p m c cL_law 8 s #[Value.ref b] lw_g "RegattaTimesLaw") (hK : KW D cI cB cS (lA s) s) (hX : va_X b L xs s s.heap) (hbs : b < s.heap.size) (hcn : cn < 512) (hiL : i + 4 ≤ L) (hL : L ≤ 2048) (hf : cells + 1 ≤ room_1.cells ∧ slots + 162 ≤ room_1.slots) (kk : LK p l e s m below meth c Q D cI cB cS b (cn + 1) i (cells + 1) (slots + 162) 971) : LK p l e s m below meth c Q D cI cB cS b cn i cells slots 274 := by
  intro ad F H locs ls hh
  obtain ⟨hI, hw, hl, hs, g, t, d, z, hg, ht, g3, t3, n, tx, a, h, sn, txm, k, hC, hLg, hMo, hJ⟩ := hh
  have hJ0 := hJ
  obtain ⟨hd5, hz4, hkz, ⟨nb, nr, np, ck, hV, hE⟩, -, -, -, hn80, hkn, htx⟩ := hJ0
  have hC0 := hC
  obtain ⟨hxMa, hxF, hxCo, hxJu, hxHi, hxF3, ⟨tm1, pt1, sm1, tl1, hxS1⟩, ⟨g2, t2, hxF2⟩, tm2, pt2, sm2, tl2, hxS2⟩ := hC0
  have hV0 := hV
  obtain ⟨h1, hb9, h2, hr6, h3, hp10, hpr, -⟩ := hV0
  have hg1 : g 1 = nI nb := hE.2.1.trans h1
  have hf1 : cells ≤ room_1.cells := by omega
  have hf2 : slots ≤ room_1.slots := by omega
  refine lv_aload_n X.1 X.2.1 dL_law_274 rfl (lv_at hl 1 rfl) ?_
  refine lv_aload_n X.1 X.2.1 dL_law_275 rfl (lv_at hl 0 rfl) ?_
  refine lv_iload_n X.1 X.2.1 dL_law_276 rfl (lv_at hl 3 rfl) ?_
  refine lv_iconst (v := nI 1) X.1 X.2.1 dL_law_277 (by decide) ?_
  refine lv_iadd X.1 X.2.1 dL_law_278 ?_
  refine x_top (nI_add _ _) ?_
  refine x_sld X hX hbs hw (i := nI (i + 1)) (j := i + 1) rfl (by omega) hL dL_law_279 ?_
  refine x_callV X hK hw (k := 0) (As := [.int (xs (i + 1))]) (rest := []) (k_X7_pass hI 0 hs g t d z hg ht g3 t3 tm1 pt1 sm1 tl1 g2 t2 tm2 pt2 sm2 tl2 (xs (i + 1)) (by omega) hd5 hz4 hxMa hxF hxCo hxJu hxHi hxF3 hxS1 hxF2 hxS2) (x_cwV yX7_pass cX7_pass 2 (some .int) 1 X q344 q345 q346 q1 q347 hd_X7_pass ⟨Nat.le_of_ble_eq_true rfl, Nat.le_of_ble_eq_true rfl⟩) (by omega) hxMa rfl rfl hl.1 rfl (Nat.le_of_ble_eq_true rfl) dL_law_280 ⟨by omega, by omega⟩ (fun r1 F1 H locs hp hw => ?_)
  obtain ⟨er, hC1, hr1⟩ := hp
  have hLg1 := hLg.cg hr1 (by omega)
  have hMo1 := hMo.cg hr1 (by omega)
  refine lv_aload_n X.1 X.2.1 dL_law_283 rfl (lv_at hl 2 rfl) ?_
  refine lv_aload_n X.1 X.2.1 dL_law_284 rfl (lv_at hl 0 rfl) ?_
  refine lv_iload_n X.1 X.2.1 dL_law_285 rfl (lv_at hl 3 rfl) ?_
  refine lv_iconst (v := nI 1) X.1 X.2.1 dL_law_286 (by decide) ?_
  refine lv_iadd X.1 X.2.1 dL_law_287 ?_
  refine x_top (nI_add _ _) ?_
  refine x_sld X hX hbs hw (i := nI (i + 1)) (j := i + 1) rfl (by omega) hL dL_law_288 ?_
  refine x_callV X hK hw (k := 114) (As := [.int (xs (i + 1))]) (rest := [.int r1]) (k_X8_pass hI 114 a h sn txm k (xs (i + 1)) z (by omega) hMo1 hkz hz4) (x_cwV yX8_pass cX8_pass 3 (some .int) 1 X q955 q956 q957 q14 q958 hd_X8_pass ⟨Nat.le_of_ble_eq_true rfl, Nat.le_of_ble_eq_true rfl⟩) (by omega) hMo1.1 rfl rfl hl.1 rfl (Nat.le_of_ble_eq_true rfl) dL_law_289 ⟨by omega, by omega⟩ (fun r2 F2 H locs hp hw => ?_)
  obtain ⟨er2, hMo2, hr2⟩ := hp
  have hC2 := hC1.cg hr2 (by omega)
  have hLg2 := hLg1.cg hr2 (by omega)
  obtain ⟨er3, hJ2⟩ := jr_step hJ (st_pass hV hE (xs (i + 1)))
  refine lv_icmp_eq (tgt := 971) X.1 X.2.1 dL_law_292 (by decide) (fun c9 => ?_) (fun c9 => absurd (er.trans (er3.trans er2.symm)) c9)
  exact W.widen (Nat.le_succ _) (by omega) (kk _ _ _ _ _ ⟨hI, hw, hl, _, _, _, _, _, _, _, _, _, _, _, _, _, _, _, _, hC2, hLg2, hMo2, hJ2⟩)
theorem hd_X7_line : yX7_line.cls = RX7 ∧ yX7_line.cls ≠ "java/lang/invoke/MethodHandle" ∧ yX7_line.cls ≠ "java/lang/invoke/VarHandle" ∧ (parseMethodDescriptor yX7_line.desc).map (fun d => d.parameters.length) = some 1 := by decide +kernel
theorem hd_X8_line : yX8_line.cls = RX8 ∧ yX8_line.cls ≠ "java/lang/invoke/MethodHandle" ∧ yX8_line.cls ≠ "java/lang/invoke/VarHandle" ∧ (parseMethodDescriptor yX8_line.desc).map (fun d => d.parameters.length) = some 1 := by decide +kernel
set_option maxHeartbeats 4000000 in
set_option maxRecDepth 100000 in
theorem lc_line {p : Program} {l : Launch} {e : Env} {s : State} {m : MethodId} {below : List Frame} {meth : Method} {c : Code} {Q : State → Prop} {D : va_G} {cI cB cS : ClassId} {b L cn i cells slots : Nat} {xs : Nat → Int32} (X : CallFix p m c cL_law 8 s #[Value.ref b] lw_g "RegattaTimesLaw") (hK : KW D cI cB cS (lA s) s) (hX : va_X b L xs s s.heap) (hbs : b < s.heap.size) (hcn : cn < 512) (hiL : i + 4 ≤ L) (hL : L ≤ 2048) (hf : cells + 1 ≤ room_1.cells ∧ slots + 162 ≤ room_1.slots) (kk : LK p l e s m below meth c Q D cI cB cS b (cn + 1) i (cells + 1) (slots + 162) 971) : LK p l e s m below meth c Q D cI cB cS b cn i cells slots 297 := by
  intro ad F H locs ls hh
  obtain ⟨hI, hw, hl, hs, g, t, d, z, hg, ht, g3, t3, n, tx, a, h, sn, txm, k, hC, hLg, hMo, hJ⟩ := hh
  have hJ0 := hJ
  obtain ⟨hd5, hz4, hkz, ⟨nb, nr, np, ck, hV, hE⟩, -, -, -, hn80, hkn, htx⟩ := hJ0
  have hC0 := hC
  obtain ⟨hxMa, hxF, hxCo, hxJu, hxHi, hxF3, ⟨tm1, pt1, sm1, tl1, hxS1⟩, ⟨g2, t2, hxF2⟩, tm2, pt2, sm2, tl2, hxS2⟩ := hC0
  have hV0 := hV
  obtain ⟨h1, hb9, h2, hr6, h3, hp10, hpr, -⟩ := hV0
  have hg1 : g 1 = nI nb := hE.2.1.trans h1
  have hf1 : cells ≤ room_1.cells := by omega
  have hf2 : slots ≤ room_1.slots := by omega
  refine lv_aload_n X.1 X.2.1 dL_law_297 rfl (lv_at hl 1 rfl) ?_
  refine lv_aload_n X.1 X.2.1 dL_law_298 rfl (lv_at hl 0 rfl) ?_
  refine lv_iload_n X.1 X.2.1 dL_law_299 rfl (lv_at hl 3 rfl) ?_
  refine lv_iconst (v := nI 1) X.1 X.2.1 dL_law_300 (by decide) ?_
  refine lv_iadd X.1 X.2.1 dL_law_301 ?_
  refine x_top (nI_add _ _) ?_
  refine x_sld X hX hbs hw (i := nI (i + 1)) (j := i + 1) rfl (by omega) hL dL_law_302 ?_
  refine x_callV X hK hw (k := 0) (As := [.int (xs (i + 1))]) (rest := []) (k_X7_line hI 0 hs g t d z hg ht g3 t3 tm1 pt1 sm1 tl1 g2 t2 tm2 pt2 sm2 tl2 (xs (i + 1)) (by omega) hd5 hz4 hxMa hxF hxCo hxJu hxHi hxF3 hxS1 hxF2 hxS2) (x_cwV yX7_line cX7_line 2 (some .int) 1 X q353 q354 q355 q1 q356 hd_X7_line ⟨Nat.le_of_ble_eq_true rfl, Nat.le_of_ble_eq_true rfl⟩) (by omega) hxMa rfl rfl hl.1 rfl (Nat.le_of_ble_eq_true rfl) dL_law_303 ⟨by omega, by omega⟩ (fun r1 F1 H locs hp hw => ?_)
  obtain ⟨er, hC1, hr1⟩ := hp
  have hLg1 := hLg.cg hr1 (by omega)
  have hMo1 := hMo.cg hr1 (by omega)
  refine lv_aload_n X.1 X.2.1 dL_law_306 rfl (lv_at hl 2 rfl) ?_
  refine lv_aload_n X.1 X.2.1 dL_law_307 rfl (lv_at hl 0 rfl) ?_
  refine lv_iload_n X.1 X.2.1 dL_law_308 rfl (lv_at hl 3 rfl) ?_
  refine lv_iconst (v := nI 1) X.1 X.2.1 dL_law_309 (by decide) ?_
  refine lv_iadd X.1 X.2.1 dL_law_310 ?_
  refine x_top (nI_add _ _) ?_
  refine x_sld X hX hbs hw (i := nI (i + 1)) (j := i + 1) rfl (by omega) hL dL_law_311 ?_
  refine x_callV X hK hw (k := 114) (As := [.int (xs (i + 1))]) (rest := [.int r1]) (k_X8_line hI 114 a h sn txm k (xs (i + 1)) nb nr z (by omega) hMo1 h1 hb9 h2 hr6 hkz hz4) (x_cwV yX8_line cX8_line 3 (some .int) 1 X q968 q969 q970 q14 q971 hd_X8_line ⟨Nat.le_of_ble_eq_true rfl, Nat.le_of_ble_eq_true rfl⟩) (by omega) hMo1.1 rfl rfl hl.1 rfl (Nat.le_of_ble_eq_true rfl) dL_law_312 ⟨by omega, by omega⟩ (fun r2 F2 H locs hp hw => ?_)
  obtain ⟨er2, hMo2, hr2⟩ := hp
  have hC2 := hC1.cg hr2 (by omega)
  have hLg2 := hLg1.cg hr2 (by omega)
  obtain ⟨er3, hJ2⟩ := jr_step hJ (st_line (by omega) hV hE (xs (i + 1)))
  refine lv_icmp_eq (tgt := 971) X.1 X.2.1 dL_law_315 (by decide) (fun c9 => ?_) (fun c9 => absurd (er.trans (er3.trans er2.symm)) c9)
  exact W.widen (Nat.le_succ _) (by omega) (kk _ _ _ _ _ ⟨hI, hw, hl, _, _, _, _, _, _, _, _, _, _, _, _, _, _, _, _, hC2, hLg2, hMo2, hJ2⟩)
theorem hd_X7_buoy : yX7_buoy.cls = RX7 ∧ yX7_buoy.cls ≠ "java/lang/invoke/MethodHandle" ∧ yX7_buoy.cls ≠ "java/lang/invoke/VarHandle" ∧ (parseMethodDescriptor yX7_buoy.desc).map (fun d => d.parameters.length) = some 2 := by decide +kernel
theorem hd_X8_buoy : yX8_buoy.cls = RX8 ∧ yX8_buoy.cls ≠ "java/lang/invoke/MethodHandle" ∧ yX8_buoy.cls ≠ "java/lang/invoke/VarHandle" ∧ (parseMethodDescriptor yX8_buoy.desc).map (fun d => d.parameters.length) = some 2 := by decide +kernel
set_option maxHeartbeats 4000000 in
set_option maxRecDepth 100000 in
theorem lc_buoy {p : Program} {l : Launch} {e : Env} {s : State} {m : MethodId} {below : List Frame} {meth : Method} {c : Code} {Q : State → Prop} {D : va_G} {cI cB cS : ClassId} {b L cn i cells slots : Nat} {xs : Nat → Int32} (X : CallFix p m c cL_law 8 s #[Value.ref b] lw_g "RegattaTimesLaw") (hK : KW D cI cB cS (lA s) s) (hX : va_X b L xs s s.heap) (hbs : b < s.heap.size) (hcn : cn < 512) (hiL : i + 4 ≤ L) (hL : L ≤ 2048) (hf : cells + 1 ≤ room_1.cells ∧ slots + 162 ≤ room_1.slots) (kk : LK p l e s m below meth c Q D cI cB cS b (cn + 1) i (cells + 1) (slots + 162) 971) : LK p l e s m below meth c Q D cI cB cS b cn i cells slots 320 := by
  intro ad F H locs ls hh
  obtain ⟨hI, hw, hl, hs, g, t, d, z, hg, ht, g3, t3, n, tx, a, h, sn, txm, k, hC, hLg, hMo, hJ⟩ := hh
  have hJ0 := hJ
  obtain ⟨hd5, hz4, hkz, ⟨nb, nr, np, ck, hV, hE⟩, -, -, -, hn80, hkn, htx⟩ := hJ0
  have hC0 := hC
  obtain ⟨hxMa, hxF, hxCo, hxJu, hxHi, hxF3, ⟨tm1, pt1, sm1, tl1, hxS1⟩, ⟨g2, t2, hxF2⟩, tm2, pt2, sm2, tl2, hxS2⟩ := hC0
  have hV0 := hV
  obtain ⟨h1, hb9, h2, hr6, h3, hp10, hpr, -⟩ := hV0
  have hg1 : g 1 = nI nb := hE.2.1.trans h1
  have hf1 : cells ≤ room_1.cells := by omega
  have hf2 : slots ≤ room_1.slots := by omega
  refine lv_aload_n X.1 X.2.1 dL_law_320 rfl (lv_at hl 1 rfl) ?_
  refine lv_aload_n X.1 X.2.1 dL_law_321 rfl (lv_at hl 0 rfl) ?_
  refine lv_iload_n X.1 X.2.1 dL_law_322 rfl (lv_at hl 3 rfl) ?_
  refine lv_iconst (v := nI 1) X.1 X.2.1 dL_law_323 (by decide) ?_
  refine lv_iadd X.1 X.2.1 dL_law_324 ?_
  refine x_top (nI_add _ _) ?_
  refine x_sld X hX hbs hw (i := nI (i + 1)) (j := i + 1) rfl (by omega) hL dL_law_325 ?_
  refine lv_aload_n X.1 X.2.1 dL_law_326 rfl (lv_at hl 0 rfl) ?_
  refine lv_iload_n X.1 X.2.1 dL_law_327 rfl (lv_at hl 3 rfl) ?_
  refine lv_iconst (v := nI 2) X.1 X.2.1 dL_law_328 (by decide) ?_
  refine lv_iadd X.1 X.2.1 dL_law_329 ?_
  refine x_top (nI_add _ _) ?_
  refine x_sld X hX hbs hw (i := nI (i + 2)) (j := i + 2) rfl (by omega) hL dL_law_330 ?_
  refine x_callV X hK hw (k := 0) (As := [.int (xs (i + 1)), .int (xs (i + 2))]) (rest := []) (k_X7_buoy hI 0 hs g t d z hg ht g3 t3 tm1 pt1 sm1 tl1 g2 t2 tm2 pt2 sm2 tl2 (xs (i + 1)) (xs (i + 2)) (by omega) hd5 hz4 hxMa hxF hxCo hxJu hxHi hxF3 hxS1 hxF2 hxS2) (x_cwV yX7_buoy cX7_buoy 3 (some .int) 2 X q383 q384 q385 q1 q386 hd_X7_buoy ⟨Nat.le_of_ble_eq_true rfl, Nat.le_of_ble_eq_true rfl⟩) (by omega) hxMa rfl rfl hl.1 rfl (Nat.le_of_ble_eq_true rfl) dL_law_331 ⟨by omega, by omega⟩ (fun r1 F1 H locs hp hw => ?_)
  obtain ⟨er, hC1, hr1⟩ := hp
  have hLg1 := hLg.cg hr1 (by omega)
  have hMo1 := hMo.cg hr1 (by omega)
  refine lv_aload_n X.1 X.2.1 dL_law_334 rfl (lv_at hl 2 rfl) ?_
  refine lv_aload_n X.1 X.2.1 dL_law_335 rfl (lv_at hl 0 rfl) ?_
  refine lv_iload_n X.1 X.2.1 dL_law_336 rfl (lv_at hl 3 rfl) ?_
  refine lv_iconst (v := nI 1) X.1 X.2.1 dL_law_337 (by decide) ?_
  refine lv_iadd X.1 X.2.1 dL_law_338 ?_
  refine x_top (nI_add _ _) ?_
  refine x_sld X hX hbs hw (i := nI (i + 1)) (j := i + 1) rfl (by omega) hL dL_law_339 ?_
  refine lv_aload_n X.1 X.2.1 dL_law_340 rfl (lv_at hl 0 rfl) ?_
  refine lv_iload_n X.1 X.2.1 dL_law_341 rfl (lv_at hl 3 rfl) ?_
  refine lv_iconst (v := nI 2) X.1 X.2.1 dL_law_342 (by decide) ?_
  refine lv_iadd X.1 X.2.1 dL_law_343 ?_
  refine x_top (nI_add _ _) ?_
  refine x_sld X hX hbs hw (i := nI (i + 2)) (j := i + 2) rfl (by omega) hL dL_law_344 ?_
  refine x_callV X hK hw (k := 114) (As := [.int (xs (i + 1)), .int (xs (i + 2))]) (rest := [.int r1]) (k_X8_buoy hI 114 a h sn txm k (xs (i + 1)) (xs (i + 2)) nb nr z (by omega) hMo1 h1 hb9 h2 hr6 hkz hz4 hV.bu) (x_cwV yX8_buoy cX8_buoy 4 (some .int) 2 X q996 q997 q998 q14 q999 hd_X8_buoy ⟨Nat.le_of_ble_eq_true rfl, Nat.le_of_ble_eq_true rfl⟩) (by omega) hMo1.1 rfl rfl hl.1 rfl (Nat.le_of_ble_eq_true rfl) dL_law_345 ⟨by omega, by omega⟩ (fun r2 F2 H locs hp hw => ?_)
  obtain ⟨er2, hMo2, hr2⟩ := hp
  have hC2 := hC1.cg hr2 (by omega)
  have hLg2 := hLg1.cg hr2 (by omega)
  obtain ⟨er3, hJ2⟩ := jr_step hJ (st_buoy (by omega) hV hE (xs (i + 1)) (xs (i + 2)))
  refine lv_icmp_eq (tgt := 971) X.1 X.2.1 dL_law_348 (by decide) (fun c9 => ?_) (fun c9 => absurd (er.trans (er3.trans er2.symm)) c9)
  exact W.widen (Nat.le_succ _) (by omega) (kk _ _ _ _ _ ⟨hI, hw, hl, _, _, _, _, _, _, _, _, _, _, _, _, _, _, _, _, hC2, hLg2, hMo2, hJ2⟩)
theorem hd_X7_retire : yX7_retire.cls = RX7 ∧ yX7_retire.cls ≠ "java/lang/invoke/MethodHandle" ∧ yX7_retire.cls ≠ "java/lang/invoke/VarHandle" ∧ (parseMethodDescriptor yX7_retire.desc).map (fun d => d.parameters.length) = some 1 := by decide +kernel
theorem hd_X8_retire : yX8_retire.cls = RX8 ∧ yX8_retire.cls ≠ "java/lang/invoke/MethodHandle" ∧ yX8_retire.cls ≠ "java/lang/invoke/VarHandle" ∧ (parseMethodDescriptor yX8_retire.desc).map (fun d => d.parameters.length) = some 1 := by decide +kernel
set_option maxHeartbeats 4000000 in
set_option maxRecDepth 100000 in
theorem lc_retire {p : Program} {l : Launch} {e : Env} {s : State} {m : MethodId} {below : List Frame} {meth : Method} {c : Code} {Q : State → Prop} {D : va_G} {cI cB cS : ClassId} {b L cn i cells slots : Nat} {xs : Nat → Int32} (X : CallFix p m c cL_law 8 s #[Value.ref b] lw_g "RegattaTimesLaw") (hK : KW D cI cB cS (lA s) s) (hX : va_X b L xs s s.heap) (hbs : b < s.heap.size) (hcn : cn < 512) (hiL : i + 4 ≤ L) (hL : L ≤ 2048) (hf : cells + 1 ≤ room_1.cells ∧ slots + 162 ≤ room_1.slots) (kk : LK p l e s m below meth c Q D cI cB cS b (cn + 1) i (cells + 1) (slots + 162) 971) : LK p l e s m below meth c Q D cI cB cS b cn i cells slots 353 := by
  intro ad F H locs ls hh
  obtain ⟨hI, hw, hl, hs, g, t, d, z, hg, ht, g3, t3, n, tx, a, h, sn, txm, k, hC, hLg, hMo, hJ⟩ := hh
  have hJ0 := hJ
  obtain ⟨hd5, hz4, hkz, ⟨nb, nr, np, ck, hV, hE⟩, -, -, -, hn80, hkn, htx⟩ := hJ0
  have hC0 := hC
  obtain ⟨hxMa, hxF, hxCo, hxJu, hxHi, hxF3, ⟨tm1, pt1, sm1, tl1, hxS1⟩, ⟨g2, t2, hxF2⟩, tm2, pt2, sm2, tl2, hxS2⟩ := hC0
  have hV0 := hV
  obtain ⟨h1, hb9, h2, hr6, h3, hp10, hpr, -⟩ := hV0
  have hg1 : g 1 = nI nb := hE.2.1.trans h1
  have hf1 : cells ≤ room_1.cells := by omega
  have hf2 : slots ≤ room_1.slots := by omega
  refine lv_aload_n X.1 X.2.1 dL_law_353 rfl (lv_at hl 1 rfl) ?_
  refine lv_aload_n X.1 X.2.1 dL_law_354 rfl (lv_at hl 0 rfl) ?_
  refine lv_iload_n X.1 X.2.1 dL_law_355 rfl (lv_at hl 3 rfl) ?_
  refine lv_iconst (v := nI 1) X.1 X.2.1 dL_law_356 (by decide) ?_
  refine lv_iadd X.1 X.2.1 dL_law_357 ?_
  refine x_top (nI_add _ _) ?_
  refine x_sld X hX hbs hw (i := nI (i + 1)) (j := i + 1) rfl (by omega) hL dL_law_358 ?_
  refine x_callV X hK hw (k := 0) (As := [.int (xs (i + 1))]) (rest := []) (k_X7_retire hI 0 hs g t d z hg ht g3 t3 tm1 pt1 sm1 tl1 g2 t2 tm2 pt2 sm2 tl2 (xs (i + 1)) (by omega) hd5 hz4 hxMa hxF hxCo hxJu hxHi hxF3 hxS1 hxF2 hxS2) (x_cwV yX7_retire cX7_retire 2 (some .int) 1 X q391 q392 q393 q1 q394 hd_X7_retire ⟨Nat.le_of_ble_eq_true rfl, Nat.le_of_ble_eq_true rfl⟩) (by omega) hxMa rfl rfl hl.1 rfl (Nat.le_of_ble_eq_true rfl) dL_law_359 ⟨by omega, by omega⟩ (fun r1 F1 H locs hp hw => ?_)
  obtain ⟨er, hC1, hr1⟩ := hp
  have hLg1 := hLg.cg hr1 (by omega)
  have hMo1 := hMo.cg hr1 (by omega)
  refine lv_aload_n X.1 X.2.1 dL_law_362 rfl (lv_at hl 2 rfl) ?_
  refine lv_aload_n X.1 X.2.1 dL_law_363 rfl (lv_at hl 0 rfl) ?_
  refine lv_iload_n X.1 X.2.1 dL_law_364 rfl (lv_at hl 3 rfl) ?_
  refine lv_iconst (v := nI 1) X.1 X.2.1 dL_law_365 (by decide) ?_
  refine lv_iadd X.1 X.2.1 dL_law_366 ?_
  refine x_top (nI_add _ _) ?_
  refine x_sld X hX hbs hw (i := nI (i + 1)) (j := i + 1) rfl (by omega) hL dL_law_367 ?_
  refine x_callV X hK hw (k := 114) (As := [.int (xs (i + 1))]) (rest := [.int r1]) (k_X8_retire hI 114 a h sn txm k (xs (i + 1)) nb nr z (by omega) hMo1 h1 hb9 h2 hr6 hkz hz4) (x_cwV yX8_retire cX8_retire 3 (some .int) 1 X q1008 q1009 q1010 q14 q1011 hd_X8_retire ⟨Nat.le_of_ble_eq_true rfl, Nat.le_of_ble_eq_true rfl⟩) (by omega) hMo1.1 rfl rfl hl.1 rfl (Nat.le_of_ble_eq_true rfl) dL_law_368 ⟨by omega, by omega⟩ (fun r2 F2 H locs hp hw => ?_)
  obtain ⟨er2, hMo2, hr2⟩ := hp
  have hC2 := hC1.cg hr2 (by omega)
  have hLg2 := hLg1.cg hr2 (by omega)
  obtain ⟨er3, hJ2⟩ := jr_step hJ (st_retire (by omega) hV hE (xs (i + 1)))
  refine lv_icmp_eq (tgt := 971) X.1 X.2.1 dL_law_371 (by decide) (fun c9 => ?_) (fun c9 => absurd (er.trans (er3.trans er2.symm)) c9)
  exact W.widen (Nat.le_succ _) (by omega) (kk _ _ _ _ _ ⟨hI, hw, hl, _, _, _, _, _, _, _, _, _, _, _, _, _, _, _, _, hC2, hLg2, hMo2, hJ2⟩)
theorem hd_X7_close : yX7_close.cls = RX7 ∧ yX7_close.cls ≠ "java/lang/invoke/MethodHandle" ∧ yX7_close.cls ≠ "java/lang/invoke/VarHandle" ∧ (parseMethodDescriptor yX7_close.desc).map (fun d => d.parameters.length) = some 0 := by decide +kernel
theorem hd_X8_close : yX8_close.cls = RX8 ∧ yX8_close.cls ≠ "java/lang/invoke/MethodHandle" ∧ yX8_close.cls ≠ "java/lang/invoke/VarHandle" ∧ (parseMethodDescriptor yX8_close.desc).map (fun d => d.parameters.length) = some 0 := by decide +kernel
set_option maxHeartbeats 4000000 in
set_option maxRecDepth 100000 in
theorem lc_close {p : Program} {l : Launch} {e : Env} {s : State} {m : MethodId} {below : List Frame} {meth : Method} {c : Code} {Q : State → Prop} {D : va_G} {cI cB cS : ClassId} {b L cn i cells slots : Nat} {xs : Nat → Int32} (X : CallFix p m c cL_law 8 s #[Value.ref b] lw_g "RegattaTimesLaw") (hK : KW D cI cB cS (lA s) s) (hX : va_X b L xs s s.heap) (hbs : b < s.heap.size) (hcn : cn < 512) (hiL : i + 4 ≤ L) (hL : L ≤ 2048) (hf : cells + 1 ≤ room_1.cells ∧ slots + 162 ≤ room_1.slots) (kk : LK p l e s m below meth c Q D cI cB cS b (cn + 1) i (cells + 1) (slots + 162) 971) : LK p l e s m below meth c Q D cI cB cS b cn i cells slots 376 := by
  intro ad F H locs ls hh
  obtain ⟨hI, hw, hl, hs, g, t, d, z, hg, ht, g3, t3, n, tx, a, h, sn, txm, k, hC, hLg, hMo, hJ⟩ := hh
  have hJ0 := hJ
  obtain ⟨hd5, hz4, hkz, ⟨nb, nr, np, ck, hV, hE⟩, -, -, -, hn80, hkn, htx⟩ := hJ0
  have hC0 := hC
  obtain ⟨hxMa, hxF, hxCo, hxJu, hxHi, hxF3, ⟨tm1, pt1, sm1, tl1, hxS1⟩, ⟨g2, t2, hxF2⟩, tm2, pt2, sm2, tl2, hxS2⟩ := hC0
  have hV0 := hV
  obtain ⟨h1, hb9, h2, hr6, h3, hp10, hpr, -⟩ := hV0
  have hg1 : g 1 = nI nb := hE.2.1.trans h1
  have hf1 : cells ≤ room_1.cells := by omega
  have hf2 : slots ≤ room_1.slots := by omega
  refine lv_aload_n X.1 X.2.1 dL_law_376 rfl (lv_at hl 1 rfl) ?_
  refine x_callV X hK hw (k := 0) (As := []) (rest := []) (k_X7_close hI 0 hs g t d z hg ht g3 t3 tm1 pt1 sm1 tl1 g2 t2 tm2 pt2 sm2 tl2 nb (by omega) hd5 hz4 hxMa hxF hxCo hxJu hxHi hxF3 hxS1 hxF2 hxS2 hg1 (by omega)) (x_cwV yX7_close cX7_close 1 (some .int) 0 X q399 q400 q401 q1 q402 hd_X7_close ⟨Nat.le_of_ble_eq_true rfl, Nat.le_of_ble_eq_true rfl⟩) (by omega) hxMa rfl rfl hl.1 rfl (Nat.le_of_ble_eq_true rfl) dL_law_377 ⟨by omega, by omega⟩ (fun r1 F1 H locs hp hw => ?_)
  obtain ⟨er, hC1, hr1⟩ := hp
  have hLg1 := hLg.cg hr1 (by omega)
  have hMo1 := hMo.cg hr1 (by omega)
  refine lv_aload_n X.1 X.2.1 dL_law_380 rfl (lv_at hl 2 rfl) ?_
  refine x_callV X hK hw (k := 114) (As := []) (rest := [.int r1]) (k_X8_close hI 114 a h sn txm k nb nr z (by omega) hMo1 h1 hb9 h2 hr6 hkz hz4) (x_cwV yX8_close cX8_close 1 (some .int) 0 X q1020 q1021 q1022 q14 q1023 hd_X8_close ⟨Nat.le_of_ble_eq_true rfl, Nat.le_of_ble_eq_true rfl⟩) (by omega) hMo1.1 rfl rfl hl.1 rfl (Nat.le_of_ble_eq_true rfl) dL_law_381 ⟨by omega, by omega⟩ (fun r2 F2 H locs hp hw => ?_)
  obtain ⟨er2, hMo2, hr2⟩ := hp
  have hC2 := hC1.cg hr2 (by omega)
  have hLg2 := hLg1.cg hr2 (by omega)
  obtain ⟨er3, hJ2⟩ := jr_step hJ (st_close (by omega) hV hE)
  refine lv_icmp_eq (tgt := 971) X.1 X.2.1 dL_law_384 (by decide) (fun c9 => ?_) (fun c9 => absurd (er.trans (er3.trans er2.symm)) c9)
  exact W.widen (Nat.le_succ _) (by omega) (kk _ _ _ _ _ ⟨hI, hw, hl, _, _, _, _, _, _, _, _, _, _, _, _, _, _, _, _, hC2, hLg2, hMo2, hJ2⟩)
theorem hd_X7_hail : yX7_hail.cls = RX7 ∧ yX7_hail.cls ≠ "java/lang/invoke/MethodHandle" ∧ yX7_hail.cls ≠ "java/lang/invoke/VarHandle" ∧ (parseMethodDescriptor yX7_hail.desc).map (fun d => d.parameters.length) = some 2 := by decide +kernel
theorem hd_X8_hail : yX8_hail.cls = RX8 ∧ yX8_hail.cls ≠ "java/lang/invoke/MethodHandle" ∧ yX8_hail.cls ≠ "java/lang/invoke/VarHandle" ∧ (parseMethodDescriptor yX8_hail.desc).map (fun d => d.parameters.length) = some 2 := by decide +kernel
set_option maxHeartbeats 4000000 in
set_option maxRecDepth 100000 in
theorem lc_hail {p : Program} {l : Launch} {e : Env} {s : State} {m : MethodId} {below : List Frame} {meth : Method} {c : Code} {Q : State → Prop} {D : va_G} {cI cB cS : ClassId} {b L cn i cells slots : Nat} {xs : Nat → Int32} (X : CallFix p m c cL_law 8 s #[Value.ref b] lw_g "RegattaTimesLaw") (hK : KW D cI cB cS (lA s) s) (hX : va_X b L xs s s.heap) (hbs : b < s.heap.size) (hcn : cn < 512) (hiL : i + 4 ≤ L) (hL : L ≤ 2048) (hf : cells + 1 ≤ room_1.cells ∧ slots + 162 ≤ room_1.slots) (kk : LK p l e s m below meth c Q D cI cB cS b (cn + 1) i (cells + 1) (slots + 162) 971) : LK p l e s m below meth c Q D cI cB cS b cn i cells slots 389 := by
  intro ad F H locs ls hh
  obtain ⟨hI, hw, hl, hs, g, t, d, z, hg, ht, g3, t3, n, tx, a, h, sn, txm, k, hC, hLg, hMo, hJ⟩ := hh
  have hJ0 := hJ
  obtain ⟨hd5, hz4, hkz, ⟨nb, nr, np, ck, hV, hE⟩, -, -, -, hn80, hkn, htx⟩ := hJ0
  have hC0 := hC
  obtain ⟨hxMa, hxF, hxCo, hxJu, hxHi, hxF3, ⟨tm1, pt1, sm1, tl1, hxS1⟩, ⟨g2, t2, hxF2⟩, tm2, pt2, sm2, tl2, hxS2⟩ := hC0
  have hV0 := hV
  obtain ⟨h1, hb9, h2, hr6, h3, hp10, hpr, -⟩ := hV0
  have hg1 : g 1 = nI nb := hE.2.1.trans h1
  have hf1 : cells ≤ room_1.cells := by omega
  have hf2 : slots ≤ room_1.slots := by omega
  refine lv_aload_n X.1 X.2.1 dL_law_389 rfl (lv_at hl 1 rfl) ?_
  refine lv_aload_n X.1 X.2.1 dL_law_390 rfl (lv_at hl 0 rfl) ?_
  refine lv_iload_n X.1 X.2.1 dL_law_391 rfl (lv_at hl 3 rfl) ?_
  refine lv_iconst (v := nI 1) X.1 X.2.1 dL_law_392 (by decide) ?_
  refine lv_iadd X.1 X.2.1 dL_law_393 ?_
  refine x_top (nI_add _ _) ?_
  refine x_sld X hX hbs hw (i := nI (i + 1)) (j := i + 1) rfl (by omega) hL dL_law_394 ?_
  refine lv_aload_n X.1 X.2.1 dL_law_395 rfl (lv_at hl 0 rfl) ?_
  refine lv_iload_n X.1 X.2.1 dL_law_396 rfl (lv_at hl 3 rfl) ?_
  refine lv_iconst (v := nI 2) X.1 X.2.1 dL_law_397 (by decide) ?_
  refine lv_iadd X.1 X.2.1 dL_law_398 ?_
  refine x_top (nI_add _ _) ?_
  refine x_sld X hX hbs hw (i := nI (i + 2)) (j := i + 2) rfl (by omega) hL dL_law_399 ?_
  refine x_callV X hK hw (k := 0) (As := [.int (xs (i + 1)), .int (xs (i + 2))]) (rest := []) (k_X7_hail hI 0 hs g t d z hg ht g3 t3 tm1 pt1 sm1 tl1 g2 t2 tm2 pt2 sm2 tl2 (xs (i + 1)) (xs (i + 2)) (by omega) hd5 hz4 hxMa hxF hxCo hxJu hxHi hxF3 hxS1 hxF2 hxS2) (x_cwV yX7_hail cX7_hail 3 (some .int) 2 X q411 q412 q413 q1 q414 hd_X7_hail ⟨Nat.le_of_ble_eq_true rfl, Nat.le_of_ble_eq_true rfl⟩) (by omega) hxMa rfl rfl hl.1 rfl (Nat.le_of_ble_eq_true rfl) dL_law_400 ⟨by omega, by omega⟩ (fun r1 F1 H locs hp hw => ?_)
  obtain ⟨er, hC1, hr1⟩ := hp
  have hLg1 := hLg.cg hr1 (by omega)
  have hMo1 := hMo.cg hr1 (by omega)
  refine lv_aload_n X.1 X.2.1 dL_law_403 rfl (lv_at hl 2 rfl) ?_
  refine lv_aload_n X.1 X.2.1 dL_law_404 rfl (lv_at hl 0 rfl) ?_
  refine lv_iload_n X.1 X.2.1 dL_law_405 rfl (lv_at hl 3 rfl) ?_
  refine lv_iconst (v := nI 1) X.1 X.2.1 dL_law_406 (by decide) ?_
  refine lv_iadd X.1 X.2.1 dL_law_407 ?_
  refine x_top (nI_add _ _) ?_
  refine x_sld X hX hbs hw (i := nI (i + 1)) (j := i + 1) rfl (by omega) hL dL_law_408 ?_
  refine lv_aload_n X.1 X.2.1 dL_law_409 rfl (lv_at hl 0 rfl) ?_
  refine lv_iload_n X.1 X.2.1 dL_law_410 rfl (lv_at hl 3 rfl) ?_
  refine lv_iconst (v := nI 2) X.1 X.2.1 dL_law_411 (by decide) ?_
  refine lv_iadd X.1 X.2.1 dL_law_412 ?_
  refine x_top (nI_add _ _) ?_
  refine x_sld X hX hbs hw (i := nI (i + 2)) (j := i + 2) rfl (by omega) hL dL_law_413 ?_
  refine x_callV X hK hw (k := 114) (As := [.int (xs (i + 1)), .int (xs (i + 2))]) (rest := [.int r1]) (k_X8_hail hI 114 a h sn txm k (xs (i + 1)) (xs (i + 2)) nb nr np z (by omega) hMo1 h1 hb9 h2 hr6 h3 hp10 hkz hz4) (x_cwV yX8_hail cX8_hail 4 (some .int) 2 X q1028 q1029 q1030 q14 q1031 hd_X8_hail ⟨Nat.le_of_ble_eq_true rfl, Nat.le_of_ble_eq_true rfl⟩) (by omega) hMo1.1 rfl rfl hl.1 rfl (Nat.le_of_ble_eq_true rfl) dL_law_414 ⟨by omega, by omega⟩ (fun r2 F2 H locs hp hw => ?_)
  obtain ⟨er2, hMo2, hr2⟩ := hp
  have hC2 := hC1.cg hr2 (by omega)
  have hLg2 := hLg1.cg hr2 (by omega)
  obtain ⟨er3, hJ2⟩ := jr_step hJ (st_hail (by omega) hV hE (xs (i + 1)) (xs (i + 2)))
  refine lv_icmp_eq (tgt := 971) X.1 X.2.1 dL_law_417 (by decide) (fun c9 => ?_) (fun c9 => absurd (er.trans (er3.trans er2.symm)) c9)
  exact W.widen (Nat.le_succ _) (by omega) (kk _ _ _ _ _ ⟨hI, hw, hl, _, _, _, _, _, _, _, _, _, _, _, _, _, _, _, _, hC2, hLg2, hMo2, hJ2⟩)
theorem hd_X7_file : yX7_file.cls = RX7 ∧ yX7_file.cls ≠ "java/lang/invoke/MethodHandle" ∧ yX7_file.cls ≠ "java/lang/invoke/VarHandle" ∧ (parseMethodDescriptor yX7_file.desc).map (fun d => d.parameters.length) = some 1 := by decide +kernel
theorem hd_X8_file : yX8_file.cls = RX8 ∧ yX8_file.cls ≠ "java/lang/invoke/MethodHandle" ∧ yX8_file.cls ≠ "java/lang/invoke/VarHandle" ∧ (parseMethodDescriptor yX8_file.desc).map (fun d => d.parameters.length) = some 1 := by decide +kernel
set_option maxHeartbeats 4000000 in
set_option maxRecDepth 100000 in
theorem lc_file {p : Program} {l : Launch} {e : Env} {s : State} {m : MethodId} {below : List Frame} {meth : Method} {c : Code} {Q : State → Prop} {D : va_G} {cI cB cS : ClassId} {b L cn i cells slots : Nat} {xs : Nat → Int32} (X : CallFix p m c cL_law 8 s #[Value.ref b] lw_g "RegattaTimesLaw") (hK : KW D cI cB cS (lA s) s) (hX : va_X b L xs s s.heap) (hbs : b < s.heap.size) (hcn : cn < 512) (hiL : i + 4 ≤ L) (hL : L ≤ 2048) (hf : cells + 1 ≤ room_1.cells ∧ slots + 162 ≤ room_1.slots) (kk : LK p l e s m below meth c Q D cI cB cS b (cn + 1) i (cells + 1) (slots + 162) 971) : LK p l e s m below meth c Q D cI cB cS b cn i cells slots 422 := by
  intro ad F H locs ls hh
  obtain ⟨hI, hw, hl, hs, g, t, d, z, hg, ht, g3, t3, n, tx, a, h, sn, txm, k, hC, hLg, hMo, hJ⟩ := hh
  have hJ0 := hJ
  obtain ⟨hd5, hz4, hkz, ⟨nb, nr, np, ck, hV, hE⟩, -, -, -, hn80, hkn, htx⟩ := hJ0
  have hC0 := hC
  obtain ⟨hxMa, hxF, hxCo, hxJu, hxHi, hxF3, ⟨tm1, pt1, sm1, tl1, hxS1⟩, ⟨g2, t2, hxF2⟩, tm2, pt2, sm2, tl2, hxS2⟩ := hC0
  have hV0 := hV
  obtain ⟨h1, hb9, h2, hr6, h3, hp10, hpr, -⟩ := hV0
  have hg1 : g 1 = nI nb := hE.2.1.trans h1
  have hf1 : cells ≤ room_1.cells := by omega
  have hf2 : slots ≤ room_1.slots := by omega
  refine lv_aload_n X.1 X.2.1 dL_law_422 rfl (lv_at hl 1 rfl) ?_
  refine lv_aload_n X.1 X.2.1 dL_law_423 rfl (lv_at hl 0 rfl) ?_
  refine lv_iload_n X.1 X.2.1 dL_law_424 rfl (lv_at hl 3 rfl) ?_
  refine lv_iconst (v := nI 1) X.1 X.2.1 dL_law_425 (by decide) ?_
  refine lv_iadd X.1 X.2.1 dL_law_426 ?_
  refine x_top (nI_add _ _) ?_
  refine x_sld X hX hbs hw (i := nI (i + 1)) (j := i + 1) rfl (by omega) hL dL_law_427 ?_
  refine x_callV X hK hw (k := 0) (As := [.int (xs (i + 1))]) (rest := []) (k_X7_file hI 0 hs g t d z hg ht g3 t3 tm1 pt1 sm1 tl1 g2 t2 tm2 pt2 sm2 tl2 (xs (i + 1)) (by omega) hd5 hz4 hxMa hxF hxCo hxJu hxHi hxF3 hxS1 hxF2 hxS2) (x_cwV yX7_file cX7_file 2 (some .int) 1 X q427 q428 q429 q1 q430 hd_X7_file ⟨Nat.le_of_ble_eq_true rfl, Nat.le_of_ble_eq_true rfl⟩) (by omega) hxMa rfl rfl hl.1 rfl (Nat.le_of_ble_eq_true rfl) dL_law_428 ⟨by omega, by omega⟩ (fun r1 F1 H locs hp hw => ?_)
  obtain ⟨er, hC1, hr1⟩ := hp
  have hLg1 := hLg.cg hr1 (by omega)
  have hMo1 := hMo.cg hr1 (by omega)
  refine lv_aload_n X.1 X.2.1 dL_law_431 rfl (lv_at hl 2 rfl) ?_
  refine lv_aload_n X.1 X.2.1 dL_law_432 rfl (lv_at hl 0 rfl) ?_
  refine lv_iload_n X.1 X.2.1 dL_law_433 rfl (lv_at hl 3 rfl) ?_
  refine lv_iconst (v := nI 1) X.1 X.2.1 dL_law_434 (by decide) ?_
  refine lv_iadd X.1 X.2.1 dL_law_435 ?_
  refine x_top (nI_add _ _) ?_
  refine x_sld X hX hbs hw (i := nI (i + 1)) (j := i + 1) rfl (by omega) hL dL_law_436 ?_
  refine x_callV X hK hw (k := 114) (As := [.int (xs (i + 1))]) (rest := [.int r1]) (k_X8_file hI 114 a h sn txm k (xs (i + 1)) nb nr np z (by omega) hMo1 h1 hb9 h2 hr6 h3 hp10 hpr hV.pb0 hkz hz4) (x_cwV yX8_file cX8_file 4 (some .int) 1 X q1044 q1045 q1046 q14 q1047 hd_X8_file ⟨Nat.le_of_ble_eq_true rfl, Nat.le_of_ble_eq_true rfl⟩) (by omega) hMo1.1 rfl rfl hl.1 rfl (Nat.le_of_ble_eq_true rfl) dL_law_437 ⟨by omega, by omega⟩ (fun r2 F2 H locs hp hw => ?_)
  obtain ⟨er2, hMo2, hr2⟩ := hp
  have hC2 := hC1.cg hr2 (by omega)
  have hLg2 := hLg1.cg hr2 (by omega)
  obtain ⟨er3, hJ2⟩ := jr_step hJ (st_file (by omega) hV hE (xs (i + 1)))
  refine lv_icmp_eq (tgt := 971) X.1 X.2.1 dL_law_440 (by decide) (fun c9 => ?_) (fun c9 => absurd (er.trans (er3.trans er2.symm)) c9)
  exact W.widen (Nat.le_succ _) (by omega) (kk _ _ _ _ _ ⟨hI, hw, hl, _, _, _, _, _, _, _, _, _, _, _, _, _, _, _, _, hC2, hLg2, hMo2, hJ2⟩)
theorem hd_X7_accept : yX7_accept.cls = RX7 ∧ yX7_accept.cls ≠ "java/lang/invoke/MethodHandle" ∧ yX7_accept.cls ≠ "java/lang/invoke/VarHandle" ∧ (parseMethodDescriptor yX7_accept.desc).map (fun d => d.parameters.length) = some 1 := by decide +kernel
theorem hd_X8_accept : yX8_accept.cls = RX8 ∧ yX8_accept.cls ≠ "java/lang/invoke/MethodHandle" ∧ yX8_accept.cls ≠ "java/lang/invoke/VarHandle" ∧ (parseMethodDescriptor yX8_accept.desc).map (fun d => d.parameters.length) = some 1 := by decide +kernel
set_option maxHeartbeats 4000000 in
set_option maxRecDepth 100000 in
theorem lc_accept {p : Program} {l : Launch} {e : Env} {s : State} {m : MethodId} {below : List Frame} {meth : Method} {c : Code} {Q : State → Prop} {D : va_G} {cI cB cS : ClassId} {b L cn i cells slots : Nat} {xs : Nat → Int32} (X : CallFix p m c cL_law 8 s #[Value.ref b] lw_g "RegattaTimesLaw") (hK : KW D cI cB cS (lA s) s) (hX : va_X b L xs s s.heap) (hbs : b < s.heap.size) (hcn : cn < 512) (hiL : i + 4 ≤ L) (hL : L ≤ 2048) (hf : cells + 1 ≤ room_1.cells ∧ slots + 162 ≤ room_1.slots) (kk : LK p l e s m below meth c Q D cI cB cS b (cn + 1) i (cells + 1) (slots + 162) 971) : LK p l e s m below meth c Q D cI cB cS b cn i cells slots 445 := by
  intro ad F H locs ls hh
  obtain ⟨hI, hw, hl, hs, g, t, d, z, hg, ht, g3, t3, n, tx, a, h, sn, txm, k, hC, hLg, hMo, hJ⟩ := hh
  have hJ0 := hJ
  obtain ⟨hd5, hz4, hkz, ⟨nb, nr, np, ck, hV, hE⟩, -, -, -, hn80, hkn, htx⟩ := hJ0
  have hC0 := hC
  obtain ⟨hxMa, hxF, hxCo, hxJu, hxHi, hxF3, ⟨tm1, pt1, sm1, tl1, hxS1⟩, ⟨g2, t2, hxF2⟩, tm2, pt2, sm2, tl2, hxS2⟩ := hC0
  have hV0 := hV
  obtain ⟨h1, hb9, h2, hr6, h3, hp10, hpr, -⟩ := hV0
  have hg1 : g 1 = nI nb := hE.2.1.trans h1
  have hf1 : cells ≤ room_1.cells := by omega
  have hf2 : slots ≤ room_1.slots := by omega
  refine lv_aload_n X.1 X.2.1 dL_law_445 rfl (lv_at hl 1 rfl) ?_
  refine lv_aload_n X.1 X.2.1 dL_law_446 rfl (lv_at hl 0 rfl) ?_
  refine lv_iload_n X.1 X.2.1 dL_law_447 rfl (lv_at hl 3 rfl) ?_
  refine lv_iconst (v := nI 1) X.1 X.2.1 dL_law_448 (by decide) ?_
  refine lv_iadd X.1 X.2.1 dL_law_449 ?_
  refine x_top (nI_add _ _) ?_
  refine x_sld X hX hbs hw (i := nI (i + 1)) (j := i + 1) rfl (by omega) hL dL_law_450 ?_
  refine x_callV X hK hw (k := 0) (As := [.int (xs (i + 1))]) (rest := []) (k_X7_accept hI 0 hs g t d z hg ht g3 t3 tm1 pt1 sm1 tl1 g2 t2 tm2 pt2 sm2 tl2 (xs (i + 1)) (by omega) hd5 hz4 hxMa hxF hxCo hxJu hxHi hxF3 hxS1 hxF2 hxS2) (x_cwV yX7_accept cX7_accept 2 (some .int) 1 X q444 q445 q446 q1 q447 hd_X7_accept ⟨Nat.le_of_ble_eq_true rfl, Nat.le_of_ble_eq_true rfl⟩) (by omega) hxMa rfl rfl hl.1 rfl (Nat.le_of_ble_eq_true rfl) dL_law_451 ⟨by omega, by omega⟩ (fun r1 F1 H locs hp hw => ?_)
  obtain ⟨er, hC1, hr1⟩ := hp
  have hLg1 := hLg.cg hr1 (by omega)
  have hMo1 := hMo.cg hr1 (by omega)
  refine lv_aload_n X.1 X.2.1 dL_law_454 rfl (lv_at hl 2 rfl) ?_
  refine lv_aload_n X.1 X.2.1 dL_law_455 rfl (lv_at hl 0 rfl) ?_
  refine lv_iload_n X.1 X.2.1 dL_law_456 rfl (lv_at hl 3 rfl) ?_
  refine lv_iconst (v := nI 1) X.1 X.2.1 dL_law_457 (by decide) ?_
  refine lv_iadd X.1 X.2.1 dL_law_458 ?_
  refine x_top (nI_add _ _) ?_
  refine x_sld X hX hbs hw (i := nI (i + 1)) (j := i + 1) rfl (by omega) hL dL_law_459 ?_
  refine x_callV X hK hw (k := 114) (As := [.int (xs (i + 1))]) (rest := [.int r1]) (k_X8_accept hI 114 a h sn txm k (xs (i + 1)) nb nr np z (by omega) hMo1 h1 hb9 h2 hr6 h3 hp10 hpr hV.pb1 hkz hz4) (x_cwV yX8_accept cX8_accept 4 (some .int) 1 X q1060 q1061 q1062 q14 q1063 hd_X8_accept ⟨Nat.le_of_ble_eq_true rfl, Nat.le_of_ble_eq_true rfl⟩) (by omega) hMo1.1 rfl rfl hl.1 rfl (Nat.le_of_ble_eq_true rfl) dL_law_460 ⟨by omega, by omega⟩ (fun r2 F2 H locs hp hw => ?_)
  obtain ⟨er2, hMo2, hr2⟩ := hp
  have hC2 := hC1.cg hr2 (by omega)
  have hLg2 := hLg1.cg hr2 (by omega)
  obtain ⟨er3, hJ2⟩ := jr_step hJ (st_accept (by omega) hV hE (xs (i + 1)))
  refine lv_icmp_eq (tgt := 971) X.1 X.2.1 dL_law_463 (by decide) (fun c9 => ?_) (fun c9 => absurd (er.trans (er3.trans er2.symm)) c9)
  exact W.widen (Nat.le_succ _) (by omega) (kk _ _ _ _ _ ⟨hI, hw, hl, _, _, _, _, _, _, _, _, _, _, _, _, _, _, _, _, hC2, hLg2, hMo2, hJ2⟩)
theorem hd_X7_set : yX7_set.cls = RX7 ∧ yX7_set.cls ≠ "java/lang/invoke/MethodHandle" ∧ yX7_set.cls ≠ "java/lang/invoke/VarHandle" ∧ (parseMethodDescriptor yX7_set.desc).map (fun d => d.parameters.length) = some 2 := by decide +kernel
theorem hd_X8_set : yX8_set.cls = RX8 ∧ yX8_set.cls ≠ "java/lang/invoke/MethodHandle" ∧ yX8_set.cls ≠ "java/lang/invoke/VarHandle" ∧ (parseMethodDescriptor yX8_set.desc).map (fun d => d.parameters.length) = some 2 := by decide +kernel
set_option maxHeartbeats 4000000 in
set_option maxRecDepth 100000 in
theorem lc_set {p : Program} {l : Launch} {e : Env} {s : State} {m : MethodId} {below : List Frame} {meth : Method} {c : Code} {Q : State → Prop} {D : va_G} {cI cB cS : ClassId} {b L cn i cells slots : Nat} {xs : Nat → Int32} (X : CallFix p m c cL_law 8 s #[Value.ref b] lw_g "RegattaTimesLaw") (hK : KW D cI cB cS (lA s) s) (hX : va_X b L xs s s.heap) (hbs : b < s.heap.size) (hcn : cn < 512) (hiL : i + 4 ≤ L) (hL : L ≤ 2048) (hf : cells + 1 ≤ room_1.cells ∧ slots + 162 ≤ room_1.slots) (kk : LK p l e s m below meth c Q D cI cB cS b (cn + 1) i (cells + 1) (slots + 162) 971) : LK p l e s m below meth c Q D cI cB cS b cn i cells slots 517 := by
  intro ad F H locs ls hh
  obtain ⟨hI, hw, hl, hs, g, t, d, z, hg, ht, g3, t3, n, tx, a, h, sn, txm, k, hC, hLg, hMo, hJ⟩ := hh
  have hJ0 := hJ
  obtain ⟨hd5, hz4, hkz, ⟨nb, nr, np, ck, hV, hE⟩, -, -, -, hn80, hkn, htx⟩ := hJ0
  have hC0 := hC
  obtain ⟨hxMa, hxF, hxCo, hxJu, hxHi, hxF3, ⟨tm1, pt1, sm1, tl1, hxS1⟩, ⟨g2, t2, hxF2⟩, tm2, pt2, sm2, tl2, hxS2⟩ := hC0
  have hV0 := hV
  obtain ⟨h1, hb9, h2, hr6, h3, hp10, hpr, -⟩ := hV0
  have hg1 : g 1 = nI nb := hE.2.1.trans h1
  have hf1 : cells ≤ room_1.cells := by omega
  have hf2 : slots ≤ room_1.slots := by omega
  refine lv_aload_n X.1 X.2.1 dL_law_517 rfl (lv_at hl 1 rfl) ?_
  refine lv_aload_n X.1 X.2.1 dL_law_518 rfl (lv_at hl 0 rfl) ?_
  refine lv_iload_n X.1 X.2.1 dL_law_519 rfl (lv_at hl 3 rfl) ?_
  refine lv_iconst (v := nI 1) X.1 X.2.1 dL_law_520 (by decide) ?_
  refine lv_iadd X.1 X.2.1 dL_law_521 ?_
  refine x_top (nI_add _ _) ?_
  refine x_sld X hX hbs hw (i := nI (i + 1)) (j := i + 1) rfl (by omega) hL dL_law_522 ?_
  refine lv_aload_n X.1 X.2.1 dL_law_523 rfl (lv_at hl 0 rfl) ?_
  refine lv_iload_n X.1 X.2.1 dL_law_524 rfl (lv_at hl 3 rfl) ?_
  refine lv_iconst (v := nI 2) X.1 X.2.1 dL_law_525 (by decide) ?_
  refine lv_iadd X.1 X.2.1 dL_law_526 ?_
  refine x_top (nI_add _ _) ?_
  refine x_sld X hX hbs hw (i := nI (i + 2)) (j := i + 2) rfl (by omega) hL dL_law_527 ?_
  refine x_callV X hK hw (k := 0) (As := [.int (xs (i + 1)), .int (xs (i + 2))]) (rest := []) (k_X7_set hI 0 hs g t d z hg ht g3 t3 tm1 pt1 sm1 tl1 g2 t2 tm2 pt2 sm2 tl2 (xs (i + 1)) (xs (i + 2)) (by omega) hd5 hz4 hxMa hxF hxCo hxJu hxHi hxF3 hxS1 hxF2 hxS2) (x_cwV yX7_set cX7_set 3 (some .int) 2 X q463 q464 q465 q1 q466 hd_X7_set ⟨Nat.le_of_ble_eq_true rfl, Nat.le_of_ble_eq_true rfl⟩) (by omega) hxMa rfl rfl hl.1 rfl (Nat.le_of_ble_eq_true rfl) dL_law_528 ⟨by omega, by omega⟩ (fun r1 F1 H locs hp hw => ?_)
  obtain ⟨er, hC1, hr1⟩ := hp
  have hLg1 := hLg.cg hr1 (by omega)
  have hMo1 := hMo.cg hr1 (by omega)
  refine lv_aload_n X.1 X.2.1 dL_law_531 rfl (lv_at hl 2 rfl) ?_
  refine lv_aload_n X.1 X.2.1 dL_law_532 rfl (lv_at hl 0 rfl) ?_
  refine lv_iload_n X.1 X.2.1 dL_law_533 rfl (lv_at hl 3 rfl) ?_
  refine lv_iconst (v := nI 1) X.1 X.2.1 dL_law_534 (by decide) ?_
  refine lv_iadd X.1 X.2.1 dL_law_535 ?_
  refine x_top (nI_add _ _) ?_
  refine x_sld X hX hbs hw (i := nI (i + 1)) (j := i + 1) rfl (by omega) hL dL_law_536 ?_
  refine lv_aload_n X.1 X.2.1 dL_law_537 rfl (lv_at hl 0 rfl) ?_
  refine lv_iload_n X.1 X.2.1 dL_law_538 rfl (lv_at hl 3 rfl) ?_
  refine lv_iconst (v := nI 2) X.1 X.2.1 dL_law_539 (by decide) ?_
  refine lv_iadd X.1 X.2.1 dL_law_540 ?_
  refine x_top (nI_add _ _) ?_
  refine x_sld X hX hbs hw (i := nI (i + 2)) (j := i + 2) rfl (by omega) hL dL_law_541 ?_
  refine x_callV X hK hw (k := 114) (As := [.int (xs (i + 1)), .int (xs (i + 2))]) (rest := [.int r1]) (k_X8_set hI 114 a h sn txm k (xs (i + 1)) (xs (i + 2)) z (by omega) hMo1 hkz hz4) (x_cwV yX8_set cX8_set 4 (some .int) 2 X q1072 q1073 q1074 q14 q1075 hd_X8_set ⟨Nat.le_of_ble_eq_true rfl, Nat.le_of_ble_eq_true rfl⟩) (by omega) hMo1.1 rfl rfl hl.1 rfl (Nat.le_of_ble_eq_true rfl) dL_law_542 ⟨by omega, by omega⟩ (fun r2 F2 H locs hp hw => ?_)
  obtain ⟨er2, hMo2, hr2⟩ := hp
  have hC2 := hC1.cg hr2 (by omega)
  have hLg2 := hLg1.cg hr2 (by omega)
  obtain ⟨er3, hJ2⟩ := jr_step hJ (st_set hV hE (xs (i + 1)) (xs (i + 2)))
  refine lv_icmp_eq (tgt := 971) X.1 X.2.1 dL_law_545 (by decide) (fun c9 => ?_) (fun c9 => absurd (er.trans (er3.trans er2.symm)) c9)
  exact W.widen (Nat.le_succ _) (by omega) (kk _ _ _ _ _ ⟨hI, hw, hl, _, _, _, _, _, _, _, _, _, _, _, _, _, _, _, _, hC2, hLg2, hMo2, hJ2⟩)
