def mnF (a c : Nat) : UInt32 := FP.fdiv (FP.i2f (nI a)) (FP.i2f (nI c))
theorem mn_fin : ∀ a : Fin 100, ∀ c : Fin 7, c.val = 0 ∨ (mnF a.val c.val &&& 0x7fffffff ≤ 0x7f800000 ∧ FP.f2d (mnF a.val c.val) &&& 0x7fffffffffffffff ≤ 0x7ff0000000000000 ∧ Op.cmpValue (FP.dcmp (FP.f2d (mnF a.val c.val)) (FP.f2d (mnF a.val c.val))) .l = 0) := by decide +kernel
theorem mn_ok {a c : Nat} (ha : a < 100) (hc : 0 < c) (hc6 : c ≤ 6) : vf_n32 (mnF a c) ∧ vf_n64 (FP.f2d (mnF a c)) ∧ Op.cmpValue (FP.dcmp (FP.f2d (mnF a c)) (FP.f2d (mnF a c))) .l = 0 := by
  rcases mn_fin ⟨a, ha⟩ ⟨c, by omega⟩ with h | h
  · exact absurd h (by show ¬ c = 0; omega)
  · exact h
def Cf (l : Launch) (D : va_G) (cI cB cS : ClassId) (ad : Nat → Nat) (N : Nat) (y : MethodName) (b : ByteArray) (n : Nat) (ret : Option FieldType) (fr lo : Nat) (av : List Value) (F : Nat → va_E) (post : UInt32 → (Nat → va_E) → Prop) : Prop :=
  ∀ sz, Met l y (Cond.code y b n ret :: lw_g) { frames := fr, cells := 0, slots := 0, locals := lo } (va_Pc av (fun U => U.heap.size = sz ∧ PW D cI cB cS ad N F U)) (va_Qf post (fun F' t => PO D ad N F' t) (Af ad N sz)) 0 0 (Af ad N sz)
theorem x_fret {p : Program} {l : Launch} {e : Env} {R : Room} {s : State} {m : MethodId} {args : Array Value} {below : List Frame} {meth : Method} {c : Code} {H : Heap} {locs : List Loc} {cells slots : Nat} {cc : ByteArray} {nL pc : Nat} {own : String} {ls : Array Slot} {D : va_G} {cI cB cS : ClassId} {ad : Nat → Nat} {N : Nat} {F : Nat → va_E} (X : CallFix p m c cc nL s args lw_g own) (hr : meth.sig.returnType = some .float) (hlk : meth.locks = false) {AK : Nat → Prop} (hK : KW D cI cB cS AK s) (hw : HW D (Af ad N s.heap.size) ad N F s H locs) {post : UInt32 → (Nat → va_E) → Prop} {v : UInt32} (hp : post v F) (hdg : decode cc pc = .ok (.freturn, 1)) : W p l e R s m args below meth c H locs cells slots (MQ below (va_Qf post (fun F' t => PO D ad N F' t) (Af ad N s.heap.size)) args s cells slots (Af ad N s.heap.size)) (F0 m pc ls [.float v]) :=
  W.fret X.1 X.2.1 hr (fun t ht hW => ⟨⟨v, F, rfl, hp, by show va_P D vwCl (wl ad N F) t.heap; rw [ht]; exact hw.1⟩, hw.2.1.F ht⟩) hw.2.1.2.2 hdg hlk
theorem x_metf {l : Launch} {D : va_G} {cI cB cS : ClassId} {ad : Nat → Nat} {N : Nat} {y : MethodName} {b : ByteArray} {n : Nat} {ret : Option FieldType} {fr lo : Nat} {av : List Value} {F : Nat → va_E} {post : UInt32 → (Nat → va_E) → Prop} (hy : plainName y.cls = true) (hn : (lg_sl av).length ≤ n)
    (h : ∀ (p : Program) (e : Env) (s : State) (m : MethodId) (below : List Frame) (meth : Method) (c : Code), CallFix p m c b n s av.toArray lw_g y.cls → meth.sig.returnType = ret → meth.locks = false → KW D cI cB cS (Af ad N s.heap.size) s → HW D (Af ad N s.heap.size) ad N F s s.heap [] → ∀ ls, lv_has ls n (lv_args 0 av) → W p l e { frames := fr, cells := 0, slots := 0, locals := lo } s m av.toArray below meth c s.heap [] 0 0 (MQ below (va_Qf post (fun F' t => PO D ad N F' t) (Af ad N s.heap.size)) av.toArray s 0 0 (Af ad N s.heap.size)) (F0 m 0 ls [])) : Cf l D cI cB cS ad N y b n ret fr lo av F post :=
  x_metg (Qc := fun sz => va_Qf post (fun F' t => PO D ad N F' t) (Af ad N sz)) hy hn h
theorem hd_X4_sum : yX4_sum.cls = RX4 ∧ yX4_sum.cls ≠ "java/lang/invoke/MethodHandle" ∧ yX4_sum.cls ≠ "java/lang/invoke/VarHandle" ∧ (parseMethodDescriptor yX4_sum.desc).map (fun d => d.parameters.length) = some 1 := by decide +kernel
set_option maxHeartbeats 4000000 in
set_option maxRecDepth 100000 in
theorem k_X7_mean {l : Launch} {D : va_G} {cI cB cS : ClassId} {ad : Nat → Nat} {N : Nat} {F : Nat → va_E} (hI : iN ad N) (q : Nat) (hs : Int32) (g : Nat → Int32) (t : Nat → Nat → Int32) (d : Nat) (z : Nat) (hg : Nat → Nat → Int32) (ht : Nat → Nat → Nat → Int32) (g3 : Nat → Int32) (t3 : Nat → Nat → Int32) (tm1 : Nat → Int32) (pt1 : Nat → Int32) (sm1 : Nat → Int32) (tl1 : Nat → Int32) (g2 : Nat → Int32) (t2 : Nat → Nat → Int32) (tm2 : Nat → Int32) (pt2 : Nat → Int32) (sm2 : Nat → Int32) (tl2 : Nat → Int32) (x : Int32) (nb : Nat) (nc : Nat) (a : Nat) (hq : q + 114 ≤ N) (hd5 : d < 5) (hz4 : z ≤ 4) (hxMa : MaF ad F q hs) (hxF : StF ad cI F (q + 1) g t) (hxCo : CoF ad F (q + 12) (q + 1)) (hxJu : JuF ad F (q + 13) (q + 1)) (hxHi : HiF ad cI cS F (q + 43) d z hg ht) (hxF3 : StF ad cI F (q + 100) g3 t3) (hxS1 : ScF ad cI F (q + 14) (q + 1) tm1 pt1 sm1 tl1) (hxF2 : StF ad cI F (q + 23) g2 t2) (hxS2 : ScF ad cI F (q + 34) (q + 23) tm2 pt2 sm2 tl2) (hnb1 : g 1 = nI nb) (hnb2 : nb < 2 ^ 31) (hnc1 : c_cl g = nI nc) (hnc2 : nc < 2 ^ 31) (hc6 : nc ≤ 6) (ha : a < 100) (hsum : (¬ x < 0 ∧ ¬ g 1 ≤ x) → 0 < nc → tg 4 36 (sc_s3 g t (sc_r2 g t nb tm1 pt1 (sc_ct tl1 nb) nc).2.1 nc sm1 nb) x (nI 0) = nI a) : Cf l D cI cB cS ad N yX7_mean cX7_mean 3 (some .float) 6 137 [.ref (ad q), .int x] F (fun r F' => r = (if (¬ x < 0 ∧ ¬ g 1 ≤ x) ∧ 0 < nc then mnF a nc else FP.fconst0) ∧ ClF ad cI cS F' q hs g t d z hg ht g3 t3 ∧ Fr F F' q (q + 111)) := by
  refine x_metf (by decide +kernel) (Nat.le_of_ble_eq_true rfl) ?_
  intro p e s m below meth c X hr hlk hK hw ls hl
  replace hl : lv_has ls 3 [(0, .ref (ad q)), (1, .int x)] := hl
  have hfr : Fr F F (q) (q + 111) := Fr.rf
  refine lv_aload_n X.1 X.2.1 dX7_mean_0 rfl (lv_at hl 0 rfl) ?_
  refine x_get X hK hw (C := RX7) (T := TX7) (nf := 10) (k := q) (by omega) hxMa rfl inX7 0 (by decide) q218 (fun _ h9 => h9) rfl dX7_mean_1 ?_
  refine x_callVP X hK hw (k := (q + 1)) (As := []) (rest := []) (k_X5_closedRaces hI ((q + 1)) g t (by omega) hxF) (x_cwV yX5_closedRaces cX5_closedRaces 1 (some .int) 0 X q822 q727 q728 q2 q729 hd_X5_closedRaces ⟨Nat.le_of_ble_eq_true rfl, Nat.le_of_ble_eq_true rfl⟩) (by omega) hxF.1 rfl rfl hl.1 rfl (Nat.le_of_ble_eq_true rfl) dX7_mean_4 ⟨Nat.le_of_ble_eq_true rfl, Nat.le_of_ble_eq_true rfl⟩ (fun H locs hw => ?_)
  refine x_top (y := nI nc) hnc1 ?_
  refine lv_istore_n (lv' := [(2, .int (nI nc)), (0, .ref (ad q)), (1, .int x)]) X.1 X.2.1 dX7_mean_7 rfl hl (by decide) rfl (fun ls hl => ?_)
  refine lv_aload_n X.1 X.2.1 dX7_mean_8 rfl (lv_at hl 1 rfl) ?_
  refine x_get X hK hw (C := RX7) (T := TX7) (nf := 10) (k := q) (by omega) hxMa rfl inX7 0 (by decide) q218 (fun _ h9 => h9) rfl dX7_mean_9 ?_
  refine lv_iload_n X.1 X.2.1 dX7_mean_12 rfl (lv_at hl 2 rfl) ?_
  refine x_callVP X hK hw (k := (q + 1)) (As := [.int x]) (rest := []) (k_X5_hasBoat hI ((q + 1)) g t x (by omega) hxF) (x_cwV yX5_hasBoat cX5_hasBoat 2 (some .boolean) 1 X q703 q362 q363 q2 q364 hd_X5_hasBoat ⟨Nat.le_of_ble_eq_true rfl, Nat.le_of_ble_eq_true rfl⟩) (by omega) hxF.1 rfl rfl hl.1 rfl (Nat.le_of_ble_eq_true rfl) dX7_mean_13 ⟨Nat.le_of_ble_eq_true rfl, Nat.le_of_ble_eq_true rfl⟩ (fun H locs hw => ?_)
  refine lv_if_eq (tgt := 23) X.1 X.2.1 dX7_mean_16 (by decide) (fun c1 => ?_) (fun c1 => ?_)
  · replace c1 := bI_z c1
    have hno : ¬ ((¬ x < 0 ∧ ¬ g 1 ≤ x) ∧ 0 < nc) := fun h => c1 h.1
    refine lv_fconst0 X.1 X.2.1 dX7_mean_23 ?_
    exact x_fret X hr hlk hK hw (v := FP.fconst0) (⟨(if_neg hno).symm, ⟨hxMa, hxF, hxCo, hxJu, hxHi, hxF3, ⟨_, _, _, _, hxS1⟩, ⟨_, _, hxF2⟩, ⟨_, _, _, _, hxS2⟩⟩, hfr⟩) dX7_mean_24
  · replace c1 := bI_nz c1
    have hbt : (¬ x < 0 ∧ ¬ g 1 ≤ x) := c1
    refine lv_iload_n X.1 X.2.1 dX7_mean_19 rfl (lv_at hl 0 rfl) ?_
    refine lv_if_gt (tgt := 25) X.1 X.2.1 dX7_mean_20 (by decide) (fun c2 => ?_) (fun c2 => ?_)
    · have hc0 : 0 < nc := by rcases Nat.eq_zero_or_pos nc with q0 | q0; (exact absurd c2 (by rw [q0]; decide)); exact q0
      refine lv_aload_n X.1 X.2.1 dX7_mean_25 rfl (lv_at hl 1 rfl) ?_
      refine x_get X hK hw (C := RX7) (T := TX7) (nf := 10) (k := q) (by omega) hxMa rfl inX7 3 (by decide) q221 (fun _ h9 => h9) rfl dX7_mean_26 ?_
      refine x_callVv X hK hw (k := (q + 14)) (As := []) (rest := []) (k_X4_recount hI ((q + 14)) ((q + 1)) g t tm1 pt1 sm1 tl1 nb nc (by omega) (by omega) hxS1 (by omega) hxF hnb1 hnb2 hnc1 hnc2) (x_cwV yX4_recount cX4_recount 2 none 0 X q759 q760 q761 q7 q762 hd_X4_recount ⟨Nat.le_of_ble_eq_true rfl, Nat.le_of_ble_eq_true rfl⟩) (by omega) hxS1.1 rfl rfl hl.1 rfl (Nat.le_of_ble_eq_true rfl) dX7_mean_29 ⟨Nat.le_of_ble_eq_true rfl, Nat.le_of_ble_eq_true rfl⟩ (fun F3 H locs hp hw => ?_)
      obtain ⟨hS4, hr5⟩ := hp
      have hq6 := (hr5 _ (by omega)).trans hxMa
      have hq7 := hxF.cg hr5 (by omega)
      have hq8 := (hr5 _ (by omega)).trans hxCo
      have hq9 := (hr5 _ (by omega)).trans hxJu
      have hq10 := hxHi.cg hr5 (by omega)
      have hq11 := hxF3.cg hr5 (by omega)
      have hq12 := hxF2.cg hr5 (by omega)
      have hq13 := hxS2.cg hr5 (by omega)
      replace hfr := hfr.tr hr5 (by omega) (by omega)
      refine lv_aload_n X.1 X.2.1 dX7_mean_32 rfl (lv_at hl 1 rfl) ?_
      refine x_get X hK hw (C := RX7) (T := TX7) (nf := 10) (k := q) (by omega) hq6 rfl inX7 3 (by decide) q221 (fun _ h9 => h9) rfl dX7_mean_33 ?_
      refine lv_iload_n X.1 X.2.1 dX7_mean_36 rfl (lv_at hl 2 rfl) ?_
      refine x_callVP X hK hw (k := (q + 14)) (As := [.int x]) (rest := []) (k_X4_sum hI ((q + 14)) ((q + 1)) g t (((sc_r2 g t nb tm1 pt1 (sc_ct tl1 nb) nc).1)) (((sc_r2 g t nb tm1 pt1 (sc_ct tl1 nb) nc).2.1)) ((sc_s3 g t (sc_r2 g t nb tm1 pt1 (sc_ct tl1 nb) nc).2.1 nc sm1 nb)) (((sc_r2 g t nb tm1 pt1 (sc_ct tl1 nb) nc).2.2)) x nb (by omega) (by omega) hS4 (by omega) hq7 hnb1 hnb2) (x_cwV yX4_sum cX4_sum 2 (some .int) 1 X q858 q859 q860 q7 q861 hd_X4_sum ⟨Nat.le_of_ble_eq_true rfl, Nat.le_of_ble_eq_true rfl⟩) (by omega) hS4.1 rfl rfl hl.1 rfl (Nat.le_of_ble_eq_true rfl) dX7_mean_37 ⟨Nat.le_of_ble_eq_true rfl, Nat.le_of_ble_eq_true rfl⟩ (fun H locs hw => ?_)
      refine x_top (y := nI a) (hsum hbt hc0) ?_
      refine lv_i2f X.1 X.2.1 dX7_mean_40 ?_
      refine lv_iload_n X.1 X.2.1 dX7_mean_41 rfl (lv_at hl 0 rfl) ?_
      refine lv_i2f X.1 X.2.1 dX7_mean_42 ?_
      refine lv_fdiv X.1 X.2.1 dX7_mean_43 (mn_ok (by omega) hc0 (by omega)).1 ?_
      exact x_fret X hr hlk hK hw (v := mnF a nc) (⟨(if_pos ⟨hbt, hc0⟩).symm, ⟨hq6, hq7, hq8, hq9, hq10, hq11, ⟨_, _, _, _, hS4⟩, ⟨_, _, hq12⟩, ⟨_, _, _, _, hq13⟩⟩, hfr⟩) dX7_mean_44
    · have hno : ¬ ((¬ x < 0 ∧ ¬ g 1 ≤ x) ∧ 0 < nc) := fun h => c2 (nI_lt h.2 (by omega))
      refine lv_fconst0 X.1 X.2.1 dX7_mean_23 ?_
      exact x_fret X hr hlk hK hw (v := FP.fconst0) (⟨(if_neg hno).symm, ⟨hxMa, hxF, hxCo, hxJu, hxHi, hxF3, ⟨_, _, _, _, hxS1⟩, ⟨_, _, hxF2⟩, ⟨_, _, _, _, hxS2⟩⟩, hfr⟩) dX7_mean_24
