/-! the class' methods over the object: what each answers, and the numbers behind it -/
theorem dz5 {x : Int32} {d : Nat} (h : d < 5) : (if x < 0 then d else hn d) < 5 := by
  split
  · exact h
  · exact hn_lt d
theorem zz4 {x : Int32} {z : Nat} (h : z ≤ 4) : (if x < 0 then z else min (z + 1) 4) ≤ 4 := by
  split
  · exact h
  · omega
theorem Cf.imp {l : Launch} {D : va_G} {cI cB cS : ClassId} {ad : Nat → Nat} {N : Nat} {y : MethodName} {b : ByteArray} {n : Nat} {ret : Option FieldType} {fr lo : Nat} {av : List Value} {F : Nat → va_E} {post post' : UInt32 → (Nat → va_E) → Prop} (h : ∀ r F', post r F' → post' r F') (hC : Cf l D cI cB cS ad N y b n ret fr lo av F post) : Cf l D cI cB cS ad N y b n ret fr lo av F post' := fun sz =>
  MetFree.mono (hC sz) (fun _ _ q => q) (fun _ _ _ _ _ q => q) (fun a st o t _ q => by
    obtain ⟨⟨⟨r, u, e1, e2, e3⟩, e4⟩, e5⟩ := q
    exact ⟨⟨⟨r, u, e1, h r u e2, e3⟩, e4⟩, e5⟩)
theorem w_enter {l : Launch} {D : va_G} {cI cB cS : ClassId} {ad : Nat → Nat} {N : Nat} {F : Nat → va_E} (hI : iN ad N) (hN : 114 ≤ N) {hs : Int32} {A A3 : Nat → Nat} (hO : OB ad cI cB cS F hs A A3) (x : Int32) {r : Int32} {A' : Nat → Nat} (h : ∀ g t, EQ g t (arr A) (A 2) → AR (s_X0_enterBoat g t x) r A') : Ci l D cI cB cS ad N yX7_enter cX7_enter 2 (some .int) 4 125 [.ref (ad 0), .int x] F (fun v F' => v = r ∧ OB ad cI cB cS F' hs A' A3 ∧ Fr F F' 0 111) := by
  obtain ⟨g, t, d, z, hg, ht, g3, t3, n, tx, ⟨c1, c2, c3, c4, c5, c6, ⟨tm1, pt1, sm1, tl1, c7⟩, ⟨g2, t2, c8⟩, tm2, pt2, sm2, tl2, c9⟩, hd5, hz4, hL, hE, hE3⟩ := hO
  refine Ci.imp (fun v F' hp => ?_) (k_X7_enter hI 0 hs g t d z hg ht g3 t3 tm1 pt1 sm1 tl1 g2 t2 tm2 pt2 sm2 tl2 x (by omega) hd5 hz4 c1 c2 c3 c4 c5 c6 c7 c8 c9)
  obtain ⟨e1, hC, hf⟩ := hp
  obtain ⟨a1, a2⟩ := h g t hE
  exact ⟨e1.trans a1, ⟨_, _, _, _, _, _, g3, t3, n, tx, hC, dz5 hd5, zz4 hz4, hL.cg hf (by omega), a2, hE3⟩, hf⟩
theorem w_prepare {l : Launch} {D : va_G} {cI cB cS : ClassId} {ad : Nat → Nat} {N : Nat} {F : Nat → va_E} (hI : iN ad N) (hN : 114 ≤ N) {hs : Int32} {A A3 : Nat → Nat} (hO : OB ad cI cB cS F hs A A3) (h9 : A 1 ≤ 9) (x : Int32) (y : Int32) (w : Int32) {r : Int32} {A' : Nat → Nat} (h : ∀ g t, EQ g t (arr A) (A 2) → AR (s_X0_prepareRace g t x y w (A 1)) r A') : Ci l D cI cB cS ad N yX7_prepare cX7_prepare 4 (some .int) 4 125 [.ref (ad 0), .int x, .int y, .int w] F (fun v F' => v = r ∧ OB ad cI cB cS F' hs A' A3 ∧ Fr F F' 0 111) := by
  obtain ⟨g, t, d, z, hg, ht, g3, t3, n, tx, ⟨c1, c2, c3, c4, c5, c6, ⟨tm1, pt1, sm1, tl1, c7⟩, ⟨g2, t2, c8⟩, tm2, pt2, sm2, tl2, c9⟩, hd5, hz4, hL, hE, hE3⟩ := hO
  refine Ci.imp (fun v F' hp => ?_) (k_X7_prepare hI 0 hs g t d z hg ht g3 t3 tm1 pt1 sm1 tl1 g2 t2 tm2 pt2 sm2 tl2 x y w (A 1) (by omega) hd5 hz4 c1 c2 c3 c4 c5 c6 c7 c8 c9 hE.2.1 (by omega))
  obtain ⟨e1, hC, hf⟩ := hp
  obtain ⟨a1, a2⟩ := h g t hE
  exact ⟨e1.trans a1, ⟨_, _, _, _, _, _, g3, t3, n, tx, hC, dz5 hd5, zz4 hz4, hL.cg hf (by omega), a2, hE3⟩, hf⟩
theorem w_postpone {l : Launch} {D : va_G} {cI cB cS : ClassId} {ad : Nat → Nat} {N : Nat} {F : Nat → va_E} (hI : iN ad N) (hN : 114 ≤ N) {hs : Int32} {A A3 : Nat → Nat} (hO : OB ad cI cB cS F hs A A3) (x : Int32) {r : Int32} {A' : Nat → Nat} (h : ∀ g t, EQ g t (arr A) (A 2) → AR (s_X0_postponeStart g t x) r A') : Ci l D cI cB cS ad N yX7_postpone cX7_postpone 2 (some .int) 4 125 [.ref (ad 0), .int x] F (fun v F' => v = r ∧ OB ad cI cB cS F' hs A' A3 ∧ Fr F F' 0 111) := by
  obtain ⟨g, t, d, z, hg, ht, g3, t3, n, tx, ⟨c1, c2, c3, c4, c5, c6, ⟨tm1, pt1, sm1, tl1, c7⟩, ⟨g2, t2, c8⟩, tm2, pt2, sm2, tl2, c9⟩, hd5, hz4, hL, hE, hE3⟩ := hO
  refine Ci.imp (fun v F' hp => ?_) (k_X7_postpone hI 0 hs g t d z hg ht g3 t3 tm1 pt1 sm1 tl1 g2 t2 tm2 pt2 sm2 tl2 x (by omega) hd5 hz4 c1 c2 c3 c4 c5 c6 c7 c8 c9)
  obtain ⟨e1, hC, hf⟩ := hp
  obtain ⟨a1, a2⟩ := h g t hE
  exact ⟨e1.trans a1, ⟨_, _, _, _, _, _, g3, t3, n, tx, hC, dz5 hd5, zz4 hz4, hL.cg hf (by omega), a2, hE3⟩, hf⟩
theorem w_recall {l : Launch} {D : va_G} {cI cB cS : ClassId} {ad : Nat → Nat} {N : Nat} {F : Nat → va_E} (hI : iN ad N) (hN : 114 ≤ N) {hs : Int32} {A A3 : Nat → Nat} (hO : OB ad cI cB cS F hs A A3) (h9 : A 1 ≤ 9) {r : Int32} {A' : Nat → Nat} (h : ∀ g t, EQ g t (arr A) (A 2) → AR (s_X0_recallBoats g t (A 1)) r A') : Ci l D cI cB cS ad N yX7_recall cX7_recall 1 (some .int) 4 125 [.ref (ad 0)] F (fun v F' => v = r ∧ OB ad cI cB cS F' hs A' A3 ∧ Fr F F' 0 111) := by
  obtain ⟨g, t, d, z, hg, ht, g3, t3, n, tx, ⟨c1, c2, c3, c4, c5, c6, ⟨tm1, pt1, sm1, tl1, c7⟩, ⟨g2, t2, c8⟩, tm2, pt2, sm2, tl2, c9⟩, hd5, hz4, hL, hE, hE3⟩ := hO
  refine Ci.imp (fun v F' hp => ?_) (k_X7_recall hI 0 hs g t d z hg ht g3 t3 tm1 pt1 sm1 tl1 g2 t2 tm2 pt2 sm2 tl2 (A 1) (by omega) hd5 hz4 c1 c2 c3 c4 c5 c6 c7 c8 c9 hE.2.1 (by omega))
  obtain ⟨e1, hC, hf⟩ := hp
  obtain ⟨a1, a2⟩ := h g t hE
  exact ⟨e1.trans a1, ⟨_, _, _, _, _, _, g3, t3, n, tx, hC, dz5 hd5, zz4 hz4, hL.cg hf (by omega), a2, hE3⟩, hf⟩
theorem w_pass {l : Launch} {D : va_G} {cI cB cS : ClassId} {ad : Nat → Nat} {N : Nat} {F : Nat → va_E} (hI : iN ad N) (hN : 114 ≤ N) {hs : Int32} {A A3 : Nat → Nat} (hO : OB ad cI cB cS F hs A A3) (x : Int32) {r : Int32} {A' : Nat → Nat} (h : ∀ g t, EQ g t (arr A) (A 2) → AR (s_X0_passTime g t x) r A') : Ci l D cI cB cS ad N yX7_pass cX7_pass 2 (some .int) 4 125 [.ref (ad 0), .int x] F (fun v F' => v = r ∧ OB ad cI cB cS F' hs A' A3 ∧ Fr F F' 0 111) := by
  obtain ⟨g, t, d, z, hg, ht, g3, t3, n, tx, ⟨c1, c2, c3, c4, c5, c6, ⟨tm1, pt1, sm1, tl1, c7⟩, ⟨g2, t2, c8⟩, tm2, pt2, sm2, tl2, c9⟩, hd5, hz4, hL, hE, hE3⟩ := hO
  refine Ci.imp (fun v F' hp => ?_) (k_X7_pass hI 0 hs g t d z hg ht g3 t3 tm1 pt1 sm1 tl1 g2 t2 tm2 pt2 sm2 tl2 x (by omega) hd5 hz4 c1 c2 c3 c4 c5 c6 c7 c8 c9)
  obtain ⟨e1, hC, hf⟩ := hp
  obtain ⟨a1, a2⟩ := h g t hE
  exact ⟨e1.trans a1, ⟨_, _, _, _, _, _, g3, t3, n, tx, hC, dz5 hd5, zz4 hz4, hL.cg hf (by omega), a2, hE3⟩, hf⟩
theorem w_line {l : Launch} {D : va_G} {cI cB cS : ClassId} {ad : Nat → Nat} {N : Nat} {F : Nat → va_E} (hI : iN ad N) (hN : 114 ≤ N) {hs : Int32} {A A3 : Nat → Nat} (hO : OB ad cI cB cS F hs A A3) (x : Int32) {r : Int32} {A' : Nat → Nat} (h : ∀ g t, EQ g t (arr A) (A 2) → AR (s_X0_crossLine g t x) r A') : Ci l D cI cB cS ad N yX7_line cX7_line 2 (some .int) 5 125 [.ref (ad 0), .int x] F (fun v F' => v = r ∧ OB ad cI cB cS F' hs A' A3 ∧ Fr F F' 0 111) := by
  obtain ⟨g, t, d, z, hg, ht, g3, t3, n, tx, ⟨c1, c2, c3, c4, c5, c6, ⟨tm1, pt1, sm1, tl1, c7⟩, ⟨g2, t2, c8⟩, tm2, pt2, sm2, tl2, c9⟩, hd5, hz4, hL, hE, hE3⟩ := hO
  refine Ci.imp (fun v F' hp => ?_) (k_X7_line hI 0 hs g t d z hg ht g3 t3 tm1 pt1 sm1 tl1 g2 t2 tm2 pt2 sm2 tl2 x (by omega) hd5 hz4 c1 c2 c3 c4 c5 c6 c7 c8 c9)
  obtain ⟨e1, hC, hf⟩ := hp
  obtain ⟨a1, a2⟩ := h g t hE
  exact ⟨e1.trans a1, ⟨_, _, _, _, _, _, g3, t3, n, tx, hC, dz5 hd5, zz4 hz4, hL.cg hf (by omega), a2, hE3⟩, hf⟩
theorem w_buoy {l : Launch} {D : va_G} {cI cB cS : ClassId} {ad : Nat → Nat} {N : Nat} {F : Nat → va_E} (hI : iN ad N) (hN : 114 ≤ N) {hs : Int32} {A A3 : Nat → Nat} (hO : OB ad cI cB cS F hs A A3) (x : Int32) (y : Int32) {r : Int32} {A' : Nat → Nat} (h : ∀ g t, EQ g t (arr A) (A 2) → AR (s_X0_passBuoy g t x y) r A') : Ci l D cI cB cS ad N yX7_buoy cX7_buoy 3 (some .int) 4 125 [.ref (ad 0), .int x, .int y] F (fun v F' => v = r ∧ OB ad cI cB cS F' hs A' A3 ∧ Fr F F' 0 111) := by
  obtain ⟨g, t, d, z, hg, ht, g3, t3, n, tx, ⟨c1, c2, c3, c4, c5, c6, ⟨tm1, pt1, sm1, tl1, c7⟩, ⟨g2, t2, c8⟩, tm2, pt2, sm2, tl2, c9⟩, hd5, hz4, hL, hE, hE3⟩ := hO
  refine Ci.imp (fun v F' hp => ?_) (k_X7_buoy hI 0 hs g t d z hg ht g3 t3 tm1 pt1 sm1 tl1 g2 t2 tm2 pt2 sm2 tl2 x y (by omega) hd5 hz4 c1 c2 c3 c4 c5 c6 c7 c8 c9)
  obtain ⟨e1, hC, hf⟩ := hp
  obtain ⟨a1, a2⟩ := h g t hE
  exact ⟨e1.trans a1, ⟨_, _, _, _, _, _, g3, t3, n, tx, hC, dz5 hd5, zz4 hz4, hL.cg hf (by omega), a2, hE3⟩, hf⟩
theorem w_retire {l : Launch} {D : va_G} {cI cB cS : ClassId} {ad : Nat → Nat} {N : Nat} {F : Nat → va_E} (hI : iN ad N) (hN : 114 ≤ N) {hs : Int32} {A A3 : Nat → Nat} (hO : OB ad cI cB cS F hs A A3) (x : Int32) {r : Int32} {A' : Nat → Nat} (h : ∀ g t, EQ g t (arr A) (A 2) → AR (s_X0_retireBoat g t x) r A') : Ci l D cI cB cS ad N yX7_retire cX7_retire 2 (some .int) 4 125 [.ref (ad 0), .int x] F (fun v F' => v = r ∧ OB ad cI cB cS F' hs A' A3 ∧ Fr F F' 0 111) := by
  obtain ⟨g, t, d, z, hg, ht, g3, t3, n, tx, ⟨c1, c2, c3, c4, c5, c6, ⟨tm1, pt1, sm1, tl1, c7⟩, ⟨g2, t2, c8⟩, tm2, pt2, sm2, tl2, c9⟩, hd5, hz4, hL, hE, hE3⟩ := hO
  refine Ci.imp (fun v F' hp => ?_) (k_X7_retire hI 0 hs g t d z hg ht g3 t3 tm1 pt1 sm1 tl1 g2 t2 tm2 pt2 sm2 tl2 x (by omega) hd5 hz4 c1 c2 c3 c4 c5 c6 c7 c8 c9)
  obtain ⟨e1, hC, hf⟩ := hp
  obtain ⟨a1, a2⟩ := h g t hE
  exact ⟨e1.trans a1, ⟨_, _, _, _, _, _, g3, t3, n, tx, hC, dz5 hd5, zz4 hz4, hL.cg hf (by omega), a2, hE3⟩, hf⟩
theorem w_close {l : Launch} {D : va_G} {cI cB cS : ClassId} {ad : Nat → Nat} {N : Nat} {F : Nat → va_E} (hI : iN ad N) (hN : 114 ≤ N) {hs : Int32} {A A3 : Nat → Nat} (hO : OB ad cI cB cS F hs A A3) (h9 : A 1 ≤ 9) {r : Int32} {A' : Nat → Nat} (h : ∀ g t, EQ g t (arr A) (A 2) → AR (s_X0_closeRace g t (A 1)) r A') : Ci l D cI cB cS ad N yX7_close cX7_close 1 (some .int) 4 125 [.ref (ad 0)] F (fun v F' => v = r ∧ OB ad cI cB cS F' hs A' A3 ∧ Fr F F' 0 111) := by
  obtain ⟨g, t, d, z, hg, ht, g3, t3, n, tx, ⟨c1, c2, c3, c4, c5, c6, ⟨tm1, pt1, sm1, tl1, c7⟩, ⟨g2, t2, c8⟩, tm2, pt2, sm2, tl2, c9⟩, hd5, hz4, hL, hE, hE3⟩ := hO
  refine Ci.imp (fun v F' hp => ?_) (k_X7_close hI 0 hs g t d z hg ht g3 t3 tm1 pt1 sm1 tl1 g2 t2 tm2 pt2 sm2 tl2 (A 1) (by omega) hd5 hz4 c1 c2 c3 c4 c5 c6 c7 c8 c9 hE.2.1 (by omega))
  obtain ⟨e1, hC, hf⟩ := hp
  obtain ⟨a1, a2⟩ := h g t hE
  exact ⟨e1.trans a1, ⟨_, _, _, _, _, _, g3, t3, n, tx, hC, dz5 hd5, zz4 hz4, hL.cg hf (by omega), a2, hE3⟩, hf⟩
theorem w_hail {l : Launch} {D : va_G} {cI cB cS : ClassId} {ad : Nat → Nat} {N : Nat} {F : Nat → va_E} (hI : iN ad N) (hN : 114 ≤ N) {hs : Int32} {A A3 : Nat → Nat} (hO : OB ad cI cB cS F hs A A3) (x : Int32) (y : Int32) {r : Int32} {A' : Nat → Nat} (h : ∀ g t, EQ g t (arr A) (A 2) → AR (s_X2_hailProtest g t x y) r A') : Ci l D cI cB cS ad N yX7_hail cX7_hail 3 (some .int) 4 125 [.ref (ad 0), .int x, .int y] F (fun v F' => v = r ∧ OB ad cI cB cS F' hs A' A3 ∧ Fr F F' 0 111) := by
  obtain ⟨g, t, d, z, hg, ht, g3, t3, n, tx, ⟨c1, c2, c3, c4, c5, c6, ⟨tm1, pt1, sm1, tl1, c7⟩, ⟨g2, t2, c8⟩, tm2, pt2, sm2, tl2, c9⟩, hd5, hz4, hL, hE, hE3⟩ := hO
  refine Ci.imp (fun v F' hp => ?_) (k_X7_hail hI 0 hs g t d z hg ht g3 t3 tm1 pt1 sm1 tl1 g2 t2 tm2 pt2 sm2 tl2 x y (by omega) hd5 hz4 c1 c2 c3 c4 c5 c6 c7 c8 c9)
  obtain ⟨e1, hC, hf⟩ := hp
  obtain ⟨a1, a2⟩ := h g t hE
  exact ⟨e1.trans a1, ⟨_, _, _, _, _, _, g3, t3, n, tx, hC, dz5 hd5, zz4 hz4, hL.cg hf (by omega), a2, hE3⟩, hf⟩
theorem w_file {l : Launch} {D : va_G} {cI cB cS : ClassId} {ad : Nat → Nat} {N : Nat} {F : Nat → va_E} (hI : iN ad N) (hN : 114 ≤ N) {hs : Int32} {A A3 : Nat → Nat} (hO : OB ad cI cB cS F hs A A3) (x : Int32) {r : Int32} {A' : Nat → Nat} (h : ∀ g t, EQ g t (arr A) (A 2) → AR (s_X2_fileProtest g t x) r A') : Ci l D cI cB cS ad N yX7_file cX7_file 2 (some .int) 4 125 [.ref (ad 0), .int x] F (fun v F' => v = r ∧ OB ad cI cB cS F' hs A' A3 ∧ Fr F F' 0 111) := by
  obtain ⟨g, t, d, z, hg, ht, g3, t3, n, tx, ⟨c1, c2, c3, c4, c5, c6, ⟨tm1, pt1, sm1, tl1, c7⟩, ⟨g2, t2, c8⟩, tm2, pt2, sm2, tl2, c9⟩, hd5, hz4, hL, hE, hE3⟩ := hO
  refine Ci.imp (fun v F' hp => ?_) (k_X7_file hI 0 hs g t d z hg ht g3 t3 tm1 pt1 sm1 tl1 g2 t2 tm2 pt2 sm2 tl2 x (by omega) hd5 hz4 c1 c2 c3 c4 c5 c6 c7 c8 c9)
  obtain ⟨e1, hC, hf⟩ := hp
  obtain ⟨a1, a2⟩ := h g t hE
  exact ⟨e1.trans a1, ⟨_, _, _, _, _, _, g3, t3, n, tx, hC, dz5 hd5, zz4 hz4, hL.cg hf (by omega), a2, hE3⟩, hf⟩
theorem w_accept {l : Launch} {D : va_G} {cI cB cS : ClassId} {ad : Nat → Nat} {N : Nat} {F : Nat → va_E} (hI : iN ad N) (hN : 114 ≤ N) {hs : Int32} {A A3 : Nat → Nat} (hO : OB ad cI cB cS F hs A A3) (x : Int32) {r : Int32} {A' : Nat → Nat} (h : ∀ g t, EQ g t (arr A) (A 2) → AR (s_X2_acceptProtest g t x) r A') : Ci l D cI cB cS ad N yX7_accept cX7_accept 2 (some .int) 4 125 [.ref (ad 0), .int x] F (fun v F' => v = r ∧ OB ad cI cB cS F' hs A' A3 ∧ Fr F F' 0 111) := by
  obtain ⟨g, t, d, z, hg, ht, g3, t3, n, tx, ⟨c1, c2, c3, c4, c5, c6, ⟨tm1, pt1, sm1, tl1, c7⟩, ⟨g2, t2, c8⟩, tm2, pt2, sm2, tl2, c9⟩, hd5, hz4, hL, hE, hE3⟩ := hO
  refine Ci.imp (fun v F' hp => ?_) (k_X7_accept hI 0 hs g t d z hg ht g3 t3 tm1 pt1 sm1 tl1 g2 t2 tm2 pt2 sm2 tl2 x (by omega) hd5 hz4 c1 c2 c3 c4 c5 c6 c7 c8 c9)
  obtain ⟨e1, hC, hf⟩ := hp
  obtain ⟨a1, a2⟩ := h g t hE
  exact ⟨e1.trans a1, ⟨_, _, _, _, _, _, g3, t3, n, tx, hC, dz5 hd5, zz4 hz4, hL.cg hf (by omega), a2, hE3⟩, hf⟩
theorem w_decide {l : Launch} {D : va_G} {cI cB cS : ClassId} {ad : Nat → Nat} {N : Nat} {F : Nat → va_E} (hI : iN ad N) (hN : 114 ≤ N) {hs : Int32} {A A3 : Nat → Nat} (hO : OB ad cI cB cS F hs A A3) (h9 : A 1 ≤ 9) (x : Int32) (y : Int32) {r : Int32} {A' : Nat → Nat} (h : ∀ g t, EQ g t (arr A) (A 2) → AR (s_X2_decideProtest g t x y (A 1)) r A') : Ci l D cI cB cS ad N yX7_decide cX7_decide 3 (some .int) 4 125 [.ref (ad 0), .int x, .int y] F (fun v F' => v = r ∧ OB ad cI cB cS F' hs A' A3 ∧ Fr F F' 0 111) := by
  obtain ⟨g, t, d, z, hg, ht, g3, t3, n, tx, ⟨c1, c2, c3, c4, c5, c6, ⟨tm1, pt1, sm1, tl1, c7⟩, ⟨g2, t2, c8⟩, tm2, pt2, sm2, tl2, c9⟩, hd5, hz4, hL, hE, hE3⟩ := hO
  refine Ci.imp (fun v F' hp => ?_) (k_X7_decide hI 0 hs g t d z hg ht g3 t3 tm1 pt1 sm1 tl1 g2 t2 tm2 pt2 sm2 tl2 x y (A 1) (by omega) hd5 hz4 c1 c2 c3 c4 c5 c6 c7 c8 c9 hE.2.1 (by omega))
  obtain ⟨e1, hC, hf⟩ := hp
  obtain ⟨a1, a2⟩ := h g t hE
  exact ⟨e1.trans a1, ⟨_, _, _, _, _, _, g3, t3, n, tx, hC, dz5 hd5, zz4 hz4, hL.cg hf (by omega), a2, hE3⟩, hf⟩
theorem w_set {l : Launch} {D : va_G} {cI cB cS : ClassId} {ad : Nat → Nat} {N : Nat} {F : Nat → va_E} (hI : iN ad N) (hN : 114 ≤ N) {hs : Int32} {A A3 : Nat → Nat} (hO : OB ad cI cB cS F hs A A3) (x : Int32) (y : Int32) {r : Int32} {A' : Nat → Nat} (h : ∀ g t, EQ g t (arr A) (A 2) → AR (s_X0_changeSetting g t x y) r A') : Ci l D cI cB cS ad N yX7_set cX7_set 3 (some .int) 4 125 [.ref (ad 0), .int x, .int y] F (fun v F' => v = r ∧ OB ad cI cB cS F' hs A' A3 ∧ Fr F F' 0 111) := by
  obtain ⟨g, t, d, z, hg, ht, g3, t3, n, tx, ⟨c1, c2, c3, c4, c5, c6, ⟨tm1, pt1, sm1, tl1, c7⟩, ⟨g2, t2, c8⟩, tm2, pt2, sm2, tl2, c9⟩, hd5, hz4, hL, hE, hE3⟩ := hO
  refine Ci.imp (fun v F' hp => ?_) (k_X7_set hI 0 hs g t d z hg ht g3 t3 tm1 pt1 sm1 tl1 g2 t2 tm2 pt2 sm2 tl2 x y (by omega) hd5 hz4 c1 c2 c3 c4 c5 c6 c7 c8 c9)
  obtain ⟨e1, hC, hf⟩ := hp
  obtain ⟨a1, a2⟩ := h g t hE
  exact ⟨e1.trans a1, ⟨_, _, _, _, _, _, g3, t3, n, tx, hC, dz5 hd5, zz4 hz4, hL.cg hf (by omega), a2, hE3⟩, hf⟩
theorem w_result {l : Launch} {D : va_G} {cI cB cS : ClassId} {ad : Nat → Nat} {N : Nat} {F : Nat → va_E} (hI : iN ad N) (hN : 114 ≤ N) {hs : Int32} {A A3 : Nat → Nat} (h9 : A 1 ≤ 9) (hO : OB ad cI cB cS F hs A A3) (x : Int32) (y : Int32) (w : Int32) {r : Int32} (h : ∀ g t tm, EQ g t (arr A) (A 2) → s_X7_result g t tm x y w (A 1) = r) : Ci l D cI cB cS ad N yX7_result cX7_result 4 (some .int) 6 137 [.ref (ad 0), .int x, .int y, .int w] F (fun v F' => v = r ∧ OB ad cI cB cS F' hs A A3 ∧ Fr F F' 0 111) := by
  obtain ⟨g, t, d, z, hg, ht, g3, t3, n, tx, ⟨c1, c2, c3, c4, c5, c6, ⟨tm1, pt1, sm1, tl1, c7⟩, ⟨g2, t2, c8⟩, tm2, pt2, sm2, tl2, c9⟩, hd5, hz4, hL, hE, hE3⟩ := hO
  refine Ci.imp (fun v F' hp => ?_) (k_X7_result hI 0 hs g t d z hg ht g3 t3 tm1 pt1 sm1 tl1 g2 t2 tm2 pt2 sm2 tl2 x y w (A 1) (by omega) hd5 hz4 c1 c2 c3 c4 c5 c6 c7 c8 c9 hE.2.1 (by omega))
  obtain ⟨e1, hC, hf⟩ := hp
  exact ⟨e1.trans (h g t tm1 hE), ⟨g, t, d, z, hg, ht, g3, t3, n, tx, hC, hd5, hz4, hL.cg hf (by omega), hE, hE3⟩, hf⟩
theorem w_boat {l : Launch} {D : va_G} {cI cB cS : ClassId} {ad : Nat → Nat} {N : Nat} {F : Nat → va_E} (hI : iN ad N) (hN : 114 ≤ N) {hs : Int32} {A A3 : Nat → Nat} {c : Nat} (hJ : HJ c A) (hO : OB ad cI cB cS F hs A A3) (x : Int32) (w : Int32) {r : Int32} (h : ∀ g t tm pt sm tl, EQ g t (arr A) (A 2) → s_X7_boat g t tm pt sm tl x w (A 1) (ncl A) = r) : Ci l D cI cB cS ad N yX7_boat cX7_boat 3 (some .int) 6 137 [.ref (ad 0), .int x, .int w] F (fun v F' => v = r ∧ OB ad cI cB cS F' hs A A3 ∧ Fr F F' 0 111) := by
  obtain ⟨g, t, d, z, hg, ht, g3, t3, n, tx, ⟨c1, c2, c3, c4, c5, c6, ⟨tm1, pt1, sm1, tl1, c7⟩, ⟨g2, t2, c8⟩, tm2, pt2, sm2, tl2, c9⟩, hd5, hz4, hL, hE, hE3⟩ := hO
  refine Ci.imp (fun v F' hp => ?_) (k_X7_boat hI 0 hs g t d z hg ht g3 t3 tm1 pt1 sm1 tl1 g2 t2 tm2 pt2 sm2 tl2 x w (A 1) (ncl A) (by omega) hd5 hz4 c1 c2 c3 c4 c5 c6 c7 c8 c9 hE.2.1 (by have := hJ.1.1; omega) (q_cl hJ hE) (by have := n6 hJ; omega))
  obtain ⟨e1, hC, hf⟩ := hp
  exact ⟨e1.trans (h g t tm1 pt1 sm1 tl1 hE), ⟨g, t, d, z, hg, ht, g3, t3, n, tx, hC, hd5, hz4, hL.cg hf (by omega), hE, hE3⟩, hf⟩
theorem w_ranked {l : Launch} {D : va_G} {cI cB cS : ClassId} {ad : Nat → Nat} {N : Nat} {F : Nat → va_E} (hI : iN ad N) (hN : 114 ≤ N) {hs : Int32} {A A3 : Nat → Nat} {c : Nat} (hJ : HJ c A) (hO : OB ad cI cB cS F hs A A3) (x : Int32) {r : Int32} (h : ∀ g t tm pt sm tl, EQ g t (arr A) (A 2) → (if nI 1 ≤ x then c_rkd (sc_s3 g t (sc_r2 g t (A 1) tm pt (sc_ct tl (A 1)) (ncl A)).2.1 (ncl A) sm (A 1)) (sc_r2 g t (A 1) tm pt (sc_ct tl (A 1)) (ncl A)).2.2 x (A 1) (A 1) 0 else (-2)) = r) : Ci l D cI cB cS ad N yX7_ranked cX7_ranked 3 (some .int) 6 137 [.ref (ad 0), .int x] F (fun v F' => v = r ∧ OB ad cI cB cS F' hs A A3 ∧ Fr F F' 0 111) := by
  obtain ⟨g, t, d, z, hg, ht, g3, t3, n, tx, ⟨c1, c2, c3, c4, c5, c6, ⟨tm1, pt1, sm1, tl1, c7⟩, ⟨g2, t2, c8⟩, tm2, pt2, sm2, tl2, c9⟩, hd5, hz4, hL, hE, hE3⟩ := hO
  refine Ci.imp (fun v F' hp => ?_) (k_X7_ranked hI 0 hs g t d z hg ht g3 t3 tm1 pt1 sm1 tl1 g2 t2 tm2 pt2 sm2 tl2 x (A 1) (ncl A) (by omega) hd5 hz4 c1 c2 c3 c4 c5 c6 c7 c8 c9 hE.2.1 (by have := hJ.1.1; omega) (q_cl hJ hE) (by have := n6 hJ; omega))
  obtain ⟨e1, hC, hf⟩ := hp
  exact ⟨e1.trans (h g t tm1 pt1 sm1 tl1 hE), ⟨g, t, d, z, hg, ht, g3, t3, n, tx, hC, hd5, hz4, hL.cg hf (by omega), hE, hE3⟩, hf⟩
theorem w_race {l : Launch} {D : va_G} {cI cB cS : ClassId} {ad : Nat → Nat} {N : Nat} {F : Nat → va_E} (hI : iN ad N) (hN : 114 ≤ N) {hs : Int32} {A A3 : Nat → Nat} (h9 : A 1 ≤ 9) (hO : OB ad cI cB cS F hs A A3) (x : Int32) (w : Int32) {r : Int32} (h : ∀ g t tm, EQ g t (arr A) (A 2) → s_X7_race g t tm x w (A 1) = r) : Ci l D cI cB cS ad N yX7_race cX7_race 3 (some .int) 5 115 [.ref (ad 0), .int x, .int w] F (fun v F' => v = r ∧ OB ad cI cB cS F' hs A A3 ∧ Fr F F' 0 111) := by
  obtain ⟨g, t, d, z, hg, ht, g3, t3, n, tx, ⟨c1, c2, c3, c4, c5, c6, ⟨tm1, pt1, sm1, tl1, c7⟩, ⟨g2, t2, c8⟩, tm2, pt2, sm2, tl2, c9⟩, hd5, hz4, hL, hE, hE3⟩ := hO
  refine Ci.imp (fun v F' hp => ?_) (k_X7_race hI 0 hs g t d z hg ht g3 t3 tm1 pt1 sm1 tl1 g2 t2 tm2 pt2 sm2 tl2 x w (A 1) (by omega) hd5 hz4 c1 c2 c3 c4 c5 c6 c7 c8 c9 hE.2.1 (by omega))
  obtain ⟨e1, hC, hf⟩ := hp
  exact ⟨e1.trans (h g t tm1 hE), ⟨g, t, d, z, hg, ht, g3, t3, n, tx, hC, hd5, hz4, hL.cg hf (by omega), hE, hE3⟩, hf⟩
theorem w_protest {l : Launch} {D : va_G} {cI cB cS : ClassId} {ad : Nat → Nat} {N : Nat} {F : Nat → va_E} (hI : iN ad N) (hN : 114 ≤ N) {hs : Int32} {A A3 : Nat → Nat} (hO : OB ad cI cB cS F hs A A3) (x : Int32) (w : Int32) {r : Int32} (h : ∀ g t, EQ g t (arr A) (A 2) → s_X7_protest g t x w = r) : Ci l D cI cB cS ad N yX7_protest cX7_protest 3 (some .int) 1 23 [.ref (ad 0), .int x, .int w] F (fun v F' => v = r ∧ OB ad cI cB cS F' hs A A3 ∧ Fr F F' 0 111) := by
  obtain ⟨g, t, d, z, hg, ht, g3, t3, n, tx, ⟨c1, c2, c3, c4, c5, c6, ⟨tm1, pt1, sm1, tl1, c7⟩, ⟨g2, t2, c8⟩, tm2, pt2, sm2, tl2, c9⟩, hd5, hz4, hL, hE, hE3⟩ := hO
  refine Ci.imp (fun v F' hp => ?_) (k_X7_protest hI 0 hs g t d z hg ht g3 t3 tm1 pt1 sm1 tl1 g2 t2 tm2 pt2 sm2 tl2 x w (by omega) hd5 hz4 c1 c2 c3 c4 c5 c6 c7 c8 c9)
  obtain ⟨e1, hC, hf⟩ := hp
  exact ⟨e1.trans (h g t hE), ⟨g, t, d, z, hg, ht, g3, t3, n, tx, hC, hd5, hz4, hL.cg hf (by omega), hE, hE3⟩, hf⟩
theorem w_placeNow {l : Launch} {D : va_G} {cI cB cS : ClassId} {ad : Nat → Nat} {N : Nat} {F : Nat → va_E} (hI : iN ad N) (hN : 114 ≤ N) {hs : Int32} {A A3 : Nat → Nat} (h9 : A 1 ≤ 9) (hO : OB ad cI cB cS F hs A A3) (x : Int32) {r : Int32} (h : ∀ g t tm, EQ g t (arr A) (A 2) → s_X7_placeNow g t tm x (A 1) = r) : Ci l D cI cB cS ad N yX7_placeNow cX7_placeNow 2 (some .int) 5 115 [.ref (ad 0), .int x] F (fun v F' => v = r ∧ OB ad cI cB cS F' hs A A3 ∧ Fr F F' 0 111) := by
  obtain ⟨g, t, d, z, hg, ht, g3, t3, n, tx, ⟨c1, c2, c3, c4, c5, c6, ⟨tm1, pt1, sm1, tl1, c7⟩, ⟨g2, t2, c8⟩, tm2, pt2, sm2, tl2, c9⟩, hd5, hz4, hL, hE, hE3⟩ := hO
  refine Ci.imp (fun v F' hp => ?_) (k_X7_placeNow hI 0 hs g t d z hg ht g3 t3 tm1 pt1 sm1 tl1 g2 t2 tm2 pt2 sm2 tl2 x (A 1) (by omega) hd5 hz4 c1 c2 c3 c4 c5 c6 c7 c8 c9 hE.2.1 (by omega))
  obtain ⟨e1, hC, hf⟩ := hp
  exact ⟨e1.trans (h g t tm1 hE), ⟨g, t, d, z, hg, ht, g3, t3, n, tx, hC, hd5, hz4, hL.cg hf (by omega), hE, hE3⟩, hf⟩
theorem w_secondsLeft {l : Launch} {D : va_G} {cI cB cS : ClassId} {ad : Nat → Nat} {N : Nat} {F : Nat → va_E} (hI : iN ad N) (hN : 114 ≤ N) {hs : Int32} {A A3 : Nat → Nat} (h9 : A 1 ≤ 9) (hO : OB ad cI cB cS F hs A A3) (x : Int32) {r : Int32} (h : ∀ g t tm, EQ g t (arr A) (A 2) → s_X7_secondsLeft g t tm x (A 1) = r) : Ci l D cI cB cS ad N yX7_secondsLeft cX7_secondsLeft 2 (some .int) 6 141 [.ref (ad 0), .int x] F (fun v F' => v = r ∧ OB ad cI cB cS F' hs A A3 ∧ Fr F F' 0 111) := by
  obtain ⟨g, t, d, z, hg, ht, g3, t3, n, tx, ⟨c1, c2, c3, c4, c5, c6, ⟨tm1, pt1, sm1, tl1, c7⟩, ⟨g2, t2, c8⟩, tm2, pt2, sm2, tl2, c9⟩, hd5, hz4, hL, hE, hE3⟩ := hO
  refine Ci.imp (fun v F' hp => ?_) (k_X7_secondsLeft hI 0 hs g t d z hg ht g3 t3 tm1 pt1 sm1 tl1 g2 t2 tm2 pt2 sm2 tl2 x (A 1) (by omega) hd5 hz4 c1 c2 c3 c4 c5 c6 c7 c8 c9 hE.2.1 (by omega))
  obtain ⟨e1, hC, hf⟩ := hp
  exact ⟨e1.trans (h g t tm1 hE), ⟨g, t, d, z, hg, ht, g3, t3, n, tx, hC, hd5, hz4, hL.cg hf (by omega), hE, hE3⟩, hf⟩
theorem w_rankIfDisqualified {l : Launch} {D : va_G} {cI cB cS : ClassId} {ad : Nat → Nat} {N : Nat} {F : Nat → va_E} (hI : iN ad N) (hN : 114 ≤ N) {hs : Int32} {A A3 : Nat → Nat} {c : Nat} (hJ : HJ c A) (hO : OB ad cI cB cS F hs A A3) (x : Int32) (y : Int32) {r : Int32} (h : ∀ g t tm pt sm tl, EQ g t (arr A) (A 2) → s_X7_rankIfDisqualified g t tm pt sm tl x y (A 1) (ncl A) = r) : Ci l D cI cB cS ad N yX7_rankIfDisqualified cX7_rankIfDisqualified 3 (some .int) 6 137 [.ref (ad 0), .int x, .int y] F (fun v F' => v = r ∧ OB ad cI cB cS F' hs A A3 ∧ Fr F F' 0 111) := by
  obtain ⟨g, t, d, z, hg, ht, g3, t3, n, tx, ⟨c1, c2, c3, c4, c5, c6, ⟨tm1, pt1, sm1, tl1, c7⟩, ⟨g2, t2, c8⟩, tm2, pt2, sm2, tl2, c9⟩, hd5, hz4, hL, hE, hE3⟩ := hO
  refine Ci.imp (fun v F' hp => ?_) (k_X7_rankIfDisqualified hI 0 hs g t d z hg ht g3 t3 tm1 pt1 sm1 tl1 g2 t2 tm2 pt2 sm2 tl2 x y (A 1) (ncl A) (by omega) hd5 hz4 c1 c2 c3 c4 c5 c6 c7 c8 c9 hE.2.1 (by have := hJ.1.1; omega) (q_cl hJ hE) (by have := n6 hJ; omega))
  obtain ⟨e1, hC, hf⟩ := hp
  exact ⟨e1.trans (h g t tm2 pt2 sm2 tl2 hE), ⟨g, t, d, z, hg, ht, g3, t3, n, tx, hC, hd5, hz4, hL.cg hf (by omega), hE, hE3⟩, hf⟩
theorem w_count {l : Launch} {D : va_G} {cI cB cS : ClassId} {ad : Nat → Nat} {N : Nat} {F : Nat → va_E} (hI : iN ad N) (hN : 114 ≤ N) {hs : Int32} {A A3 : Nat → Nat} (hO : OB ad cI cB cS F hs A A3) (w : Int32) {r : Int32} (h : ∀ g t z n, EQ g t (arr A) (A 2) → s_X7_count g t z n w = r) : Ci l D cI cB cS ad N yX7_count cX7_count 2 (some .int) 3 60 [.ref (ad 0), .int w] F (fun v F' => v = r ∧ OB ad cI cB cS F' hs A A3 ∧ Fr F F' 0 111) := by
  have hO2 := hO
  obtain ⟨g, t, d, z, hg, ht, g3, t3, n, tx, ⟨c1, c2, c3, c4, c5, c6, ⟨tm1, pt1, sm1, tl1, c7⟩, ⟨g2, t2, c8⟩, tm2, pt2, sm2, tl2, c9⟩, hd5, hz4, hL, hE, hE3⟩ := hO
  obtain ⟨hLo, cap, ml, f, hS, hnc, hcap, htx, hb⟩ := hL
  refine Ci.imp (fun v F' hp => ?_) (k_X7_count hI 0 hs g t d z hg ht g3 t3 tm1 pt1 sm1 tl1 g2 t2 tm2 pt2 sm2 tl2 cap n ml f tx w (by omega) hd5 hz4 c1 c2 c3 c4 c5 c6 c7 c8 c9 (by omega) hnc hLo hS htx)
  obtain ⟨e1, e2⟩ := hp
  rw [e2]
  exact ⟨e1.trans (h g t z n hE), hO2, Fr.rf⟩
theorem w_mean {l : Launch} {D : va_G} {cI cB cS : ClassId} {ad : Nat → Nat} {N : Nat} {F : Nat → va_E} (hI : iN ad N) (hN : 114 ≤ N) {hs : Int32} {A A3 : Nat → Nat} {c : Nat} (hJ : HJ c A) (hc : c ≤ 512) (hk : A 0 ≤ 999999) (hO : OB ad cI cB cS F hs A A3) {b : Nat} (hb : b < A 1) : Cf l D cI cB cS ad N yX7_mean cX7_mean 3 (some .float) 6 137 [.ref (ad 0), .int (nI b)] F (fun v F' => v = (if ncl A = 0 then FP.fconst0 else mnF (smN A b (ncl A)) (ncl A)) ∧ OB ad cI cB cS F' hs A A3 ∧ Fr F F' 0 111) := by
  obtain ⟨g, t, d, z, hg, ht, g3, t3, n, tx, ⟨c1, c2, c3, c4, c5, c6, ⟨tm1, pt1, sm1, tl1, c7⟩, ⟨g2, t2, c8⟩, tm2, pt2, sm2, tl2, c9⟩, hd5, hz4, hL, hE, hE3⟩ := hO
  have h9 := hJ.1.1
  have n6' := n6 hJ
  have hs2 := (sum_n hJ hc hk hb (ncl A) ncl_le).2
  refine Cf.imp (fun v F' hp => ?_) (k_X7_mean hI 0 hs g t d z hg ht g3 t3 tm1 pt1 sm1 tl1 g2 t2 tm2 pt2 sm2 tl2 (nI b) (A 1) (ncl A) (smN A b (ncl A)) (by omega) hd5 hz4 c1 c2 c3 c4 c5 c6 c7 c8 c9 hE.2.1 (by omega) (q_cl hJ hE) (by omega) n6' (by omega) (fun _ _ => a_mean_sum hJ hc hk hE hb tm1 pt1 sm1 tl1))
  obtain ⟨e1, hC, hf⟩ := hp
  refine ⟨e1.trans ?_, ⟨g, t, d, z, hg, ht, g3, t3, n, tx, hC, hd5, hz4, hL.cg hf (by omega), hE, hE3⟩, hf⟩
  by_cases q : ncl A = 0
  · rw [if_pos q, if_neg (fun z => by have := z.2; omega)]
  · rw [if_neg q, if_pos ⟨q_in hE h9 hb, by omega⟩]
theorem w_save {l : Launch} {D : va_G} {cI cB cS : ClassId} {ad : Nat → Nat} {N : Nat} {F : Nat → va_E} (hI : iN ad N) (hN : 114 ≤ N) {hs : Int32} {A A3 : Nat → Nat} (hO : OB ad cI cB cS F hs A A3) : Ci l D cI cB cS ad N yX7_save cX7_save 1 (some .int) 3 103 [.ref (ad 0)] F (fun v F' => v = nI (A 0) ∧ OB ad cI cB cS F' (nI 1) A A ∧ Fr F F' 0 111) := by
  obtain ⟨g, t, d, z, hg, ht, g3, t3, n, tx, ⟨c1, c2, c3, c4, c5, c6, ⟨tm1, pt1, sm1, tl1, c7⟩, ⟨g2, t2, c8⟩, tm2, pt2, sm2, tl2, c9⟩, hd5, hz4, hL, hE, hE3⟩ := hO
  refine Ci.imp (fun v F' hp => ?_) (k_X7_save hI 0 hs g t d z hg ht g3 t3 tm1 pt1 sm1 tl1 g2 t2 tm2 pt2 sm2 tl2 (by omega) hd5 hz4 c1 c2 c3 c4 c5 c6 c7 c8 c9)
  obtain ⟨e1, hC, hf⟩ := hp
  exact ⟨e1.trans hE.1, ⟨g, t, d, z, hg, ht, g, t, n, tx, hC, hd5, hz4, hL.cg hf (by omega), hE, hE⟩, hf⟩
theorem w_restore {l : Launch} {D : va_G} {cI cB cS : ClassId} {ad : Nat → Nat} {N : Nat} {F : Nat → va_E} (hI : iN ad N) (hN : 114 ≤ N) {A A3 : Nat → Nat} (hO : OB ad cI cB cS F (nI 1) A A3) : Ci l D cI cB cS ad N yX7_restore cX7_restore 1 (some .int) 4 125 [.ref (ad 0)] F (fun v F' => v = nI (A3 0) ∧ OB ad cI cB cS F' (nI 1) A3 A3 ∧ Fr F F' 0 111) := by
  obtain ⟨g, t, d, z, hg, ht, g3, t3, n, tx, ⟨c1, c2, c3, c4, c5, c6, ⟨tm1, pt1, sm1, tl1, c7⟩, ⟨g2, t2, c8⟩, tm2, pt2, sm2, tl2, c9⟩, hd5, hz4, hL, hE, hE3⟩ := hO
  refine Ci.imp (fun v F' hp => ?_) (k_X7_restore hI 0 (nI 1) g t d z hg ht g3 t3 tm1 pt1 sm1 tl1 g2 t2 tm2 pt2 sm2 tl2 (by omega) hd5 hz4 c1 c2 c3 c4 c5 c6 c7 c8 c9)
  obtain ⟨e1, hC, hf⟩ := hp
  have n0 : ¬ (nI 1 : Int32) = 0 := by decide
  rw [if_neg n0] at e1
  rw [if_neg n0, if_neg n0, if_neg n0, if_neg n0, if_neg n0, if_neg n0] at hC
  exact ⟨e1.trans hE3.1, ⟨g3, t3, _, _, _, _, g3, t3, n, tx, hC, dz5 hd5, zz4 hz4, hL.cg hf (by omega), hE3, hE3⟩, hf⟩
