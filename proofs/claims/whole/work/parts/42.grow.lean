/-! a call that may make one row of bytes in the place of another: the world's addresses are others behind it -/
abbrev gR (ad : Nat → Nat) (N sz : Nat) (u : (Nat → Nat) × (Nat → va_E)) : Prop := iN u.1 N ∧ ∀ k, k < N → Af ad N sz (u.1 k)
def Cgv (l : Launch) (D : va_G) (cI cB cS : ClassId) (ad : Nat → Nat) (N : Nat) (y : MethodName) (b : ByteArray) (n : Nat) (fr lo : Nat) (av : List Value) (F : Nat → va_E) (post : (Nat → Nat) → (Nat → va_E) → Prop) : Prop :=
  ∀ sz, Met l y (Cond.code y b n none :: lw_g) { frames := fr, cells := 1, slots := 162, locals := lo } (va_Pc av (fun U => U.heap.size = sz ∧ PW D cI cB cS ad N F U)) (va_Qv (fun u => post u.1 u.2 ∧ gR ad N sz u) (fun u t => PO D u.1 N u.2 t) (Af ad N sz)) 1 162 (Af ad N sz)
def Cgi (l : Launch) (D : va_G) (cI cB cS : ClassId) (ad : Nat → Nat) (N : Nat) (y : MethodName) (b : ByteArray) (n : Nat) (fr lo : Nat) (av : List Value) (F : Nat → va_E) (post : Int32 → (Nat → Nat) → (Nat → va_E) → Prop) : Prop :=
  ∀ sz, Met l y (Cond.code y b n (some .int) :: lw_g) { frames := fr, cells := 1, slots := 162, locals := lo } (va_Pc av (fun U => U.heap.size = sz ∧ PW D cI cB cS ad N F U)) (va_Qi (fun r u => post r u.1 u.2 ∧ gR ad N sz u) (fun u t => PO D u.1 N u.2 t) (Af ad N sz)) 1 162 (Af ad N sz)
def Cgr (l : Launch) (D : va_G) (cI cB cS : ClassId) (ad : Nat → Nat) (N : Nat) (y : MethodName) (b : ByteArray) (n : Nat) (rt : FieldType) (fr lo : Nat) (av : List Value) (F : Nat → va_E) (post : (Nat → Nat) → (Nat → va_E) → Prop) : Prop :=
  ∀ sz, Met l y (Cond.code y b n (some rt) :: lw_g) { frames := fr, cells := 1, slots := 162, locals := lo } (va_Pc av (fun U => U.heap.size = sz ∧ PW D cI cB cS ad N F U)) (va_Qr (fun u => post u.1 u.2 ∧ gR ad N sz u) (fun u _ t => PO D u.1 N u.2 t) (Af ad N sz)) 1 162 (Af ad N sz)
/-- a new row of bytes, behind the world's cells -/
def Ccp (l : Launch) (D : va_G) (cI cB cS : ClassId) (ad : Nat → Nat) (N : Nat) (y : MethodName) (b : ByteArray) (n : Nat) (rt : FieldType) (fr lo : Nat) (av : List Value) (F : Nat → va_E) (mn : Nat) (f : Nat → Int32) : Prop :=
  ∀ sz, Met l y (Cond.code y b n (some rt) :: lw_g) { frames := fr, cells := 1, slots := mn, locals := lo } (va_Pc av (fun U => U.heap.size = sz ∧ PW D cI cB cS ad N F U)) (va_Qr (fun (_ : Unit) => True) (fun _ a t => sz ≤ a ∧ (∀ k, k < N → ad k ≠ a) ∧ va_P D vwCl (wl (va_up ad N a) (N + 1) (va_up F N (.inl (cB, mn, .inl f)))) t.heap) (Af ad N sz)) 1 mn (Af ad N sz)
theorem wl_pushA {ad : Nat → Nat} {N : Nat} {F : Nat → va_E} {e : va_E} {a : Nat} : wl (va_up ad N a) (N + 1) (va_up F N e) = wl ad N F ++ [(a, e)] := by
  unfold wl
  rw [List.range_succ, List.map_append]
  congr 1
  · apply List.map_congr_left
    intro k hk
    have : k ≠ N := by have := List.mem_range.mp hk; omega
    simp [va_up, this]
  · simp [va_up]
theorem up_o {α : Type} {f : Nat → α} {k j : Nat} {e : α} (h : j ≠ k) : va_up f k e j = f j := by simp [va_up, h]
theorem up_a {α : Type} {f : Nat → α} {k : Nat} {e : α} : va_up f k e k = e := by simp [va_up]
theorem iN_push {ad : Nat → Nat} {N a : Nat} (h : iN ad N) (ha : ∀ k, k < N → ad k ≠ a) : iN (va_up ad N a) (N + 1) := fun i j hi hj e => by
  rcases Nat.lt_or_ge i N with q | q
  · rw [up_o (by omega)] at e
    rcases Nat.lt_or_ge j N with q2 | q2
    · rw [up_o (by omega)] at e; exact h i j q q2 e
    · rw [show j = N by omega, up_a] at e; exact absurd e (ha i q)
  · rw [show i = N by omega, up_a] at e
    rcases Nat.lt_or_ge j N with q2 | q2
    · rw [up_o (by omega)] at e; exact absurd e.symm (ha j q2)
    · omega
/-- the last cell takes the place j of a cell that is not wanted any more -/
theorem va_P_swap {D : va_G} {ad : Nat → Nat} {N j a : Nat} {F : Nat → va_E} {H : Heap} (h : va_P D vwCl (wl (va_up ad N a) (N + 1) F) H) (hj : j < N) : va_P D vwCl (wl (va_up ad j a) N (va_up F j (F N))) H := by
  intro i q hq
  obtain ⟨hi, rfl⟩ := wl_mem hq
  by_cases e : i = j
  · subst e
    have h0 := h N _ (wl_get (by omega))
    rw [up_a] at h0
    rw [up_a, up_a]
    exact h0
  · have h0 := h i _ (wl_get (by omega))
    rw [up_o (by omega)] at h0
    rw [up_o e, up_o e]
    exact h0
theorem iN_swap {ad : Nat → Nat} {N j a : Nat} (h : iN ad N) (ha : ∀ k, k < N → ad k ≠ a) : iN (va_up ad j a) N := fun i i2 hi hi2 e => by
  by_cases q : i = j
  · rw [q, up_a] at e
    by_cases q2 : i2 = j
    · omega
    · rw [up_o q2] at e; exact absurd e.symm (ha i2 hi2)
  · rw [up_o q] at e
    by_cases q2 : i2 = j
    · rw [q2, up_a] at e; exact absurd e (ha i hi)
    · rw [up_o q2] at e; exact h i i2 hi hi2 e
theorem shl0 (x : Int32) : x <<< (nI 0 &&& 31) = x := by
  have : (nI 0 &&& 31 : Int32) = 0 := by decide
  rw [this]; simp
/-- every place of a row holds a sign -/
def Byt (cap : Nat) (f : Nat → Int32) : Prop := ∀ j, j < cap → ∃ u, u < 128 ∧ f j = nI u
theorem Byt.fit {cap : Nat} {f : Nat → Int32} (h : Byt cap f) {j : Nat} (hj : j < cap) : fits .byte (.int (f j)) = true := by
  obtain ⟨u, hu, e⟩ := h j hj
  rw [e]
  exact (show ∀ u : Fin 128, fits .byte (.int (nI u.val)) = true by decide +kernel) ⟨u, hu⟩
theorem nar_b {u : Nat} (hu : u < 128) : vp_nar .byte (nI u) = nI u := (show ∀ u : Fin 128, vp_nar .byte (nI u.val) = nI u.val by decide +kernel) ⟨u, hu⟩
theorem i2b_of {u : Nat} (hu : u < 128) : (nI u).toInt8.toInt32 = nI u := (show ∀ u : Fin 128, (nI u.val).toInt8.toInt32 = nI u.val by decide +kernel) ⟨u, hu⟩
section Grow
variable {p : Program} {l : Launch} {e : Env} {R : Room} {s : State} {m : MethodId} {args : Array Value} {below : List Frame} {meth : Method} {c : Code} {H : Heap} {locs : List Loc} {cells slots : Nat} {Q : State → Prop} {cc : ByteArray} {nL pc : Nat} {own : String} {ls : Array Slot} {rest : List Value}
  {D : va_G} {cI cB cS : ClassId} {ad : Nat → Nat} {N : Nat} {F : Nat → va_E} {A : Nat → Prop}
theorem x_newbG (X : CallFix p m c cc nL s args lw_g own) (hK : KW D cI cB cS A s) (hI : iN ad N) (hw : HW D A ad N F s H locs) {n : Int32} {N' : Nat} (hn : n = nI N') (hb : N' < 2 ^ 27) (hcells : cells + 1 ≤ R.cells) (hslots : slots + N' ≤ R.slots) (hdg : decode cc pc = .ok (.newarray .byte, 2))
    (kk : ∀ (a : Nat) (F' : Nat → va_E) (H' : Heap), s.heap.size ≤ a → (∀ k, k < N → ad k ≠ a) → F' = va_up F N (.inl (cB, N', .inl (fun _ => 0))) → HW D A (va_up ad N a) (N + 1) F' s H' locs → W p l e R s m args below meth c H' locs (cells + 1) (slots + N') Q (F0 m (pc + 2) ls (.ref a :: rest))) : W p l e R s m args below meth c H locs cells slots Q (F0 m pc ls (.int n :: rest)) := by
  subst hn
  have hfc : s.vm.findClass ("[" ++ (newarray.typeOf .byte).toString) = some cB := (hK.1.2 1 (cB, .byte) rfl).2
  refine va_newaK (atype := .byte) X.1 X.2.1 (X.2.2.2.2 _ q213) rfl hdg rfl (nI_pos (by omega)) (nI_clamp (by omega)) (by show N' * 1 ≤ _; omega) hcells hslots rfl fun H1 cA' e1 z1 o1 _ hNm => ?_
  cases hfc.symm.trans hNm
  have hk : ∀ (k : Nat) (x : Nat × va_E), (wl ad N F)[k]? = some x → H1[x.1]? = H[x.1]? := fun k x hx => o1 x.1 ((hw.1 k x hx).lt)
  refine kk H.size _ H1 hw.2.1.1 (fun k hk => by have : ad k < H.size := (hw.1 k _ (wl_get hk)).lt; omega) rfl ⟨?_, ⟨Nat.le_trans hw.2.1.1 (by omega), fun x h1 h2 => (o1 x (by have := hw.2.1.1; omega)).trans (hw.2.1.2.1 x h1 h2), hw.2.1.2.2⟩, fun k hk1 => ?_, hw.2.2.2⟩
  · rw [wl_pushA]
    refine (hw.1.kept hk).app (fun k x hx => ?_)
    have hzz : k < 1 := (List.getElem?_eq_some_iff.mp hx).1
    rw [show k = 0 by omega] at hx
    cases hx
    exact e1
  · rcases Nat.lt_or_ge k N with q | q
    · rw [up_o (by omega)]; exact hw.2.2.1 k q
    · rw [show k = N by omega, up_a]
      exact hw.2.2.2 _ hw.2.1.1
theorem x_copyb (X : CallFix p m c cc nL s args lw_g own) (hI : iN ad N) (hK : KW D cI cB cS A s) (hw : HW D A ad N F s H locs) (hl : ls.size = nL) {k0 k1 n0 n1 : Nat} (hk0 : k0 < N) (hk1 : k1 < N) {f g : Nat → Int32} (he0 : F k0 = .inl (cB, n0, .inl f)) (he1 : F k1 = .inl (cB, n1, .inl g)) {n : Nat} (hn : n < 2 ^ 31) (h0 : n ≤ n0) (h1 : n ≤ n1) (hf : Byt n f) {index : Nat} (hlink : Cond.methodLink own index arraycopyName ∈ lw_g) (hframes : 1 ≤ R.frames) (hlocals : (rest.map fun v => v.category).sum + (nativeFrameWords "java/lang/System" "arraycopy" 5 + 11) ≤ R.locals) (hdg : decode cc pc = .ok (.invokestatic index, 3))
    (kk : ∀ (F' : Nat → va_E) (H' : Heap) (locs' : List Loc), F' = va_up F k1 (.inl (cB, n1, .inl (va_cpy f g 0 0 n))) → HW D A ad N F' s H' locs' → W p l e R s m args below meth c H' locs' cells slots Q (F0 m (pc + 3) ls rest)) : W p l e R s m args below meth c H locs cells slots Q (F0 m pc ls (.int (nI n) :: .int (nI 0) :: .ref (ad k1) :: .int (nI 0) :: .ref (ad k0) :: rest)) := by
  have hz : (nI 0).toNatClampNeg = 0 := nI_clamp (by decide)
  have hc : (nI n).toNatClampNeg = n := nI_clamp hn
  refine va_copyi X.1 X.2.1 (X.2.2.1.trans hl.symm) X.2.2.2.1 (X.2.2.2.2 _ hlink) (X.2.2.2.2 _ q270) (X.2.2.2.2 _ q269) (X.2.2.2.2 _ q15) hK.1 hw.1 (wl_DA hI hw.2.2.1) hw.2.1 k0 k1 1 1 (ty := .byte) (wl_getE hk0 he0) (wl_getE hk1 he1) rfl rfl rfl (nI_pos (by decide)) (nI_pos (by decide)) (nI_pos hn) (by rw [hz, hc]; omega) (by rw [hz, hc]; omega) (fun i hi => by rw [hz, Nat.zero_add]; rw [hc] at hi; exact hf.fit hi) hframes hlocals hdg (fun H1 locs1 hP _ hS => kk _ H1 locs1 rfl ⟨?_, hS, hw.2.2⟩)
  rw [hz, hc, wl_set hk1] at hP
  exact hP
theorem x_bast (X : CallFix p m c cc nL s args lw_g own) (hI : iN ad N) (hK : KW D cI cB cS A s) (hw : HW D A ad N F s H locs) {k n : Nat} (hk : k < N) {f : Nat → Int32} (he : F k = .inl (cB, n, .inl f)) {i : Int32} {j u : Nat} (hi : i = nI j) (hj : j < n) (hn : n < 2 ^ 31) (hu : u < 128) (hdg : decode cc pc = .ok (.bastore, 1)) (kk : ∀ (F' : Nat → va_E) (H' : Heap) (locs' : List Loc), F' = va_up F k (.inl (cB, n, .inl (upd f j (nI u)))) → HW D A ad N F' s H' locs' → W p l e R s m args below meth c H' locs' cells slots Q (F0 m (pc + 1) ls rest)) : W p l e R s m args below meth c H locs cells slots Q (F0 m pc ls (.int (nI u) :: .int i :: .ref (ad k) :: rest)) := by
  subst hi
  refine va_bast X.1 X.2.1 hK.1 hw.1 (wl_DA hI hw.2.2.1) hw.2.1 k 1 (wl_getE hk he) rfl (vp_in_nI hj hn) hdg (fun H1 locs1 hP _ hS => kk _ H1 locs1 rfl ⟨?_, hS, hw.2.2⟩)
  rw [nI_clamp (by omega), nar_b hu, wl_set hk] at hP
  exact hP
theorem x_callScp (X : CallFix p m c cc nL s args lw_g own) (hK : KW D cI cB cS A s) (hw : HW D A ad N F s H locs) {y : MethodName} {b : ByteArray} {n mn : Nat} {rt : FieldType} {f : Nat → Int32} {fr lo : Nat} {As : List Value} (hC : Ccp l D cI cB cS ad N y b n rt fr lo As F mn f) {index na : Nat} (cw : CallB R s args own index y b n (some rt) (Cond.code y b n (some rt) :: lw_g) { frames := fr, cells := 1, slots := mn, locals := lo } 1 mn na ∧ (Cond.static y).before args s = true) (hn : As.length = na) (hl : ls.size = nL) {st : List Value} (hst : st = As.reverse ++ rest) (hr : (rest.map fun v => v.category).sum ≤ 8) (hdg : decode cc pc = .ok (.invokestatic index, 3)) (hf : cells + 1 ≤ R.cells ∧ slots + mn ≤ R.slots)
    (kk : ∀ (a : Nat) (F' : Nat → va_E) (H' : Heap) (locs' : List Loc), s.heap.size ≤ a → (∀ k, k < N → ad k ≠ a) → F' = va_up F N (.inl (cB, mn, .inl f)) → HW D A (va_up ad N a) (N + 1) F' s H' locs' → W p l e R s m args below meth c H' locs' (cells + 1) (slots + mn) Q (F0 m (pc + 3) ls (.ref a :: rest))) : W p l e R s m args below meth c H locs cells slots Q (F0 m pc ls st) :=
  va_callr (va_runS (As := As) (rest := rest) X (hC H.size) cw ⟨PW_blind, fun U hU hW => ⟨rfl, by rw [hU], by rw [hU]; exact hw.1, hK.at hw hU hW⟩⟩ rfl hn hl hst (lv_room hr) hdg hf) hw.2.1 (fun q _ h => Af_all hw h) (fun q h => Af_all hw h) (fun _ a t H1 locs1 ht _ _ hB _ _ hS => kk a _ H1 locs1 (Nat.le_trans hw.2.1.1 hB.1) hB.2.1 rfl ⟨by rw [← ht]; exact hB.2.2, hS, fun k hk => by
    rcases Nat.lt_or_ge k N with q | q
    · rw [up_o (by omega)]; exact hw.2.2.1 k q
    · rw [show k = N by omega, up_a]; exact hw.2.2.2 _ (Nat.le_trans hw.2.1.1 hB.1), hw.2.2.2⟩)
theorem gR_hw (hw : HW D A ad N F s H locs) {u : (Nat → Nat) × (Nat → va_E)} (h : gR ad N H.size u) : ∀ k, k < N → A (u.1 k) := fun k hk => Af_all hw (h.2 k hk)
theorem x_callUg (X : CallFix p m c cc nL s args lw_g own) (hK : KW D cI cB cS A s) (hw : HW D A ad N F s H locs) {y : MethodName} {b : ByteArray} {n : Nat} {fr lo k : Nat} {As : List Value} {post : (Nat → Nat) → (Nat → va_E) → Prop} (hC : Cgv l D cI cB cS ad N y b n fr lo (.ref (ad k) :: As) F post) {C : String} {index na : Nat} (cw : va_CU R s args own C y.cls index y y b n none (Cond.code y b n none :: lw_g) { frames := fr, cells := 1, slots := 162, locals := lo } 1 162 na) (hk : k < N) {ci : Nat} {fs : List Value} (he : F k = .inr (ci, fs)) {T : u_T} {nf : Nat} (hc : vwCl[ci]? = some (C, T, nf)) (hn : As.length = na) (hl : ls.size = nL) {st : List Value} (hst : st = As.reverse ++ .ref (ad k) :: rest) (hr : (rest.map fun v => v.category).sum ≤ 8) (hdg : decode cc pc = .ok (.invokevirtual index, 3)) (hf : cells + 1 ≤ R.cells ∧ slots + 162 ≤ R.slots)
    (kk : ∀ (ad' : Nat → Nat) (F' : Nat → va_E) (H' : Heap) (locs' : List Loc), post ad' F' → iN ad' N → (∀ k, k < N → Af ad N H.size (ad' k)) → HW D A ad' N F' s H' locs' → W p l e R s m args below meth c H' locs' (cells + 1) (slots + 162) Q (F0 m (pc + 3) ls rest)) : W p l e R s m args below meth c H locs cells slots Q (F0 m pc ls st) :=
  va_callv (va_runU (As := As) (rest := rest) X (hC H.size) cw ⟨PW_blind, va_recv hK.1 hw.1 hc (wl_getE hk he), fun U hU hW => ⟨rfl, by rw [hU], by rw [hU]; exact hw.1, hK.at hw hU hW⟩⟩ rfl hn hl hst (lv_room hr) hdg hf) hw.2.1 (fun q _ h => Af_all hw h) (fun q h => Af_all hw h) (fun u t H1 locs1 ht _ hpost hB _ _ hS => kk u.1 u.2 H1 locs1 hpost.1 hpost.2.1 hpost.2.2 ⟨by rw [← ht]; exact hB, hS, gR_hw hw hpost.2, hw.2.2.2⟩)
theorem x_callSUg (X : CallFix p m c cc nL s args lw_g own) (hK : KW D cI cB cS A s) (hw : HW D A ad N F s H locs) {y : MethodName} {b : ByteArray} {n : Nat} {rt : FieldType} {fr lo k : Nat} {As : List Value} {post : (Nat → Nat) → (Nat → va_E) → Prop} (hC : Cgr l D cI cB cS ad N y b n rt fr lo (.ref (ad k) :: As) F post) {index na : Nat} (cw : va_CS R s args own index y b n (some rt) (Cond.code y b n (some rt) :: lw_g) { frames := fr, cells := 1, slots := 162, locals := lo } 1 162 na) (hk : k < N) {ci : Nat} {fs : List Value} (he : F k = .inr (ci, fs)) {C : String} {T : u_T} {nf : Nat} (hc : vwCl[ci]? = some (C, T, nf)) (hn : As.length = na) (hl : ls.size = nL) {st : List Value} (hst : st = As.reverse ++ .ref (ad k) :: rest) (hr : (rest.map fun v => v.category).sum ≤ 8) (hdg : decode cc pc = .ok (.invokespecial index, 3)) (hf : cells + 1 ≤ R.cells ∧ slots + 162 ≤ R.slots)
    (kk : ∀ (ad' : Nat → Nat) (ra : Nat) (F' : Nat → va_E) (H' : Heap) (locs' : List Loc), post ad' F' → iN ad' N → (∀ k, k < N → Af ad N H.size (ad' k)) → HW D A ad' N F' s H' locs' → W p l e R s m args below meth c H' locs' (cells + 1) (slots + 162) Q (F0 m (pc + 3) ls (.ref ra :: rest))) : W p l e R s m args below meth c H locs cells slots Q (F0 m pc ls st) :=
  va_callr (va_runSU (As := As) (rest := rest) (hK.1.1 _ _ hc).2 X (hC H.size) cw ⟨PW_blind, va_recv hK.1 hw.1 hc (wl_getE hk he), fun U hU hW => ⟨rfl, by rw [hU], by rw [hU]; exact hw.1, hK.at hw hU hW⟩⟩ rfl hn hl hst (lv_room hr) hdg hf) hw.2.1 (fun q _ h => Af_all hw h) (fun q h => Af_all hw h) (fun u a t H1 locs1 ht _ hpost hB _ _ hS => kk u.1 a u.2 H1 locs1 hpost.1 hpost.2.1 hpost.2.2 ⟨by rw [← ht]; exact hB, hS, gR_hw hw hpost.2, hw.2.2.2⟩)
theorem x_callVgr (X : CallFix p m c cc nL s args lw_g own) (hK : KW D cI cB cS A s) (hw : HW D A ad N F s H locs) {y : MethodName} {b : ByteArray} {n : Nat} {rt : FieldType} {fr lo k : Nat} {As : List Value} {post : (Nat → Nat) → (Nat → va_E) → Prop} (hC : Cgr l D cI cB cS ad N y b n rt fr lo (.ref (ad k) :: As) F post) {C : String} {index na : Nat} (cw : CallW R s args own C index y b n (some rt) (Cond.code y b n (some rt) :: lw_g) { frames := fr, cells := 1, slots := 162, locals := lo } 1 162 na) (hk : k < N) {ci : Nat} {fs : List Value} (he : F k = .inr (ci, fs)) {T : u_T} {nf : Nat} (hc : vwCl[ci]? = some (C, T, nf)) (hn : As.length = na) (hl : ls.size = nL) {st : List Value} (hst : st = As.reverse ++ .ref (ad k) :: rest) (hr : (rest.map fun v => v.category).sum ≤ 8) (hdg : decode cc pc = .ok (.invokevirtual index, 3)) (hf : cells + 1 ≤ R.cells ∧ slots + 162 ≤ R.slots)
    (kk : ∀ (ad' : Nat → Nat) (ra : Nat) (F' : Nat → va_E) (H' : Heap) (locs' : List Loc), post ad' F' → iN ad' N → (∀ k, k < N → Af ad N H.size (ad' k)) → HW D A ad' N F' s H' locs' → W p l e R s m args below meth c H' locs' (cells + 1) (slots + 162) Q (F0 m (pc + 3) ls (.ref ra :: rest))) : W p l e R s m args below meth c H locs cells slots Q (F0 m pc ls st) :=
  va_callr (va_runV (As := As) (rest := rest) X (hC H.size) cw ⟨PW_blind, va_recv hK.1 hw.1 hc (wl_getE hk he), fun U hU hW => ⟨rfl, by rw [hU], by rw [hU]; exact hw.1, hK.at hw hU hW⟩⟩ rfl hn hl hst (lv_room hr) hdg hf) hw.2.1 (fun q _ h => Af_all hw h) (fun q h => Af_all hw h) (fun u a t H1 locs1 ht _ hpost hB _ _ hS => kk u.1 a u.2 H1 locs1 hpost.1 hpost.2.1 hpost.2.2 ⟨by rw [← ht]; exact hB, hS, gR_hw hw hpost.2, hw.2.2.2⟩)
theorem x_callVgi (X : CallFix p m c cc nL s args lw_g own) (hK : KW D cI cB cS A s) (hw : HW D A ad N F s H locs) {y : MethodName} {b : ByteArray} {n : Nat} {fr lo k : Nat} {As : List Value} {post : Int32 → (Nat → Nat) → (Nat → va_E) → Prop} (hC : Cgi l D cI cB cS ad N y b n fr lo (.ref (ad k) :: As) F post) {C : String} {index na : Nat} (cw : CallW R s args own C index y b n (some .int) (Cond.code y b n (some .int) :: lw_g) { frames := fr, cells := 1, slots := 162, locals := lo } 1 162 na) (hk : k < N) {ci : Nat} {fs : List Value} (he : F k = .inr (ci, fs)) {T : u_T} {nf : Nat} (hc : vwCl[ci]? = some (C, T, nf)) (hn : As.length = na) (hl : ls.size = nL) {st : List Value} (hst : st = As.reverse ++ .ref (ad k) :: rest) (hr : (rest.map fun v => v.category).sum ≤ 8) (hdg : decode cc pc = .ok (.invokevirtual index, 3)) (hf : cells + 1 ≤ R.cells ∧ slots + 162 ≤ R.slots)
    (kk : ∀ (r : Int32) (ad' : Nat → Nat) (F' : Nat → va_E) (H' : Heap) (locs' : List Loc), post r ad' F' → iN ad' N → (∀ k, k < N → Af ad N H.size (ad' k)) → HW D A ad' N F' s H' locs' → W p l e R s m args below meth c H' locs' (cells + 1) (slots + 162) Q (F0 m (pc + 3) ls (.int r :: rest))) : W p l e R s m args below meth c H locs cells slots Q (F0 m pc ls st) :=
  va_calli (va_runV (As := As) (rest := rest) X (hC H.size) cw ⟨PW_blind, va_recv hK.1 hw.1 hc (wl_getE hk he), fun U hU hW => ⟨rfl, by rw [hU], by rw [hU]; exact hw.1, hK.at hw hU hW⟩⟩ rfl hn hl hst (lv_room hr) hdg hf) hw.2.1 (fun q _ h => Af_all hw h) (fun q h => Af_all hw h) (fun r u t H1 locs1 ht _ hpost hB _ _ hS => kk r u.1 u.2 H1 locs1 hpost.1 hpost.2.1 hpost.2.2 ⟨by rw [← ht]; exact hB, hS, gR_hw hw hpost.2, hw.2.2.2⟩)
theorem x_vretg (X : CallFix p m c cc nL s args lw_g own) (hr : meth.sig.returnType = none) (hlk : meth.locks = false) {ad0 : Nat → Nat} (hI : iN ad N) (hA2 : ∀ k, k < N → Af ad0 N s.heap.size (ad k)) (hw : HW D (Af ad0 N s.heap.size) ad N F s H locs) {post : (Nat → Nat) → (Nat → va_E) → Prop} (hp : post ad F) (hdg : decode cc pc = .ok (.return_, 1)) : W p l e R s m args below meth c H locs 1 162 (MQ below (va_Qv (fun u => post u.1 u.2 ∧ gR ad0 N s.heap.size u) (fun u t => PO D u.1 N u.2 t) (Af ad0 N s.heap.size)) args s 1 162 (Af ad0 N s.heap.size)) (F0 m pc ls []) :=
  W.vret X.1 X.2.1 hr (fun t ht hW => ⟨⟨(ad, F), rfl, ⟨hp, hI, hA2⟩, by show va_P D vwCl (wl ad N F) t.heap; rw [ht]; exact hw.1⟩, hw.2.1.F ht⟩) hw.2.1.2.2 hdg hlk
theorem x_iretg (X : CallFix p m c cc nL s args lw_g own) (hr : meth.sig.returnType = some .int) (hlk : meth.locks = false) {ad0 : Nat → Nat} (hI : iN ad N) (hA2 : ∀ k, k < N → Af ad0 N s.heap.size (ad k)) (hw : HW D (Af ad0 N s.heap.size) ad N F s H locs) {post : Int32 → (Nat → Nat) → (Nat → va_E) → Prop} {v : Int32} (hp : post v ad F) (hdg : decode cc pc = .ok (.ireturn, 1)) : W p l e R s m args below meth c H locs 1 162 (MQ below (va_Qi (fun r u => post r u.1 u.2 ∧ gR ad0 N s.heap.size u) (fun u t => PO D u.1 N u.2 t) (Af ad0 N s.heap.size)) args s 1 162 (Af ad0 N s.heap.size)) (F0 m pc ls [.int v]) :=
  W.zret X.1 X.2.1 hr rfl (fun t ht hW => ⟨⟨v, (ad, F), rfl, ⟨hp, hI, hA2⟩, by show va_P D vwCl (wl ad N F) t.heap; rw [ht]; exact hw.1⟩, hw.2.1.F ht⟩) hw.2.1.2.2 hdg hlk
theorem x_aretg (X : CallFix p m c cc nL s args lw_g own) {rt : FieldType} (hr : meth.sig.returnType = some rt) (hrt : (∃ n, rt = .object n) ∨ ∃ t, rt = .array t) (hlk : meth.locks = false) {ad0 : Nat → Nat} (hI : iN ad N) (hA2 : ∀ k, k < N → Af ad0 N s.heap.size (ad k)) (hw : HW D (Af ad0 N s.heap.size) ad N F s H locs) {post : (Nat → Nat) → (Nat → va_E) → Prop} {a : Nat} (hp : post ad F) (hdg : decode cc pc = .ok (.areturn, 1)) : W p l e R s m args below meth c H locs 1 162 (MQ below (va_Qr (fun u => post u.1 u.2 ∧ gR ad0 N s.heap.size u) (fun u _ t => PO D u.1 N u.2 t) (Af ad0 N s.heap.size)) args s 1 162 (Af ad0 N s.heap.size)) (F0 m pc ls [.ref a]) :=
  W.aret X.1 X.2.1 hr hrt (Or.inr ⟨a, rfl⟩) (fun t ht hW => ⟨⟨(ad, F), a, rfl, ⟨hp, hI, hA2⟩, by show va_P D vwCl (wl ad N F) t.heap; rw [ht]; exact hw.1⟩, hw.2.1.F ht⟩) hw.2.1.2.2 hdg hlk
theorem x_cwSU2 (y : MethodName) (b : ByteArray) (n : Nat) (ret : Option FieldType) {index : Nat} (na : Nat) {fr lo ce sl : Nat} (X : CallFix p m c cc nL s args lw_g own) (h1 : Cond.methodLink own index y ∈ lw_g) (h2 : Cond.sameMethod y.cls y.cls y.name y.desc ∈ lw_g) (h3 : Cond.superclass own y.cls ∈ lw_g) (h4 : Cond.instanceMethod y ∈ lw_g) (h5 : Cond.initialized y.cls ∈ lw_g) (h6 : Cond.code y b n ret ∈ lw_g) (hd : y.name ≠ "<init>" ∧ (parseMethodDescriptor y.desc).map (fun d => d.parameters.length) = some na) (hR : fr + 1 ≤ R.frames ∧ 8 + (n + 11) + lo ≤ R.locals) : va_CS R s args own index y b n ret (Cond.code y b n ret :: lw_g) { frames := fr, cells := ce, slots := sl, locals := lo } ce sl na :=
  va_cwSU na X.2.2.2.2 (fun w hw => by
    have hm : w ∈ lw_g := by
      rcases List.mem_append.mp hw with h | h
      · rcases List.mem_cons.mp h with rfl | h
        · exact h1
        rcases List.mem_cons.mp h with rfl | h
        · exact h2
        rcases List.mem_cons.mp h with rfl | h
        · exact h3
        rcases List.mem_cons.mp h with rfl | h
        · exact h4
        rcases List.mem_cons.mp h with rfl | h
        · exact h5
        cases h
      · rcases List.mem_cons.mp h with rfl | h
        · exact h6
        · exact h
    exact ⟨hm, goodT w hm⟩) rfl rfl rfl hd hR
theorem x_cwV2 (y : MethodName) (b : ByteArray) (n : Nat) (ret : Option FieldType) {C : String} {index : Nat} (na : Nat) {fr lo ce sl : Nat} (X : CallFix p m c cc nL s args lw_g own) (h1 : Cond.methodLink own index y ∈ lw_g) (h2 : Cond.instanceMethod y ∈ lw_g) (h3 : Cond.selects C y y ∈ lw_g) (h4 : Cond.initialized C ∈ lw_g) (h5 : Cond.code y b n ret ∈ lw_g) (hd : y.cls = C ∧ y.cls ≠ "java/lang/invoke/MethodHandle" ∧ y.cls ≠ "java/lang/invoke/VarHandle" ∧ (parseMethodDescriptor y.desc).map (fun d => d.parameters.length) = some na) (hR : fr + 1 ≤ R.frames ∧ 8 + (n + 11) + lo ≤ R.locals) : CallW R s args own C index y b n ret (Cond.code y b n ret :: lw_g) { frames := fr, cells := ce, slots := sl, locals := lo } ce sl na :=
  cwV na X.2.2.2.2 (mem_wsV h1 h2 h3 h4 h5) rfl rfl rfl hd hR
theorem x_cwS3 (y : MethodName) (b : ByteArray) (n : Nat) (ret : Option FieldType) {index : Nat} (na : Nat) {fr lo ce sl : Nat} (X : CallFix p m c cc nL s args lw_g own) (h1 : Cond.methodLink own index y ∈ lw_g) (h2 : Cond.static y ∈ lw_g) (h4 : Cond.initialized y.cls ∈ lw_g) (h5 : Cond.code y b n ret ∈ lw_g) (hd : y.cls ≠ "java/lang/invoke/MethodHandle" ∧ y.cls ≠ "java/lang/invoke/VarHandle" ∧ (parseMethodDescriptor y.desc).map (fun d => d.parameters.length) = some na) (hR : fr + 1 ≤ R.frames ∧ 8 + (n + 11) + lo ≤ R.locals) : CallB R s args own index y b n ret (Cond.code y b n ret :: lw_g) { frames := fr, cells := ce, slots := sl, locals := lo } ce sl na ∧ (Cond.static y).before args s = true :=
  ⟨callB_of na X.2.2.2.2 (fun w hw => by
    have hm : w ∈ lw_g := by
      rcases List.mem_cons.mp hw with rfl | h
      · exact h5
      · exact h
    exact ⟨hm, goodT w hm⟩) rfl rfl rfl (X.2.2.2.2 _ h4) (X.2.2.2.2 _ h1) hd hR, X.2.2.2.2 _ h2⟩
end Grow
theorem x_metg {l : Launch} {D : va_G} {cI cB cS : ClassId} {ad : Nat → Nat} {N ce sl : Nat} {y : MethodName} {b : ByteArray} {n : Nat} {ret : Option FieldType} {fr lo : Nat} {av : List Value} {F : Nat → va_E} {Qc : Nat → Array Value → State → Outcome → State → Prop} (hy : plainName y.cls = true) (hn : (lg_sl av).length ≤ n)
    (h : ∀ (p : Program) (e : Env) (s : State) (m : MethodId) (below : List Frame) (meth : Method) (c : Code), CallFix p m c b n s av.toArray lw_g y.cls → meth.sig.returnType = ret → meth.locks = false → KW D cI cB cS (Af ad N s.heap.size) s → HW D (Af ad N s.heap.size) ad N F s s.heap [] → ∀ ls, lv_has ls n (lv_args 0 av) → W p l e { frames := fr, cells := ce, slots := sl, locals := lo } s m av.toArray below meth c s.heap [] 0 0 (MQ below (Qc s.heap.size) av.toArray s ce sl (Af ad N s.heap.size)) (F0 m 0 ls [])) (sz : Nat) : Met l y (Cond.code y b n ret :: lw_g) { frames := fr, cells := ce, slots := sl, locals := lo } (va_Pc av (fun U => U.heap.size = sz ∧ PW D cI cB cS ad N F U)) (Qc sz) ce sl (Af ad N sz) := by
  refine Met.ofW (cc := b) (maxL := n) (ret := ret) hy rfl ?_
  intro p e s m args below meth c s₁ B hml hv
  obtain ⟨rfl, hsz, hP, hK⟩ := hv
  subst hsz
  have hts0 := atoms_spec (ws := Cond.code y b n ret :: lw_g) B.pre
  rw [lg_entry_eq]
  exact h p e s m below meth c ⟨B.exec, B.bytes, hml, findClass_of_methodNamed B.named, fun w hw => hts0 w (List.mem_cons_of_mem _ hw)⟩ B.returns B.notSynchronized hK ⟨hP, va_S.rf, fun k h => Or.inl ⟨k, h, rfl⟩, fun q h => Or.inr h⟩ _ (lv_entry av hn)
