def hAd (ad : Nat → Nat) : Prop := ∀ k, ad (k + 1) = ad k + 1
theorem hAd.at {ad : Nat → Nat} (h : hAd ad) (k : Nat) : ∀ j, ad (k + j) = ad k + j := by
  intro j
  induction j with
  | zero => rfl
  | succ j ih => rw [← Nat.add_assoc, h, ih]; rfl
theorem hAd.lt {ad : Nat → Nat} (h : hAd ad) {i j : Nat} (q : i < j) : ad i < ad j := by
  have := h.at i (j - i)
  rw [show i + (j - i) = j by omega] at this
  omega
theorem hAd.le {ad : Nat → Nat} (h : hAd ad) {i j : Nat} (q : i ≤ j) : ad i ≤ ad j := by
  have := h.at i (j - i)
  rw [show i + (j - i) = j by omega] at this
  omega
theorem hAd.iN {ad : Nat → Nat} (h : hAd ad) {N : Nat} : iN ad N := fun i j _ _ e => by
  rcases Nat.lt_trichotomy i j with q | q | q
  · have := h.lt q; omega
  · exact q
  · have := h.lt q; omega
theorem up_at {F : Nat → va_E} {k : Nat} {e : va_E} : va_up F k e k = e := by simp [va_up]
theorem wl_push {ad : Nat → Nat} {N : Nat} {F : Nat → va_E} {e : va_E} : wl ad (N + 1) (va_up F N e) = wl ad N F ++ [(ad N, e)] := by
  unfold wl
  rw [List.range_succ, List.map_append]
  congr 1
  · apply List.map_congr_left
    intro k hk
    have : k ≠ N := by have := List.mem_range.mp hk; omega
    simp [va_up, this]
  · simp [va_up]
def upq (f : Nat → Option Nat) (j : Nat) (v : Option Nat) : Nat → Option Nat := fun k => if k = j then v else f k
abbrev AO (U : State) : Prop := va_AO "RegattaTimes$State" U
def Cc (l : Launch) (D : va_G) (cI cB cS : ClassId) (ad : Nat → Nat) (N m' : Nat) (y : MethodName) (b : ByteArray) (n : Nat) (fr lo sl : Nat) (av : List Value) (F : Nat → va_E) (post : (Nat → va_E) → Prop) : Prop :=
  ∀ sz, Met l y (Cond.code y b n none :: lw_g) { frames := fr, cells := m', slots := sl, locals := lo } (va_Pc av (fun U => U.heap.size = sz ∧ sz = ad N ∧ PW D cI cB cS ad N F U ∧ AO U)) (va_Qv post (fun F' t => PO D ad (N + m') F' t) (Af ad N sz)) m' sl (Af ad N sz)
section New
variable {p : Program} {l : Launch} {e : Env} {R : Room} {s : State} {m : MethodId} {args : Array Value} {below : List Frame} {meth : Method} {c : Code} {H : Heap} {locs : List Loc} {cells slots : Nat} {Q : State → Prop} {cc : ByteArray} {nL pc : Nat} {own : String} {ls : Array Slot} {rest : List Value}
  {D : va_G} {cI cB cS : ClassId} {ad : Nat → Nat} {N : Nat} {F : Nat → va_E} {A : Nat → Prop}
/-- how large the heap is, where every cell that was made is counted -/
theorem x_hz {g : JFrame} (hA : hAd ad) (hw : HW D A ad N F s H locs) {N0 : Nat} (hs : s.heap.size = ad N0) (hcN : N0 + cells = N) (k : H.size = ad N → W p l e R s m args below meth c H locs cells slots Q g) : W p l e R s m args below meth c H locs cells slots Q g := by
  intro T hT X
  have h1 : H.size ≤ s.heap.size + cells := hT ▸ X.heapSize
  refine k ?_ T hT X
  have e1 := hA.at N0 cells
  rw [hcN] at e1
  rcases Nat.eq_zero_or_pos cells with q | q
  · have h2 := hw.2.1.1
    omega
  · have h2 : ad (N - 1) < H.size := (hw.1 (N - 1) _ (wl_get (by omega))).lt
    have h3 := hA (N - 1)
    rw [show N - 1 + 1 = N by omega] at h3
    omega
theorem x_new (X : CallFix p m c cc nL s args lw_g own) (hA : hAd ad) (hK : KW D cI cB cS A s) (hw : HW D A ad N F s H locs) {N0 : Nat} (hs : s.heap.size = ad N0) (hcN : N0 + cells = N) {C : String} {T : u_T} {nf ci index : Nat} (hin : ∀ w ∈ u_ws C T nf, w ∈ lw_g) (ty : Nat → FieldType) (hty : ∀ k, k < nf → parseFieldDescriptor (T k).2.2.1 = some (ty k)) (hcl : Cond.classLink own index C ∈ lw_g) (hinst : Cond.instantiable C nf ∈ lw_g) (hini : Cond.initialized C ∈ lw_g) (hc : vwCl[ci]? = some (C, T, nf)) {fs : List Value} (hfs : ∀ j, j < nf → defaultValue (ty j) = vp_V fs j) (hcells : cells + 1 ≤ R.cells) (hslots : slots + nf ≤ R.slots) (hdg : decode cc pc = .ok (.new index, 3))
    (kk : ∀ (F' : Nat → va_E) (H' : Heap), F' = va_up F N (.inr (ci, fs)) → HW D A ad (N + 1) F' s H' locs → W p l e R s m args below meth c H' locs (cells + 1) (slots + nf) Q (F0 m (pc + 3) ls (.ref (ad N) :: rest))) : W p l e R s m args below meth c H locs cells slots Q (F0 m pc ls rest) := by
  refine x_hz hA hw hs hcN (fun hz => ?_)
  have hKn := hK.1.1 ci _ hc
  refine W.newcK X.1 X.2.1 X.2.2.2.1 (X.2.2.2.2 _ hcl) (X.2.2.2.2 _ hinst) (X.2.2.2.2 _ hini) rfl hdg hcells hslots hKn.2.1 hz fun H1 kC hkC e1 z1 o1 => ?_
  have hk : ∀ (k : Nat) (x : Nat × va_E), (wl ad N F)[k]? = some x → H1[x.1]? = H[x.1]? := fun k x hx => o1 x.1 (hz ▸ (hw.1 k x hx).lt)
  refine kk _ H1 rfl ⟨?_, ⟨Nat.le_trans hw.2.1.1 (by omega), fun x h1 h2 => (o1 x (by have := hw.2.1.1; omega)).trans (hw.2.1.2.1 x h1 h2), hw.2.1.2.2⟩, fun k hk1 => ?_, hw.2.2.2⟩
  · rw [wl_push]
    refine (hw.1.kept hk).app (fun k x hx => ?_)
    have hzz : k < 1 := (List.getElem?_eq_some_iff.mp hx).1
    rw [show k = 0 by omega] at hx
    cases hx
    exact ⟨_, hc, (u_born ty X.2.2.2.2 hin hKn hkC e1 hty).to hfs⟩
  · rcases Nat.lt_or_ge k N with q | q
    · exact hw.2.2.1 k q
    · rw [show k = N by omega]
      exact hw.2.2.2 _ (by have := hw.2.1.1; omega)
/-- a new row of ints or bytes -/
theorem x_newP (X : CallFix p m c cc nL s args lw_g own) (hA : hAd ad) (hw : HW D A ad N F s H locs) {N0 : Nat} (hs : s.heap.size = ad N0) (hcN : N0 + cells = N) {atype : ArrayType} {cA : ClassId} {a0 : vp_A} {n : Int32} {N' : Nat} (harr : Cond.arrayClass (newarray.typeOf atype) ∈ lw_g) (ha : vp_cell cA a0 = arrV cA N' (fun _ => defaultValue (newarray.typeOf atype))) (hfc : s.vm.findClass ("[" ++ (newarray.typeOf atype).toString) = some cA) (hn : ¬ n < 0) (hN : n.toNatClampNeg = N') (hbytes : N' * componentBytes (newarray.typeOf atype) ≤ 536870912) (hcells : cells + 1 ≤ R.cells) (hslots : slots + N' ≤ R.slots) (hdg : decode cc pc = .ok (.newarray atype, 2))
    (kk : ∀ (F' : Nat → va_E) (H' : Heap), F' = va_up F N (.inl (cA, a0)) → HW D A ad (N + 1) F' s H' locs → W p l e R s m args below meth c H' locs (cells + 1) (slots + N') Q (F0 m (pc + 2) ls (.ref (ad N) :: rest))) : W p l e R s m args below meth c H locs cells slots Q (F0 m pc ls (.int n :: rest)) := by
  refine x_hz hA hw hs hcN (fun hz => ?_)
  refine va_newaK X.1 X.2.1 (X.2.2.2.2 _ harr) rfl hdg rfl hn hN hbytes hcells hslots hz fun H1 cA' e1 z1 o1 _ hNm => ?_
  cases hfc.symm.trans hNm
  have hk : ∀ (k : Nat) (x : Nat × va_E), (wl ad N F)[k]? = some x → H1[x.1]? = H[x.1]? := fun k x hx => o1 x.1 (hz ▸ (hw.1 k x hx).lt)
  refine kk _ H1 rfl ⟨?_, ⟨Nat.le_trans hw.2.1.1 (by omega), fun x h1 h2 => (o1 x (by have := hw.2.1.1; omega)).trans (hw.2.1.2.1 x h1 h2), hw.2.1.2.2⟩, fun k hk1 => ?_, hw.2.2.2⟩
  · rw [wl_push]
    refine (hw.1.kept hk).app (fun k x hx => ?_)
    have hzz : k < 1 := (List.getElem?_eq_some_iff.mp hx).1
    rw [show k = 0 by omega] at hx
    cases hx
    show H1[ad N]? = some (vp_cell _ _)
    rw [ha]
    exact e1
  · rcases Nat.lt_or_ge k N with q | q
    · exact hw.2.2.1 k q
    · rw [show k = N by omega]
      exact hw.2.2.2 _ (by have := hw.2.1.1; omega)
theorem x_newi (X : CallFix p m c cc nL s args lw_g own) (hA : hAd ad) (hK : KW D cI cB cS A s) (hw : HW D A ad N F s H locs) {N0 : Nat} (hs : s.heap.size = ad N0) (hcN : N0 + cells = N) {n : Int32} {N' : Nat} (hn : n = nI N') (hb : N' < 2 ^ 27) (hcells : cells + 1 ≤ R.cells) (hslots : slots + N' ≤ R.slots) (hdg : decode cc pc = .ok (.newarray .int, 2))
    (kk : ∀ (F' : Nat → va_E) (H' : Heap), F' = va_up F N (.inl (cI, N', .inl (fun _ => 0))) → HW D A ad (N + 1) F' s H' locs → W p l e R s m args below meth c H' locs (cells + 1) (slots + N') Q (F0 m (pc + 2) ls (.ref (ad N) :: rest))) : W p l e R s m args below meth c H locs cells slots Q (F0 m pc ls (.int n :: rest)) := by
  subst hn
  exact x_newP (atype := .int) X hA hw hs hcN q50 rfl (hK.1.2 0 (cI, .int) rfl).2 (nI_pos (by omega)) (nI_clamp (by omega)) (by show N' * 4 ≤ _; omega) hcells hslots hdg kk
theorem x_newb (X : CallFix p m c cc nL s args lw_g own) (hA : hAd ad) (hK : KW D cI cB cS A s) (hw : HW D A ad N F s H locs) {N0 : Nat} (hs : s.heap.size = ad N0) (hcN : N0 + cells = N) {n : Int32} {N' : Nat} (hn : n = nI N') (hb : N' < 2 ^ 27) (hcells : cells + 1 ≤ R.cells) (hslots : slots + N' ≤ R.slots) (hdg : decode cc pc = .ok (.newarray .byte, 2))
    (kk : ∀ (F' : Nat → va_E) (H' : Heap), F' = va_up F N (.inl (cB, N', .inl (fun _ => 0))) → HW D A ad (N + 1) F' s H' locs → W p l e R s m args below meth c H' locs (cells + 1) (slots + N') Q (F0 m (pc + 2) ls (.ref (ad N) :: rest))) : W p l e R s m args below meth c H locs cells slots Q (F0 m pc ls (.int n :: rest)) := by
  subst hn
  exact x_newP (atype := .byte) X hA hw hs hcN q213 rfl (hK.1.2 1 (cB, .byte) rfl).2 (nI_pos (by omega)) (nI_clamp (by omega)) (by show N' * 1 ≤ _; omega) hcells hslots hdg kk
/-- a new row of states -/
theorem x_newq (X : CallFix p m c cc nL s args lw_g own) (hA : hAd ad) (hK : KW D cI cB cS A s) (hAO : AO s) (hw : HW D A ad N F s H locs) {N0 : Nat} (hs : s.heap.size = ad N0) (hcN : N0 + cells = N) {index : Nat} {n : Int32} {N' : Nat} (hn : n = nI N') (hb : N' < 2 ^ 27) (hcl : Cond.classLink own index "RegattaTimes$State" ∈ lw_g) (hcells : cells + 1 ≤ R.cells) (hslots : slots + N' ≤ R.slots) (hdg : decode cc pc = .ok (.anewarray index, 3))
    (kk : ∀ (F' : Nat → va_E) (H' : Heap), F' = va_up F N (.inl (cS, N', .inr (.inr (.inr (.inr (fun _ => none)))))) → HW D A ad (N + 1) F' s H' locs → W p l e R s m args below meth c H' locs (cells + 1) (slots + N') Q (F0 m (pc + 3) ls (.ref (ad N) :: rest))) : W p l e R s m args below meth c H locs cells slots Q (F0 m pc ls (.int n :: rest)) := by
  subst hn
  refine x_hz hA hw hs hcN (fun hz => ?_)
  have hcl2 : (nI N').toNatClampNeg = N' := nI_clamp (by omega)
  refine W.anew X.1 X.2.1 X.2.2.2.1 (X.2.2.2.2 _ hcl) (va_AO.use hAO) rfl hdg rfl (nI_pos (by omega)) (by rw [hcl2]; omega) hcells (by rw [hcl2]; exact hslots) fun cA kA comp f1 f2 f3 f4 => ?_
  obtain ⟨_, _, _, _, _, f0⟩ := (hK.1.2 2 (cS, .object "RegattaTimes$State") rfl).2
  cases f0.symm.trans f1
  rw [hcl2, hz]
  generalize hH1 : H.push ({ cls := cS, slots := Array.replicate N' .null, vm := .none } : Cell) = H1
  have z1 : H1.size = ad N + 1 := by rw [← hH1, Array.size_push, hz]
  have e1 : H1[ad N]? = some (arrV cS N' (fun _ => .null)) := by rw [← hH1, ← hz, Array.getElem?_push_size, ← arrV_new]
  have o1 : ∀ q : Nat, q < ad N → H1[q]? = H[q]? := fun q hq => by rw [← hH1, Array.getElem?_push, if_neg (by omega)]
  have hk : ∀ (k : Nat) (x : Nat × va_E), (wl ad N F)[k]? = some x → H1[x.1]? = H[x.1]? := fun k x hx => o1 x.1 (hz ▸ (hw.1 k x hx).lt)
  refine kk _ H1 rfl ⟨?_, ⟨Nat.le_trans hw.2.1.1 (by omega), fun x h1 h2 => (o1 x (by have := hw.2.1.1; omega)).trans (hw.2.1.2.1 x h1 h2), hw.2.1.2.2⟩, fun k hk1 => ?_, hw.2.2.2⟩
  · rw [wl_push]
    refine (hw.1.kept hk).app (fun k x hx => ?_)
    have hzz : k < 1 := (List.getElem?_eq_some_iff.mp hx).1
    rw [show k = 0 by omega] at hx
    cases hx
    show H1[ad N]? = some (vp_cell _ _)
    rw [vp_cell_q]
    exact e1
  · rcases Nat.lt_or_ge k N with q | q
    · exact hw.2.2.1 k q
    · rw [show k = N by omega]
      exact hw.2.2.2 _ (by have := hw.2.1.1; omega)
/-- a constructor's call -/
theorem x_callI (X : CallFix p m c cc nL s args lw_g own) (hA : hAd ad) (hK : KW D cI cB cS A s) (hAO : AO s) (hw : HW D A ad N F s H locs) {N0 : Nat} (hs : s.heap.size = ad N0) (hcN : N0 + cells = N) {y : MethodName} {b : ByteArray} {n : Nat} {fr lo sl m' k : Nat} {As : List Value} {post : (Nat → va_E) → Prop} (hC : Cc l D cI cB cS ad N m' y b n fr lo sl (.ref (ad k) :: As) F post) {index na : Nat} (cw : CallB R s args own index y b n none (Cond.code y b n none :: lw_g) { frames := fr, cells := m', slots := sl, locals := lo } m' sl na ∧ y.name = "<init>" ∧ (Cond.instanceMethod y).before args s = true) (hn : As.length = na) (hl : ls.size = nL) {st : List Value} (hst : st = As.reverse ++ .ref (ad k) :: rest) (hr : (rest.map fun v => v.category).sum ≤ 8) (hdg : decode cc pc = .ok (.invokespecial index, 3)) (hf : cells + m' ≤ R.cells ∧ slots + sl ≤ R.slots)
    (kk : ∀ (F' : Nat → va_E) (H' : Heap) (locs' : List Loc), post F' → HW D A ad (N + m') F' s H' locs' → W p l e R s m args below meth c H' locs' (cells + m') (slots + sl) Q (F0 m (pc + 3) ls rest)) : W p l e R s m args below meth c H locs cells slots Q (F0 m pc ls st) := by
  refine x_hz hA hw hs hcN (fun hz => ?_)
  refine va_callv (va_runI (As := As) (rest := rest) X (hC H.size) cw ⟨?_, fun U hU hW => ⟨rfl, by rw [hU], hz, ⟨by rw [hU]; exact hw.1, hK.at hw hU hW⟩, va_AO.moved hW.alike hAO⟩⟩ rfl hn hl hst (lv_room hr) hdg hf) hw.2.1 (fun q _ h => Af_all hw h) (fun q h => Af_all hw h) (fun F' t H1 locs1 ht _ hpost hB _ _ hS => kk F' H1 locs1 hpost ⟨by rw [← ht]; exact hB, hS, fun k hk => ?_, hw.2.2.2⟩)
  · exact fun a U g mk q => ⟨q.1, q.2.1, q.2.2.1, ⟨q.2.2.2.1.1, va_K.moved (u := U) (U := U.calling g mk a) (Vm.Alike.refl U.vm) q.2.2.2.1.2.1, ZW.at (u := U) (U := U.calling g mk a) (Vm.Alike.refl U.vm) q.2.2.2.1.2.2.1 (fun _ _ _ => rfl) (fun _ h => h), q.2.2.2.1.2.2.2⟩, va_AO.moved (u := U) (U := U.calling g mk a) (Vm.Alike.refl U.vm) q.2.2.2.2⟩
  · rcases Nat.lt_or_ge k N with q | q
    · exact hw.2.2.1 k q
    · exact hw.2.2.2 _ (by have := hw.2.1.1; have := hA.le q; omega)
theorem x_vretc (X : CallFix p m c cc nL s args lw_g own) (hr : meth.sig.returnType = none) (hlk : meth.locks = false) {B : Nat → Prop} {N1 : Nat} (hw : HW D B ad N1 F s H locs) {post : (Nat → va_E) → Prop} (hp : post F) (hdg : decode cc pc = .ok (.return_, 1)) : W p l e R s m args below meth c H locs cells slots (MQ below (va_Qv post (fun F' t => PO D ad N1 F' t) B) args s cells slots B) (F0 m pc ls []) :=
  W.vret X.1 X.2.1 hr (fun t ht hW => ⟨⟨F, rfl, hp, by show va_P D vwCl (wl ad N1 F) t.heap; rw [ht]; exact hw.1⟩, hw.2.1.F ht⟩) hw.2.1.2.2 hdg hlk
theorem x_cwI (y : MethodName) (b : ByteArray) (n : Nat) {index : Nat} (na : Nat) {fr lo m' sl : Nat} (X : CallFix p m c cc nL s args lw_g own) (h1 : Cond.methodLink own index y ∈ lw_g) (h2 : Cond.instanceMethod y ∈ lw_g) (h4 : Cond.initialized y.cls ∈ lw_g) (h5 : Cond.code y b n none ∈ lw_g) (hd : y.name = "<init>" ∧ y.cls ≠ "java/lang/invoke/MethodHandle" ∧ y.cls ≠ "java/lang/invoke/VarHandle" ∧ (parseMethodDescriptor y.desc).map (fun d => d.parameters.length) = some na) (hR : fr + 1 ≤ R.frames ∧ 8 + (n + 11) + lo ≤ R.locals) : CallB R s args own index y b n none (Cond.code y b n none :: lw_g) { frames := fr, cells := m', slots := sl, locals := lo } m' sl na ∧ y.name = "<init>" ∧ (Cond.instanceMethod y).before args s = true :=
  ⟨callB_of na X.2.2.2.2 (fun w hw => by
    have hm : w ∈ lw_g := by
      rcases List.mem_cons.mp hw with rfl | h
      · exact h5
      · exact h
    exact ⟨hm, goodT w hm⟩) rfl rfl rfl (X.2.2.2.2 _ h4) (X.2.2.2.2 _ h1) hd.2 hR, hd.1, X.2.2.2.2 _ h2⟩
theorem x_oi (X : CallFix p m c cc nL s args lw_g own) (hl : ls.size = nL) {index : Nat} (hlink : Cond.methodLink own index Lib.objectInit ∈ lw_g) {a : Addr} (hdg : decode cc pc = .ok (.invokespecial index, 3)) (hframes : 1 ≤ R.frames) (hlocals : (rest.map fun v => v.category).sum + 12 ≤ R.locals) (kk : W p l e R s m args below meth c H locs cells slots Q (F0 m (pc + 3) ls rest)) : W p l e R s m args below meth c H locs cells slots Q (F0 m pc ls (.ref a :: rest)) :=
  W.objInit X.1 X.2.1 X.2.2.2.1 (X.2.2.2.2 _ hlink) (X.2.2.2.2 _ q26) (X.2.2.2.2 _ q27) rfl (hl.trans X.2.2.1.symm) rfl hdg hframes (by show 2 * 0 + _ + 12 ≤ _; omega) kk
/-- a final field, in the constructor -/
theorem x_putF2 (X : CallFix p m c cc nL s args lw_g own) (hI : iN ad N) (hK : KW D cI cB cS A s) (hw : HW D A ad N F s H locs) {C ref : String} {T : u_T} {nf ci index : Nat} {k : Nat} (hk : k < N) {fs : List Value} (he : F k = .inr (ci, fs)) (hc : vwCl[ci]? = some (C, T, nf)) (hin : ∀ w ∈ u_ws C T nf, w ∈ lw_g) (ty0 : Nat → FieldType) (hty : ∀ k, k < nf → parseFieldDescriptor (T k).2.2.1 = some (ty0 k)) (hnm : ∀ a, a < nf → ∀ b, b < nf → a ≠ b → (T a).2.1 ≠ (T b).2.1) (j : Nat) (hj : j < nf) (hl : Cond.fieldLink own index ref (T j).2.1 (T j).2.2.1 ∈ lw_g) (hsame : ∀ x, s.fieldFound? (T j).1 (T j).2.1 (T j).2.2.1 = some x → s.fieldFound? ref (T j).2.1 (T j).2.2.1 = some x) (hfin : (T j).2.2.2 = true) (hin2 : meth.name = "<init>") (hdecl : (T j).1 = own) {ty : FieldType} {v : Value} (hd : parseFieldDescriptor (T j).2.2.1 = some ty) (hn : narrow ty v = v) (hfit : fits ty v = true) (hlen : j < fs.length) (hdg : decode cc pc = .ok (.putfield index, 3))
    (kk : ∀ (F' : Nat → va_E) (H' : Heap) (locs' : List Loc), F' = va_up F k (.inr (ci, fs.set j v)) → HW D A ad N F' s H' locs' → W p l e R s m args below meth c H' locs' cells slots Q (F0 m (pc + 3) ls rest)) : W p l e R s m args below meth c H locs cells slots Q (F0 m pc ls (v :: .ref (ad k) :: rest)) :=
  va_putF X.1 X.2.1 X.2.2.2.2 hin ty0 hty hnm X.2.2.2.1 hK.1 hw.1 (wl_DA hI hw.2.2.1) hw.2.1 k (wl_getE hk he) hc j hj (X.2.2.2.2 _ hl) hsame hfin hin2 hdecl hd hn hfit hlen hdg (fun H1 locs1 hP _ hS => kk _ H1 locs1 rfl ⟨by rw [← wl_set hk]; exact hP, hS, hw.2.2⟩)
/-- a state into a row of states -/
theorem x_aast (X : CallFix p m c cc nL s args lw_g own) (hI : iN ad N) (hK : KW D cI cB cS A s) (hw : HW D A ad N F s H locs) {k n : Nat} (hk : k < N) {f : Nat → Option Nat} (he : F k = .inl (cS, n, .inr (.inr (.inr (.inr f))))) {b : Nat} (hb : b < N) {fs : List Value} (hv : F b = .inr (6, fs)) {i : Int32} {j : Nat} (hi : i = nI j) (hj : j < n) (hn : n < 2 ^ 31) (hdg : decode cc pc = .ok (.aastore, 1)) (kk : ∀ (F' : Nat → va_E) (H' : Heap) (locs' : List Loc), F' = va_up F k (.inl (cS, n, .inr (.inr (.inr (.inr (upq f j (some (ad b)))))))) → HW D A ad N F' s H' locs' → W p l e R s m args below meth c H' locs' cells slots Q (F0 m (pc + 1) ls rest)) : W p l e R s m args below meth c H locs cells slots Q (F0 m pc ls (.ref (ad b) :: .int i :: .ref (ad k) :: rest)) := by
  subst hi
  refine va_astq X.1 X.2.1 hK.1 hw.1 (wl_DA hI hw.2.2.1) hw.2.1 k 2 b 6 (wl_getE hk he) rfl (wl_getE hb hv) rfl (vp_in_nI hj hn) hdg (fun H1 locs1 hP _ hS => kk _ H1 locs1 rfl ⟨by rw [← wl_set hk]; rw [nI_clamp (by omega)] at hP; exact hP, hS, hw.2.2⟩)
theorem x_max (X : CallFix p m c cc nL s args lw_g own) (hl : ls.size = nL) {index : Nat} (hlink : Cond.methodLink own index Lib.Math.max.name ∈ lw_g) (hframes : 1 ≤ R.frames) (hlocals : (rest.map fun v => v.category).sum + 13 ≤ R.locals) (hc : cells ≤ R.cells) (hs : slots ≤ R.slots) {x y : Int32} (hdg : decode cc pc = .ok (.invokestatic index, 3)) (kk : W p l e R s m args below meth c H locs cells slots Q (F0 m (pc + 3) ls (.int (if x < y then y else x) :: rest))) : W p l e R s m args below meth c H locs cells slots Q (F0 m pc ls (.int y :: .int x :: rest)) :=
  va_mmax X.1 X.2.1 (X.2.2.1.trans hl.symm) X.2.2.2.1 (X.2.2.2.2 _ hlink) (X.2.2.2.2 _ q41) (X.2.2.2.2 _ q4) (X.2.2.2.2 _ q42) hframes hlocals hc hs hdg kk
end New
theorem x_metc {l : Launch} {D : va_G} {cI cB cS : ClassId} {ad : Nat → Nat} {N m' sl : Nat} {y : MethodName} {b : ByteArray} {n : Nat} {fr lo : Nat} {av : List Value} {F : Nat → va_E} {post : (Nat → va_E) → Prop} (hy : plainName y.cls = true) (hn : (lg_sl av).length ≤ n) (hyi : y.name = "<init>")
    (h : ∀ (p : Program) (e : Env) (s : State) (m : MethodId) (below : List Frame) (meth : Method) (c : Code), CallFix p m c b n s av.toArray lw_g y.cls → meth.sig.returnType = none → meth.locks = false → meth.name = "<init>" → AO s → s.heap.size = ad N → KW D cI cB cS (Af ad N s.heap.size) s → HW D (Af ad N s.heap.size) ad N F s s.heap [] → ∀ ls, lv_has ls n (lv_args 0 av) → W p l e { frames := fr, cells := m', slots := sl, locals := lo } s m av.toArray below meth c s.heap [] 0 0 (MQ below (va_Qv post (fun F' t => PO D ad (N + m') F' t) (Af ad N s.heap.size)) av.toArray s m' sl (Af ad N s.heap.size)) (F0 m 0 ls [])) : Cc l D cI cB cS ad N m' y b n fr lo sl av F post := by
  intro sz
  refine Met.ofW (cc := b) (maxL := n) (ret := none) hy rfl ?_
  intro p e s m args below meth c s₁ B hml hv
  obtain ⟨rfl, hsz, hsz2, ⟨hP, hK⟩, hAO⟩ := hv
  subst hsz
  have hts0 := atoms_spec (ws := Cond.code y b n none :: lw_g) B.pre
  rw [lg_entry_eq]
  exact h p e s m below meth c ⟨B.exec, B.bytes, hml, findClass_of_methodNamed B.named, fun w hw => hts0 w (List.mem_cons_of_mem _ hw)⟩ B.returns B.notSynchronized ((name_of_methodNamed B.named B.method).1.trans hyi) hAO hsz2 hK ⟨hP, va_S.rf, fun k h => Or.inl ⟨k, h, rfl⟩, fun q h => Or.inr h⟩ _ (lv_entry av hn)
