theorem goodT : ∀ w ∈ lw_g, (w.onTables && w.keeps) = true ∨ ∃ ty, w = .arrayClass ty := fun w h => (List.mem_append.mp h).elim (fun h => good_of_word (List.all_eq_true.mp (show lw_x.all goodWord = true by decide +kernel) w h)) (fun h => good_of_word (List.mem_filter.mp h).2)
def wl (ad : Nat → Nat) (N : Nat) (F : Nat → va_E) : va_W := (List.range N).map (fun k => (ad k, F k))
theorem wl_get {ad : Nat → Nat} {N : Nat} {F : Nat → va_E} {k : Nat} (h : k < N) : (wl ad N F)[k]? = some (ad k, F k) := by
  simp [wl, h]
theorem wl_none {ad : Nat → Nat} {N : Nat} {F : Nat → va_E} {k : Nat} (h : ¬ k < N) : (wl ad N F)[k]? = none := by
  simp [wl]; omega
theorem wl_getE {ad : Nat → Nat} {N : Nat} {F : Nat → va_E} {k : Nat} {e : va_E} (h : k < N) (he : F k = e) : (wl ad N F)[k]? = some (ad k, e) := by
  rw [wl_get h, he]
theorem wl_set {ad : Nat → Nat} {N : Nat} {F : Nat → va_E} {k : Nat} (h : k < N) (e : va_E) : (wl ad N F).set k (ad k, e) = wl ad N (va_up F k e) := by
  apply List.ext_getElem?
  intro i
  rw [List.getElem?_set]
  by_cases hi : i < N
  · by_cases hk : k = i
    · subst hk
      have h1 : k < (wl ad N F).length := by simp [wl, h]
      rw [if_pos rfl, if_pos h1, wl_get hi]
      simp [va_up]
    · rw [if_neg hk, wl_get hi, wl_get hi]
      have : va_up F k e i = F i := by simp [va_up, Ne.symm hk]
      rw [this]
  · have hk : k ≠ i := fun q => hi (q ▸ h)
    rw [if_neg hk, wl_none hi, wl_none hi]
def iN (ad : Nat → Nat) (N : Nat) : Prop := ∀ i j, i < N → j < N → ad i = ad j → i = j
def Af (ad : Nat → Nat) (N : Nat) (sz : Nat) : Nat → Prop := fun q => (∃ k, k < N ∧ q = ad k) ∨ sz ≤ q
theorem wl_mem {ad : Nat → Nat} {N : Nat} {F : Nat → va_E} {k : Nat} {q : Nat × va_E} (h : (wl ad N F)[k]? = some q) : k < N ∧ q = (ad k, F k) := by
  by_cases hk : k < N
  · rw [wl_get hk] at h; exact ⟨hk, (Option.some.inj h).symm⟩
  · rw [wl_none hk] at h; cases h
theorem wl_D {ad : Nat → Nat} {N : Nat} {F : Nat → va_E} {sz : Nat} (hI : iN ad N) : va_D (Af ad N sz) (wl ad N F) := by
  refine ⟨fun i j p q hi hj hpq => ?_, fun k q hk => ?_⟩
  · obtain ⟨h1, rfl⟩ := wl_mem hi
    obtain ⟨h2, rfl⟩ := wl_mem hj
    exact hI i j h1 h2 hpq
  · obtain ⟨h1, rfl⟩ := wl_mem hk
    exact Or.inl ⟨k, h1, rfl⟩
theorem wl_DA {ad : Nat → Nat} {N : Nat} {F : Nat → va_E} {A : Nat → Prop} (hI : iN ad N) (hA : ∀ k, k < N → A (ad k)) : va_D A (wl ad N F) := by
  refine ⟨fun i j p q hi hj hpq => ?_, fun k q hk => ?_⟩
  · obtain ⟨h1, rfl⟩ := wl_mem hi
    obtain ⟨h2, rfl⟩ := wl_mem hj
    exact hI i j h1 h2 hpq
  · obtain ⟨h1, rfl⟩ := wl_mem hk
    exact hA k h1
abbrev tyL (cI cB cS : ClassId) : List (ClassId × FieldType) := [(cI, .int), (cB, .byte), (cS, .object "RegattaTimes$State")]
/-- what the launch's statics hold, none of them among the world's cells -/
def zv (l : List Int32) : Nat → Value := fun j => .int (l.getD j 0)
def ZA (n : String) (l : List Int32) (A : Nat → Prop) (U : State) (H : Heap) : Prop := ∃ t : Nat, va_Z "RegattaTimes" n "[I" (.ref t) A U H ∧ va_T .int t 3 (zv l) A U H
def ZW (A : Nat → Prop) (U : State) (H : Heap) : Prop := ZA "FIRST_VALUE" [600, 60, 4] A U H ∧ ZA "LEAST_VALUE" [1, 1, 0] A U H ∧ ZA "GREATEST_VALUE" [3600, 300, 6] A U H ∧ va_Z "java/lang/String" "COMPACT_STRINGS" "Z" (.int 1) A U H
def ZN (U : State) : Prop := va_Nw (.fieldLinkNest "RegattaTimes$State" 32 "RegattaTimes" "FIRST_VALUE" "[I" "RegattaTimes") U ∧ va_Nw (.fieldLinkNest "RegattaTimes$Committee" 102 "RegattaTimes" "LEAST_VALUE" "[I" "RegattaTimes") U ∧ va_Nw (.fieldLinkNest "RegattaTimes$Committee" 106 "RegattaTimes" "GREATEST_VALUE" "[I" "RegattaTimes") U
theorem ZA.at {n : String} {l : List Int32} {A B : Nat → Prop} {u U : State} {H H1 : Heap} (hvm : u.vm.Alike U.vm) (h : ZA n l A u H) (hq : ∀ a : Nat, a < H.size → ¬ A a → H1[a]? = H[a]?) (hAB : ∀ q, B q → A q) : ZA n l B U H1 := by
  obtain ⟨t, h1, h2⟩ := h
  exact ⟨t, ((h1.moved hvm).kept hq).narrow hAB, ((h2.moved hvm).kept hq).narrow hAB⟩
theorem ZW.at {A B : Nat → Prop} {u U : State} {H H1 : Heap} (hvm : u.vm.Alike U.vm) (h : ZW A u H) (hq : ∀ a : Nat, a < H.size → ¬ A a → H1[a]? = H[a]?) (hAB : ∀ q, B q → A q) : ZW B U H1 :=
  ⟨h.1.at hvm hq hAB, h.2.1.at hvm hq hAB, h.2.2.1.at hvm hq hAB, ((h.2.2.2.moved hvm).kept hq).narrow hAB⟩
theorem ZN.warm {s U : State} (hW : s.WarmedH U.vm) (h : ZN s) : ZN U := ⟨h.1.warmF hW, h.2.1.warmF hW, h.2.2.warmF hW⟩
def KW (D : va_G) (cI cB cS : ClassId) (A : Nat → Prop) (U : State) : Prop := va_K D vwCl (tyL cI cB cS) U ∧ ZW A U U.heap ∧ ZN U
def HW (D : va_G) (A : Nat → Prop) (ad : Nat → Nat) (N : Nat) (F : Nat → va_E) (s : State) (H : Heap) (locs : List Loc) : Prop := va_P D vwCl (wl ad N F) H ∧ va_S A s.heap H locs ∧ (∀ k, k < N → A (ad k)) ∧ ∀ q, s.heap.size ≤ q → A q
/-- what a method's world is, at its start and behind it -/
def PW (D : va_G) (cI cB cS : ClassId) (ad : Nat → Nat) (N : Nat) (F : Nat → va_E) (U : State) : Prop := va_P D vwCl (wl ad N F) U.heap ∧ KW D cI cB cS (Af ad N U.heap.size) U
def PO (D : va_G) (ad : Nat → Nat) (N : Nat) (F : Nat → va_E) (U : State) : Prop := va_P D vwCl (wl ad N F) U.heap
def Ci (l : Launch) (D : va_G) (cI cB cS : ClassId) (ad : Nat → Nat) (N : Nat) (y : MethodName) (b : ByteArray) (n : Nat) (ret : Option FieldType) (fr lo : Nat) (av : List Value) (F : Nat → va_E) (post : Int32 → (Nat → va_E) → Prop) : Prop :=
  ∀ sz, Met l y (Cond.code y b n ret :: lw_g) { frames := fr, cells := 0, slots := 0, locals := lo } (va_Pc av (fun U => U.heap.size = sz ∧ PW D cI cB cS ad N F U)) (va_Qi post (fun F' t => PO D ad N F' t) (Af ad N sz)) 0 0 (Af ad N sz)
def Cv (l : Launch) (D : va_G) (cI cB cS : ClassId) (ad : Nat → Nat) (N : Nat) (y : MethodName) (b : ByteArray) (n : Nat) (fr lo : Nat) (av : List Value) (F : Nat → va_E) (post : (Nat → va_E) → Prop) : Prop :=
  ∀ sz, Met l y (Cond.code y b n none :: lw_g) { frames := fr, cells := 0, slots := 0, locals := lo } (va_Pc av (fun U => U.heap.size = sz ∧ PW D cI cB cS ad N F U)) (va_Qv post (fun F' t => PO D ad N F' t) (Af ad N sz)) 0 0 (Af ad N sz)
section Base
variable {p : Program} {l : Launch} {e : Env} {R : Room} {s : State} {m : MethodId} {args : Array Value} {below : List Frame} {meth : Method} {c : Code} {H : Heap} {locs : List Loc} {cells slots : Nat} {Q : State → Prop} {cc : ByteArray} {nL pc : Nat} {own : String} {ls : Array Slot} {rest : List Value}
  {D : va_G} {cI cB cS : ClassId} {ad : Nat → Nat} {N : Nat} {F : Nat → va_E} {A : Nat → Prop}
theorem x_get (X : CallFix p m c cc nL s args lw_g own) (hK : KW D cI cB cS A s) (hw : HW D A ad N F s H locs) {C ref : String} {T : u_T} {nf ci index : Nat} {k : Nat} (hk : k < N) {fs : List Value} (he : F k = .inr (ci, fs)) (hc : vwCl[ci]? = some (C, T, nf)) (hin : ∀ w ∈ u_ws C T nf, w ∈ lw_g) (j : Nat) (hj : j < nf) (hl : Cond.fieldLink own index ref (T j).2.1 (T j).2.2.1 ∈ lw_g) (hsame : ∀ x, s.fieldFound? (T j).1 (T j).2.1 (T j).2.2.1 = some x → s.fieldFound? ref (T j).2.1 (T j).2.2.1 = some x) {v : Value} (hv : fs[j]? = some v) (hdg : decode cc pc = .ok (.getfield index, 3)) (kk : W p l e R s m args below meth c H locs cells slots Q (F0 m (pc + 3) ls (v :: rest))) : W p l e R s m args below meth c H locs cells slots Q (F0 m pc ls (.ref (ad k) :: rest)) :=
  va_get X.1 X.2.1 X.2.2.2.2 hin X.2.2.2.1 hK.1 hw.1 k (wl_getE hk he) hc j hj (X.2.2.2.2 _ hl) hsame hv hdg kk
theorem x_put (X : CallFix p m c cc nL s args lw_g own) (hI : iN ad N) (hK : KW D cI cB cS A s) (hw : HW D A ad N F s H locs) {C ref : String} {T : u_T} {nf ci index : Nat} {k : Nat} (hk : k < N) {fs : List Value} (he : F k = .inr (ci, fs)) (hc : vwCl[ci]? = some (C, T, nf)) (hin : ∀ w ∈ u_ws C T nf, w ∈ lw_g) (ty0 : Nat → FieldType) (hty : ∀ k, k < nf → parseFieldDescriptor (T k).2.2.1 = some (ty0 k)) (hnm : ∀ a, a < nf → ∀ b, b < nf → a ≠ b → (T a).2.1 ≠ (T b).2.1) (j : Nat) (hj : j < nf) (hl : Cond.fieldLink own index ref (T j).2.1 (T j).2.2.1 ∈ lw_g) (hsame : ∀ x, s.fieldFound? (T j).1 (T j).2.1 (T j).2.2.1 = some x → s.fieldFound? ref (T j).2.1 (T j).2.2.1 = some x) (hfin : (T j).2.2.2 = false) {ty : FieldType} {v : Value} (hd : parseFieldDescriptor (T j).2.2.1 = some ty) (hn : narrow ty v = v) (hfit : fits ty v = true) (hlen : j < fs.length) (hdg : decode cc pc = .ok (.putfield index, 3))
    (kk : ∀ (H' : Heap) (locs' : List Loc), HW D A ad N (va_up F k (.inr (ci, fs.set j v))) s H' locs' → W p l e R s m args below meth c H' locs' cells slots Q (F0 m (pc + 3) ls rest)) : W p l e R s m args below meth c H locs cells slots Q (F0 m pc ls (v :: .ref (ad k) :: rest)) :=
  va_put X.1 X.2.1 X.2.2.2.2 hin ty0 hty hnm X.2.2.2.1 hK.1 hw.1 (wl_DA hI hw.2.2.1) hw.2.1 k (wl_getE hk he) hc j hj (X.2.2.2.2 _ hl) hsame hfin hd hn hfit hlen hdg (fun H1 locs1 hP _ hS => kk H1 locs1 ⟨by rw [← wl_set hk]; exact hP, hS, hw.2.2⟩)
theorem x_iald (X : CallFix p m c cc nL s args lw_g own) (hK : KW D cI cB cS A s) (hw : HW D A ad N F s H locs) {k n : Nat} (hk : k < N) {f : Nat → Int32} (he : F k = .inl (cI, n, .inl f)) {i : Int32} (hin : vp_in i n) (hdg : decode cc pc = .ok (.iaload, 1)) (kk : W p l e R s m args below meth c H locs cells slots Q (F0 m (pc + 1) ls (.int (f i.toNatClampNeg) :: rest))) : W p l e R s m args below meth c H locs cells slots Q (F0 m pc ls (.int i :: .ref (ad k) :: rest)) :=
  va_iald X.1 X.2.1 hK.1 hw.1 k 0 (wl_getE hk he) rfl hin hdg kk
theorem x_iast (X : CallFix p m c cc nL s args lw_g own) (hI : iN ad N) (hK : KW D cI cB cS A s) (hw : HW D A ad N F s H locs) {k n : Nat} (hk : k < N) {f : Nat → Int32} (he : F k = .inl (cI, n, .inl f)) {i x : Int32} (hin : vp_in i n) (hdg : decode cc pc = .ok (.iastore, 1)) (kk : ∀ (H' : Heap) (locs' : List Loc), HW D A ad N (va_up F k (.inl (cI, n, .inl (upd f i.toNatClampNeg x)))) s H' locs' → W p l e R s m args below meth c H' locs' cells slots Q (F0 m (pc + 1) ls rest)) : W p l e R s m args below meth c H locs cells slots Q (F0 m pc ls (.int x :: .int i :: .ref (ad k) :: rest)) :=
  va_iast X.1 X.2.1 hK.1 hw.1 (wl_DA hI hw.2.2.1) hw.2.1 k 0 (wl_getE hk he) rfl hin hdg (fun H1 locs1 hP _ hS => kk H1 locs1 ⟨by rw [← wl_set hk]; exact hP, hS, hw.2.2⟩)
theorem x_alen (X : CallFix p m c cc nL s args lw_g own) (hK : KW D cI cB cS A s) (hw : HW D A ad N F s H locs) {k n : Nat} (hk : k < N) {f : Nat → Int32} (he : F k = .inl (cI, n, .inl f)) {v : Int32} (hv : Int32.ofNat n = v) (hdg : decode cc pc = .ok (.arraylength, 1)) (kk : W p l e R s m args below meth c H locs cells slots Q (F0 m (pc + 1) ls (.int v :: rest))) : W p l e R s m args below meth c H locs cells slots Q (F0 m pc ls (.ref (ad k) :: rest)) :=
  va_alen X.1 X.2.1 hK.1 hw.1 k 0 (wl_getE hk he) rfl hv hdg kk
theorem mem_wsV {own C : String} {index : Nat} {y : MethodName} {b : ByteArray} {n : Nat} {ret : Option FieldType} (h1 : Cond.methodLink own index y ∈ lw_g) (h2 : Cond.instanceMethod y ∈ lw_g) (h3 : Cond.selects C y y ∈ lw_g) (h4 : Cond.initialized C ∈ lw_g) (h5 : Cond.code y b n ret ∈ lw_g) : GoodIn lw_g (wsV own index C y (Cond.code y b n ret :: lw_g)) := by
  intro w hw
  have : w ∈ lw_g := by
    rcases List.mem_append.mp hw with h | h
    · rcases List.mem_cons.mp h with rfl | h
      · exact h1
      rcases List.mem_cons.mp h with rfl | h
      · exact h2
      rcases List.mem_cons.mp h with rfl | h
      · exact h3
      rcases List.mem_cons.mp h with rfl | h
      · exact h4
      cases h
    · rcases List.mem_cons.mp h with rfl | h
      · exact h5
      · exact h
  exact ⟨this, goodT w this⟩
theorem mem_wsS {own : String} {index : Nat} {y : MethodName} {b : ByteArray} {n : Nat} {ret : Option FieldType} (h1 : Cond.methodLink own index y ∈ lw_g) (h2 : Cond.static y ∈ lw_g) (h4 : Cond.initialized own ∈ lw_g) (h5 : Cond.code y b n ret ∈ lw_g) : GoodIn lw_g (wsS own index y (Cond.code y b n ret :: lw_g)) := by
  intro w hw
  have : w ∈ lw_g := by
    rcases List.mem_append.mp hw with h | h
    · rcases List.mem_cons.mp h with rfl | h
      · exact h1
      rcases List.mem_cons.mp h with rfl | h
      · exact h2
      rcases List.mem_cons.mp h with rfl | h
      · exact h4
      cases h
    · rcases List.mem_cons.mp h with rfl | h
      · exact h5
      · exact h
  exact ⟨this, goodT w this⟩
theorem Af_all {q : Nat} (hw : HW D A ad N F s H locs) (h : Af ad N H.size q) : A q := by
  rcases h with ⟨k, hk, rfl⟩ | h
  · exact hw.2.2.1 k hk
  · exact hw.2.2.2 q (Nat.le_trans hw.2.1.1 h)
theorem KW.at {U : State} (hK : KW D cI cB cS A s) (hw : HW D A ad N F s H locs) (hU : U.heap = H) (hW : s.WarmedH U.vm) : KW D cI cB cS (Af ad N U.heap.size) U :=
  ⟨va_K.moved hW.alike hK.1, ZW.at hW.alike hK.2.1 (fun a h1 h2 => by rw [hU]; exact hw.2.1.2.1 a h1 h2) (fun q h => by rw [hU] at h; exact Af_all hw h), hK.2.2.warm hW⟩
theorem PW_blind {av : List Value} {sz : Nat} : FrameBlind (va_Pc av (fun U => U.heap.size = sz ∧ PW D cI cB cS ad N F U)) :=
  fun a U g mk q => ⟨q.1, q.2.1, q.2.2.1, va_K.moved (u := U) (U := U.calling g mk a) (Vm.Alike.refl U.vm) q.2.2.2.1, ZW.at (u := U) (U := U.calling g mk a) (Vm.Alike.refl U.vm) q.2.2.2.2.1 (fun _ _ _ => rfl) (fun _ h => h), q.2.2.2.2.2⟩
theorem x_callV (X : CallFix p m c cc nL s args lw_g own) (hK : KW D cI cB cS A s) (hw : HW D A ad N F s H locs) {y : MethodName} {b : ByteArray} {n : Nat} {ret : Option FieldType} {fr lo k : Nat} {As : List Value} {post : Int32 → (Nat → va_E) → Prop} (hC : Ci l D cI cB cS ad N y b n ret fr lo (.ref (ad k) :: As) F post) {C : String} {index na : Nat} (cw : CallW R s args own C index y b n ret (Cond.code y b n ret :: lw_g) { frames := fr, cells := 0, slots := 0, locals := lo } 0 0 na) (hk : k < N) {ci : Nat} {fs : List Value} (he : F k = .inr (ci, fs)) {T : u_T} {nf : Nat} (hc : vwCl[ci]? = some (C, T, nf)) (hn : As.length = na) (hl : ls.size = nL) {st : List Value} (hst : st = As.reverse ++ .ref (ad k) :: rest) (hr : (rest.map fun v => v.category).sum ≤ 8) (hdg : decode cc pc = .ok (.invokevirtual index, 3)) (hf : cells ≤ R.cells ∧ slots ≤ R.slots)
    (kk : ∀ (r : Int32) (F' : Nat → va_E) (H' : Heap) (locs' : List Loc), post r F' → HW D A ad N F' s H' locs' → W p l e R s m args below meth c H' locs' cells slots Q (F0 m (pc + 3) ls (.int r :: rest))) : W p l e R s m args below meth c H locs cells slots Q (F0 m pc ls st) :=
  va_calli (va_runV (As := As) (rest := rest) X (hC H.size) cw ⟨PW_blind, va_recv hK.1 hw.1 hc (wl_getE hk he), fun U hU hW => ⟨rfl, by rw [hU], by rw [hU]; exact hw.1, hK.at hw hU hW⟩⟩ rfl hn hl hst (lv_room hr) hdg hf) hw.2.1 (fun q _ h => Af_all hw h) (fun q h => Af_all hw h) (fun r F' t H1 locs1 ht _ hpost hB _ _ hS => kk r F' H1 locs1 hpost ⟨by rw [← ht]; exact hB, hS, hw.2.2⟩)
theorem x_callVv (X : CallFix p m c cc nL s args lw_g own) (hK : KW D cI cB cS A s) (hw : HW D A ad N F s H locs) {y : MethodName} {b : ByteArray} {n : Nat} {fr lo k : Nat} {As : List Value} {post : (Nat → va_E) → Prop} (hC : Cv l D cI cB cS ad N y b n fr lo (.ref (ad k) :: As) F post) {C : String} {index na : Nat} (cw : CallW R s args own C index y b n none (Cond.code y b n none :: lw_g) { frames := fr, cells := 0, slots := 0, locals := lo } 0 0 na) (hk : k < N) {ci : Nat} {fs : List Value} (he : F k = .inr (ci, fs)) {T : u_T} {nf : Nat} (hc : vwCl[ci]? = some (C, T, nf)) (hn : As.length = na) (hl : ls.size = nL) {st : List Value} (hst : st = As.reverse ++ .ref (ad k) :: rest) (hr : (rest.map fun v => v.category).sum ≤ 8) (hdg : decode cc pc = .ok (.invokevirtual index, 3)) (hf : cells ≤ R.cells ∧ slots ≤ R.slots)
    (kk : ∀ (F' : Nat → va_E) (H' : Heap) (locs' : List Loc), post F' → HW D A ad N F' s H' locs' → W p l e R s m args below meth c H' locs' cells slots Q (F0 m (pc + 3) ls rest)) : W p l e R s m args below meth c H locs cells slots Q (F0 m pc ls st) :=
  va_callv (va_runV (As := As) (rest := rest) X (hC H.size) cw ⟨PW_blind, va_recv hK.1 hw.1 hc (wl_getE hk he), fun U hU hW => ⟨rfl, by rw [hU], by rw [hU]; exact hw.1, hK.at hw hU hW⟩⟩ rfl hn hl hst (lv_room hr) hdg hf) hw.2.1 (fun q _ h => Af_all hw h) (fun q h => Af_all hw h) (fun F' t H1 locs1 ht _ hpost hB _ _ hS => kk F' H1 locs1 hpost ⟨by rw [← ht]; exact hB, hS, hw.2.2⟩)
theorem x_callS (X : CallFix p m c cc nL s args lw_g own) (hK : KW D cI cB cS A s) (hw : HW D A ad N F s H locs) {y : MethodName} {b : ByteArray} {n : Nat} {ret : Option FieldType} {fr lo : Nat} {As : List Value} {post : Int32 → (Nat → va_E) → Prop} (hC : Ci l D cI cB cS ad N y b n ret fr lo As F post) {index na : Nat} (cw : CallB R s args own index y b n ret (Cond.code y b n ret :: lw_g) { frames := fr, cells := 0, slots := 0, locals := lo } 0 0 na ∧ (Cond.static y).before args s = true) (hn : As.length = na) (hl : ls.size = nL) {st : List Value} (hst : st = As.reverse ++ rest) (hr : (rest.map fun v => v.category).sum ≤ 8) (hdg : decode cc pc = .ok (.invokestatic index, 3)) (hf : cells ≤ R.cells ∧ slots ≤ R.slots)
    (kk : ∀ (r : Int32) (F' : Nat → va_E) (H' : Heap) (locs' : List Loc), post r F' → HW D A ad N F' s H' locs' → W p l e R s m args below meth c H' locs' cells slots Q (F0 m (pc + 3) ls (.int r :: rest))) : W p l e R s m args below meth c H locs cells slots Q (F0 m pc ls st) :=
  va_calli (va_runS (As := As) (rest := rest) X (hC H.size) cw ⟨PW_blind, fun U hU hW => ⟨rfl, by rw [hU], by rw [hU]; exact hw.1, hK.at hw hU hW⟩⟩ rfl hn hl hst (lv_room hr) hdg hf) hw.2.1 (fun q _ h => Af_all hw h) (fun q h => Af_all hw h) (fun r F' t H1 locs1 ht _ hpost hB _ _ hS => kk r F' H1 locs1 hpost ⟨by rw [← ht]; exact hB, hS, hw.2.2⟩)
theorem x_callSv (X : CallFix p m c cc nL s args lw_g own) (hK : KW D cI cB cS A s) (hw : HW D A ad N F s H locs) {y : MethodName} {b : ByteArray} {n : Nat} {fr lo : Nat} {As : List Value} {post : (Nat → va_E) → Prop} (hC : Cv l D cI cB cS ad N y b n fr lo As F post) {index na : Nat} (cw : CallB R s args own index y b n none (Cond.code y b n none :: lw_g) { frames := fr, cells := 0, slots := 0, locals := lo } 0 0 na ∧ (Cond.static y).before args s = true) (hn : As.length = na) (hl : ls.size = nL) {st : List Value} (hst : st = As.reverse ++ rest) (hr : (rest.map fun v => v.category).sum ≤ 8) (hdg : decode cc pc = .ok (.invokestatic index, 3)) (hf : cells ≤ R.cells ∧ slots ≤ R.slots)
    (kk : ∀ (F' : Nat → va_E) (H' : Heap) (locs' : List Loc), post F' → HW D A ad N F' s H' locs' → W p l e R s m args below meth c H' locs' cells slots Q (F0 m (pc + 3) ls rest)) : W p l e R s m args below meth c H locs cells slots Q (F0 m pc ls st) :=
  va_callv (va_runS (As := As) (rest := rest) X (hC H.size) cw ⟨PW_blind, fun U hU hW => ⟨rfl, by rw [hU], by rw [hU]; exact hw.1, hK.at hw hU hW⟩⟩ rfl hn hl hst (lv_room hr) hdg hf) hw.2.1 (fun q _ h => Af_all hw h) (fun q h => Af_all hw h) (fun F' t H1 locs1 ht _ hpost hB _ _ hS => kk F' H1 locs1 hpost ⟨by rw [← ht]; exact hB, hS, hw.2.2⟩)
theorem x_iret (X : CallFix p m c cc nL s args lw_g own) {ty : FieldType} (hr : meth.sig.returnType = some ty) (hlk : meth.locks = false) {AK : Nat → Prop} (hK : KW D cI cB cS AK s) (hw : HW D (Af ad N s.heap.size) ad N F s H locs) {post : Int32 → (Nat → va_E) → Prop} {v : Int32} (hn : narrow ty (.int v) = .int v) (hp : post v F) (hdg : decode cc pc = .ok (.ireturn, 1)) : W p l e R s m args below meth c H locs cells slots (MQ below (va_Qi post (fun F' t => PO D ad N F' t) (Af ad N s.heap.size)) args s cells slots (Af ad N s.heap.size)) (F0 m pc ls [.int v]) :=
  W.zret X.1 X.2.1 hr hn (fun t ht hW => ⟨⟨v, F, rfl, hp, by show va_P D vwCl (wl ad N F) t.heap; rw [ht]; exact hw.1⟩, hw.2.1.F ht⟩) hw.2.1.2.2 hdg hlk
theorem x_vret (X : CallFix p m c cc nL s args lw_g own) (hr : meth.sig.returnType = none) (hlk : meth.locks = false) {AK : Nat → Prop} (hK : KW D cI cB cS AK s) (hw : HW D (Af ad N s.heap.size) ad N F s H locs) {post : (Nat → va_E) → Prop} (hp : post F) (hdg : decode cc pc = .ok (.return_, 1)) : W p l e R s m args below meth c H locs cells slots (MQ below (va_Qv post (fun F' t => PO D ad N F' t) (Af ad N s.heap.size)) args s cells slots (Af ad N s.heap.size)) (F0 m pc ls []) :=
  W.vret X.1 X.2.1 hr (fun t ht hW => ⟨⟨F, rfl, hp, by show va_P D vwCl (wl ad N F) t.heap; rw [ht]; exact hw.1⟩, hw.2.1.F ht⟩) hw.2.1.2.2 hdg hlk
theorem x_cwV (y : MethodName) (b : ByteArray) (n : Nat) (ret : Option FieldType) {C : String} {index : Nat} (na : Nat) {fr lo : Nat} (X : CallFix p m c cc nL s args lw_g own) (h1 : Cond.methodLink own index y ∈ lw_g) (h2 : Cond.instanceMethod y ∈ lw_g) (h3 : Cond.selects C y y ∈ lw_g) (h4 : Cond.initialized C ∈ lw_g) (h5 : Cond.code y b n ret ∈ lw_g) (hd : y.cls = C ∧ y.cls ≠ "java/lang/invoke/MethodHandle" ∧ y.cls ≠ "java/lang/invoke/VarHandle" ∧ (parseMethodDescriptor y.desc).map (fun d => d.parameters.length) = some na) (hR : fr + 1 ≤ R.frames ∧ 8 + (n + 11) + lo ≤ R.locals) : CallW R s args own C index y b n ret (Cond.code y b n ret :: lw_g) { frames := fr, cells := 0, slots := 0, locals := lo } 0 0 na :=
  cwV na X.2.2.2.2 (mem_wsV h1 h2 h3 h4 h5) rfl rfl rfl hd hR
theorem x_cwS (y : MethodName) (b : ByteArray) (n : Nat) (ret : Option FieldType) {index : Nat} (na : Nat) {fr lo : Nat} (X : CallFix p m c cc nL s args lw_g own) (h1 : Cond.methodLink own index y ∈ lw_g) (h2 : Cond.static y ∈ lw_g) (h4 : Cond.initialized own ∈ lw_g) (h5 : Cond.code y b n ret ∈ lw_g) (hd : y.cls = own ∧ y.cls ≠ "java/lang/invoke/MethodHandle" ∧ y.cls ≠ "java/lang/invoke/VarHandle" ∧ (parseMethodDescriptor y.desc).map (fun d => d.parameters.length) = some na) (hR : fr + 1 ≤ R.frames ∧ 8 + (n + 11) + lo ≤ R.locals) : CallB R s args own index y b n ret (Cond.code y b n ret :: lw_g) { frames := fr, cells := 0, slots := 0, locals := lo } 0 0 na ∧ (Cond.static y).before args s = true :=
  cwS na X.2.2.2.2 (mem_wsS h1 h2 h4 h5) rfl rfl rfl hd hR
end Base
theorem x_met {l : Launch} {D : va_G} {cI cB cS : ClassId} {ad : Nat → Nat} {N : Nat} {y : MethodName} {b : ByteArray} {n : Nat} {ret : Option FieldType} {fr lo : Nat} {av : List Value} {F : Nat → va_E} {post : Int32 → (Nat → va_E) → Prop} (hy : plainName y.cls = true) (hn : (lg_sl av).length ≤ n)
    (h : ∀ (p : Program) (e : Env) (s : State) (m : MethodId) (below : List Frame) (meth : Method) (c : Code), CallFix p m c b n s av.toArray lw_g y.cls → meth.sig.returnType = ret → meth.locks = false → KW D cI cB cS (Af ad N s.heap.size) s → HW D (Af ad N s.heap.size) ad N F s s.heap [] → ∀ ls, lv_has ls n (lv_args 0 av) → W p l e { frames := fr, cells := 0, slots := 0, locals := lo } s m av.toArray below meth c s.heap [] 0 0 (MQ below (va_Qi post (fun F' t => PO D ad N F' t) (Af ad N s.heap.size)) av.toArray s 0 0 (Af ad N s.heap.size)) (F0 m 0 ls [])) : Ci l D cI cB cS ad N y b n ret fr lo av F post := by
  intro sz
  refine Met.ofW (cc := b) (maxL := n) (ret := ret) hy rfl ?_
  intro p e s m args below meth c s₁ B hml hv
  obtain ⟨rfl, hsz, hP, hK⟩ := hv
  subst hsz
  have hts0 := atoms_spec (ws := Cond.code y b n ret :: lw_g) B.pre
  rw [lg_entry_eq]
  exact h p e s m below meth c ⟨B.exec, B.bytes, hml, findClass_of_methodNamed B.named, fun w hw => hts0 w (List.mem_cons_of_mem _ hw)⟩ B.returns B.notSynchronized hK ⟨hP, va_S.rf, fun k h => Or.inl ⟨k, h, rfl⟩, fun q h => Or.inr h⟩ _ (lv_entry av hn)
theorem x_metv {l : Launch} {D : va_G} {cI cB cS : ClassId} {ad : Nat → Nat} {N : Nat} {y : MethodName} {b : ByteArray} {n : Nat} {fr lo : Nat} {av : List Value} {F : Nat → va_E} {post : (Nat → va_E) → Prop} (hy : plainName y.cls = true) (hn : (lg_sl av).length ≤ n)
    (h : ∀ (p : Program) (e : Env) (s : State) (m : MethodId) (below : List Frame) (meth : Method) (c : Code), CallFix p m c b n s av.toArray lw_g y.cls → meth.sig.returnType = none → meth.locks = false → KW D cI cB cS (Af ad N s.heap.size) s → HW D (Af ad N s.heap.size) ad N F s s.heap [] → ∀ ls, lv_has ls n (lv_args 0 av) → W p l e { frames := fr, cells := 0, slots := 0, locals := lo } s m av.toArray below meth c s.heap [] 0 0 (MQ below (va_Qv post (fun F' t => PO D ad N F' t) (Af ad N s.heap.size)) av.toArray s 0 0 (Af ad N s.heap.size)) (F0 m 0 ls [])) : Cv l D cI cB cS ad N y b n fr lo av F post := by
  intro sz
  refine Met.ofW (cc := b) (maxL := n) (ret := none) hy rfl ?_
  intro p e s m args below meth c s₁ B hml hv
  obtain ⟨rfl, hsz, hP, hK⟩ := hv
  subst hsz
  have hts0 := atoms_spec (ws := Cond.code y b n none :: lw_g) B.pre
  rw [lg_entry_eq]
  exact h p e s m below meth c ⟨B.exec, B.bytes, hml, findClass_of_methodNamed B.named, fun w hw => hts0 w (List.mem_cons_of_mem _ hw)⟩ B.returns B.notSynchronized hK ⟨hP, va_S.rf, fun k h => Or.inl ⟨k, h, rfl⟩, fun q h => Or.inr h⟩ _ (lv_entry av hn)
