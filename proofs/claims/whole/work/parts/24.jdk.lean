theorem k2_selects_sub {C : String} {y : MethodName} {s : State} {args : Array Value} {n : Nat} (hy : y.cls ≠ "java/lang/invoke/MethodHandle" ∧ y.cls ≠ "java/lang/invoke/VarHandle")
    (hins : (Cond.instantiable C n).before args s = true) (hpriv : (Cond.privateMethod y).before args s = true) (hinst : (Cond.instanceMethod y).before args s = true) {y2 : MethodName} {C2 : String} (h2 : (Cond.selects C2 y2 y2).before args s = true) (he : y2.cls = y.cls) :
    (Cond.selects C y y).before args s = true := by
  obtain ⟨c, k, hc, hk, -, hniab, -, -⟩ := Cond.instantiable_spec hins
  have hni : k.isInterface = false := (Bool.or_eq_false_iff.mp hniab).1
  obtain ⟨mk, methM, hnamed, hmethM, -, -⟩ := Cond.instanceMethod_spec hinst
  have hfound : s.methodFound? y.cls y.name y.desc = some mk := State.methodFound?_of_named hnamed hy
  have hsel : selectMethod {} s.vm c mk = .method mk := selectMethod_private hmethM (Cond.privateMethod_at hpriv mk methM hnamed hmethM)
  obtain ⟨c2, r2, m2, -, -, q3, -, k2, q5, q6⟩ := Cond.selects_spec h2
  have e1 := findClass_of_methodNamed q3
  have e2 := findClass_of_methodNamed hnamed
  rw [he, e2] at e1
  have e3 : mk.cls = m2.cls := Option.some.inj e1
  simp only [Cond.before, Cond.holds, Cond.value, hc, hfound, hnamed, hsel]
  rw [e3, q5]
  simp [q6]
theorem priv_mem (i : Nat) {y : MethodName} (h : lw_tbl[i]? = some (Cond.privateMethod y)) : Cond.privateMethod y ∈ lw_tbl := List.mem_of_getElem? h
def SbF (ad : Nat → Nat) (cB : ClassId) (F : Nat → va_E) (e cap n : Nat) (ml : Int32) (f : Nat → Int32) : Prop := F e = .inr (0, [.ref (ad (e + 1)), .int (nI 0), .int ml, .int (nI n)]) ∧ F (e + 1) = .inl (cB, cap, .inl f)
theorem SbF.cg {ad : Nat → Nat} {cB : ClassId} {F F' : Nat → va_E} {e cap n : Nat} {ml : Int32} {f : Nat → Int32} (h : SbF ad cB F e cap n ml f) {lo hi : Nat} (hf : Fr F F' lo hi) (hd : e + 2 ≤ lo ∨ hi ≤ e) : SbF ad cB F' e cap n ml f := ⟨(hf _ (by omega)).trans h.1, (hf _ (by omega)).trans h.2⟩
section Jdk
variable {p : Program} {l : Launch} {e : Env} {R : Room} {s : State} {m : MethodId} {args : Array Value} {below : List Frame} {meth : Method} {c : Code} {H : Heap} {locs : List Loc} {cells slots : Nat} {Q : State → Prop} {cc : ByteArray} {nL pc : Nat} {own : String} {ls : Array Slot} {rest : List Value}
  {D : va_G} {cI cB cS : ClassId} {ad : Nat → Nat} {N : Nat} {F : Nat → va_E} {A : Nat → Prop}
theorem x_cwSU (y : MethodName) (b : ByteArray) (n : Nat) (ret : Option FieldType) {index : Nat} (na : Nat) {fr lo : Nat} (X : CallFix p m c cc nL s args lw_g own) (h1 : Cond.methodLink own index y ∈ lw_g) (h2 : Cond.sameMethod y.cls y.cls y.name y.desc ∈ lw_g) (h3 : Cond.superclass own y.cls ∈ lw_g) (h4 : Cond.instanceMethod y ∈ lw_g) (h5 : Cond.initialized y.cls ∈ lw_g) (h6 : Cond.code y b n ret ∈ lw_g) (hd : y.name ≠ "<init>" ∧ (parseMethodDescriptor y.desc).map (fun d => d.parameters.length) = some na) (hR : fr + 1 ≤ R.frames ∧ 8 + (n + 11) + lo ≤ R.locals) : va_CS R s args own index y b n ret (Cond.code y b n ret :: lw_g) { frames := fr, cells := 0, slots := 0, locals := lo } 0 0 na :=
  va_cwSU na X.2.2.2.2 (fun w hw => by
    have hm : w ∈ lw_g := by
      rcases List.mem_append.mp hw with h | h
      · rcases List.mem_cons.mp h with rfl | h
        · exact h1
        rcases List.mem_cons.mp h with rfl | h
        · exact h2
        rcases List.mem_cons.mp h with rfl | h
        · exact h3
        rcases List.mem_cons.mp h with rfl | h
        · exact h4
        rcases List.mem_cons.mp h with rfl | h
        · exact h5
        cases h
      · rcases List.mem_cons.mp h with rfl | h
        · exact h6
        · exact h
    exact ⟨hm, goodT w hm⟩) rfl rfl rfl hd hR
theorem x_cwU (C : String) (y : MethodName) (b : ByteArray) (n : Nat) (ret : Option FieldType) {index : Nat} (na : Nat) {fr lo ce sl : Nat} (X : CallFix p m c cc nL s args lw_g own) (h1 : Cond.methodLink own index y ∈ lw_g) (h2 : Cond.sameMethod y.cls y.cls y.name y.desc ∈ lw_g) (h3 : (Cond.selects C y y).before args s = true) (h4 : Cond.instanceMethod y ∈ lw_g) (h5 : Cond.initialized y.cls ∈ lw_g) (h6 : Cond.code y b n ret ∈ lw_g) (hd : y.cls ≠ "java/lang/invoke/MethodHandle" ∧ y.cls ≠ "java/lang/invoke/VarHandle" ∧ (parseMethodDescriptor y.desc).map (fun d => d.parameters.length) = some na) (hR : fr + 1 ≤ R.frames ∧ 8 + (n + 11) + lo ≤ R.locals) : va_CU R s args own C y.cls index y y b n ret (Cond.code y b n ret :: lw_g) { frames := fr, cells := ce, slots := sl, locals := lo } ce sl na := by
  have ok : ∀ w ∈ lw_g, w.before args s = true := X.2.2.2.2
  have hG : GoodIn lw_g (Cond.code y b n ret :: lw_g) := fun w hw => by
    have hm : w ∈ lw_g := by
      rcases List.mem_cons.mp hw with rfl | h
      · exact h6
      · exact h
    exact ⟨hm, goodT w hm⟩
  refine ⟨⟨rfl, rfl, hR.1, hR.2, pay_in ok hG, List.mem_cons_self⟩, ok _ h6, ok _ h5, ⟨hd.1, hd.2.1⟩, fun sig h => ?_, ok _ h1, ok _ h2, va_Decl.of (ok _ h4) (ok _ h6), h3, ok _ h4⟩
  have h2 := hd.2.2
  rw [h] at h2
  exact (Option.some.inj h2).symm
theorem x_callSUP (X : CallFix p m c cc nL s args lw_g own) (hK : KW D cI cB cS A s) (hw : HW D A ad N F s H locs) {y : MethodName} {b : ByteArray} {n : Nat} {ret : Option FieldType} {fr lo k : Nat} {As : List Value} {v : Int32} (hC : Ci l D cI cB cS ad N y b n ret fr lo (.ref (ad k) :: As) F (pP v F)) {index na : Nat} (cw : va_CS R s args own index y b n ret (Cond.code y b n ret :: lw_g) { frames := fr, cells := 0, slots := 0, locals := lo } 0 0 na) (hk : k < N) {ci : Nat} {fs : List Value} (he : F k = .inr (ci, fs)) {C : String} {T : u_T} {nf : Nat} (hc : vwCl[ci]? = some (C, T, nf)) (hn : As.length = na) (hl : ls.size = nL) {st : List Value} (hst : st = As.reverse ++ .ref (ad k) :: rest) (hr : (rest.map fun v => v.category).sum ≤ 8) (hdg : decode cc pc = .ok (.invokespecial index, 3)) (hf : cells ≤ R.cells ∧ slots ≤ R.slots)
    (kk : ∀ (H' : Heap) (locs' : List Loc), HW D A ad N F s H' locs' → W p l e R s m args below meth c H' locs' cells slots Q (F0 m (pc + 3) ls (.int v :: rest))) : W p l e R s m args below meth c H locs cells slots Q (F0 m pc ls st) :=
  va_calli (va_runSU (As := As) (rest := rest) (hK.1.1 _ _ hc).2 X (hC H.size) cw ⟨PW_blind, va_recv hK.1 hw.1 hc (wl_getE hk he), fun U hU hW => ⟨rfl, by rw [hU], by rw [hU]; exact hw.1, hK.at hw hU hW⟩⟩ rfl hn hl hst (lv_room hr) hdg hf) hw.2.1 (fun q _ h => Af_all hw h) (fun q h => Af_all hw h) (fun r F' t H1 locs1 ht _ hpost hB _ _ hS => by obtain ⟨rfl, rfl⟩ := hpost; exact kk H1 locs1 ⟨by rw [← ht]; exact hB, hS, hw.2.2⟩)
theorem x_callSUv (X : CallFix p m c cc nL s args lw_g own) (hK : KW D cI cB cS A s) (hw : HW D A ad N F s H locs) {y : MethodName} {b : ByteArray} {n : Nat} {fr lo k : Nat} {As : List Value} {post : (Nat → va_E) → Prop} (hC : Cv l D cI cB cS ad N y b n fr lo (.ref (ad k) :: As) F post) {index na : Nat} (cw : va_CS R s args own index y b n none (Cond.code y b n none :: lw_g) { frames := fr, cells := 0, slots := 0, locals := lo } 0 0 na) (hk : k < N) {ci : Nat} {fs : List Value} (he : F k = .inr (ci, fs)) {C : String} {T : u_T} {nf : Nat} (hc : vwCl[ci]? = some (C, T, nf)) (hn : As.length = na) (hl : ls.size = nL) {st : List Value} (hst : st = As.reverse ++ .ref (ad k) :: rest) (hr : (rest.map fun v => v.category).sum ≤ 8) (hdg : decode cc pc = .ok (.invokespecial index, 3)) (hf : cells ≤ R.cells ∧ slots ≤ R.slots)
    (kk : ∀ (F' : Nat → va_E) (H' : Heap) (locs' : List Loc), post F' → HW D A ad N F' s H' locs' → W p l e R s m args below meth c H' locs' cells slots Q (F0 m (pc + 3) ls rest)) : W p l e R s m args below meth c H locs cells slots Q (F0 m pc ls st) :=
  va_callv (va_runSU (As := As) (rest := rest) (hK.1.1 _ _ hc).2 X (hC H.size) cw ⟨PW_blind, va_recv hK.1 hw.1 hc (wl_getE hk he), fun U hU hW => ⟨rfl, by rw [hU], by rw [hU]; exact hw.1, hK.at hw hU hW⟩⟩ rfl hn hl hst (lv_room hr) hdg hf) hw.2.1 (fun q _ h => Af_all hw h) (fun q h => Af_all hw h) (fun F' t H1 locs1 ht _ hpost hB _ _ hS => kk F' H1 locs1 hpost ⟨by rw [← ht]; exact hB, hS, hw.2.2⟩)
theorem x_callUP (X : CallFix p m c cc nL s args lw_g own) (hK : KW D cI cB cS A s) (hw : HW D A ad N F s H locs) {y : MethodName} {b : ByteArray} {n : Nat} {ret : Option FieldType} {fr lo k : Nat} {As : List Value} {v : Int32} (hC : Ci l D cI cB cS ad N y b n ret fr lo (.ref (ad k) :: As) F (pP v F)) {C : String} {index na : Nat} (cw : va_CU R s args own C y.cls index y y b n ret (Cond.code y b n ret :: lw_g) { frames := fr, cells := 0, slots := 0, locals := lo } 0 0 na) (hk : k < N) {ci : Nat} {fs : List Value} (he : F k = .inr (ci, fs)) {T : u_T} {nf : Nat} (hc : vwCl[ci]? = some (C, T, nf)) (hn : As.length = na) (hl : ls.size = nL) {st : List Value} (hst : st = As.reverse ++ .ref (ad k) :: rest) (hr : (rest.map fun v => v.category).sum ≤ 8) (hdg : decode cc pc = .ok (.invokevirtual index, 3)) (hf : cells ≤ R.cells ∧ slots ≤ R.slots)
    (kk : ∀ (H' : Heap) (locs' : List Loc), HW D A ad N F s H' locs' → W p l e R s m args below meth c H' locs' cells slots Q (F0 m (pc + 3) ls (.int v :: rest))) : W p l e R s m args below meth c H locs cells slots Q (F0 m pc ls st) :=
  va_calli (va_runU (As := As) (rest := rest) X (hC H.size) cw ⟨PW_blind, va_recv hK.1 hw.1 hc (wl_getE hk he), fun U hU hW => ⟨rfl, by rw [hU], by rw [hU]; exact hw.1, hK.at hw hU hW⟩⟩ rfl hn hl hst (lv_room hr) hdg hf) hw.2.1 (fun q _ h => Af_all hw h) (fun q h => Af_all hw h) (fun r F' t H1 locs1 ht _ hpost hB _ _ hS => by obtain ⟨rfl, rfl⟩ := hpost; exact kk H1 locs1 ⟨by rw [← ht]; exact hB, hS, hw.2.2⟩)
theorem x_callUv (X : CallFix p m c cc nL s args lw_g own) (hK : KW D cI cB cS A s) (hw : HW D A ad N F s H locs) {y : MethodName} {b : ByteArray} {n : Nat} {fr lo k : Nat} {As : List Value} {post : (Nat → va_E) → Prop} (hC : Cv l D cI cB cS ad N y b n fr lo (.ref (ad k) :: As) F post) {C : String} {index na : Nat} (cw : va_CU R s args own C y.cls index y y b n none (Cond.code y b n none :: lw_g) { frames := fr, cells := 0, slots := 0, locals := lo } 0 0 na) (hk : k < N) {ci : Nat} {fs : List Value} (he : F k = .inr (ci, fs)) {T : u_T} {nf : Nat} (hc : vwCl[ci]? = some (C, T, nf)) (hn : As.length = na) (hl : ls.size = nL) {st : List Value} (hst : st = As.reverse ++ .ref (ad k) :: rest) (hr : (rest.map fun v => v.category).sum ≤ 8) (hdg : decode cc pc = .ok (.invokevirtual index, 3)) (hf : cells ≤ R.cells ∧ slots ≤ R.slots)
    (kk : ∀ (F' : Nat → va_E) (H' : Heap) (locs' : List Loc), post F' → HW D A ad N F' s H' locs' → W p l e R s m args below meth c H' locs' cells slots Q (F0 m (pc + 3) ls rest)) : W p l e R s m args below meth c H locs cells slots Q (F0 m pc ls st) :=
  va_callv (va_runU (As := As) (rest := rest) X (hC H.size) cw ⟨PW_blind, va_recv hK.1 hw.1 hc (wl_getE hk he), fun U hU hW => ⟨rfl, by rw [hU], by rw [hU]; exact hw.1, hK.at hw hU hW⟩⟩ rfl hn hl hst (lv_room hr) hdg hf) hw.2.1 (fun q _ h => Af_all hw h) (fun q h => Af_all hw h) (fun F' t H1 locs1 ht _ hpost hB _ _ hS => kk F' H1 locs1 hpost ⟨by rw [← ht]; exact hB, hS, hw.2.2⟩)
/-- a boolean static of the JDK -/
theorem x_latin (X : CallFix p m c cc nL s args lw_g "java/lang/AbstractStringBuilder") (hK : KW D cI cB cS A s) (hw : HW D A ad N F s H locs) (hdg : decode cc pc = .ok (.getstatic 18, 3)) (kk : W p l e R s m args below meth c H locs cells slots Q (F0 m (pc + 3) ls (.int 1 :: rest))) : W p l e R s m args below meth c H locs cells slots Q (F0 m pc ls rest) :=
  va_gets X.1 X.2.1 hK.2.1.2.2.2.1 hw.2.1 X.2.2.2.1 (X.2.2.2.2 _ q191) (fun _ h => h) hdg kk
theorem x_baldN (X : CallFix p m c cc nL s args lw_g own) (hK : KW D cI cB cS A s) (hw : HW D A ad N F s H locs) {k n : Nat} (hk : k < N) {f : Nat → Int32} (he : F k = .inl (cB, n, .inl f)) {i : Int32} {j : Nat} (hi : i = nI j) (hj : j < n) (hn : n < 2 ^ 31) (hdg : decode cc pc = .ok (.baload, 1)) (kk : W p l e R s m args below meth c H locs cells slots Q (F0 m (pc + 1) ls (.int (f j) :: rest))) : W p l e R s m args below meth c H locs cells slots Q (F0 m pc ls (.int i :: .ref (ad k) :: rest)) := by
  subst hi
  refine va_bald X.1 X.2.1 hK.1 hw.1 k 1 (wl_getE hk he) rfl (vp_in_nI hj hn) hdg ?_
  rw [nI_clamp (by omega)]
  exact kk
theorem x_balen (X : CallFix p m c cc nL s args lw_g own) (hK : KW D cI cB cS A s) (hw : HW D A ad N F s H locs) {k n : Nat} (hk : k < N) {f : Nat → Int32} (he : F k = .inl (cB, n, .inl f)) (hdg : decode cc pc = .ok (.arraylength, 1)) (kk : W p l e R s m args below meth c H locs cells slots Q (F0 m (pc + 1) ls (.int (nI n) :: rest))) : W p l e R s m args below meth c H locs cells slots Q (F0 m pc ls (.ref (ad k) :: rest)) :=
  va_alen X.1 X.2.1 hK.1 hw.1 k 1 (wl_getE hk he) rfl rfl hdg kk
end Jdk
