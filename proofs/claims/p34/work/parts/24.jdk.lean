def SbF (ad : Nat → Nat) (cB : ClassId) (F : Nat → va_E) (e cap n : Nat) (ml : Int32) (f : Nat → Int32) : Prop := F e = .inr (0, [.ref (ad (e + 1)), .int (nI 0), .int ml, .int (nI n)]) ∧ F (e + 1) = .inl (cB, cap, .inl f)
theorem SbF.cg {ad : Nat → Nat} {cB : ClassId} {F F' : Nat → va_E} {e cap n : Nat} {ml : Int32} {f : Nat → Int32} (h : SbF ad cB F e cap n ml f) {lo hi : Nat} (hf : Fr F F' lo hi) (hd : e + 2 ≤ lo ∨ hi ≤ e) : SbF ad cB F' e cap n ml f := ⟨(hf _ (by omega)).trans h.1, (hf _ (by omega)).trans h.2⟩
section Jdk
variable {p : Program} {l : Launch} {e : Env} {R : Room} {s : State} {m : MethodId} {args : Array Value} {below : List Frame} {meth : Method} {c : Code} {H : Heap} {locs : List Loc} {cells slots : Nat} {Q : State → Prop} {cc : ByteArray} {nL pc : Nat} {own : String} {ls : Array Slot} {rest : List Value}
  {D : va_G} {cI cB cS : ClassId} {ad : Nat → Nat} {N : Nat} {F : Nat → va_E} {A : Nat → Prop}
theorem x_cwSU (y : MethodName) (b : ByteArray) (n : Nat) (ret : Option FieldType) {index : Nat} (na : Nat) {fr lo : Nat} (X : CallFix p m c cc nL s args lw_g own) (h1 : Cond.methodLink own index y ∈ lw_g) (h2 : Cond.sameMethod y.cls y.cls y.name y.desc ∈ lw_g) (h3 : Cond.superclass own y.cls ∈ lw_g) (h4 : Cond.instanceMethod y ∈ lw_g) (h5 : Cond.initialized y.cls ∈ lw_g) (h6 : Cond.code y b n ret ∈ lw_g) (hd : y.name ≠ "<init>" ∧ (parseMethodDescriptor y.desc).map (fun d => d.parameters.length) = some na) (hR : fr + 1 ≤ R.frames ∧ 8 + (n + 11) + lo ≤ R.locals) : va_CS R s args own index y b n ret (Cond.code y b n ret :: lw_g) { frames := fr, cells := 0, slots := 0, locals := lo } 0 0 na :=
  va_cwSU na X.2.2.2.2 (fun w hw => by
    have hm : w ∈ lw_g := by
      rcases List.mem_append.mp hw with h | h
      · rcases List.mem_cons.mp h with rfl | h
        · exact h1
        rcases List.mem_cons.mp h with rfl | h
        · exact h2
        rcases List.mem_cons.mp h with rfl | h
        · exact h3
        rcases List.mem_cons.mp h with rfl | h
        · exact h4
        rcases List.mem_cons.mp h with rfl | h
        · exact h5
        cases h
      · rcases List.mem_cons.mp h with rfl | h
        · exact h6
        · exact h
    exact ⟨hm, goodT w hm⟩) rfl rfl rfl hd hR
theorem x_callSUP (X : CallFix p m c cc nL s args lw_g own) (hK : KW D cI cB cS A s) (hw : HW D A ad N F s H locs) {y : MethodName} {b : ByteArray} {n : Nat} {ret : Option FieldType} {fr lo k : Nat} {As : List Value} {v : Int32} (hC : Ci l D cI cB cS ad N y b n ret fr lo (.ref (ad k) :: As) F (pP v F)) {index na : Nat} (cw : va_CS R s args own index y b n ret (Cond.code y b n ret :: lw_g) { frames := fr, cells := 0, slots := 0, locals := lo } 0 0 na) (hk : k < N) {ci : Nat} {fs : List Value} (he : F k = .inr (ci, fs)) {C : String} {T : u_T} {nf : Nat} (hc : vwCl[ci]? = some (C, T, nf)) (hn : As.length = na) (hl : ls.size = nL) {st : List Value} (hst : st = As.reverse ++ .ref (ad k) :: rest) (hr : (rest.map fun v => v.category).sum ≤ 8) (hdg : decode cc pc = .ok (.invokespecial index, 3)) (hf : cells ≤ R.cells ∧ slots ≤ R.slots)
    (kk : ∀ (H' : Heap) (locs' : List Loc), HW D A ad N F s H' locs' → W p l e R s m args below meth c H' locs' cells slots Q (F0 m (pc + 3) ls (.int v :: rest))) : W p l e R s m args below meth c H locs cells slots Q (F0 m pc ls st) :=
  va_calli (va_runSU (As := As) (rest := rest) (hK.1.1 _ _ hc).2 X (hC H.size) cw ⟨PW_blind, va_recv hK.1 hw.1 hc (wl_getE hk he), fun U hU hW => ⟨rfl, by rw [hU], by rw [hU]; exact hw.1, hK.at hw hU hW⟩⟩ rfl hn hl hst (lv_room hr) hdg hf) hw.2.1 (fun q _ h => Af_all hw h) (fun q h => Af_all hw h) (fun r F' t H1 locs1 ht _ hpost hB _ _ hS => by obtain ⟨rfl, rfl⟩ := hpost; exact kk H1 locs1 ⟨by rw [← ht]; exact hB, hS, hw.2.2⟩)
/-- a boolean static of the JDK -/
theorem x_latin (X : CallFix p m c cc nL s args lw_g "java/lang/AbstractStringBuilder") (hK : KW D cI cB cS A s) (hw : HW D A ad N F s H locs) (hdg : decode cc pc = .ok (.getstatic 18, 3)) (kk : W p l e R s m args below meth c H locs cells slots Q (F0 m (pc + 3) ls (.int 1 :: rest))) : W p l e R s m args below meth c H locs cells slots Q (F0 m pc ls rest) :=
  va_gets X.1 X.2.1 hK.2.1.2.2.2 hw.2.1 X.2.2.2.1 (X.2.2.2.2 _ q191) (fun _ h => h) hdg kk
end Jdk
