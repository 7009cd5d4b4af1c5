section More2
variable {p : Program} {l : Launch} {e : Env} {R : Room} {s : State} {m : MethodId} {args : Array Value} {below : List Frame} {meth : Method} {c : Code} {H : Heap} {locs : List Loc} {cells slots : Nat} {Q : State → Prop} {cc : ByteArray} {nL pc : Nat} {own : String} {ls : Array Slot} {rest : List Value}
  {D : va_G} {cI cB cS : ClassId} {ad : Nat → Nat} {N : Nat} {F : Nat → va_E} {A : Nat → Prop}
/-- a static array of three numbers is loaded (a nest mate's), and read -/
theorem x_zget (X : CallFix p m c cc nL s args lw_g own) (hw : HW D A ad N F s H locs) {n host : String} {index t : Nat} (hz : va_Z "RegattaTimes" n "[I" (.ref t) A s s.heap) (hN : va_Nw (.fieldLinkNest own index "RegattaTimes" n "[I" host) s) (hdg : decode cc pc = .ok (.getstatic index, 3)) (kk : W p l e R s m args below meth c H locs cells slots Q (F0 m (pc + 3) ls (.ref t :: rest))) : W p l e R s m args below meth c H locs cells slots Q (F0 m pc ls rest) :=
  va_getsN X.1 X.2.1 hz hw.2.1 X.2.2.2.1 (hN.use rfl) (fun _ h => h) hdg kk
theorem x_zld (X : CallFix p m c cc nL s args lw_g own) (hw : HW D A ad N F s H locs) {t : Nat} {z : List Int32} (hT : va_T .int t 3 (zv z) A s s.heap) {i : Int32} {j : Nat} (hi : i = nI j) (hj : j < 3) (hdg : decode cc pc = .ok (.iaload, 1)) (kk : W p l e R s m args below meth c H locs cells slots Q (F0 m (pc + 1) ls (.int (z.getD j 0) :: rest))) : W p l e R s m args below meth c H locs cells slots Q (F0 m pc ls (.int i :: .ref t :: rest)) := by
  subst hi
  exact va_ti X.1 X.2.1 hT hw.2.1 (vp_in_nI hj (by omega)) (v := .int (z.getD j 0)) (by rw [nI_clamp (by omega)]; rfl) hdg kk
/-- a place of a row of references, one that holds an object of the world -/
theorem x_aald (X : CallFix p m c cc nL s args lw_g own) (hK : KW D cI cB cS A s) (hw : HW D A ad N F s H locs) {k n : Nat} (hk : k < N) {f : Nat → Option Nat} (he : F k = .inl (cS, n, .inr (.inr (.inr (.inr f))))) {i : Int32} {j : Nat} (hi : i = nI j) (hj : j < n) (hn : n < 2 ^ 31) {b : Nat} (hf : f j = some b) (hdg : decode cc pc = .ok (.aaload, 1)) (kk : W p l e R s m args below meth c H locs cells slots Q (F0 m (pc + 1) ls (.ref b :: rest))) : W p l e R s m args below meth c H locs cells slots Q (F0 m pc ls (.int i :: .ref (ad k) :: rest)) := by
  subst hi
  refine va_aldq X.1 X.2.1 hK.1 hw.1 k 2 (wl_getE hk he) rfl (vp_in_nI hj hn) hdg ?_
  rw [nI_clamp (by omega), hf]
  exact kk
end More2
def HiF (ad : Nat → Nat) (cI cS : ClassId) (F : Nat → va_E) (w d z : Nat) (hg : Nat → Nat → Int32) (ht : Nat → Nat → Nat → Int32) : Prop := F w = .inr (2, [.ref (ad (w + 1)), .int (nI d), .int (nI z)]) ∧ F (w + 1) = .inl (cS, 5, .inr (.inr (.inr (.inr (fun j => some (ad (w + 2 + 11 * j))))))) ∧ ∀ j, j < 5 → StF ad cI F (w + 2 + 11 * j) (hg j) (ht j)
theorem HiF.cg {ad : Nat → Nat} {cI cS : ClassId} {F F' : Nat → va_E} {w d z : Nat} {hg : Nat → Nat → Int32} {ht : Nat → Nat → Nat → Int32} (h : HiF ad cI cS F w d z hg ht) {lo hi : Nat} (hf : Fr F F' lo hi) (hd : w + 57 ≤ lo ∨ hi ≤ w) : HiF ad cI cS F' w d z hg ht := ⟨(hf _ (by omega)).trans h.1, (hf _ (by omega)).trans h.2.1, fun j hj => (h.2.2 j hj).cg hf (by omega)⟩
/-- one of the kept states is new -/
theorem HiF.sl {ad : Nat → Nat} {cI cS : ClassId} {F F' : Nat → va_E} {w d z j : Nat} {hg : Nat → Nat → Int32} {ht : Nat → Nat → Nat → Int32} {g : Nat → Int32} {t : Nat → Nat → Int32} (h : HiF ad cI cS F w d z hg ht) (hj : j < 5) (hs : StF ad cI F' (w + 2 + 11 * j) g t) (hf : Fr F F' (w + 2 + 11 * j) (w + 2 + 11 * j + 11)) : HiF ad cI cS F' w d z (va_up hg j g) (va_up ht j t) := by
  refine ⟨(hf _ (by omega)).trans h.1, (hf _ (by omega)).trans h.2.1, fun i hi => ?_⟩
  by_cases q : i = j
  · subst q; simpa [va_up] using hs
  · have := (h.2.2 i hi).cg hf (by omega)
    simpa [va_up, q] using this
theorem HiF.pt {ad : Nat → Nat} {cI cS : ClassId} {F F' : Nat → va_E} {w d z d1 z1 : Nat} {hg : Nat → Nat → Int32} {ht : Nat → Nat → Nat → Int32} {fs : List Value} (h : HiF ad cI cS F w d z hg ht) (he : F' = va_up F w (.inr (2, fs))) (hfs : fs = [.ref (ad (w + 1)), .int (nI d1), .int (nI z1)]) : HiF ad cI cS F' w d1 z1 hg ht := by
  have hf : Fr F F' w (w + 1) := fr_eq he (Nat.le_refl _) (Nat.lt_succ_self _)
  exact ⟨by rw [he, hfs]; simp [va_up], (hf _ (by omega)).trans h.2.1, fun j hj => (h.2.2 j hj).cg hf (by omega)⟩
def hn (d : Nat) : Nat := if d + 1 < 5 then d + 1 else 0
def hp (d : Nat) : Nat := if 0 < d then d - 1 else 4
theorem hn_lt (d : Nat) : hn d < 5 := by unfold hn; split <;> omega
theorem hp_lt {d : Nat} (h : d < 5) : hp d < 5 := by unfold hp; split <;> omega
theorem Met.ofWF {l : Launch} {y : MethodName} {ws ws' : List Cond} {rm : Room} {Pc : Array Value → State → Prop} {Qc : Array Value → State → Outcome → State → Prop} {mc ms : Nat} {free : Addr → Prop} {cc : ByteArray} {maxL : Nat} {ret : Option FieldType}
    (hy : plainFor y = true) (hw : ws = Cond.code y cc maxL ret :: ws')
    (body : ∀ p e s m args below meth c s₁, BodyLoose p l y (headSpec ws rm) cc maxL ret e s m args below meth c s₁ → c.maxLocals = maxL → Pc args s →
      W p l e (headSpec ws rm).room s m args below meth c s.heap [] 0 0 (MQ below Qc args s mc ms free) (entryFrame m args maxL)) : Met l y ws rm Pc Qc mc ms free := by
  refine MetFree.of_bodySF (code := cc) (maxLocals := maxL) (ret := ret) hy ?_ ?_
  · intro args s m h hn
    obtain ⟨meth, c, h1, h2, h3, h4, h5, h6, -, -⟩ := Cond.code_spec hn (atoms_spec (ws := ws) h _ (by rw [hw]; exact List.mem_cons_self))
    exact ⟨meth, c, h1, h2, h3, h4, h5, h6⟩
  · intro p e s m args below meth c s₁ B hml hP _
    have hh0 : s₁.heap = s.heap := by rw [B.state]; rfl
    obtain ⟨t, a1, o, b1, b2, b3⟩ := body p e s m args below meth c s₁ B hml hP s₁ hh0 (Stand.of_body B)
    exact ⟨t, o, a1, b1, b2, ⟨b3.1, b3.2⟩⟩
theorem x_metF {l : Launch} {D : va_G} {cI cB cS : ClassId} {ad : Nat → Nat} {N : Nat} {y : MethodName} {b : ByteArray} {n : Nat} {ret : Option FieldType} {fr lo : Nat} {av : List Value} {F : Nat → va_E} {post : Int32 → (Nat → va_E) → Prop} (hy : plainFor y = true) (hn : (lg_sl av).length ≤ n)
    (h : ∀ (p : Program) (e : Env) (s : State) (m : MethodId) (below : List Frame) (meth : Method) (c : Code), CallFix p m c b n s av.toArray lw_g y.cls → meth.sig.returnType = ret → meth.locks = false → KW D cI cB cS (Af ad N s.heap.size) s → HW D (Af ad N s.heap.size) ad N F s s.heap [] → ∀ ls, lv_has ls n (lv_args 0 av) → W p l e { frames := fr, cells := 0, slots := 0, locals := lo } s m av.toArray below meth c s.heap [] 0 0 (MQ below (va_Qi post (fun F' t => PO D ad N F' t) (Af ad N s.heap.size)) av.toArray s 0 0 (Af ad N s.heap.size)) (F0 m 0 ls [])) : Ci l D cI cB cS ad N y b n ret fr lo av F post := by
  intro sz
  refine Met.ofWF (cc := b) (maxL := n) (ret := ret) hy rfl ?_
  intro p e s m args below meth c s₁ B hml hv
  obtain ⟨rfl, hsz, hP, hK⟩ := hv
  subst hsz
  have hts0 := atoms_spec (ws := Cond.code y b n ret :: lw_g) B.pre
  rw [lg_entry_eq]
  exact h p e s m below meth c ⟨B.exec, B.bytes, hml, findClass_of_methodNamed B.named, fun w hw => hts0 w (List.mem_cons_of_mem _ hw)⟩ B.returns B.notSynchronized hK ⟨hP, va_S.rf, fun k h => Or.inl ⟨k, h, rfl⟩, fun q h => Or.inr h⟩ _ (lv_entry av hn)
theorem x_cwS2 {p : Program} {R : Room} {s : State} {m : MethodId} {args : Array Value} {c : Code} {cc : ByteArray} {nL : Nat} {own : String} (y : MethodName) (b : ByteArray) (n : Nat) (ret : Option FieldType) {index : Nat} (na : Nat) {fr lo : Nat} (X : CallFix p m c cc nL s args lw_g own) (h1 : Cond.methodLink own index y ∈ lw_g) (h2 : Cond.static y ∈ lw_g) (h4 : Cond.initialized y.cls ∈ lw_g) (h5 : Cond.code y b n ret ∈ lw_g) (hd : y.cls ≠ "java/lang/invoke/MethodHandle" ∧ y.cls ≠ "java/lang/invoke/VarHandle" ∧ (parseMethodDescriptor y.desc).map (fun d => d.parameters.length) = some na) (hR : fr + 1 ≤ R.frames ∧ 8 + (n + 11) + lo ≤ R.locals) : CallB R s args own index y b n ret (Cond.code y b n ret :: lw_g) { frames := fr, cells := 0, slots := 0, locals := lo } 0 0 na ∧ (Cond.static y).before args s = true :=
  ⟨callB_of na X.2.2.2.2 (fun w hw => by
    have hm : w ∈ lw_g := by
      rcases List.mem_cons.mp hw with rfl | h
      · exact h5
      · exact h
    exact ⟨hm, goodT w hm⟩) rfl rfl rfl (X.2.2.2.2 _ h4) (X.2.2.2.2 _ h1) hd hR, X.2.2.2.2 _ h2⟩
