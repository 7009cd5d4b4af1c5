theorem up_o {α : Type} {f : Nat → α} {k j : Nat} {e : α} (h : j ≠ k) : va_up f k e j = f j := by simp [va_up, h]
theorem up_a {α : Type} {f : Nat → α} {k : Nat} {e : α} : va_up f k e k = e := by simp [va_up]
/-- every place of a row holds a sign -/
def Byt (cap : Nat) (f : Nat → Int32) : Prop := ∀ j, j < cap → ∃ u, u < 128 ∧ f j = nI u
section Grow
variable {p : Program} {l : Launch} {e : Env} {R : Room} {s : State} {m : MethodId} {args : Array Value} {below : List Frame} {meth : Method} {c : Code} {H : Heap} {locs : List Loc} {cells slots : Nat} {Q : State → Prop} {cc : ByteArray} {nL pc : Nat} {own : String} {ls : Array Slot} {rest : List Value}
  {D : va_G} {cI cB cS : ClassId} {ad : Nat → Nat} {N : Nat} {F : Nat → va_E} {A : Nat → Prop}
end Grow
theorem x_metg {l : Launch} {D : va_G} {cI cB cS : ClassId} {ad : Nat → Nat} {N ce sl : Nat} {y : MethodName} {b : ByteArray} {n : Nat} {ret : Option FieldType} {fr lo : Nat} {av : List Value} {F : Nat → va_E} {Qc : Nat → Array Value → State → Outcome → State → Prop} (hy : plainName y.cls = true) (hn : (lg_sl av).length ≤ n)
    (h : ∀ (p : Program) (e : Env) (s : State) (m : MethodId) (below : List Frame) (meth : Method) (c : Code), CallFix p m c b n s av.toArray lw_g y.cls → meth.sig.returnType = ret → meth.locks = false → KW D cI cB cS (Af ad N s.heap.size) s → HW D (Af ad N s.heap.size) ad N F s s.heap [] → ∀ ls, lv_has ls n (lv_args 0 av) → W p l e { frames := fr, cells := ce, slots := sl, locals := lo } s m av.toArray below meth c s.heap [] 0 0 (MQ below (Qc s.heap.size) av.toArray s ce sl (Af ad N s.heap.size)) (F0 m 0 ls [])) (sz : Nat) : Met l y (Cond.code y b n ret :: lw_g) { frames := fr, cells := ce, slots := sl, locals := lo } (va_Pc av (fun U => U.heap.size = sz ∧ PW D cI cB cS ad N F U)) (Qc sz) ce sl (Af ad N sz) := by
  refine Met.ofW (cc := b) (maxL := n) (ret := ret) hy rfl ?_
  intro p e s m args below meth c s₁ B hml hv
  obtain ⟨rfl, hsz, hP, hK⟩ := hv
  subst hsz
  have hts0 := atoms_spec (ws := Cond.code y b n ret :: lw_g) B.pre
  rw [lg_entry_eq]
  exact h p e s m below meth c ⟨B.exec, B.bytes, hml, findClass_of_methodNamed B.named, fun w hw => hts0 w (List.mem_cons_of_mem _ hw)⟩ B.returns B.notSynchronized hK ⟨hP, va_S.rf, fun k h => Or.inl ⟨k, h, rfl⟩, fun q h => Or.inr h⟩ _ (lv_entry av hn)
