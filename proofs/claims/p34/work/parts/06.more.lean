theorem va_P_row {D : va_G} {ad : Nat → Nat} {N : Nat} {F : Nat → va_E} {H : Heap} {k n : Nat} {cA : ClassId} {f f1 : Nat → Int32} (h : va_P D vwCl (wl ad N (va_up F k (.inl (cA, n, .inl f)))) H) (hf : ∀ j, j < n → f j = f1 j) : va_P D vwCl (wl ad N (va_up F k (.inl (cA, n, .inl f1)))) H := by
  intro i q hq
  obtain ⟨hi, rfl⟩ := wl_mem hq
  have h0 := h i _ (wl_get hi)
  by_cases hk : i = k
  · subst hk
    simp only [va_up, if_true] at h0 ⊢
    have e : vp_cell cA (n, .inl f) = vp_cell cA (n, .inl f1) := by
      simp only [vp_cell, arrV]
      congr 1
      apply Array.ext
      · simp
      · intro j h1 h2
        simp only [Array.getElem_ofFn]
        rw [hf j (by simpa using h1)]
    show H[ad i]? = some (vp_cell cA (n, .inl f1))
    rw [← e]
    exact h0
  · simp only [va_up, if_neg hk] at h0 ⊢
    exact h0
section More
variable {p : Program} {l : Launch} {e : Env} {R : Room} {s : State} {m : MethodId} {args : Array Value} {below : List Frame} {meth : Method} {c : Code} {H : Heap} {locs : List Loc} {cells slots : Nat} {Q : State → Prop} {cc : ByteArray} {nL pc : Nat} {own : String} {ls : Array Slot} {rest : List Value}
  {D : va_G} {cI cB cS : ClassId} {ad : Nat → Nat} {N : Nat} {F : Nat → va_E} {A : Nat → Prop}
theorem x_put2 (X : CallFix p m c cc nL s args lw_g own) (hI : iN ad N) (hK : KW D cI cB cS A s) (hw : HW D A ad N F s H locs) {C ref : String} {T : u_T} {nf ci index : Nat} {k : Nat} (hk : k < N) {fs : List Value} (he : F k = .inr (ci, fs)) (hc : vwCl[ci]? = some (C, T, nf)) (hin : ∀ w ∈ u_ws C T nf, w ∈ lw_g) (ty0 : Nat → FieldType) (hty : ∀ k, k < nf → parseFieldDescriptor (T k).2.2.1 = some (ty0 k)) (hnm : ∀ a, a < nf → ∀ b, b < nf → a ≠ b → (T a).2.1 ≠ (T b).2.1) (j : Nat) (hj : j < nf) (hl : Cond.fieldLink own index ref (T j).2.1 (T j).2.2.1 ∈ lw_g) (hsame : ∀ x, s.fieldFound? (T j).1 (T j).2.1 (T j).2.2.1 = some x → s.fieldFound? ref (T j).2.1 (T j).2.2.1 = some x) (hfin : (T j).2.2.2 = false) {ty : FieldType} {v : Value} (hd : parseFieldDescriptor (T j).2.2.1 = some ty) (hn : narrow ty v = v) (hfit : fits ty v = true) (hlen : j < fs.length) (hdg : decode cc pc = .ok (.putfield index, 3))
    (kk : ∀ (F' : Nat → va_E) (H' : Heap) (locs' : List Loc), F' = va_up F k (.inr (ci, fs.set j v)) → HW D A ad N F' s H' locs' → W p l e R s m args below meth c H' locs' cells slots Q (F0 m (pc + 3) ls rest)) : W p l e R s m args below meth c H locs cells slots Q (F0 m pc ls (v :: .ref (ad k) :: rest)) :=
  x_put X hI hK hw hk he hc hin ty0 hty hnm j hj hl hsame hfin hd hn hfit hlen hdg (fun H' locs' h => kk _ H' locs' rfl h)
theorem x_iastN2 (X : CallFix p m c cc nL s args lw_g own) (hI : iN ad N) (hK : KW D cI cB cS A s) (hw : HW D A ad N F s H locs) {k n : Nat} (hk : k < N) {f : Nat → Int32} (he : F k = .inl (cI, n, .inl f)) {i x : Int32} {j : Nat} (hi : i = nI j) (hj : j < n) (hn : n < 2 ^ 31) (hdg : decode cc pc = .ok (.iastore, 1)) (kk : ∀ (F' : Nat → va_E) (H' : Heap) (locs' : List Loc), F' = va_up F k (.inl (cI, n, .inl (upd f j x))) → HW D A ad N F' s H' locs' → W p l e R s m args below meth c H' locs' cells slots Q (F0 m (pc + 1) ls rest)) : W p l e R s m args below meth c H locs cells slots Q (F0 m pc ls (.int x :: .int i :: .ref (ad k) :: rest)) :=
  x_iastN X hI hK hw hk he hi hj hn hdg (fun H' locs' h => kk _ H' locs' rfl h)
theorem x_min (X : CallFix p m c cc nL s args lw_g own) (hl : ls.size = nL) {index : Nat} (hlink : Cond.methodLink own index Lib.Math.min.name ∈ lw_g) (hframes : 1 ≤ R.frames) (hlocals : (rest.map fun v => v.category).sum + 13 ≤ R.locals) (hc : cells ≤ R.cells) (hs : slots ≤ R.slots) {x y : Int32} (hdg : decode cc pc = .ok (.invokestatic index, 3)) (kk : W p l e R s m args below meth c H locs cells slots Q (F0 m (pc + 3) ls (.int (if y < x then y else x) :: rest))) : W p l e R s m args below meth c H locs cells slots Q (F0 m pc ls (.int y :: .int x :: rest)) :=
  va_mmin X.1 X.2.1 (X.2.2.1.trans hl.symm) X.2.2.2.1 (X.2.2.2.2 _ hlink) (X.2.2.2.2 _ q266) (X.2.2.2.2 _ q4) (X.2.2.2.2 _ q267) hframes hlocals hc hs hdg kk
theorem x_copy (X : CallFix p m c cc nL s args lw_g own) (hI : iN ad N) (hK : KW D cI cB cS A s) (hw : HW D A ad N F s H locs) (hl : ls.size = nL) {k0 k1 n : Nat} (hk0 : k0 < N) (hk1 : k1 < N) {f g : Nat → Int32} (he0 : F k0 = .inl (cI, n, .inl f)) (he1 : F k1 = .inl (cI, n, .inl g)) (hn : n < 2 ^ 31) {index : Nat} (hlink : Cond.methodLink own index arraycopyName ∈ lw_g) (hframes : 1 ≤ R.frames) (hlocals : (rest.map fun v => v.category).sum + (nativeFrameWords "java/lang/System" "arraycopy" 5 + 11) ≤ R.locals) (hdg : decode cc pc = .ok (.invokestatic index, 3))
    (kk : ∀ (F' : Nat → va_E) (H' : Heap) (locs' : List Loc), F' = va_up F k1 (.inl (cI, n, .inl f)) → HW D A ad N F' s H' locs' → W p l e R s m args below meth c H' locs' cells slots Q (F0 m (pc + 3) ls rest)) : W p l e R s m args below meth c H locs cells slots Q (F0 m pc ls (.int (nI n) :: .int (nI 0) :: .ref (ad k1) :: .int (nI 0) :: .ref (ad k0) :: rest)) := by
  have hz : (nI 0).toNatClampNeg = 0 := nI_clamp (by decide)
  have hc : (nI n).toNatClampNeg = n := nI_clamp hn
  refine va_copyi X.1 X.2.1 (X.2.2.1.trans hl.symm) X.2.2.2.1 (X.2.2.2.2 _ hlink) (X.2.2.2.2 _ q270) (X.2.2.2.2 _ q269) (X.2.2.2.2 _ q15) hK.1 hw.1 (wl_DA hI hw.2.2.1) hw.2.1 k0 k1 0 0 (ty := .int) (wl_getE hk0 he0) (wl_getE hk1 he1) rfl rfl rfl (nI_pos (by decide)) (nI_pos (by decide)) (nI_pos hn) (by rw [hz, hc]; omega) (by rw [hz, hc]; omega) (fun _ _ => rfl) hframes hlocals hdg (fun H1 locs1 hP _ hS => kk _ H1 locs1 rfl ⟨?_, hS, hw.2.2⟩)
  rw [hz, hc, wl_set hk1] at hP
  exact va_P_row hP (fun j hj => by simp [va_cpy, hj])
end More
def c_ent (t : Nat → Nat → Int32) (race boat col : Int32) : Int32 := tg 6 324 (t 3) (race * nI 9 + boat) col
def c_lat (g : Nat → Int32) (t : Nat → Nat → Int32) (boat col : Int32) : Int32 := tg 6 324 (t 3) ((g 2 - nI 1) * nI 9 + boat) col
def c_start (g : Nat → Int32) (t : Nat → Nat → Int32) : Int32 := tg 3 18 (t 2) (g 2 - nI 1) (nI 2)
def c_cl (g : Nat → Int32) : Int32 := if g 3 = nI 1 then g 2 - nI 1 else g 2
def c_eu (t : Nat → Nat → Int32) (time race boat : Int32) : Int32 := time - tg 3 18 (t 2) race (nI 2) + c_ent t race boat (nI 3)
def c_el (t : Nat → Nat → Int32) (race boat : Int32) : Int32 := if c_ent t race boat (nI 0) = nI 3 then c_eu t (c_ent t race boat (nI 5)) race boat else (-5)
def c_co (t : Nat → Nat → Int32) (race boat : Int32) : Int32 := if c_ent t race boat (nI 0) = nI 3 ∧ 0 < tg 1 9 (t 0) boat (nI 0) then nI 100 * c_eu t (c_ent t race boat (nI 5)) race boat / tg 1 9 (t 0) boat (nI 0) else (-5)
def c_cnt (t : Nat → Nat → Int32) (race col v : Int32) : Nat → Int32
  | 0 => nI 0
  | i + 1 => if c_ent t race (nI i) col = v then c_cnt t race col v i + 1 else c_cnt t race col v i
def c_pl (g : Nat → Int32) (t : Nat → Nat → Int32) (boat col v : Int32) : Nat → Nat → Int32 := va_up t 3 (tp 6 324 (t 3) ((g 2 - nI 1) * nI 9 + boat) col v)
theorem fr_eq {F F' : Nat → va_E} {k : Nat} {e : va_E} {lo hi : Nat} (h : F' = va_up F k e) (h1 : lo ≤ k) (h2 : k < hi) : Fr F F' lo hi := h ▸ Fr.up h1 h2
theorem auto_st {ad : Nat → Nat} {cI : ClassId} {F F' : Nat → va_E} {b lo hi : Nat} {x : Int32 × (Nat → Int32) × (Nat → Nat → Int32)} {v : Int32} {g : Nat → Int32} {t : Nat → Nat → Int32} (h : x = (v, g, t)) (hF : StF ad cI F' b g t) (hf : Fr F F' lo hi) : v = x.1 ∧ StF ad cI F' b x.2.1 x.2.2 ∧ Fr F F' lo hi := by
  subst h; exact ⟨rfl, hF, hf⟩
