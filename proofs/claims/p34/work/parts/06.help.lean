def bI (b : Bool) : Int32 := if b then nI 1 else nI 0
theorem bI_z {P : Prop} {_ : Decidable P} (h : bI (decide P) = 0) : ¬ P := by
  intro q
  simp only [bI, q, decide_true, if_true] at h
  exact absurd h (by decide)
theorem bI_nz {P : Prop} {_ : Decidable P} (h : ¬ bI (decide P) = 0) : P := by
  by_cases q : P
  · exact q
  · exact absurd (by simp only [bI, q, decide_false]; rfl) h
theorem nr_b (b : Bool) : narrow .boolean (.int (bI b)) = .int (bI b) := by cases b <;> decide +kernel
/-- a method that only answers -/
def pP (v : Int32) (F : Nat → va_E) : Int32 → (Nat → va_E) → Prop := fun r F' => r = v ∧ F' = F
/-- nothing has changed outside the places from lo up to hi -/
def Fr (F F' : Nat → va_E) (lo hi : Nat) : Prop := ∀ k, (k < lo ∨ hi ≤ k) → F' k = F k
theorem Fr.rf {F : Nat → va_E} {lo hi : Nat} : Fr F F lo hi := fun _ _ => rfl
theorem Fr.tr {F F1 F2 : Nat → va_E} {lo hi a b : Nat} (h1 : Fr F F1 lo hi) (h2 : Fr F1 F2 a b) (ha : lo ≤ a) (hb : b ≤ hi) : Fr F F2 lo hi := fun k hk => by
  rw [h2 k (by omega), h1 k hk]
theorem Fr.mono {F F1 : Nat → va_E} {lo hi a b : Nat} (h1 : Fr F F1 a b) (ha : lo ≤ a) (hb : b ≤ hi) : Fr F F1 lo hi := Fr.tr Fr.rf h1 ha hb
theorem Fr.up {F : Nat → va_E} {k : Nat} {e : va_E} {lo hi : Nat} (h1 : lo ≤ k) (h2 : k < hi) : Fr F (va_up F k e) lo hi := fun j hj => by
  have : j ≠ k := by omega
  simp [va_up, this]
section Help
variable {p : Program} {l : Launch} {e : Env} {R : Room} {s : State} {m : MethodId} {args : Array Value} {below : List Frame} {meth : Method} {c : Code} {H : Heap} {locs : List Loc} {cells slots : Nat} {Q : State → Prop} {cc : ByteArray} {nL pc : Nat} {own : String} {ls : Array Slot} {rest : List Value}
  {D : va_G} {cI cB cS : ClassId} {ad : Nat → Nat} {N : Nat} {F : Nat → va_E} {A : Nat → Prop}
theorem x_top {x y : Int32} (h : x = y) (k : W p l e R s m args below meth c H locs cells slots Q (F0 m pc ls (.int y :: rest))) : W p l e R s m args below meth c H locs cells slots Q (F0 m pc ls (.int x :: rest)) := h ▸ k
theorem x_ialdN (X : CallFix p m c cc nL s args lw_g own) (hK : KW D cI cB cS A s) (hw : HW D A ad N F s H locs) {k n : Nat} (hk : k < N) {f : Nat → Int32} (he : F k = .inl (cI, n, .inl f)) {i : Int32} {j : Nat} (hi : i = nI j) (hj : j < n) (hn : n < 2 ^ 31) (hdg : decode cc pc = .ok (.iaload, 1)) (kk : W p l e R s m args below meth c H locs cells slots Q (F0 m (pc + 1) ls (.int (f j) :: rest))) : W p l e R s m args below meth c H locs cells slots Q (F0 m pc ls (.int i :: .ref (ad k) :: rest)) := by
  subst hi
  refine x_iald X hK hw hk he (vp_in_nI hj hn) hdg ?_
  rw [nI_clamp (by omega)]
  exact kk
theorem x_iastN (X : CallFix p m c cc nL s args lw_g own) (hI : iN ad N) (hK : KW D cI cB cS A s) (hw : HW D A ad N F s H locs) {k n : Nat} (hk : k < N) {f : Nat → Int32} (he : F k = .inl (cI, n, .inl f)) {i x : Int32} {j : Nat} (hi : i = nI j) (hj : j < n) (hn : n < 2 ^ 31) (hdg : decode cc pc = .ok (.iastore, 1)) (kk : ∀ (H' : Heap) (locs' : List Loc), HW D A ad N (va_up F k (.inl (cI, n, .inl (upd f j x)))) s H' locs' → W p l e R s m args below meth c H' locs' cells slots Q (F0 m (pc + 1) ls rest)) : W p l e R s m args below meth c H locs cells slots Q (F0 m pc ls (.int x :: .int i :: .ref (ad k) :: rest)) := by
  subst hi
  refine x_iast X hI hK hw hk he (vp_in_nI hj hn) hdg ?_
  rw [nI_clamp (by omega)]
  exact kk
theorem x_callVP (X : CallFix p m c cc nL s args lw_g own) (hK : KW D cI cB cS A s) (hw : HW D A ad N F s H locs) {y : MethodName} {b : ByteArray} {n : Nat} {ret : Option FieldType} {fr lo k : Nat} {As : List Value} {v : Int32} (hC : Ci l D cI cB cS ad N y b n ret fr lo (.ref (ad k) :: As) F (pP v F)) {C : String} {index na : Nat} (cw : CallW R s args own C index y b n ret (Cond.code y b n ret :: lw_g) { frames := fr, cells := 0, slots := 0, locals := lo } 0 0 na) (hk : k < N) {ci : Nat} {fs : List Value} (he : F k = .inr (ci, fs)) {T : u_T} {nf : Nat} (hc : vwCl[ci]? = some (C, T, nf)) (hn : As.length = na) (hl : ls.size = nL) {st : List Value} (hst : st = As.reverse ++ .ref (ad k) :: rest) (hr : (rest.map fun v => v.category).sum ≤ 8) (hdg : decode cc pc = .ok (.invokevirtual index, 3)) (hf : cells ≤ R.cells ∧ slots ≤ R.slots)
    (kk : ∀ (H' : Heap) (locs' : List Loc), HW D A ad N F s H' locs' → W p l e R s m args below meth c H' locs' cells slots Q (F0 m (pc + 3) ls (.int v :: rest))) : W p l e R s m args below meth c H locs cells slots Q (F0 m pc ls st) :=
  x_callV X hK hw hC cw hk he hc hn hl hst hr hdg hf (fun r F' H' locs' hp hw' => by obtain ⟨rfl, rfl⟩ := hp; exact kk H' locs' hw')
theorem x_callSP (X : CallFix p m c cc nL s args lw_g own) (hK : KW D cI cB cS A s) (hw : HW D A ad N F s H locs) {y : MethodName} {b : ByteArray} {n : Nat} {ret : Option FieldType} {fr lo : Nat} {As : List Value} {v : Int32} (hC : Ci l D cI cB cS ad N y b n ret fr lo As F (pP v F)) {index na : Nat} (cw : CallB R s args own index y b n ret (Cond.code y b n ret :: lw_g) { frames := fr, cells := 0, slots := 0, locals := lo } 0 0 na ∧ (Cond.static y).before args s = true) (hn : As.length = na) (hl : ls.size = nL) {st : List Value} (hst : st = As.reverse ++ rest) (hr : (rest.map fun v => v.category).sum ≤ 8) (hdg : decode cc pc = .ok (.invokestatic index, 3)) (hf : cells ≤ R.cells ∧ slots ≤ R.slots)
    (kk : ∀ (H' : Heap) (locs' : List Loc), HW D A ad N F s H' locs' → W p l e R s m args below meth c H' locs' cells slots Q (F0 m (pc + 3) ls (.int v :: rest))) : W p l e R s m args below meth c H locs cells slots Q (F0 m pc ls st) :=
  x_callS X hK hw hC cw hn hl hst hr hdg hf (fun r F' H' locs' hp hw' => by obtain ⟨rfl, rfl⟩ := hp; exact kk H' locs' hw')
end Help
def TbF (ad : Nat → Nat) (cI : ClassId) (F : Nat → va_E) (k c n : Nat) (f : Nat → Int32) : Prop := F k = .inr (7, [.int (nI c), .ref (ad (k + 1))]) ∧ F (k + 1) = .inl (cI, n, .inl f)
def StF (ad : Nat → Nat) (cI : ClassId) (F : Nat → va_E) (b : Nat) (g : Nat → Int32) (t : Nat → Nat → Int32) : Prop := F b = .inr (6, [.int (g 0), .int (g 1), .int (g 2), .int (g 3), .int (g 4), .ref (ad (b + 1)), .ref (ad (b + 3)), .ref (ad (b + 5)), .ref (ad (b + 7)), .ref (ad (b + 9))]) ∧ TbF ad cI F (b + 1) 1 9 (t 0) ∧ TbF ad cI F (b + 3) 1 3 (t 1) ∧ TbF ad cI F (b + 5) 3 18 (t 2) ∧ TbF ad cI F (b + 7) 6 324 (t 3) ∧ TbF ad cI F (b + 9) 4 40 (t 4)
def CoF (ad : Nat → Nat) (F : Nat → va_E) (q b : Nat) : Prop := F q = .inr (1, [.ref (ad b)])
def JuF (ad : Nat → Nat) (F : Nat → va_E) (q b : Nat) : Prop := F q = .inr (3, [.ref (ad b)])
def ScF (ad : Nat → Nat) (cI : ClassId) (F : Nat → va_E) (q b : Nat) (tm pt sm tl : Nat → Int32) : Prop := F q = .inr (5, [.ref (ad b), .ref (ad (q + 1)), .ref (ad (q + 3)), .ref (ad (q + 5)), .ref (ad (q + 7))]) ∧ TbF ad cI F (q + 1) 1 9 tm ∧ TbF ad cI F (q + 3) 9 54 pt ∧ TbF ad cI F (q + 5) 4 36 sm ∧ TbF ad cI F (q + 7) 10 90 tl
def MoF (ad : Nat → Nat) (cI : ClassId) (F : Nat → va_E) (c : Nat) (s h sn tx k : Nat → Int32) : Prop := F c = .inr (9, [.ref (ad (c + 1)), .ref (ad (c + 2)), .int (k 0), .ref (ad (c + 3)), .int (k 1), .ref (ad (c + 4)), .int (k 2), .int (k 3), .int (k 4), .int (k 5), .int (k 6), .int (k 7)]) ∧ F (c + 1) = .inl (cI, 404, .inl s) ∧ F (c + 2) = .inl (cI, 1616, .inl h) ∧ F (c + 3) = .inl (cI, 404, .inl sn) ∧ F (c + 4) = .inl (cI, 80, .inl tx)
theorem TbF.cg {ad : Nat → Nat} {cI : ClassId} {F F' : Nat → va_E} {k c n : Nat} {f : Nat → Int32} (h : TbF ad cI F k c n f) {lo hi : Nat} (hf : Fr F F' lo hi) (hd : k + 2 ≤ lo ∨ hi ≤ k) : TbF ad cI F' k c n f := ⟨(hf _ (by omega)).trans h.1, (hf _ (by omega)).trans h.2⟩
theorem StF.cg {ad : Nat → Nat} {cI : ClassId} {F F' : Nat → va_E} {b : Nat} {g : Nat → Int32} {t : Nat → Nat → Int32} (h : StF ad cI F b g t) {lo hi : Nat} (hf : Fr F F' lo hi) (hd : b + 11 ≤ lo ∨ hi ≤ b) : StF ad cI F' b g t := ⟨(hf _ (by omega)).trans h.1, h.2.1.cg hf (by omega), h.2.2.1.cg hf (by omega), h.2.2.2.1.cg hf (by omega), h.2.2.2.2.1.cg hf (by omega), h.2.2.2.2.2.cg hf (by omega)⟩
theorem MoF.cg {ad : Nat → Nat} {cI : ClassId} {F F' : Nat → va_E} {c : Nat} {s h sn tx k : Nat → Int32} (hm : MoF ad cI F c s h sn tx k) {lo hi : Nat} (hf : Fr F F' lo hi) (hd : c + 5 ≤ lo ∨ hi ≤ c) : MoF ad cI F' c s h sn tx k := ⟨(hf _ (by omega)).trans hm.1, (hf _ (by omega)).trans hm.2.1, (hf _ (by omega)).trans hm.2.2.1, (hf _ (by omega)).trans hm.2.2.2.1, (hf _ (by omega)).trans hm.2.2.2.2⟩
theorem ScF.cg {ad : Nat → Nat} {cI : ClassId} {F F' : Nat → va_E} {q b : Nat} {tm pt sm tl : Nat → Int32} (h : ScF ad cI F q b tm pt sm tl) {lo hi : Nat} (hf : Fr F F' lo hi) (hd : q + 9 ≤ lo ∨ hi ≤ q) : ScF ad cI F' q b tm pt sm tl := ⟨(hf _ (by omega)).trans h.1, h.2.1.cg hf (by omega), h.2.2.1.cg hf (by omega), h.2.2.2.1.cg hf (by omega), h.2.2.2.2.cg hf (by omega)⟩
/-- the table k of a state has new numbers -/
theorem StF.tb0 {ad : Nat → Nat} {cI : ClassId} {F F' : Nat → va_E} {b : Nat} {g : Nat → Int32} {t : Nat → Nat → Int32} {f : Nat → Int32} (h : StF ad cI F b g t) (h1 : TbF ad cI F' (b + 1) 1 9 f) (hf : Fr F F' (b + 1) (b + 3)) : StF ad cI F' b g (va_up t 0 f) := ⟨(hf _ (by omega)).trans h.1, h1, h.2.2.1.cg hf (by omega), h.2.2.2.1.cg hf (by omega), h.2.2.2.2.1.cg hf (by omega), h.2.2.2.2.2.cg hf (by omega)⟩
theorem StF.tb1 {ad : Nat → Nat} {cI : ClassId} {F F' : Nat → va_E} {b : Nat} {g : Nat → Int32} {t : Nat → Nat → Int32} {f : Nat → Int32} (h : StF ad cI F b g t) (h1 : TbF ad cI F' (b + 3) 1 3 f) (hf : Fr F F' (b + 3) (b + 5)) : StF ad cI F' b g (va_up t 1 f) := ⟨(hf _ (by omega)).trans h.1, h.2.1.cg hf (by omega), h1, h.2.2.2.1.cg hf (by omega), h.2.2.2.2.1.cg hf (by omega), h.2.2.2.2.2.cg hf (by omega)⟩
theorem StF.tb2 {ad : Nat → Nat} {cI : ClassId} {F F' : Nat → va_E} {b : Nat} {g : Nat → Int32} {t : Nat → Nat → Int32} {f : Nat → Int32} (h : StF ad cI F b g t) (h1 : TbF ad cI F' (b + 5) 3 18 f) (hf : Fr F F' (b + 5) (b + 7)) : StF ad cI F' b g (va_up t 2 f) := ⟨(hf _ (by omega)).trans h.1, h.2.1.cg hf (by omega), h.2.2.1.cg hf (by omega), h1, h.2.2.2.2.1.cg hf (by omega), h.2.2.2.2.2.cg hf (by omega)⟩
theorem StF.tb3 {ad : Nat → Nat} {cI : ClassId} {F F' : Nat → va_E} {b : Nat} {g : Nat → Int32} {t : Nat → Nat → Int32} {f : Nat → Int32} (h : StF ad cI F b g t) (h1 : TbF ad cI F' (b + 7) 6 324 f) (hf : Fr F F' (b + 7) (b + 9)) : StF ad cI F' b g (va_up t 3 f) := ⟨(hf _ (by omega)).trans h.1, h.2.1.cg hf (by omega), h.2.2.1.cg hf (by omega), h.2.2.2.1.cg hf (by omega), h1, h.2.2.2.2.2.cg hf (by omega)⟩
theorem StF.tb4 {ad : Nat → Nat} {cI : ClassId} {F F' : Nat → va_E} {b : Nat} {g : Nat → Int32} {t : Nat → Nat → Int32} {f : Nat → Int32} (h : StF ad cI F b g t) (h1 : TbF ad cI F' (b + 9) 4 40 f) (hf : Fr F F' (b + 9) (b + 11)) : StF ad cI F' b g (va_up t 4 f) := ⟨(hf _ (by omega)).trans h.1, h.2.1.cg hf (by omega), h.2.2.1.cg hf (by omega), h.2.2.2.1.cg hf (by omega), h.2.2.2.2.1.cg hf (by omega), h1⟩
/-- a number of a state is put -/
theorem StF.pt {ad : Nat → Nat} {cI : ClassId} {F : Nat → va_E} {b : Nat} {g : Nat → Int32} {t : Nat → Nat → Int32} (h : StF ad cI F b g t) (j : Nat) (hj : j < 5) (v : Int32) (fs : List Value) (hfs : fs = [.int (va_up g j v 0), .int (va_up g j v 1), .int (va_up g j v 2), .int (va_up g j v 3), .int (va_up g j v 4), .ref (ad (b + 1)), .ref (ad (b + 3)), .ref (ad (b + 5)), .ref (ad (b + 7)), .ref (ad (b + 9))]) : StF ad cI (va_up F b (.inr (6, fs))) b (va_up g j v) t := by
  have hf : Fr F (va_up F b (.inr (6, fs))) b (b + 1) := Fr.up (Nat.le_refl _) (by omega)
  refine ⟨?_, h.2.1.cg hf (by omega), h.2.2.1.cg hf (by omega), h.2.2.2.1.cg hf (by omega), h.2.2.2.2.1.cg hf (by omega), h.2.2.2.2.2.cg hf (by omega)⟩
  rw [hfs]; simp [va_up]
/-- the row of a table, by its number -/
def tIx (c : Nat) (r q : Int32) : Int32 := r * nI c + q
def tIn (c n : Nat) (r q : Int32) : Prop := 0 ≤ tIx c r q ∧ tIx c r q < nI n
def tg (c n : Nat) (f : Nat → Int32) (r q : Int32) : Int32 := if 0 ≤ tIx c r q ∧ tIx c r q < nI n then f (tIx c r q).toNatClampNeg else 0
def tp (c n : Nat) (f : Nat → Int32) (r q v : Int32) : Nat → Int32 := if 0 ≤ tIx c r q ∧ tIx c r q < nI n then upd f (tIx c r q).toNatClampNeg v else f
theorem in_of {i : Int32} {n : Nat} (h0 : 0 ≤ i) (h1 : i < nI n) (hn : n < 2 ^ 31) : vp_in i n := by
  have a := Int32.le_iff_toInt_le.mp h0
  have b := Int32.lt_iff_toInt_lt.mp h1
  rw [nI_toInt hn] at b
  exact vp_in_iff.mpr ⟨by simpa using a, b⟩
