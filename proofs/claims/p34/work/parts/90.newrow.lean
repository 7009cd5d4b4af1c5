/-! a new row behind the world, and its end -/
theorem iN_push {ad : Nat → Nat} {N a : Nat} (h : iN ad N) (ha : ∀ k, k < N → ad k ≠ a) : iN (va_up ad N a) (N + 1) := fun i j hi hj e => by
  rcases Nat.lt_or_ge i N with q | q
  · rw [up_o (by omega)] at e
    rcases Nat.lt_or_ge j N with q2 | q2
    · rw [up_o (by omega)] at e; exact h i j q q2 e
    · rw [show j = N by omega, up_a] at e; exact absurd e (ha i q)
  · rw [show i = N by omega, up_a] at e
    rcases Nat.lt_or_ge j N with q2 | q2
    · rw [up_o (by omega)] at e; exact absurd e.symm (ha j q2)
    · omega
/-- the last cell takes the place j of a cell that is not wanted any more -/
theorem va_P_swap {D : va_G} {ad : Nat → Nat} {N j a : Nat} {F : Nat → va_E} {H : Heap} (h : va_P D vwCl (wl (va_up ad N a) (N + 1) F) H) (hj : j < N) : va_P D vwCl (wl (va_up ad j a) N (va_up F j (F N))) H := by
  intro i q hq
  obtain ⟨hi, rfl⟩ := wl_mem hq
  by_cases e : i = j
  · subst e
    have h0 := h N _ (wl_get (by omega))
    rw [up_a] at h0
    rw [up_a, up_a]
    exact h0
  · have h0 := h i _ (wl_get (by omega))
    rw [up_o (by omega)] at h0
    rw [up_o e, up_o e]
    exact h0
theorem iN_swap {ad : Nat → Nat} {N j a : Nat} (h : iN ad N) (ha : ∀ k, k < N → ad k ≠ a) : iN (va_up ad j a) N := fun i i2 hi hi2 e => by
  by_cases q : i = j
  · rw [q, up_a] at e
    by_cases q2 : i2 = j
    · omega
    · rw [up_o q2] at e; exact absurd e.symm (ha i2 hi2)
  · rw [up_o q] at e
    by_cases q2 : i2 = j
    · rw [q2, up_a] at e; exact absurd e (ha i hi)
    · rw [up_o q2] at e; exact h i i2 hi hi2 e
theorem shl0 (x : Int32) : x <<< (nI 0 &&& 31) = x := by
  have : (nI 0 &&& 31 : Int32) = 0 := by decide
  rw [this]; simp
theorem wl_pushA {ad : Nat → Nat} {N : Nat} {F : Nat → va_E} {e : va_E} {a : Nat} : wl (va_up ad N a) (N + 1) (va_up F N e) = wl ad N F ++ [(a, e)] := by
  unfold wl
  rw [List.range_succ, List.map_append]
  congr 1
  · apply List.map_congr_left
    intro k hk
    have : k ≠ N := by have := List.mem_range.mp hk; omega
    simp [va_up, this]
  · simp [va_up]
section Ad
variable {ad ad' : Nat → Nat} {cI cS : ClassId} {F F' : Nat → va_E}
theorem TbF.ade {k c n : Nat} {f : Nat → Int32} (ha : ∀ k, k ≠ 115 → ad' k = ad k) (hF : ∀ k, k < 114 → F' k = F k) (h : TbF ad cI F k c n f) (hk : k + 2 ≤ 112) : TbF ad' cI F' k c n f := by
  refine ⟨?_, (hF _ (by omega)).trans h.2⟩
  have := h.1
  rw [← hF k (by omega), ← ha (k + 1) (by omega)] at this
  exact this
theorem StF.ade {b : Nat} {g : Nat → Int32} {t : Nat → Nat → Int32} (ha : ∀ k, k ≠ 115 → ad' k = ad k) (hF : ∀ k, k < 114 → F' k = F k) (h : StF ad cI F b g t) (hb : b + 11 ≤ 112) : StF ad' cI F' b g t := by
  refine ⟨?_, h.2.1.ade ha hF (by omega), h.2.2.1.ade ha hF (by omega), h.2.2.2.1.ade ha hF (by omega), h.2.2.2.2.1.ade ha hF (by omega), h.2.2.2.2.2.ade ha hF (by omega)⟩
  have := h.1
  rw [← hF b (by omega), ← ha (b + 1) (by omega), ← ha (b + 3) (by omega), ← ha (b + 5) (by omega), ← ha (b + 7) (by omega), ← ha (b + 9) (by omega)] at this
  exact this
theorem ScF.ade {q b : Nat} {tm pt sm tl : Nat → Int32} (ha : ∀ k, k ≠ 115 → ad' k = ad k) (hF : ∀ k, k < 114 → F' k = F k) (h : ScF ad cI F q b tm pt sm tl) (hq : q + 9 ≤ 112) (hb : b < 112) : ScF ad' cI F' q b tm pt sm tl := by
  refine ⟨?_, h.2.1.ade ha hF (by omega), h.2.2.1.ade ha hF (by omega), h.2.2.2.1.ade ha hF (by omega), h.2.2.2.2.ade ha hF (by omega)⟩
  have := h.1
  rw [← hF q (by omega), ← ha b (by omega), ← ha (q + 1) (by omega), ← ha (q + 3) (by omega), ← ha (q + 5) (by omega), ← ha (q + 7) (by omega)] at this
  exact this
theorem ClF.ade {hs : Int32} {g : Nat → Int32} {t : Nat → Nat → Int32} {d z : Nat} {hg : Nat → Nat → Int32} {ht : Nat → Nat → Nat → Int32} {g3 : Nat → Int32} {t3 : Nat → Nat → Int32} (ha : ∀ k, k ≠ 115 → ad' k = ad k) (hF : ∀ k, k < 114 → F' k = F k) (h : ClF ad cI cS F 0 hs g t d z hg ht g3 t3) : ClF ad' cI cS F' 0 hs g t d z hg ht g3 t3 := by
  obtain ⟨h1, h2, h3, h4, h5, h6, ⟨tm1, pt1, sm1, tl1, h7⟩, ⟨g2, t2, h8⟩, tm2, pt2, sm2, tl2, h9⟩ := h
  refine ⟨?_, h2.ade ha hF (by omega), ?_, ?_, ⟨?_, ?_, fun j hj => (h5.2.2 j hj).ade ha hF (by omega)⟩, h6.ade ha hF (by omega), ⟨tm1, pt1, sm1, tl1, h7.ade ha hF (by omega) (by omega)⟩, ⟨g2, t2, h8.ade ha hF (by omega)⟩, tm2, pt2, sm2, tl2, h9.ade ha hF (by omega) (by omega)⟩
  · unfold MaF at h1 ⊢
    rw [← hF 0 (by omega), ← ha (0 + 1) (by omega), ← ha (0 + 12) (by omega), ← ha (0 + 13) (by omega), ← ha (0 + 14) (by omega), ← ha (0 + 23) (by omega), ← ha (0 + 34) (by omega), ← ha (0 + 43) (by omega), ← ha (0 + 100) (by omega), ← ha (0 + 111) (by omega)] at h1
    exact h1
  · unfold CoF at h3 ⊢
    rw [← hF (0 + 12) (by omega), ← ha (0 + 1) (by omega)] at h3
    exact h3
  · unfold JuF at h4 ⊢
    rw [← hF (0 + 13) (by omega), ← ha (0 + 1) (by omega)] at h4
    exact h4
  · have := h5.1
    rw [← hF (0 + 43) (by omega), ← ha (0 + 43 + 1) (by omega)] at this
    exact this
  · have := h5.2.1
    rw [← hF (0 + 43 + 1) (by omega)] at this
    rw [this]
    have e : (fun j => some (ad (0 + 43 + 2 + 11 * j))) = fun j => some (ad' (0 + 43 + 2 + 11 * j)) := funext fun j => by rw [ha _ (by omega)]
    rw [e]
theorem LgF.ade {q n : Nat} {cB : ClassId} {tx : Nat → Nat} (ha : ∀ k, k ≠ 115 → ad' k = ad k) (hF : ∀ k, k < 114 → F' k = F k) (hq : q + 3 ≤ 114) (h : LgF ad cB F q n tx) : LgF ad' cB F' q n tx := by
  obtain ⟨h1, cap, ml, f, h2, h3⟩ := h
  refine ⟨?_, cap, ml, f, ⟨?_, ?_⟩, h3⟩
  · unfold LoF at h1 ⊢
    rw [hF q (by omega), ha (q + 1) (by omega)]; exact h1
  · rw [hF (q + 1) (by omega), ha (q + 1 + 1) (by omega)]; exact h2.1
  · rw [hF (q + 1 + 1) (by omega)]; exact h2.2
theorem OB.ade {cB : ClassId} {hs : Int32} {A A3 : Nat → Nat} (ha : ∀ k, k ≠ 115 → ad' k = ad k) (hF : ∀ k, k < 114 → F' k = F k) (h : OB ad cI cB cS F hs A A3) : OB ad' cI cB cS F' hs A A3 := by
  obtain ⟨g, t, d, z, hg, ht, g3, t3, n, tx, hC, h1, h2, hL, h3⟩ := h
  exact ⟨g, t, d, z, hg, ht, g3, t3, n, tx, hC.ade ha hF, h1, h2, hL.ade ha hF (by omega), h3⟩
end Ad
theorem ACT.ade {ad ad' : Nat → Nat} {cI cB cS : ClassId} {F F' : Nat → va_E} {c : Nat} {A : Nat → Nat} (ha : ∀ k, k ≠ 115 → ad' k = ad k) (hF : ∀ k, k < 114 → F' k = F k) (h : ACT ad cI cB cS F c A) : ACT ad' cI cB cS F' c A := by
  obtain ⟨B, hs, A3, h1, h2, h3, h4⟩ := h
  exact ⟨B, hs, A3, h1, h2, h3, h4.ade ha hF⟩
/-- the cells behind the object stay, but the new row -/
def FrD (F F' : Nat → va_E) : Prop := ∀ k, 111 ≤ k → k < 115 → F' k = F k
theorem FrD.tr {F F1 F2 : Nat → va_E} {lo hi : Nat} (h : FrD F F1) (hf : Fr F1 F2 lo hi) (h1 : hi ≤ 111 ∨ 115 ≤ lo) (_ : 0 ≤ lo) : FrD F F2 := fun k k1 k2 => (hf k (by omega)).trans (h k k1 k2)
section New
variable {p : Program} {l : Launch} {e : Env} {R : Room} {s : State} {m : MethodId} {args : Array Value} {below : List Frame} {meth : Method} {c : Code} {H : Heap} {locs : List Loc} {cells slots : Nat} {Q : State → Prop} {cc : ByteArray} {nL pc : Nat} {own : String} {ls : Array Slot} {rest : List Value}
  {D : va_G} {cI cB cS : ClassId} {ad : Nat → Nat} {N : Nat} {F : Nat → va_E} {A : Nat → Prop}
theorem x_newiG (X : CallFix p m c cc nL s args lw_g own) (hK : KW D cI cB cS A s) (hI : iN ad N) (hw : HW D A ad N F s H locs) {n : Int32} {N' : Nat} (hn : n = nI N') (hb : N' < 2 ^ 27) (hcells : cells + 1 ≤ R.cells) (hslots : slots + N' ≤ R.slots) (hdg : decode cc pc = .ok (.newarray .int, 2))
    (kk : ∀ (a : Nat) (F' : Nat → va_E) (H' : Heap), s.heap.size ≤ a → (∀ k, k < N → ad k ≠ a) → F' = va_up F N (.inl (cI, N', .inl (fun _ => 0))) → HW D A (va_up ad N a) (N + 1) F' s H' locs → W p l e R s m args below meth c H' locs (cells + 1) (slots + N') Q (F0 m (pc + 2) ls (.ref a :: rest))) : W p l e R s m args below meth c H locs cells slots Q (F0 m pc ls (.int n :: rest)) := by
  subst hn
  have hfc : s.vm.findClass ("[" ++ (newarray.typeOf .int).toString) = some cI := (hK.1.2 0 (cI, .int) rfl).2
  refine va_newaK (atype := .int) X.1 X.2.1 (X.2.2.2.2 _ q50) rfl hdg rfl (nI_pos (by omega)) (nI_clamp (by omega)) (by show N' * 4 ≤ _; omega) hcells hslots rfl fun H1 cA' e1 z1 o1 _ hNm => ?_
  cases hfc.symm.trans hNm
  have hk : ∀ (k : Nat) (x : Nat × va_E), (wl ad N F)[k]? = some x → H1[x.1]? = H[x.1]? := fun k x hx => o1 x.1 ((hw.1 k x hx).lt)
  refine kk H.size _ H1 hw.2.1.1 (fun k hk => by have : ad k < H.size := (hw.1 k _ (wl_get hk)).lt; omega) rfl ⟨?_, ⟨Nat.le_trans hw.2.1.1 (by omega), fun x h1 h2 => (o1 x (by have := hw.2.1.1; omega)).trans (hw.2.1.2.1 x h1 h2), hw.2.1.2.2⟩, fun k hk1 => ?_, hw.2.2.2⟩
  · rw [wl_pushA]
    refine (hw.1.kept hk).app (fun k x hx => ?_)
    have hzz : k < 1 := (List.getElem?_eq_some_iff.mp hx).1
    rw [show k = 0 by omega] at hx
    cases hx
    exact e1
  · rcases Nat.lt_or_ge k N with q | q
    · rw [up_o (by omega)]; exact hw.2.2.1 k q
    · rw [show k = N by omega, up_a]
      exact hw.2.2.2 _ hw.2.1.1
/-- a method that makes one row of nine numbers -/
def Cn (l : Launch) (D : va_G) (cI cB cS : ClassId) (ad : Nat → Nat) (N : Nat) (y : MethodName) (b : ByteArray) (n : Nat) (ret : Option FieldType) (fr lo : Nat) (av : List Value) (F : Nat → va_E) (post : Int32 → (Nat → va_E) → Prop) : Prop :=
  ∀ sz, Met l y (Cond.code y b n ret :: lw_g) { frames := fr, cells := 1, slots := 9, locals := lo } (va_Pc av (fun U => U.heap.size = sz ∧ PW D cI cB cS ad N F U)) (va_Qi post (fun F' t => PO D ad N F' t) (Af ad N sz)) 1 9 (Af ad N sz)
theorem x_callSn (X : CallFix p m c cc nL s args lw_g own) (hK : KW D cI cB cS A s) (hw : HW D A ad N F s H locs) {y : MethodName} {b : ByteArray} {n : Nat} {ret : Option FieldType} {fr lo : Nat} {As : List Value} {post : Int32 → (Nat → va_E) → Prop} (hC : Cn l D cI cB cS ad N y b n ret fr lo As F post) {index na : Nat} (cw : CallB R s args own index y b n ret (Cond.code y b n ret :: lw_g) { frames := fr, cells := 1, slots := 9, locals := lo } 1 9 na ∧ (Cond.static y).before args s = true) (hn : As.length = na) (hl : ls.size = nL) {st : List Value} (hst : st = As.reverse ++ rest) (hr : (rest.map fun v => v.category).sum ≤ 8) (hdg : decode cc pc = .ok (.invokestatic index, 3)) (hf : cells + 1 ≤ R.cells ∧ slots + 9 ≤ R.slots)
    (kk : ∀ (r : Int32) (F' : Nat → va_E) (H' : Heap) (locs' : List Loc), post r F' → HW D A ad N F' s H' locs' → W p l e R s m args below meth c H' locs' (cells + 1) (slots + 9) Q (F0 m (pc + 3) ls (.int r :: rest))) : W p l e R s m args below meth c H locs cells slots Q (F0 m pc ls st) :=
  va_calli (va_runS (As := As) (rest := rest) X (hC H.size) cw ⟨PW_blind, fun U hU hW => ⟨rfl, by rw [hU], by rw [hU]; exact hw.1, hK.at hw hU hW⟩⟩ rfl hn hl hst (lv_room hr) hdg hf) hw.2.1 (fun q _ h => Af_all hw h) (fun q h => Af_all hw h) (fun r F' t H1 locs1 ht _ hpost hB _ _ hS => kk r F' H1 locs1 hpost ⟨by rw [← ht]; exact hB, hS, hw.2.2⟩)
theorem x_cwSn (y : MethodName) (b : ByteArray) (n : Nat) (ret : Option FieldType) {index : Nat} (na : Nat) {fr lo : Nat} (X : CallFix p m c cc nL s args lw_g own) (h1 : Cond.methodLink own index y ∈ lw_g) (h2 : Cond.static y ∈ lw_g) (h4 : Cond.initialized own ∈ lw_g) (h5 : Cond.code y b n ret ∈ lw_g) (hd : y.cls = own ∧ y.cls ≠ "java/lang/invoke/MethodHandle" ∧ y.cls ≠ "java/lang/invoke/VarHandle" ∧ (parseMethodDescriptor y.desc).map (fun d => d.parameters.length) = some na) (hR : fr + 1 ≤ R.frames ∧ 8 + (n + 11) + lo ≤ R.locals) : CallB R s args own index y b n ret (Cond.code y b n ret :: lw_g) { frames := fr, cells := 1, slots := 9, locals := lo } 1 9 na ∧ (Cond.static y).before args s = true :=
  cwS na X.2.2.2.2 (mem_wsS h1 h2 h4 h5) rfl rfl rfl hd hR
end New
/-- the world without its last row -/
theorem HW.drop {D : va_G} {A : Nat → Prop} {ad ad' : Nat → Nat} {N : Nat} {F F' : Nat → va_E} {s : State} {H : Heap} {locs : List Loc} (hw : HW D A ad (N + 1) F s H locs) (ha : ∀ k, k < N → ad' k = ad k) (hF : ∀ k, k < N → F' k = F k) : HW D A ad' N F' s H locs := by
  refine ⟨va_P.by hw.1 (fun k => k) (fun k q hk => ?_), hw.2.1, fun k hk => by rw [ha k hk]; exact hw.2.2.1 k (by omega), hw.2.2.2⟩
  unfold wl at hk ⊢
  rw [List.getElem?_map] at hk ⊢
  by_cases h : k < N
  · rw [List.getElem?_range h] at hk
    rw [List.getElem?_range (by omega)]
    rw [← hk]
    show some (ad k, F k) = some (ad' k, F' k)
    rw [ha k h, hF k h]
  · rw [List.getElem?_eq_none (by rw [List.length_range]; omega)] at hk
    cases hk
