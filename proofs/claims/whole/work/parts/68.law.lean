/-! the law: what holds before each of its calls -/
theorem ClF.cg {ad : Nat → Nat} {cI cS : ClassId} {F F' : Nat → va_E} {q : Nat} {hs : Int32} {g : Nat → Int32} {t : Nat → Nat → Int32} {d z : Nat} {hg : Nat → Nat → Int32} {ht : Nat → Nat → Nat → Int32} {g3 : Nat → Int32} {t3 : Nat → Nat → Int32} (h : ClF ad cI cS F q hs g t d z hg ht g3 t3) {lo hi : Nat} (hf : Fr F F' lo hi) (hd : q + 111 ≤ lo ∨ hi ≤ q) : ClF ad cI cS F' q hs g t d z hg ht g3 t3 := by
  obtain ⟨h1, h2, h3, h4, h5, h6, ⟨tm1, pt1, sm1, tl1, h7⟩, ⟨g2, t2, h8⟩, tm2, pt2, sm2, tl2, h9⟩ := h
  exact ⟨(hf _ (by omega)).trans h1, h2.cg hf (by omega), (hf _ (by omega)).trans h3, (hf _ (by omega)).trans h4, ⟨(hf _ (by omega)).trans h5.1, (hf _ (by omega)).trans h5.2.1, fun j hj => (h5.2.2 j hj).cg hf (by omega)⟩, h6.cg hf (by omega), ⟨tm1, pt1, sm1, tl1, h7.cg hf (by omega)⟩, ⟨g2, t2, h8.cg hf (by omega)⟩, tm2, pt2, sm2, tl2, h9.cg hf (by omega)⟩
theorem LgF.cg {ad : Nat → Nat} {cB : ClassId} {F F' : Nat → va_E} {q n : Nat} {tx : Nat → Nat} (h : LgF ad cB F q n tx) {lo hi : Nat} (hf : Fr F F' lo hi) (hd : q + 3 ≤ lo ∨ hi ≤ q) : LgF ad cB F' q n tx := by
  obtain ⟨h1, cap, ml, f, h2, h3⟩ := h
  exact ⟨(hf _ (by omega)).trans h1, cap, ml, f, ⟨(hf _ (by omega)).trans h2.1, (hf _ (by omega)).trans h2.2⟩, h3⟩
section Ad
variable {ad ad' : Nat → Nat} {cI cS : ClassId} {F F' : Nat → va_E}
theorem TbF.adc {k c n : Nat} {f : Nat → Int32} (ha : ∀ k, k ≠ 113 → ad' k = ad k) (hF : ∀ k, k ≠ 112 → k ≠ 113 → F' k = F k) (h : TbF ad cI F k c n f) (hk : k + 2 ≤ 112) : TbF ad' cI F' k c n f := by
  refine ⟨?_, (hF _ (by omega) (by omega)).trans h.2⟩
  have := h.1
  rw [← hF k (by omega) (by omega), ← ha (k + 1) (by omega)] at this
  exact this
theorem StF.adc {b : Nat} {g : Nat → Int32} {t : Nat → Nat → Int32} (ha : ∀ k, k ≠ 113 → ad' k = ad k) (hF : ∀ k, k ≠ 112 → k ≠ 113 → F' k = F k) (h : StF ad cI F b g t) (hb : b + 11 ≤ 112) : StF ad' cI F' b g t := by
  refine ⟨?_, h.2.1.adc ha hF (by omega), h.2.2.1.adc ha hF (by omega), h.2.2.2.1.adc ha hF (by omega), h.2.2.2.2.1.adc ha hF (by omega), h.2.2.2.2.2.adc ha hF (by omega)⟩
  have := h.1
  rw [← hF b (by omega) (by omega), ← ha (b + 1) (by omega), ← ha (b + 3) (by omega), ← ha (b + 5) (by omega), ← ha (b + 7) (by omega), ← ha (b + 9) (by omega)] at this
  exact this
theorem ScF.adc {q b : Nat} {tm pt sm tl : Nat → Int32} (ha : ∀ k, k ≠ 113 → ad' k = ad k) (hF : ∀ k, k ≠ 112 → k ≠ 113 → F' k = F k) (h : ScF ad cI F q b tm pt sm tl) (hq : q + 9 ≤ 112) (hb : b < 112) : ScF ad' cI F' q b tm pt sm tl := by
  refine ⟨?_, h.2.1.adc ha hF (by omega), h.2.2.1.adc ha hF (by omega), h.2.2.2.1.adc ha hF (by omega), h.2.2.2.2.adc ha hF (by omega)⟩
  have := h.1
  rw [← hF q (by omega) (by omega), ← ha b (by omega), ← ha (q + 1) (by omega), ← ha (q + 3) (by omega), ← ha (q + 5) (by omega), ← ha (q + 7) (by omega)] at this
  exact this
theorem ClF.adc {hs : Int32} {g : Nat → Int32} {t : Nat → Nat → Int32} {d z : Nat} {hg : Nat → Nat → Int32} {ht : Nat → Nat → Nat → Int32} {g3 : Nat → Int32} {t3 : Nat → Nat → Int32} (ha : ∀ k, k ≠ 113 → ad' k = ad k) (hF : ∀ k, k ≠ 112 → k ≠ 113 → F' k = F k) (h : ClF ad cI cS F 0 hs g t d z hg ht g3 t3) : ClF ad' cI cS F' 0 hs g t d z hg ht g3 t3 := by
  obtain ⟨h1, h2, h3, h4, h5, h6, ⟨tm1, pt1, sm1, tl1, h7⟩, ⟨g2, t2, h8⟩, tm2, pt2, sm2, tl2, h9⟩ := h
  refine ⟨?_, h2.adc ha hF (by omega), ?_, ?_, ⟨?_, ?_, fun j hj => (h5.2.2 j hj).adc ha hF (by omega)⟩, h6.adc ha hF (by omega), ⟨tm1, pt1, sm1, tl1, h7.adc ha hF (by omega) (by omega)⟩, ⟨g2, t2, h8.adc ha hF (by omega)⟩, tm2, pt2, sm2, tl2, h9.adc ha hF (by omega) (by omega)⟩
  · unfold MaF at h1 ⊢
    rw [← hF 0 (by omega) (by omega), ← ha (0 + 1) (by omega), ← ha (0 + 12) (by omega), ← ha (0 + 13) (by omega), ← ha (0 + 14) (by omega), ← ha (0 + 23) (by omega), ← ha (0 + 34) (by omega), ← ha (0 + 43) (by omega), ← ha (0 + 100) (by omega), ← ha (0 + 111) (by omega)] at h1
    exact h1
  · unfold CoF at h3 ⊢
    rw [← hF (0 + 12) (by omega) (by omega), ← ha (0 + 1) (by omega)] at h3
    exact h3
  · unfold JuF at h4 ⊢
    rw [← hF (0 + 13) (by omega) (by omega), ← ha (0 + 1) (by omega)] at h4
    exact h4
  · have := h5.1
    rw [← hF (0 + 43) (by omega) (by omega), ← ha (0 + 43 + 1) (by omega)] at this
    exact this
  · have := h5.2.1
    rw [← hF (0 + 43 + 1) (by omega) (by omega)] at this
    rw [this]
    have e : (fun j => some (ad (0 + 43 + 2 + 11 * j))) = fun j => some (ad' (0 + 43 + 2 + 11 * j)) := funext fun j => by rw [ha _ (by omega)]
    rw [e]
theorem MoF.adc {a h sn tx k : Nat → Int32} (ha : ∀ k, k ≠ 113 → ad' k = ad k) (hF : ∀ k, k ≠ 112 → k ≠ 113 → F' k = F k) (hm : MoF ad cI F 114 a h sn tx k) : MoF ad' cI F' 114 a h sn tx k := by
  obtain ⟨h1, h2, h3, h4, h5⟩ := hm
  refine ⟨?_, (hF _ (by omega) (by omega)).trans h2, (hF _ (by omega) (by omega)).trans h3, (hF _ (by omega) (by omega)).trans h4, (hF _ (by omega) (by omega)).trans h5⟩
  rw [← hF 114 (by omega) (by omega), ← ha (114 + 1) (by omega), ← ha (114 + 2) (by omega), ← ha (114 + 3) (by omega), ← ha (114 + 4) (by omega)] at h1
  exact h1
end Ad
section Inv
variable {c nb nr np ck : Nat} {a : Nat → Int32}
theorem IV.bu (hV : IV c a nb nr np ck) : 0 < nr → ¬ m_r a (nr - 1) 0 = 0 := fun q => by
  obtain ⟨h1, hb9, h2, hr6, h3, hp10, hpr, -, -, -, -, hrv, -, hpv⟩ := hV
  obtain ⟨bu, la, st, cl, e, e1, e2, -⟩ := hrv (nr - 1) (by omega)
  rw [e]
  intro w
  have := (nI_eq (a := bu) (b := 0) (by omega) (by omega)).mp w
  omega
theorem IV.pb0 (hV : IV c a nb nr np ck) : ∀ u, u < np → (m_p a u 0).toNatClampNeg < nb ∧ m_p a u 0 = nI (m_p a u 0).toNatClampNeg := fun u hu => by
  obtain ⟨h1, hb9, h2, hr6, h3, hp10, hpr, -, -, -, -, hrv, -, hpv⟩ := hV
  obtain ⟨x, y, w, e1, e2, e3, e4, -⟩ := hpv u hu
  rw [e1, nI_clamp (by omega)]; exact ⟨e2, rfl⟩
theorem IV.pb1 (hV : IV c a nb nr np ck) : ∀ u, u < np → (m_p a u 1).toNatClampNeg < nb ∧ m_p a u 1 = nI (m_p a u 1).toNatClampNeg := fun u hu => by
  obtain ⟨h1, hb9, h2, hr6, h3, hp10, hpr, -, -, -, -, hrv, -, hpv⟩ := hV
  obtain ⟨x, y, w, e1, e2, e3, e4, -⟩ := hpv u hu
  rw [e3, nI_clamp (by omega)]; exact ⟨e4, rfl⟩
variable {hs : Int32} {g : Nat → Int32} {t : Nat → Nat → Int32} {d z : Nat} {hg : Nat → Nat → Int32} {ht : Nat → Nat → Nat → Int32} {g3 : Nat → Int32} {t3 : Nat → Nat → Int32} {n : Nat} {tx : Nat → Nat} {h sn txm k : Nat → Int32}
/-- a run of the text that was carried out: one state was recorded -/
theorem jr_run (hJ : JR c hs g t d z hg ht g3 t3 n tx a h sn txm k) {g' : Nat → Int32} {t' : Nat → Nat → Int32} {a' k' : Nat → Int32} {np' ck' : Nat} (hV : IV c a' nb nr np' ck') (hE : EQ g' t' a' nr) (e0 : k' 0 = nI (m_kn z)) (e1 : k' 1 = k 1) (e2 : k' 2 = nI n) : JR (c + 1) hs g' t' (hn d) (min (z + 1) 4) (va_up hg d g) (va_up ht d t) g3 t3 n tx a' (m_hn a h z) sn txm k' := by
  obtain ⟨h1, h2, h3, h4, h5, h6, h7, h8, h9, h10⟩ := hJ
  refine ⟨hn_lt d, by omega, by rw [e0, m_kn_min h2], ⟨nb, nr, np', ck', hV.mono (Nat.le_succ _), hE⟩, (h5.rec h1 h2 h4).mono (Nat.le_succ _), by rw [e1]; exact h6, fun w => (h7 w).mono (Nat.le_succ _), h8, e2, h10⟩
theorem flt (hJ : JR c hs g t d z hg ht g3 t3 n tx a h sn txm k) : (ffl tx n n 0 (nI 1) = (-5) ↔ (pt tx n (n + 1) 0 0).1 = true) ∧ (¬ (pt tx n (n + 1) 0 0).1 = true → ffl tx n n 0 (nI 1) = nI (pt tx n (n + 1) 0 0).2.1) := by
  obtain ⟨h1, h2, h3, h4, h5, h6, h7, h8, h9, h10⟩ := hJ
  have q := fault_eq (tx := tx) h8 (fun j hj => (h10 j hj).2) (n + 1) 0 0 (Nat.zero_le _) (by omega)
  exact ⟨q.1, q.2.1⟩
end Inv
section Law
variable {p : Program} {l : Launch} {e : Env} {s : State} {m : MethodId} {args : Array Value} {below : List Frame} {meth : Method} {c : Code} {H : Heap} {locs : List Loc} {cells slots : Nat} {Q : State → Prop} {cc : ByteArray} {nL pc : Nat} {own : String} {ls : Array Slot} {rest : List Value} {R : Room}
  {D : va_G} {ad : Nat → Nat} {N : Nat} {F : Nat → va_E} {b L : Nat} {xs : Nat → Int32}
theorem x_sld (X : CallFix p m c cc nL s args lw_g own) (hX : va_X b L xs s s.heap) (hbs : b < s.heap.size) (hw : HW D (lA s) ad N F s H locs) {i : Int32} {j : Nat} (hi : i = nI j) (hj : j < L) (hL : L ≤ 2048) (hdg : decode cc pc = .ok (.iaload, 1)) (kk : W p l e R s m args below meth c H locs cells slots Q (F0 m (pc + 1) ls (.int (xs j) :: rest))) : W p l e R s m args below meth c H locs cells slots Q (F0 m pc ls (.int i :: .ref b :: rest)) := by
  subst hi
  refine va_sld X.1 X.2.1 hX hbs (Nat.not_le.mpr hbs) hw.2.1 (vp_in_nI hj (by omega)) hdg ?_
  rw [nI_clamp (by omega)]; exact kk
theorem x_slen (X : CallFix p m c cc nL s args lw_g own) (hX : va_X b L xs s s.heap) (hbs : b < s.heap.size) (hw : HW D (lA s) ad N F s H locs) (hdg : decode cc pc = .ok (.arraylength, 1)) (kk : W p l e R s m args below meth c H locs cells slots Q (F0 m (pc + 1) ls (.int (nI L) :: rest))) : W p l e R s m args below meth c H locs cells slots Q (F0 m pc ls (.ref b :: rest)) :=
  va_slen X.1 X.2.1 hX hbs (Nat.not_le.mpr hbs) hw.2.1 hdg kk
end Law
/-- what holds behind cn calls, before the script's place i -/
def LI (D : va_G) (cI cB cS : ClassId) (s : State) (b cn i : Nat) (ad : Nat → Nat) (F : Nat → va_E) (H : Heap) (locs : List Loc) (ls : Array Slot) : Prop := iN ad 119 ∧ HW D (lA s) ad 119 F s H locs ∧ lv_has ls 8 [(0, .ref b), (1, .ref (ad 0)), (2, .ref (ad 114)), (3, .int (nI i))] ∧ ∃ hs g t d z hg ht g3 t3 n tx a h sn txm k, ClF ad cI cS F 0 hs g t d z hg ht g3 t3 ∧ LgF ad cB F (0 + 111) n tx ∧ MoF ad cI F 114 a h sn txm k ∧ JR cn hs g t d z hg ht g3 t3 n tx a h sn txm k
abbrev LK (p : Program) (l : Launch) (e : Env) (s : State) (m : MethodId) (below : List Frame) (meth : Method) (c : Code) (Q : State → Prop) (D : va_G) (cI cB cS : ClassId) (b cn i cells slots pc : Nat) : Prop := ∀ ad F H locs ls, LI D cI cB cS s b cn i ad F H locs ls → W p l e room_1 s m #[Value.ref b] below meth c H locs cells slots Q (F0 m pc ls [])
