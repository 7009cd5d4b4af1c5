/-! the numbers of a series as naturals: 0 the clock, 1 boats, 2 races, 3 protests, 4 to 6 settings, 7 + b ratings, then races, protests, entries -/
theorem ClF.cg {ad : Nat → Nat} {cI cS : ClassId} {F F' : Nat → va_E} {q : Nat} {hs : Int32} {g : Nat → Int32} {t : Nat → Nat → Int32} {d z : Nat} {hg : Nat → Nat → Int32} {ht : Nat → Nat → Nat → Int32} {g3 : Nat → Int32} {t3 : Nat → Nat → Int32} (h : ClF ad cI cS F q hs g t d z hg ht g3 t3) {lo hi : Nat} (hf : Fr F F' lo hi) (hd : q + 111 ≤ lo ∨ hi ≤ q) : ClF ad cI cS F' q hs g t d z hg ht g3 t3 := by
  obtain ⟨h1, h2, h3, h4, h5, h6, ⟨tm1, pt1, sm1, tl1, h7⟩, ⟨g2, t2, h8⟩, tm2, pt2, sm2, tl2, h9⟩ := h
  exact ⟨(hf _ (by omega)).trans h1, h2.cg hf (by omega), (hf _ (by omega)).trans h3, (hf _ (by omega)).trans h4, ⟨(hf _ (by omega)).trans h5.1, (hf _ (by omega)).trans h5.2.1, fun j hj => (h5.2.2 j hj).cg hf (by omega)⟩, h6.cg hf (by omega), ⟨tm1, pt1, sm1, tl1, h7.cg hf (by omega)⟩, ⟨g2, t2, h8.cg hf (by omega)⟩, tm2, pt2, sm2, tl2, h9.cg hf (by omega)⟩
theorem LgF.cg {ad : Nat → Nat} {cB : ClassId} {F F' : Nat → va_E} {q n : Nat} {tx : Nat → Nat} (h : LgF ad cB F q n tx) {lo hi : Nat} (hf : Fr F F' lo hi) (hd : q + 3 ≤ lo ∨ hi ≤ q) : LgF ad cB F' q n tx := by
  obtain ⟨h1, cap, ml, f, h2, h3⟩ := h
  exact ⟨(hf _ (by omega)).trans h1, cap, ml, f, ⟨(hf _ (by omega)).trans h2.1, (hf _ (by omega)).trans h2.2⟩, h3⟩
def arr (A : Nat → Nat) : Nat → Int32 := fun i => nI (A i)
abbrev eA (A : Nat → Nat) (r b w : Nat) : Nat := A (80 + 6 * (9 * r + b) + w)
abbrev rA (A : Nat → Nat) (r w : Nat) : Nat := A (16 + 4 * r + w)
abbrev pA (A : Nat → Nat) (p w : Nat) : Nat := A (40 + 4 * p + w)
def nup (A : Nat → Nat) (i v : Nat) : Nat → Nat := fun j => if j = i then v else A j
theorem nup_at {A : Nat → Nat} {i v : Nat} : nup A i v i = v := if_pos rfl
theorem nup_eq {A : Nat → Nat} {i j v : Nat} (h : j = i) : nup A i v j = v := if_pos h
theorem nup_ne {A : Nat → Nat} {i j v : Nat} (h : j ≠ i) : nup A i v j = A j := if_neg h
theorem arr_up {A : Nat → Nat} {i v : Nat} : upd (arr A) i (nI v) = arr (nup A i v) := by
  funext j
  show (if j = i then nI v else nI (A j)) = nI (if j = i then v else A j)
  split <;> rfl
/-- the latest race -/
abbrev lr (A : Nat → Nat) : Nat := A 2 - 1
abbrev le' (A : Nat → Nat) (b w : Nat) : Nat := eA A (A 2 - 1) b w
abbrev lput (A : Nat → Nat) (b w v : Nat) : Nat → Nat := nup A (80 + 6 * (9 * (A 2 - 1) + b) + w) v
def opn (A : Nat → Nat) : Prop := 0 < A 2 ∧ rA A (A 2 - 1) 3 = 0
/-- what holds of a boat in a race; c: how many acts there were -/
def BJ (c : Nat) (A : Nat → Nat) (r b : Nat) : Prop := eA A r b 0 ≤ 4 ∧ eA A r b 1 ≤ rA A r 0 * rA A r 1 ∧ (eA A r b 0 = 3 → eA A r b 1 = rA A r 0 * rA A r 1) ∧ eA A r b 2 ≤ c ∧ eA A r b 3 ≤ 300 * c ∧ eA A r b 4 ≤ 1 ∧ eA A r b 5 ≤ A 0 ∧ (eA A r b 0 = 3 → rA A r 2 ≤ eA A r b 5) ∧ (eA A r b 0 = 3 ∨ eA A r b 5 = 0) ∧ (r + 1 = A 2 → eA A r b 0 = 2 ∨ eA A r b 0 = 3 → rA A r 2 ≤ A 0)
def RJ (c : Nat) (A : Nat → Nat) (r : Nat) : Prop := 0 < rA A r 0 ∧ rA A r 0 ≤ 5 ∧ 0 < rA A r 1 ∧ rA A r 1 ≤ 3 ∧ rA A r 2 ≤ A 0 + 400 * c ∧ rA A r 3 ≤ 1 ∧ (r + 1 < A 2 → rA A r 3 = 1) ∧ ∀ b, b < A 1 → BJ c A r b
def PJ (A : Nat → Nat) (p : Nat) : Prop := pA A p 0 < A 1 ∧ pA A p 1 < A 1 ∧ pA A p 0 ≠ pA A p 1 ∧ pA A p 2 ≤ A 0 ∧ pA A p 3 ≤ 4
/-- who is out, and who has penalties, in the latest race -/
def LJ (A : Nat → Nat) : Prop := 0 < A 2 → ∀ b, b < A 1 → (eA A (A 2 - 1) b 4 = 1 ↔ ∃ p, p < A 3 ∧ pA A p 1 = b ∧ pA A p 3 = 3) ∧ (0 < eA A (A 2 - 1) b 3 ↔ ∃ p, p < A 3 ∧ pA A p 1 = b ∧ pA A p 3 = 2)
def GJ (A : Nat → Nat) : Prop := A 1 ≤ 9 ∧ A 2 ≤ 6 ∧ A 3 ≤ 10 ∧ (0 < A 3 → 0 < A 2) ∧ (0 < A 2 → 0 < A 1) ∧ 1 ≤ A 4 ∧ A 4 ≤ 3600 ∧ 1 ≤ A 5 ∧ A 5 ≤ 300 ∧ A 6 ≤ 6 ∧ (∀ b, b < A 1 → 50 ≤ A (7 + b) ∧ A (7 + b) ≤ 150)
def HJ (c : Nat) (A : Nat → Nat) : Prop := GJ A ∧ (∀ r, r < A 2 → RJ c A r) ∧ (∀ r b w, r < 6 → A 1 ≤ b → b < 9 → w < 6 → eA A r b w = 0) ∧ (∀ p, p < A 3 → PJ A p) ∧ LJ A
theorem HJ.iv {c : Nat} {A : Nat → Nat} (h : HJ c A) (hc : c ≤ 512) (hk : A 0 ≤ 999999) : IV 512 (arr A) (A 1) (A 2) (A 3) (A 0) := by
  obtain ⟨⟨g1, g2, g3, g4, g5, g6, g7, g8, g9, g10, g11⟩, hr, hz, hp, -⟩ := h
  refine ⟨rfl, g1, rfl, g2, rfl, g3, g4, rfl, hk, ⟨A 4, A 5, A 6, rfl, g7, rfl, g9, rfl, g10⟩, fun b hb => ⟨A (7 + b), rfl, (g11 b hb).1, (g11 b hb).2⟩, fun r hr1 => ?_, fun r b w h1 h2 h3 h4 => ?_, fun p hp1 => ?_⟩
  · obtain ⟨a1, a2, a3, a4, a5, a6, a7, a8⟩ := hr r hr1
    refine ⟨rA A r 0, rA A r 1, rA A r 2, rA A r 3, rfl, a1, a2, rfl, a3, a4, rfl, by omega, rfl, a6, a7, fun b hb => ?_⟩
    obtain ⟨b1, b2, b3, b4, b5, b6, b7, b8, b9, b10⟩ := a8 b hb
    exact ⟨eA A r b 0, eA A r b 1, eA A r b 3, eA A r b 4, eA A r b 5, rfl, b1, rfl, b2, rfl, by omega, rfl, b6, rfl, by omega, b8, b9, b10⟩
  · show nI (eA A r b w) = 0
    rw [hz r b w h1 h2 h3 h4]; rfl
  · obtain ⟨a1, a2, a3, a4, a5⟩ := hp p hp1
    exact ⟨pA A p 0, pA A p 1, pA A p 3, rfl, a1, rfl, a2, rfl, a5⟩
/-- the object at its cells, with the numbers A, and A3 in its snapshot -/
def OB (ad : Nat → Nat) (cI cB cS : ClassId) (F : Nat → va_E) (hs : Int32) (A A3 : Nat → Nat) : Prop := ∃ g t d z hg ht g3 t3 n tx, ClF ad cI cS F 0 hs g t d z hg ht g3 t3 ∧ d < 5 ∧ z ≤ 4 ∧ LgF ad cB F (0 + 111) n tx ∧ EQ g t (arr A) (A 2) ∧ EQ g3 t3 (arr A3) (A3 2)
theorem OB.ma {ad : Nat → Nat} {cI cB cS : ClassId} {F : Nat → va_E} {hs : Int32} {A A3 : Nat → Nat} (h : OB ad cI cB cS F hs A A3) : MaF ad F 0 hs := by
  obtain ⟨g, t, d, z, hg, ht, g3, t3, n, tx, hC, -⟩ := h
  exact hC.1
theorem OB.cg {ad : Nat → Nat} {cI cB cS : ClassId} {F F' : Nat → va_E} {hs : Int32} {A A3 : Nat → Nat} {lo hi : Nat} (h : OB ad cI cB cS F hs A A3) (hf : Fr F F' lo hi) (hlo : 114 ≤ lo) : OB ad cI cB cS F' hs A A3 := by
  obtain ⟨g, t, d, z, hg, ht, g3, t3, n, tx, hC, h1, h2, hL, h3⟩ := h
  exact ⟨g, t, d, z, hg, ht, g3, t3, n, tx, hC.cg hf (by omega), h1, h2, hL.cg hf (by omega), h3⟩
/-- what an act of the class answers, and the numbers behind it -/
abbrev C3 : Type := Int32 × (Nat → Int32) × (Nat → Nat → Int32)
def AR (R : C3) (r : Int32) (A : Nat → Nat) : Prop := R.1 = r ∧ EQ R.2.1 R.2.2 (arr A) (A 2)
theorem AR.mk {R : C3} {r : Int32} {g : Nat → Int32} {t : Nat → Nat → Int32} {A : Nat → Nat} (h : R = (r, g, t)) (hE : EQ g t (arr A) (A 2)) : AR R r A := by
  rw [h]; exact ⟨rfl, hE⟩
theorem Ci.imp {l : Launch} {D : va_G} {cI cB cS : ClassId} {ad : Nat → Nat} {N : Nat} {y : MethodName} {b : ByteArray} {n : Nat} {ret : Option FieldType} {fr lo : Nat} {av : List Value} {F : Nat → va_E} {post post' : Int32 → (Nat → va_E) → Prop} (h : ∀ r F', post r F' → post' r F') (hC : Ci l D cI cB cS ad N y b n ret fr lo av F post) : Ci l D cI cB cS ad N y b n ret fr lo av F post' := fun sz =>
  MetFree.mono (hC sz) (fun _ _ q => q) (fun _ _ _ _ _ q => q) (fun a st o t _ q => by
    obtain ⟨⟨⟨r, u, e1, e2, e3⟩, e4⟩, e5⟩ := q
    exact ⟨⟨⟨r, u, e1, h r u e2, e3⟩, e4⟩, e5⟩)
theorem cl_of {A : Nat → Nat} {g : Nat → Int32} {t : Nat → Nat → Int32} (hE : EQ g t (arr A) (A 2)) (h6 : A 2 ≤ 6) : g 3 = nI (if A 2 = 0 then 0 else rA A (A 2 - 1) 3 + 1) := by
  by_cases h : A 2 = 0
  · rw [if_pos h]; exact hE.2.2.2.2.1 h
  · rw [if_neg h]; exact (hE.2.2.2.2.2.1 (by omega)).trans (nI_add _ _)
theorem opn_iff {A : Nat → Nat} {g : Nat → Int32} {t : Nat → Nat → Int32} (hE : EQ g t (arr A) (A 2)) (h6 : A 2 ≤ 6) (h1 : 0 < A 2 → rA A (A 2 - 1) 3 ≤ 1) : g 3 = nI 1 ↔ opn A := by
  rw [cl_of hE h6]
  by_cases h : A 2 = 0
  · rw [if_pos h]
    exact ⟨fun q => absurd q (by decide), fun q => absurd q.1 (by omega)⟩
  · rw [if_neg h, nI_eq (by have := h1 (by omega); omega) (by omega)]
    exact ⟨fun q => ⟨by omega, by omega⟩, fun q => by have := q.2; omega⟩
theorem HJ.op1 {c : Nat} {A : Nat → Nat} (h : HJ c A) : 0 < A 2 → rA A (A 2 - 1) 3 ≤ 1 := fun q => by
  obtain ⟨-, hr, -⟩ := h
  exact (hr (A 2 - 1) (by omega)).2.2.2.2.2.1
theorem HJ.opg {c : Nat} {A : Nat → Nat} (h : HJ c A) {g : Nat → Int32} {t : Nat → Nat → Int32} (hE : EQ g t (arr A) (A 2)) : g 3 = nI 1 ↔ opn A := opn_iff hE h.1.2.1 h.op1
