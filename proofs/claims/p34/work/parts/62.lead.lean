theorem neg1_sub {m : Nat} : (-1 : Int32) - nI m = nI 0 - nI (1 + m) := by
  rw [show (-1 : Int32) = nI 0 - nI 1 by decide, Int32.sub_sub, nI_add]
section Lead
variable {c : Nat} {g : Nat → Int32} {t : Nat → Nat → Int32} {a : Nat → Int32} {nb nr np ck nc : Nat}
theorem pl_one (hV : IV c a nb nr np ck) {r b : Nat} : ∀ n, n ≤ nb → (m_pl a r b n = nI 1 ↔ ∀ k, k < n → m_cnt a r k → m_co a r b ≤ m_co a r k) := by
  have h2 := hV.2.1
  intro n
  induction n with
  | zero => intro _; exact ⟨fun _ k hk => absurd hk (by omega), fun _ => rfl⟩
  | succ n ih =>
    intro hn
    obtain ⟨p, p1, p2, p3, p4⟩ := pl_nat hV (r := r) (b := b) n (by omega)
    have i1 := ih (by omega)
    rw [m_pl]
    by_cases q : m_cnt a r n
    · rw [if_pos q]
      by_cases q2 : m_co a r b ≤ m_co a r n
      · rw [if_pos q2, add0, i1]
        constructor
        · intro h k hk hc
          by_cases w : k = n
          · rw [w]; exact q2
          · exact h k (by omega) hc
        · intro h k hk hc; exact h k (by omega) hc
      · rw [if_neg q2, p1, nI_add]
        constructor
        · intro h; have := (nI_eq (by omega) (by omega)).mp h; omega
        · intro h; exact absurd (h n (by omega) q) q2
    · rw [if_neg q, add0, i1]
      constructor
      · intro h k hk hc
        by_cases w : k = n
        · rw [w] at hc; exact absurd hc q
        · exact h k (by omega) hc
      · intro h k hk hc; exact h k (by omega) hc
theorem bst_ok {r : Nat} : ∀ n, (m_bst a r n = none ∧ ∀ i, i < n → ¬ m_cnt a r i) ∨ (∃ j, m_bst a r n = some j ∧ j < n ∧ m_cnt a r j ∧ (∀ i, i < n → m_cnt a r i → m_co a r j ≤ m_co a r i) ∧ ∀ i, i < j → m_cnt a r i → ¬ m_co a r i ≤ m_co a r j) := by
  intro n
  induction n with
  | zero => exact Or.inl ⟨rfl, fun i hi => absurd hi (by omega)⟩
  | succ n ih =>
    by_cases q : m_cnt a r n
    · rcases ih with ⟨h1, h2⟩ | ⟨j, h1, h2, h3, h4, h5⟩
      · refine Or.inr ⟨n, by rw [m_bst, if_pos q, h1], by omega, q, fun i hi hc => ?_, fun i hi hc => absurd hc (h2 i hi)⟩
        by_cases w : i = n
        · rw [w]; exact Int32.le_refl _
        · exact absurd hc (h2 i (by omega))
      · by_cases w : m_co a r j ≤ m_co a r n
        · refine Or.inr ⟨j, by rw [m_bst, if_pos q, h1]; simp only []; rw [if_pos w], by omega, h3, fun i hi hc => ?_, h5⟩
          by_cases w2 : i = n
          · rw [w2]; exact w
          · exact h4 i (by omega) hc
        · have w' : m_co a r n < m_co a r j := nle_lt w
          refine Or.inr ⟨n, by rw [m_bst, if_pos q, h1]; simp only []; rw [if_neg w], by omega, q, fun i hi hc => ?_, fun i hi hc => ?_⟩
          · by_cases w2 : i = n
            · rw [w2]; exact Int32.le_refl _
            · exact Int32.le_of_lt (Int32.lt_of_lt_of_le w' (h4 i (by omega) hc))
          · exact lt_nle (Int32.lt_of_lt_of_le w' (h4 i hi hc))
    · rcases ih with ⟨h1, h2⟩ | ⟨j, h1, h2, h3, h4, h5⟩
      · refine Or.inl ⟨by rw [m_bst, if_neg q, h1], fun i hi => ?_⟩
        by_cases w : i = n
        · rw [w]; exact q
        · exact h2 i (by omega)
      · refine Or.inr ⟨j, by rw [m_bst, if_neg q, h1], by omega, h3, fun i hi hc => ?_, h5⟩
        by_cases w : i = n
        · rw [w] at hc; exact absurd hc q
        · exact h4 i (by omega) hc
theorem lead_eq (hc : c ≤ 513) (hV : IV c a nb nr np ck) (hE : EQ g t a nr) {r : Nat} (hr : r < nr) {tm : Nat → Int32} : sc_ld (sc_rt t (nI r) tm nb) nb nb 0 = oI (m_bst a r nb) := by
  have h2 := hV.2.1
  have one : ∀ i, i < nb → (m_place a r i nb = nI 1 ↔ m_cnt a r i ∧ ∀ k, k < nb → m_cnt a r k → m_co a r i ≤ m_co a r k) := fun i hi => by
    unfold m_place
    by_cases q : m_cnt a r i
    · rw [if_pos q, pl_one hV nb (Nat.le_refl _)]
      exact ⟨fun h => ⟨q, h⟩, fun h => h.2⟩
    · rw [if_neg q]
      exact ⟨fun h => absurd h.symm (nI_ne5 (j := 1) (by omega)), fun h => absurd h.1 q⟩
  rcases bst_ok (a := a) (r := r) nb with ⟨h1, h3⟩ | ⟨j, h1, h3, h4, h5, h6⟩
  · rw [h1]
    have : ∀ f i, i + f = nb → sc_ld (sc_rt t (nI r) tm nb) nb f i = (-5) := by
      intro f
      induction f with
      | zero => intro i _; rfl
      | succ f ih =>
        intro i hi
        rw [sc_ld, place_eq hc hV hE hr (by omega), if_neg (fun z => h3 i (by omega) ((one i (by omega)).mp z).1)]
        exact ih (i + 1) (by omega)
    exact this nb 0 (by omega)
  · rw [h1]
    have : ∀ f i, i + f = nb → i ≤ j → sc_ld (sc_rt t (nI r) tm nb) nb f i = nI j := by
      intro f
      induction f with
      | zero => intro i h h'; omega
      | succ f ih =>
        intro i hi hij
        rw [sc_ld, place_eq hc hV hE hr (by omega)]
        by_cases q : i = j
        · rw [q, if_pos ((one j h3).mpr ⟨h4, h5⟩)]
        · rw [if_neg (fun z => h6 i (by omega) ((one i (by omega)).mp z).1 (((one i (by omega)).mp z).2 j h3 h4))]
          exact ih (i + 1) (by omega) (by omega)
    exact this nb 0 (by omega) (by omega)
theorem xor_nn {u v : Nat} (hu : u < 2 ^ 31) (hv : v < 2 ^ 31) : 0 ≤ nI u ^^^ nI v := by
  have e : nI u ^^^ nI v = nI (u ^^^ v) := by
    apply Int32.toBitVec_inj.mp
    rw [Int32.toBitVec_xor]
    show BitVec.ofNat 32 u ^^^ BitVec.ofNat 32 v = BitVec.ofNat 32 (u ^^^ v)
    rw [BitVec.ofNat_xor]
  rw [e]
  exact nI_nn (Nat.xor_lt_two_pow hu hv)
theorem fdv_nn {u v : Nat} (hu : u < 2 ^ 31) (hv : v < 2 ^ 31) : fdv (nI u) (nI v) = nI u / nI v := if_pos (xor_nn hu hv)
theorem q_seconds (hc : c ≤ 512) (hV : IV c a nb nr np ck) (hE : EQ g t a nr) (x : Int32) (tm : Nat → Int32) : s_X7_secondsLeft g t tm x nb = s_X8_secondsLeft a x nb nr := by
  obtain ⟨h1, h2, h3, h4, h5, h6, h7, h8, h9, h10, h11, h12, h13, h14⟩ := id hV
  have hg1 : g 1 = nI nb := hE.2.1.trans h1
  rcases inN x (n := nb) (by omega) with ⟨b, hb, rfl, ec, cC, cM⟩ | ⟨cC, cM⟩
  · rw [← hg1] at cC; rw [← h1] at cM
    unfold s_X7_secondsLeft s_X8_secondsLeft
    rw [if_pos cC, if_pos cM, ec]
    by_cases hp : 0 < nr ∧ m_r a (nr - 1) 3 = 0
    · have hg3 := (prep_iff hV hE).mpr hp
      have hn := hp.1
      rw [if_pos hg3, if_pos hp, hE.lat h3 h4 hn (by omega) (by omega)]
      by_cases q : m_e a (nr - 1) b 0 = nI 2
      · rw [if_pos q, if_pos q]
        obtain ⟨bu, la, st, r1, r2, r3, r4, r5, r6, r7, r8, s, ro, pe, ou, fi, k1, k2, k3, k4, k5, k6, k7, k8, k9, k10, k11, k13, k12⟩ := hV.lat hn hb
        have hs2 : s = 2 := (nI_eq (by omega) (by omega)).mp (k1.symm.trans q)
        have hst := k12 trivial (Or.inl hs2)
        obtain ⟨v, v1, v2, v3⟩ := h11 b hb
        have eu : c_eu t (g 0) (g 2 - nI 1) (nI b) = (a 0 - m_r a (nr - 1) 2) + m_e a (nr - 1) b 3 := by
          unfold c_eu
          rw [hE.g2 h3 hn, hE.crs (by omega) (by omega), hE.cent (by omega) (by omega) (by omega), hE.1]
        have ev : (a 0 - m_r a (nr - 1) 2) + m_e a (nr - 1) b 3 = nI (ck - st + pe) := by rw [h8, r7, k5, pk_sub hst, nI_add]
        unfold s_X4_secondsToLead
        rw [hE.g2 h3 hn, lead_eq (c := c) (by omega) hV hE (by omega), hE.rat (by omega)]
        rw [hE.g2 h3 hn] at eu
        rw [eu, ev]
        rcases bst_ok (a := a) (r := nr - 1) nb with ⟨b1, b3⟩ | ⟨j, b1, b3, b4, b5, b6⟩
        · rw [b1, if_pos (show oI none = (-5) from rfl), if_pos rfl]
        · obtain ⟨q0, e1, e2⟩ := co_fin (c := c) (by omega) hV (show nr - 1 < nr by omega) b3 b4.1
          have bj : m_bj a (nr - 1) nb = j := by unfold m_bj; rw [b1]; rfl
          have et : tg 1 9 (sc_rt t (nI (nr - 1)) tm nb) (nI j) (nI 0) = nI q0 := (rt_tg hV hE (by omega) b3).trans ((tmv_c (c := c) (by omega) hV (by omega) b3 b4).1.trans e1)
          have hq0 : q0 * v ≤ 2 ^ 22 * 150 := Nat.mul_le_mul (by omega) v3
          rw [b1, if_neg (show ¬ oI (some j) = (-5) from nI_ne5 (by omega)), show oI (some j) = nI j from rfl, et, if_neg (show ¬ some j = none by simp), bj, e1, v1, pk_mul]
          by_cases z : q0 * v = 0
          · rw [z, if_pos (show (nI 0 : Int32) = 0 from rfl)]
            have ef : fdv (nI 0 - nI 1) (nI 100) = (-1) := by decide
            rw [ef, if_neg]
            intro hh
            have k := Int32.le_iff_toInt_le.mp hh
            rw [neg1_sub, pk_sub_toInt (by omega) (by omega)] at k
            have e0 : (0 : Int32).toInt = 0 := rfl
            omega
          · have nz : ¬ nI (q0 * v) = 0 := fun w => z ((nI_eq (a := q0 * v) (b := 0) (by omega) (by omega)).mp w)
            rw [if_neg nz, pk_sub (by omega), fdv_nn (by omega) (by omega)]
      · rw [if_neg q, if_neg q]
    · have hg3 : ¬ g 3 = nI 1 := fun z => hp ((prep_iff hV hE).mp z)
      rw [if_neg hg3, if_neg hp]
  · rw [← hg1] at cC; rw [← h1] at cM
    unfold s_X7_secondsLeft s_X8_secondsLeft
    rw [if_neg cC, if_neg cM]
end Lead
