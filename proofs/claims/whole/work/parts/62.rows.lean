/-! ===== deed, view, fact ===== -/
theorem rA_nI {n k : Nat} {f : Nat → Int32} (h : k < n) (hn : n < 2 ^ 31) : rA n f (nI k) = some (f k) := by
  have hi : (nI k).toInt = k := nI_toInt (by omega)
  rw [rA_in (by omega) (by omega), nI_clamp (by omega)]
theorem m_in01 (v lo hi : Int32) : fX10_in v lo hi = 0 ∨ fX10_in v lo hi = 1 := by rw [m_in]; split <;> simp
/-- a count of the reference, less one -/
theorem m_below {l n : Int32} {m : Nat} (h0 : 0 ≤ n.toInt) (hm : n.toInt ≤ m) (h31 : m < 2 ^ 31) : (∃ k : Nat, l = nI k ∧ (k : Int) < n.toInt ∧ k < m ∧ ¬ fX10_in l 0 (n - 1) = 0 ∧ 0 ≤ l.toInt ∧ l.toInt < n.toInt) ∨ (fX10_in l 0 (n - 1) = 0 ∧ ¬ (0 ≤ l.toInt ∧ l.toInt < n.toInt)) := by
  have e : (n - 1).toInt = n.toInt - 1 := by rw [fb_subI] <;> rw [t1] <;> omega
  by_cases h : 0 ≤ l.toInt ∧ l.toInt < n.toInt
  · obtain ⟨k, hk, rfl⟩ := vp_in_of (x := l) (n := m) (vp_in_iff.mpr ⟨by omega, by omega⟩) h31
    have hi : (nI k).toInt = k := nI_toInt (by omega)
    exact Or.inl ⟨k, rfl, by omega, hk, m_in0 (by rw [t0, e]; omega), h⟩
  · exact Or.inr ⟨m_in1 (by rw [t0, e]; omega), h⟩
theorem three (x : Int32) : x = 0 ∨ x = 1 ∨ x = 2 ∨ (¬ x = 0 ∧ ¬ x = 1 ∧ ¬ x = 2 ∧ fX10_in x 0 2 = 0) := by
  by_cases h0 : x = 0
  · exact Or.inl h0
  by_cases h1 : x = 1
  · exact Or.inr (Or.inl h1)
  by_cases h2 : x = 2
  · exact Or.inr (Or.inr (Or.inl h2))
  refine Or.inr (Or.inr (Or.inr ⟨h0, h1, h2, m_in1 ?_⟩))
  rw [fa_eq, t0] at h0; rw [fa_eq, t1] at h1; rw [fa_eq, t2] at h2
  rw [t0, t2]; omega
theorem ix3 (w i k j : Nat) : nI w * nI i + 1 + 3 * nI k + nI j = nI (w * i + (1 + 3 * k + j)) := by
  show nI w * nI i + nI 1 + nI 3 * nI k + nI j = _
  rw [pk_mul, pk_mul, nI_add, nI_add, nI_add]; congr 1; omega
theorem ix2 (w i k j : Nat) : nI w * nI i + 1 + 2 * nI k + nI j = nI (w * i + (1 + 2 * k + j)) := by
  show nI w * nI i + nI 1 + nI 2 * nI k + nI j = _
  rw [pk_mul, pk_mul, nI_add, nI_add, nI_add]; congr 1; omega
theorem upd_s {f : Nat → Int32} {k : Nat} {x : Int32} : upd f k x k = x := pk_us
theorem blk0 (M : SV) (k w i j : Nat) (h : j < w) : blk M k w 0 i j = M.2.1 k (w * i + j) := by
  unfold blk
  rw [if_pos h, Nat.mul_zero, Nat.zero_add]
theorem qu_deed (Wc : WC) : Qu_deed Wc := by
  intro z M ρM hI a1 a2 a3
  have hsk := hI.2.2.2.1
  unfold fX9_deed gX10_deed
  rw [if_pos (x9_o hsk), x9_g (k := 0) (x := 16) hsk rfl]
  simp only [Option.bind_some, nm, gX10_hasYear]
  rcases rows_cases hI (q := 1) (by omega) (by omega) a1 with ⟨i, b, ρb, Y, hi, rfl, h1, h2, h3, h4, h5⟩ | ⟨h1, h5⟩
  · have h1' : fX7_rowsAt 16 1 (nI i) z = some (some b) := h1
    have h5' : gX10_is 1 (nI i) (wI (wI M 0 0) 38 (nI i)) = some 1 := h5 _ rfl
    rw [h1', h5']
    have h4 : RR 1 Y ρb.2.2 (blk M 7 121 0 i) := h4
    obtain ⟨r1, r2, r3, r4, -, -⟩ := h4
    obtain ⟨r5, r6⟩ := r4 rfl
    have hn : ρb.2.2 < 2 ^ 31 := by rw [r5]; decide
    have e1 : gX10_deeds (wI (wI M 0 0) 38 (nI i)) = some (blk M 7 121 0 i 0) := by
      unfold gX10_deeds
      show (rA 968 (M.2.1 7) (nI 121 * nI i)).bind _ = _
      rw [pk_mul, rA_nI (by omega) (by omega), blk0 _ _ _ _ _ (by omega)]; rfl
    have e2 : ∀ k j : Nat, k < 40 → j < 3 → gX10_deedOf (nI k) (nI j) (wI (wI M 0 0) 38 (nI i)) = some (blk M 7 121 0 i (1 + 3 * k + j)) := by
      intro k j hk hj
      unfold gX10_deedOf
      show (rA 968 (M.2.1 7) (nI 121 * nI i + 1 + 3 * nI k + nI j)).bind _ = _
      rw [ix3, rA_nI (by omega) (by omega), blk0 _ _ _ _ _ (by omega)]; rfl
    simp only [Option.bind_some, nq, b2, or_true, if_true, show ¬ ((1 : Int32) = 0) by decide, if_false, e1, gI_rd h3 (k := 3) rfl, eX5_answer h3, r1]
    by_cases hk : a2 = -1
    · by_cases hw : a3 = 0
      · simp only [hk, hw, if_true]; exact ⟨_, _, rfl, rfl⟩
      · simp only [hk, hw, if_true, if_false]; exact ⟨_, _, rfl, rfl⟩
    · simp only [hk, if_false, gX5_answer, r1, pickS (n := ρb.2.2) hn, Option.bind_some]
      rcases m_below (l := a2) (n := blk M 7 121 0 i 0) (m := 40) r2 (by omega) (by omega) with ⟨k, rfl, k1, k2, k3, k4, k5⟩ | ⟨k3, k4⟩
      · have hc : (nI k).toNatClampNeg = k := nI_clamp (by omega)
        have hin : 0 ≤ (nI k).toInt ∧ (nI k).toInt < (blk M 7 121 0 i 0).toInt ∧ (nI k).toInt < ρb.2.2 := ⟨k4, k5, by omega⟩
        obtain ⟨y1, y2, y3, -⟩ := r6 k k1
        simp only [k3, if_false, hin, and_self, if_true, hc]
        have f0 := e2 k 0 k2 (by omega)
        have f1 := e2 k 1 k2 (by omega)
        have f2 := e2 k 2 k2 (by omega)
        rcases three a3 with rfl | rfl | rfl | ⟨n0, n1, n2, n3⟩
        · rw [show nI 0 = 0 from rfl, Nat.add_zero] at f0
          simp only [if_true, show ¬ fX10_in 0 0 2 = 0 by rw [m_in]; decide, if_false, f0, Option.bind_some]
          exact ⟨_, _, rfl, by rw [y1]⟩
        · rw [show nI 1 = 1 from rfl, show 1 + 3 * k + 1 = 2 + 3 * k by omega] at f1
          simp only [if_true, show ¬ fX10_in 1 0 2 = 0 by rw [m_in]; decide, show ¬ ((1 : Int32) = 0) by decide, if_false, f1, Option.bind_some]
          exact ⟨_, _, rfl, by rw [y2]⟩
        · rw [show nI 2 = 2 from rfl, show 1 + 3 * k + 2 = 3 + 3 * k by omega] at f2
          simp only [if_true, show ¬ fX10_in 2 0 2 = 0 by rw [m_in]; decide, show ¬ ((2 : Int32) = 0) by decide, show ¬ ((2 : Int32) = 1) by decide, if_false, f2, Option.bind_some]
          exact ⟨_, _, rfl, by rw [y3]⟩
        · simp only [n0, n1, n2, n3, if_true, if_false]
          exact ⟨_, _, rfl, rfl⟩
      · have hin : ¬ (0 ≤ a2.toInt ∧ a2.toInt < (blk M 7 121 0 i 0).toInt ∧ a2.toInt < ρb.2.2) := fun h => k4 ⟨h.1, h.2.1⟩
        simp only [k3, if_true, hin, if_false, Option.bind_some, ite_self]
        exact ⟨_, _, rfl, rfl⟩
  · have h1' : fX7_rowsAt 16 1 a1 z = some none := h1
    have h5' : gX10_is 1 a1 (wI (wI M 0 0) 38 a1) = some 0 := h5 _ rfl
    rw [h1', h5']
    simp only [Option.bind_some, nq, b2, true_or, if_true]
    exact ⟨_, _, rfl, rfl⟩
theorem three' {x : Int32} (h0 : ¬ x = 0) (h1 : ¬ x = 1) : fX10_in x 0 1 = 0 := by
  rw [fa_eq, t0] at h0; rw [fa_eq, t1] at h1
  exact m_in1 (by rw [t0, t1]; omega)
theorem qu_view (Wc : WC) : Qu_view Wc := by
  intro z M ρM hI a1 a2 a3
  have hsk := hI.2.2.2.1
  unfold fX9_view gX10_view
  rw [if_pos (x9_o hsk), x9_g (k := 0) (x := 16) hsk rfl]
  simp only [Option.bind_some, nm, gX10_hasSight]
  rcases rows_cases hI (q := 2) (by omega) (by omega) a1 with ⟨i, b, ρb, Y, hi, rfl, h1, h2, h3, h4, h5⟩ | ⟨h1, h5⟩
  · have h1' : fX7_rowsAt 16 2 (nI i) z = some (some b) := h1
    have h5' : gX10_is 2 (nI i) (wI (wI M 0 0) 47 (nI i)) = some 1 := h5 _ rfl
    rw [h1', h5']
    have h4 : RR 2 Y ρb.2.2 (blk M 8 17 0 i) := h4
    obtain ⟨r1, r2, r3, -, r4, -⟩ := h4
    obtain ⟨r5, r6⟩ := r4 rfl
    have hn : ρb.2.2 < 2 ^ 31 := by rw [r5]; decide
    have e1 : gX10_views (wI (wI M 0 0) 47 (nI i)) = some (blk M 8 17 0 i 0) := by
      unfold gX10_views
      show (rA 136 (M.2.1 8) (nI 17 * nI i)).bind _ = _
      rw [pk_mul, rA_nI (by omega) (by omega), blk0 _ _ _ _ _ (by omega)]; rfl
    have e2 : ∀ k j : Nat, k < 8 → j < 2 → gX10_viewOf (nI k) (nI j) (wI (wI M 0 0) 47 (nI i)) = some (blk M 8 17 0 i (1 + 2 * k + j)) := by
      intro k j hk hj
      unfold gX10_viewOf
      show (rA 136 (M.2.1 8) (nI 17 * nI i + 1 + 2 * nI k + nI j)).bind _ = _
      rw [ix2, rA_nI (by omega) (by omega), blk0 _ _ _ _ _ (by omega)]; rfl
    simp only [Option.bind_some, nq, b2, or_true, if_true, show ¬ ((1 : Int32) = 0) by decide, if_false, e1, gI_rd h3 (k := 3) rfl, eX5_answer h3, r1]
    by_cases hk : a2 = -1
    · by_cases hw : a3 = 0
      · simp only [hk, hw, if_true]; exact ⟨_, _, rfl, rfl⟩
      · simp only [hk, hw, if_true, if_false]; exact ⟨_, _, rfl, rfl⟩
    · simp only [hk, if_false, gX5_answer, r1, pickS (n := ρb.2.2) hn, Option.bind_some]
      rcases m_below (l := a2) (n := blk M 8 17 0 i 0) (m := 8) r2 (by omega) (by omega) with ⟨k, rfl, k1, k2, k3, k4, k5⟩ | ⟨k3, k4⟩
      · have hc : (nI k).toNatClampNeg = k := nI_clamp (by omega)
        have hin : 0 ≤ (nI k).toInt ∧ (nI k).toInt < (blk M 8 17 0 i 0).toInt ∧ (nI k).toInt < ρb.2.2 := ⟨k4, k5, by omega⟩
        obtain ⟨y1, y2, -⟩ := r6 k k1
        simp only [k3, if_false, hin, and_self, if_true, hc]
        have f0 := e2 k 0 k2 (by omega)
        have f1 := e2 k 1 k2 (by omega)
        rcases three a3 with rfl | rfl | rfl | ⟨n0, n1, n2, n3⟩
        · rw [show nI 0 = 0 from rfl, Nat.add_zero] at f0
          simp only [if_true, show ¬ fX10_in 0 0 1 = 0 by rw [m_in]; decide, show ¬ ((0 : Int32) = 2) by decide, if_false, f0, Option.bind_some]
          exact ⟨_, _, rfl, by rw [y1]⟩
        · rw [show nI 1 = 1 from rfl, show 1 + 2 * k + 1 = 2 + 2 * k by omega] at f1
          simp only [if_true, show ¬ fX10_in 1 0 1 = 0 by rw [m_in]; decide, show ¬ ((1 : Int32) = 2) by decide, show ¬ ((1 : Int32) = 0) by decide, if_false, f1, Option.bind_some]
          exact ⟨_, _, rfl, by rw [y2]⟩
        · simp only [if_true, show fX10_in 2 0 1 = 0 by rw [m_in]; decide]
          exact ⟨_, _, rfl, rfl⟩
        · simp only [n0, n1, n2, three' n0 n1, if_true, if_false]
          exact ⟨_, _, rfl, rfl⟩
      · have hin : ¬ (0 ≤ a2.toInt ∧ a2.toInt < (blk M 8 17 0 i 0).toInt ∧ a2.toInt < ρb.2.2) := fun h => k4 ⟨h.1, h.2.1⟩
        simp only [k3, if_true, hin, if_false, Option.bind_some, ite_self]
        exact ⟨_, _, rfl, rfl⟩
  · have h1' : fX7_rowsAt 16 2 a1 z = some none := h1
    have h5' : gX10_is 2 a1 (wI (wI M 0 0) 47 a1) = some 0 := h5 _ rfl
    rw [h1', h5']
    simp only [Option.bind_some, nq, b2, true_or, if_true]
    exact ⟨_, _, rfl, rfl⟩
theorem qu_fact (Wc : WC) : Qu_fact Wc := by
  intro z M ρM hI a1 a2 a3
  have hsk := hI.2.2.2.1
  unfold fX9_fact gX10_fact
  rw [if_pos (x9_o hsk), x9_g (k := 0) (x := 16) hsk rfl]
  simp only [Option.bind_some, nm, gX10_hasFight]
  rcases rows_cases hI (q := 3) (by omega) (by omega) a1 with ⟨i, b, ρb, Y, hi, rfl, h1, h2, h3, h4, h5⟩ | ⟨h1, h5⟩
  · have h1' : fX7_rowsAt 16 3 (nI i) z = some (some b) := h1
    have h5' : gX10_is 3 (nI i) (wI (wI M 0 0) 50 (nI i)) = some 1 := h5 _ rfl
    rw [h1', h5']
    have h4 : RR 3 Y ρb.2.2 (blk M 9 49 0 i) := h4
    obtain ⟨r1, r2, r3, -, -, r4⟩ := h4
    obtain ⟨r5, r6⟩ := r4 rfl
    have hn : ρb.2.2 < 2 ^ 31 := by rw [r5]; decide
    have e1 : gX10_facts (wI (wI M 0 0) 50 (nI i)) = some (blk M 9 49 0 i 0) := by
      unfold gX10_facts
      show (rA 392 (M.2.1 9) (nI 49 * nI i)).bind _ = _
      rw [pk_mul, rA_nI (by omega) (by omega), blk0 _ _ _ _ _ (by omega)]; rfl
    have e2 : ∀ k j : Nat, k < 16 → j < 3 → gX10_factOf (nI k) (nI j) (wI (wI M 0 0) 50 (nI i)) = some (blk M 9 49 0 i (1 + 3 * k + j)) := by
      intro k j hk hj
      unfold gX10_factOf
      show (rA 392 (M.2.1 9) (nI 49 * nI i + 1 + 3 * nI k + nI j)).bind _ = _
      rw [ix3, rA_nI (by omega) (by omega), blk0 _ _ _ _ _ (by omega)]; rfl
    simp only [Option.bind_some, nq, b2, or_true, if_true, show ¬ ((1 : Int32) = 0) by decide, if_false, e1, gI_rd h3 (k := 3) rfl, eX5_answer h3, r1]
    by_cases hk : a2 = -1
    · by_cases hw : a3 = 0
      · simp only [hk, hw, if_true]; exact ⟨_, _, rfl, rfl⟩
      · simp only [hk, hw, if_true, if_false]; exact ⟨_, _, rfl, rfl⟩
    · simp only [hk, if_false, bX9_fact_63, bX9_fact_73, eX5_answer h3, gX5_answer, r1, if_true, pickS (n := ρb.2.2) hn, Option.bind_some]
      rcases m_below (l := a2) (n := blk M 9 49 0 i 0) (m := 16) r2 (by omega) (by omega) with ⟨k, rfl, k1, k2, k3, k4, k5⟩ | ⟨k3, k4⟩
      · have hc : (nI k).toNatClampNeg = k := nI_clamp (by omega)
        have hin : 0 ≤ (nI k).toInt ∧ (nI k).toInt < (blk M 9 49 0 i 0).toInt ∧ (nI k).toInt < ρb.2.2 := ⟨k4, k5, by omega⟩
        obtain ⟨y1, y2, y3, y4, y5⟩ := r6 k k1
        simp only [k3, if_false, hin, and_self, if_true, hc]
        have f0 := e2 k 0 k2 (by omega)
        have f1 := e2 k 1 k2 (by omega)
        have f2 := e2 k 2 k2 (by omega)
        rw [show nI 0 = 0 from rfl, Nat.add_zero] at f0
        rw [show nI 1 = 1 from rfl, show 1 + 3 * k + 1 = 2 + 3 * k by omega] at f1
        rw [show nI 2 = 2 from rfl, show 1 + 3 * k + 2 = 3 + 3 * k by omega] at f2
        rw [y1]
        by_cases c0 : blk M 9 49 0 i (1 + 3 * k) = 0
        · obtain ⟨z1, z2, -⟩ := y4 c0
          rcases three a3 with rfl | rfl | rfl | ⟨n0, n1, n2, n3⟩
          · simp only [c0, if_true, show ¬ fX10_in 0 0 2 = 0 by rw [m_in]; decide, show ¬ ((0 : Int32) = 1) by decide, show ¬ ((0 : Int32) = 2) by decide, if_false, f0, Option.bind_some]
            exact ⟨_, _, rfl, rfl⟩
          · simp only [c0, if_true, show ¬ fX10_in 1 0 2 = 0 by rw [m_in]; decide, show (3 : Int32) - 1 = 2 by decide, show ¬ ((2 : Int32) = 0) by decide, show ¬ ((2 : Int32) = 1) by decide, if_false, f1, Option.bind_some]
            exact ⟨_, _, rfl, by rw [z2]⟩
          · simp only [c0, if_true, show ¬ fX10_in 2 0 2 = 0 by rw [m_in]; decide, show (3 : Int32) - 2 = 1 by decide, show ¬ ((2 : Int32) = 1) by decide, show ¬ ((1 : Int32) = 0) by decide, if_false, f2, Option.bind_some]
            exact ⟨_, _, rfl, by rw [z1]⟩
          · simp only [c0, n0, n1, n2, n3, if_true, if_false, Option.bind_some]
            exact ⟨_, _, rfl, rfl⟩
        · obtain ⟨z1, z2, z3⟩ := y5 c0
          rcases three a3 with rfl | rfl | rfl | ⟨n0, n1, n2, n3⟩
          · simp only [c0, if_true, show ¬ fX10_in 0 0 2 = 0 by rw [m_in]; decide, if_false, f0, Option.bind_some]
            exact ⟨_, _, rfl, rfl⟩
          · simp only [c0, if_true, show ¬ fX10_in 1 0 2 = 0 by rw [m_in]; decide, show ¬ ((1 : Int32) = 0) by decide, if_false, f1, Option.bind_some]
            exact ⟨_, _, rfl, by rw [z1]⟩
          · simp only [c0, if_true, show ¬ fX10_in 2 0 2 = 0 by rw [m_in]; decide, show ¬ ((2 : Int32) = 0) by decide, show ¬ ((2 : Int32) = 1) by decide, if_false, f2, Option.bind_some]
            exact ⟨_, _, rfl, by rw [z2, z3]⟩
          · simp only [c0, n0, n1, n2, n3, if_true, if_false, Option.bind_some]
            exact ⟨_, _, rfl, rfl⟩
      · have hm2 : ¬ ((-2 : Int32) = 0) := by decide
        have hin : ¬ (0 ≤ a2.toInt ∧ a2.toInt < (blk M 9 49 0 i 0).toInt ∧ a2.toInt < ρb.2.2) := fun h => k4 ⟨h.1, h.2.1⟩
        simp only [k3, if_true, hin, if_false, Option.bind_some, ite_self, hm2]
        exact ⟨_, _, rfl, rfl⟩
  · have h1' : fX7_rowsAt 16 3 a1 z = some none := h1
    have h5' : gX10_is 3 a1 (wI (wI M 0 0) 50 a1) = some 0 := h5 _ rfl
    rw [h1', h5']
    simp only [Option.bind_some, nq, b2, true_or, if_true]
    exact ⟨_, _, rfl, rfl⟩
