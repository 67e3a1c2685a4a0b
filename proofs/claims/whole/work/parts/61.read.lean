/-! ===== which text is meant: class and reference ===== -/
theorem t0 : (0 : Int32).toInt = 0 := rfl
theorem t1 : (1 : Int32).toInt = 1 := rfl
theorem t2 : (2 : Int32).toInt = 2 := rfl
theorem m_is {M : SV} {q : Nat} (hq : q < 16) (hr : rng (M.2.1 5 q) 0 2) (k : Int32) : gX10_is (nI q) k M = some (if 0 ≤ k.toInt ∧ k.toInt < (M.2.1 5 q).toInt then 1 else 0) := by
  unfold gX10_is
  have hc : (nI q).toNatClampNeg = q := nI_clamp (by omega)
  have hi : (nI q).toInt = q := nI_toInt (by omega)
  rw [rA_in (by omega) (by omega), hc]
  obtain ⟨h1, h2⟩ := hr
  have e : (M.2.1 5 q - 1).toInt = (M.2.1 5 q).toInt - 1 := by
    rw [fb_subI] <;> rw [t1] <;> omega
  by_cases h : 0 ≤ k.toInt ∧ k.toInt < (M.2.1 5 q).toInt
  · have h3 : fX10_in k 0 (M.2.1 5 q - 1) = 1 := by
      rw [m_in, if_pos ⟨(fa_le _ _).mpr (by rw [t0]; omega), (fa_le _ _).mpr (by rw [e]; omega)⟩]
    simp [h3, h]
  · have h3 : fX10_in k 0 (M.2.1 5 q - 1) = 0 := m_in1 (by rw [t0, e]; omega)
    simp [h3, h]
theorem r_at {z : AH} {ρ : RV} {S : SV} (hR : RD 6 16 ρ S z) {q : Nat} (hq : q < 4) (hr : rng (S.2.1 4 q) 0 2) (k : Int32) : fX7_rowsAt 16 (nI q) k z = some (if 0 ≤ k.toInt ∧ k.toInt < (S.2.1 4 q).toInt then ρ.2.1 6 (2 * q + k.toNatClampNeg) else none) := by
  unfold fX7_rowsAt
  have hi : (nI q).toInt = q := nI_toInt (by omega)
  have hc : (nI q).toNatClampNeg = q := nI_clamp (by omega)
  rw [if_pos (isO_rd hR), eX7_sizeOf hR]
  simp only [gX7_sizeOf, pickS (n := 4) (by decide), Option.bind_some]
  rw [if_pos (show 0 ≤ (nI q).toInt ∧ (nI q).toInt < (4 : Int32).toInt ∧ (nI q).toInt < ((4 : Nat) : Int) by rw [hi, show (4 : Int32).toInt = 4 from rfl]; omega), hc]
  obtain ⟨h1, h2⟩ := hr
  by_cases c1 : k < 0
  · have : ¬ (0 ≤ k.toInt ∧ k.toInt < (S.2.1 4 q).toInt) := by rw [fa_lt, t0] at c1; omega
    rw [if_pos c1, if_neg this]
  · have c1' : 0 ≤ k.toInt := by rw [fa_lt, t0] at c1; omega
    rw [if_neg c1]
    by_cases c2 : S.2.1 4 q ≤ k
    · have : ¬ (0 ≤ k.toInt ∧ k.toInt < (S.2.1 4 q).toInt) := by rw [fa_le] at c2; omega
      rw [if_pos c2, if_neg this]
    · have c2' : k.toInt < (S.2.1 4 q).toInt := by rw [fa_le] at c2; omega
      have c3 : ¬ (2 : Int32) ≤ k := by rw [fa_le, t2]; omega
      rw [if_neg c2, if_neg c3, gN_rd hR (k := 6) rfl (Or.inr (Or.inr (Or.inr rfl)))]
      simp only [Option.bind_some]
      obtain ⟨i, hi2, rfl⟩ := vp_in_of (x := k) (n := 2) (vp_in_iff.mpr ⟨by omega, by omega⟩) (by decide)
      have hk : (nI i).toNatClampNeg = i := nI_clamp (by omega)
      rw [ixQ_rd hR (k := 6) rfl rfl (by decide)]
      have e : (2 : Int32) * nI q + nI i = nI (2 * q + i) := by
        rw [show (2 : Int32) = nI 2 from rfl, pk_mul, nI_add]
      rw [e, if_pos ⟨c1', c2'⟩, hk]
      have hj : (nI (2 * q + i)).toNatClampNeg = 2 * q + i := nI_clamp (by omega)
      have h4 : ¬ (nI (2 * q + i) < 0 ∨ 8 ≤ (nI (2 * q + i)).toNatClampNeg) := by
        rw [hj]
        intro h
        rcases h with h | h
        · exact nI_pos (by omega) h
        · omega
      unfold rQ
      rw [if_pos h4, hj]; rfl
theorem c_at {z : AH} {ρ : RV} {S : SV} (hR : RD 6 16 ρ S z) (hr : rng (S.2.1 4 0) 0 2) (k : Int32) : fX7_countryAt 16 k z = some (if 0 ≤ k.toInt ∧ k.toInt < (S.2.1 4 0).toInt then ρ.2.1 5 k.toNatClampNeg else none) := by
  unfold fX7_countryAt
  rw [if_pos (isO_rd hR), gN_rd hR (k := 4) rfl (Or.inl rfl)]
  simp only [Option.bind_some]
  rw [ixI_rd hR (k := 4) rfl rfl (by decide) 0 rfl (by decide), rA_in (by decide) (by decide)]
  simp only [Option.bind_some]
  obtain ⟨h1, h2⟩ := hr
  have z0 : (0 : Int32).toNatClampNeg = 0 := rfl
  rw [z0]
  by_cases c1 : k < 0
  · have : ¬ (0 ≤ k.toInt ∧ k.toInt < (S.2.1 4 0).toInt) := by rw [fa_lt, t0] at c1; omega
    rw [if_pos c1, if_neg this]
  · have c1' : 0 ≤ k.toInt := by rw [fa_lt, t0] at c1; omega
    rw [if_neg c1]
    by_cases c2 : S.2.1 4 0 ≤ k
    · have : ¬ (0 ≤ k.toInt ∧ k.toInt < (S.2.1 4 0).toInt) := by rw [fa_le] at c2; omega
      rw [if_pos c2, if_neg this]
    · have c2' : k.toInt < (S.2.1 4 0).toInt := by rw [fa_le] at c2; omega
      have c3 : ¬ (2 : Int32) ≤ k := by rw [fa_le, t2]; omega
      rw [if_neg c2, if_neg c3, gN_rd hR (k := 5) rfl (Or.inr (Or.inr (Or.inr rfl)))]
      simp only [Option.bind_some]
      rw [ixQ_rd hR (k := 5) rfl rfl (by decide), if_pos ⟨c1', c2'⟩]
      have h4 : ¬ (k < 0 ∨ 2 ≤ k.toNatClampNeg) := vp_in_iff.mpr ⟨by omega, by omega⟩
      unfold rQ
      rw [if_pos h4]; rfl
/-- Rows: there, on both sides, or on none -/
theorem rows_cases {Wc : WC} {z : AH} {M : SV} {ρM : RV} (hI : InvM Wc z M ρM) {q : Nat} (h1 : 1 ≤ q) (hq : q < 4) (k : Int32) :
    (∃ (i b : Nat) (ρb : RV) (Y : SV), i < 2 ∧ k = nI i ∧ fX7_rowsAt 16 (nI q) k z = some (some b) ∧ 113 ≤ b ∧ RD 4 b ρb Y z ∧ RR q Y ρb.2.2 (blk M (6 + q) (wdt q) 0 i) ∧ ∀ M' : SV, M'.2.1 5 = M.2.1 5 → gX10_is (nI q) k M' = some 1) ∨
    (fX7_rowsAt 16 (nI q) k z = some none ∧ ∀ M' : SV, M'.2.1 5 = M.2.1 5 → gX10_is (nI q) k M' = some 0) := by
  obtain ⟨S, ρ, hR, hT⟩ := hI.2.2.1 0 (by omega)
  have hR : RD 6 16 ρ S z := hR
  obtain ⟨-, -, hm, -, hrows, -⟩ := hT
  obtain ⟨em, hr⟩ := hm q hq
  rw [show 4 * 0 + q = q by omega] at em
  have e1 := r_at hR hq hr k
  by_cases h : 0 ≤ k.toInt ∧ k.toInt < (S.2.1 4 q).toInt
  · have hr2 : (S.2.1 4 q).toInt ≤ 2 := hr.2
    obtain ⟨i, hi, rfl⟩ := vp_in_of (x := k) (n := 2) (vp_in_iff.mpr ⟨by omega, by omega⟩) (by decide)
    have hc : (nI i).toNatClampNeg = i := nI_clamp (by omega)
    have ht : (nI i).toInt = i := nI_toInt (by omega)
    rw [if_pos h, hc] at e1
    obtain ⟨b, ρb, Y, g1, g2, g3, g4⟩ := hrows q h1 hq i (by omega)
    rw [g1] at e1
    refine Or.inl ⟨i, b, ρb, Y, hi, rfl, e1, g2, g3, g4, fun M' hM => ?_⟩
    rw [m_is (by omega) (by rw [hM, ← em]; exact hr), hM, ← em, if_pos h]
  · rw [if_neg h] at e1
    refine Or.inr ⟨e1, fun M' hM => ?_⟩
    rw [m_is (by omega) (by rw [hM, ← em]; exact hr), hM, ← em, if_neg h]
theorem cty_cases {Wc : WC} {z : AH} {M : SV} {ρM : RV} (hI : InvM Wc z M ρM) (k : Int32) :
    (∃ (i c : Nat) (ρc : RV) (C : SV), i < 2 ∧ k = nI i ∧ fX7_countryAt 16 k z = some (some c) ∧ 113 ≤ c ∧ RD 0 c ρc C z ∧ CR C (blk M 6 110 0 i) ∧ VB (blk M 6 110 0 i) ∧ NR (blk M 6 110 0 i) ∧ CD C (blk M 6 110 0 i) ∧ ∀ M' : SV, M'.2.1 5 = M.2.1 5 → gX10_is 0 k M' = some 1) ∨
    (fX7_countryAt 16 k z = some none ∧ ∀ M' : SV, M'.2.1 5 = M.2.1 5 → gX10_is 0 k M' = some 0) := by
  obtain ⟨S, ρ, hR, hT⟩ := hI.2.2.1 0 (by omega)
  have hR : RD 6 16 ρ S z := hR
  obtain ⟨-, -, hm, hcs, -⟩ := hT
  obtain ⟨em, hr⟩ := hm 0 (by omega)
  have em : S.2.1 4 0 = M.2.1 5 0 := em
  have e1 := c_at hR hr k
  have e0 : (0 : Int32) = nI 0 := rfl
  by_cases h : 0 ≤ k.toInt ∧ k.toInt < (S.2.1 4 0).toInt
  · have hr2 : (S.2.1 4 0).toInt ≤ 2 := hr.2
    obtain ⟨i, hi, rfl⟩ := vp_in_of (x := k) (n := 2) (vp_in_iff.mpr ⟨by omega, by omega⟩) (by decide)
    have hc : (nI i).toNatClampNeg = i := nI_clamp (by omega)
    have ht : (nI i).toInt = i := nI_toInt (by omega)
    rw [if_pos h, hc] at e1
    obtain ⟨c, ρc, C, g1, g2, g3, g4, g5, g6, g7⟩ := hcs i (by omega)
    rw [g1] at e1
    refine Or.inl ⟨i, c, ρc, C, hi, rfl, e1, g2, g3, g4, g5, g6, g7, fun M' hM => ?_⟩
    show gX10_is (nI 0) _ M' = _
    rw [m_is (by omega) (by rw [hM, ← em]; exact hr), hM, ← em, if_pos h]
  · rw [if_neg h] at e1
    refine Or.inr ⟨e1, fun M' hM => ?_⟩
    show gX10_is (nI 0) _ M' = _
    rw [m_is (by omega) (by rw [hM, ← em]; exact hr), hM, ← em, if_neg h]
