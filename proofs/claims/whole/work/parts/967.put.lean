/-! ===== text: the reference's lines that strike earlier ones ===== -/
theorem wc_1 : wC 1 = 491328337011 := by decide +kernel
theorem wc_7 : ¬ wC 7 = 491328337011 ∧ ¬ wC 7 = 1751215716 ∧ wC 7 = 465625113971 := by decide +kernel
theorem wc_8 : ¬ wC 8 = 491328337011 ∧ ¬ wC 8 = 1751215716 ∧ ¬ wC 8 = 465625113971 := by decide +kernel
section LK2
variable {F : Nat → Int32} {L p : Nat} {M : SV} {s : ST}
theorem ml_1 (hT : MT F L M) (hp : p ≤ L) (hS : MS (D8 F) L p M) (hK : ¬ tK (D8 F) L p = 0) (hs : RMs 0 s M) (hsf : SFp 0 s.2.1) (hbd : BD s.1 (tB (D8 F) L p)) (hg : M.1 24 = 1) : LO F L p 1 0 s M (gbX10_countryLine_379 (wC 1) M) := by
  obtain ⟨M2, u2, ch0, u4, u5, u6, u7⟩ := l_pre0 (k := 1) hT hp hS hK hs hbd hg (by decide)
  obtain ⟨h17, h19, hfar⟩ := hs
  unfold gbX10_countryLine_379
  rw [u2]
  simp only [Option.bind_some]
  have z19 : ∀ j, j < 121 → M2.2.1 19 j = s.2.1 j := fun j hj => by rw [u4]; exact h19 j hj
  rw [if_pos wc_1]
  rcases m_takeThing (hT.tl ch0.2.1) (ps_le (D8 F) hp 1) ch0.1 (r := 0) (by omega) (-1) with ⟨c0, M3, ta0, tb0, tc0, td0, te0⟩ | ⟨c0, M3, ta0, tb0⟩
  · replace ta0 : gX10_takeThing 0 (-1) M2 = some (1, M3) := ta0
    have ch1 := ch0.step hT hp c0 (vd_1 (k := 1) (i := 0) (by omega) _ _) tb0
    have x20_0 := tb0.2.2.1
    rw [ta0, b2_some, if_neg (show ¬ (1 : Int32) = 0 by decide)]
    rw [show rA 4 (M3.2.1 20) 0 = some (tV (D8 F) L (ps (D8 F) L p 1)) from by rw [x20_0]; exact (rA_nI (k := 0) (by omega) (by omega)).trans (by rw [pk_us])]
    simp only [Option.bind_some]
    rcases m_takeThing (hT.tl ch1.2.1) (ps_le (D8 F) hp 2) ch1.1 (r := 1) (by omega) (tV (D8 F) L (ps (D8 F) L p 1)) with ⟨c1, M4, ta1, tb1, tc1, td1, te1⟩ | ⟨c1, M4, ta1, tb1⟩
    · replace ta1 : gX10_takeThing 1 (tV (D8 F) L (ps (D8 F) L p 1)) M3 = some (1, M4) := ta1
      have ch2 := ch1.step hT hp c1 (vd_2 (k := 1) (by omega) _ _) tb1
      have x20_1 := tb1.2.2.1
      rw [ta1, b2_some, if_neg (show ¬ (1 : Int32) = 0 by decide)]
      have hfr : (0 : Nat) = 0 → M4.1 21 = (stL s (lnA (D8 F) L p 1)).2.2.1 ∧ M4.1 22 = (stL s (lnA (D8 F) L p 1)).2.2.2.1 ∧ M4.1 23 = (stL s (lnA (D8 F) L p 1)).2.2.2.2 := fun hq => by
        obtain ⟨g1, g2, g3⟩ := hfar hq
        refine ⟨?_, ?_, ?_⟩
        · rw [tc1, tc0, u5, g1]; rfl
        · rw [td1, td0, u6, g2]; rfl
        · rw [te1, te0, u7, g3]; rfl
      rw [show rA 4 (M4.2.1 20) 0 = some (tV (D8 F) L (ps (D8 F) L p 1)) from by rw [x20_1, x20_0]; exact (rA_nI (k := 0) (by omega) (by omega)).trans (by rw [pk_un (by decide), pk_us]), Option.bind_some]
      rw [show rA 4 (M4.2.1 20) 1 = some (tV (D8 F) L (ps (D8 F) L p 2)) from by rw [x20_1, x20_0]; exact (rA_nI (k := 1) (by omega) (by omega)).trans (by rw [pk_us]), Option.bind_some]
      obtain ⟨m, m1, m2, m3⟩ := and7 (tV (D8 F) L (ps (D8 F) L p 1))
      obtain ⟨f, k1, k2⟩ := m_put (M := M4) (told := s.2.1) ch2.2.2.2.2.2 (fun j hj => by rw [ch2.2.2.1]; exact h19 j hj) (ix := 30 + m) (by omega) (tV (D8 F) L (ps (D8 F) L p 2))
      rw [m2, show (30 : Int32) = nI 30 from rfl, nI_add, k1, b2_some, if_neg (show ¬ (1 : Int32) = 0 by decide)]
      have k3 : ∀ j, j < 121 → f j = tbL s.2.1 (lnA (D8 F) L p 1) j := fun j hj => by
        rw [k2 j hj]
        have et : tbL s.2.1 (lnA (D8 F) L p 1) = if gdN (lnA (D8 F) L p 1) 2 = true then upd s.2.1 (30 + (tV (D8 F) L (ps (D8 F) L p 1)).toNatClampNeg) (tV (D8 F) L (ps (D8 F) L p 2)) else s.2.1 := tb_1 _ _ _ _
        rw [et]
        cases hgd : gdN (lnA (D8 F) L p 1) 2
        · rw [if_neg (by decide), if_neg (by decide)]
        · have a0 := okr_1 (gd_ok 2 hgd 0 (by omega))
          rw [m3 a0.1 a0.2]
      exact Or.inr ⟨jl2 (P := fun j => tK (D8 F) L (ps (D8 F) L p (j + 1)) = 2) c0 c1, wR M4 19 f, rfl, ch2.1, ch2.2.1.wr_ (by omega) f, ch2.2.2.2.1, fun j hj => by rw [wR_eq]; exact k3 j hj, hfr⟩
    · replace ta1 : gX10_takeThing 1 (tV (D8 F) L (ps (D8 F) L p 1)) M3 = some (0, M4) := ta1
      rw [ta1, b2_some, if_pos rfl]
      exact Or.inl ⟨1, by decide, jl1 (P := fun j => tK (D8 F) L (ps (D8 F) L p (j + 1)) = 2) c0, c1, M4, rfl, tb1.1, ch1.2.1.tr tb1.2⟩
  · replace ta0 : gX10_takeThing 0 (-1) M2 = some (0, M3) := ta0
    rw [ta0, b2_some, if_pos rfl]
    exact Or.inl ⟨0, by decide, jl0 (P := fun j => tK (D8 F) L (ps (D8 F) L p (j + 1)) = 2), c0, M3, rfl, tb0.1, ch0.2.1.tr tb0.2⟩
theorem ml_7 (hT : MT F L M) (hp : p ≤ L) (hS : MS (D8 F) L p M) (hK : ¬ tK (D8 F) L p = 0) (hs : RMs 0 s M) (hsf : SFp 0 s.2.1) (hbd : BD s.1 (tB (D8 F) L p)) (hg : M.1 24 = 1) : LO F L p 7 0 s M (gbX10_countryLine_379 (wC 7) M) := by
  obtain ⟨M2, u2, ch0, u4, u5, u6, u7⟩ := l_pre0 (k := 7) hT hp hS hK hs hbd hg (by decide)
  obtain ⟨h17, h19, hfar⟩ := hs
  unfold gbX10_countryLine_379
  rw [u2]
  simp only [Option.bind_some]
  have z19 : ∀ j, j < 121 → M2.2.1 19 j = s.2.1 j := fun j hj => by rw [u4]; exact h19 j hj
  rw [if_neg wc_7.1, if_neg wc_7.2.1, if_pos wc_7.2.2]
  rcases m_takeLeft (hT.tl ch0.2.1) (ps_le (D8 F) hp 1) ch0.1 (r := 0) (by omega) with ⟨c0, M3, ta0, tb0, tc0, td0, te0⟩ | ⟨c0, M3, ta0, tb0⟩
  · replace ta0 : gX10_takeLeft 0 M2 = some (1, M3) := ta0
    have ch1 := ch0.step hT hp c0 (vd_1 (k := 7) (i := 0) (by omega) _ _) tb0
    have x20_0 := tb0.2.2.1
    rw [ta0, b2_some, if_neg (show ¬ (1 : Int32) = 0 by decide)]
    rcases m_takeRight (hT.tl ch1.2.1) (ps_le (D8 F) hp 2) ch1.1 (r := 1) (by omega) with ⟨c1, M4, ta1, tb1, tc1, td1, te1⟩ | ⟨c1, M4, ta1, tb1⟩
    · replace ta1 : gX10_takeRight 1 M3 = some (1, M4) := ta1
      have ch2 := ch1.step hT hp c1 (vd_1 (k := 7) (i := 1) (by omega) _ _) tb1
      have x20_1 := tb1.2.2.1
      rw [ta1, b2_some, if_neg (show ¬ (1 : Int32) = 0 by decide)]
      rcases m_take (hT.tl ch2.2.1) (ps_le (D8 F) hp 3) ch2.1 (r := 2) (by omega) 0 9 with ⟨c2, M5, ta2, tb2, tc2, td2, te2⟩ | ⟨c2, M5, ta2, tb2⟩
      · replace ta2 : gX10_take 2 0 9 M4 = some (1, M5) := ta2
        have ch3 := ch2.step hT hp c2 (vd_1 (k := 7) (i := 2) (by omega) _ _) tb2
        have x20_2 := tb2.2.2.1
        rw [ta2, b2_some, if_neg (show ¬ (1 : Int32) = 0 by decide)]
        have hfr : (0 : Nat) = 0 → M5.1 21 = (stL s (lnA (D8 F) L p 7)).2.2.1 ∧ M5.1 22 = (stL s (lnA (D8 F) L p 7)).2.2.2.1 ∧ M5.1 23 = (stL s (lnA (D8 F) L p 7)).2.2.2.2 := fun hq => by
          obtain ⟨g1, g2, g3⟩ := hfar hq
          refine ⟨?_, ?_, ?_⟩
          · rw [tc2, tc1, tc0, u5, g1]; rfl
          · rw [td2, td1, td0, u6, g2]; rfl
          · rw [te2, te1, te0, u7, g3]; rfl
        rw [show rA 4 (M5.2.1 20) 0 = some (tV (D8 F) L (ps (D8 F) L p 1)) from by rw [x20_2, x20_1, x20_0]; exact (rA_nI (k := 0) (by omega) (by omega)).trans (by rw [pk_un (by decide), pk_un (by decide), pk_us]), Option.bind_some]
        rw [show rA 4 (M5.2.1 20) 1 = some (tV (D8 F) L (ps (D8 F) L p 2)) from by rw [x20_2, x20_1, x20_0]; exact (rA_nI (k := 1) (by omega) (by omega)).trans (by rw [pk_un (by decide), pk_us]), Option.bind_some]
        rw [show rA 4 (M5.2.1 20) 2 = some (tV (D8 F) L (ps (D8 F) L p 3)) from by rw [x20_2, x20_1, x20_0]; exact (rA_nI (k := 2) (by omega) (by omega)).trans (by rw [pk_us]), Option.bind_some]
        obtain ⟨m, m1, m2, m3⟩ := and3 (tV (D8 F) L (ps (D8 F) L p 1))
        obtain ⟨m', m1', m2', m3'⟩ := and3 (tV (D8 F) L (ps (D8 F) L p 2))
        obtain ⟨f, k1, k2⟩ := m_put (M := M5) (told := s.2.1) ch3.2.2.2.2.2 (fun j hj => by rw [ch3.2.2.1]; exact h19 j hj) (ix := 78 + 4 * m + m') (by omega) (tV (D8 F) L (ps (D8 F) L p 3))
        rw [m2, m2', show (78 : Int32) = nI 78 from rfl, show (4 : Int32) = nI 4 from rfl, pk_mul, nI_add, nI_add, k1, b2_some, if_neg (show ¬ (1 : Int32) = 0 by decide)]
        have k3 : ∀ j, j < 121 → f j = tbL s.2.1 (lnA (D8 F) L p 7) j := fun j hj => by
          rw [k2 j hj]
          have et : tbL s.2.1 (lnA (D8 F) L p 7) = if gdN (lnA (D8 F) L p 7) 3 = true then upd s.2.1 (78 + 4 * (tV (D8 F) L (ps (D8 F) L p 1)).toNatClampNeg + (tV (D8 F) L (ps (D8 F) L p 2)).toNatClampNeg) (tV (D8 F) L (ps (D8 F) L p 3)) else s.2.1 := tb_7 _ _ _ _
          rw [et]
          cases hgd : gdN (lnA (D8 F) L p 7) 3
          · rw [if_neg (by decide), if_neg (by decide)]
          · have a0 := okr_7 (gd_ok 3 hgd 0 (by omega))
            have a1 := okr_7' (gd_ok 3 hgd 1 (by omega))
            rw [m3 a0.1 a0.2, m3' a1.1 a1.2]
        exact Or.inr ⟨jl3 (P := fun j => tK (D8 F) L (ps (D8 F) L p (j + 1)) = 2) c0 c1 c2, wR M5 19 f, rfl, ch3.1, ch3.2.1.wr_ (by omega) f, ch3.2.2.2.1, fun j hj => by rw [wR_eq]; exact k3 j hj, hfr⟩
      · replace ta2 : gX10_take 2 0 9 M4 = some (0, M5) := ta2
        rw [ta2, b2_some, if_pos rfl]
        exact Or.inl ⟨2, by decide, jl2 (P := fun j => tK (D8 F) L (ps (D8 F) L p (j + 1)) = 2) c0 c1, c2, M5, rfl, tb2.1, ch2.2.1.tr tb2.2⟩
    · replace ta1 : gX10_takeRight 1 M3 = some (0, M4) := ta1
      rw [ta1, b2_some, if_pos rfl]
      exact Or.inl ⟨1, by decide, jl1 (P := fun j => tK (D8 F) L (ps (D8 F) L p (j + 1)) = 2) c0, c1, M4, rfl, tb1.1, ch1.2.1.tr tb1.2⟩
  · replace ta0 : gX10_takeLeft 0 M2 = some (0, M3) := ta0
    rw [ta0, b2_some, if_pos rfl]
    exact Or.inl ⟨0, by decide, jl0 (P := fun j => tK (D8 F) L (ps (D8 F) L p (j + 1)) = 2), c0, M3, rfl, tb0.1, ch0.2.1.tr tb0.2⟩
theorem ml_8 (hT : MT F L M) (hp : p ≤ L) (hS : MS (D8 F) L p M) (hK : ¬ tK (D8 F) L p = 0) (hs : RMs 0 s M) (hsf : SFp 0 s.2.1) (hbd : BD s.1 (tB (D8 F) L p)) (hg : M.1 24 = 1) : LO F L p 8 0 s M (gbX10_countryLine_379 (wC 8) M) := by
  obtain ⟨M2, u2, ch0, u4, u5, u6, u7⟩ := l_pre0 (k := 8) hT hp hS hK hs hbd hg (by decide)
  obtain ⟨h17, h19, hfar⟩ := hs
  unfold gbX10_countryLine_379
  rw [u2]
  simp only [Option.bind_some]
  have z19 : ∀ j, j < 121 → M2.2.1 19 j = s.2.1 j := fun j hj => by rw [u4]; exact h19 j hj
  rw [if_neg wc_8.1, if_neg wc_8.2.1, if_neg wc_8.2.2]
  rcases m_takeRight (hT.tl ch0.2.1) (ps_le (D8 F) hp 1) ch0.1 (r := 0) (by omega) with ⟨c0, M3, ta0, tb0, tc0, td0, te0⟩ | ⟨c0, M3, ta0, tb0⟩
  · replace ta0 : gX10_takeRight 0 M2 = some (1, M3) := ta0
    have ch1 := ch0.step hT hp c0 (vd_1 (k := 8) (i := 0) (by omega) _ _) tb0
    have x20_0 := tb0.2.2.1
    rw [ta0, b2_some, if_neg (show ¬ (1 : Int32) = 0 by decide)]
    rcases m_takeLeft (hT.tl ch1.2.1) (ps_le (D8 F) hp 2) ch1.1 (r := 1) (by omega) with ⟨c1, M4, ta1, tb1, tc1, td1, te1⟩ | ⟨c1, M4, ta1, tb1⟩
    · replace ta1 : gX10_takeLeft 1 M3 = some (1, M4) := ta1
      have ch2 := ch1.step hT hp c1 (vd_1 (k := 8) (i := 1) (by omega) _ _) tb1
      have x20_1 := tb1.2.2.1
      rw [ta1, b2_some, if_neg (show ¬ (1 : Int32) = 0 by decide)]
      rcases m_take (hT.tl ch2.2.1) (ps_le (D8 F) hp 3) ch2.1 (r := 2) (by omega) 0 9 with ⟨c2, M5, ta2, tb2, tc2, td2, te2⟩ | ⟨c2, M5, ta2, tb2⟩
      · replace ta2 : gX10_take 2 0 9 M4 = some (1, M5) := ta2
        have ch3 := ch2.step hT hp c2 (vd_1 (k := 8) (i := 2) (by omega) _ _) tb2
        have x20_2 := tb2.2.2.1
        rw [ta2, b2_some, if_neg (show ¬ (1 : Int32) = 0 by decide)]
        have hfr : (0 : Nat) = 0 → M5.1 21 = (stL s (lnA (D8 F) L p 8)).2.2.1 ∧ M5.1 22 = (stL s (lnA (D8 F) L p 8)).2.2.2.1 ∧ M5.1 23 = (stL s (lnA (D8 F) L p 8)).2.2.2.2 := fun hq => by
          obtain ⟨g1, g2, g3⟩ := hfar hq
          refine ⟨?_, ?_, ?_⟩
          · rw [tc2, tc1, tc0, u5, g1]; rfl
          · rw [td2, td1, td0, u6, g2]; rfl
          · rw [te2, te1, te0, u7, g3]; rfl
        rw [show rA 4 (M5.2.1 20) 0 = some (tV (D8 F) L (ps (D8 F) L p 1)) from by rw [x20_2, x20_1, x20_0]; exact (rA_nI (k := 0) (by omega) (by omega)).trans (by rw [pk_un (by decide), pk_un (by decide), pk_us]), Option.bind_some]
        rw [show rA 4 (M5.2.1 20) 1 = some (tV (D8 F) L (ps (D8 F) L p 2)) from by rw [x20_2, x20_1, x20_0]; exact (rA_nI (k := 1) (by omega) (by omega)).trans (by rw [pk_un (by decide), pk_us]), Option.bind_some]
        rw [show rA 4 (M5.2.1 20) 2 = some (tV (D8 F) L (ps (D8 F) L p 3)) from by rw [x20_2, x20_1, x20_0]; exact (rA_nI (k := 2) (by omega) (by omega)).trans (by rw [pk_us]), Option.bind_some]
        obtain ⟨m, m1, m2, m3⟩ := and3 (tV (D8 F) L (ps (D8 F) L p 1))
        obtain ⟨m', m1', m2', m3'⟩ := and3 (tV (D8 F) L (ps (D8 F) L p 2))
        obtain ⟨f, k1, k2⟩ := m_put (M := M5) (told := s.2.1) ch3.2.2.2.2.2 (fun j hj => by rw [ch3.2.2.1]; exact h19 j hj) (ix := 94 + 4 * m + m') (by omega) (tV (D8 F) L (ps (D8 F) L p 3))
        rw [m2, m2', show (94 : Int32) = nI 94 from rfl, show (4 : Int32) = nI 4 from rfl, pk_mul, nI_add, nI_add, k1, b2_some, if_neg (show ¬ (1 : Int32) = 0 by decide)]
        have k3 : ∀ j, j < 121 → f j = tbL s.2.1 (lnA (D8 F) L p 8) j := fun j hj => by
          rw [k2 j hj]
          have et : tbL s.2.1 (lnA (D8 F) L p 8) = if gdN (lnA (D8 F) L p 8) 3 = true then upd s.2.1 (94 + 4 * (tV (D8 F) L (ps (D8 F) L p 1)).toNatClampNeg + (tV (D8 F) L (ps (D8 F) L p 2)).toNatClampNeg) (tV (D8 F) L (ps (D8 F) L p 3)) else s.2.1 := tb_8 _ _ _ _
          rw [et]
          cases hgd : gdN (lnA (D8 F) L p 8) 3
          · rw [if_neg (by decide), if_neg (by decide)]
          · have a0 := okr_8 (gd_ok 3 hgd 0 (by omega))
            have a1 := okr_8' (gd_ok 3 hgd 1 (by omega))
            rw [m3 a0.1 a0.2, m3' a1.1 a1.2]
        exact Or.inr ⟨jl3 (P := fun j => tK (D8 F) L (ps (D8 F) L p (j + 1)) = 2) c0 c1 c2, wR M5 19 f, rfl, ch3.1, ch3.2.1.wr_ (by omega) f, ch3.2.2.2.1, fun j hj => by rw [wR_eq]; exact k3 j hj, hfr⟩
      · replace ta2 : gX10_take 2 0 9 M4 = some (0, M5) := ta2
        rw [ta2, b2_some, if_pos rfl]
        exact Or.inl ⟨2, by decide, jl2 (P := fun j => tK (D8 F) L (ps (D8 F) L p (j + 1)) = 2) c0 c1, c2, M5, rfl, tb2.1, ch2.2.1.tr tb2.2⟩
    · replace ta1 : gX10_takeLeft 1 M3 = some (0, M4) := ta1
      rw [ta1, b2_some, if_pos rfl]
      exact Or.inl ⟨1, by decide, jl1 (P := fun j => tK (D8 F) L (ps (D8 F) L p (j + 1)) = 2) c0, c1, M4, rfl, tb1.1, ch1.2.1.tr tb1.2⟩
  · replace ta0 : gX10_takeRight 0 M2 = some (0, M3) := ta0
    rw [ta0, b2_some, if_pos rfl]
    exact Or.inl ⟨0, by decide, jl0 (P := fun j => tK (D8 F) L (ps (D8 F) L p (j + 1)) = 2), c0, M3, rfl, tb0.1, ch0.2.1.tr tb0.2⟩
end LK2
