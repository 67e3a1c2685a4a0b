/-! ===== text: the reference's lines, kind by kind (written by genlines.py) ===== -/
def LO (F : Nat → Int32) (L p k q : Nat) (s : ST) (M : SV) (o : Option (Int32 × SV)) : Prop :=
  (∃ i, i < arK k ∧ (∀ j, j < i → tK (D8 F) L (ps (D8 F) L p (j + 1)) = 2) ∧ ¬ tK (D8 F) L (ps (D8 F) L p (i + 1)) = 2 ∧ ∃ M', o = some (0, M') ∧ TF F L (ps (D8 F) L p (i + 1)) M M') ∨
  ((∀ j, j < arK k → tK (D8 F) L (ps (D8 F) L p (j + 1)) = 2) ∧ ∃ M', o = some (1, M') ∧ MS (D8 F) L (ps (D8 F) L p (arK k + 1)) M' ∧ FrL M M' ∧ RMs q (stL s (lnA (D8 F) L p k)) M')
theorem gd_ok {ln : LiN} : ∀ n, gdN ln n = true → ∀ i, i < n → okN ln.1 i (ln.2.2.1 0) (ln.2.2.1 i) = true
  | 0, _, i, hi => by omega
  | n + 1, h, i, hi => by
    have h2 : (gdN ln n && okN ln.1 n (ln.2.2.1 0) (ln.2.2.1 n)) = true := h
    rw [Bool.and_eq_true] at h2
    by_cases e : i = n
    · rw [e]; exact h2.2
    · exact gd_ok n h2.1 i (by omega)
theorem ok_rng {k i : Nat} {n0 n : Int32} (h : okN k i n0 n = true) : (loK k).toInt ≤ n.toInt ∧ n.toInt ≤ (tpK k i).toInt := by
  unfold okN at h
  simp only [Bool.and_eq_true, decide_eq_true_eq, fa_le] at h
  exact h.1
theorem andm (w : Nat) (hw : w ≤ 8) (x : Int32) : ∃ m, m < 2 ^ w ∧ x &&& nI (2 ^ w - 1) = nI m ∧ (0 ≤ x.toInt → x.toInt < 2 ^ w → m = x.toNatClampNeg) := by
  refine ⟨x.toBitVec.toNat % 2 ^ w, Nat.mod_lt _ (Nat.pow_pos (by decide)), pk_and x w ?_, fun h1 h2 => ?_⟩
  · show (2 ^ w - 1) % 2 ^ 32 = 2 ^ w - 1
    have : 2 ^ w ≤ 2 ^ 8 := Nat.pow_le_pow_right (by decide) hw
    exact Nat.mod_eq_of_lt (by omega)
  · have h3 : 2 ^ w ≤ 2 ^ 8 := Nat.pow_le_pow_right (by decide) hw
    have h4 : x.toInt < 256 := by
      have : ((2 ^ w : Nat) : Int) ≤ ((2 ^ 8 : Nat) : Int) := Int.ofNat_le.mpr h3
      have e : ((2 ^ w : Nat) : Int) = (2 : Int) ^ w := by simp
      rw [e] at this
      have e8 : ((2 ^ 8 : Nat) : Int) = 256 := rfl
      omega
    obtain ⟨n, hn, e⟩ := vp_in_of (x := x) (n := 256) (vp_in_iff.mpr ⟨h1, h4⟩) (by decide)
    rw [e, nI_toInt (by omega)] at h2
    rw [e, nI_clamp (by omega)]
    have e2 : (nI n).toBitVec.toNat = n := by
      show n % 2 ^ 32 = n
      exact Nat.mod_eq_of_lt (by omega)
    have h5 : n < 2 ^ w := by
      have e : ((2 ^ w : Nat) : Int) = (2 : Int) ^ w := by simp
      rw [← e] at h2
      exact Int.ofNat_lt.mp h2
    rw [e2, Nat.mod_eq_of_lt h5]
theorem and7 (x : Int32) : ∃ m, m < 8 ∧ x &&& 7 = nI m ∧ (0 ≤ x.toInt → x.toInt ≤ 7 → m = x.toNatClampNeg) := by
  obtain ⟨m, h1, h2, h3⟩ := andm 3 (by omega) x
  exact ⟨m, h1, h2, fun a b => h3 a (by omega)⟩
theorem and3 (x : Int32) : ∃ m, m < 4 ∧ x &&& 3 = nI m ∧ (0 ≤ x.toInt → x.toInt ≤ 3 → m = x.toNatClampNeg) := by
  obtain ⟨m, h1, h2, h3⟩ := andm 2 (by omega) x
  exact ⟨m, h1, h2, fun a b => h3 a (by omega)⟩
theorem jl0 {P : Nat → Prop} : ∀ j, j < 0 → P j := fun j hj => by omega
theorem jl1 {P : Nat → Prop} (h0 : P 0) : ∀ j, j < 1 → P j := fun j hj => by rw [show j = 0 by omega]; exact h0
theorem jl2 {P : Nat → Prop} (h0 : P 0) (h1 : P 1) : ∀ j, j < 2 → P j := fun j hj => by
  have e : j = 0 ∨ j = 1 := by omega
  rcases e with e | e <;> rw [e] <;> assumption
theorem jl3 {P : Nat → Prop} (h0 : P 0) (h1 : P 1) (h2 : P 2) : ∀ j, j < 3 → P j := fun j hj => by
  have e : j = 0 ∨ j = 1 ∨ j = 2 := by omega
  rcases e with e | e | e <;> rw [e] <;> assumption
theorem okr_1 {n0 n : Int32} (h : okN 1 0 n0 n = true) : 0 ≤ n.toInt ∧ n.toInt ≤ 7 := by
  have := ok_rng h
  rw [show (loK 1).toInt = 0 by decide +kernel, show (tpK 1 0).toInt = 7 by decide +kernel] at this; exact this
theorem okr_7 {n0 n : Int32} (h : okN 7 0 n0 n = true) : 0 ≤ n.toInt ∧ n.toInt ≤ 3 := by
  have := ok_rng h
  rw [show (loK 7).toInt = 0 by decide +kernel, show (tpK 7 0).toInt = 3 by decide +kernel] at this; exact this
theorem okr_7' {n0 n : Int32} (h : okN 7 1 n0 n = true) : 0 ≤ n.toInt ∧ n.toInt ≤ 3 := by
  have := ok_rng h
  rw [show (loK 7).toInt = 0 by decide +kernel, show (tpK 7 1).toInt = 3 by decide +kernel] at this; exact this
theorem okr_8 {n0 n : Int32} (h : okN 8 0 n0 n = true) : 0 ≤ n.toInt ∧ n.toInt ≤ 3 := by
  have := ok_rng h
  rw [show (loK 8).toInt = 0 by decide +kernel, show (tpK 8 0).toInt = 3 by decide +kernel] at this; exact this
theorem okr_8' {n0 n : Int32} (h : okN 8 1 n0 n = true) : 0 ≤ n.toInt ∧ n.toInt ≤ 3 := by
  have := ok_rng h
  rw [show (loK 8).toInt = 0 by decide +kernel, show (tpK 8 1).toInt = 3 by decide +kernel] at this; exact this
theorem tb_1 (told : Nat → Int32) (pl : Nat) (nums : Nat → Int32) (npl : Nat → Nat) : tbL told (1, pl, nums, npl) = if gdN (1, pl, nums, npl) 2 = true then upd told (30 + (nums 0).toNatClampNeg) (nums 1) else told := rfl
theorem tb_6 (told : Nat → Int32) (pl : Nat) (nums : Nat → Int32) (npl : Nat → Nat) : tbL told (6, pl, nums, npl) = if gdN (6, pl, nums, npl) 1 = true then upd told 5 (nums 0) else told := rfl
theorem tb_7 (told : Nat → Int32) (pl : Nat) (nums : Nat → Int32) (npl : Nat → Nat) : tbL told (7, pl, nums, npl) = if gdN (7, pl, nums, npl) 3 = true then upd told (78 + 4 * (nums 0).toNatClampNeg + (nums 1).toNatClampNeg) (nums 2) else told := rfl
theorem tb_8 (told : Nat → Int32) (pl : Nat) (nums : Nat → Int32) (npl : Nat → Nat) : tbL told (8, pl, nums, npl) = if gdN (8, pl, nums, npl) 3 = true then upd told (94 + 4 * (nums 0).toNatClampNeg + (nums 1).toNatClampNeg) (nums 2) else told := rfl
section LK
variable {F : Nat → Int32} {L p : Nat} {M : SV} {s : ST}
theorem l_pre (hT : MT F L M) (hp : p ≤ L) (hS : MS (D8 F) L p M) (hK : ¬ tK (D8 F) L p = 0) {q : Nat} (hs : RMs q s M) (hbd : BD s.1 (tB (D8 F) L p)) (hg : M.1 24 = 1) {k : Nat} (hk : k < 20) (hc : ctK k = true) : ∃ M1 M2, gX10_full (nI (cnK k)) (nI (moK k)) (nI (tB (D8 F) L p)) M = some M1 ∧ gX10_token M1 = some M2 ∧ CH F L p k (fuF s.1 s.2.1 (lnA (D8 F) L p k)) M 0 M2 ∧ M2.2.1 = M.2.1 ∧ M2.1 21 = M.1 21 ∧ M2.1 22 = M.1 22 ∧ M2.1 23 = M.1 23 := by
  have hL := hT.2.1
  have hb := tB_le (D := D8 F) hp
  have hlt : tB (D8 F) L p < tB (D8 F) L (ps (D8 F) L p 1) := ps_B (D8 F) (L := L) (p := p) (i := 0) hK
  obtain ⟨M1, f1, f2, f3, f4⟩ := m_full hT hp hS hs.1 hbd hs.2.1 hk hc
  have F1 : FrL M M1 := ⟨fun j a b c d => f3 j (by omega) (by omega), fun j _ _ => by rw [f4]⟩
  have hS1 : MS (D8 F) L p M1 := ⟨by rw [f3 10 (by decide) (by decide)]; exact hS.1, by rw [f3 12 (by decide) (by decide)]; exact hS.2.1, by rw [f3 13 (by decide) (by decide)]; exact hS.2.2.1, fun e => by rw [f3 14 (by decide) (by decide)]; exact hS.2.2.2.1 e, fun e => by rw [f4]; exact hS.2.2.2.2 e⟩
  have hbd1 : BD (fuF s.1 s.2.1 (lnA (D8 F) L p k)) (tB (D8 F) L (ps (D8 F) L p 1)) := by
    unfold fuF
    split
    · exact hbd.ad hlt (by omega)
    · exact hbd.mo (by omega)
  obtain ⟨M2, t1, ⟨c1, c2, c3, c4, c5, c6⟩, t3, t4, t5, t6⟩ := m_first (k := k) (hT.tl F1) hp hS1 hK f2 hbd1 (by rw [f3 24 (by decide) (by decide)]; exact hg)
  exact ⟨M1, M2, f1, t1, ⟨c1, F1.tr c2, by rw [c3, f4], c4, c5, c6⟩, by rw [t3, f4], by rw [t4, f3 21 (by decide) (by decide)], by rw [t5, f3 22 (by decide) (by decide)], by rw [t6, f3 23 (by decide) (by decide)]⟩
theorem l_pre0 (hT : MT F L M) (hp : p ≤ L) (hS : MS (D8 F) L p M) (hK : ¬ tK (D8 F) L p = 0) {q : Nat} (hs : RMs q s M) (hbd : BD s.1 (tB (D8 F) L p)) (hg : M.1 24 = 1) {k : Nat} (hc : ctK k = false) : ∃ M2, gX10_token M = some M2 ∧ CH F L p k (fuF s.1 s.2.1 (lnA (D8 F) L p k)) M 0 M2 ∧ M2.2.1 = M.2.1 ∧ M2.1 21 = M.1 21 ∧ M2.1 22 = M.1 22 ∧ M2.1 23 = M.1 23 := by
  have hlt : tB (D8 F) L p < tB (D8 F) L (ps (D8 F) L p 1) := ps_B (D8 F) (L := L) (p := p) (i := 0) hK
  have e : fuF s.1 s.2.1 (lnA (D8 F) L p k) = s.1 := by
    unfold fuF
    rw [show (lnA (D8 F) L p k).1 = k from rfl, hc]; rfl
  rw [e]
  exact m_first (k := k) hT hp hS hK hs.1 (hbd.mo (by omega)) hg
theorem CH.wA {k i r : Nat} {fs0 : Int32 × Int32} {M0 : SV} (h : CH F L p k fs0 M0 i M) (f : Nat → Int32) : CH F L p k fs0 M0 i (wR M 20 f) := by
  obtain ⟨h1, h2, h3, h4, h5, h6⟩ := h
  exact ⟨h1, h2.wr_ (by omega) f, by rw [wR_ne (by decide)]; exact h3, h4, h5, h6⟩
theorem ml_0 (hT : MT F L M) (hp : p ≤ L) (hS : MS (D8 F) L p M) (hK : ¬ tK (D8 F) L p = 0) (hs : RMs 0 s M) (hsf : SFp 0 s.2.1) (hbd : BD s.1 (tB (D8 F) L p)) (hg : M.1 24 = 1) : LO F L p 0 0 s M (gbX10_countryLine_116 (nI (tB (D8 F) L p)) 0 0 8 M) := by
  obtain ⟨M1, M2, u1, u2, ch0, u4, u5, u6, u7⟩ := l_pre (k := 0) hT hp hS hK hs hbd hg (by decide) (by decide)
  replace u1 : gX10_full 0 8 (nI (tB (D8 F) L p)) M = some M1 := u1
  obtain ⟨h17, h19, hfar⟩ := hs
  unfold gbX10_countryLine_116
  rw [u1]
  simp only [Option.bind_some]
  rw [u2]
  simp only [Option.bind_some]
  have z19 : ∀ j, j < 121 → M2.2.1 19 j = s.2.1 j := fun j hj => by rw [u4]; exact h19 j hj
  rw [if_pos (by decide)]
  rcases m_take (hT.tl ch0.2.1) (ps_le (D8 F) hp 1) ch0.1 (r := 0) (by omega) 0 99 with ⟨c0, M3, ta0, tb0, tc0, td0, te0⟩ | ⟨c0, M3, ta0, tb0⟩
  · replace ta0 : gX10_take 0 0 99 M2 = some (1, M3) := ta0
    have ch1 := ch0.step hT hp c0 (vd_1 (k := 0) (i := 0) (by omega) _ _) tb0
    have x20_0 := tb0.2.2.1
    rw [ta0, b2_some, if_neg (show ¬ (1 : Int32) = 0 by decide)]
    rcases m_take (hT.tl ch1.2.1) (ps_le (D8 F) hp 2) ch1.1 (r := 1) (by omega) 0 9 with ⟨c1, M4, ta1, tb1, tc1, td1, te1⟩ | ⟨c1, M4, ta1, tb1⟩
    · replace ta1 : gX10_take 1 0 9 M3 = some (1, M4) := ta1
      have ch2 := ch1.step hT hp c1 (vd_1 (k := 0) (i := 1) (by omega) _ _) tb1
      have x20_1 := tb1.2.2.1
      rw [ta1, b2_some, if_neg (show ¬ (1 : Int32) = 0 by decide)]
      rcases m_take (hT.tl ch2.2.1) (ps_le (D8 F) hp 3) ch2.1 (r := 2) (by omega) 0 9 with ⟨c2, M5, ta2, tb2, tc2, td2, te2⟩ | ⟨c2, M5, ta2, tb2⟩
      · replace ta2 : gX10_take 2 0 9 M4 = some (1, M5) := ta2
        have ch3 := ch2.step hT hp c2 (vd_1 (k := 0) (i := 2) (by omega) _ _) tb2
        have x20_2 := tb2.2.2.1
        rw [ta2, b2_some, if_neg (show ¬ (1 : Int32) = 0 by decide)]
        have hfr : (0 : Nat) = 0 → M5.1 21 = (stL s (lnA (D8 F) L p 0)).2.2.1 ∧ M5.1 22 = (stL s (lnA (D8 F) L p 0)).2.2.2.1 ∧ M5.1 23 = (stL s (lnA (D8 F) L p 0)).2.2.2.2 := fun hq => by
          obtain ⟨g1, g2, g3⟩ := hfar hq
          refine ⟨?_, ?_, ?_⟩
          · rw [tc2, tc1, tc0, u5, g1]; rfl
          · rw [td2, td1, td0, u6, g2]; rfl
          · rw [te2, te1, te0, u7, g3]; rfl
        obtain ⟨cN, hcN, hc⟩ := hsf 0 (by decide) (by decide) (by decide)
        have hr : ∀ i, i < 3 → M5.2.1 20 i = (lnA (D8 F) L p 0).2.2.1 i := fun i hi => by
          rw [x20_2, x20_1, x20_0]
          have e : i = 0 ∨ i = 1 ∨ i = 2 := by omega
          rcases e with e | e | e <;> rw [e]
          · rw [pk_un (by decide), pk_un (by decide), pk_us]; rfl
          · rw [pk_un (by decide), pk_us]; rfl
          · rw [pk_us]; rfl
        obtain ⟨f, k1, k2⟩ := m_keep5 (M := M5) (told := s.2.1) (nums := (lnA (D8 F) L p 0).2.2.1) (ct := 0) (fr := 6) (wd := 3) (mo := 8) (fun j hj => by rw [ch3.2.2.1]; exact h19 j hj) hr (by omega) (by omega) (by omega) (by omega) hc hcN (by omega)
        replace k1 : gX10_keep 0 6 3 8 M5 = some (1, wR M5 19 f) := k1
        rw [k1, b2_some, if_neg (show ¬ (1 : Int32) = 0 by decide)]
        exact Or.inr ⟨jl3 (P := fun j => tK (D8 F) L (ps (D8 F) L p (j + 1)) = 2) c0 c1 c2, wR M5 19 f, rfl, ch3.1, ch3.2.1.wr_ (by omega) f, ch3.2.2.2.1, fun j hj => by rw [wR_eq]; exact k2 j hj, hfr⟩
      · replace ta2 : gX10_take 2 0 9 M4 = some (0, M5) := ta2
        rw [ta2, b2_some, if_pos rfl]
        exact Or.inl ⟨2, by decide, jl2 (P := fun j => tK (D8 F) L (ps (D8 F) L p (j + 1)) = 2) c0 c1, c2, M5, rfl, tb2.1, ch2.2.1.tr tb2.2⟩
    · replace ta1 : gX10_take 1 0 9 M3 = some (0, M4) := ta1
      rw [ta1, b2_some, if_pos rfl]
      exact Or.inl ⟨1, by decide, jl1 (P := fun j => tK (D8 F) L (ps (D8 F) L p (j + 1)) = 2) c0, c1, M4, rfl, tb1.1, ch1.2.1.tr tb1.2⟩
  · replace ta0 : gX10_take 0 0 99 M2 = some (0, M3) := ta0
    rw [ta0, b2_some, if_pos rfl]
    exact Or.inl ⟨0, by decide, jl0 (P := fun j => tK (D8 F) L (ps (D8 F) L p (j + 1)) = 2), c0, M3, rfl, tb0.1, ch0.2.1.tr tb0.2⟩
theorem ml_2 (hT : MT F L M) (hp : p ≤ L) (hS : MS (D8 F) L p M) (hK : ¬ tK (D8 F) L p = 0) (hs : RMs 0 s M) (hsf : SFp 0 s.2.1) (hbd : BD s.1 (tB (D8 F) L p)) (hg : M.1 24 = 1) : LO F L p 2 0 s M (gbX10_countryLine_116 (nI (tB (D8 F) L p)) 1 1 12 M) := by
  obtain ⟨M1, M2, u1, u2, ch0, u4, u5, u6, u7⟩ := l_pre (k := 2) hT hp hS hK hs hbd hg (by decide) (by decide)
  replace u1 : gX10_full 1 12 (nI (tB (D8 F) L p)) M = some M1 := u1
  obtain ⟨h17, h19, hfar⟩ := hs
  unfold gbX10_countryLine_116
  rw [u1]
  simp only [Option.bind_some]
  rw [u2]
  simp only [Option.bind_some]
  have z19 : ∀ j, j < 121 → M2.2.1 19 j = s.2.1 j := fun j hj => by rw [u4]; exact h19 j hj
  rw [if_neg (by decide), if_pos (by decide)]
  rcases m_takeThing (hT.tl ch0.2.1) (ps_le (D8 F) hp 1) ch0.1 (r := 0) (by omega) (-1) with ⟨c0, M3, ta0, tb0, tc0, td0, te0⟩ | ⟨c0, M3, ta0, tb0⟩
  · replace ta0 : gX10_takeThing 0 (-1) M2 = some (1, M3) := ta0
    have ch1 := ch0.step hT hp c0 (vd_1 (k := 2) (i := 0) (by omega) _ _) tb0
    have x20_0 := tb0.2.2.1
    rw [ta0, b2_some, if_neg (show ¬ (1 : Int32) = 0 by decide)]
    rw [show rA 4 (M3.2.1 20) 0 = some (tV (D8 F) L (ps (D8 F) L p 1)) from by rw [x20_0]; exact (rA_nI (k := 0) (by omega) (by omega)).trans (by rw [pk_us])]
    simp only [Option.bind_some]
    rcases m_takeThing (hT.tl ch1.2.1) (ps_le (D8 F) hp 2) ch1.1 (r := 1) (by omega) (tV (D8 F) L (ps (D8 F) L p 1)) with ⟨c1, M4, ta1, tb1, tc1, td1, te1⟩ | ⟨c1, M4, ta1, tb1⟩
    · replace ta1 : gX10_takeThing 1 (tV (D8 F) L (ps (D8 F) L p 1)) M3 = some (1, M4) := ta1
      have ch2 := ch1.step hT hp c1 (vd_2 (k := 2) (by omega) _ _) tb1
      have x20_1 := tb1.2.2.1
      rw [ta1, b2_some, if_neg (show ¬ (1 : Int32) = 0 by decide)]
      have hfr : (0 : Nat) = 0 → M4.1 21 = (stL s (lnA (D8 F) L p 2)).2.2.1 ∧ M4.1 22 = (stL s (lnA (D8 F) L p 2)).2.2.2.1 ∧ M4.1 23 = (stL s (lnA (D8 F) L p 2)).2.2.2.2 := fun hq => by
        obtain ⟨g1, g2, g3⟩ := hfar hq
        refine ⟨?_, ?_, ?_⟩
        · rw [tc1, tc0, u5, g1]; rfl
        · rw [td1, td0, u6, g2]; rfl
        · rw [te1, te0, u7, g3]; rfl
      obtain ⟨cN, hcN, hc⟩ := hsf 2 (by decide) (by decide) (by decide)
      have hr : ∀ i, i < 2 → M4.2.1 20 i = (lnA (D8 F) L p 2).2.2.1 i := fun i hi => by
        rw [x20_1, x20_0]
        have e : i = 0 ∨ i = 1 := by omega
        rcases e with e | e <;> rw [e]
        · rw [pk_un (by decide), pk_us]; rfl
        · rw [pk_us]; rfl
      obtain ⟨f, k1, k2⟩ := m_keep5 (M := M4) (told := s.2.1) (nums := (lnA (D8 F) L p 2).2.2.1) (ct := 1) (fr := 54) (wd := 2) (mo := 12) (fun j hj => by rw [ch2.2.2.1]; exact h19 j hj) hr (by omega) (by omega) (by omega) (by omega) hc hcN (by omega)
      replace k1 : gX10_keep 1 54 2 12 M4 = some (1, wR M4 19 f) := k1
      rw [k1, b2_some, if_neg (show ¬ (1 : Int32) = 0 by decide)]
      exact Or.inr ⟨jl2 (P := fun j => tK (D8 F) L (ps (D8 F) L p (j + 1)) = 2) c0 c1, wR M4 19 f, rfl, ch2.1, ch2.2.1.wr_ (by omega) f, ch2.2.2.2.1, fun j hj => by rw [wR_eq]; exact k2 j hj, hfr⟩
    · replace ta1 : gX10_takeThing 1 (tV (D8 F) L (ps (D8 F) L p 1)) M3 = some (0, M4) := ta1
      rw [ta1, b2_some, if_pos rfl]
      exact Or.inl ⟨1, by decide, jl1 (P := fun j => tK (D8 F) L (ps (D8 F) L p (j + 1)) = 2) c0, c1, M4, rfl, tb1.1, ch1.2.1.tr tb1.2⟩
  · replace ta0 : gX10_takeThing 0 (-1) M2 = some (0, M3) := ta0
    rw [ta0, b2_some, if_pos rfl]
    exact Or.inl ⟨0, by decide, jl0 (P := fun j => tK (D8 F) L (ps (D8 F) L p (j + 1)) = 2), c0, M3, rfl, tb0.1, ch0.2.1.tr tb0.2⟩
theorem ml_4 (hT : MT F L M) (hp : p ≤ L) (hS : MS (D8 F) L p M) (hK : ¬ tK (D8 F) L p = 0) (hs : RMs 0 s M) (hsf : SFp 0 s.2.1) (hbd : BD s.1 (tB (D8 F) L p)) (hg : M.1 24 = 1) : LO F L p 4 0 s M (gbX10_countryLine_116 (nI (tB (D8 F) L p)) 2 2 4 M) := by
  obtain ⟨M1, M2, u1, u2, ch0, u4, u5, u6, u7⟩ := l_pre (k := 4) hT hp hS hK hs hbd hg (by decide) (by decide)
  replace u1 : gX10_full 2 4 (nI (tB (D8 F) L p)) M = some M1 := u1
  obtain ⟨h17, h19, hfar⟩ := hs
  unfold gbX10_countryLine_116
  rw [u1]
  simp only [Option.bind_some]
  rw [u2]
  simp only [Option.bind_some]
  have z19 : ∀ j, j < 121 → M2.2.1 19 j = s.2.1 j := fun j hj => by rw [u4]; exact h19 j hj
  rw [if_neg (by decide), if_neg (by decide), if_pos (by decide)]
  rcases m_take (hT.tl ch0.2.1) (ps_le (D8 F) hp 1) ch0.1 (r := 0) (by omega) 1 9 with ⟨c0, M3, ta0, tb0, tc0, td0, te0⟩ | ⟨c0, M3, ta0, tb0⟩
  · replace ta0 : gX10_take 0 1 9 M2 = some (1, M3) := ta0
    have ch1 := ch0.step hT hp c0 (vd_1 (k := 4) (i := 0) (by omega) _ _) tb0
    have x20_0 := tb0.2.2.1
    rw [ta0, b2_some, if_neg (show ¬ (1 : Int32) = 0 by decide)]
    have hfr : (0 : Nat) = 0 → M3.1 21 = (stL s (lnA (D8 F) L p 4)).2.2.1 ∧ M3.1 22 = (stL s (lnA (D8 F) L p 4)).2.2.2.1 ∧ M3.1 23 = (stL s (lnA (D8 F) L p 4)).2.2.2.2 := fun hq => by
      obtain ⟨g1, g2, g3⟩ := hfar hq
      refine ⟨?_, ?_, ?_⟩
      · rw [tc0, u5, g1]; rfl
      · rw [td0, u6, g2]; rfl
      · rw [te0, u7, g3]; rfl
    obtain ⟨cN, hcN, hc⟩ := hsf 4 (by decide) (by decide) (by decide)
    have hr : ∀ i, i < 1 → M3.2.1 20 i = (lnA (D8 F) L p 4).2.2.1 i := fun i hi => by
      rw [x20_0]
      rw [show i = 0 by omega, pk_us]; rfl
    obtain ⟨f, k1, k2⟩ := m_keep5 (M := M3) (told := s.2.1) (nums := (lnA (D8 F) L p 4).2.2.1) (ct := 2) (fr := 38) (wd := 1) (mo := 4) (fun j hj => by rw [ch1.2.2.1]; exact h19 j hj) hr (by omega) (by omega) (by omega) (by omega) hc hcN (by omega)
    replace k1 : gX10_keep 2 38 1 4 M3 = some (1, wR M3 19 f) := k1
    rw [k1, b2_some, if_neg (show ¬ (1 : Int32) = 0 by decide)]
    exact Or.inr ⟨jl1 (P := fun j => tK (D8 F) L (ps (D8 F) L p (j + 1)) = 2) c0, wR M3 19 f, rfl, ch1.1, ch1.2.1.wr_ (by omega) f, ch1.2.2.2.1, fun j hj => by rw [wR_eq]; exact k2 j hj, hfr⟩
  · replace ta0 : gX10_take 0 1 9 M2 = some (0, M3) := ta0
    rw [ta0, b2_some, if_pos rfl]
    exact Or.inl ⟨0, by decide, jl0 (P := fun j => tK (D8 F) L (ps (D8 F) L p (j + 1)) = 2), c0, M3, rfl, tb0.1, ch0.2.1.tr tb0.2⟩
theorem ml_5 (hT : MT F L M) (hp : p ≤ L) (hS : MS (D8 F) L p M) (hK : ¬ tK (D8 F) L p = 0) (hs : RMs 0 s M) (hsf : SFp 0 s.2.1) (hbd : BD s.1 (tB (D8 F) L p)) (hg : M.1 24 = 1) : LO F L p 5 0 s M (gbX10_countryLine_116 (nI (tB (D8 F) L p)) 3 3 4 M) := by
  obtain ⟨M1, M2, u1, u2, ch0, u4, u5, u6, u7⟩ := l_pre (k := 5) hT hp hS hK hs hbd hg (by decide) (by decide)
  replace u1 : gX10_full 3 4 (nI (tB (D8 F) L p)) M = some M1 := u1
  obtain ⟨h17, h19, hfar⟩ := hs
  unfold gbX10_countryLine_116
  rw [u1]
  simp only [Option.bind_some]
  rw [u2]
  simp only [Option.bind_some]
  have z19 : ∀ j, j < 121 → M2.2.1 19 j = s.2.1 j := fun j hj => by rw [u4]; exact h19 j hj
  rw [if_neg (by decide), if_neg (by decide), if_neg (by decide), if_pos (by decide)]
  rcases m_take (hT.tl ch0.2.1) (ps_le (D8 F) hp 1) ch0.1 (r := 0) (by omega) 1 9 with ⟨c0, M3, ta0, tb0, tc0, td0, te0⟩ | ⟨c0, M3, ta0, tb0⟩
  · replace ta0 : gX10_take 0 1 9 M2 = some (1, M3) := ta0
    have ch1 := ch0.step hT hp c0 (vd_1 (k := 5) (i := 0) (by omega) _ _) tb0
    have x20_0 := tb0.2.2.1
    rw [ta0, b2_some, if_neg (show ¬ (1 : Int32) = 0 by decide)]
    have hfr : (0 : Nat) = 0 → M3.1 21 = (stL s (lnA (D8 F) L p 5)).2.2.1 ∧ M3.1 22 = (stL s (lnA (D8 F) L p 5)).2.2.2.1 ∧ M3.1 23 = (stL s (lnA (D8 F) L p 5)).2.2.2.2 := fun hq => by
      obtain ⟨g1, g2, g3⟩ := hfar hq
      refine ⟨?_, ?_, ?_⟩
      · rw [tc0, u5, g1]; rfl
      · rw [td0, u6, g2]; rfl
      · rw [te0, u7, g3]; rfl
    obtain ⟨cN, hcN, hc⟩ := hsf 5 (by decide) (by decide) (by decide)
    have hr : ∀ i, i < 1 → M3.2.1 20 i = (lnA (D8 F) L p 5).2.2.1 i := fun i hi => by
      rw [x20_0]
      rw [show i = 0 by omega, pk_us]; rfl
    obtain ⟨f, k1, k2⟩ := m_keep5 (M := M3) (told := s.2.1) (nums := (lnA (D8 F) L p 5).2.2.1) (ct := 3) (fr := 42) (wd := 1) (mo := 4) (fun j hj => by rw [ch1.2.2.1]; exact h19 j hj) hr (by omega) (by omega) (by omega) (by omega) hc hcN (by omega)
    replace k1 : gX10_keep 3 42 1 4 M3 = some (1, wR M3 19 f) := k1
    rw [k1, b2_some, if_neg (show ¬ (1 : Int32) = 0 by decide)]
    exact Or.inr ⟨jl1 (P := fun j => tK (D8 F) L (ps (D8 F) L p (j + 1)) = 2) c0, wR M3 19 f, rfl, ch1.1, ch1.2.1.wr_ (by omega) f, ch1.2.2.2.1, fun j hj => by rw [wR_eq]; exact k2 j hj, hfr⟩
  · replace ta0 : gX10_take 0 1 9 M2 = some (0, M3) := ta0
    rw [ta0, b2_some, if_pos rfl]
    exact Or.inl ⟨0, by decide, jl0 (P := fun j => tK (D8 F) L (ps (D8 F) L p (j + 1)) = 2), c0, M3, rfl, tb0.1, ch0.2.1.tr tb0.2⟩
theorem ml_3 (hT : MT F L M) (hp : p ≤ L) (hS : MS (D8 F) L p M) (hK : ¬ tK (D8 F) L p = 0) (hs : RMs 0 s M) (hsf : SFp 0 s.2.1) (hbd : BD s.1 (tB (D8 F) L p)) (hg : M.1 24 = 1) : LO F L p 3 0 s M (gbX10_countryLine_116 (nI (tB (D8 F) L p)) 4 4 4 M) := by
  obtain ⟨M1, M2, u1, u2, ch0, u4, u5, u6, u7⟩ := l_pre (k := 3) hT hp hS hK hs hbd hg (by decide) (by decide)
  replace u1 : gX10_full 4 4 (nI (tB (D8 F) L p)) M = some M1 := u1
  obtain ⟨h17, h19, hfar⟩ := hs
  unfold gbX10_countryLine_116
  rw [u1]
  simp only [Option.bind_some]
  rw [u2]
  simp only [Option.bind_some]
  have z19 : ∀ j, j < 121 → M2.2.1 19 j = s.2.1 j := fun j hj => by rw [u4]; exact h19 j hj
  rw [if_neg (by decide), if_neg (by decide), if_neg (by decide), if_neg (by decide)]
  rcases m_takeLeft (hT.tl ch0.2.1) (ps_le (D8 F) hp 1) ch0.1 (r := 0) (by omega) with ⟨c0, M3, ta0, tb0, tc0, td0, te0⟩ | ⟨c0, M3, ta0, tb0⟩
  · replace ta0 : gX10_takeLeft 0 M2 = some (1, M3) := ta0
    have ch1 := ch0.step hT hp c0 (vd_1 (k := 3) (i := 0) (by omega) _ _) tb0
    have x20_0 := tb0.2.2.1
    rw [ta0, b2_some, if_neg (show ¬ (1 : Int32) = 0 by decide)]
    rcases m_takeRight (hT.tl ch1.2.1) (ps_le (D8 F) hp 2) ch1.1 (r := 1) (by omega) with ⟨c1, M4, ta1, tb1, tc1, td1, te1⟩ | ⟨c1, M4, ta1, tb1⟩
    · replace ta1 : gX10_takeRight 1 M3 = some (1, M4) := ta1
      have ch2 := ch1.step hT hp c1 (vd_1 (k := 3) (i := 1) (by omega) _ _) tb1
      have x20_1 := tb1.2.2.1
      rw [ta1, b2_some, if_neg (show ¬ (1 : Int32) = 0 by decide)]
      have hfr : (0 : Nat) = 0 → M4.1 21 = (stL s (lnA (D8 F) L p 3)).2.2.1 ∧ M4.1 22 = (stL s (lnA (D8 F) L p 3)).2.2.2.1 ∧ M4.1 23 = (stL s (lnA (D8 F) L p 3)).2.2.2.2 := fun hq => by
        obtain ⟨g1, g2, g3⟩ := hfar hq
        refine ⟨?_, ?_, ?_⟩
        · rw [tc1, tc0, u5, g1]; rfl
        · rw [td1, td0, u6, g2]; rfl
        · rw [te1, te0, u7, g3]; rfl
      obtain ⟨cN, hcN, hc⟩ := hsf 3 (by decide) (by decide) (by decide)
      have hr : ∀ i, i < 2 → M4.2.1 20 i = (lnA (D8 F) L p 3).2.2.1 i := fun i hi => by
        rw [x20_1, x20_0]
        have e : i = 0 ∨ i = 1 := by omega
        rcases e with e | e <;> rw [e]
        · rw [pk_un (by decide), pk_us]; rfl
        · rw [pk_us]; rfl
      obtain ⟨f, k1, k2⟩ := m_keep5 (M := M4) (told := s.2.1) (nums := (lnA (D8 F) L p 3).2.2.1) (ct := 4) (fr := 46) (wd := 2) (mo := 4) (fun j hj => by rw [ch2.2.2.1]; exact h19 j hj) hr (by omega) (by omega) (by omega) (by omega) hc hcN (by omega)
      replace k1 : gX10_keep 4 46 2 4 M4 = some (1, wR M4 19 f) := k1
      rw [k1, b2_some, if_neg (show ¬ (1 : Int32) = 0 by decide)]
      exact Or.inr ⟨jl2 (P := fun j => tK (D8 F) L (ps (D8 F) L p (j + 1)) = 2) c0 c1, wR M4 19 f, rfl, ch2.1, ch2.2.1.wr_ (by omega) f, ch2.2.2.2.1, fun j hj => by rw [wR_eq]; exact k2 j hj, hfr⟩
    · replace ta1 : gX10_takeRight 1 M3 = some (0, M4) := ta1
      rw [ta1, b2_some, if_pos rfl]
      exact Or.inl ⟨1, by decide, jl1 (P := fun j => tK (D8 F) L (ps (D8 F) L p (j + 1)) = 2) c0, c1, M4, rfl, tb1.1, ch1.2.1.tr tb1.2⟩
  · replace ta0 : gX10_takeLeft 0 M2 = some (0, M3) := ta0
    rw [ta0, b2_some, if_pos rfl]
    exact Or.inl ⟨0, by decide, jl0 (P := fun j => tK (D8 F) L (ps (D8 F) L p (j + 1)) = 2), c0, M3, rfl, tb0.1, ch0.2.1.tr tb0.2⟩
theorem ml_6 (hT : MT F L M) (hp : p ≤ L) (hS : MS (D8 F) L p M) (hK : ¬ tK (D8 F) L p = 0) (hs : RMs 0 s M) (hsf : SFp 0 s.2.1) (hbd : BD s.1 (tB (D8 F) L p)) (hg : M.1 24 = 1) : LO F L p 6 0 s M (gbX10_countryLine_379 (wC 6) M) := by
  obtain ⟨M2, u2, ch0, u4, u5, u6, u7⟩ := l_pre0 (k := 6) hT hp hS hK hs hbd hg (by decide)
  obtain ⟨h17, h19, hfar⟩ := hs
  unfold gbX10_countryLine_379
  rw [u2]
  simp only [Option.bind_some]
  have z19 : ∀ j, j < 121 → M2.2.1 19 j = s.2.1 j := fun j hj => by rw [u4]; exact h19 j hj
  rw [if_neg (by decide), if_pos (by decide)]
  rcases m_take (hT.tl ch0.2.1) (ps_le (D8 F) hp 1) ch0.1 (r := 0) (by omega) 0 9 with ⟨c0, M3, ta0, tb0, tc0, td0, te0⟩ | ⟨c0, M3, ta0, tb0⟩
  · replace ta0 : gX10_take 0 0 9 M2 = some (1, M3) := ta0
    have ch1 := ch0.step hT hp c0 (vd_1 (k := 6) (i := 0) (by omega) _ _) tb0
    have x20_0 := tb0.2.2.1
    rw [ta0, b2_some, if_neg (show ¬ (1 : Int32) = 0 by decide)]
    have hfr : (0 : Nat) = 0 → M3.1 21 = (stL s (lnA (D8 F) L p 6)).2.2.1 ∧ M3.1 22 = (stL s (lnA (D8 F) L p 6)).2.2.2.1 ∧ M3.1 23 = (stL s (lnA (D8 F) L p 6)).2.2.2.2 := fun hq => by
      obtain ⟨g1, g2, g3⟩ := hfar hq
      refine ⟨?_, ?_, ?_⟩
      · rw [tc0, u5, g1]; rfl
      · rw [td0, u6, g2]; rfl
      · rw [te0, u7, g3]; rfl
    rw [show rA 4 (M3.2.1 20) 0 = some (tV (D8 F) L (ps (D8 F) L p 1)) from by rw [x20_0]; exact (rA_nI (k := 0) (by omega) (by omega)).trans (by rw [pk_us])]
    simp only [Option.bind_some]
    obtain ⟨f, k1, k2⟩ := m_put (M := M3) (told := s.2.1) ch1.2.2.2.2.2 (fun j hj => by rw [ch1.2.2.1]; exact h19 j hj) (ix := 5) (by omega) (tV (D8 F) L (ps (D8 F) L p 1))
    replace k1 : gX10_put 5 (tV (D8 F) L (ps (D8 F) L p 1)) M3 = some (1, wR M3 19 f) := k1
    rw [k1, b2_some, if_neg (show ¬ (1 : Int32) = 0 by decide)]
    have k3 : ∀ j, j < 121 → f j = tbL s.2.1 (lnA (D8 F) L p 6) j := fun j hj => by
      rw [k2 j hj]
      have et : tbL s.2.1 (lnA (D8 F) L p 6) = if gdN (lnA (D8 F) L p 6) 1 = true then upd s.2.1 5 (tV (D8 F) L (ps (D8 F) L p 1)) else s.2.1 := tb_6 _ _ _ _
      rw [et]
    exact Or.inr ⟨jl1 (P := fun j => tK (D8 F) L (ps (D8 F) L p (j + 1)) = 2) c0, wR M3 19 f, rfl, ch1.1, ch1.2.1.wr_ (by omega) f, ch1.2.2.2.1, fun j hj => by rw [wR_eq]; exact k3 j hj, hfr⟩
  · replace ta0 : gX10_take 0 0 9 M2 = some (0, M3) := ta0
    rw [ta0, b2_some, if_pos rfl]
    exact Or.inl ⟨0, by decide, jl0 (P := fun j => tK (D8 F) L (ps (D8 F) L p (j + 1)) = 2), c0, M3, rfl, tb0.1, ch0.2.1.tr tb0.2⟩
theorem ml_9 (hT : MT F L M) (hp : p ≤ L) (hS : MS (D8 F) L p M) (hK : ¬ tK (D8 F) L p = 0) (hs : RMs 1 s M) (hsf : SFp 1 s.2.1) (hbd : BD s.1 (tB (D8 F) L p)) (hg : M.1 24 = 1) : LO F L p 9 1 s M (gbX10_yearLine_61 (nI (tB (D8 F) L p)) 0 M) := by
  obtain ⟨M1, M2, u1, u2, ch0, u4, u5, u6, u7⟩ := l_pre (k := 9) hT hp hS hK hs hbd hg (by decide) (by decide)
  replace u1 : gX10_full 0 40 (nI (tB (D8 F) L p)) M = some M1 := u1
  obtain ⟨h17, h19, hfar⟩ := hs
  unfold gbX10_yearLine_61
  rw [if_neg (by decide)]
  rw [u1]
  simp only [Option.bind_some]
  rw [u2]
  simp only [Option.bind_some]
  have z19 : ∀ j, j < 121 → M2.2.1 19 j = s.2.1 j := fun j hj => by rw [u4]; exact h19 j hj
  rw [show wA 20 4 M2 1 (-1) = some (wR M2 20 (upd (M2.2.1 20) 1 (-1))) from wA_nI (j := 1) (by omega) (by omega)]
  simp only [Option.bind_some]
  rw [show wA 20 4 (wR M2 20 (upd (M2.2.1 20) 1 (-1))) 2 (-1) = some (wR (wR M2 20 (upd (M2.2.1 20) 1 (-1))) 20 (upd ((wR M2 20 (upd (M2.2.1 20) 1 (-1))).2.1 20) 2 (-1))) from wA_nI (j := 2) (by omega) (by omega)]
  simp only [Option.bind_some]
  have chA := (ch0.wA (r := 0) (upd (M2.2.1 20) 1 (-1))).wA (r := 0) (upd ((wR M2 20 (upd (M2.2.1 20) 1 (-1))).2.1 20) 2 (-1))
  have e20 : (wR (wR M2 20 (upd (M2.2.1 20) 1 (-1))) 20 (upd ((wR M2 20 (upd (M2.2.1 20) 1 (-1))).2.1 20) 2 (-1))).2.1 20 = upd (upd (M2.2.1 20) 1 (-1)) 2 (-1) := by rw [wR_eq, wR_eq]
  have e19 : (wR (wR M2 20 (upd (M2.2.1 20) 1 (-1))) 20 (upd ((wR M2 20 (upd (M2.2.1 20) 1 (-1))).2.1 20) 2 (-1))).2.1 19 = M2.2.1 19 := by rw [wR_ne (by decide), wR_ne (by decide)]
  generalize wR (wR M2 20 (upd (M2.2.1 20) 1 (-1))) 20 (upd ((wR M2 20 (upd (M2.2.1 20) 1 (-1))).2.1 20) 2 (-1)) = MA at *
  skip
  rw [if_neg (by decide), if_neg (by decide)]
  rcases m_take (hT.tl chA.2.1) (ps_le (D8 F) hp 1) chA.1 (r := 1) (by omega) 0 3 with ⟨c0, M3, ta0, tb0, tc0, td0, te0⟩ | ⟨c0, M3, ta0, tb0⟩
  · replace ta0 : gX10_take 1 0 3 MA = some (1, M3) := ta0
    have ch1 := chA.step hT hp c0 (vd_1 (k := 9) (i := 0) (by omega) _ _) tb0
    have x20_0 := tb0.2.2.1
    rw [ta0, b2_some, if_neg (show ¬ (1 : Int32) = 0 by decide)]
    rw [if_pos (by decide)]
    rcases m_takeThing (hT.tl ch1.2.1) (ps_le (D8 F) hp 2) ch1.1 (r := 2) (by omega) (-1) with ⟨c1, M4, ta1, tb1, tc1, td1, te1⟩ | ⟨c1, M4, ta1, tb1⟩
    · replace ta1 : gX10_takeThing 2 (-1) M3 = some (1, M4) := ta1
      have ch2 := ch1.step hT hp c1 (vd_1 (k := 9) (i := 1) (by omega) _ _) tb1
      have x20_1 := tb1.2.2.1
      rw [ta1, b2_some, if_neg (show ¬ (1 : Int32) = 0 by decide)]
      obtain ⟨cN, hcN, hc⟩ := hsf 9 (by decide) (by decide) (by decide)
      unfold gbX10_yearLine_148 gbX10_yearLine_153
      rw [if_neg (by decide)]
      rw [show wA 20 4 M4 0 0 = some (wR M4 20 (upd (M4.2.1 20) 0 0)) from wA_nI (j := 0) (by omega) (by omega)]
      simp only [Option.bind_some]
      have hr : ∀ i, i < 3 → (wR M4 20 (upd (M4.2.1 20) 0 0)).2.1 20 i = rwK 9 (lnA (D8 F) L p 9).2.2.1 i := fun i hi => by
        rw [wR_eq, x20_1, x20_0, e20]
        have e : i = 0 ∨ i = 1 ∨ i = 2 := by omega
        rcases e with e | e | e <;> rw [e]
        · rw [pk_us]; rfl
        · rw [pk_un (by decide), pk_un (by decide), pk_us]; rfl
        · rw [pk_un (by decide), pk_us]; rfl
      obtain ⟨f, k1, k2⟩ := m_keepRow (M := wR M4 20 (upd (M4.2.1 20) 0 0)) (told := s.2.1) (row := rwK 9 (lnA (D8 F) L p 9).2.2.1) (wd := 3) (mo := 40) (fun j hj => by rw [wR_ne (by decide), ch2.2.2.1]; exact h19 j hj) hr (by omega) (by omega) hc hcN (by omega)
      replace k1 : gX10_keepRow 3 40 (wR M4 20 (upd (M4.2.1 20) 0 0)) = some (wR (wR M4 20 (upd (M4.2.1 20) 0 0)) 19 f) := k1
      rw [k1]
      simp only [Option.bind_some]
      rw [if_pos (by decide)]
      exact Or.inr ⟨jl2 (P := fun j => tK (D8 F) L (ps (D8 F) L p (j + 1)) = 2) c0 c1, wR (wR M4 20 (upd (M4.2.1 20) 0 0)) 19 f, rfl, ch2.1, (ch2.2.1.wr_ (by omega) _).wr_ (by omega) f, ch2.2.2.2.1, fun j hj => by rw [wR_eq]; exact k2 j hj, fun hq => absurd hq (by decide)⟩
    · replace ta1 : gX10_takeThing 2 (-1) M3 = some (0, M4) := ta1
      rw [ta1, b2_some, if_pos rfl]
      unfold gbX10_yearLine_152 gbX10_yearLine_153
      rw [if_pos rfl, if_pos (Or.inl rfl)]
      exact Or.inl ⟨1, by decide, jl1 (P := fun j => tK (D8 F) L (ps (D8 F) L p (j + 1)) = 2) c0, c1, M4, rfl, tb1.1, ch1.2.1.tr tb1.2⟩
  · replace ta0 : gX10_take 1 0 3 MA = some (0, M3) := ta0
    rw [ta0, b2_some, if_pos rfl]
    unfold gbX10_yearLine_152 gbX10_yearLine_153
    rw [if_pos rfl, if_pos (Or.inl rfl)]
    exact Or.inl ⟨0, by decide, jl0 (P := fun j => tK (D8 F) L (ps (D8 F) L p (j + 1)) = 2), c0, M3, rfl, tb0.1, chA.2.1.tr tb0.2⟩
theorem ml_10 (hT : MT F L M) (hp : p ≤ L) (hS : MS (D8 F) L p M) (hK : ¬ tK (D8 F) L p = 0) (hs : RMs 1 s M) (hsf : SFp 1 s.2.1) (hbd : BD s.1 (tB (D8 F) L p)) (hg : M.1 24 = 1) : LO F L p 10 1 s M (gbX10_yearLine_61 (nI (tB (D8 F) L p)) 1 M) := by
  obtain ⟨M1, M2, u1, u2, ch0, u4, u5, u6, u7⟩ := l_pre (k := 10) hT hp hS hK hs hbd hg (by decide) (by decide)
  replace u1 : gX10_full 0 40 (nI (tB (D8 F) L p)) M = some M1 := u1
  obtain ⟨h17, h19, hfar⟩ := hs
  unfold gbX10_yearLine_61
  rw [if_neg (by decide)]
  rw [u1]
  simp only [Option.bind_some]
  rw [u2]
  simp only [Option.bind_some]
  have z19 : ∀ j, j < 121 → M2.2.1 19 j = s.2.1 j := fun j hj => by rw [u4]; exact h19 j hj
  rw [show wA 20 4 M2 1 (-1) = some (wR M2 20 (upd (M2.2.1 20) 1 (-1))) from wA_nI (j := 1) (by omega) (by omega)]
  simp only [Option.bind_some]
  rw [show wA 20 4 (wR M2 20 (upd (M2.2.1 20) 1 (-1))) 2 (-1) = some (wR (wR M2 20 (upd (M2.2.1 20) 1 (-1))) 20 (upd ((wR M2 20 (upd (M2.2.1 20) 1 (-1))).2.1 20) 2 (-1))) from wA_nI (j := 2) (by omega) (by omega)]
  simp only [Option.bind_some]
  have chA := (ch0.wA (r := 0) (upd (M2.2.1 20) 1 (-1))).wA (r := 0) (upd ((wR M2 20 (upd (M2.2.1 20) 1 (-1))).2.1 20) 2 (-1))
  have e20 : (wR (wR M2 20 (upd (M2.2.1 20) 1 (-1))) 20 (upd ((wR M2 20 (upd (M2.2.1 20) 1 (-1))).2.1 20) 2 (-1))).2.1 20 = upd (upd (M2.2.1 20) 1 (-1)) 2 (-1) := by rw [wR_eq, wR_eq]
  have e19 : (wR (wR M2 20 (upd (M2.2.1 20) 1 (-1))) 20 (upd ((wR M2 20 (upd (M2.2.1 20) 1 (-1))).2.1 20) 2 (-1))).2.1 19 = M2.2.1 19 := by rw [wR_ne (by decide), wR_ne (by decide)]
  generalize wR (wR M2 20 (upd (M2.2.1 20) 1 (-1))) 20 (upd ((wR M2 20 (upd (M2.2.1 20) 1 (-1))).2.1 20) 2 (-1)) = MA at *
  skip
  rw [if_neg (by decide), if_neg (by decide)]
  rcases m_take (hT.tl chA.2.1) (ps_le (D8 F) hp 1) chA.1 (r := 1) (by omega) 0 3 with ⟨c0, M3, ta0, tb0, tc0, td0, te0⟩ | ⟨c0, M3, ta0, tb0⟩
  · replace ta0 : gX10_take 1 0 3 MA = some (1, M3) := ta0
    have ch1 := chA.step hT hp c0 (vd_1 (k := 10) (i := 0) (by omega) _ _) tb0
    have x20_0 := tb0.2.2.1
    rw [ta0, b2_some, if_neg (show ¬ (1 : Int32) = 0 by decide)]
    rw [if_neg (by decide)]
    obtain ⟨cN, hcN, hc⟩ := hsf 10 (by decide) (by decide) (by decide)
    unfold gbX10_yearLine_148 gbX10_yearLine_153
    rw [if_neg (by decide)]
    rw [show wA 20 4 M3 0 1 = some (wR M3 20 (upd (M3.2.1 20) 0 1)) from wA_nI (j := 0) (by omega) (by omega)]
    simp only [Option.bind_some]
    have hr : ∀ i, i < 3 → (wR M3 20 (upd (M3.2.1 20) 0 1)).2.1 20 i = rwK 10 (lnA (D8 F) L p 10).2.2.1 i := fun i hi => by
      rw [wR_eq, x20_0, e20]
      have e : i = 0 ∨ i = 1 ∨ i = 2 := by omega
      rcases e with e | e | e <;> rw [e]
      · rw [pk_us]; rfl
      · rw [pk_un (by decide), pk_us]; rfl
      · rw [pk_un (by decide), pk_un (by decide), pk_us]; rfl
    obtain ⟨f, k1, k2⟩ := m_keepRow (M := wR M3 20 (upd (M3.2.1 20) 0 1)) (told := s.2.1) (row := rwK 10 (lnA (D8 F) L p 10).2.2.1) (wd := 3) (mo := 40) (fun j hj => by rw [wR_ne (by decide), ch1.2.2.1]; exact h19 j hj) hr (by omega) (by omega) hc hcN (by omega)
    replace k1 : gX10_keepRow 3 40 (wR M3 20 (upd (M3.2.1 20) 0 1)) = some (wR (wR M3 20 (upd (M3.2.1 20) 0 1)) 19 f) := k1
    rw [k1]
    simp only [Option.bind_some]
    rw [if_pos (by decide)]
    exact Or.inr ⟨jl1 (P := fun j => tK (D8 F) L (ps (D8 F) L p (j + 1)) = 2) c0, wR (wR M3 20 (upd (M3.2.1 20) 0 1)) 19 f, rfl, ch1.1, (ch1.2.1.wr_ (by omega) _).wr_ (by omega) f, ch1.2.2.2.1, fun j hj => by rw [wR_eq]; exact k2 j hj, fun hq => absurd hq (by decide)⟩
  · replace ta0 : gX10_take 1 0 3 MA = some (0, M3) := ta0
    rw [ta0, b2_some, if_pos rfl]
    unfold gbX10_yearLine_152 gbX10_yearLine_153
    rw [if_pos rfl, if_pos (Or.inl rfl)]
    exact Or.inl ⟨0, by decide, jl0 (P := fun j => tK (D8 F) L (ps (D8 F) L p (j + 1)) = 2), c0, M3, rfl, tb0.1, chA.2.1.tr tb0.2⟩
theorem ml_11 (hT : MT F L M) (hp : p ≤ L) (hS : MS (D8 F) L p M) (hK : ¬ tK (D8 F) L p = 0) (hs : RMs 1 s M) (hsf : SFp 1 s.2.1) (hbd : BD s.1 (tB (D8 F) L p)) (hg : M.1 24 = 1) : LO F L p 11 1 s M (gbX10_yearLine_61 (nI (tB (D8 F) L p)) 2 M) := by
  obtain ⟨M1, M2, u1, u2, ch0, u4, u5, u6, u7⟩ := l_pre (k := 11) hT hp hS hK hs hbd hg (by decide) (by decide)
  replace u1 : gX10_full 0 40 (nI (tB (D8 F) L p)) M = some M1 := u1
  obtain ⟨h17, h19, hfar⟩ := hs
  unfold gbX10_yearLine_61
  rw [if_neg (by decide)]
  rw [u1]
  simp only [Option.bind_some]
  rw [u2]
  simp only [Option.bind_some]
  have z19 : ∀ j, j < 121 → M2.2.1 19 j = s.2.1 j := fun j hj => by rw [u4]; exact h19 j hj
  rw [show wA 20 4 M2 1 (-1) = some (wR M2 20 (upd (M2.2.1 20) 1 (-1))) from wA_nI (j := 1) (by omega) (by omega)]
  simp only [Option.bind_some]
  rw [show wA 20 4 (wR M2 20 (upd (M2.2.1 20) 1 (-1))) 2 (-1) = some (wR (wR M2 20 (upd (M2.2.1 20) 1 (-1))) 20 (upd ((wR M2 20 (upd (M2.2.1 20) 1 (-1))).2.1 20) 2 (-1))) from wA_nI (j := 2) (by omega) (by omega)]
  simp only [Option.bind_some]
  have chA := (ch0.wA (r := 0) (upd (M2.2.1 20) 1 (-1))).wA (r := 0) (upd ((wR M2 20 (upd (M2.2.1 20) 1 (-1))).2.1 20) 2 (-1))
  have e20 : (wR (wR M2 20 (upd (M2.2.1 20) 1 (-1))) 20 (upd ((wR M2 20 (upd (M2.2.1 20) 1 (-1))).2.1 20) 2 (-1))).2.1 20 = upd (upd (M2.2.1 20) 1 (-1)) 2 (-1) := by rw [wR_eq, wR_eq]
  have e19 : (wR (wR M2 20 (upd (M2.2.1 20) 1 (-1))) 20 (upd ((wR M2 20 (upd (M2.2.1 20) 1 (-1))).2.1 20) 2 (-1))).2.1 19 = M2.2.1 19 := by rw [wR_ne (by decide), wR_ne (by decide)]
  generalize wR (wR M2 20 (upd (M2.2.1 20) 1 (-1))) 20 (upd ((wR M2 20 (upd (M2.2.1 20) 1 (-1))).2.1 20) 2 (-1)) = MA at *
  skip
  rw [if_neg (by decide), if_neg (by decide)]
  rcases m_take (hT.tl chA.2.1) (ps_le (D8 F) hp 1) chA.1 (r := 1) (by omega) 0 3 with ⟨c0, M3, ta0, tb0, tc0, td0, te0⟩ | ⟨c0, M3, ta0, tb0⟩
  · replace ta0 : gX10_take 1 0 3 MA = some (1, M3) := ta0
    have ch1 := chA.step hT hp c0 (vd_1 (k := 11) (i := 0) (by omega) _ _) tb0
    have x20_0 := tb0.2.2.1
    rw [ta0, b2_some, if_neg (show ¬ (1 : Int32) = 0 by decide)]
    rw [if_neg (by decide)]
    obtain ⟨cN, hcN, hc⟩ := hsf 11 (by decide) (by decide) (by decide)
    unfold gbX10_yearLine_148 gbX10_yearLine_153
    rw [if_neg (by decide)]
    rw [show wA 20 4 M3 0 2 = some (wR M3 20 (upd (M3.2.1 20) 0 2)) from wA_nI (j := 0) (by omega) (by omega)]
    simp only [Option.bind_some]
    have hr : ∀ i, i < 3 → (wR M3 20 (upd (M3.2.1 20) 0 2)).2.1 20 i = rwK 11 (lnA (D8 F) L p 11).2.2.1 i := fun i hi => by
      rw [wR_eq, x20_0, e20]
      have e : i = 0 ∨ i = 1 ∨ i = 2 := by omega
      rcases e with e | e | e <;> rw [e]
      · rw [pk_us]; rfl
      · rw [pk_un (by decide), pk_us]; rfl
      · rw [pk_un (by decide), pk_un (by decide), pk_us]; rfl
    obtain ⟨f, k1, k2⟩ := m_keepRow (M := wR M3 20 (upd (M3.2.1 20) 0 2)) (told := s.2.1) (row := rwK 11 (lnA (D8 F) L p 11).2.2.1) (wd := 3) (mo := 40) (fun j hj => by rw [wR_ne (by decide), ch1.2.2.1]; exact h19 j hj) hr (by omega) (by omega) hc hcN (by omega)
    replace k1 : gX10_keepRow 3 40 (wR M3 20 (upd (M3.2.1 20) 0 2)) = some (wR (wR M3 20 (upd (M3.2.1 20) 0 2)) 19 f) := k1
    rw [k1]
    simp only [Option.bind_some]
    rw [if_pos (by decide)]
    exact Or.inr ⟨jl1 (P := fun j => tK (D8 F) L (ps (D8 F) L p (j + 1)) = 2) c0, wR (wR M3 20 (upd (M3.2.1 20) 0 2)) 19 f, rfl, ch1.1, (ch1.2.1.wr_ (by omega) _).wr_ (by omega) f, ch1.2.2.2.1, fun j hj => by rw [wR_eq]; exact k2 j hj, fun hq => absurd hq (by decide)⟩
  · replace ta0 : gX10_take 1 0 3 MA = some (0, M3) := ta0
    rw [ta0, b2_some, if_pos rfl]
    unfold gbX10_yearLine_152 gbX10_yearLine_153
    rw [if_pos rfl, if_pos (Or.inl rfl)]
    exact Or.inl ⟨0, by decide, jl0 (P := fun j => tK (D8 F) L (ps (D8 F) L p (j + 1)) = 2), c0, M3, rfl, tb0.1, chA.2.1.tr tb0.2⟩
theorem ml_12 (hT : MT F L M) (hp : p ≤ L) (hS : MS (D8 F) L p M) (hK : ¬ tK (D8 F) L p = 0) (hs : RMs 1 s M) (hsf : SFp 1 s.2.1) (hbd : BD s.1 (tB (D8 F) L p)) (hg : M.1 24 = 1) : LO F L p 12 1 s M (gbX10_yearLine_61 (nI (tB (D8 F) L p)) 3 M) := by
  obtain ⟨M1, M2, u1, u2, ch0, u4, u5, u6, u7⟩ := l_pre (k := 12) hT hp hS hK hs hbd hg (by decide) (by decide)
  replace u1 : gX10_full 0 40 (nI (tB (D8 F) L p)) M = some M1 := u1
  obtain ⟨h17, h19, hfar⟩ := hs
  unfold gbX10_yearLine_61
  rw [if_neg (by decide)]
  rw [u1]
  simp only [Option.bind_some]
  rw [u2]
  simp only [Option.bind_some]
  have z19 : ∀ j, j < 121 → M2.2.1 19 j = s.2.1 j := fun j hj => by rw [u4]; exact h19 j hj
  rw [show wA 20 4 M2 1 (-1) = some (wR M2 20 (upd (M2.2.1 20) 1 (-1))) from wA_nI (j := 1) (by omega) (by omega)]
  simp only [Option.bind_some]
  rw [show wA 20 4 (wR M2 20 (upd (M2.2.1 20) 1 (-1))) 2 (-1) = some (wR (wR M2 20 (upd (M2.2.1 20) 1 (-1))) 20 (upd ((wR M2 20 (upd (M2.2.1 20) 1 (-1))).2.1 20) 2 (-1))) from wA_nI (j := 2) (by omega) (by omega)]
  simp only [Option.bind_some]
  have chA := (ch0.wA (r := 0) (upd (M2.2.1 20) 1 (-1))).wA (r := 0) (upd ((wR M2 20 (upd (M2.2.1 20) 1 (-1))).2.1 20) 2 (-1))
  have e20 : (wR (wR M2 20 (upd (M2.2.1 20) 1 (-1))) 20 (upd ((wR M2 20 (upd (M2.2.1 20) 1 (-1))).2.1 20) 2 (-1))).2.1 20 = upd (upd (M2.2.1 20) 1 (-1)) 2 (-1) := by rw [wR_eq, wR_eq]
  have e19 : (wR (wR M2 20 (upd (M2.2.1 20) 1 (-1))) 20 (upd ((wR M2 20 (upd (M2.2.1 20) 1 (-1))).2.1 20) 2 (-1))).2.1 19 = M2.2.1 19 := by rw [wR_ne (by decide), wR_ne (by decide)]
  generalize wR (wR M2 20 (upd (M2.2.1 20) 1 (-1))) 20 (upd ((wR M2 20 (upd (M2.2.1 20) 1 (-1))).2.1 20) 2 (-1)) = MA at *
  skip
  rw [if_neg (by decide), if_pos (by decide)]
  rcases m_takeThing (hT.tl chA.2.1) (ps_le (D8 F) hp 1) chA.1 (r := 1) (by omega) (-1) with ⟨c0, M3, ta0, tb0, tc0, td0, te0⟩ | ⟨c0, M3, ta0, tb0⟩
  · replace ta0 : gX10_takeThing 1 (-1) MA = some (1, M3) := ta0
    have ch1 := chA.step hT hp c0 (vd_1 (k := 12) (i := 0) (by omega) _ _) tb0
    have x20_0 := tb0.2.2.1
    rw [ta0, b2_some, if_neg (show ¬ (1 : Int32) = 0 by decide)]
    obtain ⟨cN, hcN, hc⟩ := hsf 12 (by decide) (by decide) (by decide)
    unfold gbX10_yearLine_148 gbX10_yearLine_153
    rw [if_neg (by decide)]
    rw [show wA 20 4 M3 0 3 = some (wR M3 20 (upd (M3.2.1 20) 0 3)) from wA_nI (j := 0) (by omega) (by omega)]
    simp only [Option.bind_some]
    have hr : ∀ i, i < 3 → (wR M3 20 (upd (M3.2.1 20) 0 3)).2.1 20 i = rwK 12 (lnA (D8 F) L p 12).2.2.1 i := fun i hi => by
      rw [wR_eq, x20_0, e20]
      have e : i = 0 ∨ i = 1 ∨ i = 2 := by omega
      rcases e with e | e | e <;> rw [e]
      · rw [pk_us]; rfl
      · rw [pk_un (by decide), pk_us]; rfl
      · rw [pk_un (by decide), pk_un (by decide), pk_us]; rfl
    obtain ⟨f, k1, k2⟩ := m_keepRow (M := wR M3 20 (upd (M3.2.1 20) 0 3)) (told := s.2.1) (row := rwK 12 (lnA (D8 F) L p 12).2.2.1) (wd := 3) (mo := 40) (fun j hj => by rw [wR_ne (by decide), ch1.2.2.1]; exact h19 j hj) hr (by omega) (by omega) hc hcN (by omega)
    replace k1 : gX10_keepRow 3 40 (wR M3 20 (upd (M3.2.1 20) 0 3)) = some (wR (wR M3 20 (upd (M3.2.1 20) 0 3)) 19 f) := k1
    rw [k1]
    simp only [Option.bind_some]
    rw [if_pos (by decide)]
    exact Or.inr ⟨jl1 (P := fun j => tK (D8 F) L (ps (D8 F) L p (j + 1)) = 2) c0, wR (wR M3 20 (upd (M3.2.1 20) 0 3)) 19 f, rfl, ch1.1, (ch1.2.1.wr_ (by omega) _).wr_ (by omega) f, ch1.2.2.2.1, fun j hj => by rw [wR_eq]; exact k2 j hj, fun hq => absurd hq (by decide)⟩
  · replace ta0 : gX10_takeThing 1 (-1) MA = some (0, M3) := ta0
    rw [ta0, b2_some, if_pos rfl]
    unfold gbX10_yearLine_152 gbX10_yearLine_153
    rw [if_pos rfl, if_pos (Or.inl rfl)]
    exact Or.inl ⟨0, by decide, jl0 (P := fun j => tK (D8 F) L (ps (D8 F) L p (j + 1)) = 2), c0, M3, rfl, tb0.1, chA.2.1.tr tb0.2⟩
theorem ml_13 (hT : MT F L M) (hp : p ≤ L) (hS : MS (D8 F) L p M) (hK : ¬ tK (D8 F) L p = 0) (hs : RMs 1 s M) (hsf : SFp 1 s.2.1) (hbd : BD s.1 (tB (D8 F) L p)) (hg : M.1 24 = 1) : LO F L p 13 1 s M (gbX10_yearLine_61 (nI (tB (D8 F) L p)) 4 M) := by
  obtain ⟨M1, M2, u1, u2, ch0, u4, u5, u6, u7⟩ := l_pre (k := 13) hT hp hS hK hs hbd hg (by decide) (by decide)
  replace u1 : gX10_full 0 40 (nI (tB (D8 F) L p)) M = some M1 := u1
  obtain ⟨h17, h19, hfar⟩ := hs
  unfold gbX10_yearLine_61
  rw [if_neg (by decide)]
  rw [u1]
  simp only [Option.bind_some]
  rw [u2]
  simp only [Option.bind_some]
  have z19 : ∀ j, j < 121 → M2.2.1 19 j = s.2.1 j := fun j hj => by rw [u4]; exact h19 j hj
  rw [show wA 20 4 M2 1 (-1) = some (wR M2 20 (upd (M2.2.1 20) 1 (-1))) from wA_nI (j := 1) (by omega) (by omega)]
  simp only [Option.bind_some]
  rw [show wA 20 4 (wR M2 20 (upd (M2.2.1 20) 1 (-1))) 2 (-1) = some (wR (wR M2 20 (upd (M2.2.1 20) 1 (-1))) 20 (upd ((wR M2 20 (upd (M2.2.1 20) 1 (-1))).2.1 20) 2 (-1))) from wA_nI (j := 2) (by omega) (by omega)]
  simp only [Option.bind_some]
  have chA := (ch0.wA (r := 0) (upd (M2.2.1 20) 1 (-1))).wA (r := 0) (upd ((wR M2 20 (upd (M2.2.1 20) 1 (-1))).2.1 20) 2 (-1))
  have e20 : (wR (wR M2 20 (upd (M2.2.1 20) 1 (-1))) 20 (upd ((wR M2 20 (upd (M2.2.1 20) 1 (-1))).2.1 20) 2 (-1))).2.1 20 = upd (upd (M2.2.1 20) 1 (-1)) 2 (-1) := by rw [wR_eq, wR_eq]
  have e19 : (wR (wR M2 20 (upd (M2.2.1 20) 1 (-1))) 20 (upd ((wR M2 20 (upd (M2.2.1 20) 1 (-1))).2.1 20) 2 (-1))).2.1 19 = M2.2.1 19 := by rw [wR_ne (by decide), wR_ne (by decide)]
  generalize wR (wR M2 20 (upd (M2.2.1 20) 1 (-1))) 20 (upd ((wR M2 20 (upd (M2.2.1 20) 1 (-1))).2.1 20) 2 (-1)) = MA at *
  skip
  rw [if_pos (by decide)]
  obtain ⟨cN, hcN, hc⟩ := hsf 13 (by decide) (by decide) (by decide)
  unfold gbX10_yearLine_148 gbX10_yearLine_153
  rw [if_neg (by decide)]
  rw [show wA 20 4 MA 0 4 = some (wR MA 20 (upd (MA.2.1 20) 0 4)) from wA_nI (j := 0) (by omega) (by omega)]
  simp only [Option.bind_some]
  have hr : ∀ i, i < 3 → (wR MA 20 (upd (MA.2.1 20) 0 4)).2.1 20 i = rwK 13 (lnA (D8 F) L p 13).2.2.1 i := fun i hi => by
    rw [wR_eq, e20]
    have e : i = 0 ∨ i = 1 ∨ i = 2 := by omega
    rcases e with e | e | e <;> rw [e]
    · rw [pk_us]; rfl
    · rw [pk_un (by decide), pk_un (by decide), pk_us]; rfl
    · rw [pk_un (by decide), pk_us]; rfl
  obtain ⟨f, k1, k2⟩ := m_keepRow (M := wR MA 20 (upd (MA.2.1 20) 0 4)) (told := s.2.1) (row := rwK 13 (lnA (D8 F) L p 13).2.2.1) (wd := 3) (mo := 40) (fun j hj => by rw [wR_ne (by decide), chA.2.2.1]; exact h19 j hj) hr (by omega) (by omega) hc hcN (by omega)
  replace k1 : gX10_keepRow 3 40 (wR MA 20 (upd (MA.2.1 20) 0 4)) = some (wR (wR MA 20 (upd (MA.2.1 20) 0 4)) 19 f) := k1
  rw [k1]
  simp only [Option.bind_some]
  rw [if_pos (by decide)]
  exact Or.inr ⟨jl0 (P := fun j => tK (D8 F) L (ps (D8 F) L p (j + 1)) = 2), wR (wR MA 20 (upd (MA.2.1 20) 0 4)) 19 f, rfl, chA.1, (chA.2.1.wr_ (by omega) _).wr_ (by omega) f, chA.2.2.2.1, fun j hj => by rw [wR_eq]; exact k2 j hj, fun hq => absurd hq (by decide)⟩
theorem ml_14 (hT : MT F L M) (hp : p ≤ L) (hS : MS (D8 F) L p M) (hK : ¬ tK (D8 F) L p = 0) (hs : RMs 2 s M) (hsf : SFp 2 s.2.1) (hbd : BD s.1 (tB (D8 F) L p)) (hg : M.1 24 = 1) : LO F L p 14 2 s M (gbX10_sightLine_37 (nI (tB (D8 F) L p)) 0 M) := by
  obtain ⟨M1, M2, u1, u2, ch0, u4, u5, u6, u7⟩ := l_pre (k := 14) hT hp hS hK hs hbd hg (by decide) (by decide)
  replace u1 : gX10_full 0 8 (nI (tB (D8 F) L p)) M = some M1 := u1
  obtain ⟨h17, h19, hfar⟩ := hs
  unfold gbX10_sightLine_37
  rw [if_neg (by decide)]
  rw [u1]
  simp only [Option.bind_some]
  rw [u2]
  simp only [Option.bind_some]
  have z19 : ∀ j, j < 121 → M2.2.1 19 j = s.2.1 j := fun j hj => by rw [u4]; exact h19 j hj
  rcases m_take (hT.tl ch0.2.1) (ps_le (D8 F) hp 1) ch0.1 (r := 1) (by omega) 0 9 with ⟨c0, M3, ta0, tb0, tc0, td0, te0⟩ | ⟨c0, M3, ta0, tb0⟩
  · replace ta0 : gX10_take 1 0 9 M2 = some (1, M3) := ta0
    have ch1 := ch0.step hT hp c0 (vd_1 (k := 14) (i := 0) (by omega) _ _) tb0
    have x20_0 := tb0.2.2.1
    rw [ta0, b2_some, if_neg (show ¬ (1 : Int32) = 0 by decide)]
    obtain ⟨cN, hcN, hc⟩ := hsf 14 (by decide) (by decide) (by decide)
    rw [show wA 20 4 M3 0 0 = some (wR M3 20 (upd (M3.2.1 20) 0 0)) from wA_nI (j := 0) (by omega) (by omega)]
    simp only [Option.bind_some]
    have hr : ∀ i, i < 2 → (wR M3 20 (upd (M3.2.1 20) 0 0)).2.1 20 i = rwK 14 (lnA (D8 F) L p 14).2.2.1 i := fun i hi => by
      rw [wR_eq, x20_0]
      have e : i = 0 ∨ i = 1 := by omega
      rcases e with e | e <;> rw [e]
      · rw [pk_us]; rfl
      · rw [pk_un (by decide), pk_us]; rfl
    obtain ⟨f, k1, k2⟩ := m_keepRow (M := wR M3 20 (upd (M3.2.1 20) 0 0)) (told := s.2.1) (row := rwK 14 (lnA (D8 F) L p 14).2.2.1) (wd := 2) (mo := 8) (fun j hj => by rw [wR_ne (by decide), ch1.2.2.1]; exact h19 j hj) hr (by omega) (by omega) hc hcN (by omega)
    replace k1 : gX10_keepRow 2 8 (wR M3 20 (upd (M3.2.1 20) 0 0)) = some (wR (wR M3 20 (upd (M3.2.1 20) 0 0)) 19 f) := k1
    rw [k1]
    simp only [Option.bind_some]
    exact Or.inr ⟨jl1 (P := fun j => tK (D8 F) L (ps (D8 F) L p (j + 1)) = 2) c0, wR (wR M3 20 (upd (M3.2.1 20) 0 0)) 19 f, rfl, ch1.1, (ch1.2.1.wr_ (by omega) _).wr_ (by omega) f, ch1.2.2.2.1, fun j hj => by rw [wR_eq]; exact k2 j hj, fun hq => absurd hq (by decide)⟩
  · replace ta0 : gX10_take 1 0 9 M2 = some (0, M3) := ta0
    rw [ta0, b2_some, if_pos rfl]
    exact Or.inl ⟨0, by decide, jl0 (P := fun j => tK (D8 F) L (ps (D8 F) L p (j + 1)) = 2), c0, M3, rfl, tb0.1, ch0.2.1.tr tb0.2⟩
theorem ml_15 (hT : MT F L M) (hp : p ≤ L) (hS : MS (D8 F) L p M) (hK : ¬ tK (D8 F) L p = 0) (hs : RMs 2 s M) (hsf : SFp 2 s.2.1) (hbd : BD s.1 (tB (D8 F) L p)) (hg : M.1 24 = 1) : LO F L p 15 2 s M (gbX10_sightLine_37 (nI (tB (D8 F) L p)) 1 M) := by
  obtain ⟨M1, M2, u1, u2, ch0, u4, u5, u6, u7⟩ := l_pre (k := 15) hT hp hS hK hs hbd hg (by decide) (by decide)
  replace u1 : gX10_full 0 8 (nI (tB (D8 F) L p)) M = some M1 := u1
  obtain ⟨h17, h19, hfar⟩ := hs
  unfold gbX10_sightLine_37
  rw [if_neg (by decide)]
  rw [u1]
  simp only [Option.bind_some]
  rw [u2]
  simp only [Option.bind_some]
  have z19 : ∀ j, j < 121 → M2.2.1 19 j = s.2.1 j := fun j hj => by rw [u4]; exact h19 j hj
  rcases m_take (hT.tl ch0.2.1) (ps_le (D8 F) hp 1) ch0.1 (r := 1) (by omega) 0 9 with ⟨c0, M3, ta0, tb0, tc0, td0, te0⟩ | ⟨c0, M3, ta0, tb0⟩
  · replace ta0 : gX10_take 1 0 9 M2 = some (1, M3) := ta0
    have ch1 := ch0.step hT hp c0 (vd_1 (k := 15) (i := 0) (by omega) _ _) tb0
    have x20_0 := tb0.2.2.1
    rw [ta0, b2_some, if_neg (show ¬ (1 : Int32) = 0 by decide)]
    obtain ⟨cN, hcN, hc⟩ := hsf 15 (by decide) (by decide) (by decide)
    rw [show wA 20 4 M3 0 1 = some (wR M3 20 (upd (M3.2.1 20) 0 1)) from wA_nI (j := 0) (by omega) (by omega)]
    simp only [Option.bind_some]
    have hr : ∀ i, i < 2 → (wR M3 20 (upd (M3.2.1 20) 0 1)).2.1 20 i = rwK 15 (lnA (D8 F) L p 15).2.2.1 i := fun i hi => by
      rw [wR_eq, x20_0]
      have e : i = 0 ∨ i = 1 := by omega
      rcases e with e | e <;> rw [e]
      · rw [pk_us]; rfl
      · rw [pk_un (by decide), pk_us]; rfl
    obtain ⟨f, k1, k2⟩ := m_keepRow (M := wR M3 20 (upd (M3.2.1 20) 0 1)) (told := s.2.1) (row := rwK 15 (lnA (D8 F) L p 15).2.2.1) (wd := 2) (mo := 8) (fun j hj => by rw [wR_ne (by decide), ch1.2.2.1]; exact h19 j hj) hr (by omega) (by omega) hc hcN (by omega)
    replace k1 : gX10_keepRow 2 8 (wR M3 20 (upd (M3.2.1 20) 0 1)) = some (wR (wR M3 20 (upd (M3.2.1 20) 0 1)) 19 f) := k1
    rw [k1]
    simp only [Option.bind_some]
    exact Or.inr ⟨jl1 (P := fun j => tK (D8 F) L (ps (D8 F) L p (j + 1)) = 2) c0, wR (wR M3 20 (upd (M3.2.1 20) 0 1)) 19 f, rfl, ch1.1, (ch1.2.1.wr_ (by omega) _).wr_ (by omega) f, ch1.2.2.2.1, fun j hj => by rw [wR_eq]; exact k2 j hj, fun hq => absurd hq (by decide)⟩
  · replace ta0 : gX10_take 1 0 9 M2 = some (0, M3) := ta0
    rw [ta0, b2_some, if_pos rfl]
    exact Or.inl ⟨0, by decide, jl0 (P := fun j => tK (D8 F) L (ps (D8 F) L p (j + 1)) = 2), c0, M3, rfl, tb0.1, ch0.2.1.tr tb0.2⟩
theorem ml_16 (hT : MT F L M) (hp : p ≤ L) (hS : MS (D8 F) L p M) (hK : ¬ tK (D8 F) L p = 0) (hs : RMs 2 s M) (hsf : SFp 2 s.2.1) (hbd : BD s.1 (tB (D8 F) L p)) (hg : M.1 24 = 1) : LO F L p 16 2 s M (gbX10_sightLine_37 (nI (tB (D8 F) L p)) 2 M) := by
  obtain ⟨M1, M2, u1, u2, ch0, u4, u5, u6, u7⟩ := l_pre (k := 16) hT hp hS hK hs hbd hg (by decide) (by decide)
  replace u1 : gX10_full 0 8 (nI (tB (D8 F) L p)) M = some M1 := u1
  obtain ⟨h17, h19, hfar⟩ := hs
  unfold gbX10_sightLine_37
  rw [if_neg (by decide)]
  rw [u1]
  simp only [Option.bind_some]
  rw [u2]
  simp only [Option.bind_some]
  have z19 : ∀ j, j < 121 → M2.2.1 19 j = s.2.1 j := fun j hj => by rw [u4]; exact h19 j hj
  rcases m_take (hT.tl ch0.2.1) (ps_le (D8 F) hp 1) ch0.1 (r := 1) (by omega) 0 9 with ⟨c0, M3, ta0, tb0, tc0, td0, te0⟩ | ⟨c0, M3, ta0, tb0⟩
  · replace ta0 : gX10_take 1 0 9 M2 = some (1, M3) := ta0
    have ch1 := ch0.step hT hp c0 (vd_1 (k := 16) (i := 0) (by omega) _ _) tb0
    have x20_0 := tb0.2.2.1
    rw [ta0, b2_some, if_neg (show ¬ (1 : Int32) = 0 by decide)]
    obtain ⟨cN, hcN, hc⟩ := hsf 16 (by decide) (by decide) (by decide)
    rw [show wA 20 4 M3 0 2 = some (wR M3 20 (upd (M3.2.1 20) 0 2)) from wA_nI (j := 0) (by omega) (by omega)]
    simp only [Option.bind_some]
    have hr : ∀ i, i < 2 → (wR M3 20 (upd (M3.2.1 20) 0 2)).2.1 20 i = rwK 16 (lnA (D8 F) L p 16).2.2.1 i := fun i hi => by
      rw [wR_eq, x20_0]
      have e : i = 0 ∨ i = 1 := by omega
      rcases e with e | e <;> rw [e]
      · rw [pk_us]; rfl
      · rw [pk_un (by decide), pk_us]; rfl
    obtain ⟨f, k1, k2⟩ := m_keepRow (M := wR M3 20 (upd (M3.2.1 20) 0 2)) (told := s.2.1) (row := rwK 16 (lnA (D8 F) L p 16).2.2.1) (wd := 2) (mo := 8) (fun j hj => by rw [wR_ne (by decide), ch1.2.2.1]; exact h19 j hj) hr (by omega) (by omega) hc hcN (by omega)
    replace k1 : gX10_keepRow 2 8 (wR M3 20 (upd (M3.2.1 20) 0 2)) = some (wR (wR M3 20 (upd (M3.2.1 20) 0 2)) 19 f) := k1
    rw [k1]
    simp only [Option.bind_some]
    exact Or.inr ⟨jl1 (P := fun j => tK (D8 F) L (ps (D8 F) L p (j + 1)) = 2) c0, wR (wR M3 20 (upd (M3.2.1 20) 0 2)) 19 f, rfl, ch1.1, (ch1.2.1.wr_ (by omega) _).wr_ (by omega) f, ch1.2.2.2.1, fun j hj => by rw [wR_eq]; exact k2 j hj, fun hq => absurd hq (by decide)⟩
  · replace ta0 : gX10_take 1 0 9 M2 = some (0, M3) := ta0
    rw [ta0, b2_some, if_pos rfl]
    exact Or.inl ⟨0, by decide, jl0 (P := fun j => tK (D8 F) L (ps (D8 F) L p (j + 1)) = 2), c0, M3, rfl, tb0.1, ch0.2.1.tr tb0.2⟩
theorem ml_17 (hT : MT F L M) (hp : p ≤ L) (hS : MS (D8 F) L p M) (hK : ¬ tK (D8 F) L p = 0) (hs : RMs 3 s M) (hsf : SFp 3 s.2.1) (hbd : BD s.1 (tB (D8 F) L p)) (hg : M.1 24 = 1) : LO F L p 17 3 s M (gbX10_factLine_37 (nI (tB (D8 F) L p)) 0 M) := by
  obtain ⟨M1, M2, u1, u2, ch0, u4, u5, u6, u7⟩ := l_pre (k := 17) hT hp hS hK hs hbd hg (by decide) (by decide)
  replace u1 : gX10_full 0 16 (nI (tB (D8 F) L p)) M = some M1 := u1
  obtain ⟨h17, h19, hfar⟩ := hs
  unfold gbX10_factLine_37
  rw [if_neg (by decide)]
  rw [u1]
  simp only [Option.bind_some]
  rw [u2]
  simp only [Option.bind_some]
  have z19 : ∀ j, j < 121 → M2.2.1 19 j = s.2.1 j := fun j hj => by rw [u4]; exact h19 j hj
  rw [show wA 20 4 M2 2 (-1) = some (wR M2 20 (upd (M2.2.1 20) 2 (-1))) from wA_nI (j := 2) (by omega) (by omega)]
  simp only [Option.bind_some]
  have chA := ch0.wA (r := 0) (upd (M2.2.1 20) 2 (-1))
  have e20 : (wR M2 20 (upd (M2.2.1 20) 2 (-1))).2.1 20 = upd (M2.2.1 20) 2 (-1) := wR_eq
  have e19 : (wR M2 20 (upd (M2.2.1 20) 2 (-1))).2.1 19 = M2.2.1 19 := wR_ne (by decide)
  generalize wR M2 20 (upd (M2.2.1 20) 2 (-1)) = MA at *
  rw [if_pos (by decide)]
  rcases m_take (hT.tl chA.2.1) (ps_le (D8 F) hp 1) chA.1 (r := 2) (by omega) 0 3 with ⟨c0, M3, ta0, tb0, tc0, td0, te0⟩ | ⟨c0, M3, ta0, tb0⟩
  · replace ta0 : gX10_take 2 0 3 MA = some (1, M3) := ta0
    have ch1 := chA.step hT hp c0 (vd_1 (k := 17) (i := 0) (by omega) _ _) tb0
    have x20_0 := tb0.2.2.1
    rw [ta0, b2_some, if_neg (show ¬ (1 : Int32) = 0 by decide)]
    unfold gbX10_factLine_84
    rcases m_takeThing (hT.tl ch1.2.1) (ps_le (D8 F) hp 2) ch1.1 (r := 1) (by omega) (-1) with ⟨c1, M4, ta1, tb1, tc1, td1, te1⟩ | ⟨c1, M4, ta1, tb1⟩
    · replace ta1 : gX10_takeThing 1 (-1) M3 = some (1, M4) := ta1
      have ch2 := ch1.step hT hp c1 (vd_1 (k := 17) (i := 1) (by omega) _ _) tb1
      have x20_1 := tb1.2.2.1
      rw [ta1, b2_some, if_neg (show ¬ (1 : Int32) = 0 by decide)]
      obtain ⟨cN, hcN, hc⟩ := hsf 17 (by decide) (by decide) (by decide)
      rw [show wA 20 4 M4 0 0 = some (wR M4 20 (upd (M4.2.1 20) 0 0)) from wA_nI (j := 0) (by omega) (by omega)]
      simp only [Option.bind_some]
      have hr : ∀ i, i < 3 → (wR M4 20 (upd (M4.2.1 20) 0 0)).2.1 20 i = rwK 17 (lnA (D8 F) L p 17).2.2.1 i := fun i hi => by
        rw [wR_eq, x20_1, x20_0, e20]
        have e : i = 0 ∨ i = 1 ∨ i = 2 := by omega
        rcases e with e | e | e <;> rw [e]
        · rw [pk_us]; rfl
        · rw [pk_un (by decide), pk_us]; rfl
        · rw [pk_un (by decide), pk_un (by decide), pk_us]; rfl
      obtain ⟨f, k1, k2⟩ := m_keepRow (M := wR M4 20 (upd (M4.2.1 20) 0 0)) (told := s.2.1) (row := rwK 17 (lnA (D8 F) L p 17).2.2.1) (wd := 3) (mo := 16) (fun j hj => by rw [wR_ne (by decide), ch2.2.2.1]; exact h19 j hj) hr (by omega) (by omega) hc hcN (by omega)
      replace k1 : gX10_keepRow 3 16 (wR M4 20 (upd (M4.2.1 20) 0 0)) = some (wR (wR M4 20 (upd (M4.2.1 20) 0 0)) 19 f) := k1
      rw [k1]
      simp only [Option.bind_some]
      exact Or.inr ⟨jl2 (P := fun j => tK (D8 F) L (ps (D8 F) L p (j + 1)) = 2) c0 c1, wR (wR M4 20 (upd (M4.2.1 20) 0 0)) 19 f, rfl, ch2.1, (ch2.2.1.wr_ (by omega) _).wr_ (by omega) f, ch2.2.2.2.1, fun j hj => by rw [wR_eq]; exact k2 j hj, fun hq => absurd hq (by decide)⟩
    · replace ta1 : gX10_takeThing 1 (-1) M3 = some (0, M4) := ta1
      rw [ta1, b2_some, if_pos rfl]
      exact Or.inl ⟨1, by decide, jl1 (P := fun j => tK (D8 F) L (ps (D8 F) L p (j + 1)) = 2) c0, c1, M4, rfl, tb1.1, ch1.2.1.tr tb1.2⟩
  · replace ta0 : gX10_take 2 0 3 MA = some (0, M3) := ta0
    rw [ta0, b2_some, if_pos rfl]
    exact Or.inl ⟨0, by decide, jl0 (P := fun j => tK (D8 F) L (ps (D8 F) L p (j + 1)) = 2), c0, M3, rfl, tb0.1, chA.2.1.tr tb0.2⟩
theorem ml_18 (hT : MT F L M) (hp : p ≤ L) (hS : MS (D8 F) L p M) (hK : ¬ tK (D8 F) L p = 0) (hs : RMs 3 s M) (hsf : SFp 3 s.2.1) (hbd : BD s.1 (tB (D8 F) L p)) (hg : M.1 24 = 1) : LO F L p 18 3 s M (gbX10_factLine_37 (nI (tB (D8 F) L p)) 1 M) := by
  obtain ⟨M1, M2, u1, u2, ch0, u4, u5, u6, u7⟩ := l_pre (k := 18) hT hp hS hK hs hbd hg (by decide) (by decide)
  replace u1 : gX10_full 0 16 (nI (tB (D8 F) L p)) M = some M1 := u1
  obtain ⟨h17, h19, hfar⟩ := hs
  unfold gbX10_factLine_37
  rw [if_neg (by decide)]
  rw [u1]
  simp only [Option.bind_some]
  rw [u2]
  simp only [Option.bind_some]
  have z19 : ∀ j, j < 121 → M2.2.1 19 j = s.2.1 j := fun j hj => by rw [u4]; exact h19 j hj
  rw [show wA 20 4 M2 2 (-1) = some (wR M2 20 (upd (M2.2.1 20) 2 (-1))) from wA_nI (j := 2) (by omega) (by omega)]
  simp only [Option.bind_some]
  have chA := ch0.wA (r := 0) (upd (M2.2.1 20) 2 (-1))
  have e20 : (wR M2 20 (upd (M2.2.1 20) 2 (-1))).2.1 20 = upd (M2.2.1 20) 2 (-1) := wR_eq
  have e19 : (wR M2 20 (upd (M2.2.1 20) 2 (-1))).2.1 19 = M2.2.1 19 := wR_ne (by decide)
  generalize wR M2 20 (upd (M2.2.1 20) 2 (-1)) = MA at *
  rw [if_neg (by decide)]
  unfold gbX10_factLine_84
  rcases m_takeThing (hT.tl chA.2.1) (ps_le (D8 F) hp 1) chA.1 (r := 1) (by omega) (-1) with ⟨c0, M3, ta0, tb0, tc0, td0, te0⟩ | ⟨c0, M3, ta0, tb0⟩
  · replace ta0 : gX10_takeThing 1 (-1) MA = some (1, M3) := ta0
    have ch1 := chA.step hT hp c0 (vd_1 (k := 18) (i := 0) (by omega) _ _) tb0
    have x20_0 := tb0.2.2.1
    rw [ta0, b2_some, if_neg (show ¬ (1 : Int32) = 0 by decide)]
    obtain ⟨cN, hcN, hc⟩ := hsf 18 (by decide) (by decide) (by decide)
    rw [show wA 20 4 M3 0 1 = some (wR M3 20 (upd (M3.2.1 20) 0 1)) from wA_nI (j := 0) (by omega) (by omega)]
    simp only [Option.bind_some]
    have hr : ∀ i, i < 3 → (wR M3 20 (upd (M3.2.1 20) 0 1)).2.1 20 i = rwK 18 (lnA (D8 F) L p 18).2.2.1 i := fun i hi => by
      rw [wR_eq, x20_0, e20]
      have e : i = 0 ∨ i = 1 ∨ i = 2 := by omega
      rcases e with e | e | e <;> rw [e]
      · rw [pk_us]; rfl
      · rw [pk_un (by decide), pk_us]; rfl
      · rw [pk_un (by decide), pk_un (by decide), pk_us]; rfl
    obtain ⟨f, k1, k2⟩ := m_keepRow (M := wR M3 20 (upd (M3.2.1 20) 0 1)) (told := s.2.1) (row := rwK 18 (lnA (D8 F) L p 18).2.2.1) (wd := 3) (mo := 16) (fun j hj => by rw [wR_ne (by decide), ch1.2.2.1]; exact h19 j hj) hr (by omega) (by omega) hc hcN (by omega)
    replace k1 : gX10_keepRow 3 16 (wR M3 20 (upd (M3.2.1 20) 0 1)) = some (wR (wR M3 20 (upd (M3.2.1 20) 0 1)) 19 f) := k1
    rw [k1]
    simp only [Option.bind_some]
    exact Or.inr ⟨jl1 (P := fun j => tK (D8 F) L (ps (D8 F) L p (j + 1)) = 2) c0, wR (wR M3 20 (upd (M3.2.1 20) 0 1)) 19 f, rfl, ch1.1, (ch1.2.1.wr_ (by omega) _).wr_ (by omega) f, ch1.2.2.2.1, fun j hj => by rw [wR_eq]; exact k2 j hj, fun hq => absurd hq (by decide)⟩
  · replace ta0 : gX10_takeThing 1 (-1) MA = some (0, M3) := ta0
    rw [ta0, b2_some, if_pos rfl]
    exact Or.inl ⟨0, by decide, jl0 (P := fun j => tK (D8 F) L (ps (D8 F) L p (j + 1)) = 2), c0, M3, rfl, tb0.1, chA.2.1.tr tb0.2⟩
theorem ml_19 (hT : MT F L M) (hp : p ≤ L) (hS : MS (D8 F) L p M) (hK : ¬ tK (D8 F) L p = 0) (hs : RMs 3 s M) (hsf : SFp 3 s.2.1) (hbd : BD s.1 (tB (D8 F) L p)) (hg : M.1 24 = 1) : LO F L p 19 3 s M (gbX10_factLine_37 (nI (tB (D8 F) L p)) 2 M) := by
  obtain ⟨M1, M2, u1, u2, ch0, u4, u5, u6, u7⟩ := l_pre (k := 19) hT hp hS hK hs hbd hg (by decide) (by decide)
  replace u1 : gX10_full 0 16 (nI (tB (D8 F) L p)) M = some M1 := u1
  obtain ⟨h17, h19, hfar⟩ := hs
  unfold gbX10_factLine_37
  rw [if_neg (by decide)]
  rw [u1]
  simp only [Option.bind_some]
  rw [u2]
  simp only [Option.bind_some]
  have z19 : ∀ j, j < 121 → M2.2.1 19 j = s.2.1 j := fun j hj => by rw [u4]; exact h19 j hj
  rw [show wA 20 4 M2 2 (-1) = some (wR M2 20 (upd (M2.2.1 20) 2 (-1))) from wA_nI (j := 2) (by omega) (by omega)]
  simp only [Option.bind_some]
  have chA := ch0.wA (r := 0) (upd (M2.2.1 20) 2 (-1))
  have e20 : (wR M2 20 (upd (M2.2.1 20) 2 (-1))).2.1 20 = upd (M2.2.1 20) 2 (-1) := wR_eq
  have e19 : (wR M2 20 (upd (M2.2.1 20) 2 (-1))).2.1 19 = M2.2.1 19 := wR_ne (by decide)
  generalize wR M2 20 (upd (M2.2.1 20) 2 (-1)) = MA at *
  rw [if_neg (by decide)]
  unfold gbX10_factLine_84
  rcases m_takeThing (hT.tl chA.2.1) (ps_le (D8 F) hp 1) chA.1 (r := 1) (by omega) (-1) with ⟨c0, M3, ta0, tb0, tc0, td0, te0⟩ | ⟨c0, M3, ta0, tb0⟩
  · replace ta0 : gX10_takeThing 1 (-1) MA = some (1, M3) := ta0
    have ch1 := chA.step hT hp c0 (vd_1 (k := 19) (i := 0) (by omega) _ _) tb0
    have x20_0 := tb0.2.2.1
    rw [ta0, b2_some, if_neg (show ¬ (1 : Int32) = 0 by decide)]
    obtain ⟨cN, hcN, hc⟩ := hsf 19 (by decide) (by decide) (by decide)
    rw [show wA 20 4 M3 0 2 = some (wR M3 20 (upd (M3.2.1 20) 0 2)) from wA_nI (j := 0) (by omega) (by omega)]
    simp only [Option.bind_some]
    have hr : ∀ i, i < 3 → (wR M3 20 (upd (M3.2.1 20) 0 2)).2.1 20 i = rwK 19 (lnA (D8 F) L p 19).2.2.1 i := fun i hi => by
      rw [wR_eq, x20_0, e20]
      have e : i = 0 ∨ i = 1 ∨ i = 2 := by omega
      rcases e with e | e | e <;> rw [e]
      · rw [pk_us]; rfl
      · rw [pk_un (by decide), pk_us]; rfl
      · rw [pk_un (by decide), pk_un (by decide), pk_us]; rfl
    obtain ⟨f, k1, k2⟩ := m_keepRow (M := wR M3 20 (upd (M3.2.1 20) 0 2)) (told := s.2.1) (row := rwK 19 (lnA (D8 F) L p 19).2.2.1) (wd := 3) (mo := 16) (fun j hj => by rw [wR_ne (by decide), ch1.2.2.1]; exact h19 j hj) hr (by omega) (by omega) hc hcN (by omega)
    replace k1 : gX10_keepRow 3 16 (wR M3 20 (upd (M3.2.1 20) 0 2)) = some (wR (wR M3 20 (upd (M3.2.1 20) 0 2)) 19 f) := k1
    rw [k1]
    simp only [Option.bind_some]
    exact Or.inr ⟨jl1 (P := fun j => tK (D8 F) L (ps (D8 F) L p (j + 1)) = 2) c0, wR (wR M3 20 (upd (M3.2.1 20) 0 2)) 19 f, rfl, ch1.1, (ch1.2.1.wr_ (by omega) _).wr_ (by omega) f, ch1.2.2.2.1, fun j hj => by rw [wR_eq]; exact k2 j hj, fun hq => absurd hq (by decide)⟩
  · replace ta0 : gX10_takeThing 1 (-1) MA = some (0, M3) := ta0
    rw [ta0, b2_some, if_pos rfl]
    exact Or.inl ⟨0, by decide, jl0 (P := fun j => tK (D8 F) L (ps (D8 F) L p (j + 1)) = 2), c0, M3, rfl, tb0.1, chA.2.1.tr tb0.2⟩
end LK
