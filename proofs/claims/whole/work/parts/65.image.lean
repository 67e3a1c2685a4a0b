/-! ===== copying a Told ===== -/
theorem cpB_rd {c a b n0 : Nat} {ρ : RV} {S : SV} {z : AH} {f : Nat → Int32} (hc : rkOk c = true) (hl : a + szV c ≤ z.length) (hA : RW 1 b n0 f (wr c a ρ S z)) {k off n1 t : Nat} (hk : (dsc c ρ.2.2)[k]? = some (2, off, n1, t)) (hr : rk c off = some k) (h0 : 0 < off) {N : Nat} (hN : N ≤ n0) (hN1 : N ≤ n1) (h31 : N < 2 ^ 31) (hf : ∀ k, k < N → fits .byte (.int (f k)) = true) : cpI 1 (wr c a ρ S z) b 0 (a + off) 0 (nI N) = some (wr c a ρ (wR S k (va_cpy f (S.2.1 k) 0 0 N)) z) := by
  unfold cpI
  have e : rowZ c ρ S k = .inl (1, n1, S.2.1 k) := by simp [rowZ, hk]
  rw [show (wr c a ρ S z)[b]? = _ from hA, wr_row hl hr h0, e]
  have key : ∀ f, (wr c a ρ S z).set (a + off) (rowZ c ρ (wR S k f) k) = wr c a ρ (wR S k f) z := by
    intro f
    refine set_row hl hr h0 (obZ_ne rfl (fun j hj => ?_)) (fun d' k' hk' hd' hne => ?_)
    · unfold fvZ; split <;> simp_all [wR]
    · have hkk : k' ≠ k := fun e => hne (rk_inj hc (by rw [hk', e]) hr hd' h0)
      unfold rowZ
      simp [wR, hkk]
  have e2 : ∀ f, rowZ c ρ (wR S k f) k = .inl (1, n1, f) := fun f => by simp [rowZ, hk, wR]
  have z0 : (0 : Int32).toNatClampNeg = 0 := rfl
  have hN2 : (nI N).toNatClampNeg = N := nI_clamp h31
  have hx : (List.range (nI N).toNatClampNeg).all (fun k => fits .byte (.int (f ((0 : Int32).toNatClampNeg + k)))) = true := by
    rw [List.all_eq_true]
    intro k hk
    rw [List.mem_range, hN2] at hk
    rw [z0, Nat.zero_add]; exact hf k hk
  refine (if_pos (⟨⟨rfl, rfl⟩, ⟨by decide, by decide, nI_pos h31⟩, ⟨by rw [z0, hN2]; omega, by rw [z0, hN2]; omega⟩, Or.inr hx⟩ : (1 = 1 ∧ 1 = 1) ∧ _ ∧ _ ∧ _)).trans ?_
  rw [z0, hN2, ← e2, key]
def wQ (ρ : RV) (k i : Nat) (r : Option Nat) : RV := (ρ.1, fun j => if j = k then va_up (ρ.2.1 k) i r else ρ.2.1 j, ρ.2.2)
theorem stQ_rd {c a : Nat} {ρ : RV} {S : SV} {z : AH} (hc : rkOk c = true) (hl : a + szV c ≤ z.length) {k off n t : Nat} (hk : (dsc c ρ.2.2)[k]? = some (6, off, n, t)) (hr : rk c off = some k) (h0 : 0 < off) {i : Nat} (hi : i < n) (hn : n < 2 ^ 31) {r : Option Nat} (hok : okQ t (wr c a ρ S z) r = true) : stQ t (wr c a ρ S z) (a + off) (nI i) r = some (wr c a (wQ ρ k i r) S z) := by
  unfold stQ
  have e : rowZ c ρ S k = .inr (.inl (t, n, ρ.2.1 k)) := by simp [rowZ, hk]
  have e2 : rowZ c (wQ ρ k i r) S k = .inr (.inl (t, n, va_up (ρ.2.1 k) i r)) := by simp [rowZ, hk, wQ]
  have hi2 : (nI i).toNatClampNeg = i := nI_clamp (by omega)
  rw [wr_row hl hr h0, e]
  simp only [hok, and_self, true_and, hi2]
  rw [if_pos (by rintro (h | h); exact nI_pos (by omega) h; omega), ← e2]
  refine congrArg some (set_row hl hr h0 (obZ_ne rfl (fun j hj => ?_)) (fun d' k' hk' hd' hne => ?_))
  · show fvZ c a (wQ ρ k i r) S j = fvZ c a ρ S j
    unfold fvZ; rfl
  · have hkk : k' ≠ k := fun e => hne (rk_inj hc (by rw [hk', e]) hr hd' h0)
    unfold rowZ
    simp [wQ, hkk]
theorem okQ_of {t : Nat} {z : AH} {c a : Nat} {ρ : RV} {S : SV} {r : Option Nat} (h : rfOk t z r) (ha : a + szV c ≤ 113) : okQ t (wr c a ρ S z) r = true := by
  cases r with
  | none => rfl
  | some x =>
    obtain ⟨h1, fs, h2⟩ := h x rfl
    show isO t _ x = true
    unfold isO
    rw [wr_out (by omega), h2]
    simp
theorem told_copy {a b : Nat} {ρa ρb : RV} {Sa Sb : SV} {z : AH} (ha : RD 6 a ρa Sa z) (hb : RD 6 b ρb Sb z) (hd : a + 5 ≤ b ∨ b + 5 ≤ a) (hb2 : b + 5 ≤ 113) (hz : 113 ≤ z.length) (hf : ∀ k, k < 600 → fits .byte (.int (Sa.2.1 0 k)) = true) (h5 : ∀ i, i < 2 → rfOk 0 z (ρa.2.1 5 i)) (h6 : ∀ i, i < 8 → rfOk 4 z (ρa.2.1 6 i)) : ∃ S' ρ', fX7_copy b a z = some (wr 6 b ρ' S' z) ∧ VE Sa ρa S' ρ' := by
  have hl : b + szV 6 ≤ z.length := by rw [s6]; omega
  have hA : ∀ (ρ : RV) (S : SV), RD 6 a ρa Sa (wr 6 b ρ S z) := fun ρ S => ha.far (by rw [s6]; omega)
  have hB : ∀ (ρ : RV) (S : SV), RD 6 b ρ S (wr 6 b ρ S z) := fun ρ S => rd_wr hl
  let S1 := wR Sb 0 (va_cpy (Sa.2.1 0) (Sb.2.1 0) 0 0 600)
  let S2 := wI (wI (wI S1 1 (Sa.1 1)) 2 (Sa.1 2)) 3 (Sa.1 3)
  let S3 := wR S2 4 (va_cpy (Sa.2.1 4) (S2.2.1 4) 0 0 4)
  have c1 := cpB_rd (N := 600) (b := a + 1) rkOk6 hl (rw_rd (hA ρb Sb) (k := 0) rfl rfl (by decide) 1 rfl (by decide)) (k := 0) (off := 1) rfl rfl (by decide) (by decide) (by decide) (by decide) hf
  have c2 := cpI_rd (b := a + 2) rkOk6 hl (rw_rd (hA ρb S2) (k := 4) rfl rfl (by decide) 0 rfl (by decide)) (k := 4) (off := 2) rfl rfl (by decide) 0 0 4
  have c2' : cpV 4 4 4 0 0 (Sa.2.1 4) 4 S2 = some S3 := rfl
  rw [c2'] at c2
  -- the loop over countries
  have L8 : ∀ d i, i + d = 8 → ∀ (ρ : RV), (∀ n, d < n → ∃ ρ', fX7_copy_81 n b a (nI i) (wr 6 b ρ S3 z) = some (wr 6 b ρ' S3 z) ∧ (∀ j, j < i → ρ'.2.1 6 j = ρ.2.1 6 j) ∧ (∀ j, i ≤ j → j < 8 → ρ'.2.1 6 j = ρa.2.1 6 j) ∧ ρ'.2.1 5 = ρ.2.1 5) := by
    intro d
    induction d with
    | zero =>
      intro i hi ρ n hn
      obtain ⟨m, rfl⟩ : ∃ m, n = m + 1 := ⟨n - 1, by omega⟩
      rw [show i = 8 by omega]
      exact ⟨ρ, rfl, fun _ _ => rfl, fun j h1 h2 => by omega, rfl⟩
    | succ d ih =>
      intro i hi ρ n hn
      obtain ⟨m, rfl⟩ : ∃ m, n = m + 1 := ⟨n - 1, by omega⟩
      have q := stQ_rd (S := S3) (z := z) (ρ := ρ) rkOk6 hl (k := 6) (off := 4) (i := i) rfl rfl (by decide) (by omega) (by decide) (okQ_of (h6 i (by omega)) (by rw [s6]; omega))
      have e1 : fX7_copy_81 (m + 1) b a (nI i) (wr 6 b ρ S3 z) = fX7_copy_81 m b a (nI (i + 1)) (wr 6 b (wQ ρ 6 i (ρa.2.1 6 i)) S3 z) := by
        show bX7_copy_81 _ _ _ _ _ = _
        unfold bX7_copy_81
        rw [if_neg (show ¬ (8 : Int32) ≤ nI i from nI_ge (b := 8) (by omega) (by omega)), gN_rd (hB ρ S3) (k := 6) rfl (Or.inr (Or.inr (Or.inr rfl))), gN_rd (hA ρ S3) (k := 6) rfl (Or.inr (Or.inr (Or.inr rfl)))]
        simp only [Option.bind_some]
        rw [ixQ_rd (hA ρ S3) (k := 6) rfl rfl (by decide)]
        unfold rQ
        rw [nI_clamp (by omega), if_pos (by rintro (h | h); exact nI_pos (by omega) h; omega)]
        simp only [Option.bind_some, q, nm]
        rw [nI_succ]
      obtain ⟨ρ', g1, g2, g3, g4⟩ := ih (i + 1) (by omega) (wQ ρ 6 i (ρa.2.1 6 i)) m (by omega)
      refine ⟨ρ', by rw [e1]; exact g1, fun j hj => ?_, fun j j1 j2 => ?_, g4⟩
      · rw [g2 j (by omega)]
        show va_up (ρ.2.1 6) i _ j = _
        exact va_up_ne _ _ (by omega)
      · by_cases e : j = i
        · subst e
          rw [g2 j (by omega)]
          exact va_up_self _ _ _
        · exact g3 j (by omega) j2
  have L2 : ∀ d i, i + d = 2 → ∀ (ρ : RV), (∀ n, d < n → ∃ ρ', fX7_copy_56 n b a (nI i) (wr 6 b ρ S3 z) = some (wr 6 b ρ' S3 z) ∧ (∀ j, j < i → ρ'.2.1 5 j = ρ.2.1 5 j) ∧ (∀ j, i ≤ j → j < 2 → ρ'.2.1 5 j = ρa.2.1 5 j) ∧ (∀ j, j < 8 → ρ'.2.1 6 j = ρa.2.1 6 j)) := by
    intro d
    induction d with
    | zero =>
      intro i hi ρ n hn
      obtain ⟨m, rfl⟩ : ∃ m, n = m + 1 := ⟨n - 1, by omega⟩
      rw [show i = 2 by omega]
      obtain ⟨ρ', g1, g2, g3, g4⟩ := L8 8 0 rfl ρ FU (by rw [FUn]; omega)
      exact ⟨ρ', g1, fun j _ => by rw [g4], fun j h1 h2 => by omega, fun j hj => g3 j (by omega) hj⟩
    | succ d ih =>
      intro i hi ρ n hn
      obtain ⟨m, rfl⟩ : ∃ m, n = m + 1 := ⟨n - 1, by omega⟩
      have q := stQ_rd (S := S3) (z := z) (ρ := ρ) rkOk6 hl (k := 5) (off := 3) (i := i) rfl rfl (by decide) (by omega) (by decide) (okQ_of (h5 i (by omega)) (by rw [s6]; omega))
      have e1 : fX7_copy_56 (m + 1) b a (nI i) (wr 6 b ρ S3 z) = fX7_copy_56 m b a (nI (i + 1)) (wr 6 b (wQ ρ 5 i (ρa.2.1 5 i)) S3 z) := by
        show bX7_copy_56 _ _ _ _ _ = _
        unfold bX7_copy_56
        rw [if_neg (show ¬ (2 : Int32) ≤ nI i from nI_ge (b := 2) (by omega) (by omega)), gN_rd (hB ρ S3) (k := 5) rfl (Or.inr (Or.inr (Or.inr rfl))), gN_rd (hA ρ S3) (k := 5) rfl (Or.inr (Or.inr (Or.inr rfl)))]
        simp only [Option.bind_some]
        rw [ixQ_rd (hA ρ S3) (k := 5) rfl rfl (by decide)]
        unfold rQ
        rw [nI_clamp (by omega), if_pos (by rintro (h | h); exact nI_pos (by omega) h; omega)]
        simp only [Option.bind_some, q, nm]
        rw [nI_succ]
      obtain ⟨ρ', g1, g2, g3, g4⟩ := ih (i + 1) (by omega) (wQ ρ 5 i (ρa.2.1 5 i)) m (by omega)
      refine ⟨ρ', by rw [e1]; exact g1, fun j hj => ?_, fun j j1 j2 => ?_, g4⟩
      · rw [g2 j (by omega)]
        show va_up (ρ.2.1 5) i _ j = _
        exact va_up_ne _ _ (by omega)
      · by_cases e : j = i
        · subst e
          rw [g2 j (by omega)]
          exact va_up_self _ _ _
        · exact g3 j (by omega) j2
  obtain ⟨ρ', g1, -, g3, g4⟩ := L2 2 0 rfl ρb FU (by rw [FUn]; omega)
  refine ⟨S3, ρ', ?_, ?_⟩
  · unfold fX7_copy
    rw [if_pos (isO_rd hb), gN_rd ha (k := 0) rfl (Or.inr (Or.inl rfl)), gN_rd hb (k := 0) rfl (Or.inr (Or.inl rfl))]
    simp only [Option.bind_some]
    rw [wr_id hb] at c1
    rw [show (600 : Int32) = nI 600 from rfl, c1]
    simp only [Option.bind_some, gI_rd (hA _ _) (k := 1) rfl, gI_rd (hA _ _) (k := 2) rfl, gI_rd (hA _ _) (k := 3) rfl, pF_int hl (k := 1) rfl, pF_int hl (k := 2) rfl, pF_int hl (k := 3) rfl, gN_rd (hA _ _) (k := 4) rfl (Or.inl rfl), gN_rd (hB _ _) (k := 4) rfl (Or.inl rfl)]
    rw [c2]
    simp only [Option.map_some, Option.bind_some]
    exact g1
  · refine ⟨fun k hk => ?_, ⟨rfl, rfl, rfl⟩, fun k hk => ?_, fun i hi => g3 i (by omega) hi, g4⟩
    · show va_cpy (Sa.2.1 0) (Sb.2.1 0) 0 0 600 k = _
      rw [pk_cpy_in (by omega) (by omega), Nat.zero_add, Nat.sub_zero]
    · show va_cpy (Sa.2.1 4) (S2.2.1 4) 0 0 4 k = _
      rw [pk_cpy_in (by omega) (by omega), Nat.zero_add, Nat.sub_zero]
/-! the reference copies a slot -/
theorem cpy_succ (f : Nat → Int32) (g : Nat → Int32) (sp dp i : Nat) : upd (va_cpy f g sp dp i) (dp + i) (f (sp + i)) = va_cpy f g sp dp (i + 1) := by
  funext k
  by_cases e : k = dp + i
  · subst e; rw [pk_us, pk_cpy_in (by omega) (by omega)]; congr 1; omega
  · rw [pk_un e]
    by_cases h : dp ≤ k ∧ k < dp + i
    · rw [pk_cpy_in h.1 h.2, pk_cpy_in h.1 (by omega)]
    · rw [pk_cpy_out (by omega), pk_cpy_out (by omega)]
theorem cpy_0 (f g : Nat → Int32) (sp dp : Nat) : va_cpy f g sp dp 0 = g := by
  funext k; exact pk_cpy_out (by omega)
theorem wR_wR {S : SV} {k : Nat} {f g : Nat → Int32} : wR (wR S k f) k g = wR S k g := by
  unfold wR
  simp only [Prod.mk.injEq, true_and, and_true]
  funext j
  by_cases h : j = k <;> simp [h]
theorem wR_id {S : SV} {k : Nat} : wR S k (S.2.1 k) = S := by
  obtain ⟨a, b, c⟩ := S
  unfold wR
  simp only [Prod.mk.injEq, true_and, and_true]
  funext j
  by_cases h : j = k <;> simp [h]
theorem m_copyRow {S : SV} {a n f t L : Nat} (hL : aLen 9 a = L) (h31 : L < 2 ^ 31) (hf : n * f + n ≤ L) (ht : n * t + n ≤ L) (hd : n * f + n ≤ n * t ∨ n * t + n ≤ n * f) (hn : n < 20000) : gX10_copyRow a (nI n) (nI f) (nI t) S = some (wR S a (va_cpy (S.2.1 a) (S.2.1 a) (n * f) (n * t) n)) := by
  have := lp (fun m (q : Int32 × SV) => gfX10_copyRow_3 m a (nI n) (nI f) (nI t) q.1 q.2) (fun i => (nI i, wR S a (va_cpy (S.2.1 a) (S.2.1 a) (n * f) (n * t) i))) (some (wR S a (va_cpy (S.2.1 a) (S.2.1 a) (n * f) (n * t) n))) n ?_ ?_ FU (by rw [FUn]; omega)
  · rw [cpy_0, wR_id] at this; exact this
  · intro i hi m
    show gbX10_copyRow_3 _ _ _ _ _ _ _ = _
    unfold gbX10_copyRow_3
    rw [if_neg (nI_ge hi (by omega)), hL, wR_s, pk_mul, nI_add, rA_nI (by omega) h31]
    simp only [Option.bind_some, nm]
    rw [pk_mul, nI_add, wA_nI (by omega) h31, wR_s, wR_wR, pk_cpy_out (by omega), cpy_succ]
    simp only [Option.bind_some]
    rw [nI_succ]
  · intro m
    show gbX10_copyRow_3 _ _ _ _ _ _ _ = _
    unfold gbX10_copyRow_3
    rw [if_pos (nI_le (Nat.le_refl _) (by omega))]
theorem nar_fit {x : Int32} (h : fits .byte (.int x) = true) : vp_nar .byte x = x := by
  rw [vp_nar_byte]
  obtain ⟨w, e, h1, h2⟩ := fits_byte h
  have e : x = w := by injection e
  subst e
  rw [fa_le] at h1 h2
  have e7 : (127 : Int32).toInt = 127 := rfl
  have e8 : (-128 : Int32).toInt = -128 := rfl
  rw [e7] at h2
  rw [e8] at h1
  apply Int32.toInt_inj.1
  rw [Int8.toInt_toInt32, Int32.toInt_toInt8, Int.bmod_eq_of_le (by omega) (by omega)]
theorem m_copyTape {S : SV} {f t : Nat} (hf : f < 4) (ht : t < 4) (hd : f ≠ t) (hb : ∀ k, k < 600 → fits .byte (.int (S.2.1 1 (600 * f + k))) = true) {R : Option SV} (hR : ∀ n, gfX10_copyAll_2 (n + 1) (nI f) (nI t) (nI 600) (wR S 1 (va_cpy (S.2.1 1) (S.2.1 1) (600 * f) (600 * t) 600)) = R) : gX10_copyAll (nI f) (nI t) S = R := by
  have := lp (fun m (q : Int32 × SV) => gfX10_copyAll_2 m (nI f) (nI t) q.1 q.2) (fun i => (nI i, wR S 1 (va_cpy (S.2.1 1) (S.2.1 1) (600 * f) (600 * t) i))) R 600 ?_ hR FU (by rw [FUn]; omega)
  · rw [cpy_0, wR_id] at this; exact this
  · intro i hi m
    show gbX10_copyAll_2 _ _ _ _ _ = _
    unfold gbX10_copyAll_2
    rw [if_neg (show ¬ (600 : Int32) ≤ nI i from nI_ge (b := 600) hi (by omega)), wR_s, show (600 : Int32) = nI 600 from rfl, pk_mul, nI_add, rA_nI (by omega) (by omega)]
    simp only [Option.bind_some, nm]
    rw [pk_mul, nI_add, wA_nI (by omega) (by omega), wR_s, wR_wR, pk_cpy_out (by omega), nar_fit (hb i hi), cpy_succ]
    simp only [Option.bind_some]
    rw [nI_succ]
/-- row k of the reference copied -/
def cR (S : SV) (k n f t : Nat) : SV := wR S k (va_cpy (S.2.1 k) (S.2.1 k) (n * f) (n * t) n)
theorem m_copyAll {S : SV} {f t : Nat} (hf : f < 4) (ht : t < 4) (hd : f ≠ t) (hb : ∀ k, k < 600 → fits .byte (.int (S.2.1 1 (600 * f + k))) = true) : gX10_copyAll (nI f) (nI t) S = some (cR (cR (cR (cR (cR (cR (cR (cR (cR S 1 600 f t) 2 1 f t) 3 1 f t) 4 1 f t) 5 4 f t) 6 220 f t) 7 242 f t) 8 34 f t) 9 98 f t) := by
  refine m_copyTape hf ht hd hb (fun n => ?_)
  show gbX10_copyAll_2 _ _ _ _ _ = _
  unfold gbX10_copyAll_2
  rw [if_pos (show (600 : Int32) ≤ nI 600 by decide), show (1 : Int32) = nI 1 from rfl, show (4 : Int32) = nI 4 from rfl, show (220 : Int32) = nI 220 from rfl, show (242 : Int32) = nI 242 from rfl, show (34 : Int32) = nI 34 from rfl, show (98 : Int32) = nI 98 from rfl]
  rw [m_copyRow (a := 2) (L := 4) rfl (by omega) (by omega) (by omega) (by omega) (by omega), Option.bind_some]
  rw [m_copyRow (a := 3) (L := 4) rfl (by omega) (by omega) (by omega) (by omega) (by omega), Option.bind_some]
  rw [m_copyRow (a := 4) (L := 4) rfl (by omega) (by omega) (by omega) (by omega) (by omega), Option.bind_some]
  rw [m_copyRow (a := 5) (L := 16) rfl (by omega) (by omega) (by omega) (by omega) (by omega), Option.bind_some]
  rw [m_copyRow (a := 6) (L := 880) rfl (by omega) (by omega) (by omega) (by omega) (by omega), Option.bind_some]
  rw [m_copyRow (a := 7) (L := 968) rfl (by omega) (by omega) (by omega) (by omega) (by omega), Option.bind_some]
  rw [m_copyRow (a := 8) (L := 136) rfl (by omega) (by omega) (by omega) (by omega) (by omega), Option.bind_some]
  rw [m_copyRow (a := 9) (L := 392) rfl (by omega) (by omega) (by omega) (by omega) (by omega), Option.bind_some]
  rfl
theorem m_copied {S M' : SV} {f t : Nat} (hf : f < 4) (ht : t < 4) (hd : f ≠ t) (e : M' = cR (cR (cR (cR (cR (cR (cR (cR (cR S 1 600 f t) 2 1 f t) 3 1 f t) 4 1 f t) 5 4 f t) 6 220 f t) 7 242 f t) 8 34 f t) 9 98 f t) : SE f S t M' ∧ (∀ s, s < 4 → s ≠ t → SE s S s M') ∧ M'.2.1 55 = S.2.1 55 := by
  have r1 : M'.2.1 1 = va_cpy (S.2.1 1) (S.2.1 1) (600 * f) (600 * t) 600 := by rw [e]; rfl
  have r2 : M'.2.1 2 = va_cpy (S.2.1 2) (S.2.1 2) (1 * f) (1 * t) 1 := by rw [e]; rfl
  have r3 : M'.2.1 3 = va_cpy (S.2.1 3) (S.2.1 3) (1 * f) (1 * t) 1 := by rw [e]; rfl
  have r4 : M'.2.1 4 = va_cpy (S.2.1 4) (S.2.1 4) (1 * f) (1 * t) 1 := by rw [e]; rfl
  have r5 : M'.2.1 5 = va_cpy (S.2.1 5) (S.2.1 5) (4 * f) (4 * t) 4 := by rw [e]; rfl
  have r6 : M'.2.1 6 = va_cpy (S.2.1 6) (S.2.1 6) (220 * f) (220 * t) 220 := by rw [e]; rfl
  have r7 : M'.2.1 7 = va_cpy (S.2.1 7) (S.2.1 7) (242 * f) (242 * t) 242 := by rw [e]; rfl
  have r8 : M'.2.1 8 = va_cpy (S.2.1 8) (S.2.1 8) (34 * f) (34 * t) 34 := by rw [e]; rfl
  have r9 : M'.2.1 9 = va_cpy (S.2.1 9) (S.2.1 9) (98 * f) (98 * t) 98 := by rw [e]; rfl
  refine ⟨⟨fun k hk => ?_, ⟨?_, ?_, ?_⟩, fun k hk => ?_, fun k hk => ?_, fun k hk => ?_, fun k hk => ?_, fun k hk => ?_⟩, fun s hs hst => ⟨fun k hk => ?_, ⟨?_, ?_, ?_⟩, fun k hk => ?_, fun k hk => ?_, fun k hk => ?_, fun k hk => ?_, fun k hk => ?_⟩, by rw [e]; rfl⟩
  · rw [r1, pk_cpy_in (by omega) (by omega), show 600 * t + k - 600 * t = k by omega]
  · rw [r2, pk_cpy_in (by omega) (by omega), show 1 * f + (t - 1 * t) = f by omega]
  · rw [r3, pk_cpy_in (by omega) (by omega), show 1 * f + (t - 1 * t) = f by omega]
  · rw [r4, pk_cpy_in (by omega) (by omega), show 1 * f + (t - 1 * t) = f by omega]
  · rw [r5, pk_cpy_in (by omega) (by omega), show 4 * t + k - 4 * t = k by omega]
  · rw [r6, pk_cpy_in (by omega) (by omega), show 220 * t + k - 220 * t = k by omega]
  · rw [r7, pk_cpy_in (by omega) (by omega), show 242 * t + k - 242 * t = k by omega]
  · rw [r8, pk_cpy_in (by omega) (by omega), show 34 * t + k - 34 * t = k by omega]
  · rw [r9, pk_cpy_in (by omega) (by omega), show 98 * t + k - 98 * t = k by omega]
  · rw [r1, pk_cpy_out (by omega)]
  · rw [r2, pk_cpy_out (by omega)]
  · rw [r3, pk_cpy_out (by omega)]
  · rw [r4, pk_cpy_out (by omega)]
  · rw [r5, pk_cpy_out (by omega)]
  · rw [r6, pk_cpy_out (by omega)]
  · rw [r7, pk_cpy_out (by omega)]
  · rw [r8, pk_cpy_out (by omega)]
  · rw [r9, pk_cpy_out (by omega)]
theorem SE.tr {a b c : Nat} {M N K : SV} (h : SE a M b N) (h2 : SE b N c K) : SE a M c K := by
  obtain ⟨p1, ⟨p2, p3, p4⟩, p5, p6, p7, p8, p9⟩ := h
  obtain ⟨q1, ⟨q2, q3, q4⟩, q5, q6, q7, q8, q9⟩ := h2
  exact ⟨fun k hk => by rw [q1 k hk, p1 k hk], ⟨by rw [q2, p2], by rw [q3, p3], by rw [q4, p4]⟩, fun k hk => by rw [q5 k hk, p5 k hk], fun k hk => by rw [q6 k hk, p6 k hk], fun k hk => by rw [q7 k hk, p7 k hk], fun k hk => by rw [q8 k hk, p8 k hk], fun k hk => by rw [q9 k hk, p9 k hk]⟩
theorem below3 {k : Int32} : (∃ i, i < 3 ∧ k = nI i ∧ ¬ k < 0 ∧ k < 3 ∧ ¬ (3 : Int32) ≤ k ∧ ¬ fX10_in k 0 2 = 0) ∨ ((k < 0 ∨ (¬ k < 0 ∧ ¬ k < 3 ∧ (3 : Int32) ≤ k)) ∧ fX10_in k 0 2 = 0) := by
  have t3 : (3 : Int32).toInt = 3 := rfl
  by_cases h : 0 ≤ k.toInt ∧ k.toInt < 3
  · obtain ⟨i, hi, rfl⟩ := vp_in_of (x := k) (n := 3) (vp_in_iff.mpr ⟨h.1, h.2⟩) (by decide)
    refine Or.inl ⟨i, hi, rfl, ?_, ?_, ?_, m_in0 ?_⟩
    · rw [fa_lt, t0]; omega
    · rw [fa_lt, t3]; omega
    · rw [fa_le, t3]; omega
    · rw [t0, t2]; omega
  · refine Or.inr ⟨?_, m_in1 (by rw [t0, t2]; omega)⟩
    by_cases h1 : k < 0
    · exact Or.inl h1
    · refine Or.inr ⟨h1, ?_, ?_⟩ <;> rw [fa_lt, t0] at h1
      · rw [fa_lt, t3]; omega
      · rw [fa_le, t3]; omega
theorem SE.of' {s : Nat} {M M' : SV} (h : ∀ k, k < 10 → M'.2.1 k = M.2.1 k) : SE s M s M' := by
  refine ⟨fun _ _ => ?_, ⟨?_, ?_, ?_⟩, fun _ _ => ?_, fun _ _ => ?_, fun _ _ => ?_, fun _ _ => ?_, fun _ _ => ?_⟩ <;> rw [h _ (by omega)]
theorem qu_image (Wc : WC) : Qu_image Wc := by
  intro z M ρM hI a1
  have hsk := hI.2.2.2.1
  have hz := hI.1
  have same : (RD 9 89 ρM M z ∧ 113 ≤ z.length) ∧ InvM Wc (wr 9 89 ρM (wI M 0 0) z) (wI M 0 0) ρM := ⟨⟨hI.2.1, hz⟩, hI.model (fun _ _ => rfl)⟩
  obtain ⟨S, ρ, hR, hT⟩ := hI.2.2.1 0 (by omega)
  have hR : RD 6 16 ρ S z := hR
  unfold fX9_image gX10_image
  rw [if_pos (x9_o hsk), x9_g (k := 0) (x := 16) hsk rfl, x9_g (k := 1) (x := 21) hsk rfl]
  simp only [Option.bind_some, nm]
  rcases below3 (k := a1) with ⟨i, hi, rfl, h1, h2, h3, h4⟩ | ⟨h, h4⟩
  · rw [if_neg h1, if_pos h2, if_neg h4, show nI i + 1 = nI (i + 1) from (nI_succ i).symm, show (0 : Int32) = nI 0 from rfl, show (1 : Int32) = nI 1 from rfl]
    have hfit : ∀ k, k < 600 → fits .byte (.int ((wI M 0 0).2.1 1 (600 * 0 + k))) = true := fun k hk => by
      have := hT.1 k hk
      show fits .byte (.int (M.2.1 1 (600 * 0 + k))) = true
      rw [← this.1]; exact this.2
    have hc := m_copyAll (S := wI M 0 0) (f := 0) (t := i + 1) (by omega) (by omega) (by omega) hfit
    obtain ⟨k1, k2, k3⟩ := m_copied (S := wI M 0 0) (f := 0) (t := i + 1) (by omega) (by omega) (by omega) rfl
    generalize hM2 : cR (cR (cR (cR (cR (cR (cR (cR (cR (wI M 0 0) 1 600 0 (i + 1)) 2 1 0 (i + 1)) 3 1 0 (i + 1)) 4 1 0 (i + 1)) 5 4 0 (i + 1)) 6 220 0 (i + 1)) 7 242 0 (i + 1)) 8 34 0 (i + 1)) 9 98 0 (i + 1) = M2 at hc k1 k2 k3
    have hc' : gX10_copyAll (nI 0) (nI (i + 1)) (wI M 0 (nI 0)) = some M2 := hc
    rw [hc']
    obtain ⟨f, f1, f2, f3, f4⟩ := hsk.2.1
    have hx : ixN 6 z 21 (nI i) = some (22 + 5 * i) := by
      unfold ixN
      rw [f1]
      have : i = 0 ∨ i = 1 ∨ i = 2 := by omega
      rcases this with rfl | rfl | rfl
      · exact f2
      · exact f3
      · exact f4
    rw [hx]
    simp only [Option.bind_some]
    have hta : tAd (i + 1) = 22 + 5 * i := by unfold tAd; rw [if_neg (by omega)]; omega
    obtain ⟨Sb, ρb, hRb, hTb⟩ := hI.2.2.1 (i + 1) (by omega)
    rw [hta] at hRb
    obtain ⟨S', ρ', c1, c2⟩ := told_copy hR hRb (by omega) (by omega) hz (fun k hk => (hT.1 k hk).2) hT.2.2.2.2.2.1 hT.2.2.2.2.2.2
    rw [c1]
    obtain ⟨g, g1, g2⟩ := hI.2.2.2.2.1
    have hx2 : gN 8 2 (wr 6 (22 + 5 * i) ρ' S' z) 0 = some 37 := by
      unfold gN oF
      rw [wr_out (by omega), hsk.1]; rfl
    have g1' : (wr 6 (22 + 5 * i) ρ' S' z)[37]? = some (.inl (2, 3, g)) := by rw [wr_out (by rw [s6]; omega)]; exact g1
    simp only [Option.bind_some, hx2]
    have hst : stI 2 (wr 6 (22 + 5 * i) ρ' S' z) 37 (nI i) (vp_nar .boolean (nI 1)) = some ((wr 6 (22 + 5 * i) ρ' S' z).set 37 (.inl (2, 3, upd g i (vp_nar .boolean (nI 1))))) := by
      unfold stI
      rw [g1', nI_clamp (by omega)]
      simp only [true_and]
      rw [if_pos (by rintro (h | h); exact nI_pos (by omega) h; omega)]
    rw [hst, wA_nI hi (by decide)]
    simp only [Option.bind_some]
    have hn1 : vp_nar .boolean (nI 1) = 1 := by rfl
    rw [hn1]
    have hs : ∀ j, j ≠ 37 → (j < 22 + 5 * i ∨ 27 + 5 * i ≤ j) → ((wr 6 (22 + 5 * i) ρ' S' z).set 37 (.inl (2, 3, upd g i 1)))[j]? = z[j]? := by
      intro j h1 h2
      rw [List.getElem?_set_ne (Ne.symm h1), wr_out (by rw [s6]; omega)]
    have := hI.move (M' := wR M2 55 (upd (M2.2.1 55) i 1)) (z1 := (wr 6 (22 + 5 * i) ρ' S' z).set 37 (.inl (2, 3, upd g i 1))) (by rw [List.length_set, wr_len]; exact Nat.le_refl _) (fun j _ h2 => hs j (by omega) (by omega)) (hs 21 (by omega) (by omega)) (fun s hs2 => ?_) ?_ ?_
    · exact ⟨_, _, _, rfl, this.1, rfl, this.2⟩
    · have hse : ∀ {s : Nat}, SE s M2 s (wR M2 55 (upd (M2.2.1 55) i 1)) := SE.of' (fun k hk => wR_ne (by omega))
      by_cases e : s = i + 1
      · subst e
        rw [hta]
        refine ⟨S', ρ', ?_, TR.mv hT (SE.tr k1 hse) c2 (fun j j1 _ => hs j (by omega) (by omega)) (fun _ => Or.inl rfl)⟩
        refine RD.same (rd_wr (z := z) (by rw [s6]; omega)) (fun j j1 j2 => ?_)
        rw [s6] at j2
        rw [List.getElem?_set_ne (by omega)]
      · obtain ⟨S2, ρ2, r1, r2⟩ := hI.2.2.1 s hs2
        refine ⟨S2, ρ2, r1.same (fun j j1 j2 => ?_), r2.mv (SE.tr (k2 s hs2 e) hse) (VE.rf _ _) (fun j j1 _ => hs j (by omega) (by omega)) (fun ht => by
          by_cases e0 : s = 0
          · exact Or.inl e0
          · refine Or.inr ?_
            rcases ht with ht | ht
            · exact absurd ht e0
            · rwa [wR_s, pk_un (show s - 1 ≠ i by omega), k3] at ht)⟩
        rw [s6] at j2
        have := tAd_sz hs2
        refine hs j (by omega) ?_
        unfold tAd at *
        split at j1 <;> split at j2 <;> omega
    · refine ⟨upd g i 1, ?_, fun k hk => ?_⟩
      · rw [List.getElem?_set_self (by rw [wr_len]; omega)]
      · rw [wR_s]
        by_cases e : k = i
        · subst e; rw [pk_us, pk_us]; exact ⟨rfl, Or.inr rfl⟩
        · rw [pk_un e, pk_un e, k3]; exact g2 k hk
    · obtain ⟨ρ3, S3, r⟩ := hsk.2.2.1
      refine ⟨ρ3, S3, r.same (fun j j1 j2 => hs j (by omega) (by omega))⟩
  · rw [if_pos h4]
    rcases h with h | ⟨h1, h2, h3⟩
    · rw [if_pos h]; exact ⟨_, _, _, rfl, same.1, rfl, same.2⟩
    · rw [if_neg h1, if_neg h2]; exact ⟨_, _, _, rfl, same.1, rfl, same.2⟩
theorem qu_again (Wc : WC) : Qu_again Wc := by
  intro z M ρM hI a1
  have hsk := hI.2.2.2.1
  have hz := hI.1
  have same : (RD 9 89 ρM M z ∧ 113 ≤ z.length) ∧ InvM Wc (wr 9 89 ρM (wI M 0 0) z) (wI M 0 0) ρM := ⟨⟨hI.2.1, hz⟩, hI.model (fun _ _ => rfl)⟩
  obtain ⟨S, ρ, hR, hT⟩ := hI.2.2.1 0 (by omega)
  have hR : RD 6 16 ρ S z := hR
  unfold fX9_again gX10_again
  rw [if_pos (x9_o hsk), x9_g (k := 0) (x := 16) hsk rfl, x9_g (k := 1) (x := 21) hsk rfl, x9_g (k := 2) (x := 37) hsk rfl]
  simp only [Option.bind_some, nm]
  rcases below3 (k := a1) with ⟨i, hi, rfl, h1, h2, h3, h4⟩ | ⟨h, h4⟩
  · obtain ⟨g, g1, g2⟩ := hI.2.2.2.2.1
    obtain ⟨g3, g4⟩ := g2 i hi
    have hk : ixI 2 z 37 (nI i) = some (g i) := by
      unfold ixI
      rw [g1, nI_clamp (by omega)]
      simp only [true_and]
      rw [if_pos (by rintro (h | h); exact nI_pos (by omega) h; omega)]
    rw [if_neg h1, if_neg h3, if_neg h4, hk, rA_nI hi (by decide)]
    simp only [Option.bind_some]
    rw [show (wI M 0 0).2.1 55 i = g i from g3.symm]
    by_cases c : g i = 0
    · rw [if_pos c, if_pos c]; exact ⟨_, _, _, rfl, same.1, rfl, same.2⟩
    · rw [if_neg c, if_neg c, show nI i + 1 = nI (i + 1) from (nI_succ i).symm]
      have hta : tAd (i + 1) = 22 + 5 * i := by unfold tAd; rw [if_neg (by omega)]; omega
      obtain ⟨Sb, ρb, hRb, hTb⟩ := hI.2.2.1 (i + 1) (by omega)
      rw [hta] at hRb
      have hfit : ∀ k, k < 600 → fits .byte (.int ((wI M 0 0).2.1 1 (600 * (i + 1) + k))) = true := fun k hk => by
        have := hTb.1 k hk
        show fits .byte (.int (M.2.1 1 (600 * (i + 1) + k))) = true
        rw [← this.1]; exact this.2
      have hc := m_copyAll (S := wI M 0 0) (f := i + 1) (t := 0) (by omega) (by omega) (by omega) hfit
      obtain ⟨k1, k2, k3⟩ := m_copied (S := wI M 0 0) (f := i + 1) (t := 0) (by omega) (by omega) (by omega) rfl
      generalize hM2 : cR (cR (cR (cR (cR (cR (cR (cR (cR (wI M 0 0) 1 600 (i + 1) 0) 2 1 (i + 1) 0) 3 1 (i + 1) 0) 4 1 (i + 1) 0) 5 4 (i + 1) 0) 6 220 (i + 1) 0) 7 242 (i + 1) 0) 8 34 (i + 1) 0) 9 98 (i + 1) 0 = M2 at hc k1 k2 k3
      have hc' : gX10_copyAll (nI (i + 1)) 0 (wI M 0 0) = some M2 := hc
      rw [hc']
      obtain ⟨f, f1, f2, f3, f4⟩ := hsk.2.1
      have hx : ixN 6 z 21 (nI i) = some (22 + 5 * i) := by
        unfold ixN
        rw [f1]
        have : i = 0 ∨ i = 1 ∨ i = 2 := by omega
        rcases this with rfl | rfl | rfl
        · exact f2
        · exact f3
        · exact f4
      rw [hx]
      simp only [Option.bind_some]
      obtain ⟨S', ρ', c1, c2⟩ := told_copy hRb hR (by omega) (by omega) hz (fun k hk => (hTb.1 k hk).2) hTb.2.2.2.2.2.1 hTb.2.2.2.2.2.2
      rw [c1]
      simp only [Option.bind_some]
      have := hI.now (S' := S') (ρ' := ρ') (M' := M2) (TR.mv hTb k1 c2 (fun _ _ _ => rfl) (fun _ => Or.inr (by rw [Nat.add_sub_cancel]; exact fun h => c (by rw [g3]; exact h)))) (fun s s1 s2 => k2 s s2 (by omega)) k3
      exact ⟨_, _, _, rfl, this.1, rfl, this.2⟩
  · rw [if_pos h4]
    rcases h with h | ⟨h1, h2, h3⟩
    · rw [if_pos h]; exact ⟨_, _, _, rfl, same.1, rfl, same.2⟩
    · rw [if_neg h1, if_pos h3]; exact ⟨_, _, _, rfl, same.1, rfl, same.2⟩
