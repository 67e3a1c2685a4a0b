/-! ===== text: findAbove; a COUNTRY as told ===== -/
section AB
variable {C : SV} {B : Nat → Int32} {n : Nat}
theorem c_above_in (h0 : C.1 0 = nI n) (h4 : ∀ t, t < 8 → C.2.1 4 t = B (30 + t)) (hB : RE B n) (hd8 : ∀ t, t < n → dn B 8 (nI t) = -1) {t : Nat} (ht : t < n) (f0 : Nat → Int32) : ∃ f, (∀ k2 : Int32 → SV → Option SV, gfX0_findAbove_19 k2 FU (nI t) (B (30 + t)) 0 (wR C 5 f0) = k2 (nI (t + 1)) (wR C 5 f)) ∧ ∀ s, s < 8 → ∀ k, k < 32 → (bt (f s) k = true ↔ bt (f0 s) k = true ∨ (k = t ∧ isAb B s t)) := by
  have hn := hB.1
  have hh : ∀ f, (∀ s, s < n → gX0_hasThing (nI s) (wR C 5 f) = some 1) ∧ gX0_hasThing (-1) (wR C 5 f) = some 0 := fun f => ht_e (C := wR C 5 f) h0 hn
  have key := lpR (fun u (q : Int32 × Int32 × SV) => fun k2 : Int32 → SV → Option SV => gfX0_findAbove_19 k2 u (nI t) q.1 q.2.1 q.2.2) (fun m q => q.1 = dn B (m + 1) (nI t) ∧ q.2.1 = nI m ∧ ∃ f, q.2.2 = wR C 5 f ∧ ∀ s, s < 8 → ∀ k, k < 32 → (bt (f s) k = true ↔ bt (f0 s) k = true ∨ (k = t ∧ ∃ j, j < m ∧ dn B (j + 1) (nI t) = nI s))) (fun b => ∃ f, b = (fun k2 => k2 (nI (t + 1)) (wR C 5 f)) ∧ ∀ s, s < 8 → ∀ k, k < 32 → (bt (f s) k = true ↔ bt (f0 s) k = true ∨ (k = t ∧ isAb B s t))) 8 ?_ ?_ (B (30 + t), 0, wR C 5 f0) ⟨(dn_one B (by omega)).symm, rfl, f0, rfl, fun s hs k hk => by simp⟩ FU (by rw [FUn]; omega)
  · obtain ⟨f, e, hb⟩ := key
    exact ⟨f, fun k2 => congrFun e k2, hb⟩
  · rintro m hm ⟨x, l, C1⟩ ⟨e1, e1', f, e2, e3⟩
    replace e1 : x = dn B (m + 1) (nI t) := e1
    replace e1' : l = nI m := e1'
    replace e2 : C1 = wR C 5 f := e2
    replace e3 : ∀ s, s < 8 → ∀ k, k < 32 → (bt (f s) k = true ↔ bt (f0 s) k = true ∨ (k = t ∧ ∃ j, j < m ∧ dn B (j + 1) (nI t) = nI s)) := e3
    subst e1' e2
    rcases hB.dw ht (m + 1) with e | ⟨s, hs, e⟩
    · right
      refine ⟨(fun k2 => k2 (nI (t + 1)) (wR C 5 f)), fun u => ?_, f, rfl, fun s hs k hk => ?_⟩
      · funext k2
        show gbX0_findAbove_19 _ _ _ _ _ _ = _
        unfold gbX0_findAbove_19
        rw [if_neg (show ¬ (8 : Int32) ≤ nI m from nI_ge (b := 8) hm (by omega)), e1, e, (hh f).2]
        simp only [Option.bind_some]
        rw [if_pos (show True from trivial), nmE, ← nI_succ]
      · rw [e3 s hs k hk]
        unfold isAb
        constructor
        · rintro (q | ⟨q1, j, q2, q3⟩)
          · exact Or.inl q
          · exact Or.inr ⟨q1, j, by omega, q3⟩
        · rintro (q | ⟨q1, j, q2, q3⟩)
          · exact Or.inl q
          · refine Or.inr ⟨q1, j, ?_, q3⟩
            refine Classical.byContradiction (fun q4 => ?_)
            rw [show j + 1 = (m + 1) + (j - m) by omega, dn_add, e, dn_m1] at q3
            exact nI_m1 (by omega) q3.symm
    · left
      refine ⟨(B (30 + s), nI (m + 1), wR C 5 (upd f s (f s ||| shl 1 (nI t)))), fun u => ?_, ?_, rfl, upd f s (f s ||| shl 1 (nI t)), rfl, fun s' hs' k hk => ?_⟩
      · funext k2
        show gbX0_findAbove_19 _ _ _ _ _ _ = _
        unfold gbX0_findAbove_19
        rw [if_neg (show ¬ (8 : Int32) ≤ nI m from nI_ge (b := 8) hm (by omega)), e1, e, (hh f).1 s hs]
        simp only [Option.bind_some]
        rw [if_neg (show ¬ (1 : Int32) = 0 by decide), wR_eq, rA_nI (by omega) (by omega)]
        simp only [Option.bind_some]
        rw [wA_nI (by omega) (by omega), wR_eq, wR_wR]
        simp only [Option.bind_some]
        rw [wR_ne (by decide), rA_nI (by omega) (by omega), h4 s (by omega)]
        simp only [Option.bind_some]
        rw [nmE, ← nI_succ]
      · show B (30 + s) = dn B (m + 1 + 1) (nI t)
        rw [dn_add B (m + 1) 1, e, dn_one B (by omega)]
      · by_cases q : s' = s
        · subst q
          rw [pk_us, b_or, b_1shl (by omega) hk]
          simp only [Bool.or_eq_true, decide_eq_true_eq, e3 s' hs' k hk]
          constructor
          · rintro ((q | ⟨q1, j, q2, q3⟩) | q)
            · exact Or.inl q
            · exact Or.inr ⟨q1, j, by omega, q3⟩
            · exact Or.inr ⟨q, m, by omega, e⟩
          · rintro (q | ⟨q1, j, q2, q3⟩)
            · exact Or.inl (Or.inl q)
            · exact Or.inr q1
        · rw [pk_un q, e3 s' hs' k hk]
          constructor
          · rintro (q | ⟨q1, j, q2, q3⟩)
            · exact Or.inl q
            · exact Or.inr ⟨q1, j, by omega, q3⟩
          · rintro (q' | ⟨q1, j, q2, q3⟩)
            · exact Or.inl q'
            · refine Or.inr ⟨q1, j, ?_, q3⟩
              refine Classical.byContradiction (fun q4 => ?_)
              have q5 : j = m := by omega
              subst q5
              rw [e] at q3
              exact q ((nI_eq (by omega) (by omega)).mp q3).symm
  · rintro ⟨x, l, C1⟩ ⟨e1, e1', f, e2, e3⟩
    replace e1' : l = nI 8 := e1'
    replace e2 : C1 = wR C 5 f := e2
    subst e1' e2
    refine ⟨(fun k2 => k2 (nI (t + 1)) (wR C 5 f)), fun u => ?_, f, rfl, e3⟩
    funext k2
    show gbX0_findAbove_19 _ _ _ _ _ _ = _
    unfold gbX0_findAbove_19
    rw [if_pos (show (8 : Int32) ≤ nI 8 by decide), nmE, ← nI_succ]
theorem c_above (h0 : C.1 0 = nI n) (h4 : ∀ t, t < 8 → C.2.1 4 t = B (30 + t)) (hB : RE B n) (hd8 : ∀ t, t < n → dn B 8 (nI t) = -1) (h5 : ∀ t, t < 8 → C.2.1 5 t = 0) : ∃ f, gX0_findAbove C = some (wR C 5 f) ∧ ∀ s, s < 8 → ∀ k, k < 32 → (bt (f s) k = true ↔ k < n ∧ isAb B s k) := by
  have hn := hB.1
  have key := lpR (fun u (q : Int32 × SV) => gfX0_findAbove_2 u q.1 q.2) (fun t q => q.1 = nI t ∧ ∃ f, q.2 = wR C 5 f ∧ ∀ s, s < 8 → ∀ k, k < 32 → (bt (f s) k = true ↔ k < t ∧ isAb B s k)) (fun b => ∃ f, b = some (wR C 5 f) ∧ ∀ s, s < 8 → ∀ k, k < 32 → (bt (f s) k = true ↔ k < n ∧ isAb B s k)) n ?_ ?_ (0, C) ⟨rfl, C.2.1 5, wR_id.symm, fun s hs k hk => by rw [h5 s hs, b_0]; simp⟩ FU (by rw [FUn]; omega)
  · exact key
  · rintro t ht ⟨l, C1⟩ ⟨e1, f, e2, e3⟩
    replace e1 : l = nI t := e1
    replace e2 : C1 = wR C 5 f := e2
    replace e3 : ∀ s, s < 8 → ∀ k, k < 32 → (bt (f s) k = true ↔ k < t ∧ isAb B s k) := e3
    subst e1 e2
    left
    obtain ⟨f', q1, q2⟩ := c_above_in h0 h4 hB hd8 ht f
    refine ⟨(nI (t + 1), wR C 5 f'), fun u => ?_, rfl, f', rfl, fun s hs k hk => ?_⟩
    · show gbX0_findAbove_2 _ _ _ = _
      unfold gbX0_findAbove_2
      rw [show (wR C 5 f).1 0 = nI n from h0, if_neg (nI_ge ht (by omega)), wR_ne (by decide), rA_nI (by omega) (by omega), h4 t (by omega), Option.bind_some]
      exact q1 _
    · rw [q2 s hs k hk, e3 s hs k hk]
      constructor
      · rintro (⟨q, q'⟩ | ⟨q, q'⟩)
        · exact ⟨by omega, q'⟩
        · exact ⟨by omega, by rw [q]; exact q'⟩
      · rintro ⟨q, q'⟩
        by_cases e : k = t
        · exact Or.inr ⟨e, by rw [← e]; exact q'⟩
        · exact Or.inl ⟨by omega, q'⟩
  · rintro ⟨l, C1⟩ ⟨e1, f, e2, e3⟩
    replace e1 : l = nI n := e1
    replace e2 : C1 = wR C 5 f := e2
    subst e1 e2
    refine ⟨some (wR C 5 f), fun u => ?_, f, rfl, e3⟩
    show gbX0_findAbove_2 _ _ _ = _
    unfold gbX0_findAbove_2
    rw [show (wR C 5 f).1 0 = nI n from h0, if_pos (nI_le (Nat.le_refl _) (by omega))]
end AB
/-- a told block, as the reference stores it -/
def cutB (told : Nat → Int32) : Nat → Int32 := fun j => if j < 110 then told j else 0
theorem cut_e {told : Nat → Int32} {j : Nat} (h : j < 110) : cutB told j = told j := if_pos h
theorem dn_cut {told : Nat → Int32} {n : Nat} (h : RE told n) : ∀ k s, s < n → dn (cutB told) k (nI s) = dn told k (nI s)
  | 0, _, _ => rfl
  | k + 1, s, hs => by
    have hn := h.1
    show (if nI s = -1 then -1 else dn (cutB told) k (cutB told (30 + (nI s).toNatClampNeg))) = (if nI s = -1 then -1 else dn told k (told (30 + (nI s).toNatClampNeg)))
    rw [if_neg (nI_m1 (by omega)), if_neg (nI_m1 (by omega)), nI_clamp (by omega), cut_e (by omega)]
    rcases h.2 s (by omega) with e | ⟨s', hs', e⟩
    · rw [e, dn_m1, dn_m1]
    · rw [e]; exact dn_cut h k s' hs'
theorem told_ok {C : SV} {s : ST} (h : CI C s) (hsf : SFp 0 s.2.1) (hfa : ¬ faP (s.2.1 0) (s.2.1 2) (s.2.1 3) s.2.2) {n : Nat} (en : s.2.1 0 = nI n) (hn : n ≤ 8) : RE s.2.1 n ∧ VB (cutB s.2.1) ∧ CR C (cutB s.2.1) := by
  obtain ⟨hR, hA, hF, hN⟩ := h
  have sf : ∀ k c p, k < 9 → ctK k = true → cnK k = p → moK k = c → ∃ x, x ≤ c ∧ s.2.1 p = nI x := fun k c p hk hc e1 e2 => by
    obtain ⟨x, x1, x2⟩ := hsf k (Nat.zero_le _) hk hc
    exact ⟨x, by omega, by rw [← e1]; exact x2⟩
  obtain ⟨x1, l1, q1⟩ := sf 2 12 1 (by omega) rfl rfl rfl
  obtain ⟨x2, l2, q2⟩ := sf 4 4 2 (by omega) rfl rfl rfl
  obtain ⟨x3, l3, q3⟩ := sf 5 4 3 (by omega) rfl rfl rfl
  obtain ⟨x4, l4, q4⟩ := sf 3 4 4 (by omega) rfl rfl rfl
  unfold faP at hfa
  rw [fa_le, fa_le, fa_le, en, q2, q3, nI_toInt (by omega), nI_toInt (by omega), nI_toInt (by omega)] at hfa
  have f1 : s.2.2.1.toInt ≤ (n : Int) - 1 := by omega
  have f2 : s.2.2.2.1.toInt ≤ (x2 : Int) - 1 := by omega
  have f3 : s.2.2.2.2.toInt ≤ (x3 : Int) - 1 := by omega
  have hre : RE s.2.1 n := by
    refine ⟨hn, fun t ht => ?_⟩
    obtain ⟨g1, g2⟩ := hF.1 t ht
    by_cases e : s.2.1 (30 + t) = -1
    · exact Or.inl e
    · rw [fa_eq, m1t] at e
      obtain ⟨s', hs', es⟩ := vp_in_of (x := s.2.1 (30 + t)) (n := n) (vp_in_iff.mpr ⟨by omega, by omega⟩) (by omega)
      exact Or.inr ⟨s', hs', es⟩
  refine ⟨hre, ⟨⟨?_, ?_, ?_, ?_, ?_, ?_⟩, fun t ht => ⟨?_, ?_, ?_, ?_⟩, fun t ht => ⟨?_, ?_⟩, fun t ht => ?_, fun t ht => ?_, fun t ht => ⟨?_, ?_⟩⟩, ⟨⟨?_, ?_, ?_, ?_, ?_, ?_⟩, fun t ht => ⟨?_, ?_, ?_, ?_⟩, fun t ht => ⟨?_, ?_, ?_, ?_⟩, fun t ht => ⟨?_, ?_⟩, fun t ht => ⟨?_, ?_⟩⟩⟩
  · rw [cut_e (by omega), en]; exact nI_rng (m := 8) hn (by omega)
  · rw [cut_e (by omega), q1]; exact nI_rng (m := 12) l1 (by omega)
  · rw [cut_e (by omega), q2]; exact nI_rng (m := 4) l2 (by omega)
  · rw [cut_e (by omega), q3]; exact nI_rng (m := 4) l3 (by omega)
  · rw [cut_e (by omega), q4]; exact nI_rng (m := 4) l4 (by omega)
  · rw [cut_e (by omega)]; exact hA (5, 1, 9) (by decide) 0 (by decide)
  · rw [cut_e (by omega)]; exact hA (6, 8, 99) (by decide) t ht
  · rw [cut_e (by omega)]; exact hA (14, 8, 9) (by decide) t ht
  · rw [cut_e (by omega)]; exact hA (22, 8, 9) (by decide) t ht
  · rw [cut_e (by omega), cut_e (by omega), en, nI_toInt (by omega)]; exact (hF.1 t ht).up f1
  · rw [cut_e (by omega)]; exact hA (38, 4, 9) (by decide) t ht
  · rw [cut_e (by omega)]; exact hA (42, 4, 9) (by decide) t ht
  · rw [cut_e (by omega), q4, nI_toInt (by omega)] at ht
    rw [cut_e (by omega), cut_e (by omega), cut_e (by omega), cut_e (by omega), q2, q3, nI_toInt (by omega), nI_toInt (by omega)]
    obtain ⟨g1, g2⟩ := hF.2.2 t (by rw [q4, nI_toInt (by omega)]; omega)
    exact ⟨g1.up f2, g2.up f3⟩
  · rw [cut_e (by omega), q1, nI_toInt (by omega)] at ht
    rw [cut_e (by omega), cut_e (by omega), cut_e (by omega), en, nI_toInt (by omega)]
    obtain ⟨g1, g2⟩ := hF.2.1 t (by rw [q1, nI_toInt (by omega)]; omega)
    exact ⟨g1.up f1, g2.up f1⟩
  · rw [cut_e (by omega)]; exact hA (78, 16, 9) (by decide) t ht
  · rw [cut_e (by omega)]; exact hA (94, 16, 9) (by decide) t ht
  · rw [cut_e (by omega)]; exact hR.1 (0, 0) (by decide)
  · rw [cut_e (by omega)]; exact hR.1 (7, 1) (by decide)
  · rw [cut_e (by omega)]; exact hR.1 (10, 2) (by decide)
  · rw [cut_e (by omega)]; exact hR.1 (11, 3) (by decide)
  · rw [cut_e (by omega)]; exact hR.1 (14, 4) (by decide)
  · rw [cut_e (by omega)]; exact hR.1 (19, 5) (by decide)
  · rw [cut_e (by omega)]; exact hR.2 (1, 6, 8) (by decide) t ht
  · rw [cut_e (by omega)]; exact hR.2 (2, 14, 8) (by decide) t ht
  · rw [cut_e (by omega)]; exact hR.2 (3, 22, 8) (by decide) t ht
  · rw [cut_e (by omega)]; exact hR.2 (4, 30, 8) (by decide) t ht
  · rw [cut_e (by omega)]; exact hR.2 (12, 38, 4) (by decide) t ht
  · rw [cut_e (by omega)]; exact hR.2 (13, 42, 4) (by decide) t ht
  · rw [cut_e (by omega)]; exact hR.2 (15, 46, 4) (by decide) t ht
  · rw [cut_e (by omega)]; exact hR.2 (16, 50, 4) (by decide) t ht
  · rw [cut_e (by omega)]; exact hR.2 (8, 54, 12) (by decide) t ht
  · rw [cut_e (by omega)]; exact hR.2 (9, 66, 12) (by decide) t ht
  · rw [cut_e (by omega)]; exact hR.2 (17, 78, 16) (by decide) t ht
  · rw [cut_e (by omega)]; exact hR.2 (18, 94, 16) (by decide) t ht
theorem CR.w5 {C : SV} {B : Nat → Int32} (h : CR C B) (f : Nat → Int32) : CR (wR C 5 f) B := by
  obtain ⟨h1, h2, h3, h4, h5⟩ := h
  exact ⟨h1, fun t ht => h2 t ht, fun t ht => h3 t ht, fun t ht => h4 t ht, fun t ht => h5 t ht⟩
