/-! ===== text: RESTS, PATHS, COUPLES; all lines of a COUNTRY ===== -/
theorem CRg.w56 {C : SV} {told : Nat → Int32} (h : CRg C told) {k : Nat} (hk : k = 5 ∨ k = 6) (f : Nat → Int32) : CRg (wR C k f) told := by
  refine ⟨h.1, fun e he t ht => ?_⟩
  have : ∀ e, e ∈ roT → e.1 ≠ 5 ∧ e.1 ≠ 6 := by decide +kernel
  have := this e he
  rw [wR_ne (by omega)]; exact h.2 e he t ht
section TL2
variable {ρ : RV} {y1 : AH} {N : Nat}
theorem tl_1 (hz : N + szV 0 ≤ y1.length) {C : SV} {s : ST} (h : CI C s) (hcc : (s.2.1 1).toInt ≤ 12 ∧ (s.2.1 4).toInt ≤ 4) {pl : Nat} {nums : Nat → Int32} {npl : Nat → Nat} (hl : LK s (1, pl, nums, npl)) (x2 : Int32) : ∃ C', fX4_tellLine N (nI 1) (nums 0) (nums 1) x2 (wr 0 N ρ C y1) = some (wr 0 N ρ C' y1) ∧ CI C' (stL s (1, pl, nums, npl)) := by
  obtain ⟨hR, hA, hF, hN⟩ := id h
  obtain ⟨hg, -⟩ := hl
  have hgo : ∀ i, i < 2 → okN 1 i (nums 0) (nums i) = true := gd_ok (ln := (1, pl, nums, npl)) 2 hg
  obtain ⟨a, a1, a2, a3⟩ := nx_of (b := 7) (ok_r (hgo 0 (by omega)) (a := 0) (b := 7) (by decide +kernel) (by decide +kernel)) (by omega)
  have r1 := ok_r (hgo 1 (by omega)) (a := 0) (b := 7) (by decide +kernel) (by decide +kernel)
  have et : tbL s.2.1 (1, pl, nums, npl) = upd s.2.1 (30 + a) (nums 1) := by rw [tb_1, show gdN (1, pl, nums, npl) 2 = true from hg, if_pos rfl, a3]
  have ef : (stL s (1, pl, nums, npl)).2.2 = (fX10_greater (fX10_greater s.2.2.1 (nums 0)) (nums 1), s.2.2.2) := rfl
  have hR' := hR.row (k := 4) (p := 30) (n := 8) (by decide) (t := a) (by omega) (nums 1)
  have m1 : s.2.2.1.toInt ≤ (fX10_greater (fX10_greater s.2.2.1 (nums 0)) (nums 1)).toInt := Int.le_trans (gre_ge _ _).1 (gre_ge _ _).1
  have m2 : (nums 1).toInt ≤ (fX10_greater (fX10_greater s.2.2.1 (nums 0)) (nums 1)).toInt := (gre_ge _ _).2.1
  obtain ⟨c1, c4⟩ := hcc
  have ho : ∀ j, j ≠ 30 + a → tbL s.2.1 (1, pl, nums, npl) j = s.2.1 j := fun j hj => by rw [et, pk_un hj]
  refine ⟨wR C 4 (upd (C.2.1 4) a (nums 1)), ?_, by rw [stL_t, et]; exact hR', by rw [stL_t, et]; exact hA.no (by omega) _, ⟨fun t ht => ?_, fun t ht => ?_, fun t ht => ?_⟩, fun t ht k hk => ?_, fun t ht => by rw [wR_ne (by decide)]; exact hN.2 t ht⟩
  · unfold fX4_tellLine
    rw [if_neg (show ¬ nI 1 = 0 by decide), if_pos (show nI 1 = 1 from rfl), eX0_restOn hz]
    unfold gX0_restOn
    rw [a2, if_neg (nI_pos (by omega)), if_neg (show ¬ (8 : Int32) ≤ nI a from nI_ge (b := 8) (by omega) (by omega)), wA_nI (by omega) (by omega)]
    rfl
  · rw [stL_t, ef]
    by_cases e : t = a
    · subst e; rw [et, pk_us]; exact ⟨Int.le_trans (by omega) r1.1, m2⟩
    · rw [ho _ (by omega)]; exact (hF.1 t ht).up m1
  · rw [stL_t, ho 1 (by omega)] at ht
    rw [stL_t, ef, ho _ (by omega), ho _ (by omega)]
    exact ⟨(hF.2.1 t ht).1.up m1, (hF.2.1 t ht).2.up m1⟩
  · rw [stL_t, ho 4 (by omega)] at ht
    rw [stL_t, ef, ho _ (by omega), ho _ (by omega)]
    exact hF.2.2 t ht
  · rw [wR_ne (by decide), hN.1 t ht k hk]
    exact and_congr_right (fun _ => (isNr_same (told' := (stL s (1, pl, nums, npl)).2.1) (by rw [stL_t]; exact ho 1 (by omega)) (fun p hp => by rw [stL_t]; exact ⟨ho _ (by omega), ho _ (by omega)⟩) t k).symm)
theorem tl_3 (hz : N + szV 0 ≤ y1.length) {C : SV} {s : ST} (h : CI C s) (hcc : (s.2.1 1).toInt ≤ 12 ∧ (s.2.1 4).toInt ≤ 4) {pl : Nat} {nums : Nat → Int32} {npl : Nat → Nat} (hl : LK s (3, pl, nums, npl)) (x2 : Int32) : ∃ C', fX4_tellLine N (nI 3) (nums 0) (nums 1) x2 (wr 0 N ρ C y1) = some (wr 0 N ρ C' y1) ∧ CI C' (stL s (3, pl, nums, npl)) := by
  obtain ⟨hR, hA, hF, hN⟩ := id h
  obtain ⟨hg, hc⟩ := hl
  obtain ⟨c, c1, c2⟩ := hc rfl
  replace c1 : c < 4 := c1
  replace c2 : s.2.1 4 = nI c := c2
  have hgo : ∀ i, i < 2 → okN 3 i (nums 0) (nums i) = true := gd_ok (ln := (3, pl, nums, npl)) 2 hg
  have r0 := ok_r (hgo 0 (by omega)) (a := 0) (b := 3) (by decide +kernel) (by decide +kernel)
  have r1 := ok_r (hgo 1 (by omega)) (a := 0) (b := 3) (by decide +kernel) (by decide +kernel)
  have e0 : C.1 14 = nI c := (hR.1 (14, 4) (by decide)).trans c2
  have et : tbL s.2.1 (3, pl, nums, npl) = upd (upd (upd s.2.1 (46 + c) (nums 0)) (50 + c) (nums 1)) 4 (nI (c + 1)) := by
    show kpT s.2.1 4 46 2 4 nums = _
    rw [kp_e c2 c1 (by omega)]
    show upd (upd (upd s.2.1 (46 + 4 * 0 + c) (nums 0)) (46 + 4 * 1 + c) (nums 1)) 4 (nI (c + 1)) = _
    rw [show 46 + 4 * 0 + c = 46 + c by omega, show 46 + 4 * 1 + c = 50 + c by omega]
  have ef : (stL s (3, pl, nums, npl)).2.2 = (s.2.2.1, fX10_greater s.2.2.2.1 (nums 0), fX10_greater s.2.2.2.2 (nums 1)) := rfl
  have hR' := ((hR.row (k := 15) (p := 46) (n := 4) (by decide) c1 (nums 0)).row (k := 16) (p := 50) (n := 4) (by decide) c1 (nums 1)).int (k := 14) (p := 4) (by decide) (nI (c + 1))
  rw [wR_ne (show (16 : Nat) ≠ 15 by decide)] at hR'
  obtain ⟨cc1, cc4⟩ := hcc
  have ho : ∀ j, j ≠ 46 + c → j ≠ 50 + c → j ≠ 4 → tbL s.2.1 (3, pl, nums, npl) j = s.2.1 j := fun j h1 h2 h3 => by rw [et, pk_un h3, pk_un h2, pk_un h1]
  refine ⟨_, ?_, by rw [stL_t, et]; exact hR', by rw [stL_t, et]; exact ((hA.no (by omega) _).no (by omega) _).no (by omega) _, ⟨fun t ht => ?_, fun t ht => ?_, fun t ht => ?_⟩, fun t ht k hk => ?_, fun t ht => ?_⟩
  · unfold fX4_tellLine
    rw [if_neg (show ¬ nI 3 = 0 by decide), if_neg (show ¬ nI 3 = 1 by decide), if_neg (show ¬ nI 3 = 2 by decide), if_pos (show nI 3 = 3 from rfl), eX0_addCouple hz]
    unfold gX0_addCouple
    rw [e0, if_neg (show ¬ (4 : Int32) ≤ nI c from nI_ge (b := 4) c1 (by omega)), wA_nI c1 (by omega)]
    simp only [Option.bind_some]
    rw [show (wR C 15 (upd (C.2.1 15) c (nums 0))).1 14 = nI c from e0, wA_nI c1 (by omega), wR_ne (show (16 : Nat) ≠ 15 by decide)]
    simp only [Option.bind_some]
    rw [nmE, show (wR (wR C 15 (upd (C.2.1 15) c (nums 0))) 16 (upd (C.2.1 16) c (nums 1))).1 14 = nI c from e0, ← nI_succ]
    rfl
  · rw [stL_t, ef, ho _ (by omega) (by omega) (by omega)]; exact hF.1 t ht
  · rw [stL_t, ho 1 (by omega) (by omega) (by omega)] at ht
    rw [stL_t, ef, ho _ (by omega) (by omega) (by omega), ho _ (by omega) (by omega) (by omega)]
    exact hF.2.1 t ht
  · have e4 : (stL s (3, pl, nums, npl)).2.1 4 = nI (c + 1) := by rw [stL_t, et, pk_us]
    rw [e4, nI_toInt (by omega)] at ht
    rw [stL_t, ef]
    by_cases e : t = c
    · subst e
      rw [et, pk_un (show 46 + t ≠ 4 by omega), pk_un (show 46 + t ≠ 50 + t by omega), pk_us, pk_un (show 50 + t ≠ 4 by omega), pk_us]
      exact ⟨⟨r0.1, (gre_ge _ _).2.1⟩, ⟨r1.1, (gre_ge _ _).2.1⟩⟩
    · rw [ho _ (by omega) (by omega) (by omega), ho _ (by omega) (by omega) (by omega)]
      obtain ⟨q1, q2⟩ := hF.2.2 t (by rw [c2, nI_toInt (by omega)]; omega)
      exact ⟨q1.up (gre_ge _ _).1, q2.up (gre_ge _ _).1⟩
  · show bt ((wR (wR C 15 _) 16 _).2.1 6 t) k = true ↔ _
    rw [wR_ne (by decide), wR_ne (by decide), hN.1 t ht k hk]
    exact and_congr_right (fun _ => (isNr_same (told' := (stL s (3, pl, nums, npl)).2.1) (by rw [stL_t]; exact ho 1 (by omega) (by omega) (by omega)) (fun p hp => by rw [stL_t]; exact ⟨ho _ (by omega) (by omega) (by omega), ho _ (by omega) (by omega) (by omega)⟩) t k).symm)
  · show (wR (wR C 15 _) 16 _).2.1 5 t = 0
    rw [wR_ne (by decide), wR_ne (by decide)]; exact hN.2 t ht
theorem place_e {a : Nat} (h : a < 8) : fX0_isPlace (nI a) = 1 := by
  unfold fX0_isPlace
  rw [if_neg (nI_pos (by omega)), if_neg (show ¬ (8 : Int32) ≤ nI a from nI_ge (b := 8) h (by omega))]
theorem tl_2 (hz : N + szV 0 ≤ y1.length) {C : SV} {s : ST} (h : CI C s) (hcc : (s.2.1 1).toInt ≤ 12 ∧ (s.2.1 4).toInt ≤ 4) {pl : Nat} {nums : Nat → Int32} {npl : Nat → Nat} (hl : LK s (2, pl, nums, npl)) (x2 : Int32) : ∃ C', fX4_tellLine N (nI 2) (nums 0) (nums 1) x2 (wr 0 N ρ C y1) = some (wr 0 N ρ C' y1) ∧ CI C' (stL s (2, pl, nums, npl)) := by
  obtain ⟨hR, hA, hF, hN⟩ := id h
  obtain ⟨hg, hc⟩ := hl
  obtain ⟨c, c1, c2⟩ := hc rfl
  replace c1 : c < 12 := c1
  replace c2 : s.2.1 1 = nI c := c2
  have hgo : ∀ i, i < 2 → okN 2 i (nums 0) (nums i) = true := gd_ok (ln := (2, pl, nums, npl)) 2 hg
  have r0 := ok_r (hgo 0 (by omega)) (a := 0) (b := 7) (by decide +kernel) (by decide +kernel)
  have r1 := ok_r (hgo 1 (by omega)) (a := 0) (b := 7) (by decide +kernel) (by decide +kernel)
  have hne : ¬ nums 1 = nums 0 := fun e => by
    have := hgo 1 (by omega)
    unfold okN at this
    rw [decide_eq_true (show ((2 : Nat) = 1 ∨ (2 : Nat) = 2) ∧ 1 = 1 by decide), decide_eq_true e] at this
    simp at this
  obtain ⟨a, a1, a2, a3⟩ := nx_of (b := 7) r0 (by omega)
  obtain ⟨b, b1, b2_, b3⟩ := nx_of (b := 7) r1 (by omega)
  have hab : a ≠ b := fun e => hne (by rw [a2, b2_, e])
  have e0 : C.1 7 = nI c := (hR.1 (7, 1) (by decide)).trans c2
  have et : tbL s.2.1 (2, pl, nums, npl) = upd (upd (upd s.2.1 (54 + c) (nums 0)) (66 + c) (nums 1)) 1 (nI (c + 1)) := by
    show kpT s.2.1 1 54 2 12 nums = _
    rw [kp_e c2 c1 (by omega)]
    show upd (upd (upd s.2.1 (54 + 12 * 0 + c) (nums 0)) (54 + 12 * 1 + c) (nums 1)) 1 (nI (c + 1)) = _
    rw [show 54 + 12 * 0 + c = 54 + c by omega, show 54 + 12 * 1 + c = 66 + c by omega]
  have ef : (stL s (2, pl, nums, npl)).2.2 = (fX10_greater (fX10_greater s.2.2.1 (nums 0)) (nums 1), s.2.2.2) := rfl
  have m1 : s.2.2.1.toInt ≤ (fX10_greater (fX10_greater s.2.2.1 (nums 0)) (nums 1)).toInt := Int.le_trans (gre_ge _ _).1 (gre_ge _ _).1
  have m2 : (nums 1).toInt ≤ (fX10_greater (fX10_greater s.2.2.1 (nums 0)) (nums 1)).toInt := (gre_ge _ _).2.1
  have m3 : (nums 0).toInt ≤ (fX10_greater (fX10_greater s.2.2.1 (nums 0)) (nums 1)).toInt := Int.le_trans (gre_ge _ _).2.1 (gre_ge _ _).1
  have hR' := ((hR.row (k := 8) (p := 54) (n := 12) (by decide) c1 (nums 0)).row (k := 9) (p := 66) (n := 12) (by decide) c1 (nums 1)).int (k := 7) (p := 1) (by decide) (nI (c + 1))
  rw [wR_ne (show (9 : Nat) ≠ 8 by decide)] at hR'
  obtain ⟨cc1, cc4⟩ := hcc
  have ho : ∀ j, j ≠ 54 + c → j ≠ 66 + c → j ≠ 1 → tbL s.2.1 (2, pl, nums, npl) j = s.2.1 j := fun j h1 h2 h3 => by rw [et, pk_un h3, pk_un h2, pk_un h1]
  have v54 : tbL s.2.1 (2, pl, nums, npl) (54 + c) = nI a := by rw [et, pk_un (by omega), pk_un (by omega), pk_us, a2]
  have v66 : tbL s.2.1 (2, pl, nums, npl) (66 + c) = nI b := by rw [et, pk_un (by omega), pk_us, b2_]
  have e1 : (stL s (2, pl, nums, npl)).2.1 1 = nI (c + 1) := by rw [stL_t, et, pk_us]
  generalize hC3 : wI (wR (wR C 8 (upd (C.2.1 8) c (nums 0))) 9 (upd (C.2.1 9) c (nums 1))) 7 (nI (c + 1)) = C3 at hR'
  have r6 : C3.2.1 6 = C.2.1 6 := by rw [← hC3]; show (wR _ 9 _).2.1 6 = _; rw [wR_ne (by decide), wR_ne (by decide)]
  have r5 : C3.2.1 5 = C.2.1 5 := by rw [← hC3]; show (wR _ 9 _).2.1 5 = _; rw [wR_ne (by decide), wR_ne (by decide)]
  have hnr : ∀ t k, t < 8 → k < 8 → (isNr (stL s (2, pl, nums, npl)).2.1 t k ↔ isNr s.2.1 t k ∨ (t = a ∧ k = b) ∨ (t = b ∧ k = a)) := by
    intro t k ht hk
    unfold isNr
    rw [e1, c2, nI_toInt (by omega), nI_toInt (by omega)]
    rw [stL_t]
    constructor
    · rintro ⟨p, hp, q⟩
      by_cases e : p = c
      · subst e
        rw [v54, v66] at q
        rcases q with ⟨q1, q2⟩ | ⟨q1, q2⟩
        · exact Or.inr (Or.inl ⟨((nI_eq (by omega) (by omega)).mp q1).symm, ((nI_eq (by omega) (by omega)).mp q2).symm⟩)
        · exact Or.inr (Or.inr ⟨((nI_eq (by omega) (by omega)).mp q2).symm, ((nI_eq (by omega) (by omega)).mp q1).symm⟩)
      · rw [ho _ (by omega) (by omega) (by omega), ho _ (by omega) (by omega) (by omega)] at q
        exact Or.inl ⟨p, by omega, q⟩
    · rintro (⟨p, hp, q⟩ | ⟨q1, q2⟩ | ⟨q1, q2⟩)
      · refine ⟨p, by omega, ?_⟩
        rw [ho _ (by omega) (by omega) (by omega), ho _ (by omega) (by omega) (by omega)]; exact q
      · exact ⟨c, by omega, Or.inl ⟨by rw [v54, q1], by rw [v66, q2]⟩⟩
      · exact ⟨c, by omega, Or.inr ⟨by rw [v54, q2], by rw [v66, q1]⟩⟩
  refine ⟨wR C3 6 (upd (upd (C.2.1 6) a (C.2.1 6 a ||| shl 1 (nI b))) b (C.2.1 6 b ||| shl 1 (nI a))), ?_, ?_, by rw [stL_t, et]; exact ((hA.no (by omega) _).no (by omega) _).no (by omega) _, ⟨fun t ht => ?_, fun t ht => ?_, fun t ht => ?_⟩, fun t ht k hk => ?_, fun t ht => ?_⟩
  · unfold fX4_tellLine
    rw [if_neg (show ¬ nI 2 = 0 by decide), if_neg (show ¬ nI 2 = 1 by decide), if_pos (show nI 2 = 2 from rfl), eX0_addPath hz]
    unfold gX0_addPath
    rw [e0, if_neg (show ¬ (12 : Int32) ≤ nI c from nI_ge (b := 12) c1 (by omega)), a2, b2_, place_e (by omega), place_e (by omega), if_neg (show ¬ (1 : Int32) = 0 by decide), if_neg (show ¬ (1 : Int32) = 0 by decide), ← a2, ← b2_, wA_nI c1 (by omega), Option.bind_some, show (wR C 8 (upd (C.2.1 8) c (nums 0))).1 7 = nI c from e0, wA_nI c1 (by omega), wR_ne (show (9 : Nat) ≠ 8 by decide), Option.bind_some, nmE, show (wR (wR C 8 (upd (C.2.1 8) c (nums 0))) 9 (upd (C.2.1 9) c (nums 1))).1 7 = nI c from e0, ← nI_succ, hC3, a2, b2_, r6, rA_nI (by omega) (by omega), Option.bind_some, wA_nI (by omega) (by omega), Option.bind_some, r6, wR_eq, rA_nI (by omega) (by omega), pk_un (Ne.symm hab), Option.bind_some, wA_nI (by omega) (by omega), wR_eq, wR_wR]
    rfl
  · rw [stL_t, et]; exact hR'.w56 (Or.inr rfl) _
  · rw [stL_t, ef, ho _ (by omega) (by omega) (by omega)]; exact (hF.1 t ht).up m1
  · rw [e1, nI_toInt (by omega)] at ht
    rw [stL_t, ef]
    by_cases e : t = c
    · subst e
      rw [v54, v66, ← a2, ← b2_]
      exact ⟨⟨r0.1, m3⟩, ⟨r1.1, m2⟩⟩
    · rw [ho _ (by omega) (by omega) (by omega), ho _ (by omega) (by omega) (by omega)]
      obtain ⟨q1, q2⟩ := hF.2.1 t (by rw [c2, nI_toInt (by omega)]; omega)
      exact ⟨q1.up m1, q2.up m1⟩
  · rw [stL_t, ho 4 (by omega) (by omega) (by omega)] at ht
    rw [stL_t, ef, ho _ (by omega) (by omega) (by omega), ho _ (by omega) (by omega) (by omega)]
    exact hF.2.2 t ht
  · rw [wR_eq]
    by_cases k8 : k < 8
    · have old := hN.1 t ht k hk
      rw [hnr t k ht k8]
      by_cases eb : t = b
      · subst eb
        rw [pk_us, b_or, b_1shl (by omega) hk, Bool.or_eq_true, decide_eq_true_eq, old]
        constructor
        · rintro (⟨q1, q2⟩ | q)
          · exact ⟨q1, Or.inl q2⟩
          · exact ⟨k8, Or.inr (Or.inr ⟨rfl, q⟩)⟩
        · rintro ⟨q1, q2 | ⟨q2, q3⟩ | ⟨q2, q3⟩⟩
          · exact Or.inl ⟨q1, q2⟩
          · exact absurd q2.symm hab
          · exact Or.inr q3
      · rw [pk_un eb]
        by_cases ea : t = a
        · subst ea
          rw [pk_us, b_or, b_1shl (by omega) hk, Bool.or_eq_true, decide_eq_true_eq, old]
          constructor
          · rintro (⟨q1, q2⟩ | q)
            · exact ⟨q1, Or.inl q2⟩
            · exact ⟨k8, Or.inr (Or.inl ⟨rfl, q⟩)⟩
          · rintro ⟨q1, q2 | ⟨q2, q3⟩ | ⟨q2, q3⟩⟩
            · exact Or.inl ⟨q1, q2⟩
            · exact Or.inr q3
            · exact absurd q2 eb
        · rw [pk_un ea, old]
          constructor
          · rintro ⟨q1, q2⟩; exact ⟨q1, Or.inl q2⟩
          · rintro ⟨q1, q2 | ⟨q2, q3⟩ | ⟨q2, q3⟩⟩
            · exact ⟨q1, q2⟩
            · exact absurd q2 ea
            · exact absurd q2 eb
    · have old := hN.1 t ht k hk
      refine ⟨fun q => ?_, fun q => absurd q.1 k8⟩
      exfalso
      have hno : bt (C.2.1 6 t) k = false := by
        cases g : bt (C.2.1 6 t) k
        · rfl
        · exact absurd (old.mp g).1 k8
      by_cases eb : t = b
      · subst eb
        rw [pk_us, b_or, b_1shl (by omega) hk, hno, decide_eq_false (by omega)] at q; cases q
      · rw [pk_un eb] at q
        by_cases ea : t = a
        · subst ea
          rw [pk_us, b_or, b_1shl (by omega) hk, hno, decide_eq_false (by omega)] at q; cases q
        · rw [pk_un ea, hno] at q; cases q
  · rw [wR_ne (by decide), r5]; exact hN.2 t ht
/-- any line -/
theorem tell_both (hz : N + szV 0 ≤ y1.length) {C : SV} {s : ST} (h : CI C s) (hsf : SFp 0 s.2.1) {ln : LiN} (k2 : ln.1 < 9) (hl : LK s ln) {x0 x1 x2 : Int32} (h0 : 0 < arK ln.1 → x0 = ln.2.2.1 0) (h1 : 1 < arK ln.1 → x1 = ln.2.2.1 1) (h2 : 2 < arK ln.1 → x2 = ln.2.2.1 2) : ∃ C', fX4_tellLine N (nI ln.1) x0 x1 x2 (wr 0 N ρ C y1) = some (wr 0 N ρ C' y1) ∧ CI C' (stL s ln) := by
  have hcc : (s.2.1 1).toInt ≤ 12 ∧ (s.2.1 4).toInt ≤ 4 := by
    obtain ⟨c, c1, c2⟩ := hsf 2 (by decide) (by decide) (by decide)
    obtain ⟨d, d1, d2⟩ := hsf 3 (by decide) (by decide) (by decide)
    replace c1 : c ≤ 12 := c1
    replace c2 : s.2.1 1 = nI c := c2
    replace d1 : d ≤ 4 := d1
    replace d2 : s.2.1 4 = nI d := d2
    rw [c2, d2, nI_toInt (by omega), nI_toInt (by omega)]; omega
  obtain ⟨k, pl, nums, npl⟩ := ln
  replace k2 : k < 9 := k2
  replace h0 : 0 < arK k → x0 = nums 0 := h0
  replace h1 : 1 < arK k → x1 = nums 1 := h1
  replace h2 : 2 < arK k → x2 = nums 2 := h2
  have hk : k = 0 ∨ k = 1 ∨ k = 2 ∨ k = 3 ∨ k = 4 ∨ k = 5 ∨ k = 6 ∨ k = 7 ∨ k = 8 := by omega
  rcases hk with rfl | rfl | rfl | rfl | rfl | rfl | rfl | rfl | rfl
  · rw [h0 (by decide), h1 (by decide), h2 (by decide)]; exact tl_0 hz h hl
  · rw [h0 (by decide), h1 (by decide)]; exact tl_1 hz h hcc hl x2
  · rw [h0 (by decide), h1 (by decide)]; exact tl_2 hz h hcc hl x2
  · rw [h0 (by decide), h1 (by decide)]; exact tl_3 hz h hcc hl x2
  · rw [h0 (by decide)]; exact tl_4 hz h hcc hl x1 x2
  · rw [h0 (by decide)]; exact tl_5 hz h hcc hl x1 x2
  · rw [h0 (by decide)]; exact tl_6 hz h hcc hl x1 x2
  · rw [h0 (by decide), h1 (by decide), h2 (by decide)]; exact tl_7 hz h hcc hl
  · rw [h0 (by decide), h1 (by decide), h2 (by decide)]; exact tl_8 hz h hcc hl
end TL2
