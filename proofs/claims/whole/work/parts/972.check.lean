/-! ===== text: the class checks the lines ===== -/
def FT (fs : Int32 × Int32) (S : SV) : Prop := (fs.1 = 0 ∧ S.1 13 = 0 ∧ S.1 14 = -1) ∨ (¬ fs.1 = 0 ∧ S.1 13 = fs.1 ∧ S.1 14 = fs.2)
/-- the group of a kind, in the class -/
def gcK (k : Nat) : Nat := if k = 0 then 0 else if k = 2 then 1 else if k = 3 then 2 else if k = 4 then 3 else if k = 5 then 4 else if k < 14 then 5 else if k < 17 then 6 else 7
theorem grp_ok : ∀ k, k < 20 → (ctK k = true → fX9_pick_T3 20 (nI k) = some (nI (gcK k)) ∧ gcK k < 8 ∧ sIx 4 (nI (gcK k)) = some (nI (moK k))) ∧ (ctK k = false → ∃ x, x < 0 ∧ fX9_pick_T3 20 (nI k) = some x) := by
  have h : ∀ k, k < 20 → (ctK k = true → fX9_pick_T3 20 (nI k) = some (nI (gcK k)) ∧ gcK k < 8 ∧ sIx 4 (nI (gcK k)) = some (nI (moK k))) ∧ (ctK k = false → fX9_pick_T3 20 (nI k) = some (-1)) := by decide +kernel
  exact fun k hk => ⟨(h k hk).1, fun e => ⟨-1, by decide, (h k hk).2 e⟩⟩
theorem gc_inj : ∀ k, k < 20 → ∀ k', k' < 20 → (wQ4 k = wQ4 k' ∧ ctK k = true ∧ ctK k' = true) → (gcK k = gcK k' ↔ cnK k = cnK k') := by decide +kernel
section CK
variable {F : Nat → Int32} {L : Nat} {z : AH} {ρ : RV}
theorem c_canBe {S : SV} {j : Nat} (hj : j < 120) {ln : LiN} (hk : ln.1 < 20) (hl : HL j ln S) {i : Nat} (hi : i < 3) : gX4_canBe (nI j) (nI i) S = some (if i < arK ln.1 then (if okN ln.1 i (ln.2.2.1 0) (ln.2.2.1 i) then 1 else 0) else 1) := by
  obtain ⟨h1, h2, h3⟩ := hl
  obtain ⟨v1, v2⟩ := tp_ok ln.1 hk i hi
  unfold gX4_canBe
  rw [rA_nI hj (by omega), h1]
  simp only [Option.bind_some]
  rw [v1]
  simp only [Option.bind_some]
  by_cases c : i < arK ln.1
  · rw [if_neg (fun e => by have := v2.mp e; omega), if_pos c]
    have eix : (3 : Int32) * nI j + nI i = nI (3 * j + i) := by rw [show (3 : Int32) = nI 3 from rfl, pk_mul, nI_add]
    have eix0 : (3 : Int32) * nI j = nI (3 * j + 0) := by rw [show (3 : Int32) = nI 3 from rfl, pk_mul]; rfl
    rw [eix, rA_nI (by omega) (by omega), (h3 i c).1]
    simp only [Option.bind_some]
    generalize hn0 : ln.2.2.1 0 = n0 at *
    generalize hn : ln.2.2.1 i = nn at *
    have e84 : ∀ (lo s0 : Int32), gbX4_canBe_84 (tpK ln.1 i) nn lo s0 S = some (if (decide (lo ≤ nn) && decide (nn ≤ tpK ln.1 i) && decide (s0 = 0)) = true then 1 else 0) := by
      intro lo s0
      unfold gbX4_canBe_84
      by_cases a : nn < lo
      · rw [if_pos a, decide_eq_false (fa_of_lt a).2.1]; rfl
      · rw [if_neg a, decide_eq_true (fa_of_nlt a)]
        by_cases b : tpK ln.1 i < nn
        · rw [if_pos b, decide_eq_false (fa_of_lt b).2.1]; rfl
        · rw [if_neg b, decide_eq_true (fa_of_nlt b)]
          by_cases d : s0 = 0
          · rw [if_pos d, decide_eq_true d]; rfl
          · rw [if_neg d, decide_eq_false d]; rfl
    have e49 : ∀ lo : Int32, gbX4_canBe_49 (nI j) (nI i) (nI ln.1) (tpK ln.1 i) nn lo S = some (if (decide (lo ≤ nn) && decide (nn ≤ tpK ln.1 i) && !(decide ((ln.1 = 1 ∨ ln.1 = 2) ∧ i = 1) && decide (nn = n0))) = true then 1 else 0) := by
      intro lo
      have e83 : gbX4_canBe_83 (tpK ln.1 i) nn lo S = some (if (decide (lo ≤ nn) && decide (nn ≤ tpK ln.1 i)) = true then 1 else 0) := by
        unfold gbX4_canBe_83
        rw [e84, decide_eq_true (show (0 : Int32) = 0 from rfl), Bool.and_true]
      have e61 : (ln.1 = 1 ∨ ln.1 = 2) → gbX4_canBe_61 (nI j) (nI i) (tpK ln.1 i) nn lo S = some (if (decide (lo ≤ nn) && decide (nn ≤ tpK ln.1 i) && !(decide ((ln.1 = 1 ∨ ln.1 = 2) ∧ i = 1) && decide (nn = n0))) = true then 1 else 0) := by
        intro hk12
        unfold gbX4_canBe_61
        by_cases ci : i = 1
        · rw [if_pos (show nI i = 1 by rw [ci]; rfl), eix0, rA_nI (by omega) (by omega), (h3 0 (by omega)).1, hn0, decide_eq_true (show (ln.1 = 1 ∨ ln.1 = 2) ∧ i = 1 from ⟨hk12, ci⟩), Bool.true_and]
          simp only [Option.bind_some]
          by_cases d : nn = n0
          · rw [if_pos d, e84, decide_eq_true d, decide_eq_false (show ¬ (1 : Int32) = 0 by decide)]; rfl
          · rw [if_neg d, e83, decide_eq_false d, Bool.not_false, Bool.and_true]
        · rw [if_neg (show ¬ nI i = 1 from fun e => ci ((nI_eq (b := 1) (by omega) (by omega)).mp e)), e83, decide_eq_false (show ¬ ((ln.1 = 1 ∨ ln.1 = 2) ∧ i = 1) from fun e => ci e.2), Bool.false_and, Bool.not_false, Bool.and_true]
      unfold gbX4_canBe_49
      by_cases c1 : ln.1 = 1
      · rw [if_pos (show nI ln.1 = 1 by rw [c1]; rfl)]; exact e61 (Or.inl c1)
      · rw [if_neg (show ¬ nI ln.1 = 1 from fun e => c1 ((nI_eq (b := 1) (by omega) (by omega)).mp e))]
        by_cases c2 : ln.1 = 2
        · rw [if_pos (show nI ln.1 = 2 by rw [c2]; rfl)]; exact e61 (Or.inr c2)
        · rw [if_neg (show ¬ nI ln.1 = 2 from fun e => c2 ((nI_eq (b := 2) (by omega) (by omega)).mp e)), e83, decide_eq_false (show ¬ ((ln.1 = 1 ∨ ln.1 = 2) ∧ i = 1) from fun e => by rcases e.1 with q | q; exact c1 q; exact c2 q), Bool.false_and, Bool.not_false, Bool.and_true]
    unfold okN loK
    by_cases c4 : ln.1 = 4
    · rw [if_pos (show nI ln.1 = 4 by rw [c4]; rfl), if_pos (Or.inl c4)]
      unfold gbX4_canBe_44
      exact e49 1
    · rw [if_neg (show ¬ nI ln.1 = 4 from fun e => c4 ((nI_eq (b := 4) (by omega) (by omega)).mp e))]
      by_cases c5 : ln.1 = 5
      · rw [if_pos (show nI ln.1 = 5 by rw [c5]; rfl), if_pos (Or.inr c5)]
        unfold gbX4_canBe_44
        exact e49 1
      · rw [if_neg (show ¬ nI ln.1 = 5 from fun e => c5 ((nI_eq (b := 5) (by omega) (by omega)).mp e)), if_neg (show ¬ (ln.1 = 4 ∨ ln.1 = 5) from fun e => by rcases e with q | q; exact c4 q; exact c5 q)]
        exact e49 0
  · rw [if_pos (v2.mpr (by omega)), if_neg c]
/-- while lines are checked: row 4, ints 13, 14 alone differ -/
def FrC4 (S S' : SV) : Prop := (∀ k, k ≠ 13 → k ≠ 14 → S'.1 k = S.1 k) ∧ ∀ k, k ≠ 4 → S'.2.1 k = S.2.1 k
theorem FrC4.rf {S : SV} : FrC4 S S := ⟨fun _ _ _ => rfl, fun _ _ => rfl⟩
theorem FrC4.tr {S S1 S2 : SV} (h : FrC4 S S1) (h2 : FrC4 S1 S2) : FrC4 S S2 := ⟨fun k a b => (h2.1 k a b).trans (h.1 k a b), fun k a => (h2.2 k a).trans (h.2 k a)⟩
theorem FrC4.wi {S S' : SV} (h : FrC4 S S') {k : Nat} (hk : k = 13 ∨ k = 14) (x : Int32) : FrC4 S (wI S' k x) := ⟨fun j a b => (wI_ne (by omega)).trans (h.1 j a b), h.2⟩
theorem FrC4.wr_ {S S' : SV} (h : FrC4 S S') (f : Nat → Int32) : FrC4 S (wR S' 4 f) := ⟨h.1, fun j a => (wR_ne a).trans (h.2 j a)⟩
theorem HL.c4 {S S' : SV} (hf : FrC4 S S') {j : Nat} {ln : LiN} (h : HL j ln S) : HL j ln S' := by
  obtain ⟨h1, h2, h3⟩ := h
  exact ⟨by rw [hf.2 0 (by decide)]; exact h1, by rw [hf.2 1 (by decide)]; exact h2, fun i hi => by rw [hf.2 2 (by decide), hf.2 3 (by decide)]; exact h3 i hi⟩
/-- the numbers of a line -/
theorem c_nums (h : RT F L z) {S : SV} {j : Nat} (hj : j < 120) {ln : LiN} (hk : ln.1 < 20) (hl : HL j ln S) {fs : Int32 × Int32} (hF : FT fs S) : ∃ S', (∀ k26 : Nat → Int32 → AH → Option AH, fX4_checkLines_54 k26 FU 38 (nI j) 0 (wr 3 38 ρ S z) = k26 38 (nI (j + 1)) (wr 3 38 ρ S' z)) ∧ FT (nuF ln fs (arK ln.1)) S' ∧ FrC4 S S' ∧ S'.2.1 4 = S.2.1 4 := by
  have hz := s38 h
  have ha := ar_le ln.1 hk
  have key := lpR (fun u (q : Int32 × AH) => fun k26 : Nat → Int32 → AH → Option AH => fX4_checkLines_54 k26 u 38 (nI j) q.1 q.2) (fun i q => q.1 = nI i ∧ ∃ Si, q.2 = wr 3 38 ρ Si z ∧ FT (nuF ln fs (min i (arK ln.1))) Si ∧ FrC4 S Si ∧ Si.2.1 4 = S.2.1 4) (fun b => ∃ S', b = (fun k26 => k26 38 (nI (j + 1)) (wr 3 38 ρ S' z)) ∧ FT (nuF ln fs (arK ln.1)) S' ∧ FrC4 S S' ∧ S'.2.1 4 = S.2.1 4) 3 ?_ ?_ (0, wr 3 38 ρ S z) ⟨rfl, S, rfl, by rw [Nat.zero_min]; exact hF, FrC4.rf, rfl⟩ FU (by rw [FUn]; omega)
  · obtain ⟨S', e, r⟩ := key
    exact ⟨S', fun k26 => congrFun e k26, r⟩
  · rintro i hi ⟨l, y⟩ ⟨e1, Si, e2, e3, e4, e5⟩
    replace e1 : l = nI i := e1
    replace e2 : y = wr 3 38 ρ Si z := e2
    subst e1 e2
    have hl' := hl.c4 e4
    rcases e3 with ⟨f0, f13, f14⟩ | ⟨f0, f13, f14⟩
    · left
      have can := c_canBe hj hk hl' hi
      have ecan : fX4_canBe 38 (nI j) (nI i) (wr 3 38 ρ Si z) = gX4_canBe (nI j) (nI i) Si := eX4_canBe (rd_wr hz) (nI j) (nI i)
      by_cases c : i < arK ln.1
      · rw [if_pos c] at can
        have em : min i (arK ln.1) = i := by omega
        have em1 : min (i + 1) (arK ln.1) = i + 1 := by omega
        rw [em] at f0
        have estep : nuF ln fs (i + 1) = if okN ln.1 i (ln.2.2.1 0) (ln.2.2.1 i) then nuF ln fs i else adF (nuF ln fs i) 2 (nI (ln.2.2.2 i)) := rfl
        cases g : okN ln.1 i (ln.2.2.1 0) (ln.2.2.1 i)
        · rw [g] at can estep
          have eix : (3 : Int32) * nI j + nI i = nI (3 * j + i) := by rw [show (3 : Int32) = nI 3 from rfl, pk_mul, nI_add]
          have hix := ixI_rd (rd_wr hz) (ρ := ρ) (S := Si) (k := 3) rfl rfl (by decide) 0 rfl (by decide) (nI (3 * j + i))
          rw [rA_nI (by omega) (by omega), (hl'.2.2 i c).2] at hix
          refine ⟨(nI (i + 1), wr 3 38 ρ (wI (wI Si 13 2) 14 (nI (ln.2.2.2 i))) z), fun u => ?_, rfl, _, rfl, ?_, (e4.wi (by omega) _).wi (by omega) _, e5⟩
          · funext k26
            show bX4_checkLines_54 _ _ _ _ _ _ = _
            unfold bX4_checkLines_54
            rw [if_neg (show ¬ (3 : Int32) ≤ nI i from nI_ge (b := 3) hi (by omega)), gI_rd (rd_wr hz) (k := 13) rfl, f13]
            simp only [Option.bind_some]
            rw [if_pos (show True from trivial), ecan, can]
            simp only [Option.bind_some]
            rw [if_pos (by decide), gN_rd (rd_wr hz) (k := 3) rfl (Or.inl rfl)]
            simp only [Option.bind_some]
            rw [eix, hix]
            simp only [Option.bind_some]
            rw [r_find hz]
            simp only [Option.bind_some]
            rw [nmE, ← nI_succ]
          · rw [em1, estep]
            right
            have ea : (if false = true then nuF ln fs i else adF (nuF ln fs i) 2 (nI (ln.2.2.2 i))) = (2, nI (ln.2.2.2 i)) := by
              rw [if_neg (by decide)]; unfold adF; rw [if_pos f0]
            rw [ea]
            exact ⟨show ¬ (2 : Int32) = 0 by decide, by rw [wI_ne (by decide), wI_eq], wI_eq⟩
        · rw [g] at can estep
          refine ⟨(nI (i + 1), wr 3 38 ρ Si z), fun u => ?_, rfl, Si, rfl, ?_, e4, e5⟩
          · funext k26
            show bX4_checkLines_54 _ _ _ _ _ _ = _
            unfold bX4_checkLines_54
            rw [if_neg (show ¬ (3 : Int32) ≤ nI i from nI_ge (b := 3) hi (by omega)), gI_rd (rd_wr hz) (k := 13) rfl, f13]
            simp only [Option.bind_some]
            rw [if_pos (show True from trivial), ecan, can]
            simp only [Option.bind_some]
            rw [if_neg (by decide), nmE, ← nI_succ]
          · rw [em1, estep, if_pos rfl]
            exact Or.inl ⟨f0, f13, f14⟩
      · rw [if_neg c] at can
        have em : min (i + 1) (arK ln.1) = min i (arK ln.1) := by omega
        refine ⟨(nI (i + 1), wr 3 38 ρ Si z), fun u => ?_, rfl, Si, rfl, ?_, e4, e5⟩
        · funext k26
          show bX4_checkLines_54 _ _ _ _ _ _ = _
          unfold bX4_checkLines_54
          rw [if_neg (show ¬ (3 : Int32) ≤ nI i from nI_ge (b := 3) hi (by omega)), gI_rd (rd_wr hz) (k := 13) rfl, f13]
          simp only [Option.bind_some]
          rw [if_pos (show True from trivial), ecan, can]
          simp only [Option.bind_some]
          rw [if_neg (show ¬ (1 : Int32) = 0 by decide), nmE, ← nI_succ]
        · rw [em]; exact Or.inl ⟨f0, f13, f14⟩
    · right
      have hkeep : ∀ d, ¬ (nuF ln fs (min i (arK ln.1))).1 = 0 → nuF ln fs (min i (arK ln.1) + d) = nuF ln fs (min i (arK ln.1)) := by
        intro d hne
        induction d with
        | zero => rfl
        | succ d ihd =>
          show (if okN ln.1 _ (ln.2.2.1 0) (ln.2.2.1 _) then nuF ln fs (min i (arK ln.1) + d) else adF (nuF ln fs (min i (arK ln.1) + d)) 2 _) = _
          rw [ihd]
          split
          · rfl
          · unfold adF; rw [if_neg hne]
      have hfin : nuF ln fs (arK ln.1) = nuF ln fs (min i (arK ln.1)) := by
        have := hkeep (arK ln.1 - min i (arK ln.1)) f0
        rw [show min i (arK ln.1) + (arK ln.1 - min i (arK ln.1)) = arK ln.1 by omega] at this
        exact this
      refine ⟨(fun k26 => k26 38 (nI (j + 1)) (wr 3 38 ρ Si z)), fun u => ?_, Si, rfl, by rw [hfin]; exact Or.inr ⟨f0, f13, f14⟩, e4, e5⟩
      funext k26
      show bX4_checkLines_54 _ _ _ _ _ _ = _
      unfold bX4_checkLines_54
      rw [if_neg (show ¬ (3 : Int32) ≤ nI i from nI_ge (b := 3) hi (by omega)), gI_rd (rd_wr hz) (k := 13) rfl, f13]
      simp only [Option.bind_some]
      rw [if_neg f0, nmE, ← nI_succ]
  · rintro ⟨l, y⟩ ⟨e1, Si, e2, e3, e4, e5⟩
    replace e1 : l = nI 3 := e1
    replace e2 : y = wr 3 38 ρ Si z := e2
    subst e1 e2
    rw [show min 3 (arK ln.1) = arK ln.1 by omega] at e3
    refine ⟨(fun k26 => k26 38 (nI (j + 1)) (wr 3 38 ρ Si z)), fun u => ?_, Si, rfl, e3, e4, e5⟩
    funext k26
    show bX4_checkLines_54 _ _ _ _ _ _ = _
    unfold bX4_checkLines_54
    rw [if_pos (show (3 : Int32) ≤ nI 3 by decide), nmE, ← nI_succ]
/-- the class's counts are the reference's -/
def CN (q : Nat) (told : Nat → Int32) (S : SV) : Prop := ∀ k, wLo q ≤ k → k < wHi q → ctK k = true → S.2.1 4 (gcK k) = told (cnK k)
theorem c_room (h : RT F L z) {q : Nat} (hq : q < 4) {S : SV} {j : Nat} (hj : j < 120) {ln : LiN} (k1 : wLo q ≤ ln.1) (k2 : ln.1 < wHi q) (hl : HL j ln S) {fs : Int32 × Int32} {told : Nat → Int32} (f0 : fs.1 = 0) (f13 : S.1 13 = 0) (f14 : S.1 14 = -1) (hsf : SFp q told) (hcn : CN q told S) : ∃ S', fX4_checkRoom 38 (nI j) (wr 3 38 ρ S z) = some (wr 3 38 ρ S' z) ∧ FT (fuF fs told ln) S' ∧ FrC4 S S' ∧ (ctK ln.1 = true → S'.2.1 4 (gcK ln.1) = told (cnK ln.1) + 1) ∧ (∀ g, (ctK ln.1 = true → g ≠ gcK ln.1) → S'.2.1 4 g = S.2.1 4 g) := by
  have hz := s38 h
  obtain ⟨v1, -⟩ := w_q q hq
  obtain ⟨a1, a2⟩ := grp_ok ln.1 (by omega)
  unfold fX4_checkRoom
  rw [if_pos (isO_rd (rd_wr hz)), gN_rd (rd_wr hz) (k := 0) rfl (Or.inl rfl)]
  simp only [Option.bind_some]
  rw [ixI_rd (rd_wr hz) (k := 0) rfl rfl (by decide) 0 rfl (by decide), rA_nI hj (by omega), hl.1]
  simp only [Option.bind_some]
  cases c : ctK ln.1
  · obtain ⟨x, x1, x2⟩ := a2 c
    rw [x2]
    simp only [Option.bind_some]
    rw [if_pos x1]
    refine ⟨S, rfl, ?_, FrC4.rf, ⟨fun e => absurd e (by decide), fun g _ => rfl⟩⟩
    unfold fuF
    rw [c]
    exact Or.inl ⟨f0, f13, f14⟩
  · obtain ⟨b1, b2_, b3⟩ := a1 c
    obtain ⟨cN, c1, c2⟩ := hsf ln.1 k1 k2 c
    have hm := (cn_a ln.1 (by omega)).2
    have e4 := hcn ln.1 k1 k2 c
    rw [b1]
    simp only [Option.bind_some]
    rw [if_neg (nI_pos (by omega)), gN_rd (rd_wr hz) (k := 4) rfl (Or.inl rfl)]
    simp only [Option.bind_some]
    rw [lnI_rd (rd_wr hz) (k := 4) rfl rfl (by decide) 0 rfl (by decide)]
    simp only [Option.bind_some]
    rw [if_pos (show nI (gcK ln.1) < Int32.ofNat 8 from nI_lt (b := 8) b2_ (by omega)), ixI_rd (rd_wr hz) (k := 4) rfl rfl (by decide) 0 rfl (by decide), rA_nI b2_ (by omega), e4]
    simp only [Option.bind_some]
    rw [r_st hz (k := 4) rfl rfl b2_ (by omega)]
    simp only [Option.bind_some]
    rw [gN_rd (rd_wr hz) (k := 4) rfl (Or.inl rfl)]
    simp only [Option.bind_some]
    rw [ixI_rd (rd_wr hz) (k := 4) rfl rfl (by decide) 0 rfl (by decide), rA_nI b2_ (by omega), wR_eq, pk_us, b3]
    simp only [Option.bind_some]
    have efu : fuF fs told ln = if told (cnK ln.1) = nI (moK ln.1) then (3, nI ln.2.1) else fs := by
      unfold fuF adF
      rw [c, Bool.true_and, if_pos f0]
      by_cases d : told (cnK ln.1) = nI (moK ln.1)
      · rw [decide_eq_true d, if_pos rfl, if_pos d]
      · rw [decide_eq_false d, if_neg (by decide), if_neg d]
    rw [efu, c2, ← nI_succ]
    have F1 : FrC4 S (wR S 4 (upd (S.2.1 4) (gcK ln.1) (nI (cN + 1)))) := FrC4.rf.wr_ _
    by_cases d : cN = moK ln.1
    · rw [if_neg (nI_ge (by omega) (by omega)), if_pos (by rw [d]), gN_rd (rd_wr hz) (k := 1) rfl (Or.inl rfl)]
      simp only [Option.bind_some]
      rw [ixI_rd (rd_wr hz) (k := 1) rfl rfl (by decide) 0 rfl (by decide), rA_nI hj (by omega), wR_ne (by decide), hl.2.1]
      simp only [Option.bind_some]
      rw [r_find hz]
      refine ⟨_, rfl, Or.inr ⟨show ¬ (3 : Int32) = 0 by decide, by rw [wI_ne (by decide), wI_eq], wI_eq⟩, (F1.wi (by omega) _).wi (by omega) _, fun _ => ?_, fun g hg => ?_⟩
      · show (wR S 4 _).2.1 4 _ = _; rw [wR_eq, pk_us]
      · show (wR S 4 _).2.1 4 g = _; rw [wR_eq, pk_un (hg (by trivial))]
    · rw [if_pos (nI_le (by omega) (by omega)), if_neg (fun e => d ((nI_eq (by omega) (by omega)).mp e))]
      refine ⟨_, rfl, Or.inl ⟨f0, f13, f14⟩, F1, fun _ => ?_, fun g hg => ?_⟩
      · show (wR S 4 _).2.1 4 _ = _; rw [wR_eq, pk_us]
      · show (wR S 4 _).2.1 4 g = _; rw [wR_eq, pk_un (hg (by trivial))]
end CK
