/-! ===== text: all lines are checked ===== -/
/-- a first fault stays -/
theorem fs_st {s : ST} {ln : LiN} (h : ¬ s.1.1 = 0) : (stL s ln).1 = s.1 := by
  have had : ∀ fs f pl, ¬ fs.1 = 0 → adF fs f pl = fs := fun fs f pl hf => by unfold adF; rw [if_neg hf]
  have hfu : fuF s.1 s.2.1 ln = s.1 := by unfold fuF; split; exact had _ _ _ h; rfl
  have hnu : ∀ n, nuF ln s.1 n = s.1 := by
    intro n
    induction n with
    | zero => rfl
    | succ n ih =>
      show (if okN ln.1 n (ln.2.2.1 0) (ln.2.2.1 n) then nuF ln s.1 n else adF (nuF ln s.1 n) 2 _) = _
      rw [ih]
      split
      · rfl
      · exact had _ _ _ h
  show nuF ln (fuF s.1 s.2.1 ln) (arK ln.1) = s.1
  rw [hfu, hnu]
theorem fs_all {ls : List LiN} : ∀ {s : ST}, ¬ s.1.1 = 0 → (ls.foldl stL s).1 = s.1 := by
  induction ls with
  | nil => intro s _; rfl
  | cons ln ls ih =>
    intro s h
    show (ls.foldl stL (stL s ln)).1 = s.1
    have e := fs_st (ln := ln) h
    rw [ih (by rw [e]; exact h), e]
theorem fold_take {ls : List LiN} {i : Nat} {ln : LiN} (h : ls[i]? = some ln) (s : ST) : (ls.take (i + 1)).foldl stL s = stL ((ls.take i).foldl stL s) ln := by
  rw [List.take_succ, h, List.foldl_append]; rfl
theorem fold_sf {q : Nat} (hq : q < 4) : ∀ (ls : List LiN), LQ q ls → ∀ s : ST, SFp q s.2.1 → SFp q (ls.foldl stL s).2.1
  | [], _, s, h => h
  | ln :: ls, hl, s, h => fold_sf hq ls (fun l hm => hl l (List.mem_cons_of_mem _ hm)) (stL s ln) (h.st hq (hl ln (List.mem_cons_self ..)).1 (hl ln (List.mem_cons_self ..)).2)
/-- a count that isn't full rises by one, the others stay -/
theorem tb_cn {q : Nat} (hq : q < 4) {told : Nat → Int32} {ln : LiN} (k1 : wLo q ≤ ln.1) (k2 : ln.1 < wHi q) : (ctK ln.1 = true → ¬ told (cnK ln.1) = nI (moK ln.1) → tbL told ln (cnK ln.1) = told (cnK ln.1) + 1) ∧ ∀ k, wLo q ≤ k → k < wHi q → ctK k = true → (ctK ln.1 = true → cnK k ≠ cnK ln.1) → tbL told ln (cnK k) = told (cnK k) := by
  obtain ⟨v1, -, v3, -⟩ := w_q q hq
  have c5 : ∀ k, cnK k < 5 := fun k => by unfold cnK; repeat' split
                                          all_goals omega
  have kp : ∀ ct fr wd mo, cnK ln.1 = ct → moK ln.1 = mo → ctK ln.1 = true → 6 ≤ fr → (ctK ln.1 = true → ¬ told (cnK ln.1) = nI (moK ln.1) → kpT told ct fr wd mo ln.2.2.1 (cnK ln.1) = told (cnK ln.1) + 1) ∧ ∀ k, wLo q ≤ k → k < wHi q → ctK k = true → (ctK ln.1 = true → cnK k ≠ cnK ln.1) → kpT told ct fr wd mo ln.2.2.1 (cnK k) = told (cnK k) := by
    intro ct fr wd mo e1 e2 hc hfr
    subst e1 e2
    refine ⟨fun _ hne => ?_, fun k _ _ _ hk => ?_⟩
    · unfold kpT; rw [if_neg hne, pk_us]
    · have := c5 k
      unfold kpT
      split
      · rfl
      · rw [pk_un (hk hc), kpS_lo _ _ (by omega)]
  have kr : ∀ wd mo row, cnK ln.1 = 0 → moK ln.1 = mo → ctK ln.1 = true → 9 ≤ ln.1 → (ctK ln.1 = true → ¬ told (cnK ln.1) = nI (moK ln.1) → krT told wd mo row (cnK ln.1) = told (cnK ln.1) + 1) ∧ ∀ k, wLo q ≤ k → k < wHi q → ctK k = true → (ctK ln.1 = true → cnK k ≠ cnK ln.1) → krT told wd mo row (cnK k) = told (cnK k) := by
    intro wd mo row e1 e2 hc h9
    subst e2
    refine ⟨fun _ hne => ?_, fun k a b _ hk => ?_⟩
    · rw [e1] at hne ⊢
      unfold krT; rw [if_neg hne, pk_us]
    · exfalso
      have hq9 : 9 ≤ k := by
        have hx := v3 k (by omega) a b
        have hy := v3 ln.1 (by omega) k1 k2
        unfold wQ4 at hx hy
        refine Classical.byContradiction (fun g => ?_)
        rw [if_pos (by omega)] at hx
        rw [if_neg (by omega)] at hy
        repeat' split at hy
        all_goals omega
      exact hk hc (by rw [e1]; unfold cnK; rw [if_neg (by omega), if_neg (by omega), if_neg (by omega), if_neg (by omega)])
  have pt : ∀ ix x, ctK ln.1 = false → 5 ≤ ix → (ctK ln.1 = true → ¬ told (cnK ln.1) = nI (moK ln.1) → upd told ix x (cnK ln.1) = told (cnK ln.1) + 1) ∧ ∀ k, wLo q ≤ k → k < wHi q → ctK k = true → (ctK ln.1 = true → cnK k ≠ cnK ln.1) → upd told ix x (cnK k) = told (cnK k) := by
    intro ix x hc hix
    refine ⟨fun e => absurd (hc.symm.trans e) (by decide), fun k _ _ _ _ => ?_⟩
    have := c5 k
    rw [pk_un (by omega)]
  have no : ctK ln.1 = false → (ctK ln.1 = true → ¬ told (cnK ln.1) = nI (moK ln.1) → told (cnK ln.1) = told (cnK ln.1) + 1) ∧ ∀ k, wLo q ≤ k → k < wHi q → ctK k = true → (ctK ln.1 = true → cnK k ≠ cnK ln.1) → told (cnK k) = told (cnK k) := fun hc => ⟨fun e => absurd (hc.symm.trans e) (by decide), fun _ _ _ _ _ => rfl⟩
  unfold tbL
  by_cases c0 : ln.1 = 0
  · rw [if_pos c0]; exact kp 0 6 3 8 (by rw [c0]; rfl) (by rw [c0]; rfl) (by rw [c0]; rfl) (by omega)
  rw [if_neg c0]
  by_cases c2 : ln.1 = 2
  · rw [if_pos c2]; exact kp 1 54 2 12 (by rw [c2]; rfl) (by rw [c2]; rfl) (by rw [c2]; rfl) (by omega)
  rw [if_neg c2]
  by_cases c3 : ln.1 = 3
  · rw [if_pos c3]; exact kp 4 46 2 4 (by rw [c3]; rfl) (by rw [c3]; rfl) (by rw [c3]; rfl) (by omega)
  rw [if_neg c3]
  by_cases c4 : ln.1 = 4
  · rw [if_pos c4]; exact kp 2 38 1 4 (by rw [c4]; rfl) (by rw [c4]; rfl) (by rw [c4]; rfl) (by omega)
  rw [if_neg c4]
  by_cases c5' : ln.1 = 5
  · rw [if_pos c5']; exact kp 3 42 1 4 (by rw [c5']; rfl) (by rw [c5']; rfl) (by rw [c5']; rfl) (by omega)
  rw [if_neg c5']
  by_cases c9 : ln.1 < 9
  · have hc : ctK ln.1 = false := by
      have : ln.1 = 1 ∨ ln.1 = 6 ∨ ln.1 = 7 ∨ ln.1 = 8 := by omega
      rcases this with e | e | e | e <;> rw [e] <;> rfl
    rw [if_pos c9]
    split
    · split
      · exact pt _ _ hc (by omega)
      · split
        · exact pt _ _ hc (by omega)
        · split
          · exact pt _ _ hc (by omega)
          · exact pt _ _ hc (by omega)
    · exact no hc
  · have e0 : cnK ln.1 = 0 := by unfold cnK; rw [if_neg (by omega), if_neg (by omega), if_neg (by omega), if_neg (by omega)]
    have ec : ctK ln.1 = true := by unfold ctK; rw [decide_eq_true (show 9 ≤ ln.1 by omega)]; simp
    rw [if_neg c9]
    by_cases c14 : ln.1 < 14
    · rw [if_pos c14]; exact kr 3 40 _ e0 (by unfold moK; rw [if_neg (by omega), if_neg (by omega), if_neg (by omega), if_pos c14]) ec (by omega)
    · rw [if_neg c14]
      by_cases c17 : ln.1 < 17
      · rw [if_pos c17]; exact kr 2 8 _ e0 (by unfold moK; rw [if_neg (by omega), if_neg (by omega), if_neg (by omega), if_neg c14, if_pos c17]) ec (by omega)
      · rw [if_neg c17]; exact kr 3 16 _ e0 (by unfold moK; rw [if_neg (by omega), if_neg (by omega), if_neg (by omega), if_neg c14, if_neg c17]) ec (by omega)
/-- a line without a fault wasn't without room -/
theorem fs_room {s : ST} {ln : LiN} (h : s.1.1 = 0) (h2 : (stL s ln).1.1 = 0) (hc : ctK ln.1 = true) : ¬ s.2.1 (cnK ln.1) = nI (moK ln.1) := by
  intro e
  have efu : fuF s.1 s.2.1 ln = (3, nI ln.2.1) := by
    unfold fuF adF
    rw [hc, decide_eq_true e, Bool.true_and, if_pos rfl, if_pos h]
  have hnu : ∀ n, nuF ln (3, nI ln.2.1) n = (3, nI ln.2.1) := by
    intro n
    induction n with
    | zero => rfl
    | succ n ih =>
      show (if okN ln.1 n (ln.2.2.1 0) (ln.2.2.1 n) then nuF ln (3, nI ln.2.1) n else adF (nuF ln (3, nI ln.2.1) n) 2 _) = _
      rw [ih]
      split
      · rfl
      · unfold adF; rw [if_neg (show ¬ (3 : Int32) = 0 by decide)]
  have : (stL s ln).1 = (3, nI ln.2.1) := by
    show nuF ln (fuF s.1 s.2.1 ln) (arK ln.1) = _
    rw [efu, hnu]
  rw [this] at h2
  exact absurd h2 (show ¬ (3 : Int32) = 0 by decide)
section CK2
variable {F : Nat → Int32} {L : Nat} {z : AH} {ρ : RV}
theorem c_check (h : RT F L z) {q : Nat} (hq : q < 4) {ls : List LiN} (hls : ls.length ≤ 120) (hLQ : LQ q ls) {S : SV} (hH : HLs ls S) (h5 : S.1 5 = nI ls.length) (h13 : S.1 13 = 0) (h14 : S.1 14 = -1) {s0 : ST} (hs0 : s0.1.1 = 0) (hsf : SFp q s0.2.1) (hz0 : ∀ k, wLo q ≤ k → k < wHi q → ctK k = true → s0.2.1 (cnK k) = 0) : ∃ S', fX4_checkLines 38 (wr 3 38 ρ S z) = some (wr 3 38 ρ S' z) ∧ FT (ls.foldl stL s0).1 S' ∧ FrC4 S S' := by
  have hz := s38 h
  obtain ⟨v1, -, v3, -⟩ := w_q q hq
  -- the main loop
  have main : ∀ S0, FrC4 S S0 → S0.1 13 = 0 → S0.1 14 = -1 → (∀ g, g < 8 → S0.2.1 4 g = 0) → ∃ S', fX4_checkLines_26 FU 38 0 (wr 3 38 ρ S0 z) = some (wr 3 38 ρ S' z) ∧ FT (ls.foldl stL s0).1 S' ∧ FrC4 S S' := by
    intro S0 hF0 q13 q14 qz
    have key := lpR (fun u (w : Int32 × AH) => fX4_checkLines_26 u 38 w.1 w.2) (fun i w => w.1 = nI i ∧ ∃ Si, w.2 = wr 3 38 ρ Si z ∧ FrC4 S Si ∧ FT ((ls.take i).foldl stL s0).1 Si ∧ (((ls.take i).foldl stL s0).1.1 = 0 → CN q ((ls.take i).foldl stL s0).2.1 Si)) (fun b => ∃ S', b = some (wr 3 38 ρ S' z) ∧ FT (ls.foldl stL s0).1 S' ∧ FrC4 S S') ls.length ?_ ?_ (0, wr 3 38 ρ S0 z) ⟨rfl, S0, rfl, hF0, Or.inl ⟨hs0, q13, q14⟩, fun _ k a b c => by
        obtain ⟨-, b2_, -⟩ := (grp_ok k (by omega)).1 c
        rw [qz _ b2_]
        exact (hz0 k a b c).symm⟩ FU (by rw [FUn]; omega)
    · exact key
    · rintro i hi ⟨l, y⟩ ⟨e1, Si, e2, e3, e4, e5⟩
      replace e1 : l = nI i := e1
      replace e2 : y = wr 3 38 ρ Si z := e2
      subst e1 e2
      have i5 : Si.1 5 = nI ls.length := by rw [e3.1 5 (by decide) (by decide)]; exact h5
      rcases e4 with ⟨f0, f13, f14⟩ | ⟨f0, f13, f14⟩
      · left
        obtain ⟨ln, hln⟩ : ∃ ln, ls[i]? = some ln := ⟨ls[i], List.getElem?_eq_getElem hi⟩
        have hmem : ln ∈ ls := List.mem_of_getElem? hln
        obtain ⟨k1, k2⟩ := hLQ ln hmem
        have hl := (hH i ln hln).c4 e3
        have hsfi : SFp q ((ls.take i).foldl stL s0).2.1 := fold_sf hq _ (fun l hm => hLQ l (List.mem_of_mem_take hm)) s0 hsf
        obtain ⟨S1, r1, r2, r3, r4, r5⟩ := c_room (ρ := ρ) h hq (by omega) k1 k2 hl f0 f13 f14 hsfi (e5 f0)
        have hst := fold_take hln s0
        obtain ⟨S2, n1', n2, n3, n4⟩ := c_nums (ρ := ρ) h (by omega) (by omega) (hl.c4 r3) r2
        refine ⟨(nI (i + 1), wr 3 38 ρ S2 z), fun u => ?_, rfl, S2, rfl, (e3.tr r3).tr n3, by rw [hst]; exact n2, fun g0 k a b c => ?_⟩
        · show bX4_checkLines_26 _ _ _ _ = _
          unfold bX4_checkLines_26
          rw [gI_rd (rd_wr hz) (k := 5) rfl, i5]
          simp only [Option.bind_some]
          rw [if_neg (nI_ge hi (by omega)), if_neg (show ¬ (120 : Int32) ≤ nI i from nI_ge (b := 120) (by omega) (by omega)), gI_rd (rd_wr hz) (k := 13) rfl, f13]
          simp only [Option.bind_some]
          rw [if_pos (show True from trivial), r1]
          simp only [Option.bind_some]
          exact n1' _
        · rw [hst] at g0 ⊢
          obtain ⟨t1, t2⟩ := tb_cn hq (told := ((ls.take i).foldl stL s0).2.1) k1 k2
          rw [n4]
          show S1.2.1 4 (gcK k) = tbL ((ls.take i).foldl stL s0).2.1 ln (cnK k)
          by_cases e : ctK ln.1 = true ∧ cnK k = cnK ln.1
          · have eg : gcK k = gcK ln.1 := (gc_inj k (by omega) ln.1 (by omega) ⟨by rw [v3 k (by omega) a b, v3 ln.1 (by omega) k1 k2], c, e.1⟩).mpr e.2
            rw [eg, e.2, t1 e.1 (fs_room f0 g0 e.1)]; exact r4 e.1
          · have e2 : ctK ln.1 = true → cnK k ≠ cnK ln.1 := fun q1 q2 => e ⟨q1, q2⟩
            rw [t2 k a b c e2, r5 (gcK k) (fun q1 q2 => e2 q1 ((gc_inj k (by omega) ln.1 (by omega) ⟨by rw [v3 k (by omega) a b, v3 ln.1 (by omega) k1 k2], c, q1⟩).mp q2))]
            exact e5 f0 k a b c
      · right
        refine ⟨some (wr 3 38 ρ Si z), fun u => ?_, Si, rfl, ?_, e3⟩
        · show bX4_checkLines_26 _ _ _ _ = _
          unfold bX4_checkLines_26
          rw [gI_rd (rd_wr hz) (k := 5) rfl, i5]
          simp only [Option.bind_some]
          rw [if_neg (nI_ge hi (by omega)), if_neg (show ¬ (120 : Int32) ≤ nI i from nI_ge (b := 120) (by omega) (by omega)), gI_rd (rd_wr hz) (k := 13) rfl, f13]
          simp only [Option.bind_some]
          rw [if_neg f0]
        · have : ls.foldl stL s0 = (ls.drop i).foldl stL ((ls.take i).foldl stL s0) := by rw [← List.foldl_append, List.take_append_drop]
          rw [this, fs_all f0]
          exact Or.inr ⟨f0, f13, f14⟩
    · rintro ⟨l, y⟩ ⟨e1, Si, e2, e3, e4, e5⟩
      replace e1 : l = nI ls.length := e1
      replace e2 : y = wr 3 38 ρ Si z := e2
      subst e1 e2
      rw [List.take_length] at e4
      refine ⟨some (wr 3 38 ρ Si z), fun u => ?_, Si, rfl, e4, e3⟩
      show bX4_checkLines_26 _ _ _ _ = _
      unfold bX4_checkLines_26
      rw [gI_rd (rd_wr hz) (k := 5) rfl, e3.1 5 (by decide) (by decide), h5]
      simp only [Option.bind_some]
      rw [if_pos (nI_le (Nat.le_refl _) (by omega))]
  unfold fX4_checkLines
  rw [if_pos (isO_rd (rd_wr hz))]
  have key := lpR (fun u (w : Int32 × AH) => fX4_checkLines_2 u 38 w.1 w.2) (fun i w => w.1 = nI i ∧ ∃ Si, w.2 = wr 3 38 ρ Si z ∧ FrC4 S Si ∧ Si.1 13 = 0 ∧ Si.1 14 = -1 ∧ ∀ g, g < i → Si.2.1 4 g = 0) (fun b => ∃ S', b = some (wr 3 38 ρ S' z) ∧ FT (ls.foldl stL s0).1 S' ∧ FrC4 S S') 8 ?_ ?_ (0, wr 3 38 ρ S z) ⟨rfl, S, rfl, FrC4.rf, h13, h14, fun g hg => by omega⟩ FU (by rw [FUn]; omega)
  · exact key
  · rintro i hi ⟨l, y⟩ ⟨e1, Si, e2, e3, e4, e5, e6⟩
    replace e1 : l = nI i := e1
    replace e2 : y = wr 3 38 ρ Si z := e2
    subst e1 e2
    left
    refine ⟨(nI (i + 1), wr 3 38 ρ (wR Si 4 (upd (Si.2.1 4) i 0)) z), fun u => ?_, rfl, _, rfl, e3.wr_ _, e4, e5, fun g hg => ?_⟩
    · show bX4_checkLines_2 _ _ _ _ = _
      unfold bX4_checkLines_2
      rw [gN_rd (rd_wr hz) (k := 4) rfl (Or.inl rfl)]
      simp only [Option.bind_some]
      rw [lnI_rd (rd_wr hz) (k := 4) rfl rfl (by decide) 0 rfl (by decide)]
      simp only [Option.bind_some]
      rw [if_neg (show ¬ Int32.ofNat 8 ≤ nI i from nI_ge (b := 8) hi (by omega)), r_st hz (k := 4) rfl rfl hi (by omega)]
      simp only [Option.bind_some]
      rw [nmE, ← nI_succ]
    · rw [wR_eq]
      by_cases e : g = i
      · subst e; rw [pk_us]
      · rw [pk_un e]; exact e6 g (by omega)
  · rintro ⟨l, y⟩ ⟨e1, Si, e2, e3, e4, e5, e6⟩
    replace e1 : l = nI 8 := e1
    replace e2 : y = wr 3 38 ρ Si z := e2
    subst e1 e2
    refine ⟨fX4_checkLines_26 FU 38 0 (wr 3 38 ρ Si z), fun u => ?_, main Si e3 e4 e5 e6⟩
    show bX4_checkLines_2 _ _ _ _ = _
    unfold bX4_checkLines_2
    rw [gN_rd (rd_wr hz) (k := 4) rfl (Or.inl rfl)]
    simp only [Option.bind_some]
    rw [lnI_rd (rd_wr hz) (k := 4) rfl rfl (by decide) 0 rfl (by decide)]
    simp only [Option.bind_some]
    rw [if_pos (show Int32.ofNat 8 ≤ nI 8 by decide)]
end CK2
