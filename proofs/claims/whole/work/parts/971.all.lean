/-! ===== text: the lines to the end, in both ===== -/
section LA
variable {F : Nat → Int32} {L : Nat} {z : AH} {ρ : RV}
theorem RMs.g {q : Nat} {s : ST} {M : SV} (h : RMs q s M) (x : Int32) : RMs q s (wI M 24 x) := by
  obtain ⟨⟨h1, h2⟩, h3, h4⟩ := h
  exact ⟨⟨by rw [wI_ne (by decide)]; exact h1, fun e => by rw [wI_ne (by decide)]; exact h2 e⟩, h3, fun e => by rw [wI_ne (by decide), wI_ne (by decide), wI_ne (by decide)]; exact h4 e⟩
theorem MS.g {D : Nat → Int32} {p : Nat} {M : SV} (h : MS D L p M) (x : Int32) : MS D L p (wI M 24 x) := by
  obtain ⟨h1, h2, h3, h4, h5⟩ := h
  exact ⟨by rw [wI_ne (by decide)]; exact h1, by rw [wI_ne (by decide)]; exact h2, by rw [wI_ne (by decide)]; exact h3, fun e => by rw [wI_ne (by decide)]; exact h4 e, h5⟩
theorem tB_end {D : Nat → Int32} {p : Nat} (hp : p ≤ L) (h : tK D L p = 0) : tB D L p = L := by
  have h1 := tK_0.mp h
  have h2 := tB_le (D := D) hp
  omega
/-- what reading all lines gives -/
def LE (F : Nat → Int32) (L q : Nat) (z : AH) (ρ : RV) (s0 : ST) (M : SV) (o : Option AH) (o' : Option (Int32 × SV)) : Prop :=
  ∃ S', o = some (wr 3 38 ρ S' z) ∧ S'.1 6 = nI q ∧ S'.1 8 = nI L ∧
  ((∃ (ls : List LiN) (M' : SV), S'.1 13 = 0 ∧ S'.1 14 = -1 ∧ S'.1 5 = nI ls.length ∧ ls.length ≤ 120 ∧ HLs ls S' ∧ LQ q ls ∧ o' = some (1, M') ∧ RMs q (ls.foldl stL s0) M' ∧ M'.1 12 = nI L ∧ FrL M M') ∨
  (∃ (w : Nat) (M' : SV), S'.1 13 = 1 ∧ S'.1 14 = nI w ∧ o' = some (0, M') ∧ M'.1 16 = nI w ∧ FrL M M'))
theorem lines_f (h : RT F L z) (hρ : ρ.1 7 = some 17) {q : Nat} (hq : q < 4) (s0 : ST) (M0 : SV) : ∀ d (ls : List LiN) p S M, ls.length + d = 121 → 0 < d → p ≤ L → S.1 8 = nI L → S.1 6 = nI q → S.1 13 = 0 → S.1 14 = -1 → S.1 5 = nI ls.length → CS (D8 F) L p S → HLs ls S → LQ q ls → MT F L M → MS (D8 F) L p M → RMs q (ls.foldl stL s0) M → SFp q (ls.foldl stL s0).2.1 → BD (ls.foldl stL s0).1 (tB (D8 F) L p) → (¬ tK (D8 F) L p = 0 → 5 * ls.length ≤ tB (D8 F) L p) → FrL M0 M → ∀ u u', d + 1 < u → d + 1 < u' → LE F L q z ρ s0 M0 (fX4_readLines_6 u 38 (nI ls.length) (wr 3 38 ρ S z)) (gfX10_lines_2 u' (nI q) 1 M) := by
  have hz := s38 h
  have hL := h.2.1
  intro d
  induction d with
  | zero => intro ls p S M _ h0; omega
  | succ d ih =>
    intro ls p S M hd _ hp h8 h6 h13 h14 h5 hS hH hLQ hT hM hs hsf hbd hpos hfr u u' hu hu'
    obtain ⟨u, rfl⟩ : ∃ v, u = v + 1 := ⟨u - 1, by omega⟩
    obtain ⟨u', rfl⟩ : ∃ v, u' = v + 1 := ⟨u' - 1, by omega⟩
    obtain ⟨g9, g10, g11, g12⟩ := id hS
    obtain ⟨m10, m12, m13, m14, m15⟩ := id hM
    have hk4 : tK (D8 F) L p ≤ 4 := by
      unfold tK; repeat' split
      all_goals omega
    show LE F L q z ρ s0 M0 (bX4_readLines_6 (fX4_readLines_6 u) 38 (nI ls.length) (wr 3 38 ρ S z)) (gbX10_lines_2 (gfX10_lines_2 u') (nI q) 1 M)
    unfold bX4_readLines_6 gbX10_lines_2
    rw [if_neg (show ¬ (1 : Int32) = 0 by decide)]
    by_cases c0 : tK (D8 F) L p = 0
    · have e1 : M.1 13 = 0 := by rw [m13, c0]; rfl
      have hb := tB_end hp c0
      rw [if_pos e1, if_pos (Or.inr rfl)]
      have eL : (if (120 : Int32) ≤ nI ls.length then some (wr 3 38 ρ S z) else (gI 3 10 (wr 3 38 ρ S z) 38).bind fun x13 => if x13 = 0 then some (wr 3 38 ρ S z) else (gI 3 13 (wr 3 38 ρ S z) 38).bind fun x20 => if x20 = 0 then (fX4_readLine 38 (nI ls.length) (wr 3 38 ρ S z)).bind fun z28 => nm (nI ls.length + 1) fun v31 => fX4_readLines_6 u 38 v31 z28 else some (wr 3 38 ρ S z)) = some (wr 3 38 ρ S z) := by
        split
        · rfl
        · rw [gI_rd (rd_wr hz) (k := 10) rfl, g10, c0]
          simp only [Option.bind_some]
          rw [if_pos (show nI 0 = 0 from rfl)]
      rw [eL]
      exact ⟨S, rfl, h6, h8, Or.inl ⟨ls, M, h13, h14, h5, by omega, hH, hLQ, rfl, hs, by rw [m12, hb], hfr⟩⟩
    · have hlt := tK_lt c0
      have h5k := hpos c0
      have hj : ls.length < 120 := by omega
      have n13 : ¬ M.1 13 = 0 := fun e => by
        rw [m13] at e
        unfold kM at e
        repeat' split at e
        all_goals first | exact absurd e (by decide) | exact c0 (by assumption)
      rw [if_neg (show ¬ (120 : Int32) ≤ nI ls.length from nI_ge (b := 120) hj (by omega)), gI_rd (rd_wr hz) (k := 10) rfl, g10, if_neg n13]
      simp only [Option.bind_some]
      rw [if_neg (show ¬ nI (tK (D8 F) L p) = 0 from fun e => c0 ((nI_eq (b := 0) (by omega) (by omega)).mp e)), gI_rd (rd_wr hz) (k := 13) rfl, h13]
      simp only [Option.bind_some]
      rw [if_pos (show True from trivial), nmE]
      have hT1 : MT F L (wI M 24 1) := hT.tl (FrL.rf.wi (by omega) _)
      obtain ⟨S', r1, r2, r3⟩ := line_both h hρ hq hp h8 h6 h13 hS hT1 (hM.g 1) c0 (hs.g 1) hsf hbd hj wI_eq
      rw [r1, Option.bind_some, nmE, ← nI_succ]
      have e41 : (if (wI M 24 1).1 13 = 2 then gbX10_lines_41 (gfX10_lines_2 u') (nI q) (M.1 12) (nI q) (wI M 24 1).2.2 (wI M 24 1) else gbX10_lines_41 (gfX10_lines_2 u') (nI q) (M.1 12) (nI q) 0 (wI M 24 1)) = gbX10_lines_41 (gfX10_lines_2 u') (nI q) ((wI M 24 1).1 12) (nI q) (if (wI M 24 1).1 13 = 2 then (wI M 24 1).2.2 else 0) (wI M 24 1) := by
        rw [wI_ne (show (12 : Nat) ≠ 24 by decide)]
        split <;> rfl
      rw [e41]
      unfold gbX10_lines_41
      have hfr1 : FrL M0 (wI M 24 1) := hfr.wi (by omega) _
      rcases r3 with ⟨k, M1, M', k1, k2, a1, a2, a3, a4, a5, a6, a7, a8, a9, a10, a11, a12, a13⟩ | ⟨w, b1, b2_, b3⟩
      · rw [a1, b2_some, if_neg (show ¬ (1 : Int32) = 0 by decide), if_pos a2]
        unfold gbX10_lines_63 gbX10_lines_71
        rw [if_neg (show ¬ (1 : Int32) = 0 by decide), a3, Option.bind_some]
        have hlen : (ls ++ [lnA (D8 F) L p k]).length = ls.length + 1 := by simp
        have hfold : (ls ++ [lnA (D8 F) L p k]).foldl stL s0 = stL (ls.foldl stL s0) (lnA (D8 F) L p k) := by rw [List.foldl_append]; rfl
        have := ih (ls ++ [lnA (D8 F) L p k]) (ps (D8 F) L p (arK k + 2)) S' M' (by omega) (by omega) (ps_le (D8 F) hp _) (by rw [r2.2.2 8 (by omega)]; exact h8) (by rw [r2.2.2 6 (by omega)]; exact h6) a5 (by rw [a6]; exact h14) (by rw [hlen]; exact a7) a4 (hH.add r2 a8) (fun ln hln => by
          rcases List.mem_append.mp hln with q1 | q1
          · exact hLQ ln q1
          · have : ln = lnA (D8 F) L p k := by simpa using q1
            rw [this]; exact ⟨k1, k2⟩) (hT1.tl a10) a9 (by rw [hfold]; exact a11) (by rw [hfold]; exact hsf.st hq k1 k2) (by rw [hfold]; exact a12) (fun _ => by rw [hlen]; omega) (hfr1.tr a10) u u' (by omega) (by omega)
        rw [hlen] at this
        exact this
      · have hbad : ∀ M', M'.1 16 = nI w → FrL (wI M 24 1) M' → LE F L q z ρ s0 M0 (fX4_readLines_6 u 38 (nI (ls.length + 1)) (wr 3 38 ρ S' z)) (gfX10_lines_2 u' (nI q) 0 M') := by
          intro M' e1 e2
          obtain ⟨u, rfl⟩ : ∃ v, u = v + 1 := ⟨u - 1, by omega⟩
          obtain ⟨u', rfl⟩ : ∃ v, u' = v + 1 := ⟨u' - 1, by omega⟩
          refine ⟨S', ?_, by rw [r2.2.2 6 (by omega)]; exact h6, by rw [r2.2.2 8 (by omega)]; exact h8, Or.inr ⟨w, M', b1, b2_, ?_, e1, hfr1.tr e2⟩⟩
          · show bX4_readLines_6 _ _ _ _ = _
            unfold bX4_readLines_6
            split
            · rfl
            · rw [gI_rd (rd_wr hz) (k := 10) rfl, gI_rd (rd_wr hz) (k := 13) rfl, b1]
              simp only [Option.bind_some]
              rw [if_neg (show ¬ (1 : Int32) = 0 by decide), ite_self]
          · show gbX10_lines_2 _ _ _ _ = _
            unfold gbX10_lines_2
            rw [if_pos rfl, if_pos (Or.inl rfl)]
        rcases b3 with ⟨M', c1, c2, c3⟩ | ⟨M1, c1, c2, c3, c4⟩
        · rw [c1, b2_some, if_pos rfl]
          unfold gbX10_lines_63 gbX10_lines_71
          rw [if_pos rfl]
          exact hbad M' c2 c3
        · rw [c1, b2_some, if_neg (show ¬ (1 : Int32) = 0 by decide), if_neg c2]
          have ef : gX10_fails M1 = some (0, wI M1 16 (nI w)) := by
            unfold gX10_fails
            rw [nmE, c3]
          rw [ef, b2_some]
          unfold gbX10_lines_63 gbX10_lines_71
          rw [if_pos rfl]
          exact hbad _ wI_eq (c4.wi (by omega) _)
end LA
