/-! ===== text: the class reads a line ===== -/
theorem tp_ok : ∀ k, k < 20 → ∀ i, i < 3 → fX4_top (nI k) (nI i) = some (tpK k i) ∧ (tpK k i = -1 ↔ arK k ≤ i) := by decide +kernel
theorem ar_le : ∀ k, k < 20 → arK k ≤ 3 := by decide +kernel
theorem rkOk3' : rkOk 3 = true := by decide +kernel
section CL
variable {F : Nat → Int32} {L p : Nat} {z : AH} {ρ : RV} {S : SV}
theorem r_st {k n : Nat} (hz : 38 + szV 3 ≤ z.length) (hk : (dsc 3 ρ.2.2)[k]? = some (1, k + 1, n, 0)) (hr : rk 3 (k + 1) = some k) {i : Nat} (hi : i < n) (hn : n < 2 ^ 31) (x : Int32) : stI 0 (wr 3 38 ρ S z) (38 + (k + 1)) (nI i) x = some (wr 3 38 ρ (wR S k (upd (S.2.1 k) i x)) z) := by
  rw [stI_rd rkOk3' hz hk hr (by omega) 0 rfl (by decide), wA_nI hi hn]; rfl
theorem r_find (hz : 38 + szV 3 ≤ z.length) (f x : Int32) : fX4_find 38 f x (wr 3 38 ρ S z) = some (wr 3 38 ρ (wI (wI S 13 f) 14 x) z) := by
  unfold fX4_find
  rw [if_pos (isO_rd (rd_wr hz)), pF_int hz rfl]
  simp only [Option.bind_some]
  rw [pF_int hz rfl]; rfl
/-- entries of the lines ahead are as they were -/
def KE (j : Nat) (S S' : SV) : Prop := (∀ i, i < j → S'.2.1 0 i = S.2.1 0 i ∧ S'.2.1 1 i = S.2.1 1 i) ∧ (∀ i, i < 3 * j → S'.2.1 2 i = S.2.1 2 i ∧ S'.2.1 3 i = S.2.1 3 i) ∧ (∀ k, (k < 5 ∨ (6 ≤ k ∧ k < 9) ∨ 15 ≤ k) → S'.1 k = S.1 k)
theorem KE.rf {j : Nat} : KE j S S := ⟨fun _ _ => ⟨rfl, rfl⟩, fun _ _ => ⟨rfl, rfl⟩, fun _ _ => rfl⟩
theorem KE.tr {j : Nat} {S1 S2 : SV} (h : KE j S S1) (h2 : KE j S1 S2) : KE j S S2 := ⟨fun i hi => ⟨(h2.1 i hi).1.trans (h.1 i hi).1, (h2.1 i hi).2.trans (h.1 i hi).2⟩, fun i hi => ⟨(h2.2.1 i hi).1.trans (h.2.1 i hi).1, (h2.2.1 i hi).2.trans (h.2.1 i hi).2⟩, fun k hk => (h2.2.2 k hk).trans (h.2.2 k hk)⟩
theorem FrR.ke {j : Nat} {S' : SV} (h : FrR S S') : KE j S S' := ⟨fun i _ => by rw [h.2]; exact ⟨rfl, rfl⟩, fun i _ => by rw [h.2]; exact ⟨rfl, rfl⟩, fun k hk => h.1 k (by omega)⟩
theorem KE.wi {j k : Nat} {S' : SV} (h : KE j S S') (hk : k = 5 ∨ (9 ≤ k ∧ k < 15)) (x : Int32) : KE j S (wI S' k x) := ⟨h.1, h.2.1, fun i hi => (wI_ne (by omega)).trans (h.2.2 i hi)⟩
theorem KE.w0 {j k i : Nat} {S' : SV} (h : KE j S S') (hk : k = 0 ∨ k = 1) (hi : j ≤ i) (x : Int32) : KE j S (wR S' k (upd (S'.2.1 k) i x)) := by
  refine ⟨fun a ha => ?_, fun a ha => ?_, h.2.2⟩
  · obtain ⟨h1, h2⟩ := h.1 a ha
    rcases hk with rfl | rfl
    · rw [wR_eq, wR_ne (by decide), pk_un (by omega)]; exact ⟨h1, h2⟩
    · rw [wR_eq, wR_ne (by decide), pk_un (by omega)]; exact ⟨h1, h2⟩
  · rw [wR_ne (by omega), wR_ne (by omega)]; exact h.2.1 a ha
theorem KE.w2 {j k i : Nat} {S' : SV} (h : KE j S S') (hk : k = 2 ∨ k = 3) (hi : 3 * j ≤ i) (x : Int32) : KE j S (wR S' k (upd (S'.2.1 k) i x)) := by
  refine ⟨fun a ha => ?_, fun a ha => ?_, h.2.2⟩
  · rw [wR_ne (by omega), wR_ne (by omega)]; exact h.1 a ha
  · obtain ⟨h1, h2⟩ := h.2.1 a ha
    rcases hk with rfl | rfl
    · rw [wR_eq, wR_ne (by decide), pk_un (by omega)]; exact ⟨h1, h2⟩
    · rw [wR_eq, wR_ne (by decide), pk_un (by omega)]; exact ⟨h1, h2⟩
/-- the line j is in the Reader's rows -/
def HL (j : Nat) (ln : LiN) (S : SV) : Prop := S.2.1 0 j = nI ln.1 ∧ S.2.1 1 j = nI ln.2.1 ∧ ∀ i, i < arK ln.1 → S.2.1 2 (3 * j + i) = ln.2.2.1 i ∧ S.2.1 3 (3 * j + i) = nI (ln.2.2.2 i)
/-- a line that can't be read, and where -/
def BL (F : Nat → Int32) (L p k : Nat) (w : Nat) : Prop := (∃ i, i < arK k ∧ (∀ j, j < i → tK (D8 F) L (ps (D8 F) L p (j + 1)) = 2) ∧ ¬ tK (D8 F) L (ps (D8 F) L p (i + 1)) = 2 ∧ w = tB (D8 F) L (ps (D8 F) L p (i + 1))) ∨ ((∀ j, j < arK k → tK (D8 F) L (ps (D8 F) L p (j + 1)) = 2) ∧ ¬ tK (D8 F) L (ps (D8 F) L p (arK k + 1)) = 3 ∧ w = tB (D8 F) L (ps (D8 F) L p (arK k + 1)))
def GL (F : Nat → Int32) (L p k : Nat) : Prop := (∀ j, j < arK k → tK (D8 F) L (ps (D8 F) L p (j + 1)) = 2) ∧ tK (D8 F) L (ps (D8 F) L p (arK k + 1)) = 3
theorem c_line (h : RT F L z) (hρ : ρ.1 7 = some 17) (h8 : S.1 8 = nI L) {k : Nat} (hk : k < 20) (hp : p ≤ L) (hS : CS (D8 F) L p S) {j : Nat} (hj : j < 120) (h13 : S.1 13 = 0) : ∃ S', bX4_readLine_16 38 (nI j) (nI k) (wr 3 38 ρ S z) = some (wr 3 38 ρ S' z) ∧ KE j S S' ∧ ((GL F L p k ∧ CS (D8 F) L (ps (D8 F) L p (arK k + 2)) S' ∧ S'.1 13 = 0 ∧ S'.1 14 = S.1 14 ∧ S'.1 5 = nI (j + 1) ∧ HL j (lnA (D8 F) L p k) S') ∨ (∃ w, BL F L p k w ∧ S'.1 13 = 1 ∧ S'.1 14 = nI w)) := by
  have hz := s38 h
  have hL := h.2.1
  obtain ⟨g9, g10, g11, g12⟩ := id hS
  have ha := ar_le k hk
  unfold bX4_readLine_16
  rw [if_neg (nI_m1 (by omega)), gN_rd (rd_wr hz) (k := 0) rfl (Or.inl rfl)]
  simp only [Option.bind_some]
  rw [r_st hz (k := 0) rfl rfl hj (by omega)]
  simp only [Option.bind_some]
  rw [gN_rd (rd_wr hz) (k := 1) rfl (Or.inl rfl), gI_rd (rd_wr hz) (k := 11) rfl]
  simp only [Option.bind_some]
  rw [show (wR S 0 (upd (S.2.1 0) j (nI k))).1 11 = nI (tB (D8 F) L p) from g11, r_st hz (k := 1) rfl rfl hj (by omega)]
  simp only [Option.bind_some]
  generalize hS1 : wR (wR S 0 (upd (S.2.1 0) j (nI k))) 1 (upd ((wR S 0 (upd (S.2.1 0) j (nI k))).2.1 1) j (nI (tB (D8 F) L p))) = S1
  have k1 : KE j S S1 := by rw [← hS1]; exact (KE.rf.w0 (Or.inl rfl) (Nat.le_refl _) _).w0 (Or.inr rfl) (Nat.le_refl _) _
  have i1 : S1.1 = S.1 := by rw [← hS1]; rfl
  have r0 : S1.2.1 0 j = nI k := by rw [← hS1, wR_ne (by decide), wR_eq, pk_us]
  have r1 : S1.2.1 1 j = nI (tB (D8 F) L p) := by rw [← hS1, wR_eq, pk_us]
  obtain ⟨S2, t1, t2, t3⟩ := c_next (S := S1) h hρ (by rw [i1]; exact h8) (tE_le (D := D8 F) hp) (by rw [i1]; exact g9)
  rw [t1]
  simp only [Option.bind_some]
  have key := lpR (fun u (q : Int32 × AH) => fX4_readLine_55 u 38 (nI j) (nI k) q.1 q.2) (fun i q => q.1 = nI i ∧ ∃ Si, q.2 = wr 3 38 ρ Si z ∧ CS (D8 F) L (ps (D8 F) L p (i + 1)) Si ∧ KE j S Si ∧ Si.1 13 = 0 ∧ Si.1 14 = S.1 14 ∧ Si.2.1 0 j = nI k ∧ Si.2.1 1 j = nI (tB (D8 F) L p) ∧ (∀ m, m < i → tK (D8 F) L (ps (D8 F) L p (m + 1)) = 2) ∧ ∀ m, m < i → Si.2.1 2 (3 * j + m) = tV (D8 F) L (ps (D8 F) L p (m + 1)) ∧ Si.2.1 3 (3 * j + m) = nI (tB (D8 F) L (ps (D8 F) L p (m + 1)))) (fun b => ∃ S', b = some (wr 3 38 ρ S' z) ∧ KE j S S' ∧ ((GL F L p k ∧ CS (D8 F) L (ps (D8 F) L p (arK k + 2)) S' ∧ S'.1 13 = 0 ∧ S'.1 14 = S.1 14 ∧ S'.1 5 = nI (j + 1) ∧ HL j (lnA (D8 F) L p k) S') ∨ (∃ w, BL F L p k w ∧ S'.1 13 = 1 ∧ S'.1 14 = nI w))) (arK k) ?_ ?_ (0, wr 3 38 ρ S2 z) ⟨rfl, S2, rfl, t2, k1.tr t3.ke, by rw [t3.1 13 (by omega), i1]; exact h13, by rw [t3.1 14 (by omega), i1], by rw [t3.2]; exact r0, by rw [t3.2]; exact r1, fun m hm => by omega, fun m hm => by omega⟩ FU (by rw [FUn]; omega)
  · exact key
  · rintro i hi ⟨l, y⟩ ⟨e1, Si, e2, e3, e4, e5, e6, e7, e8, e9, e10⟩
    replace e1 : l = nI i := e1
    replace e2 : y = wr 3 38 ρ Si z := e2
    subst e1 e2
    obtain ⟨v1, v2⟩ := tp_ok k hk i (by omega)
    have hpi := ps_le (D8 F) hp (i + 1)
    obtain ⟨q9, q10, q11, q12⟩ := id e3
    by_cases c : tK (D8 F) L (ps (D8 F) L p (i + 1)) = 2
    · left
      have hx : 3 * j + i < 360 := by omega
      have eix : (3 : Int32) * nI j + nI i = nI (3 * j + i) := by rw [show (3 : Int32) = nI 3 from rfl, pk_mul, nI_add]
      generalize hT1 : wR Si 2 (upd (Si.2.1 2) (3 * j + i) (tV (D8 F) L (ps (D8 F) L p (i + 1)))) = T1
      have it1 : T1.1 = Si.1 := by rw [← hT1]; rfl
      generalize hT2 : wR T1 3 (upd (T1.2.1 3) (3 * j + i) (nI (tB (D8 F) L (ps (D8 F) L p (i + 1))))) = T2
      have it2 : T2.1 = Si.1 := by rw [← hT2]; exact it1
      have kT : KE j Si T2 := by
        rw [← hT2, ← hT1]
        exact (KE.rf.w2 (Or.inl rfl) (by omega) _).w2 (Or.inr rfl) (by omega) _
      obtain ⟨S3, n1, n2, n3⟩ := c_next (S := T2) h hρ (by rw [it2, e4.2.2 8 (by omega)]; exact h8) (tE_le (D := D8 F) hpi) (by rw [it2]; exact q9)
      refine ⟨(nI (i + 1), wr 3 38 ρ S3 z), fun u => ?_, rfl, S3, rfl, n2, (e4.tr kT).tr n3.ke, by rw [n3.1 13 (by omega), it2]; exact e5, by rw [n3.1 14 (by omega), it2]; exact e6, ?_, ?_, fun m hm => ?_, fun m hm => ?_⟩
      · show bX4_readLine_55 _ _ _ _ _ _ = _
        unfold bX4_readLine_55
        rw [if_neg (show ¬ (3 : Int32) ≤ nI i from nI_ge (b := 3) (by omega) (by omega)), v1]
        simp only [Option.bind_some]
        rw [if_neg (fun e => by have := v2.mp e; omega), gI_rd (rd_wr hz) (k := 10) rfl, q10, c]
        simp only [Option.bind_some]
        rw [if_pos (show nI 2 = 2 from rfl), gN_rd (rd_wr hz) (k := 2) rfl (Or.inl rfl), gI_rd (rd_wr hz) (k := 12) rfl, q12 c]
        simp only [Option.bind_some]
        rw [eix, r_st hz (k := 2) rfl rfl hx (by omega), hT1]
        simp only [Option.bind_some]
        rw [gN_rd (rd_wr hz) (k := 3) rfl (Or.inl rfl), gI_rd (rd_wr hz) (k := 11) rfl, it1, q11]
        simp only [Option.bind_some]
        rw [r_st hz (k := 3) rfl rfl hx (by omega), hT2]
        simp only [Option.bind_some]
        rw [n1]
        simp only [Option.bind_some]
        rw [nmE, ← nI_succ]
      · rw [n3.2, ← hT2, wR_ne (by decide), ← hT1, wR_ne (by decide)]; exact e7
      · rw [n3.2, ← hT2, wR_ne (by decide), ← hT1, wR_ne (by decide)]; exact e8
      · by_cases q : m = i
        · rw [q]; exact c
        · exact e9 m (by omega)
      · rw [n3.2, ← hT2, wR_ne (show (2 : Nat) ≠ 3 by decide), wR_eq, ← hT1, wR_eq, wR_ne (show (3 : Nat) ≠ 2 by decide)]
        by_cases q : m = i
        · subst q; rw [pk_us, pk_us]; exact ⟨rfl, rfl⟩
        · rw [pk_un (by omega), pk_un (by omega)]; exact e10 m (by omega)
    · right
      refine ⟨some (wr 3 38 ρ (wI (wI Si 13 1) 14 (nI (tB (D8 F) L (ps (D8 F) L p (i + 1))))) z), fun u => ?_, _, rfl, (e4.wi (by omega) _).wi (by omega) _, Or.inr ⟨_, Or.inl ⟨i, hi, e9, c, rfl⟩, by rw [wI_ne (by decide), wI_eq], wI_eq⟩⟩
      show bX4_readLine_55 _ _ _ _ _ _ = _
      unfold bX4_readLine_55
      rw [if_neg (show ¬ (3 : Int32) ≤ nI i from nI_ge (b := 3) (by omega) (by omega)), v1]
      simp only [Option.bind_some]
      rw [if_neg (fun e => by have := v2.mp e; omega), gI_rd (rd_wr hz) (k := 10) rfl, q10]
      simp only [Option.bind_some]
      have hk4 : tK (D8 F) L (ps (D8 F) L p (i + 1)) ≤ 4 := by unfold tK; repeat' split
                                                               all_goals omega
      rw [if_neg (show ¬ nI (tK (D8 F) L (ps (D8 F) L p (i + 1))) = 2 from fun e => c ((nI_eq (b := 2) (by omega) (by omega)).mp e)), gI_rd (rd_wr hz) (k := 11) rfl, q11]
      simp only [Option.bind_some]
      rw [r_find hz, Option.bind_some]
  · rintro ⟨l, y⟩ ⟨e1, Si, e2, e3, e4, e5, e6, e7, e8, e9, e10⟩
    replace e1 : l = nI (arK k) := e1
    replace e2 : y = wr 3 38 ρ Si z := e2
    subst e1 e2
    have hpi := ps_le (D8 F) hp (arK k + 1)
    obtain ⟨q9, q10, q11, q12⟩ := id e3
    have to125 : ∀ u, fX4_readLine_55 (u + 1) 38 (nI j) (nI k) (nI (arK k)) (wr 3 38 ρ Si z) = bX4_readLine_125 38 (nI j) (wr 3 38 ρ Si z) := by
      intro u
      show bX4_readLine_55 _ _ _ _ _ _ = _
      unfold bX4_readLine_55
      by_cases c3 : arK k = 3
      · rw [if_pos (show (3 : Int32) ≤ nI (arK k) by rw [c3]; decide)]
      · obtain ⟨v1, v2⟩ := tp_ok k hk (arK k) (by omega)
        rw [if_neg (show ¬ (3 : Int32) ≤ nI (arK k) from nI_ge (b := 3) (by omega) (by omega)), v1]
        simp only [Option.bind_some]
        rw [if_pos (v2.mpr (Nat.le_refl _))]
    have hk4 : tK (D8 F) L (ps (D8 F) L p (arK k + 1)) ≤ 4 := by unfold tK; repeat' split
                                                                 all_goals omega
    by_cases c : tK (D8 F) L (ps (D8 F) L p (arK k + 1)) = 3
    · obtain ⟨S3, n1, n2, n3⟩ := c_next (S := wI Si 5 (nI (j + 1))) h hρ (by rw [wI_ne (by decide), e4.2.2 8 (by omega)]; exact h8) (tE_le (D := D8 F) hpi) (by rw [wI_ne (by decide)]; exact q9)
      refine ⟨some (wr 3 38 ρ S3 z), fun u => ?_, S3, rfl, (e4.wi (by omega) _).tr n3.ke, Or.inl ⟨⟨e9, c⟩, n2, by rw [n3.1 13 (by omega), wI_ne (by decide)]; exact e5, by rw [n3.1 14 (by omega), wI_ne (by decide)]; exact e6, by rw [n3.1 5 (by omega), wI_eq], ?_, ?_, fun m hm => ?_⟩⟩
      · show fX4_readLine_55 (u + 1) 38 (nI j) (nI k) (nI (arK k)) (wr 3 38 ρ Si z) = _
        rw [to125]
        unfold bX4_readLine_125
        rw [gI_rd (rd_wr hz) (k := 10) rfl, q10, c]
        simp only [Option.bind_some]
        rw [if_pos (show nI 3 = 3 from rfl), pF_int hz rfl, ← nI_succ]
        simp only [Option.bind_some]
        rw [n1]; rfl
      · rw [n3.2]; exact e7
      · rw [n3.2]; exact e8
      · rw [n3.2]; exact e10 m hm
    · refine ⟨some (wr 3 38 ρ (wI (wI Si 13 1) 14 (nI (tB (D8 F) L (ps (D8 F) L p (arK k + 1))))) z), fun u => ?_, _, rfl, (e4.wi (by omega) _).wi (by omega) _, Or.inr ⟨_, Or.inr ⟨e9, c, rfl⟩, by rw [wI_ne (by decide), wI_eq], wI_eq⟩⟩
      show fX4_readLine_55 (u + 1) 38 (nI j) (nI k) (nI (arK k)) (wr 3 38 ρ Si z) = _
      rw [to125]
      unfold bX4_readLine_125
      rw [gI_rd (rd_wr hz) (k := 10) rfl, q10]
      simp only [Option.bind_some]
      rw [if_neg (show ¬ nI (tK (D8 F) L (ps (D8 F) L p (arK k + 1))) = 3 from fun e => c ((nI_eq (b := 3) (by omega) (by omega)).mp e)), gI_rd (rd_wr hz) (k := 11) rfl, q11]
      simp only [Option.bind_some]
      rw [r_find hz, Option.bind_some]
/-- no word, or none that may stand there -/
theorem c_noline (h : RT F L z) (hS : CS (D8 F) L p S) (j : Int32) : bX4_readLine_16 38 j (-1) (wr 3 38 ρ S z) = some (wr 3 38 ρ (wI (wI S 13 1) 14 (nI (tB (D8 F) L p))) z) := by
  have hz := s38 h
  unfold bX4_readLine_16
  rw [if_pos rfl, gI_rd (rd_wr hz) (k := 11) rfl, hS.2.2.1]
  simp only [Option.bind_some]
  rw [r_find hz, Option.bind_some]
end CL
