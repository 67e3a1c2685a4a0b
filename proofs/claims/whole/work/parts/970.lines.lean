/-! ===== text: all lines, side by side ===== -/
/-- the lines read so far, in the Reader's rows -/
def HLs (ls : List LiN) (S : SV) : Prop := ∀ j ln, ls[j]? = some ln → HL j ln S
theorem HLs.ke {ls : List LiN} {S S' : SV} (h : HLs ls S) (hk : KE ls.length S S') : HLs ls S' := by
  intro j ln hj
  obtain ⟨h1, h2, h3⟩ := h j ln hj
  have hlt : j < ls.length := (List.getElem?_eq_some_iff.mp hj).1
  refine ⟨by rw [(hk.1 j hlt).1]; exact h1, by rw [(hk.1 j hlt).2]; exact h2, fun i hi => ?_⟩
  by_cases hi3 : i < 3
  · obtain ⟨g1, g2⟩ := hk.2.1 (3 * j + i) (by omega)
    rw [g1, g2]; exact h3 i hi
  · exfalso
    have h20 : ln.1 < 20 ∨ 20 ≤ ln.1 := by omega
    rcases h20 with h20 | h20
    · have := ar_le ln.1 h20; omega
    · have : arK ln.1 = 0 := by
        unfold arK
        rw [List.getD_eq_getElem?_getD, List.getElem?_eq_none (by simpa using h20)]; rfl
      omega
theorem HLs.add {ls : List LiN} {S S' : SV} (h : HLs ls S) (hk : KE ls.length S S') {ln : LiN} (hl : HL ls.length ln S') : HLs (ls ++ [ln]) S' := by
  intro j l hj
  by_cases c : j < ls.length
  · rw [List.getElem?_append_left c] at hj
    exact (h.ke hk) j l hj
  · have hj2 : j < (ls ++ [ln]).length := (List.getElem?_eq_some_iff.mp hj).1
    have e : j = ls.length := by simp at hj2; omega
    subst e
    rw [List.getElem?_append_right (Nat.le_refl _), Nat.sub_self] at hj
    have : ln = l := by simpa using hj
    rw [← this]; exact hl
/-- lines of a sort -/
def LQ (q : Nat) (ls : List LiN) : Prop := ∀ ln, ln ∈ ls → wLo q ≤ ln.1 ∧ ln.1 < wHi q
/-- counts stay within bounds -/
theorem cn_a : ∀ k, k < 20 → cnK k < 6 ∧ moK k ≤ 40 := by decide +kernel
theorem cn_b : ∀ k, k < 20 → ∀ k', k' < 20 → (wQ4 k = wQ4 k' ∧ ctK k = true ∧ ctK k' = true ∧ cnK k = cnK k') → moK k = moK k' := by decide +kernel
theorem cn_ok (q : Nat) (hq : q < 4) (k : Nat) (hk : k < 20) (a : wLo q ≤ k) (b : k < wHi q) (k' : Nat) (hk' : k' < 20) (a' : wLo q ≤ k') (b' : k' < wHi q) (c : ctK k = true) (c' : ctK k' = true) : cnK k < 6 ∧ moK k ≤ 40 ∧ (cnK k = cnK k' → moK k = moK k') := by
  obtain ⟨-, -, v3, -⟩ := w_q q hq
  exact ⟨(cn_a k hk).1, (cn_a k hk).2, fun e => cn_b k hk k' hk' ⟨by rw [v3 k hk a b, v3 k' hk' a' b'], c, c', e⟩⟩
theorem SFp.one {q : Nat} (hq : q < 4) {told told' : Nat → Int32} (h : SFp q told) {k : Nat} (k1 : wLo q ≤ k) (k2 : k < wHi q) (hc : ctK k = true) (h1 : told' (cnK k) = told (cnK k) + 1) (hne : ¬ told (cnK k) = nI (moK k)) (h2 : ∀ j, j < 6 → j ≠ cnK k → told' j = told j) : SFp q told' := by
  obtain ⟨v1, -⟩ := w_q q hq
  intro k' a b c
  obtain ⟨m1, m2, m3⟩ := cn_ok q hq k' (by omega) a b k (by omega) k1 k2 c hc
  by_cases e : cnK k' = cnK k
  · obtain ⟨x, hx, ex⟩ := h k k1 k2 hc
    have hlt : x < moK k := by
      refine Classical.byContradiction (fun g => hne ?_)
      rw [ex, show x = moK k by omega]
    exact ⟨x + 1, by rw [m3 e]; omega, by rw [e, h1, ex, ← nI_succ]⟩
  · rw [h2 _ m1 e]; exact h k' a b c
theorem SFp.st {q : Nat} (hq : q < 4) {told : Nat → Int32} (h : SFp q told) {ln : LiN} (k1 : wLo q ≤ ln.1) (k2 : ln.1 < wHi q) : SFp q (tbL told ln) := by
  obtain ⟨v1, -⟩ := w_q q hq
  have kp : ∀ ct fr wd mo, cnK ln.1 = ct → moK ln.1 = mo → ctK ln.1 = true → 6 ≤ fr → ct < 6 → SFp q (kpT told ct fr wd mo ln.2.2.1) := by
    intro ct fr wd mo e1 e2 hc hfr hct
    unfold kpT
    by_cases c : told ct = nI mo
    · rw [if_pos c]; exact h
    · rw [if_neg c]
      subst e1 e2
      exact h.one hq k1 k2 hc (by rw [pk_us]) c (fun j hj hne => by rw [pk_un hne, kpS_lo _ _ (by omega)])
  have kr : ∀ wd mo row, cnK ln.1 = 0 → moK ln.1 = mo → ctK ln.1 = true → 6 ≤ 1 + wd * 6 → wLo q = 9 ∨ wLo q = 14 ∨ wLo q = 17 → SFp q (krT told wd mo row) := by
    intro wd mo row e1 e2 hc _ hlo
    unfold krT
    by_cases c : told 0 = nI mo
    · rw [if_pos c]; exact h
    · rw [if_neg c]
      subst e2
      intro k' a b c'
      have e0 : cnK k' = 0 := by unfold cnK; rw [if_neg (by omega), if_neg (by omega), if_neg (by omega), if_neg (by omega)]
      obtain ⟨m1, m2, m3⟩ := cn_ok q hq k' (by omega) a b ln.1 (by omega) k1 k2 c' hc
      obtain ⟨x, hx, ex⟩ := h ln.1 k1 k2 hc
      rw [e1] at ex
      have hlt : x < moK ln.1 := by
        refine Classical.byContradiction (fun g => c ?_)
        rw [ex, show x = moK ln.1 by omega]
      exact ⟨x + 1, by rw [m3 (by rw [e0, e1])]; omega, by rw [e0, pk_us, ex, ← nI_succ]⟩
  have pt : ∀ ix x, 5 ≤ ix → SFp q (upd told ix x) := by
    intro ix x hix k' a b c'
    have m1 := (cn_ok q hq k' (by omega) a b k' (by omega) a b c' c').1
    have m5 : cnK k' < 5 := by unfold cnK; repeat' split
                               all_goals omega
    obtain ⟨y, hy, ey⟩ := h k' a b c'
    exact ⟨y, hy, by rw [pk_un (by omega)]; exact ey⟩
  have hlo : wLo q = 0 ∨ wLo q = 9 ∨ wLo q = 14 ∨ wLo q = 17 := by
    have : q = 0 ∨ q = 1 ∨ q = 2 ∨ q = 3 := by omega
    rcases this with rfl | rfl | rfl | rfl <;> decide
  have hlh : wLo q = 0 → wHi q = 9 := by
    have : q = 0 ∨ q = 1 ∨ q = 2 ∨ q = 3 := by omega
    rcases this with rfl | rfl | rfl | rfl <;> decide
  generalize hk : ln.1 = k at *
  unfold tbL
  rw [hk]
  by_cases c0 : k = 0
  · subst c0; rw [if_pos rfl]; exact kp 0 6 3 8 rfl rfl rfl (by omega) (by omega)
  rw [if_neg c0]
  by_cases c2 : k = 2
  · subst c2; rw [if_pos rfl]; exact kp 1 54 2 12 rfl rfl rfl (by omega) (by omega)
  rw [if_neg c2]
  by_cases c3 : k = 3
  · subst c3; rw [if_pos rfl]; exact kp 4 46 2 4 rfl rfl rfl (by omega) (by omega)
  rw [if_neg c3]
  by_cases c4 : k = 4
  · subst c4; rw [if_pos rfl]; exact kp 2 38 1 4 rfl rfl rfl (by omega) (by omega)
  rw [if_neg c4]
  by_cases c5 : k = 5
  · subst c5; rw [if_pos rfl]; exact kp 3 42 1 4 rfl rfl rfl (by omega) (by omega)
  rw [if_neg c5]
  by_cases c9 : k < 9
  · rw [if_pos c9]
    split
    · split
      · exact pt _ _ (by omega)
      · split
        · exact pt _ _ (by omega)
        · split
          · exact pt _ _ (by omega)
          · exact pt _ _ (by omega)
    · exact h
  · have e0 : cnK k = 0 := by unfold cnK; rw [if_neg (by omega), if_neg (by omega), if_neg (by omega), if_neg (by omega)]
    have ec : ctK k = true := by unfold ctK; rw [decide_eq_true (show 9 ≤ k by omega)]; simp
    have hlo2 : wLo q = 9 ∨ wLo q = 14 ∨ wLo q = 17 := by
      rcases hlo with hlo | hlo
      · have := hlh hlo; omega
      · exact hlo
    rw [if_neg c9]
    by_cases c14 : k < 14
    · rw [if_pos c14]; exact kr 3 40 _ e0 (by unfold moK; rw [if_neg (by omega), if_neg (by omega), if_neg (by omega), if_pos c14]) ec (by omega) hlo2
    · rw [if_neg c14]
      by_cases c17 : k < 17
      · rw [if_pos c17]; exact kr 2 8 _ e0 (by unfold moK; rw [if_neg (by omega), if_neg (by omega), if_neg (by omega), if_neg c14, if_pos c17]) ec (by omega) hlo2
      · rw [if_neg c17]; exact kr 3 16 _ e0 (by unfold moK; rw [if_neg (by omega), if_neg (by omega), if_neg (by omega), if_neg c14, if_neg c17]) ec (by omega) hlo2
/-- behind a line, the first fault lies ahead of the next word -/
theorem BD.nu {ln : LiN} {fs : Int32 × Int32} {b : Nat} (h : BD fs b) : ∀ n, (∀ i, i < n → ln.2.2.2 i < b) → b < 2 ^ 31 → BD (nuF ln fs n) b
  | 0, _, _ => h
  | n + 1, h1, h2 => by
    have ih := BD.nu h n (fun i hi => h1 i (by omega)) h2
    show BD (if okN ln.1 n (ln.2.2.1 0) (ln.2.2.1 n) then nuF ln fs n else adF (nuF ln fs n) 2 (nI (ln.2.2.2 n))) b
    split
    · exact ih
    · intro q
      unfold adF at q ⊢
      by_cases c : (nuF ln fs n).1 = 0
      · rw [if_pos c]; show (nI (ln.2.2.2 n)).toInt < _; have := h1 n (by omega); rw [nI_toInt (by omega)]; omega
      · rw [if_neg c]; exact ih c
theorem ps_mono (D : Nat → Int32) {L p : Nat} : ∀ i, (∀ m, m ≤ i → ¬ tK D L (ps D L p m) = 0) → ∀ m, m ≤ i → tB D L (ps D L p m) < tB D L (ps D L p (i + 1))
  | 0, h, m, hm => by
    rw [show m = 0 by omega]; exact ps_B D (h 0 (by omega))
  | i + 1, h, m, hm => by
    have h1 := ps_B D (L := L) (p := p) (i := i + 1) (h (i + 1) (by omega))
    by_cases e : m = i + 1
    · rw [e]; exact h1
    · have := ps_mono D i (fun m' hm' => h m' (by omega)) m (by omega); omega
theorem bl_uni {F : Nat → Int32} {L p k i j : Nat} (h1 : ∀ m, m < i → tK (D8 F) L (ps (D8 F) L p (m + 1)) = 2) (h2 : ¬ tK (D8 F) L (ps (D8 F) L p (i + 1)) = 2) (h3 : ∀ m, m < j → tK (D8 F) L (ps (D8 F) L p (m + 1)) = 2) (h4 : ¬ tK (D8 F) L (ps (D8 F) L p (j + 1)) = 2) : i = j := by
  have a : ¬ i < j := fun q => h2 (h3 i q)
  have b : ¬ j < i := fun q => h4 (h1 j q)
  omega
section LS
variable {F : Nat → Int32} {L : Nat} {z : AH} {ρ : RV}
/-- one line, both -/
theorem line_both (h : RT F L z) (hρ : ρ.1 7 = some 17) {q : Nat} (hq : q < 4) {p : Nat} (hp : p ≤ L) {S M : SV} (h8 : S.1 8 = nI L) (h6 : S.1 6 = nI q) (h13 : S.1 13 = 0) (hS : CS (D8 F) L p S) (hT : MT F L M) (hM : MS (D8 F) L p M) (hK : ¬ tK (D8 F) L p = 0) {s : ST} (hs : RMs q s M) (hsf : SFp q s.2.1) (hbd : BD s.1 (tB (D8 F) L p)) {j : Nat} (hj : j < 120) (hg : M.1 24 = 1) :
    ∃ S', fX4_readLine 38 (nI j) (wr 3 38 ρ S z) = some (wr 3 38 ρ S' z) ∧ KE j S S' ∧
    ((∃ k M1 M', wLo q ≤ k ∧ k < wHi q ∧ gX10_lineOf (nI q) (if M.1 13 = 2 then M.2.2 else 0) (M.1 12) M = some (1, M1) ∧ M1.1 13 = 4 ∧ gX10_token M1 = some M' ∧ CS (D8 F) L (ps (D8 F) L p (arK k + 2)) S' ∧ S'.1 13 = 0 ∧ S'.1 14 = S.1 14 ∧ S'.1 5 = nI (j + 1) ∧ HL j (lnA (D8 F) L p k) S' ∧ MS (D8 F) L (ps (D8 F) L p (arK k + 2)) M' ∧ FrL M M' ∧ RMs q (stL s (lnA (D8 F) L p k)) M' ∧ BD (fsL s (lnA (D8 F) L p k)) (tB (D8 F) L (ps (D8 F) L p (arK k + 2))) ∧ tB (D8 F) L p + 5 ≤ tB (D8 F) L (ps (D8 F) L p (arK k + 2))) ∨
    (∃ w, S'.1 13 = 1 ∧ S'.1 14 = nI w ∧ ((∃ M', gX10_lineOf (nI q) (if M.1 13 = 2 then M.2.2 else 0) (M.1 12) M = some (0, M') ∧ M'.1 16 = nI w ∧ FrL M M') ∨ (∃ M1, gX10_lineOf (nI q) (if M.1 13 = 2 then M.2.2 else 0) (M.1 12) M = some (1, M1) ∧ ¬ M1.1 13 = 4 ∧ M1.1 12 = nI w ∧ FrL M M1)))) := by
  have hz := s38 h
  have hL := h.2.1
  obtain ⟨v1, v2, -⟩ := w_q q hq
  obtain ⟨g9, g10, g11, g12⟩ := id hS
  obtain ⟨m10, m12, m13, m14, m15⟩ := id hM
  have hk4 : ∀ p', tK (D8 F) L p' ≤ 4 := fun p' => by
    unfold tK; repeat' split
    all_goals omega
  have bad : (∀ k, wLo q ≤ k → k < wHi q → ¬ (if M.1 13 = 2 then M.2.2 else 0) = wC k) → ∃ w, (wI (wI S 13 1) 14 (nI (tB (D8 F) L p))).1 13 = 1 ∧ (wI (wI S 13 1) 14 (nI (tB (D8 F) L p))).1 14 = nI w ∧ ((∃ M', gX10_lineOf (nI q) (if M.1 13 = 2 then M.2.2 else 0) (M.1 12) M = some (0, M') ∧ M'.1 16 = nI w ∧ FrL M M') ∨ (∃ M1, gX10_lineOf (nI q) (if M.1 13 = 2 then M.2.2 else 0) (M.1 12) M = some (1, M1) ∧ ¬ M1.1 13 = 4 ∧ M1.1 12 = nI w ∧ FrL M M1)) := by
    intro hw
    obtain ⟨M', e1, e2, e3⟩ := m_lineNo hq hw hM (M.1 12)
    exact ⟨tB (D8 F) L p, by rw [wI_ne (by decide), wI_eq], wI_eq, Or.inl ⟨M', e1, e2, e3⟩⟩
  unfold fX4_readLine
  rw [if_pos (isO_rd (rd_wr hz)), gI_rd (rd_wr hz) (k := 10) rfl, g10]
  simp only [Option.bind_some]
  by_cases cw : tK (D8 F) L p = 1
  · have e13 : (if M.1 13 = 2 then M.2.2 else 0) = tW (D8 F) L p := by
      rw [m13, cw, if_pos (show nI (kM 1) = 2 from rfl), m15 cw]
    rw [cw, if_pos (show nI 1 = 1 from rfl)]
    rcases kw_both h hρ h8 hq h6 hp hS cw with ⟨k, k1, k2, k3, k4, k5⟩ | ⟨k3, k4⟩
    · rw [k3]
      simp only [Option.bind_some]
      obtain ⟨S', r1, r2, r3⟩ := c_line h hρ h8 (k := k) (by omega) hp hS hj h13
      refine ⟨S', r1, r2, ?_⟩
      have hlo := m_lineOf hq k1 k2 hT hp hM hK hs hsf hbd hg
      rw [e13, k4, m12]
      rcases r3 with ⟨⟨u1, u2⟩, u3, u4, u5, u6, u7⟩ | ⟨w, u1, u2, u3⟩
      · left
        rcases hlo with ⟨i, i1, -, i3, -⟩ | ⟨-, M1, o1, o2, o3, o4⟩
        · exact absurd (u1 i i1) i3
        · have hps := ps_le (D8 F) hp (arK k + 1)
          obtain ⟨M', t1, t2, t3⟩ := m_tok (hT.tl o3) (tE_le (D := D8 F) hps) o2.1
          have hne : ∀ m, m ≤ arK k + 1 → ¬ tK (D8 F) L (ps (D8 F) L p m) = 0 := fun m hm => by
            by_cases e0 : m = 0
            · rw [e0]; exact hK
            · by_cases e1 : m = arK k + 1
              · rw [e1, u2]; decide
              · have := u1 (m - 1) (by omega)
                rw [show m - 1 + 1 = m by omega] at this
                rw [this]; decide
          have hmono := ps_mono (D8 F) (arK k + 1) hne
          have hbl := tB_le (D := D8 F) (ps_le (D8 F) hp (arK k + 2))
          refine ⟨k, M1, M', k1, k2, o1, by rw [o2.2.2.1, u2]; rfl, t1, u3, u4, u5, u6, u7, t2, o3.tr t3.l, ⟨⟨?_, fun e => ?_⟩, fun a ha => by rw [t3.2]; exact o4.2.1 a ha, fun e => ?_⟩, ?_, ?_⟩
          · rw [t3.1 17 (by decide) (by decide) (by decide) (by decide)]; exact o4.1.1
          · rw [t3.1 18 (by decide) (by decide) (by decide) (by decide)]; exact o4.1.2 e
          · rw [t3.1 21 (by decide) (by decide) (by decide) (by decide), t3.1 22 (by decide) (by decide) (by decide) (by decide), t3.1 23 (by decide) (by decide) (by decide) (by decide)]; exact o4.2.2 e
          · unfold fsL
            refine BD.nu ?_ _ (fun i hi => ?_) (by omega)
            · unfold fuF
              have h0 := hmono 0 (by omega)
              replace h0 : tB (D8 F) L p < tB (D8 F) L (ps (D8 F) L p (arK k + 2)) := h0
              have hb0 := tB_le (D := D8 F) hp
              split
              · exact hbd.ad h0 (by omega)
              · exact hbd.mo (Nat.le_of_lt h0)
            · exact hmono (i + 1) (by have : i < arK k := hi; omega)
          · have a1 : tB (D8 F) L p + 4 ≤ tB (D8 F) L (ps (D8 F) L p 1) := Nat.le_trans k5 tB_ge
            have a2 := hmono (arK k + 1) (Nat.le_refl _)
            have a3 : tB (D8 F) L (ps (D8 F) L p 1) ≤ tB (D8 F) L (ps (D8 F) L p (arK k + 1)) := by
              by_cases e : arK k = 0
              · rw [e]; exact Nat.le_refl _
              · have := ps_mono (D8 F) (arK k) (fun m hm => hne m (by omega)) 1 (by omega)
                omega
            replace a2 : tB (D8 F) L (ps (D8 F) L p (arK k + 1)) < tB (D8 F) L (ps (D8 F) L p (arK k + 2)) := a2
            omega
      · right
        refine ⟨w, u2, u3, ?_⟩
        rcases u1 with ⟨i, i1, i2, i3, i4⟩ | ⟨i1, i3, i4⟩
        · left
          rcases hlo with ⟨i', j1, j2, j3, M', o1, o2, o3⟩ | ⟨j1, -⟩
          · have : i = i' := bl_uni (k := k) i2 i3 j2 j3
            subst this
            exact ⟨M', o1, by rw [o2, i4], o3⟩
          · exact absurd (j1 i i1) i3
        · right
          rcases hlo with ⟨i', j1, j2, j3, -⟩ | ⟨j1, M1, o1, o2, o3, o4⟩
          · exact absurd (i1 i' j1) j3
          · refine ⟨M1, o1, fun e => i3 ?_, by rw [o2.2.1, i4], o3⟩
            rw [o2.2.2.1] at e
            unfold kM at e
            repeat' split at e
            all_goals first | exact absurd e (by decide) | assumption
    · rw [k3]
      simp only [Option.bind_some]
      rw [c_noline h hS]
      exact ⟨_, rfl, (KE.rf.wi (by omega) _).wi (by omega) _, Or.inr (bad (fun k a b => by rw [e13]; exact k4 k a b))⟩
  · have hk := hk4 p
    rw [if_neg (show ¬ nI (tK (D8 F) L p) = 1 from fun e => cw ((nI_eq (b := 1) (by omega) (by omega)).mp e)), c_noline h hS]
    have e13 : (if M.1 13 = 2 then M.2.2 else 0) = (0 : Int64) := by
      rw [if_neg]
      rw [m13]
      intro e
      unfold kM at e
      repeat' split at e
      all_goals first | exact absurd e (by decide) | exact cw (by assumption)
    exact ⟨_, rfl, (KE.rf.wi (by omega) _).wi (by omega) _, Or.inr (bad (fun k a b => by rw [e13]; exact fun e => w_ne0 k (by omega) e.symm))⟩
end LS
