/-! ===== text: the reference's tokens ===== -/
def MT (F : Nat → Int32) (L : Nat) (M : SV) : Prop := M.1 11 = nI L ∧ L ≤ 600 ∧ ∀ k, k < 600 → M.2.1 1 k = F k
def kM (k : Nat) : Nat := if k = 0 then 0 else if k = 1 then 2 else if k = 2 then 3 else if k = 3 then 4 else 1
def MS (D : Nat → Int32) (L p : Nat) (M : SV) : Prop := M.1 10 = nI (tE D L p) ∧ M.1 12 = nI (tB D L p) ∧ M.1 13 = nI (kM (tK D L p)) ∧ (tK D L p = 2 → M.1 14 = tV D L p) ∧ (tK D L p = 1 → M.2.2 = tW D L p)
/-- ints 10, 12, 13, 14 and the long alone differ -/
def FrK (M M' : SV) : Prop := (∀ k, k ≠ 10 → k ≠ 12 → k ≠ 13 → k ≠ 14 → M'.1 k = M.1 k) ∧ M'.2.1 = M.2.1
section MK
variable {F : Nat → Int32} {L : Nat} {M : SV}
theorem FrK.rf : FrK M M := ⟨fun _ _ _ _ _ => rfl, rfl⟩
theorem FrK.tr {M1 M2 : SV} (h : FrK M M1) (h2 : FrK M1 M2) : FrK M M2 := ⟨fun k a b c d => (h2.1 k a b c d).trans (h.1 k a b c d), h2.2.trans h.2⟩
theorem FrK.wi {M1 : SV} (h : FrK M M1) {k : Nat} (hk : k = 10 ∨ k = 12 ∨ k = 13 ∨ k = 14) (x : Int32) : FrK M (wI M1 k x) := ⟨fun j a b c d => (wI_ne (by omega)).trans (h.1 j a b c d), h.2⟩
theorem FrK.wl {M1 : SV} (h : FrK M M1) (x : Int64) : FrK M (wL M1 x) := h
theorem MT.to (h : MT F L M) {M' : SV} (hf : FrK M M') : MT F L M' := ⟨by rw [hf.1 11 (by decide) (by decide) (by decide) (by decide)]; exact h.1, h.2.1, by rw [hf.2]; exact h.2.2⟩
theorem m_see (h : MT F L M) {q : Nat} (hq : q ≤ L) (h10 : M.1 10 = nI q) : gX10_see M = some (if q < L then D8 F q else -1) := by
  obtain ⟨h1, h2, h3⟩ := h
  unfold gX10_see
  rw [h1, h10]
  by_cases c : q < L
  · rw [if_neg (nI_ge c (by omega)), if_pos c, rA_nI (by omega) (by omega), h3 q (by omega)]; rfl
  · rw [if_pos (nI_le (by omega) (by omega)), if_neg c]
theorem isA_m1 : isA (-1) = false := by decide
theorem isD_m1 : isD (-1) = false := by decide
theorem m_word (h : MT F L M) {b : Nat} (hb : b ≤ L) (h10 : M.1 10 = nI b) (hw : M.2.2 = 0) : ∃ M', gfX10_token_74 FU 0 M = some M' ∧ M' = wI (wL (wI M 10 (nI (rn isA (D8 F) L b))) (if rn isA (D8 F) L b - b ≤ 8 then pkW (D8 F) b (rn isA (D8 F) L b - b) else 0)) 13 2 := by
  refine ⟨_, ?_, rfl⟩
  have hL := h.2.1
  have e0 : wL (wI M 10 (nI (b + 0))) (pkW (D8 F) b 0) = M := by
    rw [wI_same (x := nI (b + 0)) h10]
    show (M.1, M.2.1, (0 : Int64)) = M
    rw [← hw]
  have e1 : rn isA (D8 F) L b - b = fa_first (fun k => !isA (D8 F (b + k))) (L - b) := by unfold rn; omega
  have hs : ∀ i, i ≤ L - b → gX10_see (wL (wI M 10 (nI (b + i))) (pkW (D8 F) b i)) = some (if b + i < L then D8 F (b + i) else -1) := fun i hi => m_see (M := wL (wI M 10 (nI (b + i))) (pkW (D8 F) b i)) (h.to ((FrK.rf.wi (by omega) _).wl _)) (by omega) (show (wI M 10 (nI (b + i))).1 10 = _ from wI_eq)
  have hend : ∀ i, i ≤ L - b → (if nI i ≤ (8 : Int32) then nm (wL (wL (wI M 10 (nI (b + i))) (pkW (D8 F) b i)) (wL (wI M 10 (nI (b + i))) (pkW (D8 F) b i)).2.2) (fun S136 => nm (wI S136 13 2) fun S141 => some S141) else nm (wL (wL (wI M 10 (nI (b + i))) (pkW (D8 F) b i)) 0) fun S136 => nm (wI S136 13 2) fun S141 => some S141) = some (wI (wL (wI M 10 (nI (b + i))) (if i ≤ 8 then pkW (D8 F) b i else 0)) 13 2) := by
    intro i hi
    by_cases c : i ≤ 8
    · rw [if_pos (show nI i ≤ (8 : Int32) from nI_le (b := 8) c (by omega)), if_pos c]; rfl
    · rw [if_neg (show ¬ nI i ≤ (8 : Int32) from nI_ge (a := 8) (by omega) (by omega)), if_neg c]; rfl
  have key := lpE (fun f i => gfX10_token_74 f (nI i) (wL (wI M 10 (nI (b + i))) (pkW (D8 F) b i))) (fun k => !isA (D8 F (b + k))) (fun i => some (wI (wL (wI M 10 (nI (b + i))) (if i ≤ 8 then pkW (D8 F) b i else 0)) 13 2)) (L - b) ?_ ?_ ?_ FU (by rw [FUn]; omega)
  · rw [e0] at key
    rw [e1]; exact key
  · intro i hi hq f
    replace hq : isA (D8 F (b + i)) = true := by simpa using hq
    show gbX10_token_74 _ _ _ = _
    unfold gbX10_token_74
    rw [hs i (by omega), if_pos (show b + i < L by omega)]
    simp only [Option.bind_some]
    rw [isA_m, if_neg (fun e => by rw [i01.mp e] at hq; cases hq), nmE, nmE, nmE, ← nI_succ]
    show gfX10_token_74 f (nI (i + 1)) (wI (wL (wI M 10 (nI (b + i))) (pkW (D8 F) b (i + 1))) 10 ((wI M 10 (nI (b + i))).1 10 + 1)) = _
    rw [wI_eq, ← nI_succ, show wI (wL (wI M 10 (nI (b + i))) (pkW (D8 F) b (i + 1))) 10 (nI (b + i + 1)) = wL (wI (wI M 10 (nI (b + i))) 10 (nI (b + i + 1))) (pkW (D8 F) b (i + 1)) from rfl, wI_wI, Nat.add_assoc]
  · intro i hi hq f
    replace hq : isA (D8 F (b + i)) = false := by simpa using hq
    show gbX10_token_74 _ _ _ = _
    unfold gbX10_token_74
    rw [hs i (by omega), if_pos (show b + i < L by omega)]
    simp only [Option.bind_some]
    rw [isA_m, if_pos (i01.mpr hq)]
    exact hend i (by omega)
  · intro f
    show gbX10_token_74 _ _ _ = _
    unfold gbX10_token_74
    rw [hs _ (Nat.le_refl _), if_neg (show ¬ b + (L - b) < L by omega)]
    simp only [Option.bind_some]
    rw [isA_m, if_pos (i01.mpr isA_m1)]
    exact hend _ (Nat.le_refl _)
theorem m_number (h : MT F L M) {b : Nat} (hb : b ≤ L) (h10 : M.1 10 = nI b) : gfX10_token_163 FU 0 (wI M 14 0) = some (wI (wI (wI M 14 (vv (D8 F) b (min (rn isD (D8 F) L b - b) 2))) 10 (nI (rn isD (D8 F) L b))) 13 (if rn isD (D8 F) L b - b ≤ 2 then 3 else 1)) := by
  have hL := h.2.1
  have e0 : wI (wI M 14 (vv (D8 F) b (min 0 2))) 10 (nI (b + 0)) = wI M 14 0 := by
    rw [wI_same (k := 10) (by rw [wI_ne (by decide)]; exact h10)]; rfl
  have e1 : rn isD (D8 F) L b - b = fa_first (fun k => !isD (D8 F (b + k))) (L - b) := by unfold rn; omega
  have hs : ∀ i, i ≤ L - b → gX10_see (wI (wI M 14 (vv (D8 F) b (min i 2))) 10 (nI (b + i))) = some (if b + i < L then D8 F (b + i) else -1) := fun i hi => m_see (h.to ((FrK.rf.wi (by omega) _).wi (by omega) _)) (by omega) wI_eq
  have hend : ∀ i, i ≤ L - b → (if nI i ≤ (2 : Int32) then nm (wI (wI (wI M 14 (vv (D8 F) b (min i 2))) 10 (nI (b + i))) 13 3) (fun S235 => some S235) else nm (wI (wI (wI M 14 (vv (D8 F) b (min i 2))) 10 (nI (b + i))) 13 1) fun S235 => some S235) = some (wI (wI (wI M 14 (vv (D8 F) b (min i 2))) 10 (nI (b + i))) 13 (if i ≤ 2 then 3 else 1)) := by
    intro i hi
    by_cases c : i ≤ 2
    · rw [if_pos (show nI i ≤ (2 : Int32) from nI_le (b := 2) c (by omega)), if_pos c]; rfl
    · rw [if_neg (show ¬ nI i ≤ (2 : Int32) from nI_ge (a := 2) (by omega) (by omega)), if_neg c]; rfl
  have key := lpE (fun f i => gfX10_token_163 f (nI i) (wI (wI M 14 (vv (D8 F) b (min i 2))) 10 (nI (b + i)))) (fun k => !isD (D8 F (b + k))) (fun i => some (wI (wI (wI M 14 (vv (D8 F) b (min i 2))) 10 (nI (b + i))) 13 (if i ≤ 2 then 3 else 1))) (L - b) ?_ ?_ ?_ FU (by rw [FUn]; omega)
  · rw [e0] at key
    rw [e1]; exact key
  · intro i hi hq f
    replace hq : isD (D8 F (b + i)) = true := by simpa using hq
    have e205 : ∀ x : Int32, x = vv (D8 F) b (min (i + 1) 2) → gbX10_token_205 (gfX10_token_163 f) (nI i) x (wI (wI M 14 (vv (D8 F) b (min i 2))) 10 (nI (b + i))) = gfX10_token_163 f (nI (i + 1)) (wI (wI M 14 (vv (D8 F) b (min (i + 1) 2))) 10 (nI (b + (i + 1)))) := by
      intro x hx
      unfold gbX10_token_205
      rw [nmE, nmE, nmE, wI_ne (show (10 : Nat) ≠ 14 by decide), wI_eq, ← nI_succ, ← nI_succ, wI_swap _ (show (10 : Nat) ≠ 14 by decide), wI_wI, wI_wI, hx, Nat.add_assoc]
    show gbX10_token_163 _ _ _ = _
    unfold gbX10_token_163
    rw [hs i (by omega), if_pos (show b + i < L by omega)]
    simp only [Option.bind_some]
    rw [isD_m, if_neg (fun e => by rw [i01.mp e] at hq; cases hq)]
    by_cases c : 2 ≤ i
    · rw [if_pos (show (2 : Int32) ≤ nI i from nI_le (a := 2) c (by omega))]
      refine e205 _ ?_
      rw [wI_ne (by decide), wI_eq, Nat.min_eq_right c, Nat.min_eq_right (by omega)]
    · rw [if_neg (show ¬ (2 : Int32) ≤ nI i from nI_ge (b := 2) (by omega) (by omega))]
      refine e205 _ ?_
      rw [wI_ne (by decide), wI_eq, Nat.min_eq_left (by omega), Nat.min_eq_left (by omega)]; rfl
  · intro i hi hq f
    replace hq : isD (D8 F (b + i)) = false := by simpa using hq
    show gbX10_token_163 _ _ _ = _
    unfold gbX10_token_163
    rw [hs i (by omega), if_pos (show b + i < L by omega)]
    simp only [Option.bind_some]
    rw [isD_m, if_pos (i01.mpr hq)]
    exact hend i (by omega)
  · intro f
    show gbX10_token_163 _ _ _ = _
    unfold gbX10_token_163
    rw [hs _ (Nat.le_refl _), if_neg (show ¬ b + (L - b) < L by omega)]
    simp only [Option.bind_some]
    rw [isD_m, if_pos (i01.mpr isD_m1)]
    exact hend _ (Nat.le_refl _)
theorem D8_ge (F : Nat → Int32) (k : Nat) : (0 : Int32) ≤ D8 F k := by
  rw [fa_le, t0]; exact (D8_b (F k)).1
/-- a token behind its blanks -/
theorem m_tok_in (h : MT F L M) {p : Nat} (hp : p ≤ L) (h10 : M.1 10 = nI (tB (D8 F) L p)) {R : Option SV} (hR : ((gX10_see (wI M 12 (M.1 10))).bind fun x40 => nm (wL (wI M 12 (M.1 10)) 0) fun S46 => if (0 : Int32) ≤ x40 then (if (fX10_in x40 97 122) = 0 then (if (fX10_in x40 48 57) = 0 then (nm (wI S46 10 ((S46.1 10) + 1)) fun S248 => if x40 = 59 then (nm (wI S248 13 4) fun S263 => some S263) else (nm (wI S248 13 1) fun S263 => some S263)) else (nm (wI S46 14 0) fun S160 => gfX10_token_163 FU 0 S160)) else (gfX10_token_74 FU 0 S46)) else (nm (wI S46 13 0) fun S57 => some S57)) = R) : ∃ M', R = some M' ∧ MS (D8 F) L p M' ∧ FrK M M' := by
  have hL := h.2.1
  have hb := tB_le (D := D8 F) hp
  rw [h10] at hR
  have f1 : FrK M (wL (wI M 12 (nI (tB (D8 F) L p))) 0) := (FrK.rf.wi (by omega) _).wl 0
  have g10 : (wL (wI M 12 (nI (tB (D8 F) L p))) 0).1 10 = nI (tB (D8 F) L p) := h10
  have g12 : (wL (wI M 12 (nI (tB (D8 F) L p))) 0).1 12 = nI (tB (D8 F) L p) := rfl
  rw [m_see (h.to (FrK.rf.wi (by omega) _)) hb (show (wI M 12 (nI (tB (D8 F) L p))).1 10 = _ from h10)] at hR
  simp only [Option.bind_some, nm] at hR
  have hM1 := h.to f1
  have hw1 : (wL (wI M 12 (nI (tB (D8 F) L p))) 0).2.2 = 0 := rfl
  generalize wL (wI M 12 (nI (tB (D8 F) L p))) 0 = M1 at *
  rw [← hR]
  by_cases c : tB (D8 F) L p < L
  · rw [if_pos c, if_pos (D8_ge F _)]
    have eE : tE (D8 F) L p = (if isA (D8 F (tB (D8 F) L p)) then rn isA (D8 F) L (tB (D8 F) L p) else if isD (D8 F (tB (D8 F) L p)) then rn isD (D8 F) L (tB (D8 F) L p) else tB (D8 F) L p + 1) := by unfold tE; rw [if_pos c]
    have eK : tK (D8 F) L p = (if isA (D8 F (tB (D8 F) L p)) then 1 else if isD (D8 F (tB (D8 F) L p)) then (if tE (D8 F) L p - tB (D8 F) L p ≤ 2 then 2 else 4) else if D8 F (tB (D8 F) L p) = 59 then 3 else 4) := by unfold tK; rw [if_pos c]
    have eV : tV (D8 F) L p = vv (D8 F) (tB (D8 F) L p) (tE (D8 F) L p - tB (D8 F) L p) := rfl
    have eW : tW (D8 F) L p = if tE (D8 F) L p - tB (D8 F) L p ≤ 8 then pkW (D8 F) (tB (D8 F) L p) (tE (D8 F) L p - tB (D8 F) L p) else 0 := rfl
    unfold MS
    generalize tB (D8 F) L p = b at *
    cases ca : isA (D8 F b)
    · rw [ca] at eE eK
      rw [isA_m, ca, if_pos (by decide), isD_m]
      cases cd : isD (D8 F b)
      · rw [cd] at eE eK
        rw [if_pos (by decide)]
        simp only [Bool.false_eq_true, if_false] at eE eK
        by_cases c59 : D8 F b = 59
        · rw [if_pos c59] at eK ⊢
          refine ⟨_, rfl, ⟨?_, ?_, ?_, fun q => by rw [eK] at q; omega, fun q => by rw [eK] at q; omega⟩, (f1.wi (by omega) _).wi (by omega) _⟩
          · rw [wI_ne (by decide), wI_eq, g10, eE, ← nI_succ]
          · rw [wI_ne (by decide), wI_ne (by decide)]; exact g12
          · rw [wI_eq, eK]; rfl
        · rw [if_neg c59] at eK ⊢
          refine ⟨_, rfl, ⟨?_, ?_, ?_, fun q => by rw [eK] at q; omega, fun q => by rw [eK] at q; omega⟩, (f1.wi (by omega) _).wi (by omega) _⟩
          · rw [wI_ne (by decide), wI_eq, g10, eE, ← nI_succ]
          · rw [wI_ne (by decide), wI_ne (by decide)]; exact g12
          · rw [wI_eq, eK]; rfl
      · rw [cd] at eE eK
        rw [if_neg (by decide), m_number hM1 hb g10]
        simp only [Bool.false_eq_true, if_false, if_true] at eE eK
        refine ⟨_, rfl, ⟨?_, ?_, ?_, fun q => ?_, fun q => ?_⟩, ((f1.wi (by omega) _).wi (by omega) _).wi (by omega) _⟩
        · rw [wI_ne (by decide), wI_eq, eE]
        · rw [wI_ne (by decide), wI_ne (by decide), wI_ne (by decide)]; exact g12
        · rw [wI_eq, eK, eE]
          by_cases q : rn isD (D8 F) L b - b ≤ 2
          · rw [if_pos q, if_pos q]; rfl
          · rw [if_neg q, if_neg q]; rfl
        · rw [wI_ne (by decide), wI_ne (by decide), wI_eq, eV, eE]
          rw [eK, eE] at q
          rw [Nat.min_eq_left (by
            refine Classical.byContradiction (fun q2 => ?_)
            rw [if_neg q2] at q; omega)]
        · rw [eK] at q
          split at q <;> omega
    · rw [ca] at eE eK
      simp only [if_true] at eE eK
      obtain ⟨M', w1, w2⟩ := m_word hM1 hb g10 hw1
      rw [isA_m, ca, if_neg (by decide), w1]
      refine ⟨M', rfl, ⟨?_, ?_, ?_, fun q => by rw [eK] at q; omega, fun q => ?_⟩, ?_⟩
      · rw [w2, wI_ne (by decide), eE]
        show (wI M1 10 _).1 10 = _
        exact wI_eq
      · rw [w2, wI_ne (by decide)]
        show (wI M1 10 (nI (rn isA (D8 F) L b))).1 12 = _
        rw [wI_ne (by decide)]; exact g12
      · rw [w2, wI_eq, eK]; rfl
      · rw [w2, eW, eE]; rfl
      · rw [w2]; exact ((f1.wi (by omega) _).wl _).wi (by omega) _
  · rw [if_neg c, if_neg (show ¬ (0 : Int32) ≤ -1 by decide)]
    have e0 : tK (D8 F) L p = 0 := tK_0.mpr c
    have e1 : tE (D8 F) L p = tB (D8 F) L p := by unfold tE; rw [if_neg c]
    refine ⟨_, rfl, ⟨?_, ?_, ?_, fun q => by omega, fun q => by omega⟩, f1.wi (by omega) _⟩
    · rw [wI_ne (by decide), e1]; exact g10
    · rw [wI_ne (by decide)]; exact g12
    · rw [wI_eq, e0]; rfl
theorem m_tok (h : MT F L M) {p : Nat} (hp : p ≤ L) (h10 : M.1 10 = nI p) : ∃ M', gX10_token M = some M' ∧ MS (D8 F) L p M' ∧ FrK M M' := by
  have hL := h.2.1
  have e0 : wI M 10 (nI (p + 0)) = M := wI_same h10
  obtain ⟨M', r1, r2, r3⟩ := m_tok_in (M := wI M 10 (nI (tB (D8 F) L p))) (h.to (FrK.rf.wi (by omega) _)) hp wI_eq rfl
  refine ⟨M', ?_, r2, (FrK.rf.wi (by omega) _).tr r3⟩
  rw [← r1]
  have hs : ∀ i, i ≤ L - p → gX10_see (wI M 10 (nI (p + i))) = some (if p + i < L then D8 F (p + i) else -1) := fun i hi => m_see (h.to (FrK.rf.wi (by omega) _)) (by omega) wI_eq
  have key := lpE (fun f i => gfX10_token_0 f (wI M 10 (nI (p + i)))) (fun k => !isW (D8 F (p + k))) (fun i => ((gX10_see (wI (wI M 10 (nI (p + i))) 12 ((wI M 10 (nI (p + i))).1 10))).bind fun x40 => nm (wL (wI (wI M 10 (nI (p + i))) 12 ((wI M 10 (nI (p + i))).1 10)) 0) fun S46 => if (0 : Int32) ≤ x40 then (if (fX10_in x40 97 122) = 0 then (if (fX10_in x40 48 57) = 0 then (nm (wI S46 10 ((S46.1 10) + 1)) fun S248 => if x40 = 59 then (nm (wI S248 13 4) fun S263 => some S263) else (nm (wI S248 13 1) fun S263 => some S263)) else (nm (wI S46 14 0) fun S160 => gfX10_token_163 FU 0 S160)) else (gfX10_token_74 FU 0 S46)) else (nm (wI S46 13 0) fun S57 => some S57))) (L - p) ?_ ?_ ?_ FU (by rw [FUn]; omega)
  · rw [e0] at key; exact key
  · intro i hi hq f
    replace hq : isW (D8 F (p + i)) = true := by simpa using hq
    have hg : (nm (wI (wI M 10 (nI (p + i))) 10 ((wI M 10 (nI (p + i))).1 10 + 1)) fun S25 => gfX10_token_0 f S25) = gfX10_token_0 f (wI M 10 (nI (p + (i + 1)))) := by
      rw [nmE, wI_eq, wI_wI, ← nI_succ, Nat.add_assoc]
    show gbX10_token_0 _ _ = _
    unfold gbX10_token_0
    rw [hs i (by omega), if_pos (show p + i < L by omega)]
    simp only [Option.bind_some]
    unfold isW at hq
    by_cases q1 : D8 F (p + i) = 10
    · rw [if_pos q1]; exact hg
    · rw [if_neg q1]
      have q2 : D8 F (p + i) = 32 := by simpa [q1] using hq
      rw [if_pos q2]; exact hg
  · intro i hi hq f
    replace hq : isW (D8 F (p + i)) = false := by simpa using hq
    unfold isW at hq
    rw [Bool.or_eq_false_iff, decide_eq_false_iff_not, decide_eq_false_iff_not] at hq
    show gbX10_token_0 _ _ = _
    unfold gbX10_token_0
    rw [hs i (by omega), if_pos (show p + i < L by omega)]
    simp only [Option.bind_some]
    rw [if_neg hq.1, if_neg hq.2, nmE]
  · intro f
    show gbX10_token_0 _ _ = _
    unfold gbX10_token_0
    rw [hs _ (Nat.le_refl _), if_neg (show ¬ p + (L - p) < L by omega)]
    simp only [Option.bind_some]
    rw [if_neg (show ¬ (-1 : Int32) = 10 by decide), if_neg (show ¬ (-1 : Int32) = 32 by decide), nmE]
end MK
