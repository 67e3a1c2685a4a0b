/-! ===== married ===== -/
section MZ
variable {C : SV} {B : Nat → Int32} {i n c : Nat} {A : Nat → Int32} {M S : SV}
theorem c_part (S : SV) : ∃ S', gX1_part S = some S' ∧ ∀ k, k < 4 → S'.2.1 0 k = -1 ∧ S'.2.1 1 k = -1 ∧ S'.2.1 2 k = 0 := by
  have key := lpR (fun f (q : Int32 × SV) => gfX1_part_2 f q.1 q.2) (fun j q => q.1 = nI j ∧ ∀ k, k < j → q.2.2.1 0 k = -1 ∧ q.2.2.1 1 k = -1 ∧ q.2.2.1 2 k = 0) (fun b => ∃ S', b = some S' ∧ ∀ k, k < 4 → S'.2.1 0 k = -1 ∧ S'.2.1 1 k = -1 ∧ S'.2.1 2 k = 0) 4 ?_ ?_ (0, S) ⟨rfl, fun k hk => by omega⟩ FU (by rw [FUn]; omega)
  · exact key
  · rintro j hj ⟨l, S1⟩ ⟨e1, e2⟩
    replace e1 : l = nI j := e1
    replace e2 : ∀ k, k < j → S1.2.1 0 k = -1 ∧ S1.2.1 1 k = -1 ∧ S1.2.1 2 k = 0 := e2
    subst e1
    left
    refine ⟨(nI (j + 1), wR (wR (wR S1 0 (upd (S1.2.1 0) j (-1))) 1 (upd (S1.2.1 1) j (-1))) 2 (upd (S1.2.1 2) j 0)), fun f => ?_, rfl, fun k hk => ?_⟩
    · show gbX1_part_2 _ _ _ = _
      unfold gbX1_part_2
      rw [if_neg (show ¬ (4 : Int32) ≤ nI j from nI_ge (b := 4) hj (by omega)), wA_nI (by omega) (by omega)]
      simp only [Option.bind_some]
      rw [wA_nI (by omega) (by omega)]
      simp only [Option.bind_some]
      rw [wA_nI (by omega) (by omega)]
      simp only [Option.bind_some, nm, ← nI_succ]
      rfl
    · show upd (S1.2.1 0) j (-1) k = -1 ∧ upd (S1.2.1 1) j (-1) k = -1 ∧ upd (S1.2.1 2) j 0 k = 0
      by_cases e : k = j
      · subst e; rw [pk_us, pk_us, pk_us]; exact ⟨rfl, rfl, rfl⟩
      · rw [pk_un e, pk_un e, pk_un e]; exact e2 k (by omega)
  · rintro ⟨l, S1⟩ ⟨e1, e2⟩
    replace e1 : l = nI 4 := e1
    subst e1
    exact ⟨some S1, fun f => rfl, S1, rfl, e2⟩
theorem c_who (h : CX C B n c) {L R : Nat} (hL : L ≤ 4) (hR : R ≤ 4) (e10 : C.1 10 = nI L) (e11 : C.1 11 = nI R) (S : SV) : (gX1_firstWhoAsks C S = some (-1) ∧ CO L R (S.2.1 0) (S.2.1 2)) ∨ ∃ l r, l < L ∧ gX1_firstWhoAsks C S = some (nI l) ∧ S.2.1 0 l = -1 ∧ r < R ∧ gX1_favourite C (nI l) S = some (nI r) ∧ bt (S.2.1 2 l) r = false ∧ ∀ r', r' < R → r' ≠ r → bt (S.2.1 2 l) r' = false → pref (llC C) l r r' := by
  have key := lpR (fun f (q : Int32) => gfX1_firstWhoAsks_2 C S f q) (fun j q => q = nI j ∧ ∀ l, l < j → S.2.1 0 l = -1 → ∀ r, r < R → bt (S.2.1 2 l) r = true) (fun b => (b = some (-1) ∧ CO L R (S.2.1 0) (S.2.1 2)) ∨ ∃ l r, l < L ∧ b = some (nI l) ∧ S.2.1 0 l = -1 ∧ r < R ∧ gX1_favourite C (nI l) S = some (nI r) ∧ bt (S.2.1 2 l) r = false ∧ ∀ r', r' < R → r' ≠ r → bt (S.2.1 2 l) r' = false → pref (llC C) l r r') L ?_ ?_ 0 ⟨rfl, fun l hl => by omega⟩ FU (by rw [FUn]; omega)
  · exact key
  · rintro j hj q ⟨rfl, e2⟩
    have st : ∀ f, gfX1_firstWhoAsks_2 C S (f + 1) (nI j) = gbX1_firstWhoAsks_2 (gfX1_firstWhoAsks_2 C S f) C (nI j) S := fun _ => rfl
    obtain ⟨x, f1, f2⟩ := c_fav (S := S) (L := L) h hR e11 (show j < 4 by omega)
    unfold gbX1_firstWhoAsks_2 at st
    simp only [e10, if_neg (nI_ge hj (show L < 2 ^ 31 by omega)), rA_nI (show j < 4 by omega) (show (4 : Nat) < 2 ^ 31 by omega), Option.bind_some, f1, nm, ← nI_succ] at st
    by_cases w : S.2.1 0 j = -1
    · simp only [if_pos w] at st
      rcases f2 with ⟨rfl, f3⟩ | ⟨r, f3, rfl, f4, f5⟩
      · left
        simp only [if_true] at st
        refine ⟨nI (j + 1), st, rfl, fun l hl => ?_⟩
        by_cases e : l = j
        · rw [e]; exact fun _ => f3
        · exact e2 l (by omega)
      · right
        simp only [if_neg (nI_m1 (show r < 2 ^ 31 by omega))] at st
        exact ⟨_, st, Or.inr ⟨j, r, hj, rfl, w, f3, f1, f4, f5⟩⟩
    · left
      simp only [if_neg w] at st
      refine ⟨nI (j + 1), st, rfl, fun l hl hw => ?_⟩
      by_cases e : l = j
      · rw [e] at hw; exact absurd hw w
      · exact e2 l (by omega) hw
  · rintro q ⟨rfl, e2⟩
    refine ⟨some (-1), fun f => ?_, Or.inl ⟨rfl, e2⟩⟩
    show gbX1_firstWhoAsks_2 _ _ _ _ = _
    unfold gbX1_firstWhoAsks_2
    rw [e10, if_pos (nI_le (Nat.le_refl _) (by omega))]
theorem MC.hus {ll rl : Nat → Nat → Int32} {L R : Nat} {W H K : Nat → Int32} (h : MC ll rl L R W H K) (hL : L ≤ 4) {r : Nat} (hr : r < R) : H r = -1 ∨ ∃ o, o < 4 ∧ H r = nI o := by
  rcases h.1 r hr with ⟨q, -⟩ | ⟨l, q1, q2, -⟩
  · exact Or.inl q
  · exact Or.inr ⟨l, by omega, q2⟩
theorem c_marry (h : CX C B n c) {L R : Nat} (hL : L ≤ 4) (hR : R ≤ 4) (e10 : C.1 10 = nI L) (e11 : C.1 11 = nI R) (S : SV) : ∃ S', gX1_marry C S = some S' ∧ MC (llC C) (rlC C) L R (S'.2.1 0) (S'.2.1 1) (S'.2.1 2) ∧ LW (llC C) (rlC C) L R (S'.2.1 2) ∧ CO L R (S'.2.1 0) (S'.2.1 2) := by
  obtain ⟨S1, p1, p2⟩ := c_part S
  unfold gX1_marry
  rw [p1]
  simp only [Option.bind_some]
  obtain ⟨m0, l0⟩ := MC.start (ll := llC C) (rl := rlC C) (W := S1.2.1 0) (H := S1.2.1 1) (K := S1.2.1 2) (fun k hk => (p2 k hk).1) (fun k hk => (p2 k hk).2.1) (fun k hk => (p2 k hk).2.2) hL hR
  have c0 : 0 ≤ ckP (S1.2.1 2) := Nat.zero_le _
  have key := lpR (fun f (q : Int32 × SV) => gfX1_marry_6 C f q.1 q.2) (fun j q => q.1 = nI j ∧ MC (llC C) (rlC C) L R (q.2.2.1 0) (q.2.2.1 1) (q.2.2.1 2) ∧ LW (llC C) (rlC C) L R (q.2.2.1 2) ∧ j ≤ ckP (q.2.2.1 2)) (fun b => ∃ S', b = some S' ∧ MC (llC C) (rlC C) L R (S'.2.1 0) (S'.2.1 1) (S'.2.1 2) ∧ LW (llC C) (rlC C) L R (S'.2.1 2) ∧ CO L R (S'.2.1 0) (S'.2.1 2)) 16 ?_ ?_ (0, S1) ⟨rfl, m0, l0, c0⟩ FU (by rw [FUn]; omega)
  · exact key
  · rintro j hj ⟨l2, S2⟩ ⟨e1, e2, e3, e4⟩
    replace e1 : l2 = nI j := e1
    replace e2 : MC (llC C) (rlC C) L R (S2.2.1 0) (S2.2.1 1) (S2.2.1 2) := e2
    replace e3 : LW (llC C) (rlC C) L R (S2.2.1 2) := e3
    replace e4 : j ≤ ckP (S2.2.1 2) := e4
    subst e1
    rcases c_who h hL hR e10 e11 S2 with ⟨w1, w2⟩ | ⟨l, r, hl, w1, w2, hr, w3, w4, w5⟩
    · right
      refine ⟨some S2, fun f => ?_, S2, rfl, e2, e3, w2⟩
      show gbX1_marry_6 _ _ _ _ = _
      unfold gbX1_marry_6
      rw [if_neg (show ¬ (16 : Int32) ≤ nI j from nI_ge (b := 16) hj (by omega)), w1]
      simp only [Option.bind_some, if_true]
    · left
      obtain ⟨S3, a1, a2⟩ := c_ask h (show l < 4 by omega) (show r < 4 by omega) S2 (e2.hus hL hr)
      refine ⟨(nI (j + 1), S3), fun f => ?_, rfl, e2.ask hL hR hl w2 hr w4 w5 a2, LW.ask hL hR e2 e3 hl w2 hr w4 w5 a2, ?_⟩
      · show gbX1_marry_6 _ _ _ _ = _
        unfold gbX1_marry_6
        rw [if_neg (show ¬ (16 : Int32) ≤ nI j from nI_ge (b := 16) hj (by omega)), w1]
        simp only [Option.bind_some]
        rw [if_neg (nI_m1 (by omega)), w3]
        simp only [Option.bind_some]
        rw [a1]
        simp only [Option.bind_some, nm, ← nI_succ]
      · show j + 1 ≤ ckP (S3.2.1 2)
        rw [ck_ask a2 (by omega) (by omega) w4]; omega
  · rintro ⟨l2, S2⟩ ⟨e1, e2, e3, e4⟩
    replace e1 : l2 = nI 16 := e1
    replace e4 : 16 ≤ ckP (S2.2.1 2) := e4
    subst e1
    refine ⟨some S2, fun f => rfl, S2, rfl, e2, e3, fun l hl _ r hr => ck_full e4 (by omega) (by omega)⟩
theorem m_pass (h : CX C B n c) {L R : Nat} (hL : L ≤ 4) (hR : R ≤ 4) (eL : B 2 = nI L) (eR : B 3 = nI R) (hM : MX B i n c A M) (h2 : MC (llC C) (rlC C) L R (M.2.1 44) (M.2.1 45) (M.2.1 46)) (h3 : LW (llC C) (rlC C) L R (M.2.1 46)) : (CO L R (M.2.1 44) (M.2.1 46) ∧ ∀ k36, gfX10_marry_44 k36 FU 0 0 M = k36 0 M) ∨ ∃ M', (∀ k36, gfX10_marry_44 k36 FU 0 0 M = k36 1 M') ∧ FrM M M' ∧ MC (llC C) (rlC C) L R (M'.2.1 44) (M'.2.1 45) (M'.2.1 46) ∧ LW (llC C) (rlC C) L R (M'.2.1 46) ∧ ckP (M.2.1 46) < ckP (M'.2.1 46) := by
  have key := lpR (fun f (q : Int32 × Int32 × SV) => fun k36 : Int32 → SV → Option SV => gfX10_marry_44 k36 f q.1 q.2.1 q.2.2) (fun l q => q.2.1 = nI l ∧ FrM M q.2.2 ∧ MC (llC C) (rlC C) L R (q.2.2.2.1 44) (q.2.2.2.1 45) (q.2.2.2.1 46) ∧ LW (llC C) (rlC C) L R (q.2.2.2.1 46) ∧ ((q.1 = 0 ∧ q.2.2 = M ∧ ∀ l', l' < l → M.2.1 44 l' = -1 → ∀ r, r < R → bt (M.2.1 46 l') r = true) ∨ (q.1 = 1 ∧ ckP (M.2.1 46) < ckP (q.2.2.2.1 46)))) (fun b => (CO L R (M.2.1 44) (M.2.1 46) ∧ b = fun k36 => k36 0 M) ∨ ∃ M', (b = fun k36 => k36 1 M') ∧ FrM M M' ∧ MC (llC C) (rlC C) L R (M'.2.1 44) (M'.2.1 45) (M'.2.1 46) ∧ LW (llC C) (rlC C) L R (M'.2.1 46) ∧ ckP (M.2.1 46) < ckP (M'.2.1 46)) L ?_ ?_ (0, 0, M) ⟨rfl, FrM.rf, h2, h3, Or.inl ⟨rfl, rfl, fun l hl => by omega⟩⟩ FU (by rw [FUn]; omega)
  · rcases key with ⟨k1, k2⟩ | ⟨M', k1, k2⟩
    · exact Or.inl ⟨k1, fun k36 => congrFun k2 k36⟩
    · exact Or.inr ⟨M', fun k36 => congrFun k1 k36, k2⟩
  · rintro l hl ⟨fl, t, M1⟩ ⟨e1, e2, e3, e4, e5⟩
    replace e1 : t = nI l := e1
    replace e2 : FrM M M1 := e2
    replace e3 : MC (llC C) (rlC C) L R (M1.2.1 44) (M1.2.1 45) (M1.2.1 46) := e3
    replace e4 : LW (llC C) (rlC C) L R (M1.2.1 46) := e4
    replace e5 : (fl = 0 ∧ M1 = M ∧ ∀ l', l' < l → M.2.1 44 l' = -1 → ∀ r, r < R → bt (M.2.1 46 l') r = true) ∨ (fl = 1 ∧ ckP (M.2.1 46) < ckP (M1.2.1 46)) := e5
    subst e1
    left
    have hM1 := hM.tm e2
    have o2 : gX10_of 2 M1 = some (nI L) := by rw [← eL]; exact hM1.of (j := 2) (by omega)
    obtain ⟨x, f1, f2⟩ := m_fav h hM1 hR eR (show l < 4 by omega)
    have skip : ∀ (f : Nat) (k36 : Int32 → SV → Option SV), gbX10_marry_72 k36 (gfX10_marry_44 k36 f) fl (nI l) (-1) M1 = gfX10_marry_44 k36 f fl (nI (l + 1)) M1 := by
      intro f k36
      unfold gbX10_marry_72
      rw [if_pos rfl, nI_succ]; rfl
    have next : (∀ (l' : Nat), l' = l → M.2.1 44 l' = -1 → M1 = M → ∀ r, r < R → bt (M.2.1 46 l') r = true) → ((fl = 0 ∧ M1 = M ∧ ∀ l', l' < l + 1 → M.2.1 44 l' = -1 → ∀ r, r < R → bt (M.2.1 46 l') r = true) ∨ (fl = 1 ∧ ckP (M.2.1 46) < ckP (M1.2.1 46))) := by
      intro hq
      rcases e5 with ⟨a1, a2, a3⟩ | a
      · refine Or.inl ⟨a1, a2, fun l' hl' hw => ?_⟩
        by_cases e : l' = l
        · exact hq l' e hw a2
        · exact a3 l' (by omega) hw
      · exact Or.inr a
    by_cases w : M1.2.1 44 l = -1
    · rcases f2 with ⟨rfl, f3⟩ | ⟨r, f3, rfl, f4, f5⟩
      · refine ⟨(fl, nI (l + 1), M1), fun f => ?_, rfl, e2, e3, e4, next (fun l' e _ eM => by rw [e, ← eM]; exact f3)⟩
        funext k36
        show gbX10_marry_44 _ _ _ _ _ = _
        unfold gbX10_marry_44
        rw [o2]
        simp only [Option.bind_some]
        rw [if_neg (nI_ge hl (by omega)), rA_nI (by omega) (by omega)]
        simp only [Option.bind_some]
        rw [if_pos w, f1]
        exact skip f k36
      · have hno : ∀ o, M1.2.1 45 r = nI o → o < 4 → o ≠ l := by
          intro o q ho e
          rw [e] at q
          rcases e3.2.1 l hl with ⟨-, p⟩ | ⟨a, ha, p, -⟩
          · exact p r f3 q
          · rw [w] at p
            exact absurd p.symm (nI_m1 (by omega))
        obtain ⟨M2, a1, a2, a3⟩ := m_ask h hM1 (show l < 4 by omega) (show r < 4 by omega) (by
          rcases e3.hus hL f3 with q | ⟨o, q1, q2⟩
          · exact Or.inl q
          · exact Or.inr ⟨o, q1, hno o q2 q1, q2⟩)
        refine ⟨(1, nI (l + 1), M2), fun f => ?_, rfl, e2.tr a2, e3.ask hL hR hl w f3 f4 f5 a3, LW.ask hL hR e3 e4 hl w f3 f4 f5 a3, Or.inr ⟨rfl, ?_⟩⟩
        · funext k36
          show gbX10_marry_44 _ _ _ _ _ = _
          unfold gbX10_marry_44
          rw [o2]
          simp only [Option.bind_some]
          rw [if_neg (nI_ge hl (by omega)), rA_nI (by omega) (by omega)]
          simp only [Option.bind_some]
          rw [if_pos w, f1]
          simp only [Option.bind_some]
          unfold gbX10_marry_72
          rw [if_neg (nI_m1 (by omega)), a1, nI_succ]; rfl
        · show ckP (M.2.1 46) < ckP (M2.2.1 46)
          rw [ck_ask a3 (by omega) (by omega) f4]
          rcases e5 with ⟨-, q, -⟩ | ⟨-, q⟩
          · rw [q]; omega
          · omega
    · refine ⟨(fl, nI (l + 1), M1), fun f => ?_, rfl, e2, e3, e4, next (fun l' e hw eM => by rw [e, ← eM] at hw; exact absurd hw w)⟩
      funext k36
      show gbX10_marry_44 _ _ _ _ _ = _
      unfold gbX10_marry_44
      rw [o2]
      simp only [Option.bind_some]
      rw [if_neg (nI_ge hl (by omega)), rA_nI (by omega) (by omega)]
      simp only [Option.bind_some]
      rw [if_neg w]
      exact skip f k36
  · rintro ⟨fl, t, M1⟩ ⟨e1, e2, e3, e4, e5⟩
    replace e1 : t = nI L := e1
    replace e2 : FrM M M1 := e2
    replace e5 : (fl = 0 ∧ M1 = M ∧ ∀ l', l' < L → M.2.1 44 l' = -1 → ∀ r, r < R → bt (M.2.1 46 l') r = true) ∨ (fl = 1 ∧ ckP (M.2.1 46) < ckP (M1.2.1 46)) := e5
    subst e1
    have o2 : gX10_of 2 M1 = some (nI L) := by rw [← eL]; exact (hM.tm e2).of (j := 2) (by omega)
    refine ⟨fun k36 => k36 fl M1, fun f => ?_, ?_⟩
    · funext k36
      show gbX10_marry_44 _ _ _ _ _ = _
      unfold gbX10_marry_44
      rw [o2]
      simp only [Option.bind_some]
      rw [if_pos (nI_le (Nat.le_refl _) (by omega))]
    · rcases e5 with ⟨rfl, rfl, a⟩ | ⟨rfl, a⟩
      · exact Or.inl ⟨a, rfl⟩
      · exact Or.inr ⟨M1, rfl, e2, e3, e4, a⟩
theorem ck_le (K : Nat → Int32) : ckP K ≤ 16 := by
  have a0 := fa_cnt_le (bt (K 0)) 4
  have a1 := fa_cnt_le (bt (K 1)) 4
  have a2 := fa_cnt_le (bt (K 2)) 4
  have a3 := fa_cnt_le (bt (K 3)) 4
  unfold ckP; omega
theorem m_marry36 (h : CX C B n c) {L R : Nat} (hL : L ≤ 4) (hR : R ≤ 4) (eL : B 2 = nI L) (eR : B 3 = nI R) : ∀ d M, MX B i n c A M → MC (llC C) (rlC C) L R (M.2.1 44) (M.2.1 45) (M.2.1 46) → LW (llC C) (rlC C) L R (M.2.1 46) → 16 ≤ ckP (M.2.1 46) + d → ∀ f, d + 1 < f → ∃ M', gfX10_marry_36 f 1 M = some M' ∧ MC (llC C) (rlC C) L R (M'.2.1 44) (M'.2.1 45) (M'.2.1 46) ∧ LW (llC C) (rlC C) L R (M'.2.1 46) ∧ CO L R (M'.2.1 44) (M'.2.1 46) := by
  intro d
  induction d with
  | zero =>
    intro M hM h2 h3 hd f hf
    obtain ⟨f', rfl⟩ : ∃ f', f = f' + 2 := ⟨f - 2, by omega⟩
    have e0 : gfX10_marry_36 (f' + 2) 1 M = gfX10_marry_44 (gfX10_marry_36 (f' + 1)) FU 0 0 M := by
      show gbX10_marry_36 (gfX10_marry_36 (f' + 1)) 1 M = _
      unfold gbX10_marry_36
      rw [if_neg (by decide)]
    rcases m_pass h hL hR eL eR hM h2 h3 with ⟨q1, q2⟩ | ⟨M', q1, q2, q3, q4, q5⟩
    · refine ⟨M, ?_, h2, h3, q1⟩
      rw [e0, q2]
      show gbX10_marry_36 (gfX10_marry_36 f') 0 M = _
      unfold gbX10_marry_36
      rw [if_pos rfl]
    · have := ck_le (M'.2.1 46); omega
  | succ d ih =>
    intro M hM h2 h3 hd f hf
    obtain ⟨f', rfl⟩ : ∃ f', f = f' + 2 := ⟨f - 2, by omega⟩
    have e0 : gfX10_marry_36 (f' + 2) 1 M = gfX10_marry_44 (gfX10_marry_36 (f' + 1)) FU 0 0 M := by
      show gbX10_marry_36 (gfX10_marry_36 (f' + 1)) 1 M = _
      unfold gbX10_marry_36
      rw [if_neg (by decide)]
    rcases m_pass h hL hR eL eR hM h2 h3 with ⟨q1, q2⟩ | ⟨M', q1, q2, q3, q4, q5⟩
    · refine ⟨M, ?_, h2, h3, q1⟩
      rw [e0, q2]
      show gbX10_marry_36 (gfX10_marry_36 f') 0 M = _
      unfold gbX10_marry_36
      rw [if_pos rfl]
    · rw [e0, q1]
      exact ih M' (hM.tm q2) q3 q4 (by omega) (f' + 1) (by omega)
theorem m_marry (h : CX C B n c) {L R : Nat} (hL : L ≤ 4) (hR : R ≤ 4) (eL : B 2 = nI L) (eR : B 3 = nI R) (hM : MX B i n c A M) : ∃ M', gX10_marry M = some M' ∧ MC (llC C) (rlC C) L R (M'.2.1 44) (M'.2.1 45) (M'.2.1 46) ∧ LW (llC C) (rlC C) L R (M'.2.1 46) ∧ CO L R (M'.2.1 44) (M'.2.1 46) := by
  have key := lpR (fun f (q : Int32 × SV) => gfX10_marry_2 f q.1 q.2) (fun j q => q.1 = nI j ∧ FrM M q.2 ∧ ∀ k, k < j → q.2.2.1 44 k = -1 ∧ q.2.2.1 45 k = -1 ∧ q.2.2.1 46 k = 0) (fun b => ∃ M1, b = gfX10_marry_36 FU 1 M1 ∧ FrM M M1 ∧ ∀ k, k < 4 → M1.2.1 44 k = -1 ∧ M1.2.1 45 k = -1 ∧ M1.2.1 46 k = 0) 4 ?_ ?_ (0, M) ⟨rfl, FrM.rf, fun k hk => by omega⟩ FU (by rw [FUn]; omega)
  · obtain ⟨M1, k1, k2, k3⟩ := key
    obtain ⟨m0, l0⟩ := MC.start (ll := llC C) (rl := rlC C) (W := M1.2.1 44) (H := M1.2.1 45) (K := M1.2.1 46) (fun k hk => (k3 k hk).1) (fun k hk => (k3 k hk).2.1) (fun k hk => (k3 k hk).2.2) hL hR
    obtain ⟨M', q1, q2⟩ := m_marry36 h hL hR eL eR 16 M1 (hM.tm k2) m0 l0 (by omega) FU (by rw [FUn]; omega)
    exact ⟨M', by rw [← q1]; exact k1, q2⟩
  · rintro j hj ⟨l, M1⟩ ⟨e1, e2, e3⟩
    replace e1 : l = nI j := e1
    replace e2 : FrM M M1 := e2
    replace e3 : ∀ k, k < j → M1.2.1 44 k = -1 ∧ M1.2.1 45 k = -1 ∧ M1.2.1 46 k = 0 := e3
    subst e1
    left
    refine ⟨(nI (j + 1), wR (wR (wR M1 44 (upd (M1.2.1 44) j (-1))) 45 (upd (M1.2.1 45) j (-1))) 46 (upd (M1.2.1 46) j 0)), fun f => ?_, rfl, ((e2.w (by omega) _).w (by omega) _).w (by omega) _, fun k hk => ?_⟩
    · show gbX10_marry_2 _ _ _ = _
      unfold gbX10_marry_2
      rw [if_neg (show ¬ (4 : Int32) ≤ nI j from nI_ge (b := 4) hj (by omega)), wA_nI (by omega) (by omega)]
      simp only [Option.bind_some]
      rw [wA_nI (by omega) (by omega)]
      simp only [Option.bind_some]
      rw [wA_nI (by omega) (by omega)]
      simp only [Option.bind_some, nm, ← nI_succ]
      rfl
    · show upd (M1.2.1 44) j (-1) k = -1 ∧ upd (M1.2.1 45) j (-1) k = -1 ∧ upd (M1.2.1 46) j 0 k = 0
      by_cases e : k = j
      · subst e; rw [pk_us, pk_us, pk_us]; exact ⟨rfl, rfl, rfl⟩
      · rw [pk_un e, pk_un e, pk_un e]; exact e3 k (by omega)
  · rintro ⟨l, M1⟩ ⟨e1, e2, e3⟩
    replace e1 : l = nI 4 := e1
    subst e1
    refine ⟨gfX10_marry_36 FU 1 M1, fun f => ?_, M1, rfl, e2, e3⟩
    show gbX10_marry_2 _ _ _ = _
    unfold gbX10_marry_2
    rw [if_pos (show (4 : Int32) ≤ nI 4 by decide)]
end MZ
theorem qu_married (Wc : WC) : Qu_married Wc := by
  intro z M ρM hI a1 a2 a3 ha3
  have hsk := hI.2.2.2.1
  obtain ⟨ρ, S, hS⟩ := hsk.2.2.2.2.1
  have hz : 83 + szV 1 ≤ z.length := by rw [s1]; have := hI.1; omega
  unfold fX9_married gX10_married
  rw [if_pos (x9_o hsk), x9_g (k := 0) (x := 16) hsk rfl]
  simp only [Option.bind_some, nm]
  rcases land_cases hI a1 with ⟨i, a, ρc, C, n, c, hi, rfl, h1, ha, hC, hx, hb⟩ | ⟨h1, hb⟩
  · obtain ⟨S0, M', b1, b2_, b3, b4, b5, b6⟩ := hb (wI M 0 0) rfl rfl (fun _ => 0, fun _ _ => 0, 0)
    obtain ⟨P, L, R, hP, hL, hR, eP, eL, eR⟩ := hx.cnt
    obtain ⟨⟨-, -, k10, k11, -, -⟩, -⟩ := hx.cr
    rw [eL] at k10
    rw [eR] at k11
    obtain ⟨S', c1, c2, c3, c4⟩ := c_marry hx hL hR k10 k11 S
    obtain ⟨M2, d1, d2, d3, d4⟩ := m_marry hx hL hR eL eR b3
    obtain ⟨eh, ew⟩ := MC.one hL hR c2 c3 c4 d2 d3 d4
    have zm : fX1_marry 83 a z = some (wr 1 83 ρ S' z) := by
      have := eX1_marry (ρ := ρ) hz hC (Or.inr (by rw [s1]; omega)) S
      rw [wr_id hS, c1] at this; exact this
    have hI' := hI.scratch scr1 (by decide) ρ S'
    have hsk' := hI'.2.2.2.1
    have hS' : RD 1 83 ρ S' (wr 1 83 ρ S' z) := rd_wr hz
    have hC' : RD 0 a ρc C (wr 1 83 ρ S' z) := hC.far (Or.inr (by rw [s1]; omega))
    rw [h1, b2_, x9_g (k := 6) (x := 83) hsk rfl]
    simp only [Option.bind_some, nq, b2, show ¬ ((1 : Int32) = 0) by decide, if_false]
    rw [zm]
    have g0 : gN 1 0 (wr 1 83 ρ S' z) 83 = some (83 + 1) := gN_rd hS' (k := 0) rfl (Or.inl rfl)
    have g1 : gN 1 1 (wr 1 83 ρ S' z) 83 = some (83 + 2) := gN_rd hS' (k := 1) rfl (Or.inl rfl)
    have w0 : RW 0 (83 + 1) 4 (S'.2.1 0) (wr 1 83 ρ S' z) := rw_rd hS' (k := 0) rfl rfl (by decide) 0 rfl (by decide)
    have w1 : RW 0 (83 + 2) 4 (S'.2.1 1) (wr 1 83 ρ S' z) := rw_rd hS' (k := 1) rfl rfl (by decide) 0 rfl (by decide)
    simp only [Option.bind_some, x9_g (k := 6) (x := 83) hsk' rfl, g0, g1, gI_rd hC' (k := 10) rfl, gI_rd hC' (k := 11) rfl, k10, k11, eX9_pick w0, eX9_pick w1]
    unfold gbX10_married_25
    have o2 : gX10_of 2 M' = some (nI L) := by rw [← eL]; exact b3.of (j := 2) (by omega)
    have o3 : gX10_of 3 M' = some (nI R) := by rw [← eR]; exact b3.of (j := 3) (by omega)
    rcases ha3 with rfl | rfl
    · rw [if_pos rfl, if_pos rfl, o2]
      simp only [Option.bind_some]
      rcases in_n (n := L) (by omega) a2 with ⟨k, hk, rfl, e⟩ | ⟨q, e⟩
      · rw [e, if_neg (by decide), d1, pick_nI hk hL (by omega)]
        simp only [Option.bind_some, if_true]
        rw [rA_nI (by omega) (by omega), ew k hk]
        exact ⟨_, _, _, rfl, hI', rfl⟩
      · rw [e, if_pos rfl, pickS (by omega)]
        have : ¬ (0 ≤ a2.toInt ∧ a2.toInt < (nI L).toInt ∧ a2.toInt < ((4 : Nat) : Int)) := by
          rcases q with q | q
          · rw [fa_lt, t0] at q; omega
          · rw [fa_le] at q; omega
        rw [if_neg this]
        exact ⟨_, _, _, rfl, hI', rfl⟩
    · rw [if_neg (show ¬ (1 : Int32) = 0 by decide), if_neg (show ¬ (1 : Int32) = 0 by decide), o3]
      simp only [Option.bind_some, show ¬ ((1 : Int32) = 0) by decide, if_false]
      rcases in_n (n := R) (by omega) a2 with ⟨k, hk, rfl, e⟩ | ⟨q, e⟩
      · rw [e, if_neg (by decide), d1, pick_nI hk hR (by omega)]
        simp only [Option.bind_some]
        rw [rA_nI (by omega) (by omega), eh k hk]
        exact ⟨_, _, _, rfl, hI', rfl⟩
      · rw [e, if_pos rfl, pickS (by omega)]
        have : ¬ (0 ≤ a2.toInt ∧ a2.toInt < (nI R).toInt ∧ a2.toInt < ((4 : Nat) : Int)) := by
          rcases q with q | q
          · rw [fa_lt, t0] at q; omega
          · rw [fa_le] at q; omega
        rw [if_neg this]
        exact ⟨_, _, _, rfl, hI', rfl⟩
  · rw [h1, hb (wI M 0 0) rfl]
    simp only [Option.bind_some, nq, b2, if_true]
    exact ⟨_, _, _, rfl, hI, rfl⟩
