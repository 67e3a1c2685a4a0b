/-! ===== unhappy ===== -/
/-- nobody, or one of four -/
def no4 (x : Int32) : Prop := x = -1 ∨ ∃ o, o < 4 ∧ x = nI o
def wdL (C : SV) (x : Int32) (l r : Nat) : Bool := decide (x = -1) || decide (¬ llC C l r ≤ llC C l x.toNatClampNeg)
def wdR (C : SV) (x : Int32) (r l : Nat) : Bool := decide (x = -1) || decide (¬ rlC C r l ≤ rlC C r x.toNatClampNeg)
def unP (C : SV) (W H : Nat → Int32) (l r : Nat) : Bool := decide (¬ W l = nI r) && wdL C (W l) l r && wdR C (H r) r l
def sumN (f : Nat → Nat) : Nat → Nat
  | 0 => 0
  | k + 1 => sumN f k + f k
section UN
variable {C : SV} {B : Nat → Int32} {i n c : Nat} {A : Nat → Int32} {M S : SV}
theorem c_lw (C S : SV) {l r : Nat} (hl : l < 4) (hr : r < 4) (h : no4 (S.2.1 0 l)) : gX1_leftWould C (nI l) (nI r) S = some (if wdL C (S.2.1 0 l) l r then 1 else 0) := by
  unfold gX1_leftWould wdL
  rw [rA_nI (by omega) (by omega)]
  simp only [Option.bind_some]
  rcases h with e | ⟨o, ho, e⟩
  · rw [e]; simp
  · rw [e, if_neg (nI_m1 (by omega)), c_ll C hl hr, c_ll C hl ho, nI_clamp (by omega)]
    simp only [Option.bind_some]
    have := nI_m1 (show o < 2 ^ 31 by omega)
    by_cases q : llC C l r ≤ llC C l o
    · simp [q, this]
    · simp [q]
theorem c_rw (C S : SV) {l r : Nat} (hl : l < 4) (hr : r < 4) (h : no4 (S.2.1 1 r)) : gX1_rightWould C (nI r) (nI l) S = some (if wdR C (S.2.1 1 r) r l then 1 else 0) := by
  unfold gX1_rightWould wdR
  rw [rA_nI (by omega) (by omega)]
  simp only [Option.bind_some]
  rcases h with e | ⟨o, ho, e⟩
  · rw [e]; simp
  · rw [e, if_neg (nI_m1 (by omega)), c_rl C hl hr, c_rl C ho hr, nI_clamp (by omega)]
    simp only [Option.bind_some]
    have := nI_m1 (show o < 2 ^ 31 by omega)
    by_cases q : rlC C r l ≤ rlC C r o
    · simp [q, this]
    · simp [q]
theorem c_un_in (hR : c ≤ 4) (e11 : C.1 11 = nI c) (hW : ∀ k, k < 4 → no4 (S.2.1 0 k)) (hH : ∀ k, k < 4 → no4 (S.2.1 1 k)) (k40 : Int32 → Int32 → SV → Option (Int32 × SV)) (x : Nat) {l : Nat} (hl : l < 4) : gfX1_countUnhappy_51 k40 C FU (nI x) (nI l) 0 S = k40 (nI (x + fa_cnt (unP C (S.2.1 0) (S.2.1 1) l) c)) (nI (l + 1)) S := by
  refine lp (fun f (q : Int32 × Int32) => gfX1_countUnhappy_51 k40 C f q.1 (nI l) q.2 S) (fun j => (nI (x + fa_cnt (unP C (S.2.1 0) (S.2.1 1) l) j), nI j)) _ c ?_ ?_ FU (by rw [FUn]; omega)
  · intro j hj f
    show gbX1_countUnhappy_51 _ _ _ _ _ _ _ = gfX1_countUnhappy_51 k40 C f (nI (x + fa_cnt (unP C (S.2.1 0) (S.2.1 1) l) (j + 1))) (nI l) (nI (j + 1)) S
    unfold gbX1_countUnhappy_51
    rw [e11, if_neg (nI_ge hj (by omega)), rA_nI (by omega) (by omega), c_lw C S hl (by omega) (hW l hl), c_rw C S hl (by omega) (hH j (by omega))]
    simp only [Option.bind_some, nm, ← nI_succ]
    by_cases q1 : S.2.1 0 l = nI j
    · rw [if_pos q1, fa_cnt_no (by simp [unP, q1])]
    · rw [if_neg q1]
      cases q2 : wdL C (S.2.1 0 l) l j
      · rw [fa_cnt_no (by simp [unP, q2])]; simp
      · cases q3 : wdR C (S.2.1 1 j) j l
        · rw [fa_cnt_no (by simp [unP, q3])]; simp
        · rw [fa_cnt_yes (by simp [unP, q1, q2, q3])]; simp [← Nat.add_assoc]
  · intro f
    show gbX1_countUnhappy_51 _ _ _ _ _ _ _ = _
    unfold gbX1_countUnhappy_51
    rw [e11, if_pos (nI_le (Nat.le_refl _) (by omega)), nI_succ]; rfl
theorem c_un (hL : n ≤ 4) (hR : c ≤ 4) (e10 : C.1 10 = nI n) (e11 : C.1 11 = nI c) (hW : ∀ k, k < 4 → no4 (S.2.1 0 k)) (hH : ∀ k, k < 4 → no4 (S.2.1 1 k)) : gfX1_countUnhappy_40 C FU 0 0 S = some (nI (sumN (fun l => fa_cnt (unP C (S.2.1 0) (S.2.1 1) l) c) n), S) := by
  refine lp (fun f (q : Int32 × Int32) => gfX1_countUnhappy_40 C f q.1 q.2 S) (fun j => (nI (sumN (fun l => fa_cnt (unP C (S.2.1 0) (S.2.1 1) l) c) j), nI j)) _ n ?_ ?_ FU (by rw [FUn]; omega)
  · intro j hj f
    show gbX1_countUnhappy_40 _ _ _ _ _ = _
    unfold gbX1_countUnhappy_40
    rw [e10, if_neg (nI_ge hj (by omega)), c_un_in hR e11 hW hH _ _ (by omega)]
    rfl
  · intro f
    show gbX1_countUnhappy_40 _ _ _ _ _ = _
    unfold gbX1_countUnhappy_40
    rw [e10, if_pos (nI_le (Nat.le_refl _) (by omega))]
theorem m_un_in {L R : Nat} (h : CX C B n c) (hM : MX B i n c A M) (hR : R ≤ 4) (eR : B 3 = nI R) (hW : ∀ k, k < 4 → no4 (M.2.1 44 k)) (hH : ∀ k, k < 4 → no4 (M.2.1 45 k)) (k104 : Int32 → Int32 → SV → Option (Int32 × SV)) (x : Nat) {l : Nat} (hl : l < 4) : gfX10_unhappy_116 k104 FU (nI x) (nI l) 0 M = k104 (nI (x + fa_cnt (unP C (M.2.1 44) (M.2.1 45) l) R)) (nI (l + 1)) M := by
  have o3 : gX10_of 3 M = some (nI R) := by rw [← eR]; exact hM.of (j := 3) (by omega)
  refine lp (fun f (q : Int32 × Int32) => gfX10_unhappy_116 k104 f q.1 (nI l) q.2 M) (fun j => (nI (x + fa_cnt (unP C (M.2.1 44) (M.2.1 45) l) j), nI j)) _ R ?_ ?_ FU (by rw [FUn]; omega)
  · intro j hj f
    show gbX10_unhappy_116 _ _ _ _ _ _ = gfX10_unhappy_116 k104 f (nI (x + fa_cnt (unP C (M.2.1 44) (M.2.1 45) l) (j + 1))) (nI l) (nI (j + 1)) M
    -- the last step
    have e203 : ∀ a b : Bool, gbX10_unhappy_203 k104 (gfX10_unhappy_116 k104 f) (nI (x + fa_cnt (unP C (M.2.1 44) (M.2.1 45) l) j)) (nI l) (nI j) (if a then 1 else 0) (if b then 1 else 0) M = gfX10_unhappy_116 k104 f (nI (x + fa_cnt (unP C (M.2.1 44) (M.2.1 45) l) j + (if (decide (¬ M.2.1 44 l = nI j) && a && b) then 1 else 0))) (nI l) (nI (j + 1)) M := by
      intro a b
      unfold gbX10_unhappy_203
      rw [rA_nI (by omega) (by omega)]
      simp only [Option.bind_some, nm, add0, ← nI_succ]
      by_cases q1 : M.2.1 44 l = nI j
      · rw [if_pos q1]; simp [q1]
      · rw [if_neg q1]
        cases a
        · simp
        · cases b
          · simp
          · simp [q1]
    have e162 : ∀ a : Bool, gbX10_unhappy_162 k104 (gfX10_unhappy_116 k104 f) (nI (x + fa_cnt (unP C (M.2.1 44) (M.2.1 45) l) j)) (nI l) (nI j) (if a then 1 else 0) M = gfX10_unhappy_116 k104 f (nI (x + fa_cnt (unP C (M.2.1 44) (M.2.1 45) l) j + (if (decide (¬ M.2.1 44 l = nI j) && a && wdR C (M.2.1 45 j) j l) then 1 else 0))) (nI l) (nI (j + 1)) M := by
      intro a
      unfold gbX10_unhappy_162 gbX10_unhappy_198
      rw [rA_nI (by omega) (by omega)]
      simp only [Option.bind_some]
      rcases hH j (by omega) with e | ⟨o, ho, e⟩
      · rw [e, if_pos rfl]
        have := e203 a true
        simp only [if_true] at this
        rw [this]; simp [wdR]
      · rw [e, if_neg (nI_m1 (by omega)), m_rl h hM hl (by omega), m_rl h hM ho (by omega)]
        simp only [Option.bind_some]
        have nm1 := nI_m1 (show o < 2 ^ 31 by omega)
        by_cases q : rlC C j l ≤ rlC C j o
        · rw [if_pos q]
          have := e203 a false
          simp only [Bool.false_eq_true, if_false] at this
          rw [this]; simp [wdR, nI_clamp (show o < 2 ^ 31 by omega), q, nm1]
        · rw [if_neg q]
          have := e203 a true
          simp only [if_true] at this
          rw [this]; simp [wdR, nI_clamp (show o < 2 ^ 31 by omega), q]
    have hs : x + fa_cnt (unP C (M.2.1 44) (M.2.1 45) l) (j + 1) = x + fa_cnt (unP C (M.2.1 44) (M.2.1 45) l) j + (if (decide (¬ M.2.1 44 l = nI j) && wdL C (M.2.1 44 l) l j && wdR C (M.2.1 45 j) j l) then 1 else 0) := by
      rw [fa_cnt, Nat.add_assoc]; rfl
    rw [hs]
    unfold gbX10_unhappy_116 gbX10_unhappy_157
    rw [o3]
    simp only [Option.bind_some]
    rw [if_neg (nI_ge hj (by omega)), rA_nI (by omega) (by omega)]
    simp only [Option.bind_some]
    rcases hW l hl with e | ⟨o, ho, e⟩
    · rw [if_pos e]
      have := e162 true
      simp only [if_true] at this
      rw [this]; simp [wdL, e]
    · have nm1 := nI_m1 (show o < 2 ^ 31 by omega)
      rw [if_neg (by rw [e]; exact nm1), m_ll h hM hl (by omega)]
      simp only [Option.bind_some]
      rw [e, m_ll h hM hl ho]
      simp only [Option.bind_some]
      rw [e] at e162
      by_cases q : llC C l j ≤ llC C l o
      · rw [if_pos q]
        have := e162 false
        simp only [Bool.false_eq_true, if_false] at this
        rw [this]; simp [wdL, nI_clamp (show o < 2 ^ 31 by omega), q, nm1]
      · rw [if_neg q]
        have := e162 true
        simp only [if_true] at this
        rw [this]; simp [wdL, nI_clamp (show o < 2 ^ 31 by omega), q]
  · intro f
    show gbX10_unhappy_116 _ _ _ _ _ _ = _
    unfold gbX10_unhappy_116
    rw [o3]
    simp only [Option.bind_some]
    rw [if_pos (nI_le (Nat.le_refl _) (by omega)), nI_succ]; rfl
theorem m_un {L R : Nat} (h : CX C B n c) (hM : MX B i n c A M) (hL : L ≤ 4) (hR : R ≤ 4) (eL : B 2 = nI L) (eR : B 3 = nI R) (hW : ∀ k, k < 4 → no4 (M.2.1 44 k)) (hH : ∀ k, k < 4 → no4 (M.2.1 45 k)) : gfX10_unhappy_104 FU 0 0 M = some (nI (sumN (fun l => fa_cnt (unP C (M.2.1 44) (M.2.1 45) l) R) L), M) := by
  have o2 : gX10_of 2 M = some (nI L) := by rw [← eL]; exact hM.of (j := 2) (by omega)
  refine lp (fun f (q : Int32 × Int32) => gfX10_unhappy_104 f q.1 q.2 M) (fun j => (nI (sumN (fun l => fa_cnt (unP C (M.2.1 44) (M.2.1 45) l) R) j), nI j)) _ L ?_ ?_ FU (by rw [FUn]; omega)
  · intro j hj f
    show gbX10_unhappy_104 _ _ _ _ = _
    unfold gbX10_unhappy_104
    rw [o2]
    simp only [Option.bind_some]
    rw [if_neg (nI_ge hj (by omega)), m_un_in (L := L) h hM hR eR hW hH _ _ (by omega)]
    rfl
  · intro f
    show gbX10_unhappy_104 _ _ _ _ = _
    unfold gbX10_unhappy_104
    rw [o2]
    simp only [Option.bind_some]
    rw [if_pos (nI_le (Nat.le_refl _) (by omega))]
/-- the couples laid, in both -/
theorem un_lay (h : CX C B n c) (hM : MX B i n c A M) (S : SV) : ∃ S' M', gX1_countUnhappy C S = gfX1_countUnhappy_40 C FU 0 0 S' ∧ gfX10_unhappy_17 FU 0 M = gfX10_unhappy_104 FU 0 0 M' ∧ FrM M M' ∧ (∀ k, k < 4 → S'.2.1 0 k = M'.2.1 44 k ∧ no4 (S'.2.1 0 k)) ∧ ∀ k, k < 4 → S'.2.1 1 k = M'.2.1 45 k ∧ no4 (S'.2.1 1 k) := by
  have hc := h.hc
  obtain ⟨S1, p1, p2⟩ := c_part S
  have key17 := lpR (fun f (q : Int32 × SV) => gfX10_unhappy_17 f q.1 q.2) (fun j q => q.1 = nI j ∧ FrM M q.2 ∧ ∀ k, k < j → q.2.2.1 44 k = -1 ∧ q.2.2.1 45 k = -1) (fun b => ∃ M1, b = gfX10_unhappy_44 FU 0 M1 ∧ FrM M M1 ∧ ∀ k, k < 4 → M1.2.1 44 k = -1 ∧ M1.2.1 45 k = -1) 4 ?_ ?_ (0, M) ⟨rfl, FrM.rf, fun k hk => by omega⟩ FU (by rw [FUn]; omega)
  · obtain ⟨M1, k1, k2, k3⟩ := key17
    replace k1 : gfX10_unhappy_17 FU 0 M = gfX10_unhappy_44 FU 0 M1 := k1
    unfold gX1_countUnhappy
    rw [p1, k1]
    simp only [Option.bind_some]
    have key := lpT (fun f (q : Int32 × SV) => gfX1_countUnhappy_6 C f q.1 q.2) (fun f (q : Int32 × SV) => gfX10_unhappy_44 f q.1 q.2) (fun j s t => s.1 = nI j ∧ t.1 = nI j ∧ FrM M t.2 ∧ (∀ k, k < 4 → s.2.2.1 0 k = t.2.2.1 44 k ∧ no4 (s.2.2.1 0 k)) ∧ ∀ k, k < 4 → s.2.2.1 1 k = t.2.2.1 45 k ∧ no4 (s.2.2.1 1 k)) (fun b d => ∃ S' M', b = gfX1_countUnhappy_40 C FU 0 0 S' ∧ d = gfX10_unhappy_104 FU 0 0 M' ∧ FrM M M' ∧ (∀ k, k < 4 → S'.2.1 0 k = M'.2.1 44 k ∧ no4 (S'.2.1 0 k)) ∧ ∀ k, k < 4 → S'.2.1 1 k = M'.2.1 45 k ∧ no4 (S'.2.1 1 k)) c ?_ ?_ (0, S1) (0, M1) ⟨rfl, rfl, k2, fun k hk => ⟨by show S1.2.1 0 k = M1.2.1 44 k; rw [(p2 k hk).1, (k3 k hk).1], Or.inl (p2 k hk).1⟩, fun k hk => ⟨by show S1.2.1 1 k = M1.2.1 45 k; rw [(p2 k hk).2.1, (k3 k hk).2], Or.inl (p2 k hk).2.1⟩⟩ FU FU (by rw [FUn]; omega) (by rw [FUn]; omega)
    · exact key
    · rintro j hj ⟨l, S2⟩ ⟨l', M2⟩ ⟨e1, e2, e3, e4, e5⟩
      replace e1 : l = nI j := e1
      replace e2 : l' = nI j := e2
      replace e3 : FrM M M2 := e3
      replace e4 : ∀ k, k < 4 → S2.2.1 0 k = M2.2.1 44 k ∧ no4 (S2.2.1 0 k) := e4
      replace e5 : ∀ k, k < 4 → S2.2.1 1 k = M2.2.1 45 k ∧ no4 (S2.2.1 1 k) := e5
      subst e1 e2
      left
      obtain ⟨a, b, ha, hb, ea, eb, -, -⟩ := h.cpl hj
      obtain ⟨-, -, c4, -⟩ := h.cr
      have hM2 := hM.tm e3
      have oa := hM2.ofa (a := 46) (k := j) (by omega)
      have ob := hM2.ofa (a := 50) (k := j) (by omega)
      rw [ea] at oa
      rw [eb] at ob
      refine ⟨(nI (j + 1), wR (wR S2 0 (upd (S2.2.1 0) a (nI b))) 1 (upd (S2.2.1 1) b (nI a))), (nI (j + 1), wR (wR M2 44 (upd (M2.2.1 44) a (nI b))) 45 (upd (M2.2.1 45) b (nI a))), fun f => ?_, fun f => ?_, rfl, rfl, (e3.w (by omega) _).w (by omega) _, fun k hk => ?_, fun k hk => ?_⟩
      · show gbX1_countUnhappy_6 _ _ _ _ = _
        unfold gbX1_countUnhappy_6
        rw [h.c14, if_neg (nI_ge hj (by omega)), rA_nI (by omega) (by omega), rA_nI (by omega) (by omega), (c4 j (by omega)).2.2.1, (c4 j (by omega)).2.2.2, ea, eb]
        simp only [Option.bind_some]
        unfold gX1_couple
        rw [if_neg (nI_pos (by omega)), if_neg (show ¬ (4 : Int32) ≤ nI a from nI_ge (b := 4) ha (by omega)), if_neg (nI_pos (by omega)), if_neg (show ¬ (4 : Int32) ≤ nI b from nI_ge (b := 4) hb (by omega)), wA_nI (by omega) (by omega)]
        simp only [Option.bind_some]
        rw [wA_nI (by omega) (by omega)]
        simp only [Option.bind_some, nm, ← nI_succ]
        rfl
      · show gbX10_unhappy_44 _ _ _ = _
        unfold gbX10_unhappy_44
        rw [hM2.cp, if_neg (nI_ge hj (by omega)), show (46 : Int32) = nI 46 from rfl, show (50 : Int32) = nI 50 from rfl, oa, ob]
        simp only [Option.bind_some]
        rw [wA_nI (by omega) (by omega)]
        simp only [Option.bind_some]
        have hM3 : MX B i n c A (wR M2 44 (upd (M2.2.1 44) a (nI b))) := hM2.wr_ (by omega) _
        have oa' := hM3.ofa (a := 46) (k := j) (by omega)
        have ob' := hM3.ofa (a := 50) (k := j) (by omega)
        rw [ea] at oa'
        rw [eb] at ob'
        rw [oa', ob']
        simp only [Option.bind_some]
        rw [wA_nI (by omega) (by omega)]
        simp only [Option.bind_some, nm, ← nI_succ]
        rfl
      · show upd (S2.2.1 0) a (nI b) k = upd (M2.2.1 44) a (nI b) k ∧ no4 (upd (S2.2.1 0) a (nI b) k)
        by_cases e : k = a
        · subst e; rw [pk_us, pk_us]; exact ⟨rfl, Or.inr ⟨b, hb, rfl⟩⟩
        · rw [pk_un e, pk_un e]; exact e4 k hk
      · show upd (S2.2.1 1) b (nI a) k = upd (M2.2.1 45) b (nI a) k ∧ no4 (upd (S2.2.1 1) b (nI a) k)
        by_cases e : k = b
        · subst e; rw [pk_us, pk_us]; exact ⟨rfl, Or.inr ⟨a, ha, rfl⟩⟩
        · rw [pk_un e, pk_un e]; exact e5 k hk
    · rintro ⟨l, S2⟩ ⟨l', M2⟩ ⟨e1, e2, e3, e4, e5⟩
      replace e1 : l = nI c := e1
      replace e2 : l' = nI c := e2
      replace e3 : FrM M M2 := e3
      subst e1 e2
      refine ⟨gfX1_countUnhappy_40 C FU 0 0 S2, gfX10_unhappy_104 FU 0 0 M2, fun f => ?_, fun f => ?_, S2, M2, rfl, rfl, e3, e4, e5⟩
      · show gbX1_countUnhappy_6 _ _ _ _ = _
        unfold gbX1_countUnhappy_6
        rw [h.c14, if_pos (nI_le (Nat.le_refl _) (by omega))]
      · show gbX10_unhappy_44 _ _ _ = _
        unfold gbX10_unhappy_44
        rw [(hM.tm e3).cp, if_pos (nI_le (Nat.le_refl _) (by omega))]
  · rintro j hj ⟨l, M1⟩ ⟨e1, e2, e3⟩
    replace e1 : l = nI j := e1
    replace e2 : FrM M M1 := e2
    replace e3 : ∀ k, k < j → M1.2.1 44 k = -1 ∧ M1.2.1 45 k = -1 := e3
    subst e1
    left
    refine ⟨(nI (j + 1), wR (wR M1 44 (upd (M1.2.1 44) j (-1))) 45 (upd (M1.2.1 45) j (-1))), fun f => ?_, rfl, (e2.w (by omega) _).w (by omega) _, fun k hk => ?_⟩
    · show gbX10_unhappy_17 _ _ _ = _
      unfold gbX10_unhappy_17
      rw [if_neg (show ¬ (4 : Int32) ≤ nI j from nI_ge (b := 4) hj (by omega)), wA_nI (by omega) (by omega)]
      simp only [Option.bind_some]
      rw [wA_nI (by omega) (by omega)]
      simp only [Option.bind_some, nm, ← nI_succ]
      rfl
    · show upd (M1.2.1 44) j (-1) k = -1 ∧ upd (M1.2.1 45) j (-1) k = -1
      by_cases e : k = j
      · subst e; rw [pk_us, pk_us]; exact ⟨rfl, rfl⟩
      · rw [pk_un e, pk_un e]; exact e3 k (by omega)
  · rintro ⟨l, M1⟩ ⟨e1, e2, e3⟩
    replace e1 : l = nI 4 := e1
    subst e1
    refine ⟨gfX10_unhappy_44 FU 0 M1, fun f => ?_, M1, rfl, e2, e3⟩
    show gbX10_unhappy_17 _ _ _ = _
    unfold gbX10_unhappy_17
    rw [if_pos (show (4 : Int32) ≤ nI 4 by decide)]
theorem sumN_cong {f g : Nat → Nat} : ∀ n, (∀ k, k < n → f k = g k) → sumN f n = sumN g n
  | 0, _ => rfl
  | n + 1, h => by
    show sumN f n + f n = sumN g n + g n
    rw [sumN_cong n (fun k hk => h k (by omega)), h n (by omega)]
end UN
theorem qu_unhappy (Wc : WC) : Qu_unhappy Wc := by
  intro z M ρM hI a1
  have hsk := hI.2.2.2.1
  obtain ⟨ρ, S, hS⟩ := hsk.2.2.2.2.1
  have hz : 83 + szV 1 ≤ z.length := by rw [s1]; have := hI.1; omega
  unfold fX9_unhappy gX10_unhappy
  rw [if_pos (x9_o hsk), x9_g (k := 0) (x := 16) hsk rfl]
  simp only [Option.bind_some, nm]
  rcases land_cases hI a1 with ⟨i, a, ρc, C, n, c, hi, rfl, h1, ha, hC, hx, hb⟩ | ⟨h1, hb⟩
  · obtain ⟨S0, M', b1, b2_, b3, b4, b5, b6⟩ := hb (wI M 0 0) rfl rfl (fun _ => 0, fun _ _ => 0, 0)
    obtain ⟨P, L, R, hP, hL, hR, eP, eL, eR⟩ := hx.cnt
    obtain ⟨⟨-, -, k10, k11, -, -⟩, -⟩ := hx.cr
    rw [eL] at k10
    rw [eR] at k11
    obtain ⟨S', M2, u1, u2, u3, u4, u5⟩ := un_lay hx b3 S
    have hW2 : ∀ k, k < 4 → no4 (M2.2.1 44 k) := fun k hk => by rw [← (u4 k hk).1]; exact (u4 k hk).2
    have hH2 : ∀ k, k < 4 → no4 (M2.2.1 45 k) := fun k hk => by rw [← (u5 k hk).1]; exact (u5 k hk).2
    have v1 := c_un hL hR k10 k11 (fun k hk => (u4 k hk).2) (fun k hk => (u5 k hk).2)
    have v2 := m_un hx (b3.tm u3) hL hR eL eR hW2 hH2
    have ev : sumN (fun l => fa_cnt (unP C (S'.2.1 0) (S'.2.1 1) l) R) L = sumN (fun l => fa_cnt (unP C (M2.2.1 44) (M2.2.1 45) l) R) L := sumN_cong L (fun l hl => fa_cnt_cong (fun r hr => by unfold unP; rw [(u4 l (by omega)).1, (u5 r (by omega)).1]))
    have zm := eX1_countUnhappy (ρ := ρ) hz hC (Or.inr (by rw [s1]; omega)) S
    rw [wr_id hS, u1, v1] at zm
    rw [h1, b2_, x9_g (k := 6) (x := 83) hsk rfl]
    simp only [Option.bind_some, nq, b2, show ¬ ((1 : Int32) = 0) by decide, if_false]
    rw [zm, u2, v2, ev]
    exact ⟨_, _, _, rfl, hI.scratch scr1 (by decide) _ _, rfl⟩
  · rw [h1, hb (wI M 0 0) rfl]
    simp only [Option.bind_some, nq, b2, if_true]
    exact ⟨_, _, _, rfl, hI, rfl⟩
