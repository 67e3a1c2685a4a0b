/-! ===== along PATHS; ways ===== -/
theorem lpU {σ τ β γ : Type} (G : Nat → σ → β) (H : Nat → τ → γ) (I : Nat → σ → τ → Prop) (Q : β → γ → Prop) (N : Nat)
    (hs : ∀ i, i < N → ∀ s t, I i s t → (∃ s' t', (∀ n, G (n + 1) s = G n s') ∧ (∀ n, H (n + 1) t = H n t') ∧ I (i + 1) s' t') ∨ ∃ b, (∀ n, G (n + 1) s = b) ∧ ∀ m, N - i < m → Q b (H m t))
    (he : ∀ s t, I N s t → ∃ b, (∀ n, G (n + 1) s = b) ∧ ∀ m, 0 < m → Q b (H m t)) : ∀ s t, I 0 s t → ∀ n m, N < n → N < m → Q (G n s) (H m t) := by
  have key : ∀ d j, j + d = N → ∀ s t, I j s t → ∀ n m, d < n → d < m → Q (G n s) (H m t) := by
    intro d
    induction d with
    | zero =>
      intro j hj s t hI n m hn hm
      obtain ⟨n', rfl⟩ : ∃ m, n = m + 1 := ⟨n - 1, by omega⟩
      rw [show j = N by omega] at hI
      obtain ⟨b, e1, q⟩ := he s t hI
      rw [e1]; exact q m hm
    | succ d ih =>
      intro j hj s t hI n m hn hm
      obtain ⟨n', rfl⟩ : ∃ m, n = m + 1 := ⟨n - 1, by omega⟩
      obtain ⟨m', rfl⟩ : ∃ k, m = k + 1 := ⟨m - 1, by omega⟩
      rcases hs j (by omega) s t hI with ⟨s', t', e1, e2, hI'⟩ | ⟨b, e1, q⟩
      · rw [e1, e2]; exact ih (j + 1) (by omega) s' t' hI' n' m' (by omega) (by omega)
      · rw [e1]; exact q _ (by omega)
  intro s t hI n m hn hm
  exact key N 0 (by omega) s t hI n m hn hm
def sub (n : Nat) (x : Int32) : Prop := ∀ k, n ≤ k → k < 32 → bt x k = false
def conn (B : Nat → Int32) (p t k : Nat) : Prop := (B (54 + p) = nI t ∧ B (66 + p) = nI k) ∨ (B (54 + p) = nI k ∧ B (66 + p) = nI t)
theorem bt_iff {a b : Bool} (h : a = true ↔ b = true) : a = b := by cases a <;> cases b <;> simp_all
section PT
variable {C : SV} {B : Nat → Int32} {i n c : Nat} {A : Nat → Int32} {M S : SV}
theorem CX.pth (h : CX C B n c) : ∃ P, P ≤ 12 ∧ B 1 = nI P ∧ (∀ p, p < P → ∃ a b, a < n ∧ b < n ∧ B (54 + p) = nI a ∧ B (66 + p) = nI b) ∧ ∀ t k, isNr B t k ↔ ∃ p, p < P ∧ conn B p t k := by
  have hn := h.hn
  obtain ⟨⟨-, v1, -, -, -, -⟩, -, -, -, v, -⟩ := h.vb
  obtain ⟨P, hP, eP⟩ := vp_in_of (x := B 1) (n := 13) (vp_in_iff.mpr ⟨v1.1, by have := v1.2; omega⟩) (by decide)
  have tP : (B 1).toInt = P := by rw [eP, nI_toInt (by omega)]
  refine ⟨P, by omega, eP, fun p hp => ?_, fun t k => ?_⟩
  · obtain ⟨⟨a1, a2⟩, ⟨b1, b2⟩⟩ := v p (by rw [tP]; omega)
    rw [h.t0] at a2 b2
    obtain ⟨a, ha, ea⟩ := vp_in_of (x := B (54 + p)) (n := n) (vp_in_iff.mpr ⟨a1, by omega⟩) (by omega)
    obtain ⟨b, hb, eb⟩ := vp_in_of (x := B (66 + p)) (n := n) (vp_in_iff.mpr ⟨b1, by omega⟩) (by omega)
    exact ⟨a, b, ha, hb, ea, eb⟩
  · unfold isNr conn
    constructor
    · rintro ⟨p, hp, q⟩; exact ⟨p, by rw [tP] at hp; omega, q⟩
    · rintro ⟨p, hp, q⟩; exact ⟨p, by rw [tP]; omega, q⟩
theorem CX.nrn (h : CX C B n c) {t k : Nat} (hk : k < 2 ^ 31) (ht : t < 2 ^ 31) (hr : isNr B t k) : t < n ∧ k < n := by
  have hn := h.hn
  obtain ⟨P, hP, eP, pp, pr⟩ := h.pth
  obtain ⟨p, hp, q⟩ := (pr t k).mp hr
  obtain ⟨a, b, ha, hb, ea, eb⟩ := pp p hp
  unfold conn at q
  rw [ea, eb] at q
  rcases q with ⟨q1, q2⟩ | ⟨q1, q2⟩
  · have := (nI_eq (by omega) ht).mp q1
    have := (nI_eq (by omega) hk).mp q2
    omega
  · have := (nI_eq (by omega) hk).mp q1
    have := (nI_eq (by omega) ht).mp q2
    omega
/-- one step along a PATH, or none -/
def stepTo (B : Nat → Int32) (n : Nat) (x y : Int32) : Prop := ∀ k, k < 32 → (bt y k = true ↔ bt x k = true ∨ ∃ t, t < n ∧ bt x t = true ∧ isNr B t k)
theorem c_spread (h : CX C B n c) (S : SV) (x : Int32) : ∃ y, gX6_spread C x S = some y ∧ stepTo B n x y := by
  have hn := h.hn
  have key := lpR (fun f (q : Int32 × Int32) => gfX6_spread_4 C S f x q.1 q.2) (fun j q => q.2 = nI j ∧ ∀ k, k < 32 → (bt q.1 k = true ↔ bt x k = true ∨ ∃ t, t < j ∧ bt x t = true ∧ isNr B t k)) (fun b => ∃ y, b = some y ∧ stepTo B n x y) n ?_ ?_ (x, 0) ⟨rfl, fun k hk => by simp⟩ FU (by rw [FUn]; omega)
  · exact key
  · rintro j hj ⟨y, l⟩ ⟨e1, e2⟩
    replace e1 : l = nI j := e1
    replace e2 : ∀ k, k < 32 → (bt y k = true ↔ bt x k = true ∨ ∃ t, t < j ∧ bt x t = true ∧ isNr B t k) := e2
    subst e1
    left
    cases hb : bt x j
    · refine ⟨(y, nI (j + 1)), fun f => ?_, rfl, fun k hk => ?_⟩
      · show gbX6_spread_4 _ _ _ _ _ _ = _
        unfold gbX6_spread_4
        rw [h.c0, if_neg (nI_ge hj (by omega)), if_pos ((c_has0 x (by omega)).mpr hb), nI_succ]; rfl
      · show bt y k = true ↔ _
        rw [e2 k hk]
        constructor
        · rintro (q | ⟨t, q1, q2⟩)
          · exact Or.inl q
          · exact Or.inr ⟨t, by omega, q2⟩
        · rintro (q | ⟨t, q1, q2, q3⟩)
          · exact Or.inl q
          · by_cases e : t = j
            · rw [e, hb] at q2; cases q2
            · exact Or.inr ⟨t, by omega, q2, q3⟩
    · refine ⟨(y ||| C.2.1 6 j, nI (j + 1)), fun f => ?_, rfl, fun k hk => ?_⟩
      · show gbX6_spread_4 _ _ _ _ _ _ = _
        unfold gbX6_spread_4
        rw [h.c0, if_neg (nI_ge hj (by omega)), if_neg (fun e => by rw [(c_has0 x (by omega)).mp e] at hb; cases hb), rA_nI (by omega) (by omega), nI_succ]; rfl
      · show bt (y ||| C.2.1 6 j) k = true ↔ _
        rw [b_or]
        simp only [Bool.or_eq_true]
        rw [e2 k hk, (h.cd j (by omega)).2 k hk]
        constructor
        · rintro ((q | ⟨t, q1, q2⟩) | ⟨-, q⟩)
          · exact Or.inl q
          · exact Or.inr ⟨t, by omega, q2⟩
          · exact Or.inr ⟨j, by omega, hb, q⟩
        · rintro (q | ⟨t, q1, q2, q3⟩)
          · exact Or.inl (Or.inl q)
          · by_cases e : t = j
            · subst e
              refine Or.inr ⟨?_, q3⟩
              have := (h.nrn (by omega) (by omega) q3).2; omega
            · exact Or.inl (Or.inr ⟨t, by omega, q2, q3⟩)
  · rintro ⟨y, l⟩ ⟨e1, e2⟩
    replace e1 : l = nI n := e1
    subst e1
    refine ⟨some y, fun f => ?_, y, rfl, e2⟩
    show gbX6_spread_4 _ _ _ _ _ _ = _
    unfold gbX6_spread_4
    rw [h.c0, if_pos (nI_le (Nat.le_refl _) (by omega))]
theorem m_next (h : CX C B n c) (hM : MX B i n c A M) (x : Int32) : ∃ y, gX10_nextTo x M = some y ∧ stepTo B n x y := by
  have hn := h.hn
  obtain ⟨P, hP, eP, pp, pr⟩ := h.pth
  have o1 : gX10_of 1 M = some (nI P) := by rw [← eP]; exact hM.of (j := 1) (by omega)
  have key := lpR (fun f (q : Int32 × Int32) => gfX10_nextTo_4 M f x q.1 q.2) (fun p q => q.2 = nI p ∧ ∀ k, k < 32 → (bt q.1 k = true ↔ bt x k = true ∨ ∃ t, t < n ∧ bt x t = true ∧ ∃ p', p' < p ∧ conn B p' t k)) (fun b => ∃ y, b = some y ∧ stepTo B n x y) P ?_ ?_ (x, 0) ⟨rfl, fun k hk => by simp⟩ FU (by rw [FUn]; omega)
  · exact key
  · rintro p hp ⟨y, l⟩ ⟨e1, e2⟩
    replace e1 : l = nI p := e1
    replace e2 : ∀ k, k < 32 → (bt y k = true ↔ bt x k = true ∨ ∃ t, t < n ∧ bt x t = true ∧ ∃ p', p' < p ∧ conn B p' t k) := e2
    subst e1
    left
    obtain ⟨a, b, ha, hb, ea, eb⟩ := pp p hp
    have oa := hM.ofa (a := 54) (k := p) (by omega)
    have ob := hM.ofa (a := 66) (k := p) (by omega)
    rw [ea] at oa
    rw [eb] at ob
    refine ⟨((y ||| (if bt x a then shl 1 (nI b) else 0)) ||| (if bt x b then shl 1 (nI a) else 0), nI (p + 1)), fun f => ?_, rfl, fun k hk => ?_⟩
    · show gbX10_nextTo_4 _ _ _ _ _ = _
      unfold gbX10_nextTo_4 gbX10_nextTo_51
      rw [o1]
      simp only [Option.bind_some]
      rw [if_neg (nI_ge hp (by omega)), show (54 : Int32) = nI 54 from rfl, show (66 : Int32) = nI 66 from rfl, oa, ob]
      simp only [Option.bind_some, nm, m_has0 x (show a < 32 by omega), m_has0 x (show b < 32 by omega), ← nI_succ]
      cases h1 : bt x a <;> cases h2 : bt x b <;> simp
    · show bt ((y ||| (if bt x a then shl 1 (nI b) else 0)) ||| (if bt x b then shl 1 (nI a) else 0)) k = true ↔ _
      have g : ∀ (q : Bool) (u : Nat), u < 32 → (bt (if q then shl 1 (nI u) else 0) k = true ↔ q = true ∧ k = u) := by
        intro q u hu
        cases q
        · simp [b_0]
        · simp [b_1shl hu hk]
      rw [b_or, b_or]
      simp only [Bool.or_eq_true, e2 k hk, g _ b (by omega), g _ a (by omega)]
      constructor
      · rintro (((q | ⟨t, q1, q2, p', q3, q4⟩) | ⟨q1, q2⟩) | ⟨q1, q2⟩)
        · exact Or.inl q
        · exact Or.inr ⟨t, q1, q2, p', by omega, q4⟩
        · exact Or.inr ⟨a, ha, q1, p, by omega, Or.inl ⟨ea, by rw [eb, q2]⟩⟩
        · exact Or.inr ⟨b, hb, q1, p, by omega, Or.inr ⟨by rw [ea, q2], eb⟩⟩
      · rintro (q | ⟨t, q1, q2, p', q3, q4⟩)
        · exact Or.inl (Or.inl (Or.inl q))
        · by_cases e : p' = p
          · subst e
            unfold conn at q4
            rw [ea, eb] at q4
            rcases q4 with ⟨r1, r2⟩ | ⟨r1, r2⟩
            · have w1 := (nI_eq (by omega) (by omega)).mp r1
              have w2 := (nI_eq (by omega) (by omega)).mp r2
              exact Or.inl (Or.inr ⟨by rw [w1]; exact q2, w2.symm⟩)
            · have w1 := (nI_eq (by omega) (by omega)).mp r1
              have w2 := (nI_eq (by omega) (by omega)).mp r2
              exact Or.inr ⟨by rw [w2]; exact q2, w1.symm⟩
          · exact Or.inl (Or.inl (Or.inr ⟨t, q1, q2, p', by omega, q4⟩))
  · rintro ⟨y, l⟩ ⟨e1, e2⟩
    replace e1 : l = nI P := e1
    replace e2 : ∀ k, k < 32 → (bt y k = true ↔ bt x k = true ∨ ∃ t, t < n ∧ bt x t = true ∧ ∃ p', p' < P ∧ conn B p' t k) := e2
    subst e1
    refine ⟨some y, fun f => ?_, y, rfl, fun k hk => ?_⟩
    · show gbX10_nextTo_4 _ _ _ _ _ = _
      unfold gbX10_nextTo_4
      rw [o1]
      simp only [Option.bind_some]
      rw [if_pos (nI_le (Nat.le_refl _) (by omega))]
    · rw [e2 k hk]
      simp only [pr]
theorem stepTo.eq {x y y' : Int32} (h : stepTo B n x y) (h' : stepTo B n x y') : y = y' := b_ext (fun k hk => bt_iff ((h k hk).trans (h' k hk).symm))
theorem stepTo.sub (hx : CX C B n c) {x y : Int32} (h : stepTo B n x y) (hs : sub n x) : sub n y := by
  have hn := hx.hn
  intro k k1 k2
  cases hb : bt y k
  · rfl
  · rcases (h k k2).mp hb with q | ⟨t, q1, q2, q3⟩
    · rw [hs k k1 k2] at q; cases q
    · have := (hx.nrn (by omega) (by omega) q3).2; omega
theorem stepTo.zero {y : Int32} (h : stepTo B n 0 y) : y = 0 := by
  rw [eq0_bt]
  intro k hk
  cases hb : bt y k
  · rfl
  · rcases (h k hk).mp hb with q | ⟨t, q1, q2, q3⟩
    · rw [b_0] at q; cases q
    · rw [b_0] at q2; cases q2
theorem step_both (h : CX C B n c) (hM : MX B i n c A M) (S : SV) (x : Int32) : ∃ y, gX6_spread C x S = some y ∧ gX10_nextTo x M = some y ∧ stepTo B n x y := by
  obtain ⟨y, h1, h2⟩ := c_spread h S x
  obtain ⟨y', h3, h4⟩ := m_next h hM x
  rw [h4.eq h2] at h3
  exact ⟨y, h1, h3, h2⟩
theorem mask_bt : ∀ n, n < 9 → ∀ k, k < 32 → bt (shl 1 (nI n) - 1) k = decide (k < n) := by decide +kernel
theorem c_there (h : CX C B n c) (S : SV) : ∃ y, gX6_there C S = some y ∧ ∀ k, k < 32 → bt y k = (decide (k < n) && !bt (S.1 6) k) := by
  have hn := h.hn
  refine ⟨_, rfl, fun k hk => ?_⟩
  rw [h.c0, b_and, mask_bt n (by omega) k hk, b_not _ hk]
theorem and_there {x y g : Int32} (hs : sub n x) (hy : ∀ k, k < 32 → bt y k = (decide (k < n) && !bt g k)) : x &&& y = x &&& (g ^^^ (-1)) := by
  apply b_ext
  intro k hk
  rw [b_and, b_and, hy k hk, b_not _ hk]
  by_cases e : k < n
  · simp [e]
  · rw [hs k (by omega) hk]; rfl
theorem sub_and {x y : Int32} (h : sub n x) : sub n (x &&& y) := fun k k1 k2 => by rw [b_and, h k k1 k2]; rfl
theorem sub_1 {k : Nat} (hk : k < n) (hn : n ≤ 8) : sub n (shl 1 (nI k)) := fun j j1 j2 => by rw [b_1shl (by omega) j2]; simp; omega
/-- nobody left: no meeting -/
theorem m_dead (h : CX C B n c) (l3 : Int32) : ∀ d j a b S M, j + d = 99 → MX B i n c (C.2.1 5) M → SR n (C.2.1 5) S M → S.1 5 = nI j → (a = 0 ∨ (b = 0)) → ∀ m, d < m → ∃ M', gfX10_hoursTill_20 m l3 a b M = some (-1, M') := by
  intro d
  induction d with
  | zero =>
    intro j a b S M hj hM hR h5 hab m hm
    obtain ⟨m', rfl⟩ : ∃ k, m = k + 1 := ⟨m - 1, by omega⟩
    have e : j = 99 := by omega
    subst e
    have hz : (a &&& b) = 0 := by
      rw [eq0_bt]
      intro k hk
      rw [b_and]
      rcases hab with rfl | rfl
      · rw [b_0]; rfl
      · rw [b_0, Bool.and_false]
    refine ⟨M, ?_⟩
    show gbX10_hoursTill_20 _ _ _ _ _ = _
    unfold gbX10_hoursTill_20 gbX10_hoursTill_91
    rw [if_pos hz, hR.e5, h5, if_pos (show (99 : Int32) ≤ nI 99 by decide), if_pos hz]
  | succ d ih =>
    intro j a b S M hj hM hR h5 hab m hm
    obtain ⟨m', rfl⟩ : ∃ k, m = k + 1 := ⟨m - 1, by omega⟩
    have hz : (a &&& b) = 0 := by
      rw [eq0_bt]
      intro k hk
      rw [b_and]
      rcases hab with rfl | rfl
      · rw [b_0]; rfl
      · rw [b_0, Bool.and_false]
    obtain ⟨ya, -, na, sa⟩ := step_both h hM S a
    obtain ⟨yb, -, nb, sb_⟩ := step_both h hM S b
    obtain ⟨S', M', p1, p2, p3, p4, p5, p6⟩ := hour_both h hM hR
    have h5' : S'.1 5 = nI (j + 1) := by rw [p6.2.2.2.2.1, h5, nI_succ]
    have z0 : ∀ g : Int32, (0 : Int32) &&& g = 0 := fun g => by rw [eq0_bt]; intro k hk; rw [b_and, b_0]; rfl
    show ∃ M', gbX10_hoursTill_20 _ _ _ _ _ = some (-1, M')
    unfold gbX10_hoursTill_20 gbX10_hoursTill_60
    rw [if_pos hz, hR.e5, h5, if_neg (show ¬ (99 : Int32) ≤ nI j from nI_ge (b := 99) (by omega) (by omega)), na, nb, p2]
    simp only [Option.bind_some, nm]
    by_cases q : l3 = 0
    · rw [if_pos q]
      refine ih (j + 1) _ _ S' M' (by omega) (hM.to p4) p3 h5' ?_ m' (by omega)
      rcases hab with rfl | rfl
      · rw [sa.zero]; exact Or.inl (z0 _)
      · exact Or.inr (z0 _)
    · rw [if_neg q]
      refine ih (j + 1) _ _ S' M' (by omega) (hM.to p4) p3 h5' ?_ m' (by omega)
      rcases hab with rfl | rfl
      · rw [sa.zero]; exact Or.inl (z0 _)
      · rw [sb_.zero]; exact Or.inr (z0 _)
theorem gone_up {S S' : SV} (hn : n ≤ 8) (hp : HP C S S' n) {k : Nat} (hq : bt (S.1 6) k = true) : bt (S'.1 6) k = true := by
  rw [hp.2.2.2.1]
  generalize thP (S.2.1 1) (C.2.1 3) (S.1 6 ||| S.1 11) n = f
  exact fl_ind (n := n) (A := C.2.1 5) (sol := f) (wei := S.2.1 2) (g := S.1 6) (fun g => bt g k = true) (fun g hg => st_bt hn hg) hq
theorem and_gone {x g g' : Int32} (hg : ∀ k, k < 32 → bt g k = true → bt g' k = true) : (x &&& (g ^^^ (-1))) &&& (g' ^^^ (-1)) = x &&& (g' ^^^ (-1)) := by
  apply b_ext
  intro k hk
  rw [b_and, b_and, b_and, b_not _ hk, b_not _ hk]
  cases hq : bt g k
  · simp
  · rw [hg k hk hq]; simp
theorem fh_st (C : SV) (f : Nat) (k x l : Int32) (S : SV) : gfX6_fewestHours_12 C (f + 1) k x l S = gbX6_fewestHours_12 (gfX6_fewestHours_12 C f) C k x l S := rfl
theorem fm_st (C : SV) (f : Nat) (x y l : Int32) (S : SV) : gfX6_fewestHoursToMeet_22 C (f + 1) x y l S = gbX6_fewestHoursToMeet_22 (gfX6_fewestHoursToMeet_22 C f) C x y l S := rfl
theorem fh_go (h : CX C B n c) {k12 : Int32 → Int32 → Int32 → SV → Option (Int32 × SV)} {k2 j : Nat} {a y : Int32} {S S2 : SV} (hk2 : k2 < 32) (g99 : ¬ (99 : Int32) < nI j) (c0 : ¬ a = 0) (hb : bt a k2 = false) (s1 : gX6_spread C a S = some y) (hsy : sub n y) (p1 : gX6_passHour C S = some (1, S2)) : gbX6_fewestHours_12 k12 C (nI k2) a (nI j) S = k12 (nI k2) (y &&& (S2.1 6 ^^^ (-1))) (nI (j + 1)) S2 := by
  obtain ⟨th2, u1, u2⟩ := c_there h S2
  unfold gbX6_fewestHours_12
  rw [if_neg g99, if_neg c0, if_pos ((c_has0 a hk2).mpr hb), s1]
  simp only [Option.bind_some]
  rw [p1]
  simp only [b2]
  rw [u1]
  simp only [Option.bind_some, nm, ← nI_succ]
  rw [and_there hsy u2]
theorem fm_go (h : CX C B n c) {k22 : Int32 → Int32 → Int32 → SV → Option (Int32 × SV)} {j : Nat} {a b ya yb : Int32} {S S2 : SV} (g99 : ¬ (99 : Int32) < nI j) (c0 : ¬ a = 0) (c1 : ¬ b = 0) (hb : (a &&& b) = 0) (sa1 : gX6_spread C a S = some ya) (sb1 : gX6_spread C b S = some yb) (hsa : sub n ya) (hsb : sub n yb) (p1 : gX6_passHour C S = some (1, S2)) : gbX6_fewestHoursToMeet_22 k22 C a b (nI j) S = k22 (ya &&& (S2.1 6 ^^^ (-1))) (yb &&& (S2.1 6 ^^^ (-1))) (nI (j + 1)) S2 := by
  obtain ⟨th2, u1, u2⟩ := c_there h S2
  unfold gbX6_fewestHoursToMeet_22
  rw [if_neg g99, if_neg c0, if_neg c1, if_pos hb, sa1, sb1]
  simp only [Option.bind_some]
  rw [p1]
  simp only [b2]
  rw [u1]
  simp only [Option.bind_some, nm, ← nI_succ]
  rw [and_there hsa u2, and_there hsb u2]
theorem way_both (h : CX C B n c) (hM : MX B i n c (C.2.1 5) M) (hR : SR n (C.2.1 5) S M) (h5 : S.1 5 = 0) {k1 k2 : Nat} (hk1 : k1 < n) (hk2 : k2 < n) : ∃ r S' M', gX6_fewestHours C (nI k1) (nI k2) S = some (r, S') ∧ gX10_hoursTill (shl 1 (nI k1)) (shl 1 (nI k2)) 0 M = some (r, M') := by
  have hn := h.hn
  obtain ⟨th, t1, t2⟩ := c_there h S
  unfold gX6_fewestHours gX10_hoursTill
  rw [t1]
  simp only [Option.bind_some, nm]
  rw [and_there (sub_1 hk1 hn) t2, hR.e6]
  -- what is met
  have meet : ∀ (a g : Int32), (∀ k, k < 32 → bt a k = true → bt g k = false) → ((a &&& (shl 1 (nI k2) &&& (g ^^^ (-1)))) = 0 ↔ bt a k2 = false) := by
    intro a g hg
    rw [eq0_bt]
    constructor
    · intro q
      have := q k2 (by omega)
      rw [b_and, b_and, b_1shl (by omega) (by omega), b_not _ (by omega)] at this
      cases hb : bt a k2
      · rfl
      · rw [hb, hg k2 (by omega) hb] at this; simp at this
    · intro q k hk
      rw [b_and, b_and, b_1shl (by omega) hk]
      by_cases e : k = k2
      · rw [e, q]; rfl
      · simp [e]
  have key := lpU (fun f (q : Int32 × Int32 × SV) => gfX6_fewestHours_12 C (f + 1) (nI k2) q.1 q.2.1 q.2.2) (fun f (q : Int32 × Int32 × SV) => gfX10_hoursTill_20 f 0 q.1 q.2.1 q.2.2) (fun j s t => s.1 = t.1 ∧ s.2.1 = nI j ∧ SR n (C.2.1 5) s.2.2 t.2.2 ∧ FrS M t.2.2 ∧ s.2.2.1 5 = nI j ∧ t.2.1 = (shl 1 (nI k2) &&& (s.2.2.1 6 ^^^ (-1))) ∧ sub n s.1 ∧ ∀ k, k < 32 → bt s.1 k = true → bt (s.2.2.1 6) k = false) (fun b d => ∃ r S' M', b = some (r, S') ∧ d = some (r, M')) 99 ?_ ?_ (shl 1 (nI k1) &&& (S.1 6 ^^^ (-1)), 0, S) (shl 1 (nI k1) &&& (S.1 6 ^^^ (-1)), shl 1 (nI k2) &&& (S.1 6 ^^^ (-1)), M) ⟨rfl, rfl, hR, FrS.rf, h5, rfl, sub_and (sub_1 hk1 hn), fun k hk hb => by rw [b_and, b_not _ hk] at hb; simp at hb; exact hb.2⟩ 19999 FU (by omega) (by rw [FUn]; omega)
  · exact key
  · rintro j hj ⟨a, l, S1⟩ ⟨a', b, M1⟩ ⟨e1, e2, e3, e4, e5, e6, e7, e8⟩
    replace e1 : a = a' := e1
    replace e2 : l = nI j := e2
    replace e3 : SR n (C.2.1 5) S1 M1 := e3
    replace e4 : FrS M M1 := e4
    replace e5 : S1.1 5 = nI j := e5
    replace e6 : b = (shl 1 (nI k2) &&& (S1.1 6 ^^^ (-1))) := e6
    replace e7 : sub n a := e7
    replace e8 : ∀ k, k < 32 → bt a k = true → bt (S1.1 6) k = false := e8
    subst e1 e2 e6
    have g99 : ¬ (99 : Int32) < nI j := fun q => by have := (nI_ltI (a := 99) (by omega) (by omega)).mp q; omega
    have g99' : ¬ (99 : Int32) ≤ nI j := nI_ge (b := 99) hj (by omega)
    by_cases c0 : a = 0
    · right
      refine ⟨some (-1, S1), fun f => ?_, fun m hm => ?_⟩
      · show gbX6_fewestHours_12 _ _ _ _ _ _ = _
        unfold gbX6_fewestHours_12
        rw [if_neg g99, if_pos c0]
      · obtain ⟨M', q⟩ := m_dead h 0 (99 - j) j a _ S1 M1 (by omega) (hM.to e4) e3 e5 (Or.inl c0) m hm
        exact ⟨-1, S1, M', rfl, q⟩
    · cases hb : bt a k2
      · left
        obtain ⟨y, s1, s2, s3⟩ := step_both h (hM.to e4) S1 a
        obtain ⟨S2, M2, p1, p2, p3, p4, p5, p6⟩ := hour_both h (hM.to e4) e3
        obtain ⟨th2, u1, u2⟩ := c_there h S2
        have hsy := s3.sub h e7
        refine ⟨(y &&& (S2.1 6 ^^^ (-1)), nI (j + 1), S2), (y &&& (S2.1 6 ^^^ (-1)), (shl 1 (nI k2) &&& (S1.1 6 ^^^ (-1))) &&& (S2.1 6 ^^^ (-1)), M2), fun f => ?_, fun f => ?_, rfl, rfl, p3, e4.tr p4, ?_, ?_, sub_and hsy, fun k hk hq => ?_⟩
        · show gfX6_fewestHours_12 C (f + 1 + 1) (nI k2) a (nI j) S1 = gfX6_fewestHours_12 C (f + 1) (nI k2) (y &&& (S2.1 6 ^^^ (-1))) (nI (j + 1)) S2
          rw [fh_st C (f + 1)]
          exact fh_go h (by omega) g99 c0 hb s1 hsy p1
        · show gbX10_hoursTill_20 _ _ _ _ _ = _
          unfold gbX10_hoursTill_20 gbX10_hoursTill_60
          rw [if_pos ((meet a _ e8).mpr hb), e3.e5, e5, if_neg g99', s2]
          simp only [Option.bind_some, if_true]
          rw [p2]
          simp only [Option.bind_some, nm]
          rw [p3.e6]
        · show S2.1 5 = _
          rw [p6.2.2.2.2.1, e5, nI_succ]
        · exact and_gone (fun k hk hq => gone_up hn p6 hq)
        · rw [b_and, b_not _ hk] at hq; simp at hq; exact hq.2
      · right
        refine ⟨some (nI j, S1), fun f => ?_, fun m hm => ?_⟩
        · show gbX6_fewestHours_12 _ _ _ _ _ _ = _
          unfold gbX6_fewestHours_12
          rw [if_neg g99, if_neg c0, if_neg (fun e => by rw [(c_has0 a (by omega)).mp e] at hb; cases hb)]
        · obtain ⟨m', rfl⟩ : ∃ k, m = k + 1 := ⟨m - 1, by omega⟩
          refine ⟨nI j, S1, M1, rfl, ?_⟩
          have hne : ¬ (a &&& (shl 1 (nI k2) &&& (S1.1 6 ^^^ (-1)))) = 0 := fun q => by rw [(meet a _ e8).mp q] at hb; cases hb
          show gbX10_hoursTill_20 _ _ _ _ _ = _
          unfold gbX10_hoursTill_20 gbX10_hoursTill_91
          rw [if_neg hne, if_neg hne, e3.e5, e5]
  · rintro ⟨a, l, S1⟩ ⟨a', b, M1⟩ ⟨e1, e2, e3, e4, e5, e6, e7, e8⟩
    replace e1 : a = a' := e1
    replace e2 : l = nI 99 := e2
    replace e3 : SR n (C.2.1 5) S1 M1 := e3
    replace e4 : FrS M M1 := e4
    replace e5 : S1.1 5 = nI 99 := e5
    replace e6 : b = (shl 1 (nI k2) &&& (S1.1 6 ^^^ (-1))) := e6
    replace e7 : sub n a := e7
    replace e8 : ∀ k, k < 32 → bt a k = true → bt (S1.1 6) k = false := e8
    subst e1 e2 e6
    have g99 : ¬ (99 : Int32) < nI 99 := by decide
    have mE : ∀ m, 0 < m → gfX10_hoursTill_20 m 0 a (shl 1 (nI k2) &&& (S1.1 6 ^^^ (-1))) M1 = if bt a k2 then some (nI 99, M1) else some (-1, M1) := by
      intro m hm
      obtain ⟨m', rfl⟩ : ∃ k, m = k + 1 := ⟨m - 1, by omega⟩
      show gbX10_hoursTill_20 _ _ _ _ _ = _
      unfold gbX10_hoursTill_20 gbX10_hoursTill_91
      rw [e3.e5, e5, if_pos (show (99 : Int32) ≤ nI 99 by decide)]
      cases hb : bt a k2
      · have hz := (meet a _ e8).mpr hb
        rw [if_pos hz, if_pos hz]; rfl
      · have hz : ¬ (a &&& (shl 1 (nI k2) &&& (S1.1 6 ^^^ (-1)))) = 0 := fun q => by rw [(meet a _ e8).mp q] at hb; cases hb
        rw [if_neg hz, if_neg hz]; rfl
    by_cases c0 : a = 0
    · refine ⟨some (-1, S1), fun f => ?_, fun m hm => ⟨-1, S1, M1, rfl, ?_⟩⟩
      · show gbX6_fewestHours_12 _ _ _ _ _ _ = _
        unfold gbX6_fewestHours_12
        rw [if_neg g99, if_pos c0]
      · show gfX10_hoursTill_20 m 0 a _ M1 = _
        rw [mE m hm, c0, b_0]; rfl
    · cases hb : bt a k2
      · obtain ⟨y, s1, s2, s3⟩ := step_both h (hM.to e4) S1 a
        obtain ⟨S2, M2, p1, p2, p3, p4, p5, p6⟩ := hour_both h (hM.to e4) e3
        obtain ⟨th2, u1, u2⟩ := c_there h S2
        refine ⟨some (-1, S2), fun f => ?_, fun m hm => ⟨-1, S2, M1, rfl, ?_⟩⟩
        · show gbX6_fewestHours_12 (gfX6_fewestHours_12 C (f + 1)) _ _ _ _ _ = _
          unfold gbX6_fewestHours_12
          rw [if_neg g99, if_neg c0, if_pos ((c_has0 a (by omega)).mpr hb), s1]
          simp only [Option.bind_some]
          rw [p1]
          simp only [b2]
          rw [u1]
          simp only [Option.bind_some, nm, ← nI_succ]
          show gbX6_fewestHours_12 _ _ _ _ _ _ = _
          unfold gbX6_fewestHours_12
          rw [if_pos (show (99 : Int32) < nI (99 + 1) by decide)]
        · show gfX10_hoursTill_20 m 0 a _ M1 = _
          rw [mE m hm, hb]; rfl
      · refine ⟨some (nI 99, S1), fun f => ?_, fun m hm => ⟨nI 99, S1, M1, rfl, ?_⟩⟩
        · show gbX6_fewestHours_12 _ _ _ _ _ _ = _
          unfold gbX6_fewestHours_12
          rw [if_neg g99, if_neg c0, if_neg (fun e => by rw [(c_has0 a (by omega)).mp e] at hb; cases hb)]
        · show gfX10_hoursTill_20 m 0 a _ M1 = _
          rw [mE m hm, hb]; rfl
theorem meet_both (h : CX C B n c) (hM : MX B i n c (C.2.1 5) M) (hR : SR n (C.2.1 5) S M) (h5 : S.1 5 = 0) {k1 k2 : Nat} (hk1 : k1 < n) (hk2 : k2 < n) : ∃ r S' M', gX6_fewestHoursToMeet C (nI k1) (nI k2) S = some (r, S') ∧ gX10_hoursTill (shl 1 (nI k1)) (shl 1 (nI k2)) 1 M = some (r, M') := by
  have hn := h.hn
  have h10 : ¬ (1 : Int32) = 0 := by decide
  obtain ⟨th, t1, t2⟩ := c_there h S
  unfold gX6_fewestHoursToMeet gX10_hoursTill
  rw [t1]
  simp only [Option.bind_some, nm]
  rw [and_there (sub_1 hk1 hn) t2, and_there (sub_1 hk2 hn) t2, hR.e6]
  have key := lpU (fun f (q : Int32 × Int32 × Int32 × SV) => gfX6_fewestHoursToMeet_22 C (f + 1) q.1 q.2.1 q.2.2.1 q.2.2.2) (fun f (q : Int32 × Int32 × SV) => gfX10_hoursTill_20 f 1 q.1 q.2.1 q.2.2) (fun j s t => s.1 = t.1 ∧ s.2.1 = t.2.1 ∧ s.2.2.1 = nI j ∧ SR n (C.2.1 5) s.2.2.2 t.2.2 ∧ FrS M t.2.2 ∧ s.2.2.2.1 5 = nI j ∧ sub n s.1 ∧ sub n s.2.1) (fun b d => ∃ r S' M', b = some (r, S') ∧ d = some (r, M')) 99 ?_ ?_ (shl 1 (nI k1) &&& (S.1 6 ^^^ (-1)), shl 1 (nI k2) &&& (S.1 6 ^^^ (-1)), 0, S) (shl 1 (nI k1) &&& (S.1 6 ^^^ (-1)), shl 1 (nI k2) &&& (S.1 6 ^^^ (-1)), M) ⟨rfl, rfl, rfl, hR, FrS.rf, h5, sub_and (sub_1 hk1 hn), sub_and (sub_1 hk2 hn)⟩ 19999 FU (by omega) (by rw [FUn]; omega)
  · exact key
  · rintro j hj ⟨a, b, l, S1⟩ ⟨a', b', M1⟩ ⟨e1, e2, e3, e4, e5, e6, e7, e8⟩
    replace e1 : a = a' := e1
    replace e2 : b = b' := e2
    replace e3 : l = nI j := e3
    replace e4 : SR n (C.2.1 5) S1 M1 := e4
    replace e5 : FrS M M1 := e5
    replace e6 : S1.1 5 = nI j := e6
    replace e7 : sub n a := e7
    replace e8 : sub n b := e8
    subst e1 e2 e3
    have g99 : ¬ (99 : Int32) < nI j := fun q => by have := (nI_ltI (a := 99) (by omega) (by omega)).mp q; omega
    have g99' : ¬ (99 : Int32) ≤ nI j := nI_ge (b := 99) hj (by omega)
    by_cases c0 : a = 0
    · right
      refine ⟨some (-1, S1), fun f => ?_, fun m hm => ?_⟩
      · show gbX6_fewestHoursToMeet_22 _ _ _ _ _ _ = _
        unfold gbX6_fewestHoursToMeet_22
        rw [if_neg g99, if_pos c0]
      · obtain ⟨M', q⟩ := m_dead h 1 (99 - j) j a b S1 M1 (by omega) (hM.to e5) e4 e6 (Or.inl c0) m hm
        exact ⟨-1, S1, M', rfl, q⟩
    by_cases c1 : b = 0
    · right
      refine ⟨some (-1, S1), fun f => ?_, fun m hm => ?_⟩
      · show gbX6_fewestHoursToMeet_22 _ _ _ _ _ _ = _
        unfold gbX6_fewestHoursToMeet_22
        rw [if_neg g99, if_neg c0, if_pos c1]
      · obtain ⟨M', q⟩ := m_dead h 1 (99 - j) j a b S1 M1 (by omega) (hM.to e5) e4 e6 (Or.inr c1) m hm
        exact ⟨-1, S1, M', rfl, q⟩
    by_cases hb : (a &&& b) = 0
    · left
      obtain ⟨ya, sa1, sa2, sa3⟩ := step_both h (hM.to e5) S1 a
      obtain ⟨yb, sb1, sb2, sb3⟩ := step_both h (hM.to e5) S1 b
      obtain ⟨S2, M2, p1, p2, p3, p4, p5, p6⟩ := hour_both h (hM.to e5) e4
      obtain ⟨th2, u1, u2⟩ := c_there h S2
      have hsa := sa3.sub h e7
      have hsb := sb3.sub h e8
      refine ⟨(ya &&& (S2.1 6 ^^^ (-1)), yb &&& (S2.1 6 ^^^ (-1)), nI (j + 1), S2), (ya &&& (S2.1 6 ^^^ (-1)), yb &&& (S2.1 6 ^^^ (-1)), M2), fun f => ?_, fun f => ?_, rfl, rfl, rfl, p3, e5.tr p4, ?_, sub_and hsa, sub_and hsb⟩
      · show gfX6_fewestHoursToMeet_22 C (f + 1 + 1) a b (nI j) S1 = gfX6_fewestHoursToMeet_22 C (f + 1) (ya &&& (S2.1 6 ^^^ (-1))) (yb &&& (S2.1 6 ^^^ (-1))) (nI (j + 1)) S2
        rw [fm_st C (f + 1)]
        exact fm_go h g99 c0 c1 hb sa1 sb1 hsa hsb p1
      · show gbX10_hoursTill_20 _ _ _ _ _ = _
        unfold gbX10_hoursTill_20 gbX10_hoursTill_60
        rw [if_pos hb, e4.e5, e6, if_neg g99', sa2]
        simp only [Option.bind_some]
        rw [if_neg h10, sb2]
        simp only [Option.bind_some]
        rw [p2]
        simp only [Option.bind_some, nm]
        rw [p3.e6]
      · show S2.1 5 = _
        rw [p6.2.2.2.2.1, e6, nI_succ]
    · right
      refine ⟨some (nI j, S1), fun f => ?_, fun m hm => ?_⟩
      · show gbX6_fewestHoursToMeet_22 _ _ _ _ _ _ = _
        unfold gbX6_fewestHoursToMeet_22
        rw [if_neg g99, if_neg c0, if_neg c1, if_neg hb]
      · obtain ⟨m', rfl⟩ : ∃ k, m = k + 1 := ⟨m - 1, by omega⟩
        refine ⟨nI j, S1, M1, rfl, ?_⟩
        show gbX10_hoursTill_20 _ _ _ _ _ = _
        unfold gbX10_hoursTill_20 gbX10_hoursTill_91
        rw [if_neg hb, if_neg hb, e4.e5, e6]
  · rintro ⟨a, b, l, S1⟩ ⟨a', b', M1⟩ ⟨e1, e2, e3, e4, e5, e6, e7, e8⟩
    replace e1 : a = a' := e1
    replace e2 : b = b' := e2
    replace e3 : l = nI 99 := e3
    replace e4 : SR n (C.2.1 5) S1 M1 := e4
    replace e5 : FrS M M1 := e5
    replace e6 : S1.1 5 = nI 99 := e6
    subst e1 e2 e3
    have g99 : ¬ (99 : Int32) < nI 99 := by decide
    have mE : ∀ m, 0 < m → gfX10_hoursTill_20 m 1 a b M1 = if (a &&& b) = 0 then some (-1, M1) else some (nI 99, M1) := by
      intro m hm
      obtain ⟨m', rfl⟩ : ∃ k, m = k + 1 := ⟨m - 1, by omega⟩
      show gbX10_hoursTill_20 _ _ _ _ _ = _
      unfold gbX10_hoursTill_20 gbX10_hoursTill_91
      rw [e4.e5, e6, if_pos (show (99 : Int32) ≤ nI 99 by decide)]
      by_cases hz : (a &&& b) = 0
      · rw [if_pos hz, if_pos hz]
      · rw [if_neg hz, if_neg hz]
    have z0 : (a = 0 ∨ b = 0) → (a &&& b) = 0 := by
      intro q
      rw [eq0_bt]
      intro k hk
      rw [b_and]
      rcases q with rfl | rfl
      · rw [b_0]; rfl
      · rw [b_0, Bool.and_false]
    by_cases c0 : a = 0
    · refine ⟨some (-1, S1), fun f => ?_, fun m hm => ⟨-1, S1, M1, rfl, ?_⟩⟩
      · show gbX6_fewestHoursToMeet_22 _ _ _ _ _ _ = _
        unfold gbX6_fewestHoursToMeet_22
        rw [if_neg g99, if_pos c0]
      · show gfX10_hoursTill_20 m 1 a b M1 = _
        rw [mE m hm, if_pos (z0 (Or.inl c0))]
    by_cases c1 : b = 0
    · refine ⟨some (-1, S1), fun f => ?_, fun m hm => ⟨-1, S1, M1, rfl, ?_⟩⟩
      · show gbX6_fewestHoursToMeet_22 _ _ _ _ _ _ = _
        unfold gbX6_fewestHoursToMeet_22
        rw [if_neg g99, if_neg c0, if_pos c1]
      · show gfX10_hoursTill_20 m 1 a b M1 = _
        rw [mE m hm, if_pos (z0 (Or.inr c1))]
    by_cases hb : (a &&& b) = 0
    · obtain ⟨ya, sa1, sa2, sa3⟩ := step_both h (hM.to e5) S1 a
      obtain ⟨yb, sb1, sb2, sb3⟩ := step_both h (hM.to e5) S1 b
      obtain ⟨S2, M2, p1, p2, p3, p4, p5, p6⟩ := hour_both h (hM.to e5) e4
      obtain ⟨th2, u1, u2⟩ := c_there h S2
      refine ⟨some (-1, S2), fun f => ?_, fun m hm => ⟨-1, S2, M1, rfl, ?_⟩⟩
      · show gbX6_fewestHoursToMeet_22 (gfX6_fewestHoursToMeet_22 C (f + 1)) _ _ _ _ _ = _
        unfold gbX6_fewestHoursToMeet_22
        rw [if_neg g99, if_neg c0, if_neg c1, if_pos hb, sa1, sb1]
        simp only [Option.bind_some]
        rw [p1]
        simp only [b2]
        rw [u1]
        simp only [Option.bind_some, nm, ← nI_succ]
        show gbX6_fewestHoursToMeet_22 _ _ _ _ _ _ = _
        unfold gbX6_fewestHoursToMeet_22
        rw [if_pos (show (99 : Int32) < nI (99 + 1) by decide)]
      · show gfX10_hoursTill_20 m 1 a b M1 = _
        rw [mE m hm, if_pos hb]
    · refine ⟨some (nI 99, S1), fun f => ?_, fun m hm => ⟨nI 99, S1, M1, rfl, ?_⟩⟩
      · show gbX6_fewestHoursToMeet_22 _ _ _ _ _ _ = _
        unfold gbX6_fewestHoursToMeet_22
        rw [if_neg g99, if_neg c0, if_neg c1, if_neg hb]
      · show gfX10_hoursTill_20 m 1 a b M1 = _
        rw [mE m hm, if_neg hb]
end PT
theorem qu_meet (Wc : WC) : Qu_meet Wc := by
  intro z M ρM hI a1 a2 a3
  have hsk := hI.2.2.2.1
  obtain ⟨ρ, S, hS⟩ := hsk.2.2.2.1
  unfold fX9_meet gX10_meet
  rw [if_pos (x9_o hsk), x9_g (k := 0) (x := 16) hsk rfl]
  simp only [Option.bind_some, nm]
  rcases land_cases hI a1 with ⟨i, a, ρc, C, n, c, hi, rfl, h1, ha, hC, hx, hb⟩ | ⟨h1, hb⟩
  · obtain ⟨S', M', b1, b2_, b3, b4, b5, b6⟩ := hb (wI M 0 0) rfl rfl S
    have zb := z_begin hI hC ha hS b1
    have hz := z_z hI
    rw [h1, b2_]
    simp only [Option.bind_some, nq, b2, show ¬ ((1 : Int32) = 0) by decide, if_false, eX0_hasThing hC]
    rcases thing_both hx b3 a2 with ⟨k1, hk1, rfl, e1, e2⟩ | ⟨-, e1, e2⟩
    · rw [e1, e2]
      simp only [Option.bind_some, show ¬ ((1 : Int32) = 0) by decide, if_false]
      rcases thing_both hx b3 a3 with ⟨k2, hk2, rfl, e3, e4⟩ | ⟨-, e3, e4⟩
      · rw [e3, e4, x9_g (k := 4) (x := 44) hsk rfl]
        simp only [Option.bind_some, show ¬ ((1 : Int32) = 0) by decide, if_false]
        rw [zb]
        simp only [Option.bind_some, z_g hI]
        obtain ⟨r, S2, M2, q1, q2⟩ := meet_both hx b3 b5 b6.2.2.1.1 hk1 hk2
        rw [eX6_fewestHoursToMeet hz hC (z_d ha) (z_land ρ a), q1, q2]
        exact ⟨_, _, _, rfl, hI.scratch scr5 (by decide) _ _, rfl⟩
      · rw [e3, e4]
        simp only [Option.bind_some, if_true]
        exact ⟨_, _, _, rfl, hI, rfl⟩
    · rw [e1, e2]
      simp only [Option.bind_some, if_true]
      exact ⟨_, _, _, rfl, hI, rfl⟩
  · rw [h1, hb (wI M 0 0) rfl]
    simp only [Option.bind_some, nq, b2, if_true]
    exact ⟨_, _, _, rfl, hI, rfl⟩
