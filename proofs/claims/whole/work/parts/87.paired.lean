/-! ===== PAIRED ===== -/
def clr (m r : Nat) : Nat := if m.testBit r then m - 2 ^ r else m
def pcN (m : Nat) : Nat := fa_cnt (fun i => m.testBit i) 4
theorem clr_e : ∀ m, m < 16 → ∀ r, r < 4 → nI m &&& (shl 1 (nI r) ^^^ (-1)) = nI (clr m r) := by decide +kernel
theorem clr_lt : ∀ m, m < 16 → ∀ r, r < 4 → clr m r ≤ m ∧ (m.testBit r = true → clr m r < m ∧ pcN m = pcN (clr m r) + 1) := by decide +kernel
theorem set_e : ∀ m, m < 16 → ∀ r, r < 4 → m.testBit r = false → nI m ||| shl 1 (nI r) = nI (m + 2 ^ r) ∧ m + 2 ^ r < 16 ∧ (m + 2 ^ r).testBit r = true ∧ clr (m + 2 ^ r) r = m := by decide +kernel
theorem clr_set : ∀ m, m < 16 → ∀ r, r < 4 → m.testBit r = true → (clr m r).testBit r = false ∧ clr m r + 2 ^ r = m := by decide +kernel
theorem pcN_4 : ∀ m, m < 16 → pcN m ≤ 4 := by decide +kernel
theorem bc_pc {m : Nat} (hm : m < 16) : fJ6_bitCount_0f7a4 (nI m) = nI (pcN m) := by
  rw [bc_8 (fun k k1 k2 => by rw [bt_nI _ k2]; exact Nat.testBit_lt_two_pow (Nat.lt_of_lt_of_le hm (Nat.pow_le_pow_right (n := 2) (by omega) (show 4 ≤ k by omega))))]
  congr 1
  rw [show (8 : Nat) = 4 + 4 from rfl, fa_cnt_add _ _ _ (fun k k1 k2 => by rw [bt_nI _ (by omega)]; exact Nat.testBit_lt_two_pow (Nat.lt_of_lt_of_le hm (Nat.pow_le_pow_right (n := 2) (by omega) k1)))]
  exact fa_cnt_cong (fun k hk => bt_nI m (by omega))
/-- which two eyes fit -/
def okE (C : SV) (l r : Nat) : Prop := ¬ C.1 19 < iabs (C.2.1 12 l - C.2.1 13 r)
section PD
variable {C : SV} {B : Nat → Int32} {i n c : Nat} {A : Nat → Int32} {M : SV}
theorem c_more_in (k5 : Int32 → Int32 → Int32 → Int32 → Option Int32) (C : SV) (l1 : Int32) (s : Int32) (hs : sub 16 s) {r : Nat} (hr : r < 4) (more : Int32) (hm : sub 16 more) : ∃ more', gfX1_withOneMore_41 k5 C FU l1 s more (nI r) 0 = k5 l1 s more' (nI (r + 1)) ∧ sub 16 more' ∧ ∀ x, x < 16 → (bt more' x = true ↔ bt more x = true ∨ (x.testBit r = true ∧ bt s (clr x r) = true)) := by
  have key := lpR (fun f (q : Int32 × Int32) => gfX1_withOneMore_41 k5 C f l1 s q.1 (nI r) q.2) (fun j q => q.2 = nI j ∧ sub 16 q.1 ∧ ∀ x, x < 16 → (bt q.1 x = true ↔ bt more x = true ∨ (x.testBit r = true ∧ clr x r < j ∧ bt s (clr x r) = true))) (fun b => ∃ more', b = k5 l1 s more' (nI (r + 1)) ∧ sub 16 more' ∧ ∀ x, x < 16 → (bt more' x = true ↔ bt more x = true ∨ (x.testBit r = true ∧ bt s (clr x r) = true))) 16 ?_ ?_ (more, 0) ⟨rfl, hm, fun x hx => by simp⟩ FU (by rw [FUn]; omega)
  · exact key
  · rintro j hj ⟨y, l⟩ ⟨e1, e2, e3⟩
    replace e1 : l = nI j := e1
    replace e2 : sub 16 y := e2
    replace e3 : ∀ x, x < 16 → (bt y x = true ↔ bt more x = true ∨ (x.testBit r = true ∧ clr x r < j ∧ bt s (clr x r) = true)) := e3
    subst e1
    left
    have st : ∀ f, gfX1_withOneMore_41 k5 C (f + 1) l1 s y (nI r) (nI j) = (if bt s j = false then gfX1_withOneMore_41 k5 C f l1 s y (nI r) (nI (j + 1)) else if j.testBit r = false then gfX1_withOneMore_41 k5 C f l1 s (y ||| shl 1 (nI j ||| shl 1 (nI r))) (nI r) (nI (j + 1)) else gfX1_withOneMore_41 k5 C f l1 s y (nI r) (nI (j + 1))) := by
      intro f
      show gbX1_withOneMore_41 _ _ _ _ _ _ _ _ = _
      unfold gbX1_withOneMore_41
      rw [if_neg (show ¬ (16 : Int32) ≤ nI j from nI_ge (b := 16) hj (by omega))]
      simp only [c_has0 _ (show j < 32 by omega), c_has0 _ (show r < 32 by omega), bt_nI j (show r < 32 by omega), nm, ← nI_succ]
    have skip : (bt s j = true → j.testBit r = true) → ∀ x, x < 16 → (bt y x = true ↔ bt more x = true ∨ (x.testBit r = true ∧ clr x r < j + 1 ∧ bt s (clr x r) = true)) := by
      intro hq x hx
      rw [e3 x hx]
      constructor
      · rintro (q | ⟨q1, q2, q3⟩)
        · exact Or.inl q
        · exact Or.inr ⟨q1, by omega, q3⟩
      · rintro (q | ⟨q1, q2, q3⟩)
        · exact Or.inl q
        · by_cases e : clr x r = j
          · have h1 := (clr_set x hx r hr q1).1
            rw [e] at h1 q3
            rw [hq q3] at h1; cases h1
          · exact Or.inr ⟨q1, by omega, q3⟩
    cases hb : bt s j
    · simp only [hb, if_true] at st
      exact ⟨(y, nI (j + 1)), st, rfl, e2, skip (fun q => by rw [hb] at q; cases q)⟩
    · simp only [hb, Bool.true_eq_false, if_false] at st
      cases ht : j.testBit r
      · simp only [ht, if_true] at st
        obtain ⟨g1, g2, g3, g4⟩ := set_e j hj r hr ht
        rw [g1] at st
        refine ⟨(y ||| shl 1 (nI (j + 2 ^ r)), nI (j + 1)), st, rfl, fun k k1 k2 => ?_, fun x hx => ?_⟩
        · show bt (y ||| shl 1 (nI (j + 2 ^ r))) k = false
          rw [b_or, e2 k k1 k2, b_1shl (by omega) k2]
          simp; omega
        · show bt (y ||| shl 1 (nI (j + 2 ^ r))) x = true ↔ _
          rw [b_or, b_1shl (by omega) (by omega)]
          simp only [Bool.or_eq_true, decide_eq_true_eq, e3 x hx]
          constructor
          · rintro ((q | ⟨q1, q2, q3⟩) | q)
            · exact Or.inl q
            · exact Or.inr ⟨q1, by omega, q3⟩
            · subst q; exact Or.inr ⟨g3, by omega, by rw [g4]; exact hb⟩
          · rintro (q | ⟨q1, q2, q3⟩)
            · exact Or.inl (Or.inl q)
            · by_cases e : clr x r = j
              · right
                have := (clr_set x hx r hr q1).2
                rw [e] at this; exact this.symm
              · exact Or.inl (Or.inr ⟨q1, by omega, q3⟩)
      · simp only [ht, Bool.true_eq_false, if_false] at st
        exact ⟨(y, nI (j + 1)), st, rfl, e2, skip (fun _ => ht)⟩
  · rintro ⟨y, l⟩ ⟨e1, e2, e3⟩
    replace e1 : l = nI 16 := e1
    replace e3 : ∀ x, x < 16 → (bt y x = true ↔ bt more x = true ∨ (x.testBit r = true ∧ clr x r < 16 ∧ bt s (clr x r) = true)) := e3
    subst e1
    refine ⟨k5 l1 s y (nI (r + 1)), fun f => ?_, y, rfl, e2, fun x hx => ?_⟩
    · show gbX1_withOneMore_41 _ _ _ _ _ _ _ _ = _
      unfold gbX1_withOneMore_41
      rw [if_pos (show (16 : Int32) ≤ nI 16 by decide)]
      simp only [nm, ← nI_succ]
    · rw [e3 x hx]
      have := (clr_lt x hx r hr).1
      constructor
      · rintro (q | ⟨q1, q2, q3⟩)
        · exact Or.inl q
        · exact Or.inr ⟨q1, q3⟩
      · rintro (q | ⟨q1, q3⟩)
        · exact Or.inl q
        · exact Or.inr ⟨q1, by omega, q3⟩
theorem c_more {R : Nat} (hR : R ≤ 4) (e11 : C.1 11 = nI R) (s : Int32) (hs : sub 16 s) {l : Nat} (hl : l < 4) : ∃ s', gX1_withOneMore C (nI l) s = some s' ∧ sub 16 s' ∧ ∀ x, x < 16 → (bt s' x = true ↔ bt s x = true ∨ ∃ r, r < R ∧ okE C l r ∧ x.testBit r = true ∧ bt s (clr x r) = true) := by
  have key := lpR (fun f (q : Int32 × Int32) => gfX1_withOneMore_5 C f (nI l) s q.1 q.2) (fun j q => q.2 = nI j ∧ sub 16 q.1 ∧ ∀ x, x < 16 → (bt q.1 x = true ↔ bt s x = true ∨ ∃ r, r < j ∧ okE C l r ∧ x.testBit r = true ∧ bt s (clr x r) = true)) (fun b => ∃ s', b = some s' ∧ sub 16 s' ∧ ∀ x, x < 16 → (bt s' x = true ↔ bt s x = true ∨ ∃ r, r < R ∧ okE C l r ∧ x.testBit r = true ∧ bt s (clr x r) = true)) R ?_ ?_ (s, 0) ⟨rfl, hs, fun x hx => by simp⟩ FU (by rw [FUn]; omega)
  · exact key
  · rintro r hr ⟨y, t⟩ ⟨e1, e2, e3⟩
    replace e1 : t = nI r := e1
    replace e2 : sub 16 y := e2
    replace e3 : ∀ x, x < 16 → (bt y x = true ↔ bt s x = true ∨ ∃ r', r' < r ∧ okE C l r' ∧ x.testBit r' = true ∧ bt s (clr x r') = true) := e3
    subst e1
    left
    by_cases q : C.1 19 < iabs (C.2.1 12 l - C.2.1 13 r)
    · refine ⟨(y, nI (r + 1)), fun f => ?_, rfl, e2, fun x hx => ?_⟩
      · show gbX1_withOneMore_5 _ _ _ _ _ _ = _
        unfold gbX1_withOneMore_5
        rw [e11, if_neg (nI_ge hr (by omega)), rA_nI (by omega) (by omega), rA_nI (by omega) (by omega)]
        simp only [Option.bind_some]
        rw [if_pos q]
        simp only [nm, ← nI_succ]
      · show bt y x = true ↔ _
        rw [e3 x hx]
        constructor
        · rintro (u | ⟨r', u1, u2⟩)
          · exact Or.inl u
          · exact Or.inr ⟨r', by omega, u2⟩
        · rintro (u | ⟨r', u1, u2, u3⟩)
          · exact Or.inl u
          · by_cases e : r' = r
            · subst e; exact absurd q u2
            · exact Or.inr ⟨r', by omega, u2, u3⟩
    · have gen := fun f => c_more_in (gfX1_withOneMore_5 C f) C (nI l) s hs (show r < 4 by omega) y e2
      obtain ⟨y', -, g2, g3⟩ := gen 0
      have same : ∀ f, gfX1_withOneMore_41 (gfX1_withOneMore_5 C f) C FU (nI l) s y (nI r) 0 = gfX1_withOneMore_5 C f (nI l) s y' (nI (r + 1)) := by
        intro f
        obtain ⟨y2, h1, h2, h3⟩ := gen f
        have : y2 = y' := b_ext (fun k hk => by
          by_cases k16 : k < 16
          · exact bt_iff ((h3 k k16).trans (g3 k k16).symm)
          · rw [h2 k (by omega) hk, g2 k (by omega) hk])
        rw [h1, this]
      refine ⟨(y', nI (r + 1)), fun f => ?_, rfl, g2, fun x hx => ?_⟩
      · show gbX1_withOneMore_5 _ _ _ _ _ _ = _
        unfold gbX1_withOneMore_5
        rw [e11, if_neg (nI_ge hr (by omega)), rA_nI (by omega) (by omega), rA_nI (by omega) (by omega)]
        simp only [Option.bind_some]
        rw [if_neg q]
        exact same f
      · show bt y' x = true ↔ _
        rw [g3 x hx, e3 x hx]
        constructor
        · rintro ((u | ⟨r', u1, u2⟩) | ⟨u1, u2⟩)
          · exact Or.inl u
          · exact Or.inr ⟨r', by omega, u2⟩
          · exact Or.inr ⟨r, by omega, q, u1, u2⟩
        · rintro (u | ⟨r', u1, u2, u3⟩)
          · exact Or.inl (Or.inl u)
          · by_cases e : r' = r
            · subst e; exact Or.inr u3
            · exact Or.inl (Or.inr ⟨r', by omega, u2, u3⟩)
  · rintro ⟨y, t⟩ ⟨e1, e2, e3⟩
    replace e1 : t = nI R := e1
    subst e1
    refine ⟨some y, fun f => ?_, y, rfl, e2, e3⟩
    show gbX1_withOneMore_5 _ _ _ _ _ _ = _
    unfold gbX1_withOneMore_5
    rw [e11, if_pos (nI_le (Nat.le_refl _) (by omega))]
/-- the reference's numbers against the class's sets -/
def PQ (F : Nat → Bool) (p : Nat → Int32) : Prop := ∀ m, m < 16 → (F m = true → p m = nI (pcN m)) ∧ (F m = false → rng (p m) (-1000000) (-1000000 + (pcN m : Int)))
theorem apart_sym {x y : Int32} (hx : rng x 0 9) (hy : rng y 0 9) : fX10_apart x y = iabs (x - y) := by
  rw [iabs_apart (hx.mono (by omega) (by omega)) (hy.mono (by omega) (by omega))]
  unfold fX10_apart
  by_cases q : x ≤ y
  · rw [if_pos q]
    by_cases q2 : y ≤ x
    · rw [if_pos q2]
      have e : x = y := by rw [fa_le] at q q2; rw [fa_eq]; omega
      rw [e]
    · rw [if_neg q2]
  · have q2 : y ≤ x := by rw [fa_le] at q ⊢; omega
    rw [if_neg q, if_pos q2]
/-- as FrM, of row 53 -/
def FrP (M M' : SV) : Prop := ∃ f, M' = wR M 53 f
theorem m_pair_in (h : CX C B n c) (hM : MX B i n c A M) {R : Nat} (hR : R ≤ 4) (eR : B 3 = nI R) {l m : Nat} (hl : l < 4) (hm : m < 16) (F : Nat → Bool) (p : Nat → Int32) (hp : PQ F p) (p0 : Nat → Int32) (h0 : ∀ k, k < m → p0 k = p k) (hpm : p0 m = p m) : ∃ x, (∀ k33 k45, gfX10_paired_51 k33 k45 FU (nI l) (nI m) 0 (wR M 53 p0) = k45 (nI l) (nI m + -1) (wR M 53 (upd p0 m x))) ∧ ((F m = true ∨ ∃ r, r < R ∧ okE C l r ∧ m.testBit r = true ∧ F (clr m r) = true) → x = nI (pcN m)) ∧ (¬ (F m = true ∨ ∃ r, r < R ∧ okE C l r ∧ m.testBit r = true ∧ F (clr m r) = true) → rng x (-1000000) (-1000000 + (pcN m : Int))) := by
  obtain ⟨⟨-, -, -, -, -, k19⟩, -, c4, -⟩ := h.cr
  obtain ⟨-, -, v4, -⟩ := h.vb
  have hM0 : ∀ f, MX B i n c A (wR M 53 f) := fun f => hM.wr_ (by omega) f
  have p4 := pcN_4 m hm
  have key := lpR (fun f (q : Int32 × SV) => fun (k33 : Int32 → SV → Option (Int32 × SV)) (k45 : Int32 → Int32 → SV → Option (Int32 × SV)) => gfX10_paired_51 k33 k45 f (nI l) (nI m) q.1 q.2) (fun j q => q.1 = nI j ∧ ∃ x, q.2 = wR M 53 (upd p0 m x) ∧ ((F m = true ∨ ∃ r, r < j ∧ okE C l r ∧ m.testBit r = true ∧ F (clr m r) = true) → x = nI (pcN m)) ∧ (¬ (F m = true ∨ ∃ r, r < j ∧ okE C l r ∧ m.testBit r = true ∧ F (clr m r) = true) → rng x (-1000000) (-1000000 + (pcN m : Int)))) (fun b => ∃ x, (b = fun k33 k45 => k45 (nI l) (nI m + -1) (wR M 53 (upd p0 m x))) ∧ ((F m = true ∨ ∃ r, r < R ∧ okE C l r ∧ m.testBit r = true ∧ F (clr m r) = true) → x = nI (pcN m)) ∧ (¬ (F m = true ∨ ∃ r, r < R ∧ okE C l r ∧ m.testBit r = true ∧ F (clr m r) = true) → rng x (-1000000) (-1000000 + (pcN m : Int)))) R ?_ ?_ (0, wR M 53 p0) ⟨rfl, p0 m, by rw [fa_upd_same rfl], ?_, ?_⟩ FU (by rw [FUn]; omega)
  · obtain ⟨x, k1, k2⟩ := key
    exact ⟨x, fun k33 k45 => congrFun (congrFun k1 k33) k45, k2⟩
  · rintro r hr ⟨t, M1⟩ ⟨e1, x, e2, e3, e4⟩
    replace e1 : t = nI r := e1
    replace e2 : M1 = wR M 53 (upd p0 m x) := e2
    subst e1 e2
    left
    have hM1 := hM0 (upd p0 m x)
    have o3 : gX10_of 3 (wR M 53 (upd p0 m x)) = some (nI R) := by rw [← eR]; exact hM1.of (j := 3) (by omega)
    have o5 : gX10_of 5 (wR M 53 (upd p0 m x)) = some (C.1 19) := by rw [k19]; exact hM1.of (j := 5) (by omega)
    have oL := hM1.ofa (a := 38) (k := l) (by omega)
    have oR := hM1.ofa (a := 42) (k := r) (by omega)
    rw [← (c4 l hl).1] at oL
    rw [← (c4 r (by omega)).2.1] at oR
    have rl : rng (C.2.1 12 l) 0 9 := by rw [(c4 l hl).1]; exact (v4 l hl).1
    have rr : rng (C.2.1 13 r) 0 9 := by rw [(c4 r (by omega)).2.1]; exact (v4 r (by omega)).2
    have e99 : ∀ k33 k45 f, gbX10_paired_99 k33 k45 (gfX10_paired_51 k33 k45 f) (nI l) (nI m) (nI r) (wR M 53 (upd p0 m x)) = gfX10_paired_51 k33 k45 f (nI l) (nI m) (nI (r + 1)) (wR M 53 (upd p0 m x)) := by
      intro k33 k45 f
      unfold gbX10_paired_99 gbX10_paired_100
      rw [if_pos rfl, wR_eq, rA_nI (by omega) (by omega), Option.bind_some, pk_us, wA_nI (by omega) (by omega), Option.bind_some, wR_eq, wR_wR, fa_upd_twice, nmE, nI_succ]
    have skip : ¬ (okE C l r ∧ m.testBit r = true) → ∃ s', (∀ f, (fun (k33 : Int32 → SV → Option (Int32 × SV)) (k45 : Int32 → Int32 → SV → Option (Int32 × SV)) => gfX10_paired_51 k33 k45 (f + 1) (nI l) (nI m) (nI r) (wR M 53 (upd p0 m x))) = fun k33 k45 => gfX10_paired_51 k33 k45 f (nI l) (nI m) (nI (r + 1)) s') ∧ s' = wR M 53 (upd p0 m x) := by
      intro hq
      refine ⟨wR M 53 (upd p0 m x), fun f => ?_, rfl⟩
      funext k33 k45
      show gbX10_paired_51 _ _ _ _ _ _ _ = _
      unfold gbX10_paired_51
      rw [o3, Option.bind_some, if_neg (nI_ge hr (by omega))]
      by_cases ht : m.testBit r = true
      · have hno : C.1 19 < iabs (C.2.1 12 l - C.2.1 13 r) := Classical.byContradiction (fun q => hq ⟨q, ht⟩)
        rw [if_neg (fun e => by have := (m_has0 _ (show r < 32 by omega)).mp e; rw [bt_nI _ (by omega), ht] at this; cases this), show (38 : Int32) = nI 38 from rfl, show (42 : Int32) = nI 42 from rfl, oL, Option.bind_some, oR, Option.bind_some, o5, Option.bind_some, apart_sym rl rr, if_pos hno]
        exact e99 k33 k45 f
      · rw [if_pos ((m_has0 _ (by omega)).mpr (by rw [bt_nI _ (by omega)]; simpa using ht))]
        exact e99 k33 k45 f
    by_cases hq : okE C l r ∧ m.testBit r = true
    · obtain ⟨q1, q2⟩ := hq
      obtain ⟨d1, d2⟩ := (clr_lt m hm r (by omega)).2 q2
      have hc := hp (clr m r) (by omega)
      have pv : upd p0 m x (clr m r) = p (clr m r) := by rw [pk_un (by omega), h0 _ d1]
      refine ⟨(nI (r + 1), wR M 53 (upd p0 m (fX10_greater x (1 + p (clr m r))))), fun f => ?_, rfl, fX10_greater x (1 + p (clr m r)), rfl, ?_, ?_⟩
      · funext k33 k45
        show gbX10_paired_51 _ _ _ _ _ _ _ = _
        unfold gbX10_paired_51 gbX10_paired_100
        rw [o3, Option.bind_some, if_neg (nI_ge hr (by omega)), if_neg (fun e => by have := (m_has0 _ (show r < 32 by omega)).mp e; rw [bt_nI _ (by omega), q2] at this; cases this), show (38 : Int32) = nI 38 from rfl, show (42 : Int32) = nI 42 from rfl, oL, Option.bind_some, oR, Option.bind_some, o5, Option.bind_some, apart_sym rl rr, if_neg q1, if_neg (show ¬ (1 : Int32) = 0 by decide), wR_eq, rA_nI (by omega) (by omega), Option.bind_some, pk_us, clr_e m hm r (by omega), rA_nI (by omega) (by omega), Option.bind_some, pv, wA_nI (by omega) (by omega), Option.bind_some, wR_eq, wR_wR, fa_upd_twice, nmE, nI_succ]
      · intro hF
        have o1 : (1 : Int32) = nI 1 := rfl
        by_cases hold : F m = true ∨ ∃ r', r' < r ∧ okE C l r' ∧ m.testBit r' = true ∧ F (clr m r') = true
        · rw [e3 hold]
          cases hf : F (clr m r)
          · have := (hc.2 hf)
            have le : 1 + p (clr m r) ≤ nI (pcN m) := by
              obtain ⟨a1, a2⟩ := this
              have p4' := pcN_4 (clr m r) (by omega)
              rw [fa_le, fb_addI (by rw [t1]; omega) (by rw [t1]; omega), t1, nI_toInt (by omega)]; omega
            exact gre_l le
          · rw [(hc.1 hf), o1, nI_add, gre_nI (by omega) (by have := pcN_4 (clr m r) (by omega); omega)]
            congr 1; omega
        · have hx := e4 hold
          have hf : F (clr m r) = true := by
            rcases hF with u | ⟨r', u1, u2, u3, u4⟩
            · exact absurd (Or.inl u) hold
            · by_cases e : r' = r
              · rw [← e]; exact u4
              · exact absurd (Or.inr ⟨r', by omega, u2, u3, u4⟩) hold
          rw [(hc.1 hf), o1, nI_add]
          have : ¬ nI (1 + pcN (clr m r)) ≤ x := by
            obtain ⟨a1, a2⟩ := hx
            rw [fa_le, nI_toInt (by have := pcN_4 (clr m r) (by omega); omega)]; omega
          rw [gre_r this]
          congr 1; omega
      · intro hF
        have hold : ¬ (F m = true ∨ ∃ r', r' < r ∧ okE C l r' ∧ m.testBit r' = true ∧ F (clr m r') = true) := fun u => hF (by
          rcases u with u | ⟨r', u1, u2⟩
          · exact Or.inl u
          · exact Or.inr ⟨r', by omega, u2⟩)
        have hx := e4 hold
        have hf : F (clr m r) = false := by
          cases hq : F (clr m r)
          · rfl
          · exact absurd (Or.inr ⟨r, by omega, q1, q2, hq⟩) hF
        have hr2 := hc.2 hf
        obtain ⟨a1, a2⟩ := hx
        obtain ⟨b1, b2⟩ := hr2
        have p4' := pcN_4 (clr m r) (by omega)
        have ea : (1 + p (clr m r)).toInt = 1 + (p (clr m r)).toInt := fb_addI (by rw [t1]; omega) (by rw [t1]; omega)
        by_cases q : 1 + p (clr m r) ≤ x
        · rw [gre_l q]; exact ⟨a1, a2⟩
        · rw [gre_r q]
          exact ⟨by rw [ea]; omega, by rw [ea]; omega⟩
    · obtain ⟨s', g1, g2⟩ := skip hq
      subst g2
      refine ⟨(nI (r + 1), wR M 53 (upd p0 m x)), g1, rfl, x, rfl, fun hF => e3 ?_, fun hF => e4 (fun u => hF ?_)⟩
      · rcases hF with u | ⟨r', u1, u2, u3, u4⟩
        · exact Or.inl u
        · by_cases e : r' = r
          · subst e; exact absurd ⟨u2, u3⟩ hq
          · exact Or.inr ⟨r', by omega, u2, u3, u4⟩
      · rcases u with u | ⟨r', u1, u2⟩
        · exact Or.inl u
        · exact Or.inr ⟨r', by omega, u2⟩
  · rintro ⟨t, M1⟩ ⟨e1, x, e2, e3, e4⟩
    replace e1 : t = nI R := e1
    replace e2 : M1 = wR M 53 (upd p0 m x) := e2
    subst e1 e2
    have o3 : gX10_of 3 (wR M 53 (upd p0 m x)) = some (nI R) := by rw [← eR]; exact (hM0 _).of (j := 3) (by omega)
    refine ⟨fun k33 k45 => k45 (nI l) (nI m + -1) (wR M 53 (upd p0 m x)), fun f => ?_, x, rfl, e3, e4⟩
    funext k33 k45
    show gbX10_paired_51 _ _ _ _ _ _ _ = _
    unfold gbX10_paired_51
    rw [o3, Option.bind_some, if_pos (nI_le (Nat.le_refl _) (by omega)), nmE]
  · rintro (u | ⟨r', u1, -⟩)
    · rw [hpm]; exact (hp m hm).1 u
    · omega
  · intro u
    rw [hpm]
    exact (hp m hm).2 (by
      cases q : F m
      · rfl
      · exact absurd (Or.inl q) u)
end PD
