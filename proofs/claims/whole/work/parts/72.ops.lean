/-! ===== what is done in a YEAR: class and reference ===== -/
def FrC (S S' : SV) : Prop := S'.1 7 = S.1 7 ∧ S'.1 13 = S.1 13 ∧ S'.1 14 = S.1 14
theorem FrC.rf {S : SV} : FrC S S := ⟨rfl, rfl, rfl⟩
theorem FrC.tr {S S1 S2 : SV} (h : FrC S S1) (h2 : FrC S1 S2) : FrC S S2 := ⟨h2.1.trans h.1, h2.2.1.trans h.2.1, h2.2.2.trans h.2.2⟩
theorem FrC.wi {S S' : SV} (h : FrC S S') {k : Nat} (hk : k ≠ 7 ∧ k ≠ 13 ∧ k ≠ 14) (x : Int32) : FrC S (wI S' k x) := ⟨(wI_ne (by omega)).trans h.1, (wI_ne (by omega)).trans h.2.1, (wI_ne (by omega)).trans h.2.2⟩
theorem FrC.wr_ {S S' : SV} (h : FrC S S') (k : Nat) (f : Nat → Int32) : FrC S (wR S' k f) := h
theorem wI_swap (S : SV) {a b : Nat} (h : a ≠ b) (x y : Int32) : wI (wI S a x) b y = wI (wI S b y) a x := by
  unfold wI; simp only; rw [fa_upd_swap _ h]
section OP
variable {C : SV} {B : Nat → Int32} {i n c : Nat} {A : Nat → Int32} {M S : SV}
theorem SR.fm (h : SR n A S M) : FM n A (S.2.1 1) (S.2.1 2) (S.1 6) M := h.1
theorem SR.go (h : SR n A S M) : GO n A (S.1 6) := h.2.2.2
theorem SR.rg (h : SR n A S M) : ∀ t, t < n → rng (S.2.1 1 t) 0 99 ∧ rng (S.2.1 2 t) 0 9 := h.2.2.1
theorem SR.e6 (h : SR n A S M) : M.1 31 = S.1 6 := h.1.2.2.1
theorem SR.e8 (h : SR n A S M) : M.1 32 = S.1 8 := h.2.1.1
theorem SR.e9 (h : SR n A S M) : M.1 33 = S.1 9 := h.2.1.2.1
theorem SR.e10 (h : SR n A S M) : M.1 34 = S.1 10 := h.2.1.2.2.1
theorem SR.e11 (h : SR n A S M) : M.1 35 = S.1 11 := h.2.1.2.2.2.1
theorem SR.e12 (h : SR n A S M) : M.1 36 = S.1 12 := h.2.1.2.2.2.2.1
theorem SR.e5 (h : SR n A S M) : M.1 37 = S.1 5 := h.2.1.2.2.2.2.2
theorem SR.sol (h : SR n A S M) {t : Nat} (ht : t < n) (hb : bt (S.1 6) t = false) : M.2.1 28 t = S.2.1 1 t := by
  have := (h.1.2.2.2 t ht).1; rw [hb] at this; exact this
theorem SR.wei (h : SR n A S M) {t : Nat} (ht : t < n) (hb : bt (S.1 6) t = false) : M.2.1 29 t = S.2.1 2 t := by
  have := (h.1.2.2.2 t ht).2; rw [hb] at this; exact this
theorem SR.sol0 (h : SR n A S M) {t : Nat} (ht : t < n) (hb : bt (S.1 6) t = true) : M.2.1 28 t = 0 ∧ M.2.1 29 t = 0 := by
  have := h.1.2.2.2 t ht; rw [hb] at this; exact this
/-- one THING that is there gets another SOLID -/
theorem SR.u1 (h : SR n A S M) {k : Nat} (hb : bt (S.1 6) k = false) {x : Int32} (hx : rng x 0 99) : SR n A (wR S 1 (upd (S.2.1 1) k x)) (wR M 28 (upd (M.2.1 28) k x)) := by
  obtain ⟨⟨r1, r2, r3, r4⟩, q, r5, r6⟩ := h
  refine ⟨⟨r1, r2, r3, fun t ht => ?_⟩, q, fun t ht => ?_, r6⟩
  · show upd (M.2.1 28) k x t = (if bt (S.1 6) t = true then 0 else upd (S.2.1 1) k x t) ∧ M.2.1 29 t = (if bt (S.1 6) t = true then 0 else S.2.1 2 t)
    refine ⟨?_, (r4 t ht).2⟩
    by_cases e : t = k
    · subst e; rw [pk_us, pk_us, hb]; rfl
    · rw [pk_un e, pk_un e]; exact (r4 t ht).1
  · show rng (upd (S.2.1 1) k x t) 0 99 ∧ rng (S.2.1 2 t) 0 9
    refine ⟨?_, (r5 t ht).2⟩
    by_cases e : t = k
    · subst e; rw [pk_us]; exact hx
    · rw [pk_un e]; exact (r5 t ht).1
theorem SR.u2 (h : SR n A S M) {k : Nat} (hb : bt (S.1 6) k = false) {x : Int32} (hx : rng x 0 9) : SR n A (wR S 2 (upd (S.2.1 2) k x)) (wR M 29 (upd (M.2.1 29) k x)) := by
  obtain ⟨⟨r1, r2, r3, r4⟩, q, r5, r6⟩ := h
  refine ⟨⟨r1, r2, r3, fun t ht => ?_⟩, q, fun t ht => ?_, r6⟩
  · show M.2.1 28 t = (if bt (S.1 6) t = true then 0 else S.2.1 1 t) ∧ upd (M.2.1 29) k x t = (if bt (S.1 6) t = true then 0 else upd (S.2.1 2) k x t)
    refine ⟨(r4 t ht).1, ?_⟩
    by_cases e : t = k
    · subst e; rw [pk_us, pk_us, hb]; rfl
    · rw [pk_un e, pk_un e]; exact (r4 t ht).2
  · show rng (S.2.1 1 t) 0 99 ∧ rng (upd (S.2.1 2) k x t) 0 9
    refine ⟨(r5 t ht).1, ?_⟩
    by_cases e : t = k
    · subst e; rw [pk_us]; exact hx
    · rw [pk_un e]; exact (r5 t ht).2
theorem SR.w3 (h : SR n A S M) {k : Nat} (hk : k = 3 ∨ k = 4) (f : Nat → Int32) : SR n A (wR S k f) M := by
  obtain ⟨⟨r1, r2, r3, r4⟩, q, r5, r6⟩ := h
  refine ⟨⟨r1, r2, r3, fun t ht => ?_⟩, q, fun t ht => ?_, r6⟩
  · rw [wR_ne (by omega), wR_ne (by omega)]; exact r4 t ht
  · rw [wR_ne (by omega), wR_ne (by omega)]; exact r5 t ht
theorem SR.ii (h : SR n A S M) {a b : Nat} (hab : (a = 8 ∧ b = 32) ∨ (a = 9 ∧ b = 33) ∨ (a = 10 ∧ b = 34) ∨ (a = 11 ∧ b = 35) ∨ (a = 12 ∧ b = 36) ∨ (a = 5 ∧ b = 37)) (x : Int32) : SR n A (wI S a x) (wI M b x) := by
  obtain ⟨⟨r1, r2, r3, r4⟩, ⟨q1, q2, q3, q4, q5, q6⟩, r5, r6⟩ := h
  have e6 : (wI S a x).1 6 = S.1 6 := wI_ne (by omega)
  refine ⟨⟨(wI_ne (by omega)).trans r1, r2, ?_, fun t ht => ?_⟩, ?_, r5, by rw [e6]; exact r6⟩
  · rw [e6, wI_ne (by omega)]; exact r3
  · rw [e6]; exact r4 t ht
  · rcases hab with ⟨rfl, rfl⟩ | ⟨rfl, rfl⟩ | ⟨rfl, rfl⟩ | ⟨rfl, rfl⟩ | ⟨rfl, rfl⟩ | ⟨rfl, rfl⟩
    · exact ⟨rfl, q2, q3, q4, q5, q6⟩
    · exact ⟨q1, rfl, q3, q4, q5, q6⟩
    · exact ⟨q1, q2, rfl, q4, q5, q6⟩
    · exact ⟨q1, q2, q3, rfl, q5, q6⟩
    · exact ⟨q1, q2, q3, q4, rfl, q6⟩
    · exact ⟨q1, q2, q3, q4, q5, rfl⟩
/-! who is meant -/
theorem c_thing (h : CX C B n c) (x : Int32) : (∃ k, k < n ∧ x = nI k ∧ gX0_hasThing x C = some 1) ∨ ((x < 0 ∨ nI n ≤ x) ∧ gX0_hasThing x C = some 0) := by
  have hn := h.hn
  unfold gX0_hasThing
  rw [h.c0]
  rcases pk_ix x (n := n) (by omega) with q | q | ⟨k, hk, rfl⟩
  · exact Or.inr ⟨Or.inl q, by rw [if_pos q]⟩
  · refine Or.inr ⟨Or.inr q, ?_⟩
    by_cases q2 : x < 0
    · rw [if_pos q2]
    · rw [if_neg q2, if_pos q]
  · exact Or.inl ⟨k, hk, rfl, by rw [if_neg (nI_pos (by omega)), if_neg (nI_ge hk (by omega))]⟩
theorem in_n {n : Nat} (hn : n ≤ 8) (x : Int32) : (∃ k, k < n ∧ x = nI k ∧ fX10_in x 0 (nI n - 1) = 1) ∨ ((x < 0 ∨ nI n ≤ x) ∧ fX10_in x 0 (nI n - 1) = 0) := by
  have ht : (nI n).toInt = n := nI_toInt (by omega)
  have e : (nI n - 1).toInt = (n : Int) - 1 := by rw [fb_subI] <;> rw [ht, t1] <;> omega
  rcases pk_ix x (n := n) (by omega) with q | q | ⟨k, hk, rfl⟩
  · exact Or.inr ⟨Or.inl q, m_in1 (by rw [fa_lt, t0] at q; rw [t0]; omega)⟩
  · exact Or.inr ⟨Or.inr q, m_in1 (by rw [fa_le, ht] at q; rw [e]; omega)⟩
  · have hk2 : (nI k).toInt = k := nI_toInt (by omega)
    refine Or.inl ⟨k, hk, rfl, ?_⟩
    rw [m_in, if_pos ⟨(fa_le _ _).mpr (by rw [t0, hk2]; omega), (fa_le _ _).mpr (by rw [hk2, e]; omega)⟩]
theorem out_in {n k : Nat} (hk : k < n) (hn : n ≤ 8) (h : nI k < 0 ∨ nI n ≤ nI k) : False := by
  rcases h with h | h
  · exact nI_pos (by omega) h
  · exact nI_ge hk (by omega) h
theorem thing_both (h : CX C B n c) (hM : MX B i n c A M) (x : Int32) : (∃ k, k < n ∧ x = nI k ∧ gX0_hasThing x C = some 1 ∧ gX10_isThing x M = some 1) ∨ ((x < 0 ∨ nI n ≤ x) ∧ gX0_hasThing x C = some 0 ∧ gX10_isThing x M = some 0) := by
  have hn := h.hn
  unfold gX10_isThing
  rw [hM.fm]
  rcases c_thing h x with ⟨k, hk, rfl, e⟩ | ⟨q, e⟩
  · rcases in_n hn (nI k) with ⟨j, hj, e2, e3⟩ | ⟨q, -⟩
    · rw [e3]; exact Or.inl ⟨k, hk, rfl, e, rfl⟩
    · exact (out_in hk hn q).elim
  · rcases in_n hn x with ⟨j, hj, rfl, -⟩ | ⟨-, e3⟩
    · exact (out_in hj hn q).elim
    · rw [e3]; exact Or.inr ⟨q, e, rfl⟩
theorem couple_both (h : CX C B n c) (hM : MX B i n c A M) (x : Int32) : (∃ k, k < c ∧ x = nI k ∧ gX10_isCouple x M = some 1) ∨ ((x < 0 ∨ nI c ≤ x) ∧ gX10_isCouple x M = some 0) := by
  have hc := h.hc
  unfold gX10_isCouple
  rw [hM.cp]
  rcases in_n (n := c) (by omega) x with ⟨j, hj, e2, e3⟩ | ⟨q, e3⟩
  · rw [e3]; exact Or.inl ⟨j, hj, e2, rfl⟩
  · rw [e3]; exact Or.inr ⟨q, rfl⟩
theorem there_both (h : CX C B n c) (hM : MX B i n c A M) (hR : SR n A S M) (x : Int32) : (∃ k, k < n ∧ x = nI k ∧ bt (S.1 6) k = false ∧ gX6_isThere C x S = some 1 ∧ gX10_isThere x M = some 1) ∨ (gX6_isThere C x S = some 0 ∧ gX10_isThere x M = some 0 ∧ ((x < 0 ∨ nI n ≤ x) ∨ ∃ k, k < n ∧ x = nI k ∧ bt (S.1 6) k = true)) := by
  have hn := h.hn
  unfold gX6_isThere gX10_isThere
  rcases thing_both h hM x with ⟨k, hk, rfl, e1, e2⟩ | ⟨q, e1, e2⟩
  · rw [e1, e2]
    simp only [Option.bind_some, show ¬ ((1 : Int32) = 0) by decide, if_false, hR.e6, c_has0 _ (show k < 32 by omega), m_has0 _ (show k < 32 by omega)]
    cases hb : bt (S.1 6) k
    · exact Or.inl ⟨k, hk, rfl, hb, rfl, rfl⟩
    · exact Or.inr ⟨rfl, rfl, Or.inr ⟨k, hk, rfl, hb⟩⟩
  · rw [e1, e2]
    exact Or.inr ⟨rfl, rfl, Or.inl q⟩
/-! sights of a couple -/
theorem pick_nI {n k m : Nat} {f : Nat → Int32} (hk : k < m) (hm : m ≤ n) (hn : n < 2 ^ 31) : gX9_pick n f (nI m) (nI k) = some (f k) := by
  rw [pickS hn, nI_toInt (show k < 2 ^ 31 by omega), nI_toInt (show m < 2 ^ 31 by omega), if_pos (by omega), nI_clamp (by omega)]
theorem imax0 {x : Int32} (h : 0 ≤ x.toInt) : imax 0 x = x := by
  rw [imax_g]
  unfold fX10_greater
  rw [if_pos ((fa_le _ _).mpr (by rw [t0]; exact h))]
theorem CX.cpl (h : CX C B n c) {k : Nat} (hk : k < c) : ∃ l r, l < 4 ∧ r < 4 ∧ B (46 + k) = nI l ∧ B (50 + k) = nI r ∧ (l : Int) < (B 2).toInt ∧ (r : Int) < (B 3).toInt := by
  obtain ⟨⟨-, -, v2, v3, -, -⟩, -, -, v, -⟩ := h.vb
  obtain ⟨⟨a1, a2⟩, ⟨b1, b2⟩⟩ := v k (by rw [h.t4]; omega)
  have := v2.2
  have := v3.2
  obtain ⟨l, hl, el⟩ := vp_in_of (x := B (46 + k)) (n := 4) (vp_in_iff.mpr ⟨a1, by omega⟩) (by decide)
  obtain ⟨r, hr, er⟩ := vp_in_of (x := B (50 + k)) (n := 4) (vp_in_iff.mpr ⟨b1, by omega⟩) (by decide)
  rw [el, nI_toInt (by omega)] at a2
  rw [er, nI_toInt (by omega)] at b2
  exact ⟨l, r, hl, hr, el, er, by omega, by omega⟩
theorem sight_both (h : CX C B n c) (hM : MX B i n c A M) {k : Nat} (hk : k < c) : ∃ x y, rng x 0 9 ∧ rng y 0 9 ∧ gX0_sightOfLeft (nI k) C = some x ∧ gX0_sightOfRight (nI k) C = some y ∧ ∀ M' : SV, MX B i n c A M' → gX10_sightLeft (nI k) M' = some x ∧ gX10_sightRight (nI k) M' = some y := by
  have hc := h.hc
  obtain ⟨l, r, hl, hr, el, er, gl, gr⟩ := h.cpl hk
  obtain ⟨⟨-, -, k2, k3, k4, -⟩, -, c4, -⟩ := h.cr
  obtain ⟨⟨-, -, v2, v3, -, -⟩, -, v4, -⟩ := h.vb
  obtain ⟨a, ha, ea⟩ := vp_in_of (x := B 2) (n := 5) (vp_in_iff.mpr ⟨v2.1, by have := v2.2; omega⟩) (by decide)
  obtain ⟨b, hb, eb⟩ := vp_in_of (x := B 3) (n := 5) (vp_in_iff.mpr ⟨v3.1, by have := v3.2; omega⟩) (by decide)
  rw [ea, nI_toInt (by omega)] at gl
  rw [eb, nI_toInt (by omega)] at gr
  have r1 := (v4 l hl).1
  have r2 := (v4 r hr).2
  refine ⟨B (38 + l), B (42 + r), r1, r2, ?_, ?_, fun M' hM' => ⟨?_, ?_⟩⟩
  · unfold gX0_sightOfLeft
    rw [h.c14, pick_nI hk (by omega) (by omega), (c4 k (by omega)).2.2.1, el]
    simp only [Option.bind_some]
    rw [k2, ea, pick_nI (by omega) (by omega) (by omega), (c4 l hl).1]
    simp only [Option.bind_some]
    rw [imax0 r1.1]
  · unfold gX0_sightOfRight
    rw [h.c14, pick_nI hk (by omega) (by omega), (c4 k (by omega)).2.2.2, er]
    simp only [Option.bind_some]
    rw [k3, eb, pick_nI (by omega) (by omega) (by omega), (c4 r hr).2.1]
    simp only [Option.bind_some]
    rw [imax0 r2.1]
  · unfold gX10_sightLeft
    rw [show (46 : Int32) = nI 46 from rfl, show (38 : Int32) = nI 38 from rfl, hM'.ofa (by omega), el]
    simp only [Option.bind_some]
    rw [hM'.ofa (by omega)]; rfl
  · unfold gX10_sightRight
    rw [show (50 : Int32) = nI 50 from rfl, show (42 : Int32) = nI 42 from rfl, hM'.ofa (by omega), er]
    simp only [Option.bind_some]
    rw [hM'.ofa (by omega)]; rfl
theorem rng_e {x : Int32} {a : Int} (h : x.toInt = a) : rng x a a := ⟨Int.le_of_eq h.symm, Int.le_of_eq h⟩
theorem les_rng {x y : Int32} {a : Int} (hx : rng x a a) (hy : 0 ≤ y.toInt) (ha : 0 ≤ a) : rng (fX10_lesser x y) 0 a := by
  obtain ⟨h1, h2⟩ := hx
  by_cases h : x ≤ y
  · rw [les_l h]; exact ⟨by omega, by omega⟩
  · rw [les_r h]; rw [fa_le] at h; exact ⟨hy, by omega⟩
/-- the look itself -/
theorem sees_both (h : CX C B n c) (hM : MX B i n c A M) (hR : SR n A S M) {k t : Nat} (hk : k < c) (ht : t < n) (hb : bt (S.1 6) t = false) : ∃ S' M', gbX6_look_59 C (nI k) (nI t) 1 S = some (1, S') ∧ gX10_sees (nI k) (nI t) M = some M' ∧ SR n A S' M' ∧ FrS M M' ∧ FrC S S' ∧ S'.1 6 = S.1 6 ∧ S'.1 5 = S.1 5 ∧ S'.1 8 = S.1 8 ∧ S'.1 10 = (S.1 10 ||| shl 1 (nI k)) ∧ S'.1 11 = (S.1 11 ||| shl 1 (nI t)) ∧ S'.2.1 3 = upd (S.2.1 3) k (S.2.1 3 k + 1) := by
  have hn := h.hn
  have hc := h.hc
  obtain ⟨x, y, hx, hy, s1, s2, s3⟩ := sight_both h hM hk
  obtain ⟨m1, m2⟩ := s3 M hM
  have t99 : (99 : Int32).toInt = 99 := rfl
  have t9 : (9 : Int32).toInt = 9 := rfl
  have rs := (hR.rg t ht).1
  have rw_ := (hR.rg t ht).2
  have hadd : rng (S.2.1 1 t + x + y) 0 117 := (add_rng (add_rng rs hx (by omega) (by omega)) hy (by omega) (by omega)).mono (by omega) (by omega)
  have hN : rng (fX10_lesser 99 (S.2.1 1 t + x + y)) 0 99 := les_rng (rng_e t99) hadd.1 (by omega)
  have hW : rng (fX10_lesser 9 (S.2.1 2 t + 1)) 0 9 := les_rng (rng_e t9) (by
    have := add_rng rw_ (y := 1) (c := 1) (d := 1) (rng_e t1) (by omega) (by omega)
    exact Int.le_trans (by omega) this.1) (by omega)
  have hx2 : rng x (-1000) 1000 := hx.mono (by omega) (by omega)
  have hy2 : rng y (-1000) 1000 := hy.mono (by omega) (by omega)
  have hab : iabs (x - y) = fX10_apart x y := by
    rw [iabs_apart hx2 hy2]
    unfold fX10_apart
    obtain ⟨p1, p2⟩ := hx
    obtain ⟨p3, p4⟩ := hy
    by_cases q : y ≤ x
    · rw [if_pos q]
      by_cases q2 : x ≤ y
      · rw [if_pos q2]
        have e : x = y := by rw [fa_le] at q q2; rw [fa_eq]; omega
        rw [e]
      · rw [if_neg q2]
    · have q2 : x ≤ y := by rw [fa_le] at q ⊢; omega
      rw [if_neg q, if_pos q2]
  have R1 := hR.u1 hb hN
  have F1 := FrS.rf (M := M) |>.w28 (upd (M.2.1 28) t (fX10_lesser 99 (S.2.1 1 t + x + y)))
  have hM1 := hM.to F1
  obtain ⟨m3, m4⟩ := s3 _ hM1
  have o5 := hM1.of (j := 5) (by omega)
  have c19 : C.1 19 = B 5 := h.cr.1.2.2.2.2.2
  unfold gbX6_look_59 gX10_sees
  rw [if_neg (show ¬ (1 : Int32) = 0 by decide), s1, s2, rA_nI (by omega) (by omega), rA_nI (by omega) (by omega), m1, m2, hR.sol ht hb]
  simp only [Option.bind_some]
  rw [wA_nI (by omega) (by omega), wA_nI (by omega) (by omega)]
  simp only [Option.bind_some]
  rw [imin_l, m3, m4]
  simp only [Option.bind_some]
  rw [show (5 : Int32) = nI 5 from rfl, o5]
  simp only [Option.bind_some]
  rw [hab, c19]
  by_cases cg : fX10_apart x y ≤ B 5
  · rw [if_pos cg, if_pos cg]
    unfold gbX6_look_158 gbX10_sees_81
    simp only [nm]
    rw [show rA 4 ((wI (wI (wR S 1 (upd (S.2.1 1) t (fX10_lesser 99 (S.2.1 1 t + x + y)))) 10 ((wR S 1 (upd (S.2.1 1) t (fX10_lesser 99 (S.2.1 1 t + x + y)))).1 10 ||| shl 1 (nI k))) 11 ((wI (wR S 1 (upd (S.2.1 1) t (fX10_lesser 99 (S.2.1 1 t + x + y)))) 10 ((wR S 1 (upd (S.2.1 1) t (fX10_lesser 99 (S.2.1 1 t + x + y)))).1 10 ||| shl 1 (nI k))).1 11 ||| shl 1 (nI t))).2.1 3) (nI k) = some (S.2.1 3 k) from rA_nI (by omega) (by omega)]
    simp only [Option.bind_some]
    rw [wA_nI (by omega) (by omega)]
    simp only [Option.bind_some]
    refine ⟨_, _, rfl, rfl, ?_, (F1.wi (by omega) _).wi (by omega) _, ⟨rfl, rfl, rfl⟩, rfl, rfl, rfl, rfl, rfl, rfl⟩
    have R2 := (R1.ii (a := 10) (b := 34) (by omega) (S.1 10 ||| shl 1 (nI k))).ii (a := 11) (b := 35) (by omega) (S.1 11 ||| shl 1 (nI t))
    have R3 := R2.w3 (k := 3) (by omega) (upd (S.2.1 3) k (S.2.1 3 k + 1))
    rw [wI_swap _ (by decide)] at R3
    have e1 : (wR M 28 (upd (M.2.1 28) t (fX10_lesser 99 (S.2.1 1 t + x + y)))).1 35 = S.1 11 := hR.e11
    have e2 : (wI (wR M 28 (upd (M.2.1 28) t (fX10_lesser 99 (S.2.1 1 t + x + y)))) 35 ((wR M 28 (upd (M.2.1 28) t (fX10_lesser 99 (S.2.1 1 t + x + y)))).1 35 ||| shl 1 (nI t))).1 34 = S.1 10 := hR.e10
    rw [e2, e1]
    exact R3
  · rw [if_neg cg, if_neg cg]
    rw [show rA 8 ((wR S 1 (upd (S.2.1 1) t (fX10_lesser 99 (S.2.1 1 t + x + y)))).2.1 2) (nI t) = some (S.2.1 2 t) from rA_nI (by omega) (by omega), show rA 8 ((wR M 28 (upd (M.2.1 28) t (fX10_lesser 99 (S.2.1 1 t + x + y)))).2.1 29) (nI t) = some (S.2.1 2 t) from by rw [← hR.wei ht hb]; exact rA_nI (by omega) (by omega)]
    simp only [Option.bind_some]
    rw [wA_nI (by omega) (by omega), wA_nI (by omega) (by omega)]
    simp only [Option.bind_some, nm]
    rw [imin_l]
    have R1b := R1.u2 (k := t) hb hW
    have F2 := F1.w29 (upd ((wR M 28 (upd (M.2.1 28) t (fX10_lesser 99 (S.2.1 1 t + x + y)))).2.1 29) t (fX10_lesser 9 (S.2.1 2 t + 1)))
    generalize hS1 : wR (wR S 1 (upd (S.2.1 1) t (fX10_lesser 99 (S.2.1 1 t + x + y)))) 2 (upd ((wR S 1 (upd (S.2.1 1) t (fX10_lesser 99 (S.2.1 1 t + x + y)))).2.1 2) t (fX10_lesser 9 (S.2.1 2 t + 1))) = S1 at R1b ⊢
    generalize hM1e : wR (wR M 28 (upd (M.2.1 28) t (fX10_lesser 99 (S.2.1 1 t + x + y)))) 29 (upd ((wR M 28 (upd (M.2.1 28) t (fX10_lesser 99 (S.2.1 1 t + x + y)))).2.1 29) t (fX10_lesser 9 (S.2.1 2 t + 1))) = M1 at R1b F2 ⊢
    have g1 : S1.1 = S.1 := by rw [← hS1]; rfl
    have g3 : S1.2.1 3 = S.2.1 3 := by rw [← hS1]; rfl
    unfold gbX6_look_158 gbX10_sees_81
    simp only [nm]
    rw [show ∀ P : SV, P.2.1 3 = S1.2.1 3 → rA 4 (P.2.1 3) (nI k) = some (S1.2.1 3 k) from fun P hP => by rw [hP]; exact rA_nI (by omega) (by omega)]
    · simp only [Option.bind_some]
      rw [wA_nI (by omega) (by omega)]
      simp only [Option.bind_some]
      refine ⟨_, _, rfl, rfl, ?_, ((F2.wi (by omega) _).wi (by omega) _).wi (by omega) _, ?_, ?_, ?_, ?_, ?_, ?_, ?_⟩
      · have R2 := ((R1b.ii (a := 12) (b := 36) (by omega) (S1.1 12 ||| shl 1 (nI t))).ii (a := 10) (b := 34) (by omega) (S1.1 10 ||| shl 1 (nI k))).ii (a := 11) (b := 35) (by omega) (S1.1 11 ||| shl 1 (nI t))
        have R3 := R2.w3 (k := 3) (by omega) (upd (S1.2.1 3) k (S1.2.1 3 k + 1))
        rw [wI_swap _ (show (34 : Nat) ≠ 35 by decide)] at R3
        have e0 : M1.1 36 = S1.1 12 := R1b.e12
        have e1 : (wI M1 36 (M1.1 36 ||| shl 1 (nI t))).1 35 = S1.1 11 := R1b.e11
        have e2 : (wI (wI M1 36 (M1.1 36 ||| shl 1 (nI t))) 35 ((wI M1 36 (M1.1 36 ||| shl 1 (nI t))).1 35 ||| shl 1 (nI t))).1 34 = S1.1 10 := R1b.e10
        rw [e2, e1, e0]
        exact R3
      · refine ⟨?_, ?_, ?_⟩
        · show S1.1 7 = _; rw [g1]
        · show S1.1 13 = _; rw [g1]
        · show S1.1 14 = _; rw [g1]
      · show S1.1 6 = _; rw [g1]
      · show S1.1 5 = _; rw [g1]
      · show S1.1 8 = _; rw [g1]
      · show S1.1 10 ||| _ = _; rw [g1]
      · show S1.1 11 ||| _ = _; rw [g1]
      · show upd (S1.2.1 3) k (S1.2.1 3 k + 1) = _; rw [g3]
    · rfl
/-- what every deed keeps -/
def OK (S M S' M' : SV) (n : Nat) (A : Nat → Int32) : Prop := SR n A S' M' ∧ FrS M M' ∧ FrC S S' ∧ (rng (S.1 5) 0 99 → rng (S'.1 5) 0 99)
theorem look_both (h : CX C B n c) (hM : MX B i n c A M) (hR : SR n A S M) (a b : Int32) : ∃ r S' M', gX6_look C a b S = some (r, S') ∧ gX10_looks a b M = some (r, M') ∧ OK S M S' M' n A ∧ ((r = 0 ∧ S' = S ∧ M' = M) ∨ (r = 1 ∧ S'.1 6 = S.1 6 ∧ ∃ k, k < c ∧ a = nI k ∧ S'.2.1 3 = upd (S.2.1 3) k (S.2.1 3 k + 1))) := by
  have hn := h.hn
  have hc := h.hc
  have no : gX6_look C a b S = some (0, S) → gX10_looks a b M = some (0, M) → ∃ r S' M', gX6_look C a b S = some (r, S') ∧ gX10_looks a b M = some (r, M') ∧ OK S M S' M' n A ∧ ((r = 0 ∧ S' = S ∧ M' = M) ∨ (r = 1 ∧ S'.1 6 = S.1 6 ∧ ∃ k, k < c ∧ a = nI k ∧ S'.2.1 3 = upd (S.2.1 3) k (S.2.1 3 k + 1))) := fun e1 e2 => ⟨0, S, M, e1, e2, ⟨hR, FrS.rf, FrC.rf, id⟩, Or.inl ⟨rfl, rfl, rfl⟩⟩
  have z58 : ∀ l1 l2, gbX6_look_58 C l1 l2 S = some (0, S) := fun _ _ => rfl
  rcases couple_both h hM a with ⟨k, hk, rfl, e1⟩ | ⟨q, e1⟩
  · have p1 : ¬ nI k < 0 := nI_pos (by omega)
    have p2 : ¬ nI c ≤ nI k := nI_ge hk (by omega)
    have p3 : ¬ Int32.ofNat 4 ≤ nI k := nI_ge (b := 4) (by omega) (by omega)
    rcases there_both h hM hR b with ⟨t, ht, rfl, hb, e2, e3⟩ | ⟨e2, e3, -⟩
    · cases h8 : bt (S.1 8) k
      · cases h10 : bt (S.1 10) k
        · obtain ⟨S', M', f1, f2, f3, f4, f5, f6, f7, f8, f9, f10, f11⟩ := sees_both h hM hR hk ht hb
          refine ⟨1, S', M', ?_, ?_, ⟨f3, f4, f5, fun hh => by rw [f7]; exact hh⟩, Or.inr ⟨rfl, f6, k, hk, rfl, f11⟩⟩
          · unfold gX6_look
            rw [if_neg p1, h.c14, if_neg p2, if_neg p3, e2]
            simp only [Option.bind_some]
            rw [if_neg (by decide), if_pos ((c_has0 _ (by omega)).mpr h8), if_pos ((c_has0 _ (by omega)).mpr h10)]
            exact f1
          · unfold gX10_looks
            rw [e1, e3]
            simp only [Option.bind_some, show ¬ ((1 : Int32) = 0) by decide, if_false]
            rw [hR.e8, hR.e10, if_pos ((m_has0 _ (by omega)).mpr (by rw [b_or, h8, h10]; rfl)), f2]; rfl
        · refine no ?_ ?_
          · unfold gX6_look
            rw [if_neg p1, h.c14, if_neg p2, if_neg p3, e2]
            simp only [Option.bind_some]
            rw [if_neg (by decide), if_pos ((c_has0 _ (by omega)).mpr h8), if_neg (fun e => by rw [(c_has0 _ (by omega)).mp e] at h10; cases h10), z58]
          · unfold gX10_looks
            rw [e1, e3]
            simp only [Option.bind_some, show ¬ ((1 : Int32) = 0) by decide, if_false]
            rw [hR.e8, hR.e10, if_neg (fun e => by have := (m_has0 _ (show k < 32 by omega)).mp e; rw [b_or, h10] at this; simp at this)]
      · refine no ?_ ?_
        · unfold gX6_look
          rw [if_neg p1, h.c14, if_neg p2, if_neg p3, e2]
          simp only [Option.bind_some]
          rw [if_neg (by decide), if_neg (fun e => by rw [(c_has0 _ (by omega)).mp e] at h8; cases h8), z58]
        · unfold gX10_looks
          rw [e1, e3]
          simp only [Option.bind_some, show ¬ ((1 : Int32) = 0) by decide, if_false]
          rw [hR.e8, hR.e10, if_neg (fun e => by have := (m_has0 _ (show k < 32 by omega)).mp e; rw [b_or, h8] at this; simp at this)]
    · refine no ?_ ?_
      · unfold gX6_look
        rw [if_neg p1, h.c14, if_neg p2, if_neg p3, e2]
        simp only [Option.bind_some, if_true, z58]
      · unfold gX10_looks
        rw [e1, e3]
        simp only [Option.bind_some, show ¬ ((1 : Int32) = 0) by decide, if_false, if_true]
  · refine no ?_ ?_
    · unfold gX6_look
      rw [h.c14, z58]
      rcases q with q | q
      · rw [if_pos q]
      · rw [if_pos q, ite_self]
    · unfold gX10_looks
      rw [e1]
      simp only [Option.bind_some, if_true]
theorem shl_xor {x : Int32} {k : Nat} (hk : k < 32) (h : bt x k = false) : x ^^^ shl 1 (nI k) = x ||| shl 1 (nI k) := by
  apply b_ext
  intro j hj
  rw [b_xor, b_or, b_1shl hk hj]
  by_cases e : j = k
  · subst e; rw [h]; simp
  · simp [e]
theorem shl_xor2 {x : Int32} {k : Nat} (hk : k < 32) (h : bt x k = true) : x ^^^ shl 1 (nI k) = x &&& (shl 1 (nI k) ^^^ (-1)) := by
  apply b_ext
  intro j hj
  rw [b_xor, b_and, b_not _ hj, b_1shl hk hj]
  by_cases e : j = k
  · subst e; rw [h]; simp
  · simp [e]
theorem turn_both (h : CX C B n c) (hM : MX B i n c A M) (hR : SR n A S M) (a : Int32) : (∃ r S' M', gX6_quarrel C a S = some (r, S') ∧ gX10_turns a 0 M = some (r, M') ∧ OK S M S' M' n A ∧ (r = 0 ∨ r = 1) ∧ S'.1 6 = S.1 6 ∧ S'.2.1 3 = S.2.1 3) ∧ ∃ r S' M', gX6_reconcile C a S = some (r, S') ∧ gX10_turns a 1 M = some (r, M') ∧ OK S M S' M' n A ∧ (r = 0 ∨ r = 1) ∧ S'.1 6 = S.1 6 ∧ S'.2.1 3 = S.2.1 3 := by
  have hc := h.hc
  have same : OK S M S M n A := ⟨hR, FrS.rf, FrC.rf, id⟩
  have ok8 : ∀ x, OK S M (wI S 8 x) (wI M 32 x) n A := fun x => ⟨hR.ii (by omega) x, FrS.rf.wi (by omega) x, FrC.rf.wi (by decide) x, id⟩
  rcases couple_both h hM a with ⟨k, hk, rfl, e1⟩ | ⟨q, e1⟩
  · have p1 : ¬ nI k < 0 := nI_pos (by omega)
    have p2 : ¬ nI c ≤ nI k := nI_ge hk (by omega)
    unfold gX6_quarrel gX6_reconcile gX10_turns
    rw [e1, h.c14]
    simp only [Option.bind_some, show ¬ ((1 : Int32) = 0) by decide, if_false, if_neg p1, if_neg p2, hR.e8, nm, m_has _ (show k < 32 by omega), c_has _ (show k < 32 by omega)]
    cases h8 : bt (S.1 8) k
    · simp only [Bool.false_eq_true, if_false, if_true, show ¬ ((0 : Int32) = 1) by decide]
      refine ⟨⟨1, _, _, rfl, rfl, ?_, Or.inr rfl, rfl, rfl⟩, ⟨0, S, M, rfl, rfl, same, Or.inl rfl, rfl, rfl⟩⟩
      rw [shl_xor (by omega) h8]; exact ok8 _
    · simp only [if_true, show ¬ ((1 : Int32) = 0) by decide, if_false]
      refine ⟨⟨0, S, M, rfl, rfl, same, Or.inl rfl, rfl, rfl⟩, ⟨1, _, _, rfl, rfl, ?_, Or.inr rfl, rfl, rfl⟩⟩
      rw [shl_xor2 (by omega) h8]; exact ok8 _
  · have z1 : gX6_quarrel C a S = some (0, S) := by
      unfold gX6_quarrel
      rw [h.c14]
      rcases q with q | q
      · rw [if_pos q]
      · rw [if_pos q, ite_self]
    have z2 : gX6_reconcile C a S = some (0, S) := by
      unfold gX6_reconcile
      rw [h.c14]
      rcases q with q | q
      · rw [if_pos q]
      · rw [if_pos q, ite_self]
    have z3 : ∀ l, gX10_turns a l M = some (0, M) := by
      intro l
      unfold gX10_turns
      rw [e1]
      simp only [Option.bind_some, if_true]
    exact ⟨⟨0, S, M, z1, z3 0, same, Or.inl rfl, rfl, rfl⟩, ⟨0, S, M, z2, z3 1, same, Or.inl rfl, rfl, rfl⟩⟩
theorem forge_both (h : CX C B n c) (hM : MX B i n c A M) (hR : SR n A S M) (a : Int32) : ∃ r S' M', gX6_forge C a S = some (r, S') ∧ gX10_forges a M = some (r, M') ∧ OK S M S' M' n A ∧ (r = 0 ∨ r = 1) ∧ S'.1 6 = S.1 6 ∧ S'.2.1 3 = S.2.1 3 := by
  have hn := h.hn
  unfold gX6_forge gX10_forges
  rcases there_both h hM hR a with ⟨t, ht, rfl, hb, e2, e3⟩ | ⟨e2, e3, -⟩
  · rw [e2, e3]
    simp only [Option.bind_some, show ¬ ((1 : Int32) = 0) by decide, if_false]
    rw [rA_nI (by omega) (by omega), rA_nI (by omega) (by omega), hR.sol ht hb]
    simp only [Option.bind_some]
    rw [wA_nI (by omega) (by omega), wA_nI (by omega) (by omega)]
    simp only [Option.bind_some, nm]
    rw [imin_l]
    have t99 : (99 : Int32).toInt = 99 := rfl
    have rs := (hR.rg t ht).1
    have h2 : (2 * S.2.1 1 t).toInt = 2 * (S.2.1 1 t).toInt := by
      rw [fb_mulI] <;> rw [t2] <;> have := rs.1 <;> have := rs.2 <;> omega
    have hN : rng (fX10_lesser 99 (2 * S.2.1 1 t)) 0 99 := les_rng (rng_e t99) (by rw [h2]; have := rs.1; omega) (by omega)
    refine ⟨1, _, _, rfl, rfl, ⟨?_, (FrS.rf.w28 _).wi (by omega) _, (FrC.rf.wr_ 1 _).wi (by decide) _, id⟩, Or.inr rfl, rfl, rfl⟩
    have R1 := (hR.u1 hb hN).ii (a := 9) (b := 33) (by omega) (S.1 9 ||| shl 1 (nI t))
    have e0 : (wR M 28 (upd (M.2.1 28) t (fX10_lesser 99 (2 * S.2.1 1 t)))).1 33 = S.1 9 := hR.e9
    rw [e0]; exact R1
  · rw [e2, e3]
    simp only [Option.bind_some, if_true]
    exact ⟨0, S, M, rfl, rfl, ⟨hR, FrS.rf, FrC.rf, id⟩, Or.inl rfl, rfl, rfl⟩
end OP
