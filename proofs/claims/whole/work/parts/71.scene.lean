/-! ===== a COUNTRY in hand: class and reference ===== -/
def CX (C : SV) (B : Nat → Int32) (n c : Nat) : Prop := (CR C B ∧ VB B ∧ NR B ∧ CD C B) ∧ B 0 = nI n ∧ n ≤ 8 ∧ B 4 = nI c ∧ c ≤ 4
def MX (B : Nat → Int32) (i n c : Nat) (A : Nat → Int32) (M : SV) : Prop := (i < 2 ∧ M.1 25 = nI i) ∧ (∀ j, j < 110 → M.2.1 6 (110 * i + j) = B j) ∧ M.1 26 = nI n ∧ M.1 27 = nI c ∧ ∀ t, t < 8 → M.2.1 30 t = A t
/-- what is gone: THINGS alone, and with each all that rest on it -/
def GO (n : Nat) (A : Nat → Int32) (g : Int32) : Prop := (∀ k, n ≤ k → k < 32 → bt g k = false) ∧ ∀ t, t < n → bt g t = true → ∀ k, k < 32 → bt (A t) k = true → bt g k = true
def SR (n : Nat) (A : Nat → Int32) (S M : SV) : Prop :=
  FM n A (S.2.1 1) (S.2.1 2) (S.1 6) M ∧
  (M.1 32 = S.1 8 ∧ M.1 33 = S.1 9 ∧ M.1 34 = S.1 10 ∧ M.1 35 = S.1 11 ∧ M.1 36 = S.1 12 ∧ M.1 37 = S.1 5) ∧
  (∀ t, t < n → rng (S.2.1 1 t) 0 99 ∧ rng (S.2.1 2 t) 0 9) ∧ GO n A (S.1 6)
/-- above: THINGS alone, transitive -/
def AT (n : Nat) (A : Nat → Int32) : Prop := (∀ t, t < 8 → ∀ k, k < 32 → bt (A t) k = true → k < n) ∧ ∀ t, t < n → ∀ k, k < n → bt (A t) k = true → ∀ j, j < 32 → bt (A k) j = true → bt (A t) j = true
section CX
variable {C : SV} {B : Nat → Int32} {n c : Nat}
theorem CX.cr (h : CX C B n c) : CR C B := h.1.1
theorem CX.vb (h : CX C B n c) : VB B := h.1.2.1
theorem CX.nr (h : CX C B n c) : NR B := h.1.2.2.1
theorem CX.cd (h : CX C B n c) : CD C B := h.1.2.2.2
theorem CX.b0 (h : CX C B n c) : B 0 = nI n := h.2.1
theorem CX.hn (h : CX C B n c) : n ≤ 8 := h.2.2.1
theorem CX.b4 (h : CX C B n c) : B 4 = nI c := h.2.2.2.1
theorem CX.hc (h : CX C B n c) : c ≤ 4 := h.2.2.2.2
theorem CX.c0 (h : CX C B n c) : C.1 0 = nI n := h.cr.1.1.trans h.b0
theorem CX.c14 (h : CX C B n c) : C.1 14 = nI c := h.cr.1.2.2.2.2.1.trans h.b4
theorem CX.t0 (h : CX C B n c) : (B 0).toInt = n := by rw [h.b0, nI_toInt (by have := h.hn; omega)]
theorem CX.t4 (h : CX C B n c) : (B 4).toInt = c := by rw [h.b4, nI_toInt (by have := h.hc; omega)]
theorem cx_of (h1 : CR C B) (h2 : VB B) (h3 : NR B) (h4 : CD C B) : ∃ n c, CX C B n c := by
  obtain ⟨⟨v0, -, -, -, v4, -⟩, -⟩ := id h2
  obtain ⟨n, hn, en⟩ := vp_in_of (x := B 0) (n := 9) (vp_in_iff.mpr ⟨v0.1, by have := v0.2; omega⟩) (by decide)
  obtain ⟨c, hc, ec⟩ := vp_in_of (x := B 4) (n := 5) (vp_in_iff.mpr ⟨v4.1, by have := v4.2; omega⟩) (by decide)
  exact ⟨n, c, ⟨h1, h2, h3, h4⟩, en, by omega, ec, by omega⟩
theorem m1t : (-1 : Int32).toInt = -1 := rfl
theorem nI_m1 {k : Nat} (h : k < 2 ^ 31) : ¬ nI k = -1 := fun e => by rw [fa_eq, nI_toInt h, m1t] at e; omega
theorem dn_m1 (B : Nat → Int32) : ∀ k, dn B k (-1) = -1
  | 0 => rfl
  | k + 1 => by unfold dn; rw [if_pos rfl]
theorem dn_add (B : Nat → Int32) : ∀ a b t, dn B (a + b) t = dn B b (dn B a t)
  | 0, b, t => by rw [Nat.zero_add]; rfl
  | a + 1, b, t => by
    rw [show a + 1 + b = (a + b) + 1 by omega]
    by_cases h : t = -1
    · rw [h, dn_m1, dn_m1, dn_m1]
    · show (if t = -1 then -1 else dn B (a + b) (B (30 + t.toNatClampNeg))) = dn B b (if t = -1 then -1 else dn B a (B (30 + t.toNatClampNeg)))
      rw [if_neg h, if_neg h]
      exact dn_add B a b _
theorem dn_one (B : Nat → Int32) {t : Nat} (h : t < 8) : dn B 1 (nI t) = B (30 + t) := by
  show (if nI t = -1 then -1 else B (30 + (nI t).toNatClampNeg)) = _
  rw [if_neg (nI_m1 (by omega)), nI_clamp (by omega)]
theorem CX.rest (h : CX C B n c) {t : Nat} (ht : t < 8) : B (30 + t) = -1 ∨ ∃ s, s < n ∧ B (30 + t) = nI s := by
  obtain ⟨-, v, -⟩ := h.vb
  obtain ⟨-, -, -, v1, v2⟩ := v t ht
  rw [h.t0] at v2
  by_cases e : B (30 + t) = -1
  · exact Or.inl e
  · rw [fa_eq, m1t] at e
    obtain ⟨s, hs, es⟩ := vp_in_of (x := B (30 + t)) (n := n) (vp_in_iff.mpr ⟨by omega, by omega⟩) (by have := h.hn; omega)
    exact Or.inr ⟨s, hs, es⟩
theorem CX.dwn (h : CX C B n c) {t : Nat} (ht : t < n) : ∀ k, dn B k (nI t) = -1 ∨ ∃ s, s < n ∧ dn B k (nI t) = nI s
  | 0 => Or.inr ⟨t, ht, rfl⟩
  | k + 1 => by
    have hn := h.hn
    rcases CX.dwn h ht k with e | ⟨s, hs, e⟩
    · left; rw [dn_add, e, dn_m1]
    · rw [dn_add, e, dn_one B (by omega)]; exact h.rest (by omega)
theorem CX.dn8 (h : CX C B n c) {t : Nat} (ht : t < n) {k : Nat} (hk : 8 ≤ k) : dn B k (nI t) = -1 := by
  rw [show k = 8 + (k - 8) by omega, dn_add, h.nr.1 t (by rw [h.t0]; omega), dn_m1]
theorem CX.at (h : CX C B n c) : AT n (C.2.1 5) := by
  have hn := h.hn
  refine ⟨fun t ht k hk hb => ?_, fun t ht k hk hb j hj hb2 => ?_⟩
  · have := ((h.cd t ht).1 k hk).mp hb
    rw [h.t0] at this; omega
  · obtain ⟨-, m, hm, e⟩ := ((h.cd t (by omega)).1 k (by omega)).mp hb
    obtain ⟨j1, m2, hm2, e2⟩ := ((h.cd k (by omega)).1 j hj).mp hb2
    refine ((h.cd t (by omega)).1 j hj).mpr ⟨j1, ?_⟩
    have hjn : j < n := by rw [h.t0] at j1; omega
    have e3 : dn B (m2 + 1 + (m + 1)) (nI j) = nI t := by rw [dn_add, e2, e]
    have hlt : m2 + 1 + (m + 1) < 8 := by
      refine Classical.byContradiction (fun q => ?_)
      rw [h.dn8 hjn (by omega)] at e3
      exact nI_m1 (by omega) e3.symm
    exact ⟨m2 + 1 + m, by omega, by rw [show m2 + 1 + m + 1 = m2 + 1 + (m + 1) by omega]; exact e3⟩
end CX
theorem GO.st {n : Nat} {A sol wei : Nat → Int32} {g : Int32} (hn : n ≤ 8) (hA : AT n A) (h : GO n A g) : GO n A (stP n A sol wei g) := by
  unfold stP
  by_cases c : fwP n A sol wei g < n
  · rw [if_pos c]
    refine ⟨fun k k1 k2 => ?_, fun t ht hb k hk hk2 => ?_⟩
    · rw [b_or, b_or, h.1 k k1 k2, b_1shl (by omega) k2, decide_eq_false (by omega)]
      cases hb : bt (A (fwP n A sol wei g)) k
      · rfl
      · have := hA.1 _ (by omega) k k2 hb; omega
    · rw [b_or, b_or, b_1shl (by omega) (by omega)] at hb
      rw [b_or, b_or]
      cases hg : bt g t
      · rw [hg] at hb
        simp only [Bool.false_or, Bool.or_eq_true, decide_eq_true_eq] at hb
        rcases hb with e | e
        · rw [← e, hk2]; simp
        · rw [hA.2 _ c t ht e k hk hk2]; simp
      · rw [h.2 t ht hg k hk hk2]; rfl
  · rw [if_neg c]; exact h
theorem GO.fl {n : Nat} {A sol wei : Nat → Int32} {g : Int32} (hn : n ≤ 8) (hA : AT n A) (h : GO n A g) : GO n A (flP n A sol wei g) := fl_ind (GO n A) (fun _ hg => hg.st hn hA) h
theorem GO.z {n : Nat} {A : Nat → Int32} : GO n A 0 := ⟨fun k _ _ => b_0 k, fun t _ hb => by rw [b_0] at hb; cases hb⟩
section MX
variable {B : Nat → Int32} {i n c : Nat} {A : Nat → Int32} {M : SV}
theorem MX.to (h : MX B i n c A M) {M' : SV} (hf : FrS M M') : MX B i n c A M' := by
  obtain ⟨⟨h1, h2⟩, h3, h4, h5, h6⟩ := h
  exact ⟨⟨h1, by rw [hf.i (by omega)]; exact h2⟩, fun j hj => by rw [hf.r (by decide) (by decide)]; exact h3 j hj, by rw [hf.i (by omega)]; exact h4, by rw [hf.i (by omega)]; exact h5, fun t ht => by rw [hf.r (by decide) (by decide)]; exact h6 t ht⟩
theorem of_e {M : SV} {i j : Nat} (h1 : i < 2) (h2 : M.1 25 = nI i) (hj : j < 110) : gX10_of (nI j) M = some (M.2.1 6 (110 * i + j)) := by
  unfold gX10_of
  rw [h2, show (110 : Int32) = nI 110 from rfl, pk_mul, nI_add, rA_nI (by omega) (by omega)]; rfl
theorem MX.of (h : MX B i n c A M) {j : Nat} (hj : j < 110) : gX10_of (nI j) M = some (B j) := by
  rw [of_e h.1.1 h.1.2 hj, h.2.1 j hj]
theorem MX.ofa (h : MX B i n c A M) {a k : Nat} (hj : a + k < 110) : gX10_of (nI a + nI k) M = some (B (a + k)) := by rw [nI_add]; exact h.of hj
theorem MX.fm (h : MX B i n c A M) : M.1 26 = nI n := h.2.2.1
theorem MX.cp (h : MX B i n c A M) : M.1 27 = nI c := h.2.2.2.1
theorem m_begin (h : MX B i n c A M) : ∃ M', gX10_begin M = some M' ∧ FrS M M' ∧ (∀ t, t < 8 → M'.2.1 28 t = B (6 + t) ∧ M'.2.1 29 t = B (14 + t)) ∧ M'.1 31 = 0 ∧ M'.1 32 = 0 ∧ M'.1 33 = 0 ∧ M'.1 34 = 0 ∧ M'.1 35 = 0 ∧ M'.1 36 = 0 ∧ M'.1 37 = 0 := by
  have key := lpR (fun f (q : Int32 × SV) => gfX10_begin_2 f q.1 q.2) (fun j q => q.1 = nI j ∧ FrS M q.2 ∧ ∀ t, t < j → q.2.2.1 28 t = B (6 + t) ∧ q.2.2.1 29 t = B (14 + t)) (fun b => ∃ M', b = some M' ∧ FrS M M' ∧ (∀ t, t < 8 → M'.2.1 28 t = B (6 + t) ∧ M'.2.1 29 t = B (14 + t)) ∧ M'.1 31 = 0 ∧ M'.1 32 = 0 ∧ M'.1 33 = 0 ∧ M'.1 34 = 0 ∧ M'.1 35 = 0 ∧ M'.1 36 = 0 ∧ M'.1 37 = 0) 8 ?_ ?_ (0, M) ⟨rfl, FrS.rf, fun t ht => by omega⟩ FU (by rw [FUn]; omega)
  · exact key
  · rintro j hj ⟨l, M1⟩ ⟨e1, e2, e3⟩
    replace e1 : l = nI j := e1
    replace e2 : FrS M M1 := e2
    replace e3 : ∀ t, t < j → M1.2.1 28 t = B (6 + t) ∧ M1.2.1 29 t = B (14 + t) := e3
    subst e1
    left
    refine ⟨(nI (j + 1), wR (wR M1 28 (upd (M1.2.1 28) j (B (6 + j)))) 29 (upd (M1.2.1 29) j (B (14 + j)))), fun f => ?_, rfl, (e2.w28 _).w29 _, fun t ht => ?_⟩
    · show gbX10_begin_2 _ _ _ = _
      unfold gbX10_begin_2
      rw [if_neg (show ¬ (8 : Int32) ≤ nI j from nI_ge (b := 8) hj (by omega)), show (6 : Int32) = nI 6 from rfl, show (14 : Int32) = nI 14 from rfl, (h.to e2).ofa (by omega)]
      simp only [Option.bind_some]
      rw [wA_nI (by omega) (by omega)]
      simp only [Option.bind_some]
      rw [(h.to (e2.w28 _)).ofa (by omega)]
      simp only [Option.bind_some]
      rw [wA_nI (by omega) (by omega), wR_ne (by decide)]
      simp only [Option.bind_some, nm, ← nI_succ]
    · show upd (M1.2.1 28) j (B (6 + j)) t = _ ∧ upd (M1.2.1 29) j (B (14 + j)) t = _
      by_cases e : t = j
      · subst e; rw [pk_us, pk_us]; exact ⟨rfl, rfl⟩
      · rw [pk_un e, pk_un e]; exact e3 t (by omega)
  · rintro ⟨l, M1⟩ ⟨e1, e2, e3⟩
    replace e1 : l = nI 8 := e1
    replace e2 : FrS M M1 := e2
    subst e1
    exact ⟨_, fun f => rfl, _, rfl, ((((((e2.wi (k := 31) (by omega) 0).wi (k := 32) (by omega) 0).wi (k := 33) (by omega) 0).wi (k := 34) (by omega) 0).wi (k := 35) (by omega) 0).wi (k := 36) (by omega) 0).wi (k := 37) (by omega) 0, e3, rfl, rfl, rfl, rfl, rfl, rfl, rfl⟩
end MX
/-- a fresh Scene -/
def LD (C S S' : SV) : Prop := (∀ t, t < 8 → S'.2.1 1 t = C.2.1 1 t ∧ S'.2.1 2 t = C.2.1 2 t) ∧ (∀ k, k < 4 → S'.2.1 3 k = 0) ∧ (S'.1 5 = 0 ∧ S'.1 6 = 0 ∧ S'.1 7 = 0 ∧ S'.1 8 = 0 ∧ S'.1 9 = 0 ∧ S'.1 10 = 0 ∧ S'.1 11 = 0 ∧ S'.1 12 = 0 ∧ S'.1 13 = -1 ∧ S'.1 14 = S.1 14)
theorem cpV8 (k : Nat) (f : Nat → Int32) (S : SV) : cpV k 8 8 0 0 f 8 S = some (wR S k (va_cpy f (S.2.1 k) 0 0 8)) := by
  unfold cpV
  rw [if_pos (by decide)]; rfl
theorem c_load (C S : SV) : ∃ S', gX6_load C S = some S' ∧ LD C S S' := by
  unfold gX6_load
  rw [cpV8]
  simp only [Option.bind_some]
  rw [cpV8]
  simp only [Option.bind_some]
  have hc : ∀ (f g : Nat → Int32) (t : Nat), t < 8 → va_cpy f g 0 0 8 t = f t := fun f g t ht => by
    rw [pk_cpy_in (by omega) (by omega)]; congr 1; omega
  generalize hS1 : wR (wR S 1 (va_cpy (C.2.1 1) (S.2.1 1) 0 0 8)) 2 (va_cpy (C.2.1 2) ((wR S 1 (va_cpy (C.2.1 1) (S.2.1 1) 0 0 8)).2.1 2) 0 0 8) = S1
  have f1 : ∀ t, t < 8 → S1.2.1 1 t = C.2.1 1 t := fun t ht => by
    rw [← hS1, wR_ne (by decide), wR_eq]; exact hc _ _ t ht
  have f2 : ∀ t, t < 8 → S1.2.1 2 t = C.2.1 2 t := fun t ht => by
    rw [← hS1, wR_eq]; exact hc _ _ t ht
  have f3 : S1.1 = S.1 := by rw [← hS1]; rfl
  have key := lpR (fun f (q : Int32 × SV) => gfX6_load_37 C f q.1 q.2) (fun j q => q.1 = nI j ∧ q.2.1 = S1.1 ∧ q.2.2.1 1 = S1.2.1 1 ∧ q.2.2.1 2 = S1.2.1 2 ∧ ∀ k, k < j → q.2.2.1 3 k = 0) (fun b => ∃ S', b = some S' ∧ LD C S S') 4 ?_ ?_ (0, S1) ⟨rfl, rfl, rfl, rfl, fun k hk => by omega⟩ FU (by rw [FUn]; omega)
  · exact key
  · rintro j hj ⟨l, S2⟩ ⟨e1, e2, e3, e4, e5⟩
    replace e1 : l = nI j := e1
    replace e5 : ∀ k, k < j → S2.2.1 3 k = 0 := e5
    subst e1
    left
    refine ⟨(nI (j + 1), wR S2 3 (upd (S2.2.1 3) j 0)), fun f => ?_, rfl, e2, e3, e4, fun k hk => ?_⟩
    · show gbX6_load_37 _ _ _ _ = _
      unfold gbX6_load_37
      rw [if_neg (show ¬ Int32.ofNat 4 ≤ nI j from nI_ge (b := 4) hj (by omega)), wA_nI (by omega) (by omega)]
      simp only [Option.bind_some, nm, ← nI_succ]
    · show upd (S2.2.1 3) j 0 k = 0
      by_cases e : k = j
      · subst e; rw [pk_us]
      · rw [pk_un e]; exact e5 k (by omega)
  · rintro ⟨l, S2⟩ ⟨e1, e2, e3, e4, e5⟩
    replace e1 : l = nI 4 := e1
    replace e2 : S2.1 = S1.1 := e2
    replace e3 : S2.2.1 1 = S1.2.1 1 := e3
    replace e4 : S2.2.1 2 = S1.2.1 2 := e4
    subst e1
    refine ⟨_, fun f => rfl, _, rfl, fun t ht => ?_, e5, rfl, rfl, rfl, rfl, rfl, rfl, rfl, rfl, rfl, ?_⟩
    · show S2.2.1 1 t = _ ∧ S2.2.1 2 t = _
      rw [e3, e4]; exact ⟨f1 t ht, f2 t ht⟩
    · show S2.1 14 = _
      rw [e2, f3]
section SR
variable {C : SV} {B : Nat → Int32} {i n c : Nat} {M S : SV}
theorem load_both (h : CX C B n c) (hM : MX B i n c (C.2.1 5) M) (S : SV) : ∃ S' M', gX6_load C S = some S' ∧ gX10_begin M = some M' ∧ LD C S S' ∧ FrS M M' ∧ SR n (C.2.1 5) S' M' := by
  have hn := h.hn
  obtain ⟨S', l1, l2, l3, l5, l6, l7, l8, l9, l10, l11, l12, l13, l14⟩ := c_load C S
  obtain ⟨M', b1, b2, b3, b31, b32, b33, b34, b35, b36, b37⟩ := m_begin hM
  obtain ⟨-, cr, -⟩ := h.cr
  obtain ⟨-, vb, -⟩ := h.vb
  refine ⟨S', M', l1, b1, ⟨l2, l3, l5, l6, l7, l8, l9, l10, l11, l12, l13, l14⟩, b2, ⟨(hM.to b2).fm, (hM.to b2).2.2.2.2, by rw [b31, l6], fun t ht => ?_⟩, ⟨by rw [b32, l8], by rw [b33, l9], by rw [b34, l10], by rw [b35, l11], by rw [b36, l12], by rw [b37, l5]⟩, fun t ht => ?_, by rw [l6]; exact GO.z⟩
  · rw [l6, b_0, (b3 t (by omega)).1, (b3 t (by omega)).2, (l2 t (by omega)).1, (l2 t (by omega)).2, (cr t (by omega)).1, (cr t (by omega)).2.1]
    exact ⟨rfl, rfl⟩
  · rw [(l2 t (by omega)).1, (l2 t (by omega)).2, (cr t (by omega)).1, (cr t (by omega)).2.1]
    exact ⟨(vb t (by omega)).1, (vb t (by omega)).2.1⟩
theorem fall_both (h : CX C B n c) (hR : SR n (C.2.1 5) S M) : ∃ M', gX6_fall C S = some (wI S 6 (flP n (C.2.1 5) (S.2.1 1) (S.2.1 2) (S.1 6))) ∧ gX10_falls M = some M' ∧ FrS M M' ∧ SR n (C.2.1 5) (wI S 6 (flP n (C.2.1 5) (S.2.1 1) (S.2.1 2) (S.1 6))) M' := by
  obtain ⟨r1, ⟨q1, q2, q3, q4, q5, q6⟩, r2, r3⟩ := hR
  obtain ⟨M', f1, f2, f3, f4⟩ := m_falls h.hn (fun t ht => (r2 t ht).1.1) r1
  refine ⟨M', c_fall h.hn h.c0, f1, f3, ?_, ⟨?_, ?_, ?_, ?_, ?_, ?_⟩, r2, ?_⟩
  · rw [wI_eq]; exact f2
  · rw [f4 _ (by decide), wI_ne (by decide)]; exact q1
  · rw [f4 _ (by decide), wI_ne (by decide)]; exact q2
  · rw [f4 _ (by decide), wI_ne (by decide)]; exact q3
  · rw [f4 _ (by decide), wI_ne (by decide)]; exact q4
  · rw [f4 _ (by decide), wI_ne (by decide)]; exact q5
  · rw [f4 _ (by decide), wI_ne (by decide)]; exact q6
  · rw [wI_eq]; exact r3.fl h.hn h.at
/-- begun: with what was gone at first -/
def BG (C S S' : SV) : Prop := S'.1 7 = S'.1 6 ∧ (∀ k, k < 4 → S'.2.1 3 k = 0) ∧ (S'.1 5 = 0 ∧ S'.1 8 = 0 ∧ S'.1 9 = 0 ∧ S'.1 10 = 0 ∧ S'.1 11 = 0 ∧ S'.1 12 = 0 ∧ S'.1 13 = -1 ∧ S'.1 14 = S.1 14) ∧ (∀ t, t < 8 → S'.2.1 1 t = C.2.1 1 t ∧ S'.2.1 2 t = C.2.1 2 t) ∧ ∃ n, S'.1 6 = flP n (C.2.1 5) (S'.2.1 1) (S'.2.1 2) 0
theorem SR.w7 {A : Nat → Int32} (h : SR n A S M) {k : Nat} (hk : k = 7 ∨ k = 13 ∨ k = 14) (x : Int32) : SR n A (wI S k x) M := by
  obtain ⟨r1, ⟨q1, q2, q3, q4, q5, q6⟩, r2, r3⟩ := h
  have e : ∀ j, (5 ≤ j ∧ j ≤ 12 ∧ j ≠ 7) → (wI S k x).1 j = S.1 j := fun j hj => wI_ne (by omega)
  refine ⟨by rw [e 6 (by omega)]; exact r1, ⟨?_, ?_, ?_, ?_, ?_, ?_⟩, r2, by rw [e 6 (by omega)]; exact r3⟩
  · rw [e 8 (by omega)]; exact q1
  · rw [e 9 (by omega)]; exact q2
  · rw [e 10 (by omega)]; exact q3
  · rw [e 11 (by omega)]; exact q4
  · rw [e 12 (by omega)]; exact q5
  · rw [e 5 (by omega)]; exact q6
theorem begin_both (h : CX C B n c) (hM : MX B i n c (C.2.1 5) M) (S : SV) : ∃ S' M' M'', gX6_begin C S = some S' ∧ gX10_begin M = some M' ∧ gX10_falls M' = some M'' ∧ FrS M M'' ∧ SR n (C.2.1 5) S' M'' ∧ BG C S S' := by
  obtain ⟨S1, M1, l1, b1, l2, b2, r⟩ := load_both h hM S
  obtain ⟨M2, f1, f2, f3, f4⟩ := fall_both h r
  obtain ⟨l3, l4, l5, l6, l7, l8, l9, l10, l11, l12, l13, l14⟩ := l2
  refine ⟨_, M1, M2, ?_, b1, f2, b2.tr f3, f4.w7 (Or.inl rfl) (flP n (C.2.1 5) (S1.2.1 1) (S1.2.1 2) (S1.1 6)), rfl, l4, ⟨l5, l8, l9, l10, l11, l12, l13, l14⟩, l3, n, ?_⟩
  · unfold gX6_begin
    rw [l1]
    simp only [Option.bind_some]
    rw [f1]; rfl
  · show flP n (C.2.1 5) (S1.2.1 1) (S1.2.1 2) (S1.1 6) = _
    rw [l6]; rfl
end SR
/-! hand -/
/-- ints 25 .. 27, 31 .. 37, rows 28, 29, 30 alone differ -/
def FrH (M M' : SV) : Prop := (∀ k, (k < 25 ∨ (28 ≤ k ∧ k < 31) ∨ 38 ≤ k) → M'.1 k = M.1 k) ∧ (∀ k, (k < 28 ∨ 31 ≤ k) → M'.2.1 k = M.2.1 k) ∧ M'.2.2 = M.2.2
theorem FrH.rf {M : SV} : FrH M M := ⟨fun _ _ => rfl, fun _ _ => rfl, rfl⟩
theorem FrH.tr {M M1 M2 : SV} (h : FrH M M1) (h2 : FrH M1 M2) : FrH M M2 := ⟨fun k hk => (h2.1 k hk).trans (h.1 k hk), fun k hk => (h2.2.1 k hk).trans (h.2.1 k hk), h2.2.2.trans h.2.2⟩
theorem FrS.h {M M' : SV} (h : FrS M M') : FrH M M' := ⟨fun k hk => h.i (by omega), fun k hk => h.r (by omega) (by omega), h.2.2⟩
theorem FrH.i {M M' : SV} (h : FrH M M') {k : Nat} (hk : k < 25 ∨ (28 ≤ k ∧ k < 31) ∨ 38 ≤ k) : M'.1 k = M.1 k := h.1 k hk
theorem FrH.r {M M' : SV} (h : FrH M M') {k : Nat} (hk : k < 28 ∨ 31 ≤ k) : M'.2.1 k = M.2.1 k := h.2.1 k hk
theorem FrH.w30 {M M' : SV} (h : FrH M M') (f : Nat → Int32) : FrH M (wR M' 30 f) := ⟨h.1, fun j hj => (wR_ne (by omega)).trans (h.2.1 j hj), h.2.2⟩
section HD
variable {C : SV} {B : Nat → Int32} {i n c : Nat} {M : SV}
theorem m_hand_in (h : CX C B n c) (hi : i < 2) (h25 : M.1 25 = nI i) (h6 : ∀ j, j < 110 → M.2.1 6 (110 * i + j) = B j) {t : Nat} (ht : t < n) : ∃ f, (∀ k57 : Int32 → SV → Option (Int32 × SV), gfX10_hand_74 k57 FU (nI t) (B (30 + t)) M = k57 (nI (t + 1)) (wR M 30 f)) ∧ ∀ s, s < 8 → ∀ k, k < 32 → (bt (f s) k = true ↔ bt (M.2.1 30 s) k = true ∨ (k = t ∧ isAb B s t)) := by
  have hn := h.hn
  have key := lpR (fun f (q : Int32 × SV) => fun k57 : Int32 → SV → Option (Int32 × SV) => gfX10_hand_74 k57 f (nI t) q.1 q.2) (fun m q => q.1 = dn B (m + 1) (nI t) ∧ ∃ f, q.2 = wR M 30 f ∧ ∀ s, s < 8 → ∀ k, k < 32 → (bt (f s) k = true ↔ bt (M.2.1 30 s) k = true ∨ (k = t ∧ ∃ j, j < m ∧ dn B (j + 1) (nI t) = nI s))) (fun b => ∃ f, b = (fun k57 => k57 (nI (t + 1)) (wR M 30 f)) ∧ ∀ s, s < 8 → ∀ k, k < 32 → (bt (f s) k = true ↔ bt (M.2.1 30 s) k = true ∨ (k = t ∧ isAb B s t))) 8 ?_ ?_ (B (30 + t), M) ⟨(dn_one B (by omega)).symm, M.2.1 30, wR_id.symm, fun s hs k hk => by simp⟩ FU (by rw [FUn]; omega)
  · obtain ⟨f, e, hb⟩ := key
    exact ⟨f, fun k57 => congrFun e k57, hb⟩
  · rintro m hm ⟨x, M1⟩ ⟨e1, f, e2, e3⟩
    replace e1 : x = dn B (m + 1) (nI t) := e1
    replace e2 : M1 = wR M 30 f := e2
    rcases h.dwn ht (m + 1) with e | ⟨s, hs, e⟩
    · right
      refine ⟨(fun k57 => k57 (nI (t + 1)) (wR M 30 f)), fun g => ?_, f, rfl, fun s hs k hk => ?_⟩
      · funext k57
        show gbX10_hand_74 _ _ _ _ _ = _
        unfold gbX10_hand_74
        rw [if_pos (e1.trans e), e2, nI_succ]; rfl
      · rw [e3 s hs k hk]
        unfold isAb
        constructor
        · rintro (q | ⟨q1, j, q2, q3⟩)
          · exact Or.inl q
          · exact Or.inr ⟨q1, j, by omega, q3⟩
        · rintro (q | ⟨q1, j, q2, q3⟩)
          · exact Or.inl q
          · refine Or.inr ⟨q1, j, ?_, q3⟩
            refine Classical.byContradiction (fun q4 => ?_)
            rw [show j + 1 = (m + 1) + (j - m) by omega, dn_add, e, dn_m1] at q3
            exact nI_m1 (by omega) q3.symm
    · left
      have e1 : x = nI s := e1.trans e
      refine ⟨(B (30 + s), wR M 30 (upd f s (f s ||| shl 1 (nI t)))), fun g => ?_, ?_, upd f s (f s ||| shl 1 (nI t)), rfl, fun s' hs' k hk => ?_⟩
      · funext k57
        show gbX10_hand_74 _ _ _ _ _ = _
        unfold gbX10_hand_74
        rw [e1, if_neg (nI_m1 (by omega)), e2, wR_eq, rA_nI (by omega) (by omega)]
        simp only [Option.bind_some]
        rw [wA_nI (by omega) (by omega), wR_eq, wR_wR]
        simp only [Option.bind_some]
        rw [show (30 : Int32) = nI 30 from rfl, nI_add, of_e (M := wR M 30 (upd f s (f s ||| shl 1 (nI t)))) hi h25 (by omega), wR_ne (by decide), h6 _ (by omega)]
        rfl
      · show B (30 + s) = dn B (m + 1 + 1) (nI t)
        rw [dn_add B (m + 1) 1, e, dn_one B (by omega)]
      · by_cases q : s' = s
        · subst q
          rw [pk_us, b_or, b_1shl (by omega) hk]
          simp only [Bool.or_eq_true, decide_eq_true_eq, e3 s' hs' k hk]
          constructor
          · rintro ((q | ⟨q1, j, q2, q3⟩) | q)
            · exact Or.inl q
            · exact Or.inr ⟨q1, j, by omega, q3⟩
            · exact Or.inr ⟨q, m, by omega, e⟩
          · rintro (q | ⟨q1, j, q2, q3⟩)
            · exact Or.inl (Or.inl q)
            · exact Or.inr q1
        · rw [pk_un q, e3 s' hs' k hk]
          constructor
          · rintro (q | ⟨q1, j, q2, q3⟩)
            · exact Or.inl q
            · exact Or.inr ⟨q1, j, by omega, q3⟩
          · rintro (q' | ⟨q1, j, q2, q3⟩)
            · exact Or.inl q'
            · refine Or.inr ⟨q1, j, ?_, q3⟩
              refine Classical.byContradiction (fun q4 => ?_)
              have q5 : j = m := by omega
              subst q5
              rw [e] at q3
              exact q ((nI_eq (by omega) (by omega)).mp q3).symm
  · rintro ⟨x, M1⟩ ⟨e1, f, e2, e3⟩
    replace e1 : x = dn B 9 (nI t) := e1
    replace e2 : M1 = wR M 30 f := e2
    rw [h.dn8 ht (by omega)] at e1
    refine ⟨(fun k57 => k57 (nI (t + 1)) (wR M 30 f)), fun g => ?_, f, rfl, e3⟩
    funext k57
    show gbX10_hand_74 _ _ _ _ _ = _
    unfold gbX10_hand_74
    rw [if_pos e1, e2, nI_succ]; rfl
theorem m_hand36 (M0 : SV) : ∃ f, gfX10_hand_36 FU 0 M0 = gfX10_hand_57 FU 0 (wR M0 30 f) ∧ ∀ s, s < 8 → f s = 0 := by
  have key := lpR (fun f (q : Int32 × SV) => gfX10_hand_36 f q.1 q.2) (fun j q => q.1 = nI j ∧ ∃ f, q.2 = wR M0 30 f ∧ ∀ s, s < j → f s = 0) (fun b => ∃ f, b = gfX10_hand_57 FU 0 (wR M0 30 f) ∧ ∀ s, s < 8 → f s = 0) 8 ?_ ?_ (0, M0) ⟨rfl, M0.2.1 30, wR_id.symm, fun s hs => by omega⟩ FU (by rw [FUn]; omega)
  · exact key
  · rintro j hj ⟨l, M1⟩ ⟨e1, f, e2, e3⟩
    replace e1 : l = nI j := e1
    replace e2 : M1 = wR M0 30 f := e2
    subst e1
    left
    refine ⟨(nI (j + 1), wR M0 30 (upd f j 0)), fun g => ?_, rfl, upd f j 0, rfl, fun s hs => ?_⟩
    · show gbX10_hand_36 _ _ _ = _
      unfold gbX10_hand_36
      rw [if_neg (show ¬ (8 : Int32) ≤ nI j from nI_ge (b := 8) hj (by omega)), wA_nI (by omega) (by omega), e2, wR_eq, wR_wR]
      simp only [Option.bind_some, nm, ← nI_succ]
    · by_cases q : s = j
      · subst q; rw [pk_us]
      · rw [pk_un q]; exact e3 s (by omega)
  · rintro ⟨l, M1⟩ ⟨e1, f, e2, e3⟩
    replace e1 : l = nI 8 := e1
    replace e2 : M1 = wR M0 30 f := e2
    subst e1 e2
    refine ⟨gfX10_hand_57 FU 0 (wR M0 30 f), fun g => ?_, f, rfl, e3⟩
    show gbX10_hand_36 _ _ _ = _
    unfold gbX10_hand_36
    rw [if_pos (show (8 : Int32) ≤ nI 8 by decide)]
theorem m_hand57 (h : CX C B n c) (hi : i < 2) {M0 : SV} (g25 : M0.1 25 = nI i) (g26 : M0.1 26 = nI n) (g6 : ∀ j, j < 110 → M0.2.1 6 (110 * i + j) = B j) (gz : ∀ s, s < 8 → M0.2.1 30 s = 0) : ∃ f, gfX10_hand_57 FU 0 M0 = ((gX10_begin (wR M0 30 f)).bind fun M2 => (gX10_falls M2).bind fun M3 => some (1, M3)) ∧ ∀ s, s < 8 → f s = C.2.1 5 s := by
  have hn := h.hn
  have key := lpR (fun f (q : Int32 × SV) => gfX10_hand_57 f q.1 q.2) (fun t q => q.1 = nI t ∧ ∃ f, q.2 = wR M0 30 f ∧ ∀ s, s < 8 → ∀ k, k < 32 → (bt (f s) k = true ↔ k < t ∧ isAb B s k)) (fun b => ∃ f, b = ((gX10_begin (wR M0 30 f)).bind fun M2 => (gX10_falls M2).bind fun M3 => some (1, M3)) ∧ ∀ s, s < 8 → f s = C.2.1 5 s) n ?_ ?_ (0, M0) ⟨rfl, M0.2.1 30, wR_id.symm, fun s hs k hk => by rw [gz s hs, b_0]; simp⟩ FU (by rw [FUn]; omega)
  · exact key
  · rintro t ht ⟨l, M1⟩ ⟨e1, f, e2, e3⟩
    replace e1 : l = nI t := e1
    replace e2 : M1 = wR M0 30 f := e2
    replace e3 : ∀ s, s < 8 → ∀ k, k < 32 → (bt (f s) k = true ↔ k < t ∧ isAb B s k) := e3
    subst e1 e2
    left
    obtain ⟨f', q1, q2⟩ := m_hand_in (M := wR M0 30 f) h hi g25 (fun j hj => by rw [wR_ne (by decide)]; exact g6 j hj) ht
    rw [wR_wR] at q1
    refine ⟨(nI (t + 1), wR M0 30 f'), fun g => ?_, rfl, f', rfl, fun s hs k hk => ?_⟩
    · show gbX10_hand_57 _ _ _ = _
      unfold gbX10_hand_57
      rw [show (wR M0 30 f).1 26 = nI n from g26, if_neg (nI_ge ht (by omega)), show (30 : Int32) = nI 30 from rfl, nI_add, of_e (M := wR M0 30 f) hi g25 (by omega), wR_ne (by decide), g6 _ (by omega)]
      simp only [Option.bind_some]
      exact q1 _
    · rw [q2 s hs k hk, wR_eq, e3 s hs k hk]
      constructor
      · rintro (⟨q, q'⟩ | ⟨q, q'⟩)
        · exact ⟨by omega, q'⟩
        · exact ⟨by omega, by rw [q]; exact q'⟩
      · rintro ⟨q, q'⟩
        by_cases e : k = t
        · exact Or.inr ⟨e, by rw [← e]; exact q'⟩
        · exact Or.inl ⟨by omega, q'⟩
  · rintro ⟨l, M1⟩ ⟨e1, f, e2, e3⟩
    replace e1 : l = nI n := e1
    replace e2 : M1 = wR M0 30 f := e2
    replace e3 : ∀ s, s < 8 → ∀ k, k < 32 → (bt (f s) k = true ↔ k < n ∧ isAb B s k) := e3
    subst e1 e2
    refine ⟨_, fun g => ?_, f, rfl, fun s hs => b_ext (fun k hk => ?_)⟩
    · show gbX10_hand_57 _ _ _ = _
      unfold gbX10_hand_57
      rw [show (wR M0 30 f).1 26 = nI n from g26, if_pos (nI_le (Nat.le_refl _) (by omega))]
    · have h1 := e3 s hs k hk
      have h2 := (h.cd s hs).1 k hk
      rw [h.t0] at h2
      have h3 : (bt (f s) k = true) ↔ (bt (C.2.1 5 s) k = true) := by
        rw [h1, h2]
        constructor
        · rintro ⟨a, b⟩; exact ⟨by omega, b⟩
        · rintro ⟨a, b⟩; exact ⟨by omega, b⟩
      cases x : bt (f s) k <;> cases y : bt (C.2.1 5 s) k <;> simp_all
/-- hand, and the class's begin -/
theorem hand_both (h : CX C B n c) (hi : i < 2) (h6 : ∀ j, j < 110 → M.2.1 6 (110 * i + j) = B j) (his : gX10_is 0 (nI i) M = some 1) (S : SV) : ∃ S' M', gX6_begin C S = some S' ∧ gX10_hand (nI i) M = some (1, M') ∧ MX B i n c (C.2.1 5) M' ∧ FrH M M' ∧ SR n (C.2.1 5) S' M' ∧ BG C S S' := by
  have hn := h.hn
  have hc := h.hc
  obtain ⟨f, z1, z2⟩ := m_hand36 (wI (wI (wI M 25 (nI i)) 26 (nI n)) 27 (nI c))
  obtain ⟨f2, y1, y2⟩ := m_hand57 (M0 := wR (wI (wI (wI M 25 (nI i)) 26 (nI n)) 27 (nI c)) 30 f) h hi rfl rfl (fun j hj => h6 j hj) (fun s hs => z2 s hs)
  rw [wR_wR] at y1
  have hM : MX B i n c (C.2.1 5) (wR (wI (wI (wI M 25 (nI i)) 26 (nI n)) 27 (nI c)) 30 f2) := ⟨⟨hi, rfl⟩, fun j hj => h6 j hj, rfl, rfl, fun t ht => y2 t ht⟩
  have hF : FrH M (wR (wI (wI (wI M 25 (nI i)) 26 (nI n)) 27 (nI c)) 30 f2) := by
    refine ⟨fun k hk => ?_, fun k hk => ?_, rfl⟩
    · show (wI (wI (wI M 25 (nI i)) 26 (nI n)) 27 (nI c)).1 k = _
      rw [wI_ne (by omega), wI_ne (by omega), wI_ne (by omega)]
    · rw [wR_ne (by omega)]; rfl
  obtain ⟨S', M1, M2, b1, b2, b3, b4, b5, b6⟩ := begin_both h hM S
  refine ⟨S', M2, b1, ?_, hM.to b4, hF.tr b4.h, b5, b6⟩
  unfold gX10_hand
  rw [his]
  simp only [Option.bind_some, nm, show ¬ ((1 : Int32) = 0) by decide, if_false]
  have o0 : gX10_of 0 (wI M 25 (nI i)) = some (nI n) := by
    have := of_e (M := wI M 25 (nI i)) (j := 0) hi rfl (by omega)
    rw [show (wI M 25 (nI i)).2.1 6 = M.2.1 6 from rfl, h6 0 (by omega), h.b0] at this
    exact this
  have o4 : gX10_of 4 (wI (wI M 25 (nI i)) 26 (nI n)) = some (nI c) := by
    have := of_e (M := wI (wI M 25 (nI i)) 26 (nI n)) (j := 4) hi rfl (by omega)
    rw [show (wI (wI M 25 (nI i)) 26 (nI n)).2.1 6 = M.2.1 6 from rfl, h6 4 (by omega), h.b4] at this
    exact this
  rw [o0]
  simp only [Option.bind_some]
  rw [o4]
  simp only [Option.bind_some]
  rw [z1, y1, b2]
  simp only [Option.bind_some]
  rw [b3]; rfl
end HD
