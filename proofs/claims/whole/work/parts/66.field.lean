/-! ===== the field: fits, wrong ===== -/
theorem imax_g (x y : Int32) : imax x y = fX10_greater x y := by
  unfold imax fX10_greater
  by_cases h : x < y
  · rw [if_pos h, if_pos ((fa_of_lt h).1)]
  · rw [if_neg h]
    by_cases h2 : x ≤ y
    · rw [if_pos h2]
      by_cases e : x = y
      · exact e
      · exact absurd (fa_le_ne h2 e) h
    · rw [if_neg h2]
theorem imin_l (x y : Int32) : imin x y = fX10_lesser x y := by
  unfold imin fX10_lesser
  by_cases h : y < x
  · rw [if_pos h, if_pos ((fa_of_lt h).1)]
  · rw [if_neg h]
    by_cases h2 : y ≤ x
    · rw [if_pos h2]
      by_cases e : y = x
      · exact e.symm
      · exact absurd (fa_le_ne h2 e) h
    · rw [if_neg h2]
theorem iabs_apart {x y : Int32} (hx : rng x (-1000) 1000) (hy : rng y (-1000) 1000) : iabs (x - y) = fX10_apart y x := by
  obtain ⟨h1, h2⟩ := hx
  obtain ⟨h3, h4⟩ := hy
  have e : (x - y).toInt = x.toInt - y.toInt := fb_subI (by omega) (by omega)
  have e2 : (y - x).toInt = y.toInt - x.toInt := fb_subI (by omega) (by omega)
  unfold iabs fX10_apart
  by_cases h : y ≤ x
  · have h' : y.toInt ≤ x.toInt := (fa_le _ _).mp h
    rw [if_pos h, if_pos ((fa_le _ _).mpr (by rw [t0, e]; omega))]
  · have h' : ¬ y.toInt ≤ x.toInt := fun q => h ((fa_le _ _).mpr q)
    rw [if_neg h, if_neg (fun q => h' (by have := (fa_le _ _).mp q; rw [t0, e] at this; omega))]
    rw [fa_eq, e2, fb_subI (by rw [t0, e]; omega) (by rw [t0, e]; omega), t0, e]; omega
theorem nI_rng {n m : Nat} (h : n ≤ m) (hm : m < 2 ^ 31) : rng (nI n) 0 m := by
  unfold rng; rw [nI_toInt (by omega)]; omega
theorem add_rng {x y : Int32} {a b c d : Int} (h : rng x a b) (h2 : rng y c d) (h3 : -2147483648 ≤ a + c) (h4 : b + d < 2147483648) : rng (x + y) (a + c) (b + d) := by
  obtain ⟨q1, q2⟩ := h
  obtain ⟨q3, q4⟩ := h2
  unfold rng
  rw [fb_addI (by omega) (by omega)]; omega
theorem sub_rng {x y : Int32} {a b c d : Int} (h : rng x a b) (h2 : rng y c d) (h3 : -2147483648 ≤ a - d) (h4 : b - c < 2147483648) : rng (x - y) (a - d) (b - c) := by
  obtain ⟨q1, q2⟩ := h
  obtain ⟨q3, q4⟩ := h2
  unfold rng
  rw [fb_subI (by omega) (by omega)]; omega
theorem rng.mono {x : Int32} {a b c d : Int} (h : rng x a b) (h1 : c ≤ a) (h2 : b ≤ d) : rng x c d := by unfold rng at *; omega
theorem irem10 {j : Nat} (h : j < 2 ^ 31) : irem (nI j) 10 = nI (j % 10) := pk_rem (d := 10) h (by decide) (by decide)
theorem idiv10 {j : Nat} (h : j < 2 ^ 31) : nI j / (10 : Int32) = nI (j / 10) := pk_div (d := 10) h (by decide) (by decide)
theorem m_cross {w c e : Int32} {j : Nat} {M : SV} (hj : j < 100) (hc : rng c (-100) 100) : gX10_crosses w c (nI j) e M = some (fX2_crosses w c e (nI j)) := by
  have r1 : rng (nI (j % 10)) 0 9 := nI_rng (m := 9) (by omega) (by omega)
  have hv : nI (j / 10) + 1 = nI (j / 10 + 1) := (nI_succ _).symm
  have r2 : rng (nI (j / 10 + 1)) 0 10 := nI_rng (m := 10) (by omega) (by omega)
  have key : ∀ x, rng x (-1000) 1000 → gbX10_crosses_32 (nI j) e x M = some (bX2_crosses_33 e (nI j) x) := by
    intro x hx
    unfold gbX10_crosses_32 bX2_crosses_33
    rw [irem10 (by omega), iabs_apart (r1.mono (by omega) (by omega)) hx]
    split <;> rfl
  unfold gX10_crosses fX2_crosses
  rw [idiv10 (by omega), hv]
  simp only [nm, bX2_crosses_30]
  by_cases h0 : w = 0
  · rw [if_pos h0, if_pos h0, key _ (hc.mono (by omega) (by omega))]
  · rw [if_neg h0, if_neg h0]
    by_cases h1 : w = 1
    · rw [if_pos h1, if_pos h1, key _ ((add_rng hc r2 (by omega) (by omega)).mono (by omega) (by omega))]
    · rw [if_neg h1, if_neg h1, key _ ((sub_rng hc r2 (by omega) (by omega)).mono (by omega) (by omega)), Int32.sub_eq_add_neg]
theorem lpA {σ β : Type} (G : Nat → σ → β) (st : Nat → σ) (p : Nat → Bool) (A B : β) (N : Nat) (hs : ∀ i, i < N → p i = true → ∀ n, G (n + 1) (st i) = G n (st (i + 1))) (hx : ∀ i, i < N → p i = false → ∀ n, G (n + 2) (st i) = B) (he : ∀ n, G (n + 1) (st N) = A) : ∀ n, N + 1 < n → G n (st 0) = if (∀ i, i < N → p i = true) then A else B := by
  have key : ∀ d j, j + d = N → (∀ i, i < j → p i = true) → ∀ n, d + 1 < n → G n (st j) = if (∀ i, i < N → p i = true) then A else B := by
    intro d
    induction d with
    | zero =>
      intro j hj hp n hn
      obtain ⟨m, rfl⟩ : ∃ m, n = m + 1 := ⟨n - 1, by omega⟩
      have e : j = N := by omega
      subst e
      rw [if_pos hp]; exact he m
    | succ d ih =>
      intro j hj hp n hn
      obtain ⟨m, rfl⟩ : ∃ m, n = m + 2 := ⟨n - 2, by omega⟩
      cases hb : p j with
      | true =>
        rw [hs j (by omega) hb (m + 1)]
        refine ih (j + 1) (by omega) (fun i hi => ?_) (m + 1) (by omega)
        by_cases e : i = j
        · rw [e]; exact hb
        · exact hp i (by omega)
      | false =>
        rw [if_neg (fun h => by rw [h j (by omega)] at hb; cases hb)]
        exact hx j (by omega) hb m
  intro n hn
  exact key N 0 (by omega) (fun i hi => by omega) n hn
/-- the views of a told SIGHTS, in the reference -/
def VW2 (M0 : SV) (i : Nat) (Y : SV) (m n : Nat) (M : SV) : Prop := M.1 47 = nI i ∧ M.2.1 8 = M0.2.1 8 ∧ i < 2 ∧ n ≤ 8 ∧ m = 8 ∧ Y.1 3 = nI n ∧ M0.2.1 8 (17 * i) = nI n ∧ ∀ k, k < n → Y.2.1 0 k = M0.2.1 8 (17 * i + (1 + 2 * k)) ∧ Y.2.1 1 k = M0.2.1 8 (17 * i + (2 + 2 * k)) ∧ rng (Y.2.1 1 k) 0 9
theorem VW2.h5 {M0 : SV} {i : Nat} {Y : SV} {m n : Nat} {M : SV} (h : VW2 M0 i Y m n M) : M.1 47 = nI i := h.1
theorem VW2.h8 {M0 : SV} {i : Nat} {Y : SV} {m n : Nat} {M : SV} (h : VW2 M0 i Y m n M) : M.2.1 8 = M0.2.1 8 := h.2.1
theorem VW2.hi {M0 : SV} {i : Nat} {Y : SV} {m n : Nat} {M : SV} (h : VW2 M0 i Y m n M) : i < 2 := h.2.2.1
theorem VW2.hn {M0 : SV} {i : Nat} {Y : SV} {m n : Nat} {M : SV} (h : VW2 M0 i Y m n M) : n ≤ 8 := h.2.2.2.1
theorem VW2.hm {M0 : SV} {i : Nat} {Y : SV} {m n : Nat} {M : SV} (h : VW2 M0 i Y m n M) : m = 8 := h.2.2.2.2.1
theorem VW2.e3 {M0 : SV} {i : Nat} {Y : SV} {m n : Nat} {M : SV} (h : VW2 M0 i Y m n M) : Y.1 3 = nI n := h.2.2.2.2.2.1
theorem VW2.b0 {M0 : SV} {i : Nat} {Y : SV} {m n : Nat} {M : SV} (h : VW2 M0 i Y m n M) : M0.2.1 8 (17 * i) = nI n := h.2.2.2.2.2.2.1
theorem VW2.by_ {M0 : SV} {i : Nat} {Y : SV} {m n : Nat} {M : SV} (h : VW2 M0 i Y m n M) : ∀ k, k < n → Y.2.1 0 k = M0.2.1 8 (17 * i + (1 + 2 * k)) ∧ Y.2.1 1 k = M0.2.1 8 (17 * i + (2 + 2 * k)) ∧ rng (Y.2.1 1 k) 0 9 := h.2.2.2.2.2.2.2
theorem VW2.to {M0 : SV} {i : Nat} {Y : SV} {m n : Nat} {M : SV} (h : VW2 M0 i Y m n M) {M' : SV} (h1 : M'.1 47 = M.1 47) (h2 : M'.2.1 8 = M.2.1 8) : VW2 M0 i Y m n M' := ⟨h1.trans h.1, h2.trans h.2.1, h.2.2⟩
theorem VW2.views {M0 : SV} {i : Nat} {Y : SV} {m n : Nat} {M : SV} (h : VW2 M0 i Y m n M) : gX10_views M = some (nI n) := by
  unfold gX10_views
  have hi := h.hi
  rw [h.h5, h.h8, show (17 : Int32) = nI 17 from rfl, pk_mul, rA_nI (by omega) (by omega), h.b0]; rfl
theorem VW2.viewOf {M0 : SV} {i : Nat} {Y : SV} {m n : Nat} {M : SV} (h : VW2 M0 i Y m n M) {k : Nat} (hk : k < n) : gX10_viewOf (nI k) 0 M = some (Y.2.1 0 k) ∧ gX10_viewOf (nI k) 1 M = some (Y.2.1 1 k) := by
  have hi := h.hi
  have hn := h.hn
  obtain ⟨y1, y2, -⟩ := h.by_ k hk
  unfold gX10_viewOf
  rw [h.h5, h.h8, show (0 : Int32) = nI 0 from rfl]
  constructor
  · rw [show (17 : Int32) = nI 17 from rfl, ix2, rA_nI (by omega) (by omega), y1]; rfl
  · rw [show (17 : Int32) * nI i + 1 + 2 * nI k + 1 = nI (17 * i + (1 + 2 * k + 1)) from ix2 17 i k 1, rA_nI (by omega) (by omega), y2, show 1 + 2 * k + 1 = 2 + 2 * k by omega]; rfl
/-- does a view cross -/
def vcr (Y : SV) (e wo : Int32) (j k : Nat) : Bool := decide (nI k = wo) || decide (¬ fX2_crosses (Y.2.1 0 k) (Y.2.1 1 k) e (nI j) = 0)
abbrev fitA (Y : SV) (e wo : Int32) (n j : Nat) : Prop := ∀ k, k < n → vcr Y e wo j k = true
theorem c_fitsAll {Y : SV} {m n : Nat} (e3 : Y.1 3 = nI n) (hn : n ≤ m) (hm : m = 8) (e wo : Int32) (j : Nat) : gX2_fitsAll Y m e wo (nI j) = some (if fitA Y e wo n j then 1 else 0) := by
  have key : ∀ f, n + 1 < f → gfX2_fitsAll_3 Y m f e wo (nI j) (nI 0) = if fitA Y e wo n j then some 1 else some 0 := lpA (fun f (l : Int32) => gfX2_fitsAll_3 Y m f e wo (nI j) l) (fun i => nI i) (vcr Y e wo j) (some 1) (some 0) n ?_ ?_ ?_
  · have h := key FU (by rw [FUn]; omega)
    unfold gX2_fitsAll
    rw [show (0 : Int32) = nI 0 from rfl, h]
    by_cases c : fitA Y e wo n j
    · rw [if_pos c, if_pos c]
    · rw [if_neg c, if_neg c]; rfl
  · intro i hi hp f
    show gbX2_fitsAll_3 _ _ _ _ _ _ _ = _
    unfold gbX2_fitsAll_3
    rw [e3, if_neg (nI_ge hi (by omega))]
    simp only [nm]
    rw [show nI i + 1 = nI (i + 1) from (nI_succ i).symm]
    by_cases c : nI i = wo
    · rw [if_pos c]
    · rw [if_neg c, rA_nI (by omega) (by omega), rA_nI (by omega) (by omega)]
      have : ¬ fX2_crosses (Y.2.1 0 i) (Y.2.1 1 i) e (nI j) = 0 := by simpa [vcr, c] using hp
      simp only [Option.bind_some]
      rw [if_neg this]
  · intro i hi hp f
    show gbX2_fitsAll_3 _ _ _ _ _ _ _ = _
    unfold gbX2_fitsAll_3
    rw [e3, if_neg (nI_ge hi (by omega))]
    have c : ¬ nI i = wo := fun c => by simp [vcr, c] at hp
    have : fX2_crosses (Y.2.1 0 i) (Y.2.1 1 i) e (nI j) = 0 := by simpa [vcr, c] using hp
    rw [if_neg c, rA_nI (by omega) (by omega), rA_nI (by omega) (by omega)]
    simp only [Option.bind_some]
    rw [if_pos this]
  · intro f
    show gbX2_fitsAll_3 _ _ _ _ _ _ _ = _
    unfold gbX2_fitsAll_3
    rw [e3, if_pos (nI_le (Nat.le_refl _) (by omega))]
theorem m_fitsAll {M0 : SV} {i : Nat} {Y : SV} {m n : Nat} {M : SV} (h : VW2 M0 i Y m n M) (k7 : Int32 → Int32 → Int32 → SV → Option (Int32 × SV)) (e wo : Int32) {j : Nat} (hj : j < 100) : gfX10_findCells_19 k7 FU e wo (nI j) 1 0 M = gbX10_findCells_75 k7 e wo (nI j) (if fitA Y e wo n j then 1 else 0) M := by
  have hn := h.hn
  have hc : ∀ k, k < n → gX10_crosses (Y.2.1 0 k) (Y.2.1 1 k) (nI j) e M = some (fX2_crosses (Y.2.1 0 k) (Y.2.1 1 k) e (nI j)) := fun k hk => m_cross hj ((h.by_ k hk).2.2.mono (by omega) (by omega))
  have key : ∀ f, n + 1 < f → gfX10_findCells_19 k7 f e wo (nI j) 1 (nI 0) M = if fitA Y e wo n j then gbX10_findCells_75 k7 e wo (nI j) 1 M else gbX10_findCells_75 k7 e wo (nI j) 0 M := lpA (fun f (l : Int32) => gfX10_findCells_19 k7 f e wo (nI j) 1 l M) (fun i => nI i) (vcr Y e wo j) (gbX10_findCells_75 k7 e wo (nI j) 1 M) (gbX10_findCells_75 k7 e wo (nI j) 0 M) n ?_ ?_ ?_
  · have h := key FU (by rw [FUn]; omega)
    by_cases c : fitA Y e wo n j
    · rw [if_pos c] at h ⊢; exact h
    · rw [if_neg c] at h ⊢; exact h
  · intro i hi hp f
    show gbX10_findCells_19 _ _ _ _ _ _ _ _ = _
    unfold gbX10_findCells_19
    rw [h.views]
    simp only [Option.bind_some, nm]
    rw [if_neg (nI_ge hi (by omega)), if_neg (show ¬ (1 : Int32) = 0 by decide), show nI i + 1 = nI (i + 1) from (nI_succ i).symm]
    by_cases c : nI i = wo
    · rw [if_pos c]
    · obtain ⟨v1, v2⟩ := h.viewOf hi
      rw [if_neg c, v1, v2]
      simp only [Option.bind_some]
      have : ¬ fX2_crosses (Y.2.1 0 i) (Y.2.1 1 i) e (nI j) = 0 := by simpa [vcr, c] using hp
      rw [hc i hi]
      simp only [Option.bind_some]
      rw [if_neg this]
  · intro i hi hp f
    show gbX10_findCells_19 _ _ _ _ _ _ _ _ = _
    unfold gbX10_findCells_19
    rw [h.views]
    simp only [Option.bind_some, nm]
    have c : ¬ nI i = wo := fun c => by simp [vcr, c] at hp
    have hz : fX2_crosses (Y.2.1 0 i) (Y.2.1 1 i) e (nI j) = 0 := by simpa [vcr, c] using hp
    obtain ⟨v1, v2⟩ := h.viewOf hi
    rw [if_neg (nI_ge hi (by omega)), if_neg (show ¬ (1 : Int32) = 0 by decide), if_neg c, v1, v2]
    simp only [Option.bind_some]
    rw [hc i hi]
    simp only [Option.bind_some]
    rw [if_pos hz, show nI i + 1 = nI (i + 1) from (nI_succ i).symm]
    show gbX10_findCells_19 _ _ _ _ _ _ _ _ = _
    unfold gbX10_findCells_19
    rw [h.views]
    simp only [Option.bind_some]
    by_cases q : nI n ≤ nI (i + 1)
    · rw [if_pos q]
    · rw [if_neg q, if_pos True.intro]
  · intro f
    show gbX10_findCells_19 _ _ _ _ _ _ _ _ = _
    unfold gbX10_findCells_19
    rw [h.views]
    simp only [Option.bind_some]
    rw [if_pos (nI_le (Nat.le_refl _) (by omega))]
/-- the cells gathered, on both sides -/
def FR (M0 : SV) (i : Nat) (Y : SV) (m n : Nat) (c : Nat) (S M : SV) : Prop := VW2 M0 i Y m n M ∧ S.1 1 = nI c ∧ M.1 49 = nI c ∧ c ≤ 100 ∧ ∀ k, k < c → ∃ j, j < 100 ∧ S.2.1 0 k = nI j ∧ M.2.1 48 k = nI j
theorem FR.vw {M0 : SV} {i : Nat} {Y : SV} {m n c : Nat} {S M : SV} (h : FR M0 i Y m n c S M) : VW2 M0 i Y m n M := h.1
theorem FR.s1 {M0 : SV} {i : Nat} {Y : SV} {m n c : Nat} {S M : SV} (h : FR M0 i Y m n c S M) : S.1 1 = nI c := h.2.1
theorem FR.m1 {M0 : SV} {i : Nat} {Y : SV} {m n c : Nat} {S M : SV} (h : FR M0 i Y m n c S M) : M.1 49 = nI c := h.2.2.1
theorem FR.hc {M0 : SV} {i : Nat} {Y : SV} {m n c : Nat} {S M : SV} (h : FR M0 i Y m n c S M) : c ≤ 100 := h.2.2.2.1
theorem FR.cl {M0 : SV} {i : Nat} {Y : SV} {m n c : Nat} {S M : SV} (h : FR M0 i Y m n c S M) : ∀ k, k < c → ∃ j, j < 100 ∧ S.2.1 0 k = nI j ∧ M.2.1 48 k = nI j := h.2.2.2.2
theorem gather_both {M0 : SV} {i : Nat} {Y : SV} {m n : Nat} {M S : SV} (h : VW2 M0 i Y m n M) (e wo : Int32) : ∃ c S' M', gX2_gather Y m e wo S = some S' ∧ gX10_findCells e wo M = some (nI c, M') ∧ FR M0 i Y m n c S' M' := by
  have key : ∀ f g, 100 < f → 100 < g → ∃ n' S' M', gfX2_gather_8 Y m f e wo (nI 0) (wI S 1 0) = some S' ∧ gfX10_findCells_7 g e wo (nI 0) (wI M 49 0) = some (nI n', M') ∧ FR M0 i Y m n n' S' M' := lpT (fun f (q : Int32 × SV) => gfX2_gather_8 Y m f e wo q.1 q.2) (fun f (q : Int32 × SV) => gfX10_findCells_7 f e wo q.1 q.2) (fun j s t => s.1 = nI j ∧ t.1 = nI j ∧ ∃ c, c ≤ j ∧ FR M0 i Y m n c s.2 t.2) (fun b c => ∃ n' S' M', b = some S' ∧ c = some (nI n', M') ∧ FR M0 i Y m n n' S' M') 100 ?_ ?_ (nI 0, wI S 1 0) (nI 0, wI M 49 0) ?_
  · obtain ⟨n', S', M', g1, g2, g3⟩ := key FU FU (by rw [FUn]; omega) (by rw [FUn]; omega)
    exact ⟨n', S', M', g1, g2, g3⟩
  · rintro j hj ⟨l, S1⟩ ⟨l', M1⟩ ⟨rfl, rfl, c, hcj, hF⟩
    left
    have hF : FR M0 i Y m n c S1 M1 := hF
    have hM := hF.s1
    have e1 := c_fitsAll (e := e) (wo := wo) (j := j) hF.vw.e3 (by rw [hF.vw.hm]; exact hF.vw.hn) hF.vw.hm
    have e2 := fun k7 => m_fitsAll (k7 := k7) (e := e) (wo := wo) hF.vw hj
    by_cases c0 : fitA Y e wo n j
    · refine ⟨(nI (j + 1), wI (wR S1 0 (upd (S1.2.1 0) c (nI j))) 1 (nI (c + 1))), (nI (j + 1), wI (wR M1 48 (upd (M1.2.1 48) c (nI j))) 49 (nI (c + 1))), fun f => ?_, fun f => ?_, rfl, rfl, c + 1, by omega, ⟨?_, rfl, rfl, by omega, ?_⟩⟩
      · show gbX2_gather_8 _ _ _ _ _ _ _ = _
        unfold gbX2_gather_8
        rw [if_neg (show ¬ (100 : Int32) ≤ nI j from nI_ge (b := 100) hj (by omega)), e1, if_pos c0]
        simp only [Option.bind_some, nm]
        rw [if_neg (show ¬ (1 : Int32) = 0 by decide), hM, wA_nI (by omega) (by omega)]
        simp only [Option.bind_some]
        show gfX2_gather_8 Y m f e wo (nI j + 1) (wI (wR S1 0 (upd (S1.2.1 0) c (nI j))) 1 (S1.1 1 + 1)) = _
        rw [hM, ← nI_succ, ← nI_succ]
      · show gbX10_findCells_7 _ _ _ _ _ = _
        unfold gbX10_findCells_7
        rw [if_neg (show ¬ (100 : Int32) ≤ nI j from nI_ge (b := 100) hj (by omega)), e2, if_pos c0]
        unfold gbX10_findCells_75 gbX10_findCells_101
        rw [if_neg (show ¬ (1 : Int32) = 0 by decide)]
        show ((wA 48 (aLen 9 48) M1 (M1.1 49) (nI j)).bind _) = _
        rw [hF.m1, show aLen 9 48 = 100 from rfl, wA_nI (by omega) (by omega)]
        simp only [Option.bind_some, nm, show ¬ (1 : Int32) = 0 by decide, if_false]
        show gfX10_findCells_7 f e wo (nI j + 1) (wI (wR M1 48 (upd (M1.2.1 48) c (nI j))) 49 (M1.1 49 + 1)) = _
        rw [hF.m1, ← nI_succ, ← nI_succ]
      · exact hF.vw.to rfl rfl
      · intro k hk
        show ∃ j', j' < 100 ∧ upd (S1.2.1 0) c (nI j) k = nI j' ∧ upd (M1.2.1 48) c (nI j) k = nI j'
        by_cases q : k = c
        · subst q; rw [pk_us, pk_us]; exact ⟨j, hj, rfl, rfl⟩
        · rw [pk_un q, pk_un q]; exact hF.cl k (by omega)
    · refine ⟨(nI (j + 1), S1), (nI (j + 1), wI (wR M1 48 (upd (M1.2.1 48) c (M1.2.1 48 c))) 49 (nI c)), fun f => ?_, fun f => ?_, rfl, rfl, c, by omega, ⟨?_, hM, rfl, hF.hc, ?_⟩⟩
      · show gbX2_gather_8 _ _ _ _ _ _ _ = _
        unfold gbX2_gather_8
        rw [if_neg (show ¬ (100 : Int32) ≤ nI j from nI_ge (b := 100) hj (by omega)), e1, if_neg c0]
        simp only [Option.bind_some, nm, if_true, ← nI_succ]
      · show gbX10_findCells_7 _ _ _ _ _ = _
        unfold gbX10_findCells_7
        rw [if_neg (show ¬ (100 : Int32) ≤ nI j from nI_ge (b := 100) hj (by omega)), e2, if_neg c0]
        unfold gbX10_findCells_75 gbX10_findCells_101
        rw [if_pos rfl]
        show ((rA 100 (M1.2.1 48) (M1.1 49)).bind fun x100 => (wA 48 100 M1 (M1.1 49) x100).bind _) = _
        rw [hF.m1, rA_nI (by omega) (by omega)]
        simp only [Option.bind_some, nm, if_true]
        rw [wA_nI (by omega) (by omega)]
        simp only [Option.bind_some]
        show gfX10_findCells_7 f e wo (nI j + 1) (wI (wR M1 48 (upd (M1.2.1 48) c (M1.2.1 48 c))) 49 (M1.1 49 + 0)) = _
        rw [hF.m1, ← nI_succ, show nI c + 0 = nI c by rw [show (0 : Int32) = nI 0 from rfl, nI_add, Nat.add_zero]]
      · exact hF.vw.to rfl rfl
      · intro k hk
        show ∃ j', j' < 100 ∧ S1.2.1 0 k = nI j' ∧ upd (M1.2.1 48) c (M1.2.1 48 c) k = nI j'
        rw [pk_un (by omega)]; exact hF.cl k hk
  · rintro ⟨l, S1⟩ ⟨l', M1⟩ ⟨rfl, rfl, c, hcj, hF⟩
    refine ⟨some S1, some (nI c, M1), fun f => rfl, fun f => ?_, c, S1, M1, rfl, rfl, hF⟩
    show (some (M1.1 49, M1) : Option (Int32 × SV)) = _
    rw [hF.m1]
  · refine ⟨rfl, rfl, 0, Nat.le_refl _, ⟨?_, rfl, rfl, by omega, fun k hk => by omega⟩⟩
    exact h.to rfl rfl
