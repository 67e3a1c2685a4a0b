/-! ===== married, class and reference ===== -/
theorem scr1 : scr 1 83 := by unfold scr; omega
section MY
variable {C : SV} {B : Nat → Int32} {i n c : Nat} {A : Nat → Int32} {M S : SV}
def llC (C : SV) (l r : Nat) : Int32 := C.2.1 17 (4 * l + r)
def rlC (C : SV) (r l : Nat) : Int32 := C.2.1 18 (4 * r + l)
theorem MX.wr_ (h : MX B i n c A M) {k : Nat} (hk : k ≠ 6 ∧ k ≠ 30) (f : Nat → Int32) : MX B i n c A (wR M k f) := by
  obtain ⟨⟨h1, h2⟩, h3, h4, h5, h6⟩ := h
  exact ⟨⟨h1, h2⟩, fun j hj => by rw [wR_ne (by omega)]; exact h3 j hj, h4, h5, fun t ht => by rw [wR_ne (by omega)]; exact h6 t ht⟩
theorem c_ll (C : SV) {l r : Nat} (hl : l < 4) (hr : r < 4) : gX1_leftLikes C (nI l) (nI r) = some (llC C l r) := by
  unfold gX1_leftLikes
  rw [show (4 : Int32) = nI 4 from rfl, pk_mul, nI_add, show Int32.ofNat 16 = nI 16 from rfl, pick_nI (by omega) (by omega) (by omega)]; rfl
theorem c_rl (C : SV) {l r : Nat} (hl : l < 4) (hr : r < 4) : gX1_rightLikes C (nI r) (nI l) = some (rlC C r l) := by
  unfold gX1_rightLikes
  rw [show (4 : Int32) = nI 4 from rfl, pk_mul, nI_add, show Int32.ofNat 16 = nI 16 from rfl, pick_nI (by omega) (by omega) (by omega)]; rfl
theorem m_ll (h : CX C B n c) (hM : MX B i n c A M) {l r : Nat} (hl : l < 4) (hr : r < 4) : gX10_likes (nI l) (nI r) M = some (llC C l r) := by
  unfold gX10_likes llC
  rw [show (4 : Int32) = nI 4 from rfl, show (78 : Int32) = nI 78 from rfl, pk_mul, nI_add, nI_add, hM.of (by omega), (h.cr.2.2.2.2 (4 * l + r) (by omega)).1, show 78 + 4 * l + r = 78 + (4 * l + r) by omega]; rfl
theorem m_rl (h : CX C B n c) (hM : MX B i n c A M) {l r : Nat} (hl : l < 4) (hr : r < 4) : gX10_liked (nI r) (nI l) M = some (rlC C r l) := by
  unfold gX10_liked rlC
  rw [show (4 : Int32) = nI 4 from rfl, show (94 : Int32) = nI 94 from rfl, pk_mul, nI_add, nI_add, hM.of (by omega), (h.cr.2.2.2.2 (4 * r + l) (by omega)).2, show 94 + 4 * r + l = 94 + (4 * r + l) by omega]; rfl
theorem ll_rng (h : CX C B n c) {l r : Nat} (hl : l < 4) (hr : r < 4) : rng (llC C l r) 0 9 ∧ rng (rlC C r l) 0 9 := by
  unfold llC rlC
  rw [(h.cr.2.2.2.2 (4 * l + r) (by omega)).1, (h.cr.2.2.2.2 (4 * r + l) (by omega)).2]
  exact ⟨(h.vb.2.2.2.2.2 (4 * l + r) (by omega)).1, (h.vb.2.2.2.2.2 (4 * r + l) (by omega)).2⟩
/-- FV up to j -/
def FJ (ll : Nat → Nat → Int32) (j : Nat) (k : Int32) (l : Nat) (x : Int32) : Prop := (x = -1 ∧ ∀ r, r < j → bt k r = true) ∨ ∃ r, r < j ∧ x = nI r ∧ bt k r = false ∧ ∀ r', r' < j → r' ≠ r → bt k r' = false → pref ll l r r'
theorem FJ.skip {ll : Nat → Nat → Int32} {j : Nat} {k : Int32} {l : Nat} {x : Int32} (h : FJ ll j k l x) (hb : bt k j = true) : FJ ll (j + 1) k l x := by
  rcases h with ⟨h1, h2⟩ | ⟨r, h1, h2, h3, h4⟩
  · refine Or.inl ⟨h1, fun r hr => ?_⟩
    by_cases e : r = j
    · rw [e]; exact hb
    · exact h2 r (by omega)
  · refine Or.inr ⟨r, by omega, h2, h3, fun r' hr' ne q => ?_⟩
    by_cases e : r' = j
    · rw [e, hb] at q; cases q
    · exact h4 r' (by omega) ne q
theorem FJ.keep {ll : Nat → Nat → Int32} {j : Nat} {k : Int32} {l r : Nat} (h : FJ ll j k l (nI r)) (hr : r < j) (hj : j < 32) (hp : (ll l j).toInt ≤ (ll l r).toInt) : FJ ll (j + 1) k l (nI r) := by
  rcases h with ⟨h1, h2⟩ | ⟨r2, h1, h2, h3, h4⟩
  · exact absurd h1 (nI_m1 (by omega))
  · have e2 : r = r2 := (nI_eq (by omega) (by omega)).mp h2
    subst e2
    refine Or.inr ⟨r, by omega, rfl, h3, fun r' hr' ne q => ?_⟩
    by_cases e : r' = j
    · subst e; unfold pref; omega
    · exact h4 r' (by omega) ne q
theorem FJ.take {ll : Nat → Nat → Int32} {j : Nat} {k : Int32} {l : Nat} {x : Int32} (h : FJ ll j k l x) (hj : j < 32) (hb : bt k j = false) (hp : ∀ r, r < j → x = nI r → (ll l r).toInt < (ll l j).toInt) : FJ ll (j + 1) k l (nI j) := by
  refine Or.inr ⟨j, by omega, rfl, hb, fun r' hr' ne q => ?_⟩
  rcases h with ⟨h1, h2⟩ | ⟨r, h1, h2, h3, h4⟩
  · rw [h2 r' (by omega)] at q; cases q
  · have hlt := hp r h1 h2
    by_cases e : r' = r
    · subst e; unfold pref; omega
    · have := h4 r' (by omega) e q
      unfold pref at *; omega
theorem c_fav (h : CX C B n c) {L R : Nat} (hR : R ≤ 4) (e11 : C.1 11 = nI R) {l : Nat} (hl : l < 4) : ∃ x, gX1_favourite C (nI l) S = some x ∧ FV (llC C) R (S.2.1 2 l) l x := by
  have key := lpR (fun f (q : Int32 × Int32 × Int32) => gfX1_favourite_8 C S f (nI l) q.1 q.2.1 q.2.2) (fun j q => q.2.2 = nI j ∧ FJ (llC C) j (S.2.1 2 l) l q.1 ∧ ((q.1 = -1 ∧ q.2.1 = -1) ∨ ∃ r, r < j ∧ q.1 = nI r ∧ q.2.1 = llC C l r)) (fun b => ∃ x, b = some x ∧ FV (llC C) R (S.2.1 2 l) l x) R ?_ ?_ (-1, -1, 0) ⟨rfl, Or.inl ⟨rfl, fun r hr => by omega⟩, Or.inl ⟨rfl, rfl⟩⟩ FU (by rw [FUn]; omega)
  · exact key
  · rintro j hj ⟨x, m, t⟩ ⟨e1, e2, e3⟩
    replace e1 : t = nI j := e1
    replace e2 : FJ (llC C) j (S.2.1 2 l) l x := e2
    replace e3 : (x = -1 ∧ m = -1) ∨ ∃ r, r < j ∧ x = nI r ∧ m = llC C l r := e3
    subst e1
    left
    have st : ∀ f, gfX1_favourite_8 C S (f + 1) (nI l) x m (nI j) = (if bt (S.2.1 2 l) j = false then (if llC C l j ≤ m then gfX1_favourite_8 C S f (nI l) x m (nI (j + 1)) else gfX1_favourite_8 C S f (nI l) (nI j) (llC C l j) (nI (j + 1))) else gfX1_favourite_8 C S f (nI l) x m (nI (j + 1))) := by
      intro f
      show gbX1_favourite_8 _ _ _ _ _ _ _ = _
      unfold gbX1_favourite_8
      rw [e11, if_neg (nI_ge hj (by omega)), c_ll C hl (by omega)]
      simp only [Option.bind_some]
      rw [rA_nI (by omega) (by omega)]
      simp only [Option.bind_some, c_has0 _ (show j < 32 by omega), nm, ← nI_succ]
    have rj := (ll_rng h hl (show j < 4 by omega)).1
    cases hb : bt (S.2.1 2 l) j
    · simp only [hb, if_true] at st
      rcases e3 with ⟨rfl, rfl⟩ | ⟨r, hr, rfl, rfl⟩
      · have : ¬ llC C l j ≤ -1 := by rw [fa_le, m1t]; have := rj.1; omega
        simp only [if_neg this] at st
        exact ⟨(nI j, llC C l j, nI (j + 1)), st, rfl, e2.take (by omega) hb (fun r _ q => absurd q.symm (nI_m1 (by omega))), Or.inr ⟨j, by omega, rfl, rfl⟩⟩
      · by_cases q : llC C l j ≤ llC C l r
        · simp only [if_pos q] at st
          exact ⟨(nI r, llC C l r, nI (j + 1)), st, rfl, e2.keep hr (by omega) ((fa_le _ _).mp q), Or.inr ⟨r, by omega, rfl, rfl⟩⟩
        · simp only [if_neg q] at st
          refine ⟨(nI j, llC C l j, nI (j + 1)), st, rfl, e2.take (by omega) hb (fun r2 hr2 q2 => ?_), Or.inr ⟨j, by omega, rfl, rfl⟩⟩
          rw [← (nI_eq (by omega) (by omega)).mp q2]
          rw [fa_le] at q; omega
    · simp only [hb, Bool.true_eq_false, if_false] at st
      refine ⟨(x, m, nI (j + 1)), st, rfl, e2.skip hb, ?_⟩
      rcases e3 with e3 | ⟨r, hr, q⟩
      · exact Or.inl e3
      · exact Or.inr ⟨r, by omega, q⟩
  · rintro ⟨x, m, t⟩ ⟨e1, e2, e3⟩
    replace e1 : t = nI R := e1
    subst e1
    refine ⟨some x, fun f => ?_, x, rfl, e2⟩
    show gbX1_favourite_8 _ _ _ _ _ _ _ = _
    unfold gbX1_favourite_8
    rw [e11, if_pos (nI_le (Nat.le_refl _) (by omega))]
theorem m_fav (h : CX C B n c) (hM : MX B i n c A M) {R : Nat} (hR : R ≤ 4) (eR : B 3 = nI R) {l : Nat} (hl : l < 4) : ∃ x, gX10_nextAsked (nI l) M = some x ∧ FV (llC C) R (M.2.1 46 l) l x := by
  have o3 : gX10_of 3 M = some (nI R) := by rw [← eR]; exact hM.of (j := 3) (by omega)
  have key := lpR (fun f (q : Int32 × Int32) => gfX10_nextAsked_4 M f (nI l) q.1 q.2) (fun j q => q.2 = nI j ∧ FJ (llC C) j (M.2.1 46 l) l q.1 ∧ (q.1 = -1 ∨ ∃ r, r < j ∧ q.1 = nI r)) (fun b => ∃ x, b = some x ∧ FV (llC C) R (M.2.1 46 l) l x) R ?_ ?_ (-1, 0) ⟨rfl, Or.inl ⟨rfl, fun r hr => by omega⟩, Or.inl rfl⟩ FU (by rw [FUn]; omega)
  · exact key
  · rintro j hj ⟨x, t⟩ ⟨e1, e2, e3⟩
    replace e1 : t = nI j := e1
    replace e2 : FJ (llC C) j (M.2.1 46 l) l x := e2
    replace e3 : x = -1 ∨ ∃ r, r < j ∧ x = nI r := e3
    subst e1
    left
    have st0 : ∀ f, gfX10_nextAsked_4 M (f + 1) (nI l) x (nI j) = gbX10_nextAsked_4 (gfX10_nextAsked_4 M f) (nI l) x (nI j) M := fun _ => rfl
    unfold gbX10_nextAsked_4 at st0
    simp only [o3, Option.bind_some, if_neg (nI_ge hj (show R < 2 ^ 31 by omega)), rA_nI (show l < 4 by omega) (show (4 : Nat) < 2 ^ 31 by omega), m_has0 _ (show j < 32 by omega), nm, ← nI_succ, m_ll h hM hl (show j < 4 by omega)] at st0
    cases hb : bt (M.2.1 46 l) j
    · simp only [hb, if_true] at st0
      rcases e3 with rfl | ⟨r, hr, rfl⟩
      · simp only [if_true] at st0
        exact ⟨(nI j, nI (j + 1)), st0, rfl, e2.take (by omega) hb (fun r _ q => absurd q.symm (nI_m1 (by omega))), Or.inr ⟨j, by omega, rfl⟩⟩
      · simp only [if_neg (nI_m1 (show r < 2 ^ 31 by omega)), m_ll h hM hl (show r < 4 by omega), Option.bind_some] at st0
        by_cases q : llC C l j ≤ llC C l r
        · simp only [if_pos q] at st0
          exact ⟨(nI r, nI (j + 1)), st0, rfl, e2.keep hr (by omega) ((fa_le _ _).mp q), Or.inr ⟨r, by omega, rfl⟩⟩
        · simp only [if_neg q] at st0
          refine ⟨(nI j, nI (j + 1)), st0, rfl, e2.take (by omega) hb (fun r2 hr2 q2 => ?_), Or.inr ⟨j, by omega, rfl⟩⟩
          rw [← (nI_eq (by omega) (by omega)).mp q2]
          rw [fa_le] at q; omega
    · simp only [hb, Bool.true_eq_false, if_false] at st0
      refine ⟨(x, nI (j + 1)), st0, rfl, e2.skip hb, ?_⟩
      rcases e3 with e3 | ⟨r, hr, q⟩
      · exact Or.inl e3
      · exact Or.inr ⟨r, by omega, q⟩
  · rintro ⟨x, t⟩ ⟨e1, e2, e3⟩
    replace e1 : t = nI R := e1
    subst e1
    refine ⟨some x, fun f => ?_, x, rfl, e2⟩
    show gbX10_nextAsked_4 _ _ _ _ _ = _
    unfold gbX10_nextAsked_4
    rw [o3]
    simp only [Option.bind_some]
    rw [if_pos (nI_le (Nat.le_refl _) (by omega))]
/-- rows of the Eyes alone -/
def EW (S : SV) (W H K : Nat → Int32) : SV := wR (wR (wR S 0 W) 1 H) 2 K
theorem prefI (h : CX C B n c) {r l o : Nat} (hr : r < 4) (hl : l < 4) (ho : o < 4) : (0 < rlC C r l - rlC C r o ↔ (rlC C r o).toInt < (rlC C r l).toInt) ∧ (rlC C r l - rlC C r o = 0 ↔ (rlC C r l).toInt = (rlC C r o).toInt) := by
  have r1 := (ll_rng h hl hr).2
  have r2 := (ll_rng h ho hr).2
  have e : (rlC C r l - rlC C r o).toInt = (rlC C r l).toInt - (rlC C r o).toInt := fb_subI (by have := r1.1; have := r2.2; omega) (by have := r1.2; have := r2.1; omega)
  exact ⟨by rw [fa_lt, t0, e]; omega, by rw [fa_eq, t0, e]; omega⟩
theorem c_ask (h : CX C B n c) {l r : Nat} (hl : l < 4) (hr : r < 4) (S : SV) (ho : S.2.1 1 r = -1 ∨ ∃ o, o < 4 ∧ S.2.1 1 r = nI o) : ∃ S', gX1_ask C (nI l) (nI r) S = some S' ∧ AS (rlC C) l r (S.2.1 0) (S.2.1 1) (S.2.1 2) (S'.2.1 0) (S'.2.1 1) (S'.2.1 2) := by
  unfold gX1_ask
  rw [if_neg (nI_pos (by omega)), if_pos (show nI r < 4 from nI_lt (b := 4) hr (by omega)), rA_nI (by omega) (by omega)]
  simp only [Option.bind_some]
  rw [wA_nI (by omega) (by omega)]
  simp only [Option.bind_some]
  rw [wR_ne (by decide), rA_nI (by omega) (by omega)]
  simp only [Option.bind_some]
  have gen : ∀ x : Int32, (x = -1 ∨ ∃ o, o < 4 ∧ x = nI o) → ∃ S', gbX1_ask_72 C (nI l) (nI r) x (wR S 2 (upd (S.2.1 2) l (S.2.1 2 l ||| shl 1 (nI r)))) = some S' ∧ S'.2.1 2 = upd (S.2.1 2) l (S.2.1 2 l ||| shl 1 (nI r)) ∧ S'.2.1 1 = upd (S.2.1 1) r (nI l) ∧ (x = -1 → S'.2.1 0 = upd (S.2.1 0) l (nI r)) ∧ ∀ o, o < 4 → x = nI o → S'.2.1 0 = upd (upd (S.2.1 0) l (nI r)) o (-1) := by
    intro x hx
    unfold gbX1_ask_72
    rw [wA_nI (by omega) (by omega)]
    simp only [Option.bind_some]
    rw [wA_nI (by omega) (by omega)]
    simp only [Option.bind_some]
    rcases hx with rfl | ⟨o, ho, rfl⟩
    · rw [if_pos (by decide)]
      exact ⟨_, rfl, rfl, rfl, fun _ => rfl, fun o ho q => absurd q.symm (nI_m1 (by omega))⟩
    · rw [if_neg (nI_pos (by omega)), if_neg (show ¬ (4 : Int32) ≤ nI o from nI_ge (b := 4) ho (by omega)), wA_nI (by omega) (by omega)]
      refine ⟨_, rfl, rfl, rfl, fun q => absurd q (nI_m1 (by omega)), fun o2 ho2 q => ?_⟩
      rw [← (nI_eq (by omega) (by omega)).mp q]; rfl
  rcases ho with e | ⟨o, ho, e⟩
  · rw [e, if_pos rfl]
    unfold gbX1_ask_54
    rw [if_pos (by decide)]
    obtain ⟨S', g1, g2, g3, g4, g5⟩ := gen (-1) (Or.inl rfl)
    exact ⟨S', g1, g2, Or.inl ⟨e, g4 rfl, g3⟩⟩
  · rw [e, if_neg (nI_m1 (by omega)), c_rl C hl hr, c_rl C ho hr]
    simp only [Option.bind_some]
    obtain ⟨p1, p2⟩ := prefI h hr hl ho
    unfold gbX1_ask_54
    obtain ⟨S', g1, g2, g3, g4, g5⟩ := gen (nI o) (Or.inr ⟨o, ho, rfl⟩)
    by_cases q1 : (rlC C r o).toInt < (rlC C r l).toInt
    · rw [if_pos (p1.mpr q1)]
      exact ⟨S', g1, g2, Or.inr (Or.inl ⟨o, ho, e, Or.inl q1, g5 o ho rfl, g3⟩)⟩
    · rw [if_neg (fun q => q1 (p1.mp q))]
      by_cases q2 : (rlC C r l).toInt = (rlC C r o).toInt
      · rw [if_pos (p2.mpr q2)]
        by_cases q3 : o ≤ l
        · rw [if_pos (nI_le q3 (by omega))]
          exact ⟨_, rfl, rfl, Or.inr (Or.inr ⟨o, ho, e, fun q => by unfold pref at q; omega, rfl, rfl⟩)⟩
        · rw [if_neg (nI_ge (by omega) (by omega))]
          exact ⟨S', g1, g2, Or.inr (Or.inl ⟨o, ho, e, Or.inr ⟨q2.symm, by omega⟩, g5 o ho rfl, g3⟩)⟩
      · rw [if_neg (fun q => q2 (p2.mp q))]
        exact ⟨_, rfl, rfl, Or.inr (Or.inr ⟨o, ho, e, fun q => by unfold pref at q; omega, rfl, rfl⟩)⟩
/-- rows 44 .. 46 alone differ -/
def FrM (M M' : SV) : Prop := M'.1 = M.1 ∧ ∀ k, (k < 44 ∨ 47 ≤ k) → M'.2.1 k = M.2.1 k
theorem FrM.rf {M : SV} : FrM M M := ⟨rfl, fun _ _ => rfl⟩
theorem FrM.tr {M M1 M2 : SV} (h : FrM M M1) (h2 : FrM M1 M2) : FrM M M2 := ⟨h2.1.trans h.1, fun k hk => (h2.2 k hk).trans (h.2 k hk)⟩
theorem FrM.w {M M' : SV} (h : FrM M M') {k : Nat} (hk : 44 ≤ k ∧ k < 47) (f : Nat → Int32) : FrM M (wR M' k f) := ⟨h.1, fun j hj => (wR_ne (by omega)).trans (h.2 j hj)⟩
theorem MX.tm (h : MX B i n c A M) {M' : SV} (hf : FrM M M') : MX B i n c A M' := by
  obtain ⟨⟨h1, h2⟩, h3, h4, h5, h6⟩ := h
  exact ⟨⟨h1, by rw [hf.1]; exact h2⟩, fun j hj => by rw [hf.2 6 (by omega)]; exact h3 j hj, by rw [hf.1]; exact h4, by rw [hf.1]; exact h5, fun t ht => by rw [hf.2 30 (by omega)]; exact h6 t ht⟩
theorem m_ask (h : CX C B n c) (hM : MX B i n c A M) {l r : Nat} (hl : l < 4) (hr : r < 4) (ho : M.2.1 45 r = -1 ∨ ∃ o, o < 4 ∧ o ≠ l ∧ M.2.1 45 r = nI o) : ∃ M', gX10_asks (nI l) (nI r) M = some M' ∧ FrM M M' ∧ AS (rlC C) l r (M.2.1 44) (M.2.1 45) (M.2.1 46) (M'.2.1 44) (M'.2.1 45) (M'.2.1 46) := by
  unfold gX10_asks
  rw [rA_nI (by omega) (by omega)]
  simp only [Option.bind_some]
  rw [wA_nI (by omega) (by omega)]
  simp only [Option.bind_some]
  rw [wR_ne (by decide), rA_nI (by omega) (by omega)]
  simp only [Option.bind_some]
  have hM1 : MX B i n c A (wR M 46 (upd (M.2.1 46) l (M.2.1 46 l ||| shl 1 (nI r)))) := hM.wr_ (by omega) _
  have F1 : FrM M (wR M 46 (upd (M.2.1 46) l (M.2.1 46 l ||| shl 1 (nI r)))) := FrM.rf.w (by omega) _
  have gen : ∀ x : Int32, (x = -1 ∨ ∃ o, o < 4 ∧ x = nI o) → ∃ S', gbX10_asks_59 (nI l) (nI r) x (wR M 46 (upd (M.2.1 46) l (M.2.1 46 l ||| shl 1 (nI r)))) = some S' ∧ FrM M S' ∧ S'.2.1 46 = upd (M.2.1 46) l (M.2.1 46 l ||| shl 1 (nI r)) ∧ S'.2.1 45 = upd (M.2.1 45) r (nI l) ∧ (x = -1 → S'.2.1 44 = upd (M.2.1 44) l (nI r)) ∧ ∀ o, o < 4 → x = nI o → S'.2.1 44 = upd (upd (M.2.1 44) l (nI r)) o (-1) := by
    intro x hx
    unfold gbX10_asks_59
    rw [wA_nI (by omega) (by omega)]
    simp only [Option.bind_some]
    rw [wA_nI (by omega) (by omega)]
    simp only [Option.bind_some]
    rcases hx with rfl | ⟨o, ho, rfl⟩
    · rw [if_pos rfl]
      exact ⟨_, rfl, (F1.w (by omega) _).w (by omega) _, rfl, rfl, fun _ => rfl, fun o ho q => absurd q.symm (nI_m1 (by omega))⟩
    · rw [if_neg (nI_m1 (by omega)), wA_nI (by omega) (by omega)]
      refine ⟨_, rfl, ((F1.w (by omega) _).w (by omega) _).w (by omega) _, rfl, rfl, fun q => absurd q (nI_m1 (by omega)), fun o2 ho2 q => ?_⟩
      rw [← (nI_eq (by omega) (by omega)).mp q]; rfl
  rcases ho with e | ⟨o, ho, hol, e⟩
  · rw [e, if_pos rfl]
    obtain ⟨S', g1, gf, g2, g3, g4, g5⟩ := gen (-1) (Or.inl rfl)
    exact ⟨S', g1, gf, g2, Or.inl ⟨e, g4 rfl, g3⟩⟩
  · rw [e, if_neg (nI_m1 (by omega)), m_rl h hM1 hl hr, m_rl h hM1 ho hr]
    simp only [Option.bind_some]
    obtain ⟨S', g1, gf, g2, g3, g4, g5⟩ := gen (nI o) (Or.inr ⟨o, ho, rfl⟩)
    by_cases q1 : rlC C r o < rlC C r l
    · rw [if_pos q1]
      exact ⟨S', g1, gf, g2, Or.inr (Or.inl ⟨o, ho, e, Or.inl ((fa_lt _ _).mp q1), g5 o ho rfl, g3⟩)⟩
    · rw [if_neg q1]
      rw [fa_lt] at q1
      by_cases q2 : rlC C r l = rlC C r o
      · rw [if_pos q2]
        by_cases q3 : o ≤ l
        · rw [if_pos (nI_le q3 (by omega))]
          exact ⟨_, rfl, F1, rfl, Or.inr (Or.inr ⟨o, ho, e, fun q => by unfold pref at q; omega, rfl, rfl⟩)⟩
        · rw [if_neg (nI_ge (by omega) (by omega))]
          exact ⟨S', g1, gf, g2, Or.inr (Or.inl ⟨o, ho, e, Or.inr ⟨by rw [q2], by omega⟩, g5 o ho rfl, g3⟩)⟩
      · rw [if_neg q2]
        rw [fa_eq] at q2
        exact ⟨_, rfl, F1, rfl, Or.inr (Or.inr ⟨o, ho, e, fun q => by unfold pref at q; omega, rfl, rfl⟩)⟩
end MY
