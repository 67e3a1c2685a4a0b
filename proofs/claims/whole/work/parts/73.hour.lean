/-! ===== an hour; a DEED ===== -/
def thP (sol th : Nat → Int32) (g : Int32) (j t : Nat) : Int32 := if decide (t < j) && !bt g t then imax 0 (sol t - th t) else sol t
theorem thP_0 (sol th : Nat → Int32) (g : Int32) : thP sol th g 0 = sol := by
  funext t; unfold thP; simp
theorem thP_j (sol th : Nat → Int32) (g : Int32) (j : Nat) : thP sol th g j j = sol j := by unfold thP; simp
theorem thP_t {sol th : Nat → Int32} {g : Int32} {j : Nat} (h : bt g j = true) : thP sol th g (j + 1) = thP sol th g j := by
  funext t
  unfold thP
  by_cases e : t = j
  · subst e; simp [h]
  · have : decide (t < j + 1) = decide (t < j) := decide_eq_decide.mpr ⟨fun h => by omega, fun h => by omega⟩
    rw [this]
theorem thP_f {sol th : Nat → Int32} {g : Int32} {j : Nat} (h : bt g j = false) : upd (thP sol th g j) j (imax 0 (sol j - th j)) = thP sol th g (j + 1) := by
  funext t
  by_cases e : t = j
  · subst e; rw [pk_us]; unfold thP; simp [h]
  · rw [pk_un e]
    unfold thP
    have : decide (t < j + 1) = decide (t < j) := decide_eq_decide.mpr ⟨fun h => by omega, fun h => by omega⟩
    rw [this]
section HR
variable {C : SV} {B : Nat → Int32} {i n c : Nat} {M S : SV}
theorem c_pass_in (hn : n ≤ 8) (h0 : C.1 0 = nI n) : gX6_passHour C S = ((gX6_fall C (wR S 1 (thP (S.2.1 1) (C.2.1 3) (S.1 6 ||| S.1 11) n))).bind fun S62 => some (1, wI (wI (wI S62 10 0) 11 0) 5 ((wI (wI S62 10 0) 11 0).1 5 + 1))) := by
  have key := lp (fun f (q : Int32 × SV) => gfX6_passHour_2 C f q.1 q.2) (fun j => (nI j, wR S 1 (thP (S.2.1 1) (C.2.1 3) (S.1 6 ||| S.1 11) j))) ((gX6_fall C (wR S 1 (thP (S.2.1 1) (C.2.1 3) (S.1 6 ||| S.1 11) n))).bind fun S62 => some (1, wI (wI (wI S62 10 0) 11 0) 5 ((wI (wI S62 10 0) 11 0).1 5 + 1))) n ?_ ?_ FU (by rw [FUn]; omega)
  · have e0 : wR S 1 (thP (S.2.1 1) (C.2.1 3) (S.1 6 ||| S.1 11) 0) = S := by rw [thP_0]; exact wR_id
    have key : gfX6_passHour_2 C FU (nI 0) (wR S 1 (thP (S.2.1 1) (C.2.1 3) (S.1 6 ||| S.1 11) 0)) = _ := key
    rw [e0] at key
    exact key
  · intro j hj f
    show gbX6_passHour_2 _ _ _ _ = gfX6_passHour_2 C f (nI (j + 1)) (wR S 1 (thP (S.2.1 1) (C.2.1 3) (S.1 6 ||| S.1 11) (j + 1)))
    unfold gbX6_passHour_2
    rw [h0, if_neg (nI_ge hj (by omega)), rA_nI (by omega) (by omega), rA_nI (by omega) (by omega), wR_eq, thP_j]
    simp only [Option.bind_some, nm]
    rw [wA_nI (by omega) (by omega), wR_eq, wR_wR]
    simp only [Option.bind_some, ← nI_succ]
    show (if fX9_hasBit (S.1 6 ||| S.1 11) (nI j) = 0 then _ else _) = _
    cases hb : bt (S.1 6 ||| S.1 11) j
    · rw [if_pos ((c_has0 _ (by omega)).mpr hb), thP_f hb]
    · rw [if_neg (fun e => by rw [(c_has0 _ (by omega)).mp e] at hb; cases hb), thP_t hb]
  · intro f
    show gbX6_passHour_2 _ _ _ _ = _
    unfold gbX6_passHour_2
    rw [h0, if_pos (nI_le (Nat.le_refl _) (by omega))]
    rfl
theorem m_pass_in (h : CX C B n c) (hM : MX B i n c (C.2.1 5) M) (hR : SR n (C.2.1 5) S M) : ∃ M1, gX10_goesOn M = ((gX10_falls (wI (wI (wI M1 35 0) 34 0) 37 (M.1 37 + 1))).bind fun S87 => some S87) ∧ SR n (C.2.1 5) (wR S 1 (thP (S.2.1 1) (C.2.1 3) (S.1 6 ||| S.1 11) n)) M1 ∧ FrS M M1 := by
  have hn := h.hn
  obtain ⟨-, cr, -⟩ := h.cr
  obtain ⟨-, vb, -⟩ := h.vb
  have hg := hR.e6
  have hs := hR.e11
  have rg := hR.rg
  have key := lpR (fun f (q : Int32 × SV) => gfX10_goesOn_2 f q.1 q.2) (fun j q => q.1 = nI j ∧ q.2.1 = M.1 ∧ FrS M q.2 ∧ q.2.2.1 29 = M.2.1 29 ∧ ∀ t, t < n → q.2.2.1 28 t = (if bt (S.1 6) t then 0 else thP (S.2.1 1) (C.2.1 3) (S.1 6 ||| S.1 11) j t)) (fun b => ∃ M1, b = ((gX10_falls (wI (wI (wI M1 35 0) 34 0) 37 (M.1 37 + 1))).bind fun S87 => some S87) ∧ SR n (C.2.1 5) (wR S 1 (thP (S.2.1 1) (C.2.1 3) (S.1 6 ||| S.1 11) n)) M1 ∧ FrS M M1) n ?_ ?_ (0, M) ⟨rfl, rfl, FrS.rf, rfl, fun t ht => by rw [thP_0]; exact (hR.fm.2.2.2 t ht).1⟩ FU (by rw [FUn]; omega)
  · exact key
  · rintro j hj ⟨l, M1⟩ ⟨e1, e2, e3, e4, e5⟩
    replace e1 : l = nI j := e1
    replace e2 : M1.1 = M.1 := e2
    replace e3 : FrS M M1 := e3
    replace e4 : M1.2.1 29 = M.2.1 29 := e4
    replace e5 : ∀ t, t < n → M1.2.1 28 t = (if bt (S.1 6) t then 0 else thP (S.2.1 1) (C.2.1 3) (S.1 6 ||| S.1 11) j t) := e5
    subst e1
    left
    have o22 := (hM.to e3).ofa (a := 22) (k := j) (by omega)
    have m28 := e5 j hj
    rw [thP_j] at m28
    have hst : ∀ f, gfX10_goesOn_2 (f + 1) (nI j) M1 = gfX10_goesOn_2 f (nI (j + 1)) (wR M1 28 (upd (M1.2.1 28) j (if bt (S.1 6 ||| S.1 11) j then M1.2.1 28 j else fX10_greater 0 (M1.2.1 28 j - B (22 + j))))) := by
      intro f
      show gbX10_goesOn_2 _ _ _ = _
      unfold gbX10_goesOn_2
      rw [e2, hM.fm, if_neg (nI_ge hj (by omega)), hg, hs, rA_nI (by omega) (by omega), show (22 : Int32) = nI 22 from rfl, o22]
      simp only [Option.bind_some, nm, ← nI_succ]
      rw [wA_nI (by omega) (by omega), wA_nI (by omega) (by omega)]
      simp only [Option.bind_some, m_has0 _ (show j < 32 by omega)]
      cases hb : bt (S.1 6 ||| S.1 11) j
      · simp
      · simp
    refine ⟨(nI (j + 1), wR M1 28 (upd (M1.2.1 28) j (if bt (S.1 6 ||| S.1 11) j then M1.2.1 28 j else fX10_greater 0 (M1.2.1 28 j - B (22 + j))))), hst, rfl, e2, e3.w28 _, e4, fun t ht => ?_⟩
    show upd (M1.2.1 28) j _ t = _
    by_cases e : t = j
    · subst e
      rw [pk_us]
      cases hb : bt (S.1 6 ||| S.1 11) t
      · have hb6 : bt (S.1 6) t = false := by rw [b_or] at hb; cases hq : bt (S.1 6) t <;> simp_all
        rw [hb6] at m28 ⊢
        simp only [Bool.false_eq_true, if_false] at m28 ⊢
        rw [m28, ← thP_f hb, pk_us, imax_g, (cr t (by omega)).2.2.1]
      · simp only [if_true]
        rw [m28, thP_t hb, thP_j]
    · rw [pk_un e, e5 t ht]
      congr 1
      unfold thP
      have : decide (t < j + 1) = decide (t < j) := decide_eq_decide.mpr ⟨fun h => by omega, fun h => by omega⟩
      rw [this]
  · rintro ⟨l, M1⟩ ⟨e1, e2, e3, e4, e5⟩
    replace e1 : l = nI n := e1
    replace e2 : M1.1 = M.1 := e2
    replace e3 : FrS M M1 := e3
    replace e4 : M1.2.1 29 = M.2.1 29 := e4
    subst e1
    obtain ⟨⟨r1, r2, r3, r4⟩, ⟨q1, q2, q3, q4, q5, q6⟩, r5, r6⟩ := hR
    refine ⟨_, fun f => ?_, M1, rfl, ⟨⟨?_, ?_, ?_, fun t ht => ⟨e5 t ht, ?_⟩⟩, ?_, fun t ht => ⟨?_, (r5 t ht).2⟩, r6⟩, e3⟩
    · show gbX10_goesOn_2 _ _ _ = _
      unfold gbX10_goesOn_2
      rw [e2, hM.fm, if_pos (nI_le (Nat.le_refl _) (by omega))]
      simp only [nm]
      rw [show (wI (wI M1 35 0) 34 0).1 37 = M.1 37 by rw [wI_ne (by decide), wI_ne (by decide), e2]]
    · rw [e2]; exact r1
    · intro t ht; rw [e3.r (by decide) (by decide)]; exact r2 t ht
    · rw [e2]; exact r3
    · show M1.2.1 29 t = _
      rw [e4]; exact (r4 t ht).2
    · rw [e2]; exact ⟨q1, q2, q3, q4, q5, q6⟩
    · show rng (thP (S.2.1 1) (C.2.1 3) (S.1 6 ||| S.1 11) n t) 0 99
      unfold thP
      split
      · rw [imax_g, (cr t (by omega)).2.2.1]
        have v := (vb t (by omega)).2.2.1
        have w := (r5 t ht).1
        have e := sub_rng w v (by omega) (by omega)
        by_cases q : (S.2.1 1 t - B (22 + t)) ≤ 0
        · rw [gre_l q]; exact ⟨by rw [t0]; omega, by rw [t0]; omega⟩
        · rw [gre_r q]
          rw [fa_le, t0] at q
          exact ⟨by omega, by have := e.2; omega⟩
      · exact (r5 t ht).1
/-- what an hour makes of a Scene -/
def HP (C S S' : SV) (n : Nat) : Prop := S'.2.1 1 = thP (S.2.1 1) (C.2.1 3) (S.1 6 ||| S.1 11) n ∧ S'.2.1 2 = S.2.1 2 ∧ S'.2.1 3 = S.2.1 3 ∧ S'.1 6 = flP n (C.2.1 5) (thP (S.2.1 1) (C.2.1 3) (S.1 6 ||| S.1 11) n) (S.2.1 2) (S.1 6) ∧ S'.1 5 = S.1 5 + 1 ∧ S'.1 8 = S.1 8 ∧ S'.1 10 = 0 ∧ S'.1 11 = 0
theorem c_hour (hn : n ≤ 8) (h0 : C.1 0 = nI n) (S : SV) : ∃ S', gX6_passHour C S = some (1, S') ∧ HP C S S' n ∧ FrC S S' ∧ S' = wI (wI (wI (wI (wR S 1 (thP (S.2.1 1) (C.2.1 3) (S.1 6 ||| S.1 11) n)) 10 0) 11 0) 5 (S.1 5 + 1)) 6 (flP n (C.2.1 5) (thP (S.2.1 1) (C.2.1 3) (S.1 6 ||| S.1 11) n) (S.2.1 2) (S.1 6)) := by
  unfold HP
  have e0 := c_pass_in (S := S) hn h0
  generalize thP (S.2.1 1) (C.2.1 3) (S.1 6 ||| S.1 11) n = f at e0 ⊢
  have e := c_fall (C := C) (S := wR S 1 f) hn h0
  rw [wR_eq, wR_ne (by decide)] at e
  have e6 : (wR S 1 f).1 6 = S.1 6 := rfl
  rw [e6] at e
  generalize flP n (C.2.1 5) f (S.2.1 2) (S.1 6) = g at e ⊢
  have e5 : (wI (wI (wI (wR S 1 f) 6 g) 10 0) 11 0).1 5 = S.1 5 := by
    rw [wI_ne (by decide), wI_ne (by decide), wI_ne (by decide)]; rfl
  rw [e0, e]
  simp only [Option.bind_some]
  rw [e5]
  generalize S.1 5 + 1 = h5
  refine ⟨_, rfl, ⟨wR_eq, wR_ne (by decide), wR_ne (by decide), by rw [wI_ne (by decide), wI_ne (by decide), wI_ne (by decide)]; exact wI_eq, wI_eq, by rw [wI_ne (by decide), wI_ne (by decide), wI_ne (by decide), wI_ne (by decide)]; rfl, by rw [wI_ne (by decide), wI_ne (by decide)]; exact wI_eq, by rw [wI_ne (by decide)]; exact wI_eq⟩, ⟨rfl, rfl, rfl⟩, ?_⟩
  rw [wI_swap _ (show (6 : Nat) ≠ 10 by decide), wI_swap _ (show (6 : Nat) ≠ 11 by decide), wI_swap _ (show (6 : Nat) ≠ 5 by decide)]
theorem hour_both (h : CX C B n c) (hM : MX B i n c (C.2.1 5) M) (hR : SR n (C.2.1 5) S M) : ∃ S' M', gX6_passHour C S = some (1, S') ∧ gX10_goesOn M = some M' ∧ SR n (C.2.1 5) S' M' ∧ FrS M M' ∧ FrC S S' ∧ HP C S S' n := by
  obtain ⟨S', p1, p2, p3, p4⟩ := c_hour h.hn h.c0 S
  obtain ⟨M1, q1, q2, q3⟩ := m_pass_in h hM hR
  have R1 := ((q2.ii (a := 10) (b := 34) (by omega) 0).ii (a := 11) (b := 35) (by omega) 0).ii (a := 5) (b := 37) (by omega) (S.1 5 + 1)
  rw [wI_swap M1 (show (34 : Nat) ≠ 35 by decide), ← hR.e5] at R1
  obtain ⟨M2, f1, f2, f3, f4⟩ := fall_both h R1
  refine ⟨S', M2, p1, ?_, ?_, (((q3.wi (k := 35) (by omega) 0).wi (k := 34) (by omega) 0).wi (k := 37) (by omega) (M.1 37 + 1)).tr f3, p3, p2⟩
  · rw [q1, f2]; rfl
  · rw [p4, ← hR.e5]; exact f4
theorem act_both (h : CX C B n c) (hM : MX B i n c (C.2.1 5) M) (hR : SR n (C.2.1 5) S M) (hh : rng (S.1 5) 0 99) (w a b : Int32) : ∃ r S' M', gX6_act C w a b S = some (r, S') ∧ gX10_does w a b M = some (r, M') ∧ OK S M S' M' n (C.2.1 5) ∧ (r = 0 ∨ r = 1) ∧ ((r = 0 ∧ S'.1 6 = S.1 6 ∧ S'.2.1 3 = S.2.1 3) ∨ (r = 1 ∧ w = 0 ∧ ∃ k, k < c ∧ a = nI k ∧ S'.2.1 3 = upd (S.2.1 3) k (S.2.1 3 k + 1)) ∨ (r = 1 ∧ ¬ w = 0 ∧ S'.2.1 3 = S.2.1 3)) := by
  have t99 : (99 : Int32).toInt = 99 := rfl
  unfold gX6_act gX10_does gbX10_does_51
  by_cases w0 : w = 0
  · obtain ⟨r, S', M', e1, e2, e3, e4⟩ := look_both h hM hR a b
    rw [if_pos w0, if_pos w0, e1, e2]
    simp only [b2]
    rcases e4 with ⟨rfl, e5, e6⟩ | ⟨rfl, e5, e6⟩
    · exact ⟨0, S', M', rfl, rfl, e3, Or.inl rfl, Or.inl ⟨rfl, by rw [e5], by rw [e5]⟩⟩
    · exact ⟨1, S', M', rfl, rfl, e3, Or.inr rfl, Or.inr (Or.inl ⟨rfl, w0, e6⟩)⟩
  rw [if_neg w0, if_neg w0]
  obtain ⟨⟨r, S', M', e1, e2, e3, e4, e5, e6⟩, ⟨r', S'', M'', e1', e2', e3', e4', e5', e6'⟩⟩ := turn_both h hM hR a
  by_cases w1 : w = 1
  · have w2 : ¬ w = 2 := by rw [w1]; decide
    rw [if_pos w1, if_pos w1, if_neg w2, e1, e2]
    simp only [b2]
    rw [if_pos e4, if_pos e4]
    refine ⟨r, S', M', rfl, rfl, e3, e4, ?_⟩
    rcases e4 with rfl | rfl
    · exact Or.inl ⟨rfl, e5, e6⟩
    · exact Or.inr (Or.inr ⟨rfl, w0, e6⟩)
  rw [if_neg w1, if_neg w1]
  by_cases w2 : w = 2
  · rw [if_pos w2, if_pos w2, if_pos w2, e1', e2']
    simp only [b2]
    rw [if_pos e4', if_pos e4']
    refine ⟨r', S'', M'', rfl, rfl, e3', e4', ?_⟩
    rcases e4' with rfl | rfl
    · exact Or.inl ⟨rfl, e5', e6'⟩
    · exact Or.inr (Or.inr ⟨rfl, w0, e6'⟩)
  rw [if_neg w2, if_neg w2]
  by_cases w3 : w = 3
  · obtain ⟨r, S', M', e1, e2, e3, e4, e5, e6⟩ := forge_both h hM hR a
    rw [if_pos w3, if_pos w3, e1, e2]
    simp only [b2]
    rw [if_pos e4, if_pos e4]
    refine ⟨r, S', M', rfl, rfl, e3, e4, ?_⟩
    rcases e4 with rfl | rfl
    · exact Or.inl ⟨rfl, e5, e6⟩
    · exact Or.inr (Or.inr ⟨rfl, w0, e6⟩)
  rw [if_neg w3, if_neg w3, hR.e5]
  by_cases hq : S.1 5 = 99
  · rw [if_pos hq, if_pos (by rw [hq]; decide)]
    exact ⟨0, S, M, rfl, rfl, ⟨hR, FrS.rf, FrC.rf, id⟩, Or.inl rfl, Or.inl ⟨rfl, rfl, rfl⟩⟩
  · have hlt : ¬ (S.1 5).toInt = 99 := fun e => hq ((fa_eq _ _).mpr (by rw [t99]; exact e))
    rw [if_neg hq, if_neg (by rw [fa_le, t99]; have := hh.2; omega)]
    obtain ⟨S', M', p1, p2, p3, p4, p5, p6⟩ := hour_both h hM hR
    rw [p1, p2]
    simp only [b2, Option.bind_some, show ¬ ((1 : Int32) = 0) by decide, if_false]
    refine ⟨1, S', M', rfl, rfl, ⟨p3, p4, p5, fun _ => ?_⟩, Or.inr rfl, Or.inr (Or.inr ⟨rfl, w0, p6.2.2.1⟩)⟩
    rw [p6.2.2.2.2.1]
    have e : (S.1 5 + 1).toInt = (S.1 5).toInt + 1 := by
      rw [fb_addI] <;> rw [t1] <;> have := hh.1 <;> have := hh.2 <;> omega
    exact ⟨by rw [e]; have := hh.1; omega, by rw [e]; have := hh.2; omega⟩
/-! what a STATE answers -/
theorem div10_0 {x : Int32} (h : x / 10 = 0) : -10 < x.toInt ∧ x.toInt < 10 := by
  have e := congrArg Int32.toInt h
  rw [Int32.toInt_div_of_ne_right _ _ (by decide)] at e
  rw [show (10 : Int32).toInt = 10 from rfl, t0] at e
  rcases Int.le_total 0 x.toInt with q | q
  · rw [Int.tdiv_eq_ediv_of_nonneg q] at e; omega
  · have q2 : x.toInt = -(-x.toInt) := by omega
    rw [q2, Int.neg_tdiv, Int.tdiv_eq_ediv_of_nonneg (by omega)] at e; omega
theorem state_both (h : CX C B n c) (hM : MX B i n c (C.2.1 5) M) (hR : SR n (C.2.1 5) S M) (w : Int32) : ∃ r, gX6_answer C w S = some r ∧ gX10_ofState w M = some r := by
  have hn := h.hn
  have t10 : (10 : Int32).toInt = 10 := rfl
  unfold gX6_answer gX10_ofState
  simp only [nm]
  rw [hR.e5, hR.e6, hR.e8, hR.e9, hR.e10]
  by_cases h0 : w = 0
  · subst h0; exact ⟨_, rfl, rfl⟩
  by_cases h1 : w = 1
  · subst h1; exact ⟨_, rfl, rfl⟩
  by_cases h2 : w = 2
  · subst h2; exact ⟨_, rfl, rfl⟩
  by_cases h3 : w = 3
  · subst h3; exact ⟨_, rfl, rfl⟩
  by_cases h4 : w = 4
  · subst h4; exact ⟨_, rfl, rfl⟩
  simp only [h0, h1, h2, h3, h4, if_false]
  by_cases h10 : 10 ≤ w
  · rw [if_pos h10]
    have g10 : 10 ≤ w.toInt := by rw [fa_le, t10] at h10; exact h10
    obtain ⟨j, hj, rfl⟩ := nI_of (x := w) (by rw [fa_lt, t0]; omega)
    have hj10 : 10 ≤ j := by rw [nI_toInt hj] at g10; omega
    rw [idiv10 hj, irem10 hj]
    unfold gX6_ofThing
    have d0 : ¬ nI (j / 10) = 0 := nI_ne0 (by omega) (by omega)
    rw [if_neg d0]
    have hk : j % 10 < 10 := by omega
    have e1 : ∀ a : Nat, a < 2 ^ 31 → (nI (j / 10) = nI a ↔ j / 10 = a) := fun a ha => nI_eq (by omega) ha
    have eqs : (nI (j / 10) = 1 ↔ j / 10 = 1) ∧ (nI (j / 10) = 2 ↔ j / 10 = 2) ∧ (nI (j / 10) = 3 ↔ j / 10 = 3) ∧ (3 < nI (j / 10) ↔ 3 < j / 10) := ⟨e1 1 (by omega), e1 2 (by omega), e1 3 (by omega), nI_ltI (a := 3) (by omega) (by omega)⟩
    obtain ⟨q1, q2, q3, q4⟩ := eqs
    simp only [q1, q2, q3, q4, hM.fm]
    rcases thing_both h hM (nI (j % 10)) with ⟨k, hk2, ek, e2, e3⟩ | ⟨q, e2, e3⟩
    · have ek2 : j % 10 = k := (nI_eq (by omega) (by omega)).mp ek
      rw [e2]
      simp only [Option.bind_some, show ¬ ((1 : Int32) = 0) by decide, if_false]
      rw [ek2]
      have hnk : ¬ nI n ≤ nI k := nI_ge hk2 (by omega)
      simp only [hnk, if_false]
      have hbm := m_bears hn hR.fm (show k < 8 by omega)
      have hbc := c_bears (S := S) hn h.c0 hk2
      rw [hbm, rA_nI (by omega) (by omega), rA_nI (by omega) (by omega), rA_nI (by omega) (by omega), rA_nI (by omega) (by omega)]
      simp only [Option.bind_some]
      rcases there_both h hM hR (nI k) with ⟨t, ht, et, hb, e4, e5⟩ | ⟨e4, e5, e6⟩
      · have : k = t := (nI_eq (by omega) (by omega)).mp et
        subst this
        rw [e4, hbc]
        simp only [Option.bind_some, show ¬ ((1 : Int32) = 0) by decide, if_false]
        rw [hR.sol ht hb, hR.wei ht hb]
        by_cases c1 : j / 10 = 1
        · simp only [c1, show ¬ (3 < 1) by omega, show ¬ (1 = 3) by omega, if_true, if_false]; exact ⟨_, rfl, rfl⟩
        by_cases c2 : j / 10 = 2
        · simp only [c2, show ¬ (3 < 2) by omega, show ¬ (2 = 3) by omega, show ¬ (2 = 1) by omega, if_true, if_false]; exact ⟨_, rfl, rfl⟩
        by_cases c3 : j / 10 = 3
        · simp only [c3, show ¬ (3 < 3) by omega, show ¬ (3 = 1) by omega, show ¬ (3 = 2) by omega, if_true, if_false]; exact ⟨_, rfl, rfl⟩
        · simp only [c1, c2, c3, show 3 < j / 10 by omega, if_true, if_false]; exact ⟨_, rfl, rfl⟩
      · have hbk : bt (S.1 6) k = true := by
          rcases e6 with e6 | ⟨t, ht, et, hb⟩
          · exact (out_in hk2 hn e6).elim
          · have : k = t := (nI_eq (by omega) (by omega)).mp et
            rw [this]; exact hb
        rw [e4]
        simp only [Option.bind_some, if_true]
        obtain ⟨z1, z2⟩ := hR.sol0 hk2 hbk
        have z3 : brP n (C.2.1 5) (S.2.1 2) (S.1 6) k = 0 := by
          have := sumP_zero (f := brF (C.2.1 5) (S.2.1 2) (S.1 6) k) (j := 0) n (fun m m1 m2 => ?_)
          · rw [Nat.zero_add] at this; exact this
          · unfold brF
            cases ha : bt (C.2.1 5 k) m
            · rfl
            · rw [hR.go.2 k hk2 hbk m (by omega) ha]; rfl
        rw [z1, z2, z3]
        by_cases c1 : j / 10 = 1
        · simp only [c1, show ¬ (3 < 1) by omega, if_true, if_false]; exact ⟨_, rfl, rfl⟩
        by_cases c2 : j / 10 = 2
        · simp only [c2, show ¬ (3 < 2) by omega, show ¬ (2 = 1) by omega, if_true, if_false]; exact ⟨_, rfl, rfl⟩
        by_cases c3 : j / 10 = 3
        · simp only [c3, show ¬ (3 < 3) by omega, show ¬ (3 = 1) by omega, show ¬ (3 = 2) by omega, if_true, if_false]; exact ⟨_, rfl, rfl⟩
        · simp only [c1, c2, c3, show 3 < j / 10 by omega, if_true, if_false]; exact ⟨_, rfl, rfl⟩
    · have q' : nI n ≤ nI (j % 10) := by
        rcases q with q | q
        · exact (nI_pos (by omega) q).elim
        · exact q
      rw [e2]
      simp only [Option.bind_some, if_true, if_pos q', ite_self]
      exact ⟨_, rfl, rfl⟩
  · rw [if_neg h10]
    have g10 : w.toInt < 10 := by rw [fa_le, t10] at h10; omega
    have d : ∀ a : Int32, 0 < a.toInt → ¬ w / 10 = a := by
      intro a ha e
      have e2 := congrArg Int32.toInt e
      rw [Int32.toInt_div_of_ne_right _ _ (by decide), t10] at e2
      rcases Int.le_total 0 w.toInt with q | q
      · rw [Int.tdiv_eq_ediv_of_nonneg q] at e2; omega
      · have q2 : w.toInt = -(-w.toInt) := by omega
        rw [q2, Int.neg_tdiv, Int.tdiv_eq_ediv_of_nonneg (by omega)] at e2; omega
    rw [if_neg (d 1 (by decide)), if_neg (d 2 (by decide)), if_neg (d 3 (by decide)), ite_self]
    exact ⟨_, rfl, rfl⟩
end HR
