/-! ===== WATCH: the reference ===== -/
section WM
variable {C : SV} {B : Nat → Int32} {i n c : Nat} {M : SV} {A : Nat → Int32} {g : Int32}
theorem MX.wrr (h : MX B i n c A M) {k : Nat} (hk : k ≠ 6 ∧ k ≠ 30) (f : Nat → Int32) : MX B i n c A (wR M k f) := by
  obtain ⟨h1, h3, h4, h5, h6⟩ := h
  exact ⟨h1, fun j hj => by rw [wR_ne (by omega)]; exact h3 j hj, h4, h5, fun t ht => by rw [wR_ne (by omega)]; exact h6 t ht⟩
theorem SR.mr {S : SV} (h : SR n A S M) {k : Nat} (hk : k ≠ 28 ∧ k ≠ 29 ∧ k ≠ 30) (f : Nat → Int32) : SR n A S (wR M k f) := by
  obtain ⟨⟨a1, a2, a3, a4⟩, r⟩ := h
  exact ⟨⟨a1, fun t ht => by rw [wR_ne (by omega)]; exact a2 t ht, a3, fun t ht => by rw [wR_ne (by omega), wR_ne (by omega)]; exact a4 t ht⟩, r⟩
theorem m_there (hn : n ≤ 8) (h26 : M.1 26 = nI n) (h31 : M.1 31 = g) {d : Nat} (hd : d < 8) : gX10_isThere (nI d) M = some (if (decide (d < n) && !bt g d) = true then 1 else 0) := by
  have e1 : gX10_isThing (nI d) M = some (if d < n then 1 else 0) := by
    unfold gX10_isThing
    rw [h26]
    rcases in_n hn (nI d) with ⟨k, hk, e, q⟩ | ⟨e, q⟩
    · have : d = k := (nI_eq (by omega) (by omega)).mp e
      rw [q, if_pos (Or.inr rfl), if_pos (by omega)]
    · have : ¬ d < n := fun hk => out_in hk hn e
      rw [q, if_pos (Or.inl rfl), if_neg this]
  unfold gX10_isThere
  rw [e1, h31]
  simp only [Option.bind_some]
  by_cases q : d < n
  · rw [if_pos q, if_neg (show ¬ (1 : Int32) = 0 by decide)]
    cases hb : bt g d
    · rw [if_pos ((m_has0 g (by omega)).mpr hb)]; simp [q]
    · rw [if_neg (fun e => by rw [(m_has0 g (by omega)).mp e] at hb; cases hb)]; simp
  · rw [if_neg q, if_pos rfl]; simp [q]
theorem dg_ge : ∀ j Q, dg (j + 1) Q j = Q % 9 := fun j Q => by unfold dg; rw [if_pos rfl]
theorem m_lay_f (hn : n ≤ 8) (h26 : M.1 26 = nI n) (h31 : M.1 31 = g) : ∀ j, j ≤ 4 → ∀ Q, Q < 2 ^ 31 → ∀ s f u, j < u → ∃ f', gfX10_layRow_12 u (nI Q) s (nI j - 1) (wR M 39 f) = some (if lv n g j Q s = true then 1 else 0, wR M 39 f') ∧ (lv n g j Q s = true → (∀ i, i < j → f' i = nI (dg j Q i)) ∧ ∀ i, j ≤ i → f' i = f i) := by
  intro j
  induction j with
  | zero =>
    intro _ Q _ s f u hu
    obtain ⟨u, rfl⟩ : ∃ v, u = v + 1 := ⟨u - 1, by omega⟩
    refine ⟨f, ?_, fun _ => ⟨fun i hi => by omega, fun _ _ => rfl⟩⟩
    show gbX10_layRow_12 _ _ _ _ _ = _
    unfold gbX10_layRow_12
    rw [if_pos (show nI 0 - 1 < 0 by decide)]
    rfl
  | succ j ih =>
    intro hj Q hQ s f u hu
    obtain ⟨u, rfl⟩ : ∃ v, u = v + 1 := ⟨u - 1, by omega⟩
    have h9 := m9 Q
    have hQ9 : Q / 9 < 2 ^ 31 := by omega
    have hrem : irem (nI Q) 9 = nI (Q % 9) := pk_rem (d := 9) hQ (by decide) (by decide)
    have hdiv : nI Q / 9 = nI (Q / 9) := pk_div (d := 9) hQ (by decide) (by decide)
    have hpre : nI (j + 1) - 1 = nI j := nI_pred j
    have hm1 : nI j + (-1) = nI j - 1 := by
      rw [Int32.sub_eq_add_neg]
    have hread : rA 4 ((wR M 39 (upd f j (nI (Q % 9)))).2.1 39) (nI j) = some (nI (Q % 9)) := by
      rw [wR_eq, rA_nI (by omega) (by omega), pk_us]
    have go : ∀ s', (∃ f', gfX10_layRow_12 u (nI (Q / 9)) s' (nI j - 1) (wR M 39 (upd f j (nI (Q % 9)))) = some (if lv n g j (Q / 9) s' = true then 1 else 0, wR M 39 f') ∧ (lv n g j (Q / 9) s' = true → (∀ i, i < j → f' i = nI (dg j (Q / 9) i)) ∧ ∀ i, j ≤ i → f' i = upd f j (nI (Q % 9)) i)) := fun s' => ih (by omega) (Q / 9) hQ9 s' _ u (by omega)
    have fin : ∀ f' : Nat → Int32, ((∀ i, i < j → f' i = nI (dg j (Q / 9) i)) ∧ ∀ i, j ≤ i → f' i = upd f j (nI (Q % 9)) i) → (∀ i, i < j + 1 → f' i = nI (dg (j + 1) Q i)) ∧ ∀ i, j + 1 ≤ i → f' i = f i := by
      rintro f' ⟨p1, p2⟩
      refine ⟨fun i hi => ?_, fun i hi => ?_⟩
      · by_cases e : i = j
        · subst e; rw [p2 i (Nat.le_refl _), pk_us, dg_ge]
        · rw [p1 i (by omega)]; unfold dg; rw [if_neg e]; cases j <;> rfl
      · rw [p2 i (by omega), pk_un (by omega)]
    show ∃ f', gbX10_layRow_12 _ _ _ _ _ = _ ∧ _
    unfold gbX10_layRow_12
    rw [hpre, if_neg (nI_pos (by omega)), wA_nI (by omega) (by omega), hrem, wR_eq, wR_wR]
    simp only [Option.bind_some]
    rw [nmE, hdiv, hread]
    simp only [Option.bind_some]
    by_cases h8 : Q % 9 < 8
    · rw [if_neg (show ¬ (8 : Int32) ≤ nI (Q % 9) from nI_ge (b := 8) h8 (by omega))]
      rw [m_there (M := wR M 39 (upd f j (nI (Q % 9)))) hn h26 h31 h8]
      simp only [Option.bind_some]
      have elv : lv n g (j + 1) Q s = ((decide (Q % 9 < n) && !bt g (Q % 9) && !bt s (Q % 9)) && lv n g j (Q / 9) (s ||| shl 1 (nI (Q % 9)))) := by
        rw [lv, if_pos h8, decide_eq_false (show ¬ Q % 9 = 8 by omega), Bool.false_or]
      cases ht : (decide (Q % 9 < n) && !bt g (Q % 9))
      · rw [if_pos (show (if false = true then (1 : Int32) else 0) = 0 by decide)]
        have e0 : lv n g (j + 1) Q s = false := by rw [elv, ht]; rfl
        exact ⟨_, by rw [e0]; rfl, fun e => by rw [e0] at e; cases e⟩
      · rw [if_neg (show ¬ (if true = true then (1 : Int32) else 0) = 0 by decide)]
        cases hs : bt s (Q % 9)
        · rw [if_pos ((m_has0 s (by omega)).mpr hs)]
          have e0 : lv n g (j + 1) Q s = lv n g j (Q / 9) (s ||| shl 1 (nI (Q % 9))) := by rw [elv, ht, hs]; rfl
          rw [e0]
          unfold gbX10_layRow_75
          rw [hread]
          simp only [Option.bind_some]
          rw [if_neg (show ¬ (8 : Int32) ≤ nI (Q % 9) from nI_ge (b := 8) h8 (by omega))]
          rw [nmE, nmE, hm1]
          obtain ⟨f', g1, g2⟩ := go (s ||| shl 1 (nI (Q % 9)))
          exact ⟨f', g1, fun e => fin f' (g2 e)⟩
        · rw [if_neg (fun e => by rw [(m_has0 s (by omega)).mp e] at hs; cases hs)]
          have e0 : lv n g (j + 1) Q s = false := by rw [elv, ht, hs]; rfl
          exact ⟨_, by rw [e0]; rfl, fun e => by rw [e0] at e; cases e⟩
    · have e8 : Q % 9 = 8 := by omega
      rw [if_pos (show (8 : Int32) ≤ nI (Q % 9) by rw [e8]; decide)]
      have e0 : lv n g (j + 1) Q s = lv n g j (Q / 9) s := by
        rw [lv, if_neg h8, decide_eq_true e8]; rfl
      rw [e0]
      unfold gbX10_layRow_75
      rw [hread]
      simp only [Option.bind_some]
      rw [if_pos (show (8 : Int32) ≤ nI (Q % 9) by rw [e8]; decide), nmE, nmE, or0, hm1]
      obtain ⟨f', g1, g2⟩ := go s
      exact ⟨f', g1, fun e => fin f' (g2 e)⟩
theorem m_lay (hn : n ≤ 8) (hc : c ≤ 4) (h26 : M.1 26 = nI n) (h27 : M.1 27 = nI c) (h31 : M.1 31 = g) {Q : Nat} (hQ : Q < 2 ^ 31) : ∃ f, gX10_layRow (nI Q) M = some (if vl n g c Q = true then 1 else 0, wR M 39 f) ∧ (vl n g c Q = true → ∀ i, i < c → f i = nI (dg c Q i)) := by
  obtain ⟨f', g1, g2⟩ := m_lay_f (M := M) hn h26 h31 c hc Q hQ 0 (M.2.1 39) FU (by rw [FUn]; omega)
  rw [lv_0 hn, wR_id] at g1
  refine ⟨f', ?_, fun e => (g2 (by rw [lv_0 hn]; exact e)).1⟩
  unfold gX10_layRow
  rw [h27, nmE]; exact g1
/-- what a look does, in the class's view -/
theorem c_see (h : CX C B n c) {k t : Nat} (hk : k < c) (ht : t < n) (S : SV) : ∃ S', gbX6_look_59 C (nI k) (nI t) 1 S = some (1, S') ∧ S'.2.1 1 = seS C k t (S.2.1 1) ∧ S'.2.1 2 = seW C k t (S.2.1 2) ∧ S'.1 6 = S.1 6 ∧ S'.1 8 = S.1 8 ∧ S'.1 10 = (S.1 10 ||| shl 1 (nI k)) ∧ S'.1 11 = (S.1 11 ||| shl 1 (nI t)) := by
  have hn := h.hn
  have hc := h.hc
  obtain ⟨l, r, hl, hr, el, er, gl, gr⟩ := h.cpl hk
  obtain ⟨⟨-, -, k2, k3, k4, k19⟩, -, c4, -⟩ := h.cr
  obtain ⟨⟨-, -, v2, v3, -, -⟩, -, v4, -⟩ := h.vb
  obtain ⟨a, ha, ea⟩ := vp_in_of (x := B 2) (n := 5) (vp_in_iff.mpr ⟨v2.1, by have := v2.2; omega⟩) (by decide)
  obtain ⟨b, hb, eb⟩ := vp_in_of (x := B 3) (n := 5) (vp_in_iff.mpr ⟨v3.1, by have := v3.2; omega⟩) (by decide)
  rw [ea, nI_toInt (by omega)] at gl
  rw [eb, nI_toInt (by omega)] at gr
  have r1 := (v4 l hl).1
  have r2 := (v4 r hr).2
  have s1 : gX0_sightOfLeft (nI k) C = some (B (38 + l)) := by
    unfold gX0_sightOfLeft
    rw [h.c14, pick_nI hk (by omega) (by omega), (c4 k (by omega)).2.2.1, el]
    simp only [Option.bind_some]
    rw [k2, ea, pick_nI (by omega) (by omega) (by omega), (c4 l hl).1]
    simp only [Option.bind_some]
    rw [imax0 r1.1]
  have s2 : gX0_sightOfRight (nI k) C = some (B (42 + r)) := by
    unfold gX0_sightOfRight
    rw [h.c14, pick_nI hk (by omega) (by omega), (c4 k (by omega)).2.2.2, er]
    simp only [Option.bind_some]
    rw [k3, eb, pick_nI (by omega) (by omega) (by omega), (c4 r hr).2.1]
    simp only [Option.bind_some]
    rw [imax0 r2.1]
  have eL : xL C k = B (38 + l) := by unfold xL; rw [s1]; rfl
  have eR : xR C k = B (42 + r) := by unfold xR; rw [s2]; rfl
  have hx2 : rng (B (38 + l)) (-1000) 1000 := r1.mono (by omega) (by omega)
  have hy2 : rng (B (42 + r)) (-1000) 1000 := r2.mono (by omega) (by omega)
  have hab : iabs (B (38 + l) - B (42 + r)) = fX10_apart (B (38 + l)) (B (42 + r)) := by
    rw [iabs_apart hx2 hy2]
    unfold fX10_apart
    obtain ⟨p1, p2⟩ := r1
    obtain ⟨p3, p4⟩ := r2
    by_cases q : B (42 + r) ≤ B (38 + l)
    · rw [if_pos q]
      by_cases q2 : B (38 + l) ≤ B (42 + r)
      · rw [if_pos q2]
        have e : B (38 + l) = B (42 + r) := by rw [fa_le] at q q2; rw [fa_eq]; omega
        rw [e]
      · rw [if_neg q2]
    · have q2 : B (38 + l) ≤ B (42 + r) := by rw [fa_le] at q ⊢; omega
      rw [if_neg q, if_pos q2]
  unfold seS seW
  rw [eL, eR]
  unfold gbX6_look_59
  rw [if_neg (show ¬ (1 : Int32) = 0 by decide), s1, s2, rA_nI (by omega) (by omega)]
  simp only [Option.bind_some]
  rw [wA_nI (by omega) (by omega)]
  simp only [Option.bind_some]
  rw [imin_l, hab]
  by_cases cg : fX10_apart (B (38 + l)) (B (42 + r)) ≤ C.1 19
  · rw [if_pos cg, if_pos cg]
    unfold gbX6_look_158
    simp only [nm]
    rw [rA_nI (by omega) (by omega)]
    simp only [Option.bind_some]
    rw [wA_nI (by omega) (by omega)]
    simp only [Option.bind_some]
    exact ⟨_, rfl, rfl, rfl, rfl, rfl, rfl, rfl⟩
  · rw [if_neg cg, if_neg cg]
    rw [wR_ne (show (2 : Nat) ≠ 1 by decide), rA_nI (by omega) (by omega)]
    simp only [Option.bind_some]
    rw [wA_nI (by omega) (by omega)]
    simp only [Option.bind_some]
    rw [imin_l]
    unfold gbX6_look_158
    simp only [nm]
    rw [rA_nI (by omega) (by omega)]
    simp only [Option.bind_some]
    rw [wA_nI (by omega) (by omega)]
    simp only [Option.bind_some]
    exact ⟨_, rfl, rfl, rfl, rfl, rfl, rfl, rfl⟩
/-- the reference's state behind the first j COUPLES' looks -/
def RSw (C : SV) (n j Q : Nat) (M : SV) : Prop := ∃ S, SR n (C.2.1 5) S M ∧ S.2.1 1 = pS C j Q ∧ S.2.1 2 = pW C j Q ∧ S.1 6 = gW C n ∧ S.1 11 = pG j Q
theorem m_begun (h : CX C B n c) (hM : MX B i n c (C.2.1 5) M) : ∃ M1 M2, gX10_begin M = some M1 ∧ gX10_falls M1 = some M2 ∧ FrS M M2 ∧ RSw C n 0 0 M2 := by
  have hn := h.hn
  obtain ⟨M1, b1, b2, b3, b31, b32, b33, b34, b35, b36, b37⟩ := m_begin hM
  obtain ⟨-, cr, -⟩ := h.cr
  obtain ⟨-, vb, -⟩ := h.vb
  have R1 : SR n (C.2.1 5) ((fun _ => 0), (fun k => if k = 1 then C.2.1 1 else C.2.1 2), 0) M1 := by
    refine ⟨⟨(hM.to b2).fm, (hM.to b2).2.2.2.2, b31, fun t ht => ?_⟩, ⟨b32, b33, b34, b35, b36, b37⟩, fun t ht => ?_, GO.z⟩
    · show M1.2.1 28 t = (if bt 0 t = true then 0 else C.2.1 1 t) ∧ M1.2.1 29 t = (if bt 0 t = true then 0 else C.2.1 2 t)
      rw [b_0, (b3 t (by omega)).1, (b3 t (by omega)).2, (cr t (by omega)).1, (cr t (by omega)).2.1]
      exact ⟨rfl, rfl⟩
    · show rng (C.2.1 1 t) 0 99 ∧ rng (C.2.1 2 t) 0 9
      rw [(cr t (by omega)).1, (cr t (by omega)).2.1]
      exact ⟨(vb t (by omega)).1, (vb t (by omega)).2.1⟩
  obtain ⟨M2, f1, f2, f3, f4⟩ := fall_both h R1
  exact ⟨M1, M2, b1, f2, b2.tr f3, _, f4, rfl, rfl, rfl, rfl⟩
theorem vl_dg {g : Int32} {j Q : Nat} (h : vl n g (j + 1) Q = true) : vl n g j (Q / 9) = true ∧ (Q % 9 = 8 ∨ (Q % 9 < n ∧ bt g (Q % 9) = false ∧ bt (pG j (Q / 9)) (Q % 9) = false)) := by
  unfold vl at h
  rw [Bool.and_eq_true] at h
  refine ⟨h.1, ?_⟩
  have h2 := h.2
  rw [b_or] at h2
  simp only [Bool.or_eq_true, Bool.and_eq_true, decide_eq_true_eq, Bool.not_eq_true', Bool.or_eq_false_iff] at h2
  exact h2
end WM
