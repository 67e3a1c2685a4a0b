/-! ===== keystone, drawn, after ===== -/
theorem qu_keystone (Wc : WC) : Qu_keystone Wc := by
  intro z M ρM hI a1 a2 ha2
  have hsk := hI.2.2.2.1
  obtain ⟨ρ, S, hS⟩ := hsk.2.2.2.1
  unfold fX9_keystone gX10_keystone
  rw [if_pos (x9_o hsk), x9_g (k := 0) (x := 16) hsk rfl]
  simp only [Option.bind_some, nm]
  rcases land_cases hI a1 with ⟨i, a, ρc, C, n, c, hi, rfl, h1, ha, hC, hx, hb⟩ | ⟨h1, hb⟩
  · obtain ⟨S', M', b1, b2_, b3, b4, b5, b6⟩ := hb (wI M 0 0) rfl rfl S
    have zb := z_begin hI hC ha hS b1
    have hn := hx.hn
    rw [h1, b2_, x9_g (k := 4) (x := 44) hsk rfl]
    simp only [Option.bind_some, nq, b2, show ¬ ((1 : Int32) = 0) by decide, if_false]
    rw [zb]
    simp only [Option.bind_some]
    have key := lpT (fun f (q : Int32 × Int32 × Int32) => fX9_keystone_33 f 0 a2 a q.1 q.2.1 q.2.2 (wr 5 44 (va_up ρ.1 0 (some a), ρ.2) S' z)) (fun f (q : Int32 × Int32 × Int32) => gfX10_keystone_24 f a2 q.1 q.2.1 q.2.2 M') (fun j s t => s = t ∧ s.2.2 = nI j) (fun x y => ∃ r, x = some (r, wr 5 44 (va_up ρ.1 0 (some a), ρ.2) S' z) ∧ y = some (r, M')) n ?_ ?_ (-1, -1, 0) (-1, -1, 0) ⟨rfl, rfl⟩ FU FU (by rw [FUn]; omega) (by rw [FUn]; omega)
    · obtain ⟨r, k1, k2⟩ := key
      replace k1 : fX9_keystone_33 FU 0 a2 a (-1) (-1) 0 (wr 5 44 (va_up ρ.1 0 (some a), ρ.2) S' z) = some (r, wr 5 44 (va_up ρ.1 0 (some a), ρ.2) S' z) := k1
      replace k2 : gfX10_keystone_24 FU a2 (-1) (-1) 0 M' = some (r, M') := k2
      rw [k1, k2]
      exact ⟨_, _, _, rfl, hI.scratch scr5 (by decide) _ _, rfl⟩
    · rintro j hj ⟨p, q, l⟩ t ⟨e1, e2⟩
      replace e2 : l = nI j := e2
      subst e1 e2
      left
      have nx : ∀ x : Int32, ∃ s' t' : Int32 × Int32 × Int32, (∀ f, bX9_keystone_70 (fX9_keystone_33 f) 0 a2 a p q (nI j) x (wr 5 44 (va_up ρ.1 0 (some a), ρ.2) S' z) = fX9_keystone_33 f 0 a2 a s'.1 s'.2.1 s'.2.2 (wr 5 44 (va_up ρ.1 0 (some a), ρ.2) S' z)) ∧ (∀ f, gbX10_keystone_66 (gfX10_keystone_24 f) a2 p q (nI j) x M' = gfX10_keystone_24 f a2 t'.1 t'.2.1 t'.2.2 M') ∧ s' = t' ∧ s'.2.2 = nI (j + 1) := by
        intro x
        unfold bX9_keystone_70 gbX10_keystone_66 gbX10_keystone_81
        simp only [nm, ← nI_succ]
        by_cases c1 : x ≤ q
        · simp only [if_pos c1, gre_l c1]
          exact ⟨(p, q, nI (j + 1)), (p, q, nI (j + 1)), fun f => rfl, fun f => rfl, rfl, rfl⟩
        · simp only [if_neg c1, gre_r c1]
          exact ⟨(nI j, x, nI (j + 1)), (nI j, x, nI (j + 1)), fun f => rfl, fun f => rfl, rfl, rfl⟩
      have hc0 : gI 0 0 (wr 5 44 (va_up ρ.1 0 (some a), ρ.2) S' z) a = some (nI n) := by rw [gI_rd (z_C hC ha _ _) (k := 0) rfl, hx.c0]
      rcases there_both hx b3 b5 (nI j) with ⟨t, ht, et, hbt, u1, u2⟩ | ⟨u1, u2, u3⟩
      · have : j = t := (nI_eq (by omega) (by omega)).mp et
        subst this
        obtain ⟨s', t', n1, n2, n3, n4⟩ := nx (nI (fa_cnt (bt (C.2.1 5 j &&& (S'.1 6 ^^^ (-1)))) 8))
        refine ⟨s', t', fun f => ?_, fun f => ?_, n3, n4⟩
        · show bX9_keystone_33 _ _ _ _ _ _ _ _ = _
          unfold bX9_keystone_33
          rw [hc0]
          simp only [Option.bind_some]
          rw [if_neg (nI_ge hj (by omega)), z_g hI]
          simp only [Option.bind_some]
          rw [eX6_isThere (z_S hI _ _) (z_C hC ha _ _) (z_land ρ a), u1, eX6_restingOn (z_S hI _ _) (z_C hC ha _ _) (z_land ρ a)]
          simp only [Option.bind_some, show ¬ ((1 : Int32) = 0) by decide, if_false]
          unfold gX6_restingOn
          rcases c_thing hx (nI j) with ⟨k, hk, -, e⟩ | ⟨q, -⟩
          · rw [e]
            simp only [Option.bind_some, show ¬ ((1 : Int32) = 0) by decide, if_false]
            rw [rA_nI (by omega) (by omega)]
            simp only [Option.bind_some]
            rw [bc_8 (fun m m1 m2 => ?_), n1 f]
            rw [b_and]
            cases hq : bt (C.2.1 5 j) m
            · rfl
            · have := hx.at.1 j (by omega) m m2 hq; omega
          · exact (out_in hj hn q).elim
        · show gbX10_keystone_24 _ _ _ _ _ _ = _
          unfold gbX10_keystone_24
          rw [b3.fm, if_neg (nI_ge hj (by omega)), b5.e6, if_pos ((m_has0 _ (by omega)).mpr hbt), rA_nI (by omega) (by omega), b3.2.2.2.2 j (by omega)]
          simp only [Option.bind_some, m_ones]
          exact n2 f
      · have hbk : bt (S'.1 6) j = true := by
          rcases u3 with u3 | ⟨t, ht, et, hbt⟩
          · exact (out_in hj hn u3).elim
          · rw [(nI_eq (by omega) (by omega)).mp et]; exact hbt
        obtain ⟨s', t', n1, n2, n3, n4⟩ := nx (-1)
        refine ⟨s', t', fun f => ?_, fun f => ?_, n3, n4⟩
        · show bX9_keystone_33 _ _ _ _ _ _ _ _ = _
          unfold bX9_keystone_33
          rw [hc0]
          simp only [Option.bind_some]
          rw [if_neg (nI_ge hj (by omega)), z_g hI]
          simp only [Option.bind_some]
          rw [eX6_isThere (z_S hI _ _) (z_C hC ha _ _) (z_land ρ a), u1]
          simp only [Option.bind_some, if_true]
          exact n1 f
        · show gbX10_keystone_24 _ _ _ _ _ _ = _
          unfold gbX10_keystone_24
          rw [b3.fm, if_neg (nI_ge hj (by omega)), b5.e6, if_neg (fun e => by rw [(m_has0 _ (by omega)).mp e] at hbk; cases hbk)]
          exact n2 f
    · rintro ⟨p, q, l⟩ t ⟨e1, e2⟩
      replace e2 : l = nI n := e2
      subst e1 e2
      have hc0 : gI 0 0 (wr 5 44 (va_up ρ.1 0 (some a), ρ.2) S' z) a = some (nI n) := by rw [gI_rd (z_C hC ha _ _) (k := 0) rfl, hx.c0]
      refine ⟨some (if a2 = 0 then p else q, wr 5 44 (va_up ρ.1 0 (some a), ρ.2) S' z), some (if a2 = 0 then p else q, M'), fun f => ?_, fun f => ?_, _, rfl, rfl⟩
      · show bX9_keystone_33 _ _ _ _ _ _ _ _ = _
        unfold bX9_keystone_33
        rw [hc0]
        simp only [Option.bind_some]
        rw [if_pos (nI_le (Nat.le_refl _) (by omega))]
        split <;> rfl
      · show gbX10_keystone_24 _ _ _ _ _ _ = _
        unfold gbX10_keystone_24
        rw [b3.fm, if_pos (nI_le (Nat.le_refl _) (by omega))]
        split <;> rfl
  · rw [h1, hb (wI M 0 0) rfl]
    simp only [Option.bind_some, nq, b2, if_true]
    exact ⟨_, _, _, rfl, hI, rfl⟩
/-! drawing -/
section DR
variable {C : SV} {B : Nat → Int32} {i n c : Nat} {A : Nat → Int32} {M S : SV}
theorem MX.wi (h : MX B i n c A M) {k : Nat} (hk : k ≠ 25 ∧ k ≠ 26 ∧ k ≠ 27) (x : Int32) : MX B i n c A (wI M k x) := by
  obtain ⟨⟨h1, h2⟩, h3, h4, h5, h6⟩ := h
  exact ⟨⟨h1, (wI_ne (by omega)).trans h2⟩, h3, (wI_ne (by omega)).trans h4, (wI_ne (by omega)).trans h5, h6⟩
theorem SR.mi (h : SR n A S M) {k : Nat} (hk : k ≠ 26 ∧ (k < 31 ∨ 38 ≤ k)) (x : Int32) : SR n A S (wI M k x) := by
  obtain ⟨⟨r1, r2, r3, r4⟩, ⟨q1, q2, q3, q4, q5, q6⟩, r5, r6⟩ := h
  exact ⟨⟨(wI_ne (by omega)).trans r1, r2, (wI_ne (by omega)).trans r3, r4⟩, ⟨(wI_ne (by omega)).trans q1, (wI_ne (by omega)).trans q2, (wI_ne (by omega)).trans q3, (wI_ne (by omega)).trans q4, (wI_ne (by omega)).trans q5, (wI_ne (by omega)).trans q6⟩, r5, r6⟩
theorem draw_both {q : Nat} (hq : 0 < q) (hq8 : q ≤ 8) (e : S.1 14 = M.1 52) : ∃ d x, d < q ∧ gX6_below C (nI q) S = some (nI d, wI S 14 x) ∧ gX10_draw (nI q) M = some (nI d, wI M 52 x) := by
  have hu : ∀ y : Int32, ∃ u, u < 65536 ∧ ush y 16 = nI u := by
    intro y
    obtain ⟨u, hu, eu⟩ := nI_bits (x := ush y 16) (w := 16) (by omega) (fun j h1 h2 => by
      show bt (ush y (nI 16)) j = false
      rw [b_ushS 16 (by omega)]; exact b_big (by omega))
    exact ⟨u, hu, eu⟩
  obtain ⟨u, hu1, eu⟩ := hu (M.1 52 * 1103515245 + 12345)
  have er : irem (nI u) (nI q) = nI (u % q) := pk_rem (d := q) (by omega) hq (by omega)
  refine ⟨u % q, M.1 52 * 1103515245 + 12345, Nat.mod_lt _ hq, ?_, ?_⟩
  · unfold gX6_below
    simp only [nm]
    rw [wI_eq, e, eu, er, if_neg (nI_nle hq (by omega)), if_pos (nI_ne0 hq (by omega))]
  · unfold gX10_draw
    simp only [nm]
    rw [wI_eq, eu, er, if_pos (nI_ne0 hq (by omega))]
/-- as FrS, the seed apart -/
def FrD (M M' : SV) : Prop := (∀ k, (k < 31 ∨ 38 ≤ k) → k ≠ 52 → M'.1 k = M.1 k) ∧ (∀ k, k ≠ 28 → k ≠ 29 → M'.2.1 k = M.2.1 k)
theorem FrS.d {M M' : SV} (h : FrS M M') : FrD M M' := ⟨fun k hk _ => h.1 k hk, h.2.1⟩
theorem FrD.rf {M : SV} : FrD M M := FrS.rf.d
theorem FrD.tr {M M1 M2 : SV} (h : FrD M M1) (h2 : FrD M1 M2) : FrD M M2 := ⟨fun k hk k5 => (h2.1 k hk k5).trans (h.1 k hk k5), fun k k1 k2 => (h2.2 k k1 k2).trans (h.2 k k1 k2)⟩
theorem FrD.w {M M' : SV} (h : FrD M M') (x : Int32) : FrD M (wI M' 52 x) := ⟨fun k hk k5 => (wI_ne k5).trans (h.1 k hk k5), h.2⟩
theorem MX.td (h : MX B i n c A M) {M' : SV} (hf : FrD M M') : MX B i n c A M' := by
  obtain ⟨⟨h1, h2⟩, h3, h4, h5, h6⟩ := h
  exact ⟨⟨h1, (hf.1 25 (by omega) (by omega)).trans h2⟩, fun j hj => by rw [hf.2 6 (by decide) (by decide)]; exact h3 j hj, (hf.1 26 (by omega) (by omega)).trans h4, (hf.1 27 (by omega) (by omega)).trans h5, fun t ht => by rw [hf.2 30 (by decide) (by decide)]; exact h6 t ht⟩
theorem deed_both (h : CX C B n c) (hM : MX B i n c (C.2.1 5) M) (hR : SR n (C.2.1 5) S M) (hh : rng (S.1 5) 0 99) (e : S.1 14 = M.1 52) : ∃ S' M', gX6_drawDeed C S = some S' ∧ gX10_drawDeed M = some M' ∧ SR n (C.2.1 5) S' M' ∧ FrD M M' ∧ rng (S'.1 5) 0 99 ∧ S'.1 14 = M'.1 52 := by
  have hn := h.hn
  have hc := h.hc
  have h10 : ¬ (1 : Int32) = 0 := by decide
  obtain ⟨d, x, hd, d1, d2⟩ := draw_both (C := C) (q := 8) (by omega) (by omega) e
  have R1 : SR n (C.2.1 5) (wI S 14 x) (wI M 52 x) := (hR.w7 (Or.inr (Or.inr rfl)) x).mi (by omega) x
  have M1 : MX B i n c (C.2.1 5) (wI M 52 x) := hM.wi (by omega) x
  have hh1 : rng ((wI S 14 x).1 5) 0 99 := by rw [wI_ne (by decide)]; exact hh
  have E1 : (wI S 14 x).1 14 = (wI M 52 x).1 52 := by rw [wI_eq, wI_eq]
  have F1 : FrD M (wI M 52 x) := FrD.rf.w x
  unfold gX6_drawDeed gX10_drawDeed
  rw [show (8 : Int32) = nI 8 from rfl, d1, d2]
  simp only [b2]
  have c4 : (4 < nI d) = (4 < d) := propext (nI_ltI (a := 4) (by omega) (by omega))
  have c2 : (nI d ≤ 2) = (d ≤ 2) := propext (nI_leI (b := 2) (by omega) (by omega))
  have c2' : (2 < nI d) = (2 < d) := propext (nI_ltI (a := 2) (by omega) (by omega))
  have c5 : (nI d = 5) = (d = 5) := propext (nI_eq (b := 5) (by omega) (by omega))
  have c5' : (5 ≤ nI d) = (5 ≤ d) := propext (nI_leI (a := 5) (by omega) (by omega))
  have c3 : (3 ≤ nI d) = (3 ≤ d) := propext (nI_leI (a := 3) (by omega) (by omega))
  have c44 : (nI d = 4) = (d = 4) := propext (nI_eq (b := 4) (by omega) (by omega))
  generalize wI S 14 x = S1 at R1 hh1 E1 ⊢
  generalize wI M 52 x = M1' at R1 M1 E1 F1 ⊢
  unfold gbX6_drawDeed_17 gbX6_drawDeed_28 gbX6_drawDeed_33 gbX6_drawDeed_48 gbX6_drawDeed_63 gbX6_drawDeed_82 gbX6_drawDeed_103 gbX6_drawDeed_143
  rw [h.c14, h.c0, M1.fm, M1.cp]
  simp only [c4, c2, c2', c5, c5', c3, c44, h10, if_false, if_true]
  have zc : (nI c = 0) = (c = 0) := propext (nI_eq (b := 0) (by omega) (by omega))
  have zn : (nI n = 0) = (n = 0) := propext (nI_eq (b := 0) (by omega) (by omega))
  have lc : (nI c ≤ 0) = (c = 0) := propext ((nI_leI (b := 0) (by omega) (by omega)).trans (by omega))
  have ln : (nI n ≤ 0) = (n = 0) := propext ((nI_leI (b := 0) (by omega) (by omega)).trans (by omega))
  simp only [zc, zn, lc, ln]
  have stay : ∃ S' M', some S1 = some S' ∧ some M1' = some M' ∧ SR n (C.2.1 5) S' M' ∧ FrD M M' ∧ rng (S'.1 5) 0 99 ∧ S'.1 14 = M'.1 52 := ⟨S1, M1', rfl, rfl, R1, F1, hh1, E1⟩
  by_cases k2 : d ≤ 2
  · simp only [show ¬ 4 < d by omega, k2, show ¬ 2 < d by omega, show ¬ 3 ≤ d by omega, if_true, if_false, h10]
    by_cases q1 : c = 0
    · simp only [q1, if_true]; exact stay
    by_cases q2 : n = 0
    · simp only [if_neg q1, if_pos q2]; exact stay
    simp only [if_neg q1, if_neg q2]
    obtain ⟨da, xa, ha, a1, a2⟩ := draw_both (C := C) (q := c) (by omega) (by omega) E1
    rw [a1, a2]
    simp only [b2]
    have R2 : SR n (C.2.1 5) (wI S1 14 xa) (wI M1' 52 xa) := (R1.w7 (Or.inr (Or.inr rfl)) xa).mi (by omega) xa
    have E2 : (wI S1 14 xa).1 14 = (wI M1' 52 xa).1 52 := by rw [wI_eq, wI_eq]
    rw [show (wI M1' 52 xa).1 26 = nI n from (M1.wi (k := 52) (by omega) xa).fm]
    obtain ⟨db, xb, hb, b1, b2_⟩ := draw_both (C := C) (q := n) (by omega) (by omega) E2
    rw [b1, b2_]
    simp only [b2]
    have R3 : SR n (C.2.1 5) (wI (wI S1 14 xa) 14 xb) (wI (wI M1' 52 xa) 52 xb) := (R2.w7 (Or.inr (Or.inr rfl)) xb).mi (by omega) xb
    obtain ⟨r, S', M', l1, l2, ⟨l3, l4, l5, l6⟩, l7⟩ := look_both h ((M1.wi (k := 52) (by omega) xa).wi (k := 52) (by omega) xb) R3 (nI da) (nI db)
    have hr : r = 0 ∨ r = 1 := by rcases l7 with ⟨q, -⟩ | ⟨q, -⟩ <;> simp [q]
    unfold gX6_act
    rw [if_pos rfl, l1, l2]
    simp only [b2]
    rw [if_pos hr]
    refine ⟨S', M', rfl, rfl, l3, ((F1.w xa).w xb).tr l4.d, l6 ?_, ?_⟩
    · rw [wI_ne (by decide), wI_ne (by decide)]; exact hh1
    · rw [l5.2.2, l4.i (by omega), wI_eq, wI_eq]
  by_cases k34 : d ≤ 4
  · simp only [show ¬ 4 < d by omega, k2, show 2 < d by omega, show 3 ≤ d by omega, show ¬ 5 ≤ d by omega, show ¬ d = 5 by omega, if_true, if_false, h10]
    by_cases q1 : c = 0
    · simp only [q1, if_true]; exact stay
    simp only [q1, if_false]
    obtain ⟨da, xa, ha, a1, a2⟩ := draw_both (C := C) (q := c) (by omega) (by omega) E1
    rw [a1, a2]
    simp only [b2]
    have R2 : SR n (C.2.1 5) (wI S1 14 xa) (wI M1' 52 xa) := (R1.w7 (Or.inr (Or.inr rfl)) xa).mi (by omega) xa
    obtain ⟨⟨r, S', M', t1, t2, ⟨t3, t4, t5, t6⟩, t7, -⟩, ⟨r', S'', M'', t1', t2', ⟨t3', t4', t5', t6'⟩, t7', -⟩⟩ := turn_both h (M1.wi (k := 52) (by omega) xa) R2 (nI da)
    unfold gX6_act gbX10_drawDeed_83
    by_cases q3 : d = 3
    · subst q3
      rw [show imin (nI 3) 6 - 2 = 1 by decide, if_neg (show ¬ (1 : Int32) = 0 by decide), if_pos rfl, t1]
      simp only [show ¬ (3 = 4) by omega, if_false, t2, b2]
      rw [if_pos t7]
      refine ⟨S', M', rfl, rfl, t3, (F1.w xa).tr t4.d, t6 ?_, ?_⟩
      · rw [wI_ne (by decide)]; exact hh1
      · rw [t5.2.2, t4.i (by omega), wI_eq, wI_eq]
    · have q4 : d = 4 := by omega
      subst q4
      rw [show imin (nI 4) 6 - 2 = 2 by decide, if_neg (show ¬ (2 : Int32) = 0 by decide), if_neg (show ¬ (2 : Int32) = 1 by decide), if_pos rfl, t1']
      simp only [if_true, t2', b2]
      rw [if_pos t7']
      refine ⟨S'', M'', rfl, rfl, t3', (F1.w xa).tr t4'.d, t6' ?_, ?_⟩
      · rw [wI_ne (by decide)]; exact hh1
      · rw [t5'.2.2, t4'.i (by omega), wI_eq, wI_eq]
  by_cases k5 : d = 5
  · subst k5
    simp only [show 4 < 5 by omega, show ¬ 5 ≤ 2 by omega, show 2 < 5 by omega, show 3 ≤ 5 by omega, if_true, if_false, h10]
    by_cases q2 : n = 0
    · simp only [if_pos q2]; exact stay
    simp only [if_neg q2]
    obtain ⟨db, xb, hb, b1, b2_⟩ := draw_both (C := C) (q := n) (by omega) (by omega) E1
    simp only [Nat.le_refl, if_true]
    rw [b1, b2_]
    simp only [b2]
    have R2 : SR n (C.2.1 5) (wI S1 14 xb) (wI M1' 52 xb) := (R1.w7 (Or.inr (Or.inr rfl)) xb).mi (by omega) xb
    obtain ⟨r, S', M', t1, t2, ⟨t3, t4, t5, t6⟩, t7, -⟩ := forge_both h (M1.wi (k := 52) (by omega) xb) R2 (nI db)
    unfold gX6_act
    rw [show imin (nI 5) 6 - 2 = 3 by decide, if_neg (show ¬ (3 : Int32) = 0 by decide), if_neg (show ¬ (3 : Int32) = 1 by decide), if_neg (show ¬ (3 : Int32) = 2 by decide), if_pos rfl, t1, t2]
    simp only [b2]
    rw [if_pos t7]
    refine ⟨S', M', rfl, rfl, t3, (F1.w xb).tr t4.d, t6 ?_, ?_⟩
    · rw [wI_ne (by decide)]; exact hh1
    · rw [t5.2.2, t4.i (by omega), wI_eq, wI_eq]
  · simp only [show 4 < d by omega, k2, show 2 < d by omega, show 3 ≤ d by omega, show 5 ≤ d by omega, k5, if_true, if_false, h10]
    have e6 : imin (nI d) 6 - 2 = 4 := by
      have : d = 6 ∨ d = 7 := by omega
      rcases this with rfl | rfl <;> decide
    rw [e6]
    obtain ⟨r, S', M', t1, t2, ⟨t3, t4, t5, t6⟩, t7, -⟩ := act_both h M1 R1 hh1 4 (-1) (-1)
    rw [t1, t2]
    exact ⟨S', M', rfl, rfl, t3, F1.tr t4.d, t6 hh1, by rw [t5.2.2, t4.i (by omega)]; exact E1⟩
end DR
theorem qu_drawn (Wc : WC) : Qu_drawn Wc := by
  intro z M ρM hI a1 a2 a3 a4
  have hsk := hI.2.2.2.1
  obtain ⟨ρ, S, hS⟩ := hsk.2.2.2.1
  unfold fX9_drawn gX10_drawn
  rw [if_pos (x9_o hsk), x9_g (k := 0) (x := 16) hsk rfl]
  simp only [Option.bind_some, nm]
  have t60 : (60 : Int32).toInt = 60 := rfl
  rcases land_cases hI a1 with ⟨i, a, ρc, C, n, c, hi, rfl, h1, ha, hC, hx, hb⟩ | ⟨h1, hb⟩
  · obtain ⟨S', M', b1, b2_, b3, b4, b5, b6⟩ := hb (wI M 0 0) rfl rfl S
    have zb := z_begin hI hC ha hS b1
    have hz := z_z hI
    rw [h1, b2_]
    simp only [Option.bind_some, nq, b2, show ¬ ((1 : Int32) = 0) by decide, if_false]
    by_cases c1 : a3 < 0
    · have c2 : fX10_in a3 0 60 = 0 := m_in1 (by rw [fa_lt, t0] at c1; rw [t0]; omega)
      rw [if_pos c1, if_pos c2]
      exact ⟨_, _, _, rfl, hI, rfl⟩
    rw [if_neg c1]
    by_cases c3 : a3 ≤ 60
    · obtain ⟨k, hk, rfl⟩ := nI_of2 (n := 60) t60 c1 c3
      have c2 : ¬ fX10_in (nI k) 0 60 = 0 := m_in0 (by rw [t0, t60, nI_toInt (by omega)]; omega)
      rw [if_pos c3, if_neg c2, x9_g (k := 4) (x := 44) hsk rfl]
      simp only [Option.bind_some]
      rw [zb]
      simp only [Option.bind_some, z_g hI]
      rw [pF_int (c := 5) hz rfl]
      simp only [Option.bind_some]
      have key := lpT (fun f (q : Int32 × SV) => fX9_drawn_48 f 0 (nI k) a4 q.1 (wr 5 44 (va_up ρ.1 0 (some a), ρ.2) q.2 z)) (fun f (q : Int32 × SV) => gfX10_drawn_34 f (nI k) a4 q.1 q.2) (fun j s t => s.1 = nI j ∧ t.1 = nI j ∧ SR n (C.2.1 5) s.2 t.2 ∧ FrD M' t.2 ∧ rng (s.2.1 5) 0 99 ∧ s.2.1 14 = t.2.1 52) (fun x y => ∃ r S2 M2, x = some (r, wr 5 44 (va_up ρ.1 0 (some a), ρ.2) S2 z) ∧ y = some (r, M2)) k ?_ ?_ (0, wI S' 14 a2) (0, wI M' 52 a2) ⟨rfl, rfl, (b5.w7 (Or.inr (Or.inr rfl)) a2).mi (by omega) a2, FrD.rf.w a2, by show rng ((wI S' 14 a2).1 5) 0 99; rw [wI_ne (by decide)]; exact b6.h5, by show (wI S' 14 a2).1 14 = (wI M' 52 a2).1 52; rw [wI_eq, wI_eq]⟩ FU FU (by rw [FUn]; omega) (by rw [FUn]; omega)
      · obtain ⟨r, S2, M2, k1, k2⟩ := key
        replace k1 : fX9_drawn_48 FU 0 (nI k) a4 0 (wr 5 44 (va_up ρ.1 0 (some a), ρ.2) (wI S' 14 a2) z) = some (r, wr 5 44 (va_up ρ.1 0 (some a), ρ.2) S2 z) := k1
        replace k2 : gfX10_drawn_34 FU (nI k) a4 0 (wI M' 52 a2) = some (r, M2) := k2
        rw [k1, k2]
        exact ⟨_, _, _, rfl, hI.scratch scr5 (by decide) _ _, rfl⟩
      · rintro j hj ⟨l, S1⟩ ⟨l', M1⟩ ⟨e1, e2, e3, e4, e5, e6⟩
        replace e1 : l = nI j := e1
        replace e2 : l' = nI j := e2
        replace e3 : SR n (C.2.1 5) S1 M1 := e3
        replace e4 : FrD M' M1 := e4
        subst e1 e2
        left
        obtain ⟨S2, M2, p1, p2, p3, p4, p5, p6⟩ := deed_both hx (b3.td e4) e3 e5 e6
        refine ⟨(nI (j + 1), S2), (nI (j + 1), M2), fun f => ?_, fun f => ?_, rfl, rfl, p3, e4.tr p4, p5, p6⟩
        · show bX9_drawn_48 _ _ _ _ _ _ = _
          unfold bX9_drawn_48
          rw [if_neg (nI_ge hj (by omega)), z_g hI]
          simp only [Option.bind_some]
          rw [eX6_drawDeed hz hC (z_d ha) (z_land ρ a), p1]
          simp only [Option.map_some, Option.bind_some, nm, ← nI_succ]
        · show gbX10_drawn_34 _ _ _ _ _ = _
          unfold gbX10_drawn_34
          rw [if_neg (nI_ge hj (by omega)), p2]
          simp only [Option.bind_some, nm, ← nI_succ]
      · rintro ⟨l, S1⟩ ⟨l', M1⟩ ⟨e1, e2, e3, e4, e5, e6⟩
        replace e1 : l = nI k := e1
        replace e2 : l' = nI k := e2
        replace e3 : SR n (C.2.1 5) S1 M1 := e3
        replace e4 : FrD M' M1 := e4
        subst e1 e2
        obtain ⟨r, u1, u2⟩ := state_both hx (b3.td e4) e3 a4
        refine ⟨some (r, wr 5 44 (va_up ρ.1 0 (some a), ρ.2) S1 z), some (r, M1), fun f => ?_, fun f => ?_, r, S1, M1, rfl, rfl⟩
        · show bX9_drawn_48 _ _ _ _ _ _ = _
          unfold bX9_drawn_48
          rw [if_pos (nI_le (Nat.le_refl _) (by omega)), z_g hI]
          simp only [Option.bind_some]
          rw [eX6_answer (z_S hI _ _) (z_C hC ha _ _) (z_land ρ a), u1]; rfl
        · show gbX10_drawn_34 _ _ _ _ _ = _
          unfold gbX10_drawn_34
          rw [if_pos (nI_le (Nat.le_refl _) (by omega)), u2]; rfl
    · have c2 : fX10_in a3 0 60 = 0 := m_in1 (by rw [fa_le, t60] at c3; rw [t60]; omega)
      rw [if_neg c3, if_pos c2]
      exact ⟨_, _, _, rfl, hI, rfl⟩
  · rw [h1, hb (wI M 0 0) rfl]
    simp only [Option.bind_some, nq, b2, if_true, ite_self]
    exact ⟨_, _, _, rfl, hI, rfl⟩
