/-! ===== PAIRED, to its end ===== -/
section PE2
variable {C : SV} {B : Nat → Int32} {i n c : Nat} {A : Nat → Int32} {M : SV}
theorem m_pair45 (h : CX C B n c) (hM : MX B i n c A M) {R : Nat} (hR : R ≤ 4) (eR : B 3 = nI R) {l : Nat} (hl : l < 4) (F F' : Nat → Bool) (p : Nat → Int32) (hp : PQ F p) (hF : ∀ m, m < 16 → (F' m = true ↔ F m = true ∨ ∃ r, r < R ∧ okE C l r ∧ m.testBit r = true ∧ F (clr m r) = true)) : ∃ p', (∀ k33, gfX10_paired_45 k33 FU (nI l) 15 (wR M 53 p) = k33 (nI (l + 1)) (wR M 53 p')) ∧ PQ F' p' := by
  have key := lpR (fun f (q : Int32 × SV) => fun (k33 : Int32 → SV → Option (Int32 × SV)) => gfX10_paired_45 k33 f (nI l) q.1 q.2) (fun j q => q.1 = (if j < 16 then nI (15 - j) else -1) ∧ ∃ p', q.2 = wR M 53 p' ∧ (∀ k, k < 16 - j → p' k = p k) ∧ ∀ k, 16 - j ≤ k → k < 16 → (F' k = true → p' k = nI (pcN k)) ∧ (F' k = false → rng (p' k) (-1000000) (-1000000 + (pcN k : Int)))) (fun b => ∃ p', (b = fun k33 => k33 (nI (l + 1)) (wR M 53 p')) ∧ PQ F' p') 16 ?_ ?_ (15, wR M 53 p) ⟨rfl, p, rfl, fun _ _ => rfl, fun k k1 k2 => by omega⟩ FU (by rw [FUn]; omega)
  · obtain ⟨p', k1, k2⟩ := key
    exact ⟨p', fun k33 => congrFun k1 k33, k2⟩
  · rintro j hj ⟨t, M1⟩ ⟨e1, p', e2, e3, e4⟩
    replace e1 : t = (if j < 16 then nI (15 - j) else -1) := e1
    replace e2 : M1 = wR M 53 p' := e2
    rw [if_pos hj] at e1
    subst e1 e2
    left
    obtain ⟨x, x1, x2, x3⟩ := m_pair_in h hM hR eR hl (show 15 - j < 16 by omega) F p hp p' (fun k hk => e3 k (by omega)) (e3 (15 - j) (by omega))
    have en : nI (15 - j) + -1 = (if j + 1 < 16 then nI (15 - (j + 1)) else -1) := by
      by_cases q : j + 1 < 16
      · rw [if_pos q, show 15 - j = (15 - (j + 1)) + 1 by omega, pk_m1]
      · rw [if_neg q, show 15 - j = 0 by omega]; decide
    refine ⟨(nI (15 - j) + -1, wR M 53 (upd p' (15 - j) x)), fun f => ?_, en, upd p' (15 - j) x, rfl, fun k hk => ?_, fun k k1 k2 => ?_⟩
    · funext k33
      show gbX10_paired_45 _ _ _ _ _ = _
      unfold gbX10_paired_45
      rw [if_neg (nI_pos (by omega))]
      exact x1 k33 (gfX10_paired_45 k33 f)
    · rw [pk_un (by omega)]; exact e3 k (by omega)
    · by_cases e : k = 15 - j
      · subst e
        rw [pk_us]
        refine ⟨fun u => x2 ((hF _ (by omega)).mp u), fun u => x3 (fun v => ?_)⟩
        rw [(hF _ (by omega)).mpr v] at u; cases u
      · rw [pk_un e]; exact e4 k (by omega) k2
  · rintro ⟨t, M1⟩ ⟨e1, p', e2, e3, e4⟩
    replace e1 : t = -1 := e1
    replace e2 : M1 = wR M 53 p' := e2
    subst e1 e2
    refine ⟨fun k33 => k33 (nI (l + 1)) (wR M 53 p'), fun f => ?_, p', rfl, fun m hm => e4 m (by omega) hm⟩
    funext k33
    show gbX10_paired_45 _ _ _ _ _ = _
    unfold gbX10_paired_45
    rw [if_pos (show (-1 : Int32) < 0 by decide), nmE, nI_succ]
theorem pair_end (s : Int32) (p : Nat → Int32) (hp : PQ (bt s) p) (C M : SV) : ∃ r, gfX1_mostPairs_29 C FU s 0 0 = some r ∧ gfX10_paired_167 FU 0 0 (wR M 53 p) = some (r, wR M 53 p) := by
  have key := lpT (fun f (q : Int32 × Int32) => gfX1_mostPairs_29 C f s q.1 q.2) (fun f (q : Int32 × Int32) => gfX10_paired_167 f q.1 q.2 (wR M 53 p)) (fun j a b => a = b ∧ a.2 = nI j ∧ ∃ v, v ≤ 4 ∧ a.1 = nI v) (fun x y => ∃ r, x = some r ∧ y = some (r, wR M 53 p)) 16 ?_ ?_ (0, 0) (0, 0) ⟨rfl, rfl, 0, by omega, rfl⟩ FU FU (by rw [FUn]; omega) (by rw [FUn]; omega)
  · exact key
  · rintro j hj ⟨x, t⟩ b ⟨rfl, e2, v, hv, e3⟩
    replace e2 : t = nI j := e2
    replace e3 : x = nI v := e3
    subst e2 e3
    left
    have p4 := pcN_4 j hj
    have hm : ∀ f, gfX10_paired_167 (f + 1) (nI v) (nI j) (wR M 53 p) = gfX10_paired_167 f (fX10_greater (nI v) (p j)) (nI (j + 1)) (wR M 53 p) := by
      intro f
      show gbX10_paired_167 _ _ _ _ = _
      unfold gbX10_paired_167
      rw [if_neg (show ¬ (16 : Int32) ≤ nI j from nI_ge (b := 16) hj (by omega)), wR_eq, rA_nI (by omega) (by omega), Option.bind_some, nmE, nmE, nI_succ]
    have hc : ∀ f, gfX1_mostPairs_29 C (f + 1) s (nI v) (nI j) = (if bt s j = false then gfX1_mostPairs_29 C f s (nI v) (nI (j + 1)) else gfX1_mostPairs_29 C f s (imax (nI v) (nI (pcN j))) (nI (j + 1))) := by
      intro f
      show gbX1_mostPairs_29 _ _ _ _ _ = _
      unfold gbX1_mostPairs_29
      rw [if_neg (show ¬ (16 : Int32) ≤ nI j from nI_ge (b := 16) hj (by omega)), bc_pc hj]
      simp only [c_has0 _ (show j < 32 by omega), nm, ← nI_succ]
    cases hb : bt s j
    · simp only [hb, if_true] at hc
      have hr := (hp j hj).2 hb
      have : p j ≤ nI v := by
        obtain ⟨a1, a2⟩ := hr
        rw [fa_le, nI_toInt (by omega)]; omega
      rw [gre_l this] at hm
      exact ⟨(nI v, nI (j + 1)), (nI v, nI (j + 1)), hc, hm, rfl, rfl, v, hv, rfl⟩
    · simp only [hb, Bool.true_eq_false, if_false] at hc
      rw [(hp j hj).1 hb, gre_nI (by omega) (by omega)] at hm
      rw [imax_g, gre_nI (by omega) (by omega)] at hc
      exact ⟨(nI (max v (pcN j)), nI (j + 1)), (nI (max v (pcN j)), nI (j + 1)), hc, hm, rfl, rfl, max v (pcN j), by omega, rfl⟩
  · rintro ⟨x, t⟩ b ⟨rfl, e2, v, hv, e3⟩
    replace e2 : t = nI 16 := e2
    subst e2
    exact ⟨some x, some (x, wR M 53 p), fun f => rfl, fun f => rfl, x, rfl, rfl⟩
theorem pair_both (h : CX C B n c) (hM : MX B i n c A M) : ∃ r M', gX1_mostPairs C = some r ∧ gX10_paired M = some (r, M') := by
  obtain ⟨P, L, R, hP, hL, hR, eP, eL, eR⟩ := h.cnt
  obtain ⟨⟨-, -, k10, k11, -, -⟩, -⟩ := h.cr
  rw [eL] at k10
  rw [eR] at k11
  -- the beginning
  have k0 := lpR (fun f (q : Int32 × SV) => gfX10_paired_2 f q.1 q.2) (fun j q => q.1 = nI j ∧ ∃ p, q.2 = wR M 53 p ∧ ∀ k, k < j → p k = if k = 0 then 0 else -1000000) (fun b => ∃ p, b = gfX10_paired_33 FU 0 (wR M 53 p) ∧ ∀ k, k < 16 → p k = if k = 0 then 0 else -1000000) 16 ?_ ?_ (0, M) ⟨rfl, M.2.1 53, by rw [wR_id], fun k hk => by omega⟩ FU (by rw [FUn]; omega)
  · obtain ⟨p0, q1, q2⟩ := k0
    replace q1 : gfX10_paired_2 FU 0 M = gfX10_paired_33 FU 0 (wR M 53 p0) := q1
    have b1 : ∀ m, m < 32 → bt 1 m = decide (m = 0) := by decide +kernel
    have hq0 : PQ (bt 1) p0 := by
      intro m hm
      rw [b1 m (by omega), q2 m hm]
      by_cases e : m = 0
      · subst e
        exact ⟨fun _ => by decide, fun u => by simp at u⟩
      · rw [if_neg e]
        have := pcN_4 m hm
        refine ⟨fun u => absurd (by simpa using u) e, fun _ => ⟨by decide, ?_⟩⟩
        show (-1000000 : Int) ≤ _
        omega
    unfold gX1_mostPairs gX10_paired
    rw [q1]
    have key := lpT (fun f (q : Int32 × Int32) => gfX1_mostPairs_4 C f q.1 q.2) (fun f (q : Int32 × SV) => gfX10_paired_33 f q.1 q.2) (fun l a b => a.2 = nI l ∧ b.1 = nI l ∧ sub 16 a.1 ∧ ∃ p, b.2 = wR M 53 p ∧ PQ (bt a.1) p) (fun x y => ∃ r M', x = some r ∧ y = some (r, M')) L ?_ ?_ (1, 0) (0, wR M 53 p0) ⟨rfl, rfl, fun k k1 k2 => by show bt 1 k = false; rw [b1 k k2]; simp; omega, p0, rfl, hq0⟩ FU FU (by rw [FUn]; omega) (by rw [FUn]; omega)
    · exact key
    · rintro l hl ⟨s, t⟩ ⟨t', M1⟩ ⟨e1, e2, e3, p, e4, e5⟩
      replace e1 : t = nI l := e1
      replace e2 : t' = nI l := e2
      replace e3 : sub 16 s := e3
      replace e4 : M1 = wR M 53 p := e4
      replace e5 : PQ (bt s) p := e5
      subst e1 e2 e4
      left
      obtain ⟨s', g1, g2, g3⟩ := c_more hR k11 s e3 (show l < 4 by omega)
      obtain ⟨p', w1, w2⟩ := m_pair45 h hM hR eR (show l < 4 by omega) (bt s) (bt s') p e5 g3
      have o2 : gX10_of 2 (wR M 53 p) = some (nI L) := by rw [← eL]; exact (hM.wr_ (k := 53) (by omega) p).of (j := 2) (by omega)
      refine ⟨(s', nI (l + 1)), (nI (l + 1), wR M 53 p'), fun f => ?_, fun f => ?_, rfl, rfl, g2, p', rfl, w2⟩
      · show gbX1_mostPairs_4 _ _ _ _ = _
        unfold gbX1_mostPairs_4
        rw [k10, if_neg (nI_ge hl (by omega)), g1, Option.bind_some, nmE, nI_succ]
      · show gbX10_paired_33 _ _ _ = _
        unfold gbX10_paired_33
        rw [o2, Option.bind_some, if_neg (nI_ge hl (by omega))]
        exact w1 _
    · rintro ⟨s, t⟩ ⟨t', M1⟩ ⟨e1, e2, e3, p, e4, e5⟩
      replace e1 : t = nI L := e1
      replace e2 : t' = nI L := e2
      replace e4 : M1 = wR M 53 p := e4
      replace e5 : PQ (bt s) p := e5
      subst e1 e2 e4
      have o2 : gX10_of 2 (wR M 53 p) = some (nI L) := by rw [← eL]; exact (hM.wr_ (k := 53) (by omega) p).of (j := 2) (by omega)
      obtain ⟨r, r1, r2⟩ := pair_end s p e5 C M
      refine ⟨some r, some (r, wR M 53 p), fun f => ?_, fun f => ?_, r, _, rfl, rfl⟩
      · show gbX1_mostPairs_4 _ _ _ _ = _
        unfold gbX1_mostPairs_4
        rw [k10, if_pos (nI_le (Nat.le_refl _) (by omega))]
        exact r1
      · show gbX10_paired_33 _ _ _ = _
        unfold gbX10_paired_33
        rw [o2, Option.bind_some, if_pos (nI_le (Nat.le_refl _) (by omega))]
        exact r2
  · rintro j hj ⟨t, M1⟩ ⟨e1, p, e2, e3⟩
    replace e1 : t = nI j := e1
    replace e2 : M1 = wR M 53 p := e2
    subst e1 e2
    left
    refine ⟨(nI (j + 1), wR M 53 (upd p j (if j = 0 then 0 else -1000000))), fun f => ?_, rfl, _, rfl, fun k hk => ?_⟩
    · show gbX10_paired_2 _ _ _ = _
      unfold gbX10_paired_2
      rw [if_neg (show ¬ (16 : Int32) ≤ nI j from nI_ge (b := 16) hj (by omega)), wA_nI (by omega) (by omega), wA_nI (by omega) (by omega), wR_eq, wR_wR, wR_wR, Option.bind_some, Option.bind_some, nmE, nmE, nI_succ]
      by_cases e : j = 0
      · rw [if_pos e, if_pos (show nI j = 0 by rw [e]; rfl)]
      · rw [if_neg e, if_neg (nI_ne0 (by omega) (by omega))]
    · by_cases e : k = j
      · subst e; rw [pk_us]
      · rw [pk_un e]; exact e3 k (by omega)
  · rintro ⟨t, M1⟩ ⟨e1, p, e2, e3⟩
    replace e1 : t = nI 16 := e1
    replace e2 : M1 = wR M 53 p := e2
    subst e1 e2
    refine ⟨gfX10_paired_33 FU 0 (wR M 53 p), fun f => ?_, p, rfl, e3⟩
    show gbX10_paired_2 _ _ _ = _
    unfold gbX10_paired_2
    rw [if_pos (show (16 : Int32) ≤ nI 16 by decide)]
end PE2
