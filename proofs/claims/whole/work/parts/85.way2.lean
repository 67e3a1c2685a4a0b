/-! ===== way ===== -/
section SB
variable {C : SV} {B : Nat → Int32} {i n c : Nat} {M S : SV}
theorem c_sure20 (C S : SV) {a : Nat} (l2 : Int32) : ∃ f, gfX6_surest_20 C FU (nI a) l2 0 S = gfX6_surest_58 C FU l2 0 (wR S 4 f) ∧ (a < 2 ^ 31 → ∀ t, t < 8 → f t = if t = a then S.2.1 1 t else 0) := by
  have key := lpR (fun f (q : Int32 × SV) => gfX6_surest_20 C f (nI a) l2 q.1 q.2) (fun j q => q.1 = nI j ∧ ∃ f, q.2 = wR S 4 f ∧ (a < 2 ^ 31 → ∀ t, t < j → f t = if t = a then S.2.1 1 t else 0)) (fun b => ∃ f, b = gfX6_surest_58 C FU l2 0 (wR S 4 f) ∧ (a < 2 ^ 31 → ∀ t, t < 8 → f t = if t = a then S.2.1 1 t else 0)) 8 ?_ ?_ (0, S) ⟨rfl, S.2.1 4, by rw [wR_id], fun _ t ht => by omega⟩ FU (by rw [FUn]; omega)
  · exact key
  · rintro j hj ⟨l, S1⟩ ⟨e1, f, e2, e3⟩
    replace e1 : l = nI j := e1
    replace e2 : S1 = wR S 4 f := e2
    subst e1 e2
    left
    refine ⟨(nI (j + 1), wR S 4 (upd f j (if nI j = nI a then S.2.1 1 j else 0))), fun ff => ?_, rfl, _, rfl, fun ha t ht => ?_⟩
    · show gbX6_surest_20 _ _ _ _ _ _ = _
      unfold gbX6_surest_20
      rw [if_neg (show ¬ Int32.ofNat 8 ≤ nI j from nI_ge (b := 8) hj (by omega)), wR_ne (by decide), rA_nI (by omega) (by omega)]
      simp only [Option.bind_some]
      rw [wA_nI (by omega) (by omega), wA_nI (by omega) (by omega), wR_eq, wR_wR, wR_wR]
      simp only [Option.bind_some, nm, ← nI_succ]
      by_cases q : nI j = nI a
      · rw [if_pos q, if_pos q]
      · rw [if_neg q, if_neg q]
    · by_cases e : t = j
      · subst e
        rw [pk_us]
        by_cases q : t = a
        · rw [if_pos q, if_pos (by rw [q])]
        · rw [if_neg q, if_neg (fun e => q ((nI_eq (by omega) ha).mp e))]
      · rw [pk_un e]; exact e3 ha t (by omega)
  · rintro ⟨l, S1⟩ ⟨e1, f, e2, e3⟩
    replace e1 : l = nI 8 := e1
    replace e2 : S1 = wR S 4 f := e2
    subst e1 e2
    refine ⟨gfX6_surest_58 C FU l2 0 (wR S 4 f), fun ff => ?_, f, rfl, e3⟩
    show gbX6_surest_20 _ _ _ _ _ _ = _
    unfold gbX6_surest_20
    rw [if_pos (show Int32.ofNat 8 ≤ nI 8 by decide)]
theorem cl_zero (B : Nat → Int32) (n : Nat) (am : Int32) : ∀ k, clP B n am 0 k = 0
  | 0 => rfl
  | k + 1 => by
    show nxP B n (clP B n am 0 k) &&& am = 0
    rw [cl_zero B n am k, (nx_step B n 0).zero, eq0_bt]
    intro j hj; rw [b_and, b_0]; rfl
theorem sure_both (h : CX C B n c) (hM : MX B i n c (C.2.1 5) M) (hR : SR n (C.2.1 5) S M) {a b : Nat} (ha : a < n) (hb : b < n) : ∃ r S', gX6_surest C (nI a) (nI b) S = some (r, S') ∧ gX10_sureBy (nI a) (nI b) M = some r := by
  have hn := h.hn
  unfold gX6_surest
  rcases there_both h hM hR (nI a) with ⟨t, ht, et, hbt, u1, -⟩ | ⟨u1, -, u3⟩
  · have : a = t := (nI_eq (by omega) (by omega)).mp et
    subst this
    rw [u1]
    simp only [Option.bind_some, show ¬ ((1 : Int32) = 0) by decide, if_false]
    rcases there_both h hM hR (nI b) with ⟨t2, ht2, et2, hbt2, w1, -⟩ | ⟨w1, -, w3⟩
    · rw [w1]
      simp only [Option.bind_some, show ¬ ((1 : Int32) = 0) by decide, if_false]
      obtain ⟨f, f1, f2⟩ := c_sure20 C S (a := a) (nI b)
      replace f2 := f2 (by omega)
      have amA : ∀ v : Nat, v < 2 ^ 31 → ∀ t, t < n → (bt (shl 1 (nI a) &&& amP (S.2.1 1) (S.1 6) n v) t = true ↔ t = a ∧ (v : Int) ≤ (S.2.1 1 a).toInt) := by
        intro v hv t ht
        rw [b_and, b_1shl (by omega) (by omega), am_bt hn _ _ _ (by omega)]
        simp only [Bool.and_eq_true, decide_eq_true_eq, Bool.not_eq_true']
        constructor
        · rintro ⟨e, -, -, q⟩
          subst e
          rw [fa_le, nI_toInt hv] at q
          exact ⟨rfl, q⟩
        · rintro ⟨e, q⟩
          subst e
          exact ⟨rfl, ht, hbt, by rw [fa_le, nI_toInt hv]; exact q⟩
      have hw : WS B n a ((wR S 4 f).2.1 1) (S.1 6) ((wR S 4 f).2.1 4) := by
        refine ⟨fun t ht => ?_, fun v v1 v2 t ht q => ?_⟩
        · rw [wR_eq, f2 t ht]
          split
          · exact (hR.rg t (by omega)).1
          · exact ⟨by rw [t0]; omega, by rw [t0]; omega⟩
        · rw [wR_eq, f2 t (by omega)] at q
          by_cases e : t = a
          · rw [if_pos e] at q
            rw [wR_ne (by decide)]
            have := cl_ups (B := B) (n := n) (am_le a (amP (S.2.1 1) (S.1 6) n v)) 0 8 t (by omega) ((amA v (by omega) t ht).mpr ⟨e, by rw [← e]; exact q⟩)
            exact this
          · rw [if_neg e, t0] at q; omega
      obtain ⟨w, f', hw9, g1, g2⟩ := c_sure58 (S := wR S 4 f) (g := S.1 6) (a := a) h rfl hb (fun t ht => (hR.rg t ht).1) hw (fun v v1 v2 t ht q => by
        have q' : bt (shl 1 (nI a) &&& amP (S.2.1 1) (S.1 6) n v) t = true := q
        obtain ⟨e, q2⟩ := (amA v (by omega) t ht).mp q'
        rw [wR_eq, f2 t (by omega), if_pos e, e]; exact q2)
      rw [f1, g1]
      exact ⟨_, _, rfl, m_sure h hM hR ha hb hw9 g2⟩
    · rw [w1]
      simp only [Option.bind_some, if_true]
      refine ⟨-1, S, rfl, ?_⟩
      have hbb : bt (S.1 6) b = true := by
        rcases w3 with w3 | ⟨t, ht, et, hbt⟩
        · exact (out_in hb hn w3).elim
        · rw [(nI_eq (by omega) (by omega)).mp et]; exact hbt
      have := m_sure h hM hR ha hb (w := 0) (by omega) (fun v v1 v2 => ⟨fun q => ?_, fun q => by omega⟩)
      · exact this
      · have := cl_in (B := B) (n := n) (am_le a (amP (S.2.1 1) (S.1 6) n v)) 8 b (by omega) q
        rw [am_bt hn _ _ _ (by omega), hbb] at this
        simp at this
  · rw [u1]
    simp only [Option.bind_some, if_true]
    refine ⟨-1, S, rfl, ?_⟩
    have hba : bt (S.1 6) a = true := by
      rcases u3 with u3 | ⟨t, ht, et, hbt⟩
      · exact (out_in ha hn u3).elim
      · rw [(nI_eq (by omega) (by omega)).mp et]; exact hbt
    have := m_sure h hM hR ha hb (w := 0) (by omega) (fun v v1 v2 => ⟨fun q => ?_, fun q => by omega⟩)
    · exact this
    · have z : shl 1 (nI a) &&& amP (S.2.1 1) (S.1 6) n v = 0 := by
        rw [eq0_bt]
        intro k hk
        rw [b_and, b_1shl (by omega) hk, am_bt hn _ _ _ hk]
        by_cases e : k = a
        · rw [e, hba]; simp
        · simp [e]
      rw [z, cl_zero, b_0] at q; cases q
end SB
theorem qu_way (Wc : WC) : Qu_way Wc := by
  intro z M ρM hI a1 a2 a3 a4 ha4
  have hsk := hI.2.2.2.1
  obtain ⟨ρ, S, hS⟩ := hsk.2.2.2.1
  unfold fX9_way gX10_way
  rw [if_pos (x9_o hsk), x9_g (k := 0) (x := 16) hsk rfl]
  simp only [Option.bind_some, nm]
  rcases land_cases hI a1 with ⟨i, a, ρc, C, n, c, hi, rfl, h1, ha, hC, hx, hb⟩ | ⟨h1, hb⟩
  · obtain ⟨S', M', b1, b2_, b3, b4, b5, b6⟩ := hb (wI M 0 0) rfl rfl S
    have zb := z_begin hI hC ha hS b1
    have hz := z_z hI
    rw [h1, b2_]
    simp only [Option.bind_some, nq, b2, show ¬ ((1 : Int32) = 0) by decide, if_false, eX0_hasThing hC]
    rcases thing_both hx b3 a2 with ⟨k1, hk1, rfl, e1, e2⟩ | ⟨-, e1, e2⟩
    · rw [e1, e2]
      simp only [Option.bind_some, show ¬ ((1 : Int32) = 0) by decide, if_false]
      rcases thing_both hx b3 a3 with ⟨k2, hk2, rfl, e3, e4⟩ | ⟨-, e3, e4⟩
      · rw [e3, e4, x9_g (k := 4) (x := 44) hsk rfl]
        simp only [Option.bind_some, show ¬ ((1 : Int32) = 0) by decide, if_false]
        rw [zb]
        simp only [Option.bind_some, z_g hI]
        rcases ha4 with rfl | rfl
        · rw [if_pos rfl, if_pos rfl]
          obtain ⟨r, S2, M2, q1, q2⟩ := way_both hx b3 b5 b6.2.2.1.1 hk1 hk2
          rw [eX6_fewestHours hz hC (z_d ha) (z_land ρ a), q1, q2]
          exact ⟨_, _, _, rfl, hI.scratch scr5 (by decide) _ _, rfl⟩
        · rw [if_neg (show ¬ (1 : Int32) = 0 by decide), if_neg (show ¬ (1 : Int32) = 0 by decide)]
          obtain ⟨r, S2, q1, q2⟩ := sure_both hx b3 b5 hk1 hk2
          rw [eX6_surest hz hC (z_d ha) (z_land ρ a), q1, q2]
          exact ⟨_, _, _, rfl, hI.scratch scr5 (by decide) _ _, rfl⟩
      · rw [e3, e4]
        simp only [Option.bind_some, if_true]
        exact ⟨_, _, _, rfl, hI, rfl⟩
    · rw [e1, e2]
      simp only [Option.bind_some, if_true]
      exact ⟨_, _, _, rfl, hI, rfl⟩
  · rw [h1, hb (wI M 0 0) rfl]
    simp only [Option.bind_some, nq, b2, if_true]
    exact ⟨_, _, _, rfl, hI, rfl⟩
