/-! ===== text: the end of it, told or not ===== -/
theorem text_fin {Wc : WC} {z z1 : AH} {M M' : SV} {ρM : RV} (h : InvM Wc z M ρM) (hl : z.length ≤ z1.length) (hs : ∀ i, i < z.length → ¬ (16 ≤ i ∧ i < 21) → ¬ (38 ≤ i ∧ i < 44) → z1[i]? = z[i]?) (hT : ∃ S ρ, RD 6 16 ρ S z1 ∧ TR 0 S ρ M' z1) (ho : ∀ s, 1 ≤ s → s < 4 → SE s M s M') (hk : M'.2.1 55 = M.2.1 55) (h38 : ∃ ρ S, RD 3 38 ρ S z1) : (RD 9 89 ρM M z1 ∧ 113 ≤ z1.length) ∧ InvM Wc (wr 9 89 ρM M' z1) M' ρM := by
  have h1 := h.1
  refine h.move hl (fun i hi hn => hs i hi (by omega) (by omega)) (hs 21 (by omega) (by omega) (by omega)) (fun s hs4 => ?_) ?_ h38
  · by_cases h0 : s = 0
    · subst h0; exact hT
    · obtain ⟨S, ρ, g1, g2⟩ := h.2.2.1 s hs4
      have ht : tAd s = 17 + 5 * s := by unfold tAd; rw [if_neg h0]
      refine ⟨S, ρ, g1.same (fun i i1 i2 => hs i (by rw [s6] at i2; omega) (by omega) (by rw [s6] at i2; omega)), g2.mv (ho s (by omega) hs4) (VE.rf _ _) (fun i hi hi2 => hs i hi2 (by omega) (by omega)) (fun ht => by unfold tkn at *; rw [← hk]; exact ht)⟩
  · obtain ⟨f, g1, g2⟩ := h.2.2.2.2.1
    exact ⟨f, by rw [hs 37 (by omega) (by omega) (by omega)]; exact g1, fun k hk2 => by rw [hk]; exact g2 k hk2⟩
theorem g8 {y : AH} (h : y[0]? = some (.inr (.inr (8, [.ref 16, .ref 21, .ref 37, .ref 38, .ref 44, .ref 49, .ref 83, .ref 87])))) : gN 8 0 y 0 = some 16 ∧ gN 8 3 y 0 = some 38 := by
  constructor
  · unfold gN oF; rw [h]; rfl
  · unfold gN oF; rw [h]; rfl
theorem c_141 {y : AH} {ρ1 ρ : RV} {S1 S : SV} (h0 : y[0]? = some (.inr (.inr (8, [.ref 16, .ref 21, .ref 37, .ref 38, .ref 44, .ref 49, .ref 83, .ref 87])))) (h16 : RD 6 16 ρ1 S1 y) (h38 : RD 3 38 ρ S y) (hl : 113 ≤ y.length) (l4 : Int32) : bX9_text_141 0 l4 y = some (if S.1 13 = 0 then l4 else -1, wr 6 16 ρ1 (wI (wI S1 2 (S.1 13)) 3 (S.1 14)) y) := by
  have hz : 16 + szV 6 ≤ y.length := by rw [s6]; omega
  have k0 : ∀ (S' : SV), (wr 6 16 ρ1 S' y)[0]? = some (.inr (.inr (8, [.ref 16, .ref 21, .ref 37, .ref 38, .ref 44, .ref 49, .ref 83, .ref 87]))) := fun S' => by rw [wr_out (Or.inl (by omega))]; exact h0
  have k38 : ∀ (S' : SV), RD 3 38 ρ S (wr 6 16 ρ1 S' y) := fun S' => h38.far (Or.inr (by rw [s6]; omega))
  have p2 : pF 6 2 y 16 (.int (S.1 13)) = some (wr 6 16 ρ1 (wI S1 2 (S.1 13)) y) := by
    have := pF_int (ρ := ρ1) (S := S1) hz (k := 2) rfl (S.1 13)
    rw [wr_id h16] at this; exact this
  unfold bX9_text_141
  rw [(g8 h0).1, (g8 h0).2]
  simp only [Option.bind_some]
  rw [gI_rd h38 (k := 13) rfl]
  simp only [Option.bind_some]
  rw [p2]
  simp only [Option.bind_some]
  rw [(g8 (k0 _)).1, (g8 (k0 _)).2]
  simp only [Option.bind_some]
  rw [gI_rd (k38 _) (k := 14) rfl]
  simp only [Option.bind_some]
  rw [pF_int hz rfl]
  simp only [Option.bind_some]
  rw [(g8 (k0 _)).2]
  simp only [Option.bind_some]
  rw [gI_rd (k38 _) (k := 13) rfl]
  simp only [Option.bind_some]
  by_cases c : S.1 13 = 0
  · rw [if_pos c, if_pos c]
  · rw [if_neg c, if_neg c]
/-- the reference stores -/
theorem m_store {M : SV} {a w sl : Nat} (hw : w ≤ 121) (hsl : sl < 2) (hL : w * sl + w ≤ aLen 9 a) (h31 : aLen 9 a < 2 ^ 31) (ha : a ≠ 19) : ∃ f, gX10_store a (nI w) (nI sl) M = some (wR M a f) ∧ ∀ j, f j = if w * sl ≤ j ∧ j < w * sl + w then M.2.1 19 (j - w * sl) else M.2.1 a j := by
  have key := lpR (fun u (q : Int32 × SV) => gfX10_store_3 u a (nI w) (nI sl) q.1 q.2) (fun i q => q.1 = nI i ∧ ∃ f, q.2 = wR M a f ∧ ∀ j, f j = if w * sl ≤ j ∧ j < w * sl + i then M.2.1 19 (j - w * sl) else M.2.1 a j) (fun b => ∃ f, b = some (wR M a f) ∧ ∀ j, f j = if w * sl ≤ j ∧ j < w * sl + w then M.2.1 19 (j - w * sl) else M.2.1 a j) w ?_ ?_ (0, M) ⟨rfl, M.2.1 a, wR_id.symm, fun j => by rw [if_neg (by omega)]⟩ FU (by rw [FUn]; omega)
  · exact key
  · rintro i hi ⟨l, M1⟩ ⟨e1, f, e2, e3⟩
    replace e1 : l = nI i := e1
    replace e2 : M1 = wR M a f := e2
    replace e3 : ∀ j, f j = if w * sl ≤ j ∧ j < w * sl + i then M.2.1 19 (j - w * sl) else M.2.1 a j := e3
    subst e1 e2
    left
    refine ⟨(nI (i + 1), wR M a (upd f (w * sl + i) (M.2.1 19 i))), fun u => ?_, rfl, _, rfl, fun j => ?_⟩
    · show gbX10_store_3 _ _ _ _ _ _ = _
      unfold gbX10_store_3
      rw [if_neg (nI_ge hi (by omega)), wR_ne (Ne.symm ha), rA_nI (by omega) (by omega), Option.bind_some, pk_mul, nI_add, wA_nI (by omega) h31, wR_eq, wR_wR, Option.bind_some, nmE, ← nI_succ]
    · by_cases e : j = w * sl + i
      · subst e; rw [pk_us, if_pos (by omega), show w * sl + i - w * sl = i by omega]
      · rw [pk_un e, e3 j]
        by_cases g : w * sl ≤ j ∧ j < w * sl + i
        · rw [if_pos g, if_pos (by omega)]
        · rw [if_neg g, if_neg (by omega)]
  · rintro ⟨l, M1⟩ ⟨e1, f, e2, e3⟩
    replace e1 : l = nI w := e1
    replace e2 : M1 = wR M a f := e2
    subst e1 e2
    refine ⟨some (wR M a f), fun u => ?_, f, rfl, e3⟩
    show gbX10_store_3 _ _ _ _ _ _ = _
    unfold gbX10_store_3
    rw [if_pos (nI_le (Nat.le_refl _) (by omega))]
theorem m_storeAll {M : SV} {q sl : Nat} (hq : q < 4) (hsl : sl < 2) : ∃ f, gX10_storeAll (nI q) (nI sl) M = some (wR M (6 + q) f) ∧ ∀ j, f j = if wdt q * sl ≤ j ∧ j < wdt q * sl + wdt q then M.2.1 19 (j - wdt q * sl) else M.2.1 (6 + q) j := by
  have hq4 : q = 0 ∨ q = 1 ∨ q = 2 ∨ q = 3 := by omega
  unfold gX10_storeAll
  rcases hq4 with rfl | rfl | rfl | rfl
  · obtain ⟨f, h1, h2⟩ := m_store (M := M) (a := 6) (w := 110) (sl := sl) (by omega) hsl (by show 110 * sl + 110 ≤ 880; omega) (by decide) (by omega)
    refine ⟨f, ?_, h2⟩
    rw [if_pos (show nI 0 = 0 from rfl), show gX10_store 6 110 (nI sl) M = some (wR M 6 f) from h1]; rfl
  · obtain ⟨f, h1, h2⟩ := m_store (M := M) (a := 7) (w := 121) (sl := sl) (by omega) hsl (by show 121 * sl + 121 ≤ 968; omega) (by decide) (by omega)
    refine ⟨f, ?_, h2⟩
    rw [if_neg (show ¬ nI 1 = 0 by decide), if_pos (show nI 1 = 1 from rfl), show gX10_store 7 121 (nI sl) M = some (wR M 7 f) from h1]; rfl
  · obtain ⟨f, h1, h2⟩ := m_store (M := M) (a := 8) (w := 17) (sl := sl) (by omega) hsl (by show 17 * sl + 17 ≤ 136; omega) (by decide) (by omega)
    refine ⟨f, ?_, h2⟩
    rw [if_neg (show ¬ nI 2 = 0 by decide), if_neg (show ¬ nI 2 = 1 by decide), if_pos (show nI 2 = 2 from rfl), show gX10_store 8 17 (nI sl) M = some (wR M 8 f) from h1]; rfl
  · obtain ⟨f, h1, h2⟩ := m_store (M := M) (a := 9) (w := 49) (sl := sl) (by omega) hsl (by show 49 * sl + 49 ≤ 392; omega) (by decide) (by omega)
    refine ⟨f, ?_, h2⟩
    rw [if_neg (show ¬ nI 3 = 0 by decide), if_neg (show ¬ nI 3 = 1 by decide), if_neg (show ¬ nI 3 = 2 by decide), show gX10_store 9 49 (nI sl) M = some (wR M 9 f) from h1]; rfl
/-- a text that is told, in what both hold -/
theorem tr_store {z z1 : AH} {S0 S1 M M' : SV} {ρ0 ρ1 : RV} (hT : TR 0 S0 ρ0 M z) (hs : ∀ i, 113 ≤ i → i < z.length → z1[i]? = z[i]?) {q sl sz nz N : Nat} (hq : q < 4) (hsl : sl < 2) (hnz : nz ≤ 2) (hsz : S0.2.1 4 q = nI sz) (hszl : sz ≤ 2) (hless : ∀ i, i < nz → i ≠ sl → i < sz)
    (e0 : S1.2.1 0 = S0.2.1 0) (e1 : M'.2.1 1 = M.2.1 1) (e2 : S1.1 1 = 0 ∧ S1.1 2 = 0 ∧ S1.1 3 = -1) (e3 : M'.2.1 2 0 = 0 ∧ M'.2.1 3 0 = 0 ∧ M'.2.1 4 0 = -1) (e4 : S1.2.1 4 = upd (S0.2.1 4) q (nI nz)) (e5 : M'.2.1 5 = upd (M.2.1 5) q (nI nz))
    (r5 : ρ1.2.1 5 = if q = 0 then va_up (ρ0.2.1 5) sl (some N) else ρ0.2.1 5) (r6 : ρ1.2.1 6 = if q = 0 then ρ0.2.1 6 else va_up (ρ0.2.1 6) (2 * q + sl) (some N))
    (hrow : ∀ j, (j < wdt q * sl ∨ wdt q * sl + wdt q ≤ j) → M'.2.1 (6 + q) j = M.2.1 (6 + q) j) (hoth : ∀ k, 6 ≤ k → k < 10 → k ≠ 6 + q → M'.2.1 k = M.2.1 k) (hN : 113 ≤ N)
    (hnew : (q = 0 → ∃ (ρc : RV) (C : SV), RD 0 N ρc C z1 ∧ CR C (blk M' 6 110 0 sl) ∧ VB (blk M' 6 110 0 sl) ∧ NR (blk M' 6 110 0 sl) ∧ CD C (blk M' 6 110 0 sl)) ∧ (1 ≤ q → ∃ (ρb : RV) (Y : SV), RD 4 N ρb Y z1 ∧ RR q Y ρb.2.2 (blk M' (6 + q) (wdt q) 0 sl))) : TR 0 S1 ρ1 M' z1 := by
  obtain ⟨h1, ⟨h2, h3, h4, h5⟩, h6, h7, h8, h9, h10⟩ := hT
  have ho : ∀ {t : Nat} {r : Option Nat}, rfOk t z r → rfOk t z1 r := fun h c hc => by obtain ⟨g1, fs, g2⟩ := h c hc; exact ⟨g1, fs, by rw [hs c g1 (List.getElem?_eq_some_iff.mp g2).1]; exact g2⟩
  have hs2 : ∀ {c a : Nat} {ρ : RV} {S : SV}, 113 ≤ a → RD c a ρ S z → RD c a ρ S z1 := by
    intro c a ρ S ha hR
    refine ⟨?_, fun d k hk h0 => ?_⟩
    · rw [hs a ha (List.getElem?_eq_some_iff.mp hR.1).1]; exact hR.1
    · have := hR.2 d k hk h0
      rw [hs (a + d) (by omega) (List.getElem?_eq_some_iff.mp this).1]; exact this
  have hother : ∀ q' i, q' < 4 → i < 2 → (q' ≠ q ∨ i ≠ sl) → blk M' (6 + q') (wdt q') 0 i = blk M (6 + q') (wdt q') 0 i := by
    intro q' i hq' hi hne
    funext j
    unfold blk
    by_cases hj : j < wdt q'
    · rw [if_pos hj, if_pos hj]
      by_cases e : q' = q
      · subst e
        have hne2 : i ≠ sl := by rcases hne with g | g; exact absurd rfl g; exact g
        refine hrow _ ?_
        have : (i = 0 ∧ sl = 1) ∨ (i = 1 ∧ sl = 0) := by omega
        rcases this with ⟨rfl, rfl⟩ | ⟨rfl, rfl⟩ <;> omega
      · rw [hoth (6 + q') (by omega) (by omega) (by omega)]
    · rw [if_neg hj, if_neg hj]
  have esz : ∀ k, k < 4 → k ≠ q → S1.2.1 4 k = S0.2.1 4 k := fun k _ hne => by rw [e4, pk_un hne]
  have eszq : S1.2.1 4 q = nI nz := by rw [e4, pk_us]
  have obN : ∀ t, (q = 0 → t = 0) → (1 ≤ q → t = 4) → rfOk t z1 (some N) := by
    intro t ht0 ht4 c hc
    have : N = c := Option.some.inj hc
    subst this
    by_cases e : q = 0
    · obtain ⟨ρc, C, g, -⟩ := hnew.1 e
      rw [ht0 e]; exact ⟨hN, _, g.1⟩
    · obtain ⟨ρb, Y, g, -⟩ := hnew.2 (by omega)
      rw [ht4 (by omega)]; exact ⟨hN, _, g.1⟩
  refine ⟨fun k hk => ?_, ⟨?_, ?_, ?_, fun _ => ?_⟩, fun k hk => ?_, fun i hi => ?_, fun q' q1 q2 i hi => ?_, fun i hi => ?_, fun i hi => ?_⟩
  · rw [e0, e1]; exact h1 k hk
  · rw [e2.1, e3.1]
  · rw [e2.1]; exact ⟨by decide, by decide⟩
  · rw [e2.2.1, e3.2.1]
  · rw [e2.2.2, e3.2.2]
  · rw [e4, e5]
    by_cases e : k = q
    · subst e
      rw [pk_us, show 4 * 0 + k = k by omega, pk_us]
      exact ⟨rfl, (nI_rng (m := 2) hnz (by omega))⟩
    · rw [pk_un e, pk_un (by omega)]; exact h6 k hk
  · by_cases e : q = 0
    · subst e
      rw [eszq, nI_toInt (by omega)] at hi
      by_cases ei : i = sl
      · obtain ⟨ρc, C, g1, g2⟩ := hnew.1 rfl
        exact ⟨N, ρc, C, by rw [r5, if_pos rfl, ei]; simp [va_up], hN, g1, by rw [ei]; exact g2⟩
      · obtain ⟨c, ρc, C, g1, g2, g3, g4⟩ := h7 i (by rw [hsz, nI_toInt (by omega)]; have := hless i (by omega) ei; omega)
        refine ⟨c, ρc, C, by rw [r5, if_pos rfl]; simp [va_up, ei, g1], g2, hs2 g2 g3, ?_⟩
        rw [show blk M' 6 110 0 i = blk M 6 110 0 i from hother 0 i (by omega) (by omega) (Or.inr ei)]; exact g4
    · rw [esz 0 (by omega) (Ne.symm e)] at hi
      have hi2 : i < 2 := by have := (h6 0 (by omega)).2.2; omega
      obtain ⟨c, ρc, C, g1, g2, g3, g4⟩ := h7 i hi
      refine ⟨c, ρc, C, by rw [r5, if_neg e]; exact g1, g2, hs2 g2 g3, ?_⟩
      rw [show blk M' 6 110 0 i = blk M 6 110 0 i from hother 0 i (by omega) hi2 (Or.inl (Ne.symm e))]; exact g4
  · by_cases e : q' = q
    · subst e
      rw [eszq, nI_toInt (by omega)] at hi
      by_cases ei : i = sl
      · obtain ⟨ρb, Y, g1, g2⟩ := hnew.2 q1
        exact ⟨N, ρb, Y, by rw [r6, if_neg (by omega), ei]; simp [va_up], hN, g1, by rw [ei]; exact g2⟩
      · obtain ⟨b, ρb, Y, g1, g2, g3, g4⟩ := h8 q' q1 q2 i (by rw [hsz, nI_toInt (by omega)]; have := hless i (by omega) ei; omega)
        refine ⟨b, ρb, Y, by rw [r6, if_neg (by omega)]; simp [va_up, ei, g1], g2, hs2 g2 g3, ?_⟩
        rw [hother q' i q2 (by omega) (Or.inr ei)]; exact g4
    · rw [esz q' q2 e] at hi
      have hi2 : i < 2 := by have := (h6 q' q2).2.2; omega
      obtain ⟨b, ρb, Y, g1, g2, g3, g4⟩ := h8 q' q1 q2 i hi
      refine ⟨b, ρb, Y, ?_, g2, hs2 g2 g3, ?_⟩
      · rw [r6]
        by_cases eq0 : q = 0
        · rw [if_pos eq0]; exact g1
        · rw [if_neg eq0]
          have : 2 * q' + i ≠ 2 * q + sl := by omega
          simp [va_up, this, g1]
      · rw [hother q' i q2 hi2 (Or.inl e)]; exact g4
  · rw [r5]
    by_cases e : q = 0
    · rw [if_pos e]
      by_cases ei : i = sl
      · have : va_up (ρ0.2.1 5) sl (some N) i = some N := by rw [ei]; simp [va_up]
        rw [this]; exact obN 0 (fun _ => rfl) (fun h => by omega)
      · have : va_up (ρ0.2.1 5) sl (some N) i = ρ0.2.1 5 i := by simp [va_up, ei]
        rw [this]; exact ho (h9 i hi)
    · rw [if_neg e]; exact ho (h9 i hi)
  · rw [r6]
    by_cases e : q = 0
    · rw [if_pos e]; exact ho (h10 i hi)
    · rw [if_neg e]
      by_cases ei : i = 2 * q + sl
      · have : va_up (ρ0.2.1 6) (2 * q + sl) (some N) i = some N := by rw [ei]; simp [va_up]
        rw [this]; exact obN 4 (fun h => absurd h e) (fun _ => rfl)
      · have : va_up (ρ0.2.1 6) (2 * q + sl) (some N) i = ρ0.2.1 6 i := by simp [va_up, ei]
        rw [this]; exact ho (h10 i hi)
