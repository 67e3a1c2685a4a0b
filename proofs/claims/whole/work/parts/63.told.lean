/-! ===== moving what is told ===== -/
/-- a slot of one state holds what another slot of another holds -/
def SE (s : Nat) (M : SV) (s' : Nat) (M' : SV) : Prop :=
  (∀ k, k < 600 → M'.2.1 1 (600 * s' + k) = M.2.1 1 (600 * s + k)) ∧ (M'.2.1 2 s' = M.2.1 2 s ∧ M'.2.1 3 s' = M.2.1 3 s ∧ M'.2.1 4 s' = M.2.1 4 s) ∧
  (∀ k, k < 4 → M'.2.1 5 (4 * s' + k) = M.2.1 5 (4 * s + k)) ∧ (∀ k, k < 220 → M'.2.1 6 (220 * s' + k) = M.2.1 6 (220 * s + k)) ∧
  (∀ k, k < 242 → M'.2.1 7 (242 * s' + k) = M.2.1 7 (242 * s + k)) ∧ (∀ k, k < 34 → M'.2.1 8 (34 * s' + k) = M.2.1 8 (34 * s + k)) ∧ (∀ k, k < 98 → M'.2.1 9 (98 * s' + k) = M.2.1 9 (98 * s + k))
theorem SE.rf (s : Nat) (M : SV) : SE s M s M := ⟨fun _ _ => rfl, ⟨rfl, rfl, rfl⟩, fun _ _ => rfl, fun _ _ => rfl, fun _ _ => rfl, fun _ _ => rfl, fun _ _ => rfl⟩
theorem SE.of {s : Nat} {M M' : SV} (h : ∀ k, isP k = true → M'.2.1 k = M.2.1 k) : SE s M s M' := by
  refine ⟨fun _ _ => ?_, ⟨?_, ?_, ?_⟩, fun _ _ => ?_, fun _ _ => ?_, fun _ _ => ?_, fun _ _ => ?_, fun _ _ => ?_⟩ <;> rw [h _ rfl]
def VE (S : SV) (ρ : RV) (S' : SV) (ρ' : RV) : Prop :=
  (∀ k, k < 600 → S'.2.1 0 k = S.2.1 0 k) ∧ (S'.1 1 = S.1 1 ∧ S'.1 2 = S.1 2 ∧ S'.1 3 = S.1 3) ∧ (∀ k, k < 4 → S'.2.1 4 k = S.2.1 4 k) ∧
  (∀ i, i < 2 → ρ'.2.1 5 i = ρ.2.1 5 i) ∧ (∀ i, i < 8 → ρ'.2.1 6 i = ρ.2.1 6 i)
theorem VE.rf (S : SV) (ρ : RV) : VE S ρ S ρ := ⟨fun _ _ => rfl, ⟨rfl, rfl, rfl⟩, fun _ _ => rfl, fun _ _ => rfl, fun _ _ => rfl⟩
theorem blk_eq {M M' : SV} {k w s s' i : Nat} (hi : i < 2) (h : ∀ j, j < 2 * w → M'.2.1 k (2 * w * s' + j) = M.2.1 k (2 * w * s + j)) : blk M' k w s' i = blk M k w s i := by
  funext j
  unfold blk
  by_cases hj : j < w
  · rw [if_pos hj, if_pos hj, Nat.add_assoc, Nat.add_assoc]
    refine h _ ?_
    have : i = 0 ∨ i = 1 := by omega
    rcases this with rfl | rfl <;> omega
  · rw [if_neg hj, if_neg hj]
theorem TR.mv {s s' : Nat} {S S' : SV} {ρ ρ' : RV} {M M' : SV} {z z' : AH} (h : TR s S ρ M z) (he : SE s M s' M') (hv : VE S ρ S' ρ') (hs : ∀ i, 113 ≤ i → i < z.length → z'[i]? = z[i]?) (ht : tkn M' s' → tkn M s) : TR s' S' ρ' M' z' := by
  obtain ⟨h1, ⟨h2, h3, h4, h5⟩, h6, h7, h8, h9, h10⟩ := h
  have ho : ∀ {t : Nat} {r : Option Nat}, rfOk t z r → rfOk t z' r := fun h c hc => by obtain ⟨g1, fs, g2⟩ := h c hc; exact ⟨g1, fs, by rw [hs c g1 (List.getElem?_eq_some_iff.mp g2).1]; exact g2⟩
  obtain ⟨e1, ⟨e2, e3, e4⟩, e5, e6, e7, e8, e9⟩ := he
  obtain ⟨v1, ⟨v2, v3, v4⟩, v5, v6, v7⟩ := hv
  have hs2 : ∀ {c a : Nat} {ρ : RV} {S : SV}, 113 ≤ a → RD c a ρ S z → RD c a ρ S z' := by
    intro c a ρ S ha hR
    refine ⟨?_, fun d k hk h0 => ?_⟩
    · rw [hs a ha (List.getElem?_eq_some_iff.mp hR.1).1]; exact hR.1
    · have := hR.2 d k hk h0
      rw [hs (a + d) (by omega) (List.getElem?_eq_some_iff.mp this).1]; exact this
  refine ⟨fun k hk => ?_, ⟨?_, ?_, ?_, ?_⟩, fun k hk => ?_, fun i hi => ?_, fun q q1 q2 i hi => ?_, fun i hi => by rw [v6 i hi]; exact ho (h9 i hi), fun i hi => by rw [v7 i hi]; exact ho (h10 i hi)⟩
  · rw [v1 k hk, e1 k hk]; exact h1 k hk
  · rw [v2, e2]; exact h2
  · rw [v2]; exact h3
  · rw [v3, e3]; exact h4
  · rw [v4, e4]; exact fun h => h5 (ht h)
  · rw [v5 k hk, e5 k hk]; exact h6 k hk
  · rw [v5 0 (by omega)] at hi
    obtain ⟨c, ρc, C, g1, g2, g3, g4⟩ := h7 i hi
    have hi2 : i < 2 := by have := (h6 0 (by omega)).2.2; omega
    rw [blk_eq hi2 e6]
    exact ⟨c, ρc, C, by rw [v6 i hi2]; exact g1, g2, hs2 g2 g3, g4⟩
  · rw [v5 q q2] at hi
    obtain ⟨b, ρb, Y, g1, g2, g3, g4⟩ := h8 q q1 q2 i hi
    have hi2 : i < 2 := by have := (h6 q (by omega)).2.2; omega
    have : q = 1 ∨ q = 2 ∨ q = 3 := by omega
    refine ⟨b, ρb, Y, by rw [v7 _ (by omega)]; exact g1, g2, hs2 g2 g3, ?_⟩
    rcases this with rfl | rfl | rfl
    · rw [show blk M' (6 + 1) (wdt 1) s' i = blk M (6 + 1) (wdt 1) s i from blk_eq hi2 e7]; exact g4
    · rw [show blk M' (6 + 2) (wdt 2) s' i = blk M (6 + 2) (wdt 2) s i from blk_eq hi2 e8]; exact g4
    · rw [show blk M' (6 + 3) (wdt 3) s' i = blk M (6 + 3) (wdt 3) s i from blk_eq hi2 e9]; exact g4
/-- tape, length and fault change, what is told doesn't -/
theorem TR.tape {s : Nat} {S S' : SV} {ρ : RV} {M M' : SV} {z : AH} (h : TR s S ρ M z) (h1 : ∀ k, k < 600 → S'.2.1 0 k = M'.2.1 1 (600 * s + k) ∧ fits .byte (.int (S'.2.1 0 k)) = true) (h2 : S'.1 1 = M'.2.1 2 s ∧ rng (S'.1 1) 0 600 ∧ S'.1 2 = M'.2.1 3 s ∧ S'.1 3 = M'.2.1 4 s) (h3 : S'.2.1 4 = S.2.1 4) (h4 : ∀ k, 5 ≤ k → k < 10 → M'.2.1 k = M.2.1 k) : TR s S' ρ M' z := by
  obtain ⟨-, -, q6, q7, q8, q9⟩ := h
  refine ⟨h1, ⟨h2.1, h2.2.1, h2.2.2.1, fun _ => h2.2.2.2⟩, fun k hk => ?_, fun i hi => ?_, fun q g1 g2 i hi => ?_, q9⟩
  · rw [h3, h4 5 (by omega) (by omega)]; exact q6 k hk
  · rw [h3] at hi
    rw [show blk M' 6 110 s i = blk M 6 110 s i by funext j; unfold blk; rw [h4 6 (by omega) (by omega)]]
    exact q7 i hi
  · rw [h3] at hi
    rw [show blk M' (6 + q) (wdt q) s i = blk M (6 + q) (wdt q) s i by funext j; unfold blk; rw [h4 (6 + q) (by omega) (by omega)]]
    exact q8 q g1 g2 i hi
theorem wR_ne {S : SV} {k j : Nat} {f : Nat → Int32} (h : j ≠ k) : (wR S k f).2.1 j = S.2.1 j := if_neg h
theorem wR_s {S : SV} {k : Nat} {f : Nat → Int32} : (wR S k f).2.1 k = f := if_pos rfl
theorem InvM.move {Wc : WC} {z z1 : AH} {M M' : SV} {ρM : RV} (h : InvM Wc z M ρM) (hl : z.length ≤ z1.length) (hs : ∀ i, i < z.length → ¬ (16 ≤ i ∧ i < 44) → z1[i]? = z[i]?) (h21 : z1[21]? = z[21]?) (hT : ∀ s, s < 4 → ∃ S ρ, RD 6 (tAd s) ρ S z1 ∧ TR s S ρ M' z1) (hK : TK M' z1) (h38 : ∃ ρ S, RD 3 38 ρ S z1) : (RD 9 89 ρM M z1 ∧ 113 ≤ z1.length) ∧ InvM Wc (wr 9 89 ρM M' z1) M' ρM := by
  obtain ⟨h1, h2, h3, h4, h5, h6⟩ := h
  have hr : ∀ {c a : Nat} {ρ : RV} {S : SV}, 44 ≤ a → RD c a ρ S z → RD c a ρ S z1 := by
    intro c a ρ S ha hR
    refine ⟨?_, fun d k hk h0 => ?_⟩
    · rw [hs a (List.getElem?_eq_some_iff.mp hR.1).1 (by omega)]; exact hR.1
    · have := hR.2 d k hk h0
      rw [hs (a + d) (List.getElem?_eq_some_iff.mp this).1 (by omega)]; exact this
  have hx : 113 ≤ z1.length := by omega
  refine ⟨⟨hr (by omega) h2, hx⟩, ?_⟩
  have hc : scr 9 89 := by unfold scr; omega
  refine ⟨by rw [wr_len]; exact hx, rd_wr (by rw [s9]; omega), fun s hs2 => ?_, ?_, ?_, ?_⟩
  · obtain ⟨S, ρ, g1, g2⟩ := hT s hs2
    have := tAd_sz hs2
    exact ⟨S, ρ, g1.far (by rw [s6]; omega), g2.mv (SE.rf _ _) (VE.rf _ _) (fun i hi _ => wr_out (by rw [s9]; omega)) id⟩
  · refine SK.wr ?_ hc hx
    obtain ⟨k1, ⟨f, k2, k3⟩, k4, ⟨ρ2, S2, k5⟩, ⟨ρ3, S3, k6⟩, ⟨ρ4, S4, k7⟩⟩ := h4
    exact ⟨by rw [hs 0 (by omega) (by omega)]; exact k1, ⟨f, by rw [h21]; exact k2, k3⟩, h38, ⟨ρ2, S2, hr (by omega) k5⟩, ⟨ρ3, S3, hr (by omega) k6⟩, ⟨ρ4, S4, hr (by omega) k7⟩⟩
  · obtain ⟨f, g1, g2⟩ := hK
    exact ⟨f, by rw [wr_out (by omega)]; exact g1, g2⟩
  · refine WK.wr ?_ hc
    obtain ⟨sq, x, y, w, best, k1, ⟨f, k2, k3⟩, k4, ⟨g, k5⟩, k6, k7⟩ := h6
    refine ⟨sq, x, y, w, best, by rw [hs 49 (by omega) (by omega)]; exact k1, ⟨f, by rw [hs 50 (by omega) (by omega)]; exact k2, k3⟩, fun k hk => ?_, ⟨g, by rw [hs 81 (by omega) (by omega)]; exact k5⟩, by rw [hs 82 (by omega) (by omega)]; exact k6, fun c hc => ?_⟩
    · obtain ⟨ρ1, S1, g1⟩ := k4 k hk
      exact ⟨ρ1, S1, hr (by omega) g1⟩
    · obtain ⟨g1, ρc, C, g2, g3⟩ := k7 c hc
      exact ⟨g1, ρc, C, hr (by omega) g2, g3⟩
/-- only the Told of now changes -/
theorem InvM.now {Wc : WC} {z : AH} {M M' S' : SV} {ρM ρ' : RV} (h : InvM Wc z M ρM) (hT : TR 0 S' ρ' M' z) (ho : ∀ s, 1 ≤ s → s < 4 → SE s M s M') (hk : M'.2.1 55 = M.2.1 55) : (RD 9 89 ρM M (wr 6 16 ρ' S' z) ∧ 113 ≤ (wr 6 16 ρ' S' z).length) ∧ InvM Wc (wr 9 89 ρM M' (wr 6 16 ρ' S' z)) M' ρM := by
  have h1 := h.1
  have hs : ∀ i, (i < 16 ∨ 21 ≤ i) → (wr 6 16 ρ' S' z)[i]? = z[i]? := fun i hi => wr_out (by rw [s6]; omega)
  refine h.move (by rw [wr_len]; exact Nat.le_refl _) (fun i _ hi => hs i (by omega)) (hs 21 (by omega)) (fun s hs2 => ?_) ?_ ?_
  · by_cases h0 : s = 0
    · subst h0
      refine ⟨S', ρ', ?_, hT.mv (SE.rf _ _) (VE.rf _ _) (fun i hi _ => hs i (by omega)) id⟩
      show RD 6 16 ρ' S' _
      exact rd_wr (by rw [s6]; omega)
    · obtain ⟨S, ρ, g1, g2⟩ := h.2.2.1 s hs2
      refine ⟨S, ρ, g1.far (by unfold tAd; rw [if_neg h0, s6]; omega), g2.mv (ho s (by omega) hs2) (VE.rf _ _) (fun i hi _ => hs i (by omega)) (fun ht => by unfold tkn at *; rw [← hk]; exact ht)⟩
  · obtain ⟨f, g1, g2⟩ := h.2.2.2.2.1
    exact ⟨f, by rw [hs 37 (by omega)]; exact g1, fun k hk2 => by rw [hk]; exact g2 k hk2⟩
  · obtain ⟨ρ, S, g⟩ := h.2.2.2.1.2.2.1
    exact ⟨ρ, S, g.far (by rw [s6]; omega)⟩
theorem qu_end (Wc : WC) : Qu_end Wc := by
  intro z M ρM hI a1
  have hsk := hI.2.2.2.1
  have hz := hI.1
  obtain ⟨S, ρ, hR, hT⟩ := hI.2.2.1 0 (by omega)
  have hR : RD 6 16 ρ S z := hR
  obtain ⟨q1, ⟨q2, q3, q4, q5⟩, q6, q7⟩ := hT
  have hT0 : TR 0 S ρ M z := ⟨q1, ⟨q2, q3, q4, q5⟩, q6, q7⟩
  unfold fX9_end gX10_end
  rw [if_pos (x9_o hsk), x9_g (k := 0) (x := 16) hsk rfl]
  simp only [Option.bind_some, nm, gI_rd hR (k := 1) rfl]
  have e0 : rA 4 ((wI M 0 0).2.1 2) 0 = some (M.2.1 2 0) := rA_in (by decide) (by decide)
  rw [e0]
  simp only [Option.bind_some]
  have same : (RD 9 89 ρM M z ∧ 113 ≤ z.length) ∧ InvM Wc (wr 9 89 ρM (wI M 0 0) z) (wI M 0 0) ρM := ⟨⟨hI.2.1, hz⟩, hI.model (fun _ _ => rfl)⟩
  by_cases h : 0 ≤ a1.toInt ∧ a1.toInt ≤ (M.2.1 2 0).toInt
  · have c1 : ¬ a1 < 0 := by rw [fa_lt, t0]; omega
    have c2 : a1 ≤ S.1 1 := by rw [q2, fa_le]; exact h.2
    have c3 : ¬ fX10_in a1 0 (M.2.1 2 0) = 0 := m_in0 (by rw [t0]; exact h)
    have e1 : wA 2 4 (wI M 0 0) 0 a1 = some (wR (wI M 0 0) 2 (upd (M.2.1 2) 0 a1)) := rfl
    have e2 := pF_int (c := 6) (a := 16) (ρ := ρ) (S := S) (z := z) (by rw [s6]; omega) (k := 1) rfl a1
    rw [wr_id hR] at e2
    rw [if_neg c1, if_pos c2, if_neg c3, e1, e2]
    simp only [Option.bind_some]
    have := hI.now (S' := wI S 1 a1) (ρ' := ρ) (M' := wR (wI M 0 0) 2 (upd (M.2.1 2) 0 a1)) ?_ (fun s s1 s2 => ?_) rfl
    · exact ⟨_, _, _, rfl, this.1, rfl, this.2⟩
    · refine hT0.tape q1 ⟨rfl, ?_, q4, q5 (Or.inl rfl)⟩ rfl (fun k k1 k2 => wR_ne (by omega))
      show rng a1 0 600
      rw [q2] at q3
      exact ⟨h.1, by have := q3.2; omega⟩
    · refine ⟨fun _ _ => rfl, ⟨?_, rfl, rfl⟩, fun _ _ => rfl, fun _ _ => rfl, fun _ _ => rfl, fun _ _ => rfl, fun _ _ => rfl⟩
      show upd (M.2.1 2) 0 a1 s = _
      exact pk_un (by omega)
  · have c3 : fX10_in a1 0 (M.2.1 2 0) = 0 := m_in1 (by rw [t0]; exact h)
    rw [if_pos c3]
    by_cases c1 : a1 < 0
    · rw [if_pos c1]; exact ⟨_, _, _, rfl, same.1, rfl, same.2⟩
    · have c2 : ¬ a1 ≤ S.1 1 := by rw [q2, fa_le]; rw [fa_lt, t0] at c1; omega
      rw [if_neg c1, if_neg c2]; exact ⟨_, _, _, rfl, same.1, rfl, same.2⟩
