/-! ===== loops by fuel ===== -/
theorem FUn : FU = 20000 := rfl
theorem lp {σ β : Type} (G : Nat → σ → β) (st : Nat → σ) (R : β) (N : Nat) (hs : ∀ i, i < N → ∀ n, G (n + 1) (st i) = G n (st (i + 1))) (he : ∀ n, G (n + 1) (st N) = R) : ∀ n, N < n → G n (st 0) = R := by
  have key : ∀ d j, j + d = N → ∀ n, d < n → G n (st j) = R := by
    intro d
    induction d with
    | zero =>
      intro j hj n hn
      obtain ⟨m, rfl⟩ : ∃ m, n = m + 1 := ⟨n - 1, by omega⟩
      rw [show j = N by omega]; exact he m
    | succ d ih =>
      intro j hj n hn
      obtain ⟨m, rfl⟩ : ∃ m, n = m + 1 := ⟨n - 1, by omega⟩
      rw [hs j (by omega)]
      exact ih (j + 1) (by omega) m (by omega)
  intro n hn
  exact key N 0 (by omega) n hn
/-- with a state that is told by a relation, and an early end -/
theorem lpR {σ β : Type} (G : Nat → σ → β) (I : Nat → σ → Prop) (Q : β → Prop) (N : Nat) (hs : ∀ i, i < N → ∀ s, I i s → (∃ s', (∀ n, G (n + 1) s = G n s') ∧ I (i + 1) s') ∨ ∃ b, (∀ n, G (n + 1) s = b) ∧ Q b) (he : ∀ s, I N s → ∃ b, (∀ n, G (n + 1) s = b) ∧ Q b) : ∀ s, I 0 s → ∀ n, N < n → Q (G n s) := by
  have key : ∀ d j, j + d = N → ∀ s, I j s → ∀ n, d < n → Q (G n s) := by
    intro d
    induction d with
    | zero =>
      intro j hj s hI n hn
      obtain ⟨m, rfl⟩ : ∃ m, n = m + 1 := ⟨n - 1, by omega⟩
      rw [show j = N by omega] at hI
      obtain ⟨b, e, q⟩ := he s hI
      rw [e]; exact q
    | succ d ih =>
      intro j hj s hI n hn
      obtain ⟨m, rfl⟩ : ∃ m, n = m + 1 := ⟨n - 1, by omega⟩
      rcases hs j (by omega) s hI with ⟨s', e, hI'⟩ | ⟨b, e, q⟩
      · rw [e]; exact ih (j + 1) (by omega) s' hI' m (by omega)
      · rw [e]; exact q
  intro s hI n hn
  exact key N 0 (by omega) s hI n hn
theorem lpT {σ τ β γ : Type} (G : Nat → σ → β) (H : Nat → τ → γ) (I : Nat → σ → τ → Prop) (Q : β → γ → Prop) (N : Nat)
    (hs : ∀ i, i < N → ∀ s t, I i s t → (∃ s' t', (∀ n, G (n + 1) s = G n s') ∧ (∀ n, H (n + 1) t = H n t') ∧ I (i + 1) s' t') ∨ ∃ b c, (∀ n, G (n + 1) s = b) ∧ (∀ n, H (n + 1) t = c) ∧ Q b c)
    (he : ∀ s t, I N s t → ∃ b c, (∀ n, G (n + 1) s = b) ∧ (∀ n, H (n + 1) t = c) ∧ Q b c) : ∀ s t, I 0 s t → ∀ n m, N < n → N < m → Q (G n s) (H m t) := by
  have key : ∀ d j, j + d = N → ∀ s t, I j s t → ∀ n m, d < n → d < m → Q (G n s) (H m t) := by
    intro d
    induction d with
    | zero =>
      intro j hj s t hI n m hn hm
      obtain ⟨n', rfl⟩ : ∃ m, n = m + 1 := ⟨n - 1, by omega⟩
      obtain ⟨m', rfl⟩ : ∃ k, m = k + 1 := ⟨m - 1, by omega⟩
      rw [show j = N by omega] at hI
      obtain ⟨b, c, e1, e2, q⟩ := he s t hI
      rw [e1, e2]; exact q
    | succ d ih =>
      intro j hj s t hI n m hn hm
      obtain ⟨n', rfl⟩ : ∃ m, n = m + 1 := ⟨n - 1, by omega⟩
      obtain ⟨m', rfl⟩ : ∃ k, m = k + 1 := ⟨m - 1, by omega⟩
      rcases hs j (by omega) s t hI with ⟨s', t', e1, e2, hI'⟩ | ⟨b, c, e1, e2, q⟩
      · rw [e1, e2]; exact ih (j + 1) (by omega) s' t' hI' n' m' (by omega) (by omega)
      · rw [e1, e2]; exact q
  intro s t hI n m hn hm
  exact key N 0 (by omega) s t hI n m hn hm
/-! ===== feed ===== -/
theorem b_ushS (n : Nat) (hn : n < 32) (x : Int32) (i : Nat) : bt (ush x (nI n)) i = bt x (n + i) := b_ushr n hn x i
theorem b_shrS (n : Nat) (hn : n < 32) (x : Int32) {i : Nat} (hi : i < 32) : bt (shr x (nI n)) i = if n + i < 32 then bt x (n + i) else bt x 31 := b_sshr n hn x hi
theorem b_shlS (n : Nat) (hn : n < 32) (x : Int32) {i : Nat} (hi : i < 32) : bt (shl x (nI n)) i = (decide (n ≤ i) && bt x (i - n)) := b_shl n hn x hi
theorem byte_sh (n : Nat) (hn : n ≤ 24) (x : Int32) : (ush x (nI n)).toInt8 = (shr x (nI n)).toInt8 := by
  rw [← fa_byte_low (ush x (nI n)), ← fa_byte_low (shr x (nI n))]
  congr 1
  apply b_ext
  intro i hi
  rw [b_and, b_and, b_255]
  by_cases h : i < 8
  · rw [b_ushS n (by omega), b_shrS n (by omega) x hi, if_pos (by omega)]
  · simp [h]
/-- a byte of a word -/
def wb (l : Int32) (sh : Nat) : Int32 := vp_nar .byte (Int8.toInt32 (Int32.toInt8 (ush l (nI sh))))
theorem wb_m (l : Int32) {sh : Nat} (h : sh ≤ 24) : vp_nar .byte (Int8.toInt32 (Int32.toInt8 (shr l (nI sh)))) = wb l sh := by unfold wb; rw [byte_sh sh h]
theorem wb_fit (l : Int32) (sh : Nat) : fits .byte (.int (wb l sh)) = true := by
  unfold wb; rw [vp_nar_byte]; exact pk_fb _
def Rf (S0 M0 : SV) (n : Nat) (S M : SV) : Prop :=
  n ≤ 600 ∧ (∀ k, k < 600 → S.2.1 0 k = M.2.1 1 k ∧ fits .byte (.int (S.2.1 0 k)) = true) ∧ S.1 1 = nI n ∧ M.2.1 2 0 = nI n ∧ (S.1 2 = S0.1 2 ∧ S.1 3 = S0.1 3 ∧ S.2.1 4 = S0.2.1 4) ∧
  (∀ k, 600 ≤ k → M.2.1 1 k = M0.2.1 1 k) ∧ (∀ k, 1 ≤ k → M.2.1 2 k = M0.2.1 2 k) ∧ ∀ k, k ≠ 1 → k ≠ 2 → M.2.1 k = M0.2.1 k
theorem wA_nI {k n : Nat} {S : SV} {j : Nat} {x : Int32} (h : j < n) (hn : n < 2 ^ 31) : wA k n S (nI j) x = some (wR S k (upd (S.2.1 k) j x)) := by
  unfold wA
  rw [nI_clamp (by omega), if_pos]
  rintro (h1 | h1)
  · exact nI_pos (by omega) h1
  · omega
theorem word_byte {S0 M0 : SV} {n sh : Nat} {S M : SV} (l : Int32) (h : Rf S0 M0 n S M) (hn : n < 600) (hs : sh ≤ 24) : ∃ S' M', (∀ f, gfX7_addWord_3 (f + 1) l (nI sh) S = gfX7_addWord_3 f l (nI sh + -8) S') ∧ (∀ f, gfX10_four_3 (f + 1) l (nI sh) M = gfX10_four_3 f l (nI sh + -8) M') ∧ Rf S0 M0 (n + 1) S' M' := by
  obtain ⟨-, h1, h2, h3, ⟨h4, h5, h6⟩, h7, h8, h9⟩ := h
  refine ⟨wI (wR S 0 (upd (S.2.1 0) n (wb l sh))) 1 (nI (n + 1)), wR (wR M 1 (upd (M.2.1 1) n (wb l sh))) 2 (upd (M.2.1 2) 0 (nI (n + 1))), fun f => ?_, fun f => ?_, ?_⟩
  · show gbX7_addWord_3 _ _ _ _ = _
    unfold gbX7_addWord_3
    rw [if_neg (nI_pos (by omega)), h2, if_neg (nI_pos (by omega)), if_neg (show ¬ (600 : Int32) ≤ nI n from nI_ge (b := 600) hn (by omega)), wA_nI hn (by omega)]
    simp only [Option.bind_some, nm]
    show gfX7_addWord_3 f l (nI sh + -8) (wI (wR S 0 (upd (S.2.1 0) n (wb l sh))) 1 (S.1 1 + 1)) = _
    rw [h2, nI_succ]
  · show gbX10_four_3 _ _ _ _ = _
    unfold gbX10_four_3
    rw [if_neg (nI_pos (by omega)), show rA 4 (M.2.1 2) 0 = some (nI n) by rw [← h3]; rfl]
    simp only [Option.bind_some, nm]
    rw [wA_nI (by omega) (by omega)]
    simp only [Option.bind_some]
    rw [show rA 4 ((wR M 1 (upd (M.2.1 1) n (vp_nar .byte (Int8.toInt32 (Int32.toInt8 (shr l (nI sh))))))).2.1 2) 0 = some (nI n) by rw [wR_ne (by decide), ← h3]; rfl]
    simp only [Option.bind_some]
    rw [wb_m l hs, show (0 : Int32) = nI 0 from rfl, wA_nI (by omega) (by omega), wR_ne (by decide)]
    simp only [Option.bind_some]
    rw [nI_succ]
  · refine ⟨by omega, fun k hk => ?_, rfl, rfl, ⟨h4, h5, h6⟩, fun k hk => ?_, fun k hk => ?_, fun k k1 k2 => ?_⟩
    · show upd (S.2.1 0) n (wb l sh) k = upd (M.2.1 1) n (wb l sh) k ∧ fits .byte (.int (upd (S.2.1 0) n (wb l sh) k)) = true
      by_cases e : k = n
      · subst e; rw [pk_us, pk_us]; exact ⟨rfl, wb_fit l sh⟩
      · rw [pk_un e, pk_un e]; exact h1 k hk
    · show upd (M.2.1 1) n (wb l sh) k = _
      rw [pk_un (by omega)]; exact h7 k hk
    · show upd (M.2.1 2) 0 (nI (n + 1)) k = _
      rw [pk_un (by omega)]; exact h8 k hk
    · rw [wR_ne k2, wR_ne k1]; exact h9 k k1 k2
theorem word_all {S0 M0 : SV} {n : Nat} {S M : SV} (l : Int32) (h : Rf S0 M0 n S M) (hn : n + 4 ≤ 600) : ∃ S' M', gX7_addWord l S = some S' ∧ gX10_four l M = some M' ∧ Rf S0 M0 (n + 4) S' M' := by
  obtain ⟨S1, M1, a1, b1, r1⟩ := word_byte (sh := 24) l h (by omega) (by omega)
  obtain ⟨S2, M2, a2, b2, r2⟩ := word_byte (sh := 16) l r1 (by omega) (by omega)
  obtain ⟨S3, M3, a3, b3, r3⟩ := word_byte (sh := 8) l r2 (by omega) (by omega)
  obtain ⟨S4, M4, a4, b4, r4⟩ := word_byte (sh := 0) l r3 (by omega) (by omega)
  rw [show nI 24 + -8 = nI 16 by decide] at a1 b1
  rw [show nI 16 + -8 = nI 8 by decide] at a2 b2
  rw [show nI 8 + -8 = nI 0 by decide] at a3 b3
  refine ⟨S4, M4, ?_, ?_, r4⟩
  · show gfX7_addWord_3 (19999 + 1) l (nI 24) S = _
    rw [a1, a2 19998, a3 19997, a4 19996]; rfl
  · show gfX10_four_3 (19999 + 1) l (nI 24) M = _
    rw [b1, b2 19998, b3 19997, b4 19996]; rfl
theorem qu_feed (Wc : WC) : Qu_feed Wc := by
  intro z M ρM hI a1 a2 a3 a4 a5
  have hsk := hI.2.2.2.1
  have hz := hI.1
  obtain ⟨S, ρ, hR, hT⟩ := hI.2.2.1 0 (by omega)
  have hR : RD 6 16 ρ S z := hR
  obtain ⟨q1, ⟨q2, q3, q4, q5⟩, q6, q7⟩ := hT
  have hT0 : TR 0 S ρ M z := ⟨q1, ⟨q2, q3, q4, q5⟩, q6, q7⟩
  have hz6 : 16 + szV 6 ≤ z.length := by rw [s6]; omega
  unfold fX9_feed gX10_feed
  rw [if_pos (x9_o hsk), x9_g (k := 0) (x := 16) hsk rfl]
  simp only [Option.bind_some, nm, gI_rd hR (k := 1) rfl]
  have e0 : rA 4 ((wI M 0 0).2.1 2) 0 = some (M.2.1 2 0) := rA_in (by decide) (by decide)
  rw [e0]
  simp only [Option.bind_some]
  obtain ⟨n, hn, en⟩ := vp_in_of (x := S.1 1) (n := 601) (vp_in_iff.mpr ⟨q3.1, by have := q3.2; omega⟩) (by decide)
  rw [← q2, en, show nI n + 20 = nI (n + 20) by rw [← nI_add]; rfl]
  by_cases h : n + 20 ≤ 600
  · rw [if_pos (show nI (n + 20) ≤ (600 : Int32) from nI_le (b := 600) h (by omega)), if_pos (show nI (n + 20) ≤ (600 : Int32) from nI_le (b := 600) h (by omega))]
    have hx : ∀ S : SV, gN 8 0 (wr 6 16 ρ S z) 0 = some 16 := by
      intro S
      unfold gN oF
      rw [wr_out (by omega), hsk.1]
      rfl
    have r0 : Rf S M n S (wI M 0 0) := ⟨by omega, fun k hk => by have := q1 k hk; rw [Nat.mul_zero, Nat.zero_add] at this; exact this, en, by rw [← en, q2]; rfl, ⟨rfl, rfl, rfl⟩, fun _ _ => rfl, fun _ _ => rfl, fun _ _ _ => rfl⟩
    obtain ⟨S1, M1, c1, d1, r1⟩ := word_all a1 r0 (by omega)
    obtain ⟨S2, M2, c2, d2, r2⟩ := word_all a2 r1 (by omega)
    obtain ⟨S3, M3, c3, d3, r3⟩ := word_all a3 r2 (by omega)
    obtain ⟨S4, M4, c4, d4, r4⟩ := word_all a4 r3 (by omega)
    obtain ⟨S5, M5, c5, d5, r5⟩ := word_all a5 r4 (by omega)
    have f1 := eX7_addWord (ρ := ρ) hz6 a1 S
    rw [wr_id hR, c1] at f1
    have f2 := eX7_addWord (ρ := ρ) hz6 a2 S1
    rw [c2] at f2
    have f3 := eX7_addWord (ρ := ρ) hz6 a3 S2
    rw [c3] at f3
    have f4 := eX7_addWord (ρ := ρ) hz6 a4 S3
    rw [c4] at f4
    have f5 := eX7_addWord (ρ := ρ) hz6 a5 S4
    rw [c5] at f5
    rw [f1, d1]
    simp only [Option.map_some, Option.bind_some, hx, f2, d2, f3, d3, f4, d4, f5, d5]
    obtain ⟨g1, g2, g3, g4, ⟨g5, g6, g7⟩, g8, g9, g10⟩ := r5
    have e5 : rA 4 (M5.2.1 2) 0 = some (M5.2.1 2 0) := rA_in (by decide) (by decide)
    rw [gI_rd (rd_wr hz6) (k := 1) rfl, e5, g3, g4]
    simp only [Option.bind_some]
    have := hI.now (S' := S5) (ρ' := ρ) (M' := M5) ?_ (fun s s1 s2 => ?_) ?_
    · exact ⟨_, _, _, rfl, this.1, rfl, this.2⟩
    · refine hT0.tape (fun k hk => ?_) ⟨by rw [g3, g4], ?_, ?_, ?_⟩ g7 (fun k k1 k2 => g10 k (by omega) (by omega))
      · rw [Nat.mul_zero, Nat.zero_add]; exact g2 k hk
      · rw [g3]; refine ⟨?_, ?_⟩ <;> rw [nI_toInt (by omega)] <;> omega
      · rw [g5, g10 3 (by omega) (by omega)]; exact q4
      · rw [g6, g10 4 (by omega) (by omega)]; exact q5 (Or.inl rfl)
    · refine ⟨fun k hk => g8 _ (by omega), ⟨g9 s s1, ?_, ?_⟩, fun _ _ => ?_, fun _ _ => ?_, fun _ _ => ?_, fun _ _ => ?_, fun _ _ => ?_⟩ <;> rw [g10 _ (by omega) (by omega)]
    · exact g10 55 (by omega) (by omega)
  · rw [if_neg (show ¬ nI (n + 20) ≤ (600 : Int32) from nI_ge (a := 600) (by omega) (by omega)), if_neg (show ¬ nI (n + 20) ≤ (600 : Int32) from nI_ge (a := 600) (by omega) (by omega))]
    have same : (RD 9 89 ρM M z ∧ 113 ≤ z.length) ∧ InvM Wc (wr 9 89 ρM (wI M 0 0) z) (wI M 0 0) ρM := ⟨⟨hI.2.1, hz⟩, hI.model (fun _ _ => rfl)⟩
    exact ⟨_, _, _, rfl, same.1, rfl, same.2⟩
