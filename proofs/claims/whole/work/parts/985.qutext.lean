/-! ===== text ===== -/
theorem slot_cases {S : SV} (h6 : ∀ k, k < 4 → rng (S.2.1 4 k) 0 2) (a1 a2 : Int32) :
    (∃ q sl sz : Nat, q < 4 ∧ a1 = nI q ∧ sl < 2 ∧ sz ≤ 2 ∧ S.2.1 4 q = nI sz ∧ gX7_slotFor a1 a2 S = some (nI sl) ∧ ((a2 = -1 ∧ sl = sz) ∨ (¬ a2 = -1 ∧ a2 = nI sl ∧ sl < sz))) ∨
    (gX7_slotFor a1 a2 S = some (-2) ∧ (fX10_in a1 0 3 = 0 ∨ ∃ q sz : Nat, q < 4 ∧ a1 = nI q ∧ sz ≤ 2 ∧ S.2.1 4 q = nI sz ∧ ((a2 = -1 ∧ sz = 2) ∨ (¬ a2 = -1 ∧ ¬ (0 ≤ a2.toInt ∧ a2.toInt < sz))))) := by
  have hsz : gX7_sizeOf a1 S = some (if 0 ≤ a1.toInt ∧ a1.toInt < (4 : Int32).toInt ∧ a1.toInt < ((4 : Nat) : Int) then S.2.1 4 a1.toNatClampNeg else -2) := by
    unfold gX7_sizeOf
    rw [pickS (by omega)]; rfl
  have t4 : (4 : Int32).toInt = 4 := rfl
  by_cases c : 0 ≤ a1.toInt ∧ a1.toInt < 4
  · obtain ⟨q, hq, rfl⟩ := vp_in_of (x := a1) (n := 4) (vp_in_iff.mpr ⟨c.1, by omega⟩) (by decide)
    obtain ⟨sz, s1, s2, -⟩ := nx_of (b := 2) (h6 q hq) (by omega)
    have hv : gX7_sizeOf (nI q) S = some (nI sz) := by
      rw [hsz, if_pos (show 0 ≤ (nI q).toInt ∧ (nI q).toInt < (4 : Int32).toInt ∧ (nI q).toInt < ((4 : Nat) : Int) from ⟨c.1, by rw [t4]; exact c.2, c.2⟩), nI_clamp (by omega), s2]
    unfold gX7_slotFor
    rw [hv, Option.bind_some]
    by_cases d : a2 = -1
    · rw [if_pos d]
      by_cases e : sz = 2
      · rw [if_pos (show (2 : Int32) ≤ nI sz by rw [e]; decide)]
        exact Or.inr ⟨rfl, Or.inr ⟨q, sz, hq, rfl, s1, s2, Or.inl ⟨d, e⟩⟩⟩
      · rw [if_neg (show ¬ (2 : Int32) ≤ nI sz from nI_ge (b := 2) (by omega) (by omega))]
        exact Or.inl ⟨q, sz, sz, hq, rfl, by omega, s1, s2, rfl, Or.inl ⟨d, rfl⟩⟩
    · rw [if_neg d]
      by_cases e : a2 < 0
      · rw [if_pos e]
        exact Or.inr ⟨rfl, Or.inr ⟨q, sz, hq, rfl, s1, s2, Or.inr ⟨d, by rw [fa_lt, t0] at e; omega⟩⟩⟩
      · rw [if_neg e]
        by_cases g : nI sz ≤ a2
        · rw [if_pos g]
          exact Or.inr ⟨rfl, Or.inr ⟨q, sz, hq, rfl, s1, s2, Or.inr ⟨d, by rw [fa_le, nI_toInt (by omega)] at g; omega⟩⟩⟩
        · rw [if_neg g]
          rw [fa_lt, t0] at e
          rw [fa_le, nI_toInt (by omega)] at g
          obtain ⟨sl, hsl, es⟩ := vp_in_of (x := a2) (n := sz) (vp_in_iff.mpr ⟨by omega, by omega⟩) (by omega)
          exact Or.inl ⟨q, sl, sz, hq, rfl, by omega, s1, s2, by rw [es], Or.inr ⟨d, es, hsl⟩⟩
  · have hv : gX7_sizeOf a1 S = some (-2) := by
      rw [hsz, if_neg (show ¬ (0 ≤ a1.toInt ∧ a1.toInt < (4 : Int32).toInt ∧ a1.toInt < ((4 : Nat) : Int)) from fun e => c ⟨e.1, e.2.2⟩)]
    unfold gX7_slotFor
    rw [hv, Option.bind_some]
    right
    refine ⟨?_, Or.inl (m_in1 (by rw [t0]; intro e; exact c ⟨e.1, by have : (3 : Int32).toInt = 3 := rfl; omega⟩))⟩
    by_cases d : a2 = -1
    · rw [if_pos d, if_neg (by decide)]
    · rw [if_neg d]
      by_cases e : a2 < 0
      · rw [if_pos e]
      · rw [if_neg e, if_pos (show (-2 : Int32) ≤ a2 by rw [fa_le, tm2]; rw [fa_lt, t0] at e; omega)]
/-- the reference, with the tape taken -/
def txM (L : Nat) (M : SV) : SV := wR (wR (wR (wI (wI M 0 0) 11 (nI L)) 2 (upd (M.2.1 2) 0 0)) 3 (upd (M.2.1 3) 0 0)) 4 (upd (M.2.1 4) 0 (-1))
theorem tx_r {L k : Nat} {M : SV} (h : k ≠ 2 ∧ k ≠ 3 ∧ k ≠ 4) : (txM L M).2.1 k = M.2.1 k := by
  unfold txM
  rw [wR_ne (by omega), wR_ne (by omega), wR_ne (by omega)]; rfl
theorem tx_2 {L : Nat} {M : SV} : (txM L M).2.1 2 = upd (M.2.1 2) 0 0 := by
  unfold txM; rw [wR_ne (by decide), wR_ne (by decide), wR_eq]
theorem tx_3 {L : Nat} {M : SV} : (txM L M).2.1 3 = upd (M.2.1 3) 0 0 := by
  unfold txM; rw [wR_ne (by decide), wR_eq]
theorem tx_4 {L : Nat} {M : SV} : (txM L M).2.1 4 = upd (M.2.1 4) 0 (-1) := by
  unfold txM; rw [wR_eq]
theorem m_text {L : Nat} {M : SV} (h2 : M.2.1 2 0 = nI L) (a1 a2 : Int32) : gX10_text a1 a2 M = (if fX10_in a1 0 3 = 0 then some (-2, txM L M) else if a2 = -1 then (rA 16 (M.2.1 5) a1).bind fun x55 => if x55 = 2 then some (-2, txM L M) else gbX10_text_75 a1 a2 (txM L M) else (gX10_is a1 a2 (txM L M)).bind fun x66 => if x66 = 0 then some (-2, txM L M) else gbX10_text_75 a1 a2 (txM L M)) := by
  unfold gX10_text
  rw [nmE, show rA 4 ((wI M 0 0).2.1 2) 0 = some (nI L) from (rA_nI (k := 0) (by omega) (by omega)).trans (by show some (M.2.1 2 0) = _; rw [h2]), Option.bind_some, nmE]
  rw [show wA 2 4 (wI (wI M 0 0) 11 (nI L)) 0 0 = some (wR (wI (wI M 0 0) 11 (nI L)) 2 (upd (M.2.1 2) 0 0)) from wA_nI (j := 0) (by omega) (by omega), Option.bind_some]
  rw [show wA 3 4 (wR (wI (wI M 0 0) 11 (nI L)) 2 (upd (M.2.1 2) 0 0)) 0 0 = some (wR (wR (wI (wI M 0 0) 11 (nI L)) 2 (upd (M.2.1 2) 0 0)) 3 (upd (M.2.1 3) 0 0)) from (wA_nI (j := 0) (by omega) (by omega)).trans (by rw [wR_ne (by decide)]; rfl), Option.bind_some]
  rw [show wA 4 4 (wR (wR (wI (wI M 0 0) 11 (nI L)) 2 (upd (M.2.1 2) 0 0)) 3 (upd (M.2.1 3) 0 0)) 0 (-1) = some (txM L M) from (wA_nI (j := 0) (by omega) (by omega)).trans (by rw [wR_ne (by decide), wR_ne (by decide)]; rfl), Option.bind_some]
  rw [tx_r (k := 5) (by omega)]
theorem rdE_r {f pl : Int32} {M : SV} {k : Nat} (h : k ≠ 3 ∧ k ≠ 4) : (rdE f pl M).2.1 k = M.2.1 k := by
  unfold rdE; rw [wR_ne (by omega), wR_ne (by omega)]
theorem rdE_3 {f pl : Int32} {M : SV} : (rdE f pl M).2.1 3 = upd (M.2.1 3) 0 f := by unfold rdE; rw [wR_ne (by decide), wR_eq]
theorem rdE_4 {f pl : Int32} {M : SV} : (rdE f pl M).2.1 4 = upd (M.2.1 4) 0 pl := by unfold rdE; rw [wR_eq]
/-- slots of images stay -/
theorem se_tx {L : Nat} {M M' : SV} {f pl : Int32} (hF : FrL (txM L M) M') {s : Nat} (hs : 1 ≤ s) : SE s M s (rdE f pl M') := by
  have hr : ∀ k, k ≠ 19 → k ≠ 20 → k ≠ 2 → k ≠ 3 → k ≠ 4 → (rdE f pl M').2.1 k = M.2.1 k := fun k a b c d e => by rw [rdE_r ⟨d, e⟩, hF.2 k a b, tx_r ⟨c, d, e⟩]
  refine ⟨fun k hk => by rw [hr 1 (by decide) (by decide) (by decide) (by decide) (by decide)], ⟨?_, ?_, ?_⟩, fun k hk => by rw [hr 5 (by decide) (by decide) (by decide) (by decide) (by decide)], fun k hk => by rw [hr 6 (by decide) (by decide) (by decide) (by decide) (by decide)], fun k hk => by rw [hr 7 (by decide) (by decide) (by decide) (by decide) (by decide)], fun k hk => by rw [hr 8 (by decide) (by decide) (by decide) (by decide) (by decide)], fun k hk => by rw [hr 9 (by decide) (by decide) (by decide) (by decide) (by decide)]⟩
  · rw [rdE_r (by omega), hF.2 2 (by decide) (by decide), tx_2, pk_un (by omega)]
  · rw [rdE_3, pk_un (by omega), hF.2 3 (by decide) (by decide), tx_3, pk_un (by omega)]
  · rw [rdE_4, pk_un (by omega), hF.2 4 (by decide) (by decide), tx_4, pk_un (by omega)]
