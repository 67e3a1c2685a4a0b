/-! ===== text: told, or not told ===== -/
def clrT (S : SV) : SV := wI (wI (wI S 1 0) 2 0) 3 (-1)
theorem fs_nn : ∀ (ls : List LiN) (s : ST), 0 ≤ s.1.1.toInt → 0 ≤ (ls.foldl stL s).1.1.toInt
  | [], _, h => h
  | ln :: ls, s, h => by
    have had : ∀ fs f pl, 0 ≤ fs.1.toInt → 0 ≤ (f : Int32).toInt → 0 ≤ (adF fs f pl).1.toInt := fun fs f pl h1 h2 => by unfold adF; split; exact h2; exact h1
    have hnu : ∀ n fs, 0 ≤ fs.1.toInt → 0 ≤ (nuF ln fs n).1.toInt := by
      intro n
      induction n with
      | zero => intro fs hfs; exact hfs
      | succ n ih =>
        intro fs hfs
        show 0 ≤ (if okN ln.1 n (ln.2.2.1 0) (ln.2.2.1 n) then nuF ln fs n else adF (nuF ln fs n) 2 _).1.toInt
        split
        · exact ih fs hfs
        · exact had _ _ _ (ih fs hfs) (by decide)
    refine fs_nn ls (stL s ln) ?_
    show 0 ≤ (nuF ln (fuF s.1 s.2.1 ln) (arK ln.1)).1.toInt
    refine hnu _ _ ?_
    unfold fuF
    split
    · exact had _ _ _ h (by decide)
    · exact h
section TX
variable {Wc : WC} {z : AH} {M : SV} {ρM : RV} {S0 : SV} {ρ0 : RV} {L : Nat}
theorem tx_fail (hI : InvM Wc z M ρM) (hTR : TR 0 S0 ρ0 M z) {y : AH} {S' M' : SV} {ρ' : RV} (hl : z.length ≤ y.length) (hs : ∀ i, i < z.length → ¬ (16 ≤ i ∧ i < 21) → ¬ (38 ≤ i ∧ i < 44) → y[i]? = z[i]?) (h16 : RD 6 16 ρ0 (clrT S0) y) (h38 : RD 3 38 ρ' S' y) (hF : FrL (txM L M) M') (hf : ¬ S'.1 13 = 0) (l4 : Int32) : ∃ z1, bX9_text_141 0 l4 y = some (-1, z1) ∧ (RD 9 89 ρM M z1 ∧ 113 ≤ z1.length) ∧ InvM Wc (wr 9 89 ρM (rdE (S'.1 13) (S'.1 14) M') z1) (rdE (S'.1 13) (S'.1 14) M') ρM := by
  have h113 := hI.1
  have h0 := hI.2.2.2.1.1
  have hz : 16 + szV 6 ≤ y.length := by rw [s6]; omega
  have e := c_141 (by rw [hs 0 (by omega) (by omega) (by omega)]; exact h0) h16 h38 (by omega) l4
  rw [if_neg hf] at e
  refine ⟨_, e, ?_⟩
  obtain ⟨t1, -⟩ := id hTR
  have hr : ∀ k, k ≠ 19 → k ≠ 20 → k ≠ 2 → k ≠ 3 → k ≠ 4 → (rdE (S'.1 13) (S'.1 14) M').2.1 k = M.2.1 k := fun k a b c d e => by rw [rdE_r ⟨d, e⟩, hF.2 k a b, tx_r ⟨c, d, e⟩]
  have hso : ∀ i, ¬ (16 ≤ i ∧ i < 21) → (wr 6 16 ρ0 (wI (wI (clrT S0) 2 (S'.1 13)) 3 (S'.1 14)) y)[i]? = y[i]? := fun i hi => wr_out (by rw [s6]; omega)
  refine text_fin hI (by rw [wr_len]; exact hl) (fun i hi a b => by rw [hso i a]; exact hs i hi a b) ⟨wI (wI (clrT S0) 2 (S'.1 13)) 3 (S'.1 14), ρ0, rd_wr hz, ?_⟩ (fun s s1 _ => se_tx hF s1) (hr 55 (by decide) (by decide) (by decide) (by decide) (by decide)) ⟨ρ', S', h38.far (Or.inr (by rw [s6]; omega))⟩
  have tape : TR 0 (wI (wI (clrT S0) 2 (S'.1 13)) 3 (S'.1 14)) ρ0 (rdE (S'.1 13) (S'.1 14) M') z := by
    refine hTR.tape (fun k hk => ?_) ⟨?_, ?_, ?_, ?_⟩ rfl (fun k k1 k2 => hr k (by omega) (by omega) (by omega) (by omega) (by omega))
    · rw [hr 1 (by decide) (by decide) (by decide) (by decide) (by decide)]; exact t1 k hk
    · rw [rdE_r (by omega), hF.2 2 (by decide) (by decide), tx_2, pk_us]; rfl
    · exact ⟨by show (0 : Int) ≤ (0 : Int32).toInt; decide, by show (0 : Int32).toInt ≤ 600; decide⟩
    · rw [rdE_3, pk_us, wI_ne (by decide), wI_eq]
    · rw [rdE_4, pk_us, wI_eq]
  exact tape.mv (SE.rf _ _) (VE.rf _ _) (fun i hi hi2 => by rw [hso i (by omega)]; exact hs i hi2 (by omega) (by omega)) id
theorem grow_e {S : SV} {q sl sz : Nat} (hq : q < 4) (hsz : S.2.1 4 q = nI sz) (hszl : sz ≤ 2) (hsl : sl < 2) : gX7_grow (nI q) (nI sl) S = some (wR S 4 (upd (S.2.1 4) q (nI (if sl = sz then sz + 1 else sz)))) := by
  unfold gX7_grow
  rw [rA_nI hq (by omega), hsz]
  simp only [Option.bind_some]
  by_cases c : sl = sz
  · rw [if_pos (by rw [c]), if_pos c, wA_nI hq (by omega), ← nI_succ]; rfl
  · rw [if_neg (fun e => c ((nI_eq (by omega) (by omega)).mp e)), if_neg c, fa_upd_same hsz, wR_id]
/-- what is told: the new text stands in both -/
theorem tx_store (hI : InvM Wc z M ρM) (hTR : TR 0 S0 ρ0 M z) {y : AH} {S' M' : SV} {ρ' : RV} (hl : z.length ≤ y.length) (hs : ∀ i, i < z.length → ¬ (16 ≤ i ∧ i < 21) → ¬ (38 ≤ i ∧ i < 44) → y[i]? = z[i]?) (h38 : RD 3 38 ρ' S' y) (hF : FrL (txM L M) M') (h13 : S'.1 13 = 0) (h14 : S'.1 14 = -1) {q sl sz N : Nat} (hq : q < 4) (hsl : sl < 2) (hszl : sz ≤ 2) (hsz : S0.2.1 4 q = nI sz) (hle : sl ≤ sz) (hN : 113 ≤ N) {told : Nat → Int32} (h19 : ∀ j, j < 121 → M'.2.1 19 j = told j) {ρ1 : RV} (r5 : ρ1.2.1 5 = if q = 0 then va_up (ρ0.2.1 5) sl (some N) else ρ0.2.1 5) (r6 : ρ1.2.1 6 = if q = 0 then ρ0.2.1 6 else va_up (ρ0.2.1 6) (2 * q + sl) (some N))
    (h16 : ∃ S2, S2 = wR (clrT S0) 4 (upd (S0.2.1 4) q (nI (if sl = sz then sz + 1 else sz))) ∧ RD 6 16 ρ1 S2 y)
    (hnew : (q = 0 → ∃ (ρc : RV) (C : SV), RD 0 N ρc C y ∧ CR C (cutB told) ∧ VB (cutB told) ∧ NR (cutB told) ∧ CD C (cutB told)) ∧ (1 ≤ q → ∃ (ρb : RV) (Y : SV) (c : Nat), RD 4 N ρb Y y ∧ ρb.2.2 = moQ q ∧ RRr q c Y told)) : ∃ z1 M'', bX9_text_141 0 (nI sl) y = some (nI sl, z1) ∧ (RD 9 89 ρM M z1 ∧ 113 ≤ z1.length) ∧ gX10_storeAll (nI q) (nI sl) (wR (rdE 0 (-1) M') 5 (upd ((rdE 0 (-1) M').2.1 5) q (nI (if sl = sz then sz + 1 else sz)))) = some M'' ∧ InvM Wc (wr 9 89 ρM M'' z1) M'' ρM := by
  have h113 := hI.1
  have h0 := hI.2.2.2.1.1
  have hz : 16 + szV 6 ≤ y.length := by rw [s6]; omega
  obtain ⟨S2, eS2, h16⟩ := h16
  generalize hnz : (if sl = sz then sz + 1 else sz) = nz at *
  have hnz2 : nz ≤ 2 := by rw [← hnz]; split <;> omega
  have hless : ∀ i, i < nz → i ≠ sl → i < sz := by rw [← hnz]; intro i hi hne; split at hi <;> omega
  have e := c_141 (by rw [hs 0 (by omega) (by omega) (by omega)]; exact h0) h16 h38 (by omega) (nI sl)
  rw [if_pos h13, h13, h14] at e
  obtain ⟨f, f1, f2⟩ := m_storeAll (M := wR (rdE 0 (-1) M') 5 (upd ((rdE 0 (-1) M').2.1 5) q (nI nz))) hq hsl
  refine ⟨_, wR (wR (rdE 0 (-1) M') 5 (upd ((rdE 0 (-1) M').2.1 5) q (nI nz))) (6 + q) f, e, ?_⟩
  have hw121 : wdt q ≤ 121 := by
    have : q = 0 ∨ q = 1 ∨ q = 2 ∨ q = 3 := by omega
    rcases this with rfl | rfl | rfl | rfl <;> decide
  have hr : ∀ k, k ≠ 19 → k ≠ 20 → k ≠ 2 → k ≠ 3 → k ≠ 4 → (rdE 0 (-1) M').2.1 k = M.2.1 k := fun k a b c d e => by rw [rdE_r ⟨d, e⟩, hF.2 k a b, tx_r ⟨c, d, e⟩]
  have r19 : (wR (rdE 0 (-1) M') 5 (upd ((rdE 0 (-1) M').2.1 5) q (nI nz))).2.1 19 = M'.2.1 19 := by rw [wR_ne (by decide), rdE_r (by decide)]
  generalize hMn : wR (rdE 0 (-1) M') 5 (upd ((rdE 0 (-1) M').2.1 5) q (nI nz)) = Mn at *
  have n5 : Mn.2.1 5 = upd (M.2.1 5) q (nI nz) := by rw [← hMn, wR_eq, hr 5 (by decide) (by decide) (by decide) (by decide) (by decide)]
  have nk : ∀ k, k ≠ 5 → Mn.2.1 k = (rdE 0 (-1) M').2.1 k := fun k hk => by rw [← hMn, wR_ne hk]
  have nr : ∀ k, k ≠ 5 → k ≠ 6 + q → (wR Mn (6 + q) f).2.1 k = (rdE 0 (-1) M').2.1 k := fun k a b => by rw [wR_ne b, nk k a]
  have hso : ∀ i, ¬ (16 ≤ i ∧ i < 21) → (wr 6 16 ρ1 (wI (wI S2 2 0) 3 (-1)) y)[i]? = y[i]? := fun i hi => wr_out (by rw [s6]; omega)
  have hso2 : ∀ i, i < z.length → ¬ (16 ≤ i ∧ i < 21) → ¬ (38 ≤ i ∧ i < 44) → (wr 6 16 ρ1 (wI (wI S2 2 0) 3 (-1)) y)[i]? = z[i]? := fun i hi a b => by rw [hso i a]; exact hs i hi a b
  have hfar : ∀ {c a : Nat} {ρ : RV} {S : SV}, 113 ≤ a → RD c a ρ S y → RD c a ρ S (wr 6 16 ρ1 (wI (wI S2 2 0) 3 (-1)) y) := fun ha hR => hR.far (Or.inr (by rw [s6]; omega))
  have hblk : ∀ j, j < wdt q → blk (wR Mn (6 + q) f) (6 + q) (wdt q) 0 sl j = told j := fun j hj => by
    rw [blk0 _ _ _ _ _ hj, wR_eq, f2, if_pos (by omega), r19, show wdt q * sl + j - wdt q * sl = j by omega, h19 j (by omega)]
  have hrow : ∀ j, (j < wdt q * sl ∨ wdt q * sl + wdt q ≤ j) → (wR Mn (6 + q) f).2.1 (6 + q) j = M.2.1 (6 + q) j := fun j hj => by
    rw [wR_eq, f2, if_neg (by omega), nk _ (by omega), hr _ (by omega) (by omega) (by omega) (by omega) (by omega)]
  have fin := text_fin (M' := wR Mn (6 + q) f) hI (by rw [wr_len]; exact hl) hso2 ⟨wI (wI S2 2 0) 3 (-1), ρ1, rd_wr hz, ?_⟩ (fun s s1 s4 => ?_) ?_ ⟨ρ', S', h38.far (Or.inr (by rw [s6]; omega))⟩
  · exact ⟨fin.1, f1, fin.2⟩
  · refine tr_store hTR (fun i hi hi2 => hso2 i hi2 (by omega) (by omega)) hq hsl hnz2 hsz hszl hless (N := N) ?_ ?_ ⟨?_, ?_, ?_⟩ ⟨?_, ?_, ?_⟩ ?_ ?_ r5 r6 hrow (fun k k1 k2 hne => ?_) hN ⟨fun q0 => ?_, fun q1 => ?_⟩
    · rw [eS2]; show (wR (clrT S0) 4 _).2.1 0 = _; rw [wR_ne (by decide)]; rfl
    · rw [nr 1 (by decide) (by omega), hr 1 (by decide) (by decide) (by decide) (by decide) (by decide)]
    · rw [wI_ne (by decide), wI_ne (by decide), eS2]; rfl
    · rw [wI_ne (by decide), wI_eq]
    · rw [wI_eq]
    · rw [nr 2 (by decide) (by omega), rdE_r (by decide), hF.2 2 (by decide) (by decide), tx_2, pk_us]
    · rw [nr 3 (by decide) (by omega), rdE_3, pk_us]
    · rw [nr 4 (by decide) (by omega), rdE_4, pk_us]
    · show S2.2.1 4 = _; rw [eS2, wR_eq]
    · rw [wR_ne (by omega), n5]
    · rw [nr k (by omega) hne, hr k (by omega) (by omega) (by omega) (by omega) (by omega)]
    · obtain ⟨ρc, C, g1, g2, g3, g4, g5⟩ := hnew.1 q0
      have eb : blk (wR Mn (6 + q) f) 6 110 0 sl = cutB told := by
        subst q0
        funext j
        by_cases hj : j < 110
        · rw [cut_e hj]; exact hblk j hj
        · unfold blk cutB; rw [if_neg hj, if_neg hj]
      exact ⟨ρc, C, hfar hN g1, by rw [eb]; exact g2, by rw [eb]; exact g3, by rw [eb]; exact g4, by rw [eb]; exact g5⟩
    · obtain ⟨ρb, Y, c, g1, g2, g3⟩ := hnew.2 q1
      exact ⟨ρb, Y, hfar hN g1, by rw [g2]; exact rr_of q1 hq g3 hblk⟩
  · obtain ⟨a1, ⟨a2, a3, a4⟩, a5, a6, a7, a8, a9⟩ := se_tx (f := 0) (pl := -1) hF s1
    have hx : ∀ k w, 6 ≤ k → k < 10 → w = wdt (k - 6) → ∀ j, (wR Mn (6 + q) f).2.1 k (2 * w * s + j) = (rdE 0 (-1) M').2.1 k (2 * w * s + j) := by
      intro k w k1 k2 hw j
      by_cases e : k = 6 + q
      · subst e
        rw [show 6 + q - 6 = q by omega] at hw
        subst hw
        rw [hrow _ (Or.inr ?_), hr _ (by omega) (by omega) (by omega) (by omega) (by omega)]
        have h1 : wdt q * sl ≤ wdt q * 1 := Nat.mul_le_mul_left _ (by omega)
        have h2 : 2 * wdt q * 1 ≤ 2 * wdt q * s := Nat.mul_le_mul_left _ s1
        omega
      · rw [nr k (by omega) e]
    refine ⟨fun k hk => ?_, ⟨?_, ?_, ?_⟩, fun k hk => ?_, fun k hk => ?_, fun k hk => ?_, fun k hk => ?_, fun k hk => ?_⟩
    · rw [nr 1 (by decide) (by omega)]; exact a1 k hk
    · rw [nr 2 (by decide) (by omega)]; exact a2
    · rw [nr 3 (by decide) (by omega)]; exact a3
    · rw [nr 4 (by decide) (by omega)]; exact a4
    · rw [wR_ne (by omega), n5, pk_un (by omega)]
    · rw [show 220 * s + k = 2 * 110 * s + k by omega, hx 6 110 (by omega) (by omega) rfl, show 2 * 110 * s + k = 220 * s + k by omega]; exact a6 k hk
    · rw [show 242 * s + k = 2 * 121 * s + k by omega, hx 7 121 (by omega) (by omega) rfl, show 2 * 121 * s + k = 242 * s + k by omega]; exact a7 k hk
    · rw [show 34 * s + k = 2 * 17 * s + k by omega, hx 8 17 (by omega) (by omega) rfl, show 2 * 17 * s + k = 34 * s + k by omega]; exact a8 k hk
    · rw [show 98 * s + k = 2 * 49 * s + k by omega, hx 9 49 (by omega) (by omega) rfl, show 2 * 49 * s + k = 98 * s + k by omega]; exact a9 k hk
  · rw [nr 55 (by decide) (by omega), hr 55 (by decide) (by decide) (by decide) (by decide) (by decide)]
end TX
