/-! ===== text, the query ===== -/
theorem okN_N {t N : Nat} {y : AH} {ρ : RV} {S : SV} {fs : List Value} (h : y[N]? = some (.inr (.inr (t, fs)))) (hN : 113 ≤ N) : okQ t (wr 6 16 ρ S y) (some N) = true := okQ_of (c := 6) (a := 16) (fun c hc => by have : N = c := Option.some.inj hc; subst this; exact ⟨hN, fs, h⟩) (by rw [s6]; omega)
theorem qu_text (Wc : WC) : Qu_text Wc := by
  intro z M ρM hI a1 a2
  have hsk := hI.2.2.2.1
  have h113 := hI.1
  have hc0 := hsk.1
  obtain ⟨S0, ρ0, hT0, hTR⟩ := hI.2.2.1 0 (by omega)
  replace hT0 : RD 6 16 ρ0 S0 z := hT0
  obtain ⟨ρr, Sr, hRr⟩ := hsk.2.2.1
  obtain ⟨t1', ⟨t2, t3, t4, t5⟩, t6, -⟩ := id hTR
  obtain ⟨L, hL, eL, -⟩ := nx_of (b := 600) t3 (by omega)
  have hz6 : 16 + szV 6 ≤ z.length := by rw [s6]; omega
  have hM2 : M.2.1 2 0 = nI L := by rw [← t2, eL]
  have k0 : ∀ S', (wr 6 16 ρ0 S' z)[0]? = some (.inr (.inr (8, [.ref 16, .ref 21, .ref 37, .ref 38, .ref 44, .ref 49, .ref 83, .ref 87]))) := fun S' => by rw [wr_out (Or.inl (by omega))]; exact hc0
  have p1 : pF 6 1 z 16 (.int 0) = some (wr 6 16 ρ0 (wI S0 1 0) z) := by
    have := pF_int (ρ := ρ0) (S := S0) hz6 (k := 1) rfl 0
    rw [wr_id hT0] at this; exact this
  -- the class ahead of the slot
  have etext : ∀ x, gX7_slotFor a1 a2 (clrT S0) = some x → fX9_text 0 a1 a2 z = (if (0 : Int32) ≤ x then ((fX4_read 38 17 (nI L) a1 (wr 6 16 ρ0 (clrT S0) z)).bind fun z64 => (gN 8 3 z64 0).bind fun b68 => (gI 3 13 z64 b68).bind fun x71 => if x71 = 0 then (if a1 = 0 then ((gN 8 3 z64 0).bind fun b82 => b2 (fX4_toCountry b82 z64) fun b85 z85 => (gN 8 3 z85 0).bind fun b91 => (gI 3 13 z85 b91).bind fun x94 => if x94 = 0 then ((gN 8 0 z85 0).bind fun b101 => (fX7_putCountry b101 x b85 z85).bind fun z108 => bX9_text_111 0 x z108) else bX9_text_111 0 x z85) else bX9_text_114 0 a1 x z64) else bX9_text_114 0 a1 x z64) else some (-2, wr 6 16 ρ0 (clrT S0) z)) := by
    intro x hx
    unfold fX9_text
    rw [if_pos (x9_o hsk), (g8 hc0).1, Option.bind_some, gI_rd hT0 (k := 1) rfl, Option.bind_some, eL, Option.bind_some, p1, Option.bind_some, (g8 (k0 _)).1, Option.bind_some, pF_int hz6 rfl, Option.bind_some, (g8 (k0 _)).1, Option.bind_some, pF_int hz6 rfl, Option.bind_some, (g8 (k0 _)).1, Option.bind_some, eX7_slotFor (rd_wr hz6), show gX7_slotFor a1 a2 (wI (wI (wI S0 1 0) 2 0) 3 (-1)) = some x from hx, Option.bind_some, (g8 (k0 _)).2, Option.bind_some, Option.bind_some, show gN 6 0 (wr 6 16 ρ0 (wI (wI (wI S0 1 0) 2 0) 3 (-1)) z) 16 = some 17 from gN_rd (rd_wr hz6) (k := 0) rfl (Or.inr (Or.inl rfl)), Option.bind_some]
    rfl
  have hcl4 : (clrT S0).2.1 4 = S0.2.1 4 := rfl
  rcases slot_cases (S := clrT S0) (fun k hk => by rw [hcl4]; exact (t6 k hk).2) a1 a2 with ⟨q, sl, sz, hq, rfl, hsl, hszl, hsz, hslot, hsel⟩ | ⟨hslot, hbad⟩
  · rw [hcl4] at hsz
    have hM5 : M.2.1 5 q = nI sz := by have := (t6 q hq).1; rw [show 4 * 0 + q = q by omega] at this; rw [← this]; exact hsz
    have hle : sl ≤ sz := by omega
    -- both read
    have hRT : RT (S0.2.1 0) L (wr 6 16 ρ0 (clrT S0) z) := by
      refine ⟨?_, hL, by rw [wr_len]; omega⟩
      exact (rd_wr (ρ := ρ0) (S := clrT S0) hz6).2 1 0 rfl (by decide)
    have hMT : MT (S0.2.1 0) L (txM L M) := ⟨rfl, hL, fun k hk => by rw [tx_r (by decide)]; have := (t1' k hk).1; rw [show 600 * 0 + k = k by omega] at this; exact this.symm⟩
    have hR29 : RD 3 38 ρr Sr (wr 6 16 ρ0 (clrT S0) z) := hRr.far (Or.inr (by rw [s6]; omega))
    obtain ⟨S', ρ', e1, e6, e8, hRO⟩ := read_both hRT hq hR29 hMT
    have hly : (wr 3 38 ρ' S' (wr 6 16 ρ0 (clrT S0) z)).length = z.length := by rw [wr_len, wr_len]
    have hsy : ∀ i, ¬ (16 ≤ i ∧ i < 21) → ¬ (38 ≤ i ∧ i < 44) → (wr 3 38 ρ' S' (wr 6 16 ρ0 (clrT S0) z))[i]? = z[i]? := fun i a b => by rw [wr_out (by rw [s3]; omega), wr_out (by rw [s6]; omega)]
    have h16y : RD 6 16 ρ0 (clrT S0) (wr 3 38 ρ' S' (wr 6 16 ρ0 (clrT S0) z)) := (rd_wr hz6).far (Or.inl (by rw [s6]; omega))
    have h38y : RD 3 38 ρ' S' (wr 3 38 ρ' S' (wr 6 16 ρ0 (clrT S0) z)) := rd_wr (by rw [wr_len, s3]; omega)
    have het := etext _ hslot
    rw [if_pos (nI_pos' (by omega)), e1, Option.bind_some] at het
    generalize wr 3 38 ρ' S' (wr 6 16 ρ0 (clrT S0) z) = y at *
    have hy0 : y[0]? = some (.inr (.inr (8, [.ref 16, .ref 21, .ref 37, .ref 38, .ref 44, .ref 49, .ref 83, .ref 87]))) := by rw [hsy 0 (by omega) (by omega)]; exact hc0
    rw [(g8 hy0).2, Option.bind_some, gI_rd h38y (k := 13) rfl, Option.bind_some] at het
    -- the reference ahead of reading
    have ein : ¬ fX10_in (nI q) 0 3 = 0 := m_in0 (by rw [t0, nI_toInt (by omega)]; have : (3 : Int32).toInt = 3 := rfl; omega)
    have eref : gX10_text (nI q) a2 M = gbX10_text_75 (nI q) a2 (txM L M) := by
      rw [m_text hM2, if_neg ein]
      rcases hsel with ⟨d, e⟩ | ⟨d, es, e⟩
      · rw [if_pos d, rA_nI (by omega) (by omega), hM5, Option.bind_some, if_neg (show ¬ nI sz = 2 from fun g => by have := (nI_eq (b := 2) (by omega) (by omega)).mp g; omega)]
      · rw [if_neg d, m_is (M := txM L M) (by omega) (by rw [tx_r (by decide), hM5]; exact nI_rng (m := 2) hszl (by omega)), tx_r (by decide), hM5, Option.bind_some, if_pos (show 0 ≤ a2.toInt ∧ a2.toInt < (nI sz).toInt by rw [es, nI_toInt (by omega), nI_toInt (by omega)]; omega), if_neg (by decide)]
    -- not told
    have refFail : ∀ M3, gX10_readText (nI q) (txM L M) = some (0, M3) → gX10_text (nI q) a2 M = some (-1, M3) := fun M3 h => by
      rw [eref]; unfold gbX10_text_75; rw [h, b2_some, if_pos rfl]
    have fail : ∀ M', FrL (txM L M) M' → ¬ S'.1 13 = 0 → gX10_readText (nI q) (txM L M) = some (0, rdE (S'.1 13) (S'.1 14) M') → ∃ (r : Int32) (z1 : AH) (M2 : SV), fX9_text 0 (nI q) a2 z = some (r, z1) ∧ (RD 9 89 ρM M z1 ∧ 113 ≤ z1.length) ∧ gX10_text (nI q) a2 M = some (r, M2) ∧ InvM Wc (wr 9 89 ρM M2 z1) M2 ρM := by
      intro M' hF hf hr
      obtain ⟨z1, c1, c2, c3⟩ := tx_fail (L := L) hI hTR (by omega) (fun i _ a b => hsy i a b) h16y h38y hF hf (nI sl)
      refine ⟨-1, z1, _, ?_, c2, refFail _ hr, c3⟩
      rw [het, if_neg hf]
      unfold bX9_text_114
      rw [(g8 hy0).2, Option.bind_some, gI_rd h38y (k := 13) rfl, Option.bind_some, if_neg hf]
      exact c1
    rcases hRO with ⟨w, M', r1, r2, r3, r4⟩ | ⟨ls, M', r1, r2, r3, r4, r5, r6, r7, r8, r9⟩
    · exact fail M' r4 (by rw [r1]; decide) (by rw [r1, r2]; exact r3)
    · have h17 := r6.1.1
      have hnn := fs_nn ls (s0q q) (by show (0 : Int) ≤ (0 : Int32).toInt; decide)
      by_cases hfs : (ls.foldl stL (s0q q)).1.1 = 0
      · -- no fault in the lines
        have s13 : S'.1 13 = 0 ∧ S'.1 14 = -1 := by
          rcases r5 with ⟨-, a, b⟩ | ⟨a, -⟩
          · exact ⟨a, b⟩
          · exact absurd hfs a
        have e122 : gbX10_readText_122 1 M' = some (1, rdE 0 (-1) M') := by
          rw [m_122_ok M' (by rw [h17]; exact hnn), h17, if_pos hfs, hfs, if_pos rfl]
        -- the reference told
        have refTold : gX10_readText (nI q) (txM L M) = some (1, rdE 0 (-1) M') → ∀ M3, gX10_storeAll (nI q) (nI sl) (wR (rdE 0 (-1) M') 5 (upd ((rdE 0 (-1) M').2.1 5) q (nI (if sl = sz then sz + 1 else sz)))) = some M3 → gX10_text (nI q) a2 M = some (nI sl, M3) := by
          intro hr M3 h3
          have m5 : (rdE 0 (-1) M').2.1 5 q = nI sz := by rw [rdE_r (by decide), r8.2 5 (by decide) (by decide), tx_r (by decide)]; exact hM5
          have rA5 : rA 16 ((rdE 0 (-1) M').2.1 5) (nI q) = some (nI sz) := by rw [rA_nI (by omega) (by omega), m5]
          have e118 : ∀ d : Nat, (if sl = sz then sz + 1 else sz) = sz + d → gbX10_text_118 (nI q) (nI sl) 5 (nI q) (nI sz) (nI d) (rdE 0 (-1) M') = some (nI sl, M3) := by
            intro d hd
            unfold gbX10_text_118
            rw [nI_add, ← hd, wA_nI (show q < aLen 9 5 from by show q < 16; omega) (by decide), Option.bind_some, h3]; rfl
          rw [eref]
          unfold gbX10_text_75
          rw [hr, b2_some, if_neg (show ¬ (1 : Int32) = 0 by decide)]
          rcases hsel with ⟨d, e⟩ | ⟨d, es, e⟩
          · rw [if_pos d, rA5, Option.bind_some]
            unfold gbX10_text_100
            rw [rA5, Option.bind_some, if_pos d, ← e]
            have := e118 1 (by rw [if_pos e])
            rw [← e] at this; exact this
          · rw [if_neg d, es]
            unfold gbX10_text_100
            rw [rA5, Option.bind_some, if_neg (show ¬ nI sl = -1 from nI_m1 (by omega))]
            exact e118 0 (by rw [if_neg (by omega)]; rfl)
        by_cases cq : q = 0
        · subst cq
          obtain ⟨y2, S2, e, z1_, z2_, z3_, z4_, z5_, z6_, z7_⟩ := z_toCountry hL h38y (by omega) e8 r3 r4 r1 r2 hfs r6
          rw [s13.1, if_pos rfl, if_pos (show nI 0 = 0 from rfl), Option.bind_some, z1_, b2_some] at het
          have hy20 : y2[0]? = some (.inr (.inr (8, [.ref 16, .ref 21, .ref 37, .ref 38, .ref 44, .ref 49, .ref 83, .ref 87]))) := by rw [z5_ 0 (by omega) (by omega)]; exact hy0
          have hs2 : ∀ i, i < z.length → ¬ (16 ≤ i ∧ i < 21) → ¬ (38 ≤ i ∧ i < 44) → y2[i]? = z[i]? := fun i hi a b => by rw [z5_ i (by omega) b]; exact hsy i a b
          have h16y2 : RD 6 16 ρ0 (clrT S0) y2 := h16y.same (fun i i1 i2 => z5_ i (by rw [s6] at i2; omega) (by rw [s6] at i2; omega))
          rw [(g8 hy20).2, Option.bind_some, gI_rd z6_ (k := 13) rfl, Option.bind_some] at het
          have er : gX10_readText (nI 0) (txM L M) = ((gX10_endFault M').bind fun x104 => if x104 ≤ 0 then gbX10_readText_122 1 M' else (gX10_endFault M').bind fun x112 => (gX10_later x112 (M'.1 12) M').bind fun S119 => gbX10_readText_122 1 S119) := by
            rw [r9, if_pos (show nI 0 = 0 from rfl), if_pos (by rw [h17]; exact hfs)]
          rw [z2_] at er
          simp only [Option.bind_some] at er
          rcases z7_ with ⟨rfl, rfl, ρc, C, c1, c2, c3, c4, c5⟩ | ⟨ne, n13, n14⟩
          · -- told
            rw [s13.1, if_pos rfl, (g8 hy20).1, Option.bind_some] at het
            rw [if_pos (show nI 0 ≤ 0 by decide), e122] at er
            have hz62 : 16 + szV 6 ≤ y2.length := by rw [s6]; omega
            have hcell : ∃ fs, y2[y.length]? = some (.inr (.inr (0, fs))) := ⟨_, c1.1⟩
            obtain ⟨fs, hcell⟩ := hcell
            have put : fX7_putCountry 16 (nI sl) y.length y2 = some (wr 6 16 (wQ ρ0 5 sl (some y.length)) (wR (clrT S0) 4 (upd (S0.2.1 4) 0 (nI (if sl = sz then sz + 1 else sz)))) y2) := by
              have hst := stQ_rd (ρ := ρ0) (S := clrT S0) rkOk6 hz62 (k := 5) (off := 3) (n := 2) (t := 0) rfl rfl (by decide) hsl (by omega) (okN_N (ρ := ρ0) (S := clrT S0) hcell (by omega))
              rw [wr_id h16y2] at hst
              unfold fX7_putCountry
              rw [if_pos (isO_rd h16y2), if_neg (nI_pos (by omega)), if_neg (show ¬ (2 : Int32) ≤ nI sl from nI_ge (b := 2) hsl (by omega)), gN_rd h16y2 (k := 5) rfl (Or.inr (Or.inr (Or.inr rfl))), Option.bind_some, hst, Option.bind_some, eX7_grow hz62, show gX7_grow 0 (nI sl) (clrT S0) = some (wR (clrT S0) 4 (upd ((clrT S0).2.1 4) 0 (nI (if sl = sz then sz + 1 else sz)))) from grow_e (q := 0) (by omega) hsz hszl hsl]
              rfl
            rw [put, Option.bind_some] at het
            generalize hy3 : wr 6 16 (wQ ρ0 5 sl (some y.length)) (wR (clrT S0) 4 (upd (S0.2.1 4) 0 (nI (if sl = sz then sz + 1 else sz)))) y2 = y3 at het
            have hs3' : ∀ i, ¬ (16 ≤ i ∧ i < 21) → y3[i]? = y2[i]? := fun i hi => by rw [← hy3, wr_out (by rw [s6]; omega)]
            obtain ⟨z1, M3, f1, f2, f3, f4⟩ := tx_store (L := L) (y := y3) (ρ' := ρ') (S' := S2) (q := 0) (sl := sl) (sz := sz) (N := y.length) (ρ1 := wQ ρ0 5 sl (some y.length)) hI hTR (by rw [← hy3, wr_len]; omega) (fun i hi a b => by rw [hs3' i a]; exact hs2 i hi a b) (z6_.same (fun i i1 i2 => hs3' i (by omega))) r8 s13.1 s13.2 (by omega) hsl hszl hsz hle (by omega) r6.2.1 (by rw [if_pos rfl]; simp [wQ]) (by rw [if_pos rfl]; simp [wQ]) ⟨_, rfl, by rw [← hy3]; exact rd_wr hz62⟩ ⟨fun _ => ⟨ρc, C, c1.same (fun i i1 i2 => hs3' i (by omega)), c2, c3, c4, c5⟩, fun h => by omega⟩
            exact ⟨nI sl, z1, M3, by rw [het]; exact f1, f2, refTold er M3 f3, f4⟩
          · -- a fault of the whole
            rw [if_neg (show ¬ S2.1 13 = 0 by rw [n13]; exact fun g => ne ((nI_eq (b := 0) (by omega) (by omega)).mp g))] at het
            rw [if_neg (show ¬ nI e ≤ 0 from fun g => ne (by have := (nI_leI (b := 0) (by omega) (by omega)).mp g; omega))] at er
            obtain ⟨M5, k1, k2, k3, k4⟩ := m_later (M := M') r6.1 (f := nI e) (fun g => ne ((nI_eq (b := 0) (by omega) (by omega)).mp g)) (b := L) (fun g => absurd hfs g) (by omega)
            rw [r7, k1, Option.bind_some] at er
            have had : adF (ls.foldl stL (s0q 0)).1 (nI e) (nI L) = (nI e, nI L) := by unfold adF; rw [if_pos hfs]
            rw [had] at k2
            have k17 : M5.1 17 = nI e := k2.1
            have k18 : M5.1 18 = nI L := k2.2 (fun g => ne ((nI_eq (b := 0) (by omega) (by omega)).mp g))
            have hF5 : FrL (txM L M) M5 := r8.tr ⟨fun k a b c d => k3 k (by omega) (by omega), fun k _ _ => by rw [k4]⟩
            have hne0 : ¬ nI e = 0 := fun g => ne ((nI_eq (b := 0) (by omega) (by omega)).mp g)
            rw [m_122_ok M5 (by rw [k17, nI_toInt (by omega)]; omega), k17, if_neg hne0, if_neg hne0, k18] at er
            obtain ⟨z1, c1, c2, c3⟩ := tx_fail (L := L) hI hTR (by omega) hs2 h16y2 z6_ hF5 (by rw [n13]; exact fun g => ne ((nI_eq (b := 0) (by omega) (by omega)).mp g)) (nI sl)
            rw [n13, n14] at c3
            exact ⟨-1, z1, _, by rw [het]; exact c1, c2, refFail _ er, c3⟩
        · -- Rows
          have q1 : 1 ≤ q := by omega
          have nq0 : ¬ nI q = 0 := fun e => cq ((nI_eq (b := 0) (by omega) (by omega)).mp e)
          have er : gX10_readText (nI q) (txM L M) = some (1, rdE 0 (-1) M') := by rw [r9, if_neg nq0, e122]
          obtain ⟨y2, Y, ρb, z1_, z2_, z3_, z4_, z5_, c, z6_⟩ := z_toRows h38y (by omega) q1 hq e6 r3 r4 r1 r2 hfs
          have hy20 : y2[0]? = some (.inr (.inr (8, [.ref 16, .ref 21, .ref 37, .ref 38, .ref 44, .ref 49, .ref 83, .ref 87]))) := by rw [z3_ 0 (by omega)]; exact hy0
          have hs2 : ∀ i, i < z.length → ¬ (16 ≤ i ∧ i < 21) → ¬ (38 ≤ i ∧ i < 44) → y2[i]? = z[i]? := fun i hi a b => by rw [z3_ i (by omega)]; exact hsy i a b
          have h16y2 : RD 6 16 ρ0 (clrT S0) y2 := h16y.same (fun i i1 i2 => z3_ i (by rw [s6] at i2; omega))
          have h38y2 : RD 3 38 ρ' S' y2 := h38y.same (fun i i1 i2 => z3_ i (by rw [s3] at i2; omega))
          have hz62 : 16 + szV 6 ≤ y2.length := by rw [s6]; omega
          rw [s13.1, if_pos rfl, if_neg nq0] at het
          unfold bX9_text_114 at het
          rw [(g8 hy0).2, Option.bind_some, gI_rd h38y (k := 13) rfl, Option.bind_some, s13.1, if_pos rfl, (g8 hy0).1, Option.bind_some, Option.bind_some, z1_, b2_some] at het
          have hcell : ∃ fs, y2[y.length]? = some (.inr (.inr (4, fs))) := ⟨_, z4_.1⟩
          obtain ⟨fs, hcell⟩ := hcell
          have put : fX7_putRows 16 (nI q) (nI sl) y.length y2 = some (wr 6 16 (wQ ρ0 6 (2 * q + sl) (some y.length)) (wR (clrT S0) 4 (upd (S0.2.1 4) q (nI (if sl = sz then sz + 1 else sz)))) y2) := by
            have hst := stQ_rd (ρ := ρ0) (S := clrT S0) rkOk6 hz62 (k := 6) (off := 4) (n := 8) (t := 4) rfl rfl (by decide) (i := 2 * q + sl) (by omega) (by omega) (okN_N (ρ := ρ0) (S := clrT S0) hcell (by omega))
            rw [wr_id h16y2] at hst
            unfold fX7_putRows
            rw [if_pos (isO_rd h16y2), if_neg (nI_pos (by omega)), if_neg (show ¬ (4 : Int32) ≤ nI q from nI_ge (b := 4) hq (by omega)), if_neg (nI_pos (by omega)), if_neg (show ¬ (2 : Int32) ≤ nI sl from nI_ge (b := 2) hsl (by omega)), gN_rd h16y2 (k := 6) rfl (Or.inr (Or.inr (Or.inr rfl))), Option.bind_some, show (2 : Int32) = nI 2 from rfl, pk_mul, nI_add, hst, Option.bind_some, eX7_grow hz62, grow_e (S := clrT S0) hq hsz hszl hsl]
            rfl
          rw [put, Option.bind_some] at het
          generalize hy3 : wr 6 16 (wQ ρ0 6 (2 * q + sl) (some y.length)) (wR (clrT S0) 4 (upd (S0.2.1 4) q (nI (if sl = sz then sz + 1 else sz)))) y2 = y3 at het
          have hs3' : ∀ i, ¬ (16 ≤ i ∧ i < 21) → y3[i]? = y2[i]? := fun i hi => by rw [← hy3, wr_out (by rw [s6]; omega)]
          obtain ⟨z1, M3, f1, f2, f3, f4⟩ := tx_store (L := L) (y := y3) (ρ' := ρ') (S' := S') (q := q) (sl := sl) (sz := sz) (N := y.length) (ρ1 := wQ ρ0 6 (2 * q + sl) (some y.length)) hI hTR (by rw [← hy3, wr_len]; omega) (fun i hi a b => by rw [hs3' i a]; exact hs2 i hi a b) (h38y2.same (fun i i1 i2 => hs3' i (by omega))) r8 s13.1 s13.2 hq hsl hszl hsz hle (by omega) r6.2.1 (by rw [if_neg cq]; simp [wQ]) (by rw [if_neg cq]; simp [wQ]) ⟨_, rfl, by rw [← hy3]; exact rd_wr hz62⟩ ⟨fun h => absurd h cq, fun _ => ⟨ρb, Y, c, z4_.same (fun i i1 i2 => hs3' i (by omega)), z5_, z6_⟩⟩
          exact ⟨nI sl, z1, M3, by rw [het]; exact f1, f2, refTold er M3 f3, f4⟩
      · -- a fault in the lines
        have s13 : S'.1 13 = (ls.foldl stL (s0q q)).1.1 ∧ S'.1 14 = (ls.foldl stL (s0q q)).1.2 := by
          rcases r5 with ⟨a, -⟩ | ⟨-, a, b⟩
          · exact absurd a hfs
          · exact ⟨a, b⟩
        refine fail M' r8 (by rw [s13.1]; exact hfs) ?_
        have e122 : gbX10_readText_122 1 M' = some (0, rdE (S'.1 13) (S'.1 14) M') := by
          rw [m_122_ok M' (by rw [h17]; exact hnn), h17, if_neg hfs, if_neg hfs, r6.1.2 hfs, s13.1, s13.2]
        rw [r9]
        by_cases cq : nI q = 0
        · rw [if_pos cq, if_neg (by rw [h17]; exact hfs), e122]
        · rw [if_neg cq, e122]
  · have het := etext _ hslot
    rw [if_neg (show ¬ (0 : Int32) ≤ -2 by decide)] at het
    have eref : gX10_text a1 a2 M = some (-2, txM L M) := by
      rw [m_text hM2]
      rcases hbad with h | ⟨q, sz, hq, rfl, hszl, hsz, hsel⟩
      · rw [if_pos h]
      · rw [hcl4] at hsz
        have hM5 : M.2.1 5 q = nI sz := by have := (t6 q hq).1; rw [show 4 * 0 + q = q by omega] at this; rw [← this]; exact hsz
        have ein : ¬ fX10_in (nI q) 0 3 = 0 := m_in0 (by rw [t0, nI_toInt (by omega)]; have : (3 : Int32).toInt = 3 := rfl; omega)
        rw [if_neg ein]
        rcases hsel with ⟨d, e⟩ | ⟨d, e⟩
        · rw [if_pos d, rA_nI (by omega) (by omega), hM5, Option.bind_some, if_pos (show nI sz = 2 by rw [e]; rfl)]
        · rw [if_neg d, m_is (M := txM L M) (by omega) (by rw [tx_r (by decide), hM5]; exact nI_rng (m := 2) hszl (by omega)), tx_r (by decide), hM5, Option.bind_some, if_neg (show ¬ (0 ≤ a2.toInt ∧ a2.toInt < (nI sz).toInt) by rw [nI_toInt (by omega)]; exact e), if_pos rfl]
    have := hI.now (S' := clrT S0) (ρ' := ρ0) (M' := txM L M) ?_ (fun s s1 s2 => ?_) (tx_r (by decide))
    · exact ⟨_, _, _, het, this.1, eref, this.2⟩
    · refine hTR.tape (fun k hk => by rw [tx_r (by decide)]; exact t1' k hk) ⟨?_, ?_, ?_, ?_⟩ rfl (fun k k1 k2 => tx_r (by omega))
      · rw [tx_2, pk_us]; rfl
      · exact ⟨by show (0 : Int) ≤ (0 : Int32).toInt; decide, by show (0 : Int32).toInt ≤ 600; decide⟩
      · rw [tx_3, pk_us]; rfl
      · rw [tx_4, pk_us]; rfl
    · refine ⟨fun k _ => by rw [tx_r (by decide)], ⟨?_, ?_, ?_⟩, fun k _ => by rw [tx_r (by decide)], fun k _ => by rw [tx_r (by decide)], fun k _ => by rw [tx_r (by decide)], fun k _ => by rw [tx_r (by decide)], fun k _ => by rw [tx_r (by decide)]⟩
      · rw [tx_2, pk_un (by omega)]
      · rw [tx_3, pk_un (by omega)]
      · rw [tx_4, pk_un (by omega)]
