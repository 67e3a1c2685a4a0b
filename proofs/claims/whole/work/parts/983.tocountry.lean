/-! ===== text: toCountry ===== -/
theorem t0_at {k : Nat} (h5 : k ≠ 5) (h30 : ¬ (30 ≤ k ∧ k ≤ 37)) : t0q 0 k = 0 := by
  unfold t0q
  rw [if_neg (fun e => h30 e.2), if_neg (fun e => h5 e.2)]
theorem ci_0 {f' : Nat → Int32} (hf : ∀ t, t < 8 → f' t = -1) : CI ((fun k => if k = 19 then 3 else 0), (fun k => if k = 4 then f' else fun _ => 0), 0) (s0q 0) := by
  have e1 : (s0q 0).2.1 = t0q 0 := rfl
  refine ⟨⟨?_, ?_⟩, ?_, ⟨?_, ?_, ?_⟩, ?_, ?_⟩
  · intro e he
    have : ∀ e, e ∈ inT → (if e.1 = 19 then (3 : Int32) else 0) = t0q 0 e.2 := by decide +kernel
    exact this e he
  · intro e he t ht
    rw [e1]
    have h2 : ∀ e, e ∈ roT → 6 ≤ e.2.1 ∧ (e.1 = 4 → e = (4, 30, 8)) ∧ (e.1 ≠ 4 → e.2.1 + e.2.2 ≤ 30 ∨ 38 ≤ e.2.1) := by decide +kernel
    obtain ⟨a1, a2, a3⟩ := h2 e he
    by_cases c : e.1 = 4
    · rw [a2 c] at ht ⊢
      show f' t = t0q 0 (30 + t)
      replace ht : t < 8 := ht
      rw [hf t ht]
      unfold t0q
      rw [if_pos ⟨rfl, by omega, by omega⟩]
    · show (if e.1 = 4 then f' else fun _ => 0) t = _
      have := a3 c
      rw [if_neg c, t0_at (by omega) (by omega)]
  · intro e he t ht
    rw [e1]
    rcases rg_in e he (e.1 + t) (by
      have : ∀ e, e ∈ rgT → e.1 + e.2.1 ≤ 110 := by decide
      have := this e he; omega) ⟨by omega, by omega⟩ with q | q | q | q | q
    · rw [q.1, q.2]; exact ⟨by decide, by decide⟩
    · rw [t0_at (by omega) (by omega), q.2.2]; exact ⟨by decide, by decide⟩
    · rw [t0_at (by omega) (by omega), q.2.2]; exact ⟨by decide, by decide⟩
    · rw [t0_at (by omega) (by omega), q.2.2]; exact ⟨by decide, by decide⟩
    · rw [t0_at (by omega) (by omega), q.2.2]; exact ⟨by decide, by decide⟩
  · intro t ht
    rw [e1]
    have : t0q 0 (30 + t) = -1 := by unfold t0q; rw [if_pos ⟨rfl, by omega, by omega⟩]
    rw [this]; exact ⟨by decide, Int.le_refl _⟩
  · intro t ht
    rw [e1, t0_at (by omega) (by omega), t0] at ht; omega
  · intro t ht
    rw [e1, t0_at (by omega) (by omega), t0] at ht; omega
  · intro t ht k hk
    show bt (0 : Int32) k = true ↔ _
    rw [b_0]
    refine ⟨fun q => absurd q (by decide), fun q => ?_⟩
    obtain ⟨-, p, hp, -⟩ := q
    rw [e1, t0_at (by omega) (by omega), t0] at hp; omega
  · intro t ht; rfl
theorem z_toCountry {L : Nat} (hL : L ≤ 600) {y : AH} {ρ : RV} {S M : SV} (hR : RD 3 38 ρ S y) (h113 : 113 ≤ y.length) (h8 : S.1 8 = nI L) {ls : List LiN} (hH : HLs ls S) (hLQ : LQ 0 ls) (h5 : S.1 5 = nI ls.length) (hlen : ls.length ≤ 120) (hfs : (ls.foldl stL (s0q 0)).1.1 = 0) (hM : RMs 0 (ls.foldl stL (s0q 0)) M) : ∃ (y2 : AH) (S2 : SV) (e : Nat), fX4_toCountry 38 y = some (y.length, y2) ∧ gX10_endFault M = some (nI e) ∧ e ≤ 6 ∧ y.length ≤ y2.length ∧ (∀ i, i < y.length → ¬ (38 ≤ i ∧ i < 44) → y2[i]? = y[i]?) ∧ RD 3 38 ρ S2 y2 ∧ ((e = 0 ∧ S2 = S ∧ ∃ ρc C, RD 0 y.length ρc C y2 ∧ CR C (cutB (ls.foldl stL (s0q 0)).2.1) ∧ VB (cutB (ls.foldl stL (s0q 0)).2.1) ∧ NR (cutB (ls.foldl stL (s0q 0)).2.1) ∧ CD C (cutB (ls.foldl stL (s0q 0)).2.1)) ∨ (¬ e = 0 ∧ S2.1 13 = nI e ∧ S2.1 14 = nI L)) := by
  have hs3 : 38 + szV 3 ≤ y.length := by rw [s3]; omega
  have hk9 : ∀ ln, ln ∈ ls → ln.1 < 9 := fun ln hm => (hLQ ln hm).2
  obtain ⟨f', hf', hinit⟩ := i_country y
  have hrd := rd_country y f'
  have hci := ci_0 hf'
  generalize hcells : ([.inr (.inr (0, [.int 0, .ref (y.length + 1), .ref (y.length + 2), .ref (y.length + 3), .ref (y.length + 4), .ref (y.length + 5), .ref (y.length + 6), .int 0, .ref (y.length + 7), .ref (y.length + 8), .int 0, .int 0, .ref (y.length + 9), .ref (y.length + 10), .int 0, .ref (y.length + 11), .ref (y.length + 12), .ref (y.length + 13), .ref (y.length + 14), .int 3])), .inl (0, 8, fun _ => 0), .inl (0, 8, fun _ => 0), .inl (0, 8, fun _ => 0), .inl (0, 8, f'), .inl (0, 8, fun _ => 0), .inl (0, 8, fun _ => 0), .inl (0, 12, fun _ => 0), .inl (0, 12, fun _ => 0), .inl (0, 4, fun _ => 0), .inl (0, 4, fun _ => 0), .inl (0, 4, fun _ => 0), .inl (0, 4, fun _ => 0), .inl (0, 16, fun _ => 0), .inl (0, 16, fun _ => 0)] : AH) = cells at hinit hrd
  have hcl : cells.length = 15 := by rw [← hcells]; rfl
  generalize hy1 : y ++ cells = y1 at hinit hrd
  have hl1 : y1.length = y.length + 15 := by rw [← hy1, List.length_append, hcl]
  have hz0 : y.length + szV 0 ≤ y1.length := by rw [hl1]; exact Nat.le_refl _
  have hR1 : RD 3 38 ρ S y1 := by rw [← hy1]; exact hR.app hs3 _
  have hRw : ∀ (ρb : RV) (Y : SV), RD 3 38 ρ S (wr 0 y.length ρb Y y1) := fun ρb Y => hR1.far (Or.inl (by rw [s3]; omega))
  have hkeep : ∀ (ρb : RV) (Y : SV), ∀ i, i < y.length → (wr 0 y.length ρb Y y1)[i]? = y[i]? := fun ρb Y i hi => by rw [wr_out (Or.inl hi), ← hy1, List.getElem?_append_left hi]
  generalize (((fun _ => none), (fun _ _ => none), 0) : RV) = ρ0 at hrd
  generalize (((fun k => if k = 19 then 3 else 0), (fun k => if k = 4 then f' else fun _ => 0), 0) : SV) = C0 at hrd hci
  obtain ⟨sf1, -⟩ := sf0 0
  -- the lines
  have lines := lpR (fun u (w : Int32 × AH) => fX4_toCountry_10 u 38 y.length w.1 w.2) (fun i w => w.1 = nI i ∧ ∃ C, w.2 = wr 0 y.length ρ0 C y1 ∧ CI C ((ls.take i).foldl stL (s0q 0))) (fun b => ∃ C, b = bX4_toCountry_74 38 y.length (wr 0 y.length ρ0 C y1) ∧ CI C (ls.foldl stL (s0q 0))) ls.length ?_ ?_ (0, y1) ⟨rfl, C0, (wr_id hrd).symm, hci⟩ FU (by rw [FUn]; omega)
  · obtain ⟨C, k1, k2⟩ := lines
    replace k1 : fX4_toCountry_10 FU 38 y.length 0 y1 = bX4_toCountry_74 38 y.length (wr 0 y.length ρ0 C y1) := k1
    have estart : fX4_toCountry 38 y = bX4_toCountry_74 38 y.length (wr 0 y.length ρ0 C y1) := by
      unfold fX4_toCountry
      rw [if_pos (isO_rd hR)]
      show ((fX0_init y.length (y ++ [.inr (.inr (0, newF 0))])).bind fun z4 => fX4_toCountry_10 FU 38 y.length 0 z4) = _
      rw [show fX0_init y.length (y ++ [.inr (.inr (0, newF 0))]) = some y1 from hinit, Option.bind_some]
      exact k1
    rw [estart]
    have hsf : SFp 0 (ls.foldl stL (s0q 0)).2.1 := fold_sf (by omega) ls hLQ (s0q 0) sf1
    have hff := fun T Lf R => fa_fold (T := T) (Lf := Lf) (R := R) ls hk9 (s0q 0)
    generalize ls.foldl stL (s0q 0) = s at *
    obtain ⟨hCR, hA, hF, hN⟩ := id k2
    have sf : ∀ k c p, k < 9 → ctK k = true → cnK k = p → moK k = c → ∃ x, x ≤ c ∧ s.2.1 p = nI x := fun k c p hk hc e1 e2 => by
      obtain ⟨x, x1, x2⟩ := hsf k (Nat.zero_le _) hk hc
      exact ⟨x, by omega, by rw [← e1]; exact x2⟩
    obtain ⟨n, hn, en⟩ := sf 0 8 0 (by omega) rfl rfl rfl
    obtain ⟨x2, l2, q2⟩ := sf 4 4 2 (by omega) rfl rfl rfl
    obtain ⟨x3, l3, q3⟩ := sf 5 4 3 (by omega) rfl rfl rfl
    obtain ⟨c, hc, ec⟩ := sf 3 4 4 (by omega) rfl rfl rfl
    have c0 : C.1 0 = s.2.1 0 := hCR.1 (0, 0) (by decide)
    have c10 : C.1 10 = s.2.1 2 := hCR.1 (10, 2) (by decide)
    have c11 : C.1 11 = s.2.1 3 := hCR.1 (11, 3) (by decide)
    obtain ⟨r, r1, r2⟩ := c_nobody (hRw ρ0 C) (rd_wr hz0) hH hLQ h5 hlen
    rw [c0, c10, c11] at r2
    have hinit0 : ¬ faP (s.2.1 0) (s.2.1 2) (s.2.1 3) (s0q 0).2.2 := by
      unfold faP
      rw [en, q2, q3]
      rintro (q | q | q)
      · rw [fa_le, nI_toInt (by omega)] at q; exact absurd q (show ¬ (n : Int) ≤ -1 by omega)
      · rw [fa_le, nI_toInt (by omega)] at q; exact absurd q (show ¬ (x2 : Int) ≤ -1 by omega)
      · rw [fa_le, nI_toInt (by omega)] at q; exact absurd q (show ¬ (x3 : Int) ≤ -1 by omega)
    have hnob : (∃ ln, ln ∈ ls ∧ msB (s.2.1 0) (s.2.1 2) (s.2.1 3) ln) ↔ faP (s.2.1 0) (s.2.1 2) (s.2.1 3) s.2.2 := by
      rw [hff]
      exact ⟨Or.inr, fun q => by rcases q with q | q; exact absurd q hinit0; exact q⟩
    rw [hnob] at r2
    -- the class's find
    have find : ∀ e : Nat, ∃ y2 S2, fX4_find 38 (nI e) (nI L) (wr 0 y.length ρ0 C y1) = some y2 ∧ y.length ≤ y2.length ∧ (∀ i, i < y.length → ¬ (38 ≤ i ∧ i < 44) → y2[i]? = y[i]?) ∧ RD 3 38 ρ S2 y2 ∧ S2.1 13 = nI e ∧ S2.1 14 = nI L := by
      intro e
      have hzz : 38 + szV 3 ≤ (wr 0 y.length ρ0 C y1).length := by rw [wr_len, hl1, s3]; omega
      have := r_find (ρ := ρ) (S := S) hzz (nI e) (nI L)
      rw [wr_id (hRw ρ0 C)] at this
      refine ⟨_, _, this, by rw [wr_len, wr_len, hl1]; omega, fun i hi h => ?_, rd_wr hzz, by rw [wI_ne (by decide), wI_eq], wI_eq⟩
      rw [wr_out (by rw [s3]; omega), hkeep ρ0 C i hi]
    have e8 : gI 3 8 (wr 0 y.length ρ0 C y1) 38 = some (nI L) := by rw [gI_rd (hRw ρ0 C) (k := 8) rfl, h8]
    obtain ⟨-, h19, hfar⟩ := hM
    obtain ⟨m21, m22, m23⟩ := hfar rfl
    have ra : ∀ p, p < 121 → rA 121 (M.2.1 19) (nI p) = some (s.2.1 p) := fun p hp => by rw [rA_nI hp (by omega), h19 p hp]
    unfold bX4_toCountry_74
    rw [r1, Option.bind_some]
    rcases r2 with ⟨rfl, hfa⟩ | ⟨rfl, hfa⟩
    · rw [if_neg (show ¬ (1 : Int32) = 0 by decide), e8, Option.bind_some]
      obtain ⟨y2, S2, f1, f2, f3, f4, f5, f6⟩ := find 4
      replace f1 : fX4_find 38 4 (nI L) (wr 0 y.length ρ0 C y1) = some y2 := f1
      rw [f1, Option.bind_some]
      refine ⟨y2, S2, 4, rfl, ?_, by omega, f2, f3, f4, Or.inr ⟨by decide, f5, f6⟩⟩
      unfold gX10_endFault
      rw [show rA 121 (M.2.1 19) 0 = some (s.2.1 0) from ra 0 (by omega), show rA 121 (M.2.1 19) 2 = some (s.2.1 2) from ra 2 (by omega), show rA 121 (M.2.1 19) 3 = some (s.2.1 3) from ra 3 (by omega), m21, m22, m23]
      simp only [Option.bind_some]
      by_cases d1 : s.2.1 0 ≤ s.2.2.1
      · rw [if_pos d1]; rfl
      · rw [if_neg d1]
        by_cases d2 : s.2.1 2 ≤ s.2.2.2.1
        · rw [if_pos d2]; rfl
        · rw [if_neg d2]
          have d3 : s.2.1 3 ≤ s.2.2.2.2 := by
            rcases hfa with q | q | q
            · exact absurd q d1
            · exact absurd q d2
            · exact q
          rw [if_neg (show ¬ s.2.2.2.2 < s.2.1 3 by rw [fa_lt]; rw [fa_le] at d3; omega)]; rfl
    · rw [if_pos rfl]
      obtain ⟨hre, hvb, hcr⟩ := told_ok k2 hsf hfa en hn
      have hC0 : C.1 0 = nI n := c0.trans en
      have hC4 : ∀ t, t < 8 → C.2.1 4 t = s.2.1 (30 + t) := fun t ht => hCR.2 (4, 30, 8) (by decide) t ht
      obtain ⟨a, a1, a2⟩ := c_ring hC0 hC4 hre
      obtain ⟨b, b1, b2_⟩ := m_ring (M := M) h19 en hre
      have hCh : RD 0 y.length ρ0 C (wr 0 y.length ρ0 C y1) := rd_wr hz0
      have efirst : ∀ R : Option Int32, ((gX10_isRing M).bind fun x44 => if x44 = 0 then (gX10_isTwice M).bind fun x55 => if x55 = 0 then some 0 else some 6 else some 5) = R → gX10_endFault M = R := by
        intro R hR2
        rw [← hR2]
        unfold gX10_endFault
        rw [show rA 121 (M.2.1 19) 0 = some (s.2.1 0) from ra 0 (by omega), show rA 121 (M.2.1 19) 2 = some (s.2.1 2) from ra 2 (by omega), show rA 121 (M.2.1 19) 3 = some (s.2.1 3) from ra 3 (by omega), m21, m22, m23]
        simp only [Option.bind_some]
        rw [if_neg (fun q => hfa (Or.inl q)), if_neg (fun q => hfa (Or.inr (Or.inl q))), if_pos (show s.2.2.2.2 < s.2.1 3 from fa_of_nle (fun q => hfa (Or.inr (Or.inr q))))]
      rw [eX0_hasRing hCh, a1, Option.bind_some]
      rcases a2 with ⟨rfl, t, ht, hring⟩ | ⟨rfl, hno⟩
      · have eb : b = 1 := by
          rcases b2_ with ⟨e, -⟩ | ⟨-, e⟩
          · exact e
          · exact absurd (e t ht) hring
        subst eb
        rw [if_neg (show ¬ (1 : Int32) = 0 by decide), e8, Option.bind_some]
        obtain ⟨y2, S2, f1, f2, f3, f4, f5, f6⟩ := find 5
        replace f1 : fX4_find 38 5 (nI L) (wr 0 y.length ρ0 C y1) = some y2 := f1
        rw [f1, Option.bind_some]
        refine ⟨y2, S2, 5, rfl, efirst _ ?_, by omega, f2, f3, f4, Or.inr ⟨by decide, f5, f6⟩⟩
        rw [b1, Option.bind_some, if_neg (show ¬ (1 : Int32) = 0 by decide)]; rfl
      · have eb : b = 0 := by
          rcases b2_ with ⟨-, t, ht, e⟩ | ⟨e, -⟩
          · exact absurd (hno t ht) e
          · exact e
        subst eb
        rw [if_pos rfl, eX0_sharesEye hCh]
        obtain ⟨a, a1, a2⟩ := c_twice (B := s.2.1) hc ((hCR.1 (14, 4) (by decide)).trans ec) (fun t ht => ⟨hCR.2 (15, 46, 4) (by decide) t ht, hCR.2 (16, 50, 4) (by decide) t ht⟩)
        obtain ⟨b, b3, b4⟩ := m_twice (M := M) hc h19 ec
        rw [a1, Option.bind_some]
        rcases a2 with ⟨rfl, htw⟩ | ⟨rfl, htw⟩
        · have eb : b = 1 := by
            rcases b4 with ⟨e, -⟩ | ⟨-, e⟩
            · exact e
            · exact absurd htw e
          subst eb
          rw [if_neg (show ¬ (1 : Int32) = 0 by decide), e8, Option.bind_some]
          obtain ⟨y2, S2, f1, f2, f3, f4, f5, f6⟩ := find 6
          replace f1 : fX4_find 38 6 (nI L) (wr 0 y.length ρ0 C y1) = some y2 := f1
          rw [f1, Option.bind_some]
          refine ⟨y2, S2, 6, rfl, efirst _ ?_, by omega, f2, f3, f4, Or.inr ⟨by decide, f5, f6⟩⟩
          rw [b1, Option.bind_some, if_pos rfl, b3, Option.bind_some, if_neg (show ¬ (1 : Int32) = 0 by decide)]; rfl
        · have eb : b = 0 := by
            rcases b4 with ⟨-, e⟩ | ⟨e, -⟩
            · exact absurd e htw
            · exact e
          subst eb
          obtain ⟨f, g1, g2⟩ := c_above hC0 hC4 hre hno hN.2
          rw [if_pos rfl, eX0_findAbove hz0, g1]
          refine ⟨wr 0 y.length ρ0 (wR C 5 f) y1, S, 0, rfl, efirst _ ?_, by omega, by rw [wr_len, hl1]; omega, fun i hi _ => hkeep ρ0 _ i hi, hRw ρ0 _, Or.inl ⟨rfl, rfl, ρ0, wR C 5 f, rd_wr hz0, hcr.w5 f, hvb, ⟨fun t ht => ?_, fun i j hij hj => ?_⟩, fun t ht => ⟨fun k hk => ?_, fun k hk => ?_⟩⟩⟩
          · rw [b1, Option.bind_some, if_pos rfl, b3, Option.bind_some, if_pos rfl]; rfl
          · rw [cut_e (by omega), en, nI_toInt (by omega)] at ht
            rw [dn_cut hre 8 t (by omega)]; exact hno t (by omega)
          · rw [cut_e (by omega), ec, nI_toInt (by omega)] at hj
            rw [cut_e (by omega), cut_e (by omega), cut_e (by omega), cut_e (by omega)]
            exact ⟨fun q => htw ⟨j, i, hij, by omega, Or.inl q.symm⟩, fun q => htw ⟨j, i, hij, by omega, Or.inr q.symm⟩⟩
          · rw [wR_eq, g2 t ht k hk, cut_e (by omega), en, nI_toInt (by omega)]
            constructor
            · rintro ⟨u1, m, u2, u3⟩
              exact ⟨by omega, m, u2, by rw [dn_cut hre (m + 1) k u1]; exact u3⟩
            · rintro ⟨u1, m, u2, u3⟩
              exact ⟨by omega, m, u2, by rw [← dn_cut hre (m + 1) k (by omega)]; exact u3⟩
          · rw [wR_ne (by decide), hN.1 t ht k hk]
            obtain ⟨x1, l1, q1⟩ := sf 2 12 1 (by omega) rfl rfl rfl
            refine and_congr_right (fun _ => (isNr_same (told' := cutB s.2.1) (cut_e (by omega)) (fun p hp => ?_) t k).symm)
            rw [q1, nI_toInt (by omega)] at hp
            exact ⟨cut_e (by omega), cut_e (by omega)⟩
  · rintro i hi ⟨l, w⟩ ⟨e1, C, e2, e3⟩
    replace e1 : l = nI i := e1
    replace e2 : w = wr 0 y.length ρ0 C y1 := e2
    subst e1 e2
    left
    obtain ⟨ln, hln⟩ : ∃ ln, ls[i]? = some ln := ⟨ls[i], List.getElem?_eq_getElem hi⟩
    have hmem : ln ∈ ls := List.mem_of_getElem? hln
    have k2 := hk9 ln hmem
    obtain ⟨g1, g2, g3⟩ := hH i ln hln
    have hst := fold_take hln (s0q 0)
    have f0 := fs_pre hfs i
    have f1 := fs_pre hfs (i + 1)
    rw [hst] at f1
    have hsfi : SFp 0 ((ls.take i).foldl stL (s0q 0)).2.1 := fold_sf (by omega) _ (fun l hm => hLQ l (List.mem_of_mem_take hm)) (s0q 0) sf1
    obtain ⟨C', t1, t2⟩ := tell_both (ρ := ρ0) (N := y.length) hz0 e3 hsfi k2 (lk_of k2 f0 f1 hsfi) (x0 := S.2.1 2 (3 * i + 0)) (x1 := S.2.1 2 (3 * i + 1)) (x2 := S.2.1 2 (3 * i + 2)) (fun h => (g3 0 h).1) (fun h => (g3 1 h).1) (fun h => (g3 2 h).1)
    refine ⟨(nI (i + 1), wr 0 y.length ρ0 C' y1), fun u => ?_, rfl, C', rfl, by rw [hst]; exact t2⟩
    have eix : ∀ j, (3 : Int32) * nI i + nI j = nI (3 * i + j) := fun j => by rw [show (3 : Int32) = nI 3 from rfl, pk_mul, nI_add]
    have eix0 : (3 : Int32) * nI i = nI (3 * i + 0) := by rw [show (3 : Int32) = nI 3 from rfl, pk_mul]; rfl
    show bX4_toCountry_10 _ _ _ _ _ = _
    unfold bX4_toCountry_10
    rw [gI_rd (hRw ρ0 C) (k := 5) rfl, h5]
    simp only [Option.bind_some]
    rw [if_neg (nI_ge hi (by omega)), if_neg (show ¬ (120 : Int32) ≤ nI i from nI_ge (b := 120) (by omega) (by omega)), gN_rd (hRw ρ0 C) (k := 2) rfl (Or.inl rfl), gN_rd (hRw ρ0 C) (k := 0) rfl (Or.inl rfl)]
    simp only [Option.bind_some]
    rw [show (3 : Int32) * nI i + 1 = nI (3 * i + 1) from eix 1, show (3 : Int32) * nI i + 2 = nI (3 * i + 2) from eix 2, eix0, ixI_rd (hRw ρ0 C) (k := 2) rfl rfl (by decide) 0 rfl (by decide), ixI_rd (hRw ρ0 C) (k := 2) rfl rfl (by decide) 0 rfl (by decide), ixI_rd (hRw ρ0 C) (k := 2) rfl rfl (by decide) 0 rfl (by decide), ixI_rd (hRw ρ0 C) (k := 0) rfl rfl (by decide) 0 rfl (by decide), rA_nI (by omega) (by omega), rA_nI (by omega) (by omega), rA_nI (by omega) (by omega), rA_nI (by omega) (by omega), g1]
    simp only [Option.bind_some]
    rw [t1]
    simp only [Option.bind_some]
    rw [nmE, ← nI_succ]
  · rintro ⟨l, w⟩ ⟨e1, C, e2, e3⟩
    replace e1 : l = nI ls.length := e1
    replace e2 : w = wr 0 y.length ρ0 C y1 := e2
    subst e1 e2
    rw [List.take_length] at e3
    refine ⟨_, fun u => ?_, C, rfl, e3⟩
    show bX4_toCountry_10 _ _ _ _ _ = _
    unfold bX4_toCountry_10
    rw [gI_rd (hRw ρ0 C) (k := 5) rfl, h5]
    simp only [Option.bind_some]
    rw [if_pos (nI_le (Nat.le_refl _) (by omega))]
