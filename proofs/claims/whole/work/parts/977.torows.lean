/-! ===== text: toRows ===== -/
theorem RD.app {c a : Nat} {ρ : RV} {S : SV} {y : AH} (h : RD c a ρ S y) (hl : a + szV c ≤ y.length) (l : AH) : RD c a ρ S (y ++ l) := h.same (fun i _ i2 => List.getElem?_append_left (by omega))
theorem mr_ok : ∀ q, q < 4 → 1 ≤ q → sIx 5 (nI q) = some (nI (moQ q)) := by decide +kernel
theorem fk_ok : ∀ q, q < 4 → sIx 0 (nI q) = some (nI (wLo q)) := by decide +kernel
theorem tp01 : ∀ k, k < 20 → (∃ x, fX4_top (nI k) 0 = some x ∧ (x = -1 ↔ ¬ 0 < arK k)) ∧ (∃ x, fX4_top (nI k) 1 = some x ∧ (x = -1 ↔ ¬ 1 < arK k)) := by
  intro k hk
  obtain ⟨a1, a2⟩ := tp_ok k hk 0 (by omega)
  obtain ⟨b1, b2_⟩ := tp_ok k hk 1 (by omega)
  exact ⟨⟨_, a1, by rw [a2]; omega⟩, ⟨_, b1, by rw [b2_]; omega⟩⟩
theorem z_toRows {y : AH} {ρ : RV} {S : SV} (hR : RD 3 38 ρ S y) (h113 : 113 ≤ y.length) {q : Nat} (h1 : 1 ≤ q) (hq : q < 4) (h6 : S.1 6 = nI q) {ls : List LiN} (hH : HLs ls S) (hLQ : LQ q ls) (h5 : S.1 5 = nI ls.length) (hlen : ls.length ≤ 120) (hfs : (ls.foldl stL (s0q q)).1.1 = 0) : ∃ (y2 : AH) (Y : SV) (ρb : RV), fX4_toRows 38 y = some (y.length, y2) ∧ y.length ≤ y2.length ∧ (∀ i, i < y.length → y2[i]? = y[i]?) ∧ RD 4 y.length ρb Y y2 ∧ ρb.2.2 = moQ q ∧ ∃ c, RRr q c Y (ls.foldl stL (s0q q)).2.1 := by
  obtain ⟨v1, -⟩ := w_q q hq
  have hm40 : moQ q ≤ 40 := by unfold moQ; repeat' split
                               all_goals omega
  have hs3 : 38 + szV 3 ≤ y.length := by rw [s3]; omega
  have hinit := i_rows y hm40
  have hrd := rd_rows y (m := moQ q)
  generalize hcells : ([.inr (.inr (4, [.ref (y.length + 1), .ref (y.length + 2), .ref (y.length + 3), .int 0])), .inl (0, moQ q, fun _ => 0), .inl (0, moQ q, fun _ => 0), .inl (0, moQ q, fun _ => 0)] : AH) = cells at hinit hrd
  have hcl : cells.length = 4 := by rw [← hcells]; rfl
  generalize hy1 : y ++ cells = y1 at hinit hrd
  have hl1 : y1.length = y.length + 4 := by rw [← hy1, List.length_append, hcl]
  have hz4 : y.length + szV 4 ≤ y1.length := by rw [hl1]; exact Nat.le_refl _
  have hR1 : RD 3 38 ρ S y1 := by rw [← hy1]; exact hR.app hs3 _
  have hRw : ∀ (ρb : RV) (Y : SV), RD 3 38 ρ S (wr 4 y.length ρb Y y1) := fun ρb Y => hR1.far (Or.inl (by rw [s3]; omega))
  generalize hρb : (((fun _ => none), (fun _ _ => none), moQ q) : RV) = ρb at hrd
  have hρ2 : ρb.2.2 = moQ q := by rw [← hρb]
  generalize hY0 : (((fun _ => 0), (fun _ _ => 0), 0) : SV) = Y0 at hrd
  have key := lpR (fun u (w : Int32 × AH) => fX4_toRows_18 u 38 y.length w.1 w.2) (fun i w => w.1 = nI i ∧ ∃ Y, w.2 = wr 4 y.length ρb Y y1 ∧ RRr q i Y ((ls.take i).foldl stL (s0q q)).2.1) (fun b => ∃ Y, b = some (y.length, wr 4 y.length ρb Y y1) ∧ RRr q ls.length Y (ls.foldl stL (s0q q)).2.1) ls.length ?_ ?_ (0, y1) ⟨rfl, Y0, (wr_id hrd).symm, by rw [← hY0]; exact ⟨rfl, by show t0q q 0 = _; unfold t0q; rw [if_neg (by omega), if_neg (by omega)]; rfl, Nat.zero_le _, fun k hk => by omega⟩⟩ FU (by rw [FUn]; omega)
  · obtain ⟨Y, k1, k2⟩ := key
    refine ⟨wr 4 y.length ρb Y y1, Y, ρb, ?_, by rw [wr_len, hl1]; omega, fun i hi => ?_, rd_wr hz4, hρ2, ls.length, k2⟩
    · unfold fX4_toRows
      rw [if_pos (isO_rd hR)]
      show ((gI 3 6 (y ++ [.inr (.inr (4, newF 4))]) 38).bind fun x8 => (sIx 5 x8).bind fun x11 => (fX5_init y.length x11 (y ++ [.inr (.inr (4, newF 4))])).bind fun z12 => fX4_toRows_18 FU 38 y.length 0 z12) = _
      rw [gI_rd (hR.app hs3 _) (k := 6) rfl, h6]
      simp only [Option.bind_some]
      rw [mr_ok q hq h1]
      simp only [Option.bind_some]
      rw [show fX5_init y.length (nI (moQ q)) (y ++ [.inr (.inr (4, newF 4))]) = some y1 from hinit]
      simp only [Option.bind_some]
      exact k1
    · rw [wr_out (Or.inl hi), ← hy1, List.getElem?_append_left hi]
  · rintro i hi ⟨l, w⟩ ⟨e1, Y, e2, e3⟩
    replace e1 : l = nI i := e1
    replace e2 : w = wr 4 y.length ρb Y y1 := e2
    subst e1 e2
    left
    obtain ⟨ln, hln⟩ : ∃ ln, ls[i]? = some ln := ⟨ls[i], List.getElem?_eq_getElem hi⟩
    obtain ⟨k1, k2⟩ := hLQ ln (List.mem_of_getElem? hln)
    obtain ⟨g1, g2, g3⟩ := hH i ln hln
    have hk20 : ln.1 < 20 := by omega
    have hst := fold_take hln (s0q q)
    have f0 := fs_pre hfs i
    have f1 := fs_pre hfs (i + 1)
    rw [hst] at f1
    obtain ⟨-, -, -, hct⟩ := tb_row h1 hq k1 k2 ((ls.take i).foldl stL (s0q q)).2.1
    obtain ⟨Y', a1, a2⟩ := add_both h1 hq k1 k2 (fs_good f1) e3 (fs_room f0 f1 hct)
    obtain ⟨⟨x0, p1, p2⟩, ⟨x1, p3, p4⟩⟩ := tp01 ln.1 hk20
    have eadd : fX5_add y.length (nI ln.1 - nI (wLo q)) (fiK ln) (seK ln) (wr 4 y.length ρb Y y1) = some (wr 4 y.length ρb Y' y1) := by
      rw [eX5_add hz4, hρ2, pk_sub k1, a1]; rfl
    refine ⟨(nI (i + 1), wr 4 y.length ρb Y' y1), fun u => ?_, rfl, Y', rfl, by rw [hst]; exact a2⟩
    have eix0 : (3 : Int32) * nI i = nI (3 * i + 0) := by rw [show (3 : Int32) = nI 3 from rfl, pk_mul]; rfl
    have eix1 : (3 : Int32) * nI i + 1 = nI (3 * i + 1) := by rw [show (3 : Int32) = nI 3 from rfl, pk_mul, ← nI_succ]
    have e85 : ∀ u, bX4_toRows_85 (fX4_toRows_18 u) 38 y.length (nI i) (nI ln.1) (fiK ln) (seK ln) (wr 4 y.length ρb Y y1) = fX4_toRows_18 u 38 y.length (nI (i + 1)) (wr 4 y.length ρb Y' y1) := by
      intro u
      unfold bX4_toRows_85
      rw [gI_rd (hRw ρb Y) (k := 6) rfl, h6]
      simp only [Option.bind_some]
      rw [fk_ok q hq]
      simp only [Option.bind_some]
      rw [eadd]
      simp only [Option.bind_some]
      rw [nmE, ← nI_succ]
    have e60 : ∀ u, bX4_toRows_60 (fX4_toRows_18 u) 38 y.length (nI i) (nI ln.1) (fiK ln) (wr 4 y.length ρb Y y1) = fX4_toRows_18 u 38 y.length (nI (i + 1)) (wr 4 y.length ρb Y' y1) := by
      intro u
      unfold bX4_toRows_60
      rw [p3]
      simp only [Option.bind_some]
      by_cases c : 1 < arK ln.1
      · rw [if_neg (fun e => (p4.mp e) c), gN_rd (hRw ρb Y) (k := 2) rfl (Or.inl rfl)]
        simp only [Option.bind_some]
        rw [eix1, ixI_rd (hRw ρb Y) (k := 2) rfl rfl (by decide) 0 rfl (by decide), rA_nI (by omega) (by omega), (g3 1 c).1]
        simp only [Option.bind_some]
        rw [show ln.2.2.1 1 = seK ln from by unfold seK; rw [if_pos c]]
        exact e85 u
      · rw [if_pos (p4.mpr c)]
        have := e85 u
        rw [show seK ln = -1 from by unfold seK; rw [if_neg c]] at this
        exact this
    show bX4_toRows_18 _ _ _ _ _ = _
    unfold bX4_toRows_18
    rw [gI_rd (hRw ρb Y) (k := 5) rfl, h5]
    simp only [Option.bind_some]
    rw [if_neg (nI_ge hi (by omega)), if_neg (show ¬ (120 : Int32) ≤ nI i from nI_ge (b := 120) (by omega) (by omega)), gN_rd (hRw ρb Y) (k := 0) rfl (Or.inl rfl)]
    simp only [Option.bind_some]
    rw [ixI_rd (hRw ρb Y) (k := 0) rfl rfl (by decide) 0 rfl (by decide), rA_nI (by omega) (by omega), g1]
    simp only [Option.bind_some]
    rw [p1]
    simp only [Option.bind_some]
    by_cases c : 0 < arK ln.1
    · rw [if_neg (fun e => (p2.mp e) c), gN_rd (hRw ρb Y) (k := 2) rfl (Or.inl rfl)]
      simp only [Option.bind_some]
      rw [eix0, ixI_rd (hRw ρb Y) (k := 2) rfl rfl (by decide) 0 rfl (by decide), rA_nI (by omega) (by omega), (g3 0 c).1]
      simp only [Option.bind_some]
      rw [show ln.2.2.1 0 = fiK ln from by unfold fiK; rw [if_pos c]]
      exact e60 u
    · rw [if_pos (p2.mpr c)]
      have := e60 u
      rw [show fiK ln = -1 from by unfold fiK; rw [if_neg c]] at this
      exact this
  · rintro ⟨l, w⟩ ⟨e1, Y, e2, e3⟩
    replace e1 : l = nI ls.length := e1
    replace e2 : w = wr 4 y.length ρb Y y1 := e2
    subst e1 e2
    rw [List.take_length] at e3
    refine ⟨some (y.length, wr 4 y.length ρb Y y1), fun u => ?_, Y, rfl, e3⟩
    show bX4_toRows_18 _ _ _ _ _ = _
    unfold bX4_toRows_18
    rw [gI_rd (hRw ρb Y) (k := 5) rfl, h5]
    simp only [Option.bind_some]
    rw [if_pos (nI_le (Nat.le_refl _) (by omega))]
