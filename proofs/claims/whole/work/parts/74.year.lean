/-! ===== scenes in the heap; till, state, lasts, keystone ===== -/
theorem scr5 : scr 5 44 := by unfold scr; omega
theorem land_cases {Wc : WC} {z : AH} {M : SV} {ρM : RV} (hI : InvM Wc z M ρM) (k : Int32) :
    (∃ (i a : Nat) (ρc : RV) (C : SV) (n c : Nat), i < 2 ∧ k = nI i ∧ fX7_countryAt 16 k z = some (some a) ∧ 113 ≤ a ∧ RD 0 a ρc C z ∧ CX C (blk M 6 110 0 i) n c ∧ ∀ M1 : SV, M1.2.1 5 = M.2.1 5 → M1.2.1 6 = M.2.1 6 → ∀ S, ∃ S' M', gX6_begin C S = some S' ∧ gX10_hand k M1 = some (1, M') ∧ MX (blk M 6 110 0 i) i n c (C.2.1 5) M' ∧ FrH M1 M' ∧ SR n (C.2.1 5) S' M' ∧ BG C S S') ∨
    (fX7_countryAt 16 k z = some none ∧ ∀ M1 : SV, M1.2.1 5 = M.2.1 5 → gX10_hand k M1 = some (0, M1)) := by
  rcases cty_cases hI k with ⟨i, a, ρc, C, hi, rfl, h1, h2, h3, h4, h5, h6, h7, h8⟩ | ⟨h1, h8⟩
  · obtain ⟨n, c, hx⟩ := cx_of h4 h5 h6 h7
    refine Or.inl ⟨i, a, ρc, C, n, c, hi, rfl, h1, h2, h3, hx, fun M1 e5 e6 S => ?_⟩
    exact hand_both hx hi (fun j hj => by rw [e6, blk0 _ _ _ _ _ hj]) (h8 M1 e5) S
  · refine Or.inr ⟨h1, fun M1 e5 => ?_⟩
    unfold gX10_hand
    rw [h8 M1 e5]; rfl
section ZB
variable {Wc : WC} {z : AH} {M : SV} {ρM : RV} {a : Nat} {ρc ρ : RV} {C : SV}
theorem z_k (hI : InvM Wc z M ρM) (ρ : RV) (S : SV) : SK (wr 5 44 ρ S z) := (hI.scratch scr5 (by decide) ρ S).2.2.2.1
theorem z_g (hI : InvM Wc z M ρM) (ρ : RV) (S : SV) : gN 8 4 (wr 5 44 ρ S z) 0 = some 44 := x9_g (k := 4) (x := 44) (z_k hI ρ S) rfl
theorem z_C (hC : RD 0 a ρc C z) (ha : 113 ≤ a) (ρ : RV) (S : SV) : RD 0 a ρc C (wr 5 44 ρ S z) := hC.far (Or.inr (by rw [s5]; omega))
theorem z_S (hI : InvM Wc z M ρM) (ρ : RV) (S : SV) : RD 5 44 ρ S (wr 5 44 ρ S z) := rd_wr (by rw [s5]; have := hI.1; omega)
theorem z_z (hI : InvM Wc z M ρM) : 44 + szV 5 ≤ z.length := by rw [s5]; have := hI.1; omega
theorem z_d (ha : 113 ≤ a) : a + szV 0 ≤ 44 ∨ 44 + szV 5 ≤ a := Or.inr (by rw [s5]; omega)
theorem z_d4 (ha : 113 ≤ a) : a + szV 4 ≤ 44 ∨ 44 + szV 5 ≤ a := Or.inr (by rw [s5]; omega)
theorem z_begin (hI : InvM Wc z M ρM) (hC : RD 0 a ρc C z) (ha : 113 ≤ a) {S S' : SV} (hS : RD 5 44 ρ S z) (h : gX6_begin C S = some S') : fX6_begin 44 a z = some (wr 5 44 (va_up ρ.1 0 (some a), ρ.2) S' z) := by
  have := eX6_begin (ρ := ρ) (z_z hI) hC (z_d ha) S
  rw [wr_id hS, h] at this; exact this
theorem z_land (ρ : RV) (a : Nat) : (va_up ρ.1 0 (some a), ρ.2).1 0 = some a := by simp [va_up]
end ZB
/-! a YEAR, in both -/
def YW (M0 : SV) (iy : Nat) (Y : SV) (m n : Nat) (M : SV) : Prop := M.1 38 = nI iy ∧ M.2.1 7 = M0.2.1 7 ∧ (iy < 2 ∧ n ≤ 40 ∧ m = 40) ∧ Y.1 3 = nI n ∧ M0.2.1 7 (121 * iy) = nI n ∧ ∀ k, k < n → Y.2.1 0 k = M0.2.1 7 (121 * iy + (1 + 3 * k)) ∧ Y.2.1 1 k = M0.2.1 7 (121 * iy + (2 + 3 * k)) ∧ Y.2.1 2 k = M0.2.1 7 (121 * iy + (3 + 3 * k)) ∧ (Y.2.1 0 k = 0 → rng (Y.2.1 1 k) 0 3)
section YW
variable {M0 : SV} {iy : Nat} {Y : SV} {m n : Nat} {M : SV}
theorem YW.to (h : YW M0 iy Y m n M) {M' : SV} (h1 : M'.1 38 = M.1 38) (h2 : M'.2.1 7 = M.2.1 7) : YW M0 iy Y m n M' := ⟨h1.trans h.1, h2.trans h.2.1, h.2.2⟩
theorem YW.fs (h : YW M0 iy Y m n M) {M' : SV} (hf : FrS M M') : YW M0 iy Y m n M' := h.to (hf.i (by omega)) (hf.r (by decide) (by decide))
theorem YW.fh (h : YW M0 iy Y m n M) {M' : SV} (hf : FrH M M') : YW M0 iy Y m n M' := h.to (hf.i (by omega)) (hf.r (by omega))
theorem YW.hi (h : YW M0 iy Y m n M) : iy < 2 := h.2.2.1.1
theorem YW.hn (h : YW M0 iy Y m n M) : n ≤ 40 := h.2.2.1.2.1
theorem YW.hm (h : YW M0 iy Y m n M) : m = 40 := h.2.2.1.2.2
theorem YW.e3 (h : YW M0 iy Y m n M) : Y.1 3 = nI n := h.2.2.2.1
theorem YW.b0 (h : YW M0 iy Y m n M) : M0.2.1 7 (121 * iy) = nI n := h.2.2.2.2.1
theorem YW.bk (h : YW M0 iy Y m n M) {k : Nat} (hk : k < n) : Y.2.1 0 k = M0.2.1 7 (121 * iy + (1 + 3 * k)) ∧ Y.2.1 1 k = M0.2.1 7 (121 * iy + (2 + 3 * k)) ∧ Y.2.1 2 k = M0.2.1 7 (121 * iy + (3 + 3 * k)) ∧ (Y.2.1 0 k = 0 → rng (Y.2.1 1 k) 0 3) := h.2.2.2.2.2 k hk
theorem YW.deeds (h : YW M0 iy Y m n M) : gX10_deeds M = some (nI n) := by
  unfold gX10_deeds
  have hi := h.hi
  rw [h.1, h.2.1, show (121 : Int32) = nI 121 from rfl, pk_mul, rA_nI (by omega) (by omega), h.b0]; rfl
theorem YW.deedOf (h : YW M0 iy Y m n M) {k : Nat} (hk : k < n) : gX10_deedOf (nI k) 0 M = some (Y.2.1 0 k) ∧ gX10_deedOf (nI k) 1 M = some (Y.2.1 1 k) ∧ gX10_deedOf (nI k) 2 M = some (Y.2.1 2 k) := by
  have hi := h.hi
  have hn := h.hn
  obtain ⟨b1, b2, b3, -⟩ := h.bk hk
  have key : ∀ j, j < 3 → gX10_deedOf (nI k) (nI j) M = some (M0.2.1 7 (121 * iy + (1 + 3 * k + j))) := by
    intro j hj
    unfold gX10_deedOf
    rw [h.1, h.2.1, show (121 : Int32) = nI 121 from rfl, ix3, rA_nI (by omega) (by omega)]; rfl
  refine ⟨?_, ?_, ?_⟩
  · have := key 0 (by omega); rw [Nat.add_zero, ← b1] at this; exact this
  · have := key 1 (by omega); rw [show 1 + 3 * k + 1 = 2 + 3 * k by omega, ← b2] at this; exact this
  · have := key 2 (by omega); rw [show 1 + 3 * k + 2 = 3 + 3 * k by omega, ← b3] at this; exact this
theorem YW.ans (h : YW M0 iy Y m n M) {k : Nat} (hk : k < n) : gX5_answer m (nI k) 0 Y = some (Y.2.1 0 k) ∧ gX5_answer m (nI k) 1 Y = some (Y.2.1 1 k) ∧ gX5_answer m (nI k) 2 Y = some (Y.2.1 2 k) := by
  have hn := h.hn
  have hm := h.hm
  unfold gX5_answer
  rw [h.e3, pick_nI hk (by omega) (by omega), pick_nI hk (by omega) (by omega), pick_nI hk (by omega) (by omega)]
  exact ⟨rfl, rfl, rfl⟩
end YW
theorem yw_of {M : SV} {iy : Nat} {Y : SV} {m : Nat} (hi : iy < 2) (h : RR 1 Y m (blk M 7 121 0 iy)) : ∃ n, YW M iy Y m n (wI (wI M 0 0) 38 (nI iy)) := by
  obtain ⟨r1, r2, r3, r4, -, -⟩ := h
  obtain ⟨r5, r6⟩ := r4 rfl
  have b0 := blk0 M 7 121 iy 0 (by omega)
  rw [Nat.add_zero] at b0
  obtain ⟨n, hn, en⟩ := vp_in_of (x := blk M 7 121 0 iy 0) (n := 41) (vp_in_iff.mpr ⟨r2, by omega⟩) (by decide)
  have hi2 : (nI n).toInt = n := nI_toInt (by omega)
  refine ⟨n, rfl, rfl, ⟨hi, by omega, r5⟩, by rw [r1, en], by rw [← b0, en], fun k hk => ?_⟩
  obtain ⟨y1, y2, y3, -, -, -, y4⟩ := r6 k (by rw [en, hi2]; omega)
  rw [← blk0 M 7 121 iy _ (by omega), ← blk0 M 7 121 iy _ (by omega), ← blk0 M 7 121 iy _ (by omega), y1, y2, y3]
  exact ⟨rfl, rfl, rfl, y4⟩
section LV
variable {C : SV} {B : Nat → Int32} {i n c : Nat} {M S : SV} {M0 : SV} {iy : Nat} {Y : SV} {m ny : Nat}
theorem act_step (h : CX C B n c) (hM : MX B i n c (C.2.1 5) M) (hR : SR n (C.2.1 5) S M) (hh : rng (S.1 5) 0 99) (hY : YW M0 iy Y m ny M) {j : Nat} (hj : j < ny) : ∃ r S' M', (∃ q1 q2 q3, gX5_answer m (nI j) 0 Y = some q1 ∧ gX5_answer m (nI j) 1 Y = some q2 ∧ gX5_answer m (nI j) 2 Y = some q3 ∧ gX6_act C q1 q2 q3 S = some (r, S')) ∧ gX10_doesDeed (nI j) M = some (r, M') ∧ OK S M S' M' n (C.2.1 5) ∧ (r = 0 ∨ r = 1) ∧ ((r = 0 ∧ S'.1 6 = S.1 6 ∧ S'.2.1 3 = S.2.1 3) ∨ (r = 1 ∧ Y.2.1 0 j = 0 ∧ ∃ k, k < c ∧ Y.2.1 1 j = nI k ∧ S'.2.1 3 = upd (S.2.1 3) k (S.2.1 3 k + 1)) ∨ (r = 1 ∧ ¬ Y.2.1 0 j = 0 ∧ S'.2.1 3 = S.2.1 3)) := by
  obtain ⟨a1, a2, a3⟩ := hY.ans hj
  obtain ⟨d1, d2, d3⟩ := hY.deedOf hj
  obtain ⟨r, S', M', e1, e2, e3, e4, e5⟩ := act_both h hM hR hh (Y.2.1 0 j) (Y.2.1 1 j) (Y.2.1 2 j)
  refine ⟨r, S', M', ⟨_, _, _, a1, a2, a3, e1⟩, ?_, e3, e4, e5⟩
  unfold gX10_doesDeed
  rw [d1, d2, d3]
  simp only [Option.bind_some]
  rw [e2]
  simp only [b2]
  rw [if_pos e4]
theorem live_both (h : CX C B n c) (hM : MX B i n c (C.2.1 5) M) (hR : SR n (C.2.1 5) S M) (hh : rng (S.1 5) 0 99) (hY : YW M0 iy Y m ny M) {k : Nat} (hk : k ≤ ny) : ∃ j S' M', j ≤ k ∧ gX6_live C Y m (nI k) S = some (nI j, S') ∧ gX10_play (nI k) M = some (nI j, M') ∧ SR n (C.2.1 5) S' M' ∧ FrS M M' := by
  have hny := hY.hn
  unfold gX6_live gX10_play
  simp only [nm]
  rw [hY.e3, imin_nI (by omega) (by omega), Nat.min_eq_left hk]
  have key := lpT (fun f (q : Int32 × SV) => gfX6_live_12 C Y m f (nI k) q.1 q.2) (fun f (q : Int32 × SV) => gfX10_play_2 f (nI k) q.1 q.2) (fun j s t => s.1 = nI j ∧ t.1 = nI j ∧ SR n (C.2.1 5) s.2 t.2 ∧ FrS M t.2 ∧ rng (s.2.1 5) 0 99) (fun b d => ∃ j S' M', j ≤ k ∧ b = some (nI j, S') ∧ d = some (nI j, M') ∧ SR n (C.2.1 5) S' M' ∧ FrS M M') k ?_ ?_ (0, S) (0, M) ⟨rfl, rfl, hR, FrS.rf, hh⟩ FU FU (by rw [FUn]; omega) (by rw [FUn]; omega)
  · exact key
  · rintro j hj ⟨l, S1⟩ ⟨l', M1⟩ ⟨e1, e2, e3, e4, e5⟩
    replace e1 : l = nI j := e1
    replace e2 : l' = nI j := e2
    replace e3 : SR n (C.2.1 5) S1 M1 := e3
    replace e4 : FrS M M1 := e4
    replace e5 : rng (S1.1 5) 0 99 := e5
    subst e1 e2
    obtain ⟨r, S', M', ⟨q1, q2, q3, a1, a2, a3, a4⟩, d, ⟨o1, o2, o3, o4⟩, hr, -⟩ := act_step h (hM.to e4) e3 e5 (hY.fs e4) (show j < ny by omega)
    have f1 : ∀ f, gfX6_live_12 C Y m (f + 1) (nI k) (nI j) S1 = (if r = 0 then some (nI j, S') else if S'.1 6 = S1.1 6 then gfX6_live_12 C Y m f (nI k) (nI (j + 1)) S' else if S'.1 13 = -1 then gfX6_live_12 C Y m f (nI k) (nI (j + 1)) (wI S' 13 (nI j)) else gfX6_live_12 C Y m f (nI k) (nI (j + 1)) S') := by
      intro f
      show gbX6_live_12 _ _ _ _ _ _ _ = _
      unfold gbX6_live_12
      rw [if_neg (nI_ge hj (by omega)), a1, a2, a3]
      simp only [Option.bind_some]
      rw [a4]
      simp only [b2, nm, ← nI_succ]
    have f2 : ∀ f, gfX10_play_2 (f + 1) (nI k) (nI j) M1 = (if r = 0 then some (nI j, M') else gfX10_play_2 f (nI k) (nI (j + 1)) M') := by
      intro f
      show gbX10_play_2 _ _ _ _ = _
      unfold gbX10_play_2
      rw [if_neg (nI_ge hj (by omega)), d]
      simp only [b2, nm, ← nI_succ]
    rcases hr with rfl | rfl
    · right
      exact ⟨some (nI j, S'), some (nI j, M'), fun f => by show gfX6_live_12 C Y m (f + 1) (nI k) (nI j) S1 = _; rw [f1, if_pos rfl], fun f => by show gfX10_play_2 (f + 1) (nI k) (nI j) M1 = _; rw [f2, if_pos rfl], j, S', M', by omega, rfl, rfl, o1, e4.tr o2⟩
    · left
      have h10 : ¬ (1 : Int32) = 0 := by decide
      simp only [if_neg h10] at f1 f2
      by_cases c1 : S'.1 6 = S1.1 6
      · simp only [if_pos c1] at f1
        exact ⟨(nI (j + 1), S'), (nI (j + 1), M'), f1, f2, rfl, rfl, o1, e4.tr o2, o4 e5⟩
      · simp only [if_neg c1] at f1
        by_cases c2 : S'.1 13 = -1
        · simp only [if_pos c2] at f1
          refine ⟨(nI (j + 1), wI S' 13 (nI j)), (nI (j + 1), M'), f1, f2, rfl, rfl, o1.w7 (Or.inr (Or.inl rfl)) _, e4.tr o2, ?_⟩
          show rng ((wI S' 13 (nI j)).1 5) 0 99
          rw [wI_ne (by decide)]; exact o4 e5
        · simp only [if_neg c2] at f1
          exact ⟨(nI (j + 1), S'), (nI (j + 1), M'), f1, f2, rfl, rfl, o1, e4.tr o2, o4 e5⟩
  · rintro ⟨l, S1⟩ ⟨l', M1⟩ ⟨e1, e2, e3, e4, e5⟩
    replace e1 : l = nI k := e1
    replace e2 : l' = nI k := e2
    subst e1 e2
    refine ⟨some (nI k, S1), some (nI k, M1), fun f => ?_, fun f => ?_, k, S1, M1, Nat.le_refl _, rfl, rfl, e3, e4⟩
    · show gbX6_live_12 _ _ _ _ _ _ _ = _
      unfold gbX6_live_12
      rw [if_pos (nI_le (Nat.le_refl _) (by omega))]
    · show gbX10_play_2 _ _ _ _ = _
      unfold gbX10_play_2
      rw [if_pos (nI_le (Nat.le_refl _) (by omega))]
end LV
theorem BG.h5 {C S S' : SV} (h : BG C S S') : rng (S'.1 5) 0 99 := by rw [h.2.2.1.1]; exact ⟨by rw [t0]; omega, by rw [t0]; omega⟩
theorem qu_till (Wc : WC) : Qu_till Wc := by
  intro z M ρM hI a1 a2
  have hsk := hI.2.2.2.1
  obtain ⟨ρ, S, hS⟩ := hsk.2.2.2.1
  unfold fX9_till gX10_till gX10_layAll gX10_hasYear
  rw [if_pos (x9_o hsk), x9_g (k := 0) (x := 16) hsk rfl]
  simp only [Option.bind_some, nm]
  rcases rows_cases hI (q := 1) (by omega) (by omega) a2 with ⟨iy, b, ρb, Y, hiy, rfl, y1, y2, y3, y4, y5⟩ | ⟨y1, y5⟩
  · have y1' : fX7_rowsAt 16 1 (nI iy) z = some (some b) := y1
    have y5' : gX10_is 1 (nI iy) (wI (wI M 0 0) 38 (nI iy)) = some 1 := y5 _ rfl
    obtain ⟨ny, hY⟩ := yw_of hiy y4
    rw [y1', y5']
    rcases land_cases hI a1 with ⟨i, a, ρc, C, n, c, hi, rfl, h1, ha, hC, hx, hb⟩ | ⟨h1, hb⟩
    · obtain ⟨S', M', b1, b2_, b3, b4, b5, b6⟩ := hb (wI (wI M 0 0) 38 (nI iy)) rfl rfl S
      have zb := z_begin hI hC ha hS b1
      have hz := z_z hI
      rw [h1]
      simp only [Option.bind_some, nq, b2, or_true, if_true, show ¬ ((1 : Int32) = 0) by decide, if_false]
      rw [b2_, x9_g (k := 4) (x := 44) hsk rfl]
      simp only [Option.bind_some, show ¬ ((1 : Int32) = 0) by decide, if_false]
      rw [zb]
      have hY' := hY.fh b4
      have hyr : RD 4 b ρb Y (wr 5 44 (va_up ρ.1 0 (some a), ρ.2) S' z) := RDrow y3 scr5 y2 _ _
      obtain ⟨j, S2, M2, hj, l1, l2, l3, l4⟩ := live_both hx b3 b5 b6.h5 hY' (Nat.le_refl ny)
      simp only [Option.bind_some, z_g hI, gI_rd hyr (k := 3) rfl, hY.e3, hY'.deeds]
      rw [eX6_live hz hC (z_d ha) (z_land ρ a) y3 (z_d4 y2), l1, l2]
      exact ⟨_, _, _, rfl, hI.scratch scr5 (by decide) _ _, rfl⟩
    · rw [h1]
      simp only [Option.bind_some, nq, b2, or_true, if_true, show ¬ ((1 : Int32) = 0) by decide, if_false]
      rw [hb (wI (wI M 0 0) 38 (nI iy)) rfl]
      simp only [if_true]
      exact ⟨_, _, _, rfl, hI, rfl⟩
  · have y1' : fX7_rowsAt 16 1 a2 z = some none := y1
    have y5' : gX10_is 1 a2 (wI (wI M 0 0) 38 a2) = some 0 := y5 _ rfl
    rw [y1', y5']
    rcases land_cases hI a1 with ⟨i, a, ρc, C, n, c, hi, rfl, h1, ha, hC, hx, hb⟩ | ⟨h1, hb⟩
    · rw [h1]
      simp only [Option.bind_some, nq, b2, true_or, if_true]
      exact ⟨_, _, _, rfl, hI, rfl⟩
    · rw [h1]
      simp only [Option.bind_some, nq, b2, true_or, if_true]
      exact ⟨_, _, _, rfl, hI, rfl⟩
theorem qu_state (Wc : WC) : Qu_state Wc := by
  intro z M ρM hI a1 a2 a3 a4
  have hsk := hI.2.2.2.1
  obtain ⟨ρ, S, hS⟩ := hsk.2.2.2.1
  unfold fX9_state gX10_state gX10_layAll gX10_hasYear
  rw [if_pos (x9_o hsk), x9_g (k := 0) (x := 16) hsk rfl]
  simp only [Option.bind_some, nm]
  rcases rows_cases hI (q := 1) (by omega) (by omega) a2 with ⟨iy, b, ρb, Y, hiy, rfl, y1, y2, y3, y4, y5⟩ | ⟨y1, y5⟩
  · have y1' : fX7_rowsAt 16 1 (nI iy) z = some (some b) := y1
    have y5' : gX10_is 1 (nI iy) (wI (wI M 0 0) 38 (nI iy)) = some 1 := y5 _ rfl
    obtain ⟨ny, hY⟩ := yw_of hiy y4
    have hny := hY.hn
    rw [y1', y5']
    rcases land_cases hI a1 with ⟨i, a, ρc, C, n, c, hi, rfl, h1, ha, hC, hx, hb⟩ | ⟨h1, hb⟩
    · obtain ⟨S', M', b1, b2_, b3, b4, b5, b6⟩ := hb (wI (wI M 0 0) 38 (nI iy)) rfl rfl S
      have zb := z_begin hI hC ha hS b1
      have hz := z_z hI
      rw [h1]
      simp only [Option.bind_some, nq, b2, or_true, if_true, show ¬ ((1 : Int32) = 0) by decide, if_false]
      rw [b2_]
      have hY' := hY.fh b4
      simp only [Option.bind_some, show ¬ ((1 : Int32) = 0) by decide, if_false, gI_rd y3 (k := 3) rfl, hY.e3, hY'.deeds]
      by_cases c1 : a3 < 0
      · have c2 : fX10_in a3 0 (nI ny) = 0 := m_in1 (by rw [fa_lt, t0] at c1; rw [t0]; omega)
        rw [if_pos c1, if_pos c2]
        exact ⟨_, _, _, rfl, hI, rfl⟩
      obtain ⟨k, hk, rfl⟩ := nI_of c1
      rw [if_neg c1]
      by_cases c3 : k ≤ ny
      · have c2 : ¬ fX10_in (nI k) 0 (nI ny) = 0 := m_in0 (by rw [t0, nI_toInt hk, nI_toInt (by omega)]; omega)
        rw [if_pos (nI_le c3 (by omega)), if_neg c2, x9_g (k := 4) (x := 44) hsk rfl]
        simp only [Option.bind_some]
        rw [zb]
        obtain ⟨j, S2, M2, hj, l1, l2, l3, l4⟩ := live_both hx b3 b5 b6.h5 hY' c3
        simp only [Option.bind_some, z_g hI]
        rw [eX6_live hz hC (z_d ha) (z_land ρ a) y3 (z_d4 y2), l1, l2]
        simp only [Option.map_some]
        by_cases c4 : j = k
        · subst c4
          obtain ⟨r, u1, u2⟩ := state_both hx (b3.to l4) l3 a4
          rw [if_pos (nI_le (Nat.le_refl _) (by omega)), if_pos rfl, u2, z_g hI]
          simp only [Option.bind_some]
          rw [eX6_answer (z_S hI _ _) (z_C hC ha _ _) (z_land ρ a), u1]
          exact ⟨_, _, _, rfl, hI.scratch scr5 (by decide) _ _, rfl⟩
        · rw [if_neg (nI_ge (by omega) (by omega)), if_neg (fun e => c4 ((nI_eq (by omega) (by omega)).mp e))]
          exact ⟨_, _, _, rfl, hI.scratch scr5 (by decide) _ _, rfl⟩
      · have c2 : fX10_in (nI k) 0 (nI ny) = 0 := m_in1 (by rw [nI_toInt hk, nI_toInt (by omega)]; omega)
        rw [if_neg (nI_ge (by omega) (by omega)), if_pos c2]
        exact ⟨_, _, _, rfl, hI, rfl⟩
    · rw [h1]
      simp only [Option.bind_some, nq, b2, or_true, if_true, show ¬ ((1 : Int32) = 0) by decide, if_false]
      rw [hb (wI (wI M 0 0) 38 (nI iy)) rfl]
      simp only [if_true]
      exact ⟨_, _, _, rfl, hI, rfl⟩
  · have y1' : fX7_rowsAt 16 1 a2 z = some none := y1
    have y5' : gX10_is 1 a2 (wI (wI M 0 0) 38 a2) = some 0 := y5 _ rfl
    rw [y1', y5']
    rcases land_cases hI a1 with ⟨i, a, ρc, C, n, c, hi, rfl, h1, ha, hC, hx, hb⟩ | ⟨h1, hb⟩
    · rw [h1]
      simp only [Option.bind_some, nq, b2, true_or, if_true]
      exact ⟨_, _, _, rfl, hI, rfl⟩
    · rw [h1]
      simp only [Option.bind_some, nq, b2, true_or, if_true]
      exact ⟨_, _, _, rfl, hI, rfl⟩
theorem qu_lasts (Wc : WC) : Qu_lasts Wc := by
  intro z M ρM hI a1 a2
  have hsk := hI.2.2.2.1
  obtain ⟨ρ, S, hS⟩ := hsk.2.2.2.1
  unfold fX9_lasts gX10_lasts
  rw [if_pos (x9_o hsk), x9_g (k := 0) (x := 16) hsk rfl]
  simp only [Option.bind_some, nm]
  rcases land_cases hI a1 with ⟨i, a, ρc, C, n, c, hi, rfl, h1, ha, hC, hx, hb⟩ | ⟨h1, hb⟩
  · obtain ⟨S', M', b1, b2_, b3, b4, b5, b6⟩ := hb (wI M 0 0) rfl rfl S
    have zb := z_begin hI hC ha hS b1
    have hz := z_z hI
    have hn := hx.hn
    rw [h1, b2_]
    simp only [Option.bind_some, nq, b2, show ¬ ((1 : Int32) = 0) by decide, if_false, eX0_hasThing hC]
    rcases thing_both hx b3 a2 with ⟨k, hk, rfl, e1, e2⟩ | ⟨q, e1, e2⟩
    · rw [e1, e2, x9_g (k := 4) (x := 44) hsk rfl]
      simp only [Option.bind_some, show ¬ ((1 : Int32) = 0) by decide, if_false]
      rw [zb]
      simp only [Option.bind_some]
      have key := lpT (fun f (q : Int32 × SV) => fX9_lasts_34 (f + 1) 0 (nI k) q.1 (wr 5 44 (va_up ρ.1 0 (some a), ρ.2) q.2 z)) (fun f (q : SV) => gfX10_lasts_23 f (nI k) q) (fun j s t => s.1 = nI j ∧ s.2.1 5 = nI j ∧ SR n (C.2.1 5) s.2 t ∧ FrS M' t) (fun x y => ∃ r S2 M2, x = some (r, wr 5 44 (va_up ρ.1 0 (some a), ρ.2) S2 z) ∧ y = some (r, M2)) 99 ?_ ?_ (0, S') M' ⟨rfl, b6.2.2.1.1, b5, FrS.rf⟩ 19999 FU (by omega) (by rw [FUn]; omega)
      · obtain ⟨r, S2, M2, k1, k2⟩ := key
        replace k1 : fX9_lasts_34 FU 0 (nI k) 0 (wr 5 44 (va_up ρ.1 0 (some a), ρ.2) S' z) = some (r, wr 5 44 (va_up ρ.1 0 (some a), ρ.2) S2 z) := k1
        rw [k1, k2]
        exact ⟨_, _, _, rfl, hI.scratch scr5 (by decide) _ _, rfl⟩
      · rintro j hj ⟨l, S1⟩ M1 ⟨e3, e4, e5, e6⟩
        replace e3 : l = nI j := e3
        replace e4 : S1.1 5 = nI j := e4
        replace e5 : SR n (C.2.1 5) S1 M1 := e5
        subst e3
        have g99 : ¬ (99 : Int32) < nI j := fun q => by have := (nI_ltI (a := 99) (by omega) (by omega)).mp q; omega
        have g99' : ¬ (99 : Int32) ≤ nI j := nI_ge (b := 99) hj (by omega)
        have st : ∀ f, fX9_lasts_34 (f + 1) 0 (nI k) (nI j) (wr 5 44 (va_up ρ.1 0 (some a), ρ.2) S1 z) = bX9_lasts_34 (fX9_lasts_34 f) 0 (nI k) (nI j) (wr 5 44 (va_up ρ.1 0 (some a), ρ.2) S1 z) := fun _ => rfl
        rcases there_both hx (b3.to e6) e5 (nI k) with ⟨t, ht, et, hbt, u1, u2⟩ | ⟨u1, u2, u3⟩
        · left
          have : k = t := (nI_eq (by omega) (by omega)).mp et
          subst this
          obtain ⟨S2, M2, p1, p2, p3, p4, p5, p6⟩ := hour_both hx (b3.to e6) e5
          refine ⟨(nI (j + 1), S2), M2, fun f => ?_, fun f => ?_, rfl, ?_, p3, e6.tr p4⟩
          · show fX9_lasts_34 (f + 1 + 1) 0 (nI k) (nI j) (wr 5 44 (va_up ρ.1 0 (some a), ρ.2) S1 z) = _
            rw [st]
            unfold bX9_lasts_34
            rw [if_neg g99, z_g hI]
            simp only [Option.bind_some]
            rw [eX6_isThere (z_S hI _ _) (z_C hC ha _ _) (z_land ρ a), u1]
            simp only [Option.bind_some, show ¬ ((1 : Int32) = 0) by decide, if_false]
            rw [eX6_passHour hz hC (z_d ha) (z_land ρ a), p1]
            simp only [Option.map_some, b2, nm, ← nI_succ]
          · show gbX10_lasts_23 _ _ _ = _
            unfold gbX10_lasts_23
            rw [e5.e5, e4, if_neg g99', e5.e6, if_pos ((m_has0 _ (by omega)).mpr hbt), p2]
            rfl
          · show S2.1 5 = _
            rw [p6.2.2.2.2.1, e4, nI_succ]
        · right
          have hbk : bt (S1.1 6) k = true := by
            rcases u3 with u3 | ⟨t, ht, et, hbt⟩
            · exact (out_in hk hn u3).elim
            · rw [(nI_eq (by omega) (by omega)).mp et]; exact hbt
          refine ⟨some (nI j, wr 5 44 (va_up ρ.1 0 (some a), ρ.2) S1 z), some (nI j, M1), fun f => ?_, fun f => ?_, nI j, S1, M1, rfl, rfl⟩
          · show fX9_lasts_34 (f + 1 + 1) 0 (nI k) (nI j) (wr 5 44 (va_up ρ.1 0 (some a), ρ.2) S1 z) = _
            rw [st]
            unfold bX9_lasts_34
            rw [if_neg g99, z_g hI]
            simp only [Option.bind_some]
            rw [eX6_isThere (z_S hI _ _) (z_C hC ha _ _) (z_land ρ a), u1]
            simp only [Option.bind_some, if_true]
          · show gbX10_lasts_23 _ _ _ = _
            unfold gbX10_lasts_23 gbX10_lasts_50
            rw [e5.e5, e4, if_neg g99', e5.e6, if_neg (fun e => by rw [(m_has0 _ (by omega)).mp e] at hbk; cases hbk), if_neg (fun e => by rw [(m_has0 _ (by omega)).mp e] at hbk; cases hbk)]
      · rintro ⟨l, S1⟩ M1 ⟨e3, e4, e5, e6⟩
        replace e3 : l = nI 99 := e3
        replace e4 : S1.1 5 = nI 99 := e4
        replace e5 : SR n (C.2.1 5) S1 M1 := e5
        subst e3
        have g99 : ¬ (99 : Int32) < nI 99 := by decide
        have st : ∀ f l S1, fX9_lasts_34 (f + 1) 0 (nI k) l (wr 5 44 (va_up ρ.1 0 (some a), ρ.2) S1 z) = bX9_lasts_34 (fX9_lasts_34 f) 0 (nI k) l (wr 5 44 (va_up ρ.1 0 (some a), ρ.2) S1 z) := fun _ _ _ => rfl
        have mE : ∀ f, gfX10_lasts_23 (f + 1) (nI k) M1 = if bt (S1.1 6) k then some (nI 99, M1) else some (-1, M1) := by
          intro f
          show gbX10_lasts_23 _ _ _ = _
          unfold gbX10_lasts_23 gbX10_lasts_50
          rw [e5.e5, e4, if_pos (show (99 : Int32) ≤ nI 99 by decide), e5.e6]
          cases hq : bt (S1.1 6) k
          · rw [if_pos ((m_has0 _ (by omega)).mpr hq)]; rfl
          · rw [if_neg (fun e => by rw [(m_has0 _ (by omega)).mp e] at hq; cases hq)]; rfl
        rcases there_both hx (b3.to e6) e5 (nI k) with ⟨t, ht, et, hbt, u1, u2⟩ | ⟨u1, u2, u3⟩
        · have : k = t := (nI_eq (by omega) (by omega)).mp et
          subst this
          obtain ⟨S2, M2, p1, p2, p3, p4, p5, p6⟩ := hour_both hx (b3.to e6) e5
          rw [hbt] at mE
          refine ⟨some (-1, wr 5 44 (va_up ρ.1 0 (some a), ρ.2) S2 z), some (-1, M1), fun f => ?_, mE, -1, S2, M1, rfl, rfl⟩
          show fX9_lasts_34 (f + 1 + 1) 0 (nI k) (nI 99) (wr 5 44 (va_up ρ.1 0 (some a), ρ.2) S1 z) = _
          rw [st]
          unfold bX9_lasts_34
          rw [if_neg g99, z_g hI]
          simp only [Option.bind_some]
          rw [eX6_isThere (z_S hI _ _) (z_C hC ha _ _) (z_land ρ a), u1]
          simp only [Option.bind_some, show ¬ ((1 : Int32) = 0) by decide, if_false]
          rw [eX6_passHour hz hC (z_d ha) (z_land ρ a), p1]
          simp only [Option.map_some, b2, nm, ← nI_succ]
          rw [st]
          unfold bX9_lasts_34
          rw [if_pos (show (99 : Int32) < nI (99 + 1) by decide)]
        · have hbk : bt (S1.1 6) k = true := by
            rcases u3 with u3 | ⟨t, ht, et, hbt⟩
            · exact (out_in hk hn u3).elim
            · rw [(nI_eq (by omega) (by omega)).mp et]; exact hbt
          rw [hbk] at mE
          refine ⟨some (nI 99, wr 5 44 (va_up ρ.1 0 (some a), ρ.2) S1 z), some (nI 99, M1), fun f => ?_, mE, nI 99, S1, M1, rfl, rfl⟩
          show fX9_lasts_34 (f + 1 + 1) 0 (nI k) (nI 99) (wr 5 44 (va_up ρ.1 0 (some a), ρ.2) S1 z) = _
          rw [st]
          unfold bX9_lasts_34
          rw [if_neg g99, z_g hI]
          simp only [Option.bind_some]
          rw [eX6_isThere (z_S hI _ _) (z_C hC ha _ _) (z_land ρ a), u1]
          simp only [Option.bind_some, if_true]
    · rw [e1, e2]
      simp only [Option.bind_some, if_true]
      exact ⟨_, _, _, rfl, hI, rfl⟩
  · rw [h1, hb (wI M 0 0) rfl]
    simp only [Option.bind_some, nq, b2, if_true]
    exact ⟨_, _, _, rfl, hI, rfl⟩
