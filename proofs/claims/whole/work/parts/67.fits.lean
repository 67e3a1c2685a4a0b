/-! ===== NEXT; fits, wrong ===== -/
theorem add0 (x : Int32) : x + 0 = x := Int32.add_zero x
/-- does view v cross the k-th gathered cell -/
def ncr (S : SV) (e v : Int32) (k : Nat) : Bool := decide (¬ fX2_crosses (v / 10) (irem v 10) e (S.2.1 0 k) = 0)
theorem c_next_in {S : SV} {c : Nat} (h1 : S.1 1 = nI c) (hc : c ≤ 100) (k8 : Int32 → Int32 → Int32 → Int32 → Option Int32) (e l2 l3 v : Int32) : gfX2_nextView_28 k8 S FU e l2 l3 v 0 0 = (if l3 ≤ imax (nI (fa_cnt (ncr S e v) c)) (nI c - nI (fa_cnt (ncr S e v) c)) then k8 e l2 l3 (v + 1) else k8 e v (imax (nI (fa_cnt (ncr S e v) c)) (nI c - nI (fa_cnt (ncr S e v) c))) (v + 1)) := by
  refine lp (fun f (q : Int32 × Int32) => gfX2_nextView_28 k8 S f e l2 l3 v q.1 q.2) (fun i => (nI (fa_cnt (ncr S e v) i), nI i)) _ c ?_ ?_ FU (by rw [FUn]; omega)
  · intro i hi n
    show gbX2_nextView_28 k8 (gfX2_nextView_28 k8 S n) e l2 l3 v (nI (fa_cnt (ncr S e v) i)) (nI i) S = gfX2_nextView_28 k8 S n e l2 l3 v (nI (fa_cnt (ncr S e v) (i + 1))) (nI (i + 1))
    unfold gbX2_nextView_28
    rw [h1, if_neg (nI_ge hi (by omega)), rA_nI (by omega) (by omega)]
    simp only [Option.bind_some, nm]
    by_cases hp : fX2_crosses (v / 10) (irem v 10) e (S.2.1 0 i) = 0
    · rw [if_pos hp, fa_cnt_no (by simp [ncr, hp]), add0, nI_succ]
    · rw [if_neg hp, fa_cnt_yes (by simp [ncr, hp]), nI_succ, nI_succ]
  · intro n
    show gbX2_nextView_28 k8 (gfX2_nextView_28 k8 S n) e l2 l3 v (nI (fa_cnt (ncr S e v) c)) (nI c) S = _
    unfold gbX2_nextView_28
    rw [h1, if_pos (nI_le (Nat.le_refl _) (by omega))]
    rfl
theorem m_next_in {M0 : SV} {i : Nat} {Y : SV} {m n c : Nat} {S M : SV} (h : FR M0 i Y m n c S M) (k9 : Int32 → Int32 → Int32 → Int32 → Option Int32) (e l2 l3 : Int32) {j : Nat} (hj : j < 30) : gfX10_nextView_29 k9 M FU e l2 l3 (nI j) 0 0 = (if l3 ≤ fX10_greater (nI (fa_cnt (ncr S e (nI j)) c)) (nI c - nI (fa_cnt (ncr S e (nI j)) c)) then k9 e l2 (fX10_lesser l3 (fX10_greater (nI (fa_cnt (ncr S e (nI j)) c)) (nI c - nI (fa_cnt (ncr S e (nI j)) c)))) (nI j + 1) else k9 e (nI j) (fX10_lesser l3 (fX10_greater (nI (fa_cnt (ncr S e (nI j)) c)) (nI c - nI (fa_cnt (ncr S e (nI j)) c)))) (nI j + 1)) := by
  have hc := h.hc
  refine lp (fun f (q : Int32 × Int32) => gfX10_nextView_29 k9 M f e l2 l3 (nI j) q.1 q.2) (fun i => (nI (fa_cnt (ncr S e (nI j)) i), nI i)) _ c ?_ ?_ FU (by rw [FUn]; omega)
  · intro i hi n
    show gbX10_nextView_29 k9 (gfX10_nextView_29 k9 M n) e l2 l3 (nI j) (nI (fa_cnt (ncr S e (nI j)) i)) (nI i) M = gfX10_nextView_29 k9 M n e l2 l3 (nI j) (nI (fa_cnt (ncr S e (nI j)) (i + 1))) (nI (i + 1))
    obtain ⟨q, hq, q1, q2⟩ := h.cl i hi
    unfold gbX10_nextView_29
    rw [h.m1, if_neg (nI_ge hi (by omega)), rA_nI (by omega) (by omega), q2]
    simp only [Option.bind_some, nm]
    rw [m_cross hq (by rw [irem10 (by omega)]; exact (nI_rng (m := 9) (by omega) (by omega)).mono (by omega) (by omega))]
    simp only [Option.bind_some]
    by_cases hp : fX2_crosses (nI j / 10) (irem (nI j) 10) e (nI q) = 0
    · rw [if_pos hp, fa_cnt_no (by simp [ncr, q1, hp]), add0, nI_succ]
    · rw [if_neg hp, fa_cnt_yes (by simp [ncr, q1, hp]), nI_succ, nI_succ]
  · intro n
    show gbX10_nextView_29 k9 (gfX10_nextView_29 k9 M n) e l2 l3 (nI j) (nI (fa_cnt (ncr S e (nI j)) c)) (nI c) M = _
    unfold gbX10_nextView_29 gbX10_nextView_105
    rw [h.m1, if_pos (nI_le (Nat.le_refl _) (by omega))]
    rfl
theorem les_l {x y : Int32} (h : x ≤ y) : fX10_lesser x y = x := by
  unfold fX10_lesser
  by_cases h2 : y ≤ x
  · rw [if_pos h2]; rw [fa_le] at h h2; rw [fa_eq]; omega
  · rw [if_neg h2]
theorem les_r {x y : Int32} (h : ¬ x ≤ y) : fX10_lesser x y = y := by
  unfold fX10_lesser
  have h2 : y ≤ x := by rw [fa_le] at h ⊢; omega
  rw [if_pos h2]
theorem next_both {M0 : SV} {i : Nat} {Y : SV} {m n c : Nat} {S M : SV} (h : FR M0 i Y m n c S M) (e : Int32) : ∃ r, gX2_nextView e S = some r ∧ gX10_nextView e M = some r := by
  have hc := h.hc
  have key := lpT (fun f (q : Int32 × Int32 × Int32) => gfX2_nextView_8 S f e q.1 q.2.1 q.2.2) (fun f (q : Int32 × Int32 × Int32) => gfX10_nextView_9 M f e q.1 q.2.1 q.2.2) (fun j s t => s.2.2 = nI j ∧ t.2.2 = nI j ∧ s.1 = t.1 ∧ (s.2.1 = t.2.1 ∨ (s.2.1 = 101 ∧ t.2.1 = 1000000))) (fun b d => ∃ r, b = some r ∧ d = some r) 30 ?_ ?_ (-1, 101, 0) (-1, 1000000, 0) ⟨rfl, rfl, rfl, Or.inr ⟨rfl, rfl⟩⟩ FU FU (by rw [FUn]; omega) (by rw [FUn]; omega)
  · exact key
  · rintro j hj ⟨b, l, v⟩ ⟨b', l', v'⟩ ⟨e1, e2, e3, e4⟩
    have e1 : v = nI j := e1
    have e2 : v' = nI j := e2
    have e3 : b = b' := e3
    subst e1 e2 e3
    have hg : ¬ (30 : Int32) ≤ nI j := nI_ge (b := 30) hj (by omega)
    by_cases c0 : c = 0
    · right
      refine ⟨some b, some b, fun f => ?_, fun f => ?_, b, rfl, rfl⟩
      · show gbX2_nextView_8 _ _ _ _ _ _ = _
        unfold gbX2_nextView_8
        rw [if_neg hg, h.s1, c0, if_pos (by decide)]
      · show gbX10_nextView_9 _ _ _ _ _ _ = _
        unfold gbX10_nextView_9
        rw [if_neg hg, h.m1, c0, if_pos (by decide)]
    · left
      have hcn := fa_cnt_le (ncr S e (nI j)) c
      have f1 : ∀ f, gfX2_nextView_8 S (f + 1) e b l (nI j) = _ := fun f => by
        show gbX2_nextView_8 _ _ _ _ _ _ = _
        unfold gbX2_nextView_8
        rw [if_neg hg, h.s1, if_neg (nI_nle (by omega) (by omega)), c_next_in h.s1 hc]
      have f2 : ∀ f, gfX10_nextView_9 M (f + 1) e b l' (nI j) = _ := fun f => by
        show gbX10_nextView_9 _ _ _ _ _ _ = _
        unfold gbX10_nextView_9
        rw [if_neg hg, h.m1, if_neg (nI_nle (by omega) (by omega)), m_next_in h _ _ _ _ hj]
      rw [imax_g] at f1
      have hb : rng (fX10_greater (nI (fa_cnt (ncr S e (nI j)) c)) (nI c - nI (fa_cnt (ncr S e (nI j)) c))) 0 100 := by
        rw [pk_sub hcn]
        unfold fX10_greater
        split
        · exact nI_rng (m := 100) (by omega) (by omega)
        · exact nI_rng (m := 100) (by omega) (by omega)
      generalize fX10_greater (nI (fa_cnt (ncr S e (nI j)) c)) (nI c - nI (fa_cnt (ncr S e (nI j)) c)) = x at f1 f2 hb
      have t101 : (101 : Int32).toInt = 101 := rfl
      have tM : (1000000 : Int32).toInt = 1000000 := rfl
      have hll : l ≤ x ↔ l' ≤ x := by
        rcases e4 with e4 | ⟨e4, e5⟩
        · have e4 : l = l' := e4
          rw [e4]
        · have e4 : l = 101 := e4
          have e5 : l' = 1000000 := e5
          subst e4 e5
          obtain ⟨x1, x2⟩ := hb
          rw [fa_le, fa_le, t101, tM]; omega
      by_cases c1 : l ≤ x
      · have c2 := hll.mp c1
        simp only [if_pos c1] at f1
        simp only [if_pos c2, les_l c2] at f2
        have e5 : l = l' := by
          rcases e4 with e4 | ⟨e4, e5⟩
          · exact e4
          · have e4 : l = 101 := e4
            subst e4
            obtain ⟨x1, x2⟩ := hb
            rw [fa_le, t101] at c1; omega
        subst e5
        exact ⟨(b, l, nI (j + 1)), (b, l, nI (j + 1)), fun f => by show gfX2_nextView_8 S (f + 1) e b l (nI j) = gfX2_nextView_8 S f e b l (nI (j + 1)); rw [f1, nI_succ], fun f => by show gfX10_nextView_9 M (f + 1) e b l (nI j) = gfX10_nextView_9 M f e b l (nI (j + 1)); rw [f2, nI_succ], rfl, rfl, rfl, Or.inl rfl⟩
      · have c2 : ¬ l' ≤ x := fun q => c1 (hll.mpr q)
        simp only [if_neg c1] at f1
        simp only [if_neg c2, les_r c2] at f2
        exact ⟨(nI j, x, nI (j + 1)), (nI j, x, nI (j + 1)), fun f => by show gfX2_nextView_8 S (f + 1) e b l (nI j) = gfX2_nextView_8 S f e (nI j) x (nI (j + 1)); rw [f1, nI_succ], fun f => by show gfX10_nextView_9 M (f + 1) e b l' (nI j) = gfX10_nextView_9 M f e (nI j) x (nI (j + 1)); rw [f2, nI_succ], rfl, rfl, rfl, Or.inl rfl⟩
  · rintro ⟨b, l, v⟩ ⟨b', l', v'⟩ ⟨e1, e2, e3, e4⟩
    have e1 : v = nI 30 := e1
    have e2 : v' = nI 30 := e2
    have e3 : b = b' := e3
    subst e1 e2 e3
    exact ⟨some b, some b, fun f => rfl, fun f => rfl, b, rfl, rfl⟩
theorem vw2_of {M : SV} {i : Nat} {Y : SV} {m : Nat} (hi : i < 2) (h : RR 2 Y m (blk M 8 17 0 i)) : ∃ n, VW2 M i Y m n (wI (wI M 0 0) 47 (nI i)) := by
  obtain ⟨r1, r2, r3, -, r4, -⟩ := h
  obtain ⟨r5, r6⟩ := r4 rfl
  have b0 := blk0 M 8 17 i 0 (by omega)
  rw [Nat.add_zero] at b0
  obtain ⟨n, hn, en⟩ := vp_in_of (x := blk M 8 17 0 i 0) (n := 9) (vp_in_iff.mpr ⟨r2, by omega⟩) (by decide)
  have hi2 : (nI n).toInt = n := nI_toInt (by omega)
  refine ⟨n, rfl, rfl, hi, by omega, r5, by rw [r1, en], by rw [← b0, en], fun k hk => ?_⟩
  obtain ⟨y1, y2, y3, y4⟩ := r6 k (by rw [en, hi2]; omega)
  rw [y1, y2, ← blk0 M 8 17 i _ (by omega), ← blk0 M 8 17 i _ (by omega)]
  exact ⟨rfl, rfl, y4⟩
theorem RDrow {z : AH} {b : Nat} {ρb : RV} {Y : SV} (h : RD 4 b ρb Y z) {c a : Nat} (hc : scr c a) (hb : 113 ≤ b) (ρ : RV) (S : SV) : RD 4 b ρb Y (wr c a ρ S z) := h.far (Or.inr (by have := scr_sz hc; omega))
theorem gather_z {Wc : WC} {z : AH} {M : SV} {ρM : RV} (hI : InvM Wc z M ρM) {b : Nat} {ρb : RV} {Y : SV} (hb : 113 ≤ b) (hY : RD 4 b ρb Y z) (ρ : RV) (S S' : SV) (e wo : Int32) (h : gX2_gather Y ρb.2.2 e wo S = some S') : fX2_gather 87 b e wo (wr 2 87 ρ S z) = some (wr 2 87 ρ S' z) := by
  have hz := hI.1
  rw [eX2_gather (by rw [s2]; omega) hY (Or.inr (by rw [s2]; omega)), h]; rfl
theorem isE (x : Int32) : fX2_isError x = fX10_in x 0 3 := rfl
theorem scr2 : scr 2 87 := by unfold scr; omega
theorem qu_fits (Wc : WC) : Qu_fits Wc := by
  intro z M ρM hI a1 a2 a3
  have hsk := hI.2.2.2.1
  obtain ⟨ρ, S, hF⟩ := hsk.2.2.2.2.2
  unfold fX9_fits gX10_fits
  rw [if_pos (x9_o hsk), x9_g (k := 0) (x := 16) hsk rfl]
  simp only [Option.bind_some, nm, gX10_hasSight]
  rcases rows_cases hI (q := 2) (by omega) (by omega) a1 with ⟨i, b, ρb, Y, hi, rfl, h1, h2, h3, h4, h5⟩ | ⟨h1, h5⟩
  · have h1' : fX7_rowsAt 16 2 (nI i) z = some (some b) := h1
    have h5' : gX10_is 2 (nI i) (wI (wI M 0 0) 47 (nI i)) = some 1 := h5 _ rfl
    rw [h1', h5']
    simp only [Option.bind_some, nq, b2, or_true, if_true, show ¬ ((1 : Int32) = 0) by decide, if_false]
    by_cases c0 : fX10_in a2 0 3 = 0
    · rw [if_pos ((isE a2).trans c0), if_pos c0]; exact ⟨_, _, _, rfl, hI, rfl⟩
    rw [if_neg (fun e => c0 ((isE a2).symm.trans e)), if_neg c0]
    obtain ⟨n, hv⟩ := vw2_of hi h4
    obtain ⟨c, S', M', g1, g2, g3⟩ := gather_both (S := S) hv a2 (-1)
    have hz := hI.1
    have g4 := gather_z hI h2 h3 ρ S S' a2 (-1) g1
    rw [wr_id hF] at g4
    have hI' := hI.scratch scr2 (by decide) ρ S'
    have hsk' := hI'.2.2.2.1
    have hR' : RD 2 87 ρ S' (wr 2 87 ρ S' z) := rd_wr (by rw [s2]; omega)
    rw [x9_g (k := 7) (x := 87) hsk rfl]
    simp only [Option.bind_some]
    rw [g4, g2]
    simp only [Option.bind_some, x9_g (k := 7) (x := 87) hsk' rfl, gI_rd hR' (k := 1) rfl, eX2_cellAt hR', eX2_nextView hR', gX2_cellAt, g3.s1, g3.m1, pickS (n := 100) (by decide)]
    have hc := g3.hc
    have tc : (nI c).toInt = c := nI_toInt (by omega)
    have t10 : (10 : Int32).toInt = 10 := rfl
    by_cases d0 : a3 = 0
    · subst d0
      rw [if_pos rfl, if_pos (by decide), if_pos rfl]
      exact ⟨_, _, _, rfl, hI', rfl⟩
    by_cases d1 : a3 = 1
    · subst d1
      simp only [show ¬ ((1 : Int32) = 0) by decide, if_false, if_true, show (1 : Int32) < 10 by decide]
      by_cases f1 : nI c = 1
      · have c1 : c = 1 := (nI_eq (b := 1) (by omega) (by omega)).mp f1
        obtain ⟨j, hj, j1, j2⟩ := g3.cl 0 (by omega)
        rw [if_pos f1, if_pos f1, show rA 100 (M'.2.1 48) 0 = some (M'.2.1 48 0) from rA_in (by decide) (by decide), j2]
        refine ⟨nI j, _, M', ?_, hI', rfl⟩
        rw [if_pos ⟨by decide, by rw [tc, t0]; omega, by decide⟩]
        show some (S'.2.1 0 0, _) = _
        rw [j1]
      · rw [if_neg f1, if_neg f1]
        exact ⟨_, _, _, rfl, hI', rfl⟩
    by_cases d2 : a3 = 2
    · subst d2
      simp only [show ¬ ((2 : Int32) = 0) by decide, show ¬ ((2 : Int32) = 1) by decide, if_false, if_true, show (2 : Int32) < 10 by decide]
      obtain ⟨r, r1, r2⟩ := next_both g3 a2
      rw [r1, r2]
      exact ⟨_, _, _, rfl, hI', rfl⟩
    simp only [d0, d1, d2, if_false]
    by_cases d3 : (10 : Int32) ≤ a3
    · have d3' : ¬ a3 < 10 := by rw [fa_le] at d3; rw [fa_lt]; omega
      have d4 : (a3 - 10).toInt = a3.toInt - 10 := by
        have := (fa_le _ _).mp d3
        rw [t10] at this
        have hu := Int32.toInt_lt a3
        rw [fb_subI (by rw [t10]; omega) (by rw [t10]; omega), t10]
      rw [if_pos d3, if_neg d3']
      by_cases d5 : nI c ≤ a3 - 10
      · have d6 : ¬ (0 ≤ (a3 - 10).toInt ∧ (a3 - 10).toInt < (nI c).toInt ∧ (a3 - 10).toInt < ((100 : Nat) : Int)) := by
          rw [fa_le] at d5; omega
        rw [if_pos d5, if_neg d6]
        exact ⟨_, _, _, rfl, hI', rfl⟩
      · have d3'' := (fa_le _ _).mp d3
        rw [t10] at d3''
        have d6 : (0 ≤ (a3 - 10).toInt ∧ (a3 - 10).toInt < (nI c).toInt ∧ (a3 - 10).toInt < ((100 : Nat) : Int)) := by
          rw [fa_le] at d5; omega
        rw [if_neg d5, if_pos d6, rA_in d6.1 d6.2.2]
        obtain ⟨k, hk, ek⟩ := vp_in_of (x := a3 - 10) (n := c) (vp_in_iff.mpr ⟨d6.1, by omega⟩) (by omega)
        rw [ek, nI_clamp (by omega)]
        obtain ⟨j, hj, j1, j2⟩ := g3.cl k hk
        rw [j1, j2]
        exact ⟨_, _, _, rfl, hI', rfl⟩
    · have d3' : a3 < 10 := by rw [fa_le] at d3; rw [fa_lt]; omega
      rw [if_neg d3, if_pos d3']
      exact ⟨_, _, _, rfl, hI', rfl⟩
  · have h1' : fX7_rowsAt 16 2 a1 z = some none := h1
    have h5' : gX10_is 2 a1 (wI (wI M 0 0) 47 a1) = some 0 := h5 _ rfl
    rw [h1', h5']
    simp only [Option.bind_some, nq, b2, true_or, if_true]
    by_cases c0 : fX10_in a2 0 3 = 0
    · rw [if_pos c0]; exact ⟨_, _, _, rfl, hI, rfl⟩
    · rw [if_neg c0]; exact ⟨_, _, _, rfl, hI, rfl⟩
theorem gre_l {x y : Int32} (h : y ≤ x) : fX10_greater x y = x := by
  unfold fX10_greater
  by_cases h2 : x ≤ y
  · rw [if_pos h2]; rw [fa_le] at h h2; rw [fa_eq]; omega
  · rw [if_neg h2]
theorem gre_r {x y : Int32} (h : ¬ y ≤ x) : fX10_greater x y = y := by
  unfold fX10_greater
  have h2 : x ≤ y := by rw [fa_le] at h ⊢; omega
  rw [if_pos h2]
theorem qu_wrong (Wc : WC) : Qu_wrong Wc := by
  intro z M ρM hI a1 a2 a3 h3b
  have hsk := hI.2.2.2.1
  obtain ⟨ρ, S, hF⟩ := hsk.2.2.2.2.2
  unfold fX9_wrong gX10_wrong
  rw [if_pos (x9_o hsk), x9_g (k := 0) (x := 16) hsk rfl]
  simp only [Option.bind_some, nm, gX10_hasSight]
  rcases rows_cases hI (q := 2) (by omega) (by omega) a1 with ⟨i, b, ρb, Y, hi, rfl, h1, h2, h3, h4, h5⟩ | ⟨h1, h5⟩
  · have h1' : fX7_rowsAt 16 2 (nI i) z = some (some b) := h1
    have h5' : gX10_is 2 (nI i) (wI (wI M 0 0) 47 (nI i)) = some 1 := h5 _ rfl
    rw [h1', h5']
    simp only [Option.bind_some, nq, b2, or_true, if_true, show ¬ ((1 : Int32) = 0) by decide, if_false]
    by_cases c0 : fX10_in a2 0 3 = 0
    · rw [if_pos ((isE a2).trans c0), if_pos c0]; exact ⟨_, _, _, rfl, hI, rfl⟩
    rw [if_neg (fun e => c0 ((isE a2).symm.trans e)), if_neg c0]
    obtain ⟨n, hv⟩ := vw2_of hi h4
    have hn := hv.hn
    have hz := hI.1
    have key := lpT (fun f (q : Int32 × Int32 × Int32 × AH) => fX9_wrong_34 f 0 a2 a3 b q.1 q.2.1 q.2.2.1 q.2.2.2) (fun f (q : Int32 × Int32 × Int32 × SV) => gfX10_wrong_33 f a2 a3 q.1 q.2.1 q.2.2.1 q.2.2.2) (fun j s t => s.1 = t.1 ∧ s.2.1 = t.2.1 ∧ s.2.2.1 = nI j ∧ t.2.2.1 = nI j ∧ (∃ S', s.2.2.2 = wr 2 87 ρ S' z) ∧ VW2 M i Y ρb.2.2 n t.2.2.2) (fun x y => ∃ r S' M', x = some (r, wr 2 87 ρ S' z) ∧ y = some (r, M')) n ?_ ?_ (-1, -1, 0, z) (-1, -1, 0, wI (wI M 0 0) 47 (nI i)) ⟨rfl, rfl, rfl, rfl, ⟨S, (wr_id hF).symm⟩, hv⟩ FU FU (by rw [FUn]; omega) (by rw [FUn]; omega)
    · obtain ⟨r, S', M', q1, q2⟩ := key
      exact ⟨r, _, M', q1, hI.scratch scr2 (by decide) ρ S', q2⟩
    · rintro j hj ⟨p, q, l, zz⟩ ⟨p', q', l', MM⟩ ⟨e1, e2, e3, e4, ⟨S1, e5⟩, e6⟩
      have e1 : p = p' := e1
      have e2 : q = q' := e2
      have e3 : l = nI j := e3
      have e4 : l' = nI j := e4
      have e5 : zz = wr 2 87 ρ S1 z := e5
      have e6 : VW2 M i Y ρb.2.2 n MM := e6
      subst e1 e2 e3 e4 e5
      left
      obtain ⟨c, S', M', g1, g2, g3⟩ := gather_both (S := S1) e6 a2 (nI j)
      have g4 := gather_z hI h2 h3 ρ S1 S' a2 (nI j) g1
      have hsk1 := (hI.scratch scr2 (by decide) ρ S1).2.2.2.1
      have hsk' := (hI.scratch scr2 (by decide) ρ S').2.2.2.1
      have hY1 := RDrow h3 scr2 h2 ρ S1
      have hR' : RD 2 87 ρ S' (wr 2 87 ρ S' z) := rd_wr (by rw [s2]; omega)
      have f1 : ∀ f, fX9_wrong_34 (f + 1) 0 a2 a3 b p q (nI j) (wr 2 87 ρ S1 z) = (if nI c ≤ q then fX9_wrong_34 f 0 a2 a3 b p q (nI (j + 1)) (wr 2 87 ρ S' z) else fX9_wrong_34 f 0 a2 a3 b (nI j) (nI c) (nI (j + 1)) (wr 2 87 ρ S' z)) := by
        intro f
        show bX9_wrong_34 _ _ _ _ _ _ _ _ _ = _
        unfold bX9_wrong_34
        rw [gI_rd hY1 (k := 3) rfl, hv.e3]
        simp only [Option.bind_some]
        rw [if_neg (nI_ge hj (by omega)), x9_g (k := 7) (x := 87) hsk1 rfl]
        simp only [Option.bind_some]
        rw [g4]
        simp only [Option.bind_some, x9_g (k := 7) (x := 87) hsk' rfl, gI_rd hR' (k := 1) rfl, g3.s1, nm, ← nI_succ]
      have f2 : ∀ f, gfX10_wrong_33 (f + 1) a2 a3 p q (nI j) MM = (if nI c ≤ q then gfX10_wrong_33 f a2 a3 p (fX10_greater q (nI c)) (nI (j + 1)) M' else gfX10_wrong_33 f a2 a3 (nI j) (fX10_greater q (nI c)) (nI (j + 1)) M') := by
        intro f
        show gbX10_wrong_33 _ _ _ _ _ _ _ = _
        unfold gbX10_wrong_33 gbX10_wrong_65
        rw [e6.views]
        simp only [Option.bind_some]
        rw [if_neg (nI_ge hj (by omega)), g2]
        simp only [b2, nm, ← nI_succ]
      by_cases c1 : nI c ≤ q
      · simp only [if_pos c1] at f1 f2
        rw [gre_l c1] at f2
        exact ⟨(p, q, nI (j + 1), wr 2 87 ρ S' z), (p, q, nI (j + 1), M'), f1, f2, rfl, rfl, rfl, rfl, ⟨S', rfl⟩, g3.vw⟩
      · simp only [if_neg c1] at f1 f2
        rw [gre_r c1] at f2
        exact ⟨(nI j, nI c, nI (j + 1), wr 2 87 ρ S' z), (nI j, nI c, nI (j + 1), M'), f1, f2, rfl, rfl, rfl, rfl, ⟨S', rfl⟩, g3.vw⟩
    · rintro ⟨p, q, l, zz⟩ ⟨p', q', l', MM⟩ ⟨e1, e2, e3, e4, ⟨S1, e5⟩, e6⟩
      have e1 : p = p' := e1
      have e2 : q = q' := e2
      have e3 : l = nI n := e3
      have e4 : l' = nI n := e4
      have e5 : zz = wr 2 87 ρ S1 z := e5
      have e6 : VW2 M i Y ρb.2.2 n MM := e6
      subst e1 e2 e3 e4 e5
      have hY1 := RDrow h3 scr2 h2 ρ S1
      refine ⟨some (if a3 = 0 then p else q, wr 2 87 ρ S1 z), some (if a3 = 0 then p else q, MM), fun f => ?_, fun f => ?_, _, S1, MM, rfl, rfl⟩
      · show bX9_wrong_34 _ _ _ _ _ _ _ _ _ = _
        unfold bX9_wrong_34
        rw [gI_rd hY1 (k := 3) rfl, hv.e3]
        simp only [Option.bind_some]
        rw [if_pos (nI_le (Nat.le_refl _) (by omega))]
        split <;> rfl
      · show gbX10_wrong_33 _ _ _ _ _ _ _ = _
        unfold gbX10_wrong_33
        rw [e6.views]
        simp only [Option.bind_some]
        rw [if_pos (nI_le (Nat.le_refl _) (by omega))]
        split <;> rfl
  · have h1' : fX7_rowsAt 16 2 a1 z = some none := h1
    have h5' : gX10_is 2 a1 (wI (wI M 0 0) 47 a1) = some 0 := h5 _ rfl
    rw [h1', h5']
    simp only [Option.bind_some, nq, b2, true_or, if_true]
    by_cases c0 : fX10_in a2 0 3 = 0
    · rw [if_pos c0]; exact ⟨_, _, _, rfl, hI, rfl⟩
    · rw [if_neg c0]; exact ⟨_, _, _, rfl, hI, rfl⟩
