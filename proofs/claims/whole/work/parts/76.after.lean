/-! ===== after ===== -/
/-- the reference's last answer -/
def finA (l3 old first : Int32) (M : SV) : Option (Int32 × SV) := if l3 = 0 then (fX10_ones (M.1 31 &&& (old ^^^ (-1)))).bind fun x168 => some (x168, M) else if l3 = 1 then some (first, M) else if l3 = 2 then (gX10_busiest M).bind fun x190 => some (x190, M) else some (M.1 36, M)
/-- as FrS, the counts apart -/
def FrT (M M' : SV) : Prop := (∀ k, (k < 31 ∨ 38 ≤ k) → M'.1 k = M.1 k) ∧ ∀ k, k ≠ 28 → k ≠ 29 → k ≠ 54 → M'.2.1 k = M.2.1 k
theorem FrS.t {M M' : SV} (h : FrS M M') : FrT M M' := ⟨h.1, fun k k1 k2 _ => h.2.1 k k1 k2⟩
theorem FrT.rf {M : SV} : FrT M M := FrS.rf.t
theorem FrT.tr {M M1 M2 : SV} (h : FrT M M1) (h2 : FrT M1 M2) : FrT M M2 := ⟨fun k hk => (h2.1 k hk).trans (h.1 k hk), fun k k1 k2 k3 => (h2.2 k k1 k2 k3).trans (h.2 k k1 k2 k3)⟩
theorem FrT.w {M M' : SV} (h : FrT M M') (f : Nat → Int32) : FrT M (wR M' 54 f) := ⟨h.1, fun k k1 k2 k3 => (wR_ne k3).trans (h.2 k k1 k2 k3)⟩
section AF
variable {C : SV} {B : Nat → Int32} {i n c : Nat} {A : Nat → Int32} {M S : SV} {M0 : SV} {iy : Nat} {Y : SV} {m ny : Nat}
theorem MX.tt (h : MX B i n c A M) {M' : SV} (hf : FrT M M') : MX B i n c A M' := by
  obtain ⟨⟨h1, h2⟩, h3, h4, h5, h6⟩ := h
  exact ⟨⟨h1, (hf.1 25 (by omega)).trans h2⟩, fun j hj => by rw [hf.2 6 (by decide) (by decide) (by decide)]; exact h3 j hj, (hf.1 26 (by omega)).trans h4, (hf.1 27 (by omega)).trans h5, fun t ht => by rw [hf.2 30 (by decide) (by decide) (by decide)]; exact h6 t ht⟩
theorem YW.tt (h : YW M0 iy Y m ny M) {M' : SV} (hf : FrT M M') : YW M0 iy Y m ny M' := h.to (hf.1 38 (by omega)) (hf.2 7 (by decide) (by decide) (by decide))
theorem SR.m54 (h : SR n A S M) (f : Nat → Int32) : SR n A S (wR M 54 f) := h
/-- class and reference within after -/
def AR (n c : Nat) (A : Nat → Int32) (old : Int32) (S : SV) (first : Int32) (M : SV) : Prop := SR n A S M ∧ rng (S.1 5) 0 99 ∧ S.1 7 = old ∧ (S.1 13 = first ∧ (first = -1 → S.1 6 = old)) ∧ (∀ k, k < 4 → S.2.1 3 k = M.2.1 54 k) ∧ ∀ k, c ≤ k → k < 4 → S.2.1 3 k = 0
theorem after_both (h : CX C B n c) (hM : MX B i n c (C.2.1 5) M) (hY : YW M0 iy Y m ny M) {old : Int32} (hA : AR n c (C.2.1 5) old S (-1) M) (l3 : Int32) : ∃ r S' first M', gX6_live C Y m (nI ny) S = some (r, S') ∧ gfX10_after_64 FU l3 old (-1) 1 0 M = finA l3 old first M' ∧ AR n c (C.2.1 5) old S' first M' ∧ MX B i n c (C.2.1 5) M' := by
  have hny := hY.hn
  have hc := h.hc
  have h10 : ¬ (1 : Int32) = 0 := by decide
  unfold gX6_live
  simp only [nm]
  rw [hY.e3, imin_nI (by omega) (by omega), Nat.min_self]
  -- the reference ends
  have fin : ∀ (f : Nat) (first l7 : Int32) (M1 : SV), gfX10_after_64 (f + 1) l3 old first 0 l7 M1 = finA l3 old first M1 := by
    intro f first l7 M1
    show gbX10_after_64 _ _ _ _ _ _ _ = _
    unfold gbX10_after_64 finA
    rw [if_pos rfl]
  have stop : ∀ (f : Nat) (first l7 : Int32) (M1 : SV), (first = -1 → M1.1 31 = old) → gbX10_after_91 (gfX10_after_64 (f + 1)) l3 old first l7 M1 = finA l3 old first M1 := by
    intro f first l7 M1 hf
    unfold gbX10_after_91 gbX10_after_92 gbX10_after_114 gbX10_after_116
    by_cases q : first = -1
    · rw [if_pos q, if_pos (hf q), if_pos rfl]; exact fin f first _ M1
    · rw [if_neg q, if_pos rfl]; exact fin f first _ M1
  have key := lpT (fun f (q : Int32 × SV) => gfX6_live_12 C Y m f (nI ny) q.1 q.2) (fun f (q : Int32 × Int32 × SV) => gfX10_after_64 (f + 1) l3 old q.1 1 q.2.1 q.2.2) (fun j s t => s.1 = nI j ∧ t.2.1 = nI j ∧ FrT M t.2.2 ∧ AR n c (C.2.1 5) old s.2 t.1 t.2.2) (fun b d => ∃ r S' first M', b = some (r, S') ∧ d = finA l3 old first M' ∧ AR n c (C.2.1 5) old S' first M' ∧ FrT M M') ny ?_ ?_ (0, S) (-1, 0, M) ⟨rfl, rfl, FrT.rf, hA⟩ FU 19999 (by rw [FUn]; omega) (by omega)
  · obtain ⟨r, S', first, M', k1, k2, k3, k4⟩ := key
    exact ⟨r, S', first, M', k1, k2, k3, hM.tt k4⟩
  · rintro j hj ⟨l, S1⟩ ⟨first, l', M1⟩ ⟨e1, e2, e3, e4⟩
    replace e1 : l = nI j := e1
    replace e2 : l' = nI j := e2
    replace e3 : FrT M M1 := e3
    replace e4 : AR n c (C.2.1 5) old S1 first M1 := e4
    subst e1 e2
    obtain ⟨g1, g2, g3, ⟨g4, g5⟩, g6, g7⟩ := e4
    obtain ⟨r, S', M', ⟨q1, q2, q3, a1, a2, a3, a4⟩, d, ⟨o1, o2, o3, o4⟩, hr, o5⟩ := act_step h (hM.tt e3) g1 g2 (hY.tt e3) hj
    have f1 : ∀ f, gfX6_live_12 C Y m (f + 1) (nI ny) (nI j) S1 = (if r = 0 then some (nI j, S') else if S'.1 6 = S1.1 6 then gfX6_live_12 C Y m f (nI ny) (nI (j + 1)) S' else if S'.1 13 = -1 then gfX6_live_12 C Y m f (nI ny) (nI (j + 1)) (wI S' 13 (nI j)) else gfX6_live_12 C Y m f (nI ny) (nI (j + 1)) S') := by
      intro f
      show gbX6_live_12 _ _ _ _ _ _ _ = _
      unfold gbX6_live_12
      rw [if_neg (nI_ge hj (by omega)), a1, a2, a3]
      simp only [Option.bind_some]
      rw [a4]
      simp only [b2, nm, ← nI_succ]
    have f2 : ∀ f, gfX10_after_64 (f + 1 + 1) l3 old first 1 (nI j) M1 = (if r = 0 then gbX10_after_91 (gfX10_after_64 (f + 1)) l3 old first (nI j) M' else gbX10_after_92 (gfX10_after_64 (f + 1)) l3 old first (nI j) 1 M') := by
      intro f
      show gbX10_after_64 _ _ _ _ _ _ _ = _
      unfold gbX10_after_64
      rw [if_neg h10, (hY.tt e3).deeds]
      simp only [Option.bind_some]
      rw [if_neg (nI_ge hj (by omega)), d]
      simp only [b2]
    have fr7 : S'.1 7 = old := o3.1.trans g3
    have fr13 : S'.1 13 = first := o3.2.1.trans g4
    have e54 : M'.2.1 54 = M1.2.1 54 := o2.r (by decide) (by decide)
    rcases hr with rfl | rfl
    · right
      simp only [if_true] at f1 f2
      have o5' : S'.1 6 = S1.1 6 ∧ S'.2.1 3 = S1.2.1 3 := by
        rcases o5 with ⟨-, o⟩ | ⟨o, -⟩ | ⟨o, -⟩
        · exact o
        · exact absurd o (by decide)
        · exact absurd o (by decide)
      have hgone : first = -1 → M'.1 31 = old := fun q => by rw [o1.e6, o5'.1]; exact g5 q
      exact ⟨some (nI j, S'), finA l3 old first M', f1, fun f => by show gfX10_after_64 (f + 1 + 1) l3 old first 1 (nI j) M1 = _; rw [f2, stop f first _ M' hgone], nI j, S', first, M', rfl, rfl, ⟨o1, o4 g2, fr7, ⟨fr13, fun q => by rw [o5'.1]; exact g5 q⟩, fun k hk => by rw [o5'.2, e54]; exact g6 k hk, fun k k1 k2 => by rw [o5'.2]; exact g7 k k1 k2⟩, e3.tr o2.t⟩
    · left
      simp only [if_neg h10] at f1 f2
      -- the counts
      obtain ⟨d1, d2, d3⟩ := (hY.tt (e3.tr o2.t)).deedOf hj
      obtain ⟨T, t1, t2, t3⟩ : ∃ T, (∀ f s0, gbX10_after_116 (gfX10_after_64 (f + 1)) l3 old 1 (nI j) s0 M' = gfX10_after_64 (f + 1) l3 old s0 1 (nI (j + 1)) (wR M' 54 T)) ∧ (∀ k, k < 4 → S'.2.1 3 k = T k) ∧ ∀ k, c ≤ k → k < 4 → S'.2.1 3 k = 0 := by
        rcases o5 with ⟨o, -⟩ | ⟨-, w0, k, hk, ek, o⟩ | ⟨-, w0, o⟩
        · exact absurd o (by decide)
        · refine ⟨upd (M1.2.1 54) k (M1.2.1 54 k + 1), fun f s0 => ?_, fun k' hk' => ?_, fun k' k1 k2 => ?_⟩
          · unfold gbX10_after_116
            rw [if_neg h10, d1]
            simp only [Option.bind_some]
            rw [if_pos w0, d2, ek]
            simp only [Option.bind_some]
            rw [rA_nI (by omega) (by omega)]
            simp only [Option.bind_some]
            rw [wA_nI (by omega) (by omega), e54]
            simp only [Option.bind_some, nm, ← nI_succ]
          · rw [o]
            by_cases q : k' = k
            · subst q; rw [pk_us, pk_us, g6 k' hk']
            · rw [pk_un q, pk_un q]; exact g6 k' hk'
          · rw [o, pk_un (by omega)]; exact g7 k' k1 k2
        · refine ⟨M1.2.1 54, fun f s0 => ?_, fun k' hk' => by rw [o]; exact g6 k' hk', fun k' k1 k2 => by rw [o]; exact g7 k' k1 k2⟩
          unfold gbX10_after_116
          rw [if_neg h10, d1]
          simp only [Option.bind_some]
          rw [if_neg w0, ← e54, wR_id]
          simp only [nm, ← nI_succ]
      have R' : SR n (C.2.1 5) S' (wR M' 54 T) := o1
      have F' : FrT M (wR M' 54 T) := (e3.tr o2.t).w T
      have T' : ∀ k, k < 4 → S'.2.1 3 k = (wR M' 54 T).2.1 54 k := fun k hk => by rw [wR_eq]; exact t2 k hk
      unfold gbX10_after_92 gbX10_after_114 at f2
      simp only [t1] at f2
      by_cases cf : first = -1
      · subst cf
        simp only [if_true, o1.e6] at f2
        have gold := g5 rfl
        rw [gold] at f1
        by_cases c1 : S'.1 6 = old
        · simp only [if_pos c1] at f1 f2
          exact ⟨(nI (j + 1), S'), (-1, nI (j + 1), wR M' 54 T), f1, f2, rfl, rfl, F', R', o4 g2, fr7, ⟨fr13, fun _ => c1⟩, T', t3⟩
        · simp only [if_neg c1, if_pos fr13] at f1
          simp only [if_neg c1] at f2
          refine ⟨(nI (j + 1), wI S' 13 (nI j)), (nI j, nI (j + 1), wR M' 54 T), f1, f2, rfl, rfl, F', R'.w7 (Or.inr (Or.inl rfl)) _, ?_, ?_, ⟨?_, fun q => ?_⟩, T', t3⟩
          · show rng ((wI S' 13 (nI j)).1 5) 0 99
            rw [wI_ne (by decide)]; exact o4 g2
          · show (wI S' 13 (nI j)).1 7 = old
            rw [wI_ne (by decide)]; exact fr7
          · exact wI_eq
          · exact absurd q (nI_m1 (by omega))
      · simp only [if_neg cf] at f2
        have nf : ¬ S'.1 13 = -1 := by rw [fr13]; exact cf
        simp only [if_neg nf, ite_self] at f1
        exact ⟨(nI (j + 1), S'), (first, nI (j + 1), wR M' 54 T), f1, f2, rfl, rfl, F', R', o4 g2, fr7, ⟨fr13, fun q => absurd q cf⟩, T', t3⟩
  · rintro ⟨l, S1⟩ ⟨first, l', M1⟩ ⟨e1, e2, e3, e4⟩
    replace e1 : l = nI ny := e1
    replace e2 : l' = nI ny := e2
    replace e3 : FrT M M1 := e3
    replace e4 : AR n c (C.2.1 5) old S1 first M1 := e4
    subst e1 e2
    refine ⟨some (nI ny, S1), finA l3 old first M1, fun f => ?_, fun f => ?_, nI ny, S1, first, M1, rfl, rfl, e4, e3⟩
    · show gbX6_live_12 _ _ _ _ _ _ _ = _
      unfold gbX6_live_12
      rw [if_pos (nI_le (Nat.le_refl _) (by omega))]
    · show gbX10_after_64 _ _ _ _ _ _ _ = _
      unfold gbX10_after_64
      rw [if_neg h10, (hY.tt e3).deeds]
      simp only [Option.bind_some]
      rw [if_pos (nI_le (Nat.le_refl _) (by omega))]
      exact stop f first _ M1 (fun q => by rw [e4.1.e6]; exact e4.2.2.2.1.2 q)
theorem busy_tail (C S : SV) : ∀ d j, j + d = 4 → (∀ k, j ≤ k → k < 4 → S.2.1 3 k = 0) → ∀ (b x : Int32), 0 ≤ x.toInt → ∀ f, gfX6_busiest_6 C S (f + d + 1) b x (nI j) = some b
  | 0, j, hj, _, b, x, _, f => by
    have e : j = 4 := by omega
    subst e
    show gbX6_busiest_6 _ _ _ _ _ _ = _
    unfold gbX6_busiest_6
    rw [if_pos (show Int32.ofNat 4 ≤ nI 4 by decide)]
  | d + 1, j, hj, hz, b, x, hx, f => by
    show gbX6_busiest_6 (gfX6_busiest_6 C S (f + d + 1)) _ _ _ _ _ = _
    unfold gbX6_busiest_6
    rw [if_neg (show ¬ Int32.ofNat 4 ≤ nI j from nI_ge (b := 4) (by omega) (by omega)), rA_nI (by omega) (by omega), hz j (Nat.le_refl _) (by omega)]
    simp only [Option.bind_some, nm]
    rw [if_pos (show (0 : Int32) ≤ x by rw [fa_le, t0]; exact hx), ← nI_succ]
    exact busy_tail C S d (j + 1) (by omega) (fun k k1 k2 => hz k (by omega) k2) b x hx f
theorem busy_both (h : CX C B n c) (hM : MX B i n c (C.2.1 5) M) {old first : Int32} (hA : AR n c (C.2.1 5) old S first M) : ∃ r, gX6_busiest C S = some r ∧ gX10_busiest M = some r := by
  have hc := h.hc
  obtain ⟨-, -, -, -, g6, g7⟩ := hA
  have key := lpT (fun f (q : Int32 × Int32 × Int32) => gfX6_busiest_6 C S (f + 4) q.1 q.2.1 q.2.2) (fun f (q : Int32 × Int32) => gfX10_busiest_4 M f q.1 q.2) (fun j s t => s.1 = t.1 ∧ s.2.2 = nI j ∧ t.2 = nI j ∧ 0 ≤ s.2.1.toInt ∧ ((s.1 = -1 ∧ s.2.1 = 0) ∨ ∃ b, b < 4 ∧ s.1 = nI b ∧ s.2.1 = S.2.1 3 b)) (fun b d => ∃ r, b = some r ∧ d = some r) c ?_ ?_ (-1, 0, 0) (-1, 0) ⟨rfl, rfl, rfl, by rw [t0]; exact Int.le_refl _, Or.inl ⟨rfl, rfl⟩⟩ 19996 FU (by omega) (by rw [FUn]; omega)
  · exact key
  · rintro j hj ⟨b, x, l⟩ ⟨b', l'⟩ ⟨e1, e2, e3, e4, e5⟩
    replace e1 : b = b' := e1
    replace e2 : l = nI j := e2
    replace e3 : l' = nI j := e3
    replace e4 : 0 ≤ x.toInt := e4
    replace e5 : (b = -1 ∧ x = 0) ∨ ∃ k, k < 4 ∧ b = nI k ∧ x = S.2.1 3 k := e5
    subst e1 e2 e3
    left
    have f1 : ∀ f, gfX6_busiest_6 C S (f + 1 + 4) b x (nI j) = (if S.2.1 3 j ≤ x then gfX6_busiest_6 C S (f + 4) b x (nI (j + 1)) else gfX6_busiest_6 C S (f + 4) (nI j) (S.2.1 3 j) (nI (j + 1))) := by
      intro f
      rw [show f + 1 + 4 = (f + 4) + 1 by omega]
      show gbX6_busiest_6 _ _ _ _ _ _ = _
      unfold gbX6_busiest_6
      rw [if_neg (show ¬ Int32.ofNat 4 ≤ nI j from nI_ge (b := 4) (by omega) (by omega)), rA_nI (by omega) (by omega)]
      simp only [Option.bind_some, nm, ← nI_succ]
    have f2 : ∀ f, gfX10_busiest_4 M (f + 1) b (nI j) = (if S.2.1 3 j ≤ x then gfX10_busiest_4 M f b (nI (j + 1)) else gfX10_busiest_4 M f (nI j) (nI (j + 1))) := by
      intro f
      show gbX10_busiest_4 _ _ _ _ = _
      unfold gbX10_busiest_4 gbX10_busiest_33
      rw [hM.cp, if_neg (nI_ge hj (by omega)), rA_nI (by omega) (by omega), ← g6 j (by omega)]
      simp only [Option.bind_some, nm, ← nI_succ]
      rcases e5 with ⟨rfl, rfl⟩ | ⟨k, hk, rfl, rfl⟩
      · rw [if_pos rfl]
      · rw [if_neg (nI_m1 (by omega)), rA_nI (by omega) (by omega), ← g6 k hk]
        simp only [Option.bind_some]
    by_cases c1 : S.2.1 3 j ≤ x
    · simp only [if_pos c1] at f1 f2
      exact ⟨(b, x, nI (j + 1)), (b, nI (j + 1)), f1, f2, rfl, rfl, rfl, e4, e5⟩
    · simp only [if_neg c1] at f1 f2
      refine ⟨(nI j, S.2.1 3 j, nI (j + 1)), (nI j, nI (j + 1)), f1, f2, rfl, rfl, rfl, ?_, Or.inr ⟨j, by omega, rfl, rfl⟩⟩
      show 0 ≤ (S.2.1 3 j).toInt
      rw [fa_le] at c1; omega
  · rintro ⟨b, x, l⟩ ⟨b', l'⟩ ⟨e1, e2, e3, e4, e5⟩
    replace e1 : b = b' := e1
    replace e2 : l = nI c := e2
    replace e3 : l' = nI c := e3
    replace e4 : 0 ≤ x.toInt := e4
    subst e1 e2 e3
    refine ⟨some b, some b, fun f => ?_, fun f => ?_, b, rfl, rfl⟩
    · show gfX6_busiest_6 C S (f + 1 + 4) b x (nI c) = some b
      have := busy_tail C S (4 - c) c (by omega) (fun k k1 k2 => g7 k k1 k2) b x e4 (f + c)
      rw [show f + c + (4 - c) + 1 = f + 1 + 4 by omega] at this
      exact this
    · show gbX10_busiest_4 _ _ _ _ = _
      unfold gbX10_busiest_4
      rw [hM.cp, if_pos (nI_le (Nat.le_refl _) (by omega))]
theorem m_after29 (l3 : Int32) (M : SV) : ∃ T, gfX10_after_29 FU l3 0 M = gfX10_after_64 FU l3 (M.1 31) (-1) 1 0 (wR M 54 T) ∧ ∀ k, k < 4 → T k = 0 := by
  have key := lpR (fun f (q : Int32 × SV) => gfX10_after_29 f l3 q.1 q.2) (fun j q => q.1 = nI j ∧ ∃ T, q.2 = wR M 54 T ∧ ∀ k, k < j → T k = 0) (fun b => ∃ T, b = gfX10_after_64 FU l3 (M.1 31) (-1) 1 0 (wR M 54 T) ∧ ∀ k, k < 4 → T k = 0) 4 ?_ ?_ (0, M) ⟨rfl, M.2.1 54, wR_id.symm, fun k hk => by omega⟩ FU (by rw [FUn]; omega)
  · exact key
  · rintro j hj ⟨l, M1⟩ ⟨e1, T, e2, e3⟩
    replace e1 : l = nI j := e1
    replace e2 : M1 = wR M 54 T := e2
    subst e1 e2
    left
    refine ⟨(nI (j + 1), wR M 54 (upd T j 0)), fun f => ?_, rfl, upd T j 0, rfl, fun k hk => ?_⟩
    · show gbX10_after_29 _ _ _ _ = _
      unfold gbX10_after_29
      rw [if_neg (show ¬ (4 : Int32) ≤ nI j from nI_ge (b := 4) hj (by omega)), wA_nI (by omega) (by omega), wR_eq, wR_wR]
      simp only [Option.bind_some, nm, ← nI_succ]
    · by_cases q : k = j
      · subst q; rw [pk_us]
      · rw [pk_un q]; exact e3 k (by omega)
  · rintro ⟨l, M1⟩ ⟨e1, T, e2, e3⟩
    replace e1 : l = nI 4 := e1
    replace e2 : M1 = wR M 54 T := e2
    subst e1 e2
    refine ⟨gfX10_after_64 FU l3 (M.1 31) (-1) 1 0 (wR M 54 T), fun f => ?_, T, rfl, e3⟩
    show gbX10_after_29 _ _ _ _ = _
    unfold gbX10_after_29
    rw [if_pos (show (4 : Int32) ≤ nI 4 by decide)]
    rfl
end AF
theorem qu_after (Wc : WC) : Qu_after Wc := by
  intro z M ρM hI a1 a2 a3
  have hsk := hI.2.2.2.1
  obtain ⟨ρ, S, hS⟩ := hsk.2.2.2.1
  unfold fX9_after gX10_after gX10_layAll gX10_hasYear
  rw [if_pos (x9_o hsk), x9_g (k := 0) (x := 16) hsk rfl]
  simp only [Option.bind_some, nm]
  rcases rows_cases hI (q := 1) (by omega) (by omega) a2 with ⟨iy, b, ρb, Y, hiy, rfl, y1, y2, y3, y4, y5⟩ | ⟨y1, y5⟩
  · have y1' : fX7_rowsAt 16 1 (nI iy) z = some (some b) := y1
    have y5' : gX10_is 1 (nI iy) (wI (wI M 0 0) 38 (nI iy)) = some 1 := y5 _ rfl
    obtain ⟨ny, hY⟩ := yw_of hiy y4
    have hny := hY.hn
    rw [y1', y5']
    rcases land_cases hI a1 with ⟨i, a, ρc, C, n, c, hi, rfl, h1, ha, hC, hx, hb⟩ | ⟨h1, hb⟩
    · obtain ⟨S', M', b1, b2_, b3, b4, b5, b6⟩ := hb (wI (wI M 0 0) 38 (nI iy)) rfl rfl S
      have zb := z_begin hI hC ha hS b1
      have hz := z_z hI
      have hn := hx.hn
      rw [h1]
      simp only [Option.bind_some, nq, b2, or_true, if_true, show ¬ ((1 : Int32) = 0) by decide, if_false]
      rw [b2_, x9_g (k := 4) (x := 44) hsk rfl]
      have hY' := hY.fh b4
      simp only [Option.bind_some, show ¬ ((1 : Int32) = 0) by decide, if_false]
      rw [zb]
      have hyr : RD 4 b ρb Y (wr 5 44 (va_up ρ.1 0 (some a), ρ.2) S' z) := RDrow y3 scr5 y2 _ _
      simp only [Option.bind_some, z_g hI, gI_rd hyr (k := 3) rfl, hY.e3]
      obtain ⟨T, u1, u2⟩ := m_after29 a3 M'
      have hA : AR n c (C.2.1 5) (M'.1 31) S' (-1) (wR M' 54 T) := ⟨b5, b6.h5, by rw [b6.1, b5.e6], ⟨b6.2.2.1.2.2.2.2.2.2.1, fun _ => b5.e6.symm⟩, fun k hk => by rw [wR_eq, u2 k hk]; exact b6.2.1 k hk, fun k k1 k2 => b6.2.1 k k2⟩
      obtain ⟨r, S2, first, M2, v1, v2, v3, v4⟩ := after_both hx (b3.tt (FrT.rf.w T)) (hY'.tt (FrT.rf.w T)) hA a3
      rw [eX6_live hz hC (z_d ha) (z_land ρ a) y3 (z_d4 y2), v1, u1, v2]
      have hS2 := z_S hI (va_up ρ.1 0 (some a), ρ.2) S2
      simp only [Option.map_some, z_g hI, Option.bind_some, gI_rd hS2 (k := 6) rfl, gI_rd hS2 (k := 7) rfl, gI_rd hS2 (k := 12) rfl, gI_rd hS2 (k := 13) rfl, eX6_busiest hS2 (z_C hC ha _ _) (z_land ρ a)]
      obtain ⟨w1, w2, w3, ⟨w4, w5⟩, w6, w7⟩ := id v3
      have hin : ∀ x : Int32, (x = 0 ∨ x = 1 ∨ x = 2 ∨ x = 3 ∨ (¬ x = 0 ∧ ¬ x = 1 ∧ ¬ x = 2 ∧ ¬ x = 3 ∧ fX10_in x 0 3 = 0)) := by
        intro x
        by_cases p0 : x = 0
        · exact Or.inl p0
        by_cases p1 : x = 1
        · exact Or.inr (Or.inl p1)
        by_cases p2 : x = 2
        · exact Or.inr (Or.inr (Or.inl p2))
        by_cases p3 : x = 3
        · exact Or.inr (Or.inr (Or.inr (Or.inl p3)))
        refine Or.inr (Or.inr (Or.inr (Or.inr ⟨p0, p1, p2, p3, m_in1 ?_⟩)))
        have t3 : (3 : Int32).toInt = 3 := rfl
        rw [fa_eq, t0] at p0; rw [fa_eq, t1] at p1; rw [fa_eq, t2] at p2; rw [fa_eq, t3] at p3
        rw [t0, t3]; omega
      unfold finA
      rcases hin a3 with rfl | rfl | rfl | rfl | ⟨p0, p1, p2, p3, p4⟩
      · rw [if_neg (show ¬ fX10_in 0 0 3 = 0 by decide), if_pos rfl, if_pos rfl, m_ones]
        simp only [Option.bind_some]
        refine ⟨_, _, M2, rfl, hI.scratch scr5 (by decide) _ _, ?_⟩
        rw [bc_8 (fun k k1 k2 => by rw [b_and, w1.go.1 k (by omega) k2]; rfl), w1.e6, w3]
      · rw [if_neg (show ¬ fX10_in 1 0 3 = 0 by decide)]
        simp only [show ¬ ((1 : Int32) = 0) by decide, if_true, if_false]
        exact ⟨_, _, _, rfl, hI.scratch scr5 (by decide) _ _, by rw [w4]⟩
      · rw [if_neg (show ¬ fX10_in 2 0 3 = 0 by decide)]
        simp only [show ¬ ((2 : Int32) = 0) by decide, show ¬ ((2 : Int32) = 1) by decide, if_true, if_false]
        obtain ⟨r2, x1, x2⟩ := busy_both hx v4 v3
        rw [x1, x2]
        exact ⟨_, _, _, rfl, hI.scratch scr5 (by decide) _ _, rfl⟩
      · rw [if_neg (show ¬ fX10_in 3 0 3 = 0 by decide)]
        simp only [show ¬ ((3 : Int32) = 0) by decide, show ¬ ((3 : Int32) = 1) by decide, show ¬ ((3 : Int32) = 2) by decide, if_true, if_false]
        exact ⟨_, _, _, rfl, hI.scratch scr5 (by decide) _ _, by rw [w1.e12]⟩
      · rw [if_pos p4]
        simp only [p0, p1, p2, p3, if_false]
        exact ⟨_, _, _, rfl, hI.scratch scr5 (by decide) _ _, rfl⟩
    · rw [h1]
      simp only [Option.bind_some, nq, b2, or_true, if_true, show ¬ ((1 : Int32) = 0) by decide, if_false]
      rw [hb (wI (wI M 0 0) 38 (nI iy)) rfl]
      simp only [if_true]
      exact ⟨_, _, _, rfl, hI, rfl⟩
  · have y1' : fX7_rowsAt 16 1 a2 z = some none := y1
    have y5' : gX10_is 1 a2 (wI (wI M 0 0) 38 a2) = some 0 := y5 _ rfl
    rw [y1', y5']
    rcases land_cases hI a1 with ⟨i, a, ρc, C, n, c, hi, rfl, h1, ha, hC, hx, hb⟩ | ⟨h1, hb⟩
    · rw [h1]
      simp only [Option.bind_some, nq, b2, true_or, if_true]
      exact ⟨_, _, _, rfl, hI, rfl⟩
    · rw [h1]
      simp only [Option.bind_some, nq, b2, true_or, if_true]
      exact ⟨_, _, _, rfl, hI, rfl⟩
