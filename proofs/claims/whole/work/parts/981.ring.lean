/-! ===== text: rings, shared eyes, who rests above whom ===== -/
/-- RESTS lead to THINGS that are there, or nowhere -/
def RE (B : Nat → Int32) (n : Nat) : Prop := n ≤ 8 ∧ ∀ t, t < 8 → B (30 + t) = -1 ∨ ∃ s, s < n ∧ B (30 + t) = nI s
theorem RE.dw {B : Nat → Int32} {n : Nat} (h : RE B n) {t : Nat} (ht : t < n) : ∀ k, dn B k (nI t) = -1 ∨ ∃ s, s < n ∧ dn B k (nI t) = nI s
  | 0 => Or.inr ⟨t, ht, rfl⟩
  | k + 1 => by
    have hn := h.1
    rcases RE.dw h ht k with e | ⟨s, hs, e⟩
    · left; rw [dn_add, e, dn_m1]
    · rw [dn_add, e, dn_one B (by omega)]; exact h.2 s (by omega)
section RG
variable {C M : SV} {B : Nat → Int32} {n : Nat}
theorem ht_e (h0 : C.1 0 = nI n) (hn : n ≤ 8) : (∀ s, s < n → gX0_hasThing (nI s) C = some 1) ∧ gX0_hasThing (-1) C = some 0 := by
  refine ⟨fun s hs => ?_, ?_⟩
  · unfold gX0_hasThing
    rw [if_neg (nI_pos (by omega)), h0, if_neg (nI_ge hs (by omega))]
  · unfold gX0_hasThing
    rw [if_pos (by decide)]
theorem c_ring (h0 : C.1 0 = nI n) (h4 : ∀ t, t < 8 → C.2.1 4 t = B (30 + t)) (hB : RE B n) : ∃ r, gX0_hasRing C = some r ∧ ((r = 1 ∧ ∃ t, t < n ∧ ¬ dn B 8 (nI t) = -1) ∨ (r = 0 ∧ ∀ t, t < n → dn B 8 (nI t) = -1)) := by
  have hn := hB.1
  obtain ⟨ht1, ht0⟩ := ht_e h0 hn
  have key := lpR (fun u (w : Int32) => gfX0_hasRing_2 C u w) (fun t w => w = nI t ∧ ∀ m, m < t → dn B 8 (nI m) = -1) (fun b => ∃ r, b = some r ∧ ((r = 1 ∧ ∃ t, t < n ∧ ¬ dn B 8 (nI t) = -1) ∨ (r = 0 ∧ ∀ t, t < n → dn B 8 (nI t) = -1))) n ?_ ?_ 0 ⟨rfl, fun m hm => by omega⟩ FU (by rw [FUn]; omega)
  · exact key
  · rintro t ht w ⟨e1, e2⟩
    subst e1
    have loop := lpR (fun u (q : Int32 × Int32) => fun k2 : Int32 → Option Int32 => gfX0_hasRing_14 k2 C u (nI t) q.1 q.2) (fun m q => q.1 = dn B m (nI t) ∧ q.2 = nI m) (fun b => (b = (fun _ => some 1) ∧ ¬ dn B 8 (nI t) = -1) ∨ (b = (fun k2 => k2 (nI (t + 1))) ∧ dn B 8 (nI t) = -1)) 8 ?_ ?_ (nI t, 0) ⟨rfl, rfl⟩ FU (by rw [FUn]; omega)
    · have step : ∀ u, gfX0_hasRing_2 C (u + 1) (nI t) = gfX0_hasRing_14 (gfX0_hasRing_2 C u) C FU (nI t) (nI t) 0 := by
        intro u
        show gbX0_hasRing_2 _ _ _ = _
        unfold gbX0_hasRing_2
        rw [h0, if_neg (nI_ge ht (by omega))]
      replace loop : ((fun k2 : Int32 → Option Int32 => gfX0_hasRing_14 k2 C FU (nI t) (nI t) 0) = (fun _ => some 1) ∧ ¬ dn B 8 (nI t) = -1) ∨ ((fun k2 : Int32 → Option Int32 => gfX0_hasRing_14 k2 C FU (nI t) (nI t) 0) = (fun k2 => k2 (nI (t + 1))) ∧ dn B 8 (nI t) = -1) := loop
      rcases loop with ⟨l1, l2⟩ | ⟨l1, l2⟩
      · right
        exact ⟨some 1, fun u => (step u).trans (congrFun l1 _), 1, rfl, Or.inl ⟨rfl, t, ht, l2⟩⟩
      · left
        refine ⟨nI (t + 1), fun u => (step u).trans (congrFun l1 _), rfl, fun m hm => ?_⟩
        by_cases e : m = t
        · rw [e]; exact l2
        · exact e2 m (by omega)
    · rintro m hm ⟨x, l⟩ ⟨e3, e4⟩
      replace e3 : x = dn B m (nI t) := e3
      replace e4 : l = nI m := e4
      subst e4
      rcases hB.dw ht m with e | ⟨s, hs, e⟩
      · right
        refine ⟨(fun k2 => k2 (nI (t + 1))), fun u => ?_, Or.inr ⟨rfl, by rw [show 8 = m + (8 - m) by omega, dn_add, e, dn_m1]⟩⟩
        funext k2
        show gbX0_hasRing_14 _ _ _ _ _ _ = _
        unfold gbX0_hasRing_14 gbX0_hasRing_41
        rw [if_neg (show ¬ (8 : Int32) ≤ nI m from nI_ge (b := 8) hm (by omega)), e3, e, ht0]
        simp only [Option.bind_some]
        rw [if_pos (show True from trivial), if_pos (show True from trivial), nmE, ← nI_succ]
      · left
        refine ⟨(B (30 + s), nI (m + 1)), fun u => ?_, ?_, rfl⟩
        · funext k2
          show gbX0_hasRing_14 _ _ _ _ _ _ = _
          unfold gbX0_hasRing_14
          rw [if_neg (show ¬ (8 : Int32) ≤ nI m from nI_ge (b := 8) hm (by omega)), e3, e, ht1 s hs]
          simp only [Option.bind_some]
          rw [if_neg (show ¬ (1 : Int32) = 0 by decide), rA_nI (by omega) (by omega), h4 s (by omega)]
          simp only [Option.bind_some]
          rw [nmE, ← nI_succ]
        · show B (30 + s) = dn B (m + 1) (nI t)
          rw [dn_add B m 1, e, dn_one B (by omega)]
    · rintro ⟨x, l⟩ ⟨e3, e4⟩
      replace e3 : x = dn B 8 (nI t) := e3
      replace e4 : l = nI 8 := e4
      subst e4
      rcases hB.dw ht 8 with e | ⟨s, hs, e⟩
      · refine ⟨(fun k2 => k2 (nI (t + 1))), fun u => ?_, Or.inr ⟨rfl, e⟩⟩
        funext k2
        show gbX0_hasRing_14 _ _ _ _ _ _ = _
        unfold gbX0_hasRing_14 gbX0_hasRing_41
        rw [if_pos (show (8 : Int32) ≤ nI 8 by decide), e3, e, ht0]
        simp only [Option.bind_some]
        rw [if_pos (show True from trivial), nmE, ← nI_succ]
      · refine ⟨(fun _ => some 1), fun u => ?_, Or.inl ⟨rfl, by rw [e]; exact nI_m1 (by omega)⟩⟩
        funext k2
        show gbX0_hasRing_14 _ _ _ _ _ _ = _
        unfold gbX0_hasRing_14 gbX0_hasRing_41
        rw [if_pos (show (8 : Int32) ≤ nI 8 by decide), e3, e, ht1 s hs]
        simp only [Option.bind_some]
        rw [if_neg (show ¬ (1 : Int32) = 0 by decide)]
  · rintro w ⟨e1, e2⟩
    subst e1
    refine ⟨some 0, fun u => ?_, 0, rfl, Or.inr ⟨rfl, e2⟩⟩
    show gbX0_hasRing_2 _ _ _ = _
    unfold gbX0_hasRing_2
    rw [h0, if_pos (nI_le (Nat.le_refl _) (by omega))]
theorem m_ring (h19 : ∀ j, j < 121 → M.2.1 19 j = B j) (h0 : B 0 = nI n) (hB : RE B n) : ∃ r, gX10_isRing M = some r ∧ ((r = 1 ∧ ∃ t, t < n ∧ ¬ dn B 8 (nI t) = -1) ∨ (r = 0 ∧ ∀ t, t < n → dn B 8 (nI t) = -1)) := by
  have hn := hB.1
  have hr0 : rA 121 (M.2.1 19) 0 = some (nI n) := (rA_nI (k := 0) (by omega) (by omega)).trans (by rw [h19 0 (by omega), h0])
  have key := lpR (fun u (w : Int32) => gfX10_isRing_2 M u w) (fun t w => w = nI t ∧ ∀ m, m < t → dn B 8 (nI m) = -1) (fun b => ∃ r, b = some r ∧ ((r = 1 ∧ ∃ t, t < n ∧ ¬ dn B 8 (nI t) = -1) ∨ (r = 0 ∧ ∀ t, t < n → dn B 8 (nI t) = -1))) n ?_ ?_ 0 ⟨rfl, fun m hm => by omega⟩ FU (by rw [FUn]; omega)
  · exact key
  · rintro t ht w ⟨e1, e2⟩
    subst e1
    have loop := lpR (fun u (q : Int32 × Int32) => fun k2 : Int32 → Option Int32 => gfX10_isRing_16 k2 M u (nI t) q.1 q.2) (fun m q => q.1 = dn B m (nI t) ∧ q.2 = nI m) (fun b => (b = (fun _ => some 1) ∧ ¬ dn B 8 (nI t) = -1) ∨ (b = (fun k2 => k2 (nI (t + 1))) ∧ dn B 8 (nI t) = -1)) 8 ?_ ?_ (nI t, 0) ⟨rfl, rfl⟩ FU (by rw [FUn]; omega)
    · have step : ∀ u, gfX10_isRing_2 M (u + 1) (nI t) = gfX10_isRing_16 (gfX10_isRing_2 M u) M FU (nI t) (nI t) 0 := by
        intro u
        show gbX10_isRing_2 _ _ _ = _
        unfold gbX10_isRing_2
        rw [hr0, Option.bind_some, if_neg (nI_ge ht (by omega))]
      replace loop : ((fun k2 : Int32 → Option Int32 => gfX10_isRing_16 k2 M FU (nI t) (nI t) 0) = (fun _ => some 1) ∧ ¬ dn B 8 (nI t) = -1) ∨ ((fun k2 : Int32 → Option Int32 => gfX10_isRing_16 k2 M FU (nI t) (nI t) 0) = (fun k2 => k2 (nI (t + 1))) ∧ dn B 8 (nI t) = -1) := loop
      rcases loop with ⟨l1, l2⟩ | ⟨l1, l2⟩
      · right
        exact ⟨some 1, fun u => (step u).trans (congrFun l1 _), 1, rfl, Or.inl ⟨rfl, t, ht, l2⟩⟩
      · left
        refine ⟨nI (t + 1), fun u => (step u).trans (congrFun l1 _), rfl, fun m hm => ?_⟩
        by_cases e : m = t
        · rw [e]; exact l2
        · exact e2 m (by omega)
    · rintro m hm ⟨x, l⟩ ⟨e3, e4⟩
      replace e3 : x = dn B m (nI t) := e3
      replace e4 : l = nI m := e4
      subst e4
      rcases hB.dw ht m with e | ⟨s, hs, e⟩
      · right
        refine ⟨(fun k2 => k2 (nI (t + 1))), fun u => ?_, Or.inr ⟨rfl, by rw [show 8 = m + (8 - m) by omega, dn_add, e, dn_m1]⟩⟩
        funext k2
        show gbX10_isRing_16 _ _ _ _ _ _ = _
        unfold gbX10_isRing_16 gbX10_isRing_43
        rw [if_neg (show ¬ (8 : Int32) ≤ nI m from nI_ge (b := 8) hm (by omega)), e3, e, if_pos rfl, if_pos rfl, nmE, ← nI_succ]
      · left
        refine ⟨(B (30 + s), nI (m + 1)), fun u => ?_, ?_, rfl⟩
        · funext k2
          show gbX10_isRing_16 _ _ _ _ _ _ = _
          unfold gbX10_isRing_16
          rw [if_neg (show ¬ (8 : Int32) ≤ nI m from nI_ge (b := 8) hm (by omega)), e3, e, if_neg (nI_m1 (by omega)), show (30 : Int32) = nI 30 from rfl, nI_add, rA_nI (by omega) (by omega), h19 _ (by omega), Option.bind_some, nmE, ← nI_succ]
        · show B (30 + s) = dn B (m + 1) (nI t)
          rw [dn_add B m 1, e, dn_one B (by omega)]
    · rintro ⟨x, l⟩ ⟨e3, e4⟩
      replace e3 : x = dn B 8 (nI t) := e3
      replace e4 : l = nI 8 := e4
      subst e4
      by_cases e : dn B 8 (nI t) = -1
      · refine ⟨(fun k2 => k2 (nI (t + 1))), fun u => ?_, Or.inr ⟨rfl, e⟩⟩
        funext k2
        show gbX10_isRing_16 _ _ _ _ _ _ = _
        unfold gbX10_isRing_16 gbX10_isRing_43
        rw [if_pos (show (8 : Int32) ≤ nI 8 by decide), e3, if_pos e, nmE, ← nI_succ]
      · refine ⟨(fun _ => some 1), fun u => ?_, Or.inl ⟨rfl, e⟩⟩
        funext k2
        show gbX10_isRing_16 _ _ _ _ _ _ = _
        unfold gbX10_isRing_16 gbX10_isRing_43
        rw [if_pos (show (8 : Int32) ≤ nI 8 by decide), e3, if_neg e]
  · rintro w ⟨e1, e2⟩
    subst e1
    refine ⟨some 0, fun u => ?_, 0, rfl, Or.inr ⟨rfl, e2⟩⟩
    show gbX10_isRing_2 _ _ _ = _
    unfold gbX10_isRing_2
    rw [hr0, Option.bind_some, if_pos (nI_le (Nat.le_refl _) (by omega))]
/-- an eye in two COUPLES -/
def twP (B : Nat → Int32) (c : Nat) : Prop := ∃ i j, j < i ∧ i < c ∧ (B (46 + i) = B (46 + j) ∨ B (50 + i) = B (50 + j))
theorem c_twice {c : Nat} (hc : c ≤ 4) (h14 : C.1 14 = nI c) (h15 : ∀ t, t < 4 → C.2.1 15 t = B (46 + t) ∧ C.2.1 16 t = B (50 + t)) : ∃ r, gX0_sharesEye C = some r ∧ ((r = 1 ∧ twP B c) ∨ (r = 0 ∧ ¬ twP B c)) := by
  have key := lpR (fun u (w : Int32) => gfX0_sharesEye_2 C u w) (fun t w => w = nI t ∧ ¬ twP B t) (fun b => ∃ r, b = some r ∧ ((r = 1 ∧ twP B c) ∨ (r = 0 ∧ ¬ twP B c))) c ?_ ?_ 0 ⟨rfl, fun q => by obtain ⟨i, j, h1, h2, -⟩ := q; omega⟩ FU (by rw [FUn]; omega)
  · exact key
  · rintro t ht w ⟨e1, e2⟩
    subst e1
    have loop := lpR (fun u (q : Int32) => fun k2 : Int32 → Option Int32 => gfX0_sharesEye_12 k2 C u (nI t) q) (fun m q => q = nI m ∧ ∀ j, j < m → ¬ (B (46 + t) = B (46 + j) ∨ B (50 + t) = B (50 + j))) (fun b => (b = (fun _ => some 1) ∧ ∃ j, j < t ∧ (B (46 + t) = B (46 + j) ∨ B (50 + t) = B (50 + j))) ∨ (b = (fun k2 => k2 (nI (t + 1))) ∧ ∀ j, j < t → ¬ (B (46 + t) = B (46 + j) ∨ B (50 + t) = B (50 + j)))) t ?_ ?_ 0 ⟨rfl, fun j hj => by omega⟩ FU (by rw [FUn]; omega)
    · have step : ∀ u, gfX0_sharesEye_2 C (u + 1) (nI t) = gfX0_sharesEye_12 (gfX0_sharesEye_2 C u) C FU (nI t) 0 := by
        intro u
        show gbX0_sharesEye_2 _ _ _ = _
        unfold gbX0_sharesEye_2
        rw [h14, if_neg (nI_ge ht (by omega))]
      replace loop : ((fun k2 : Int32 → Option Int32 => gfX0_sharesEye_12 k2 C FU (nI t) 0) = (fun _ => some 1) ∧ ∃ j, j < t ∧ (B (46 + t) = B (46 + j) ∨ B (50 + t) = B (50 + j))) ∨ ((fun k2 : Int32 → Option Int32 => gfX0_sharesEye_12 k2 C FU (nI t) 0) = (fun k2 => k2 (nI (t + 1))) ∧ ∀ j, j < t → ¬ (B (46 + t) = B (46 + j) ∨ B (50 + t) = B (50 + j))) := loop
      rcases loop with ⟨l1, j, l2, l3⟩ | ⟨l1, l2⟩
      · right
        exact ⟨some 1, fun u => (step u).trans (congrFun l1 _), 1, rfl, Or.inl ⟨rfl, t, j, l2, ht, l3⟩⟩
      · left
        refine ⟨nI (t + 1), fun u => (step u).trans (congrFun l1 _), rfl, fun q => ?_⟩
        obtain ⟨i, j, h1, h2, h3⟩ := q
        by_cases e : i = t
        · subst e; exact l2 j h1 h3
        · exact e2 ⟨i, j, h1, by omega, h3⟩
    · rintro m hm q ⟨e3, e4⟩
      subst e3
      by_cases e : B (46 + t) = B (46 + m) ∨ B (50 + t) = B (50 + m)
      · right
        refine ⟨(fun _ => some 1), fun u => ?_, Or.inl ⟨rfl, m, hm, e⟩⟩
        funext k2
        show gbX0_sharesEye_12 _ _ _ _ _ = _
        unfold gbX0_sharesEye_12
        rw [if_neg (nI_ge hm (by omega)), rA_nI (by omega) (by omega), rA_nI (by omega) (by omega), rA_nI (by omega) (by omega), rA_nI (by omega) (by omega), (h15 t (by omega)).1, (h15 t (by omega)).2, (h15 m (by omega)).1, (h15 m (by omega)).2]
        simp only [Option.bind_some]
        by_cases g : B (46 + t) = B (46 + m)
        · rw [if_pos g]
        · rw [if_neg g, if_pos (by rcases e with e | e; exact absurd e g; exact e)]
      · left
        refine ⟨nI (m + 1), fun u => ?_, rfl, fun j hj => ?_⟩
        · funext k2
          show gbX0_sharesEye_12 _ _ _ _ _ = _
          unfold gbX0_sharesEye_12
          rw [if_neg (nI_ge hm (by omega)), rA_nI (by omega) (by omega), rA_nI (by omega) (by omega), rA_nI (by omega) (by omega), rA_nI (by omega) (by omega), (h15 t (by omega)).1, (h15 t (by omega)).2, (h15 m (by omega)).1, (h15 m (by omega)).2]
          simp only [Option.bind_some]
          rw [if_neg (fun g => e (Or.inl g)), if_neg (fun g => e (Or.inr g)), nmE, ← nI_succ]
        · by_cases g : j = m
          · rw [g]; exact e
          · exact e4 j (by omega)
    · rintro q ⟨e3, e4⟩
      subst e3
      refine ⟨(fun k2 => k2 (nI (t + 1))), fun u => ?_, Or.inr ⟨rfl, e4⟩⟩
      funext k2
      show gbX0_sharesEye_12 _ _ _ _ _ = _
      unfold gbX0_sharesEye_12
      rw [if_pos (nI_le (Nat.le_refl _) (by omega)), nmE, ← nI_succ]
  · rintro w ⟨e1, e2⟩
    subst e1
    refine ⟨some 0, fun u => ?_, 0, rfl, Or.inr ⟨rfl, e2⟩⟩
    show gbX0_sharesEye_2 _ _ _ = _
    unfold gbX0_sharesEye_2
    rw [h14, if_pos (nI_le (Nat.le_refl _) (by omega))]
theorem m_twice {c : Nat} (hc : c ≤ 4) (h19 : ∀ j, j < 121 → M.2.1 19 j = B j) (h4 : B 4 = nI c) : ∃ r, gX10_isTwice M = some r ∧ ((r = 1 ∧ twP B c) ∨ (r = 0 ∧ ¬ twP B c)) := by
  have hr4 : rA 121 (M.2.1 19) 4 = some (nI c) := (rA_nI (k := 4) (by omega) (by omega)).trans (by rw [h19 4 (by omega), h4])
  have hra : ∀ p t, p + t < 121 → rA 121 (M.2.1 19) (nI p + nI t) = some (B (p + t)) := fun p t h => by rw [nI_add, rA_nI h (by omega), h19 _ h]
  have key := lpR (fun u (w : Int32) => gfX10_isTwice_2 M u w) (fun t w => w = nI t ∧ ¬ twP B t) (fun b => ∃ r, b = some r ∧ ((r = 1 ∧ twP B c) ∨ (r = 0 ∧ ¬ twP B c))) c ?_ ?_ 0 ⟨rfl, fun q => by obtain ⟨i, j, h1, h2, -⟩ := q; omega⟩ FU (by rw [FUn]; omega)
  · exact key
  · rintro t ht w ⟨e1, e2⟩
    subst e1
    have loop := lpR (fun u (q : Int32) => fun k2 : Int32 → Option Int32 => gfX10_isTwice_14 k2 M u (nI t) q) (fun m q => q = nI m ∧ ∀ j, j < m → ¬ (B (46 + t) = B (46 + j) ∨ B (50 + t) = B (50 + j))) (fun b => (b = (fun _ => some 1) ∧ ∃ j, j < t ∧ (B (46 + t) = B (46 + j) ∨ B (50 + t) = B (50 + j))) ∨ (b = (fun k2 => k2 (nI (t + 1))) ∧ ∀ j, j < t → ¬ (B (46 + t) = B (46 + j) ∨ B (50 + t) = B (50 + j)))) t ?_ ?_ 0 ⟨rfl, fun j hj => by omega⟩ FU (by rw [FUn]; omega)
    · have step : ∀ u, gfX10_isTwice_2 M (u + 1) (nI t) = gfX10_isTwice_14 (gfX10_isTwice_2 M u) M FU (nI t) 0 := by
        intro u
        show gbX10_isTwice_2 _ _ _ = _
        unfold gbX10_isTwice_2
        rw [hr4, Option.bind_some, if_neg (nI_ge ht (by omega))]
      replace loop : ((fun k2 : Int32 → Option Int32 => gfX10_isTwice_14 k2 M FU (nI t) 0) = (fun _ => some 1) ∧ ∃ j, j < t ∧ (B (46 + t) = B (46 + j) ∨ B (50 + t) = B (50 + j))) ∨ ((fun k2 : Int32 → Option Int32 => gfX10_isTwice_14 k2 M FU (nI t) 0) = (fun k2 => k2 (nI (t + 1))) ∧ ∀ j, j < t → ¬ (B (46 + t) = B (46 + j) ∨ B (50 + t) = B (50 + j))) := loop
      rcases loop with ⟨l1, j, l2, l3⟩ | ⟨l1, l2⟩
      · right
        exact ⟨some 1, fun u => (step u).trans (congrFun l1 _), 1, rfl, Or.inl ⟨rfl, t, j, l2, ht, l3⟩⟩
      · left
        refine ⟨nI (t + 1), fun u => (step u).trans (congrFun l1 _), rfl, fun q => ?_⟩
        obtain ⟨i, j, h1, h2, h3⟩ := q
        by_cases e : i = t
        · subst e; exact l2 j h1 h3
        · exact e2 ⟨i, j, h1, by omega, h3⟩
    · rintro m hm q ⟨e3, e4⟩
      subst e3
      have body : ∀ k2 k14, gbX10_isTwice_14 k2 k14 (nI t) (nI m) M = (if B (46 + t) = B (46 + m) then some 1 else if B (50 + t) = B (50 + m) then some 1 else nm (nI m + 1) fun v63 => k14 (nI t) v63) := by
        intro k2 k14
        unfold gbX10_isTwice_14
        rw [if_neg (nI_ge hm (by omega)), show (46 : Int32) = nI 46 from rfl, show (50 : Int32) = nI 50 from rfl, hra _ _ (by omega), hra _ _ (by omega), hra _ _ (by omega), hra _ _ (by omega)]
        simp only [Option.bind_some]
      by_cases e : B (46 + t) = B (46 + m) ∨ B (50 + t) = B (50 + m)
      · right
        refine ⟨(fun _ => some 1), fun u => ?_, Or.inl ⟨rfl, m, hm, e⟩⟩
        funext k2
        show gbX10_isTwice_14 _ _ _ _ _ = _
        rw [body]
        by_cases g : B (46 + t) = B (46 + m)
        · rw [if_pos g]
        · rw [if_neg g, if_pos (by rcases e with e | e; exact absurd e g; exact e)]
      · left
        refine ⟨nI (m + 1), fun u => ?_, rfl, fun j hj => ?_⟩
        · funext k2
          show gbX10_isTwice_14 _ _ _ _ _ = _
          rw [body, if_neg (fun g => e (Or.inl g)), if_neg (fun g => e (Or.inr g)), nmE, ← nI_succ]
        · by_cases g : j = m
          · rw [g]; exact e
          · exact e4 j (by omega)
    · rintro q ⟨e3, e4⟩
      subst e3
      refine ⟨(fun k2 => k2 (nI (t + 1))), fun u => ?_, Or.inr ⟨rfl, e4⟩⟩
      funext k2
      show gbX10_isTwice_14 _ _ _ _ _ = _
      unfold gbX10_isTwice_14
      rw [if_pos (nI_le (Nat.le_refl _) (by omega)), nmE, ← nI_succ]
  · rintro w ⟨e1, e2⟩
    subst e1
    refine ⟨some 0, fun u => ?_, 0, rfl, Or.inr ⟨rfl, e2⟩⟩
    show gbX10_isTwice_2 _ _ _ = _
    unfold gbX10_isTwice_2
    rw [hr4, Option.bind_some, if_pos (nI_le (Nat.le_refl _) (by omega))]
end RG
