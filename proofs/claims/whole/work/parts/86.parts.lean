/-! ===== HEIGHT, PARTS ===== -/
section HI
variable {C : SV} {B : Nat → Int32} {i n c : Nat} {M S : SV}
theorem gre_nI {a b : Nat} (ha : a < 2 ^ 31) (hb : b < 2 ^ 31) : fX10_greater (nI a) (nI b) = nI (max a b) := by
  by_cases q : b ≤ a
  · rw [gre_l (nI_le q ha), Nat.max_eq_left q]
  · rw [gre_r (nI_ge (by omega) (by omega)), Nat.max_eq_right (by omega)]
/-- how far down from t -/
def dpP (B : Nat → Int32) (t : Nat) : Nat := fa_first (fun k => decide (dn B k (nI t) = -1)) 9
theorem dp_le (h : CX C B n c) {t : Nat} (ht : t < n) : dpP B t ≤ 8 := by
  have h8 : dn B 8 (nI t) = -1 := h.dn8 ht (Nat.le_refl 8)
  refine Classical.byContradiction (fun q => ?_)
  have := fa_first_no (fun k => decide (dn B k (nI t) = -1)) 9 8 (by unfold dpP at q; omega)
  rw [h8] at this; simp at this
theorem dp_at (h : CX C B n c) {t : Nat} (ht : t < n) : dn B (dpP B t) (nI t) = -1 := by
  have := fa_first_yes (fun k => decide (dn B k (nI t) = -1)) 9 (by have := dp_le h ht; unfold dpP at this; omega)
  unfold dpP
  simpa using this
theorem dp_no (h : CX C B n c) {t : Nat} (ht : t < n) {k : Nat} (hk : k < dpP B t) : ∃ s, s < n ∧ dn B k (nI t) = nI s := by
  have := fa_first_no (fun k => decide (dn B k (nI t) = -1)) 9 k hk
  rcases h.dwn ht k with e | e
  · rw [e] at this; simp at this
  · exact e
theorem dp_there (h : CX C B n c) (hg : GO n (C.2.1 5) (S.1 6)) {t : Nat} (ht : t < n) (hb : bt (S.1 6) t = false) {k s : Nat} (hk : k < dpP B t) (hs : s < n) (e : dn B k (nI t) = nI s) : bt (S.1 6) s = false := by
  have hn := h.hn
  have h8 := dp_le h ht
  cases q : bt (S.1 6) s
  · rfl
  · cases k with
    | zero =>
      have : t = s := (nI_eq (by omega) (by omega)).mp e
      rw [this, q] at hb; cases hb
    | succ k =>
      have : bt (C.2.1 5 s) t = true := ((h.cd s (by omega)).1 t (by omega)).mpr ⟨by rw [h.t0]; omega, k, by omega, e⟩
      rw [hg.2 s hs q t (by omega) this] at hb; cases hb
theorem c_high_in (h : CX C B n c) (hg : GO n (C.2.1 5) (S.1 6)) {t : Nat} (ht : t < n) (k4 : Int32 → Int32 → Option Int32) (l1 : Int32) : gfX6_highest_23 k4 C S FU l1 (nI t) 0 (nI t) 0 = k4 (imax l1 (nI (if bt (S.1 6) t then 0 else dpP B t))) (nI (t + 1)) := by
  have hn := h.hn
  obtain ⟨-, cr, -⟩ := h.cr
  have isT : ∀ u, u < n → gX6_isThere C (nI u) S = some (if bt (S.1 6) u then 0 else 1) := by
    intro u hu
    unfold gX6_isThere
    rcases c_thing h (nI u) with ⟨k, hk, -, e⟩ | ⟨q, -⟩
    · rw [e]
      simp only [Option.bind_some, show ¬ ((1 : Int32) = 0) by decide, if_false]
      cases q : bt (S.1 6) u
      · rw [if_pos ((c_has0 _ (by omega)).mpr q)]; rfl
      · rw [if_neg (fun e => by rw [(c_has0 _ (by omega)).mp e] at q; cases q)]; rfl
    · exact (out_in hu hn q).elim
  have isN : gX6_isThere C (-1) S = some 0 := by
    unfold gX6_isThere gX0_hasThing
    rw [if_pos (by decide)]; rfl
  have fin : ∀ x, gbX6_highest_60 k4 C l1 (nI t) x S = k4 (imax l1 x) (nI (t + 1)) := fun x => by unfold gbX6_highest_60; rw [nI_succ]; rfl
  cases hb : bt (S.1 6) t
  · have h8 := dp_le h ht
    simp only [Bool.false_eq_true, if_false]
    refine lp (fun f (q : Int32 × Int32 × Int32) => gfX6_highest_23 k4 C S f l1 (nI t) q.1 q.2.1 q.2.2) (fun k => (nI k, dn B k (nI t), nI k)) _ (dpP B t) ?_ ?_ FU (by rw [FUn]; omega)
    · intro k hk f
      obtain ⟨s, hs, e⟩ := dp_no h ht hk
      have hbs := dp_there h hg ht hb hk hs e
      show gbX6_highest_23 _ _ _ _ _ _ _ _ _ = gfX6_highest_23 k4 C S f l1 (nI t) (nI (k + 1)) (dn B (k + 1) (nI t)) (nI (k + 1))
      rw [dn_add B k 1, e, dn_one B (by omega)]
      unfold gbX6_highest_23
      rw [if_neg (show ¬ (8 : Int32) ≤ nI k from nI_ge (b := 8) (by omega) (by omega)), isT s hs, hbs]
      simp only [Option.bind_some, Bool.false_eq_true, if_false, show ¬ ((1 : Int32) = 0) by decide, nm]
      rw [rA_nI (by omega) (by omega), (cr s (by omega)).2.2.2]
      simp only [Option.bind_some, ← nI_succ]
    · intro f
      show gbX6_highest_23 _ _ _ _ _ _ _ _ _ = _
      rw [dp_at h ht]
      unfold gbX6_highest_23
      by_cases q : (8 : Int32) ≤ nI (dpP B t)
      · rw [if_pos q, fin]
      · rw [if_neg q, isN]
        simp only [Option.bind_some, if_true]
        rw [fin]
  · simp only [if_true]
    show gbX6_highest_23 _ _ _ _ _ _ _ _ _ = _
    unfold gbX6_highest_23
    rw [if_neg (show ¬ (8 : Int32) ≤ 0 by decide), isT t ht, hb]
    simp only [Option.bind_some, if_true]
    exact fin 0
theorem m_high_in (h : CX C B n c) (hM : MX B i n c (C.2.1 5) M) {t : Nat} (ht : t < n) (k4 : Int32 → Int32 → Option Int32) (l1 : Int32) (gone : Bool) : gfX10_highest_32 k4 M FU l1 (nI t) 0 (if gone then -1 else nI t) = k4 (fX10_greater l1 (nI (if gone then 0 else dpP B t))) (nI (t + 1)) := by
  have hn := h.hn
  have h8 := dp_le h ht
  cases gone
  · simp only [Bool.false_eq_true, if_false]
    refine lp (fun f (q : Int32 × Int32) => gfX10_highest_32 k4 M f l1 (nI t) q.1 q.2) (fun k => (nI k, dn B k (nI t))) _ (dpP B t) ?_ ?_ FU (by rw [FUn]; omega)
    · intro k hk f
      obtain ⟨s, hs, e⟩ := dp_no h ht hk
      show gbX10_highest_32 _ _ _ _ _ _ _ = gfX10_highest_32 k4 M f l1 (nI t) (nI (k + 1)) (dn B (k + 1) (nI t))
      rw [dn_add B k 1, e, dn_one B (by omega)]
      unfold gbX10_highest_32
      rw [if_neg (nI_m1 (by omega)), show (30 : Int32) = nI 30 from rfl, hM.ofa (by omega), nI_succ]; rfl
    · intro f
      show gbX10_highest_32 _ _ _ _ _ _ _ = _
      rw [dp_at h ht]
      unfold gbX10_highest_32
      rw [if_pos rfl]
      simp only [nm, ← nI_succ]
  · simp only [if_true]
    show gbX10_highest_32 _ _ _ _ _ _ _ = _
    unfold gbX10_highest_32
    rw [if_pos rfl]
    simp only [nm, ← nI_succ]
    rfl
theorem high_both (h : CX C B n c) (hM : MX B i n c (C.2.1 5) M) (hR : SR n (C.2.1 5) S M) : ∃ r, gX6_highest C S = some r ∧ gX10_highest M = some r := by
  have hn := h.hn
  have key := lpT (fun f (q : Int32 × Int32) => gfX6_highest_4 C S f q.1 q.2) (fun f (q : Int32 × Int32) => gfX10_highest_4 M f q.1 q.2) (fun t s s' => s = s' ∧ s.2 = nI t) (fun b d => ∃ r, b = some r ∧ d = some r) n ?_ ?_ (0, 0) (0, 0) ⟨rfl, rfl⟩ FU FU (by rw [FUn]; omega) (by rw [FUn]; omega)
  · exact key
  · rintro t ht ⟨m, l⟩ s' ⟨rfl, e2⟩
    replace e2 : l = nI t := e2
    subst e2
    left
    refine ⟨(imax m (nI (if bt (S.1 6) t then 0 else dpP B t)), nI (t + 1)), (imax m (nI (if bt (S.1 6) t then 0 else dpP B t)), nI (t + 1)), fun f => ?_, fun f => ?_, rfl, rfl⟩
    · show gbX6_highest_4 _ _ _ _ _ = _
      unfold gbX6_highest_4
      rw [h.c0, if_neg (nI_ge ht (by omega)), c_high_in h hR.go ht]
    · show gbX10_highest_4 _ _ _ _ = _
      unfold gbX10_highest_4
      rw [hM.fm, if_neg (nI_ge ht (by omega)), hR.e6]
      cases hb : bt (S.1 6) t
      · rw [if_pos ((m_has0 _ (by omega)).mpr hb)]
        have := m_high_in h hM ht (gfX10_highest_4 M f) m false
        simp only [Bool.false_eq_true, if_false] at this ⊢
        rw [imax_g]; exact this
      · rw [if_neg (fun e => by rw [(m_has0 _ (by omega)).mp e] at hb; cases hb)]
        have := m_high_in h hM ht (gfX10_highest_4 M f) m true
        simp only [if_true] at this ⊢
        rw [imax_g]; exact this
  · rintro ⟨m, l⟩ s' ⟨rfl, e2⟩
    replace e2 : l = nI n := e2
    subst e2
    refine ⟨some m, some m, fun f => ?_, fun f => ?_, m, rfl, rfl⟩
    · show gbX6_highest_4 _ _ _ _ _ = _
      unfold gbX6_highest_4
      rw [h.c0, if_pos (nI_le (Nat.le_refl _) (by omega))]
    · show gbX10_highest_4 _ _ _ _ = _
      unfold gbX10_highest_4
      rw [hM.fm, if_pos (nI_le (Nat.le_refl _) (by omega))]
end HI
section PA
variable {C : SV} {B : Nat → Int32} {i n c : Nat} {M S : SV}
/-- those there -/
def thM (g : Int32) (n : Nat) : Int32 := fm (fun t => !bt g t) n
theorem thM_bt (hn : n ≤ 8) (g : Int32) {k : Nat} (hk : k < 32) : bt (thM g n) k = (decide (k < n) && !bt g k) := fm_bt _ n (by omega) k hk
theorem thM_sub (hn : n ≤ 8) (g : Int32) : sub 8 (thM g n) := fun k k1 k2 => by rw [thM_bt hn g k2, decide_eq_false (by omega)]; rfl
noncomputable def ptP (B : Nat → Int32) (n : Nat) (g : Int32) (t : Nat) : Int32 := clP B n (thM g n) (shl 1 (nI t) &&& thM g n) 8
theorem c_thM (h : CX C B n c) (S : SV) : gX6_there C S = some (thM (S.1 6) n) := by
  obtain ⟨y, h1, h2⟩ := c_there h S
  rw [h1]
  congr 1
  apply b_ext
  intro k hk
  rw [h2 k hk, thM_bt h.hn _ hk]
theorem nmE {α β : Type} (e : α) (k : α → β) : nm e k = k e := rfl
theorem c_pt (h : CX C B n c) (t : Nat) : gX6_partOf C (nI t) S = some (ptP B n (S.1 6) t) := by
  unfold gX6_partOf
  rw [c_thM h, Option.bind_some, nmE]
  refine lp (fun f (q : Int32 × Int32) => gfX6_partOf_11 C S f q.1 q.2) (fun k => (clP B n (thM (S.1 6) n) (shl 1 (nI t) &&& thM (S.1 6) n) k, nI k)) _ 8 ?_ ?_ FU (by rw [FUn]; omega)
  · intro k hk f
    show gbX6_partOf_11 _ _ _ _ _ = gfX6_partOf_11 C S f (nxP B n (clP B n (thM (S.1 6) n) (shl 1 (nI t) &&& thM (S.1 6) n) k) &&& thM (S.1 6) n) (nI (k + 1))
    unfold gbX6_partOf_11
    rw [if_neg (show ¬ (8 : Int32) ≤ nI k from nI_ge (b := 8) hk (by omega)), c_nx h, c_thM h]
    simp only [Option.bind_some, nm, ← nI_succ]
  · intro f
    show gbX6_partOf_11 _ _ _ _ _ = _
    unfold gbX6_partOf_11
    rw [if_pos (show (8 : Int32) ≤ nI 8 by decide)]; rfl
theorem m_pt (h : CX C B n c) (hM : MX B i n c (C.2.1 5) M) (hR : SR n (C.2.1 5) S M) {t : Nat} (ht : t < n) (hb : bt (S.1 6) t = false) : gX10_partOf (nI t) M = some (ptP B n (S.1 6) t) := by
  have hn := h.hn
  have e0 : shl 1 (nI t) &&& thM (S.1 6) n = shl 1 (nI t) := by
    apply b_ext
    intro k hk
    rw [b_and, b_1shl (by omega) hk, thM_bt hn _ hk]
    by_cases e : k = t
    · subst e; simp [ht, hb]
    · simp [e]
  have hle : leM (shl 1 (nI t) &&& thM (S.1 6) n) (thM (S.1 6) n) := fun k hk q => by rw [b_and] at q; simp at q; exact q.2
  unfold gX10_partOf
  simp only [nm]
  rw [← e0]
  refine lp (fun f (q : Int32 × Int32) => gfX10_partOf_6 M f q.1 q.2) (fun k => (clP B n (thM (S.1 6) n) (shl 1 (nI t) &&& thM (S.1 6) n) k, nI k)) _ 8 ?_ ?_ FU (by rw [FUn]; omega)
  · intro k hk f
    show gbX10_partOf_6 _ _ _ _ = gfX10_partOf_6 M f (nxP B n (clP B n (thM (S.1 6) n) (shl 1 (nI t) &&& thM (S.1 6) n) k) &&& thM (S.1 6) n) (nI (k + 1))
    unfold gbX10_partOf_6
    rw [if_neg (show ¬ (8 : Int32) ≤ nI k from nI_ge (b := 8) hk (by omega)), m_nx h hM, hR.e6]
    simp only [Option.bind_some, nm, ← nI_succ]
    congr 1
    have hs : sub n (clP B n (thM (S.1 6) n) (shl 1 (nI t) &&& thM (S.1 6) n) k) := fun j j1 j2 => by
      cases q : bt (clP B n (thM (S.1 6) n) (shl 1 (nI t) &&& thM (S.1 6) n) k) j
      · rfl
      · have := cl_in hle k j j2 q
        rw [thM_bt hn _ j2, decide_eq_false (by omega)] at this; cases this
    exact (and_there ((nx_step B n _).sub h hs) (fun k hk => thM_bt hn _ hk)).symm
  · intro f
    show gbX10_partOf_6 _ _ _ _ = _
    unfold gbX10_partOf_6
    rw [if_pos (show (8 : Int32) ≤ nI 8 by decide)]; rfl
theorem pt_in (hn : n ≤ 8) (g : Int32) (t : Nat) : leM (ptP B n g t) (thM g n) := cl_in (fun k hk q => by rw [b_and] at q; simp at q; exact q.2) 8
theorem pt_8 (hn : n ≤ 8) (g : Int32) (t : Nat) : ∀ k, 8 ≤ k → k < 32 → bt (ptP B n g t) k = false := fun k k1 k2 => by
  cases q : bt (ptP B n g t) k
  · rfl
  · have := pt_in hn g t k k2 q
    rw [thM_sub hn g k k1 k2] at this; cases this
/-- a THING's part lies in the part that it lies in -/
theorem pt_sub (hn : n ≤ 8) {g : Int32} {s t : Nat} (ht : t < n) (hb : bt (ptP B n g s) t = true) : leM (ptP B n g t) (ptP B n g s) := by
  have hle : leM (shl 1 (nI s) &&& thM g n) (thM g n) := fun k hk q => by rw [b_and] at q; simp at q; exact q.2
  have hle2 : leM (shl 1 (nI t) &&& thM g n) (thM g n) := fun k hk q => by rw [b_and] at q; simp at q; exact q.2
  have key : ∀ k, leM (clP B n (thM g n) (shl 1 (nI t) &&& thM g n) k) (ptP B n g s) := by
    intro k
    induction k with
    | zero =>
      intro j hj q
      have q' : bt (shl 1 (nI t) &&& thM g n) j = true := q
      rw [b_and, b_1shl (by omega) hj] at q'
      simp at q'
      rw [q'.1]; exact hb
    | succ k ih =>
      intro j hj q
      have q' : bt (nxP B n (clP B n (thM g n) (shl 1 (nI t) &&& thM g n) k) &&& thM g n) j = true := q
      rw [b_and] at q'
      simp only [Bool.and_eq_true] at q'
      rcases (nx_step B n _ j hj).mp q'.1 with u | ⟨v, hv, u1, u2⟩
      · exact ih j hj u
      · exact cl_clo (thM_sub hn g) hle hv hj (ih v (by omega) u1) u2 q'.2
  exact key 8
noncomputable def pcP (B : Nat → Int32) (n : Nat) (g : Int32) (t : Nat) : Nat := fa_cnt (bt (ptP B n g t)) 8
/-- how many parts, the largest, those seen -/
noncomputable def psP (B : Nat → Int32) (n : Nat) (g : Int32) : Nat → Nat × Nat × Int32
  | 0 => (0, 0, 0)
  | t + 1 => if bt g t || bt (psP B n g t).2.2 t then psP B n g t else ((psP B n g t).1 + 1, max (psP B n g t).2.1 (pcP B n g t), (psP B n g t).2.2 ||| ptP B n g t)
noncomputable def mxP (B : Nat → Int32) (n : Nat) (g : Int32) : Nat → Nat
  | 0 => 0
  | t + 1 => max (mxP B n g t) (pcP B n g t)
theorem cnt_mono8 {x y : Int32} (h : leM x y) : fa_cnt (bt x) 8 ≤ fa_cnt (bt y) 8 := by
  have e1 : fa_cnt (bt x) 8 = fa_cnt (fun t => decide (t < 32) && bt x t) 8 := fa_cnt_cong (fun t ht => by simp [show t < 32 by omega])
  rw [e1]
  exact fa_cnt_mono (fun t ht => by simp at ht; exact h t ht.1 ht.2) 8
theorem ps_mx (hn : n ≤ 8) (g : Int32) : ∀ t, t ≤ n → (psP B n g t).2.1 = mxP B n g t ∧ (∀ k, k < 32 → bt (psP B n g t).2.2 k = true → ∃ s, s < n ∧ bt (ptP B n g s) k = true ∧ pcP B n g s ≤ (psP B n g t).2.1) ∧ (psP B n g t).1 ≤ t ∧ (psP B n g t).2.1 ≤ 8
  | 0, _ => by
    refine ⟨rfl, ?_, Nat.le_refl _, Nat.zero_le _⟩
    intro k hk q
    have q' : bt 0 k = true := q
    rw [b_0] at q'; cases q'
  | t + 1, ht => by
    obtain ⟨h1, h2, h3, h4⟩ := ps_mx hn g t (by omega)
    have hp8 : pcP B n g t ≤ 8 := fa_cnt_le _ _
    unfold psP
    by_cases q : (bt g t || bt (psP B n g t).2.2 t) = true
    · rw [if_pos q]
      refine ⟨?_, h2, by omega, h4⟩
      show (psP B n g t).2.1 = max (mxP B n g t) (pcP B n g t)
      have : pcP B n g t ≤ (psP B n g t).2.1 := by
        cases qg : bt g t
        · rw [qg, Bool.false_or] at q
          obtain ⟨s, s1, s2, s3⟩ := h2 t (by omega) q
          exact Nat.le_trans (cnt_mono8 (pt_sub hn (by omega) s2)) s3
        · have z : shl 1 (nI t) &&& thM g n = 0 := by
            rw [eq0_bt]
            intro k hk
            rw [b_and, b_1shl (by omega) hk, thM_bt hn _ hk]
            by_cases e : k = t
            · rw [e, qg]; simp
            · simp [e]
          have : pcP B n g t = 0 := by
            unfold pcP ptP
            rw [z, cl_zero]
            have := fa_cnt_cong (p := bt 0) (q := fun _ => false) (n := 8) (fun k _ => b_0 k)
            rw [this]; rfl
          omega
      omega
    · rw [if_neg q]
      refine ⟨?_, fun k hk u => ?_, ?_, ?_⟩
      · show max (psP B n g t).2.1 (pcP B n g t) = max (mxP B n g t) (pcP B n g t)
        rw [h1]
      · have u' : bt ((psP B n g t).2.2 ||| ptP B n g t) k = true := u
        rw [b_or] at u'
        simp only [Bool.or_eq_true] at u'
        rcases u' with u' | u'
        · obtain ⟨s, s1, s2, s3⟩ := h2 k hk u'
          exact ⟨s, s1, s2, Nat.le_trans s3 (Nat.le_max_left _ _)⟩
        · exact ⟨t, by omega, u', Nat.le_max_right _ _⟩
      · show (psP B n g t).1 + 1 ≤ t + 1; omega
      · show max (psP B n g t).2.1 (pcP B n g t) ≤ 8; omega
theorem c_count (h : CX C B n c) (S : SV) : gX6_countParts C S = some (nI (psP B n (S.1 6) n).1) := by
  have hn := h.hn
  refine lp (fun f (q : Int32 × Int32 × Int32) => gfX6_countParts_6 C S f q.1 q.2.1 q.2.2) (fun t => (nI (psP B n (S.1 6) t).1, (psP B n (S.1 6) t).2.2, nI t)) _ n ?_ ?_ FU (by rw [FUn]; omega)
  · intro t ht f
    show gbX6_countParts_6 _ _ _ _ _ _ = gfX6_countParts_6 C S f (nI (psP B n (S.1 6) (t + 1)).1) (psP B n (S.1 6) (t + 1)).2.2 (nI (t + 1))
    unfold gbX6_countParts_6
    rw [h.c0, if_neg (nI_ge ht (by omega)), c_pt h]
    have isT : gX6_isThere C (nI t) S = some (if bt (S.1 6) t then 0 else 1) := by
      unfold gX6_isThere
      rcases c_thing h (nI t) with ⟨k, hk, -, e⟩ | ⟨q, -⟩
      · rw [e]
        simp only [Option.bind_some, show ¬ ((1 : Int32) = 0) by decide, if_false]
        cases q : bt (S.1 6) t
        · rw [if_pos ((c_has0 _ (by omega)).mpr q)]; rfl
        · rw [if_neg (fun e => by rw [(c_has0 _ (by omega)).mp e] at q; cases q)]; rfl
      · exact (out_in ht hn q).elim
    rw [isT]
    simp only [Option.bind_some, nm, ← nI_succ, psP, c_has0 _ (show t < 32 by omega)]
    cases qg : bt (S.1 6) t
    · cases qs : bt (psP B n (S.1 6) t).2.2 t
      · simp
      · simp
    · simp
  · intro f
    show gbX6_countParts_6 _ _ _ _ _ _ = _
    unfold gbX6_countParts_6
    rw [h.c0, if_pos (nI_le (Nat.le_refl _) (by omega))]
theorem c_large (h : CX C B n c) (S : SV) : gX6_largestPart C S = some (nI (mxP B n (S.1 6) n)) := by
  have hn := h.hn
  refine lp (fun f (q : Int32 × Int32) => gfX6_largestPart_4 C S f q.1 q.2) (fun t => (nI (mxP B n (S.1 6) t), nI t)) _ n ?_ ?_ FU (by rw [FUn]; omega)
  · intro t ht f
    show gbX6_largestPart_4 _ _ _ _ _ = gfX6_largestPart_4 C S f (nI (max (mxP B n (S.1 6) t) (pcP B n (S.1 6) t))) (nI (t + 1))
    unfold gbX6_largestPart_4
    have hm := (ps_mx (B := B) hn (S.1 6) t (by omega))
    have hp8 : pcP B n (S.1 6) t ≤ 8 := fa_cnt_le _ _
    rw [h.c0, if_neg (nI_ge ht (by omega)), c_pt h]
    simp only [Option.bind_some, nm, ← nI_succ]
    rw [bc_8 (pt_8 hn _ _), imax_g]
    show gfX6_largestPart_4 C S f (fX10_greater (nI (mxP B n (S.1 6) t)) (nI (pcP B n (S.1 6) t))) (nI (t + 1)) = _
    rw [gre_nI (by have := hm.1; have := hm.2.2.2; omega) (by omega)]
  · intro f
    show gbX6_largestPart_4 _ _ _ _ _ = _
    unfold gbX6_largestPart_4
    rw [h.c0, if_pos (nI_le (Nat.le_refl _) (by omega))]
theorem m_parts (h : CX C B n c) (hM : MX B i n c (C.2.1 5) M) (hR : SR n (C.2.1 5) S M) (l1 : Int32) : gX10_parts l1 M = some (if l1 = 0 then nI (psP B n (S.1 6) n).1 else nI (psP B n (S.1 6) n).2.1) := by
  have hn := h.hn
  refine lp (fun f (q : Int32 × Int32 × Int32 × Int32) => gfX10_parts_10 M f l1 q.1 q.2.1 q.2.2.1 q.2.2.2) (fun t => (nI (psP B n (S.1 6) t).1, nI (psP B n (S.1 6) t).2.1, (psP B n (S.1 6) t).2.2, nI t)) _ n ?_ ?_ FU (by rw [FUn]; omega)
  · intro t ht f
    show gbX10_parts_10 _ _ _ _ _ _ _ = gfX10_parts_10 M f l1 (nI (psP B n (S.1 6) (t + 1)).1) (nI (psP B n (S.1 6) (t + 1)).2.1) (psP B n (S.1 6) (t + 1)).2.2 (nI (t + 1))
    unfold gbX10_parts_10
    have hm := (ps_mx (B := B) hn (S.1 6) t (by omega))
    have hp8 : pcP B n (S.1 6) t ≤ 8 := fa_cnt_le _ _
    rw [hM.fm, if_neg (nI_ge ht (by omega)), hR.e6]
    simp only [m_has0 _ (show t < 32 by omega), b_or, psP]
    by_cases q : (bt (S.1 6) t || bt (psP B n (S.1 6) t).2.2 t) = true
    · rw [if_pos q, if_neg (by rw [q]; decide)]
      simp only [nm, ← nI_succ]
    · have q' : (bt (S.1 6) t || bt (psP B n (S.1 6) t).2.2 t) = false := by
        cases hq : (bt (S.1 6) t || bt (psP B n (S.1 6) t).2.2 t)
        · rfl
        · exact absurd hq q
      have qg : bt (S.1 6) t = false := by
        cases hq : bt (S.1 6) t
        · rfl
        · rw [hq] at q'; cases q'
      rw [if_neg q, if_pos q', m_pt h hM hR ht qg]
      simp only [Option.bind_some, nm, ← nI_succ, m_ones]
      show gfX10_parts_10 M f l1 (nI ((psP B n (S.1 6) t).1 + 1)) (fX10_greater (nI (psP B n (S.1 6) t).2.1) (nI (pcP B n (S.1 6) t))) _ (nI (t + 1)) = _
      rw [gre_nI (by have := hm.2.2.2; omega) (by omega)]
  · intro f
    show gbX10_parts_10 _ _ _ _ _ _ _ = _
    unfold gbX10_parts_10
    rw [hM.fm, if_pos (nI_le (Nat.le_refl _) (by omega))]
    split <;> rfl
end PA
