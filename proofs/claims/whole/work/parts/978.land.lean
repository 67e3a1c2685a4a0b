/-! ===== text: a COUNTRY line by line ===== -/
def inT : List (Nat × Nat) := [(0, 0), (7, 1), (10, 2), (11, 3), (14, 4), (19, 5)]
def roT : List (Nat × Nat × Nat) := [(1, 6, 8), (2, 14, 8), (3, 22, 8), (4, 30, 8), (12, 38, 4), (13, 42, 4), (15, 46, 4), (16, 50, 4), (8, 54, 12), (9, 66, 12), (17, 78, 16), (18, 94, 16)]
def CRg (C : SV) (told : Nat → Int32) : Prop := (∀ e, e ∈ inT → C.1 e.1 = told e.2) ∧ ∀ e, e ∈ roT → ∀ t, t < e.2.2 → C.2.1 e.1 t = told (e.2.1 + t)
theorem inT_ok : ∀ e, e ∈ inT → e.2 < 6 ∧ ∀ e', e' ∈ inT → (e.1 = e'.1 ↔ e.2 = e'.2) := by decide +kernel
theorem roT_ok : ∀ e, e ∈ roT → 6 ≤ e.2.1 ∧ ∀ e', e' ∈ roT → (e.1 = e'.1 → e = e') ∧ (¬ e.1 = e'.1 → e.2.1 + e.2.2 ≤ e'.2.1 ∨ e'.2.1 + e'.2.2 ≤ e.2.1) := by decide +kernel
theorem CRg.row {C : SV} {told : Nat → Int32} (h : CRg C told) {k p n : Nat} (hm : (k, p, n) ∈ roT) {t : Nat} (ht : t < n) (x : Int32) : CRg (wR C k (upd (C.2.1 k) t x)) (upd told (p + t) x) := by
  obtain ⟨r1, r2⟩ := roT_ok _ hm
  replace r1 : 6 ≤ p := r1
  refine ⟨fun e he => ?_, fun e he t' ht' => ?_⟩
  · have := (inT_ok e he).1
    rw [pk_un (by omega)]; exact h.1 e he
  · by_cases c : k = e.1
    · have e2 : (k, p, n) = e := (r2 e he).1 c
      subst e2
      show (wR C k (upd (C.2.1 k) t x)).2.1 k t' = upd told (p + t) x (p + t')
      rw [wR_eq]
      by_cases d : t' = t
      · subst d; rw [pk_us, pk_us]
      · rw [pk_un d, pk_un (by omega)]; exact h.2 _ hm t' ht'
    · have := (r2 e he).2 c
      replace this : p + n ≤ e.2.1 ∨ e.2.1 + e.2.2 ≤ p := this
      rw [wR_ne (Ne.symm c), pk_un (by omega)]; exact h.2 e he t' ht'
theorem CRg.int {C : SV} {told : Nat → Int32} (h : CRg C told) {k p : Nat} (hm : (k, p) ∈ inT) (x : Int32) : CRg (wI C k x) (upd told p x) := by
  obtain ⟨r1, r2⟩ := inT_ok _ hm
  replace r1 : p < 6 := r1
  refine ⟨fun e he => ?_, fun e he t' ht' => ?_⟩
  · have := r2 e he
    replace this : k = e.1 ↔ p = e.2 := this
    by_cases c : e.1 = k
    · rw [c, wI_eq, ← this.mp c.symm, pk_us]
    · rw [wI_ne c, pk_un (fun q => c (this.mpr q.symm).symm)]; exact h.1 e he
  · have := (roT_ok e he).1
    rw [pk_un (by omega)]; exact h.2 e he t' ht'
/-- within bounds, as told so far -/
def rgT : List (Nat × Nat × Int) := [(6, 8, 99), (14, 8, 9), (22, 8, 9), (38, 4, 9), (42, 4, 9), (78, 16, 9), (94, 16, 9), (5, 1, 9)]
def VA (told : Nat → Int32) : Prop := ∀ e, e ∈ rgT → ∀ t, t < e.2.1 → rng (told (e.1 + t)) 0 e.2.2
theorem VA.up {told : Nat → Int32} (h : VA told) {a : Nat} {x : Int32} (hx : ∀ e, e ∈ rgT → e.1 ≤ a → a < e.1 + e.2.1 → rng x 0 e.2.2) : VA (upd told a x) := by
  intro e he t ht
  by_cases c : e.1 + t = a
  · rw [c, pk_us]; exact hx e he (by omega) (by omega)
  · rw [pk_un c]; exact h e he t ht
theorem rg_in : ∀ e, e ∈ rgT → ∀ a, a < 120 → (e.1 ≤ a ∧ a < e.1 + e.2.1) → (a = 5 ∧ e.2.2 = 9) ∨ (6 ≤ a ∧ a < 14 ∧ e.2.2 = 99) ∨ (14 ≤ a ∧ a < 30 ∧ e.2.2 = 9) ∨ (38 ≤ a ∧ a < 46 ∧ e.2.2 = 9) ∨ (78 ≤ a ∧ a < 110 ∧ e.2.2 = 9) := by
  intro e he a _ h
  simp only [rgT, List.mem_cons, List.not_mem_nil, or_false] at he
  rcases he with rfl | rfl | rfl | rfl | rfl | rfl | rfl | rfl <;> (obtain ⟨h1, h2⟩ := h; simp only at h1 h2; first | exact Or.inl ⟨by omega, rfl⟩ | exact Or.inr (Or.inl ⟨by omega, by omega, rfl⟩) | exact Or.inr (Or.inr (Or.inl ⟨by omega, by omega, rfl⟩)) | exact Or.inr (Or.inr (Or.inr (Or.inl ⟨by omega, by omega, rfl⟩))) | exact Or.inr (Or.inr (Or.inr (Or.inr ⟨by omega, by omega, rfl⟩))))
theorem VA.no {told : Nat → Int32} (h : VA told) {a : Nat} (ha : a < 5 ∨ (30 ≤ a ∧ a < 38) ∨ (46 ≤ a ∧ a < 78)) (x : Int32) : VA (upd told a x) := h.up (fun e he h1 h2 => by
  exfalso
  rcases rg_in e he a (by omega) ⟨h1, h2⟩ with q | q | q | q | q <;> omega)
theorem VA.n9 {told : Nat → Int32} (h : VA told) {a : Nat} (ha : a = 5 ∨ (14 ≤ a ∧ a < 30) ∨ (38 ≤ a ∧ a < 46) ∨ (78 ≤ a ∧ a < 110)) {x : Int32} (hx : rng x 0 9) : VA (upd told a x) := h.up (fun e he h1 h2 => by
  rcases rg_in e he a (by omega) ⟨h1, h2⟩ with q | q | q | q | q
  · rw [q.2]; exact hx
  · omega
  · rw [q.2.2]; exact hx
  · rw [q.2.2]; exact hx
  · rw [q.2.2]; exact hx)
theorem VA.n99 {told : Nat → Int32} (h : VA told) {a : Nat} (ha : 6 ≤ a ∧ a < 14) {x : Int32} (hx : rng x 0 99) : VA (upd told a x) := h.up (fun e he h1 h2 => by
  rcases rg_in e he a (by omega) ⟨h1, h2⟩ with q | q | q | q | q
  · omega
  · rw [q.2.2]; exact hx
  · omega
  · omega
  · omega)
def VF (told : Nat → Int32) (far : Int32 × Int32 × Int32) : Prop :=
  (∀ t, t < 8 → rng (told (30 + t)) (-1) far.1.toInt) ∧
  (∀ t : Nat, (t : Int) < (told 1).toInt → rng (told (54 + t)) 0 far.1.toInt ∧ rng (told (66 + t)) 0 far.1.toInt) ∧
  (∀ t : Nat, (t : Int) < (told 4).toInt → rng (told (46 + t)) 0 far.2.1.toInt ∧ rng (told (50 + t)) 0 far.2.2.toInt)
def NE6 (C : SV) (told : Nat → Int32) : Prop := (∀ t, t < 8 → ∀ k, k < 32 → (bt (C.2.1 6 t) k = true ↔ k < 8 ∧ isNr told t k)) ∧ ∀ t, t < 8 → C.2.1 5 t = 0
def CI (C : SV) (s : ST) : Prop := CRg C s.2.1 ∧ VA s.2.1 ∧ VF s.2.1 s.2.2 ∧ NE6 C s.2.1
theorem rng.up {x : Int32} {a b b' : Int} (h : rng x a b) (hb : b ≤ b') : rng x a b' := ⟨h.1, Int.le_trans h.2 hb⟩
theorem gre_ge (a b : Int32) : a.toInt ≤ (fX10_greater a b).toInt ∧ b.toInt ≤ (fX10_greater a b).toInt ∧ (fX10_greater a b = a ∨ fX10_greater a b = b) := by
  by_cases h : b ≤ a
  · rw [gre_l h]; rw [fa_le] at h; exact ⟨Int.le_refl _, h, Or.inl rfl⟩
  · rw [gre_r h]; rw [fa_le] at h; exact ⟨by omega, Int.le_refl _, Or.inr rfl⟩
/-- places outside the PATHS leave who is near alone -/
theorem isNr_same {told told' : Nat → Int32} (h1 : told' 1 = told 1) (h2 : ∀ p : Nat, (p : Int) < (told 1).toInt → told' (54 + p) = told (54 + p) ∧ told' (66 + p) = told (66 + p)) (t k : Nat) : isNr told' t k ↔ isNr told t k := by
  unfold isNr
  rw [h1]
  constructor
  · rintro ⟨p, hp, q⟩
    rw [(h2 p hp).1, (h2 p hp).2] at q; exact ⟨p, hp, q⟩
  · rintro ⟨p, hp, q⟩
    refine ⟨p, hp, ?_⟩
    rw [(h2 p hp).1, (h2 p hp).2]; exact q
theorem stL_t (s : ST) (ln : LiN) : (stL s ln).2.1 = tbL s.2.1 ln := rfl
section TL
variable {ρ : RV} {y1 : AH} {N : Nat}
theorem kp_e {told nums : Nat → Int32} {ct fr wd mo c : Nat} (hc : told ct = nI c) (hlt : c < mo) (hm : mo ≤ 40) : kpT told ct fr wd mo nums = upd (kpS told fr mo c nums wd) ct (nI (c + 1)) := by
  unfold kpT
  rw [hc, if_neg (fun e => by have := (nI_eq (by omega) (by omega)).mp e; omega), nI_clamp (by omega), ← nI_succ]
/-- what a line needs: room, and good numbers -/
def LK (s : ST) (ln : LiN) : Prop := gdL ln = true ∧ (ctK ln.1 = true → ∃ c, c < moK ln.1 ∧ s.2.1 (cnK ln.1) = nI c)
theorem lk_of {s : ST} {ln : LiN} (k2 : ln.1 < 9) (f0 : s.1.1 = 0) (f1 : (stL s ln).1.1 = 0) (hsf : SFp 0 s.2.1) : LK s ln := by
  refine ⟨fs_good f1, fun hc => ?_⟩
  obtain ⟨c, c1, c2⟩ := hsf ln.1 (Nat.zero_le _) k2 hc
  have := fs_room f0 f1 hc
  refine ⟨c, ?_, c2⟩
  refine Classical.byContradiction (fun g => this ?_)
  rw [c2, show c = moK ln.1 by omega]
theorem nx_of {x : Int32} {b : Nat} (h : rng x 0 b) (hb : b < 2 ^ 30) : ∃ n, n ≤ b ∧ x = nI n ∧ x.toNatClampNeg = n := by
  obtain ⟨n, hn, e⟩ := vp_in_of (x := x) (n := b + 1) (vp_in_iff.mpr ⟨h.1, by have := h.2; omega⟩) (by omega)
  exact ⟨n, by omega, e, by rw [e, nI_clamp (by omega)]⟩
theorem tl_0 (hz : N + szV 0 ≤ y1.length) {C : SV} {s : ST} (h : CI C s) {pl : Nat} {nums : Nat → Int32} {npl : Nat → Nat} (hl : LK s (0, pl, nums, npl)) : ∃ C', fX4_tellLine N (nI 0) (nums 0) (nums 1) (nums 2) (wr 0 N ρ C y1) = some (wr 0 N ρ C' y1) ∧ CI C' (stL s (0, pl, nums, npl)) := by
  obtain ⟨hR, hA, hF, hN⟩ := h
  obtain ⟨hg, hc⟩ := hl
  obtain ⟨c, c1, c2⟩ := hc rfl
  replace c1 : c < 8 := c1
  replace c2 : s.2.1 0 = nI c := c2
  have hgo : ∀ i, i < 3 → okN 0 i (nums 0) (nums i) = true := gd_ok (ln := (0, pl, nums, npl)) 3 hg
  have r0 := ok_r (hgo 0 (by omega)) (a := 0) (b := 99) (by decide +kernel) (by decide +kernel)
  have r1 := ok_r (hgo 1 (by omega)) (a := 0) (b := 9) (by decide +kernel) (by decide +kernel)
  have r2 := ok_r (hgo 2 (by omega)) (a := 0) (b := 9) (by decide +kernel) (by decide +kernel)
  have e0 : C.1 0 = nI c := (hR.1 (0, 0) (by decide)).trans c2
  have et : tbL s.2.1 (0, pl, nums, npl) = upd (upd (upd (upd s.2.1 (6 + c) (nums 0)) (14 + c) (nums 1)) (22 + c) (nums 2)) 0 (nI (c + 1)) := by
    show kpT s.2.1 0 6 3 8 nums = _
    rw [kp_e c2 c1 (by omega)]
    show upd (upd (upd (upd s.2.1 (6 + 8 * 0 + c) (nums 0)) (6 + 8 * 1 + c) (nums 1)) (6 + 8 * 2 + c) (nums 2)) 0 (nI (c + 1)) = _
    rw [show 6 + 8 * 0 + c = 6 + c by omega, show 6 + 8 * 1 + c = 14 + c by omega, show 6 + 8 * 2 + c = 22 + c by omega]
  have hR' := (((hR.row (k := 1) (p := 6) (n := 8) (by decide) c1 (nums 0)).row (k := 2) (p := 14) (n := 8) (by decide) c1 (nums 1)).row (k := 3) (p := 22) (n := 8) (by decide) c1 (nums 2)).int (k := 0) (p := 0) (by decide) (nI (c + 1))
  generalize hC' : wI (wR (wR (wR C 1 (upd (C.2.1 1) c (nums 0))) 2 (upd ((wR C 1 (upd (C.2.1 1) c (nums 0))).2.1 2) c (nums 1))) 3 (upd ((wR (wR C 1 (upd (C.2.1 1) c (nums 0))) 2 (upd ((wR C 1 (upd (C.2.1 1) c (nums 0))).2.1 2) c (nums 1))).2.1 3) c (nums 2))) 0 (nI (c + 1)) = C' at hR'
  have r6 : C'.2.1 6 = C.2.1 6 := by rw [← hC']; show (wR _ 3 _).2.1 6 = _; rw [wR_ne (by decide), wR_ne (by decide), wR_ne (by decide)]
  have r5 : C'.2.1 5 = C.2.1 5 := by rw [← hC']; show (wR _ 3 _).2.1 5 = _; rw [wR_ne (by decide), wR_ne (by decide), wR_ne (by decide)]
  have ho : ∀ j, j ≠ 0 → (j < 6 ∨ 30 ≤ j) → tbL s.2.1 (0, pl, nums, npl) j = s.2.1 j := fun j h0 hj => by
    rw [et, pk_un h0, pk_un (by omega), pk_un (by omega), pk_un (by omega)]
  refine ⟨C', ?_, ?_, ?_, ?_, ?_, ?_⟩
  · unfold fX4_tellLine
    rw [if_pos (show nI 0 = 0 from rfl), eX0_addThing hz]
    unfold gX0_addThing
    rw [e0, if_neg (show ¬ (8 : Int32) ≤ nI c from nI_ge (b := 8) c1 (by omega)), wA_nI c1 (by omega)]
    simp only [Option.bind_some]
    rw [show (wR C 1 (upd (C.2.1 1) c (nums 0))).1 0 = nI c from e0, wA_nI c1 (by omega)]
    simp only [Option.bind_some]
    rw [show (wR (wR C 1 (upd (C.2.1 1) c (nums 0))) 2 (upd ((wR C 1 (upd (C.2.1 1) c (nums 0))).2.1 2) c (nums 1))).1 0 = nI c from e0, wA_nI c1 (by omega)]
    simp only [Option.bind_some]
    rw [nmE, show (wR (wR (wR C 1 (upd (C.2.1 1) c (nums 0))) 2 (upd ((wR C 1 (upd (C.2.1 1) c (nums 0))).2.1 2) c (nums 1))) 3 (upd ((wR (wR C 1 (upd (C.2.1 1) c (nums 0))) 2 (upd ((wR C 1 (upd (C.2.1 1) c (nums 0))).2.1 2) c (nums 1))).2.1 3) c (nums 2))).1 0 = nI c from e0, ← nI_succ, hC']
    rfl
  · show CRg C' (tbL s.2.1 (0, pl, nums, npl)); rw [et]; exact hR'
  · show VA (tbL s.2.1 (0, pl, nums, npl)); rw [et]
    exact (((hA.n99 (by omega) r0).n9 (by omega) r1).n9 (by omega) r2).no (by omega) _
  · show VF (tbL s.2.1 (0, pl, nums, npl)) s.2.2
    refine ⟨fun t ht => by rw [ho _ (by omega) (by omega)]; exact hF.1 t ht, fun t ht => ?_, fun t ht => ?_⟩
    · rw [ho 1 (by omega) (by omega)] at ht
      rw [ho _ (by omega) (by omega), ho _ (by omega) (by omega)]; exact hF.2.1 t ht
    · rw [ho 4 (by omega) (by omega)] at ht
      rw [ho _ (by omega) (by omega), ho _ (by omega) (by omega)]; exact hF.2.2 t ht
  · intro t ht k hk
    rw [r6, hN.1 t ht k hk]
    exact and_congr_right (fun _ => (isNr_same (ho 1 (by omega) (by omega)) (fun p _ => ⟨ho _ (by omega) (by omega), ho _ (by omega) (by omega)⟩) t k).symm)
  · intro t ht; rw [r5]; exact hN.2 t ht
/-- lines that leave RESTS, PATHS and COUPLES alone -/
theorem ci_fin {C : SV} {s : ST} (h : CI C s) {C' : SV} {s' : ST} (e1 : s.2.2.1.toInt ≤ s'.2.2.1.toInt ∧ s.2.2.2.1.toInt ≤ s'.2.2.2.1.toInt ∧ s.2.2.2.2.toInt ≤ s'.2.2.2.2.toInt) (hR' : CRg C' s'.2.1) (hA' : VA s'.2.1) (r6 : C'.2.1 6 = C.2.1 6) (r5 : C'.2.1 5 = C.2.1 5) (ho : ∀ j, (j = 1 ∨ j = 4 ∨ (30 ≤ j ∧ j < 38) ∨ (46 ≤ j ∧ j < 78)) → s'.2.1 j = s.2.1 j) (hc : (s.2.1 1).toInt ≤ 12 ∧ (s.2.1 4).toInt ≤ 4) : CI C' s' := by
  obtain ⟨hR, hA, hF, hN⟩ := h
  obtain ⟨m1, m2, m3⟩ := e1
  obtain ⟨c1, c4⟩ := hc
  refine ⟨hR', hA', ⟨fun t ht => ?_, fun t ht => ?_, fun t ht => ?_⟩, fun t ht k hk => ?_, fun t ht => by rw [r5]; exact hN.2 t ht⟩
  · rw [ho _ (by omega)]; exact (hF.1 t ht).up m1
  · rw [ho 1 (by omega)] at ht
    rw [ho _ (by omega), ho _ (by omega)]
    exact ⟨(hF.2.1 t ht).1.up m1, (hF.2.1 t ht).2.up m1⟩
  · rw [ho 4 (by omega)] at ht
    rw [ho _ (by omega), ho _ (by omega)]
    exact ⟨(hF.2.2 t ht).1.up m2, (hF.2.2 t ht).2.up m3⟩
  · rw [r6, hN.1 t ht k hk]
    exact and_congr_right (fun _ => (isNr_same (ho 1 (by omega)) (fun p hp => ⟨ho _ (by omega), ho _ (by omega)⟩) t k).symm)
theorem far_rf (f : Int32 × Int32 × Int32) : f.1.toInt ≤ f.1.toInt ∧ f.2.1.toInt ≤ f.2.1.toInt ∧ f.2.2.toInt ≤ f.2.2.toInt := ⟨Int.le_refl _, Int.le_refl _, Int.le_refl _⟩
theorem tl_4 (hz : N + szV 0 ≤ y1.length) {C : SV} {s : ST} (h : CI C s) (hcc : (s.2.1 1).toInt ≤ 12 ∧ (s.2.1 4).toInt ≤ 4) {pl : Nat} {nums : Nat → Int32} {npl : Nat → Nat} (hl : LK s (4, pl, nums, npl)) (x1 x2 : Int32) : ∃ C', fX4_tellLine N (nI 4) (nums 0) x1 x2 (wr 0 N ρ C y1) = some (wr 0 N ρ C' y1) ∧ CI C' (stL s (4, pl, nums, npl)) := by
  obtain ⟨hR, hA, hF, hN⟩ := id h
  obtain ⟨hg, hc⟩ := hl
  obtain ⟨c, c1, c2⟩ := hc rfl
  replace c1 : c < 4 := c1
  replace c2 : s.2.1 2 = nI c := c2
  have hgo : ∀ i, i < 1 → okN 4 i (nums 0) (nums i) = true := gd_ok (ln := (4, pl, nums, npl)) 1 hg
  have r0 := ok_r (hgo 0 (by omega)) (a := 1) (b := 9) (by decide +kernel) (by decide +kernel)
  have e0 : C.1 10 = nI c := (hR.1 (10, 2) (by decide)).trans c2
  have et : tbL s.2.1 (4, pl, nums, npl) = upd (upd s.2.1 (38 + c) (nums 0)) 2 (nI (c + 1)) := by
    show kpT s.2.1 2 38 1 4 nums = _
    rw [kp_e c2 c1 (by omega)]
    show upd (upd s.2.1 (38 + 4 * 0 + c) (nums 0)) 2 (nI (c + 1)) = _
    rw [show 38 + 4 * 0 + c = 38 + c by omega]
  have hR' := (hR.row (k := 12) (p := 38) (n := 4) (by decide) c1 (nums 0)).int (k := 10) (p := 2) (by decide) (nI (c + 1))
  refine ⟨_, ?_, ci_fin h (C' := wI (wR C 12 (upd (C.2.1 12) c (nums 0))) 10 (nI (c + 1))) (far_rf _) (by rw [stL_t, et]; exact hR') (by rw [stL_t, et]; exact (hA.n9 (by omega) ⟨Int.le_trans (by omega) r0.1, r0.2⟩).no (by omega) _) (wR_ne (by decide)) (wR_ne (by decide)) (fun j hj => by rw [stL_t, et, pk_un (by omega), pk_un (by omega)]) hcc⟩
  unfold fX4_tellLine
  rw [if_neg (show ¬ nI 4 = 0 by decide), if_neg (show ¬ nI 4 = 1 by decide), if_neg (show ¬ nI 4 = 2 by decide), if_neg (show ¬ nI 4 = 3 by decide), if_pos (show nI 4 = 4 from rfl), eX0_addLeft hz]
  unfold gX0_addLeft
  rw [e0, if_neg (show ¬ (4 : Int32) ≤ nI c from nI_ge (b := 4) c1 (by omega)), wA_nI c1 (by omega)]
  simp only [Option.bind_some]
  rw [nmE, show (wR C 12 (upd (C.2.1 12) c (nums 0))).1 10 = nI c from e0, ← nI_succ]
  rfl
theorem tl_5 (hz : N + szV 0 ≤ y1.length) {C : SV} {s : ST} (h : CI C s) (hcc : (s.2.1 1).toInt ≤ 12 ∧ (s.2.1 4).toInt ≤ 4) {pl : Nat} {nums : Nat → Int32} {npl : Nat → Nat} (hl : LK s (5, pl, nums, npl)) (x1 x2 : Int32) : ∃ C', fX4_tellLine N (nI 5) (nums 0) x1 x2 (wr 0 N ρ C y1) = some (wr 0 N ρ C' y1) ∧ CI C' (stL s (5, pl, nums, npl)) := by
  obtain ⟨hR, hA, hF, hN⟩ := id h
  obtain ⟨hg, hc⟩ := hl
  obtain ⟨c, c1, c2⟩ := hc rfl
  replace c1 : c < 4 := c1
  replace c2 : s.2.1 3 = nI c := c2
  have hgo : ∀ i, i < 1 → okN 5 i (nums 0) (nums i) = true := gd_ok (ln := (5, pl, nums, npl)) 1 hg
  have r0 := ok_r (hgo 0 (by omega)) (a := 1) (b := 9) (by decide +kernel) (by decide +kernel)
  have e0 : C.1 11 = nI c := (hR.1 (11, 3) (by decide)).trans c2
  have et : tbL s.2.1 (5, pl, nums, npl) = upd (upd s.2.1 (42 + c) (nums 0)) 3 (nI (c + 1)) := by
    show kpT s.2.1 3 42 1 4 nums = _
    rw [kp_e c2 c1 (by omega)]
    show upd (upd s.2.1 (42 + 4 * 0 + c) (nums 0)) 3 (nI (c + 1)) = _
    rw [show 42 + 4 * 0 + c = 42 + c by omega]
  have hR' := (hR.row (k := 13) (p := 42) (n := 4) (by decide) c1 (nums 0)).int (k := 11) (p := 3) (by decide) (nI (c + 1))
  refine ⟨_, ?_, ci_fin h (C' := wI (wR C 13 (upd (C.2.1 13) c (nums 0))) 11 (nI (c + 1))) (far_rf _) (by rw [stL_t, et]; exact hR') (by rw [stL_t, et]; exact (hA.n9 (by omega) ⟨Int.le_trans (by omega) r0.1, r0.2⟩).no (by omega) _) (wR_ne (by decide)) (wR_ne (by decide)) (fun j hj => by rw [stL_t, et, pk_un (by omega), pk_un (by omega)]) hcc⟩
  unfold fX4_tellLine
  rw [if_neg (show ¬ nI 5 = 0 by decide), if_neg (show ¬ nI 5 = 1 by decide), if_neg (show ¬ nI 5 = 2 by decide), if_neg (show ¬ nI 5 = 3 by decide), if_neg (show ¬ nI 5 = 4 by decide), if_pos (show nI 5 = 5 from rfl), eX0_addRight hz]
  unfold gX0_addRight
  rw [e0, if_neg (show ¬ (4 : Int32) ≤ nI c from nI_ge (b := 4) c1 (by omega)), wA_nI c1 (by omega)]
  simp only [Option.bind_some]
  rw [nmE, show (wR C 13 (upd (C.2.1 13) c (nums 0))).1 11 = nI c from e0, ← nI_succ]
  rfl
theorem tl_6 (hz : N + szV 0 ≤ y1.length) {C : SV} {s : ST} (h : CI C s) (hcc : (s.2.1 1).toInt ≤ 12 ∧ (s.2.1 4).toInt ≤ 4) {pl : Nat} {nums : Nat → Int32} {npl : Nat → Nat} (hl : LK s (6, pl, nums, npl)) (x1 x2 : Int32) : ∃ C', fX4_tellLine N (nI 6) (nums 0) x1 x2 (wr 0 N ρ C y1) = some (wr 0 N ρ C' y1) ∧ CI C' (stL s (6, pl, nums, npl)) := by
  obtain ⟨hR, hA, hF, hN⟩ := id h
  obtain ⟨hg, -⟩ := hl
  have hgo : ∀ i, i < 1 → okN 6 i (nums 0) (nums i) = true := gd_ok (ln := (6, pl, nums, npl)) 1 hg
  have r0 := ok_r (hgo 0 (by omega)) (a := 0) (b := 9) (by decide +kernel) (by decide +kernel)
  have et : tbL s.2.1 (6, pl, nums, npl) = upd s.2.1 5 (nums 0) := by rw [tb_6, show gdN (6, pl, nums, npl) 1 = true from hg, if_pos rfl]
  have hR' := hR.int (k := 19) (p := 5) (by decide) (nums 0)
  refine ⟨_, ?_, ci_fin h (C' := wI C 19 (nums 0)) (far_rf _) (by rw [stL_t, et]; exact hR') (by rw [stL_t, et]; exact hA.n9 (by omega) r0) rfl rfl (fun j hj => by rw [stL_t, et, pk_un (by omega)]) hcc⟩
  unfold fX4_tellLine
  rw [if_neg (show ¬ nI 6 = 0 by decide), if_neg (show ¬ nI 6 = 1 by decide), if_neg (show ¬ nI 6 = 2 by decide), if_neg (show ¬ nI 6 = 3 by decide), if_neg (show ¬ nI 6 = 4 by decide), if_neg (show ¬ nI 6 = 5 by decide), if_pos (show nI 6 = 6 from rfl), pF_int hz rfl]
  rfl
theorem like_e (hz : N + szV 0 ≤ y1.length) {C : SV} {k off : Nat} (hk : (dsc 0 ρ.2.2)[k]? = some (1, off, 16, 0)) (hr : rk 0 off = some k) (h0 : 0 < off) {a b : Nat} (ha : a < 4) (hb : b < 4) (x : Int32) : fX0_like (N + off) (nI a) (nI b) x (wr 0 N ρ C y1) = some (wr 0 N ρ (wR C k (upd (C.2.1 k) (4 * a + b) x)) y1) := by
  unfold fX0_like
  rw [if_neg (nI_pos (by omega)), if_neg (show ¬ (4 : Int32) ≤ nI a from nI_ge (b := 4) ha (by omega)), if_neg (nI_pos (by omega)), if_neg (show ¬ (4 : Int32) ≤ nI b from nI_ge (b := 4) hb (by omega)), show (4 : Int32) = nI 4 from rfl, pk_mul, nI_add, stI_rd rkOk0 hz hk hr h0 0 rfl (by decide), wA_nI (by omega) (by omega)]
  rfl
theorem tl_7 (hz : N + szV 0 ≤ y1.length) {C : SV} {s : ST} (h : CI C s) (hcc : (s.2.1 1).toInt ≤ 12 ∧ (s.2.1 4).toInt ≤ 4) {pl : Nat} {nums : Nat → Int32} {npl : Nat → Nat} (hl : LK s (7, pl, nums, npl)) : ∃ C', fX4_tellLine N (nI 7) (nums 0) (nums 1) (nums 2) (wr 0 N ρ C y1) = some (wr 0 N ρ C' y1) ∧ CI C' (stL s (7, pl, nums, npl)) := by
  obtain ⟨hR, hA, hF, hN⟩ := id h
  obtain ⟨hg, -⟩ := hl
  have hgo : ∀ i, i < 3 → okN 7 i (nums 0) (nums i) = true := gd_ok (ln := (7, pl, nums, npl)) 3 hg
  obtain ⟨a, a1, a2, a3⟩ := nx_of (b := 3) (ok_r (hgo 0 (by omega)) (a := 0) (b := 3) (by decide +kernel) (by decide +kernel)) (by omega)
  obtain ⟨b, b1, b2_, b3⟩ := nx_of (b := 3) (ok_r (hgo 1 (by omega)) (a := 0) (b := 3) (by decide +kernel) (by decide +kernel)) (by omega)
  have r2 := ok_r (hgo 2 (by omega)) (a := 0) (b := 9) (by decide +kernel) (by decide +kernel)
  have et : tbL s.2.1 (7, pl, nums, npl) = upd s.2.1 (78 + (4 * a + b)) (nums 2) := by rw [tb_7, show gdN (7, pl, nums, npl) 3 = true from hg, if_pos rfl, a3, b3, Nat.add_assoc]
  have hR' := hR.row (k := 17) (p := 78) (n := 16) (by decide) (t := 4 * a + b) (by omega) (nums 2)
  refine ⟨_, ?_, ci_fin h (C' := wR C 17 (upd (C.2.1 17) (4 * a + b) (nums 2))) (s' := stL s (7, pl, nums, npl)) ⟨Int.le_refl _, (gre_ge _ _).1, (gre_ge _ _).1⟩ (by rw [stL_t, et]; exact hR') (by rw [stL_t, et]; exact hA.n9 (by omega) r2) (wR_ne (by decide)) (wR_ne (by decide)) (fun j hj => by rw [stL_t, et, pk_un (by omega)]) hcc⟩
  unfold fX4_tellLine
  rw [if_neg (show ¬ nI 7 = 0 by decide), if_neg (show ¬ nI 7 = 1 by decide), if_neg (show ¬ nI 7 = 2 by decide), if_neg (show ¬ nI 7 = 3 by decide), if_neg (show ¬ nI 7 = 4 by decide), if_neg (show ¬ nI 7 = 5 by decide), if_neg (show ¬ nI 7 = 6 by decide), if_pos (show nI 7 = 7 from rfl), gN_rd (rd_wr hz) (k := 17) rfl (Or.inl rfl), Option.bind_some, a2, b2_, like_e hz (k := 17) rfl rfl (by decide) (by omega) (by omega)]
  rfl
theorem tl_8 (hz : N + szV 0 ≤ y1.length) {C : SV} {s : ST} (h : CI C s) (hcc : (s.2.1 1).toInt ≤ 12 ∧ (s.2.1 4).toInt ≤ 4) {pl : Nat} {nums : Nat → Int32} {npl : Nat → Nat} (hl : LK s (8, pl, nums, npl)) : ∃ C', fX4_tellLine N (nI 8) (nums 0) (nums 1) (nums 2) (wr 0 N ρ C y1) = some (wr 0 N ρ C' y1) ∧ CI C' (stL s (8, pl, nums, npl)) := by
  obtain ⟨hR, hA, hF, hN⟩ := id h
  obtain ⟨hg, -⟩ := hl
  have hgo : ∀ i, i < 3 → okN 8 i (nums 0) (nums i) = true := gd_ok (ln := (8, pl, nums, npl)) 3 hg
  obtain ⟨a, a1, a2, a3⟩ := nx_of (b := 3) (ok_r (hgo 0 (by omega)) (a := 0) (b := 3) (by decide +kernel) (by decide +kernel)) (by omega)
  obtain ⟨b, b1, b2_, b3⟩ := nx_of (b := 3) (ok_r (hgo 1 (by omega)) (a := 0) (b := 3) (by decide +kernel) (by decide +kernel)) (by omega)
  have r2 := ok_r (hgo 2 (by omega)) (a := 0) (b := 9) (by decide +kernel) (by decide +kernel)
  have et : tbL s.2.1 (8, pl, nums, npl) = upd s.2.1 (94 + (4 * a + b)) (nums 2) := by rw [tb_8, show gdN (8, pl, nums, npl) 3 = true from hg, if_pos rfl, a3, b3, Nat.add_assoc]
  have hR' := hR.row (k := 18) (p := 94) (n := 16) (by decide) (t := 4 * a + b) (by omega) (nums 2)
  refine ⟨_, ?_, ci_fin h (C' := wR C 18 (upd (C.2.1 18) (4 * a + b) (nums 2))) (s' := stL s (8, pl, nums, npl)) ⟨Int.le_refl _, (gre_ge _ _).1, (gre_ge _ _).1⟩ (by rw [stL_t, et]; exact hR') (by rw [stL_t, et]; exact hA.n9 (by omega) r2) (wR_ne (by decide)) (wR_ne (by decide)) (fun j hj => by rw [stL_t, et, pk_un (by omega)]) hcc⟩
  unfold fX4_tellLine
  rw [if_neg (show ¬ nI 8 = 0 by decide), if_neg (show ¬ nI 8 = 1 by decide), if_neg (show ¬ nI 8 = 2 by decide), if_neg (show ¬ nI 8 = 3 by decide), if_neg (show ¬ nI 8 = 4 by decide), if_neg (show ¬ nI 8 = 5 by decide), if_neg (show ¬ nI 8 = 6 by decide), if_neg (show ¬ nI 8 = 7 by decide), if_pos (show nI 8 = 8 from rfl), gN_rd (rd_wr hz) (k := 18) rfl (Or.inl rfl), Option.bind_some, a2, b2_, like_e hz (k := 18) rfl rfl (by decide) (by omega) (by omega)]
  rfl
end TL
