/-! ===== what is joined; SUREST; way ===== -/
noncomputable def nxP (B : Nat → Int32) (n : Nat) (x : Int32) : Int32 := fm (fun k => @decide (bt x k = true ∨ ∃ t, t < n ∧ bt x t = true ∧ isNr B t k) (Classical.propDecidable _)) 32
section CLO
variable {C : SV} {B : Nat → Int32} {i n c : Nat} {A : Nat → Int32} {M S : SV}
theorem nx_step (B : Nat → Int32) (n : Nat) (x : Int32) : stepTo B n x (nxP B n x) := by
  intro k hk
  unfold nxP
  rw [fm_bt _ 32 (by omega) k hk]
  simp [hk]
theorem c_nx (h : CX C B n c) (S : SV) (x : Int32) : gX6_spread C x S = some (nxP B n x) := by
  obtain ⟨y, h1, h2⟩ := c_spread h S x
  rw [h1, h2.eq (nx_step B n x)]
theorem m_nx (h : CX C B n c) (hM : MX B i n c A M) (x : Int32) : gX10_nextTo x M = some (nxP B n x) := by
  obtain ⟨y, h1, h2⟩ := m_next h hM x
  rw [h1, h2.eq (nx_step B n x)]
/-- all that is joined, among some, k steps -/
noncomputable def clP (B : Nat → Int32) (n : Nat) (am x : Int32) (k : Nat) : Int32 := itP (fun x => nxP B n x &&& am) x k
def leM (x y : Int32) : Prop := ∀ k, k < 32 → bt x k = true → bt y k = true
theorem cl_in {am x : Int32} (hx : leM x am) : ∀ k, leM (clP B n am x k) am
  | 0 => hx
  | k + 1 => fun j hj q => by
    have q' : bt (nxP B n (clP B n am x k) &&& am) j = true := q
    rw [b_and] at q'; simp at q'; exact q'.2
theorem cl_up {am x : Int32} (hx : leM x am) (k : Nat) : leM (clP B n am x k) (clP B n am x (k + 1)) := fun j hj q => by
  show bt (nxP B n (clP B n am x k) &&& am) j = true
  rw [b_and, (nx_step B n _ j hj).mpr (Or.inl q), cl_in hx k j hj q]; rfl
theorem cl_ups {am x : Int32} (hx : leM x am) (k : Nat) : ∀ d, leM (clP B n am x k) (clP B n am x (k + d))
  | 0 => fun j hj q => q
  | d + 1 => fun j hj q => cl_up hx (k + d) j hj (cl_ups hx k d j hj q)
theorem leM.anti {x y : Int32} (h : leM x y) (h2 : leM y x) : x = y := b_ext (fun k hk => bt_iff ⟨h k hk, h2 k hk⟩)
theorem cl_cnt {am x : Int32} (ha : sub 8 am) (hx : leM x am) : ∀ k, (∃ j, j ≤ k ∧ clP B n am x (j + 1) = clP B n am x j) ∨ k + 1 ≤ fa_cnt (bt (clP B n am x (k + 1))) 8
  | 0 => by
    by_cases e : clP B n am x 1 = clP B n am x 0
    · exact Or.inl ⟨0, by omega, e⟩
    · right
      have : ∃ j, j < 8 ∧ bt (clP B n am x 0) j = false ∧ bt (clP B n am x 1) j = true := by
        refine Classical.byContradiction (fun hn => e ?_)
        refine leM.anti (fun j hj q => ?_) (cl_up hx 0)
        cases q2 : bt (clP B n am x 0) j
        · by_cases j8 : j < 8
          · exact absurd ⟨j, j8, q2, q⟩ hn
          · have := cl_in hx 1 j hj q
            rw [ha j (by omega) hj] at this; cases this
        · rfl
      obtain ⟨j, j8, q1, q2⟩ := this
      have := fa_cnt_lt (p := fun _ => false) (q := bt (clP B n am x 1)) (fun _ h => by cases h) rfl q2 8 j8
      exact Nat.lt_of_le_of_lt (Nat.zero_le _) this
  | k + 1 => by
    rcases cl_cnt ha hx k with ⟨j, hj, e⟩ | hk
    · exact Or.inl ⟨j, by omega, e⟩
    · by_cases e : clP B n am x (k + 1 + 1) = clP B n am x (k + 1)
      · exact Or.inl ⟨k + 1, by omega, e⟩
      · right
        have : ∃ j, j < 8 ∧ bt (clP B n am x (k + 1)) j = false ∧ bt (clP B n am x (k + 1 + 1)) j = true := by
          refine Classical.byContradiction (fun hn => e ?_)
          refine leM.anti (fun j hj q => ?_) (cl_up hx (k + 1))
          cases q2 : bt (clP B n am x (k + 1)) j
          · by_cases j8 : j < 8
            · exact absurd ⟨j, j8, q2, q⟩ hn
            · have := cl_in hx (k + 1 + 1) j hj q
              rw [ha j (by omega) hj] at this; cases this
          · rfl
        obtain ⟨j, j8, q1, q2⟩ := this
        have h1 : fa_cnt (bt (clP B n am x (k + 1))) 8 < fa_cnt (bt (clP B n am x (k + 1 + 1))) 8 := by
          -- counted below 8 alone
          have e1 : fa_cnt (bt (clP B n am x (k + 1))) 8 = fa_cnt (fun t => decide (t < 32) && bt (clP B n am x (k + 1)) t) 8 := fa_cnt_cong (fun t ht => by simp [show t < 32 by omega])
          rw [e1]
          exact fa_cnt_lt (fun t ht => by simp at ht; exact cl_up hx (k + 1) t ht.1 ht.2) (by simp [q1]) q2 8 j8
        omega
theorem cl_fix {am x : Int32} (ha : sub 8 am) (hx : leM x am) : nxP B n (clP B n am x 8) &&& am = clP B n am x 8 := by
  have fixed : ∀ j, clP B n am x (j + 1) = clP B n am x j → ∀ d, clP B n am x (j + d) = clP B n am x j := by
    intro j e d
    exact itP_fix2 (f := fun x => nxP B n x &&& am) e d
  rcases cl_cnt (B := B) (n := n) ha hx 8 with ⟨j, hj, e⟩ | h
  · have e1 := fixed j e (8 - j)
    have e2 := fixed j e (9 - j)
    rw [show j + (8 - j) = 8 by omega] at e1
    rw [show j + (9 - j) = 8 + 1 by omega] at e2
    exact e2.trans e1.symm
  · have := fa_cnt_le (bt (clP B n am x (8 + 1))) 8
    omega
/-- nothing among them is joined to it from outside -/
theorem cl_clo {am x : Int32} (ha : sub 8 am) (hx : leM x am) {s t : Nat} (hs : s < n) (ht : t < 32) (hb : bt (clP B n am x 8) s = true) (hr : isNr B s t) (hm : bt am t = true) : bt (clP B n am x 8) t = true := by
  rw [← cl_fix ha hx, b_and, hm, (nx_step B n _ t ht).mpr (Or.inr ⟨s, hs, hb, hr⟩)]; rfl
end CLO
/-! SUREST -/
/-- those there with so much SOLID -/
def amP (sol : Nat → Int32) (g : Int32) (n v : Nat) : Int32 := fm (fun t => !bt g t && decide (nI v ≤ sol t)) n
section SU
variable {C : SV} {B : Nat → Int32} {i n c : Nat} {A : Nat → Int32} {M S : SV}
theorem am_bt (hn : n ≤ 8) (sol : Nat → Int32) (g : Int32) (v : Nat) {t : Nat} (ht : t < 32) : bt (amP sol g n v) t = (decide (t < n) && (!bt g t && decide (nI v ≤ sol t))) := fm_bt _ n (by omega) t ht
theorem am_sub (hn : n ≤ 8) (sol : Nat → Int32) (g : Int32) (v : Nat) : sub 8 (amP sol g n v) := fun k k1 k2 => by rw [am_bt hn _ _ _ k2, decide_eq_false (by omega)]; rfl
theorem m_sure_in (h : CX C B n c) (hM : MX B i n c A M) (hR : SR n A S M) (k5 : Int32 → Int32 → Int32 → Int32 → Option Int32) {a b : Nat} (ha : a < n) (hb : b < n) (best : Int32) {v : Nat} (hv : v < 2 ^ 31) : gfX10_sureBy_18 k5 M FU (nI a) (nI b) best (nI v) 0 0 = k5 (nI a) (nI b) (if bt (clP B n (amP (S.2.1 1) (S.1 6) n v) (shl 1 (nI a) &&& amP (S.2.1 1) (S.1 6) n v) 8) b then nI v else best) (nI (v + 1)) := by
  have hn := h.hn
  refine lp (fun f (q : Int32 × Int32) => gfX10_sureBy_18 k5 M f (nI a) (nI b) best (nI v) q.1 q.2) (fun j => (fm (fun t => !bt (S.1 6) t && decide (nI v ≤ S.2.1 1 t)) j, nI j)) _ n ?_ ?_ FU (by rw [FUn]; omega)
  · intro j hj f
    show gbX10_sureBy_18 _ _ _ _ _ _ _ _ _ = gfX10_sureBy_18 k5 M f (nI a) (nI b) best (nI v) (fm (fun t => !bt (S.1 6) t && decide (nI v ≤ S.2.1 1 t)) (j + 1)) (nI (j + 1))
    unfold gbX10_sureBy_18
    rw [hM.fm, if_neg (nI_ge hj (by omega)), hR.e6, rA_nI (by omega) (by omega)]
    simp only [Option.bind_some, nm, or0, ← nI_succ, m_has0 _ (show j < 32 by omega), fm]
    rcases Bool.eq_false_or_eq_true (bt (S.1 6) j) with hg | hg
    · simp [hg]
    · rw [hR.sol hj hg]
      by_cases q : S.2.1 1 j < nI v
      · have : ¬ nI v ≤ S.2.1 1 j := (fa_of_lt q).2.1
        simp [hg, q, this]
      · have : nI v ≤ S.2.1 1 j := fa_of_nlt q
        simp [hg, q, this]
  · intro f
    show gbX10_sureBy_18 _ _ _ _ _ _ _ _ _ = _
    unfold gbX10_sureBy_18
    rw [hM.fm, if_pos (nI_le (Nat.le_refl _) (by omega))]
    simp only [nm]
    refine lp (fun f (q : Int32 × Int32) => gfX10_sureBy_81 k5 M f (nI a) (nI b) best (nI v) (fm (fun t => !bt (S.1 6) t && decide (nI v ≤ S.2.1 1 t)) n) q.1 q.2) (fun j => (clP B n (amP (S.2.1 1) (S.1 6) n v) (shl 1 (nI a) &&& amP (S.2.1 1) (S.1 6) n v) j, nI j)) _ 8 ?_ ?_ FU (by rw [FUn]; omega)
    · intro j hj f
      show gbX10_sureBy_81 _ _ _ _ _ _ _ _ _ _ = gfX10_sureBy_81 k5 M f (nI a) (nI b) best (nI v) _ (nxP B n (clP B n (amP (S.2.1 1) (S.1 6) n v) (shl 1 (nI a) &&& amP (S.2.1 1) (S.1 6) n v) j) &&& amP (S.2.1 1) (S.1 6) n v) (nI (j + 1))
      unfold gbX10_sureBy_81
      rw [if_neg (show ¬ (8 : Int32) ≤ nI j from nI_ge (b := 8) hj (by omega)), m_nx h hM]
      simp only [Option.bind_some, nm, ← nI_succ]
      rfl
    · intro f
      show gbX10_sureBy_81 _ _ _ _ _ _ _ _ _ _ = _
      unfold gbX10_sureBy_81
      rw [if_pos (show (8 : Int32) ≤ nI 8 by decide)]
      simp only [nm, ← nI_succ, m_has0 _ (show b < 32 by omega)]
      cases bt (clP B n (amP (S.2.1 1) (S.1 6) n v) (shl 1 (nI a) &&& amP (S.2.1 1) (S.1 6) n v) 8) b <;> rfl
/-- the reference finds the greatest -/
theorem m_sure (h : CX C B n c) (hM : MX B i n c A M) (hR : SR n A S M) {a b : Nat} (ha : a < n) (hb : b < n) {w : Nat} (hw : w ≤ 99) (hW : ∀ v, 1 ≤ v → v ≤ 99 → (bt (clP B n (amP (S.2.1 1) (S.1 6) n v) (shl 1 (nI a) &&& amP (S.2.1 1) (S.1 6) n v) 8) b = true ↔ v ≤ w)) : gX10_sureBy (nI a) (nI b) M = some (if 0 < w then nI w else -1) := by
  have key := lp (fun f (q : Int32 × Int32) => gfX10_sureBy_5 M f (nI a) (nI b) q.1 q.2) (fun j => (if 0 < min j w then nI (min j w) else -1, nI (j + 1))) (some (if 0 < w then nI w else -1)) 99 ?_ ?_ FU (by rw [FUn]; omega)
  · have e : (if 0 < min 0 w then nI (min 0 w) else -1) = (-1 : Int32) := by rw [Nat.zero_min]; rfl
    replace key : gfX10_sureBy_5 M FU (nI a) (nI b) (if 0 < min 0 w then nI (min 0 w) else -1) (nI 1) = some (if 0 < w then nI w else -1) := key
    rw [e] at key
    exact key
  · intro j hj f
    show gbX10_sureBy_5 _ _ _ _ _ _ = gfX10_sureBy_5 M f (nI a) (nI b) (if 0 < min (j + 1) w then nI (min (j + 1) w) else -1) (nI (j + 1 + 1))
    unfold gbX10_sureBy_5
    rw [if_neg (show ¬ (99 : Int32) < nI (j + 1) from fun q => by have := (nI_ltI (a := 99) (by omega) (by omega)).mp q; omega), m_sure_in h hM hR _ ha hb _ (by omega)]
    congr 1
    by_cases q : j + 1 ≤ w
    · rw [if_pos ((hW (j + 1) (by omega) (by omega)).mpr q), Nat.min_eq_left q, if_pos (by omega)]
    · have : ¬ bt (clP B n (amP (S.2.1 1) (S.1 6) n (j + 1)) (shl 1 (nI a) &&& amP (S.2.1 1) (S.1 6) n (j + 1)) 8) b = true := fun q2 => q ((hW (j + 1) (by omega) (by omega)).mp q2)
      rw [if_neg this, Nat.min_eq_right (show w ≤ j by omega), Nat.min_eq_right (show w ≤ j + 1 by omega)]
  · intro f
    show gbX10_sureBy_5 _ _ _ _ _ _ = _
    unfold gbX10_sureBy_5
    rw [if_pos (show (99 : Int32) < nI (99 + 1) by decide), Nat.min_eq_right hw]
/-- widths, so far: each is that of a way -/
def WS (B : Nat → Int32) (n a : Nat) (sol : Nat → Int32) (g : Int32) (w : Nat → Int32) : Prop := (∀ t, t < 8 → rng (w t) 0 99) ∧ ∀ v : Nat, 1 ≤ v → v ≤ 99 → ∀ t, t < n → (v : Int) ≤ (w t).toInt → bt (clP B n (amP sol g n v) (shl 1 (nI a) &&& amP sol g n v) 8) t = true
theorem am_le (a : Nat) (am : Int32) : leM (shl 1 (nI a) &&& am) am := fun k hk q => by rw [b_and] at q; simp at q; exact q.2
theorem c_widen (h : CX C B n c) {g : Int32} (hg : S.1 6 = g) {a x y : Nat} (hx : x < n) (hy : y < n) (hr : isNr B x y) (hs : ∀ t, t < n → rng (S.2.1 1 t) 0 99) (hw : WS B n a (S.2.1 1) g (S.2.1 4)) : ∃ f, gX6_widen C (nI x) (nI y) S = some (wR S 4 f) ∧ WS B n a (S.2.1 1) g f ∧ (∀ t, (S.2.1 4 t).toInt ≤ (f t).toInt) ∧ (bt g x = false → bt g y = false → (S.2.1 4 x).toInt ≤ (f y).toInt ∨ (S.2.1 1 y).toInt ≤ (f y).toInt) := by
  have hn := h.hn
  have isT : ∀ t, t < n → gX6_isThere C (nI t) S = some (if bt g t then 0 else 1) := by
    intro t ht
    unfold gX6_isThere
    rcases c_thing h (nI t) with ⟨k, hk, -, e⟩ | ⟨q, -⟩
    · rw [e, hg]
      simp only [Option.bind_some, show ¬ ((1 : Int32) = 0) by decide, if_false]
      cases q : bt g t
      · rw [if_pos ((c_has0 _ (by omega)).mpr q)]; rfl
      · rw [if_neg (fun e => by rw [(c_has0 _ (by omega)).mp e] at q; cases q)]; rfl
    · exact (out_in ht hn q).elim
  unfold gX6_widen
  rw [isT x hx, isT y hy]
  cases gx : bt g x
  · cases gy : bt g y
    · simp only [Option.bind_some, Bool.false_eq_true, if_false, show ¬ ((1 : Int32) = 0) by decide]
      rw [rA_nI (by omega) (by omega), rA_nI (by omega) (by omega), rA_nI (by omega) (by omega)]
      simp only [Option.bind_some]
      rw [wA_nI (by omega) (by omega)]
      obtain ⟨w1, w2⟩ := hw
      have rx := w1 x (by omega)
      have ry := w1 y (by omega)
      have rs := hs y hy
      -- the new width
      obtain ⟨z, ez, z1⟩ : ∃ z, z = imax (S.2.1 4 y) (imin (S.2.1 4 x) (S.2.1 1 y)) ∧ ((z = S.2.1 4 y ∧ ((S.2.1 4 x).toInt ≤ z.toInt ∨ (S.2.1 1 y).toInt ≤ z.toInt)) ∨ ((S.2.1 4 y).toInt ≤ z.toInt ∧ z.toInt ≤ (S.2.1 4 x).toInt ∧ z.toInt ≤ (S.2.1 1 y).toInt ∧ (z = S.2.1 4 x ∨ z = S.2.1 1 y))) := by
        refine ⟨_, rfl, ?_⟩
        rw [imax_g, imin_l]
        by_cases q : S.2.1 4 x ≤ S.2.1 1 y
        · rw [les_l q]
          rw [fa_le] at q
          by_cases q2 : S.2.1 4 x ≤ S.2.1 4 y
          · rw [gre_l q2]; rw [fa_le] at q2; exact Or.inl ⟨rfl, Or.inl q2⟩
          · rw [gre_r q2]; rw [fa_le] at q2; exact Or.inr ⟨by omega, by omega, by omega, Or.inl rfl⟩
        · rw [les_r q]
          rw [fa_le] at q
          by_cases q2 : S.2.1 1 y ≤ S.2.1 4 y
          · rw [gre_l q2]; rw [fa_le] at q2; exact Or.inl ⟨rfl, Or.inr q2⟩
          · rw [gre_r q2]; rw [fa_le] at q2; exact Or.inr ⟨by omega, by omega, by omega, Or.inr rfl⟩
      rw [← ez]
      have rz : rng z 0 99 := by
        rcases z1 with ⟨e, -⟩ | ⟨q1, q2, q3, -⟩
        · rw [e]; exact ry
        · exact ⟨by have := ry.1; omega, by have := rs.2; omega⟩
      refine ⟨upd (S.2.1 4) y z, rfl, ⟨fun t ht => ?_, fun v v1 v2 t ht q => ?_⟩, fun t => ?_, fun _ _ => ?_⟩
      · by_cases e : t = y
        · subst e; rw [pk_us]; exact rz
        · rw [pk_un e]; exact w1 t ht
      · by_cases e : t = y
        · subst e
          rw [pk_us] at q
          rcases z1 with ⟨e, -⟩ | ⟨q1, q2, q3, -⟩
          · rw [e] at q; exact w2 v v1 v2 t ht q
          · have hx2 := w2 v v1 v2 x hx (by omega)
            refine cl_clo (am_sub hn _ _ _) (am_le a _) hx (by omega) hx2 hr ?_
            rw [am_bt hn _ _ _ (by omega), decide_eq_true ht, gy, decide_eq_true (by rw [fa_le, nI_toInt (by omega)]; omega)]; rfl
        · rw [pk_un e] at q; exact w2 v v1 v2 t ht q
      · by_cases e : t = y
        · subst e
          rw [pk_us]
          rcases z1 with ⟨e, -⟩ | ⟨q1, -⟩
          · rw [e]; exact Int.le_refl _
          · exact q1
        · rw [pk_un e]; exact Int.le_refl _
      · rw [pk_us]
        rcases z1 with ⟨-, q⟩ | ⟨-, -, -, q⟩
        · exact q
        · rcases q with q | q
          · left; rw [q]; exact Int.le_refl _
          · right; rw [q]; exact Int.le_refl _
    · simp only [Option.bind_some, Bool.false_eq_true, if_false, show ¬ ((1 : Int32) = 0) by decide, if_true]
      exact ⟨S.2.1 4, by rw [wR_id], hw, fun _ => Int.le_refl _, fun _ q => by cases q⟩
  · simp only [Option.bind_some, if_true]
    exact ⟨S.2.1 4, by rw [wR_id], hw, fun _ => Int.le_refl _, fun q => by cases q⟩
/-- one round over all PATHS -/
theorem c_round (h : CX C B n c) {g : Int32} (hg : S.1 6 = g) {a : Nat} (hs : ∀ t, t < n → rng (S.2.1 1 t) 0 99) (hw : WS B n a (S.2.1 1) g (S.2.1 4)) : ∃ f, (∀ (k58 : Int32 → Int32 → SV → Option (Int32 × SV)) (l2 l3 : Int32), gfX6_surest_67 k58 C FU l2 l3 0 S = k58 l2 (l3 + 1) (wR S 4 f)) ∧ WS B n a (S.2.1 1) g f ∧ (∀ t, (S.2.1 4 t).toInt ≤ (f t).toInt) ∧ ∀ s t, s < n → t < n → isNr B s t → bt g s = false → bt g t = false → (S.2.1 4 s).toInt ≤ (f t).toInt ∨ (S.2.1 1 t).toInt ≤ (f t).toInt := by
  have hn := h.hn
  obtain ⟨P, hP, eP, pp, pr⟩ := h.pth
  obtain ⟨⟨-, k7, -⟩, -, -, c12, -⟩ := h.cr
  rw [eP] at k7
  have key := lpR (fun f (q : Int32 × SV) => fun (k58 : Int32 → Int32 → SV → Option (Int32 × SV)) (l2 l3 : Int32) => gfX6_surest_67 k58 C f l2 l3 q.1 q.2) (fun p q => q.1 = nI p ∧ ∃ f, q.2 = wR S 4 f ∧ WS B n a (S.2.1 1) g f ∧ (∀ t, (S.2.1 4 t).toInt ≤ (f t).toInt) ∧ ∀ p', p' < p → ∀ s t, s < n → t < n → conn B p' s t → bt g s = false → bt g t = false → (S.2.1 4 s).toInt ≤ (f t).toInt ∨ (S.2.1 1 t).toInt ≤ (f t).toInt) (fun b => ∃ f, (b = fun k58 l2 l3 => k58 l2 (l3 + 1) (wR S 4 f)) ∧ WS B n a (S.2.1 1) g f ∧ (∀ t, (S.2.1 4 t).toInt ≤ (f t).toInt) ∧ ∀ s t, s < n → t < n → isNr B s t → bt g s = false → bt g t = false → (S.2.1 4 s).toInt ≤ (f t).toInt ∨ (S.2.1 1 t).toInt ≤ (f t).toInt) P ?_ ?_ (0, S) ⟨rfl, S.2.1 4, by rw [wR_id], hw, fun _ => Int.le_refl _, fun p' hp => by omega⟩ FU (by rw [FUn]; omega)
  · obtain ⟨f, k1, k2⟩ := key
    exact ⟨f, fun k58 l2 l3 => congrFun (congrFun (congrFun k1 k58) l2) l3, k2⟩
  · rintro p hp ⟨l, S1⟩ ⟨e1, f, e2, e3, e4, e5⟩
    replace e1 : l = nI p := e1
    replace e2 : S1 = wR S 4 f := e2
    subst e1 e2
    left
    obtain ⟨x, y, hx, hy, ex, ey⟩ := pp p hp
    have r1 : isNr B x y := (pr x y).mpr ⟨p, hp, Or.inl ⟨ex, ey⟩⟩
    have r2 : isNr B y x := (pr y x).mpr ⟨p, hp, Or.inr ⟨ex, ey⟩⟩
    obtain ⟨f1, w1, w2, w3, w4⟩ := c_widen (S := wR S 4 f) (a := a) h hg hx hy r1 hs (by rw [wR_eq]; exact e3)
    rw [wR_wR] at w1
    rw [wR_eq] at w3 w4
    obtain ⟨f2, v1, v2, v3, v4⟩ := c_widen (S := wR S 4 f1) (a := a) h hg hy hx r2 hs (by rw [wR_eq]; exact w2)
    rw [wR_wR] at v1
    rw [wR_eq] at v3 v4
    refine ⟨(nI (p + 1), wR S 4 f2), fun ff => ?_, rfl, f2, rfl, v2, fun t => Int.le_trans (e4 t) (Int.le_trans (w3 t) (v3 t)), fun p' hp' s t hs' ht' q1 q2 q3 => ?_⟩
    · funext k58 l2 l3
      show gbX6_surest_67 _ _ _ _ _ _ _ = _
      unfold gbX6_surest_67
      rw [k7, if_neg (nI_ge hp (by omega)), rA_nI (by omega) (by omega), rA_nI (by omega) (by omega), (c12 p (by omega)).1, (c12 p (by omega)).2, ex, ey]
      simp only [Option.bind_some]
      rw [w1]
      simp only [Option.bind_some]
      rw [v1]
      simp only [Option.bind_some, nm, ← nI_succ]
    · by_cases e : p' = p
      · subst e
        unfold conn at q1
        rw [ex, ey] at q1
        rcases q1 with ⟨u1, u2⟩ | ⟨u1, u2⟩
        · have a1 := (nI_eq (by omega) (by omega)).mp u1
          have a2 := (nI_eq (by omega) (by omega)).mp u2
          subst a1 a2
          have := w4 q2 q3
          have b1 := e4 x
          have b2 := v3 y
          rcases this with q | q
          · exact Or.inl (by omega)
          · exact Or.inr (Int.le_trans q b2)
        · have a1 := (nI_eq (by omega) (by omega)).mp u1
          have a2 := (nI_eq (by omega) (by omega)).mp u2
          subst a1 a2
          have := v4 q2 q3
          have b1 := e4 y
          have b2 := w3 y
          rcases this with q | q
          · exact Or.inl (by omega)
          · exact Or.inr q
      · have := e5 p' (by omega) s t hs' ht' q1 q2 q3
        have b1 := w3 t
        have b2 := v3 t
        rcases this with q | q
        · exact Or.inl (by omega)
        · exact Or.inr (by omega)
  · rintro ⟨l, S1⟩ ⟨e1, f, e2, e3, e4, e5⟩
    replace e1 : l = nI P := e1
    replace e2 : S1 = wR S 4 f := e2
    subst e1 e2
    refine ⟨fun k58 l2 l3 => k58 l2 (l3 + 1) (wR S 4 f), fun ff => ?_, f, rfl, e3, e4, fun s t hs' ht' q => ?_⟩
    · funext k58 l2 l3
      show gbX6_surest_67 _ _ _ _ _ _ _ = _
      unfold gbX6_surest_67
      rw [k7, if_pos (nI_le (Nat.le_refl _) (by omega))]; rfl
    · obtain ⟨p', hp', q'⟩ := (pr s t).mp q
      exact e5 p' hp' s t hs' ht' q'
theorem c_sure58 (h : CX C B n c) {g : Int32} (hg : S.1 6 = g) {a b : Nat} (hb : b < n) (hs : ∀ t, t < n → rng (S.2.1 1 t) 0 99) (hw : WS B n a (S.2.1 1) g (S.2.1 4)) (hw0 : ∀ v : Nat, 1 ≤ v → v ≤ 99 → ∀ t, t < n → bt (shl 1 (nI a) &&& amP (S.2.1 1) g n v) t = true → (v : Int) ≤ (S.2.1 4 t).toInt) : ∃ w f, w ≤ 99 ∧ gfX6_surest_58 C FU (nI b) 0 S = some (if 0 < w then nI w else -1, wR S 4 f) ∧ ∀ v, 1 ≤ v → v ≤ 99 → (bt (clP B n (amP (S.2.1 1) g n v) (shl 1 (nI a) &&& amP (S.2.1 1) g n v) 8) b = true ↔ v ≤ w) := by
  have hn := h.hn
  have key := lpR (fun f (q : Int32 × SV) => gfX6_surest_58 C f (nI b) q.1 q.2) (fun k q => q.1 = nI k ∧ ∃ f, q.2 = wR S 4 f ∧ WS B n a (S.2.1 1) g f ∧ ∀ v : Nat, 1 ≤ v → v ≤ 99 → ∀ t, t < n → bt (clP B n (amP (S.2.1 1) g n v) (shl 1 (nI a) &&& amP (S.2.1 1) g n v) k) t = true → (v : Int) ≤ (f t).toInt) (fun x => ∃ w f, w ≤ 99 ∧ x = some (if 0 < w then nI w else -1, wR S 4 f) ∧ ∀ v, 1 ≤ v → v ≤ 99 → (bt (clP B n (amP (S.2.1 1) g n v) (shl 1 (nI a) &&& amP (S.2.1 1) g n v) 8) b = true ↔ v ≤ w)) 8 ?_ ?_ (0, S) ⟨rfl, S.2.1 4, by rw [wR_id], hw, hw0⟩ FU (by rw [FUn]; omega)
  · exact key
  · rintro k hk ⟨l, S1⟩ ⟨e1, f, e2, e3, e4⟩
    replace e1 : l = nI k := e1
    replace e2 : S1 = wR S 4 f := e2
    subst e1 e2
    left
    have hs' : ∀ t, t < n → rng ((wR S 4 f).2.1 1 t) 0 99 := hs
    obtain ⟨f0, g1, g2, g3, g4⟩ := c_round (S := wR S 4 f) (a := a) h hg hs' (by rw [wR_eq]; exact e3)
    rw [wR_wR] at g1
    rw [wR_eq] at g3 g4
    refine ⟨(nI (k + 1), wR S 4 f0), fun ff => ?_, rfl, f0, rfl, g2, fun v v1 v2 t ht q => ?_⟩
    · show gbX6_surest_58 _ _ _ _ _ = _
      unfold gbX6_surest_58
      rw [if_neg (show ¬ (8 : Int32) ≤ nI k from nI_ge (b := 8) hk (by omega)), g1, nI_succ]
    · have q' : bt (nxP B n (clP B n (amP (S.2.1 1) g n v) (shl 1 (nI a) &&& amP (S.2.1 1) g n v) k) &&& amP (S.2.1 1) g n v) t = true := q
      rw [b_and] at q'
      simp only [Bool.and_eq_true] at q'
      obtain ⟨q1, q2⟩ := q'
      rw [am_bt hn _ _ _ (by omega)] at q2
      simp only [Bool.and_eq_true, decide_eq_true_eq, Bool.not_eq_true'] at q2
      obtain ⟨-, gt, vt⟩ := q2
      rw [fa_le, nI_toInt (by omega)] at vt
      rcases (nx_step B n _ t (by omega)).mp q1 with q3 | ⟨s, hs2, q3, q4⟩
      · have := e4 v v1 v2 t ht q3
        have := g3 t
        omega
      · have q5 := cl_in (B := B) (n := n) (am_le a (amP (S.2.1 1) g n v)) k s (by omega) q3
        rw [am_bt hn _ _ _ (by omega)] at q5
        simp only [Bool.and_eq_true, decide_eq_true_eq, Bool.not_eq_true'] at q5
        have := e4 v v1 v2 s hs2 q3
        have vt' : (v : Int) ≤ (S.2.1 1 t).toInt := vt
        rcases g4 s t hs2 ht q4 q5.2.1 gt with u | u
        · omega
        · have u' : (S.2.1 1 t).toInt ≤ (f0 t).toInt := u
          omega
  · rintro ⟨l, S1⟩ ⟨e1, f, e2, e3, e4⟩
    replace e1 : l = nI 8 := e1
    replace e2 : S1 = wR S 4 f := e2
    subst e1 e2
    obtain ⟨w, hw9, ew⟩ := vp_in_of (x := f b) (n := 100) (vp_in_iff.mpr ⟨(e3.1 b (by omega)).1, by have := (e3.1 b (by omega)).2; omega⟩) (by decide)
    refine ⟨some (if 0 < w then nI w else -1, wR S 4 f), fun ff => ?_, w, f, by omega, rfl, fun v v1 v2 => ⟨fun q => ?_, fun q => ?_⟩⟩
    · show gbX6_surest_58 _ _ _ _ _ = _
      unfold gbX6_surest_58
      rw [if_pos (show (8 : Int32) ≤ nI 8 by decide), wR_eq, rA_nI (by omega) (by omega), ew]
      simp only [Option.bind_some]
      by_cases q : 0 < w
      · rw [if_pos q, if_neg (nI_nle q (by omega))]
      · rw [if_neg q, if_pos (by rw [show w = 0 by omega]; decide)]
    · have := e4 v v1 v2 b hb q
      rw [ew, nI_toInt (by omega)] at this; omega
    · exact e3.2 v v1 v2 b hb (by rw [ew, nI_toInt (by omega)]; omega)
end SU
