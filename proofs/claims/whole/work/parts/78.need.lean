/-! ===== need ===== -/
theorem fa_first_cong {p q : Nat → Bool} : ∀ {n : Nat}, (∀ k, k < n → p k = q k) → fa_first p n = fa_first q n
  | 0, _ => rfl
  | n + 1, h => by
    unfold fa_first
    rw [fa_first_cong (fun k hk => h k (by omega)), h n (by omega)]
section CG
variable {n : Nat} {A : Nat → Int32} {sol sol' wei wei' : Nat → Int32}
theorem br_cong (hw : ∀ t, t < n → wei t = wei' t) (g : Int32) (t : Nat) : brP n A wei g t = brP n A wei' g t :=
  sumP_cong n (fun k hk => by unfold brF; rw [hw k hk])
theorem wk_cong (hs : ∀ t, t < n → sol t = sol' t) (hw : ∀ t, t < n → wei t = wei' t) (g : Int32) {t : Nat} (ht : t < n) : wkP n A sol wei g t = wkP n A sol' wei' g t := by
  unfold wkP; rw [hs t ht, br_cong hw]
theorem st_cong (hs : ∀ t, t < n → sol t = sol' t) (hw : ∀ t, t < n → wei t = wei' t) (g : Int32) : stP n A sol wei g = stP n A sol' wei' g := by
  have e : fwP n A sol wei g = fwP n A sol' wei' g := fa_first_cong (fun k hk => wk_cong hs hw g hk)
  unfold stP; rw [e]
theorem fl_cong (hs : ∀ t, t < n → sol t = sol' t) (hw : ∀ t, t < n → wei t = wei' t) (g : Int32) : flP n A sol wei g = flP n A sol' wei' g := by
  have : ∀ k, itP (stP n A sol wei) g k = itP (stP n A sol' wei') g k := fun k => by
    induction k with
    | zero => show g = g; rfl
    | succ k ih => show stP n A sol wei (itP (stP n A sol wei) g k) = stP n A sol' wei' (itP (stP n A sol' wei') g k); rw [ih, st_cong hs hw]
  unfold flP
  exact this 8
/-- more SOLID for one THING that stays -/
theorem st_more (hn : n ≤ 8) {t : Nat} (ht : t < n) (hs : ∀ u, u < n → u ≠ t → sol u = sol' u) (hm : (sol t).toInt ≤ (sol' t).toInt) {g : Int32} (h : bt (stP n A sol wei g) t = false) : stP n A sol' wei g = stP n A sol wei g := by
  have hg : bt g t = false := by
    cases hb : bt g t
    · rfl
    · rw [st_bt hn hb] at h; cases h
  have wu : ∀ u, u < n → u ≠ t → wkP n A sol' wei g u = wkP n A sol wei g u := fun u hu hut => by unfold wkP; rw [hs u hu hut]
  have wt : wkP n A sol wei g t = false → wkP n A sol' wei g t = false := by
    unfold wkP
    rw [hg]
    simp only [Bool.not_false, Bool.true_and, Bool.or_eq_false_iff, decide_eq_false_iff_not]
    rintro ⟨q1, q2⟩
    rw [fa_le, t0] at q1
    rw [fa_lt] at q2
    exact ⟨by rw [fa_le, t0]; omega, by rw [fa_lt]; omega⟩
  have hle : fwP n A sol wei g ≤ n := fa_first_le _ _
  have hfw : fwP n A sol wei g = fa_first (wkP n A sol wei g) n := rfl
  have key : fwP n A sol' wei g = fwP n A sol wei g := by
    by_cases c : fwP n A sol wei g < n
    · have hy : wkP n A sol wei g (fwP n A sol wei g) = true := fa_first_yes _ _ c
      have hne : fwP n A sol wei g ≠ t := fun e => by
        unfold stP at h
        rw [if_pos c, b_or, b_or, b_1shl (by omega) (by omega), e] at h
        simp at h
      refine fa_first_eq (fun u hu => ?_) (by rw [wu _ c hne]; exact hy) c
      have hno : wkP n A sol wei g u = false := fa_first_no (wkP n A sol wei g) n u (by omega)
      by_cases e : u = t
      · rw [e] at hno ⊢; exact wt hno
      · rw [wu u (by omega) e]; exact hno
    · have e1 : fwP n A sol wei g = n := by omega
      have e2 : ¬ fwP n A sol' wei g < n := fa_first_none (fun u hu => by
        have hno : wkP n A sol wei g u = false := fa_first_no (wkP n A sol wei g) n u (by omega)
        by_cases e : u = t
        · rw [e] at hno ⊢; exact wt hno
        · rw [wu u hu e]; exact hno)
      have : fwP n A sol' wei g ≤ n := fa_first_le _ _
      omega
  unfold stP
  rw [key]
theorem fl_more (hn : n ≤ 8) {t : Nat} (ht : t < n) (hs : ∀ u, u < n → u ≠ t → sol u = sol' u) (hm : (sol t).toInt ≤ (sol' t).toInt) {g : Int32} (h : bt (flP n A sol wei g) t = false) : flP n A sol' wei g = flP n A sol wei g := by
  have mono : ∀ d k, bt (itP (stP n A sol wei) g k) t = true → bt (itP (stP n A sol wei) g (k + d)) t = true := fun d => by
    induction d with
    | zero => intro k hk; exact hk
    | succ d ih => intro k hk; exact st_bt hn (ih k hk)
  have no : ∀ k, k ≤ 8 → bt (itP (stP n A sol wei) g k) t = false := fun k hk => by
    cases hb : bt (itP (stP n A sol wei) g k) t
    · rfl
    · have := mono (8 - k) k hb
      rw [show k + (8 - k) = 8 by omega] at this
      unfold flP at h
      rw [h] at this; cases this
  have all : ∀ k, k ≤ 8 → itP (stP n A sol' wei) g k = itP (stP n A sol wei) g k := fun k => by
    induction k with
    | zero => intro _; show g = g; rfl
    | succ k ih =>
      intro hk
      show stP n A sol' wei (itP (stP n A sol' wei) g k) = stP n A sol wei (itP (stP n A sol wei) g k)
      rw [ih (by omega)]
      exact st_more hn ht hs hm (no (k + 1) hk)
  unfold flP
  exact all 8 (by omega)
end CG
/-- hours, nobody looking -/
def rnP (n : Nat) (A th wei sol : Nat → Int32) (g : Int32) : Nat → (Nat → Int32) × Int32
  | 0 => (sol, g)
  | k + 1 => (thP (rnP n A th wei sol g k).1 th (rnP n A th wei sol g k).2 n, flP n A (thP (rnP n A th wei sol g k).1 th (rnP n A th wei sol g k).2 n) wei (rnP n A th wei sol g k).2)
theorem rn_up {n : Nat} {A th wei sol : Nat → Int32} {g : Int32} (hn : n ≤ 8) {t k : Nat} (h : bt (rnP n A th wei sol g k).2 t = true) : ∀ d, bt (rnP n A th wei sol g (k + d)).2 t = true
  | 0 => h
  | d + 1 => by
    show bt (flP n A _ wei (rnP n A th wei sol g (k + d)).2) t = true
    exact fl_ind (fun g => bt g t = true) (fun g hg => st_bt hn hg) (rn_up hn h d)
theorem rn_more {n : Nat} {A th wei sol sol' : Nat → Int32} {g : Int32} (hn : n ≤ 8) {t : Nat} (ht : t < n) (hth : rng (th t) 0 9) (hs : ∀ u, u < n → u ≠ t → sol u = sol' u) (hm : (sol t).toInt ≤ (sol' t).toInt) (h0 : rng (sol t) 0 99) (h0' : rng (sol' t) 0 99) : ∀ k, bt (rnP n A th wei sol g k).2 t = false → (rnP n A th wei sol' g k).2 = (rnP n A th wei sol g k).2 ∧ (∀ u, u < n → u ≠ t → (rnP n A th wei sol g k).1 u = (rnP n A th wei sol' g k).1 u) ∧ ((rnP n A th wei sol g k).1 t).toInt ≤ ((rnP n A th wei sol' g k).1 t).toInt ∧ rng ((rnP n A th wei sol g k).1 t) 0 99 ∧ rng ((rnP n A th wei sol' g k).1 t) 0 99
  | 0, _ => ⟨rfl, hs, hm, h0, h0'⟩
  | k + 1, hb => by
    have hbk : bt (rnP n A th wei sol g k).2 t = false := by
      cases q : bt (rnP n A th wei sol g k).2 t
      · rfl
      · have := rn_up hn q 1; rw [this] at hb; cases hb
    obtain ⟨e1, e2, e3, e4, e5⟩ := rn_more hn ht hth hs hm h0 h0' k hbk
    have thr : ∀ s : Nat → Int32, rng (s t) 0 99 → (thP s th (rnP n A th wei sol g k).2 n t).toInt = (if 0 ≤ (s t).toInt - (th t).toInt then (s t).toInt - (th t).toInt else 0) := by
      intro s hr
      obtain ⟨a1, a2⟩ := hr
      obtain ⟨c1, c2⟩ := hth
      unfold thP
      rw [hbk]
      simp only [ht, decide_true, Bool.not_false, Bool.and_self, if_true]
      rw [imax_g]
      have es : (s t - th t).toInt = (s t).toInt - (th t).toInt := fb_subI (by omega) (by omega)
      by_cases q : (s t - th t) ≤ 0
      · rw [gre_l q, t0]
        rw [fa_le, t0, es] at q
        split <;> omega
      · rw [gre_r q, es]
        rw [fa_le, t0, es] at q
        split <;> omega
    have a1 : ∀ u, u < n → u ≠ t → thP (rnP n A th wei sol g k).1 th (rnP n A th wei sol g k).2 n u = thP (rnP n A th wei sol' g k).1 th (rnP n A th wei sol g k).2 n u := fun u hu hut => by unfold thP; rw [e2 u hu hut]
    have f1 := thr _ e4
    have f2 := thr _ e5
    obtain ⟨c1, c2⟩ := hth
    obtain ⟨p1, p2⟩ := e4
    obtain ⟨p3, p4⟩ := e5
    have a2 : (thP (rnP n A th wei sol g k).1 th (rnP n A th wei sol g k).2 n t).toInt ≤ (thP (rnP n A th wei sol' g k).1 th (rnP n A th wei sol g k).2 n t).toInt := by
      rw [f1, f2]; split <;> split <;> omega
    have b1 : flP n A (thP (rnP n A th wei sol' g k).1 th (rnP n A th wei sol g k).2 n) wei (rnP n A th wei sol g k).2 = flP n A (thP (rnP n A th wei sol g k).1 th (rnP n A th wei sol g k).2 n) wei (rnP n A th wei sol g k).2 := fl_more hn ht a1 a2 hb
    refine ⟨?_, ?_, ?_, ?_, ?_⟩
    · show flP n A (thP (rnP n A th wei sol' g k).1 th (rnP n A th wei sol' g k).2 n) wei (rnP n A th wei sol' g k).2 = _
      rw [e1]; exact b1
    · show ∀ u, u < n → u ≠ t → thP (rnP n A th wei sol g k).1 th (rnP n A th wei sol g k).2 n u = thP (rnP n A th wei sol' g k).1 th (rnP n A th wei sol' g k).2 n u
      rw [e1]; exact a1
    · show (thP (rnP n A th wei sol g k).1 th (rnP n A th wei sol g k).2 n t).toInt ≤ (thP (rnP n A th wei sol' g k).1 th (rnP n A th wei sol' g k).2 n t).toInt
      rw [e1]; exact a2
    · show rng (thP (rnP n A th wei sol g k).1 th (rnP n A th wei sol g k).2 n t) 0 99
      unfold rng; rw [f1]; split <;> omega
    · show rng (thP (rnP n A th wei sol' g k).1 th (rnP n A th wei sol' g k).2 n t) 0 99
      rw [e1]; unfold rng; rw [f2]; split <;> omega
/-- is a THING there behind h hours, told with SOLID v -/
def stayP (n : Nat) (C : SV) (t h v : Nat) : Bool := !bt (rnP n (C.2.1 5) (C.2.1 3) (C.2.1 2) (upd (C.2.1 1) t (nI v)) (flP n (C.2.1 5) (upd (C.2.1 1) t (nI v)) (C.2.1 2) 0) h).2 t
section ND
variable {C : SV} {B : Nat → Int32} {i n c : Nat} {M S : SV}
theorem stay_mono (h : CX C B n c) {t : Nat} (ht : t < n) (hh : Nat) {v v' : Nat} (hv : v ≤ v') (hv' : v' ≤ 99) (hs : stayP n C t hh v = true) : stayP n C t hh v' = true := by
  have hn := h.hn
  obtain ⟨-, cr, -⟩ := h.cr
  obtain ⟨-, vb, -⟩ := h.vb
  unfold stayP at hs ⊢
  have hb : bt (rnP n (C.2.1 5) (C.2.1 3) (C.2.1 2) (upd (C.2.1 1) t (nI v)) (flP n (C.2.1 5) (upd (C.2.1 1) t (nI v)) (C.2.1 2) 0) hh).2 t = false := by
    cases q : bt (rnP n (C.2.1 5) (C.2.1 3) (C.2.1 2) (upd (C.2.1 1) t (nI v)) (flP n (C.2.1 5) (upd (C.2.1 1) t (nI v)) (C.2.1 2) 0) hh).2 t
    · rfl
    · rw [q] at hs; cases hs
  have hs0 : ∀ u, u < n → u ≠ t → upd (C.2.1 1) t (nI v) u = upd (C.2.1 1) t (nI v') u := fun u _ hut => by rw [pk_un hut, pk_un hut]
  have hm : (upd (C.2.1 1) t (nI v) t).toInt ≤ (upd (C.2.1 1) t (nI v') t).toInt := by rw [pk_us, pk_us, nI_toInt (by omega), nI_toInt (by omega)]; omega
  have r1 : rng (upd (C.2.1 1) t (nI v) t) 0 99 := by rw [pk_us]; exact nI_rng (m := 99) (by omega) (by omega)
  have r2 : rng (upd (C.2.1 1) t (nI v') t) 0 99 := by rw [pk_us]; exact nI_rng (m := 99) (by omega) (by omega)
  have hth : rng (C.2.1 3 t) 0 9 := by rw [(cr t (by omega)).2.2.1]; exact (vb t (by omega)).2.2.1
  have hb0 : bt (flP n (C.2.1 5) (upd (C.2.1 1) t (nI v)) (C.2.1 2) 0) t = false := by
    cases q : bt (flP n (C.2.1 5) (upd (C.2.1 1) t (nI v)) (C.2.1 2) 0) t
    · rfl
    · have := rn_up (n := n) (A := C.2.1 5) (th := C.2.1 3) (wei := C.2.1 2) (sol := upd (C.2.1 1) t (nI v)) (g := flP n (C.2.1 5) (upd (C.2.1 1) t (nI v)) (C.2.1 2) 0) hn (t := t) (k := 0) q hh
      rw [Nat.zero_add, hb] at this; cases this
  have e0 := fl_more (A := C.2.1 5) (wei := C.2.1 2) (g := 0) hn ht hs0 hm hb0
  rw [e0]
  obtain ⟨e1, -⟩ := rn_more (A := C.2.1 5) (wei := C.2.1 2) (g := flP n (C.2.1 5) (upd (C.2.1 1) t (nI v)) (C.2.1 2) 0) hn ht hth hs0 hm r1 r2 hh hb
  rw [e1, hb]; rfl
theorem stay_0 (h : CX C B n c) {t : Nat} (ht : t < n) (hh : Nat) : stayP n C t hh 0 = false := by
  have hn := h.hn
  unfold stayP
  have h1 : bt (flP n (C.2.1 5) (upd (C.2.1 1) t (nI 0)) (C.2.1 2) 0) t = true := by
    have := fl_fix (A := C.2.1 5) (sol := upd (C.2.1 1) t (nI 0)) (wei := C.2.1 2) hn 0
    cases q : bt (flP n (C.2.1 5) (upd (C.2.1 1) t (nI 0)) (C.2.1 2) 0) t
    · exfalso
      refine this (Nat.lt_of_le_of_lt ?_ ht)
      refine Classical.byContradiction (fun hgt => ?_)
      have hno := fa_first_no (wkP n (C.2.1 5) (upd (C.2.1 1) t (nI 0)) (C.2.1 2) (flP n (C.2.1 5) (upd (C.2.1 1) t (nI 0)) (C.2.1 2) 0)) n t (by unfold fwP at hgt; omega)
      unfold wkP at hno
      rw [q, pk_us] at hno
      simp [show nI 0 ≤ 0 by decide] at hno
    · rfl
  have := rn_up (n := n) (A := C.2.1 5) (th := C.2.1 3) (wei := C.2.1 2) (sol := upd (C.2.1 1) t (nI 0)) (g := flP n (C.2.1 5) (upd (C.2.1 1) t (nI 0)) (C.2.1 2) 0) hn (t := t) (k := 0) h1 hh
  rw [Nat.zero_add] at this
  rw [this]; rfl
/-- a Scene k hours on -/
def RS (n : Nat) (C : SV) (t v k : Nat) (S : SV) : Prop := (∀ u, u < n → S.2.1 1 u = (rnP n (C.2.1 5) (C.2.1 3) (C.2.1 2) (upd (C.2.1 1) t (nI v)) (flP n (C.2.1 5) (upd (C.2.1 1) t (nI v)) (C.2.1 2) 0) k).1 u) ∧ (∀ u, u < n → S.2.1 2 u = C.2.1 2 u) ∧ S.1 6 = (rnP n (C.2.1 5) (C.2.1 3) (C.2.1 2) (upd (C.2.1 1) t (nI v)) (flP n (C.2.1 5) (upd (C.2.1 1) t (nI v)) (C.2.1 2) 0) k).2 ∧ S.1 11 = 0 ∧ S.1 5 = nI k
theorem RS.next {t v k : Nat} {S S' : SV} (h : RS n C t v k S) (hp : HP C S S' n) : RS n C t v (k + 1) S' := by
  obtain ⟨r1, r2, r3, r4, r5⟩ := h
  obtain ⟨p1, p2, p3, p4, p5, p6, p7, p8⟩ := hp
  have eg : S.1 6 ||| S.1 11 = S.1 6 := by rw [r4, or0]
  rw [eg] at p1 p4
  have e1 : ∀ u, u < n → thP (S.2.1 1) (C.2.1 3) (S.1 6) n u = thP (rnP n (C.2.1 5) (C.2.1 3) (C.2.1 2) (upd (C.2.1 1) t (nI v)) (flP n (C.2.1 5) (upd (C.2.1 1) t (nI v)) (C.2.1 2) 0) k).1 (C.2.1 3) (rnP n (C.2.1 5) (C.2.1 3) (C.2.1 2) (upd (C.2.1 1) t (nI v)) (flP n (C.2.1 5) (upd (C.2.1 1) t (nI v)) (C.2.1 2) 0) k).2 n u := fun u hu => by unfold thP; rw [r1 u hu, r3]
  refine ⟨fun u hu => ?_, fun u hu => by rw [p2]; exact r2 u hu, ?_, p8, by rw [p5, r5, nI_succ]⟩
  · rw [p1]; exact e1 u hu
  · rw [p4, fl_cong e1 r2, r3]; rfl
theorem stay_start (h : CX C B n c) (hM : MX B i n c (C.2.1 5) M) {t v : Nat} (ht : t < n) (hv : v ≤ 99) (S : SV) : ∃ S2 S3 M2 M3, gX6_load C S = some S2 ∧ wA 1 8 S2 (nI t) (nI v) = some (wR S2 1 (upd (S2.2.1 1) t (nI v))) ∧ gX6_fall C (wR S2 1 (upd (S2.2.1 1) t (nI v))) = some S3 ∧ gX10_begin M = some M2 ∧ wA 28 8 M2 (nI t) (nI v) = some (wR M2 28 (upd (M2.2.1 28) t (nI v))) ∧ gX10_falls (wR M2 28 (upd (M2.2.1 28) t (nI v))) = some M3 ∧ SR n (C.2.1 5) S3 M3 ∧ FrS M M3 ∧ RS n C t v 0 S3 := by
  have hn := h.hn
  obtain ⟨S2, M2, l1, b1, l2, b2_, r⟩ := load_both h hM S
  obtain ⟨l3, l4, l5, l6, l7, l8, l9, l10, l11, l12, l13, l14⟩ := l2
  have r' := r.u1 (k := t) (x := nI v) (by rw [l6, b_0]) (nI_rng (m := 99) hv (by omega))
  obtain ⟨M3, f1, f2, f3, f4⟩ := fall_both h r'
  refine ⟨S2, _, M2, M3, l1, wA_nI (by omega) (by omega), f1, b1, wA_nI (by omega) (by omega), f2, f4, (b2_.w28 _).tr f3, ?_⟩
  have e1 : ∀ u, u < n → upd (S2.2.1 1) t (nI v) u = upd (C.2.1 1) t (nI v) u := fun u hu => by
    by_cases q : u = t
    · rw [q, pk_us, pk_us]
    · rw [pk_un q, pk_un q, (l3 u (by omega)).1]
  have e2 : ∀ u, u < n → S2.2.1 2 u = C.2.1 2 u := fun u hu => (l3 u (by omega)).2
  refine ⟨fun u hu => ?_, fun u hu => ?_, ?_, ?_, ?_⟩
  · show (wR S2 1 (upd (S2.2.1 1) t (nI v))).2.1 1 u = _
    rw [wR_eq]; exact e1 u hu
  · show (wR S2 1 (upd (S2.2.1 1) t (nI v))).2.1 2 u = _
    rw [wR_ne (by decide)]; exact e2 u hu
  · rw [wI_eq, wR_eq, wR_ne (by decide), show (wR S2 1 (upd (S2.2.1 1) t (nI v))).1 6 = S2.1 6 from rfl, l6, fl_cong e1 e2]
    rfl
  · rw [wI_ne (by decide)]; exact l11
  · rw [wI_ne (by decide)]; exact l5
theorem c_stays (h : CX C B n c) (hM : MX B i n c (C.2.1 5) M) {t v hh : Nat} (ht : t < n) (hv : v ≤ 99) (hhh : hh ≤ 99) (S : SV) : ∃ S', gX6_staysWith C (nI t) (nI v) (nI hh) S = some (if stayP n C t hh v then 1 else 0, S') := by
  have hn := h.hn
  obtain ⟨S2, S3, M2, M3, a1, a2, a3, a4, a5, a6, a7, a8, a9⟩ := stay_start h hM ht hv S
  unfold gX6_staysWith
  rw [a1]
  simp only [Option.bind_some]
  rcases c_thing h (nI t) with ⟨k, hk, -, e⟩ | ⟨q, -⟩
  · rw [e]
    simp only [Option.bind_some, show ¬ ((1 : Int32) = 0) by decide, if_false]
    rw [a2]
    simp only [Option.bind_some]
    rw [a3]
    simp only [Option.bind_some]
    have isT : ∀ (S : SV), gX6_isThere C (nI t) S = some (if bt (S.1 6) t then 0 else 1) := by
      intro S
      unfold gX6_isThere
      rw [e]
      simp only [Option.bind_some, show ¬ ((1 : Int32) = 0) by decide, if_false]
      cases q : bt (S.1 6) t
      · rw [if_pos ((c_has0 _ (by omega)).mpr q)]; rfl
      · rw [if_neg (fun e => by rw [(c_has0 _ (by omega)).mp e] at q; cases q)]; rfl
    have e58 : ∀ S, gbX6_staysWith_58 C (nI t) S = some (if bt (S.1 6) t then 0 else 1, S) := by
      intro S
      unfold gbX6_staysWith_58
      rw [isT]
      simp only [Option.bind_some]
      cases bt (S.1 6) t <;> simp
    have key := lpR (fun f (q : Int32 × SV) => gfX6_staysWith_32 C f (nI t) (nI hh) q.1 q.2) (fun j q => q.1 = nI j ∧ RS n C t v j q.2) (fun b => ∃ S', b = some (if stayP n C t hh v then 1 else 0, S')) hh ?_ ?_ (0, S3) ⟨rfl, a9⟩ FU (by rw [FUn]; omega)
    · exact key
    · rintro j hj ⟨l, S1⟩ ⟨e1, e2⟩
      replace e1 : l = nI j := e1
      replace e2 : RS n C t v j S1 := e2
      subst e1
      cases q : bt (S1.1 6) t
      · left
        obtain ⟨S', p1, p2, p3, -⟩ := c_hour hn h.c0 S1
        refine ⟨(nI (j + 1), S'), fun f => ?_, rfl, e2.next p2⟩
        show gbX6_staysWith_32 _ _ _ _ _ _ = _
        unfold gbX6_staysWith_32
        rw [if_neg (nI_ge hj (by omega)), isT, q]
        simp only [Option.bind_some, Bool.false_eq_true, if_false, show ¬ ((1 : Int32) = 0) by decide]
        rw [p1]
        simp only [b2, nm, ← nI_succ]
      · right
        refine ⟨some (0, S1), fun f => ?_, S1, ?_⟩
        · show gbX6_staysWith_32 _ _ _ _ _ _ = _
          unfold gbX6_staysWith_32
          rw [if_neg (nI_ge hj (by omega)), isT, q]
          simp only [Option.bind_some, if_true]
          rw [e58, q]; rfl
        · have hq : stayP n C t hh v = false := by
            unfold stayP
            rw [e2.2.2.1] at q
            have := rn_up hn q (hh - j)
            rw [show j + (hh - j) = hh by omega] at this
            rw [this]; rfl
          rw [hq]; rfl
    · rintro ⟨l, S1⟩ ⟨e1, e2⟩
      replace e1 : l = nI hh := e1
      replace e2 : RS n C t v hh S1 := e2
      subst e1
      refine ⟨some (if bt (S1.1 6) t then 0 else 1, S1), fun f => ?_, S1, ?_⟩
      · show gbX6_staysWith_32 _ _ _ _ _ _ = _
        unfold gbX6_staysWith_32
        rw [if_pos (nI_le (Nat.le_refl _) (by omega)), e58]
      · unfold stayP
        rw [e2.2.2.1]
        cases bt (rnP n (C.2.1 5) (C.2.1 3) (C.2.1 2) (upd (C.2.1 1) t (nI v)) (flP n (C.2.1 5) (upd (C.2.1 1) t (nI v)) (C.2.1 2) 0) hh).2 t <;> rfl
  · exact (out_in ht hn q).elim
theorem m_stays (h : CX C B n c) (hM : MX B i n c (C.2.1 5) M) {t v hh : Nat} (ht : t < n) (hv : v ≤ 99) (hhh : hh ≤ 99) : ∃ M', FrS M M' ∧ ∀ k36, gbX10_need_36 k36 (nI t) (nI hh) (nI v) M = if stayP n C t hh v then some (nI v, M') else k36 (nI t) (nI hh) (nI (v + 1)) M' := by
  have hn := h.hn
  obtain ⟨S2, S3, M2, M3, a1, a2, a3, a4, a5, a6, a7, a8, a9⟩ := stay_start h hM ht hv (fun _ => 0, fun _ _ => 0, 0)
  have key := lpR (fun f (q : SV) => fun k36 : Int32 → Int32 → Int32 → SV → Option (Int32 × SV) => gfX10_need_59 k36 f (nI t) (nI hh) (nI v) q) (fun j q => FrS M q ∧ ∃ S, SR n (C.2.1 5) S q ∧ RS n C t v j S) (fun b => ∃ M', FrS M M' ∧ ∀ k36, b k36 = if stayP n C t hh v then some (nI v, M') else k36 (nI t) (nI hh) (nI (v + 1)) M') hh ?_ ?_ M3 ⟨a8, S3, a7, a9⟩ FU (by rw [FUn]; omega)
  · obtain ⟨M', q1, q2⟩ := key
    refine ⟨M', q1, fun k36 => ?_⟩
    unfold gbX10_need_36
    rw [if_neg (show ¬ (99 : Int32) < nI v from fun q => by have := (nI_ltI (a := 99) (by omega) (by omega)).mp q; omega), a4]
    simp only [Option.bind_some]
    rw [a5]
    simp only [Option.bind_some]
    rw [a6]
    exact q2 k36
  · rintro j hj M1 ⟨e1, S1, e2, e3⟩
    left
    obtain ⟨S', M', p1, p2, p3, p4, p5, p6⟩ := hour_both h (hM.to e1) e2
    refine ⟨M', fun f => ?_, e1.tr p4, S', p3, e3.next p6⟩
    funext k36
    show gbX10_need_59 _ _ _ _ _ _ = _
    unfold gbX10_need_59
    rw [e2.e5, e3.2.2.2.2, if_neg (nI_ge hj (by omega)), p2]; rfl
  · rintro M1 ⟨e1, S1, e2, e3⟩
    refine ⟨fun k36 => if stayP n C t hh v then some (nI v, M1) else k36 (nI t) (nI hh) (nI (v + 1)) M1, fun f => ?_, M1, e1, fun k36 => rfl⟩
    funext k36
    show gbX10_need_59 _ _ _ _ _ _ = _
    unfold gbX10_need_59
    rw [e2.e5, e3.2.2.2.2, if_pos (nI_le (Nat.le_refl _) (by omega)), e2.e6, e3.2.2.1]
    unfold stayP
    simp only [nm, ← nI_succ]
    cases q : bt (rnP n (C.2.1 5) (C.2.1 3) (C.2.1 2) (upd (C.2.1 1) t (nI v)) (flP n (C.2.1 5) (upd (C.2.1 1) t (nI v)) (C.2.1 2) 0) hh).2 t
    · rw [if_pos ((m_has0 _ (by omega)).mpr q)]; rfl
    · rw [if_neg (fun e => by rw [(m_has0 _ (by omega)).mp e] at q; cases q)]; rfl
end ND
theorem qu_need (Wc : WC) : Qu_need Wc := by
  intro z M ρM hI a1 a2 a3
  have hsk := hI.2.2.2.1
  obtain ⟨ρ, S, hS⟩ := hsk.2.2.2.1
  unfold fX9_need gX10_need
  rw [if_pos (x9_o hsk), x9_g (k := 0) (x := 16) hsk rfl]
  simp only [Option.bind_some, nm]
  have t99 : (99 : Int32).toInt = 99 := rfl
  rcases land_cases hI a1 with ⟨i, a, ρc, C, n, c, hi, rfl, h1, ha, hC, hx, hb⟩ | ⟨h1, hb⟩
  · obtain ⟨S', M', b1, b2_, b3, b4, b5, b6⟩ := hb (wI M 0 0) rfl rfl S
    have hz := z_z hI
    have hn := hx.hn
    rw [h1, b2_]
    simp only [Option.bind_some, nq, b2, show ¬ ((1 : Int32) = 0) by decide, if_false, eX0_hasThing hC]
    by_cases c1 : fX10_in a3 0 99 = 0
    · rw [if_pos c1]
      have c2 : ¬ (0 ≤ a3.toInt ∧ a3.toInt ≤ 99) := fun q => absurd c1 (m_in0 (by rw [t0, t99]; exact q))
      rcases thing_both hx b3 a2 with ⟨t, ht, rfl, e1, e2⟩ | ⟨-, e1, e2⟩
      · rw [e1]
        simp only [Option.bind_some, show ¬ ((1 : Int32) = 0) by decide, if_false]
        by_cases c3 : a3 < 0
        · rw [if_pos c3]; exact ⟨_, _, _, rfl, hI, rfl⟩
        · have c4 : ¬ a3 ≤ 99 := fun q => c2 (by rw [fa_le, t99] at q; rw [fa_lt, t0] at c3; omega)
          rw [if_neg c3, if_neg c4]; exact ⟨_, _, _, rfl, hI, rfl⟩
      · rw [e1]
        simp only [Option.bind_some, if_true]
        exact ⟨_, _, _, rfl, hI, rfl⟩
    rw [if_neg c1]
    rcases thing_both hx b3 a2 with ⟨t, ht, rfl, e1, e2⟩ | ⟨-, e1, e2⟩
    · rw [e1, e2]
      simp only [Option.bind_some, show ¬ ((1 : Int32) = 0) by decide, if_false]
      obtain ⟨hh, hhh, rfl⟩ := in_nI (n := 99) t99 c1
      rw [if_neg (nI_pos (by omega)), if_pos (show nI hh ≤ 99 from nI_le (b := 99) hhh (by omega))]
      -- the least
      have hfl := fa_first_le (stayP n C t hh) 100
      have hv0 : 1 ≤ fa_first (stayP n C t hh) 100 := by
        refine Classical.byContradiction (fun q => ?_)
        have e0 : fa_first (stayP n C t hh) 100 = 0 := by omega
        have := fa_first_yes (stayP n C t hh) 100 (by omega)
        rw [e0, stay_0 hx ht hh] at this; cases this
      have dec : ∀ v, v ≤ 99 → stayP n C t hh v = decide (fa_first (stayP n C t hh) 100 ≤ v) := by
        intro v hv
        by_cases q : fa_first (stayP n C t hh) 100 ≤ v
        · rw [decide_eq_true q]
          exact stay_mono hx ht hh q hv (fa_first_yes _ _ (by omega))
        · rw [decide_eq_false q]
          exact fa_first_no (stayP n C t hh) 100 v (by omega)
      generalize fa_first (stayP n C t hh) 100 = w at hfl hv0 dec
      -- the class
      have kc := lpR (fun f (q : Int32 × Int32 × Int32 × AH) => fX9_need_46 f 0 (nI t) (nI hh) a q.1 q.2.1 q.2.2.1 q.2.2.2) (fun j q => ∃ lo hi ρ1 S1, q.1 = nI lo ∧ q.2.1 = nI hi ∧ q.2.2.1 = nI j ∧ q.2.2.2 = wr 5 44 ρ1 S1 z ∧ lo ≤ w ∧ w ≤ hi ∧ hi ≤ 100 ∧ (hi - lo) * 2 ^ j ≤ 127) (fun b => ∃ ρ1 S1, b = some (if w ≤ 99 then nI w else -1, wr 5 44 ρ1 S1 z)) 8 ?_ ?_ (1, 100, 0, z) ⟨1, 100, ρ, S, rfl, rfl, rfl, (wr_id hS).symm, hv0, hfl, by omega, by omega⟩ FU (by rw [FUn]; omega)
      · have km := lpR (fun f (q : Int32 × SV) => gfX10_need_36 f (nI t) (nI hh) q.1 q.2) (fun v q => q.1 = nI v ∧ FrS M' q.2 ∧ v ≤ w) (fun b => ∃ M2, b = some (if w ≤ 99 then nI w else -1, M2)) 100 ?_ ?_ (0, M') ⟨rfl, FrS.rf, by omega⟩ FU (by rw [FUn]; omega)
        · obtain ⟨ρ1, S1, k1⟩ := kc
          obtain ⟨M2, k2⟩ := km
          replace k1 : fX9_need_46 FU 0 (nI t) (nI hh) a 1 100 0 z = some (if w ≤ 99 then nI w else -1, wr 5 44 ρ1 S1 z) := k1
          replace k2 : gfX10_need_36 FU (nI t) (nI hh) 0 M' = some (if w ≤ 99 then nI w else -1, M2) := k2
          rw [k1, k2]
          exact ⟨_, _, _, rfl, hI.scratch scr5 (by decide) _ _, rfl⟩
        · rintro v hv ⟨l, M1⟩ ⟨e3, e4, e5⟩
          replace e3 : l = nI v := e3
          replace e4 : FrS M' M1 := e4
          replace e5 : v ≤ w := e5
          subst e3
          obtain ⟨M2, q1, q2⟩ := m_stays hx (b3.to e4) ht (show v ≤ 99 by omega) hhh
          rw [dec v (by omega)] at q2
          by_cases q : w ≤ v
          · right
            have : w = v := by omega
            subst this
            refine ⟨some (nI w, M2), fun f => ?_, M2, by rw [if_pos (by omega)]⟩
            show gbX10_need_36 _ _ _ _ _ = _
            rw [q2]; simp
          · left
            refine ⟨(nI (v + 1), M2), fun f => ?_, rfl, e4.tr q1, by omega⟩
            show gbX10_need_36 (gfX10_need_36 f) (nI t) (nI hh) (nI v) M1 = gfX10_need_36 f (nI t) (nI hh) (nI (v + 1)) M2
            rw [q2]; simp [q]
        · rintro ⟨l, M1⟩ ⟨e3, e4, e5⟩
          replace e3 : l = nI 100 := e3
          replace e5 : 100 ≤ w := e5
          subst e3
          refine ⟨some (-1, M1), fun f => ?_, M1, by rw [if_neg (by omega)]⟩
          show gbX10_need_36 _ _ _ _ _ = _
          unfold gbX10_need_36
          rw [if_pos (show (99 : Int32) < nI 100 by decide)]
      · rintro j hj ⟨l5, l6, l7, zz⟩ ⟨lo, hi, ρ1, S1, e3, e4, e5, e6, e7, e8, e9, e10⟩
        replace e3 : l5 = nI lo := e3
        replace e4 : l6 = nI hi := e4
        replace e5 : l7 = nI j := e5
        replace e6 : zz = wr 5 44 ρ1 S1 z := e6
        subst e3 e4 e5 e6
        by_cases q : lo < hi
        · left
          obtain ⟨S2, s1⟩ := c_stays hx b3 (v := (lo + hi) / 2) (hh := hh) ht (by omega) hhh S1
          have hm : (nI lo + nI hi) / 2 = nI ((lo + hi) / 2) := by
            rw [nI_add, show (2 : Int32) = nI 2 from rfl, pk_div (by omega) (by omega) (by omega)]
          rw [dec _ (by omega)] at s1
          have step : ∀ f, fX9_need_46 (f + 1) 0 (nI t) (nI hh) a (nI lo) (nI hi) (nI j) (wr 5 44 ρ1 S1 z) = (if w ≤ (lo + hi) / 2 then fX9_need_46 f 0 (nI t) (nI hh) a (nI lo) (nI ((lo + hi) / 2)) (nI (j + 1)) (wr 5 44 (va_up ρ1.1 0 (some a), ρ1.2) S2 z) else fX9_need_46 f 0 (nI t) (nI hh) a (nI ((lo + hi) / 2 + 1)) (nI hi) (nI (j + 1)) (wr 5 44 (va_up ρ1.1 0 (some a), ρ1.2) S2 z)) := by
            intro f
            show bX9_need_46 _ _ _ _ _ _ _ _ _ = _
            unfold bX9_need_46
            rw [if_neg (show ¬ (8 : Int32) ≤ nI j from nI_ge (b := 8) hj (by omega)), if_neg (nI_ge q (by omega)), hm]
            simp only [nm, z_g hI, Option.bind_some]
            rw [eX6_staysWith hz hC (z_d ha), s1]
            simp only [Option.map_some, b2, ← nI_succ]
            by_cases q2 : w ≤ (lo + hi) / 2
            · simp [q2]
            · simp [q2]
          by_cases q2 : w ≤ (lo + hi) / 2
          · simp only [if_pos q2] at step
            refine ⟨(nI lo, nI ((lo + hi) / 2), nI (j + 1), wr 5 44 (va_up ρ1.1 0 (some a), ρ1.2) S2 z), step, lo, (lo + hi) / 2, _, S2, rfl, rfl, rfl, rfl, e7, q2, by omega, ?_⟩
            have : ((lo + hi) / 2 - lo) * 2 ≤ hi - lo := by omega
            calc ((lo + hi) / 2 - lo) * 2 ^ (j + 1) = (((lo + hi) / 2 - lo) * 2) * 2 ^ j := by rw [Nat.pow_succ, Nat.mul_comm (2 ^ j) 2, Nat.mul_assoc]
              _ ≤ (hi - lo) * 2 ^ j := Nat.mul_le_mul_right _ this
              _ ≤ 127 := e10
          · simp only [if_neg q2] at step
            refine ⟨(nI ((lo + hi) / 2 + 1), nI hi, nI (j + 1), wr 5 44 (va_up ρ1.1 0 (some a), ρ1.2) S2 z), step, (lo + hi) / 2 + 1, hi, _, S2, rfl, rfl, rfl, rfl, by omega, e8, e9, ?_⟩
            have : (hi - ((lo + hi) / 2 + 1)) * 2 ≤ hi - lo := by omega
            calc (hi - ((lo + hi) / 2 + 1)) * 2 ^ (j + 1) = ((hi - ((lo + hi) / 2 + 1)) * 2) * 2 ^ j := by rw [Nat.pow_succ, Nat.mul_comm (2 ^ j) 2, Nat.mul_assoc]
              _ ≤ (hi - lo) * 2 ^ j := Nat.mul_le_mul_right _ this
              _ ≤ 127 := e10
        · right
          have e11 : lo = w := by omega
          subst e11
          refine ⟨some (if lo ≤ 99 then nI lo else -1, wr 5 44 ρ1 S1 z), fun f => ?_, ρ1, S1, rfl⟩
          show bX9_need_46 _ _ _ _ _ _ _ _ _ = _
          unfold bX9_need_46 bX9_need_104
          rw [if_neg (show ¬ (8 : Int32) ≤ nI j from nI_ge (b := 8) hj (by omega)), if_pos (nI_le (by omega) (by omega))]
          by_cases q3 : lo ≤ 99
          · rw [if_pos q3, if_pos (show nI lo ≤ 99 from nI_le (b := 99) q3 (by omega))]
          · rw [if_neg q3, if_neg (show ¬ nI lo ≤ 99 from nI_ge (a := 99) (by omega) (by omega))]
      · rintro ⟨l5, l6, l7, zz⟩ ⟨lo, hi, ρ1, S1, e3, e4, e5, e6, e7, e8, e9, e10⟩
        replace e3 : l5 = nI lo := e3
        replace e4 : l6 = nI hi := e4
        replace e5 : l7 = nI 8 := e5
        replace e6 : zz = wr 5 44 ρ1 S1 z := e6
        subst e3 e4 e5 e6
        have e11 : lo = w := by omega
        subst e11
        refine ⟨some (if lo ≤ 99 then nI lo else -1, wr 5 44 ρ1 S1 z), fun f => ?_, ρ1, S1, rfl⟩
        show bX9_need_46 _ _ _ _ _ _ _ _ _ = _
        unfold bX9_need_46 bX9_need_104
        rw [if_pos (show (8 : Int32) ≤ nI 8 by decide)]
        by_cases q3 : lo ≤ 99
        · rw [if_pos q3, if_pos (show nI lo ≤ 99 from nI_le (b := 99) q3 (by omega))]
        · rw [if_neg q3, if_neg (show ¬ nI lo ≤ 99 from nI_ge (a := 99) (by omega) (by omega))]
    · rw [e1, e2]
      simp only [Option.bind_some, if_true]
      exact ⟨_, _, _, rfl, hI, rfl⟩
  · rw [h1, hb (wI M 0 0) rfl]
    simp only [Option.bind_some, nq, b2, if_true, ite_self]
    exact ⟨_, _, _, rfl, hI, rfl⟩
