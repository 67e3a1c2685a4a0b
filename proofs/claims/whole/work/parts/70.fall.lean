/-! ===== FALL, as a plain function; class and reference ===== -/
theorem wR_eq {S : SV} {k : Nat} {f : Nat → Int32} : (wR S k f).2.1 k = f := if_pos rfl
theorem wI_eq {S : SV} {k : Nat} {x : Int32} : (wI S k x).1 k = x := pk_us
theorem wI_ne {S : SV} {k j : Nat} {x : Int32} (h : j ≠ k) : (wI S k x).1 j = S.1 j := pk_un h
theorem fa_first_eq {p : Nat → Bool} {j N : Nat} (h : ∀ i, i < j → p i = false) (hj : p j = true) (hN : j < N) : fa_first p N = j := by
  have h1 : ¬ fa_first p N < j := fun q => by have := fa_first_yes p N (by omega); rw [h _ q] at this; cases this
  have h2 : ¬ j < fa_first p N := fun q => by have := fa_first_no p N j q; rw [hj] at this; cases this
  omega
theorem fa_first_none {p : Nat → Bool} {N : Nat} (h : ∀ i, i < N → p i = false) : ¬ fa_first p N < N := fun q => by
  have := fa_first_yes p N q
  rw [h _ q] at this; cases this
/-- a loop that stops at the first index with a property -/
theorem lpF {σ β : Type} (G : Nat → σ → β) (st : Nat → σ) (p : Nat → Bool) (A : β) (B : Nat → β) (N : Nat) (hs : ∀ i, i < N → p i = false → ∀ n, G (n + 1) (st i) = G n (st (i + 1))) (hx : ∀ i, i < N → p i = true → ∀ n, G (n + 2) (st i) = B i) (he : ∀ n, G (n + 1) (st N) = A) : ∀ n, N + 1 < n → G n (st 0) = if fa_first p N < N then B (fa_first p N) else A := by
  have key : ∀ d j, j + d = N → (∀ i, i < j → p i = false) → ∀ n, d + 1 < n → G n (st j) = if fa_first p N < N then B (fa_first p N) else A := by
    intro d
    induction d with
    | zero =>
      intro j hj hp n hn
      obtain ⟨m, rfl⟩ : ∃ m, n = m + 1 := ⟨n - 1, by omega⟩
      have e : j = N := by omega
      subst e
      rw [if_neg (fa_first_none hp)]; exact he m
    | succ d ih =>
      intro j hj hp n hn
      obtain ⟨m, rfl⟩ : ∃ m, n = m + 2 := ⟨n - 2, by omega⟩
      cases hb : p j with
      | false =>
        rw [hs j (by omega) hb (m + 1)]
        refine ih (j + 1) (by omega) (fun i hi => ?_) (m + 1) (by omega)
        by_cases e : i = j
        · rw [e]; exact hb
        · exact hp i (by omega)
      | true =>
        rw [fa_first_eq hp hb (by omega), if_pos (by omega)]
        exact hx j (by omega) hb m
  intro n hn
  exact key N 0 (by omega) (fun i hi => by omega) n hn
def sumP (f : Nat → Int32) : Nat → Int32
  | 0 => 0
  | k + 1 => sumP f k + f k
theorem sumP_zero {f : Nat → Int32} {j : Nat} : ∀ d, (∀ k, j ≤ k → k < j + d → f k = 0) → sumP f (j + d) = sumP f j
  | 0, _ => rfl
  | d + 1, h => by
    show sumP f (j + d) + f (j + d) = _
    rw [h (j + d) (by omega) (by omega), add0]
    exact sumP_zero d (fun k k1 k2 => h k k1 (by omega))
theorem sumP_cong {f g : Nat → Int32} : ∀ n, (∀ k, k < n → f k = g k) → sumP f n = sumP g n
  | 0, _ => rfl
  | n + 1, h => by
    show sumP f n + f n = sumP g n + g n
    rw [sumP_cong n (fun k hk => h k (by omega)), h n (by omega)]
/-- what rests on t and is not gone, weighed -/
def brF (A wei : Nat → Int32) (g : Int32) (t k : Nat) : Int32 := if bt (A t) k && !bt g k then wei k else 0
def brP (n : Nat) (A wei : Nat → Int32) (g : Int32) (t : Nat) : Int32 := sumP (brF A wei g t) n
def wkP (n : Nat) (A sol wei : Nat → Int32) (g : Int32) (t : Nat) : Bool := !bt g t && (decide (sol t ≤ 0) || decide (sol t < brP n A wei g t))
def fwP (n : Nat) (A sol wei : Nat → Int32) (g : Int32) : Nat := fa_first (wkP n A sol wei g) n
def stP (n : Nat) (A sol wei : Nat → Int32) (g : Int32) : Int32 := if fwP n A sol wei g < n then g ||| (shl 1 (nI (fwP n A sol wei g)) ||| A (fwP n A sol wei g)) else g
def itP {α : Type} (f : α → α) (x : α) : Nat → α
  | 0 => x
  | k + 1 => f (itP f x k)
def flP (n : Nat) (A sol wei : Nat → Int32) (g : Int32) : Int32 := itP (stP n A sol wei) g 8
theorem itP_in {α : Type} (f : α → α) (x : α) : ∀ k, itP f (f x) k = f (itP f x k)
  | 0 => rfl
  | k + 1 => by show f (itP f (f x) k) = _; rw [itP_in f x k]; rfl
theorem itP_fix {α : Type} {f : α → α} {x : α} (h : f x = x) : ∀ k, itP f x k = x
  | 0 => rfl
  | k + 1 => by show f (itP f x k) = x; rw [itP_fix h k, h]
theorem itP_fix2 {α : Type} {f : α → α} {x : α} {r : Nat} (h : f (itP f x r) = itP f x r) : ∀ d, itP f x (r + d) = itP f x r
  | 0 => rfl
  | d + 1 => by show f (itP f x (r + d)) = _; rw [itP_fix2 h d, h]
theorem wI_same {S : SV} {k : Nat} {x : Int32} (h : S.1 k = x) : wI S k x = S := by
  unfold wI; rw [fa_upd_same h]
theorem wI_wI (S : SV) (k : Nat) (x y : Int32) : wI (wI S k x) k y = wI S k y := by
  unfold wI; rw [fa_upd_twice]
theorem b_one0 (x : Int32) : (x &&& 1) = 0 ↔ bt x 0 = false := (b_one x).2
theorem not_b {b : Bool} (h : ¬ b = false) : b = true := by cases b <;> simp_all
theorem c_bears {C S : SV} {n t : Nat} (hn : n ≤ 8) (h0 : C.1 0 = nI n) (ht : t < n) : gX6_bears C (nI t) S = some (brP n (C.2.1 5) (S.2.1 2) (S.1 6) t) := by
  have hr : ∀ k, k < 32 → bt (C.2.1 5 t &&& (S.1 6 ^^^ (-1))) k = (bt (C.2.1 5 t) k && !bt (S.1 6) k) := fun k hk => by rw [b_and, b_not _ hk]
  unfold gX6_bears
  rw [if_neg (nI_pos (by omega)), h0, if_pos (nI_lt ht (by omega)), rA_nI (by omega) (by omega)]
  simp only [Option.bind_some, nm]
  refine lpR (fun f (q : Int32 × Int32 × Int32) => gfX6_bears_39 C S f q.1 q.2.1 q.2.2) (fun j q => (∀ i, i < 32 → bt q.1 i = bt (C.2.1 5 t &&& (S.1 6 ^^^ (-1))) (j + i)) ∧ q.2.1 = sumP (brF (C.2.1 5) (S.2.1 2) (S.1 6) t) j ∧ q.2.2 = nI j) (fun b => b = some (brP n (C.2.1 5) (S.2.1 2) (S.1 6) t)) n ?_ ?_ (_, 0, 0) ⟨fun i hi => by rw [Nat.zero_add], rfl, rfl⟩ FU (by rw [FUn]; omega)
  · rintro j hj ⟨x, s, l⟩ ⟨e1, e2, e3⟩
    replace e1 : ∀ i, i < 32 → bt x i = bt (C.2.1 5 t &&& (S.1 6 ^^^ (-1))) (j + i) := e1
    replace e2 : s = sumP (brF (C.2.1 5) (S.2.1 2) (S.1 6) t) j := e2
    replace e3 : l = nI j := e3
    subst e2 e3
    by_cases c0 : x = 0
    · right
      refine ⟨some (sumP (brF (C.2.1 5) (S.2.1 2) (S.1 6) t) j), fun f => ?_, ?_⟩
      · show gbX6_bears_39 _ _ _ _ _ _ = _
        unfold gbX6_bears_39
        rw [h0, if_neg (nI_ge hj (by omega)), if_pos c0]
      · congr 1
        have := sumP_zero (f := brF (C.2.1 5) (S.2.1 2) (S.1 6) t) (j := j) (n - j) (fun k k1 k2 => ?_)
        · rw [show j + (n - j) = n by omega] at this; exact this.symm
        · have h := e1 (k - j) (by omega)
          rw [c0, b_0, show j + (k - j) = k by omega, hr k (by omega)] at h
          unfold brF
          rw [← h]; rfl
    · left
      have hb := e1 0 (by omega)
      rw [Nat.add_zero, hr j (by omega)] at hb
      have hx : ∀ i, i < 32 → bt (ush x 1) i = bt (C.2.1 5 t &&& (S.1 6 ^^^ (-1))) (j + 1 + i) := fun i hi => by
        show bt (ush x (nI 1)) i = _
        rw [b_ushS 1 (by omega)]
        by_cases h : 1 + i < 32
        · rw [e1 _ h, Nat.add_assoc]
        · rw [b_big (by omega), b_big (by omega)]
      refine ⟨(ush x 1, sumP (brF (C.2.1 5) (S.2.1 2) (S.1 6) t) (j + 1), nI (j + 1)), fun f => ?_, hx, rfl, rfl⟩
      show gbX6_bears_39 _ _ _ _ _ _ = gfX6_bears_39 C S f (ush x 1) (sumP (brF (C.2.1 5) (S.2.1 2) (S.1 6) t) j + brF (C.2.1 5) (S.2.1 2) (S.1 6) t j) (nI (j + 1))
      unfold gbX6_bears_39 gbX6_bears_73
      rw [h0, if_neg (nI_ge hj (by omega)), if_neg c0, rA_nI (by omega) (by omega)]
      simp only [Option.bind_some, nm, ← nI_succ]
      unfold brF
      by_cases c1 : bt x 0 = false
      · rw [if_pos ((b_one0 x).mpr c1)]
        rw [c1] at hb
        rw [← hb]; rfl
      · rw [if_neg (fun e => c1 ((b_one0 x).mp e))]
        rw [not_b c1] at hb
        rw [← hb]; rfl
  · rintro ⟨x, s, l⟩ ⟨e1, e2, e3⟩
    replace e2 : s = sumP (brF (C.2.1 5) (S.2.1 2) (S.1 6) t) n := e2
    replace e3 : l = nI n := e3
    subst e2 e3
    refine ⟨some (sumP (brF (C.2.1 5) (S.2.1 2) (S.1 6) t) n), fun f => ?_, rfl⟩
    show gbX6_bears_39 _ _ _ _ _ _ = _
    unfold gbX6_bears_39
    rw [h0, if_pos (nI_le (Nat.le_refl _) (by omega))]
theorem c_fall_in {C S : SV} {n : Nat} (hn : n ≤ 8) (h0 : C.1 0 = nI n) (k2 : Int32 → SV → Option SV) (l1 : Int32) : gfX6_fall_12 k2 C FU l1 (-1) 0 S = if fwP n (C.2.1 5) (S.2.1 1) (S.2.1 2) (S.1 6) < n then gbX6_fall_70 k2 C l1 (nI (fwP n (C.2.1 5) (S.2.1 1) (S.2.1 2) (S.1 6))) S else gbX6_fall_70 k2 C l1 (-1) S := by
  refine lpF (fun f (q : Int32) => gfX6_fall_12 k2 C f l1 (-1) q S) (fun i => nI i) (wkP n (C.2.1 5) (S.2.1 1) (S.2.1 2) (S.1 6)) (gbX6_fall_70 k2 C l1 (-1) S) (fun i => gbX6_fall_70 k2 C l1 (nI i) S) n ?_ ?_ ?_ FU (by rw [FUn]; omega)
  · intro i hi hp f
    show gbX6_fall_12 _ _ _ _ _ _ _ = gfX6_fall_12 k2 C f l1 (-1) (nI (i + 1)) S
    unfold gbX6_fall_12
    rw [h0, if_neg (nI_ge hi (by omega)), if_pos rfl, rA_nI (by omega) (by omega), c_bears hn h0 hi]
    simp only [Option.bind_some, nm, ← nI_succ, b_one0, b_ushS i (show i < 32 by omega), Nat.add_zero]
    unfold wkP at hp
    cases hb : bt (S.1 6) i
    · rw [hb] at hp
      by_cases c1 : S.2.1 1 i ≤ 0
      · simp [c1] at hp
      · by_cases c2 : S.2.1 1 i < brP n (C.2.1 5) (S.2.1 2) (S.1 6) i
        · simp [c2] at hp
        · simp [c1, fa_of_nlt c2]
    · simp
  · intro i hi hp f
    show gbX6_fall_12 _ _ _ _ _ _ _ = gbX6_fall_70 k2 C l1 (nI i) S
    have hm : ¬ nI i = -1 := fun e => by rw [fa_eq, nI_toInt (by omega)] at e; have : (-1 : Int32).toInt = -1 := rfl; omega
    have fin : gfX6_fall_12 k2 C (f + 1) l1 (nI i) (nI (i + 1)) S = gbX6_fall_70 k2 C l1 (nI i) S := by
      show gbX6_fall_12 _ _ _ _ _ _ _ = _
      unfold gbX6_fall_12
      rw [if_neg hm, ite_self]
    unfold gbX6_fall_12
    rw [h0, if_neg (nI_ge hi (by omega)), if_pos rfl, rA_nI (by omega) (by omega), c_bears hn h0 hi]
    simp only [Option.bind_some, nm, ← nI_succ, b_one0, b_ushS i (show i < 32 by omega), Nat.add_zero, fin]
    unfold wkP at hp
    cases hb : bt (S.1 6) i
    · rw [hb] at hp
      by_cases c1 : S.2.1 1 i ≤ 0
      · simp [c1]
      · by_cases c2 : S.2.1 1 i < brP n (C.2.1 5) (S.2.1 2) (S.1 6) i
        · simp [c1, (fa_of_lt c2).2.1]
        · simp [c1, c2] at hp
    · simp [hb] at hp
  · intro f
    show gbX6_fall_12 _ _ _ _ _ _ _ = _
    unfold gbX6_fall_12
    rw [h0, if_pos (nI_le (Nat.le_refl _) (by omega))]
theorem c_fall {C S : SV} {n : Nat} (hn : n ≤ 8) (h0 : C.1 0 = nI n) : gX6_fall C S = some (wI S 6 (flP n (C.2.1 5) (S.2.1 1) (S.2.1 2) (S.1 6))) := by
  refine lpR (fun f (q : Int32 × SV) => gfX6_fall_2 C f q.1 q.2) (fun r q => q.1 = nI r ∧ q.2 = wI S 6 (itP (stP n (C.2.1 5) (S.2.1 1) (S.2.1 2)) (S.1 6) r)) (fun b => b = some (wI S 6 (flP n (C.2.1 5) (S.2.1 1) (S.2.1 2) (S.1 6)))) 8 ?_ ?_ (0, S) ⟨rfl, (wI_same rfl).symm⟩ FU (by rw [FUn]; omega)
  · rintro r hr ⟨l, S1⟩ ⟨e1, e2⟩
    replace e1 : l = nI r := e1
    replace e2 : S1 = wI S 6 (itP (stP n (C.2.1 5) (S.2.1 1) (S.2.1 2)) (S.1 6) r) := e2
    subst e1
    have g6 : S1.1 6 = itP (stP n (C.2.1 5) (S.2.1 1) (S.2.1 2)) (S.1 6) r := by rw [e2]; exact wI_eq
    have r1 : S1.2.1 1 = S.2.1 1 := by rw [e2]; rfl
    have r2 : S1.2.1 2 = S.2.1 2 := by rw [e2]; rfl
    have st : ∀ f, gfX6_fall_2 C (f + 1) (nI r) S1 = if fwP n (C.2.1 5) (S.2.1 1) (S.2.1 2) (S1.1 6) < n then gbX6_fall_70 (gfX6_fall_2 C f) C (nI r) (nI (fwP n (C.2.1 5) (S.2.1 1) (S.2.1 2) (S1.1 6))) S1 else gbX6_fall_70 (gfX6_fall_2 C f) C (nI r) (-1) S1 := by
      intro f
      show gbX6_fall_2 _ _ _ _ = _
      unfold gbX6_fall_2
      rw [if_neg (show ¬ (8 : Int32) ≤ nI r from nI_ge (b := 8) hr (by omega)), c_fall_in hn h0, r1, r2]
    by_cases c : fwP n (C.2.1 5) (S.2.1 1) (S.2.1 2) (S1.1 6) < n
    · left
      refine ⟨(nI (r + 1), wI S 6 (itP (stP n (C.2.1 5) (S.2.1 1) (S.2.1 2)) (S.1 6) (r + 1))), fun f => ?_, rfl, rfl⟩
      show gfX6_fall_2 C (f + 1) (nI r) S1 = _
      rw [st f, if_pos c]
      unfold gbX6_fall_70
      have hm : ¬ nI (fwP n (C.2.1 5) (S.2.1 1) (S.2.1 2) (S1.1 6)) = -1 := fun e => by rw [fa_eq, nI_toInt (by omega)] at e; have : (-1 : Int32).toInt = -1 := rfl; omega
      rw [if_neg hm, rA_nI (by omega) (by omega)]
      simp only [Option.bind_some, nm, ← nI_succ]
      show gfX6_fall_2 C f (nI (r + 1)) _ = gfX6_fall_2 C f (nI (r + 1)) (wI S 6 (stP n (C.2.1 5) (S.2.1 1) (S.2.1 2) (itP (stP n (C.2.1 5) (S.2.1 1) (S.2.1 2)) (S.1 6) r)))
      rw [← g6]
      congr 1
      rw [e2, wI_wI, ← e2]
      unfold stP
      rw [if_pos c]
    · right
      refine ⟨some S1, fun f => ?_, ?_⟩
      · show gfX6_fall_2 C (f + 1) (nI r) S1 = _
        rw [st f, if_neg c]
        unfold gbX6_fall_70
        rw [if_pos rfl]
      · congr 1
        rw [e2]
        congr 1
        have hfix : stP n (C.2.1 5) (S.2.1 1) (S.2.1 2) (itP (stP n (C.2.1 5) (S.2.1 1) (S.2.1 2)) (S.1 6) r) = itP (stP n (C.2.1 5) (S.2.1 1) (S.2.1 2)) (S.1 6) r := by
          rw [← g6]
          unfold stP
          rw [if_neg c]
        have := itP_fix2 hfix (8 - r)
        rw [show r + (8 - r) = 8 by omega] at this
        exact this.symm
  · rintro ⟨l, S1⟩ ⟨e1, e2⟩
    replace e1 : l = nI 8 := e1
    replace e2 : S1 = wI S 6 (itP (stP n (C.2.1 5) (S.2.1 1) (S.2.1 2)) (S.1 6) 8) := e2
    subst e1
    exact ⟨some S1, fun f => rfl, by rw [e2]; rfl⟩
/-! how FALL ends -/
def ngo (n : Nat) (g : Int32) : Nat := fa_cnt (fun t => !bt g t) n
theorem fa_cnt_lt {p q : Nat → Bool} (h : ∀ k, p k = true → q k = true) {j : Nat} (h1 : p j = false) (h2 : q j = true) : ∀ n, j < n → fa_cnt p n < fa_cnt q n
  | 0, h => by omega
  | n + 1, hj => by
    by_cases e : j = n
    · subst e
      rw [fa_cnt_no h1, fa_cnt_yes h2]
      have := fa_cnt_mono h j
      omega
    · have ih := fa_cnt_lt h h1 h2 n (by omega)
      unfold fa_cnt
      cases hp : p n
      · simp only [Bool.false_eq_true, if_false]; omega
      · rw [h n hp]; simp only [if_true]; omega
section FL
variable {n : Nat} {A sol wei : Nat → Int32}
theorem wk_no {g : Int32} {t : Nat} (h : bt g t = true) : wkP n A sol wei g t = false := by unfold wkP; rw [h]; rfl
theorem st_bt {g : Int32} (hn : n ≤ 8) {k : Nat} (h : bt g k = true) : bt (stP n A sol wei g) k = true := by
  unfold stP
  split
  · rw [b_or, h]; rfl
  · exact h
theorem st_less {g : Int32} (hn : n ≤ 8) (h : fwP n A sol wei g < n) : ngo n (stP n A sol wei g) < ngo n g := by
  have hw := fa_first_yes (wkP n A sol wei g) n h
  have h2 : bt g (fwP n A sol wei g) = false := by
    cases hb : bt g (fwP n A sol wei g)
    · rfl
    · have := wk_no (n := n) (A := A) (sol := sol) (wei := wei) hb
      unfold fwP at this; rw [hw] at this; cases this
  refine fa_cnt_lt (fun k hk => ?_) (j := fwP n A sol wei g) ?_ ?_ n h
  · cases hb : bt g k
    · rfl
    · rw [st_bt hn hb] at hk; cases hk
  · unfold stP
    rw [if_pos h, b_or, b_or, b_1shl (by omega) (by omega)]; simp
  · rw [h2]; rfl
theorem st_fix {g : Int32} (h : ¬ fwP n A sol wei g < n) : stP n A sol wei g = g := by unfold stP; rw [if_neg h]
theorem it_fix (hn : n ≤ 8) : ∀ u g, ngo n g ≤ u → stP n A sol wei (itP (stP n A sol wei) g u) = itP (stP n A sol wei) g u
  | 0, g, h => by
    refine st_fix (fun c => ?_)
    have := st_less (A := A) (sol := sol) (wei := wei) hn c
    have h0 : ngo n (itP (stP n A sol wei) g 0) = ngo n g := rfl
    omega
  | u + 1, g, h => by
    by_cases c : fwP n A sol wei g < n
    · have := it_fix hn u (stP n A sol wei g) (by have := st_less hn c; omega)
      rw [itP_in] at this; exact this
    · rw [itP_fix (st_fix c), st_fix c]
theorem fl_st (hn : n ≤ 8) (g : Int32) : flP n A sol wei (stP n A sol wei g) = flP n A sol wei g := by
  unfold flP
  rw [itP_in]
  exact it_fix hn 8 g (Nat.le_trans (fa_cnt_le _ _) hn)
theorem fl_end {g : Int32} (h : ¬ fwP n A sol wei g < n) : flP n A sol wei g = g := itP_fix (st_fix h) 8
theorem fl_fix (hn : n ≤ 8) (g : Int32) : ¬ fwP n A sol wei (flP n A sol wei g) < n := fun c => by
  have h1 := it_fix (A := A) (sol := sol) (wei := wei) hn 8 g (Nat.le_trans (fa_cnt_le _ _) hn)
  have h2 := st_less hn c
  unfold flP at h2
  rw [h1] at h2
  omega
/-- what a step keeps, FALL keeps -/
theorem fl_ind (P : Int32 → Prop) (h : ∀ g, P g → P (stP n A sol wei g)) {g : Int32} (hg : P g) : P (flP n A sol wei g) := by
  have : ∀ k, P (itP (stP n A sol wei) g k) := fun k => by
    induction k with
    | zero => exact hg
    | succ k ih => exact h _ ih
  exact this 8
end FL
/-! the reference -/
/-- only ints 31 .. 37 and rows 28, 29 differ -/
def FrS (M M' : SV) : Prop := (∀ k, (k < 31 ∨ 38 ≤ k) → M'.1 k = M.1 k) ∧ (∀ k, k ≠ 28 → k ≠ 29 → M'.2.1 k = M.2.1 k) ∧ M'.2.2 = M.2.2
theorem FrS.rf {M : SV} : FrS M M := ⟨fun _ _ => rfl, fun _ _ _ => rfl, rfl⟩
theorem FrS.tr {M M1 M2 : SV} (h : FrS M M1) (h2 : FrS M1 M2) : FrS M M2 := ⟨fun k hk => (h2.1 k hk).trans (h.1 k hk), fun k k1 k2 => (h2.2.1 k k1 k2).trans (h.2.1 k k1 k2), h2.2.2.trans h.2.2⟩
theorem FrS.i {M M' : SV} (h : FrS M M') {k : Nat} (hk : k < 31 ∨ 38 ≤ k) : M'.1 k = M.1 k := h.1 k hk
theorem FrS.r {M M' : SV} (h : FrS M M') {k : Nat} (k1 : k ≠ 28) (k2 : k ≠ 29) : M'.2.1 k = M.2.1 k := h.2.1 k k1 k2
theorem FrS.wi {M M' : SV} (h : FrS M M') {k : Nat} (hk : 31 ≤ k ∧ k < 38) (x : Int32) : FrS M (wI M' k x) := ⟨fun j hj => (pk_un (by omega)).trans (h.1 j hj), h.2⟩
theorem FrS.w28 {M M' : SV} (h : FrS M M') (f : Nat → Int32) : FrS M (wR M' 28 f) := ⟨h.1, fun j k1 k2 => (wR_ne k1).trans (h.2.1 j k1 k2), h.2.2⟩
theorem FrS.w29 {M M' : SV} (h : FrS M M') (f : Nat → Int32) : FrS M (wR M' 29 f) := ⟨h.1, fun j k1 k2 => (wR_ne k2).trans (h.2.1 j k1 k2), h.2.2⟩
/-- the reference's rows of what is SOLID, what weighs, with what is GONE -/
def FM (n : Nat) (A sol wei : Nat → Int32) (g : Int32) (M : SV) : Prop := M.1 26 = nI n ∧ (∀ t, t < 8 → M.2.1 30 t = A t) ∧ M.1 31 = g ∧ ∀ t, t < n → M.2.1 28 t = (if bt g t then 0 else sol t) ∧ M.2.1 29 t = (if bt g t then 0 else wei t)
section FM
variable {n : Nat} {A sol wei : Nat → Int32} {g : Int32} {M : SV}
theorem m_bears (hn : n ≤ 8) (h : FM n A sol wei g M) {t : Nat} (ht : t < 8) : gX10_bears (nI t) M = some (brP n A wei g t) := by
  obtain ⟨h1, h2, h3, h4⟩ := h
  refine lp (fun f (q : Int32 × Int32) => gfX10_bears_4 M f (nI t) q.1 q.2) (fun j => (sumP (brF A wei g t) j, nI j)) _ n ?_ ?_ FU (by rw [FUn]; omega)
  · intro j hj f
    show gbX10_bears_4 _ _ _ _ _ = gfX10_bears_4 M f (nI t) (sumP (brF A wei g t) j + brF A wei g t j) (nI (j + 1))
    unfold gbX10_bears_4
    rw [h1, if_neg (nI_ge hj (by omega)), rA_nI (by omega) (by omega), rA_nI (by omega) (by omega), h2 t ht, h3]
    simp only [Option.bind_some, nm, ← nI_succ, m_has0 _ (show j < 32 by omega), b_and, b_not _ (show j < 32 by omega)]
    unfold brF
    cases hb : bt (A t) j
    · simp
    · cases hg : bt g j
      · simp [(h4 j hj).2, hg]
      · simp
  · intro f
    show gbX10_bears_4 _ _ _ _ _ = _
    unfold gbX10_bears_4
    rw [h1, if_pos (nI_le (Nat.le_refl _) (by omega))]; rfl
theorem m_takes (hn : n ≤ 8) (h : FM n A sol wei g M) (s : Int32) : ∃ M', gX10_takes s M = some M' ∧ FM n A sol wei (g ||| s) M' ∧ FrS M M' ∧ ∀ k, k ≠ 31 → M'.1 k = M.1 k := by
  obtain ⟨h1, h2, h3, h4⟩ := h
  have key := lpR (fun f (q : Int32 × SV) => gfX10_takes_2 f s q.1 q.2) (fun j q => q.1 = nI j ∧ q.2.1 = M.1 ∧ FrS M q.2 ∧ ∀ t, t < n → q.2.2.1 28 t = (if bt g t || (decide (t < j) && bt s t) then 0 else sol t) ∧ q.2.2.1 29 t = (if bt g t || (decide (t < j) && bt s t) then 0 else wei t)) (fun b => ∃ M', b = some M' ∧ FM n A sol wei (g ||| s) M' ∧ FrS M M' ∧ ∀ k, k ≠ 31 → M'.1 k = M.1 k) n ?_ ?_ (0, M) ⟨rfl, rfl, FrS.rf, fun t ht => by simpa using h4 t ht⟩ FU (by rw [FUn]; omega)
  · exact key
  · rintro j hj ⟨l, M1⟩ ⟨e1, e2, e3, e4⟩
    replace e1 : l = nI j := e1
    replace e2 : M1.1 = M.1 := e2
    replace e3 : FrS M M1 := e3
    replace e4 : ∀ t, t < n → M1.2.1 28 t = (if bt g t || (decide (t < j) && bt s t) then 0 else sol t) ∧ M1.2.1 29 t = (if bt g t || (decide (t < j) && bt s t) then 0 else wei t) := e4
    subst e1
    left
    have hst : ∀ f, gfX10_takes_2 (f + 1) s (nI j) M1 = (if (bt s j && !bt g j) = false then gfX10_takes_2 f s (nI (j + 1)) M1 else gfX10_takes_2 f s (nI (j + 1)) (wR (wR M1 28 (upd (M1.2.1 28) j 0)) 29 (upd (M1.2.1 29) j 0))) := by
      intro f
      show gbX10_takes_2 _ _ _ _ = _
      unfold gbX10_takes_2
      rw [e2, h1, if_neg (nI_ge hj (by omega)), h3]
      simp only [m_has0 _ (show j < 32 by omega), b_and, b_not _ (show j < 32 by omega), nm, ← nI_succ]
      rw [wA_nI (by omega) (by omega)]
      simp only [Option.bind_some]
      rw [wA_nI (by omega) (by omega), wR_ne (by decide)]
      simp only [Option.bind_some]
    by_cases c : (bt s j && !bt g j) = false
    · simp only [if_pos c] at hst
      refine ⟨(nI (j + 1), M1), hst, rfl, e2, e3, fun t ht => ?_⟩
      show M1.2.1 28 t = _ ∧ M1.2.1 29 t = _
      rw [(e4 t ht).1, (e4 t ht).2]
      by_cases e : t = j
      · subst e
        cases hb : bt g t
        · rw [hb] at c; simp at c; simp [c]
        · simp
      · have : decide (t < j + 1) = decide (t < j) := decide_eq_decide.mpr ⟨fun h => by omega, fun h => by omega⟩
        rw [this]; exact ⟨rfl, rfl⟩
    · simp only [if_neg c] at hst
      have c' := not_b c
      refine ⟨(nI (j + 1), wR (wR M1 28 (upd (M1.2.1 28) j 0)) 29 (upd (M1.2.1 29) j 0)), hst, rfl, e2, (e3.w28 _).w29 _, fun t ht => ?_⟩
      show upd (M1.2.1 28) j 0 t = _ ∧ upd (M1.2.1 29) j 0 t = _
      by_cases e : t = j
      · subst e
        rw [pk_us, pk_us]
        simp at c'
        simp [c']
      · rw [pk_un e, pk_un e, (e4 t ht).1, (e4 t ht).2]
        have : decide (t < j + 1) = decide (t < j) := decide_eq_decide.mpr ⟨fun h => by omega, fun h => by omega⟩
        rw [this]; exact ⟨rfl, rfl⟩
  · rintro ⟨l, M1⟩ ⟨e1, e2, e3, e4⟩
    replace e1 : l = nI n := e1
    replace e2 : M1.1 = M.1 := e2
    replace e3 : FrS M M1 := e3
    subst e1
    refine ⟨some (wI M1 31 (g ||| s)), fun f => ?_, _, rfl, ⟨?_, fun t ht => ?_, wI_eq, fun t ht => ?_⟩, e3.wi (by omega) _, fun k hk => by rw [wI_ne hk, e2]⟩
    · show gbX10_takes_2 _ _ _ _ = _
      unfold gbX10_takes_2
      rw [e2, h1, if_pos (nI_le (Nat.le_refl _) (by omega)), h3]; rfl
    · rw [wI_ne (by decide), e2]; exact h1
    · show M1.2.1 30 t = _
      rw [e3.r (by decide) (by decide)]; exact h2 t ht
    · have := e4 t ht
      simp only [ht, decide_true, Bool.true_and, ← b_or] at this
      exact this
theorem sol_z {x : Int32} (h : 0 ≤ x.toInt) : (x = 0) = (x ≤ 0) := by
  refine propext ⟨fun e => by rw [e]; decide, fun e => ?_⟩
  rw [fa_le, t0] at e
  rw [fa_eq, t0]; omega
theorem m_fall_up (hn : n ≤ 8) (h : FM n A sol wei g M) (hs : ∀ t, t < n → 0 ≤ (sol t).toInt) {t : Nat} (ht : t < n) (f : Nat) : gfX10_falls_2 (f + 1) (nI t) M = if wkP n A sol wei g t then (gX10_takes (shl 1 (nI t) ||| A t) M).bind (fun S65 => gfX10_falls_2 f 0 S65) else gfX10_falls_2 f (nI (t + 1)) M := by
  have hb := m_bears hn h (show t < 8 by omega)
  obtain ⟨h1, h2, h3, h4⟩ := h
  show gbX10_falls_2 _ _ _ = _
  unfold gbX10_falls_2 gbX10_falls_44 gbX10_falls_48 gbX10_falls_49 gbX10_falls_68
  rw [h1, if_neg (nI_ge ht (by omega)), h3, rA_nI (by omega) (by omega), rA_nI (by omega) (by omega), hb, h2 t (by omega), (h4 t ht).1]
  simp only [Option.bind_some, m_has0 _ (show t < 32 by omega), nm, ← nI_succ, if_true, show ¬ ((1 : Int32) = 0) by decide, if_false]
  unfold wkP
  cases hg : bt g t
  · simp only [if_true, Bool.false_eq_true, if_false, sol_z (hs t ht), Bool.not_false, Bool.true_and]
    by_cases c1 : sol t ≤ 0
    · simp [c1]
    · by_cases c2 : sol t < brP n A wei g t
      · simp [c1, c2, (fa_of_lt c2).2.1]
      · simp [c1, c2, fa_of_nlt c2]
  · simp
theorem m_fall_asc (hn : n ≤ 8) (h : FM n A sol wei g M) (hs : ∀ t, t < n → 0 ≤ (sol t).toInt) : ∀ t, t ≤ fwP n A sol wei g → ∀ f, gfX10_falls_2 (f + t) 0 M = gfX10_falls_2 f (nI t) M
  | 0, _, f => rfl
  | t + 1, ht, f => by
    have hle := fa_first_le (wkP n A sol wei g) n
    have hfw : fwP n A sol wei g = fa_first (wkP n A sol wei g) n := rfl
    rw [show f + (t + 1) = f + 1 + t by omega, m_fall_asc hn h hs t (by omega) (f + 1), m_fall_up hn h hs (by omega) f, fa_first_no (wkP n A sol wei g) n t (by omega)]
    rfl
theorem m_falls_f (hn : n ≤ 8) (hs : ∀ t, t < n → 0 ≤ (sol t).toInt) : ∀ u g M, FM n A sol wei g M → ngo n g ≤ u → ∀ f, 10 * (u + 1) < f → ∃ M', gfX10_falls_2 f 0 M = some M' ∧ FM n A sol wei (flP n A sol wei g) M' ∧ FrS M M' ∧ ∀ k, k ≠ 31 → M'.1 k = M.1 k := by
  intro u
  induction u with
  | zero =>
    intro g M h hu f hf
    have hc : ¬ fwP n A sol wei g < n := fun c => by have := st_less hn c; omega
    have hle : fwP n A sol wei g ≤ n := fa_first_le _ _
    obtain ⟨f', rfl⟩ : ∃ f', f = f' + 1 + n := ⟨f - 1 - n, by omega⟩
    rw [m_fall_asc hn h hs n (by omega) (f' + 1)]
    refine ⟨M, ?_, ?_, FrS.rf, fun _ _ => rfl⟩
    · show gbX10_falls_2 _ _ _ = _
      unfold gbX10_falls_2
      rw [h.1, if_pos (nI_le (Nat.le_refl _) (by omega))]
    · rw [fl_end hc]; exact h
  | succ u ih =>
    intro g M h hu f hf
    by_cases hc : fwP n A sol wei g < n
    · obtain ⟨f', rfl⟩ : ∃ f', f = f' + 1 + fwP n A sol wei g := ⟨f - 1 - fwP n A sol wei g, by omega⟩
      have hw : wkP n A sol wei g (fwP n A sol wei g) = true := fa_first_yes (wkP n A sol wei g) n hc
      obtain ⟨M1, t1, t2, t3, t4⟩ := m_takes hn h (shl 1 (nI (fwP n A sol wei g)) ||| A (fwP n A sol wei g))
      have e : g ||| (shl 1 (nI (fwP n A sol wei g)) ||| A (fwP n A sol wei g)) = stP n A sol wei g := by unfold stP; rw [if_pos hc]
      rw [e] at t2
      obtain ⟨M2, q1, q2, q3, q4⟩ := ih (stP n A sol wei g) M1 t2 (by have := st_less hn hc; omega) f' (by omega)
      rw [fl_st hn] at q2
      refine ⟨M2, ?_, q2, t3.tr q3, fun k hk => (q4 k hk).trans (t4 k hk)⟩
      rw [m_fall_asc hn h hs _ (Nat.le_refl _) (f' + 1), m_fall_up hn h hs hc f', if_pos hw, t1]
      exact q1
    · have hle : fwP n A sol wei g ≤ n := fa_first_le _ _
      obtain ⟨f', rfl⟩ : ∃ f', f = f' + 1 + n := ⟨f - 1 - n, by omega⟩
      rw [m_fall_asc hn h hs n (by omega) (f' + 1)]
      refine ⟨M, ?_, ?_, FrS.rf, fun _ _ => rfl⟩
      · show gbX10_falls_2 _ _ _ = _
        unfold gbX10_falls_2
        rw [h.1, if_pos (nI_le (Nat.le_refl _) (by omega))]
      · rw [fl_end hc]; exact h
theorem m_falls (hn : n ≤ 8) (hs : ∀ t, t < n → 0 ≤ (sol t).toInt) (h : FM n A sol wei g M) : ∃ M', gX10_falls M = some M' ∧ FM n A sol wei (flP n A sol wei g) M' ∧ FrS M M' ∧ ∀ k, k ≠ 31 → M'.1 k = M.1 k :=
  m_falls_f hn hs 8 g M h (Nat.le_trans (fa_cnt_le _ _) hn) FU (by rw [FUn]; omega)
end FM
