/-! ===== WATCH: rows of looks, by their number (nine to a COUPLE, the first COUPLE first) ===== -/
def xL (C : SV) (k : Nat) : Int32 := (gX0_sightOfLeft (nI k) C).getD 0
def xR (C : SV) (k : Nat) : Int32 := (gX0_sightOfRight (nI k) C).getD 0
def seS (C : SV) (k t : Nat) (sol : Nat → Int32) : Nat → Int32 := upd sol t (fX10_lesser 99 (sol t + xL C k + xR C k))
def seW (C : SV) (k t : Nat) (wei : Nat → Int32) : Nat → Int32 := if fX10_apart (xL C k) (xR C k) ≤ C.1 19 then wei else upd wei t (fX10_lesser 9 (wei t + 1))
/-- SOLID behind the first j COUPLES' looks of the row Q -/
def pS (C : SV) : Nat → Nat → Nat → Int32
  | 0, _ => C.2.1 1
  | j + 1, Q => if Q % 9 < 8 then seS C j (Q % 9) (pS C j (Q / 9)) else pS C j (Q / 9)
def pW (C : SV) : Nat → Nat → Nat → Int32
  | 0, _ => C.2.1 2
  | j + 1, Q => if Q % 9 < 8 then seW C j (Q % 9) (pW C j (Q / 9)) else pW C j (Q / 9)
/-- what they look at, who looks, how many look -/
def pG : Nat → Nat → Int32
  | 0, _ => 0
  | j + 1, Q => if Q % 9 < 8 then pG j (Q / 9) ||| shl 1 (nI (Q % 9)) else pG j (Q / 9)
def pL : Nat → Nat → Int32
  | 0, _ => 0
  | j + 1, Q => if Q % 9 < 8 then pL j (Q / 9) ||| shl 1 (nI j) else pL j (Q / 9)
def pN : Nat → Nat → Nat
  | 0, _ => 0
  | j + 1, Q => if Q % 9 < 8 then pN j (Q / 9) + 1 else pN j (Q / 9)
/-- what the COUPLE i looks at in the row Q of j COUPLES -/
def dg : Nat → Nat → Nat → Nat
  | 0, _, _ => 0
  | j + 1, Q, i => if i = j then Q % 9 else dg j (Q / 9) i
/-- whether a row can be: forward, and from behind -/
def vl (n : Nat) (g : Int32) : Nat → Nat → Bool
  | 0, _ => true
  | j + 1, Q => vl n g j (Q / 9) && (decide (Q % 9 = 8) || (decide (Q % 9 < n) && !bt (g ||| pG j (Q / 9)) (Q % 9)))
def lv (n : Nat) (g : Int32) : Nat → Nat → Int32 → Bool
  | 0, _, _ => true
  | j + 1, Q, s => (decide (Q % 9 = 8) || (decide (Q % 9 < n) && !bt g (Q % 9) && !bt s (Q % 9))) && lv n g j (Q / 9) (if Q % 9 < 8 then s ||| shl 1 (nI (Q % 9)) else s)
theorem b2_some {α β γ : Type} (x : α) (y : β) (k : α → β → Option γ) : b2 (some (x, y)) k = k x y := rfl
theorem m9 (Q : Nat) : Q % 9 < 9 := Nat.mod_lt _ (by decide)
theorem pN_le : ∀ j Q, pN j Q ≤ j
  | 0, _ => Nat.le_refl 0
  | j + 1, Q => by
    have := pN_le j (Q / 9)
    unfold pN; split <;> omega
theorem pL_bt : ∀ j Q k, j ≤ k → k < 32 → j ≤ 32 → bt (pL j Q) k = false
  | 0, _, k, _, _, _ => b_0 k
  | j + 1, Q, k, h, h2, h3 => by
    have ih := pL_bt j (Q / 9) k (by omega) h2 (by omega)
    unfold pL
    split
    · rw [b_or, ih, b_1shl (by omega) h2, decide_eq_false (by omega)]; rfl
    · exact ih
theorem lv_vl {n : Nat} (hn : n ≤ 8) (g : Int32) : ∀ j Q s, (lv n g j Q s = true) ↔ (vl n g j Q = true ∧ ∀ k, k < 8 → ¬ (bt (pG j Q) k = true ∧ bt s k = true))
  | 0, Q, s => by
    refine ⟨fun _ => ⟨rfl, fun k hk h => ?_⟩, fun _ => rfl⟩
    have : bt (pG 0 Q) k = false := b_0 k
    rw [this] at h; cases h.1
  | j + 1, Q, s => by
    have h9 := m9 Q
    rw [lv, vl, pG]
    rw [Bool.and_eq_true, Bool.and_eq_true, lv_vl hn g j (Q / 9)]
    by_cases h8 : Q % 9 < 8
    · rw [if_pos h8, if_pos h8]
      have ne : decide (Q % 9 = 8) = false := decide_eq_false (by omega)
      rw [ne]
      simp only [Bool.false_or, Bool.and_eq_true, Bool.not_eq_true', decide_eq_true_eq, b_or, Bool.or_eq_false_iff]
      have one : ∀ k, k < 8 → bt (shl 1 (nI (Q % 9))) k = decide (k = Q % 9) := fun k hk => b_1shl (by omega) (by omega)
      constructor
      · rintro ⟨⟨⟨p1, p2⟩, p3⟩, p4, p5⟩
        refine ⟨⟨p4, p1, p2, ?_⟩, fun k hk q => ?_⟩
        · cases hb : bt (pG j (Q / 9)) (Q % 9)
          · rfl
          · exact absurd ⟨hb, by rw [one _ h8]; simp⟩ (p5 (Q % 9) h8)
        · obtain ⟨q1, q2⟩ := q
          rw [one k hk, Bool.or_eq_true, decide_eq_true_eq] at q1
          rcases q1 with q1 | q1
          · exact p5 k hk ⟨q1, by rw [q2]; rfl⟩
          · rw [q1, p3] at q2; cases q2
      · rintro ⟨⟨p4, p1, p2, p6⟩, p5⟩
        refine ⟨⟨⟨p1, p2⟩, ?_⟩, p4, fun k hk q => ?_⟩
        · cases hb : bt s (Q % 9)
          · rfl
          · exact absurd ⟨by rw [one _ h8]; simp, hb⟩ (p5 (Q % 9) h8)
        · obtain ⟨q1, q2⟩ := q
          rw [one k hk, Bool.or_eq_true, decide_eq_true_eq] at q2
          rcases q2 with q2 | q2
          · exact p5 k hk ⟨by rw [q1]; rfl, q2⟩
          · rw [q2, p6] at q1; cases q1
    · rw [if_neg h8, if_neg h8]
      have e : decide (Q % 9 = 8) = true := decide_eq_true (by omega)
      rw [e]
      simp
theorem lv_0 {n : Nat} (hn : n ≤ 8) (g : Int32) (j Q : Nat) : lv n g j Q 0 = vl n g j Q := by
  have h := lv_vl hn g j Q 0
  have h2 : (∀ k, k < 8 → ¬ (bt (pG j Q) k = true ∧ bt (0 : Int32) k = true)) ↔ True := ⟨fun _ => trivial, fun _ k _ q => by rw [b_0] at q; cases q.2⟩
  rw [h2, and_true] at h
  cases a : lv n g j Q 0 <;> cases b : vl n g j Q <;> simp_all
/-- the first j of c COUPLES' looks -/
theorem dg_px : ∀ c Q j, j < c → dg c Q j = Q / 9 ^ (c - 1 - j) % 9
  | 0, _, _, h => by omega
  | c + 1, Q, j, h => by
    unfold dg
    by_cases e : j = c
    · rw [if_pos e, e, show c + 1 - 1 - c = 0 by omega]; simp
    · rw [if_neg e, dg_px c (Q / 9) j (by omega), Nat.div_div_eq_div_mul, show c + 1 - 1 - j = (c - 1 - j) + 1 by omega, Nat.pow_succ, Nat.mul_comm 9]
theorem vl_px {n : Nat} {g : Int32} : ∀ d j Q, vl n g (j + d) Q = true → vl n g j (Q / 9 ^ d) = true
  | 0, j, Q, h => by simpa using h
  | d + 1, j, Q, h => by
    have h1 : vl n g (j + d + 1) Q = true := h
    unfold vl at h1
    rw [Bool.and_eq_true] at h1
    have := vl_px d j (Q / 9) h1.1
    rw [Nat.div_div_eq_div_mul] at this
    rw [Nat.pow_succ, Nat.mul_comm]; exact this
theorem px_div (Q : Nat) {c j : Nat} (h : j < c) : Q / 9 ^ (c - (j + 1)) / 9 = Q / 9 ^ (c - j) := by
  rw [Nat.div_div_eq_div_mul, ← Nat.pow_succ, Nat.succ_eq_add_one, show c - (j + 1) + 1 = c - j by omega]
/-! what follows of a row -/
def gW (C : SV) (n : Nat) : Int32 := flP n (C.2.1 5) (C.2.1 1) (C.2.1 2) 0
def jT (C : SV) (n c Q : Nat) : Nat → Int32 := thP (pS C c Q) (C.2.1 3) (gW C n ||| pG c Q) n
def jG (C : SV) (n c Q : Nat) : Int32 := flP n (C.2.1 5) (jT C n c Q) (pW C c Q) (gW C n)
def jS (C : SV) (n c Q : Nat) : Int32 := sumP (fun t => if bt (jG C n c Q) t then 0 else jT C n c Q t) n
def thr (n : Nat) (g : Int32) : Int32 := (shl 1 (nI n) - 1) &&& (g ^^^ (-1))
def jM (C : SV) (n c Q : Nat) : Nat := fa_cnt (bt (thr n (jG C n c Q))) 8
def bet (C : SV) (n c Q : Nat) (x y : Int32) : Bool := decide (x < nI (jM C n c Q)) || (decide (nI (jM C n c Q) = x) && !decide (jS C n c Q ≤ y))
/-- most THINGS, most SOLID, fewest looks, the best row, behind the rows below k -/
def ac (C : SV) (n c : Nat) : Nat → (Int32 × Int32) × Int32 × Nat
  | 0 => ((-1, -1), 1000000, 0)
  | k + 1 => if vl n (gW C n) c k then
      ((if bet C n c k (ac C n c k).1.1 (ac C n c k).1.2 then (nI (jM C n c k), jS C n c k) else (ac C n c k).1), (if jG C n c k = gW C n then fX10_lesser (ac C n c k).2.1 (nI (pN c k)) else (ac C n c k).2.1), (if bet C n c k (ac C n c k).1.1 (ac C n c k).1.2 then k else (ac C n c k).2.2))
    else ac C n c k
theorem ac_no {C : SV} {n c k : Nat} (h : vl n (gW C n) c k = false) : ac C n c (k + 1) = ac C n c k := by
  rw [ac, if_neg (by rw [h]; decide)]
theorem ac_skip {C : SV} {n c a : Nat} : ∀ d, (∀ k, a ≤ k → k < a + d → vl n (gW C n) c k = false) → ac C n c (a + d) = ac C n c a
  | 0, _ => rfl
  | d + 1, h => by
    rw [show a + (d + 1) = (a + d) + 1 by omega, ac_no (h (a + d) (by omega) (by omega)), ac_skip d (fun k k1 k2 => h k k1 (by omega))]
/-- behind a judged row -/
def AJ (C : SV) (n c k : Nat) (a a' : (Int32 × Int32) × Int32 × Nat) : Prop :=
  ((bet C n c k a.1.1 a.1.2 = true ∧ a'.1 = (nI (jM C n c k), jS C n c k) ∧ a'.2.2 = k) ∨ (bet C n c k a.1.1 a.1.2 = false ∧ a'.1 = a.1 ∧ a'.2.2 = a.2.2)) ∧
  ((jG C n c k = gW C n ∧ a'.2.1 = fX10_lesser a.2.1 (nI (pN c k))) ∨ (¬ jG C n c k = gW C n ∧ a'.2.1 = a.2.1))
theorem ac_yes {C : SV} {n c k : Nat} (h : vl n (gW C n) c k = true) : AJ C n c k (ac C n c k) (ac C n c (k + 1)) := by
  have e : ac C n c (k + 1) = ((if bet C n c k (ac C n c k).1.1 (ac C n c k).1.2 then (nI (jM C n c k), jS C n c k) else (ac C n c k).1), (if jG C n c k = gW C n then fX10_lesser (ac C n c k).2.1 (nI (pN c k)) else (ac C n c k).2.1), (if bet C n c k (ac C n c k).1.1 (ac C n c k).1.2 then k else (ac C n c k).2.2)) := by rw [ac, if_pos h]
  rw [e]
  refine ⟨?_, ?_⟩
  · cases b : bet C n c k (ac C n c k).1.1 (ac C n c k).1.2
    · exact Or.inr ⟨rfl, rfl, rfl⟩
    · exact Or.inl ⟨rfl, rfl, rfl⟩
  · by_cases b : jG C n c k = gW C n
    · exact Or.inl ⟨b, if_pos b⟩
    · exact Or.inr ⟨b, if_neg b⟩
theorem t106 : (1000000 : Int32) = nI 1000000 := rfl
theorem les_nI {p q : Nat} (hp : p < 2 ^ 31) (hq : q < 2 ^ 31) : fX10_lesser (nI p) (nI q) = nI (min p q) := by
  by_cases h : p ≤ q
  · rw [les_l (nI_le h hq), Nat.min_eq_left h]
  · rw [les_r (nI_ge (by omega) hp), Nat.min_eq_right (by omega)]
theorem ac_w (C : SV) (n : Nat) {c : Nat} (hc : c ≤ 4) : ∀ k, ∃ p, (p ≤ 4 ∨ p = 1000000) ∧ (ac C n c k).2.1 = nI p
  | 0 => ⟨1000000, Or.inr rfl, rfl⟩
  | k + 1 => by
    obtain ⟨p, hp, e⟩ := ac_w C n hc k
    cases hv : vl n (gW C n) c k
    · rw [ac_no hv]; exact ⟨p, hp, e⟩
    · have hN := pN_le c k
      rcases (ac_yes hv).2 with ⟨-, q⟩ | ⟨-, q⟩
      · rw [q, e, les_nI (by omega) (by omega)]
        exact ⟨min p (pN c k), by omega, rfl⟩
      · rw [q]; exact ⟨p, hp, e⟩
theorem ac_x (C : SV) (n : Nat) {c k : Nat} (h : vl n (gW C n) c k = true) : ¬ (ac C n c (k + 1)).1.1 = -1 := by
  have hM : jM C n c k ≤ 8 := fa_cnt_le _ _
  rcases (ac_yes h).1 with ⟨-, q, -⟩ | ⟨b, q, -⟩
  · rw [q]; exact nI_m1 (by omega)
  · rw [q]
    intro e
    have b2 : (ac C n c k).1.1 < nI (jM C n c k) := by rw [e, fa_lt, nI_toInt (by omega), m1t]; omega
    unfold bet at b
    rw [decide_eq_true b2] at b
    cases b
/-- nobody looks at anything: that row can always be -/
theorem vl_all8 (n : Nat) (g : Int32) : ∀ c, vl n g c (9 ^ c - 1) = true
  | 0 => rfl
  | c + 1 => by
    have h1 : 0 < 9 ^ c := Nat.pow_pos (by decide)
    have e : 9 ^ (c + 1) - 1 = 9 * (9 ^ c - 1) + 8 := by rw [Nat.pow_succ]; omega
    unfold vl
    rw [e, show (9 * (9 ^ c - 1) + 8) / 9 = 9 ^ c - 1 by omega, show (9 * (9 ^ c - 1) + 8) % 9 = 8 by omega, vl_all8 n g c]; rfl
/-- a row that can't be, in its first COUPLES, can't be -/
theorem vl_blk {n : Nat} {g : Int32} {j d Q k : Nat} (h : vl n g j Q = false) (h1 : Q * 9 ^ d ≤ k) (h2 : k < (Q + 1) * 9 ^ d) : vl n g (j + d) k = false := by
  cases hv : vl n g (j + d) k
  · rfl
  · have := vl_px d j k hv
    rw [show k / 9 ^ d = Q from Nat.div_eq_of_lt_le h1 h2, h] at this
    cases this
