/-! ===== text: words ===== -/
def pn (a : Nat → Nat) : Nat → Nat
  | 0 => 0
  | k + 1 => 256 * pn a k + a k
theorem pn_inj {a c : Nat → Nat} : ∀ n m, (∀ i, i < n → 1 ≤ a i ∧ a i < 256) → (∀ i, i < m → 1 ≤ c i ∧ c i < 256) → pn a n = pn c m → n = m ∧ ∀ i, i < n → a i = c i
  | 0, 0, _, _, _ => ⟨rfl, fun i hi => by omega⟩
  | 0, m + 1, _, hc, h => by
    have := hc m (by omega)
    have h2 : (0 : Nat) = 256 * pn c m + c m := h
    omega
  | n + 1, 0, ha, _, h => by
    have := ha n (by omega)
    have h2 : 256 * pn a n + a n = 0 := h
    omega
  | n + 1, m + 1, ha, hc, h => by
    have h1 := ha n (by omega)
    have h2 := hc m (by omega)
    have h3 : 256 * pn a n + a n = 256 * pn c m + c m := h
    have h4 : pn a n = pn c m ∧ a n = c m := by omega
    obtain ⟨e, h5⟩ := pn_inj n m (fun i hi => ha i (by omega)) (fun i hi => hc i (by omega)) h4.1
    subst e
    refine ⟨rfl, fun i hi => ?_⟩
    by_cases q : i = n
    · rw [q]; exact h4.2
    · exact h5 i (by omega)
theorem pn_cong {a c : Nat → Nat} : ∀ n, (∀ i, i < n → a i = c i) → pn a n = pn c n
  | 0, _ => rfl
  | n + 1, h => by
    show 256 * pn a n + a n = 256 * pn c n + c n
    rw [pn_cong n (fun i hi => h i (by omega)), h n (by omega)]
theorem pn_lt {a : Nat → Nat} : ∀ n, (∀ i, i < n → a i < 256) → pn a n < 256 ^ n
  | 0, _ => Nat.pow_pos (a := 256) (n := 0) (by decide)
  | n + 1, h => by
    have h1 := pn_lt n (fun i hi => h i (by omega))
    have h2 := h n (by omega)
    show 256 * pn a n + a n < 256 ^ (n + 1)
    rw [Nat.pow_succ]; omega
theorem l8 : ((8 : Int32).toInt64 &&& 63) = 8 := by decide +kernel
theorem pk_step (m : Nat) {x : Nat} (hx : x < 256) : lshl (Int64.ofNat m) 8 ||| (nI x).toInt64 = Int64.ofNat (256 * m + x) := by
  unfold lshl
  rw [l8, nI_l (by omega)]
  apply Int64.toBitVec_inj.mp
  rw [Int64.toBitVec_or, Int64.toBitVec_shiftLeft]
  show (BitVec.ofNat 64 m <<< ((8 : Int64).toBitVec.smod 64).toNat) ||| BitVec.ofNat 64 x = BitVec.ofNat 64 (256 * m + x)
  have e8 : ((8 : Int64).toBitVec.smod 64).toNat = 8 := by decide +kernel
  rw [e8]
  apply BitVec.eq_of_getLsbD_eq
  intro i hi
  rw [BitVec.getLsbD_or, BitVec.getLsbD_shiftLeft]
  simp only [BitVec.getLsbD_ofNat, hi, decide_true, Bool.true_and]
  rw [show 256 * m + x = 2 ^ 8 * m + x by omega, Nat.testBit_two_pow_mul_add m (by omega : x < 2 ^ 8) i]
  by_cases q : i < 8
  · simp [q]
  · have : x.testBit i = false := Nat.testBit_lt_two_pow (Nat.lt_of_lt_of_le hx (Nat.pow_le_pow_right (n := 2) (by omega) (by omega : 8 ≤ i)))
    have h3 : i - 8 < 64 := by omega
    simp [q, this, h3]
/-- the bytes as numbers -/
def bN (D : Nat → Int32) (b : Nat) : Nat → Nat := fun i => (D (b + i)).toNatClampNeg
theorem pk_n {D : Nat → Int32} {b : Nat} : ∀ n, (∀ i, i < n → 0 ≤ (D (b + i)).toInt ∧ (D (b + i)).toInt ≤ 255) → pkW D b n = Int64.ofNat (pn (bN D b) n)
  | 0, _ => rfl
  | n + 1, h => by
    obtain ⟨h1, h2⟩ := h n (by omega)
    obtain ⟨x, hx, e⟩ := vp_in_of (x := D (b + n)) (n := 256) (vp_in_iff.mpr ⟨h1, by omega⟩) (by decide)
    have eb : bN D b n = x := by unfold bN; rw [e, nI_clamp (by omega)]
    show lshl (pkW D b n) 8 ||| Int32.toInt64 (D (b + n)) = Int64.ofNat (256 * pn (bN D b) n + bN D b n)
    rw [pk_n n (fun i hi => h i (by omega)), e, eb, pk_step _ hx]
theorem ofN_inj {a b : Nat} (ha : a < 2 ^ 64) (hb : b < 2 ^ 64) (h : Int64.ofNat a = Int64.ofNat b) : a = b := by
  have h2 : BitVec.ofNat 64 a = BitVec.ofNat 64 b := Int64.toBitVec_inj.mpr h
  have h3 := congrArg BitVec.toNat h2
  rw [BitVec.toNat_ofNat, BitVec.toNat_ofNat, Nat.mod_eq_of_lt ha, Nat.mod_eq_of_lt hb] at h3
  exact h3
/-! the words: sort, start, length, packed -/
def cW (q i : Nat) : Int32 := (strB.getD q []).getD i 0
def wS (k : Nat) : Nat := [0, 6, 12, 17, 24, 29, 35, 40, 46, 0, 5, 11, 17, 24, 0, 9, 15, 0, 7, 16].getD k 0
def wLn (k : Nat) : Nat := [5, 5, 4, 6, 4, 5, 4, 5, 5, 4, 5, 5, 6, 4, 8, 5, 4, 6, 8, 5].getD k 0
def wQ4 (k : Nat) : Nat := if k < 9 then 0 else if k < 14 then 1 else if k < 17 then 2 else 3
def wLo (q : Nat) : Nat := [0, 9, 14, 17].getD q 0
def wHi (q : Nat) : Nat := [9, 14, 17, 20].getD q 0
def wC (k : Nat) : Int64 := [499967946343, 491328337011, 1885434984, 109330362821733, 1818584692, 491394656372, 1751215716, 465625113971, 465625113956, 1819242347, 512970876019, 482737218405, 120299659095922, 1752135026, 8319400174365927540, 491394656372, 1818584692, 119225866478948, 8316012630647337587, 495874305132].getD k 0
def wB (k : Nat) : Nat → Nat := fun i => (cW (wQ4 k) (wS k + i)).toNatClampNeg
/-- the word at b, e is the word k -/
def mtW (D : Nat → Int32) (b e k : Nat) : Bool := decide (e - b = wLn k) && decide (∀ i, i < wLn k → cW (wQ4 k) (wS k + i) = D (b + i))
theorem w_ok : ∀ k, k < 20 → Int64.ofNat (pn (wB k) (wLn k)) = wC k ∧ 4 ≤ wLn k ∧ wLn k ≤ 8 ∧ ∀ i, i < wLn k → 97 ≤ wB k i ∧ wB k i ≤ 122 ∧ cW (wQ4 k) (wS k + i) = nI (wB k i) := by decide +kernel
theorem w_ne0 : ∀ k, k < 20 → ¬ wC k = 0 := by decide +kernel
section WD
variable {D : Nat → Int32} {L p : Nat}
theorem isA_b {x : Int32} (h : isA x = true) : 97 ≤ x.toInt ∧ x.toInt ≤ 122 := by
  unfold isA at h
  rw [Bool.and_eq_true, decide_eq_true_eq, decide_eq_true_eq, fa_le, fa_le] at h
  exact h
theorem tW_in (h : tK D L p = 1) : ∀ i, i < tE D L p - tB D L p → isA (D (tB D L p + i)) = true := by
  intro i hi
  have c : tB D L p < L := tK_lt (by omega)
  have ca : isA (D (tB D L p)) = true := by
    unfold tK at h
    rw [if_pos c] at h
    cases q : isA (D (tB D L p))
    · rw [q] at h
      simp only [Bool.false_eq_true, if_false] at h
      split at h
      · split at h <;> omega
      · split at h <;> omega
    · rfl
  have eE : tE D L p = rn isA D L (tB D L p) := by unfold tE; rw [if_pos c, if_pos ca]
  rw [eE] at hi
  exact rn_in (L := L) (p := tB D L p) (by omega) (by omega)
theorem tW_iff (h : tK D L p = 1) {k : Nat} (hk : k < 20) : tW D L p = wC k ↔ mtW D (tB D L p) (tE D L p) k = true := by
  obtain ⟨w1, w2, w3, w4⟩ := w_ok k hk
  have hin := tW_in h
  generalize hb : tB D L p = b at *
  generalize he : tE D L p = e at *
  have hA : ∀ i, i < e - b → 97 ≤ (D (b + i)).toInt ∧ (D (b + i)).toInt ≤ 122 := fun i hi => isA_b (hin i hi)
  have hx : ∀ i, i < e - b → D (b + i) = nI (bN D b i) ∧ 97 ≤ bN D b i ∧ bN D b i ≤ 122 := fun i hi => by
    obtain ⟨a1, a2⟩ := hA i hi
    obtain ⟨x, hx, ex⟩ := vp_in_of (x := D (b + i)) (n := 256) (vp_in_iff.mpr ⟨by omega, by omega⟩) (by decide)
    have eb : bN D b i = x := by unfold bN; rw [ex, nI_clamp (by omega)]
    rw [ex, nI_toInt (by omega)] at a1 a2
    rw [eb]; exact ⟨ex, by omega, by omega⟩
  unfold tW mtW
  rw [hb, he, Bool.and_eq_true, decide_eq_true_eq, decide_eq_true_eq]
  by_cases c8 : e - b ≤ 8
  · rw [if_pos c8, pk_n _ (fun i hi => by have := hA i hi; omega), ← w1]
    constructor
    · intro q
      have p1 : pn (bN D b) (e - b) < 2 ^ 64 := Nat.lt_of_lt_of_le (pn_lt _ (fun i hi => by have := (hx i hi).2.2; omega)) (Nat.le_trans (Nat.pow_le_pow_right (by decide) c8) (by decide))
      have p2 : pn (wB k) (wLn k) < 2 ^ 64 := Nat.lt_of_lt_of_le (pn_lt _ (fun i hi => by have := (w4 i hi).2.1; omega)) (Nat.le_trans (Nat.pow_le_pow_right (by decide) w3) (by decide))
      obtain ⟨q1, q2⟩ := pn_inj _ _ (fun i hi => by have := (hx i hi).2; omega) (fun i hi => by have := w4 i hi; omega) (ofN_inj p1 p2 q)
      refine ⟨q1, fun i hi => ?_⟩
      rw [(w4 i hi).2.2, (hx i (by omega)).1, q2 i (by omega)]
    · rintro ⟨q1, q2⟩
      rw [q1]
      congr 1
      refine pn_cong _ (fun i hi => ?_)
      have := q2 i hi
      unfold wB bN
      rw [this]
  · rw [if_neg c8]
    constructor
    · intro q; exact absurd q.symm (w_ne0 k hk)
    · rintro ⟨q1, -⟩; omega
end WD
/-! the class looks a word up -/
section WU
variable {F : Nat → Int32} {L : Nat} {z : AH} {ρ : RV} {S : SV} {p : Nat}
theorem sCh_e {q i : Nat} (hq : q < 4) (hi : i < strL.getD q 0) (h : i < 2 ^ 31) : sCh q (nI i) = some (cW q i) := by
  unfold sCh
  rw [nI_clamp h, if_pos ⟨hq, fun e => by rcases e with e | e; exact nI_pos h e; omega⟩]; rfl
theorem c_isTok (h : RT F L z) (hρ : ρ.1 7 = some 17) (h8 : S.1 8 = nI L) {b e : Nat} (h9 : S.1 9 = nI e) (h11 : S.1 11 = nI b) (hb : b ≤ e) (he : e ≤ L) {q s n : Nat} (hq : q < 4) (hs : s + n ≤ strL.getD q 0) (h31 : strL.getD q 0 ≤ 60) : fX4_isToken 38 q (nI s) (nI (s + n)) (wr 3 38 ρ S z) = some (if decide (e - b = n) && decide (∀ i, i < n → cW q (s + i) = D8 F (b + i)) then 1 else 0) := by
  have hz := s38 h
  have hL := h.2.1
  unfold fX4_isToken
  rw [if_pos (isO_rd (rd_wr hz)), gI_rd (rd_wr hz) (k := 9) rfl, gI_rd (rd_wr hz) (k := 11) rfl, h9, h11]
  simp only [Option.bind_some]
  rw [pk_sub (show s ≤ s + n by omega), pk_sub hb, show s + n - s = n by omega]
  by_cases c : e - b = n
  · rw [if_pos (by rw [c]), decide_eq_true c, Bool.true_and]
    have key := lpF (fun f i => fX4_isToken_20 (wr 3 38 ρ S z) f 38 q (nI s) (nI (s + n)) (nI (s + i))) id (fun i => !decide (cW q (s + i) = D8 F (b + i))) (some 1) (fun _ => some 0) n ?_ ?_ ?_ FU (by rw [FUn]; omega)
    · replace key : fX4_isToken_20 (wr 3 38 ρ S z) FU 38 q (nI s) (nI (s + n)) (nI s) = if fa_first (fun i => !decide (cW q (s + i) = D8 F (b + i))) n < n then some 0 else some 1 := key
      rw [key]
      by_cases g : fa_first (fun i => !decide (cW q (s + i) = D8 F (b + i))) n < n
      · have h1 := fa_first_yes (fun i => !decide (cW q (s + i) = D8 F (b + i))) n g
        have h2 : ¬ ∀ i, i < n → cW q (s + i) = D8 F (b + i) := fun hh => by
          have := hh _ g
          simp [this] at h1
        rw [if_pos g, decide_eq_false h2]; rfl
      · have h2 : ∀ i, i < n → cW q (s + i) = D8 F (b + i) := fun i hi => by
          have := fa_first_le (fun i => !decide (cW q (s + i) = D8 F (b + i))) n
          have := fa_first_no (fun i => !decide (cW q (s + i) = D8 F (b + i))) n i (by omega)
          simpa using this
        rw [if_neg g, decide_eq_true h2]; rfl
    · intro i hi hp f
      replace hp : cW q (s + i) = D8 F (b + i) := by simpa using hp
      show bX4_isToken_20 _ _ _ _ _ _ _ = _
      unfold bX4_isToken_20
      rw [id, if_neg (nI_ge (by omega) (by omega)), sCh_e hq (by omega) (by omega), gI_rd (rd_wr hz) (k := 11) rfl, h11]
      simp only [Option.bind_some]
      rw [nI_add, pk_sub (by omega), show b + (s + i) - s = b + i by omega, c_byte h hρ h8 _ (by omega), if_pos (by omega)]
      simp only [Option.bind_some]
      rw [if_pos hp, nmE, ← nI_succ, Nat.add_assoc]; rfl
    · intro i hi hp f
      replace hp : ¬ cW q (s + i) = D8 F (b + i) := by simpa using hp
      show bX4_isToken_20 _ _ _ _ _ _ _ = _
      unfold bX4_isToken_20
      rw [id, if_neg (nI_ge (by omega) (by omega)), sCh_e hq (by omega) (by omega), gI_rd (rd_wr hz) (k := 11) rfl, h11]
      simp only [Option.bind_some]
      rw [nI_add, pk_sub (by omega), show b + (s + i) - s = b + i by omega, c_byte h hρ h8 _ (by omega), if_pos (by omega)]
      simp only [Option.bind_some]
      rw [if_neg hp]
    · intro f
      show bX4_isToken_20 _ _ _ _ _ _ _ = _
      unfold bX4_isToken_20
      rw [id, if_pos (nI_le (Nat.le_refl _) (by omega))]
  · rw [if_neg (fun e1 => c ((nI_eq (by omega) (by omega)).mp e1.symm)), decide_eq_false c]; rfl
theorem c_kw_word (h : RT F L z) (hρ : ρ.1 7 = some 17) (h8 : S.1 8 = nI L) {b e : Nat} (h9 : S.1 9 = nI e) (h11 : S.1 11 = nI b) (hb : b ≤ e) (he : e ≤ L) {q s n : Nat} (hq : q < 4) (hs : s + n < strL.getD q 0) (h31 : strL.getD q 0 ≤ 60) (hc : ∀ i, i < n → ¬ cW q (s + i) = 32) (h32 : cW q (s + n) = 32) (l2 : Int32) : ∀ f, fX4_kindOfWord_22 (wr 3 38 ρ S z) (f + (n + 1)) 38 q l2 (nI s) (nI s) = if (decide (e - b = n) && decide (∀ i, i < n → cW q (s + i) = D8 F (b + i))) = true then some l2 else fX4_kindOfWord_22 (wr 3 38 ρ S z) f 38 q (l2 + 1) (nI (s + (n + 1))) (nI (s + (n + 1))) := by
  have hln : sLn q = some (nI (strL.getD q 0)) := by unfold sLn; rw [if_pos hq]; rfl
  have step : ∀ i, i ≤ n → ∀ f, fX4_kindOfWord_22 (wr 3 38 ρ S z) (f + i) 38 q l2 (nI s) (nI s) = fX4_kindOfWord_22 (wr 3 38 ρ S z) f 38 q l2 (nI s) (nI (s + i)) := by
    intro i
    induction i with
    | zero => intro _ f; rfl
    | succ i ih =>
      intro hi f
      rw [show f + (i + 1) = (f + 1) + i by omega, ih (by omega) (f + 1)]
      show bX4_kindOfWord_22 _ _ _ _ _ _ _ = _
      unfold bX4_kindOfWord_22
      rw [hln]
      simp only [Option.bind_some]
      rw [if_neg (nI_ge (by omega) (by omega)), sCh_e hq (by omega) (by omega)]
      simp only [Option.bind_some]
      rw [if_neg (hc i (by omega)), nmE, ← nI_succ, Nat.add_assoc]
  intro f
  rw [show f + (n + 1) = (f + 1) + n by omega, step n (Nat.le_refl _) (f + 1)]
  show bX4_kindOfWord_22 _ _ _ _ _ _ _ = _
  unfold bX4_kindOfWord_22
  rw [hln]
  simp only [Option.bind_some]
  rw [if_neg (nI_ge (by omega) (by omega)), sCh_e hq (by omega) (by omega)]
  simp only [Option.bind_some]
  rw [if_pos h32, c_isTok h hρ h8 h9 h11 hb he hq (by omega) h31]
  simp only [Option.bind_some]
  cases g : (decide (e - b = n) && decide (∀ i, i < n → cW q (s + i) = D8 F (b + i)))
  · rw [if_pos (by decide), if_neg (by decide), nmE, nmE, nmE, ← nI_succ, Nat.add_assoc]
  · rw [if_neg (by decide), if_pos rfl]
theorem w_sp : ∀ k, k < 20 → (wQ4 k < 4 ∧ wS k + wLn k < strL.getD (wQ4 k) 0 ∧ strL.getD (wQ4 k) 0 ≤ 60) ∧ (∀ i, i < wLn k → ¬ cW (wQ4 k) (wS k + i) = 32) ∧ cW (wQ4 k) (wS k + wLn k) = 32 := by decide +kernel
/-- one word, by its kind -/
theorem c_kw1 (h : RT F L z) (hρ : ρ.1 7 = some 17) (h8 : S.1 8 = nI L) {b e : Nat} (h9 : S.1 9 = nI e) (h11 : S.1 11 = nI b) (hb : b ≤ e) (he : e ≤ L) {k : Nat} (hk : k < 20) (f : Nat) : fX4_kindOfWord_22 (wr 3 38 ρ S z) (f + (wLn k + 1)) 38 (wQ4 k) (nI k) (nI (wS k)) (nI (wS k)) = if mtW (D8 F) b e k = true then some (nI k) else fX4_kindOfWord_22 (wr 3 38 ρ S z) f 38 (wQ4 k) (nI (k + 1)) (nI (wS k + (wLn k + 1))) (nI (wS k + (wLn k + 1))) := by
  obtain ⟨⟨w1, w2, w3⟩, w4, w5⟩ := w_sp k hk
  rw [nI_succ k]
  exact c_kw_word h hρ h8 h9 h11 hb he w1 w2 w3 w4 w5 (nI k) f
theorem w_nx : ∀ q, q < 4 → ∀ k, k < 20 → wLo q ≤ k → k + 1 < wHi q → wS k + (wLn k + 1) = wS (k + 1) ∧ wQ4 (k + 1) = q ∧ wQ4 k = q := by decide +kernel
theorem w_q : ∀ q, q < 4 → wHi q ≤ 20 ∧ wLo q < wHi q ∧ (∀ k, k < 20 → wLo q ≤ k → k < wHi q → wQ4 k = q) ∧ wS (wLo q) = 0 ∧ wS (wHi q - 1) + (wLn (wHi q - 1) + 1) = strL.getD q 0 ∧ strL.getD q 0 ≤ 60 := by decide +kernel
theorem c_kws (h : RT F L z) (hρ : ρ.1 7 = some 17) (h8 : S.1 8 = nI L) {b e : Nat} (h9 : S.1 9 = nI e) (h11 : S.1 11 = nI b) (hb : b ≤ e) (he : e ≤ L) {q : Nat} (hq : q < 4) : ∀ d k, k + d = wHi q → wLo q ≤ k → 0 < d → (∀ j, wLo q ≤ j → j < k → mtW (D8 F) b e j = false) → ∀ f, 10 * d < f → (∃ j, wLo q ≤ j ∧ j < wHi q ∧ fX4_kindOfWord_22 (wr 3 38 ρ S z) f 38 q (nI k) (nI (wS k)) (nI (wS k)) = some (nI j) ∧ mtW (D8 F) b e j = true) ∨ (fX4_kindOfWord_22 (wr 3 38 ρ S z) f 38 q (nI k) (nI (wS k)) (nI (wS k)) = some (-1) ∧ ∀ j, wLo q ≤ j → j < wHi q → mtW (D8 F) b e j = false) := by
  obtain ⟨v1, v2, v3, v4, v5, v6⟩ := w_q q hq
  intro d
  induction d with
  | zero => intro k _ _ h0; omega
  | succ d ih =>
    intro k hk hlo _ hno f hf
    obtain ⟨-, w2, w3, -⟩ := w_ok k (by omega)
    have e1 := c_kw1 h hρ h8 h9 h11 hb he (k := k) (by omega) (f - (wLn k + 1))
    rw [show f - (wLn k + 1) + (wLn k + 1) = f by omega, v3 k (by omega) hlo (by omega)] at e1
    cases g : mtW (D8 F) b e k
    · rw [g, if_neg (by decide)] at e1
      have hno' : ∀ j, wLo q ≤ j → j < k + 1 → mtW (D8 F) b e j = false := fun j j1 j2 => by
        by_cases q2 : j = k
        · rw [q2]; exact g
        · exact hno j j1 (by omega)
      rw [e1]
      by_cases c : d = 0
      · right
        have ek : k = wHi q - 1 := by omega
        refine ⟨?_, fun j j1 j2 => hno' j j1 (by omega)⟩
        obtain ⟨f', ef⟩ : ∃ f', f - (wLn k + 1) = f' + 1 := ⟨f - (wLn k + 1) - 1, by omega⟩
        rw [ef]
        show bX4_kindOfWord_22 _ _ _ _ _ _ _ = _
        unfold bX4_kindOfWord_22 sLn
        rw [if_pos hq]
        simp only [Option.bind_some]
        rw [if_pos (show Int32.ofNat (strL.getD q 0) ≤ nI (wS k + (wLn k + 1)) by rw [ek, v5]; exact nI_le (Nat.le_refl _) (by omega))]
      · obtain ⟨n1, -, -⟩ := w_nx q hq k (by omega) hlo (by omega)
        rw [n1]
        exact ih (k + 1) (by omega) (by omega) (by omega) hno' _ (by omega)
    · rw [g, if_pos rfl] at e1
      exact Or.inl ⟨k, hlo, by omega, e1, g⟩
theorem wOf_e : ∀ q, q < 4 → fX4_wordsOf (nI q) = q ∧ sIx 0 (nI q) = some (nI (wLo q)) := by decide +kernel
/-- the kind of the word at hand, in both -/
theorem kw_both (h : RT F L z) (hρ : ρ.1 7 = some 17) (h8 : S.1 8 = nI L) {q : Nat} (hq : q < 4) (h6 : S.1 6 = nI q) (hp : p ≤ L) (hS : CS (D8 F) L p S) (hK : tK (D8 F) L p = 1) : (∃ k, wLo q ≤ k ∧ k < wHi q ∧ fX4_kindOfWord 38 (wr 3 38 ρ S z) = some (nI k) ∧ tW (D8 F) L p = wC k ∧ tB (D8 F) L p + 4 ≤ tE (D8 F) L p) ∨ (fX4_kindOfWord 38 (wr 3 38 ρ S z) = some (-1) ∧ ∀ k, wLo q ≤ k → k < wHi q → ¬ tW (D8 F) L p = wC k) := by
  have hz := s38 h
  have hL := h.2.1
  obtain ⟨v1, v2, v3, v4, v5, v6⟩ := w_q q hq
  obtain ⟨o1, o2⟩ := wOf_e q hq
  obtain ⟨s9, s10, s11, s12⟩ := hS
  have hE := tE_le (D := D8 F) hp
  have e0 : fX4_kindOfWord 38 (wr 3 38 ρ S z) = fX4_kindOfWord_22 (wr 3 38 ρ S z) FU 38 q (nI (wLo q)) (nI (wS (wLo q))) (nI (wS (wLo q))) := by
    unfold fX4_kindOfWord
    rw [if_pos (isO_rd (rd_wr hz)), gI_rd (rd_wr hz) (k := 6) rfl, h6]
    simp only [Option.bind_some]
    rw [o2, o1, v4]; rfl
  rw [e0]
  rcases c_kws h hρ h8 s9 s11 tE_ge hE hq (wHi q - wLo q) (wLo q) (by omega) (Nat.le_refl _) (by omega) (fun j j1 j2 => by omega) FU (by rw [FUn]; omega) with ⟨k, k1, k2, k3, k4⟩ | ⟨k3, k4⟩
  · refine Or.inl ⟨k, k1, k2, k3, (tW_iff hK (by omega)).mpr k4, ?_⟩
    unfold mtW at k4
    rw [Bool.and_eq_true, decide_eq_true_eq] at k4
    have := (w_ok k (by omega)).2.1
    omega
  · refine Or.inr ⟨k3, fun k k1 k2 e => ?_⟩
    have := (tW_iff hK (by omega)).mp e
    rw [k4 k k1 k2] at this; cases this
end WU
