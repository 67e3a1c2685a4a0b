/-! ===== text: bytes and tokens ===== -/
def isW (x : Int32) : Bool := decide (x = 10) || decide (x = 32)
def isA (x : Int32) : Bool := decide ((97 : Int32) ≤ x) && decide (x ≤ 122)
def isD (x : Int32) : Bool := decide ((48 : Int32) ≤ x) && decide (x ≤ 57)
/-- from p on, as long as P -/
def rn (P : Int32 → Bool) (D : Nat → Int32) (L p : Nat) : Nat := p + fa_first (fun k => !P (D (p + k))) (L - p)
def vv (D : Nat → Int32) (b : Nat) : Nat → Int32
  | 0 => 0
  | k + 1 => 10 * vv D b k + D (b + k) - 48
def tB (D : Nat → Int32) (L p : Nat) : Nat := rn isW D L p
def tE (D : Nat → Int32) (L p : Nat) : Nat := if tB D L p < L then (if isA (D (tB D L p)) then rn isA D L (tB D L p) else if isD (D (tB D L p)) then rn isD D L (tB D L p) else tB D L p + 1) else tB D L p
def tK (D : Nat → Int32) (L p : Nat) : Nat := if tB D L p < L then (if isA (D (tB D L p)) then 1 else if isD (D (tB D L p)) then (if tE D L p - tB D L p ≤ 2 then 2 else 4) else if D (tB D L p) = 59 then 3 else 4) else 0
def tV (D : Nat → Int32) (L p : Nat) : Int32 := vv D (tB D L p) (tE D L p - tB D L p)
/-- a word, packed -/
def pkW (D : Nat → Int32) (b : Nat) : Nat → Int64
  | 0 => 0
  | k + 1 => lshl (pkW D b k) 8 ||| Int32.toInt64 (D (b + k))
def tW (D : Nat → Int32) (L p : Nat) : Int64 := if tE D L p - tB D L p ≤ 8 then pkW D (tB D L p) (tE D L p - tB D L p) else 0
section RN
variable {P : Int32 → Bool} {D : Nat → Int32} {L p : Nat}
theorem rn_ge : p ≤ rn P D L p := by unfold rn; omega
theorem rn_le (h : p ≤ L) : rn P D L p ≤ L := by
  have := fa_first_le (fun k => !P (D (p + k))) (L - p)
  unfold rn; omega
theorem rn_in {k : Nat} (h1 : p ≤ k) (h2 : k < rn P D L p) : P (D k) = true := by
  have := fa_first_no (fun k => !P (D (p + k))) (L - p) (k - p) (by unfold rn at h2; omega)
  rw [show p + (k - p) = k by omega] at this
  simpa using this
theorem rn_gt (h : p < L) (hp : P (D p) = true) : p < rn P D L p := by
  refine Classical.byContradiction (fun q => ?_)
  have e : fa_first (fun k => !P (D (p + k))) (L - p) = 0 := by unfold rn at q; omega
  have := fa_first_yes (fun k => !P (D (p + k))) (L - p) (by omega)
  rw [e] at this
  simp [hp] at this
theorem tB_ge : p ≤ tB D L p := rn_ge
theorem tB_le (h : p ≤ L) : tB D L p ≤ L := rn_le h
theorem tE_ge : tB D L p ≤ tE D L p := by
  unfold tE
  split
  · split
    · exact rn_ge
    · split
      · exact rn_ge
      · omega
  · omega
theorem tE_le (h : p ≤ L) : tE D L p ≤ L := by
  have := tB_le (D := D) h
  unfold tE
  split
  · rename_i h1
    split
    · exact rn_le this
    · split
      · exact rn_le this
      · omega
  · omega
theorem tE_gt (h : tB D L p < L) : tB D L p < tE D L p := by
  unfold tE
  rw [if_pos h]
  split
  · rename_i h1; exact rn_gt h h1
  · split
    · rename_i h1; exact rn_gt h h1
    · omega
theorem tK_0 : tK D L p = 0 ↔ ¬ tB D L p < L := by
  unfold tK
  constructor
  · intro h
    split at h
    · split at h
      · omega
      · split at h
        · split at h <;> omega
        · split at h <;> omega
    · assumption
  · intro h; rw [if_neg h]
theorem tK_lt (h : ¬ tK D L p = 0) : tB D L p < L := Classical.byContradiction (fun q => h (tK_0.mpr q))
end RN
/-- a loop that goes on while a property fails, then ends by one form -/
theorem lpE {β : Type} (G : Nat → Nat → β) (q : Nat → Bool) (E : Nat → β) (N : Nat) (hs : ∀ i, i < N → q i = false → ∀ n, G (n + 1) i = G n (i + 1)) (hx : ∀ i, i < N → q i = true → ∀ n, G (n + 1) i = E i) (he : ∀ n, G (n + 1) N = E N) : ∀ n, N + 1 < n → G n 0 = E (fa_first q N) := by
  intro n hn
  have := lpF G id q (E N) E N hs (fun i hi hq n => hx i hi hq (n + 1)) he n hn
  have h2 : G n 0 = if fa_first q N < N then E (fa_first q N) else E N := this
  rw [h2]
  have := fa_first_le q N
  by_cases c : fa_first q N < N
  · rw [if_pos c]
  · rw [if_neg c, show fa_first q N = N by omega]
theorem isA_e (x : Int32) : fX4_isLetter x = if isA x then 1 else 0 := by
  unfold fX4_isLetter isA
  by_cases h1 : x < 97
  · rw [if_pos h1, decide_eq_false (fa_of_lt h1).2.1]; rfl
  · rw [if_neg h1, decide_eq_true (fa_of_nlt h1)]
    by_cases h2 : (122 : Int32) < x
    · rw [if_pos h2, decide_eq_false (fa_of_lt h2).2.1]; rfl
    · rw [if_neg h2, decide_eq_true (fa_of_nlt h2)]; rfl
theorem isD_e (x : Int32) : fX4_isDigit x = if isD x then 1 else 0 := by
  unfold fX4_isDigit isD
  by_cases h1 : x < 48
  · rw [if_pos h1, decide_eq_false (fa_of_lt h1).2.1]; rfl
  · rw [if_neg h1, decide_eq_true (fa_of_nlt h1)]
    by_cases h2 : (57 : Int32) < x
    · rw [if_pos h2, decide_eq_false (fa_of_lt h2).2.1]; rfl
    · rw [if_neg h2, decide_eq_true (fa_of_nlt h2)]; rfl
theorem isA_m (x : Int32) : fX10_in x 97 122 = if isA x then 1 else 0 := by
  rw [m_in]; unfold isA
  simp only [Bool.and_eq_true, decide_eq_true_eq]
theorem isD_m (x : Int32) : fX10_in x 48 57 = if isD x then 1 else 0 := by
  rw [m_in]; unfold isD
  simp only [Bool.and_eq_true, decide_eq_true_eq]
theorem i01 {b : Bool} : ((if b then (1 : Int32) else 0) = 0) ↔ b = false := by cases b <;> simp
/-! the class -/
/-- the Reader's tape: D, of L bytes -/
def RT (F : Nat → Int32) (L : Nat) (z : AH) : Prop := z[17]? = some (.inl (1, 600, F)) ∧ L ≤ 600 ∧ 44 ≤ z.length
def D8 (F : Nat → Int32) : Nat → Int32 := fun k => F k &&& 255
theorem D8_b (x : Int32) : 0 ≤ (x &&& 255).toInt ∧ (x &&& 255).toInt ≤ 255 := by
  obtain ⟨n, hn, e⟩ := nI_bits (x := x &&& 255) (w := 8) (by omega) (fun i h1 h2 => by rw [b_and, b_255, decide_eq_false (by omega), Bool.and_false])
  rw [e, nI_toInt (by omega)]; omega
theorem D8_m1 (F : Nat → Int32) (k : Nat) : ¬ D8 F k = -1 := fun e => by
  have := (D8_b (F k)).1
  unfold D8 at e
  rw [e, m1t] at this; omega
section RC
variable {F : Nat → Int32} {L : Nat} {z : AH} {ρ : RV} {S : SV}
theorem s38 (h : RT F L z) : 38 + szV 3 ≤ z.length := by rw [s3]; exact h.2.2
theorem c_byte (h : RT F L z) (hρ : ρ.1 7 = some 17) (h8 : S.1 8 = nI L) (q : Nat) (hq : q < 2 ^ 31) : fX4_byteAt 38 (nI q) (wr 3 38 ρ S z) = some (if q < L then D8 F q else -1) := by
  obtain ⟨h1, h2, h3⟩ := id h
  have hz := s38 h
  have hR : RD 3 38 ρ S (wr 3 38 ρ S z) := rd_wr hz
  have hw : RW 1 17 600 F (wr 3 38 ρ S z) := by
    show (wr 3 38 ρ S z)[17]? = _
    rw [wr_out (Or.inl (by omega))]; exact h1
  unfold fX4_byteAt
  rw [if_pos (isO_rd hR), gQ_rd hR (k := 7) rfl, hρ]
  simp only [Option.bind_some, nq]
  rw [if_neg (nI_pos hq), gI_rd hR (k := 8) rfl, h8]
  simp only [Option.bind_some]
  by_cases c : q < L
  · rw [if_neg (nI_ge c (by omega)), if_pos c, gR_rd hR (k := 7) rfl, hρ]
    simp only [Option.bind_some]
    rw [lnI_rw hw]
    simp only [Option.bind_some]
    rw [if_neg (show ¬ Int32.ofNat 600 ≤ nI q from nI_ge (b := 600) (by omega) (by omega)), ixI_rw hw, rA_nI (by omega) (by omega)]
    rfl
  · rw [if_pos (nI_le (by omega) hq), if_neg c]
theorem c_word (h : RT F L z) (hρ : ρ.1 7 = some 17) (h8 : S.1 8 = nI L) {b : Nat} (h9 : S.1 9 = nI b) (hb : b ≤ L) : fX4_readWord 38 (wr 3 38 ρ S z) = some (wr 3 38 ρ (wI (wI S 9 (nI (rn isA (D8 F) L b))) 10 1) z) := by
  have hz := s38 h
  have hL := h.2.1
  have e0 : wI S 9 (nI (b + 0)) = S := wI_same h9
  unfold fX4_readWord
  rw [if_pos (isO_rd (rd_wr hz))]
  have key := lpE (fun f i => fX4_readWord_0 f 38 (wr 3 38 ρ (wI S 9 (nI (b + i))) z)) (fun k => !isA (D8 F (b + k))) (fun i => some (wr 3 38 ρ (wI (wI S 9 (nI (b + i))) 10 1) z)) (L - b) ?_ ?_ ?_ FU (by rw [FUn]; omega)
  · rw [e0] at key; exact key
  · intro i hi hq f
    replace hq : isA (D8 F (b + i)) = true := by simpa using hq
    show bX4_readWord_0 _ _ _ = _
    unfold bX4_readWord_0
    rw [gI_rd (rd_wr hz) (k := 9) rfl, gI_rd (rd_wr hz) (k := 8) rfl, wI_eq, wI_ne (by decide), h8]
    simp only [Option.bind_some]
    rw [if_neg (nI_ge (by omega) (by omega)), c_byte h hρ (by rw [wI_ne (by decide)]; exact h8) _ (by omega), if_pos (by omega)]
    simp only [Option.bind_some]
    rw [isA_e, if_neg (fun e => by rw [i01.mp e] at hq; cases hq), pF_int hz rfl, wI_wI]
    simp only [Option.bind_some]
    rw [← nI_succ, Nat.add_assoc]
  · intro i hi hq f
    replace hq : isA (D8 F (b + i)) = false := by simpa using hq
    show bX4_readWord_0 _ _ _ = _
    unfold bX4_readWord_0
    rw [gI_rd (rd_wr hz) (k := 9) rfl, gI_rd (rd_wr hz) (k := 8) rfl, wI_eq, wI_ne (by decide), h8]
    simp only [Option.bind_some]
    rw [if_neg (nI_ge (by omega) (by omega)), c_byte h hρ (by rw [wI_ne (by decide)]; exact h8) _ (by omega), if_pos (by omega)]
    simp only [Option.bind_some]
    rw [isA_e, if_pos (i01.mpr hq), pF_int hz rfl]; rfl
  · intro f
    show bX4_readWord_0 _ _ _ = _
    unfold bX4_readWord_0
    rw [gI_rd (rd_wr hz) (k := 9) rfl, gI_rd (rd_wr hz) (k := 8) rfl, wI_eq, wI_ne (by decide), h8]
    simp only [Option.bind_some]
    rw [if_pos (nI_le (by omega) (by omega)), pF_int hz rfl]; rfl
theorem c_number (h : RT F L z) (hρ : ρ.1 7 = some 17) (h8 : S.1 8 = nI L) {b : Nat} (h9 : S.1 9 = nI b) (h11 : S.1 11 = nI b) (hb : b ≤ L) : fX4_readNumber 38 (wr 3 38 ρ S z) = some (wr 3 38 ρ (wI (wI (wI S 12 (vv (D8 F) b (rn isD (D8 F) L b - b))) 9 (nI (rn isD (D8 F) L b))) 10 (if rn isD (D8 F) L b - b ≤ 2 then 2 else 4)) z) := by
  have hz := s38 h
  have hL := h.2.1
  have e0 : wI (wI S 12 (vv (D8 F) b 0)) 9 (nI (b + 0)) = wI S 12 0 := by
    rw [wI_same (k := 9) (by rw [wI_ne (by decide)]; exact h9)]; rfl
  have e66 : ∀ i, i ≤ L - b → bX4_readNumber_66 38 (wr 3 38 ρ (wI (wI S 12 (vv (D8 F) b i)) 9 (nI (b + i))) z) = some (wr 3 38 ρ (wI (wI (wI S 12 (vv (D8 F) b i)) 9 (nI (b + i))) 10 (if i ≤ 2 then 2 else 4)) z) := by
    intro i hi
    unfold bX4_readNumber_66
    rw [gI_rd (rd_wr hz) (k := 9) rfl, gI_rd (rd_wr hz) (k := 11) rfl, wI_eq, wI_ne (by decide), wI_ne (by decide), h11]
    simp only [Option.bind_some]
    rw [pk_sub (by omega), show b + i - b = i by omega, pF_int hz rfl, pF_int hz rfl]
    by_cases c : i ≤ 2
    · rw [if_neg (show ¬ (2 : Int32) < nI i from nI_nlt (a := 2) c (by omega)), if_pos c]; rfl
    · rw [if_pos (show (2 : Int32) < nI i from nI_lt (a := 2) (by omega) (by omega)), if_neg c]; rfl
  unfold fX4_readNumber
  rw [if_pos (isO_rd (rd_wr hz)), pF_int hz rfl]
  simp only [Option.bind_some]
  have key := lpE (fun f i => fX4_readNumber_5 f 38 (wr 3 38 ρ (wI (wI S 12 (vv (D8 F) b i)) 9 (nI (b + i))) z)) (fun k => !isD (D8 F (b + k))) (fun i => some (wr 3 38 ρ (wI (wI (wI S 12 (vv (D8 F) b i)) 9 (nI (b + i))) 10 (if i ≤ 2 then 2 else 4)) z)) (L - b) ?_ ?_ ?_ FU (by rw [FUn]; omega)
  · rw [e0] at key
    have e1 : rn isD (D8 F) L b - b = fa_first (fun k => !isD (D8 F (b + k))) (L - b) := by unfold rn; omega
    rw [e1]; exact key
  · intro i hi hq f
    replace hq : isD (D8 F (b + i)) = true := by simpa using hq
    show bX4_readNumber_5 _ _ _ = _
    unfold bX4_readNumber_5
    rw [gI_rd (rd_wr hz) (k := 9) rfl, gI_rd (rd_wr hz) (k := 8) rfl, gI_rd (rd_wr hz) (k := 12) rfl, wI_eq, wI_ne (by decide), wI_ne (by decide), h8]
    simp only [Option.bind_some]
    rw [if_neg (nI_ge (by omega) (by omega)), c_byte h hρ (by rw [wI_ne (by decide), wI_ne (by decide)]; exact h8) _ (by omega), if_pos (by omega)]
    simp only [Option.bind_some]
    rw [isD_e, if_neg (fun e => by rw [i01.mp e] at hq; cases hq), pF_int hz rfl]
    simp only [Option.bind_some]
    rw [gI_rd (rd_wr hz) (k := 9) rfl]
    simp only [Option.bind_some]
    rw [pF_int hz rfl]
    simp only [Option.bind_some]
    rw [wI_ne (show (9 : Nat) ≠ 12 by decide), wI_eq, wI_ne (show (12 : Nat) ≠ 9 by decide), wI_eq, wI_swap _ (show (9 : Nat) ≠ 12 by decide), wI_wI, wI_wI, ← nI_succ, Nat.add_assoc]
    rfl
  · intro i hi hq f
    replace hq : isD (D8 F (b + i)) = false := by simpa using hq
    show bX4_readNumber_5 _ _ _ = _
    unfold bX4_readNumber_5
    rw [gI_rd (rd_wr hz) (k := 9) rfl, gI_rd (rd_wr hz) (k := 8) rfl, wI_eq, wI_ne (by decide), wI_ne (by decide), h8]
    simp only [Option.bind_some]
    rw [if_neg (nI_ge (by omega) (by omega)), c_byte h hρ (by rw [wI_ne (by decide), wI_ne (by decide)]; exact h8) _ (by omega), if_pos (by omega)]
    simp only [Option.bind_some]
    rw [isD_e, if_pos (i01.mpr hq), e66 i (by omega)]
  · intro f
    show bX4_readNumber_5 _ _ _ = _
    unfold bX4_readNumber_5
    rw [gI_rd (rd_wr hz) (k := 9) rfl, gI_rd (rd_wr hz) (k := 8) rfl, wI_eq, wI_ne (by decide), wI_ne (by decide), h8]
    simp only [Option.bind_some]
    rw [if_pos (nI_le (by omega) (by omega)), e66 _ (Nat.le_refl _)]
/-- the class's state behind a token -/
def CS (D : Nat → Int32) (L p : Nat) (S : SV) : Prop := S.1 9 = nI (tE D L p) ∧ S.1 10 = nI (tK D L p) ∧ S.1 11 = nI (tB D L p) ∧ (tK D L p = 2 → S.1 12 = tV D L p)
/-- ints 9 .. 12 alone differ -/
def FrR (S S' : SV) : Prop := (∀ k, (k < 9 ∨ 13 ≤ k) → S'.1 k = S.1 k) ∧ S'.2 = S.2
theorem FrR.rf : FrR S S := ⟨fun _ _ => rfl, rfl⟩
theorem FrR.tr {S1 S2 : SV} (h : FrR S S1) (h2 : FrR S1 S2) : FrR S S2 := ⟨fun k hk => (h2.1 k hk).trans (h.1 k hk), h2.2.trans h.2⟩
theorem FrR.wi {S1 : SV} (h : FrR S S1) {k : Nat} (hk : 9 ≤ k ∧ k < 13) (x : Int32) : FrR S (wI S1 k x) := ⟨fun j hj => (wI_ne (by omega)).trans (h.1 j hj), h.2⟩
theorem c_50 (h : RT F L z) (hρ : ρ.1 7 = some 17) (h8 : S.1 8 = nI L) {p : Nat} (hp : p ≤ L) (h9 : S.1 9 = nI (tB (D8 F) L p)) : ∃ S', bX4_nextToken_50 38 (wr 3 38 ρ S z) = some (wr 3 38 ρ S' z) ∧ CS (D8 F) L p S' ∧ FrR S S' := by
  have hz := s38 h
  have hL := h.2.1
  have hb := tB_le (D := D8 F) hp
  unfold bX4_nextToken_50
  rw [gI_rd (rd_wr hz) (k := 9) rfl, h9]
  simp only [Option.bind_some]
  rw [pF_int hz rfl]
  simp only [Option.bind_some]
  have f1 : FrR S (wI S 11 (nI (tB (D8 F) L p))) := FrR.rf.wi (by omega) _
  have g9 : (wI S 11 (nI (tB (D8 F) L p))).1 9 = nI (tB (D8 F) L p) := by rw [wI_ne (by decide)]; exact h9
  have g8 : (wI S 11 (nI (tB (D8 F) L p))).1 8 = nI L := by rw [wI_ne (by decide)]; exact h8
  have g11 : (wI S 11 (nI (tB (D8 F) L p))).1 11 = nI (tB (D8 F) L p) := wI_eq
  rw [gI_rd (rd_wr hz) (k := 9) rfl, g9]
  simp only [Option.bind_some]
  rw [c_byte h hρ g8 _ (by omega)]
  simp only [Option.bind_some]
  generalize hS1 : wI S 11 (nI (tB (D8 F) L p)) = S1 at *
  by_cases c : tB (D8 F) L p < L
  · rw [if_pos c, if_neg (D8_m1 F _)]
    have eE : tE (D8 F) L p = (if isA (D8 F (tB (D8 F) L p)) then rn isA (D8 F) L (tB (D8 F) L p) else if isD (D8 F (tB (D8 F) L p)) then rn isD (D8 F) L (tB (D8 F) L p) else tB (D8 F) L p + 1) := by unfold tE; rw [if_pos c]
    have eK : tK (D8 F) L p = (if isA (D8 F (tB (D8 F) L p)) then 1 else if isD (D8 F (tB (D8 F) L p)) then (if tE (D8 F) L p - tB (D8 F) L p ≤ 2 then 2 else 4) else if D8 F (tB (D8 F) L p) = 59 then 3 else 4) := by unfold tK; rw [if_pos c]
    have eV : tV (D8 F) L p = vv (D8 F) (tB (D8 F) L p) (tE (D8 F) L p - tB (D8 F) L p) := rfl
    generalize hbb : tB (D8 F) L p = b at *
    unfold CS
    rw [hbb]
    cases ca : isA (D8 F b)
    · rw [ca] at eE eK
      rw [isA_e, ca, if_pos (by decide), isD_e]
      cases cd : isD (D8 F b)
      · rw [cd] at eE eK
        rw [if_pos (by decide)]
        simp only [Bool.false_eq_true, if_false] at eE eK
        have e120 : ∀ x : Int32, bX4_nextToken_120 38 38 x (wr 3 38 ρ S1 z) = some (wr 3 38 ρ (wI (wI S1 10 x) 9 (nI (b + 1))) z) := by
          intro x
          unfold bX4_nextToken_120
          rw [pF_int hz rfl]
          simp only [Option.bind_some]
          rw [gI_rd (rd_wr hz) (k := 9) rfl, wI_ne (by decide), g9]
          simp only [Option.bind_some]
          rw [pF_int hz rfl, ← nI_succ]; rfl
        by_cases c59 : D8 F b = 59
        · rw [if_pos c59] at eK ⊢
          rw [e120]
          refine ⟨_, rfl, ⟨by rw [wI_eq, eE], by rw [wI_ne (by decide), wI_eq, eK]; rfl, by rw [wI_ne (by decide), wI_ne (by decide)]; exact g11, fun q => by rw [eK] at q; omega⟩, (f1.wi (by omega) _).wi (by omega) _⟩
        · rw [if_neg c59] at eK ⊢
          rw [e120]
          refine ⟨_, rfl, ⟨by rw [wI_eq, eE], by rw [wI_ne (by decide), wI_eq, eK]; rfl, by rw [wI_ne (by decide), wI_ne (by decide)]; exact g11, fun q => by rw [eK] at q; omega⟩, (f1.wi (by omega) _).wi (by omega) _⟩
      · rw [cd] at eE eK
        rw [if_neg (by decide), c_number h hρ g8 g9 g11 hb]
        simp only [Bool.false_eq_true, if_false, if_true] at eE eK
        refine ⟨_, rfl, ⟨by rw [wI_ne (by decide), wI_eq, eE], ?_, by rw [wI_ne (by decide), wI_ne (by decide), wI_ne (by decide)]; exact g11, fun q => ?_⟩, ((f1.wi (by omega) _).wi (by omega) _).wi (by omega) _⟩
        · rw [wI_eq, eK, eE]
          by_cases q : rn isD (D8 F) L b - b ≤ 2
          · rw [if_pos q, if_pos q]; rfl
          · rw [if_neg q, if_neg q]; rfl
        · rw [wI_ne (by decide), wI_ne (by decide), wI_eq, eV, eE]
    · rw [ca] at eE eK
      simp only [if_true] at eE eK
      rw [isA_e, ca, if_neg (by decide), c_word h hρ g8 g9 hb]
      refine ⟨_, rfl, ⟨by rw [wI_ne (by decide), wI_eq, eE], by rw [wI_eq, eK]; rfl, by rw [wI_ne (by decide), wI_ne (by decide)]; exact g11, fun q => by rw [eK] at q; omega⟩, (f1.wi (by omega) _).wi (by omega) _⟩
  · rw [if_neg c, if_pos rfl, pF_int hz rfl]
    have e0 : tK (D8 F) L p = 0 := tK_0.mpr c
    have e1 : tE (D8 F) L p = tB (D8 F) L p := by unfold tE; rw [if_neg c]
    refine ⟨_, rfl, ⟨by rw [wI_ne (by decide), e1]; exact g9, by rw [wI_eq, e0]; rfl, by rw [wI_ne (by decide)]; exact g11, fun q => by omega⟩, f1.wi (by omega) _⟩
theorem c_next (h : RT F L z) (hρ : ρ.1 7 = some 17) (h8 : S.1 8 = nI L) {p : Nat} (hp : p ≤ L) (h9 : S.1 9 = nI p) : ∃ S', fX4_nextToken 38 (wr 3 38 ρ S z) = some (wr 3 38 ρ S' z) ∧ CS (D8 F) L p S' ∧ FrR S S' := by
  have hz := s38 h
  have hL := h.2.1
  obtain ⟨S', e1, e2, e3⟩ := c_50 (S := wI S 9 (nI (tB (D8 F) L p))) h hρ (by rw [wI_ne (by decide)]; exact h8) hp wI_eq
  refine ⟨S', ?_, e2, (FrR.rf.wi (by omega) _).tr e3⟩
  rw [← e1]
  have e0 : wI S 9 (nI (p + 0)) = S := wI_same h9
  unfold fX4_nextToken
  rw [if_pos (isO_rd (rd_wr hz))]
  have key := lpE (fun f i => fX4_nextToken_0 f 38 (wr 3 38 ρ (wI S 9 (nI (p + i))) z)) (fun k => !isW (D8 F (p + k))) (fun i => bX4_nextToken_50 38 (wr 3 38 ρ (wI S 9 (nI (p + i))) z)) (L - p) ?_ ?_ ?_ FU (by rw [FUn]; omega)
  · rw [e0] at key; exact key
  · intro i hi hq f
    replace hq : isW (D8 F (p + i)) = true := by simpa using hq
    have hg : (pF 3 9 (wr 3 38 ρ (wI S 9 (nI (p + i))) z) 38 (.int (nI (p + i) + 1))).bind (fun z44 => fX4_nextToken_0 f 38 z44) = fX4_nextToken_0 f 38 (wr 3 38 ρ (wI S 9 (nI (p + (i + 1)))) z) := by
      rw [pF_int hz rfl, wI_wI, ← nI_succ, Nat.add_assoc]; rfl
    show bX4_nextToken_0 _ _ _ = _
    unfold bX4_nextToken_0
    rw [gI_rd (rd_wr hz) (k := 9) rfl, gI_rd (rd_wr hz) (k := 8) rfl, wI_eq, wI_ne (by decide), h8]
    simp only [Option.bind_some]
    rw [if_neg (nI_ge (by omega) (by omega)), c_byte h hρ (by rw [wI_ne (by decide)]; exact h8) _ (by omega), if_pos (by omega)]
    simp only [Option.bind_some]
    unfold isW at hq
    by_cases q1 : D8 F (p + i) = 10
    · rw [if_pos q1]; exact hg
    · rw [if_neg q1]
      have q2 : D8 F (p + i) = 32 := by simpa [q1] using hq
      rw [if_pos q2]; exact hg
  · intro i hi hq f
    replace hq : isW (D8 F (p + i)) = false := by simpa using hq
    unfold isW at hq
    rw [Bool.or_eq_false_iff, decide_eq_false_iff_not, decide_eq_false_iff_not] at hq
    show bX4_nextToken_0 _ _ _ = _
    unfold bX4_nextToken_0
    rw [gI_rd (rd_wr hz) (k := 9) rfl, gI_rd (rd_wr hz) (k := 8) rfl, wI_eq, wI_ne (by decide), h8]
    simp only [Option.bind_some]
    rw [if_neg (nI_ge (by omega) (by omega)), c_byte h hρ (by rw [wI_ne (by decide)]; exact h8) _ (by omega), if_pos (by omega)]
    simp only [Option.bind_some]
    rw [if_neg hq.1, if_neg hq.2]
  · intro f
    show bX4_nextToken_0 _ _ _ = _
    unfold bX4_nextToken_0
    rw [gI_rd (rd_wr hz) (k := 9) rfl, gI_rd (rd_wr hz) (k := 8) rfl, wI_eq, wI_ne (by decide), h8]
    simp only [Option.bind_some]
    rw [if_pos (nI_le (by omega) (by omega))]
end RC
