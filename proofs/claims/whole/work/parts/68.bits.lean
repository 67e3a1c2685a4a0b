/-! ===== bits of numbers, counts of bits ===== -/
theorem bt_nI (n : Nat) {i : Nat} (hi : i < 32) : bt (nI n) i = n.testBit i := by
  show (BitVec.ofNat 32 n).getLsbD i = _
  rw [BitVec.getLsbD_ofNat]
  simp [hi]
theorem tb_big {n i : Nat} (h : n < 2 ^ 31) (hi : 31 ≤ i) : n.testBit i = false := Nat.testBit_lt_two_pow (Nat.lt_of_lt_of_le h (Nat.pow_le_pow_right (by omega) hi))
theorem ush_nI {n k : Nat} (hn : n < 2 ^ 31) (hk : k < 32) : ush (nI n) (nI k) = nI (n >>> k) := by
  apply b_ext
  intro i hi
  rw [b_ushS k hk, bt_nI _ hi, Nat.testBit_shiftRight]
  by_cases h : k + i < 32
  · rw [bt_nI _ h]
  · rw [b_big (by omega), tb_big hn (by omega)]
theorem b_1shl {j i : Nat} (hj : j < 32) (hi : i < 32) : bt (shl 1 (nI j)) i = decide (i = j) := by
  rw [b_shlS j hj _ hi]
  have h1 : ∀ i, i < 32 → bt 1 i = decide (i = 0) := by decide +kernel
  rw [h1 _ (by omega)]
  by_cases h : j ≤ i
  · by_cases e : i = j
    · subst e; simp
    · have e2 : ¬ i - j = 0 := by omega
      simp [e, e2]
  · have e : ¬ i = j := by omega
    simp [h, e]
theorem nI_bits {x : Int32} {w : Nat} (hw : w ≤ 31) (h : ∀ i, w ≤ i → i < 32 → bt x i = false) : ∃ n, n < 2 ^ w ∧ x = nI n := by
  refine ⟨x.toBitVec.toNat, ?_, ?_⟩
  · refine Nat.lt_pow_two_of_testBit _ (fun i hi => ?_)
    by_cases h2 : i < 32
    · have := h i hi h2
      unfold bt at this
      rw [← BitVec.testBit_toNat] at this; exact this
    · exact Nat.testBit_lt_two_pow (Nat.lt_of_lt_of_le x.toBitVec.isLt (Nat.pow_le_pow_right (by omega) (by omega)))
  · apply b_ext
    intro i hi
    rw [bt_nI _ hi]
    unfold bt
    rw [BitVec.testBit_toNat]
def bcN (n : Nat) : Nat :=
  (fun v9 => (fun v23 => (fun v33 => (fun v40 => (fun v47 => v47 &&& 63) (v40 + v40 >>> 16)) (v33 + v33 >>> 8)) ((v23 + v23 >>> 4) &&& 252645135)) ((v9 &&& 858993459) + (v9 >>> 2 &&& 858993459))) (n - (n >>> 1 &&& 1431655765))
theorem and_nI (a b : Nat) : nI a &&& nI b = nI (a &&& b) := fa_and a b
theorem bc_nI {n : Nat} (hn : n < 65536) : fJ6_bitCount_0f7a4 (nI n) = nI (bcN n) := by
  unfold fJ6_bitCount_0f7a4 bcN
  simp only [nm]
  show _ &&& nI 63 = _
  have a1 : n >>> 1 &&& 1431655765 ≤ n := Nat.le_trans Nat.and_le_left (Nat.shiftRight_le _ _)
  rw [show (1 : Int32) = nI 1 from rfl, show (2 : Int32) = nI 2 from rfl, show (4 : Int32) = nI 4 from rfl, show (8 : Int32) = nI 8 from rfl, show (16 : Int32) = nI 16 from rfl, show (1431655765 : Int32) = nI 1431655765 from rfl, show (858993459 : Int32) = nI 858993459 from rfl, show (252645135 : Int32) = nI 252645135 from rfl]
  rw [ush_nI (by omega) (by omega), and_nI, pk_sub a1]
  generalize h9 : n - (n >>> 1 &&& 1431655765) = v9
  have b9 : v9 ≤ 65536 := by omega
  have c9 : v9 >>> 2 ≤ v9 := Nat.shiftRight_le _ _
  rw [ush_nI (by omega) (by omega), and_nI, and_nI, nI_add]
  have d1 : v9 &&& 858993459 ≤ v9 := Nat.and_le_left
  have d2 : v9 >>> 2 &&& 858993459 ≤ v9 := Nat.le_trans Nat.and_le_left c9
  have b23 : (v9 &&& 858993459) + (v9 >>> 2 &&& 858993459) ≤ 131072 := by omega
  generalize (v9 &&& 858993459) + (v9 >>> 2 &&& 858993459) = v23 at b23 ⊢
  have c23 := Nat.shiftRight_le v23 4
  rw [ush_nI (by omega) (by omega), nI_add, and_nI]
  have b33 : (v23 + v23 >>> 4) &&& 252645135 ≤ 262144 := Nat.le_trans Nat.and_le_left (by omega)
  generalize (v23 + v23 >>> 4) &&& 252645135 = v33 at b33 ⊢
  have c33 := Nat.shiftRight_le v33 8
  rw [ush_nI (by omega) (by omega), nI_add]
  have b40 : v33 + v33 >>> 8 ≤ 524288 := by omega
  generalize v33 + v33 >>> 8 = v40 at b40 ⊢
  rw [ush_nI (by omega) (by omega), nI_add, and_nI]
/-! the count, byte by byte -/
theorem and_sp {a b m k : Nat} (hb : b < 256) (hk : k < 256) : (256 * a + b) &&& (256 * m + k) = 256 * (a &&& m) + (b &&& k) := by
  have hbk : b &&& k < 2 ^ 8 := Nat.lt_of_le_of_lt Nat.and_le_left hb
  apply Nat.eq_of_testBit_eq
  intro i
  rw [Nat.testBit_and, show (256 : Nat) = 2 ^ 8 from rfl, Nat.testBit_two_pow_mul_add a (i := 8) hb i, Nat.testBit_two_pow_mul_add m (i := 8) hk i, Nat.testBit_two_pow_mul_add (a &&& m) hbk i]
  by_cases h : i < 8
  · simp only [h, if_true, Nat.testBit_and]
  · simp only [h, if_false, Nat.testBit_and]
def q1 (x : Nat) : Nat := x - (x / 2 &&& 85)
def q2 (x : Nat) : Nat := (x &&& 51) + (x / 4 &&& 51)
def q3 (x : Nat) : Nat := (x + x / 16) &&& 15
theorem qa1 : ∀ b, b < 256 → ∀ r, r < 2 → (b / 2 + 128 * r) &&& 85 = b / 2 &&& 85 := by decide +kernel
theorem qa2 : ∀ a, a < 256 → (a / 2 &&& 5592405) = a / 2 &&& 85 := by decide +kernel
theorem qb1 : ∀ b, b < 256 → ∀ r, r < 4 → (b / 4 + 64 * r) &&& 51 = b / 4 &&& 51 := by decide +kernel
theorem qb2 : ∀ a, a < 256 → (a &&& 3355443) = a &&& 51 := by decide +kernel
theorem qc2 : ∀ a, a < 256 → (a &&& 986895) = a &&& 15 := by decide +kernel
theorem q_all : ∀ a, a < 256 → q1 a < 256 ∧ (q2 (q1 a) ≤ 68 ∧ q2 (q1 a) % 16 ≤ 4) ∧ q3 (q2 (q1 a)) = fa_cnt (fun i => a.testBit i) 8 := by decide +kernel
theorem bcN_sp {a b : Nat} (ha : a < 256) (hb : b < 256) : bcN (256 * a + b) = fa_cnt (fun i => a.testBit i) 8 + fa_cnt (fun i => b.testBit i) 8 := by
  unfold bcN
  simp only [Nat.shiftRight_eq_div_pow]
  obtain ⟨a1, ⟨a2, a4⟩, a3⟩ := q_all a ha
  obtain ⟨b1, ⟨b2, b4⟩, b3⟩ := q_all b hb
  have s1 : 256 * a + b - ((256 * a + b) / 2 ^ 1 &&& 1431655765) = 256 * q1 a + q1 b := by
    rw [show (256 * a + b) / 2 ^ 1 = 256 * (a / 2) + (b / 2 + 128 * (a % 2)) by omega, show (1431655765 : Nat) = 256 * 5592405 + 85 from rfl, and_sp (by omega) (by omega), qa1 b hb (a % 2) (by omega), qa2 a ha]
    have e1 : a / 2 &&& 85 ≤ a / 2 := Nat.and_le_left
    have e2 : b / 2 &&& 85 ≤ b / 2 := Nat.and_le_left
    unfold q1; omega
  rw [s1]
  generalize q1 a = x at *
  generalize q1 b = y at *
  have s2 : ((256 * x + y) &&& 858993459) + ((256 * x + y) / 2 ^ 2 &&& 858993459) = 256 * q2 x + q2 y := by
    rw [show (256 * x + y) / 2 ^ 2 = 256 * (x / 4) + (y / 4 + 64 * (x % 4)) by omega, show (858993459 : Nat) = 256 * 3355443 + 51 from rfl, and_sp (by omega) (by omega), and_sp (by omega) (by omega), qb1 y b1 (x % 4) (by omega), qb2 x a1, qb2 (x / 4) (by omega)]
    unfold q2; omega
  rw [s2]
  generalize q2 x = x2 at *
  generalize q2 y = y2 at *
  have s3 : ((256 * x2 + y2) + (256 * x2 + y2) / 2 ^ 4) &&& 252645135 = 256 * q3 x2 + q3 y2 := by
    rw [show (256 * x2 + y2) + (256 * x2 + y2) / 2 ^ 4 = 256 * (x2 + x2 / 16) + (y2 + y2 / 16 + 16 * (x2 % 16)) by omega, show (252645135 : Nat) = 256 * 986895 + 15 from rfl, and_sp (by omega) (by omega), qc2 (x2 + x2 / 16) (by omega)]
    have e : (y2 + y2 / 16 + 16 * (x2 % 16)) &&& 15 = q3 y2 := by
      unfold q3
      rw [Nat.and_two_pow_sub_one_eq_mod _ 4, Nat.and_two_pow_sub_one_eq_mod _ 4]
      show _ % 16 = _ % 16
      omega
    rw [e]; rfl
  rw [s3, a3, b3]
  have f1 := fa_cnt_le (fun i => a.testBit i) 8
  have f2 := fa_cnt_le (fun i => b.testBit i) 8
  generalize fa_cnt (fun i => a.testBit i) 8 = p at *
  generalize fa_cnt (fun i => b.testBit i) 8 = q at *
  clear s1 s2 s3 a1 a2 a3 a4 b1 b2 b3 b4
  rw [Nat.and_two_pow_sub_one_eq_mod _ 6, show (256 * p + q) / 2 ^ 8 = p by omega, show (256 * p + q + p) / 2 ^ 16 = 0 by omega]
  show _ % 64 = _
  omega
theorem fa_cnt_app (p : Nat → Bool) (a : Nat) : ∀ b, fa_cnt p (a + b) = fa_cnt p a + fa_cnt (fun i => p (a + i)) b
  | 0 => rfl
  | b + 1 => by
    show fa_cnt p (a + b) + (if p (a + b) then 1 else 0) = fa_cnt p a + (fa_cnt (fun i => p (a + i)) b + (if p (a + b) then 1 else 0))
    rw [fa_cnt_app p a b]; omega
theorem bcN_ct {n : Nat} (hn : n < 65536) : bcN n = fa_cnt (fun i => n.testBit i) 16 := by
  have h := bcN_sp (a := n / 256) (b := n % 256) (by omega) (by omega)
  rw [Nat.div_add_mod] at h
  rw [h, show (16 : Nat) = 8 + 8 from rfl, fa_cnt_app, Nat.add_comm]
  congr 1
  · exact fa_cnt_cong (fun k hk => by rw [show (256 : Nat) = 2 ^ 8 from rfl, Nat.testBit_mod_two_pow]; simp [hk])
  · exact fa_cnt_cong (fun k hk => by rw [show (256 : Nat) = 2 ^ 8 from rfl, Nat.testBit_div_two_pow, Nat.add_comm])
/-- of at most 16 bits -/
theorem bc_16 {x : Int32} (h : ∀ i, 16 ≤ i → i < 32 → bt x i = false) : fJ6_bitCount_0f7a4 x = nI (fa_cnt (bt x) 16) := by
  obtain ⟨n, hn, rfl⟩ := nI_bits (w := 16) (by omega) h
  rw [bc_nI hn, bcN_ct hn]
  congr 1
  exact fa_cnt_cong (fun k hk => (bt_nI n (by omega)).symm)
theorem fa_cnt_add (p : Nat → Bool) (a : Nat) : ∀ b, (∀ k, a ≤ k → k < a + b → p k = false) → fa_cnt p (a + b) = fa_cnt p a
  | 0, _ => rfl
  | b + 1, h => by
    rw [← Nat.add_assoc, fa_cnt_no (h (a + b) (by omega) (by omega))]
    exact fa_cnt_add p a b (fun k k1 k2 => h k k1 (by omega))
theorem bc_8 {x : Int32} (h : ∀ i, 8 ≤ i → i < 32 → bt x i = false) : fJ6_bitCount_0f7a4 x = nI (fa_cnt (bt x) 8) := by
  rw [bc_16 (fun i h1 h2 => h i (by omega) h2), show (16 : Nat) = 8 + 8 from rfl, fa_cnt_add _ _ _ (fun k k1 k2 => h k k1 (by omega))]
theorem m_has0 (x : Int32) {j : Nat} (hj : j < 32) : (fX10_has x (nI j) = 0) ↔ bt x j = false := by
  rw [m_has x hj]; cases bt x j <;> simp
theorem c_has0 (x : Int32) {j : Nat} (hj : j < 32) : (fX9_hasBit x (nI j) = 0) ↔ bt x j = false := by
  rw [c_has x hj]; cases bt x j <;> simp
theorem m_ones (x : Int32) : fX10_ones x = some (nI (fa_cnt (bt x) 8)) := by
  refine lp (fun f (q : Int32 × Int32) => fX10_ones_4 f x q.1 q.2) (fun i => (nI (fa_cnt (bt x) i), nI i)) _ 8 ?_ ?_ FU (by rw [FUn]; omega)
  · intro i hi n
    show bX10_ones_4 (fX10_ones_4 n) x (nI (fa_cnt (bt x) i)) (nI i) = fX10_ones_4 n x (nI (fa_cnt (bt x) (i + 1))) (nI (i + 1))
    unfold bX10_ones_4
    rw [if_neg (show ¬ (8 : Int32) ≤ nI i from nI_ge (b := 8) hi (by omega))]
    simp only [nm]
    cases hb : bt x i
    · rw [if_pos ((m_has0 x (by omega)).mpr hb), fa_cnt_no hb, add0, nI_succ]
    · rw [if_neg (fun e => by rw [(m_has0 x (by omega)).mp e] at hb; cases hb), fa_cnt_yes hb, nI_succ, nI_succ]
  · intro n; rfl
theorem m_many (x : Int32) : fX10_manyOf x = some (nI (fa_cnt (bt x) 16)) := by
  refine lp (fun f (q : Int32 × Int32) => fX10_manyOf_4 f x q.1 q.2) (fun i => (nI (fa_cnt (bt x) i), nI i)) _ 16 ?_ ?_ FU (by rw [FUn]; omega)
  · intro i hi n
    show bX10_manyOf_4 (fX10_manyOf_4 n) x (nI (fa_cnt (bt x) i)) (nI i) = fX10_manyOf_4 n x (nI (fa_cnt (bt x) (i + 1))) (nI (i + 1))
    unfold bX10_manyOf_4
    rw [if_neg (show ¬ (16 : Int32) ≤ nI i from nI_ge (b := 16) hi (by omega))]
    simp only [nm]
    cases hb : bt x i
    · rw [if_pos ((m_has0 x (by omega)).mpr hb), fa_cnt_no hb, add0, nI_succ]
    · rw [if_neg (fun e => by rw [(m_has0 x (by omega)).mp e] at hb; cases hb), fa_cnt_yes hb, nI_succ, nI_succ]
  · intro n; rfl
/-- a mask bit by bit -/
def fm (p : Nat → Bool) : Nat → Int32
  | 0 => 0
  | k + 1 => if p k then fm p k ||| shl 1 (nI k) else fm p k
theorem fm_bt (p : Nat → Bool) : ∀ k, k ≤ 32 → ∀ i, i < 32 → bt (fm p k) i = (decide (i < k) && p i)
  | 0, _, i, _ => by simp [fm, b_0]
  | k + 1, hk, i, hi => by
    have ih := fm_bt p k (by omega) i hi
    unfold fm
    cases hp : p k
    · simp only [Bool.false_eq_true, if_false, ih]
      by_cases e : i = k
      · subst e; simp [hp]
      · have : (i < k + 1) = (i < k) := propext ⟨fun h => by omega, fun h => by omega⟩
        simp [this]
    · simp only [if_true, b_or, ih, b_1shl (show k < 32 by omega) hi]
      by_cases e : i = k
      · subst e; simp [hp]
      · have : (i < k + 1) = (i < k) := propext ⟨fun h => by omega, fun h => by omega⟩
        simp [this, e]
theorem or0 (x : Int32) : x ||| 0 = x := by
  apply b_ext; intro i hi; rw [b_or, b_0, Bool.or_false]
theorem b_not (x : Int32) {i : Nat} (hi : i < 32) : bt (x ^^^ (-1)) i = !bt x i := by
  rw [b_xor, b_m1 i hi, Bool.xor_true]
theorem eq0_bt {x : Int32} : x = 0 ↔ ∀ i, i < 32 → bt x i = false := ⟨fun h i hi => by rw [h, b_0], fun h => b_ext (fun i hi => by rw [h i hi, b_0])⟩
