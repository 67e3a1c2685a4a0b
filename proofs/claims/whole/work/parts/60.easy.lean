/-! ===== the first steps ===== -/
theorem x9_o {z : AH} (h : SK z) : isO 8 z 0 = true := by unfold isO; rw [h.1]; rfl
theorem x9_g {z : AH} (h : SK z) {k x : Nat} (hk : ([.ref 16, .ref 21, .ref 37, .ref 38, .ref 44, .ref 49, .ref 83, .ref 87] : List Value)[k]? = some (.ref x)) : gN 8 k z 0 = some x := by
  unfold gN oF
  rw [h.1]
  simp only [if_true, hk]
theorem rA_in {n : Nat} {f : Nat → Int32} {i : Int32} (h0 : 0 ≤ i.toInt) (h1 : i.toInt < n) : rA n f i = some (f i.toNatClampNeg) := by
  have h4 : ¬ (i < 0 ∨ n ≤ i.toNatClampNeg) := vp_in_iff.mpr ⟨h0, h1⟩
  unfold rA; rw [if_pos h4]
/-- a place that counts -/
theorem pickS {n : Nat} {f : Nat → Int32} {size i : Int32} (hn : n < 2 ^ 31) : gX9_pick n f size i = some (if 0 ≤ i.toInt ∧ i.toInt < size.toInt ∧ i.toInt < n then f i.toNatClampNeg else -2) := by
  unfold gX9_pick
  by_cases h1 : i < 0
  · have : ¬ 0 ≤ i.toInt := by rw [fa_lt] at h1; have : (0 : Int32).toInt = 0 := rfl; omega
    simp [h1, this]
  · have h1' : 0 ≤ i.toInt := by rw [fa_lt] at h1; have : (0 : Int32).toInt = 0 := rfl; omega
    by_cases h2 : size ≤ i
    · have : ¬ i.toInt < size.toInt := by rw [fa_le] at h2; omega
      simp [h1, h2, this]
    · have h2' : i.toInt < size.toInt := by rw [fa_le] at h2; omega
      by_cases h3 : Int32.ofNat n ≤ i
      · have : ¬ i.toInt < n := by rw [fa_le] at h3; have : (Int32.ofNat n).toInt = n := nI_toInt hn; omega
        simp [h1, h2, h3, this]
      · have h3' : i.toInt < n := by rw [fa_le] at h3; have : (Int32.ofNat n).toInt = n := nI_toInt hn; omega
        rw [if_neg h1, if_neg h2, if_neg h3, rA_in h1' h3', if_pos ⟨h1', h2', h3'⟩]; rfl
theorem m_in0 {v lo hi : Int32} (h : lo.toInt ≤ v.toInt ∧ v.toInt ≤ hi.toInt) : ¬ fX10_in v lo hi = 0 := by
  rw [m_in, if_pos ⟨(fa_le _ _).mpr h.1, (fa_le _ _).mpr h.2⟩]; decide
theorem m_in1 {v lo hi : Int32} (h : ¬ (lo.toInt ≤ v.toInt ∧ v.toInt ≤ hi.toInt)) : fX10_in v lo hi = 0 := by
  rw [m_in, if_neg (fun q => h ⟨(fa_le _ _).mp q.1, (fa_le _ _).mp q.2⟩)]
theorem qu_fault (Wc : WC) : Qu_fault Wc := by
  intro z M ρM hI a1
  obtain ⟨S, ρ, hR, hT⟩ := hI.2.2.1 0 (by omega)
  have hR : RD 6 16 ρ S z := hR
  obtain ⟨-, ⟨-, -, hf, hp⟩, -⟩ := hT
  have hsk := hI.2.2.2.1
  have e0 : rA 4 (M.2.1 3) 0 = some (M.2.1 3 0) := rA_in (by decide) (by decide)
  have e1 : rA 4 (M.2.1 4) 0 = some (M.2.1 4 0) := rA_in (by decide) (by decide)
  unfold fX9_fault gX10_fault
  rw [if_pos (x9_o hsk), x9_g (k := 0) (x := 16) hsk rfl]
  simp only [Option.bind_some, gI_rd hR (k := 2) rfl, gI_rd hR (k := 3) rfl, nm, wI]
  by_cases h0 : a1 = 0
  · simp only [h0, if_true, e0, Option.bind_some]
    exact ⟨_, _, rfl, by rw [hf]⟩
  · by_cases h1 : a1 = 1
    · simp only [h1, if_true, e1, Option.bind_some, show ¬ ((1 : Int32) = 0) by decide, if_false]
      exact ⟨_, _, rfl, by rw [hp (Or.inl rfl)]⟩
    · simp only [h0, h1, if_false]
      exact ⟨_, _, rfl, rfl⟩
theorem qu_count (Wc : WC) : Qu_count Wc := by
  intro z M ρM hI a1
  obtain ⟨S, ρ, hR, hT⟩ := hI.2.2.1 0 (by omega)
  have hR : RD 6 16 ρ S z := hR
  obtain ⟨-, -, hm, -⟩ := hT
  have hsk := hI.2.2.2.1
  unfold fX9_count gX10_count
  rw [if_pos (x9_o hsk), x9_g (k := 0) (x := 16) hsk rfl]
  simp only [Option.bind_some, eX7_sizeOf hR, gX7_sizeOf, pickS (n := 4) (by decide), nm]
  have l0 : (0 : Int32).toInt = 0 := rfl
  have l3 : (3 : Int32).toInt = 3 := rfl
  have l4 : (4 : Int32).toInt = 4 := rfl
  by_cases h : (0 : Int32).toInt ≤ a1.toInt ∧ a1.toInt ≤ (3 : Int32).toInt
  · rw [if_neg (m_in0 h)]
    obtain ⟨j, hj, rfl⟩ := vp_in_of (x := a1) (n := 4) (vp_in_iff.mpr ⟨by omega, by omega⟩) (by decide)
    have hc : (nI j).toNatClampNeg = j := nI_clamp (by omega)
    rw [rA_in (by omega) (by omega), hc]
    have := (hm j hj).1
    refine ⟨_, wI M 0 0, rfl, ?_⟩
    rw [if_pos ⟨by omega, by omega, by omega⟩, this]
    simp [wI]
  · rw [if_pos (m_in1 h), if_neg (by omega)]
    exact ⟨_, _, rfl, rfl⟩
def adf (p q : Nat) : Nat := if p < q then q - p else p - q
theorem adf_le {p q n : Nat} (hp : p ≤ n) (hq : q ≤ n) : adf p q ≤ n := by unfold adf; split <;> omega
theorem apart_nI {p q : Nat} (hp : p < 2 ^ 30) (hq : q < 2 ^ 30) : fX10_apart (nI p) (nI q) = nI (adf p q) := by
  unfold fX10_apart adf
  by_cases h : nI p ≤ nI q
  · have h' := (nI_leI (by omega) (by omega)).mp h
    rw [if_pos h, pk_sub h']
    by_cases h2 : p < q
    · rw [if_pos h2]
    · rw [if_neg h2, show q - p = p - q by omega]
  · have h' : ¬ p ≤ q := fun e => h ((nI_leI (by omega) (by omega)).mpr e)
    rw [if_neg h, pk_sub (by omega), if_neg (by omega)]
theorem iabs_nI {p q : Nat} (hp : p < 2 ^ 30) (hq : q < 2 ^ 30) : iabs (nI p - nI q) = nI (adf p q) := by
  unfold iabs adf
  by_cases h : q ≤ p
  · rw [pk_sub h, if_pos (nI_pos' (by omega)), if_neg (by omega)]
  · have h1 : ¬ (0 : Int32) ≤ nI p - nI q := by
      rw [fa_le, pk_sub_toInt hp hq]
      have : (0 : Int32).toInt = 0 := rfl
      omega
    rw [if_neg h1, if_pos (by omega)]
    have : (0 : Int32) - (nI p - nI q) = nI q - nI p := by
      rw [Int32.zero_sub, Int32.neg_sub]
    rw [this, pk_sub (by omega)]
theorem imin_nI {p q : Nat} (hp : p < 2 ^ 31) (hq : q < 2 ^ 31) : imin (nI p) (nI q) = nI (min p q) := by
  unfold imin
  by_cases h : nI q < nI p
  · have h' := (nI_ltI hq hp).mp h
    rw [if_pos h, Nat.min_eq_right (by omega)]
  · have h' : ¬ q < p := fun e => h ((nI_ltI hq hp).mpr e)
    rw [if_neg h, Nat.min_eq_left (by omega)]
theorem in_nI {v hi : Int32} {n : Nat} (hn : hi.toInt = n) (h : ¬ fX10_in v 0 hi = 0) : ∃ p : Nat, p ≤ n ∧ v = nI p := by
  by_cases h2 : (0 : Int32).toInt ≤ v.toInt ∧ v.toInt ≤ hi.toInt
  · refine nI_of2 hn ?_ ((fa_le _ _).mpr h2.2)
    intro q; rw [fa_lt] at q; omega
  · exact absurd (m_in1 h2) h
set_option maxHeartbeats 2000000 in
theorem qu_agree (Wc : WC) : Qu_agree Wc := by
  intro z M ρM hI a b c hd mean hm
  have hsk := hI.2.2.2.1
  have e4 : ∀ {α : Type} (A B : α), (if hd < 0 then A else if hd ≤ 9 then B else A) = if fX10_in hd 0 9 = 0 then A else B := by
    intro α A B
    unfold fX10_in
    by_cases h1 : hd < 0
    · simp [h1]
    · by_cases h2 : 9 < hd
      · have : ¬ hd ≤ 9 := (fa_of_lt h2).2.1
        simp [h1, h2, this]
      · have : hd ≤ 9 := fa_of_nlt h2
        simp [h1, h2, this]
  unfold fX9_agree gX10_agree
  rw [if_pos (x9_o hsk)]
  rw [e4]
  simp only [show ∀ v, fX9_isNumber v = fX10_in v 0 99 from fun _ => rfl]
  by_cases h1 : fX10_in a 0 99 = 0
  · simp only [h1, if_true, nm]; exact ⟨_, _, rfl, rfl⟩
  by_cases h2 : fX10_in b 0 99 = 0
  · simp only [h1, h2, if_true, if_false, nm]; exact ⟨_, _, rfl, rfl⟩
  by_cases h3 : fX10_in c 0 99 = 0
  · simp only [h1, h2, h3, if_true, if_false, nm]; exact ⟨_, _, rfl, rfl⟩
  by_cases h4 : fX10_in hd 0 9 = 0
  · simp only [h1, h2, h3, h4, if_true, if_false, nm]; exact ⟨_, _, rfl, rfl⟩
  simp only [h1, h2, h3, h4, if_false]
  obtain ⟨p, hp, rfl⟩ := in_nI (n := 99) rfl h1
  obtain ⟨q, hq, rfl⟩ := in_nI (n := 99) rfl h2
  obtain ⟨r, hr, rfl⟩ := in_nI (n := 99) rfl h3
  obtain ⟨h, hh, rfl⟩ := in_nI (n := 9) rfl h4
  rw [iabs_nI (by omega) (by omega), iabs_nI (by omega) (by omega), iabs_nI (by omega) (by omega), apart_nI (by omega) (by omega), apart_nI (by omega) (by omega), apart_nI (by omega) (by omega)]
  have b1 := adf_le hp hq
  have b2 := adf_le hp hr
  have b3 := adf_le hq hr
  generalize adf p q = d1 at *
  generalize adf p r = d2 at *
  generalize adf q r = d3 at *
  simp only [nm]
  rw [imin_nI (by omega) (by omega), imin_nI (by omega) (by omega)]
  unfold gbX10_agree_87 gbX10_agree_99 gbX10_agree_124
  simp only [nI_leI (show min d1 (min d2 d3) < 2 ^ 31 by omega) (show h < 2 ^ 31 by omega), nI_eq (show d1 < 2 ^ 31 by omega) (show min d1 (min d2 d3) < 2 ^ 31 by omega), nI_eq (show d2 < 2 ^ 31 by omega) (show min d1 (min d2 d3) < 2 ^ 31 by omega), nI_ltI (show d2 < 2 ^ 31 by omega) (show d1 < 2 ^ 31 by omega), nI_ltI (show d3 < 2 ^ 31 by omega) (show d1 < 2 ^ 31 by omega), nI_ltI (show d3 < 2 ^ 31 by omega) (show d2 < 2 ^ 31 by omega), nI_leI (show d1 < 2 ^ 31 by omega) (show h < 2 ^ 31 by omega), nI_leI (show d2 < 2 ^ 31 by omega) (show h < 2 ^ 31 by omega), nI_leI (show d3 < 2 ^ 31 by omega) (show h < 2 ^ 31 by omega)]
  have fin : ∀ (A B C D : Int32), (∃ (r : Int32) (M' : SV), (if min d1 (min d2 d3) ≤ h then if mean = 0 then some A else some B else some (-1)) = some r ∧ (if min d1 (min d2 d3) ≤ h then if mean = 0 then some (A, wI M 0 0) else some (B, wI M 0 0) else some (-1, wI M 0 0)) = some (r, M')) := by
    intro A B C D
    by_cases c1 : min d1 (min d2 d3) ≤ h
    · by_cases c2 : mean = 0
      · simp only [c1, c2, if_true]; exact ⟨_, _, rfl, rfl⟩
      · simp only [c1, c2, if_true, if_false]; exact ⟨_, _, rfl, rfl⟩
    · simp only [c1, if_false]; exact ⟨_, _, rfl, rfl⟩
  by_cases cA : d1 ≤ d2 ∧ d1 ≤ d3
  · have e : min d1 (min d2 d3) = d1 := by omega
    have f := fin 0 ((nI p + nI q) / 2) 0 0
    rw [e] at f ⊢
    simpa only [show ¬ d2 < d1 by omega, show ¬ d3 < d1 by omega, if_true, if_false] using f
  · by_cases cB : d2 ≤ d3
    · have e : min d1 (min d2 d3) = d2 := by omega
      have f := fin 1 ((nI p + nI r) / 2) 0 0
      rw [e] at f ⊢
      simpa only [show d2 < d1 by omega, show ¬ d1 = d2 by omega, show ¬ d3 < d2 by omega, show ¬ ((1 : Int32) = 0) by decide, if_true, if_false] using f
    · have e : min d1 (min d2 d3) = d3 := by omega
      have f := fin 2 ((nI q + nI r) / 2) 0 0
      rw [e] at f ⊢
      by_cases cC : d2 < d1
      · simpa only [cC, show ¬ d1 = d3 by omega, show ¬ d2 = d3 by omega, show d3 < d2 by omega, show ¬ ((2 : Int32) = 0) by decide, show ¬ ((2 : Int32) = 1) by decide, if_true, if_false] using f
      · simpa only [cC, show d3 < d1 by omega, show ¬ d1 = d3 by omega, show ¬ d2 = d3 by omega, show d3 < d2 by omega, show ¬ ((2 : Int32) = 0) by decide, show ¬ ((2 : Int32) = 1) by decide, if_true, if_false] using f
