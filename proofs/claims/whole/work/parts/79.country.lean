/-! ===== country ===== -/
theorem pick_e {n k m : Nat} {f : Nat → Int32} (hm : m ≤ n) (hn : n < 2 ^ 31) (hk : k < 2 ^ 31) : gX9_pick n f (nI m) (nI k) = some (if k < m then f k else -2) := by
  by_cases q : k < m
  · rw [if_pos q]; exact pick_nI q hm hn
  · rw [if_neg q, pickS hn, nI_toInt hk, nI_toInt (show m < 2 ^ 31 by omega), if_neg (by omega)]
section CY
variable {C : SV} {B : Nat → Int32} {i n c : Nat} {A : Nat → Int32} {M : SV}
theorem CX.cnt (h : CX C B n c) : ∃ P L R, P ≤ 12 ∧ L ≤ 4 ∧ R ≤ 4 ∧ B 1 = nI P ∧ B 2 = nI L ∧ B 3 = nI R := by
  obtain ⟨⟨-, v1, v2, v3, -, -⟩, -⟩ := h.vb
  obtain ⟨P, hP, eP⟩ := vp_in_of (x := B 1) (n := 13) (vp_in_iff.mpr ⟨v1.1, by have := v1.2; omega⟩) (by decide)
  obtain ⟨L, hL, eL⟩ := vp_in_of (x := B 2) (n := 5) (vp_in_iff.mpr ⟨v2.1, by have := v2.2; omega⟩) (by decide)
  obtain ⟨R, hR, eR⟩ := vp_in_of (x := B 3) (n := 5) (vp_in_iff.mpr ⟨v3.1, by have := v3.2; omega⟩) (by decide)
  exact ⟨P, L, R, by omega, by omega, by omega, eP, eL, eR⟩
end CY
theorem qu_country (Wc : WC) : Qu_country Wc := by
  intro z M ρM hI a1 w
  have hsk := hI.2.2.2.1
  unfold fX9_country gX10_country
  rw [if_pos (x9_o hsk), x9_g (k := 0) (x := 16) hsk rfl]
  simp only [Option.bind_some, nm]
  rcases land_cases hI a1 with ⟨i, a, ρc, C, n, c, hi, rfl, h1, ha, hC, hx, hb⟩ | ⟨h1, hb⟩
  · obtain ⟨S', M', b1, b2_, b3, b4, b5, b6⟩ := hb (wI M 0 0) rfl rfl (fun _ => 0, fun _ _ => 0, 0)
    rw [h1, b2_]
    simp only [Option.bind_some, nq, b2, show ¬ ((1 : Int32) = 0) by decide, if_false, eX0_answer hC]
    obtain ⟨P, L, R, hP, hL, hR, eP, eL, eR⟩ := hx.cnt
    have hn := hx.hn
    have hc := hx.hc
    have t10 : (10 : Int32).toInt = 10 := rfl
    have t5 : (5 : Int32).toInt = 5 := rfl
    obtain ⟨⟨k0, k7, k10, k11, k14, k19⟩, cr8, cr4, cr12, cr16⟩ := hx.cr
    have of_ : ∀ j, j < 110 → gX10_of (nI j) M' = some (blk M 6 110 0 i j) := fun j hj => b3.of hj
    rw [hx.b0] at k0
    rw [eP] at k7
    rw [eL] at k10
    rw [eR] at k11
    rw [hx.b4] at k14
    unfold gX0_answer
    by_cases c0 : (10 : Int32) ≤ w
    · obtain ⟨j, hj, rfl⟩ := nI_of (x := w) (by rw [fa_lt, t0]; rw [fa_le, t10] at c0; omega)
      have j10 : 10 ≤ j := by rw [fa_le, t10, nI_toInt hj] at c0; omega
      rw [if_pos c0]
      have ge : ∀ a : Nat, a ≤ j → nI a ≤ nI j := fun a q => nI_le q hj
      have nge : ∀ a : Nat, j < a → a < 2 ^ 31 → ¬ nI a ≤ nI j := fun a q r => nI_ge q r
      have lt : ∀ a : Nat, j < a → a < 2 ^ 31 → nI j < nI a := fun a q r => nI_lt q r
      have nlt : ∀ a : Nat, a ≤ j → ¬ nI j < nI a := fun a q => nI_nlt q hj
      rw [idiv10 hj, irem10 hj]
      by_cases j100 : j < 100
      · simp only [if_pos (show nI j < 100 from lt 100 j100 (by omega)), if_neg (show ¬ nI (j / 10) = 0 from nI_ne0 (by omega) (by omega))]
        have hr : j % 10 < 10 := by omega
        have hq : j / 10 = 1 ∨ j / 10 = 2 ∨ j / 10 = 3 ∨ j / 10 = 4 ∨ j / 10 = 5 ∨ j / 10 = 6 ∨ j / 10 = 7 ∨ j / 10 = 8 ∨ j / 10 = 9 := by omega
        rcases hq with e | e | e | e | e | e | e | e | e
        · rw [e, if_neg (show ¬ (50 : Int32) ≤ nI j from nge 50 (by omega) (by omega))]
          unfold gX0_ofThing
          rw [k0, b3.fm, pick_e (by omega) (by omega) (by omega), pick_e (by omega) (by omega) (by omega), pick_e (by omega) (by omega) (by omega), pick_e (by omega) (by omega) (by omega), show (6 : Int32) + 8 * (nI 1 - 1) = nI 6 by decide, nI_add]
          simp only [Option.bind_some, show (nI 1 = 1) = True from eq_true rfl, if_true, if_false]
          by_cases q : j % 10 < n
          · rw [if_neg (nI_ge q (by omega)), of_ _ (by omega), if_pos q, (cr8 (j % 10) (by omega)).1]; exact ⟨_, _, rfl, rfl⟩
          · rw [if_pos (nI_le (by omega) (by omega)), if_neg q]; exact ⟨_, _, rfl, rfl⟩
        · rw [e, if_neg (show ¬ (50 : Int32) ≤ nI j from nge 50 (by omega) (by omega))]
          unfold gX0_ofThing
          rw [k0, b3.fm, pick_e (by omega) (by omega) (by omega), pick_e (by omega) (by omega) (by omega), pick_e (by omega) (by omega) (by omega), pick_e (by omega) (by omega) (by omega), show (6 : Int32) + 8 * (nI 2 - 1) = nI 14 by decide, nI_add]
          simp only [Option.bind_some, show ¬ (nI 2 = 1) by decide, show (nI 2 = 2) = True from eq_true rfl, if_true, if_false]
          by_cases q : j % 10 < n
          · rw [if_neg (nI_ge q (by omega)), of_ _ (by omega), if_pos q, (cr8 (j % 10) (by omega)).2.1]; exact ⟨_, _, rfl, rfl⟩
          · rw [if_pos (nI_le (by omega) (by omega)), if_neg q]; exact ⟨_, _, rfl, rfl⟩
        · rw [e, if_neg (show ¬ (50 : Int32) ≤ nI j from nge 50 (by omega) (by omega))]
          unfold gX0_ofThing
          rw [k0, b3.fm, pick_e (by omega) (by omega) (by omega), pick_e (by omega) (by omega) (by omega), pick_e (by omega) (by omega) (by omega), pick_e (by omega) (by omega) (by omega), show (6 : Int32) + 8 * (nI 3 - 1) = nI 22 by decide, nI_add]
          simp only [Option.bind_some, show ¬ (nI 3 = 1) by decide, show ¬ (nI 3 = 2) by decide, show (nI 3 = 3) = True from eq_true rfl, if_true, if_false]
          by_cases q : j % 10 < n
          · rw [if_neg (nI_ge q (by omega)), of_ _ (by omega), if_pos q, (cr8 (j % 10) (by omega)).2.2.1]; exact ⟨_, _, rfl, rfl⟩
          · rw [if_pos (nI_le (by omega) (by omega)), if_neg q]; exact ⟨_, _, rfl, rfl⟩
        · rw [e, if_neg (show ¬ (50 : Int32) ≤ nI j from nge 50 (by omega) (by omega))]
          unfold gX0_ofThing
          rw [k0, b3.fm, pick_e (by omega) (by omega) (by omega), pick_e (by omega) (by omega) (by omega), pick_e (by omega) (by omega) (by omega), pick_e (by omega) (by omega) (by omega), show (6 : Int32) + 8 * (nI 4 - 1) = nI 30 by decide, nI_add]
          simp only [Option.bind_some, show ¬ (nI 4 = 1) by decide, show ¬ (nI 4 = 2) by decide, show ¬ (nI 4 = 3) by decide, show (nI 4 = 4) = True from eq_true rfl, if_true, if_false]
          by_cases q : j % 10 < n
          · rw [if_neg (nI_ge q (by omega)), of_ _ (by omega), if_pos q, (cr8 (j % 10) (by omega)).2.2.2]; exact ⟨_, _, rfl, rfl⟩
          · rw [if_pos (nI_le (by omega) (by omega)), if_neg q]; exact ⟨_, _, rfl, rfl⟩
        · rw [e, if_pos (show (50 : Int32) ≤ nI j from ge 50 (by omega)), if_neg (show ¬ (90 : Int32) ≤ nI j from nge 90 (by omega) (by omega))]
          unfold gX0_ofEyeOrCouple gbX10_country_301 gbX10_country_321
          rw [k10, k11, k14, pick_e (by omega) (by omega) (by omega), pick_e (by omega) (by omega) (by omega)]
          simp only [Option.bind_some, show ¬ (nI 5 = 1) by decide, show ¬ (nI 5 = 2) by decide, show ¬ (nI 5 = 3) by decide, show ¬ (nI 5 = 4) by decide, show (nI 5 = 5) = True from eq_true rfl, if_true, if_false]
          simp only [if_neg (show ¬ (60 : Int32) ≤ nI j from nge 60 (by omega) (by omega))]
          have o := of_ 2 (by omega)
          rw [eL] at o
          rw [show (2 : Int32) = nI 2 from rfl, o]
          simp only [Option.bind_some]
          by_cases q : j % 10 < L
          · rw [if_neg (nI_ge q (by omega)), show (38 : Int32) = nI 38 from rfl, nI_add, of_ _ (by omega), if_pos q, (cr4 (j % 10) (by omega)).1]; exact ⟨_, _, rfl, rfl⟩
          · rw [if_pos (nI_le (by omega) (by omega)), if_neg q]; exact ⟨_, _, rfl, rfl⟩
        · rw [e, if_pos (show (50 : Int32) ≤ nI j from ge 50 (by omega)), if_neg (show ¬ (90 : Int32) ≤ nI j from nge 90 (by omega) (by omega))]
          unfold gX0_ofEyeOrCouple gbX10_country_301 gbX10_country_321
          rw [k10, k11, k14, pick_e (by omega) (by omega) (by omega), pick_e (by omega) (by omega) (by omega)]
          simp only [Option.bind_some, show ¬ (nI 6 = 1) by decide, show ¬ (nI 6 = 2) by decide, show ¬ (nI 6 = 3) by decide, show ¬ (nI 6 = 4) by decide, show ¬ (nI 6 = 5) by decide, show (nI 6 = 6) = True from eq_true rfl, if_true, if_false]
          simp only [if_pos (show (60 : Int32) ≤ nI j from ge 60 (by omega))]
          have o := of_ 3 (by omega)
          rw [eR] at o
          rw [show (3 : Int32) = nI 3 from rfl, o]
          simp only [Option.bind_some]
          by_cases q : j % 10 < R
          · rw [if_neg (nI_ge q (by omega)), show (42 : Int32) = nI 42 from rfl, nI_add, of_ _ (by omega), if_pos q, (cr4 (j % 10) (by omega)).2.1]; exact ⟨_, _, rfl, rfl⟩
          · rw [if_pos (nI_le (by omega) (by omega)), if_neg q]; exact ⟨_, _, rfl, rfl⟩
        · rw [e, if_pos (show (50 : Int32) ≤ nI j from ge 50 (by omega)), if_neg (show ¬ (90 : Int32) ≤ nI j from nge 90 (by omega) (by omega))]
          unfold gX0_ofEyeOrCouple gbX10_country_354
          rw [k10, k11, k14, b3.cp, pick_e (by omega) (by omega) (by omega), pick_e (by omega) (by omega) (by omega), pick_e (by omega) (by omega) (by omega), pick_e (by omega) (by omega) (by omega)]
          simp only [Option.bind_some, show ¬ (nI 7 = 1) by decide, show ¬ (nI 7 = 2) by decide, show ¬ (nI 7 = 3) by decide, show ¬ (nI 7 = 4) by decide, show ¬ (nI 7 = 5) by decide, show ¬ (nI 7 = 6) by decide, show (nI 7 = 7) = True from eq_true rfl, if_true, if_false]
          simp only [if_neg (show ¬ (80 : Int32) ≤ nI j from nge 80 (by omega) (by omega))]
          by_cases q : j % 10 < c
          · rw [if_neg (nI_ge q (by omega)), show (46 : Int32) = nI 46 from rfl, nI_add, of_ _ (by omega), if_pos q, (cr4 (j % 10) (by omega)).2.2.1]; exact ⟨_, _, rfl, rfl⟩
          · rw [if_pos (nI_le (by omega) (by omega)), if_neg q]; exact ⟨_, _, rfl, rfl⟩
        · rw [e, if_pos (show (50 : Int32) ≤ nI j from ge 50 (by omega)), if_neg (show ¬ (90 : Int32) ≤ nI j from nge 90 (by omega) (by omega))]
          unfold gX0_ofEyeOrCouple gbX10_country_354
          rw [k10, k11, k14, b3.cp, pick_e (by omega) (by omega) (by omega), pick_e (by omega) (by omega) (by omega), pick_e (by omega) (by omega) (by omega), pick_e (by omega) (by omega) (by omega)]
          simp only [Option.bind_some, show ¬ (nI 8 = 1) by decide, show ¬ (nI 8 = 2) by decide, show ¬ (nI 8 = 3) by decide, show ¬ (nI 8 = 4) by decide, show ¬ (nI 8 = 5) by decide, show ¬ (nI 8 = 6) by decide, show ¬ (nI 8 = 7) by decide, show (nI 8 = 8) = True from eq_true rfl, if_true, if_false]
          simp only [if_pos (show (80 : Int32) ≤ nI j from ge 80 (by omega))]
          by_cases q : j % 10 < c
          · rw [if_neg (nI_ge q (by omega)), show (50 : Int32) = nI 50 from rfl, nI_add, of_ _ (by omega), if_pos q, (cr4 (j % 10) (by omega)).2.2.2]; exact ⟨_, _, rfl, rfl⟩
          · rw [if_pos (nI_le (by omega) (by omega)), if_neg q]; exact ⟨_, _, rfl, rfl⟩
        · rw [e, if_pos (show (50 : Int32) ≤ nI j from ge 50 (by omega)), if_pos (show (90 : Int32) ≤ nI j from ge 90 (by omega))]
          unfold gbX0_answer_78 gbX0_answer_107 gbX0_answer_142
          rw [if_pos (show nI j < 120 from lt 120 (by omega) (by omega)), if_pos (show nI j < 140 from lt 140 (by omega) (by omega)), if_pos (show nI j < 160 from lt 160 (by omega) (by omega))]
          simp only [show ¬ (nI 9 = 1) by decide, show ¬ (nI 9 = 2) by decide, show ¬ (nI 9 = 3) by decide, show ¬ (nI 9 = 4) by decide, show ¬ (nI 9 = 5) by decide, show ¬ (nI 9 = 6) by decide, show ¬ (nI 9 = 7) by decide, show ¬ (nI 9 = 8) by decide, if_false, Option.bind_some]
          exact ⟨_, _, rfl, rfl⟩
      · rw [if_neg (show ¬ nI j < 100 from nlt 100 (by omega)), if_pos (show (50 : Int32) ≤ nI j from ge 50 (by omega)), if_pos (show (90 : Int32) ≤ nI j from ge 90 (by omega)), if_neg (show ¬ nI j < 100 from nlt 100 (by omega))]
        have r20 : irem (nI j) 20 = nI (j % 20) := pk_rem (d := 20) hj (by decide) (by decide)
        rw [r20]
        have o1 := of_ 1 (by omega)
        rw [eP] at o1
        have o2 := of_ 2 (by omega)
        rw [eL] at o2
        have o3 := of_ 3 (by omega)
        rw [eR] at o3
        by_cases j120 : j < 120
        · rw [if_neg (show ¬ (140 : Int32) ≤ nI j from nge 140 (by omega) (by omega)), if_neg (show ¬ (120 : Int32) ≤ nI j from nge 120 j120 (by omega)), show (100 : Int32) = nI 100 from rfl, pk_sub (by omega), k7, pick_e (by omega) (by omega) (by omega), show (1 : Int32) = nI 1 from rfl, o1, if_neg (show ¬ (120 : Int32) ≤ nI j from nge 120 j120 (by omega))]
          simp only [Option.bind_some]
          unfold gbX10_country_64
          have e20 : j % 20 = j - 100 := by omega
          by_cases q : j - 100 < P
          · rw [e20, if_neg (nI_ge q (by omega)), if_pos q, show (54 : Int32) = nI 54 from rfl, nI_add, of_ _ (by omega), (cr12 (j - 100) (by omega)).1]; exact ⟨_, _, rfl, rfl⟩
          · rw [e20, if_pos (nI_le (by omega) (by omega)), if_neg q]; exact ⟨_, _, rfl, rfl⟩
        rw [if_pos (show (120 : Int32) ≤ nI j from ge 120 (by omega))]
        unfold gbX0_answer_78
        rw [if_neg (show ¬ nI j < 120 from nlt 120 (by omega))]
        by_cases j140 : j < 140
        · rw [if_neg (show ¬ (140 : Int32) ≤ nI j from nge 140 j140 (by omega)), if_neg (show ¬ (140 : Int32) ≤ nI j from nge 140 j140 (by omega)), show (120 : Int32) = nI 120 from rfl, pk_sub (by omega), k7, pick_e (by omega) (by omega) (by omega), show (1 : Int32) = nI 1 from rfl, o1, if_pos (show nI 120 ≤ nI j from ge 120 (by omega))]
          simp only [Option.bind_some]
          unfold gbX10_country_64
          have e20 : j % 20 = j - 120 := by omega
          by_cases q : j - 120 < P
          · rw [e20, if_neg (nI_ge q (by omega)), if_pos q, show (66 : Int32) = nI 66 from rfl, nI_add, of_ _ (by omega), (cr12 (j - 120) (by omega)).2]; exact ⟨_, _, rfl, rfl⟩
          · rw [e20, if_pos (nI_le (by omega) (by omega)), if_neg q]; exact ⟨_, _, rfl, rfl⟩
        rw [if_pos (show (140 : Int32) ≤ nI j from ge 140 (by omega)), if_pos (show (140 : Int32) ≤ nI j from ge 140 (by omega))]
        unfold gbX0_answer_107
        rw [if_neg (show ¬ nI j < 140 from nlt 140 (by omega))]
        unfold gbX10_country_88 gbX10_country_119 gbX10_country_140 gbX10_country_150 gbX10_country_151 gbX10_country_171
        have dv : nI (j % 20) / 4 = nI (j % 20 / 4) := pk_div (d := 4) (by omega) (by decide) (by decide)
        have rm : irem (nI (j % 20)) 4 = nI (j % 20 % 4) := pk_rem (d := 4) (by omega) (by decide) (by decide)
        rw [dv, rm]
        have lk : ∀ (f : Nat → Int32) (x y r : Nat), x ≤ 4 → y ≤ 4 → r < 20 → gX0_ofLikes 16 f (nI x) (nI y) (nI r) = some (if r / 4 < x ∧ r % 4 < y then f r else -2) := by
          intro f x y r hx1 hy1 hr
          unfold gX0_ofLikes gbX0_ofLikes_22 gbX0_ofLikes_23
          have dv : nI r / 4 = nI (r / 4) := pk_div (d := 4) (by omega) (by decide) (by decide)
          have rm : irem (nI r) 4 = nI (r % 4) := pk_rem (d := 4) (by omega) (by decide) (by decide)
          rw [dv, rm, if_neg (nI_pos (by omega))]
          by_cases q1 : r / 4 < x
          · rw [if_neg (nI_ge q1 (by omega))]
            by_cases q2 : r % 4 < y
            · rw [if_neg (nI_ge q2 (by omega)), if_neg (show ¬ (1 : Int32) = 0 by decide), if_pos ⟨q1, q2⟩, show Int32.ofNat 16 = nI 16 from rfl, pick_nI (by omega) (by omega) (by omega)]; rfl
            · rw [if_pos (nI_le (by omega) (by omega)), if_pos rfl, if_neg (fun q => q2 q.2)]
          · rw [if_pos (nI_le (by omega) (by omega)), if_pos rfl, if_neg (fun q => q1 q.1)]
        have s16 : ∀ (x y r : Nat), x ≤ 4 → r < 20 → 16 ≤ r → ¬ (r / 4 < x ∧ r % 4 < y) := by intro x y r h1 h2 h3; omega
        by_cases j160 : j < 160
        · rw [if_neg (show ¬ (160 : Int32) ≤ nI j from nge 160 j160 (by omega)), if_neg (show ¬ (160 : Int32) ≤ nI j from nge 160 j160 (by omega)), if_neg (show ¬ (180 : Int32) ≤ nI j from nge 180 (by omega) (by omega)), show (140 : Int32) = nI 140 from rfl, pk_sub (by omega), k10, k11, lk _ L R _ hL hR (by omega)]
          have e20 : j % 20 = j - 140 := by omega
          rw [e20]
          simp only [Option.bind_some, show ¬ ((1 : Int32) = 0) by decide, if_false, if_true]
          by_cases q16 : 16 ≤ j - 140
          · rw [if_pos (show (16 : Int32) ≤ nI (j - 140) from nI_le (a := 16) q16 (by omega)), if_neg (s16 L R _ hL (by omega) q16)]; exact ⟨_, _, rfl, rfl⟩
          · rw [if_neg (show ¬ (16 : Int32) ≤ nI (j - 140) from nI_ge (b := 16) (by omega) (by omega)), show (2 : Int32) = nI 2 from rfl, show (3 : Int32) = nI 3 from rfl, o2, o3]
            simp only [Option.bind_some]
            by_cases q1 : (j - 140) / 4 < L
            · rw [if_neg (nI_ge q1 (by omega))]
              by_cases q2 : (j - 140) % 4 < R
              · rw [if_neg (nI_ge q2 (by omega)), if_pos ⟨q1, q2⟩, show (78 : Int32) = nI 78 from rfl, nI_add, of_ _ (by omega), (cr16 (j - 140) (by omega)).1]; exact ⟨_, _, rfl, rfl⟩
              · rw [if_pos (nI_le (by omega) (by omega)), if_neg (fun q => q2 q.2)]; exact ⟨_, _, rfl, rfl⟩
            · rw [if_pos (nI_le (by omega) (by omega)), if_neg (fun q => q1 q.1)]; exact ⟨_, _, rfl, rfl⟩
        rw [if_pos (show (160 : Int32) ≤ nI j from ge 160 (by omega)), if_pos (show (160 : Int32) ≤ nI j from ge 160 (by omega))]
        unfold gbX0_answer_142
        rw [if_neg (show ¬ nI j < 160 from nlt 160 (by omega))]
        by_cases j180 : j < 180
        · rw [if_neg (show ¬ (180 : Int32) ≤ nI j from nge 180 j180 (by omega)), if_neg (show ¬ (180 : Int32) ≤ nI j from nge 180 j180 (by omega)), show (160 : Int32) = nI 160 from rfl, pk_sub (by omega), k10, k11, lk _ R L _ hR hL (by omega)]
          have e20 : j % 20 = j - 160 := by omega
          rw [e20]
          simp only [Option.bind_some, show ¬ ((1 : Int32) = 0) by decide, if_false, if_true]
          by_cases q16 : 16 ≤ j - 160
          · rw [if_pos (show (16 : Int32) ≤ nI (j - 160) from nI_le (a := 16) q16 (by omega)), if_neg (s16 R L _ hR (by omega) q16)]; exact ⟨_, _, rfl, rfl⟩
          · rw [if_neg (show ¬ (16 : Int32) ≤ nI (j - 160) from nI_ge (b := 16) (by omega) (by omega)), show (2 : Int32) = nI 2 from rfl, show (3 : Int32) = nI 3 from rfl, o2, o3]
            simp only [Option.bind_some]
            by_cases q1 : (j - 160) / 4 < R
            · rw [if_neg (nI_ge q1 (by omega))]
              by_cases q2 : (j - 160) % 4 < L
              · rw [if_neg (nI_ge q2 (by omega)), if_pos ⟨q1, q2⟩, show (94 : Int32) = nI 94 from rfl, nI_add, of_ _ (by omega), (cr16 (j - 160) (by omega)).2]; exact ⟨_, _, rfl, rfl⟩
              · rw [if_pos (nI_le (by omega) (by omega)), if_neg (fun q => q2 q.2)]; exact ⟨_, _, rfl, rfl⟩
            · rw [if_pos (nI_le (by omega) (by omega)), if_neg (fun q => q1 q.1)]; exact ⟨_, _, rfl, rfl⟩
        · rw [if_pos (show (180 : Int32) ≤ nI j from ge 180 (by omega)), if_pos (show (180 : Int32) ≤ nI j from ge 180 (by omega))]
          simp only [Option.bind_some, if_true]
          exact ⟨_, _, rfl, rfl⟩
    · rw [if_neg c0]
      have g10 : w.toInt < 10 := by rw [fa_le, t10] at c0; omega
      have d : ∀ a : Int32, 0 < a.toInt → ¬ w / 10 = a := by
        intro a ha e
        have e2 := congrArg Int32.toInt e
        rw [Int32.toInt_div_of_ne_right _ _ (by decide), t10] at e2
        rcases Int.le_total 0 w.toInt with q | q
        · rw [Int.tdiv_eq_ediv_of_nonneg q] at e2; omega
        · have q2 : w.toInt = -(-w.toInt) := by omega
          rw [q2, Int.neg_tdiv, Int.tdiv_eq_ediv_of_nonneg (by omega)] at e2; omega
      rw [if_pos (show w < 100 by rw [fa_lt, show (100 : Int32).toInt = 100 from rfl]; omega), if_neg (d 1 (by decide)), if_neg (d 2 (by decide)), if_neg (d 3 (by decide)), if_neg (d 4 (by decide)), if_neg (d 5 (by decide)), if_neg (d 6 (by decide)), if_neg (d 7 (by decide)), if_neg (d 8 (by decide))]
      unfold gX0_sizeOf
      rw [k0, k7, k10, k11, k14, k19]
      have oo : ∀ j, j < 110 → ∀ x, blk M 6 110 0 i j = x → gX10_of (nI j) M' = some x := fun j hj x e => by rw [← e]; exact of_ j hj
      by_cases p0 : w = 0
      · subst p0
        have := oo 0 (by omega) _ hx.b0
        rw [show gX10_of 0 M' = _ from this]
        exact ⟨_, _, rfl, rfl⟩
      by_cases p1 : w = 1
      · subst p1
        have := oo 1 (by omega) _ eP
        rw [show gX10_of 1 M' = _ from this]
        exact ⟨_, _, rfl, rfl⟩
      by_cases p2 : w = 2
      · subst p2
        have := oo 2 (by omega) _ eL
        rw [show gX10_of 2 M' = _ from this]
        exact ⟨_, _, rfl, rfl⟩
      by_cases p3 : w = 3
      · subst p3
        have := oo 3 (by omega) _ eR
        rw [show gX10_of 3 M' = _ from this]
        exact ⟨_, _, rfl, rfl⟩
      by_cases p4 : w = 4
      · subst p4
        have := oo 4 (by omega) _ hx.b4
        rw [show gX10_of 4 M' = _ from this]
        exact ⟨_, _, rfl, rfl⟩
      by_cases p5 : w = 5
      · subst p5
        have := oo 5 (by omega) _ rfl
        rw [show gX10_of 5 M' = _ from this]
        exact ⟨_, _, rfl, rfl⟩
      have pin : fX10_in w 0 5 = 0 := m_in1 (by
        have t3 : (3 : Int32).toInt = 3 := rfl
        have t4 : (4 : Int32).toInt = 4 := rfl
        rw [fa_eq, t0] at p0; rw [fa_eq, t1] at p1; rw [fa_eq, t2] at p2; rw [fa_eq, t3] at p3; rw [fa_eq, t4] at p4; rw [fa_eq, t5] at p5
        rw [t0, t5]; omega)
      simp only [p0, p1, p2, p3, p4, p5, if_false, pin, if_true, ite_self, Option.bind_some]
      exact ⟨_, _, rfl, rfl⟩
  · rw [h1, hb (wI M 0 0) rfl]
    simp only [Option.bind_some, nq, b2, if_true]
    exact ⟨_, _, rfl, rfl⟩
