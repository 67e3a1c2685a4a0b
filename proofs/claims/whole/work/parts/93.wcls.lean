/-! ===== WATCH: the class, in the heap ===== -/
/-- the Watchers' object -/
def obW (a : Nat) (x y w : Int32) : AE := .inr (.inr (7, [.ref 50, .ref 76, .ref 81, .ref 82, .ref a, .int x, .int y, .int w]))
def wc (w : Int32) : Int32 := if w = 1000000 then -1 else w
def WB (a : Nat) (ρc : RV) (C : SV) (z : AH) : Prop := 113 ≤ z.length ∧ RD 0 a ρc C z ∧ 113 ≤ a ∧ (∃ f : Nat → Option Nat, z[50]? = some (.inr (.inl (5, 5, f))) ∧ ∀ k, k < 5 → f k = some (51 + 5 * k)) ∧ (∀ k, k < 6 → ∃ ρ S, RD 5 (51 + 5 * k) ρ S z)
def KA (a c : Nat) (t : (Int32 × Int32) × Int32 × Nat) (z : AH) : Prop := z[49]? = some (obW a t.1.1 t.1.2 (wc t.2.1)) ∧ ∃ best : Nat → Int32, z[82]? = some (.inl (0, 4, best)) ∧ (¬ t.1.1 = -1 → ∀ i, i < c → best i = nI (dg c t.2.2 i))
def SC (C : SV) (n j Q : Nat) (S : SV) : Prop := (∀ t, t < 8 → S.2.1 1 t = pS C j Q t ∧ S.2.1 2 t = pW C j Q t) ∧ S.1 6 = gW C n ∧ S.1 8 = 0 ∧ S.1 10 = pL j Q ∧ S.1 11 = pG j Q
section WH
variable {a : Nat} {x y w : Int32} {z : AH}
theorem w_n (h : z[49]? = some (obW a x y w)) : gN 7 0 z 49 = some 50 ∧ gN 7 1 z 49 = some 76 ∧ gN 7 2 z 49 = some 81 ∧ gN 7 3 z 49 = some 82 ∧ gI 7 5 z 49 = some x ∧ gI 7 6 z 49 = some y ∧ gI 7 7 z 49 = some w ∧ isO 7 z 49 = true ∧ gQ 7 4 z 49 = some (some a) := by
  refine ⟨?_, ?_, ?_, ?_, ?_, ?_, ?_, ?_, ?_⟩
  · unfold gN oF; rw [h]; rfl
  · unfold gN oF; rw [h]; rfl
  · unfold gN oF; rw [h]; rfl
  · unfold gN oF; rw [h]; rfl
  · unfold gI oF; rw [h]; rfl
  · unfold gI oF; rw [h]; rfl
  · unfold gI oF; rw [h]; rfl
  · unfold isO; rw [h]; rfl
  · unfold gQ oF; rw [h]; rfl
theorem w_p5 (h : z[49]? = some (obW a x y w)) (v : Int32) : pF 7 5 z 49 (.int v) = some (z.set 49 (obW a v y w)) := by unfold pF; rw [h]; rfl
theorem w_p6 (h : z[49]? = some (obW a x y w)) (v : Int32) : pF 7 6 z 49 (.int v) = some (z.set 49 (obW a x v w)) := by unfold pF; rw [h]; rfl
theorem w_p7 (h : z[49]? = some (obW a x y w)) (v : Int32) : pF 7 7 z 49 (.int v) = some (z.set 49 (obW a x y v)) := by unfold pF; rw [h]; rfl
theorem set_at {e : AE} {k : Nat} (h : k < z.length) : (z.set k e)[k]? = some e := List.getElem?_set_self h
theorem set_ne {e : AE} {k i : Nat} (h : i ≠ k) : (z.set k e)[i]? = z[i]? := List.getElem?_set_ne (Ne.symm h)
theorem set_len {e : AE} {k : Nat} : (z.set k e).length = z.length := List.length_set
end WH
/-- one Scene copied into another -/
def cpS (Sa Sb : SV) : SV := wI (wI (wI (wI (wI (wR (wR Sb 1 (va_cpy (Sa.2.1 1) (Sb.2.1 1) 0 0 8)) 2 (va_cpy (Sa.2.1 2) ((wR Sb 1 (va_cpy (Sa.2.1 1) (Sb.2.1 1) 0 0 8)).2.1 2) 0 0 8)) 5 (Sa.1 5)) 6 (Sa.1 6)) 8 (Sa.1 8)) 10 (Sa.1 10)) 11 (Sa.1 11)
theorem z_copy {a b c0 : Nat} {ρa ρb : RV} {Sa Sb : SV} {z : AH} (ha : RD 5 a ρa Sa z) (hb : RD 5 b ρb Sb z) (hd : a + szV 5 ≤ b ∨ b + szV 5 ≤ a) (hl : ρa.1 0 = some c0) (hz : b + szV 5 ≤ z.length) : fX6_copy b a z = some (wr 5 b (va_up ρb.1 0 (some c0), ρb.2) (cpS Sa Sb) z) := by
  have key : fX6_copy b a (wr 5 b ρb Sb z) = some (wr 5 b (va_up ρb.1 0 (some c0), ρb.2) (cpS Sa Sb) z) := by
    unfold fX6_copy
    refine eo (isO_rd (rd_wr hz)) ?_
    refine sb ((gR_rd (ha.far hd) rfl).trans hl) ?_
    refine sb (pF_ref hz rfl (some c0)) ?_
    refine sb (gN_rd (ha.far hd) rfl (Or.inl rfl)) ?_
    refine sb (gN_rd (rd_wr hz) rfl (Or.inl rfl)) ?_
    refine sb ((cpI_rd rkOk5 hz (rw_rd (ha.far hd) (k := 1) rfl rfl (by decide) 0 rfl (by decide)) (k := 1) rfl rfl (by decide) (0 : Int32) (0 : Int32) (8 : Int32)).trans (by rw [cpV8]; rfl)) ?_
    refine sb (gN_rd (ha.far hd) rfl (Or.inl rfl)) ?_
    refine sb (gN_rd (rd_wr hz) rfl (Or.inl rfl)) ?_
    refine sb ((cpI_rd rkOk5 hz (rw_rd (ha.far hd) (k := 2) rfl rfl (by decide) 0 rfl (by decide)) (k := 2) rfl rfl (by decide) (0 : Int32) (0 : Int32) (8 : Int32)).trans (by rw [cpV8]; rfl)) ?_
    refine sb (gI_rd (ha.far hd) rfl) ?_
    refine sb (pF_int hz rfl _) ?_
    refine sb (gI_rd (ha.far hd) rfl) ?_
    refine sb (pF_int hz rfl _) ?_
    refine sb (gI_rd (ha.far hd) rfl) ?_
    refine sb (pF_int hz rfl _) ?_
    refine sb (gI_rd (ha.far hd) rfl) ?_
    refine sb (pF_int hz rfl _) ?_
    refine sb (gI_rd (ha.far hd) rfl) ?_
    refine sb (pF_int hz rfl _) ?_
    rfl
  rw [wr_id hb] at key
  exact key
theorem cpS_sc {C : SV} {n j Q : Nat} {Sa : SV} (h : SC C n j Q Sa) (Sb : SV) : SC C n j Q (cpS Sa Sb) := by
  obtain ⟨h1, h2, h3, h4, h5⟩ := h
  have hc : ∀ (f g : Nat → Int32) (t : Nat), t < 8 → va_cpy f g 0 0 8 t = f t := fun f g t ht => by
    rw [pk_cpy_in (by omega) (by omega)]; congr 1; omega
  unfold cpS
  refine ⟨fun t ht => ?_, ?_, ?_, ?_, ?_⟩
  · show (wR (wR Sb 1 _) 2 _).2.1 1 t = _ ∧ (wR (wR Sb 1 _) 2 _).2.1 2 t = _
    rw [wR_ne (by decide), wR_eq, wR_eq, hc _ _ t ht, hc _ _ t ht]; exact h1 t ht
  · rw [wI_ne (by decide), wI_ne (by decide), wI_ne (by decide), wI_eq]; exact h2
  · rw [wI_ne (by decide), wI_ne (by decide), wI_eq]; exact h3
  · rw [wI_ne (by decide), wI_eq]; exact h4
  · rw [wI_eq]; exact h5
section WJ
variable {C : SV} {B : Nat → Int32} {n c : Nat} {a : Nat} {ρc : RV} {z : AH}
theorem WB.same (h : WB a ρc C z) {z' : AH} (hl : z'.length = z.length) (h50 : z'[50]? = z[50]?) (hs : ∀ i, 83 ≤ i → z'[i]? = z[i]?) (h5 : ∀ k, k < 6 → ∃ ρ S, RD 5 (51 + 5 * k) ρ S z') : WB a ρc C z' := by
  obtain ⟨h1, h2, h3, ⟨f, h4, h6⟩, -⟩ := h
  exact ⟨by omega, h2.same (fun i hi _ => hs i (by omega)), h3, ⟨f, by rw [h50]; exact h4, h6⟩, h5⟩
/-- fewest looks -/
theorem c_157 {x y w : Int32} (h49 : z[49]? = some (obW a x y w)) (h49l : 49 < z.length) (l2 s0 : Int32) : ∃ w' z', bX8_judge_157 49 l2 s0 z = some z' ∧ z'[49]? = some (obW a x y w') ∧ (∀ i, i ≠ 49 → z'[i]? = z[i]?) ∧ z'.length = z.length ∧ ((s0 = 0 ∧ w' = w) ∨ (¬ s0 = 0 ∧ w = -1 ∧ w' = l2) ∨ (¬ s0 = 0 ∧ ¬ w = -1 ∧ w ≤ l2 ∧ w' = w) ∨ (¬ s0 = 0 ∧ ¬ w = -1 ∧ ¬ w ≤ l2 ∧ w' = l2)) := by
  obtain ⟨-, -, -, -, -, -, e7, -⟩ := w_n h49
  have st : (z.set 49 (obW a x y l2))[49]? = some (obW a x y l2) ∧ (∀ i, i ≠ 49 → (z.set 49 (obW a x y l2))[i]? = z[i]?) ∧ (z.set 49 (obW a x y l2)).length = z.length := ⟨set_at h49l, fun i hi => set_ne hi, set_len⟩
  unfold bX8_judge_157
  by_cases q : s0 = 0
  · rw [if_pos q]; exact ⟨w, z, rfl, h49, fun _ _ => rfl, rfl, Or.inl ⟨q, rfl⟩⟩
  · rw [if_neg q, e7]
    simp only [Option.bind_some]
    by_cases q2 : w = -1
    · rw [if_pos q2, w_p7 h49]
      exact ⟨l2, _, rfl, st.1, st.2.1, st.2.2, Or.inr (Or.inl ⟨q, q2, rfl⟩)⟩
    · rw [if_neg q2]
      by_cases q3 : w ≤ l2
      · rw [if_pos q3]; exact ⟨w, z, rfl, h49, fun _ _ => rfl, rfl, Or.inr (Or.inr (Or.inl ⟨q, q2, q3, rfl⟩))⟩
      · rw [if_neg q3, w_p7 h49]
        exact ⟨l2, _, rfl, st.1, st.2.1, st.2.2, Or.inr (Or.inr (Or.inr ⟨q, q2, q3, rfl⟩))⟩
theorem c_138 {x y : Int32} {p N b : Nat} (hp : p ≤ 4 ∨ p = 1000000) (hN : N ≤ 4) (h49 : z[49]? = some (obW a x y (wc (nI p)))) (h49l : 49 < z.length) {G g0 : Int32} (hG : gI 5 6 z 76 = some G) (hg : gI 5 6 z b = some g0) : ∃ w' z', bX8_judge_138 49 b (nI N) z = some z' ∧ z'[49]? = some (obW a x y (wc w')) ∧ (∀ i, i ≠ 49 → z'[i]? = z[i]?) ∧ z'.length = z.length ∧ ((G = g0 ∧ w' = fX10_lesser (nI p) (nI N)) ∨ (¬ G = g0 ∧ w' = nI p)) := by
  obtain ⟨-, e1, -⟩ := w_n h49
  unfold bX8_judge_138
  rw [e1]
  simp only [Option.bind_some]
  rw [hG, hg]
  simp only [Option.bind_some]
  have wcN : ∀ q : Nat, q ≤ 4 → wc (nI q) = nI q := fun q hq => by
    unfold wc
    rw [if_neg (fun e => by rw [t106, nI_eq (by omega) (by omega)] at e; omega)]
  by_cases q : G = g0
  · rw [if_pos q]
    obtain ⟨w', z', e2, e3, e4, e5, e6⟩ := c_157 h49 h49l (nI N) 1
    refine ⟨fX10_lesser (nI p) (nI N), z', e2, ?_, e4, e5, Or.inl ⟨q, rfl⟩⟩
    have e7 : w' = wc (fX10_lesser (nI p) (nI N)) := by
      rw [les_nI (by omega) (by omega), wcN (min p N) (by omega)]
      have hwp : (p = 1000000 ∧ wc (nI p) = -1) ∨ (p ≤ 4 ∧ wc (nI p) = nI p) := by
        rcases hp with hp | hp
        · exact Or.inr ⟨hp, wcN p hp⟩
        · refine Or.inl ⟨hp, ?_⟩
          unfold wc; rw [if_pos (by rw [hp]; rfl)]
      rcases hwp with ⟨hp1, hp2⟩ | ⟨hp1, hp2⟩
      · rcases e6 with ⟨r, -⟩ | ⟨-, -, r⟩ | ⟨-, r, -⟩ | ⟨-, r, -⟩
        · exact absurd r (by decide)
        · rw [r, Nat.min_eq_right (by omega)]
        · exact absurd hp2 r
        · exact absurd hp2 r
      · rw [hp2] at e6
        rcases e6 with ⟨r, -⟩ | ⟨-, r, -⟩ | ⟨-, -, r, r2⟩ | ⟨-, -, r, r2⟩
        · exact absurd r (by decide)
        · exact absurd r (nI_m1 (by omega))
        · rw [r2, Nat.min_eq_left ((nI_leI (by omega) (by omega)).mp r)]
        · have r3 : ¬ p ≤ N := fun e => r (nI_le e (by omega))
          rw [r2, Nat.min_eq_right (by omega)]
    rw [← e7]; exact e3
  · rw [if_neg q]
    obtain ⟨w', z', e2, e3, e4, e5, e6⟩ := c_157 h49 h49l (nI N) 0
    refine ⟨nI p, z', e2, ?_, e4, e5, Or.inr ⟨q, rfl⟩⟩
    rcases e6 with ⟨-, r⟩ | ⟨r, -⟩ | ⟨r, -⟩ | ⟨r, -⟩
    · rw [← r]; exact e3
    · exact absurd rfl r
    · exact absurd rfl r
    · exact absurd rfl r
theorem c_judge (h : CX C B n c) (hB : WB a ρc C z) {j : Nat} (hj : j ≤ 4) {ρ : RV} {S : SV} (hS : RD 5 (51 + 5 * j) ρ S z) (hl : ρ.1 0 = some a) {Q : Nat} (hSC : SC C n c Q S) {f : Nat → Int32} (h81 : z[81]? = some (.inl (0, 4, f))) (hrow : ∀ i, i < c → f i = nI (dg c Q i)) {t t' : (Int32 × Int32) × Int32 × Nat} (hK : KA a c t z) (hA : AJ C n c Q t t') (hw : ∃ p, (p ≤ 4 ∨ p = 1000000) ∧ t.2.1 = nI p) : ∃ z', fX8_judge 49 (51 + 5 * j) (nI (pN c Q)) z = some z' ∧ WB a ρc C z' ∧ z'.length = z.length ∧ (∀ i, i ≠ 49 → ¬ (76 ≤ i ∧ i < 81) → i ≠ 82 → z'[i]? = z[i]?) ∧ KA a c t' z' := by
  have hn := h.hn
  have hc := h.hc
  obtain ⟨h49, best, h82, hbest⟩ := hK
  obtain ⟨B1, B2, B3, B4, B5⟩ := id hB
  obtain ⟨w0, w1, w2, w3, w5, w6, w7, wo, -⟩ := w_n h49
  obtain ⟨ρt, St, hT⟩ := B5 5 (by omega)
  replace hT : RD 5 76 ρt St z := hT
  have hz : 76 + szV 5 ≤ z.length := by rw [s5]; omega
  have hd : 51 + 5 * j + szV 5 ≤ 76 ∨ 76 + szV 5 ≤ 51 + 5 * j := by rw [s5]; omega
  have dC : a + szV 0 ≤ 76 ∨ 76 + szV 5 ≤ a := Or.inr (by rw [s5]; omega)
  have e1 := z_copy hS hT hd hl hz
  have hlt : (va_up ρt.1 0 (some a), ρt.2).1 0 = some a := z_land ρt a
  generalize hρ : ((va_up ρt.1 0 (some a), ρt.2) : RV) = ρ1 at e1 hlt
  obtain ⟨k1, k2, k3, k4, k5⟩ := cpS_sc hSC St
  generalize cpS S St = S1 at e1 k1 k2 k3 k4 k5
  obtain ⟨S2, p1, ⟨p2, p3, -, p5, -⟩, -⟩ := c_hour hn h.c0 S1
  have e2 := eX6_passHour (ρ := ρ1) hz B2 dC hlt S1
  rw [p1] at e2
  replace e2 : fX6_passHour 76 (wr 5 76 ρ1 S1 z) = some (1, wr 5 76 ρ1 S2 z) := e2
  have et : ∀ t, t < n → S2.2.1 1 t = jT C n c Q t := fun t ht => by
    rw [p2, k2, k5]
    unfold jT thP
    rw [(k1 t (by omega)).1]
  have eg : S2.1 6 = jG C n c Q := by
    rw [p5, ← p2, k2]
    exact fl_cong et (fun t ht => (k1 t (by omega)).2) _
  have hGo : GO n (C.2.1 5) (jG C n c Q) := by
    have : GO n (C.2.1 5) (gW C n) := GO.z.fl hn h.at
    exact this.fl hn h.at
  have hT2 : RD 5 76 ρ1 S2 (wr 5 76 ρ1 S2 z) := rd_wr hz
  have hC2 : RD 0 a ρc C (wr 5 76 ρ1 S2 z) := B2.far dC
  have hS2 : RD 5 (51 + 5 * j) ρ S (wr 5 76 ρ1 S2 z) := hS.far hd
  have o49 : ∀ (ρ : RV) (S : SV), (wr 5 76 ρ S z)[49]? = some (obW a t.1.1 t.1.2 (wc t.2.1)) := fun ρ S => by rw [wr_out (Or.inl (by omega))]; exact h49
  have o81 : (wr 5 76 ρ1 S2 z)[81]? = some (.inl (0, 4, f)) := by rw [wr_out (Or.inr (by rw [s5]; omega))]; exact h81
  have o82 : (wr 5 76 ρ1 S2 z)[82]? = some (.inl (0, 4, best)) := by rw [wr_out (Or.inr (by rw [s5]; omega))]; exact h82
  have oi : ∀ i, ¬ (76 ≤ i ∧ i < 81) → (wr 5 76 ρ1 S2 z)[i]? = z[i]? := fun i hi => wr_out (by rw [s5]; omega)
  have ol : (wr 5 76 ρ1 S2 z).length = z.length := wr_len
  have eth : fX6_there 76 (wr 5 76 ρ1 S2 z) = some (thr n (jG C n c Q)) := by
    rw [eX6_there hT2 hC2 hlt]
    unfold gX6_there thr
    rw [h.c0, eg]
  have ebc : fJ6_bitCount_0f7a4 (thr n (jG C n c Q)) = nI (jM C n c Q) := bc_8 (fun i i1 i2 => by rw [thr_bt hn _ i2, decide_eq_false (by omega)]; rfl)
  have hG6 : gI 5 6 (wr 5 76 ρ1 S2 z) 76 = some (jG C n c Q) := by rw [gI_rd hT2 rfl, eg]
  have hb6 : gI 5 6 (wr 5 76 ρ1 S2 z) (51 + 5 * j) = some (gW C n) := by rw [gI_rd hS2 rfl, hSC.2.1]
  -- the sum
  have hsum : ∀ R : Option AH, (∀ k, bX8_judge_33 k 49 (51 + 5 * j) (nI (pN c Q)) (nI (jM C n c Q)) (jS C n c Q) (nI n) (wr 5 76 ρ1 S2 z) = R) → fX8_judge_33 FU 49 (51 + 5 * j) (nI (pN c Q)) (nI (jM C n c Q)) 0 0 (wr 5 76 ρ1 S2 z) = R := by
    intro R hR
    generalize hzz : wr 5 76 ρ1 S2 z = zz at *
    obtain ⟨v0, v1, v2, v3, v5, v6, v7, vo, -⟩ := w_n (show zz[49]? = some (obW a t.1.1 t.1.2 (wc t.2.1)) by rw [oi 49 (by omega)]; exact h49)
    refine lp (fun f (q : Int32 × Int32) => fX8_judge_33 f 49 (51 + 5 * j) (nI (pN c Q)) (nI (jM C n c Q)) q.1 q.2 zz) (fun j => (sumP (fun t => if bt (jG C n c Q) t then 0 else jT C n c Q t) j, nI j)) R n ?_ ?_ FU (by rw [FUn]; omega)
    · intro s hs u
      show bX8_judge_33 _ _ _ _ _ _ _ _ = fX8_judge_33 u 49 (51 + 5 * j) (nI (pN c Q)) (nI (jM C n c Q)) (sumP (fun t => if bt (jG C n c Q) t then 0 else jT C n c Q t) s + (if bt (jG C n c Q) s then 0 else jT C n c Q s)) (nI (s + 1)) zz
      unfold bX8_judge_33
      rw [v1]
      simp only [Option.bind_some]
      rw [gR_rd hT2 rfl, hlt]
      simp only [Option.bind_some]
      rw [gI_rd hC2 rfl, h.c0]
      simp only [Option.bind_some]
      rw [if_neg (nI_ge hs (by omega)), hG6]
      simp only [Option.bind_some]
      cases hb : bt (jG C n c Q) s
      · rw [if_pos ((c_has0 _ (by omega)).mpr hb), gN_rd hT2 (k := 1) rfl (Or.inl rfl)]
        simp only [Option.bind_some]
        rw [ixI_rd hT2 (k := 1) rfl rfl (by decide) 0 rfl (by decide), rA_nI (by omega) (by omega), et s hs]
        simp only [Option.bind_some]
        rw [nmE, nmE, ← nI_succ, if_neg (by decide)]
      · rw [if_neg (fun e => by rw [(c_has0 _ (by omega)).mp e] at hb; cases hb), nmE, nmE, ← nI_succ, if_pos rfl]
    · intro u
      exact hR _
  have hB2 : WB a ρc C (wr 5 76 ρ1 S2 z) := hB.same ol (oi 50 (by omega)) (fun i hi => oi i (by omega)) (fun k hk => by
    by_cases e : k = 5
    · subst e; exact ⟨ρ1, S2, hT2⟩
    · obtain ⟨ρk, Sk, q⟩ := B5 k hk
      exact ⟨ρk, Sk, q.far (by rw [s5]; omega)⟩)
  -- any end
  have fin : ∀ (zz : AH) (x y : Int32) (bb : Nat → Int32), zz[49]? = some (obW a x y (wc t.2.1)) → zz[82]? = some (.inl (0, 4, bb)) → (∀ i, i ≠ 49 → i ≠ 82 → zz[i]? = (wr 5 76 ρ1 S2 z)[i]?) → zz.length = z.length → ∃ (w' : Int32) (z' : AH), bX8_judge_138 49 (51 + 5 * j) (nI (pN c Q)) zz = some z' ∧ WB a ρc C z' ∧ z'.length = z.length ∧ (∀ i, i ≠ 49 → ¬ (76 ≤ i ∧ i < 81) → i ≠ 82 → z'[i]? = z[i]?) ∧ z'[49]? = some (obW a x y (wc w')) ∧ z'[82]? = some (.inl (0, 4, bb)) ∧ w' = t'.2.1 := by
    intro zz x y bb y49 y82 yi yl
    obtain ⟨p, hp, ep⟩ := hw
    rw [ep] at y49
    have yG : gI 5 6 zz 76 = some (jG C n c Q) := by
      rw [← hG6]; unfold gI oF; rw [yi 76 (by omega) (by omega)]
    have yg : gI 5 6 zz (51 + 5 * j) = some (gW C n) := by
      rw [← hb6]; unfold gI oF; rw [yi (51 + 5 * j) (by omega) (by omega)]
    obtain ⟨w', z', r1, r2, r3, r4, r5⟩ := c_138 (N := pN c Q) (b := 51 + 5 * j) hp (Nat.le_trans (pN_le c Q) hc) y49 (by omega) yG yg
    refine ⟨w', z', r1, hB2.same (by rw [r4, yl, ol]) (by rw [r3 50 (by omega), yi 50 (by omega) (by omega)]) (fun i hi => by rw [r3 i (by omega), yi i (by omega) (by omega)]) (fun k hk => ?_), by rw [r4, yl], fun i i1 i2 i3 => by rw [r3 i i1, yi i i1 i3, oi i i2], r2, by rw [r3 82 (by omega)]; exact y82, ?_⟩
    · obtain ⟨ρk, Sk, q⟩ := hB2.2.2.2.2 k hk
      exact ⟨ρk, Sk, q.same (fun i i1 i2 => by rw [s5] at i2; rw [r3 i (by omega), yi i (by omega) (by omega)])⟩
    · rw [← ep] at r5
      rcases r5 with ⟨g1, g2⟩ | ⟨g1, g2⟩
      · rcases hA.2 with ⟨d1, d2⟩ | ⟨d1, d2⟩
        · rw [g2, d2]
        · exact absurd g1 d1
      · rcases hA.2 with ⟨d1, d2⟩ | ⟨d1, d2⟩
        · exact absurd d1 g1
        · rw [g2, d2]
  have no : bet C n c Q t.1.1 t.1.2 = false → ∃ z', bX8_judge_138 49 (51 + 5 * j) (nI (pN c Q)) (wr 5 76 ρ1 S2 z) = some z' ∧ WB a ρc C z' ∧ z'.length = z.length ∧ (∀ i, i ≠ 49 → ¬ (76 ≤ i ∧ i < 81) → i ≠ 82 → z'[i]? = z[i]?) ∧ KA a c t' z' := by
    intro hb
    obtain ⟨w', z', r1, r2, r3, r4, r5, r6, r7⟩ := fin _ _ _ best (o49 _ _) o82 (fun _ _ _ => rfl) ol
    refine ⟨z', r1, r2, r3, r4, ?_⟩
    rcases hA.1 with ⟨c1, -⟩ | ⟨-, c2, c3⟩
    · rw [hb] at c1; cases c1
    · refine ⟨by rw [c2, ← r7]; exact r5, best, r6, fun q i hi => ?_⟩
      rw [c2] at q
      rw [c3]; exact hbest q i hi
  have yes : bet C n c Q t.1.1 t.1.2 = true → ∃ z', bX8_judge_113 49 (51 + 5 * j) (nI (pN c Q)) (nI (jM C n c Q)) (jS C n c Q) (wr 5 76 ρ1 S2 z) = some z' ∧ WB a ρc C z' ∧ z'.length = z.length ∧ (∀ i, i ≠ 49 → ¬ (76 ≤ i ∧ i < 81) → i ≠ 82 → z'[i]? = z[i]?) ∧ KA a c t' z' := by
    intro hb
    have q49 := o49 ρ1 S2
    generalize hzz : wr 5 76 ρ1 S2 z = zz at *
    have s1 := w_p5 q49 (nI (jM C n c Q))
    have l1 : (zz.set 49 (obW a (nI (jM C n c Q)) t.1.2 (wc t.2.1)))[49]? = some (obW a (nI (jM C n c Q)) t.1.2 (wc t.2.1)) := set_at (by omega)
    have s2 := w_p6 l1 (jS C n c Q)
    rw [List.set_set] at s2
    have l2 : (zz.set 49 (obW a (nI (jM C n c Q)) (jS C n c Q) (wc t.2.1)))[49]? = some (obW a (nI (jM C n c Q)) (jS C n c Q) (wc t.2.1)) := set_at (by omega)
    obtain ⟨-, -, u2, u3, -⟩ := w_n l2
    have m81 : (zz.set 49 (obW a (nI (jM C n c Q)) (jS C n c Q) (wc t.2.1)))[81]? = some (.inl (0, 4, f)) := by rw [set_ne (by omega)]; exact o81
    have m82 : (zz.set 49 (obW a (nI (jM C n c Q)) (jS C n c Q) (wc t.2.1)))[82]? = some (.inl (0, 4, best)) := by rw [set_ne (by omega)]; exact o82
    have s3 : cpI 0 (zz.set 49 (obW a (nI (jM C n c Q)) (jS C n c Q) (wc t.2.1))) 81 0 82 0 4 = some ((zz.set 49 (obW a (nI (jM C n c Q)) (jS C n c Q) (wc t.2.1))).set 82 (.inl (0, 4, va_cpy f best 0 0 4))) := by
      unfold cpI
      rw [m81, m82]
      exact if_pos ⟨⟨rfl, rfl⟩, by decide, by decide, Or.inl rfl⟩
    obtain ⟨w', z', r1, r2, r3, r4, r5, r6, r7⟩ := fin ((zz.set 49 (obW a (nI (jM C n c Q)) (jS C n c Q) (wc t.2.1))).set 82 (.inl (0, 4, va_cpy f best 0 0 4))) (nI (jM C n c Q)) (jS C n c Q) (va_cpy f best 0 0 4) (by rw [set_ne (by omega)]; exact l2) (set_at (by rw [set_len]; omega)) (fun i i1 i2 => by rw [set_ne i2, set_ne i1]) (by rw [set_len, set_len]; exact ol)
    refine ⟨z', ?_, r2, r3, r4, ?_⟩
    · unfold bX8_judge_113
      rw [s1]
      simp only [Option.bind_some]
      rw [s2]
      simp only [Option.bind_some]
      rw [u2, u3]
      simp only [Option.bind_some]
      rw [s3]
      exact r1
    · rcases hA.1 with ⟨-, c2, c3⟩ | ⟨c1, -⟩
      · refine ⟨by rw [c2, ← r7]; exact r5, _, r6, fun _ i hi => ?_⟩
        rw [c3, pk_cpy_in (by omega) (by omega), show 0 + (i - 0) = i by omega]; exact hrow i hi
      · rw [hb] at c1; cases c1
  -- the whole
  have body : ∃ R : Option AH, (∀ k, bX8_judge_33 k 49 (51 + 5 * j) (nI (pN c Q)) (nI (jM C n c Q)) (jS C n c Q) (nI n) (wr 5 76 ρ1 S2 z) = R) ∧ ∃ z', R = some z' ∧ WB a ρc C z' ∧ z'.length = z.length ∧ (∀ i, i ≠ 49 → ¬ (76 ≤ i ∧ i < 81) → i ≠ 82 → z'[i]? = z[i]?) ∧ KA a c t' z' := by
    obtain ⟨v0, v1, v2, v3, v5, v6, v7, vo, -⟩ := w_n (o49 ρ1 S2)
    have ek : ∀ k, bX8_judge_33 k 49 (51 + 5 * j) (nI (pN c Q)) (nI (jM C n c Q)) (jS C n c Q) (nI n) (wr 5 76 ρ1 S2 z) = (if t.1.1 < nI (jM C n c Q) then bX8_judge_113 49 (51 + 5 * j) (nI (pN c Q)) (nI (jM C n c Q)) (jS C n c Q) (wr 5 76 ρ1 S2 z) else if nI (jM C n c Q) = t.1.1 then (if jS C n c Q ≤ t.1.2 then bX8_judge_138 49 (51 + 5 * j) (nI (pN c Q)) (wr 5 76 ρ1 S2 z) else bX8_judge_113 49 (51 + 5 * j) (nI (pN c Q)) (nI (jM C n c Q)) (jS C n c Q) (wr 5 76 ρ1 S2 z)) else bX8_judge_138 49 (51 + 5 * j) (nI (pN c Q)) (wr 5 76 ρ1 S2 z)) := by
      intro k
      unfold bX8_judge_33
      rw [v1]
      simp only [Option.bind_some]
      rw [gR_rd hT2 rfl, hlt]
      simp only [Option.bind_some]
      rw [gI_rd hC2 rfl, h.c0]
      simp only [Option.bind_some]
      rw [if_pos (nI_le (Nat.le_refl _) (by omega)), v5, v6]
      simp only [Option.bind_some]
    refine ⟨_, ek, ?_⟩
    by_cases q1 : t.1.1 < nI (jM C n c Q)
    · rw [if_pos q1]
      exact yes (by unfold bet; rw [decide_eq_true q1]; rfl)
    · rw [if_neg q1]
      by_cases q2 : nI (jM C n c Q) = t.1.1
      · rw [if_pos q2]
        by_cases q3 : jS C n c Q ≤ t.1.2
        · rw [if_pos q3]
          exact no (by unfold bet; rw [decide_eq_false q1, decide_eq_true q2, decide_eq_true q3]; rfl)
        · rw [if_neg q3]
          exact yes (by unfold bet; rw [decide_eq_false q1, decide_eq_true q2, decide_eq_false q3]; rfl)
      · rw [if_neg q2]
        exact no (by unfold bet; rw [decide_eq_false q1, decide_eq_false q2]; rfl)
  obtain ⟨R, r1, z', r2, r3⟩ := body
  refine ⟨z', ?_, r3⟩
  have := (hsum R r1).trans r2
  obtain ⟨u0, u1, -⟩ := w_n (o49 ρ1 S1)
  obtain ⟨v0, v1, -⟩ := w_n (o49 ρ1 S2)
  unfold fX8_judge
  rw [if_pos wo, w1]
  simp only [Option.bind_some]
  rw [e1]
  simp only [Option.bind_some]
  rw [u1]
  simp only [Option.bind_some]
  rw [e2, b2_some, v1]
  simp only [Option.bind_some]
  rw [eth]
  simp only [Option.bind_some]
  rw [nmE, ebc]
  exact this
end WJ
