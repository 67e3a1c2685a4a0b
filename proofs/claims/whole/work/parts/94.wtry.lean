/-! ===== WATCH: the search, COUPLE by COUPLE ===== -/
def KPj (j : Nat) (z z' : AH) : Prop := z'.length = z.length ∧ ∀ i, (i < 49 ∨ i = 50 ∨ (51 ≤ i ∧ i < 56 + 5 * j) ∨ 83 ≤ i) → z'[i]? = z[i]?
theorem KPj.rf {j : Nat} {z : AH} : KPj j z z := ⟨rfl, fun _ _ => rfl⟩
theorem KPj.tr {j : Nat} {z z1 z2 : AH} (h : KPj j z z1) (h2 : KPj j z1 z2) : KPj j z z2 := ⟨h2.1.trans h.1, fun i hi => (h2.2 i hi).trans (h.2 i hi)⟩
theorem KPj.dn {j : Nat} {z z' : AH} (h : KPj (j + 1) z z') : KPj j z z' := ⟨h.1, fun i hi => h.2 i (by omega)⟩
section WT
variable {C : SV} {B : Nat → Int32} {n c : Nat} {a : Nat} {ρc : RV}
/-- what the search from the COUPLE j on does -/
def TC (C : SV) (n c a : Nat) (ρc : RV) (T : Nat → Int32 → Int32 → AH → Option AH) (j : Nat) : Prop :=
  ∀ (Q : Nat) (z : AH) (ρ : RV) (S : SV) (f : Nat → Int32), vl n (gW C n) j Q = true → WB a ρc C z → RD 5 (51 + 5 * j) ρ S z → ρ.1 0 = some a → SC C n j Q S → z[81]? = some (.inl (0, 4, f)) → (∀ i, i < j → f i = nI (dg j Q i)) → KA a c (ac C n c (Q * 9 ^ (c - j))) z →
  ∃ z', T 49 (nI j) (nI (pN j Q)) z = some z' ∧ WB a ρc C z' ∧ KPj j z z' ∧ (∃ f' : Nat → Int32, z'[81]? = some (.inl (0, 4, f')) ∧ ∀ i, i < j → f' i = f i) ∧ KA a c (ac C n c ((Q + 1) * 9 ^ (c - j))) z'
/-- the loop of a level, by the level below -/
def gT43 (T : Nat → Int32 → Int32 → AH → Option AH) (k43 : Nat → Int32 → Int32 → Nat → Nat → Int32 → AH → Option AH) (a0 : Nat) (l1 : Int32) (l2 : Int32) (a3 : Nat) (a4 : Nat) (l5 : Int32) (z : AH) : Option AH :=
  (gN 5 0 z a3).bind fun b46 =>
  (gI 0 0 z b46).bind fun x49 =>
  if x49 ≤ l5 then (
    (fX6_copy a4 a3 z).bind fun z114 =>
    (gN 7 2 z114 a0).bind fun b118 =>
    (stI 0 z114 b118 l1 (8 : Int32)).bind fun z124 =>
    (T a0 (l1 + (1 : Int32)) l2 z124).bind fun z130 =>
    some z130
  ) else (
    (gI 5 6 z a3).bind fun x56 =>
    (gI 5 11 z a3).bind fun x60 =>
    if (fX9_hasBit (x56 ||| x60) l5) = (0 : Int32) then (
      (fX6_copy a4 a3 z).bind fun z75 =>
      b2 (fX6_look a4 l1 l5 z75) fun x83 z83 =>
      (gN 7 2 z83 a0).bind fun b88 =>
      (stI 0 z83 b88 l1 l5).bind fun z94 =>
      (T a0 (l1 + (1 : Int32)) (l2 + (1 : Int32)) z94).bind fun z102 =>
      nm (l5 + (1 : Int32)) fun v105 =>
      k43 a0 l1 l2 a3 a4 v105 z102
    ) else (
      nm (l5 + (1 : Int32)) fun v105 =>
      k43 a0 l1 l2 a3 a4 v105 z
    )
  )
theorem stI_w {z : AH} {b m : Nat} {f : Nat → Int32} (h : z[b]? = some (.inl (0, m, f))) {i : Nat} (hi : i < m) (hm : m < 2 ^ 31) (x : Int32) : stI 0 z b (nI i) x = some (z.set b (.inl (0, m, upd f i x))) := by
  unfold stI
  rw [h]
  have := nI_in hi hm
  rw [nI_clamp (by omega)] at this
  show (if (0 : Nat) = 0 ∧ ¬ (nI i < 0 ∨ m ≤ (nI i).toNatClampNeg) then _ else _) = _
  rw [nI_clamp (by omega), if_pos ⟨rfl, this⟩]
/-- a look in the class's view, where it can be -/
theorem c_look (h : CX C B n c) {k t : Nat} (hk : k < c) (ht : t < n) {S : SV} (h6 : bt (S.1 6) t = false) (h8 : bt (S.1 8) k = false) (h10 : bt (S.1 10) k = false) : ∃ S', gX6_look C (nI k) (nI t) S = some (1, S') ∧ S'.2.1 1 = seS C k t (S.2.1 1) ∧ S'.2.1 2 = seW C k t (S.2.1 2) ∧ S'.1 6 = S.1 6 ∧ S'.1 8 = S.1 8 ∧ S'.1 10 = (S.1 10 ||| shl 1 (nI k)) ∧ S'.1 11 = (S.1 11 ||| shl 1 (nI t)) := by
  have hn := h.hn
  have hc := h.hc
  obtain ⟨S', e, r⟩ := c_see h hk ht S
  refine ⟨S', ?_, r⟩
  have e2 : gX6_isThere C (nI t) S = some 1 := by
    unfold gX6_isThere
    rcases c_thing h (nI t) with ⟨s, hs, es, q⟩ | ⟨q, -⟩
    · rw [q]
      simp only [Option.bind_some]
      rw [if_neg (by decide), if_pos ((c_has0 _ (by omega)).mpr h6)]
    · exact absurd q (fun q => out_in ht hn q)
  unfold gX6_look
  rw [if_neg (nI_pos (by omega)), h.c14, if_neg (nI_ge hk (by omega)), if_neg (show ¬ Int32.ofNat 4 ≤ nI k from nI_ge (b := 4) (by omega) (by omega)), e2]
  simp only [Option.bind_some]
  rw [if_neg (by decide), if_pos ((c_has0 _ (by omega)).mpr h8), if_pos ((c_has0 _ (by omega)).mpr h10)]
  exact e
theorem upd_at {f g : Nat → Int32} {t s : Nat} {x y : Int32} (h : x = y) (h2 : f s = g s) : upd f t x s = upd g t y s := by
  by_cases e : s = t
  · subst e; rw [pk_us, pk_us, h]
  · rw [pk_un e, pk_un e, h2]
theorem d9 {Q t : Nat} (ht : t < 9) : (Q * 9 + t) / 9 = Q ∧ (Q * 9 + t) % 9 = t := by omega
theorem sc_look {j Q t : Nat} (ht : t < 8) {S S' : SV} (h : SC C n j Q S) (e1 : S'.2.1 1 = seS C j t (S.2.1 1)) (e2 : S'.2.1 2 = seW C j t (S.2.1 2)) (e6 : S'.1 6 = S.1 6) (e8 : S'.1 8 = S.1 8) (e10 : S'.1 10 = (S.1 10 ||| shl 1 (nI j))) (e11 : S'.1 11 = (S.1 11 ||| shl 1 (nI t))) : SC C n (j + 1) (Q * 9 + t) S' := by
  obtain ⟨h1, h2, h3, h4, h5⟩ := h
  obtain ⟨q1, q2⟩ := d9 (Q := Q) (show t < 9 by omega)
  refine ⟨fun s hs => ⟨?_, ?_⟩, by rw [e6, h2], by rw [e8, h3], ?_, ?_⟩
  · rw [e1, pS, q1, q2, if_pos ht]
    unfold seS
    exact upd_at (by rw [(h1 t ht).1]) (h1 s hs).1
  · rw [e2, pW, q1, q2, if_pos ht]
    unfold seW
    split
    · exact (h1 s hs).2
    · exact upd_at (by rw [(h1 t ht).2]) (h1 s hs).2
  · rw [e10, h4, pL, q1, q2, if_pos ht]
  · rw [e11, h5, pG, q1, q2, if_pos ht]
theorem sc_none {j Q : Nat} {S : SV} (h : SC C n j Q S) : SC C n (j + 1) (Q * 9 + 8) S := by
  obtain ⟨h1, h2, h3, h4, h5⟩ := h
  obtain ⟨q1, q2⟩ := d9 (Q := Q) (show 8 < 9 by omega)
  exact ⟨fun s hs => ⟨by rw [pS, q1, q2, if_neg (by decide)]; exact (h1 s hs).1, by rw [pW, q1, q2, if_neg (by decide)]; exact (h1 s hs).2⟩, h2, h3, by rw [pL, q1, q2, if_neg (by decide)]; exact h4, by rw [pG, q1, q2, if_neg (by decide)]; exact h5⟩
theorem pN_step {j Q t : Nat} (ht : t < 9) : pN (j + 1) (Q * 9 + t) = if t < 8 then pN j Q + 1 else pN j Q := by
  obtain ⟨q1, q2⟩ := d9 (Q := Q) ht
  rw [pN, q1, q2]
theorem vl_step {g : Int32} {j Q t : Nat} (ht : t < 9) (h : vl n g j Q = true) : vl n g (j + 1) (Q * 9 + t) = (decide (t = 8) || (decide (t < n) && !bt (g ||| pG j Q) t)) := by
  obtain ⟨q1, q2⟩ := d9 (Q := Q) ht
  rw [vl, q1, q2, h, Bool.true_and]
theorem dg_step {j Q t : Nat} (ht : t < 9) {f : Nat → Int32} (hf : ∀ i, i < j → f i = nI (dg j Q i)) : ∀ i, i < j + 1 → upd f j (nI t) i = nI (dg (j + 1) (Q * 9 + t) i) := by
  obtain ⟨q1, q2⟩ := d9 (Q := Q) ht
  intro i hi
  rw [dg, q1, q2]
  by_cases e : i = j
  · subst e; rw [pk_us, if_pos rfl]
  · rw [pk_un e, if_neg e]; exact hf i (by omega)
/-- the base facts behind a Scene written and the row's next place -/
theorem WB.next {z : AH} (hB : WB a ρc C z) {j : Nat} (hj : j < 4) {ρ' : RV} {S' : SV} {e : AE} : WB a ρc C ((wr 5 (51 + 5 * (j + 1)) ρ' S' z).set 81 e) := by
  obtain ⟨B1, B2, B3, B4, B5⟩ := id hB
  refine hB.same (by rw [set_len, wr_len]) (by rw [set_ne (by omega), wr_out (Or.inl (by omega))]) (fun i hi => by rw [set_ne (by omega), wr_out (Or.inr (by rw [s5]; omega))]) (fun k hk => ?_)
  by_cases q : k = j + 1
  · subst q
    exact ⟨ρ', S', (rd_wr (z := z) (a := 51 + 5 * (j + 1)) (c := 5) (by rw [s5]; omega)).same (fun i i1 i2 => by rw [s5] at i2; rw [set_ne (by omega)])⟩
  · obtain ⟨ρk, Sk, r⟩ := B5 k hk
    exact ⟨ρk, Sk, (r.far (c := 5) (a := 51 + 5 * (j + 1)) (ρ := ρ') (S := S') (by rw [s5]; omega)).same (fun i i1 i2 => by rw [s5] at i2; rw [set_ne (by omega)])⟩
theorem ixN_50 {z : AH} (hB : WB a ρc C z) {j : Nat} (hj : j < 5) : ixN 5 z 50 (nI j) = some (51 + 5 * j) := by
  obtain ⟨-, -, -, ⟨f, h1, h2⟩, -⟩ := hB
  unfold ixN
  rw [h1]
  have := nI_in (c := j) (N := 5) hj (by omega)
  show (if (5 : Nat) = 5 ∧ ¬ (nI j < 0 ∨ 5 ≤ (nI j).toNatClampNeg) then f (nI j).toNatClampNeg else none) = _
  rw [if_pos ⟨rfl, this⟩, nI_clamp (by omega)]; exact h2 j hj
theorem tf_step (h : CX C B n c) {T : Nat → Int32 → Int32 → AH → Option AH} {L : Nat → Nat → Int32 → Int32 → Nat → Nat → Int32 → AH → Option AH} {j : Nat} (hj : j < c) (hL : ∀ u a0 l1 l2 a3 a4 l5 z, L (u + 1) a0 l1 l2 a3 a4 l5 z = gT43 T (L u) a0 l1 l2 a3 a4 l5 z) (hT : TC C n c a ρc T (j + 1)) (Q : Nat) (z : AH) (ρ : RV) (S : SV) (f : Nat → Int32) (hv : vl n (gW C n) j Q = true) (hB : WB a ρc C z) (hS : RD 5 (51 + 5 * j) ρ S z) (hl : ρ.1 0 = some a) (hSC : SC C n j Q S) (h81 : z[81]? = some (.inl (0, 4, f))) (hf : ∀ i, i < j → f i = nI (dg j Q i)) (hK : KA a c (ac C n c (Q * 9 ^ (c - j))) z) :
    ∃ z', L FU 49 (nI j) (nI (pN j Q)) (51 + 5 * j) (51 + 5 * (j + 1)) 0 z = some z' ∧ WB a ρc C z' ∧ KPj j z z' ∧ (∃ f' : Nat → Int32, z'[81]? = some (.inl (0, 4, f')) ∧ ∀ i, i < j → f' i = f i) ∧ KA a c (ac C n c ((Q + 1) * 9 ^ (c - j))) z' := by
  have hn := h.hn
  have hc := h.hc
  have hpw : 9 ^ (c - j) = 9 * 9 ^ (c - (j + 1)) := by rw [show c - j = (c - (j + 1)) + 1 by omega, Nat.pow_succ, Nat.mul_comm]
  have hjc : j + 1 + (c - (j + 1)) = c := by omega
  have key := lpR (fun u (q : Int32 × AH) => L u 49 (nI j) (nI (pN j Q)) (51 + 5 * j) (51 + 5 * (j + 1)) q.1 q.2) (fun t q => q.1 = nI t ∧ WB a ρc C q.2 ∧ KPj j z q.2 ∧ (∃ f' : Nat → Int32, q.2[81]? = some (.inl (0, 4, f')) ∧ ∀ i, i < j → f' i = f i) ∧ KA a c (ac C n c ((Q * 9 + t) * 9 ^ (c - (j + 1)))) q.2) (fun b => ∃ z', b = some z' ∧ WB a ρc C z' ∧ KPj j z z' ∧ (∃ f' : Nat → Int32, z'[81]? = some (.inl (0, 4, f')) ∧ ∀ i, i < j → f' i = f i) ∧ KA a c (ac C n c ((Q + 1) * 9 ^ (c - j))) z') n ?_ ?_ (0, z) ⟨rfl, hB, KPj.rf, ⟨f, h81, fun _ _ => rfl⟩, by rw [show (Q * 9 + 0) * 9 ^ (c - (j + 1)) = Q * 9 ^ (c - j) by rw [hpw, Nat.add_zero, Nat.mul_assoc]]; exact hK⟩ FU (by rw [FUn]; omega)
  · exact key
  · rintro t ht ⟨l, y⟩ ⟨e1, e2, e3, ⟨f1, e4, e5⟩, e6⟩
    replace e1 : l = nI t := e1
    replace e2 : WB a ρc C y := e2
    replace e3 : KPj j z y := e3
    replace e4 : y[81]? = some (.inl (0, 4, f1)) := e4
    replace e6 : KA a c (ac C n c ((Q * 9 + t) * 9 ^ (c - (j + 1)))) y := e6
    subst e1
    left
    have hSy : RD 5 (51 + 5 * j) ρ S y := hS.same (fun i i1 i2 => by rw [s5] at i2; exact e3.2 i (by omega))
    obtain ⟨B1, B2, B3, B4, B5⟩ := id e2
    obtain ⟨ρn, Sn, hN⟩ := B5 (j + 1) (by omega)
    have hz : 51 + 5 * (j + 1) + szV 5 ≤ y.length := by rw [s5]; omega
    have hd : 51 + 5 * j + szV 5 ≤ 51 + 5 * (j + 1) ∨ 51 + 5 * (j + 1) + szV 5 ≤ 51 + 5 * j := by rw [s5]; omega
    have dC : a + szV 0 ≤ 51 + 5 * (j + 1) ∨ 51 + 5 * (j + 1) + szV 5 ≤ a := Or.inr (by rw [s5]; omega)
    have hvs := vl_step (n := n) (g := gW C n) (show t < 9 by omega) hv
    rw [decide_eq_false (show ¬ t = 8 by omega), decide_eq_true ht, Bool.false_or, Bool.true_and] at hvs
    cases hb : bt (gW C n ||| pG j Q) t
    · rw [hb] at hvs
      have hb2 : bt (gW C n) t = false ∧ bt (pG j Q) t = false := by rw [b_or, Bool.or_eq_false_iff] at hb; exact hb
      have c1 := z_copy hSy hN hd hl hz
      have hlt : (va_up ρn.1 0 (some a), ρn.2).1 0 = some a := z_land ρn a
      generalize hρ : ((va_up ρn.1 0 (some a), ρn.2) : RV) = ρ1 at c1 hlt
      have hSC1 := cpS_sc hSC Sn
      generalize cpS S Sn = S1 at c1 hSC1
      obtain ⟨S2, k0, k1, k2, k6, k8, k10, k11⟩ := c_look h hj ht (S := S1) (by rw [hSC1.2.1]; exact hb2.1) (by rw [hSC1.2.2.1, b_0]) (by rw [hSC1.2.2.2.1]; exact pL_bt j Q j (Nat.le_refl _) (by omega) (by omega))
      have hSC2 := sc_look (show t < 8 by omega) hSC1 k1 k2 k6 k8 k10 k11
      have c2 := eX6_look (ρ := ρ1) hz B2 dC hlt (nI j) (nI t) S1
      rw [k0] at c2
      replace c2 : fX6_look (51 + 5 * (j + 1)) (nI j) (nI t) (wr 5 (51 + 5 * (j + 1)) ρ1 S1 y) = some (1, wr 5 (51 + 5 * (j + 1)) ρ1 S2 y) := c2
      have y49 : (wr 5 (51 + 5 * (j + 1)) ρ1 S2 y)[49]? = y[49]? := wr_out (Or.inl (by omega))
      have y81 : (wr 5 (51 + 5 * (j + 1)) ρ1 S2 y)[81]? = some (.inl (0, 4, f1)) := by rw [wr_out (Or.inr (by rw [s5]; omega))]; exact e4
      obtain ⟨K1, best, K2, K3⟩ := id e6
      obtain ⟨-, -, g2, -⟩ := w_n (y49.trans K1)
      have c3 := stI_w y81 (show j < 4 by omega) (by omega) (nI t)
      obtain ⟨z3, t1, t2, t3, ⟨f3, t4, t5⟩, t6⟩ := hT (Q * 9 + t) ((wr 5 (51 + 5 * (j + 1)) ρ1 S2 y).set 81 (.inl (0, 4, upd f1 j (nI t)))) ρ1 S2 (upd f1 j (nI t)) (by rw [hvs]; rfl) (e2.next (by omega)) ((rd_wr hz).same (fun i i1 i2 => by rw [s5] at i2; rw [set_ne (by omega)])) hlt hSC2 (set_at (by rw [wr_len]; omega)) (dg_step (by omega) (fun i hi => (e5 i hi).trans (hf i hi))) ⟨by rw [set_ne (by omega), y49]; exact K1, best, by rw [set_ne (by omega), wr_out (Or.inr (by rw [s5]; omega))]; exact K2, K3⟩
      refine ⟨(nI (t + 1), z3), fun u => ?_, rfl, t2, ?_, ⟨f3, t4, fun i hi => ?_⟩, ?_⟩
      · show L (u + 1) 49 (nI j) (nI (pN j Q)) (51 + 5 * j) (51 + 5 * (j + 1)) (nI t) y = _
        rw [hL]
        unfold gT43
        rw [gR_rd hSy rfl, hl]
        simp only [Option.bind_some]
        rw [gI_rd B2 rfl, h.c0]
        simp only [Option.bind_some]
        rw [if_neg (nI_ge ht (by omega)), gI_rd hSy (k := 6) rfl, gI_rd hSy (k := 11) rfl, hSC.2.1, hSC.2.2.2.2]
        simp only [Option.bind_some]
        rw [if_pos ((c_has0 _ (by omega)).mpr hb), c1]
        simp only [Option.bind_some]
        rw [c2, b2_some, g2]
        simp only [Option.bind_some]
        rw [c3]
        simp only [Option.bind_some]
        rw [pN_step (by omega), if_pos (by omega)] at t1
        rw [← nI_succ j, ← nI_succ (pN j Q), t1]
        simp only [Option.bind_some]
        rw [nmE, ← nI_succ]
      · refine e3.tr ⟨?_, fun i hi => ?_⟩
        · rw [t3.1, set_len, wr_len]
        · show z3[i]? = y[i]?
          rw [t3.2 i (by omega), set_ne (by omega), wr_out (by rw [s5]; omega)]
      · rw [t5 i (by omega), pk_un (by omega)]; exact e5 i hi
      · rw [show Q * 9 + (t + 1) = Q * 9 + t + 1 by omega]; exact t6
    · rw [hb] at hvs
      refine ⟨(nI (t + 1), y), fun u => ?_, rfl, e2, e3, ⟨f1, e4, e5⟩, ?_⟩
      · show L (u + 1) 49 (nI j) (nI (pN j Q)) (51 + 5 * j) (51 + 5 * (j + 1)) (nI t) y = _
        rw [hL]
        unfold gT43
        rw [gR_rd hSy rfl, hl]
        simp only [Option.bind_some]
        rw [gI_rd B2 rfl, h.c0]
        simp only [Option.bind_some]
        rw [if_neg (nI_ge ht (by omega)), gI_rd hSy (k := 6) rfl, gI_rd hSy (k := 11) rfl, hSC.2.1, hSC.2.2.2.2]
        simp only [Option.bind_some]
        rw [if_neg (fun e => by rw [(c_has0 _ (by omega)).mp e] at hb; cases hb), nmE, ← nI_succ]
      · show KA a c (ac C n c ((Q * 9 + (t + 1)) * 9 ^ (c - (j + 1)))) y
        have e7 : (Q * 9 + (t + 1)) * 9 ^ (c - (j + 1)) = (Q * 9 + t) * 9 ^ (c - (j + 1)) + 9 ^ (c - (j + 1)) := by
          rw [show Q * 9 + (t + 1) = (Q * 9 + t) + 1 by omega, Nat.add_mul, Nat.one_mul]
        rw [e7, ac_skip (9 ^ (c - (j + 1))) (fun k k1 k2 => by
          have := vl_blk (n := n) (g := gW C n) (j := j + 1) (d := c - (j + 1)) (Q := Q * 9 + t) (k := k) (by rw [hvs]; rfl) k1 (by rw [Nat.add_mul, Nat.one_mul]; exact k2)
          rw [hjc] at this; exact this)]
        exact e6
  · rintro ⟨l, y⟩ ⟨e1, e2, e3, ⟨f1, e4, e5⟩, e6⟩
    replace e1 : l = nI n := e1
    replace e2 : WB a ρc C y := e2
    replace e3 : KPj j z y := e3
    replace e4 : y[81]? = some (.inl (0, 4, f1)) := e4
    replace e6 : KA a c (ac C n c ((Q * 9 + n) * 9 ^ (c - (j + 1)))) y := e6
    subst e1
    have hSy : RD 5 (51 + 5 * j) ρ S y := hS.same (fun i i1 i2 => by rw [s5] at i2; exact e3.2 i (by omega))
    obtain ⟨B1, B2, B3, B4, B5⟩ := id e2
    obtain ⟨ρn, Sn, hN⟩ := B5 (j + 1) (by omega)
    have hz : 51 + 5 * (j + 1) + szV 5 ≤ y.length := by rw [s5]; omega
    have hd : 51 + 5 * j + szV 5 ≤ 51 + 5 * (j + 1) ∨ 51 + 5 * (j + 1) + szV 5 ≤ 51 + 5 * j := by rw [s5]; omega
    have hpos : 0 < 9 ^ (c - (j + 1)) := Nat.pow_pos (by decide)
    have e8 : ac C n c ((Q * 9 + 8) * 9 ^ (c - (j + 1))) = ac C n c ((Q * 9 + n) * 9 ^ (c - (j + 1))) := by
      have e7 : (Q * 9 + 8) * 9 ^ (c - (j + 1)) = (Q * 9 + n) * 9 ^ (c - (j + 1)) + (8 - n) * 9 ^ (c - (j + 1)) := by
        rw [← Nat.add_mul]; congr 1; omega
      rw [e7, ac_skip ((8 - n) * 9 ^ (c - (j + 1))) (fun k k1 k2 => ?_)]
      have k3 : Q * 9 + n ≤ k / 9 ^ (c - (j + 1)) := (Nat.le_div_iff_mul_le hpos).mpr k1
      have k4 : k / 9 ^ (c - (j + 1)) < Q * 9 + 8 := (Nat.div_lt_iff_lt_mul hpos).mpr (by rw [e7]; exact k2)
      have hvs := vl_step (n := n) (g := gW C n) (j := j) (Q := Q) (t := k / 9 ^ (c - (j + 1)) - Q * 9) (by omega) hv
      rw [decide_eq_false (show ¬ k / 9 ^ (c - (j + 1)) - Q * 9 = 8 by omega), decide_eq_false (show ¬ k / 9 ^ (c - (j + 1)) - Q * 9 < n by omega)] at hvs
      rw [show Q * 9 + (k / 9 ^ (c - (j + 1)) - Q * 9) = k / 9 ^ (c - (j + 1)) by omega] at hvs
      have := vl_blk (n := n) (g := gW C n) (j := j + 1) (d := c - (j + 1)) (Q := k / 9 ^ (c - (j + 1))) (k := k) (by rw [hvs]; rfl) (Nat.div_mul_le_self _ _) (by have := Nat.lt_div_mul_add (a := k) hpos; rw [Nat.add_mul, Nat.one_mul]; exact this)
      rw [hjc] at this; exact this
    have hvs := vl_step (n := n) (g := gW C n) (show 8 < 9 by omega) hv
    have c1 := z_copy hSy hN hd hl hz
    have hlt : (va_up ρn.1 0 (some a), ρn.2).1 0 = some a := z_land ρn a
    generalize hρ : ((va_up ρn.1 0 (some a), ρn.2) : RV) = ρ1 at c1 hlt
    have hSC1 := cpS_sc hSC Sn
    generalize cpS S Sn = S1 at c1 hSC1
    have hSC2 := sc_none hSC1
    have y49 : (wr 5 (51 + 5 * (j + 1)) ρ1 S1 y)[49]? = y[49]? := wr_out (Or.inl (by omega))
    have y81 : (wr 5 (51 + 5 * (j + 1)) ρ1 S1 y)[81]? = some (.inl (0, 4, f1)) := by rw [wr_out (Or.inr (by rw [s5]; omega))]; exact e4
    obtain ⟨K1, best, K2, K3⟩ := id e6
    obtain ⟨-, -, g2, -⟩ := w_n (y49.trans K1)
    have c3 := stI_w y81 (show j < 4 by omega) (by omega) 8
    obtain ⟨z3, t1, t2, t3, ⟨f3, t4, t5⟩, t6⟩ := hT (Q * 9 + 8) ((wr 5 (51 + 5 * (j + 1)) ρ1 S1 y).set 81 (.inl (0, 4, upd f1 j 8))) ρ1 S1 (upd f1 j 8) (by rw [hvs]; rfl) (e2.next (by omega)) ((rd_wr hz).same (fun i i1 i2 => by rw [s5] at i2; rw [set_ne (by omega)])) hlt hSC2 (set_at (by rw [wr_len]; omega)) (dg_step (t := 8) (by omega) (fun i hi => (e5 i hi).trans (hf i hi))) (by rw [e8]; exact ⟨by rw [set_ne (by omega), y49]; exact K1, best, by rw [set_ne (by omega), wr_out (Or.inr (by rw [s5]; omega))]; exact K2, K3⟩)
    refine ⟨some z3, fun u => ?_, z3, rfl, t2, ?_, ⟨f3, t4, fun i hi => ?_⟩, ?_⟩
    · show L (u + 1) 49 (nI j) (nI (pN j Q)) (51 + 5 * j) (51 + 5 * (j + 1)) (nI n) y = _
      rw [hL]
      unfold gT43
      rw [gR_rd hSy rfl, hl]
      simp only [Option.bind_some]
      rw [gI_rd B2 rfl, h.c0]
      simp only [Option.bind_some]
      rw [if_pos (nI_le (Nat.le_refl _) (by omega)), c1]
      simp only [Option.bind_some]
      rw [g2]
      simp only [Option.bind_some]
      rw [c3]
      simp only [Option.bind_some]
      rw [pN_step (by omega), if_neg (by omega)] at t1
      rw [← nI_succ j, t1]; rfl
    · refine e3.tr ⟨?_, fun i hi => ?_⟩
      · rw [t3.1, set_len, wr_len]
      · show z3[i]? = y[i]?
        rw [t3.2 i (by omega), set_ne (by omega), wr_out (by rw [s5]; omega)]
    · rw [t5 i (by omega), pk_un (by omega)]; exact e5 i hi
    · rw [show (Q + 1) * 9 ^ (c - j) = (Q * 9 + 8 + 1) * 9 ^ (c - (j + 1)) by rw [hpw, ← Nat.mul_assoc]; congr 1; omega]; exact t6
/-- the level j, where a COUPLE is left or not -/
theorem tf_lev (h : CX C B n c) {j : Nat} (hj : j ≤ c) {T' : Nat → Int32 → Int32 → AH → Option AH} {E : Nat → Int32 → Nat → AH → Option AH} {L : Nat → Nat → Int32 → Int32 → Nat → Nat → Int32 → AH → Option AH}
    (hE : ∀ l2 b z, E 49 l2 b z = (fX8_judge 49 b l2 z).bind fun z26 => some z26)
    (hT' : ∀ l1 l2 z, T' 49 l1 l2 z = ((gN 7 0 z 49).bind fun b1 => (ixN 5 z b1 l1).bind fun b5 => (gN 5 0 z b5).bind fun b9 => (gI 0 14 z b9).bind fun x12 => if x12 ≤ l1 then E 49 l2 b5 z else if l1 < 4 then (gN 7 0 z 49).bind fun b31 => (ixN 5 z b31 (l1 + 1)).bind fun b37 => L FU 49 l1 l2 b5 b37 0 z else E 49 l2 b5 z))
    (hL : j < c → ∃ T, (∀ u a0 l1 l2 a3 a4 l5 z, L (u + 1) a0 l1 l2 a3 a4 l5 z = gT43 T (L u) a0 l1 l2 a3 a4 l5 z) ∧ TC C n c a ρc T (j + 1)) : TC C n c a ρc T' j := by
  intro Q z ρ S f hv hB hS hl hSC h81 hf hK
  have hn := h.hn
  have hc := h.hc
  obtain ⟨K1, best, K2, K3⟩ := id hK
  obtain ⟨g0, -⟩ := w_n K1
  rw [hT', g0]
  simp only [Option.bind_some]
  rw [ixN_50 hB (by omega)]
  simp only [Option.bind_some]
  rw [gR_rd hS rfl, hl]
  simp only [Option.bind_some]
  rw [gI_rd hB.2.1 rfl, h.c14]
  simp only [Option.bind_some]
  by_cases q : j < c
  · obtain ⟨T, hL1, hT⟩ := hL q
    rw [if_neg (nI_ge q (by omega)), if_pos (show nI j < 4 from nI_lt (b := 4) (by omega) (by omega))]
    rw [← nI_succ, ixN_50 hB (by omega)]
    simp only [Option.bind_some]
    exact tf_step h q hL1 hT Q z ρ S f hv hB hS hl hSC h81 hf hK
  · have e : j = c := by omega
    subst e
    rw [Nat.sub_self, Nat.pow_zero, Nat.mul_one] at hK
    rw [if_pos (nI_le (Nat.le_refl _) (by omega)), hE]
    obtain ⟨z', r1, r2, r3, r4, r5⟩ := c_judge h hB (by omega) hS hl hSC h81 hf hK (ac_yes hv) (ac_w C n (by omega) Q)
    rw [r1]
    refine ⟨z', rfl, r2, ⟨r3, fun i hi => r4 i (by omega) (by omega) (by omega)⟩, ⟨f, by rw [r4 81 (by omega) (by omega) (by omega)]; exact h81, fun _ _ => rfl⟩, ?_⟩
    rw [Nat.sub_self, Nat.pow_zero, Nat.mul_one]; exact r5
theorem tf_all (h : CX C B n c) : TC C n c a ρc fX8_tryFrom_4 0 := by
  have hc := h.hc
  have t0 : 4 ≤ c → TC C n c a ρc fX8_tryFrom_0 4 := fun q => tf_lev h q (E := fun a0 l2 b z => bX8_tryFrom_0_23 a0 l2 b z) (L := fX8_tryFrom_0_43) (fun _ _ _ => rfl) (fun _ _ _ => rfl) (fun q => by omega)
  have t1 : 3 ≤ c → TC C n c a ρc fX8_tryFrom_1 3 := fun q => tf_lev h q (E := fun a0 l2 b z => bX8_tryFrom_1_23 a0 l2 b z) (L := fX8_tryFrom_1_43) (fun _ _ _ => rfl) (fun _ _ _ => rfl) (fun q => ⟨fX8_tryFrom_0, fun _ _ _ _ _ _ _ _ => rfl, t0 (by omega)⟩)
  have t2 : 2 ≤ c → TC C n c a ρc fX8_tryFrom_2 2 := fun q => tf_lev h q (E := fun a0 l2 b z => bX8_tryFrom_2_23 a0 l2 b z) (L := fX8_tryFrom_2_43) (fun _ _ _ => rfl) (fun _ _ _ => rfl) (fun q => ⟨fX8_tryFrom_1, fun _ _ _ _ _ _ _ _ => rfl, t1 (by omega)⟩)
  have t3 : 1 ≤ c → TC C n c a ρc fX8_tryFrom_3 1 := fun q => tf_lev h q (E := fun a0 l2 b z => bX8_tryFrom_3_23 a0 l2 b z) (L := fX8_tryFrom_3_43) (fun _ _ _ => rfl) (fun _ _ _ => rfl) (fun q => ⟨fX8_tryFrom_2, fun _ _ _ _ _ _ _ _ => rfl, t2 (by omega)⟩)
  exact tf_lev h (by omega) (E := fun a0 l2 b z => bX8_tryFrom_4_23 a0 l2 b z) (L := fX8_tryFrom_4_43) (fun _ _ _ => rfl) (fun _ _ _ => rfl) (fun q => ⟨fX8_tryFrom_3, fun _ _ _ _ _ _ _ _ => rfl, t3 (by omega)⟩)
end WT
