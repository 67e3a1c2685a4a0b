/-! ===== watch, height ===== -/
/-- two views of the same Country -/
def VQ (C D : SV) : Prop := (C.2.1 1 = D.2.1 1 ∧ C.2.1 2 = D.2.1 2 ∧ C.2.1 3 = D.2.1 3 ∧ C.2.1 5 = D.2.1 5 ∧ C.2.1 12 = D.2.1 12 ∧ C.2.1 13 = D.2.1 13 ∧ C.2.1 15 = D.2.1 15 ∧ C.2.1 16 = D.2.1 16) ∧ (C.1 0 = D.1 0 ∧ C.1 10 = D.1 10 ∧ C.1 11 = D.1 11 ∧ C.1 14 = D.1 14 ∧ C.1 19 = D.1 19)
theorem rw_inj {b n : Nat} {f g : Nat → Int32} {z : AH} (h : RW 0 b n f z) (h2 : RW 0 b n g z) : f = g := by
  have e : z[b]? = some (.inl (0, n, f)) := h
  have e2 : z[b]? = some (.inl (0, n, g)) := h2
  rw [e, Option.some.injEq, Sum.inl.injEq, Prod.mk.injEq, Prod.mk.injEq] at e2
  exact e2.2.2
theorem rd_vq {a : Nat} {ρ ρ2 : RV} {C D : SV} {z : AH} (h : RD 0 a ρ C z) (h2 : RD 0 a ρ2 D z) : VQ C D :=
  ⟨⟨rw_inj (rw_rd h (k := 1) rfl rfl (by decide) 0 rfl (by decide)) (rw_rd h2 (k := 1) rfl rfl (by decide) 0 rfl (by decide)),
    rw_inj (rw_rd h (k := 2) rfl rfl (by decide) 0 rfl (by decide)) (rw_rd h2 (k := 2) rfl rfl (by decide) 0 rfl (by decide)),
    rw_inj (rw_rd h (k := 3) rfl rfl (by decide) 0 rfl (by decide)) (rw_rd h2 (k := 3) rfl rfl (by decide) 0 rfl (by decide)),
    rw_inj (rw_rd h (k := 5) rfl rfl (by decide) 0 rfl (by decide)) (rw_rd h2 (k := 5) rfl rfl (by decide) 0 rfl (by decide)),
    rw_inj (rw_rd h (k := 12) rfl rfl (by decide) 0 rfl (by decide)) (rw_rd h2 (k := 12) rfl rfl (by decide) 0 rfl (by decide)),
    rw_inj (rw_rd h (k := 13) rfl rfl (by decide) 0 rfl (by decide)) (rw_rd h2 (k := 13) rfl rfl (by decide) 0 rfl (by decide)),
    rw_inj (rw_rd h (k := 15) rfl rfl (by decide) 0 rfl (by decide)) (rw_rd h2 (k := 15) rfl rfl (by decide) 0 rfl (by decide)),
    rw_inj (rw_rd h (k := 16) rfl rfl (by decide) 0 rfl (by decide)) (rw_rd h2 (k := 16) rfl rfl (by decide) 0 rfl (by decide))⟩,
   ⟨Option.some.inj ((gI_rd h (k := 0) rfl).symm.trans (gI_rd h2 (k := 0) rfl)), Option.some.inj ((gI_rd h (k := 10) rfl).symm.trans (gI_rd h2 (k := 10) rfl)), Option.some.inj ((gI_rd h (k := 11) rfl).symm.trans (gI_rd h2 (k := 11) rfl)), Option.some.inj ((gI_rd h (k := 14) rfl).symm.trans (gI_rd h2 (k := 14) rfl)), Option.some.inj ((gI_rd h (k := 19) rfl).symm.trans (gI_rd h2 (k := 19) rfl))⟩⟩
section VQ
variable {C D : SV}
theorem VQ.xl (h : VQ C D) (k : Nat) : xL C k = xL D k := by
  obtain ⟨⟨-, -, -, -, h12, -, h15, -⟩, -, h10, -, h14, -⟩ := h
  unfold xL gX0_sightOfLeft; rw [h12, h15, h10, h14]
theorem VQ.xr (h : VQ C D) (k : Nat) : xR C k = xR D k := by
  obtain ⟨⟨-, -, -, -, -, h13, -, h16⟩, -, -, h11, h14, -⟩ := h
  unfold xR gX0_sightOfRight; rw [h13, h16, h11, h14]
theorem VQ.ps (h : VQ C D) : ∀ j Q, pS C j Q = pS D j Q
  | 0, _ => h.1.1
  | j + 1, Q => by
    rw [pS, pS, h.ps j (Q / 9)]
    unfold seS; rw [h.xl, h.xr]
theorem VQ.pw (h : VQ C D) : ∀ j Q, pW C j Q = pW D j Q
  | 0, _ => h.1.2.1
  | j + 1, Q => by
    rw [pW, pW, h.pw j (Q / 9)]
    unfold seW; rw [h.xl, h.xr, h.2.2.2.2.2]
theorem VQ.gw (h : VQ C D) (n : Nat) : gW C n = gW D n := by
  unfold gW; rw [h.1.1, h.1.2.1, h.1.2.2.2.1]
theorem VQ.jt (h : VQ C D) (n c Q : Nat) : jT C n c Q = jT D n c Q := by
  unfold jT; rw [h.ps, h.gw, h.1.2.2.1]
theorem VQ.jg (h : VQ C D) (n c Q : Nat) : jG C n c Q = jG D n c Q := by
  unfold jG; rw [h.jt, h.pw, h.gw, h.1.2.2.2.1]
theorem VQ.js (h : VQ C D) (n c Q : Nat) : jS C n c Q = jS D n c Q := by
  unfold jS; rw [h.jg, h.jt]
theorem VQ.jm (h : VQ C D) (n c Q : Nat) : jM C n c Q = jM D n c Q := by
  unfold jM; rw [h.jg]
theorem VQ.bt (h : VQ C D) (n c Q : Nat) (x y : Int32) : bet C n c Q x y = bet D n c Q x y := by
  unfold bet; rw [h.jm, h.js]
theorem VQ.ac (h : VQ C D) (n c : Nat) : ∀ k, ac C n c k = ac D n c k
  | 0 => rfl
  | k + 1 => by rw [_root_.Jvm.Pilot.CPairedViewsLaw_law_r4991_de2f6f.ac, _root_.Jvm.Pilot.CPairedViewsLaw_law_r4991_de2f6f.ac, h.ac n c k, h.gw, h.bt, h.jm, h.js, h.jg]
end VQ
/-- what the Watchers keep of a Country is what the search finds -/
def Wcc : WC := fun C best x y w => ∀ n c, C.1 0 = nI n → n ≤ 8 → C.1 14 = nI c → c ≤ 4 → x = (ac C n c (9 ^ c)).1.1 ∧ y = (ac C n c (9 ^ c)).1.2 ∧ w = wc (ac C n c (9 ^ c)).2.1 ∧ ∀ i, i < c → best i = nI (dg c (ac C n c (9 ^ c)).2.2 i)
theorem ac_end (C : SV) (n c : Nat) : ¬ (ac C n c (9 ^ c)).1.1 = -1 := by
  have h : 0 < 9 ^ c := Nat.pow_pos (by decide)
  have := ac_x C n (vl_all8 n (gW C n) c)
  rw [show 9 ^ c - 1 + 1 = 9 ^ c by omega] at this
  exact this
theorem InvM.watch {Wc : WC} {z z1 : AH} {M : SV} {ρM : RV} (hI : InvM Wc z M ρM) (hl : z1.length = z.length) (hs : ∀ i, i < 49 ∨ 83 ≤ i → z1[i]? = z[i]?) (hW : WK Wc z1) : InvM Wc z1 M ρM := by
  obtain ⟨h1, h2, h3, ⟨k1, ⟨f, k2, k3⟩, ⟨ρ1, S1, k4⟩, ⟨ρ2, S2, k5⟩, ⟨ρ3, S3, k6⟩, ⟨ρ4, S4, k7⟩⟩, ⟨f5, h5, h6⟩, h7⟩ := hI
  refine ⟨by omega, h2.same (fun i i1 _ => hs i (by omega)), fun s hs4 => ?_, ⟨by rw [hs 0 (by omega)]; exact k1, ⟨f, by rw [hs 21 (by omega)]; exact k2, k3⟩, ⟨ρ1, S1, k4.same (fun i i1 i2 => hs i (by rw [s3] at i2; omega))⟩, ⟨ρ2, S2, k5.same (fun i i1 i2 => hs i (by rw [s5] at i2; omega))⟩, ⟨ρ3, S3, k6.same (fun i i1 i2 => hs i (by omega))⟩, ⟨ρ4, S4, k7.same (fun i i1 i2 => hs i (by omega))⟩⟩, ⟨f5, by rw [hs 37 (by omega)]; exact h5, h6⟩, hW⟩
  obtain ⟨S, ρ, g1, g2⟩ := h3 s hs4
  have := tAd_sz hs4
  exact ⟨S, ρ, g1.same (fun i i1 i2 => hs i (by rw [s6] at i2; omega)), g2.same PE.rf (fun i hi => hs i (by omega))⟩
section WQ
variable {C : SV} {B : Nat → Int32} {n c : Nat}
theorem c_begin (h : CX C B n c) (S : SV) : ∃ S', gX6_begin C S = some S' ∧ SC C n 0 0 S' := by
  have hn := h.hn
  obtain ⟨S1, l1, l2, l3, l5, l6, l7, l8, l9, l10, l11, l12, l13, l14⟩ := c_load C S
  refine ⟨_, by unfold gX6_begin; rw [l1]; simp only [Option.bind_some]; rw [c_fall hn h.c0]; rfl, ?_⟩
  refine ⟨fun t ht => l2 t ht, ?_, l8, l10, l11⟩
  show flP n (C.2.1 5) (S1.2.1 1) (S1.2.1 2) (S1.1 6) = gW C n
  rw [l6]
  exact fl_cong (fun t ht => (l2 t (by omega)).1) (fun t ht => (l2 t (by omega)).2) _
theorem z_search {z : AH} {M : SV} {ρM : RV} (hI : InvM Wcc z M ρM) {a : Nat} {ρc : RV} (hC : RD 0 a ρc C z) (ha : 113 ≤ a) (h : CX C B n c) : ∃ (z1 : AH) (best : Nat → Int32), fX8_search 49 a z = some z1 ∧ InvM Wcc z1 M ρM ∧ z1[49]? = some (obW a (ac C n c (9 ^ c)).1.1 (ac C n c (9 ^ c)).1.2 (wc (ac C n c (9 ^ c)).2.1)) ∧ z1[82]? = some (.inl (0, 4, best)) ∧ ∀ i, i < c → best i = nI (dg c (ac C n c (9 ^ c)).2.2 i) := by
  have hn := h.hn
  have hc := h.hc
  obtain ⟨sq, x, y, w, best, w49, w50, wsc, ⟨r81, w81⟩, w82, wsq⟩ := hI.2.2.2.2.2
  have o7 : isO 7 z 49 = true := by unfold isO; rw [w49]; rfl
  have q4 : gQ 7 4 z 49 = some sq := by unfold gQ oF; rw [w49]; cases sq <;> rfl
  unfold fX8_search
  rw [if_pos o7, q4]
  simp only [Option.bind_some]
  by_cases q : some a = sq
  · rw [if_pos q]
    obtain ⟨-, ρd, D, hD, hW⟩ := wsq a q.symm
    have hv := rd_vq hD hC
    obtain ⟨e1, e2, e3, e4⟩ := hW n c (hv.2.1.trans h.c0) hn (hv.2.2.2.2.1.trans h.c14) hc
    rw [hv.ac] at e1 e2 e3
    simp only [hv.ac] at e4
    refine ⟨z, best, rfl, hI, ?_, w82, e4⟩
    rw [w49, e1, e2, e3, ← q]; rfl
  · rw [if_neg q]
    have hl : 49 < z.length := by have := hI.1; omega
    have p4 : pF 7 4 z 49 (.ref a) = some (z.set 49 (obW a x y w)) := by unfold pF; rw [w49]; rfl
    have l4 : (z.set 49 (obW a x y w))[49]? = some (obW a x y w) := set_at hl
    have p5 := w_p5 l4 (-1)
    rw [List.set_set] at p5
    have l5 : (z.set 49 (obW a (-1) y w))[49]? = some (obW a (-1) y w) := set_at hl
    have p6 := w_p6 l5 (-1)
    rw [List.set_set] at p6
    have l6 : (z.set 49 (obW a (-1) (-1) w))[49]? = some (obW a (-1) (-1) w) := set_at hl
    have p7 := w_p7 l6 (-1)
    rw [List.set_set] at p7
    have l7 : (z.set 49 (obW a (-1) (-1) (-1)))[49]? = some (obW a (-1) (-1) (-1)) := set_at hl
    have zi : ∀ i, i ≠ 49 → (z.set 49 (obW a (-1) (-1) (-1)))[i]? = z[i]? := fun i hi => set_ne hi
    have zl : (z.set 49 (obW a (-1) (-1) (-1))).length = z.length := set_len
    rw [p4]
    simp only [Option.bind_some]
    rw [p5]
    simp only [Option.bind_some]
    rw [p6]
    simp only [Option.bind_some]
    rw [p7]
    simp only [Option.bind_some]
    generalize z.set 49 (obW a (-1) (-1) (-1)) = y0 at l7 zi zl ⊢
    have hlen := hI.1
    have hB0 : WB a ρc C y0 := by
      refine ⟨by omega, hC.same (fun i i1 _ => zi i (by omega)), ha, ?_, fun k hk => ?_⟩
      · obtain ⟨f, f1, f2⟩ := w50
        exact ⟨f, by rw [zi 50 (by omega)]; exact f1, f2⟩
      · obtain ⟨ρk, Sk, r⟩ := wsc k hk
        exact ⟨ρk, Sk, r.same (fun i i1 i2 => zi i (by omega))⟩
    obtain ⟨g0, -⟩ := w_n l7
    rw [g0]
    simp only [Option.bind_some]
    rw [show (0 : Int32) = nI 0 from rfl, ixN_50 hB0 (by omega)]
    simp only [Option.bind_some]
    obtain ⟨B1, B2, B3, B4, B5⟩ := id hB0
    obtain ⟨ρ0, S0, hS0⟩ := B5 0 (by omega)
    replace hS0 : RD 5 51 ρ0 S0 y0 := hS0
    obtain ⟨S', b1, b2_⟩ := c_begin h S0
    have hz : 51 + szV 5 ≤ y0.length := by rw [s5]; omega
    have eb := eX6_begin (ρ := ρ0) hz B2 (Or.inr (by rw [s5]; omega)) S0
    rw [wr_id hS0, b1] at eb
    replace eb : fX6_begin 51 a y0 = some (wr 5 51 (va_up ρ0.1 0 (some a), ρ0.2) S' y0) := eb
    have hlt : (va_up ρ0.1 0 (some a), ρ0.2).1 0 = some a := z_land ρ0 a
    generalize ((va_up ρ0.1 0 (some a), ρ0.2) : RV) = ρ1 at eb hlt
    have y1i : ∀ i, (i < 51 ∨ 56 ≤ i) → (wr 5 51 ρ1 S' y0)[i]? = y0[i]? := fun i hi => wr_out (by rw [s5]; omega)
    have hB1 : WB a ρc C (wr 5 51 ρ1 S' y0) := hB0.same wr_len (y1i 50 (by omega)) (fun i hi => y1i i (by omega)) (fun k hk => by
      by_cases e : k = 0
      · subst e; exact ⟨ρ1, S', rd_wr hz⟩
      · obtain ⟨ρk, Sk, r⟩ := B5 k hk
        exact ⟨ρk, Sk, r.far (by rw [s5]; omega)⟩)
    obtain ⟨z2, t1, t2, t3, ⟨f2, t4, t5⟩, K1, bb, K2, K3⟩ := tf_all (a := a) (ρc := ρc) h 0 (wr 5 51 ρ1 S' y0) ρ1 S' r81 rfl hB1 (rd_wr hz) hlt b2_ (by rw [y1i 81 (by omega), zi 81 (by omega)]; exact w81) (fun i hi => by omega) ⟨by rw [y1i 49 (by omega), Nat.zero_mul]; exact l7, best, by rw [y1i 82 (by omega), zi 82 (by omega)]; exact w82, fun e => absurd (by rw [Nat.zero_mul]; rfl) e⟩
    have e9 : (0 + 1) * 9 ^ (c - 0) = 9 ^ c := by rw [Nat.zero_add, Nat.one_mul, Nat.sub_zero]
    rw [e9] at K1 K3
    have K4 := K3 (ac_end C n c)
    refine ⟨z2, bb, ?_, ?_, K1, K2, K4⟩
    · have t1' : fX8_tryFrom_4 49 (nI 0) (nI 0) (wr 5 51 ρ1 S' y0) = some z2 := t1
      rw [show (51 + 5 * 0 : Nat) = 51 from rfl, eb]
      simp only [Option.bind_some]
      rw [t1']; rfl
    · refine hI.watch (by rw [t3.1, wr_len, zl]) (fun i hi => by rw [t3.2 i (by omega), y1i i (by omega), zi i (by omega)]) ⟨some a, _, _, _, bb, K1, t2.2.2.2.1, t2.2.2.2.2, ⟨f2, t4⟩, K2, fun c2 hc2 => ?_⟩
      have : a = c2 := Option.some.inj hc2
      subst this
      refine ⟨ha, ρc, C, t2.2.1, fun n' c' e1 e2 e3 e4 => ?_⟩
      have en : n = n' := (nI_eq (by omega) (by omega)).mp (h.c0.symm.trans e1)
      have ec : c = c' := (nI_eq (by omega) (by omega)).mp (h.c14.symm.trans e3)
      subst en ec
      exact ⟨rfl, rfl, rfl, K4⟩
theorem hand_g (h : CX C B n c) {S S' : SV} {M' : SV} (b1 : gX6_begin C S = some S') (hR : SR n (C.2.1 5) S' M') : M'.1 31 = gW C n := by
  obtain ⟨S2, q1, q2⟩ := c_begin h S
  rw [b1, Option.some.injEq] at q1
  rw [hR.e6, q1]; exact q2.2.1
end WQ
theorem tm2 : (-2 : Int32).toInt = -2 := rfl
theorem qu_watch : Qu_watch Wcc := by
  intro z M ρM hI a1 a2
  have hsk := hI.2.2.2.1
  obtain ⟨ρ, S, hS⟩ := hsk.2.2.2.1
  unfold fX9_watch gX10_watch
  rw [if_pos (x9_o hsk), x9_g (k := 0) (x := 16) hsk rfl]
  simp only [Option.bind_some, nm]
  rcases land_cases hI a1 with ⟨i, a, ρc, C, n, c, hi, rfl, h1, ha, hC, hx, hb⟩ | ⟨h1, hb⟩
  · obtain ⟨S', M', b1, b2_, b3, b4, b5, b6⟩ := hb (wI M 0 0) rfl rfl S
    have hn := hx.hn
    have hc := hx.hc
    have hg := hand_g hx b1 b5
    rw [h1, b2_]
    simp only [Option.bind_some, nq, b2, show ¬ ((1 : Int32) = 0) by decide, if_false]
    rw [b3.cp, gI_rd hC (k := 14) rfl, hx.c14]
    simp only [Option.bind_some]
    have hm : (nI c - 1).toInt = (c : Int) - 1 := by
      rw [fb_subI, nI_toInt (by omega), t1]
      · rw [nI_toInt (by omega), t1]; omega
      · rw [nI_toInt (by omega), t1]; omega
    by_cases k1 : a2 < -2
    · rw [if_pos k1, m_in1 (by rw [fa_lt, tm2] at k1; rw [tm2]; omega), if_pos rfl]
      exact ⟨_, _, _, rfl, hI, rfl⟩
    · rw [if_neg k1]
      by_cases k2 : a2 < nI c
      · have k3 : ¬ fX10_in a2 (-2) (nI c - 1) = 0 := m_in0 (by rw [fa_lt, tm2] at k1; rw [fa_lt, nI_toInt (by omega)] at k2; rw [tm2, hm]; omega)
        rw [if_pos k2, if_neg k3, x9_g (k := 5) (x := 49) hsk rfl]
        simp only [Option.bind_some]
        obtain ⟨z1, best, s1, s2, s49, s82, sb_⟩ := z_search hI hC ha hx
        obtain ⟨M2, w1, w2, w3, w4, w5, w6⟩ := m_watch hx b3 hg
        obtain ⟨-, -, -, g3, g5, g6, g7, g8, -⟩ := w_n s49
        rw [s1, w1]
        simp only [Option.bind_some]
        by_cases q1 : a2 = -1
        · rw [if_pos q1, if_pos q1, x9_g (k := 5) (x := 49) s2.2.2.2.1 rfl]
          simp only [Option.bind_some]
          rw [g5, w3]
          exact ⟨_, _, _, rfl, s2, rfl⟩
        · rw [if_neg q1, if_neg q1]
          by_cases q2 : a2 = -2
          · rw [if_pos q2, if_pos q2, x9_g (k := 5) (x := 49) s2.2.2.2.1 rfl]
            simp only [Option.bind_some]
            rw [g6, w4]
            exact ⟨_, _, _, rfl, s2, rfl⟩
          · rw [if_neg q2, if_neg q2, x9_g (k := 5) (x := 49) s2.2.2.2.1 rfl]
            simp only [Option.bind_some]
            rw [fa_lt, tm2] at k1
            rw [fa_lt, nI_toInt (by omega)] at k2
            rw [fa_eq, m1t] at q1
            rw [fa_eq, tm2] at q2
            obtain ⟨k, hk, rfl⟩ := vp_in_of (x := a2) (n := c) (vp_in_iff.mpr ⟨by omega, by omega⟩) (by omega)
            have rw82 : RW 0 82 4 best z1 := s82
            unfold fX8_chosen
            rw [if_pos g8, g3]
            simp only [Option.bind_some]
            rw [lnI_rw rw82]
            simp only [Option.bind_some]
            rw [eX9_pick rw82, show Int32.ofNat 4 = nI 4 from rfl, pick_nI (by omega) (by omega) (by omega), rA_nI (by omega) (by omega), sb_ k hk, w6 (ac_end C n c) k hk]
            exact ⟨_, _, _, rfl, s2, rfl⟩
      · have k3 : fX10_in a2 (-2) (nI c - 1) = 0 := m_in1 (by rw [fa_lt, nI_toInt (by omega)] at k2; rw [hm]; omega)
        rw [if_neg k2, if_pos k3]
        exact ⟨_, _, _, rfl, hI, rfl⟩
  · rw [h1, hb (wI M 0 0) rfl]
    simp only [Option.bind_some, nq, b2, if_true]
    exact ⟨_, _, _, rfl, hI, rfl⟩
theorem qu_height : Qu_height Wcc := by
  intro z M ρM hI a1 a2
  have hsk := hI.2.2.2.1
  obtain ⟨ρ, S, hS⟩ := hsk.2.2.2.1
  unfold fX9_height gX10_height
  rw [if_pos (x9_o hsk), x9_g (k := 0) (x := 16) hsk rfl]
  simp only [Option.bind_some, nm]
  rcases land_cases hI a1 with ⟨i, a, ρc, C, n, c, hi, rfl, h1, ha, hC, hx, hb⟩ | ⟨h1, hb⟩
  · obtain ⟨S', M', b1, b2_, b3, b4, b5, b6⟩ := hb (wI M 0 0) rfl rfl S
    have zb := z_begin hI hC ha hS b1
    have hn := hx.hn
    have hc := hx.hc
    have hg := hand_g hx b1 b5
    rw [h1, b2_, x9_g (k := 4) (x := 44) hsk rfl]
    simp only [Option.bind_some, nq, b2, show ¬ ((1 : Int32) = 0) by decide, if_false]
    rw [zb]
    have hI1 := hI.scratch scr5 (by decide) (va_up ρ.1 0 (some a), ρ.2) S'
    have hC1 := z_C hC ha (va_up ρ.1 0 (some a), ρ.2) S'
    have hS1 := z_S hI (va_up ρ.1 0 (some a), ρ.2) S'
    have hl1 := z_land ρ a
    simp only [Option.bind_some]
    by_cases q0 : a2 = 0
    · rw [if_pos q0, if_pos q0, z_g hI]
      simp only [Option.bind_some]
      obtain ⟨r, r1, r2⟩ := high_both hx b3 b5
      rw [eX6_highest hS1 hC1 hl1, r1, r2]
      exact ⟨_, _, _, rfl, hI1, rfl⟩
    · rw [if_neg q0, if_neg q0]
      by_cases q1 : a2 = 1
      · rw [if_pos q1, if_pos q1, x9_g (k := 5) (x := 49) hI1.2.2.2.1 rfl]
        simp only [Option.bind_some]
        obtain ⟨z1, best, s1, s2, s49, s82, sb_⟩ := z_search hI1 hC1 ha hx
        obtain ⟨M2, w1, w2, w3, w4, w5, w6⟩ := m_watch hx b3 hg
        obtain ⟨-, -, -, g3, g5, g6, g7, g8, -⟩ := w_n s49
        rw [s1, w1]
        simp only [Option.bind_some]
        rw [x9_g (k := 5) (x := 49) s2.2.2.2.1 rfl]
        simp only [Option.bind_some]
        rw [g7, w5]
        obtain ⟨p, hp, ep⟩ := ac_w C n hc (9 ^ c)
        rw [ep]
        refine ⟨_, _, M2, rfl, s2, ?_⟩
        unfold wc
        rcases hp with hp | hp
        · rw [if_pos (show nI p < 1000000 from nI_lt (b := 1000000) (by omega) (by omega)), if_neg (fun e => by rw [t106, nI_eq (by omega) (by omega)] at e; omega)]
        · rw [hp, if_neg (show ¬ nI 1000000 < 1000000 from nI_nlt (b := 1000000) (Nat.le_refl _) (by omega)), if_pos (show nI 1000000 = 1000000 from rfl)]
      · rw [if_neg q1, if_neg q1]
        by_cases q2 : a2 = 2
        · rw [if_pos q2, if_pos q2, if_neg (fun e => by rw [q2] at e; exact absurd e (by decide)), z_g hI]
          simp only [Option.bind_some]
          unfold gbX10_height_91
          rw [eX6_countParts hS1 hC1 hl1, c_count hx, m_parts hx b3 b5, if_pos rfl]
          exact ⟨_, _, _, rfl, hI1, rfl⟩
        · rw [if_neg q2, if_neg q2]
          by_cases q3 : a2 = 3
          · rw [if_pos q3, if_pos q3, if_pos q3, z_g hI]
            simp only [Option.bind_some]
            unfold gbX10_height_91
            rw [eX6_largestPart hS1 hC1 hl1, c_large hx, m_parts hx b3 b5, if_neg (by decide), (ps_mx hn (S'.1 6) n (Nat.le_refl _)).1]
            exact ⟨_, _, _, rfl, hI1, rfl⟩
          · rw [if_neg q3, if_neg q3]
            by_cases q4 : a2 = 4
            · rw [if_pos q4, if_pos q4]
              obtain ⟨r, M2, r1, r2⟩ := pair_both hx b3
              rw [eX1_mostPairs hC1, r1, r2]
              exact ⟨_, _, _, rfl, hI1, rfl⟩
            · rw [if_neg q4, if_neg q4]
              exact ⟨_, _, _, rfl, hI1, rfl⟩
  · rw [h1, hb (wI M 0 0) rfl]
    simp only [Option.bind_some, nq, b2, if_true]
    exact ⟨_, _, _, rfl, hI, rfl⟩
