/-! ===== WATCH: the reference tries a row; all rows ===== -/
section WM2
variable {C : SV} {B : Nat → Int32} {i n c : Nat} {M : SV}
theorem thr_bt (hn : n ≤ 8) (g : Int32) {k : Nat} (hk : k < 32) : bt (thr n g) k = (decide (k < n) && !bt g k) := by
  unfold thr
  rw [b_and, mask_bt n (by omega) k hk, b_not _ hk]
theorem thr_eq (hn : n ≤ 8) {a b : Int32} (ha : ∀ k, n ≤ k → k < 32 → bt a k = false) (hb : ∀ k, n ≤ k → k < 32 → bt b k = false) : thr n a = thr n b ↔ a = b := by
  refine ⟨fun h => b_ext (fun k hk => ?_), fun h => by rw [h]⟩
  by_cases q : k < n
  · have h1 := thr_bt hn a hk
    have h2 := thr_bt hn b hk
    rw [h, h2, decide_eq_true q] at h1
    cases x : bt a k <;> cases y : bt b k <;> simp_all
  · rw [ha k (by omega) hk, hb k (by omega) hk]
theorem there_e (h26 : M.1 26 = nI n) {g : Int32} (h31 : M.1 31 = g) : gX10_thereSet M = some (thr n g) := by
  unfold gX10_thereSet thr
  rw [h26, h31]
/-- the looks of a row -/
theorem m_looks (h : CX C B n c) (hM : MX B i n c (C.2.1 5) M) (hR : RSw C n 0 0 M) {Q : Nat} (hv : vl n (gW C n) c Q = true) (hrow : ∀ i, i < c → M.2.1 39 i = nI (dg c Q i)) (fi : Int32) : ∃ M1, gX10_tryRow fi M = ((gX10_goesOn M1).bind fun S44 => gfX10_tryRow_52 FU fi (nI (pN c Q)) 0 0 S44) ∧ RSw C n c Q M1 ∧ FrS M M1 := by
  have hn := h.hn
  have hc := h.hc
  have key := lpR (fun f (q : Int32 × Int32 × SV) => gfX10_tryRow_4 f fi q.1 q.2.1 q.2.2) (fun j q => q.1 = nI (pN j (Q / 9 ^ (c - j))) ∧ q.2.1 = nI j ∧ FrS M q.2.2 ∧ RSw C n j (Q / 9 ^ (c - j)) q.2.2) (fun b => ∃ M1, b = ((gX10_goesOn M1).bind fun S44 => gfX10_tryRow_52 FU fi (nI (pN c Q)) 0 0 S44) ∧ RSw C n c Q M1 ∧ FrS M M1) c ?_ ?_ (0, 0, M) ⟨rfl, rfl, FrS.rf, hR⟩ FU (by rw [FUn]; omega)
  · exact key
  · rintro j hj ⟨l2, l3, S⟩ ⟨e1, e2, e3, e4⟩
    replace e1 : l2 = nI (pN j (Q / 9 ^ (c - j))) := e1
    replace e2 : l3 = nI j := e2
    replace e3 : FrS M S := e3
    replace e4 : RSw C n j (Q / 9 ^ (c - j)) S := e4
    subst e1 e2
    left
    have hv1 : vl n (gW C n) (j + 1) (Q / 9 ^ (c - (j + 1))) = true := vl_px (c - (j + 1)) (j + 1) Q (by rw [show j + 1 + (c - (j + 1)) = c by omega]; exact hv)
    have hd : dg c Q j = Q / 9 ^ (c - (j + 1)) % 9 := by rw [dg_px c Q j hj, show c - 1 - j = c - (j + 1) by omega]
    obtain ⟨hv2, hd2⟩ := vl_dg hv1
    rw [← px_div Q hj] at e4
    rw [← px_div Q hj]
    generalize hP : Q / 9 ^ (c - (j + 1)) = P at *
    have hMS := hM.to e3
    have hread : rA 4 (S.2.1 39) (nI j) = some (nI (P % 9)) := by
      rw [rA_nI (by omega) (by omega), e3.r (by decide) (by decide), hrow j hj, hd]
    have hcp : ¬ S.1 27 ≤ nI j := by rw [hMS.cp]; exact nI_ge hj (by omega)
    rcases hd2 with e8 | ⟨d1, d2, d3⟩
    · refine ⟨(nI (pN j (P / 9)), nI (j + 1), S), fun f => ?_, ?_, rfl, e3, ?_⟩
      · show gbX10_tryRow_4 _ _ _ _ _ = _
        unfold gbX10_tryRow_4
        rw [if_neg hcp, hread]
        simp only [Option.bind_some]
        rw [if_pos (show (8 : Int32) ≤ nI (P % 9) by rw [e8]; decide), nmE, ← nI_succ]
      · show nI (pN j (P / 9)) = nI (pN (j + 1) P)
        rw [pN, if_neg (by omega)]
      · obtain ⟨S0, r1, r2, r3, r4, r5⟩ := e4
        exact ⟨S0, r1, by rw [r2, pS, if_neg (by omega)], by rw [r3, pW, if_neg (by omega)], r4, by rw [r5, pG, if_neg (by omega)]⟩
    · obtain ⟨S0, r1, r2, r3, r4, r5⟩ := e4
      obtain ⟨S', M', f1, f2, f3, f4, f5, f6, f7, f8, f9, f10, f11⟩ := sees_both h hMS r1 hj d1 (by rw [r4]; exact d2)
      obtain ⟨S'', q0, g1, g2, -⟩ := c_see h hj d1 S0
      rw [f1, Option.some.injEq, Prod.mk.injEq] at q0
      rw [← q0.2] at g1 g2
      refine ⟨(nI (pN j (P / 9) + 1), nI (j + 1), M'), fun f => ?_, ?_, rfl, e3.tr f4, S', f3, ?_, ?_, ?_, ?_⟩
      · show gbX10_tryRow_4 _ _ _ _ _ = _
        unfold gbX10_tryRow_4
        rw [if_neg hcp, hread]
        simp only [Option.bind_some]
        rw [if_neg (show ¬ (8 : Int32) ≤ nI (P % 9) from nI_ge (b := 8) (by omega) (by omega))]
        rw [f2]
        simp only [Option.bind_some]
        rw [nmE, nmE, ← nI_succ, ← nI_succ]
      · show nI (pN j (P / 9) + 1) = nI (pN (j + 1) P)
        rw [pN, if_pos (by omega)]
      · rw [g1, r2, pS, if_pos (by omega)]
      · rw [g2, r3, pW, if_pos (by omega)]
      · rw [f6, r4]
      · rw [f10, r5, pG, if_pos (by omega)]
  · rintro ⟨l2, l3, S⟩ ⟨e1, e2, e3, e4⟩
    replace e1 : l2 = nI (pN c (Q / 9 ^ (c - c))) := e1
    replace e2 : l3 = nI c := e2
    replace e3 : FrS M S := e3
    replace e4 : RSw C n c (Q / 9 ^ (c - c)) S := e4
    rw [Nat.sub_self, Nat.pow_zero, Nat.div_one] at e1 e4
    subst e1 e2
    refine ⟨_, fun f => ?_, S, rfl, e4, e3⟩
    show gbX10_tryRow_4 _ _ _ _ _ = _
    unfold gbX10_tryRow_4
    rw [if_pos (by rw [(hM.to e3).cp]; exact nI_le (Nat.le_refl _) (by omega))]
theorem m_hour (h : CX C B n c) (hM : MX B i n c (C.2.1 5) M) {Q : Nat} (hR : RSw C n c Q M) : ∃ M', gX10_goesOn M = some M' ∧ FrS M M' ∧ M'.1 31 = jG C n c Q ∧ (∀ t, t < n → M'.2.1 28 t = if bt (jG C n c Q) t then 0 else jT C n c Q t) ∧ GO n (C.2.1 5) (jG C n c Q) := by
  obtain ⟨S, r1, r2, r3, r4, r5⟩ := hR
  obtain ⟨S', M', h1, h2, h3, h4, h5, p1, p2, p3, p4, p5⟩ := hour_both h hM r1
  rw [r2, r3, r4, r5] at p4
  rw [r2, r4, r5] at p1
  have eg : S'.1 6 = jG C n c Q := p4
  have et : S'.2.1 1 = jT C n c Q := p1
  refine ⟨M', h2, h4, h3.e6.trans eg, fun t ht => ?_, by rw [← eg]; exact h3.go⟩
  have := (h3.fm.2.2.2 t ht).1
  rw [eg, et] at this
  exact this
theorem m_sum (hn : n ≤ 8) (h26 : M.1 26 = nI n) (fi l2 : Int32) {R : Option SV} (hR : ∀ k, gbX10_tryRow_52 k fi l2 (sumP (fun t => M.2.1 28 t) n) (nI n) M = R) : gfX10_tryRow_52 FU fi l2 0 0 M = R := by
  refine lp (fun f (q : Int32 × Int32) => gfX10_tryRow_52 f fi l2 q.1 q.2 M) (fun j => (sumP (fun t => M.2.1 28 t) j, nI j)) R n ?_ ?_ FU (by rw [FUn]; omega)
  · intro j hj f
    show gbX10_tryRow_52 _ _ _ _ _ _ = gfX10_tryRow_52 f fi l2 (sumP (fun t => M.2.1 28 t) j + M.2.1 28 j) (nI (j + 1)) M
    unfold gbX10_tryRow_52
    rw [h26, if_neg (nI_ge hj (by omega)), rA_nI (by omega) (by omega)]
    simp only [Option.bind_some]
    rw [nmE, nmE, ← nI_succ]
  · intro f
    exact hR _
/-- the row is kept as the best one -/
theorem m_keep (hc : c ≤ 4) (h27 : M.1 27 = nI c) {row : Nat → Int32} (hrow : ∀ i, i < c → M.2.1 39 i = row i) (fi l2 : Int32) : ∃ f, gfX10_tryRow_126 FU fi l2 0 M = gbX10_tryRow_155 fi l2 (wR M 40 f) ∧ ∀ i, i < c → f i = row i := by
  have key := lpR (fun f (q : Int32 × SV) => gfX10_tryRow_126 f fi l2 q.1 q.2) (fun j q => q.1 = nI j ∧ ∃ f, q.2 = wR M 40 f ∧ ∀ i, i < j → f i = row i) (fun b => ∃ f, b = gbX10_tryRow_155 fi l2 (wR M 40 f) ∧ ∀ i, i < c → f i = row i) c ?_ ?_ (0, M) ⟨rfl, M.2.1 40, wR_id.symm, fun i hi => by omega⟩ FU (by rw [FUn]; omega)
  · exact key
  · rintro j hj ⟨l, M1⟩ ⟨e1, f, e2, e3⟩
    replace e1 : l = nI j := e1
    replace e2 : M1 = wR M 40 f := e2
    subst e1 e2
    left
    refine ⟨(nI (j + 1), wR M 40 (upd f j (row j))), fun g => ?_, rfl, upd f j (row j), rfl, fun i hi => ?_⟩
    · show gbX10_tryRow_126 _ _ _ _ _ = _
      unfold gbX10_tryRow_126
      rw [show (wR M 40 f).1 27 = nI c from h27, if_neg (nI_ge hj (by omega)), wR_ne (by decide), rA_nI (by omega) (by omega), hrow j hj]
      simp only [Option.bind_some]
      rw [wA_nI (by omega) (by omega), wR_eq, wR_wR]
      simp only [Option.bind_some]
      rw [nmE, ← nI_succ]
    · by_cases q : i = j
      · subst q; rw [pk_us]
      · rw [pk_un q]; exact e3 i (by omega)
  · rintro ⟨l, M1⟩ ⟨e1, f, e2, e3⟩
    replace e1 : l = nI c := e1
    replace e2 : M1 = wR M 40 f := e2
    subst e1 e2
    refine ⟨gbX10_tryRow_155 fi l2 (wR M 40 f), fun g => ?_, f, rfl, e3⟩
    show gbX10_tryRow_126 _ _ _ _ _ = _
    unfold gbX10_tryRow_126
    rw [show (wR M 40 f).1 27 = nI c from h27, if_pos (nI_le (Nat.le_refl _) (by omega))]
/-- what the reference knows behind some rows -/
def RA (c : Nat) (a : (Int32 × Int32) × Int32 × Nat) (M : SV) : Prop := M.1 41 = a.1.1 ∧ M.1 42 = a.1.2 ∧ M.1 43 = a.2.1 ∧ (¬ a.1.1 = -1 → ∀ i, i < c → M.2.1 40 i = nI (dg c a.2.2 i))
theorem m_155 (hn : n ≤ 8) (h26 : M.1 26 = nI n) {G g0 fi : Int32} (h31 : M.1 31 = G) (hG : ∀ k, n ≤ k → k < 32 → bt G k = false) (hg : ∀ k, n ≤ k → k < 32 → bt g0 k = false) (hf : fi = thr n g0) (l2 : Int32) : ∃ x, gbX10_tryRow_155 fi l2 M = some (wI M 43 x) ∧ ((G = g0 ∧ x = fX10_lesser (M.1 43) l2) ∨ (¬ G = g0 ∧ x = M.1 43)) := by
  unfold gbX10_tryRow_155
  rw [there_e h26 h31, hf]
  simp only [Option.bind_some]
  by_cases q : G = g0
  · rw [if_pos (by rw [q]), nmE]; exact ⟨_, rfl, Or.inl ⟨q, rfl⟩⟩
  · rw [if_neg (fun e => q ((thr_eq hn hG hg).mp e)), nmE]; exact ⟨_, rfl, Or.inr ⟨q, rfl⟩⟩
theorem gW_go (h : CX C B n c) : ∀ k, n ≤ k → k < 32 → bt (gW C n) k = false := (GO.z.fl h.hn h.at).1
theorem m_try (h : CX C B n c) (hM : MX B i n c (C.2.1 5) M) (hR : RSw C n 0 0 M) {Q : Nat} (hv : vl n (gW C n) c Q = true) (hrow : ∀ i, i < c → M.2.1 39 i = nI (dg c Q i)) {fi : Int32} (hfi : fi = thr n (gW C n)) {a a' : (Int32 × Int32) × Int32 × Nat} (ha : RA c a M) (has : AJ C n c Q a a') : ∃ M', gX10_tryRow fi M = some M' ∧ MX B i n c (C.2.1 5) M' ∧ RA c a' M' := by
  have hn := h.hn
  have hc := h.hc
  obtain ⟨M1, e1, e2, e3⟩ := m_looks h hM hR hv hrow fi
  have hM1 := hM.to e3
  obtain ⟨M2, f1, f2, f3, f4, f5⟩ := m_hour h hM1 e2
  have hM2 := hM1.to f2
  have F := e3.tr f2
  obtain ⟨a1, a2, a3, a4⟩ := ha
  obtain ⟨b1, b2⟩ := has
  have hrow2 : ∀ i, i < c → M2.2.1 39 i = nI (dg c Q i) := fun i hi => by rw [F.r (by decide) (by decide)]; exact hrow i hi
  have g41 : M2.1 41 = a.1.1 := (F.i (by omega)).trans a1
  have g42 : M2.1 42 = a.1.2 := (F.i (by omega)).trans a2
  have g43 : M2.1 43 = a.2.1 := (F.i (by omega)).trans a3
  have hsum : sumP (fun t => M2.2.1 28 t) n = jS C n c Q := sumP_cong n (fun t ht => f4 t ht)
  have hGG : ∀ k, n ≤ k → k < 32 → bt (jG C n c Q) k = false := f5.1
  -- both ends
  have yes : ∀ M3 : SV, (∃ f, M3 = wR (wI (wI M2 41 (nI (jM C n c Q))) 42 (jS C n c Q)) 40 f ∧ ∀ i, i < c → f i = nI (dg c Q i)) → bet C n c Q a.1.1 a.1.2 = true → ∃ M', gbX10_tryRow_155 fi (nI (pN c Q)) M3 = some M' ∧ MX B i n c (C.2.1 5) M' ∧ RA c a' M' := by
    rintro M3 ⟨f, rfl, hf⟩ hb
    obtain ⟨x, x1, x2⟩ := m_155 (M := wR (wI (wI M2 41 (nI (jM C n c Q))) 42 (jS C n c Q)) 40 f) hn hM2.fm (f3) hGG (gW_go h) hfi (nI (pN c Q))
    refine ⟨_, x1, (((hM2.wi (by decide) _).wi (by decide) _).wrr (by decide) f).wi (by decide) x, ?_⟩
    rcases b1 with ⟨-, c2, c3⟩ | ⟨c1, -⟩
    · refine ⟨by rw [c2]; rfl, by rw [c2]; rfl, ?_, fun _ i hi => ?_⟩
      · show x = _
        rcases x2 with ⟨y1, y2⟩ | ⟨y1, y2⟩
        · rcases b2 with ⟨d1, d2⟩ | ⟨d1, d2⟩
          · rw [y2, d2, ← g43]; rfl
          · exact absurd y1 d1
        · rcases b2 with ⟨d1, d2⟩ | ⟨d1, d2⟩
          · exact absurd d1 y1
          · rw [y2, d2, ← g43]; rfl
      · rw [c3]; show f i = _; exact hf i hi
    · rw [hb] at c1; cases c1
  have no : bet C n c Q a.1.1 a.1.2 = false → ∃ M', gbX10_tryRow_155 fi (nI (pN c Q)) M2 = some M' ∧ MX B i n c (C.2.1 5) M' ∧ RA c a' M' := by
    intro hb
    obtain ⟨x, x1, x2⟩ := m_155 hn hM2.fm f3 hGG (gW_go h) hfi (nI (pN c Q))
    refine ⟨_, x1, hM2.wi (by decide) x, ?_⟩
    rcases b1 with ⟨c1, -⟩ | ⟨-, c2, c3⟩
    · rw [hb] at c1; cases c1
    · refine ⟨by rw [c2]; exact g41, by rw [c2]; exact g42, ?_, fun q i hi => ?_⟩
      · show x = _
        rcases x2 with ⟨y1, y2⟩ | ⟨y1, y2⟩
        · rcases b2 with ⟨d1, d2⟩ | ⟨d1, d2⟩
          · rw [y2, d2, ← g43]
          · exact absurd y1 d1
        · rcases b2 with ⟨d1, d2⟩ | ⟨d1, d2⟩
          · exact absurd d1 y1
          · rw [y2, d2, ← g43]
      · rw [c2] at q
        rw [c3]
        show M2.2.1 40 i = _
        rw [F.r (by decide) (by decide)]; exact a4 q i hi
  have h112 : bet C n c Q a.1.1 a.1.2 = true → ∃ M', gbX10_tryRow_112 fi (nI (pN c Q)) (jS C n c Q) (nI (jM C n c Q)) M2 = some M' ∧ MX B i n c (C.2.1 5) M' ∧ RA c a' M' := by
    intro hb
    obtain ⟨f, k1, k2⟩ := m_keep (M := wI (wI M2 41 (nI (jM C n c Q))) 42 (jS C n c Q)) hc hM2.cp hrow2 fi (nI (pN c Q))
    unfold gbX10_tryRow_112
    rw [nmE, nmE, k1]
    exact yes _ ⟨f, rfl, k2⟩ hb
  rw [e1, f1]
  simp only [Option.bind_some]
  have body : ∃ R : Option SV, (∀ k, gbX10_tryRow_52 k fi (nI (pN c Q)) (sumP (fun t => M2.2.1 28 t) n) (nI n) M2 = R) ∧ ∃ M', R = some M' ∧ MX B i n c (C.2.1 5) M' ∧ RA c a' M' := by
    have hones : (fX10_ones (thr n (jG C n c Q))) = some (nI (jM C n c Q)) := m_ones _
    have ek : ∀ k, gbX10_tryRow_52 k fi (nI (pN c Q)) (sumP (fun t => M2.2.1 28 t) n) (nI n) M2 = (if a.1.1 < nI (jM C n c Q) then gbX10_tryRow_112 fi (nI (pN c Q)) (jS C n c Q) (nI (jM C n c Q)) M2 else if nI (jM C n c Q) = a.1.1 then (if jS C n c Q ≤ a.1.2 then gbX10_tryRow_155 fi (nI (pN c Q)) M2 else gbX10_tryRow_112 fi (nI (pN c Q)) (jS C n c Q) (nI (jM C n c Q)) M2) else gbX10_tryRow_155 fi (nI (pN c Q)) M2) := by
      intro k
      unfold gbX10_tryRow_52
      rw [hM2.fm, if_pos (nI_le (Nat.le_refl _) (by omega)), there_e hM2.fm f3, hsum]
      simp only [Option.bind_some]
      rw [hones]
      simp only [Option.bind_some]
      rw [g41, g42]
    refine ⟨_, ek, ?_⟩
    by_cases q1 : a.1.1 < nI (jM C n c Q)
    · rw [if_pos q1]
      exact h112 (by unfold bet; rw [decide_eq_true q1]; rfl)
    · rw [if_neg q1]
      by_cases q2 : nI (jM C n c Q) = a.1.1
      · rw [if_pos q2]
        by_cases q3 : jS C n c Q ≤ a.1.2
        · rw [if_pos q3]
          exact no (by unfold bet; rw [decide_eq_false q1, decide_eq_true q2, decide_eq_true q3]; rfl)
        · rw [if_neg q3]
          exact h112 (by unfold bet; rw [decide_eq_false q1, decide_eq_true q2, decide_eq_false q3]; rfl)
      · rw [if_neg q2]
        exact no (by unfold bet; rw [decide_eq_false q1, decide_eq_false q2]; rfl)
  obtain ⟨R, r1, M', r2, r3⟩ := body
  exact ⟨M', (m_sum hn hM2.fm fi (nI (pN c Q)) r1).trans r2, r3⟩
theorem p9 {c : Nat} (hc : c ≤ 4) : 9 ^ c ≤ 6561 := by
  have : 9 ^ c ≤ 9 ^ 4 := Nat.pow_le_pow_right (by decide) hc
  omega
theorem m_watch47 (h : CX C B n c) (hM : MX B i n c (C.2.1 5) M) {fi : Int32} (hfi : fi = thr n (gW C n)) (ha : RA c (ac C n c 0) M) : ∃ M', gfX10_findWatch_47 FU fi (nI (9 ^ c)) 0 M = some M' ∧ MX B i n c (C.2.1 5) M' ∧ RA c (ac C n c (9 ^ c)) M' := by
  have hn := h.hn
  have hc := h.hc
  have h9 := p9 hc
  have key := lpR (fun f (q : Int32 × SV) => gfX10_findWatch_47 f fi (nI (9 ^ c)) q.1 q.2) (fun k q => q.1 = nI k ∧ MX B i n c (C.2.1 5) q.2 ∧ RA c (ac C n c k) q.2) (fun b => ∃ M', b = some M' ∧ MX B i n c (C.2.1 5) M' ∧ RA c (ac C n c (9 ^ c)) M') (9 ^ c) ?_ ?_ (0, M) ⟨rfl, hM, ha⟩ FU (by rw [FUn]; omega)
  · exact key
  · rintro k hk ⟨l, S⟩ ⟨e1, e2, e3⟩
    replace e1 : l = nI k := e1
    replace e2 : MX B i n c (C.2.1 5) S := e2
    replace e3 : RA c (ac C n c k) S := e3
    subst e1
    left
    obtain ⟨M1, M2, b1, b2, b3, b4⟩ := m_begun h e2
    have hM2 := e2.to b3
    have hg : M2.1 31 = gW C n := by obtain ⟨S0, r1, -, -, r4, -⟩ := b4; exact r1.e6.trans r4
    obtain ⟨f, l1, l2⟩ := m_lay (M := M2) hn hc hM2.fm hM2.cp hg (Q := k) (by omega)
    have hRA : RA c (ac C n c k) (wR M2 39 f) := by
      obtain ⟨a1, a2, a3, a4⟩ := e3
      exact ⟨(b3.i (by omega)).trans a1, (b3.i (by omega)).trans a2, (b3.i (by omega)).trans a3, fun q i hi => by rw [wR_ne (by decide), b3.r (by decide) (by decide)]; exact a4 q i hi⟩
    cases hv : vl n (gW C n) c k
    · refine ⟨(nI (k + 1), wR M2 39 f), fun u => ?_, rfl, hM2.wrr (by decide) f, by rw [ac_no hv]; exact hRA⟩
      show gbX10_findWatch_47 _ _ _ _ _ = _
      unfold gbX10_findWatch_47
      rw [if_neg (nI_ge hk (by omega)), b1]
      simp only [Option.bind_some]
      rw [b2]
      simp only [Option.bind_some]
      rw [l1, hv]
      rw [b2_some, if_pos (show (if false = true then (1 : Int32) else 0) = 0 by decide), nmE, ← nI_succ]
    · have hR : RSw C n 0 0 (wR M2 39 f) := by obtain ⟨S0, r1, r⟩ := b4; exact ⟨S0, r1.mr (by decide) f, r⟩
      obtain ⟨M3, t1, t2, t3⟩ := m_try h (hM2.wrr (by decide) f) hR hv (fun i hi => by rw [wR_eq]; exact l2 hv i hi) hfi hRA (ac_yes hv)
      refine ⟨(nI (k + 1), M3), fun u => ?_, rfl, t2, t3⟩
      show gbX10_findWatch_47 _ _ _ _ _ = _
      unfold gbX10_findWatch_47
      rw [if_neg (nI_ge hk (by omega)), b1]
      simp only [Option.bind_some]
      rw [b2]
      simp only [Option.bind_some]
      rw [l1, hv, b2_some, if_neg (show ¬ (if true = true then (1 : Int32) else 0) = 0 by decide), t1]
      simp only [Option.bind_some]
      rw [nmE, ← nI_succ]
  · rintro ⟨l, S⟩ ⟨e1, e2, e3⟩
    replace e1 : l = nI (9 ^ c) := e1
    subst e1
    refine ⟨some S, fun f => ?_, S, rfl, e2, e3⟩
    show gbX10_findWatch_47 _ _ _ _ _ = _
    unfold gbX10_findWatch_47
    rw [if_pos (nI_le (Nat.le_refl _) (by omega))]
theorem m_watch (h : CX C B n c) (hM : MX B i n c (C.2.1 5) M) (hg : M.1 31 = gW C n) : ∃ M', gX10_findWatch M = some M' ∧ MX B i n c (C.2.1 5) M' ∧ RA c (ac C n c (9 ^ c)) M' := by
  have hn := h.hn
  have hc := h.hc
  have hM3 : MX B i n c (C.2.1 5) (wI (wI (wI M 41 (-1)) 42 (-1)) 43 1000000) := ((hM.wi (by decide) _).wi (by decide) _).wi (by decide) _
  obtain ⟨M', w1, w2⟩ := m_watch47 (M := wI (wI (wI M 41 (-1)) 42 (-1)) 43 1000000) h hM3 (fi := thr n (gW C n)) rfl ⟨rfl, rfl, rfl, fun q => absurd rfl q⟩
  refine ⟨M', ?_, w2⟩
  unfold gX10_findWatch
  rw [there_e hM.fm hg]
  simp only [Option.bind_some]
  have key := lp (fun f (q : Int32 × Int32) => gfX10_findWatch_9 f (thr n (gW C n)) q.1 q.2 M) (fun j => (nI (9 ^ j), nI j)) (some M') c ?_ ?_ FU (by rw [FUn]; omega)
  · exact key
  · intro j hj f
    show gbX10_findWatch_9 _ _ _ _ _ = gfX10_findWatch_9 f _ (nI (9 ^ (j + 1))) (nI (j + 1)) M
    unfold gbX10_findWatch_9
    rw [hM.cp, if_neg (nI_ge hj (by omega)), nmE, nmE, ← nI_succ, show (9 : Int32) = nI 9 from rfl, pk_mul, Nat.pow_succ]
  · intro f
    show gbX10_findWatch_9 _ _ _ _ _ = _
    unfold gbX10_findWatch_9
    rw [hM.cp, if_pos (nI_le (Nat.le_refl _) (by omega)), nmE, nmE, nmE]
    exact w1
end WM2
