/-! ===== text: the reference reads a line ===== -/
def ps (D : Nat → Int32) (L p : Nat) : Nat → Nat
  | 0 => p
  | i + 1 => tE D L (ps D L p i)
def lnA (D : Nat → Int32) (L p k : Nat) : LiN := (k, tB D L p, fun i => tV D L (ps D L p (i + 1)), fun i => tB D L (ps D L p (i + 1)))
def RMs (q : Nat) (s : ST) (M : SV) : Prop := RFs s.1 M ∧ (∀ j, j < 121 → M.2.1 19 j = s.2.1 j) ∧ (q = 0 → M.1 21 = s.2.2.1 ∧ M.1 22 = s.2.2.2.1 ∧ M.1 23 = s.2.2.2.2)
def SFp (q : Nat) (told : Nat → Int32) : Prop := ∀ k, wLo q ≤ k → k < wHi q → ctK k = true → ∃ c, c ≤ moK k ∧ told (cnK k) = nI c
section ML
variable {F : Nat → Int32} {L p : Nat} {M : SV}
theorem ps_le (D : Nat → Int32) {L p : Nat} (h : p ≤ L) : ∀ i, ps D L p i ≤ L
  | 0 => h
  | i + 1 => tE_le (ps_le D h i)
theorem ps_B (D : Nat → Int32) {L p : Nat} {i : Nat} (h : ¬ tK D L (ps D L p i) = 0) : tB D L (ps D L p i) < tB D L (ps D L p (i + 1)) := Nat.lt_of_lt_of_le (tE_gt (tK_lt h)) tB_ge
/-- behind i numbers of a line -/
def CH (F : Nat → Int32) (L p k : Nat) (fs0 : Int32 × Int32) (M0 : SV) (i : Nat) (M : SV) : Prop := MS (D8 F) L (ps (D8 F) L p (i + 1)) M ∧ FrL M0 M ∧ M.2.1 19 = M0.2.1 19 ∧ RFs (nuF (lnA (D8 F) L p k) fs0 i) M ∧ BD (nuF (lnA (D8 F) L p k) fs0 i) (tB (D8 F) L (ps (D8 F) L p (i + 1))) ∧ M.1 24 = if gdN (lnA (D8 F) L p k) i then 1 else 0
theorem CH.step {k i r : Nat} {fs0 : Int32 × Int32} {M0 M' : SV} (hT : MT F L M0) (hp : p ≤ L) (h : CH F L p k fs0 M0 i M) (hk : tK (D8 F) L (ps (D8 F) L p (i + 1)) = 2) {vd : Bool} (hv : vd = okN k i (tV (D8 F) L (ps (D8 F) L p 1)) (tV (D8 F) L (ps (D8 F) L p (i + 1)))) (ht : TN F L (ps (D8 F) L p (i + 1)) r vd M M') : CH F L p k fs0 M0 (i + 1) M' := by
  obtain ⟨h1, h2, h3, h4, h5, h6⟩ := h
  obtain ⟨t1, t2, t3, t4, t5, t6⟩ := ht
  have hL := hT.2.1
  have hb := tB_le (D := D8 F) (ps_le (D8 F) hp (i + 1))
  have hlt := ps_B (D8 F) (L := L) (p := p) (i := i + 1) (by omega)
  have r := t6 _ h4 h5
  have en : nuF (lnA (D8 F) L p k) fs0 (i + 1) = if vd then nuF (lnA (D8 F) L p k) fs0 i else adF (nuF (lnA (D8 F) L p k) fs0 i) 2 (nI (tB (D8 F) L (ps (D8 F) L p (i + 1)))) := by rw [hv]; rfl
  have eg : gdN (lnA (D8 F) L p k) (i + 1) = (gdN (lnA (D8 F) L p k) i && vd) := by rw [hv]; rfl
  refine ⟨t1, h2.tr t2, t4.trans h3, by rw [en]; exact r, ?_, ?_⟩
  · rw [en]
    cases vd
    · exact h5.ad hlt (by omega)
    · exact h5.mo (by omega)
  · rw [t5, h6, eg]
    cases vd <;> cases gdN (lnA (D8 F) L p k) i <;> rfl
theorem vd_1 {k i : Nat} (h : ¬ ((k = 1 ∨ k = 2) ∧ i = 1)) (n0 v : Int32) : vdB (loK k) (tpK k i) (-1) v = okN k i n0 v := by
  unfold vdB okN
  rw [decide_eq_false h, Bool.false_and]
  by_cases c : loK k ≤ v
  · have : ¬ v = -1 := fun e => by
      rw [e] at c
      unfold loK at c
      split at c <;> exact absurd c (by decide)
    rw [decide_eq_false this]
  · rw [decide_eq_false c]; rfl
theorem vd_2 {k : Nat} (h : k = 1 ∨ k = 2) (n0 v : Int32) : vdB (loK k) (tpK k 1) n0 v = okN k 1 n0 v := by
  unfold vdB okN
  rw [decide_eq_true (show (k = 1 ∨ k = 2) ∧ 1 = 1 from ⟨h, rfl⟩), Bool.true_and]
/-- the line's room -/
theorem m_full (hT : MT F L M) (hp : p ≤ L) {told : Nat → Int32} (hS : MS (D8 F) L p M) {fs : Int32 × Int32} (hfs : RFs fs M) (hbd : BD fs (tB (D8 F) L p)) (h19 : ∀ j, j < 121 → M.2.1 19 j = told j) {k : Nat} (hk : k < 20) (hc : ctK k = true) : ∃ M', gX10_full (nI (cnK k)) (nI (moK k)) (nI (tB (D8 F) L p)) M = some M' ∧ RFs (fuF fs told (lnA (D8 F) L p k)) M' ∧ (∀ j, j ≠ 17 → j ≠ 18 → M'.1 j = M.1 j) ∧ M'.2 = M.2 := by
  have hL := hT.2.1
  have hb := tB_le (D := D8 F) hp
  have hcn : cnK k < 121 := by unfold cnK; repeat' split
                               all_goals omega
  unfold gX10_full fuF
  rw [rA_nI hcn (by omega), h19 _ hcn, show (lnA (D8 F) L p k).1 = k from rfl, hc, Bool.true_and]
  simp only [Option.bind_some]
  by_cases c : told (cnK k) = nI (moK k)
  · rw [if_pos c, decide_eq_true c]
    obtain ⟨M', l1, l2, l3, l4⟩ := m_later hfs (f := 3) (by decide) hbd (by omega)
    rw [l1]
    exact ⟨M', rfl, l2, l3, l4⟩
  · rw [if_neg c, decide_eq_false c]
    exact ⟨M, rfl, hfs, fun _ _ _ => rfl, rfl⟩
/-- behind the line's word: the first number is at hand -/
theorem m_first (hT : MT F L M) (hp : p ≤ L) (hS : MS (D8 F) L p M) (hK : ¬ tK (D8 F) L p = 0) {k : Nat} {fs0 : Int32 × Int32} (hfs : RFs fs0 M) (hbd : BD fs0 (tB (D8 F) L (ps (D8 F) L p 1))) (hg : M.1 24 = 1) : ∃ M', gX10_token M = some M' ∧ CH F L p k fs0 M 0 M' ∧ M'.2.1 = M.2.1 ∧ M'.1 21 = M.1 21 ∧ M'.1 22 = M.1 22 ∧ M'.1 23 = M.1 23 := by
  obtain ⟨M', t1, t2, t3⟩ := m_tok hT (tE_le (D := D8 F) hp) hS.1
  refine ⟨M', t1, ⟨t2, t3.l, by rw [t3.2], ⟨?_, fun q => ?_⟩, hbd, ?_⟩, t3.2, ?_, ?_, ?_⟩
  · rw [t3.1 17 (by decide) (by decide) (by decide) (by decide)]; exact hfs.1
  · rw [t3.1 18 (by decide) (by decide) (by decide) (by decide)]; exact hfs.2 q
  · rw [t3.1 24 (by decide) (by decide) (by decide) (by decide)]; exact hg
  · exact t3.1 21 (by decide) (by decide) (by decide) (by decide)
  · exact t3.1 22 (by decide) (by decide) (by decide) (by decide)
  · exact t3.1 23 (by decide) (by decide) (by decide) (by decide)
theorem kpS_lo {told nums : Nat → Int32} {fr mo c : Nat} : ∀ i j, j < fr → kpS told fr mo c nums i j = told j
  | 0, _, _ => rfl
  | i + 1, j, h => by
    show upd (kpS told fr mo c nums i) (fr + mo * i + c) (nums i) j = _
    rw [pk_un (by omega)]; exact kpS_lo i j h
theorem krS_0 {told row : Nat → Int32} {wd c : Nat} : ∀ i, krS told wd c row i 0 = told 0
  | 0 => rfl
  | i + 1 => by
    show upd (krS told wd c row i) (1 + wd * c + i) (row i) 0 = _
    rw [pk_un (by omega)]; exact krS_0 i
/-- what is kept -/
theorem m_keep5 {told nums : Nat → Int32} {ct fr wd mo cN : Nat} (h19 : ∀ j, j < 121 → M.2.1 19 j = told j) (hr : ∀ i, i < wd → M.2.1 20 i = nums i) (hct : ct < 121) (hcf : ct < fr) (hwd : wd ≤ 3) (hix : fr + mo * wd ≤ 121) (hc : told ct = nI cN) (hcN : cN ≤ mo) (hmo : mo ≤ 40) : ∃ f, gX10_keep (nI ct) (nI fr) (nI wd) (nI mo) M = some (1, wR M 19 f) ∧ ∀ j, j < 121 → f j = kpT told ct fr wd mo nums j := by
  unfold gX10_keep kpT
  rw [rA_nI hct (by omega), h19 _ hct, hc, nI_clamp (by omega)]
  simp only [Option.bind_some]
  by_cases c : cN = mo
  · subst c
    rw [if_pos rfl]
    obtain ⟨u, hu⟩ : ∃ u, FU = u + 1 := ⟨19999, rfl⟩
    have e52 : gbX10_keep_52 (nI ct) (nI cN) (nI cN) M = some (1, wR M 19 (upd (M.2.1 19) ct (nI cN + 0))) := by
      unfold gbX10_keep_52
      rw [rA_nI hct (by omega), h19 _ hct, hc]
      simp only [Option.bind_some]
      rw [if_pos (nI_le (Nat.le_refl _) (by omega)), wA_nI hct (by omega)]; rfl
    refine ⟨upd (M.2.1 19) ct (nI cN + 0), ?_, fun j hj => ?_⟩
    · rw [hu]
      show gbX10_keep_11 _ _ _ _ _ _ _ _ = _
      unfold gbX10_keep_11
      rw [if_pos (nI_le (Nat.le_refl _) (by omega)), ite_self, e52]
    · by_cases e : j = ct
      · subst e; rw [pk_us, hc, show (0 : Int32) = nI 0 from rfl, nI_add]; rfl
      · rw [pk_un e]; exact h19 j hj
  · have hlt : cN < mo := by omega
    rw [if_neg (fun e => c ((nI_eq (by omega) (by omega)).mp e))]
    have key := lpR (fun u (q : Int32 × SV) => gfX10_keep_11 u (nI ct) (nI fr) (nI wd) (nI mo) (nI cN) q.1 q.2) (fun i q => q.1 = nI i ∧ ∃ f, q.2 = wR M 19 f ∧ ∀ j, j < 121 → f j = kpS told fr mo cN nums i j) (fun b => ∃ f, b = some (1, wR M 19 f) ∧ ∀ j, j < 121 → f j = upd (kpS told fr mo cN nums wd) ct (nI cN + 1) j) wd ?_ ?_ (0, M) ⟨rfl, M.2.1 19, wR_id.symm, h19⟩ FU (by rw [FUn]; omega)
    · exact key
    · rintro i hi ⟨l, M1⟩ ⟨e1, f, e2, e3⟩
      replace e1 : l = nI i := e1
      replace e2 : M1 = wR M 19 f := e2
      subst e1 e2
      left
      have hidx : fr + mo * i + cN < 121 := by
        have : mo * i + mo ≤ mo * wd := by rw [← Nat.mul_succ]; exact Nat.mul_le_mul_left _ hi
        omega
      refine ⟨(nI (i + 1), wR M 19 (upd f (fr + mo * i + cN) (nums i))), fun u => ?_, rfl, _, rfl, fun j hj => ?_⟩
      · show gbX10_keep_11 _ _ _ _ _ _ _ _ = _
        unfold gbX10_keep_11
        rw [if_neg (nI_ge hi (by omega)), if_neg (nI_ge hlt (by omega)), wR_ne (by decide), rA_nI (by omega) (by omega), hr i hi]
        simp only [Option.bind_some]
        rw [pk_mul, nI_add, nI_add, wA_nI hidx (by omega), wR_eq, wR_wR]
        simp only [Option.bind_some]
        rw [nmE, ← nI_succ]
      · show upd f (fr + mo * i + cN) (nums i) j = upd (kpS told fr mo cN nums i) (fr + mo * i + cN) (nums i) j
        exact upd_at rfl (e3 j hj)
    · rintro ⟨l, M1⟩ ⟨e1, f, e2, e3⟩
      replace e1 : l = nI wd := e1
      replace e2 : M1 = wR M 19 f := e2
      subst e1 e2
      refine ⟨some (1, wR M 19 (upd f ct (f ct + 1))), fun u => ?_, upd f ct (f ct + 1), rfl, fun j hj => ?_⟩
      · show gbX10_keep_11 _ _ _ _ _ _ _ _ = _
        unfold gbX10_keep_11 gbX10_keep_52
        rw [if_pos (nI_le (Nat.le_refl _) (by omega)), wR_eq, rA_nI hct (by omega)]
        simp only [Option.bind_some]
        rw [if_neg (nI_ge hlt (by omega)), wA_nI hct (by omega), wR_eq, wR_wR]; rfl
      · have hk : kpS told fr mo cN nums wd ct = nI cN := by
          rw [kpS_lo wd ct hcf, hc]
        by_cases e : j = ct
        · subst e; rw [pk_us, pk_us, e3 j hj, hk]
        · rw [pk_un e, pk_un e]; exact e3 j hj
theorem m_keepRow {told row : Nat → Int32} {wd mo cN : Nat} (h19 : ∀ j, j < 121 → M.2.1 19 j = told j) (hr : ∀ i, i < wd → M.2.1 20 i = row i) (hwd : wd ≤ 3) (hix : 1 + wd * mo ≤ 121) (hc : told 0 = nI cN) (hcN : cN ≤ mo) (hmo : mo ≤ 40) : ∃ f, gX10_keepRow (nI wd) (nI mo) M = some (wR M 19 f) ∧ ∀ j, j < 121 → f j = krT told wd mo row j := by
  unfold gX10_keepRow krT
  rw [show (0 : Int32) = nI 0 from rfl, rA_nI (by omega) (by omega), h19 _ (by omega), hc, nI_clamp (by omega)]
  simp only [Option.bind_some]
  by_cases c : cN = mo
  · subst c
    rw [if_pos rfl, if_pos rfl]
    exact ⟨M.2.1 19, by rw [wR_id], h19⟩
  · have hlt : cN < mo := by omega
    rw [if_neg (fun e => c ((nI_eq (by omega) (by omega)).mp e)), if_neg (fun e => c ((nI_eq (by omega) (by omega)).mp e))]
    have key := lpR (fun u (q : Int32 × SV) => gfX10_keepRow_16 u (nI wd) (nI cN) q.1 q.2) (fun i q => q.1 = nI i ∧ ∃ f, q.2 = wR M 19 f ∧ ∀ j, j < 121 → f j = krS told wd cN row i j) (fun b => ∃ f, b = some (wR M 19 f) ∧ ∀ j, j < 121 → f j = upd (krS told wd cN row wd) 0 (nI cN + 1) j) wd ?_ ?_ (nI 0, M) ⟨rfl, M.2.1 19, wR_id.symm, h19⟩ FU (by rw [FUn]; omega)
    · exact key
    · rintro i hi ⟨l, M1⟩ ⟨e1, f, e2, e3⟩
      replace e1 : l = nI i := e1
      replace e2 : M1 = wR M 19 f := e2
      subst e1 e2
      left
      have hidx : 1 + wd * cN + i < 121 := by
        have : wd * cN + wd ≤ wd * mo := by rw [← Nat.mul_succ]; exact Nat.mul_le_mul_left _ hlt
        omega
      refine ⟨(nI (i + 1), wR M 19 (upd f (1 + wd * cN + i) (row i))), fun u => ?_, rfl, _, rfl, fun j hj => ?_⟩
      · show gbX10_keepRow_16 _ _ _ _ _ = _
        unfold gbX10_keepRow_16
        rw [if_neg (nI_ge hi (by omega)), wR_ne (by decide), rA_nI (by omega) (by omega), hr i hi]
        simp only [Option.bind_some]
        rw [pk_mul, show (1 : Int32) = nI 1 from rfl, nI_add, nI_add, wA_nI hidx (by omega), wR_eq, wR_wR]
        simp only [Option.bind_some]
        rw [nmE, nI_add]
      · show upd f (1 + wd * cN + i) (row i) j = upd (krS told wd cN row i) (1 + wd * cN + i) (row i) j
        exact upd_at rfl (e3 j hj)
    · rintro ⟨l, M1⟩ ⟨e1, f, e2, e3⟩
      replace e1 : l = nI wd := e1
      replace e2 : M1 = wR M 19 f := e2
      subst e1 e2
      have h0 : f 0 = nI cN := by rw [e3 0 (by omega), krS_0, hc]
      refine ⟨some (wR M 19 (upd f 0 (f 0 + 1))), fun u => ?_, upd f 0 (f 0 + 1), rfl, fun j hj => ?_⟩
      · show gbX10_keepRow_16 _ _ _ _ _ = _
        unfold gbX10_keepRow_16
        rw [if_pos (nI_le (Nat.le_refl _) (by omega)), wR_eq, show (0 : Int32) = nI 0 from rfl, rA_nI (by omega) (by omega)]
        simp only [Option.bind_some]
        rw [wA_nI (by omega) (by omega), wR_eq, wR_wR]; rfl
      · rw [h0]
        exact upd_at rfl (e3 j hj)
theorem m_put {told : Nat → Int32} {g : Bool} (h24 : M.1 24 = if g then 1 else 0) (h19 : ∀ j, j < 121 → M.2.1 19 j = told j) {ix : Nat} (hi : ix < 121) (x : Int32) : ∃ f, gX10_put (nI ix) x M = some (1, wR M 19 f) ∧ ∀ j, j < 121 → f j = (if g then upd told ix x else told) j := by
  unfold gX10_put
  rw [h24]
  cases g
  · rw [if_pos (by decide)]
    exact ⟨M.2.1 19, by rw [wR_id], h19⟩
  · rw [if_neg (by decide), wA_nI hi (by omega)]
    exact ⟨_, rfl, fun j hj => upd_at rfl (h19 j hj)⟩
end ML
