/-! ===== text: lines, what they tell, and the reference's takes ===== -/
/-- a line: kind, place, numbers, their places -/
abbrev LiN : Type := Nat × Nat × (Nat → Int32) × (Nat → Nat)
/-- the first fault (none: 0), what is told, the farthest THING, LEFT, RIGHT one told of -/
abbrev ST : Type := (Int32 × Int32) × (Nat → Int32) × (Int32 × Int32 × Int32)
def arK (k : Nat) : Nat := [3, 2, 2, 2, 1, 1, 1, 3, 3, 2, 1, 1, 1, 0, 1, 1, 1, 2, 1, 1].getD k 0
def tpK (k i : Nat) : Int32 := sVal 1 (3 * k + i)
def loK (k : Nat) : Int32 := if k = 4 ∨ k = 5 then 1 else 0
def okN (k i : Nat) (n0 n : Int32) : Bool := decide (loK k ≤ n) && decide (n ≤ tpK k i) && !(decide ((k = 1 ∨ k = 2) ∧ i = 1) && decide (n = n0))
def adF (fs : Int32 × Int32) (f pl : Int32) : Int32 × Int32 := if fs.1 = 0 then (f, pl) else fs
def cnK (k : Nat) : Nat := if k = 2 then 1 else if k = 3 then 4 else if k = 4 then 2 else if k = 5 then 3 else 0
def moK (k : Nat) : Nat := if k = 0 then 8 else if k = 2 then 12 else if k < 6 then 4 else if k < 14 then 40 else if k < 17 then 8 else 16
/-- kinds that are counted -/
def ctK (k : Nat) : Bool := decide (k = 0) || decide (2 ≤ k ∧ k ≤ 5) || decide (9 ≤ k)
def fuF (fs : Int32 × Int32) (told : Nat → Int32) (ln : LiN) : Int32 × Int32 := if ctK ln.1 && decide (told (cnK ln.1) = nI (moK ln.1)) then adF fs 3 (nI ln.2.1) else fs
def nuF (ln : LiN) (fs : Int32 × Int32) : Nat → Int32 × Int32
  | 0 => fs
  | i + 1 => if okN ln.1 i (ln.2.2.1 0) (ln.2.2.1 i) then nuF ln fs i else adF (nuF ln fs i) 2 (nI (ln.2.2.2 i))
def gdN (ln : LiN) : Nat → Bool
  | 0 => true
  | i + 1 => gdN ln i && okN ln.1 i (ln.2.2.1 0) (ln.2.2.1 i)
def gdL (ln : LiN) : Bool := gdN ln (arK ln.1)
def fsL (s : ST) (ln : LiN) : Int32 × Int32 := nuF ln (fuF s.1 s.2.1 ln) (arK ln.1)
def kpS (told : Nat → Int32) (fr mo c : Nat) (nums : Nat → Int32) : Nat → Nat → Int32
  | 0 => told
  | i + 1 => upd (kpS told fr mo c nums i) (fr + mo * i + c) (nums i)
def kpT (told : Nat → Int32) (ct fr wd mo : Nat) (nums : Nat → Int32) : Nat → Int32 := if told ct = nI mo then told else upd (kpS told fr mo (told ct).toNatClampNeg nums wd) ct (told ct + 1)
def krS (told : Nat → Int32) (wd c : Nat) (row : Nat → Int32) : Nat → Nat → Int32
  | 0 => told
  | i + 1 => upd (krS told wd c row i) (1 + wd * c + i) (row i)
def krT (told : Nat → Int32) (wd mo : Nat) (row : Nat → Int32) : Nat → Int32 := if told 0 = nI mo then told else upd (krS told wd (told 0).toNatClampNeg row wd) 0 (told 0 + 1)
def rwK (k : Nat) (nums : Nat → Int32) : Nat → Int32 := fun i => if i = 0 then nI (k - wLo (wQ4 k)) else if k = 17 then (if i = 1 then nums 1 else nums 0) else if i ≤ arK k then nums (i - 1) else -1
def tbL (told : Nat → Int32) (ln : LiN) : Nat → Int32 :=
  if ln.1 = 0 then kpT told 0 6 3 8 ln.2.2.1
  else if ln.1 = 2 then kpT told 1 54 2 12 ln.2.2.1
  else if ln.1 = 3 then kpT told 4 46 2 4 ln.2.2.1
  else if ln.1 = 4 then kpT told 2 38 1 4 ln.2.2.1
  else if ln.1 = 5 then kpT told 3 42 1 4 ln.2.2.1
  else if ln.1 < 9 then (if gdL ln then
      (if ln.1 = 1 then upd told (30 + (ln.2.2.1 0).toNatClampNeg) (ln.2.2.1 1)
      else if ln.1 = 6 then upd told 5 (ln.2.2.1 0)
      else if ln.1 = 7 then upd told (78 + 4 * (ln.2.2.1 0).toNatClampNeg + (ln.2.2.1 1).toNatClampNeg) (ln.2.2.1 2)
      else upd told (94 + 4 * (ln.2.2.1 0).toNatClampNeg + (ln.2.2.1 1).toNatClampNeg) (ln.2.2.1 2)) else told)
  else if ln.1 < 14 then krT told 3 40 (rwK ln.1 ln.2.2.1)
  else if ln.1 < 17 then krT told 2 8 (rwK ln.1 ln.2.2.1)
  else krT told 3 16 (rwK ln.1 ln.2.2.1)
def faL (f : Int32 × Int32 × Int32) (ln : LiN) : Int32 × Int32 × Int32 :=
  if ln.1 = 1 ∨ ln.1 = 2 then (fX10_greater (fX10_greater f.1 (ln.2.2.1 0)) (ln.2.2.1 1), f.2)
  else if ln.1 = 3 ∨ ln.1 = 7 then (f.1, fX10_greater f.2.1 (ln.2.2.1 0), fX10_greater f.2.2 (ln.2.2.1 1))
  else if ln.1 = 8 then (f.1, fX10_greater f.2.1 (ln.2.2.1 1), fX10_greater f.2.2 (ln.2.2.1 0))
  else f
def stL (s : ST) (ln : LiN) : ST := (fsL s ln, tbL s.2.1 ln, faL s.2.2 ln)
/-- the reference holds such a state -/
def RFs (fs : Int32 × Int32) (M : SV) : Prop := M.1 17 = fs.1 ∧ (¬ fs.1 = 0 → M.1 18 = fs.2)
def BD (fs : Int32 × Int32) (b : Nat) : Prop := ¬ fs.1 = 0 → fs.2.toInt < (b : Int)
theorem BD.mo {fs : Int32 × Int32} {b b' : Nat} (h : BD fs b) (hb : b ≤ b') : BD fs b' := fun q => by have := h q; omega
theorem BD.ad {fs : Int32 × Int32} {b b' : Nat} (h : BD fs b) {f : Int32} (hb : b < b') (h31 : b < 2 ^ 31) : BD (adF fs f (nI b)) b' := fun q => by
  unfold adF at q ⊢
  by_cases c : fs.1 = 0
  · rw [if_pos c]; show (nI b).toInt < _; rw [nI_toInt h31]; omega
  · rw [if_neg c]; have := h c; omega
section LT
variable {M : SV}
theorem m_later {fs : Int32 × Int32} (h : RFs fs M) {f : Int32} (hf : ¬ f = 0) {b : Nat} (hb : BD fs b) (h31 : b < 2 ^ 31) : ∃ M', gX10_later f (nI b) M = some M' ∧ RFs (adF fs f (nI b)) M' ∧ (∀ k, k ≠ 17 → k ≠ 18 → M'.1 k = M.1 k) ∧ M'.2 = M.2 := by
  obtain ⟨h1, h2⟩ := h
  unfold gX10_later adF
  rw [h1]
  by_cases c : fs.1 = 0
  · rw [if_pos c, if_pos c]
    unfold gbX10_later_31
    exact ⟨_, rfl, ⟨rfl, fun _ => rfl⟩, fun k k1 k2 => by rw [wI_ne k2, wI_ne k1], rfl⟩
  · rw [if_neg c, if_neg c, h2 c]
    have := hb c
    rw [if_neg (show ¬ nI b < fs.2 by rw [fa_lt, nI_toInt h31]; omega), if_neg (show ¬ nI b = fs.2 from fun e => by rw [← e, nI_toInt h31] at this; omega)]
    exact ⟨M, rfl, ⟨h1, h2⟩, fun _ _ _ => rfl, rfl⟩
/-- while a line is read: ints 10, 12 .. 14, 16 .. 18, 21 .. 24, rows 19, 20 and the long alone differ -/
def FrL (M M' : SV) : Prop := (∀ k, k ≠ 10 → ¬ (12 ≤ k ∧ k ≤ 14) → ¬ (16 ≤ k ∧ k ≤ 18) → ¬ (21 ≤ k ∧ k ≤ 24) → M'.1 k = M.1 k) ∧ ∀ k, k ≠ 19 → k ≠ 20 → M'.2.1 k = M.2.1 k
theorem FrL.rf : FrL M M := ⟨fun _ _ _ _ _ => rfl, fun _ _ _ => rfl⟩
theorem FrL.tr {M1 M2 : SV} (h : FrL M M1) (h2 : FrL M1 M2) : FrL M M2 := ⟨fun k a b c d => (h2.1 k a b c d).trans (h.1 k a b c d), fun k a b => (h2.2 k a b).trans (h.2 k a b)⟩
theorem FrK.l {M' : SV} (h : FrK M M') : FrL M M' := ⟨fun k a b c d => h.1 k a (by omega) (by omega) (by omega), fun k _ _ => by rw [h.2]⟩
theorem FrL.wi {M1 : SV} (h : FrL M M1) {k : Nat} (hk : k = 10 ∨ (12 ≤ k ∧ k ≤ 14) ∨ (16 ≤ k ∧ k ≤ 18) ∨ (21 ≤ k ∧ k ≤ 24)) (x : Int32) : FrL M (wI M1 k x) := ⟨fun j a b c d => (wI_ne (by omega)).trans (h.1 j a b c d), h.2⟩
theorem FrL.wr_ {M1 : SV} (h : FrL M M1) {k : Nat} (hk : k = 19 ∨ k = 20) (f : Nat → Int32) : FrL M (wR M1 k f) := ⟨h.1, fun j a b => (wR_ne (by omega)).trans (h.2 j a b)⟩
theorem MT.tl {F : Nat → Int32} {L : Nat} (h : MT F L M) {M' : SV} (hf : FrL M M') : MT F L M' := ⟨by rw [hf.1 11 (by decide) (by omega) (by omega) (by omega)]; exact h.1, h.2.1, by rw [hf.2 1 (by decide) (by decide)]; exact h.2.2⟩
end LT
section TKE
variable {F : Nat → Int32} {L p : Nat} {M : SV}
/-- behind a number that is taken into read[r] -/
def TN (F : Nat → Int32) (L p r : Nat) (vd : Bool) (M M' : SV) : Prop := MS (D8 F) L (tE (D8 F) L p) M' ∧ FrL M M' ∧ M'.2.1 20 = upd (M.2.1 20) r (tV (D8 F) L p) ∧ M'.2.1 19 = M.2.1 19 ∧ M'.1 24 = (if vd then M.1 24 else 0) ∧ ∀ fs, RFs fs M → BD fs (tB (D8 F) L p) → RFs (if vd then fs else adF fs 2 (nI (tB (D8 F) L p))) M'
/-- a number that isn't there -/
def TF (F : Nat → Int32) (L p : Nat) (M M' : SV) : Prop := M'.1 16 = nI (tB (D8 F) L p) ∧ FrL M M'
theorem m_fails (hS : MS (D8 F) L p M) : gX10_fails M = some (0, wI M 16 (nI (tB (D8 F) L p))) ∧ TF F L p M (wI M 16 (nI (tB (D8 F) L p))) := by
  refine ⟨?_, wI_eq, FrL.rf.wi (by omega) _⟩
  unfold gX10_fails
  rw [nmE, hS.2.1]
def vdB (lo hi but v : Int32) : Bool := decide (lo ≤ v) && decide (v ≤ hi) && !decide (v = but)
theorem m_takeBut (hT : MT F L M) (hp : p ≤ L) (hS : MS (D8 F) L p M) {r : Nat} (hr : r < 4) (lo hi but : Int32) :
    (tK (D8 F) L p = 2 ∧ ∃ M', gX10_takeBut (nI r) lo hi but M = some (1, M') ∧ TN F L p r (vdB lo hi but (tV (D8 F) L p)) M M' ∧ M'.1 21 = M.1 21 ∧ M'.1 22 = M.1 22 ∧ M'.1 23 = M.1 23) ∨
    (¬ tK (D8 F) L p = 2 ∧ ∃ M', gX10_takeBut (nI r) lo hi but M = some (0, M') ∧ TF F L p M M') := by
  have hL := hT.2.1
  have hE := tE_le (D := D8 F) hp
  have hB := tB_le (D := D8 F) hp
  obtain ⟨f1, f2⟩ := m_fails hS
  obtain ⟨g10, g12, g13, g14, g15⟩ := hS
  unfold gX10_takeBut
  by_cases c : tK (D8 F) L p = 2
  · left
    refine ⟨c, ?_⟩
    rw [g13, c, if_pos (show nI (kM 2) = 3 from rfl), g14 c, wA_nI hr (by omega)]
    simp only [Option.bind_some]
    generalize hv : tV (D8 F) L p = v
    generalize hM1 : wR M 20 (upd (M.2.1 20) r v) = M1
    have F1 : FrL M M1 := by rw [← hM1]; exact FrL.rf.wr_ (by omega) _
    have i1 : M1.1 = M.1 := by rw [← hM1]; rfl
    have r20 : M1.2.1 20 = upd (M.2.1 20) r v := by rw [← hM1]; exact wR_eq
    have r19 : M1.2.1 19 = M.2.1 19 := by rw [← hM1]; exact wR_ne (by decide)
    have h14 : M1.1 14 = v := by rw [i1, g14 c, hv]
    rw [h14]
    have go : ∀ M2 : SV, FrL M M2 → M2.1 10 = M.1 10 → M2.2 = M1.2 → ∃ M3, gbX10_takeBut_58 M2 = some (1, M3) ∧ MS (D8 F) L (tE (D8 F) L p) M3 ∧ FrK M2 M3 := by
      intro M2 hF h10 h2
      obtain ⟨M3, t1, t2, t3⟩ := m_tok (M := M2) (hT.tl hF) hE (by rw [h10]; exact g10)
      refine ⟨M3, ?_, t2, t3⟩
      unfold gbX10_takeBut_58
      rw [t1]; rfl
    have good : vdB lo hi but v = true → ∃ M', gbX10_takeBut_58 M1 = some (1, M') ∧ TN F L p r (vdB lo hi but v) M M' ∧ M'.1 21 = M.1 21 ∧ M'.1 22 = M.1 22 ∧ M'.1 23 = M.1 23 := by
      intro hv1
      obtain ⟨M3, t1, t2, t3⟩ := go M1 F1 (by rw [i1]) rfl
      refine ⟨M3, t1, ⟨t2, F1.tr t3.l, by rw [t3.2, r20, hv], by rw [t3.2, r19], ?_, fun fs q1 q2 => ?_⟩, ?_, ?_, ?_⟩
      · rw [hv1, if_pos rfl, t3.1 24 (by decide) (by decide) (by decide) (by decide), i1]
      · rw [hv1, if_pos rfl]
        refine ⟨?_, fun q => ?_⟩
        · rw [t3.1 17 (by decide) (by decide) (by decide) (by decide), i1]; exact q1.1
        · rw [t3.1 18 (by decide) (by decide) (by decide) (by decide), i1]; exact q1.2 q
      · rw [t3.1 21 (by decide) (by decide) (by decide) (by decide), i1]
      · rw [t3.1 22 (by decide) (by decide) (by decide) (by decide), i1]
      · rw [t3.1 23 (by decide) (by decide) (by decide) (by decide), i1]
    have bad : vdB lo hi but v = false → ∃ M', gbX10_takeBut_44 M1 = some (1, M') ∧ TN F L p r (vdB lo hi but v) M M' ∧ M'.1 21 = M.1 21 ∧ M'.1 22 = M.1 22 ∧ M'.1 23 = M.1 23 := by
      intro hv1
      have e12 : M1.1 12 = nI (tB (D8 F) L p) := by rw [i1]; exact g12
      -- what later does, with or without a first fault
      have hl : ∃ M2, gX10_later 2 (nI (tB (D8 F) L p)) M1 = some M2 ∧ (∀ k, k ≠ 17 → k ≠ 18 → M2.1 k = M1.1 k) ∧ M2.2 = M1.2 ∧ ∀ fs, RFs fs M1 → BD fs (tB (D8 F) L p) → RFs (adF fs 2 (nI (tB (D8 F) L p))) M2 := by
        have ex : ∃ M2, gX10_later 2 (nI (tB (D8 F) L p)) M1 = some M2 ∧ (∀ k, k ≠ 17 → k ≠ 18 → M2.1 k = M1.1 k) ∧ M2.2 = M1.2 := by
          have w : ∀ k, k ≠ 17 → k ≠ 18 → (wI (wI M1 17 2) 18 (nI (tB (D8 F) L p))).1 k = M1.1 k := fun k k1 k2 => by rw [wI_ne k2, wI_ne k1]
          unfold gX10_later gbX10_later_31
          split
          · exact ⟨_, rfl, w, rfl⟩
          · split
            · exact ⟨_, rfl, w, rfl⟩
            · split
              · split
                · exact ⟨_, rfl, fun _ _ _ => rfl, rfl⟩
                · exact ⟨_, rfl, w, rfl⟩
              · exact ⟨_, rfl, fun _ _ _ => rfl, rfl⟩
        obtain ⟨M2, l1, l2, l3⟩ := ex
        refine ⟨M2, l1, l2, l3, fun fs q1 q2 => ?_⟩
        obtain ⟨M2', k1, k2, -⟩ := m_later q1 (f := 2) (by decide) q2 (by omega)
        rw [l1, Option.some.injEq] at k1
        rw [k1]; exact k2
      obtain ⟨M2, l1, l2, l3, l4⟩ := hl
      have F2 : FrL M (wI M2 24 0) := by
        refine FrL.wi ⟨fun k a b c d => ?_, fun k a b => ?_⟩ (by omega) 0
        · rw [l2 k (by omega) (by omega), i1]
        · rw [l3]; exact F1.2 k a b
      obtain ⟨M3, t1, t2, t3⟩ := go (wI M2 24 0) F2 (by rw [wI_ne (by decide), l2 10 (by decide) (by decide), i1]) l3
      have i3 : ∀ k, k ≠ 10 → k ≠ 12 → k ≠ 13 → k ≠ 14 → k ≠ 24 → k ≠ 17 → k ≠ 18 → M3.1 k = M.1 k := fun k a b c d e f g => by
        rw [t3.1 k a b c d, wI_ne e, l2 k f g, i1]
      refine ⟨M3, ?_, ⟨t2, F2.tr t3.l, ?_, ?_, ?_, fun fs q1 q2 => ?_⟩, i3 21 (by decide) (by decide) (by decide) (by decide) (by decide) (by decide) (by decide), i3 22 (by decide) (by decide) (by decide) (by decide) (by decide) (by decide) (by decide), i3 23 (by decide) (by decide) (by decide) (by decide) (by decide) (by decide) (by decide)⟩
      · unfold gbX10_takeBut_44
        rw [e12, l1]
        simp only [Option.bind_some]
        rw [nmE]; exact t1
      · rw [t3.2, show (wI M2 24 0).2.1 = M2.2.1 from rfl, l3, r20, hv]
      · rw [t3.2, show (wI M2 24 0).2.1 = M2.2.1 from rfl, l3, r19]
      · rw [hv1, if_neg (by decide), t3.1 24 (by decide) (by decide) (by decide) (by decide), wI_eq]
      · rw [hv1, if_neg (by decide)]
        obtain ⟨r1, r2⟩ := l4 fs ⟨by rw [i1]; exact q1.1, fun q => by rw [i1]; exact q1.2 q⟩ q2
        refine ⟨?_, fun q => ?_⟩
        · rw [t3.1 17 (by decide) (by decide) (by decide) (by decide), wI_ne (by decide)]; exact r1
        · rw [t3.1 18 (by decide) (by decide) (by decide) (by decide), wI_ne (by decide)]; exact r2 q
    by_cases q1 : lo ≤ v ∧ v ≤ hi
    · rw [m_in, if_pos q1, if_neg (show ¬ (1 : Int32) = 0 by decide)]
      by_cases q2 : v = but
      · rw [if_pos q2]
        exact bad (by unfold vdB; rw [decide_eq_true q2]; simp)
      · rw [if_neg q2]
        exact good (by unfold vdB; rw [decide_eq_true q1.1, decide_eq_true q1.2, decide_eq_false q2]; rfl)
    · rw [m_in, if_neg q1, if_pos rfl]
      exact bad (by
        unfold vdB
        by_cases q3 : lo ≤ v
        · have q4 : ¬ v ≤ hi := fun q5 => q1 ⟨q3, q5⟩
          rw [decide_eq_false q4]; simp
        · rw [decide_eq_false q3]; simp)
  · right
    refine ⟨c, wI M 16 (nI (tB (D8 F) L p)), ?_, f2⟩
    have h3 : ¬ M.1 13 = 3 := fun e => by
      rw [g13] at e
      unfold kM at e
      repeat' split at e
      all_goals first | exact absurd e (by decide) | exact c (by assumption)
    rw [if_neg h3, f1, b2_some, if_pos (Or.inl rfl)]
theorem m_take (hT : MT F L M) (hp : p ≤ L) (hS : MS (D8 F) L p M) {r : Nat} (hr : r < 4) (lo hi : Int32) :
    (tK (D8 F) L p = 2 ∧ ∃ M', gX10_take (nI r) lo hi M = some (1, M') ∧ TN F L p r (vdB lo hi (-1) (tV (D8 F) L p)) M M' ∧ M'.1 21 = M.1 21 ∧ M'.1 22 = M.1 22 ∧ M'.1 23 = M.1 23) ∨
    (¬ tK (D8 F) L p = 2 ∧ ∃ M', gX10_take (nI r) lo hi M = some (0, M') ∧ TF F L p M M') := by
  rcases m_takeBut hT hp hS hr lo hi (-1) with ⟨c, M', e1, e2⟩ | ⟨c, M', e1, e2⟩
  · refine Or.inl ⟨c, M', ?_, e2⟩
    unfold gX10_take
    rw [e1, b2_some, if_pos (Or.inr rfl)]
  · refine Or.inr ⟨c, M', ?_, e2⟩
    unfold gX10_take
    rw [e1, b2_some, if_pos (Or.inl rfl)]
theorem TN.wi {r : Nat} {vd : Bool} {M' : SV} (h : TN F L p r vd M M') {k : Nat} (hk : 21 ≤ k ∧ k ≤ 23) (x : Int32) : TN F L p r vd M (wI M' k x) := by
  obtain ⟨⟨a1, a2, a3, a4, a5⟩, h2, h3, h4, h5, h6⟩ := h
  refine ⟨⟨by rw [wI_ne (by omega)]; exact a1, by rw [wI_ne (by omega)]; exact a2, by rw [wI_ne (by omega)]; exact a3, fun q => by rw [wI_ne (by omega)]; exact a4 q, a5⟩, h2.wi (by omega) x, h3, h4, by rw [wI_ne (by omega)]; exact h5, fun fs q1 q2 => ?_⟩
  obtain ⟨r1, r2⟩ := h6 fs q1 q2
  exact ⟨by rw [wI_ne (by omega)]; exact r1, fun q => by rw [wI_ne (by omega)]; exact r2 q⟩
theorem m_takeThing (hT : MT F L M) (hp : p ≤ L) (hS : MS (D8 F) L p M) {r : Nat} (hr : r < 4) (but : Int32) :
    (tK (D8 F) L p = 2 ∧ ∃ M', gX10_takeThing (nI r) but M = some (1, M') ∧ TN F L p r (vdB 0 7 but (tV (D8 F) L p)) M M' ∧ M'.1 21 = fX10_greater (M.1 21) (tV (D8 F) L p) ∧ M'.1 22 = M.1 22 ∧ M'.1 23 = M.1 23) ∨
    (¬ tK (D8 F) L p = 2 ∧ ∃ M', gX10_takeThing (nI r) but M = some (0, M') ∧ TF F L p M M') := by
  rcases m_takeBut hT hp hS hr 0 7 but with ⟨c, M', e1, e2, e3, e4, e5⟩ | ⟨c, M', e1, e2⟩
  · refine Or.inl ⟨c, wI M' 21 (fX10_greater (M'.1 21) (tV (D8 F) L p)), ?_, e2.wi (by omega) _, by rw [wI_eq, e3], by rw [wI_ne (by decide)]; exact e4, by rw [wI_ne (by decide)]; exact e5⟩
    unfold gX10_takeThing
    rw [e1, b2_some, if_neg (by decide), e2.2.2.1, rA_nI hr (by omega), pk_us]
    rfl
  · refine Or.inr ⟨c, M', ?_, e2⟩
    unfold gX10_takeThing
    rw [e1, b2_some, if_pos rfl]
theorem m_takeLeft (hT : MT F L M) (hp : p ≤ L) (hS : MS (D8 F) L p M) {r : Nat} (hr : r < 4) :
    (tK (D8 F) L p = 2 ∧ ∃ M', gX10_takeLeft (nI r) M = some (1, M') ∧ TN F L p r (vdB 0 3 (-1) (tV (D8 F) L p)) M M' ∧ M'.1 21 = M.1 21 ∧ M'.1 22 = fX10_greater (M.1 22) (tV (D8 F) L p) ∧ M'.1 23 = M.1 23) ∨
    (¬ tK (D8 F) L p = 2 ∧ ∃ M', gX10_takeLeft (nI r) M = some (0, M') ∧ TF F L p M M') := by
  rcases m_take hT hp hS hr 0 3 with ⟨c, M', e1, e2, e3, e4, e5⟩ | ⟨c, M', e1, e2⟩
  · refine Or.inl ⟨c, wI M' 22 (fX10_greater (M'.1 22) (tV (D8 F) L p)), ?_, e2.wi (by omega) _, by rw [wI_ne (by decide)]; exact e3, by rw [wI_eq, e4], by rw [wI_ne (by decide)]; exact e5⟩
    unfold gX10_takeLeft
    rw [e1, b2_some, if_neg (by decide), e2.2.2.1, rA_nI hr (by omega), pk_us]
    rfl
  · refine Or.inr ⟨c, M', ?_, e2⟩
    unfold gX10_takeLeft
    rw [e1, b2_some, if_pos rfl]
theorem m_takeRight (hT : MT F L M) (hp : p ≤ L) (hS : MS (D8 F) L p M) {r : Nat} (hr : r < 4) :
    (tK (D8 F) L p = 2 ∧ ∃ M', gX10_takeRight (nI r) M = some (1, M') ∧ TN F L p r (vdB 0 3 (-1) (tV (D8 F) L p)) M M' ∧ M'.1 21 = M.1 21 ∧ M'.1 22 = M.1 22 ∧ M'.1 23 = fX10_greater (M.1 23) (tV (D8 F) L p)) ∨
    (¬ tK (D8 F) L p = 2 ∧ ∃ M', gX10_takeRight (nI r) M = some (0, M') ∧ TF F L p M M') := by
  rcases m_take hT hp hS hr 0 3 with ⟨c, M', e1, e2, e3, e4, e5⟩ | ⟨c, M', e1, e2⟩
  · refine Or.inl ⟨c, wI M' 23 (fX10_greater (M'.1 23) (tV (D8 F) L p)), ?_, e2.wi (by omega) _, by rw [wI_ne (by decide)]; exact e3, by rw [wI_ne (by decide)]; exact e4, by rw [wI_eq, e5]⟩
    unfold gX10_takeRight
    rw [e1, b2_some, if_neg (by decide), e2.2.2.1, rA_nI hr (by omega), pk_us]
    rfl
  · refine Or.inr ⟨c, M', ?_, e2⟩
    unfold gX10_takeRight
    rw [e1, b2_some, if_pos rfl]
end TKE
