/-! ===== quarrels: words, tell ===== -/
/-- what is told of QUARRELS, in both -/
def QW (M0 : SV) (i : Nat) (Y : SV) (m n : Nat) (M : SV) : Prop := M.1 50 = nI i ∧ M.2.1 9 = M0.2.1 9 ∧ (i < 2 ∧ n ≤ 16 ∧ m = 16) ∧ Y.1 3 = nI n ∧ M0.2.1 9 (49 * i) = nI n ∧ ∀ k, k < n → Y.2.1 0 k = M0.2.1 9 (49 * i + (1 + 3 * k)) ∧ (Y.2.1 0 k = 0 → Y.2.1 1 k = M0.2.1 9 (49 * i + (3 + 3 * k)) ∧ Y.2.1 2 k = M0.2.1 9 (49 * i + (2 + 3 * k)) ∧ rng (Y.2.1 1 k) 0 3) ∧ (¬ Y.2.1 0 k = 0 → Y.2.1 1 k = M0.2.1 9 (49 * i + (2 + 3 * k)))
section QW
variable {M0 : SV} {i : Nat} {Y : SV} {m n : Nat} {M : SV}
theorem QW.h50 (h : QW M0 i Y m n M) : M.1 50 = nI i := h.1
theorem QW.h9 (h : QW M0 i Y m n M) : M.2.1 9 = M0.2.1 9 := h.2.1
theorem QW.hi (h : QW M0 i Y m n M) : i < 2 := h.2.2.1.1
theorem QW.hn (h : QW M0 i Y m n M) : n ≤ 16 := h.2.2.1.2.1
theorem QW.hm (h : QW M0 i Y m n M) : m = 16 := h.2.2.1.2.2
theorem QW.e3 (h : QW M0 i Y m n M) : Y.1 3 = nI n := h.2.2.2.1
theorem QW.b0 (h : QW M0 i Y m n M) : M0.2.1 9 (49 * i) = nI n := h.2.2.2.2.1
theorem QW.by_ (h : QW M0 i Y m n M) : ∀ k, k < n → Y.2.1 0 k = M0.2.1 9 (49 * i + (1 + 3 * k)) ∧ (Y.2.1 0 k = 0 → Y.2.1 1 k = M0.2.1 9 (49 * i + (3 + 3 * k)) ∧ Y.2.1 2 k = M0.2.1 9 (49 * i + (2 + 3 * k)) ∧ rng (Y.2.1 1 k) 0 3) ∧ (¬ Y.2.1 0 k = 0 → Y.2.1 1 k = M0.2.1 9 (49 * i + (2 + 3 * k))) := h.2.2.2.2.2
theorem QW.to (h : QW M0 i Y m n M) {M' : SV} (h1 : M'.1 50 = M.1 50) (h2 : M'.2.1 9 = M.2.1 9) : QW M0 i Y m n M' := ⟨h1.trans h.1, h2.trans h.2.1, h.2.2⟩
theorem QW.facts (h : QW M0 i Y m n M) : gX10_facts M = some (nI n) := by
  unfold gX10_facts
  have hi := h.hi
  rw [h.h50, h.h9, show (49 : Int32) = nI 49 from rfl, pk_mul, rA_nI (by omega) (by omega), h.b0]; rfl
theorem QW.factOf (h : QW M0 i Y m n M) {k j : Nat} (hk : k < n) (hj : j < 3) : gX10_factOf (nI k) (nI j) M = some (M0.2.1 9 (49 * i + (1 + 3 * k + j))) := by
  have hi := h.hi
  have hn := h.hn
  unfold gX10_factOf
  rw [h.h50, h.h9, show (49 : Int32) = nI 49 from rfl, ix3, rA_nI (by omega) (by omega)]; rfl
theorem QW.f0 (h : QW M0 i Y m n M) {k : Nat} (hk : k < n) : gX10_factOf (nI k) 0 M = some (Y.2.1 0 k) := by
  have := h.factOf hk (j := 0) (by omega)
  rw [Nat.add_zero, ← (h.by_ k hk).1] at this; exact this
theorem QW.f1 (h : QW M0 i Y m n M) {k : Nat} (hk : k < n) : gX10_factOf (nI k) 1 M = some (if Y.2.1 0 k = 0 then Y.2.1 2 k else Y.2.1 1 k) := by
  have := h.factOf hk (j := 1) (by omega)
  rw [show 1 + 3 * k + 1 = 2 + 3 * k by omega] at this
  by_cases c : Y.2.1 0 k = 0
  · rw [if_pos c, ((h.by_ k hk).2.1 c).2.1]; exact this
  · rw [if_neg c, (h.by_ k hk).2.2 c]; exact this
theorem QW.f2 (h : QW M0 i Y m n M) {k : Nat} (hk : k < n) (c : Y.2.1 0 k = 0) : gX10_factOf (nI k) 2 M = some (Y.2.1 1 k) := by
  have := h.factOf hk (j := 2) (by omega)
  rw [show 1 + 3 * k + 2 = 3 + 3 * k by omega, ← ((h.by_ k hk).2.1 c).1] at this; exact this
/-- who looked at a THING, up to a fact -/
def lkP (Y : SV) (t : Int32) : Nat → Int32
  | 0 => 0
  | k + 1 => if Y.2.1 0 k = 0 ∧ Y.2.1 2 k = t then lkP Y t k ||| shl 1 (Y.2.1 1 k) else lkP Y t k
theorem QW.cl (h : QW M0 i Y m n M) (t : Int32) : gX3_lookersAt Y m t = some (lkP Y t n) := by
  have hn := h.hn
  have hm := h.hm
  refine lp (fun f (q : Int32 × Int32) => gfX3_lookersAt_4 Y m f t q.1 q.2) (fun i => (lkP Y t i, nI i)) _ n ?_ ?_ FU (by rw [FUn]; omega)
  · intro j hj f
    show gbX3_lookersAt_4 (gfX3_lookersAt_4 Y m f) Y m t (lkP Y t j) (nI j) = gfX3_lookersAt_4 Y m f t (lkP Y t (j + 1)) (nI (j + 1))
    unfold gbX3_lookersAt_4
    rw [h.e3, if_neg (nI_ge hj (by omega)), rA_nI (by omega) (by omega), rA_nI (by omega) (by omega), rA_nI (by omega) (by omega)]
    simp only [Option.bind_some, nm, lkP, ← nI_succ]
    by_cases c : Y.2.1 0 j = 0
    · by_cases d : Y.2.1 2 j = t
      · rw [if_pos c, if_pos d, if_pos ⟨c, d⟩]
      · rw [if_pos c, if_neg d, if_neg (fun q => d q.2)]
    · rw [if_neg c, if_neg (fun q => c q.1)]
  · intro f
    show gbX3_lookersAt_4 (gfX3_lookersAt_4 Y m f) Y m t (lkP Y t n) (nI n) = _
    unfold gbX3_lookersAt_4
    rw [h.e3, if_pos (nI_le (Nat.le_refl _) (by omega))]
theorem QW.ml (h : QW M0 i Y m n M) (t : Int32) : gX10_lookersOf t M = some (lkP Y t n) := by
  have hn := h.hn
  refine lp (fun f (q : Int32 × Int32) => gfX10_lookersOf_4 M f t q.1 q.2) (fun i => (lkP Y t i, nI i)) _ n ?_ ?_ FU (by rw [FUn]; omega)
  · intro j hj f
    show gbX10_lookersOf_4 (gfX10_lookersOf_4 M f) t (lkP Y t j) (nI j) M = gfX10_lookersOf_4 M f t (lkP Y t (j + 1)) (nI (j + 1))
    unfold gbX10_lookersOf_4
    rw [h.facts]
    simp only [Option.bind_some, nm]
    rw [if_neg (nI_ge hj (by omega)), h.f0 hj, h.f1 hj]
    simp only [Option.bind_some, lkP, or0, ← nI_succ]
    by_cases c : Y.2.1 0 j = 0
    · rw [if_pos c, if_pos c, h.f2 hj c]
      simp only [Option.bind_some]
      by_cases d : Y.2.1 2 j = t
      · rw [if_pos d, if_pos ⟨c, d⟩]
      · rw [if_neg d, if_neg (fun q => d q.2)]
    · rw [if_neg c, if_neg (fun q => c q.1)]
  · intro f
    show gbX10_lookersOf_4 (gfX10_lookersOf_4 M f) t (lkP Y t n) (nI n) M = _
    unfold gbX10_lookersOf_4
    rw [h.facts]
    simp only [Option.bind_some]
    rw [if_pos (nI_le (Nat.le_refl _) (by omega))]
theorem shim_e (l : Int32) : fX3_shimmering l = some (fm (fun s => decide (¬ (nI s &&& l) = 0)) 16) := by
  refine lp (fun f (q : Int32 × Int32) => fX3_shimmering_4 f l q.1 q.2) (fun i => (fm (fun s => decide (¬ (nI s &&& l) = 0)) i, nI i)) _ 16 ?_ ?_ FU (by rw [FUn]; omega)
  · intro j hj f
    show bX3_shimmering_4 (fX3_shimmering_4 f) l (fm (fun s => decide (¬ (nI s &&& l) = 0)) j) (nI j) = fX3_shimmering_4 f l (fm (fun s => decide (¬ (nI s &&& l) = 0)) (j + 1)) (nI (j + 1))
    unfold bX3_shimmering_4
    rw [if_neg (show ¬ (16 : Int32) ≤ nI j from nI_ge (b := 16) hj (by omega))]
    simp only [nm, fm, ← nI_succ]
    by_cases c : (nI j &&& l) = 0
    · simp [c]
    · simp [c]
  · intro f; rfl
theorem shim_bt (l : Int32) {s : Nat} (hs : s < 32) : bt (fm (fun s => decide (¬ (nI s &&& l) = 0)) 16) s = (decide (s < 16) && decide (¬ (nI s &&& l) = 0)) := fm_bt _ 16 (by omega) s hs
/-- fact k allows the set s -/
def okP (Y : SV) (n s k : Nat) : Bool := decide (Y.2.1 0 k = 0) || (decide (¬ (nI s &&& lkP Y (Y.2.1 1 k) n) = 0) == decide (Y.2.1 0 k = 1))
def fitQ (Y : SV) (n s : Nat) : Nat → Bool
  | 0 => true
  | k + 1 => fitQ Y n s k && okP Y n s k
/-- the sets that fit -/
def fsP (Y : SV) (n : Nat) : Int32 := fm (fun s => fitQ Y n s n) 16
theorem QW.cfit (h : QW M0 i Y m n M) : gX3_fitting Y m = some (fsP Y n) := by
  have hn := h.hn
  have hm := h.hm
  have key := lpR (fun f (q : Int32 × Int32) => gfX3_fitting_5 Y m f q.1 q.2) (fun j q => q.2 = nI j ∧ ∀ s, s < 32 → bt q.1 s = (decide (s < 16) && fitQ Y n s j)) (fun b => ∃ x, b = some x ∧ ∀ s, s < 32 → bt x s = (decide (s < 16) && fitQ Y n s n)) n ?_ ?_ (65535, 0) ⟨rfl, fun s hs => by rw [b_65535]; simp [fitQ]⟩ FU (by rw [FUn]; omega)
  · obtain ⟨x, e, hx⟩ := key
    show gfX3_fitting_5 Y m FU 65535 0 = _
    rw [e]
    congr 1
    apply b_ext
    intro s hs
    rw [hx s hs, fsP, fm_bt _ 16 (by omega) s hs]
  · rintro j hj ⟨x, l⟩ ⟨e, hx⟩
    have e : l = nI j := e
    have hx : ∀ s, s < 32 → bt x s = (decide (s < 16) && fitQ Y n s j) := hx
    subst e
    left
    by_cases c : Y.2.1 0 j = 0
    · refine ⟨(x, nI (j + 1)), fun f => ?_, rfl, fun s hs => ?_⟩
      · show gbX3_fitting_5 (gfX3_fitting_5 Y m f) Y m x (nI j) = _
        unfold gbX3_fitting_5
        rw [h.e3, if_neg (nI_ge hj (by omega)), rA_nI (by omega) (by omega)]
        simp only [Option.bind_some, nm, if_pos c, ← nI_succ]
      · show bt x s = _
        rw [hx s hs]; simp [fitQ, okP, c]
    · refine ⟨(if Y.2.1 0 j = 1 then x &&& fm (fun s => decide (¬ (nI s &&& lkP Y (Y.2.1 1 j) n) = 0)) 16 else x &&& (fm (fun s => decide (¬ (nI s &&& lkP Y (Y.2.1 1 j) n) = 0)) 16 ^^^ (-1)), nI (j + 1)), fun f => ?_, rfl, fun s hs => ?_⟩
      · show gbX3_fitting_5 (gfX3_fitting_5 Y m f) Y m x (nI j) = _
        unfold gbX3_fitting_5
        rw [h.e3, if_neg (nI_ge hj (by omega)), rA_nI (by omega) (by omega), rA_nI (by omega) (by omega)]
        simp only [Option.bind_some, nm, if_neg c, h.cl, shim_e, ← nI_succ]
        by_cases d : Y.2.1 0 j = 1
        · simp only [d, if_true]
        · simp only [d, if_false]
      · show bt (if Y.2.1 0 j = 1 then x &&& fm (fun s => decide (¬ (nI s &&& lkP Y (Y.2.1 1 j) n) = 0)) 16 else x &&& (fm (fun s => decide (¬ (nI s &&& lkP Y (Y.2.1 1 j) n) = 0)) 16 ^^^ (-1))) s = _
        by_cases d : Y.2.1 0 j = 1
        · rw [if_pos d, b_and, hx s hs, shim_bt _ hs]
          by_cases e : s < 16
          · simp [e, fitQ, okP, d]
          · simp [e]
        · rw [if_neg d, b_and, hx s hs, b_not _ hs, shim_bt _ hs]
          by_cases e : s < 16
          · simp [e, fitQ, okP, d, c]
          · simp [e]
  · rintro ⟨x, l⟩ ⟨e, hx⟩
    have e : l = nI n := e
    subst e
    refine ⟨some x, fun f => ?_, x, rfl, hx⟩
    show gbX3_fitting_5 (gfX3_fitting_5 Y m f) Y m x (nI n) = _
    unfold gbX3_fitting_5
    rw [h.e3, if_pos (nI_le (Nat.le_refl _) (by omega))]
theorem and_c (x y : Int32) : x &&& y = y &&& x := by apply b_ext; intro i hi; rw [b_and, b_and, Bool.and_comm]
theorem QW.mfit1 (h : QW M0 i Y m n M) (k7 : Int32 → SV → Option SV) {s : Nat} (hs : s < 16) : gfX10_findSets_17 k7 FU (nI s) 1 0 M = k7 (nI (s + 1)) (wI M 51 (if fitQ Y n s n then M.1 51 ||| shl 1 (nI s) else M.1 51)) := by
  have hn := h.hn
  refine lp (fun f (q : Int32 × Int32) => gfX10_findSets_17 k7 f (nI s) q.1 q.2 M) (fun j => (if fitQ Y n s j then 1 else 0, nI j)) _ n ?_ ?_ FU (by rw [FUn]; omega)
  · intro j hj f
    show gbX10_findSets_17 k7 (gfX10_findSets_17 k7 f) (nI s) (if fitQ Y n s j then 1 else 0) (nI j) M = gfX10_findSets_17 k7 f (nI s) (if fitQ Y n s (j + 1) then 1 else 0) (nI (j + 1)) M
    unfold gbX10_findSets_17 gbX10_findSets_62 gbX10_findSets_77
    rw [h.facts]
    simp only [Option.bind_some, nm]
    rw [if_neg (nI_ge hj (by omega)), h.f0 hj, h.f1 hj]
    simp only [Option.bind_some, h.ml, ← nI_succ, and_c _ (nI s)]
    have h10 : ¬ (1 : Int32) = 0 := by decide
    have h01 : ¬ (0 : Int32) = 1 := by decide
    cases hf : fitQ Y n s j
    · simp [fitQ, hf]
    · by_cases c : Y.2.1 0 j = 0
      · simp [fitQ, hf, okP, c]
      · by_cases d : (nI s &&& lkP Y (Y.2.1 1 j) n) = 0
        · by_cases e : Y.2.1 0 j = 1
          · simp [fitQ, hf, okP, d, e]
          · simp [fitQ, hf, okP, c, d, e]
        · by_cases e : Y.2.1 0 j = 1
          · simp [fitQ, hf, okP, d, e]
          · simp [fitQ, hf, okP, c, d, e]
  · intro f
    show gbX10_findSets_17 k7 (gfX10_findSets_17 k7 f) (nI s) (if fitQ Y n s n then 1 else 0) (nI n) M = _
    unfold gbX10_findSets_17
    rw [h.facts]
    simp only [Option.bind_some, nm]
    rw [if_pos (nI_le (Nat.le_refl _) (by omega))]
    simp only [or0, ← nI_succ]
    cases hf : fitQ Y n s n
    · simp
    · simp
theorem QW.mfit (h : QW M0 i Y m n M) : ∃ M', gX10_findSets M = some M' ∧ QW M0 i Y m n M' ∧ M'.1 51 = fsP Y n := by
  have key := lpR (fun f (q : Int32 × SV) => gfX10_findSets_7 f q.1 q.2) (fun s q => q.1 = nI s ∧ QW M0 i Y m n q.2 ∧ q.2.1 51 = fm (fun s => fitQ Y n s n) s) (fun b => ∃ M', b = some M' ∧ QW M0 i Y m n M' ∧ M'.1 51 = fsP Y n) 16 ?_ ?_ (0, wI M 51 0) ⟨rfl, h.to rfl rfl, rfl⟩ FU (by rw [FUn]; omega)
  · exact key
  · rintro s hs ⟨l, M1⟩ ⟨e, h1, h2⟩
    have e : l = nI s := e
    have h1 : QW M0 i Y m n M1 := h1
    have h2 : M1.1 51 = fm (fun s => fitQ Y n s n) s := h2
    subst e
    left
    refine ⟨(nI (s + 1), wI M1 51 (if fitQ Y n s n then M1.1 51 ||| shl 1 (nI s) else M1.1 51)), fun f => ?_, rfl, h1.to rfl rfl, ?_⟩
    · show gbX10_findSets_7 (gfX10_findSets_7 f) (nI s) M1 = _
      unfold gbX10_findSets_7
      rw [if_neg (show ¬ (16 : Int32) ≤ nI s from nI_ge (b := 16) hs (by omega)), h1.mfit1 _ hs]
    · show (if fitQ Y n s n then M1.1 51 ||| shl 1 (nI s) else M1.1 51) = _
      rw [h2]; rfl
  · rintro ⟨l, M1⟩ ⟨e, h1, h2⟩
    have e : l = nI 16 := e
    subst e
    exact ⟨some M1, fun f => rfl, M1, rfl, h1, h2⟩
end QW
theorem fsP_bt (Y : SV) (n : Nat) {s : Nat} (hs : s < 32) : bt (fsP Y n) s = (decide (s < 16) && fitQ Y n s n) := fm_bt _ 16 (by omega) s hs
theorem fsP_16 (Y : SV) (n : Nat) : ∀ s, 16 ≤ s → s < 32 → bt (fsP Y n) s = false := fun s h1 h2 => by rw [fsP_bt Y n h2]; simp [Nat.not_lt.mpr h1]
theorem setAt_both (F k : Int32) (M : SV) (h : M.1 51 = F) : ∃ r, fX3_setAt F k = some r ∧ gX10_setAt k M = some r := by
  have key := lpT (fun f (q : Int32 × Int32) => fX3_setAt_4 f F q.1 q.2) (fun f (q : Int32 × Int32) => gfX10_setAt_4 M f k q.1 q.2) (fun j s t => s.2 = nI j ∧ t.2 = nI j ∧ s.1 = k - t.1) (fun b d => ∃ r, b = some r ∧ d = some r) 16 ?_ ?_ (k, 0) (0, 0) ⟨rfl, rfl, (Int32.sub_zero k).symm⟩ FU FU (by rw [FUn]; omega) (by rw [FUn]; omega)
  · exact key
  · rintro j hj ⟨p, l⟩ ⟨q, l'⟩ ⟨e1, e2, e3⟩
    have e1 : l = nI j := e1
    have e2 : l' = nI j := e2
    have e3 : p = k - q := e3
    subst e1 e2 e3
    have hg : ¬ (16 : Int32) ≤ nI j := nI_ge (b := 16) hj (by omega)
    cases hb : bt F j
    · left
      refine ⟨(k - q, nI (j + 1)), (q, nI (j + 1)), fun f => ?_, fun f => ?_, rfl, rfl, rfl⟩
      · show bX3_setAt_4 _ _ _ _ = _
        unfold bX3_setAt_4
        rw [if_neg hg, if_pos ((c_has0 F (by omega)).mpr hb), nI_succ]; rfl
      · show gbX10_setAt_4 _ _ _ _ _ = _
        unfold gbX10_setAt_4
        rw [if_neg hg, h, if_pos ((m_has0 F (by omega)).mpr hb), nI_succ]; rfl
    · have n1 : ¬ fX9_hasBit F (nI j) = 0 := fun e => by rw [(c_has0 F (by omega)).mp e] at hb; cases hb
      have n2 : ¬ fX10_has F (nI j) = 0 := fun e => by rw [(m_has0 F (by omega)).mp e] at hb; cases hb
      by_cases c : q = k
      · right
        refine ⟨some (nI j), some (nI j), fun f => ?_, fun f => ?_, _, rfl, rfl⟩
        · show bX3_setAt_4 _ _ _ _ = _
          unfold bX3_setAt_4
          rw [if_neg hg, if_neg n1, if_pos (by rw [c, Int32.sub_self])]
        · show gbX10_setAt_4 _ _ _ _ _ = _
          unfold gbX10_setAt_4
          rw [if_neg hg, h, if_neg n2, if_pos c]
      · left
        refine ⟨(k - (q + 1), nI (j + 1)), (q + 1, nI (j + 1)), fun f => ?_, fun f => ?_, rfl, rfl, rfl⟩
        · show bX3_setAt_4 _ _ _ _ = _
          unfold bX3_setAt_4
          rw [if_neg hg, if_neg n1, if_neg (fun e => c (by have := congrArg (· + q) e; simpa using this.symm)), nI_succ]
          simp only [nm]
          rw [show k - q + -1 = k - (q + 1) by rw [Int32.sub_eq_add_neg, Int32.sub_eq_add_neg, Int32.neg_add, Int32.sub_eq_add_neg, Int32.add_assoc]]
        · show gbX10_setAt_4 _ _ _ _ _ = _
          unfold gbX10_setAt_4
          rw [if_neg hg, h, if_neg n2, if_neg c, nI_succ]; rfl
  · rintro ⟨p, l⟩ ⟨q, l'⟩ ⟨e1, e2, e3⟩
    have e1 : l = nI 16 := e1
    have e2 : l' = nI 16 := e2
    subst e1 e2
    exact ⟨some (-2), some (-2), fun f => rfl, fun f => rfl, _, rfl, rfl⟩
theorem and15 {a : Nat} (h : a < 16) : nI a &&& 15 = nI a := (by decide +kernel : ∀ a, a < 16 → nI a &&& 15 = nI a) a h
theorem and_lt {a b : Nat} (h : a < 16) : a &&& b < 16 := Nat.lt_of_le_of_lt Nat.and_le_left h
/-- what is in all, what is least -/
theorem sets_both (F : Int32) (hF : ∀ s, 16 ≤ s → s < 32 → bt F s = false) (M : SV) (h : M.1 51 = F) : (∃ r, fX3_inAll F = some r ∧ gX10_ofSets 1 M = some r) ∧ ∃ r, fX3_fewest F = some r ∧ gX10_ofSets 0 M = some r := by
  have hg : ∀ j, j < 16 → ¬ (16 : Int32) ≤ nI j := fun j hj => nI_ge (b := 16) hj (by omega)
  have bcs : ∀ j, j < 16 → fJ6_bitCount_0f7a4 (nI j) = nI (fa_cnt (bt (nI j)) 8) := fun j hj => bc_8 (fun i h1 h2 => by rw [bt_nI _ h2]; exact Nat.testBit_lt_two_pow (Nat.lt_of_lt_of_le hj (Nat.pow_le_pow_right (n := 2) (by omega) (show 4 ≤ i by omega))))
  have b8 : ∀ j, fa_cnt (bt (nI j)) 8 ≤ 8 := fun j => fa_cnt_le _ _
  have mst : ∀ (l1 a l : Int32) (j : Nat), j < 16 → ∀ f, gfX10_ofSets_10 M (f + 1) l1 a l (nI j) = (if bt F j then gfX10_ofSets_10 M f l1 (a &&& nI j) (fX10_lesser l (nI (fa_cnt (bt (nI j)) 8))) (nI (j + 1)) else gfX10_ofSets_10 M f l1 (a &&& 15) l (nI (j + 1))) := by
    intro l1 a l j hj f
    show gbX10_ofSets_10 _ _ _ _ _ _ = _
    unfold gbX10_ofSets_10 gbX10_ofSets_37
    rw [if_neg (hg j hj), h, m_ones]
    simp only [nm, Option.bind_some, ← nI_succ]
    cases hb : bt F j
    · have := (m_has0 F (show j < 32 by omega)).mpr hb
      simp [this]
    · have : ¬ fX10_has F (nI j) = 0 := fun e => by rw [(m_has0 F (by omega)).mp e] at hb; cases hb
      simp [this]
  by_cases hz : F = 0
  · have fend : ∀ l1, gX10_ofSets l1 M = some (-1) := by
      intro l1
      refine lpR (fun f (q : Int32 × Int32 × Int32) => gfX10_ofSets_10 M f l1 q.1 q.2.1 q.2.2) (fun j q => q.2.2 = nI j) (fun b => b = some (-1)) 16 ?_ ?_ (15, 1000000, 0) rfl FU (by rw [FUn]; omega)
      · rintro j hj ⟨a, l, c⟩ e
        have e : c = nI j := e
        subst e
        left
        refine ⟨(a &&& 15, l, nI (j + 1)), fun f => ?_, rfl⟩
        show gfX10_ofSets_10 M (f + 1) l1 a l (nI j) = _
        rw [mst l1 a l j hj f, hz, b_0]; rfl
      · rintro ⟨a, l, c⟩ e
        have e : c = nI 16 := e
        subst e
        refine ⟨some (-1), fun f => ?_, rfl⟩
        show gbX10_ofSets_10 _ _ _ _ _ _ = _
        unfold gbX10_ofSets_10
        rw [if_pos (show (16 : Int32) ≤ nI 16 by decide), h, if_pos hz]
    refine ⟨⟨-1, ?_, fend 1⟩, ⟨-1, ?_, fend 0⟩⟩
    · unfold fX3_inAll
      rw [if_pos hz]
      refine lp (fun f (q : Int32) => fX3_inAll_13 f F (-1) q) (fun j => nI j) _ 16 ?_ (fun f => rfl) FU (by rw [FUn]; omega)
      intro j hj f
      show bX3_inAll_13 _ _ _ _ = _
      unfold bX3_inAll_13
      rw [if_neg (hg j hj), if_pos ((c_has0 F (by omega)).mpr (by rw [hz, b_0])), nI_succ]; rfl
    · refine lp (fun f (q : Int32) => fX3_fewest_4 f F (-1) q) (fun j => nI j) _ 16 ?_ (fun f => rfl) FU (by rw [FUn]; omega)
      intro j hj f
      show bX3_fewest_4 _ _ _ _ = _
      unfold bX3_fewest_4
      rw [if_neg (hg j hj), if_pos ((c_has0 F (by omega)).mpr (by rw [hz, b_0])), nI_succ]; rfl
  · constructor
    · have key := lpT (fun f (q : Int32 × Int32) => fX3_inAll_13 f F q.1 q.2) (fun f (q : Int32 × Int32 × Int32) => gfX10_ofSets_10 M f 1 q.1 q.2.1 q.2.2) (fun j s t => s.2 = nI j ∧ t.2.2 = nI j ∧ s.1 = t.1 ∧ ∃ a, a < 16 ∧ s.1 = nI a) (fun b d => ∃ r, b = some r ∧ d = some r) 16 ?_ ?_ (15, 0) (15, 1000000, 0) ⟨rfl, rfl, rfl, 15, by omega, rfl⟩ FU FU (by rw [FUn]; omega) (by rw [FUn]; omega)
      · obtain ⟨r, r1, r2⟩ := key
        refine ⟨r, ?_, r2⟩
        unfold fX3_inAll
        rw [if_neg hz]; exact r1
      · rintro j hj ⟨a, c⟩ ⟨a', l', c'⟩ ⟨e1, e2, e3, n, hn, e4⟩
        have e1 : c = nI j := e1
        have e2 : c' = nI j := e2
        have e3 : a = a' := e3
        have e4 : a = nI n := e4
        subst e1 e2 e3 e4
        left
        cases hb : bt F j
        · refine ⟨(nI n, nI (j + 1)), (nI n, l', nI (j + 1)), fun f => ?_, fun f => ?_, rfl, rfl, rfl, n, hn, rfl⟩
          · show bX3_inAll_13 _ _ _ _ = _
            unfold bX3_inAll_13
            rw [if_neg (hg j hj), if_pos ((c_has0 F (by omega)).mpr hb), nI_succ]; rfl
          · show gfX10_ofSets_10 M (f + 1) 1 (nI n) l' (nI j) = _
            rw [mst _ _ _ j hj f, hb, and15 hn]; rfl
        · refine ⟨(nI (n &&& j), nI (j + 1)), (nI (n &&& j), fX10_lesser l' (nI (fa_cnt (bt (nI j)) 8)), nI (j + 1)), fun f => ?_, fun f => ?_, rfl, rfl, rfl, n &&& j, and_lt hn, rfl⟩
          · show bX3_inAll_13 _ _ _ _ = _
            unfold bX3_inAll_13
            rw [if_neg (hg j hj), if_neg (fun e => by rw [(c_has0 F (by omega)).mp e] at hb; cases hb), nI_succ, and_nI]; rfl
          · show gfX10_ofSets_10 M (f + 1) 1 (nI n) l' (nI j) = _
            rw [mst _ _ _ j hj f, hb, and_nI]; rfl
      · rintro ⟨a, c⟩ ⟨a', l', c'⟩ ⟨e1, e2, e3, n, hn, e4⟩
        have e1 : c = nI 16 := e1
        have e2 : c' = nI 16 := e2
        have e3 : a = a' := e3
        subst e1 e2 e3
        refine ⟨some a, some a, fun f => rfl, fun f => ?_, a, rfl, rfl⟩
        show gbX10_ofSets_10 _ _ _ _ _ _ = _
        unfold gbX10_ofSets_10
        rw [if_pos (show (16 : Int32) ≤ nI 16 by decide), h, if_neg hz, if_neg (show ¬ (1 : Int32) = 0 by decide)]
    · have hex : ∃ s, s < 16 ∧ bt F s = true := by
        refine Classical.byContradiction (fun hn => hz (eq0_bt.mpr (fun s hs => ?_)))
        by_cases h2 : s < 16
        · cases hb : bt F s
          · rfl
          · exact absurd ⟨s, h2, hb⟩ hn
        · exact hF s (by omega) hs
      have key := lpT (fun f (q : Int32 × Int32) => fX3_fewest_4 f F q.1 q.2) (fun f (q : Int32 × Int32 × Int32) => gfX10_ofSets_10 M f 0 q.1 q.2.1 q.2.2) (fun j s t => s.2 = nI j ∧ t.2.2 = nI j ∧ ((s.1 = t.2.1 ∧ ∃ a, a < 16 ∧ s.1 = nI a) ∨ (s.1 = -1 ∧ t.2.1 = 1000000 ∧ ∀ s, s < j → bt F s = false))) (fun b d => ∃ r, b = some r ∧ d = some r) 16 ?_ ?_ (-1, 0) (15, 1000000, 0) ⟨rfl, rfl, Or.inr ⟨rfl, rfl, fun s hs => by omega⟩⟩ FU FU (by rw [FUn]; omega) (by rw [FUn]; omega)
      · exact key
      · rintro j hj ⟨p, c⟩ ⟨a', p', c'⟩ ⟨e1, e2, e3⟩
        have e1 : c = nI j := e1
        have e2 : c' = nI j := e2
        subst e1 e2
        left
        cases hb : bt F j
        · refine ⟨(p, nI (j + 1)), (a' &&& 15, p', nI (j + 1)), fun f => ?_, fun f => ?_, rfl, rfl, ?_⟩
          · show bX3_fewest_4 _ _ _ _ = _
            unfold bX3_fewest_4
            rw [if_neg (hg j hj), if_pos ((c_has0 F (by omega)).mpr hb), nI_succ]; rfl
          · show gfX10_ofSets_10 M (f + 1) 0 a' p' (nI j) = _
            rw [mst _ _ _ j hj f, hb]; rfl
          · rcases e3 with e3 | ⟨e3, e4, e5⟩
            · exact Or.inl e3
            · refine Or.inr ⟨e3, e4, fun s hs => ?_⟩
              by_cases q : s = j
              · rw [q]; exact hb
              · exact e5 s (by omega)
        · have n1 : ¬ fX9_hasBit F (nI j) = 0 := fun e => by rw [(c_has0 F (by omega)).mp e] at hb; cases hb
          have hm : ∀ f, gfX10_ofSets_10 M (f + 1) 0 a' p' (nI j) = gfX10_ofSets_10 M f 0 (a' &&& nI j) (fX10_lesser p' (nI (fa_cnt (bt (nI j)) 8))) (nI (j + 1)) := fun f => by rw [mst _ _ _ j hj f, hb]; rfl
          have hb8 := b8 j
          rcases e3 with ⟨e3, n, hn, e4⟩ | ⟨e3, e4, e5⟩
          · have e3 : p = p' := e3
            have e4 : p = nI n := e4
            subst e3 e4
            by_cases c : n ≤ fa_cnt (bt (nI j)) 8
            · have c' : nI n ≤ nI (fa_cnt (bt (nI j)) 8) := nI_le c (by omega)
              rw [les_l c'] at hm
              refine ⟨(nI n, nI (j + 1)), (a' &&& nI j, nI n, nI (j + 1)), fun f => ?_, hm, rfl, rfl, Or.inl ⟨rfl, n, hn, rfl⟩⟩
              show bX3_fewest_4 _ _ _ _ = _
              unfold bX3_fewest_4
              rw [if_neg (hg j hj), if_neg n1, if_neg (fun e => by rw [fa_eq, nI_toInt (by omega)] at e; have : (-1 : Int32).toInt = -1 := rfl; omega), bcs j hj, if_pos c', nI_succ]; rfl
            · have c' : ¬ nI n ≤ nI (fa_cnt (bt (nI j)) 8) := nI_ge (by omega) (by omega)
              rw [les_r c'] at hm
              refine ⟨(nI (fa_cnt (bt (nI j)) 8), nI (j + 1)), (a' &&& nI j, nI (fa_cnt (bt (nI j)) 8), nI (j + 1)), fun f => ?_, hm, rfl, rfl, Or.inl ⟨rfl, _, by omega, rfl⟩⟩
              show bX3_fewest_4 _ _ _ _ = _
              unfold bX3_fewest_4 bX3_fewest_31
              rw [if_neg (hg j hj), if_neg n1, if_neg (fun e => by rw [fa_eq, nI_toInt (by omega)] at e; have : (-1 : Int32).toInt = -1 := rfl; omega), bcs j hj, if_neg c', nI_succ]; rfl
          · have e3 : p = -1 := e3
            have e4 : p' = 1000000 := e4
            subst e3 e4
            have c' : ¬ (1000000 : Int32) ≤ nI (fa_cnt (bt (nI j)) 8) := nI_ge (b := 1000000) (by omega) (by omega)
            rw [les_r c'] at hm
            refine ⟨(nI (fa_cnt (bt (nI j)) 8), nI (j + 1)), (a' &&& nI j, nI (fa_cnt (bt (nI j)) 8), nI (j + 1)), fun f => ?_, hm, rfl, rfl, Or.inl ⟨rfl, _, by omega, rfl⟩⟩
            show bX3_fewest_4 _ _ _ _ = _
            unfold bX3_fewest_4 bX3_fewest_31
            rw [if_neg (hg j hj), if_neg n1, if_pos rfl, bcs j hj, nI_succ]; rfl
      · rintro ⟨p, c⟩ ⟨a', p', c'⟩ ⟨e1, e2, e3⟩
        have e1 : c = nI 16 := e1
        have e2 : c' = nI 16 := e2
        subst e1 e2
        rcases e3 with ⟨e3, -⟩ | ⟨-, -, e5⟩
        · have e3 : p = p' := e3
          subst e3
          refine ⟨some p, some p, fun f => rfl, fun f => ?_, p, rfl, rfl⟩
          show gbX10_ofSets_10 _ _ _ _ _ _ = _
          unfold gbX10_ofSets_10
          rw [if_pos (show (16 : Int32) ≤ nI 16 by decide), h, if_neg hz, if_pos rfl]
        · obtain ⟨s, hs, hb⟩ := hex
          rw [e5 s hs] at hb; cases hb
theorem qw_of {M : SV} {i : Nat} {Y : SV} {m : Nat} (hi : i < 2) (h : RR 3 Y m (blk M 9 49 0 i)) : ∃ n, QW M i Y m n (wI (wI M 0 0) 50 (nI i)) := by
  obtain ⟨r1, r2, r3, -, -, r4⟩ := h
  obtain ⟨r5, r6⟩ := r4 rfl
  have b0 := blk0 M 9 49 i 0 (by omega)
  rw [Nat.add_zero] at b0
  obtain ⟨n, hn, en⟩ := vp_in_of (x := blk M 9 49 0 i 0) (n := 17) (vp_in_iff.mpr ⟨r2, by omega⟩) (by decide)
  have hi2 : (nI n).toInt = n := nI_toInt (by omega)
  refine ⟨n, rfl, rfl, ⟨hi, by omega, r5⟩, by rw [r1, en], by rw [← b0, en], fun k hk => ?_⟩
  obtain ⟨y1, y2, y3, y4, y5⟩ := r6 k (by rw [en, hi2]; omega)
  rw [← blk0 M 9 49 i _ (by omega), ← blk0 M 9 49 i _ (by omega), ← blk0 M 9 49 i _ (by omega), y1]
  exact ⟨rfl, fun c => ⟨(y4 c).1, (y4 c).2.1, by rw [(y4 c).1]; exact (y4 c).2.2⟩, fun c => (y5 c).1⟩
theorem qu_words (Wc : WC) : Qu_words Wc := by
  intro z M ρM hI a1 a2
  have hsk := hI.2.2.2.1
  unfold fX9_words gX10_words
  rw [if_pos (x9_o hsk), x9_g (k := 0) (x := 16) hsk rfl]
  simp only [Option.bind_some, nm, gX10_hasFight]
  rcases rows_cases hI (q := 3) (by omega) (by omega) a1 with ⟨i, b, ρb, Y, hi, rfl, h1, h2, h3, h4, h5⟩ | ⟨h1, h5⟩
  · have h1' : fX7_rowsAt 16 3 (nI i) z = some (some b) := h1
    have h5' : gX10_is 3 (nI i) (wI (wI M 0 0) 50 (nI i)) = some 1 := h5 _ rfl
    rw [h1', h5']
    obtain ⟨n, hq⟩ := qw_of hi h4
    obtain ⟨M', m1, m2, m3⟩ := hq.mfit
    simp only [Option.bind_some, nq, b2, or_true, if_true, show ¬ ((1 : Int32) = 0) by decide, if_false, eX3_fitting h3, hq.cfit, m1]
    have hF := fsP_16 Y n
    obtain ⟨⟨r1, u1, v1⟩, ⟨r2, u2, v2⟩⟩ := sets_both (fsP Y n) hF M' m3
    unfold gbX10_words_83
    by_cases d0 : a2 = 0
    · subst d0
      rw [if_pos rfl, if_pos (by decide), if_pos rfl, m_many, m3, bc_16 hF]
      exact ⟨_, _, rfl, rfl⟩
    by_cases d1 : a2 = 1
    · subst d1
      simp only [show ¬ ((1 : Int32) = 0) by decide, if_false, if_true, show (1 : Int32) < 10 by decide, u1, v1, Option.bind_some]
      exact ⟨_, _, rfl, rfl⟩
    by_cases d2 : a2 = 2
    · subst d2
      simp only [show ¬ ((2 : Int32) = 0) by decide, show ¬ ((2 : Int32) = 1) by decide, if_false, if_true, show (2 : Int32) < 10 by decide, u2, v2, Option.bind_some]
      exact ⟨_, _, rfl, rfl⟩
    simp only [d0, d1, d2, if_false]
    by_cases d3 : (10 : Int32) ≤ a2
    · have d3' : ¬ a2 < 10 := by rw [fa_le] at d3; rw [fa_lt]; omega
      obtain ⟨r, u, v⟩ := setAt_both (fsP Y n) (a2 - 10) M' m3
      rw [if_pos d3, if_neg d3', u, v]
      exact ⟨_, _, rfl, rfl⟩
    · have d3' : a2 < 10 := by rw [fa_le] at d3; rw [fa_lt]; omega
      rw [if_neg d3, if_pos d3']
      exact ⟨_, _, rfl, rfl⟩
  · have h1' : fX7_rowsAt 16 3 a1 z = some none := h1
    have h5' : gX10_is 3 a1 (wI (wI M 0 0) 50 a1) = some 0 := h5 _ rfl
    rw [h1', h5']
    simp only [Option.bind_some, nq, b2, true_or, if_true]
    exact ⟨_, _, rfl, rfl⟩
/-- how many of the sets that fit see it shimmer -/
theorem m_tell_in {M : SV} {L F : Int32} (hF : M.1 51 = F) {t : Nat} (hL : gX10_lookersOf (nI t) M = some L) (k28 : Int32 → Int32 → Int32 → SV → Option (Int32 × SV)) (l2 l3 : Int32) : gfX10_tell_48 k28 FU l2 l3 (nI t) 0 0 M = (if L = 0 then gbX10_tell_125 k28 l2 l3 (nI t) 1000000 M else gbX10_tell_125 k28 l2 l3 (nI t) (fX10_greater (nI (fa_cnt (fun s => bt F s && decide (¬ (nI s &&& L) = 0)) 16)) (nI (fa_cnt (bt F) 16) - nI (fa_cnt (fun s => bt F s && decide (¬ (nI s &&& L) = 0)) 16))) M) := by
  refine lp (fun f (q : Int32 × Int32) => gfX10_tell_48 k28 f l2 l3 (nI t) q.1 q.2 M) (fun i => (nI (fa_cnt (fun s => bt F s && decide (¬ (nI s &&& L) = 0)) i), nI i)) _ 16 ?_ ?_ FU (by rw [FUn]; omega)
  · intro j hj f
    show gbX10_tell_48 k28 (gfX10_tell_48 k28 f) l2 l3 (nI t) (nI (fa_cnt (fun s => bt F s && decide (¬ (nI s &&& L) = 0)) j)) (nI j) M = gfX10_tell_48 k28 f l2 l3 (nI t) (nI (fa_cnt (fun s => bt F s && decide (¬ (nI s &&& L) = 0)) (j + 1))) (nI (j + 1)) M
    unfold gbX10_tell_48
    rw [if_neg (show ¬ (16 : Int32) ≤ nI j from nI_ge (b := 16) hj (by omega)), hF, hL]
    simp only [nm, Option.bind_some, add0, ← nI_succ]
    cases hb : bt F j
    · rw [if_pos ((m_has0 F (by omega)).mpr hb), fa_cnt_no (by simp [hb])]
    · rw [if_neg (fun e => by rw [(m_has0 F (by omega)).mp e] at hb; cases hb)]
      by_cases c : (nI j &&& L) = 0
      · rw [if_pos c, fa_cnt_no (by simp [c])]
      · rw [if_neg c, fa_cnt_yes (by simp [hb, c])]
  · intro f
    show gbX10_tell_48 k28 (gfX10_tell_48 k28 f) l2 l3 (nI t) _ (nI 16) M = _
    unfold gbX10_tell_48
    rw [if_pos (show (16 : Int32) ≤ nI 16 by decide), hL, hF, m_many]; rfl
theorem fa_cnt_mono {p q : Nat → Bool} (h : ∀ k, p k = true → q k = true) : ∀ n, fa_cnt p n ≤ fa_cnt q n
  | 0 => Nat.le_refl 0
  | n + 1 => by
    have ih := fa_cnt_mono h n
    unfold fa_cnt
    cases hp : p n
    · simp only [Bool.false_eq_true, if_false]; omega
    · rw [h n hp]; simp only [if_true]; omega
theorem qu_tell (Wc : WC) : Qu_tell Wc := by
  intro z M ρM hI a1
  have hsk := hI.2.2.2.1
  unfold fX9_tell gX10_tell
  rw [if_pos (x9_o hsk), x9_g (k := 0) (x := 16) hsk rfl]
  simp only [Option.bind_some, nm, gX10_hasFight]
  rcases rows_cases hI (q := 3) (by omega) (by omega) a1 with ⟨i, b, ρb, Y, hi, rfl, h1, h2, h3, h4, h5⟩ | ⟨h1, h5⟩
  · have h1' : fX7_rowsAt 16 3 (nI i) z = some (some b) := h1
    have h5' : gX10_is 3 (nI i) (wI (wI M 0 0) 50 (nI i)) = some 1 := h5 _ rfl
    rw [h1', h5']
    obtain ⟨n, hq⟩ := qw_of hi h4
    obtain ⟨M', m1, m2, m3⟩ := hq.mfit
    simp only [Option.bind_some, nq, b2, or_true, if_true, show ¬ ((1 : Int32) = 0) by decide, if_false, eX3_telling h3, gX3_telling, hq.cfit, m1]
    have hF := fsP_16 Y n
    generalize hFe : fsP Y n = F at hF m3
    have key := lpT (fun f (q : Int32 × Int32 × Int32) => gfX3_telling_13 Y ρb.2.2 f F q.1 q.2.1 q.2.2) (fun f (q : Int32 × Int32 × Int32) => gfX10_tell_28 f q.1 q.2.1 q.2.2 M') (fun j s t => s.2.2 = nI j ∧ t.2.2 = nI j ∧ s.1 = t.1 ∧ ((s.2.1 = t.2.1 ∧ rng s.2.1 0 16) ∨ (s.2.1 = 17 ∧ t.2.1 = 1000000))) (fun b d => ∃ r, b = some r ∧ d = some (r, M')) 8 ?_ ?_ (-1, 17, 0) (-1, 1000000, 0) ⟨rfl, rfl, rfl, Or.inr ⟨rfl, rfl⟩⟩ FU FU (by rw [FUn]; omega) (by rw [FUn]; omega)
    · obtain ⟨r, u, v⟩ := key
      have u : gfX3_telling_13 Y ρb.2.2 FU F (-1) 17 0 = some r := u
      have v : gfX10_tell_28 FU (-1) 1000000 0 M' = some (r, M') := v
      rw [u, v]
      exact ⟨r, M', rfl, rfl⟩
    · rintro j hj ⟨p, l, c⟩ ⟨p', l', c'⟩ ⟨e1, e2, e3, e4⟩
      have e1 : c = nI j := e1
      have e2 : c' = nI j := e2
      have e3 : p = p' := e3
      have e9 : (l = l' ∧ rng l 0 16) ∨ (l = 17 ∧ l' = 1000000) := e4
      clear e4
      subst e1 e2 e3
      have hg : ¬ (8 : Int32) ≤ nI j := nI_ge (b := 8) hj (by omega)
      by_cases hz : F = 0
      · right
        refine ⟨some p, some (p, M'), fun f => ?_, fun f => ?_, p, rfl, rfl⟩
        · show gbX3_telling_13 _ _ _ _ _ _ _ = _
          unfold gbX3_telling_13
          rw [if_neg hg, if_pos hz]
        · show gbX10_tell_28 _ _ _ _ _ = _
          unfold gbX10_tell_28
          rw [if_neg hg, m3, if_pos hz]
      · left
        have hand : ∀ s, 16 ≤ s → s < 32 → bt (F &&& fm (fun s => decide (¬ (nI s &&& lkP Y (nI j) n) = 0)) 16) s = false := fun s h1 h2 => by rw [b_and, hF s h1 h2]; rfl
        have hcn : fa_cnt (bt (F &&& fm (fun s => decide (¬ (nI s &&& lkP Y (nI j) n) = 0)) 16)) 16 = fa_cnt (fun s => bt F s && decide (¬ (nI s &&& lkP Y (nI j) n) = 0)) 16 := fa_cnt_cong (fun k hk => by rw [b_and, shim_bt _ (by omega)]; simp [hk])
        have f1 : ∀ f, gfX3_telling_13 Y ρb.2.2 (f + 1) F p l (nI j) = (if lkP Y (nI j) n = 0 then gfX3_telling_13 Y ρb.2.2 f F p l (nI (j + 1)) else if l ≤ fX10_greater (nI (fa_cnt (fun s => bt F s && decide (¬ (nI s &&& lkP Y (nI j) n) = 0)) 16)) (nI (fa_cnt (bt F) 16) - nI (fa_cnt (fun s => bt F s && decide (¬ (nI s &&& lkP Y (nI j) n) = 0)) 16)) then gfX3_telling_13 Y ρb.2.2 f F p l (nI (j + 1)) else gfX3_telling_13 Y ρb.2.2 f F (nI j) (fX10_greater (nI (fa_cnt (fun s => bt F s && decide (¬ (nI s &&& lkP Y (nI j) n) = 0)) 16)) (nI (fa_cnt (bt F) 16) - nI (fa_cnt (fun s => bt F s && decide (¬ (nI s &&& lkP Y (nI j) n) = 0)) 16))) (nI (j + 1))) := fun f => by
          show gbX3_telling_13 _ _ _ _ _ _ _ = _
          unfold gbX3_telling_13
          rw [if_neg hg, if_neg hz, m2.cl]
          simp only [Option.bind_some, shim_e, nm]
          rw [bc_16 hand, bc_16 hF, hcn, imax_g, ← nI_succ]
        have f2 : ∀ f, gfX10_tell_28 (f + 1) p l' (nI j) M' = _ := fun f => by
          show gbX10_tell_28 _ _ _ _ _ = _
          unfold gbX10_tell_28
          rw [if_neg hg, m3, if_neg hz, m_tell_in m3 (m2.ml (nI j))]
        have hmo : fa_cnt (fun s => bt F s && decide (¬ (nI s &&& lkP Y (nI j) n) = 0)) 16 ≤ fa_cnt (bt F) 16 := fa_cnt_mono (fun k hk => by simp at hk; exact hk.1) 16
        have h16 := fa_cnt_le (bt F) 16
        have hb : rng (fX10_greater (nI (fa_cnt (fun s => bt F s && decide (¬ (nI s &&& lkP Y (nI j) n) = 0)) 16)) (nI (fa_cnt (bt F) 16) - nI (fa_cnt (fun s => bt F s && decide (¬ (nI s &&& lkP Y (nI j) n) = 0)) 16))) 0 16 := by
          rw [pk_sub hmo]
          unfold fX10_greater
          split
          · exact nI_rng (m := 16) (by omega) (by omega)
          · exact nI_rng (m := 16) (by omega) (by omega)
        generalize fX10_greater (nI (fa_cnt (fun s => bt F s && decide (¬ (nI s &&& lkP Y (nI j) n) = 0)) 16)) (nI (fa_cnt (bt F) 16) - nI (fa_cnt (fun s => bt F s && decide (¬ (nI s &&& lkP Y (nI j) n) = 0)) 16)) = x at f1 f2 hb
        have t17 : (17 : Int32).toInt = 17 := rfl
        have tM : (1000000 : Int32).toInt = 1000000 := rfl
        unfold gbX10_tell_125 gbX10_tell_139 at f2
        simp only [nm, ← nI_succ] at f2
        obtain ⟨x1, x2⟩ := hb
        by_cases cL : lkP Y (nI j) n = 0
        · simp only [if_pos cL] at f1 f2
          have c2 : l' ≤ 1000000 := by
            rcases e9 with ⟨e4, e5, e6⟩ | ⟨-, e4⟩
            · rw [← e4, fa_le, tM]; omega
            · rw [e4, fa_le]; omega
          simp only [if_pos c2, les_l c2] at f2
          exact ⟨(p, l, nI (j + 1)), (p, l', nI (j + 1)), f1, f2, rfl, rfl, rfl, e9⟩
        · simp only [if_neg cL] at f1 f2
          by_cases c1 : l ≤ x
          · have e5 : l = l' := by
              rcases e9 with ⟨e4, -⟩ | ⟨e4, -⟩
              · exact e4
              · rw [e4, fa_le, t17] at c1; omega
            have e6 : rng l 0 16 := by
              rcases e9 with ⟨-, e4⟩ | ⟨e4, -⟩
              · exact e4
              · rw [e4, fa_le, t17] at c1; omega
            subst e5
            simp only [if_pos c1] at f1
            simp only [if_pos c1, les_l c1] at f2
            exact ⟨(p, l, nI (j + 1)), (p, l, nI (j + 1)), f1, f2, rfl, rfl, rfl, Or.inl ⟨rfl, e6⟩⟩
          · have c2 : ¬ l' ≤ x := by
              rcases e9 with ⟨e4, -⟩ | ⟨-, e4⟩
              · rw [← e4]; exact c1
              · rw [e4, fa_le, tM]; omega
            simp only [if_neg c1] at f1
            simp only [if_neg c2, les_r c2] at f2
            exact ⟨(nI j, x, nI (j + 1)), (nI j, x, nI (j + 1)), f1, f2, rfl, rfl, rfl, Or.inl ⟨rfl, x1, x2⟩⟩
    · rintro ⟨p, l, c⟩ ⟨p', l', c'⟩ ⟨e1, e2, e3, e4⟩
      have e1 : c = nI 8 := e1
      have e2 : c' = nI 8 := e2
      have e3 : p = p' := e3
      subst e1 e2 e3
      exact ⟨some p, some (p, M'), fun f => rfl, fun f => rfl, p, rfl, rfl⟩
  · have h1' : fX7_rowsAt 16 3 a1 z = some none := h1
    have h5' : gX10_is 3 a1 (wI (wI M 0 0) 50 a1) = some 0 := h5 _ rfl
    rw [h1', h5']
    simp only [Option.bind_some, nq, b2, true_or, if_true]
    exact ⟨_, _, rfl, rfl⟩
