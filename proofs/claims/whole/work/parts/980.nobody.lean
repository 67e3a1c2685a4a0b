/-! ===== text: toCountry's lines; whom it tells of ===== -/
def toK (k i : Nat) : Int32 := sVal 2 (3 * k + i)
theorem to_ok : ∀ k, k < 9 → ∀ i, i < 3 → fX9_pick_T2 (Int32.ofNat (sLen 2)) (nI (3 * k + i)) = some (toK k i) ∧ (toK k i ≠ 0 → i < arK k) := by decide +kernel
def msP (T Lf R : Int32) (ln : LiN) (i : Nat) : Prop := (toK ln.1 i = 1 ∧ T ≤ ln.2.2.1 i) ∨ (toK ln.1 i = 2 ∧ Lf ≤ ln.2.2.1 i) ∨ (toK ln.1 i = 3 ∧ R ≤ ln.2.2.1 i)
def msB (T Lf R : Int32) (ln : LiN) : Prop := ∃ i, i < 3 ∧ msP T Lf R ln i
def faP (T Lf R : Int32) (f : Int32 × Int32 × Int32) : Prop := T ≤ f.1 ∨ Lf ≤ f.2.1 ∨ R ≤ f.2.2
theorem le_gre (x a b : Int32) : x ≤ fX10_greater a b ↔ x ≤ a ∨ x ≤ b := by
  obtain ⟨h1, h2, h3⟩ := gre_ge a b
  rw [fa_le, fa_le, fa_le]
  constructor
  · intro h
    rcases h3 with e | e
    · rw [e] at h; exact Or.inl h
    · rw [e] at h; exact Or.inr h
  · rintro (h | h) <;> omega
theorem ms_1 {T Lf R : Int32} {ln : LiN} {i : Nat} (h : toK ln.1 i = 1) : msP T Lf R ln i ↔ T ≤ ln.2.2.1 i := by
  unfold msP
  rw [h]
  exact ⟨fun q => by rcases q with q | q | q; exact q.2; exact absurd q.1 (by decide); exact absurd q.1 (by decide), fun q => Or.inl ⟨rfl, q⟩⟩
theorem ms_2 {T Lf R : Int32} {ln : LiN} {i : Nat} (h : toK ln.1 i = 2) : msP T Lf R ln i ↔ Lf ≤ ln.2.2.1 i := by
  unfold msP
  rw [h]
  exact ⟨fun q => by rcases q with q | q | q; exact absurd q.1 (by decide); exact q.2; exact absurd q.1 (by decide), fun q => Or.inr (Or.inl ⟨rfl, q⟩)⟩
theorem ms_3 {T Lf R : Int32} {ln : LiN} {i : Nat} (h : toK ln.1 i = 3) : msP T Lf R ln i ↔ R ≤ ln.2.2.1 i := by
  unfold msP
  rw [h]
  exact ⟨fun q => by rcases q with q | q | q; exact absurd q.1 (by decide); exact absurd q.1 (by decide); exact q.2, fun q => Or.inr (Or.inr ⟨rfl, q⟩)⟩
theorem ms_0 {T Lf R : Int32} {ln : LiN} {i : Nat} (h : toK ln.1 i = 0) : msP T Lf R ln i ↔ False := by
  unfold msP
  rw [h]
  exact ⟨fun q => by rcases q with q | q | q <;> exact absurd q.1 (by decide), fun q => q.elim⟩
theorem pA (a b c n m : Prop) : (((a ∨ n) ∨ m) ∨ b ∨ c) ↔ ((a ∨ b ∨ c) ∨ n ∨ m ∨ False) := by
  by_cases ha : a <;> by_cases hb : b <;> by_cases hc : c <;> by_cases hn : n <;> by_cases hm : m <;> simp [*]
theorem pB (a b c n m : Prop) : (a ∨ (b ∨ n) ∨ (c ∨ m)) ↔ ((a ∨ b ∨ c) ∨ n ∨ m ∨ False) := by
  by_cases ha : a <;> by_cases hb : b <;> by_cases hc : c <;> by_cases hn : n <;> by_cases hm : m <;> simp [*]
theorem pC (a b c n m : Prop) : (a ∨ (b ∨ m) ∨ (c ∨ n)) ↔ ((a ∨ b ∨ c) ∨ n ∨ m ∨ False) := by
  by_cases ha : a <;> by_cases hb : b <;> by_cases hc : c <;> by_cases hn : n <;> by_cases hm : m <;> simp [*]
theorem fa_step {T Lf R : Int32} {f : Int32 × Int32 × Int32} {ln : LiN} (hk : ln.1 < 9) : faP T Lf R (faL f ln) ↔ faP T Lf R f ∨ msB T Lf R ln := by
  have e3 : msB T Lf R ln ↔ (msP T Lf R ln 0 ∨ msP T Lf R ln 1 ∨ msP T Lf R ln 2) := by
    constructor
    · rintro ⟨i, hi, h⟩
      have : i = 0 ∨ i = 1 ∨ i = 2 := by omega
      rcases this with rfl | rfl | rfl
      · exact Or.inl h
      · exact Or.inr (Or.inl h)
      · exact Or.inr (Or.inr h)
    · rintro (h | h | h)
      · exact ⟨0, by omega, h⟩
      · exact ⟨1, by omega, h⟩
      · exact ⟨2, by omega, h⟩
  have tab : ∀ k, k < 9 → ((k = 1 ∨ k = 2) → toK k 0 = 1 ∧ toK k 1 = 1 ∧ toK k 2 = 0) ∧ ((k = 3 ∨ k = 7) → toK k 0 = 2 ∧ toK k 1 = 3 ∧ toK k 2 = 0) ∧ (k = 8 → toK k 0 = 3 ∧ toK k 1 = 2 ∧ toK k 2 = 0) ∧ ((k = 0 ∨ k = 4 ∨ k = 5 ∨ k = 6) → toK k 0 = 0 ∧ toK k 1 = 0 ∧ toK k 2 = 0) := by decide +kernel
  obtain ⟨b1, b2_, b3, b4⟩ := tab ln.1 hk
  rw [e3]
  unfold faL
  by_cases c1 : ln.1 = 1 ∨ ln.1 = 2
  · obtain ⟨q0, q1, q2⟩ := b1 c1
    rw [if_pos c1, ms_1 q0, ms_1 q1, ms_0 q2]
    show (T ≤ fX10_greater (fX10_greater f.1 (ln.2.2.1 0)) (ln.2.2.1 1) ∨ Lf ≤ f.2.1 ∨ R ≤ f.2.2) ↔ (T ≤ f.1 ∨ Lf ≤ f.2.1 ∨ R ≤ f.2.2) ∨ _
    rw [le_gre, le_gre]; exact pA _ _ _ _ _
  · rw [if_neg c1]
    by_cases c2 : ln.1 = 3 ∨ ln.1 = 7
    · obtain ⟨q0, q1, q2⟩ := b2_ c2
      rw [if_pos c2, ms_2 q0, ms_3 q1, ms_0 q2]
      show (T ≤ f.1 ∨ Lf ≤ fX10_greater f.2.1 (ln.2.2.1 0) ∨ R ≤ fX10_greater f.2.2 (ln.2.2.1 1)) ↔ (T ≤ f.1 ∨ Lf ≤ f.2.1 ∨ R ≤ f.2.2) ∨ _
      rw [le_gre, le_gre]; exact pB _ _ _ _ _
    · rw [if_neg c2]
      by_cases c3 : ln.1 = 8
      · obtain ⟨q0, q1, q2⟩ := b3 c3
        rw [if_pos c3, ms_3 q0, ms_2 q1, ms_0 q2]
        show (T ≤ f.1 ∨ Lf ≤ fX10_greater f.2.1 (ln.2.2.1 1) ∨ R ≤ fX10_greater f.2.2 (ln.2.2.1 0)) ↔ (T ≤ f.1 ∨ Lf ≤ f.2.1 ∨ R ≤ f.2.2) ∨ _
        rw [le_gre, le_gre]; exact pC _ _ _ _ _
      · obtain ⟨q0, q1, q2⟩ := b4 (by omega)
        rw [if_neg c3, ms_0 q0, ms_0 q1, ms_0 q2]
        simp
theorem fa_fold {T Lf R : Int32} : ∀ (ls : List LiN), (∀ ln, ln ∈ ls → ln.1 < 9) → ∀ s : ST, faP T Lf R (ls.foldl stL s).2.2 ↔ faP T Lf R s.2.2 ∨ ∃ ln, ln ∈ ls ∧ msB T Lf R ln
  | [], _, s => by
    show faP T Lf R s.2.2 ↔ _
    simp
  | ln :: ls, hl, s => by
    have ih := fa_fold (T := T) (Lf := Lf) (R := R) ls (fun l hm => hl l (List.mem_cons_of_mem _ hm)) (stL s ln)
    show faP T Lf R (ls.foldl stL (stL s ln)).2.2 ↔ _
    rw [ih]
    show faP T Lf R (faL s.2.2 ln) ∨ _ ↔ _
    rw [fa_step (hl ln (List.mem_cons_self ..))]
    constructor
    · rintro ((h | h) | ⟨l, h1, h2⟩)
      · exact Or.inl h
      · exact Or.inr ⟨ln, List.mem_cons_self .., h⟩
      · exact Or.inr ⟨l, List.mem_cons_of_mem _ h1, h2⟩
    · rintro (h | ⟨l, h1, h2⟩)
      · exact Or.inl (Or.inl h)
      · rcases List.mem_cons.mp h1 with e | e
        · rw [e] at h2; exact Or.inl (Or.inr h2)
        · exact Or.inr ⟨l, e, h2⟩
section NB
variable {ρ ρc : RV} {S C : SV} {z : AH} {N : Nat}
theorem c_nobody (hR : RD 3 38 ρ S z) (hC : RD 0 N ρc C z) {ls : List LiN} (hH : HLs ls S) (hLQ : LQ 0 ls) (h5 : S.1 5 = nI ls.length) (hlen : ls.length ≤ 120) : ∃ r, fX4_tellsOfNobody 38 N z = some r ∧ ((r = 1 ∧ ∃ ln, ln ∈ ls ∧ msB (C.1 0) (C.1 10) (C.1 11) ln) ∨ (r = 0 ∧ ¬ ∃ ln, ln ∈ ls ∧ msB (C.1 0) (C.1 10) (C.1 11) ln)) := by
  unfold fX4_tellsOfNobody
  rw [if_pos (isO_rd hR)]
  have key := lpR (fun u (w : Int32) => fX4_tellsOfNobody_2 z u 38 N w) (fun i w => w = nI i ∧ ∀ j ln, j < i → ls[j]? = some ln → ¬ msB (C.1 0) (C.1 10) (C.1 11) ln) (fun b => ∃ r, b = some r ∧ ((r = 1 ∧ ∃ ln, ln ∈ ls ∧ msB (C.1 0) (C.1 10) (C.1 11) ln) ∨ (r = 0 ∧ ¬ ∃ ln, ln ∈ ls ∧ msB (C.1 0) (C.1 10) (C.1 11) ln))) ls.length ?_ ?_ 0 ⟨rfl, fun j ln hj => by omega⟩ FU (by rw [FUn]; omega)
  · exact key
  · rintro i hi w ⟨e1, e2⟩
    subst e1
    obtain ⟨ln, hln⟩ : ∃ ln, ls[i]? = some ln := ⟨ls[i], List.getElem?_eq_getElem hi⟩
    have hmem : ln ∈ ls := List.mem_of_getElem? hln
    obtain ⟨-, k2⟩ := hLQ ln hmem
    replace k2 : ln.1 < 9 := k2
    obtain ⟨g1, g2, g3⟩ := hH i ln hln
    -- the three numbers
    have inner : (∃ j, j < 3 ∧ msP (C.1 0) (C.1 10) (C.1 11) ln j) ∨ (∀ j, j < 3 → ¬ msP (C.1 0) (C.1 10) (C.1 11) ln j) := by
      by_cases h : ∃ j, j < 3 ∧ msP (C.1 0) (C.1 10) (C.1 11) ln j
      · exact Or.inl h
      · exact Or.inr (fun j hj q => h ⟨j, hj, q⟩)
    have loop := lpR (fun u (w : Int32) => fun k2 : Nat → Nat → Int32 → Option Int32 => fX4_tellsOfNobody_18 k2 z u 38 N (nI i) w) (fun j w => w = nI j ∧ ∀ m, m < j → ¬ msP (C.1 0) (C.1 10) (C.1 11) ln m) (fun b => (b = (fun _ => some 1) ∧ msB (C.1 0) (C.1 10) (C.1 11) ln) ∨ (b = (fun k2 => k2 38 N (nI (i + 1))) ∧ ¬ msB (C.1 0) (C.1 10) (C.1 11) ln)) 3 ?_ ?_ 0 ⟨rfl, fun m hm => by omega⟩ FU (by rw [FUn]; omega)
    · replace loop : ((fun k2 : Nat → Nat → Int32 → Option Int32 => fX4_tellsOfNobody_18 k2 z FU 38 N (nI i) 0) = (fun _ => some 1) ∧ msB (C.1 0) (C.1 10) (C.1 11) ln) ∨ ((fun k2 : Nat → Nat → Int32 → Option Int32 => fX4_tellsOfNobody_18 k2 z FU 38 N (nI i) 0) = (fun k2 => k2 38 N (nI (i + 1))) ∧ ¬ msB (C.1 0) (C.1 10) (C.1 11) ln) := loop
      have step : ∀ u, fX4_tellsOfNobody_2 z (u + 1) 38 N (nI i) = fX4_tellsOfNobody_18 (fX4_tellsOfNobody_2 z u) z FU 38 N (nI i) 0 := by
        intro u
        show bX4_tellsOfNobody_2 _ _ _ _ _ = _
        unfold bX4_tellsOfNobody_2
        rw [gI_rd hR (k := 5) rfl, h5]
        simp only [Option.bind_some]
        rw [if_neg (nI_ge hi (by omega)), if_neg (show ¬ (120 : Int32) ≤ nI i from nI_ge (b := 120) (by omega) (by omega))]
      rcases loop with ⟨l1, l2⟩ | ⟨l1, l2⟩
      · right
        exact ⟨some 1, fun u => (step u).trans (congrFun l1 _), 1, rfl, Or.inl ⟨rfl, ln, hmem, l2⟩⟩
      · left
        refine ⟨nI (i + 1), fun u => (step u).trans (congrFun l1 _), rfl, fun j l hj hl => ?_⟩
        by_cases e : j = i
        · subst e
          rw [hln, Option.some.injEq] at hl
          rw [← hl]; exact l2
        · exact e2 j l (by omega) hl
    · rintro j hj w ⟨e3, e4⟩
      subst e3
      obtain ⟨t1, t2⟩ := to_ok ln.1 k2 j hj
      have eix : (3 : Int32) * nI i + nI j = nI (3 * i + j) := by rw [show (3 : Int32) = nI 3 from rfl, pk_mul, nI_add]
      have eik : (3 : Int32) * nI ln.1 + nI j = nI (3 * ln.1 + j) := by rw [show (3 : Int32) = nI 3 from rfl, pk_mul, nI_add]
      have body : ∀ (k2 : Nat → Nat → Int32 → Option Int32) (k18 : Nat → Nat → Int32 → Int32 → Option Int32), bX4_tellsOfNobody_18 k2 k18 38 N (nI i) (nI j) z = (if toK ln.1 j = 1 then (if C.1 0 ≤ S.2.1 2 (3 * i + j) then bX4_tellsOfNobody_102 k2 k18 38 N (nI i) (nI j) z else bX4_tellsOfNobody_72 k2 k18 38 N (nI i) (nI j) (toK ln.1 j) (S.2.1 2 (3 * i + j)) z) else bX4_tellsOfNobody_72 k2 k18 38 N (nI i) (nI j) (toK ln.1 j) (S.2.1 2 (3 * i + j)) z) := by
        intro k2 k18
        unfold bX4_tellsOfNobody_18
        rw [if_neg (show ¬ (3 : Int32) ≤ nI j from nI_ge (b := 3) hj (by omega)), gN_rd hR (k := 0) rfl (Or.inl rfl)]
        simp only [Option.bind_some]
        rw [ixI_rd hR (k := 0) rfl rfl (by decide) 0 rfl (by decide), rA_nI (by omega) (by omega), g1]
        simp only [Option.bind_some]
        rw [eik, t1]
        simp only [Option.bind_some]
        rw [gN_rd hR (k := 2) rfl (Or.inl rfl)]
        simp only [Option.bind_some]
        rw [eix, ixI_rd hR (k := 2) rfl rfl (by decide) 0 rfl (by decide), rA_nI (by omega) (by omega)]
        simp only [Option.bind_some]
        rw [gI_rd hC (k := 0) rfl]
        simp only [Option.bind_some]
      have e102 : ∀ k2 k18, bX4_tellsOfNobody_102 k2 k18 38 N (nI i) (nI j) z = some 1 := fun k2 k18 => by
        unfold bX4_tellsOfNobody_102 bX4_tellsOfNobody_107
        rw [if_neg (by decide)]
      have e106 : ∀ k2 (k18 : Nat → Nat → Int32 → Int32 → Option Int32), bX4_tellsOfNobody_106 k2 k18 38 N (nI i) (nI j) z = k18 38 N (nI i) (nI (j + 1)) := fun k2 k18 => by
        unfold bX4_tellsOfNobody_106 bX4_tellsOfNobody_107
        rw [if_pos rfl, nmE, ← nI_succ]
      have hnum : toK ln.1 j ≠ 0 → S.2.1 2 (3 * i + j) = ln.2.2.1 j := fun h => (g3 j (t2 h)).1
      have e72 : ∀ k2 k18, ¬ toK ln.1 j = 1 → bX4_tellsOfNobody_72 k2 k18 38 N (nI i) (nI j) (toK ln.1 j) (S.2.1 2 (3 * i + j)) z = (if toK ln.1 j = 2 then (if C.1 10 ≤ S.2.1 2 (3 * i + j) then some 1 else k18 38 N (nI i) (nI (j + 1))) else if toK ln.1 j = 3 then (if S.2.1 2 (3 * i + j) < C.1 11 then k18 38 N (nI i) (nI (j + 1)) else some 1) else k18 38 N (nI i) (nI (j + 1))) := by
        intro k2 k18 _
        unfold bX4_tellsOfNobody_72 bX4_tellsOfNobody_87
        rw [gI_rd hC (k := 10) rfl, gI_rd hC (k := 11) rfl]
        simp only [Option.bind_some]
        rw [e102, e106]
        by_cases d2 : toK ln.1 j = 2
        · rw [if_pos d2, if_pos d2, if_neg (show ¬ toK ln.1 j = 3 by rw [d2]; decide)]
        · rw [if_neg d2, if_neg d2]
      by_cases hm : msP (C.1 0) (C.1 10) (C.1 11) ln j
      · right
        refine ⟨(fun _ => some 1), fun u => ?_, Or.inl ⟨rfl, j, hj, hm⟩⟩
        funext k2
        show bX4_tellsOfNobody_18 _ _ _ _ _ _ _ = _
        rw [body]
        rcases hm with ⟨m1, m2⟩ | ⟨m1, m2⟩ | ⟨m1, m2⟩
        · rw [if_pos m1, hnum (by rw [m1]; decide), if_pos m2, e102]
        · rw [if_neg (show ¬ toK ln.1 j = 1 by rw [m1]; decide), e72 _ _ (by rw [m1]; decide), if_pos m1, hnum (by rw [m1]; decide), if_pos m2]
        · rw [if_neg (show ¬ toK ln.1 j = 1 by rw [m1]; decide), e72 _ _ (by rw [m1]; decide), if_neg (show ¬ toK ln.1 j = 2 by rw [m1]; decide), if_pos m1, hnum (by rw [m1]; decide), if_neg (show ¬ ln.2.2.1 j < C.1 11 by rw [fa_lt]; rw [fa_le] at m2; omega)]
      · left
        refine ⟨nI (j + 1), fun u => ?_, rfl, fun m hm2 => ?_⟩
        · funext k2
          show bX4_tellsOfNobody_18 _ _ _ _ _ _ _ = _
          rw [body]
          by_cases d1 : toK ln.1 j = 1
          · have hn := hnum (by rw [d1]; decide)
            rw [if_pos d1, if_neg (fun q => hm (Or.inl ⟨d1, by rw [← hn]; exact q⟩))]
            unfold bX4_tellsOfNobody_72 bX4_tellsOfNobody_87
            rw [if_neg (show ¬ toK ln.1 j = 2 by rw [d1]; decide), if_neg (show ¬ toK ln.1 j = 3 by rw [d1]; decide), e106]
          · rw [if_neg d1, e72 _ _ d1]
            by_cases d2 : toK ln.1 j = 2
            · have hn := hnum (by rw [d2]; decide)
              rw [if_pos d2, if_neg (fun q => hm (Or.inr (Or.inl ⟨d2, by rw [← hn]; exact q⟩)))]
            · rw [if_neg d2]
              by_cases d3 : toK ln.1 j = 3
              · have hn := hnum (by rw [d3]; decide)
                rw [if_pos d3, if_pos (show S.2.1 2 (3 * i + j) < C.1 11 from Classical.byContradiction (fun q => hm (Or.inr (Or.inr ⟨d3, by rw [← hn]; exact fa_of_nlt q⟩))))]
              · rw [if_neg d3]
        · by_cases e : m = j
          · rw [e]; exact hm
          · exact e4 m (by omega)
    · rintro w ⟨e3, e4⟩
      subst e3
      refine ⟨(fun k2 => k2 38 N (nI (i + 1))), fun u => ?_, Or.inr ⟨rfl, fun q => by obtain ⟨m, m1, m2⟩ := q; exact e4 m m1 m2⟩⟩
      funext k2
      show bX4_tellsOfNobody_18 _ _ _ _ _ _ _ = _
      unfold bX4_tellsOfNobody_18
      rw [if_pos (show (3 : Int32) ≤ nI 3 by decide), nmE, ← nI_succ]
  · rintro w ⟨e1, e2⟩
    subst e1
    refine ⟨some 0, fun u => ?_, 0, rfl, Or.inr ⟨rfl, fun q => ?_⟩⟩
    · show bX4_tellsOfNobody_2 _ _ _ _ _ = _
      unfold bX4_tellsOfNobody_2
      rw [gI_rd hR (k := 5) rfl, h5]
      simp only [Option.bind_some]
      rw [if_pos (nI_le (Nat.le_refl _) (by omega))]
    · obtain ⟨ln, m1, m2⟩ := q
      obtain ⟨j, hj⟩ := List.mem_iff_getElem?.mp m1
      exact e2 j ln (List.getElem?_eq_some_iff.mp hj).1 hj m2
end NB
