/-! ===== text: read, in both ===== -/
def t0q (q : Nat) : Nat → Int32 := fun k => if q = 0 ∧ 30 ≤ k ∧ k ≤ 37 then -1 else if q = 0 ∧ k = 5 then 3 else 0
def s0q (q : Nat) : ST := ((0, 0), t0q q, (-1, -1, -1))
theorem sf0 (q : Nat) : SFp q (t0q q) ∧ ∀ k, wLo q ≤ k → k < wHi q → ctK k = true → t0q q (cnK k) = 0 := by
  have h : ∀ k, t0q q (cnK k) = 0 := fun k => by
    have c5 : cnK k < 5 := by unfold cnK; repeat' split
                              all_goals omega
    unfold t0q
    rw [if_neg (by omega), if_neg (by omega)]
  exact ⟨fun k _ _ _ => ⟨0, Nat.zero_le _, h k⟩, fun k _ _ _ => h k⟩
/-- the reference's end of reading -/
def rdE (f pl : Int32) (M : SV) : SV := wR (wR M 3 (upd (M.2.1 3) 0 f)) 4 (upd (M.2.1 4) 0 pl)
section RB
variable {F : Nat → Int32} {L : Nat} {z : AH} {ρ : RV} {M : SV}
theorem m_171 (f pl : Int32) (M : SV) : gbX10_readText_171 4 0 pl (wR M 3 (upd (M.2.1 3) 0 f)) = some (if f = 0 then 1 else 0, rdE f pl M) := by
  unfold gbX10_readText_171
  rw [show (0 : Int32) = nI 0 from rfl, wA_nI (show 0 < aLen 9 4 by decide) (by decide)]
  simp only [Option.bind_some]
  rw [show rA 4 ((wR (wR M 3 (upd (M.2.1 3) 0 f)) 4 (upd ((wR M 3 (upd (M.2.1 3) 0 f)).2.1 4) 0 pl)).2.1 3) (nI 0) = some f from by rw [wR_ne (by decide), wR_eq, rA_nI (by omega) (by omega), pk_us]]
  simp only [Option.bind_some]
  have e : wR (wR M 3 (upd (M.2.1 3) 0 f)) 4 (upd ((wR M 3 (upd (M.2.1 3) 0 f)).2.1 4) 0 pl) = rdE f pl M := by
    rw [wR_ne (by decide)]; rfl
  rw [e]
  by_cases c : f = 0
  · rw [if_pos (show f = nI 0 from c), if_pos (show f = nI 0 from c)]
  · rw [if_neg (show ¬ f = nI 0 from c), if_neg (show ¬ f = nI 0 from c)]
theorem m_122_no (M : SV) : gbX10_readText_122 0 M = some (0, rdE 1 (M.1 16) M) := by
  unfold gbX10_readText_122
  rw [if_pos rfl]
  unfold gbX10_readText_139
  rw [show wA 3 (aLen 9 3) M 0 1 = some (wR M 3 (upd (M.2.1 3) 0 1)) from wA_nI (j := 0) (by decide) (by decide)]
  simp only [Option.bind_some]
  rw [if_pos (show True from trivial)]
  exact m_171 1 (M.1 16) M
theorem m_122_ok (M : SV) (h0 : 0 ≤ (M.1 17).toInt) : gbX10_readText_122 1 M = some (if M.1 17 = 0 then 1 else 0, rdE (M.1 17) (if M.1 17 = 0 then -1 else M.1 18) M) := by
  unfold gbX10_readText_122
  rw [if_neg (by decide)]
  unfold gbX10_readText_139
  rw [show wA 3 (aLen 9 3) M 0 (M.1 17) = some (wR M 3 (upd (M.2.1 3) 0 (M.1 17))) from wA_nI (j := 0) (by decide) (by decide)]
  simp only [Option.bind_some]
  rw [if_neg (show ¬ (1 : Int32) = 0 by decide)]
  by_cases c : M.1 17 = 0
  · rw [if_pos (show (wR M 3 (upd (M.2.1 3) 0 (M.1 17))).1 17 ≤ 0 by show M.1 17 ≤ 0; rw [c]; decide), m_171, if_pos c, if_pos c]
  · rw [if_neg (show ¬ (wR M 3 (upd (M.2.1 3) 0 (M.1 17))).1 17 ≤ 0 from fun e => by
      replace e : M.1 17 ≤ 0 := e
      rw [fa_le, t0] at e
      exact c (by rw [fa_eq, t0]; omega))]
    have := m_171 (M.1 17) (M.1 18) M
    rw [if_neg c] at this
    rw [if_neg c, if_neg c]; exact this
/-- what the reference begins with -/
theorem m_init {q : Nat} (hq : q < 4) (M : SV) : ∃ f, (∀ j, j < 121 → f j = t0q q j) ∧ gX10_readText (nI q) M = ((gX10_token (wI (wI (wI (wI (wI (wR M 19 f) 21 (-1)) 22 (-1)) 23 (-1)) 10 0) 17 0)).bind fun S79 => b2 (gX10_lines (nI q) S79) fun x84 S84 => if x84 = 0 then gbX10_readText_122 x84 S84 else if nI q = 0 then (if (S84.1 17) = 0 then (gX10_endFault S84).bind fun x104 => if x104 ≤ 0 then gbX10_readText_122 x84 S84 else (gX10_endFault S84).bind fun x112 => (gX10_later x112 (S84.1 12) S84).bind fun S119 => gbX10_readText_122 x84 S119 else gbX10_readText_122 x84 S84) else gbX10_readText_122 x84 S84) := by
  have key := lpR (fun u (w : Int32 × SV) => gfX10_readText_2 u (nI q) w.1 w.2) (fun i w => w.1 = nI i ∧ ∃ f, w.2 = wR M 19 f ∧ ∀ j, j < i → f j = t0q q j) (fun b => ∃ f, (∀ j, j < 121 → f j = t0q q j) ∧ b = ((gX10_token (wI (wI (wI (wI (wI (wR M 19 f) 21 (-1)) 22 (-1)) 23 (-1)) 10 0) 17 0)).bind fun S79 => b2 (gX10_lines (nI q) S79) fun x84 S84 => if x84 = 0 then gbX10_readText_122 x84 S84 else if nI q = 0 then (if (S84.1 17) = 0 then (gX10_endFault S84).bind fun x104 => if x104 ≤ 0 then gbX10_readText_122 x84 S84 else (gX10_endFault S84).bind fun x112 => (gX10_later x112 (S84.1 12) S84).bind fun S119 => gbX10_readText_122 x84 S119 else gbX10_readText_122 x84 S84) else gbX10_readText_122 x84 S84)) 121 ?_ ?_ (0, M) ⟨rfl, M.2.1 19, wR_id.symm, fun j hj => by omega⟩ FU (by rw [FUn]; omega)
  · exact key
  · rintro i hi ⟨l, M1⟩ ⟨e1, f, e2, e3⟩
    replace e1 : l = nI i := e1
    replace e2 : M1 = wR M 19 f := e2
    subst e1 e2
    left
    refine ⟨(nI (i + 1), wR M 19 (upd f i (t0q q i))), fun u => ?_, rfl, _, rfl, fun j hj => ?_⟩
    · show gbX10_readText_2 _ _ _ _ = _
      unfold gbX10_readText_2
      rw [if_neg (show ¬ (121 : Int32) ≤ nI i from nI_ge (b := 121) hi (by omega))]
      have e32 : ∀ x : Int32, (if nI q = 0 then (if nI i = 5 then (3 : Int32) else 0) else 0) = x → gbX10_readText_32 (gfX10_readText_2 u) (nI q) (nI i) 19 (nI i) (wR M 19 f) = gfX10_readText_2 u (nI q) (nI (i + 1)) (wR M 19 (upd f i x)) := by
        intro x hx
        unfold gbX10_readText_32
        have hw : ∀ y, wA 19 (aLen 9 19) (wR M 19 f) (nI i) y = some (wR M 19 (upd f i y)) := fun y => by
          rw [wA_nI (show i < aLen 9 19 from hi) (by decide), wR_eq, wR_wR]
        rw [hw, hw]
        simp only [Option.bind_some]
        rw [nmE, nmE, ← nI_succ]
        split at hx
        · rw [if_pos (by assumption)]
          split at hx
          · rw [if_pos (by assumption), hx]
          · rw [if_neg (by assumption), hx]
        · rw [if_neg (by assumption), hx]
      by_cases cq : q = 0
      · rw [if_pos (show nI q = 0 by rw [cq]; rfl), m_in]
        by_cases cr : 30 ≤ i ∧ i ≤ 37
        · rw [if_pos (show (30 : Int32) ≤ nI i ∧ nI i ≤ 37 from ⟨nI_le (a := 30) cr.1 (by omega), nI_le (b := 37) cr.2 (by omega)⟩), if_neg (show ¬ (1 : Int32) = 0 by decide), wA_nI hi (by omega), wR_eq, wR_wR]
          simp only [Option.bind_some]
          rw [nmE, ← nI_succ, show t0q q i = -1 from by unfold t0q; rw [if_pos ⟨cq, cr⟩]]
        · rw [if_neg (show ¬ ((30 : Int32) ≤ nI i ∧ nI i ≤ 37) from fun e => cr ⟨(nI_leI (a := 30) (by omega) (by omega)).mp e.1, (nI_leI (b := 37) (by omega) (by omega)).mp e.2⟩), if_pos rfl]
          refine e32 _ ?_
          unfold t0q
          rw [if_pos (show nI q = 0 by rw [cq]; rfl), if_neg (show ¬ (q = 0 ∧ 30 ≤ i ∧ i ≤ 37) from fun e => cr e.2)]
          by_cases c5 : i = 5
          · rw [if_pos (show nI i = 5 by rw [c5]; rfl), if_pos ⟨cq, c5⟩]
          · rw [if_neg (show ¬ nI i = 5 from fun e => c5 ((nI_eq (b := 5) (by omega) (by omega)).mp e)), if_neg (fun e => c5 e.2)]
      · have nq : ¬ nI q = 0 := fun e => cq ((nI_eq (b := 0) (by omega) (by omega)).mp e)
        rw [if_neg nq]
        refine e32 _ ?_
        unfold t0q
        rw [if_neg nq, if_neg (fun e => cq e.1), if_neg (fun e => cq e.1)]
    · by_cases e : j = i
      · subst e; rw [pk_us]
      · rw [pk_un e]; exact e3 j (by omega)
  · rintro ⟨l, M1⟩ ⟨e1, f, e2, e3⟩
    replace e1 : l = nI 121 := e1
    replace e2 : M1 = wR M 19 f := e2
    subst e1 e2
    refine ⟨_, fun u => ?_, f, e3, rfl⟩
    show gbX10_readText_2 _ _ _ _ = _
    unfold gbX10_readText_2
    rw [if_pos (show (121 : Int32) ≤ nI 121 by decide), nmE, nmE, nmE, nmE, nmE]
/-- what both know behind the lines -/
def RO (F : Nat → Int32) (L q : Nat) (M S' : SV) : Prop :=
  (∃ (w : Nat) (M' : SV), S'.1 13 = 1 ∧ S'.1 14 = nI w ∧ gX10_readText (nI q) M = some (0, rdE 1 (nI w) M') ∧ FrL M M') ∨
  (∃ (ls : List LiN) (M' : SV), S'.1 5 = nI ls.length ∧ ls.length ≤ 120 ∧ HLs ls S' ∧ LQ q ls ∧ FT (ls.foldl stL (s0q q)).1 S' ∧ RMs q (ls.foldl stL (s0q q)) M' ∧ M'.1 12 = nI L ∧ FrL M M' ∧ gX10_readText (nI q) M = (if nI q = 0 then (if (M'.1 17) = 0 then (gX10_endFault M').bind fun x104 => if x104 ≤ 0 then gbX10_readText_122 1 M' else (gX10_endFault M').bind fun x112 => (gX10_later x112 (M'.1 12) M').bind fun S119 => gbX10_readText_122 1 S119 else gbX10_readText_122 1 M') else gbX10_readText_122 1 M'))
theorem read_both (h : RT F L z) {q : Nat} (hq : q < 4) {S : SV} (hR : RD 3 38 ρ S z) (hT : MT F L M) : ∃ S' ρ', fX4_read 38 17 (nI L) (nI q) z = some (wr 3 38 ρ' S' z) ∧ S'.1 6 = nI q ∧ S'.1 8 = nI L ∧ RO F L q M S' := by
  have hz := s38 h
  have hL := h.2.1
  obtain ⟨sf1, sf2⟩ := sf0 q
  obtain ⟨f, i1, i2⟩ := m_init hq M
  -- the reference's first token
  generalize hM1 : wI (wI (wI (wI (wI (wR M 19 f) 21 (-1)) 22 (-1)) 23 (-1)) 10 0) 17 0 = M1 at i2
  have F1 : FrL M M1 := by
    rw [← hM1]
    exact (((((FrL.rf.wr_ (Or.inl rfl) f).wi (by omega) _).wi (by omega) _).wi (by omega) _).wi (by omega) _).wi (by omega) _
  have m10 : M1.1 10 = nI 0 := by rw [← hM1, wI_ne (by decide), wI_eq]; rfl
  have hrm : RMs q (s0q q) M1 := by
    rw [← hM1]
    refine ⟨⟨rfl, fun e => absurd rfl e⟩, fun j hj => ?_, fun _ => ⟨?_, ?_, ?_⟩⟩
    · show (wR M 19 f).2.1 19 j = _; rw [wR_eq]; exact i1 j hj
    · rw [wI_ne (by decide), wI_ne (by decide), wI_ne (by decide), wI_ne (by decide), wI_eq]; rfl
    · rw [wI_ne (by decide), wI_ne (by decide), wI_ne (by decide), wI_eq]; rfl
    · rw [wI_ne (by decide), wI_ne (by decide), wI_eq]; rfl
  obtain ⟨M2, k1, k2, k3⟩ := m_tok (hT.tl F1) (Nat.zero_le L) m10
  have hrm2 : RMs q (s0q q) M2 := by
    obtain ⟨⟨a1, a2⟩, a3, a4⟩ := hrm
    refine ⟨⟨by rw [k3.1 17 (by decide) (by decide) (by decide) (by decide)]; exact a1, fun e => absurd rfl e⟩, fun j hj => by rw [k3.2]; exact a3 j hj, fun e => ?_⟩
    rw [k3.1 21 (by decide) (by decide) (by decide) (by decide), k3.1 22 (by decide) (by decide) (by decide) (by decide), k3.1 23 (by decide) (by decide) (by decide) (by decide)]; exact a4 e
  -- the class's beginning
  have e1 : pF 3 7 z 38 (.ref 17) = some (wr 3 38 (va_up ρ.1 7 (some 17), ρ.2) S z) := by
    have := pF_ref (ρ := ρ) (S := S) hz (k := 7) rfl (some 17)
    rw [wr_id hR] at this; exact this
  have hρ : (va_up ρ.1 7 (some 17), ρ.2).1 7 = some 17 := by simp [va_up]
  generalize ((va_up ρ.1 7 (some 17), ρ.2) : RV) = ρ1 at e1 hρ
  have hlen : lnI 1 (wr 3 38 ρ1 S z) 17 = some (Int32.ofNat 600) := by
    refine lnI_rw (n := 600) (f := F) ?_
    show (wr 3 38 ρ1 S z)[17]? = _
    rw [wr_out (Or.inl (by omega))]; exact h.1
  have emin : imin (nI L) (Int32.ofNat 600) = nI L := by
    have := imin_nI (p := L) (q := 600) (by omega) (by omega)
    rw [Nat.min_eq_left hL] at this; exact this
  generalize hS1 : wI (wI (wI (wI (wI (wI S 8 (nI L)) 6 (nI q)) 9 0) 5 0) 13 0) 14 (-1) = S1
  have s8 : S1.1 8 = nI L := by rw [← hS1, wI_ne (by decide), wI_ne (by decide), wI_ne (by decide), wI_ne (by decide), wI_ne (by decide), wI_eq]
  have s6 : S1.1 6 = nI q := by rw [← hS1, wI_ne (by decide), wI_ne (by decide), wI_ne (by decide), wI_ne (by decide), wI_eq]
  have s9' : S1.1 9 = nI 0 := by rw [← hS1, wI_ne (by decide), wI_ne (by decide), wI_ne (by decide), wI_eq]; rfl
  have s5' : S1.1 5 = 0 := by rw [← hS1, wI_ne (by decide), wI_ne (by decide), wI_eq]
  have s13 : S1.1 13 = 0 := by rw [← hS1, wI_ne (by decide), wI_eq]
  have s14 : S1.1 14 = -1 := by rw [← hS1, wI_eq]
  obtain ⟨S2, t1, t2, t3⟩ := c_next (S := S1) h hρ s8 (Nat.zero_le L) s9'
  have hle := lines_f h hρ hq (s0q q) M1 121 [] 0 S2 M2 (by simp) (by omega) (Nat.zero_le L) (by rw [t3.1 8 (by omega)]; exact s8) (by rw [t3.1 6 (by omega)]; exact s6) (by rw [t3.1 13 (by omega)]; exact s13) (by rw [t3.1 14 (by omega)]; exact s14) (by rw [t3.1 5 (by omega)]; exact s5') t2 (fun j ln hj => by simp at hj) (fun ln hm => by cases hm) ((hT.tl F1).to k3) k2 hrm2 sf1 (fun e => absurd rfl e) (fun _ => by simp) k3.l FU FU (by rw [FUn]; omega) (by rw [FUn]; omega)
  obtain ⟨S3, o1, o2, o3, o4⟩ := hle
  have eread : fX4_read 38 17 (nI L) (nI q) z = ((fX4_readLines_6 FU 38 (nI ([] : List LiN).length) (wr 3 38 ρ1 S2 z)).bind fun z65 => (gI 3 13 z65 38).bind fun x69 => if x69 = 0 then (fX4_checkLines 38 z65).bind fun z76 => some z76 else some z65) := by
    unfold fX4_read
    rw [if_pos (isO_rd hR), e1]
    simp only [Option.bind_some]
    rw [hlen]
    simp only [Option.bind_some]
    rw [emin]
    unfold bX4_read_20
    rw [pF_int hz rfl]
    simp only [Option.bind_some]
    rw [if_neg (nI_pos (by omega)), if_neg (show ¬ Int32.ofNat (sLen 0) ≤ nI q from nI_ge (b := 4) hq (by omega))]
    unfold bX4_read_41
    rw [pF_int hz rfl]
    simp only [Option.bind_some]
    rw [pF_int hz rfl]
    simp only [Option.bind_some]
    rw [pF_int hz rfl]
    simp only [Option.bind_some]
    rw [pF_int hz rfl]
    simp only [Option.bind_some]
    rw [pF_int hz rfl]
    simp only [Option.bind_some]
    rw [hS1]
    unfold fX4_readLines
    rw [if_pos (isO_rd (rd_wr hz)), t1]
    rfl
  rw [eread, o1, Option.bind_some]
  have eref : gX10_readText (nI q) M = b2 (gfX10_lines_2 FU (nI q) 1 M2) fun x84 S84 => if x84 = 0 then gbX10_readText_122 x84 S84 else if nI q = 0 then (if (S84.1 17) = 0 then (gX10_endFault S84).bind fun x104 => if x104 ≤ 0 then gbX10_readText_122 x84 S84 else (gX10_endFault S84).bind fun x112 => (gX10_later x112 (S84.1 12) S84).bind fun S119 => gbX10_readText_122 x84 S119 else gbX10_readText_122 x84 S84) else gbX10_readText_122 x84 S84 := by
    rw [i2, k1, Option.bind_some]; rfl
  rw [gI_rd (rd_wr hz) (k := 13) rfl, Option.bind_some]
  rcases o4 with ⟨ls, M', a1, a2, a3, a4, a5, a6, a7, a8, a9, a10⟩ | ⟨w, M', a1, a2, a3, a4, a5⟩
  · obtain ⟨S4, c1, c2, c3⟩ := c_check (ρ := ρ1) h hq a4 a6 a5 a3 a1 a2 (s0 := s0q q) rfl sf1 sf2
    rw [a1, if_pos rfl, c1, Option.bind_some]
    refine ⟨S4, ρ1, rfl, by rw [c3.1 6 (by decide) (by decide)]; exact o2, by rw [c3.1 8 (by decide) (by decide)]; exact o3, Or.inr ⟨ls, M', by rw [c3.1 5 (by decide) (by decide)]; exact a3, a4, fun j ln hj => (a5 j ln hj).c4 c3, a6, c2, a8, a9, F1.tr a10, ?_⟩⟩
    rw [eref, a7, b2_some, if_neg (show ¬ (1 : Int32) = 0 by decide)]
  · rw [a1, if_neg (show ¬ (1 : Int32) = 0 by decide)]
    refine ⟨S3, ρ1, rfl, o2, o3, Or.inl ⟨w, M', a1, a2, ?_, F1.tr a5⟩⟩
    rw [eref, a3, b2_some, if_pos rfl, m_122_no, a4]
end RB
