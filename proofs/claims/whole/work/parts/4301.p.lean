/-! ===== what queries leave as it is ===== -/
/-- the rows that are kept from call to call -/
def isP (k : Nat) : Bool := (decide (1 ≤ k) && decide (k ≤ 9)) || decide (k = 55)
def PE (S S' : SV) : Prop := ∀ k, isP k = true → S'.2.1 k = S.2.1 k
theorem PE.rf {S : SV} : PE S S := fun _ _ => rfl
theorem PE.tr {S S1 S2 : SV} (h : PE S S1) (h2 : PE S1 S2) : PE S S2 := fun k hk => (h2 k hk).trans (h k hk)
theorem pe_wI {S S2 : SV} {k : Nat} {x : Int32} (h : S2 = wI S k x) : PE S S2 := by subst h; exact fun _ _ => rfl
theorem pe_wL {S S2 : SV} {x : Int64} (h : S2 = wL S x) : PE S S2 := by subst h; exact fun _ _ => rfl
theorem pe_wA {S S2 : SV} {k n : Nat} {i x : Int32} (hk : isP k = false) (h : wA k n S i x = some S2) : PE S S2 := by
  obtain ⟨-, h⟩ := ck h
  cases h
  intro j hj
  have : j ≠ k := fun e => by rw [e, hk] at hj; cases hj
  simp [wR, this]
theorem nm_ex {α β : Type} {e : α} {k : α → β} {r : β} (h : nm e k = r) : ∃ x, x = e ∧ k x = r := ⟨e, rfl, h⟩
theorem ite_or {P : Prop} [Decidable P] {β : Type} {A B x : β} (h : (if P then A else B) = x) : (P ∧ A = x) ∨ (¬ P ∧ B = x) := by
  by_cases c : P
  · exact Or.inl ⟨c, ite_t c h⟩
  · exact Or.inr ⟨c, ite_f c h⟩
theorem pbX10_token_205 {S' : SV} {k163' : Int32 → SV → Option SV} (hk163 : ∀ (l2 : Int32) (S : SV), k163' l2 S = some S' → PE S S') {l2 : Int32} {s1 : Int32} {S : SV} (h : gbX10_token_205 k163' l2 s1 S = some S') : PE S S' := by
  unfold gbX10_token_205 at h
  have q : PE S S := PE.rf
  obtain ⟨S205, ew, h⟩ := nm_ex h
  have q := q.tr (pe_wI ew)
  obtain ⟨S215, ew, h⟩ := nm_ex h
  have q := q.tr (pe_wI ew)
  obtain ⟨v218, -, h⟩ := nm_ex h
  exact q.tr (hk163 _ _ h)
theorem pbX10_token_163 {S' : SV} {k163' : Int32 → SV → Option SV} (hk163 : ∀ (l2 : Int32) (S : SV), k163' l2 S = some S' → PE S S') {l2 : Int32} {S : SV} (h : gbX10_token_163 k163' l2 S = some S') : PE S S' := by
  unfold gbX10_token_163 at h
  have q : PE S S := PE.rf
  obtain ⟨x164, -, h⟩ := ob h
  rcases ite_or h with ⟨-, h⟩ | ⟨-, h⟩
  · skip
    rcases ite_or h with ⟨-, h⟩ | ⟨-, h⟩
    · skip
      obtain ⟨S235, ew, h⟩ := nm_ex h
      have q := q.tr (pe_wI ew)
      cases h <;> exact q
    · skip
      obtain ⟨S235, ew, h⟩ := nm_ex h
      have q := q.tr (pe_wI ew)
      cases h <;> exact q
  · skip
    rcases ite_or h with ⟨-, h⟩ | ⟨-, h⟩
    · skip
      exact q.tr (pbX10_token_205 hk163 h)
    · skip
      obtain ⟨x191, -, h⟩ := ob h
      exact q.tr (pbX10_token_205 hk163 h)
theorem pfX10_token_163 {S' : SV} : ∀ (n : Nat) (l2 : Int32) (S : SV), gfX10_token_163 n l2 S = some S' → PE S S' := by
  intro n
  induction n with
  | zero => intro l2 S h; cases h
  | succ n ih => intro l2 S h; exact pbX10_token_163 (fun l2 S h => ih l2 S h) h
theorem pbX10_token_74 {S' : SV} {k74' : Int32 → SV → Option SV} (hk74 : ∀ (l2 : Int32) (S : SV), k74' l2 S = some S' → PE S S') {l2 : Int32} {S : SV} (h : gbX10_token_74 k74' l2 S = some S') : PE S S' := by
  unfold gbX10_token_74 at h
  have q : PE S S := PE.rf
  obtain ⟨x75, -, h⟩ := ob h
  rcases ite_or h with ⟨-, h⟩ | ⟨-, h⟩
  · skip
    rcases ite_or h with ⟨-, h⟩ | ⟨-, h⟩
    · skip
      obtain ⟨S136, ew, h⟩ := nm_ex h
      have q := q.tr (pe_wL ew)
      obtain ⟨S141, ew, h⟩ := nm_ex h
      have q := q.tr (pe_wI ew)
      cases h <;> exact q
    · skip
      obtain ⟨S136, ew, h⟩ := nm_ex h
      have q := q.tr (pe_wL ew)
      obtain ⟨S141, ew, h⟩ := nm_ex h
      have q := q.tr (pe_wI ew)
      cases h <;> exact q
  · skip
    obtain ⟨x97, -, h⟩ := ob h
    obtain ⟨S102, ew, h⟩ := nm_ex h
    have q := q.tr (pe_wL ew)
    obtain ⟨S112, ew, h⟩ := nm_ex h
    have q := q.tr (pe_wI ew)
    obtain ⟨v115, -, h⟩ := nm_ex h
    exact q.tr (hk74 _ _ h)
theorem pfX10_token_74 {S' : SV} : ∀ (n : Nat) (l2 : Int32) (S : SV), gfX10_token_74 n l2 S = some S' → PE S S' := by
  intro n
  induction n with
  | zero => intro l2 S h; cases h
  | succ n ih => intro l2 S h; exact pbX10_token_74 (fun l2 S h => ih l2 S h) h
theorem pbX10_token_0 {S' : SV} {k0' : SV → Option SV} (hk0 : ∀ (S : SV), k0' S = some S' → PE S S') {S : SV} (h : gbX10_token_0 k0' S = some S') : PE S S' := by
  unfold gbX10_token_0 at h
  have q : PE S S := PE.rf
  obtain ⟨x1, -, h⟩ := ob h
  rcases ite_or h with ⟨-, h⟩ | ⟨-, h⟩
  · skip
    obtain ⟨S25, ew, h⟩ := nm_ex h
    have q := q.tr (pe_wI ew)
    exact q.tr (hk0 _ h)
  · skip
    obtain ⟨x10, -, h⟩ := ob h
    rcases ite_or h with ⟨-, h⟩ | ⟨-, h⟩
    · skip
      obtain ⟨S25, ew, h⟩ := nm_ex h
      have q := q.tr (pe_wI ew)
      exact q.tr (hk0 _ h)
    · skip
      obtain ⟨S36, ew, h⟩ := nm_ex h
      have q := q.tr (pe_wI ew)
      obtain ⟨x40, -, h⟩ := ob h
      obtain ⟨S46, ew, h⟩ := nm_ex h
      have q := q.tr (pe_wL ew)
      rcases ite_or h with ⟨-, h⟩ | ⟨-, h⟩
      · skip
        rcases ite_or h with ⟨-, h⟩ | ⟨-, h⟩
        · skip
          rcases ite_or h with ⟨-, h⟩ | ⟨-, h⟩
          · skip
            obtain ⟨S248, ew, h⟩ := nm_ex h
            have q := q.tr (pe_wI ew)
            rcases ite_or h with ⟨-, h⟩ | ⟨-, h⟩
            · skip
              obtain ⟨S263, ew, h⟩ := nm_ex h
              have q := q.tr (pe_wI ew)
              cases h <;> exact q
            · skip
              obtain ⟨S263, ew, h⟩ := nm_ex h
              have q := q.tr (pe_wI ew)
              cases h <;> exact q
          · skip
            obtain ⟨S160, ew, h⟩ := nm_ex h
            have q := q.tr (pe_wI ew)
            exact q.tr (pfX10_token_163 FU _ _ h)
        · skip
          exact q.tr (pfX10_token_74 FU _ _ h)
      · skip
        obtain ⟨S57, ew, h⟩ := nm_ex h
        have q := q.tr (pe_wI ew)
        cases h <;> exact q
theorem pfX10_token_0 {S' : SV} : ∀ (n : Nat) (S : SV), gfX10_token_0 n S = some S' → PE S S' := by
  intro n
  induction n with
  | zero => intro S h; cases h
  | succ n ih => intro S h; exact pbX10_token_0 (fun S h => ih S h) h
theorem pX10_token {S' : SV} {S : SV} (h : gX10_token S = some S') : PE S S' := by
  unfold gX10_token at h
  have q : PE S S := PE.rf
  exact q.tr (pfX10_token_0 FU _ h)
theorem pX10_fails {r : Int32} {S' : SV} {S : SV} (h : gX10_fails S = some (r, S')) : PE S S' := by
  unfold gX10_fails at h
  have q : PE S S := PE.rf
  obtain ⟨S5, ew, h⟩ := nm_ex h
  have q := q.tr (pe_wI ew)
  cases h <;> exact q
theorem pbX10_later_31 {S' : SV} {l1 : Int32} {l2 : Int32} {S : SV} (h : gbX10_later_31 l1 l2 S = some S') : PE S S' := by
  unfold gbX10_later_31 at h
  have q : PE S S := PE.rf
  obtain ⟨S33, ew, h⟩ := nm_ex h
  have q := q.tr (pe_wI ew)
  obtain ⟨S38, ew, h⟩ := nm_ex h
  have q := q.tr (pe_wI ew)
  cases h <;> exact q
theorem pX10_later {S' : SV} {l1 : Int32} {l2 : Int32} {S : SV} (h : gX10_later l1 l2 S = some S') : PE S S' := by
  unfold gX10_later at h
  have q : PE S S := PE.rf
  rcases ite_or h with ⟨-, h⟩ | ⟨-, h⟩
  · skip
    exact q.tr (pbX10_later_31 h)
  · skip
    rcases ite_or h with ⟨-, h⟩ | ⟨-, h⟩
    · skip
      exact q.tr (pbX10_later_31 h)
    · skip
      rcases ite_or h with ⟨-, h⟩ | ⟨-, h⟩
      · skip
        rcases ite_or h with ⟨-, h⟩ | ⟨-, h⟩
        · skip
          cases h <;> exact q
        · skip
          exact q.tr (pbX10_later_31 h)
      · skip
        cases h <;> exact q
theorem pbX10_takeBut_58 {r : Int32} {S' : SV} {S : SV} (h : gbX10_takeBut_58 S = some (r, S')) : PE S S' := by
  unfold gbX10_takeBut_58 at h
  have q : PE S S := PE.rf
  obtain ⟨S59, hw, h⟩ := ob h
  have q := q.tr (pX10_token hw)
  cases h <;> exact q
theorem pbX10_takeBut_44 {r : Int32} {S' : SV} {S : SV} (h : gbX10_takeBut_44 S = some (r, S')) : PE S S' := by
  unfold gbX10_takeBut_44 at h
  have q : PE S S := PE.rf
  obtain ⟨S50, hw, h⟩ := ob h
  have q := q.tr (pX10_later hw)
  obtain ⟨S55, ew, h⟩ := nm_ex h
  have q := q.tr (pe_wI ew)
  exact q.tr (pbX10_takeBut_58 h)
theorem pX10_takeBut {r : Int32} {S' : SV} {l1 : Int32} {l2 : Int32} {l3 : Int32} {l4 : Int32} {S : SV} (h : gX10_takeBut l1 l2 l3 l4 S = some (r, S')) : PE S S' := by
  unfold gX10_takeBut at h
  have q : PE S S := PE.rf
  rcases ite_or h with ⟨-, h⟩ | ⟨-, h⟩
  · skip
    obtain ⟨S22, hw, h⟩ := ob h
    have q := q.tr (pe_wA rfl hw)
    rcases ite_or h with ⟨-, h⟩ | ⟨-, h⟩
    · skip
      exact q.tr (pbX10_takeBut_44 h)
    · skip
      rcases ite_or h with ⟨-, h⟩ | ⟨-, h⟩
      · skip
        exact q.tr (pbX10_takeBut_44 h)
      · skip
        exact q.tr (pbX10_takeBut_58 h)
  · skip
    obtain ⟨x9, S9, hw, h⟩ := ob2 h
    have q := q.tr (pX10_fails hw)
    rcases ite_or h with ⟨-, h⟩ | ⟨-, h⟩
    · cases h <;> exact q
    · cases h
theorem pX10_take {r : Int32} {S' : SV} {l1 : Int32} {l2 : Int32} {l3 : Int32} {S : SV} (h : gX10_take l1 l2 l3 S = some (r, S')) : PE S S' := by
  unfold gX10_take at h
  have q : PE S S := PE.rf
  obtain ⟨x5, S5, hw, h⟩ := ob2 h
  have q := q.tr (pX10_takeBut hw)
  rcases ite_or h with ⟨-, h⟩ | ⟨-, h⟩
  · cases h <;> exact q
  · cases h
theorem pX10_takeThing {r : Int32} {S' : SV} {l1 : Int32} {l2 : Int32} {S : SV} (h : gX10_takeThing l1 l2 S = some (r, S')) : PE S S' := by
  unfold gX10_takeThing at h
  have q : PE S S := PE.rf
  obtain ⟨x6, S6, hw, h⟩ := ob2 h
  have q := q.tr (pX10_takeBut hw)
  rcases ite_or h with ⟨-, h⟩ | ⟨-, h⟩
  · skip
    cases h <;> exact q
  · skip
    obtain ⟨x24, -, h⟩ := ob h
    obtain ⟨S28, ew, h⟩ := nm_ex h
    have q := q.tr (pe_wI ew)
    cases h <;> exact q
theorem pX10_takeLeft {r : Int32} {S' : SV} {l1 : Int32} {S : SV} (h : gX10_takeLeft l1 S = some (r, S')) : PE S S' := by
  unfold gX10_takeLeft at h
  have q : PE S S := PE.rf
  obtain ⟨x4, S4, hw, h⟩ := ob2 h
  have q := q.tr (pX10_take hw)
  rcases ite_or h with ⟨-, h⟩ | ⟨-, h⟩
  · skip
    cases h <;> exact q
  · skip
    obtain ⟨x22, -, h⟩ := ob h
    obtain ⟨S26, ew, h⟩ := nm_ex h
    have q := q.tr (pe_wI ew)
    cases h <;> exact q
theorem pX10_takeRight {r : Int32} {S' : SV} {l1 : Int32} {S : SV} (h : gX10_takeRight l1 S = some (r, S')) : PE S S' := by
  unfold gX10_takeRight at h
  have q : PE S S := PE.rf
  obtain ⟨x4, S4, hw, h⟩ := ob2 h
  have q := q.tr (pX10_take hw)
  rcases ite_or h with ⟨-, h⟩ | ⟨-, h⟩
  · skip
    cases h <;> exact q
  · skip
    obtain ⟨x22, -, h⟩ := ob h
    obtain ⟨S26, ew, h⟩ := nm_ex h
    have q := q.tr (pe_wI ew)
    cases h <;> exact q
theorem pX10_full {S' : SV} {l1 : Int32} {l2 : Int32} {l3 : Int32} {S : SV} (h : gX10_full l1 l2 l3 S = some S') : PE S S' := by
  unfold gX10_full at h
  have q : PE S S := PE.rf
  obtain ⟨x5, -, h⟩ := ob h
  rcases ite_or h with ⟨-, h⟩ | ⟨-, h⟩
  · skip
    obtain ⟨S13, hw, h⟩ := ob h
    have q := q.tr (pX10_later hw)
    cases h <;> exact q
  · skip
    cases h <;> exact q
theorem pbX10_keep_52 {r : Int32} {S' : SV} {l1 : Int32} {l4 : Int32} {l5 : Int32} {S : SV} (h : gbX10_keep_52 l1 l4 l5 S = some (r, S')) : PE S S' := by
  unfold gbX10_keep_52 at h
  have q : PE S S := PE.rf
  obtain ⟨x58, -, h⟩ := ob h
  rcases ite_or h with ⟨-, h⟩ | ⟨-, h⟩
  · skip
    obtain ⟨S72, hw, h⟩ := ob h
    have q := q.tr (pe_wA rfl hw)
    cases h <;> exact q
  · skip
    obtain ⟨S72, hw, h⟩ := ob h
    have q := q.tr (pe_wA rfl hw)
    cases h <;> exact q
theorem pbX10_keep_11 {r : Int32} {S' : SV} {k11' : Int32 → Int32 → Int32 → Int32 → Int32 → Int32 → SV → Option (Int32 × SV)} (hk11 : ∀ (l1 : Int32) (l2 : Int32) (l3 : Int32) (l4 : Int32) (l5 : Int32) (l6 : Int32) (S : SV), k11' l1 l2 l3 l4 l5 l6 S = some (r, S') → PE S S') {l1 : Int32} {l2 : Int32} {l3 : Int32} {l4 : Int32} {l5 : Int32} {l6 : Int32} {S : SV} (h : gbX10_keep_11 k11' l1 l2 l3 l4 l5 l6 S = some (r, S')) : PE S S' := by
  unfold gbX10_keep_11 at h
  have q : PE S S := PE.rf
  rcases ite_or h with ⟨-, h⟩ | ⟨-, h⟩
  · skip
    exact q.tr (pbX10_keep_52 h)
  · skip
    rcases ite_or h with ⟨-, h⟩ | ⟨-, h⟩
    · skip
      exact q.tr (pbX10_keep_52 h)
    · skip
      obtain ⟨x44, -, h⟩ := ob h
      obtain ⟨S45, hw, h⟩ := ob h
      have q := q.tr (pe_wA rfl hw)
      obtain ⟨v46, -, h⟩ := nm_ex h
      exact q.tr (hk11 _ _ _ _ _ _ _ h)
theorem pfX10_keep_11 {r : Int32} {S' : SV} : ∀ (n : Nat) (l1 : Int32) (l2 : Int32) (l3 : Int32) (l4 : Int32) (l5 : Int32) (l6 : Int32) (S : SV), gfX10_keep_11 n l1 l2 l3 l4 l5 l6 S = some (r, S') → PE S S' := by
  intro n
  induction n with
  | zero => intro l1 l2 l3 l4 l5 l6 S h; cases h
  | succ n ih => intro l1 l2 l3 l4 l5 l6 S h; exact pbX10_keep_11 (fun l1 l2 l3 l4 l5 l6 S h => ih l1 l2 l3 l4 l5 l6 S h) h
theorem pX10_keep {r : Int32} {S' : SV} {l1 : Int32} {l2 : Int32} {l3 : Int32} {l4 : Int32} {S : SV} (h : gX10_keep l1 l2 l3 l4 S = some (r, S')) : PE S S' := by
  unfold gX10_keep at h
  have q : PE S S := PE.rf
  obtain ⟨x5, -, h⟩ := ob h
  exact q.tr (pfX10_keep_11 FU _ _ _ _ _ _ _ h)
theorem pX10_put {r : Int32} {S' : SV} {l1 : Int32} {l2 : Int32} {S : SV} (h : gX10_put l1 l2 S = some (r, S')) : PE S S' := by
  unfold gX10_put at h
  have q : PE S S := PE.rf
  rcases ite_or h with ⟨-, h⟩ | ⟨-, h⟩
  · skip
    cases h <;> exact q
  · skip
    obtain ⟨S13, hw, h⟩ := ob h
    have q := q.tr (pe_wA rfl hw)
    cases h <;> exact q
theorem pbX10_countryLine_379 {r : Int32} {S' : SV} {j1 : Int64} {S : SV} (h : gbX10_countryLine_379 j1 S = some (r, S')) : PE S S' := by
  unfold gbX10_countryLine_379 at h
  have q : PE S S := PE.rf
  obtain ⟨S380, hw, h⟩ := ob h
  have q := q.tr (pX10_token hw)
  rcases ite_or h with ⟨-, h⟩ | ⟨-, h⟩
  · skip
    obtain ⟨x394, S394, hw, h⟩ := ob2 h
    have q := q.tr (pX10_takeThing hw)
    rcases ite_or h with ⟨-, h⟩ | ⟨-, h⟩
    · skip
      cases h <;> exact q
    · skip
      obtain ⟨x407, -, h⟩ := ob h
      obtain ⟨x408, S408, hw, h⟩ := ob2 h
      have q := q.tr (pX10_takeThing hw)
      rcases ite_or h with ⟨-, h⟩ | ⟨-, h⟩
      · skip
        cases h <;> exact q
      · skip
        obtain ⟨x422, -, h⟩ := ob h
        obtain ⟨x432, -, h⟩ := ob h
        obtain ⟨x433, S433, hw, h⟩ := ob2 h
        have q := q.tr (pX10_put hw)
        rcases ite_or h with ⟨-, h⟩ | ⟨-, h⟩
        · skip
          cases h <;> exact q
        · skip
          cases h <;> exact q
  · skip
    rcases ite_or h with ⟨-, h⟩ | ⟨-, h⟩
    · skip
      obtain ⟨x458, S458, hw, h⟩ := ob2 h
      have q := q.tr (pX10_take hw)
      rcases ite_or h with ⟨-, h⟩ | ⟨-, h⟩
      · skip
        cases h <;> exact q
      · skip
        obtain ⟨x471, -, h⟩ := ob h
        obtain ⟨x472, S472, hw, h⟩ := ob2 h
        have q := q.tr (pX10_put hw)
        rcases ite_or h with ⟨-, h⟩ | ⟨-, h⟩
        · skip
          cases h <;> exact q
        · skip
          cases h <;> exact q
    · skip
      rcases ite_or h with ⟨-, h⟩ | ⟨-, h⟩
      · skip
        obtain ⟨x494, S494, hw, h⟩ := ob2 h
        have q := q.tr (pX10_takeLeft hw)
        rcases ite_or h with ⟨-, h⟩ | ⟨-, h⟩
        · skip
          cases h <;> exact q
        · skip
          obtain ⟨x502, S502, hw, h⟩ := ob2 h
          have q := q.tr (pX10_takeRight hw)
          rcases ite_or h with ⟨-, h⟩ | ⟨-, h⟩
          · skip
            cases h <;> exact q
          · skip
            obtain ⟨x513, S513, hw, h⟩ := ob2 h
            have q := q.tr (pX10_take hw)
            rcases ite_or h with ⟨-, h⟩ | ⟨-, h⟩
            · skip
              cases h <;> exact q
            · skip
              obtain ⟨x528, -, h⟩ := ob h
              obtain ⟨x538, -, h⟩ := ob h
              obtain ⟨x547, -, h⟩ := ob h
              obtain ⟨x548, S548, hw, h⟩ := ob2 h
              have q := q.tr (pX10_put hw)
              rcases ite_or h with ⟨-, h⟩ | ⟨-, h⟩
              · skip
                cases h <;> exact q
              · skip
                cases h <;> exact q
      · skip
        obtain ⟨x562, S562, hw, h⟩ := ob2 h
        have q := q.tr (pX10_takeRight hw)
        rcases ite_or h with ⟨-, h⟩ | ⟨-, h⟩
        · skip
          cases h <;> exact q
        · skip
          obtain ⟨x570, S570, hw, h⟩ := ob2 h
          have q := q.tr (pX10_takeLeft hw)
          rcases ite_or h with ⟨-, h⟩ | ⟨-, h⟩
          · skip
            cases h <;> exact q
          · skip
            obtain ⟨x581, S581, hw, h⟩ := ob2 h
            have q := q.tr (pX10_take hw)
            rcases ite_or h with ⟨-, h⟩ | ⟨-, h⟩
            · skip
              cases h <;> exact q
            · skip
              obtain ⟨x596, -, h⟩ := ob h
              obtain ⟨x606, -, h⟩ := ob h
              obtain ⟨x615, -, h⟩ := ob h
              obtain ⟨x616, S616, hw, h⟩ := ob2 h
              have q := q.tr (pX10_put hw)
              rcases ite_or h with ⟨-, h⟩ | ⟨-, h⟩
              · skip
                cases h <;> exact q
              · skip
                cases h <;> exact q
theorem pbX10_countryLine_116 {r : Int32} {S' : SV} {l3 : Int32} {l4 : Int32} {s1 : Int32} {s2 : Int32} {S : SV} (h : gbX10_countryLine_116 l3 l4 s1 s2 S = some (r, S')) : PE S S' := by
  unfold gbX10_countryLine_116 at h
  have q : PE S S := PE.rf
  obtain ⟨S117, hw, h⟩ := ob h
  have q := q.tr (pX10_full hw)
  obtain ⟨S121, hw, h⟩ := ob h
  have q := q.tr (pX10_token hw)
  rcases ite_or h with ⟨-, h⟩ | ⟨-, h⟩
  · skip
    obtain ⟨x161, S161, hw, h⟩ := ob2 h
    have q := q.tr (pX10_take hw)
    rcases ite_or h with ⟨-, h⟩ | ⟨-, h⟩
    · skip
      cases h <;> exact q
    · skip
      obtain ⟨x172, S172, hw, h⟩ := ob2 h
      have q := q.tr (pX10_take hw)
      rcases ite_or h with ⟨-, h⟩ | ⟨-, h⟩
      · skip
        cases h <;> exact q
      · skip
        obtain ⟨x183, S183, hw, h⟩ := ob2 h
        have q := q.tr (pX10_take hw)
        rcases ite_or h with ⟨-, h⟩ | ⟨-, h⟩
        · skip
          cases h <;> exact q
        · skip
          obtain ⟨x196, S196, hw, h⟩ := ob2 h
          have q := q.tr (pX10_keep hw)
          rcases ite_or h with ⟨-, h⟩ | ⟨-, h⟩
          · skip
            cases h <;> exact q
          · skip
            cases h <;> exact q
  · skip
    rcases ite_or h with ⟨-, h⟩ | ⟨-, h⟩
    · skip
      obtain ⟨x211, S211, hw, h⟩ := ob2 h
      have q := q.tr (pX10_takeThing hw)
      rcases ite_or h with ⟨-, h⟩ | ⟨-, h⟩
      · skip
        cases h <;> exact q
      · skip
        obtain ⟨x224, -, h⟩ := ob h
        obtain ⟨x225, S225, hw, h⟩ := ob2 h
        have q := q.tr (pX10_takeThing hw)
        rcases ite_or h with ⟨-, h⟩ | ⟨-, h⟩
        · skip
          cases h <;> exact q
        · skip
          obtain ⟨x238, S238, hw, h⟩ := ob2 h
          have q := q.tr (pX10_keep hw)
          rcases ite_or h with ⟨-, h⟩ | ⟨-, h⟩
          · skip
            cases h <;> exact q
          · skip
            cases h <;> exact q
    · skip
      rcases ite_or h with ⟨-, h⟩ | ⟨-, h⟩
      · skip
        obtain ⟨x255, S255, hw, h⟩ := ob2 h
        have q := q.tr (pX10_take hw)
        rcases ite_or h with ⟨-, h⟩ | ⟨-, h⟩
        · skip
          cases h <;> exact q
        · skip
          obtain ⟨x267, S267, hw, h⟩ := ob2 h
          have q := q.tr (pX10_keep hw)
          rcases ite_or h with ⟨-, h⟩ | ⟨-, h⟩
          · skip
            cases h <;> exact q
          · skip
            cases h <;> exact q
      · skip
        rcases ite_or h with ⟨-, h⟩ | ⟨-, h⟩
        · skip
          obtain ⟨x284, S284, hw, h⟩ := ob2 h
          have q := q.tr (pX10_take hw)
          rcases ite_or h with ⟨-, h⟩ | ⟨-, h⟩
          · skip
            cases h <;> exact q
          · skip
            obtain ⟨x296, S296, hw, h⟩ := ob2 h
            have q := q.tr (pX10_keep hw)
            rcases ite_or h with ⟨-, h⟩ | ⟨-, h⟩
            · skip
              cases h <;> exact q
            · skip
              cases h <;> exact q
        · skip
          obtain ⟨x310, S310, hw, h⟩ := ob2 h
          have q := q.tr (pX10_takeLeft hw)
          rcases ite_or h with ⟨-, h⟩ | ⟨-, h⟩
          · skip
            cases h <;> exact q
          · skip
            obtain ⟨x318, S318, hw, h⟩ := ob2 h
            have q := q.tr (pX10_takeRight hw)
            rcases ite_or h with ⟨-, h⟩ | ⟨-, h⟩
            · skip
              cases h <;> exact q
            · skip
              obtain ⟨x330, S330, hw, h⟩ := ob2 h
              have q := q.tr (pX10_keep hw)
              rcases ite_or h with ⟨-, h⟩ | ⟨-, h⟩
              · skip
                cases h <;> exact q
              · skip
                cases h <;> exact q
theorem pbX10_countryLine_89 {r : Int32} {S' : SV} {l3 : Int32} {s0 : Int32} {S : SV} (h : gbX10_countryLine_89 l3 s0 S = some (r, S')) : PE S S' := by
  unfold gbX10_countryLine_89 at h
  have q : PE S S := PE.rf
  rcases ite_or h with ⟨-, h⟩ | ⟨-, h⟩
  · skip
    exact q.tr (pbX10_countryLine_116 h)
  · skip
    rcases ite_or h with ⟨-, h⟩ | ⟨-, h⟩
    · skip
      exact q.tr (pbX10_countryLine_116 h)
    · skip
      exact q.tr (pbX10_countryLine_116 h)
theorem pbX10_countryLine_40 {r : Int32} {S' : SV} {j1 : Int64} {l3 : Int32} {S : SV} (h : gbX10_countryLine_40 j1 l3 S = some (r, S')) : PE S S' := by
  unfold gbX10_countryLine_40 at h
  have q : PE S S := PE.rf
  rcases ite_or h with ⟨-, h⟩ | ⟨-, h⟩
  · skip
    exact q.tr (pbX10_countryLine_89 h)
  · skip
    rcases ite_or h with ⟨-, h⟩ | ⟨-, h⟩
    · skip
      exact q.tr (pbX10_countryLine_89 h)
    · skip
      rcases ite_or h with ⟨-, h⟩ | ⟨-, h⟩
      · skip
        exact q.tr (pbX10_countryLine_89 h)
      · skip
        rcases ite_or h with ⟨-, h⟩ | ⟨-, h⟩
        · skip
          exact q.tr (pbX10_countryLine_89 h)
        · skip
          exact q.tr (pbX10_countryLine_89 h)
theorem pX10_countryLine {r : Int32} {S' : SV} {j1 : Int64} {l3 : Int32} {S : SV} (h : gX10_countryLine j1 l3 S = some (r, S')) : PE S S' := by
  unfold gX10_countryLine at h
  have q : PE S S := PE.rf
  rcases ite_or h with ⟨-, h⟩ | ⟨-, h⟩
  · skip
    exact q.tr (pbX10_countryLine_40 h)
  · skip
    rcases ite_or h with ⟨-, h⟩ | ⟨-, h⟩
    · skip
      exact q.tr (pbX10_countryLine_40 h)
    · skip
      rcases ite_or h with ⟨-, h⟩ | ⟨-, h⟩
      · skip
        exact q.tr (pbX10_countryLine_40 h)
      · skip
        rcases ite_or h with ⟨-, h⟩ | ⟨-, h⟩
        · skip
          exact q.tr (pbX10_countryLine_40 h)
        · skip
          rcases ite_or h with ⟨-, h⟩ | ⟨-, h⟩
          · skip
            exact q.tr (pbX10_countryLine_40 h)
          · skip
            rcases ite_or h with ⟨-, h⟩ | ⟨-, h⟩
            · skip
              exact q.tr (pbX10_countryLine_379 h)
            · skip
              rcases ite_or h with ⟨-, h⟩ | ⟨-, h⟩
              · skip
                exact q.tr (pbX10_countryLine_379 h)
              · skip
                rcases ite_or h with ⟨-, h⟩ | ⟨-, h⟩
                · skip
                  exact q.tr (pbX10_countryLine_379 h)
                · skip
                  rcases ite_or h with ⟨-, h⟩ | ⟨-, h⟩
                  · skip
                    exact q.tr (pbX10_countryLine_379 h)
                  · skip
                    obtain ⟨x375, S375, hw, h⟩ := ob2 h
                    have q := q.tr (pX10_fails hw)
                    rcases ite_or h with ⟨-, h⟩ | ⟨-, h⟩
                    · cases h <;> exact q
                    · cases h
theorem pbX10_keepRow_16 {S' : SV} {k16' : Int32 → Int32 → Int32 → SV → Option SV} (hk16 : ∀ (l1 : Int32) (l3 : Int32) (l4 : Int32) (S : SV), k16' l1 l3 l4 S = some S' → PE S S') {l1 : Int32} {l3 : Int32} {l4 : Int32} {S : SV} (h : gbX10_keepRow_16 k16' l1 l3 l4 S = some S') : PE S S' := by
  unfold gbX10_keepRow_16 at h
  have q : PE S S := PE.rf
  rcases ite_or h with ⟨-, h⟩ | ⟨-, h⟩
  · skip
    obtain ⟨x54, -, h⟩ := ob h
    obtain ⟨S57, hw, h⟩ := ob h
    have q := q.tr (pe_wA rfl hw)
    cases h <;> exact q
  · skip
    obtain ⟨x40, -, h⟩ := ob h
    obtain ⟨S41, hw, h⟩ := ob h
    have q := q.tr (pe_wA rfl hw)
    obtain ⟨v42, -, h⟩ := nm_ex h
    exact q.tr (hk16 _ _ _ _ h)
theorem pfX10_keepRow_16 {S' : SV} : ∀ (n : Nat) (l1 : Int32) (l3 : Int32) (l4 : Int32) (S : SV), gfX10_keepRow_16 n l1 l3 l4 S = some S' → PE S S' := by
  intro n
  induction n with
  | zero => intro l1 l3 l4 S h; cases h
  | succ n ih => intro l1 l3 l4 S h; exact pbX10_keepRow_16 (fun l1 l3 l4 S h => ih l1 l3 l4 S h) h
theorem pX10_keepRow {S' : SV} {l1 : Int32} {l2 : Int32} {S : SV} (h : gX10_keepRow l1 l2 S = some S') : PE S S' := by
  unfold gX10_keepRow at h
  have q : PE S S := PE.rf
  obtain ⟨x5, -, h⟩ := ob h
  rcases ite_or h with ⟨-, h⟩ | ⟨-, h⟩
  · skip
    cases h <;> exact q
  · skip
    exact q.tr (pfX10_keepRow_16 FU _ _ _ _ h)
theorem pbX10_yearLine_153 {r : Int32} {S' : SV} {l4 : Int32} {s0 : Int32} {S : SV} (h : gbX10_yearLine_153 l4 s0 S = some (r, S')) : PE S S' := by
  unfold gbX10_yearLine_153 at h
  have q : PE S S := PE.rf
  rcases ite_or h with ⟨-, h⟩ | ⟨-, h⟩
  · skip
    rcases ite_or h with ⟨-, h⟩ | ⟨-, h⟩
    · cases h <;> exact q
    · cases h
  · skip
    obtain ⟨S167, hw, h⟩ := ob h
    have q := q.tr (pe_wA rfl hw)
    obtain ⟨S172, hw, h⟩ := ob h
    have q := q.tr (pX10_keepRow hw)
    rcases ite_or h with ⟨-, h⟩ | ⟨-, h⟩
    · cases h <;> exact q
    · cases h
theorem pbX10_yearLine_152 {r : Int32} {S' : SV} {l4 : Int32} {S : SV} (h : gbX10_yearLine_152 l4 S = some (r, S')) : PE S S' := by
  unfold gbX10_yearLine_152 at h
  have q : PE S S := PE.rf
  exact q.tr (pbX10_yearLine_153 h)
theorem pbX10_yearLine_148 {r : Int32} {S' : SV} {l4 : Int32} {S : SV} (h : gbX10_yearLine_148 l4 S = some (r, S')) : PE S S' := by
  unfold gbX10_yearLine_148 at h
  have q : PE S S := PE.rf
  exact q.tr (pbX10_yearLine_153 h)
theorem pbX10_yearLine_61 {r : Int32} {S' : SV} {l3 : Int32} {s0 : Int32} {S : SV} (h : gbX10_yearLine_61 l3 s0 S = some (r, S')) : PE S S' := by
  unfold gbX10_yearLine_61 at h
  have q : PE S S := PE.rf
  rcases ite_or h with ⟨-, h⟩ | ⟨-, h⟩
  · skip
    obtain ⟨x70, S70, hw, h⟩ := ob2 h
    have q := q.tr (pX10_fails hw)
    rcases ite_or h with ⟨-, h⟩ | ⟨-, h⟩
    · cases h <;> exact q
    · cases h
  · skip
    obtain ⟨S79, hw, h⟩ := ob h
    have q := q.tr (pX10_full hw)
    obtain ⟨S83, hw, h⟩ := ob h
    have q := q.tr (pX10_token hw)
    obtain ⟨S92, hw, h⟩ := ob h
    have q := q.tr (pe_wA rfl hw)
    obtain ⟨S99, hw, h⟩ := ob h
    have q := q.tr (pe_wA rfl hw)
    rcases ite_or h with ⟨-, h⟩ | ⟨-, h⟩
    · skip
      exact q.tr (pbX10_yearLine_148 h)
    · skip
      rcases ite_or h with ⟨-, h⟩ | ⟨-, h⟩
      · skip
        obtain ⟨x115, S115, hw, h⟩ := ob2 h
        have q := q.tr (pX10_takeThing hw)
        rcases ite_or h with ⟨-, h⟩ | ⟨-, h⟩
        · skip
          exact q.tr (pbX10_yearLine_152 h)
        · skip
          exact q.tr (pbX10_yearLine_148 h)
      · skip
        obtain ⟨x128, S128, hw, h⟩ := ob2 h
        have q := q.tr (pX10_take hw)
        rcases ite_or h with ⟨-, h⟩ | ⟨-, h⟩
        · skip
          exact q.tr (pbX10_yearLine_152 h)
        · skip
          rcases ite_or h with ⟨-, h⟩ | ⟨-, h⟩
          · skip
            obtain ⟨x142, S142, hw, h⟩ := ob2 h
            have q := q.tr (pX10_takeThing hw)
            rcases ite_or h with ⟨-, h⟩ | ⟨-, h⟩
            · skip
              exact q.tr (pbX10_yearLine_152 h)
            · skip
              exact q.tr (pbX10_yearLine_148 h)
          · skip
            exact q.tr (pbX10_yearLine_148 h)
theorem pX10_yearLine {r : Int32} {S' : SV} {j1 : Int64} {l3 : Int32} {S : SV} (h : gX10_yearLine j1 l3 S = some (r, S')) : PE S S' := by
  unfold gX10_yearLine at h
  have q : PE S S := PE.rf
  rcases ite_or h with ⟨-, h⟩ | ⟨-, h⟩
  · skip
    exact q.tr (pbX10_yearLine_61 h)
  · skip
    rcases ite_or h with ⟨-, h⟩ | ⟨-, h⟩
    · skip
      exact q.tr (pbX10_yearLine_61 h)
    · skip
      rcases ite_or h with ⟨-, h⟩ | ⟨-, h⟩
      · skip
        exact q.tr (pbX10_yearLine_61 h)
      · skip
        rcases ite_or h with ⟨-, h⟩ | ⟨-, h⟩
        · skip
          exact q.tr (pbX10_yearLine_61 h)
        · skip
          rcases ite_or h with ⟨-, h⟩ | ⟨-, h⟩
          · skip
            exact q.tr (pbX10_yearLine_61 h)
          · skip
            exact q.tr (pbX10_yearLine_61 h)
theorem pbX10_sightLine_37 {r : Int32} {S' : SV} {l3 : Int32} {s0 : Int32} {S : SV} (h : gbX10_sightLine_37 l3 s0 S = some (r, S')) : PE S S' := by
  unfold gbX10_sightLine_37 at h
  have q : PE S S := PE.rf
  rcases ite_or h with ⟨-, h⟩ | ⟨-, h⟩
  · skip
    obtain ⟨x46, S46, hw, h⟩ := ob2 h
    have q := q.tr (pX10_fails hw)
    rcases ite_or h with ⟨-, h⟩ | ⟨-, h⟩
    · cases h <;> exact q
    · cases h
  · skip
    obtain ⟨S55, hw, h⟩ := ob h
    have q := q.tr (pX10_full hw)
    obtain ⟨S59, hw, h⟩ := ob h
    have q := q.tr (pX10_token hw)
    obtain ⟨x67, S67, hw, h⟩ := ob2 h
    have q := q.tr (pX10_take hw)
    rcases ite_or h with ⟨-, h⟩ | ⟨-, h⟩
    · skip
      cases h <;> exact q
    · skip
      obtain ⟨S82, hw, h⟩ := ob h
      have q := q.tr (pe_wA rfl hw)
      obtain ⟨S87, hw, h⟩ := ob h
      have q := q.tr (pX10_keepRow hw)
      cases h <;> exact q
theorem pX10_sightLine {r : Int32} {S' : SV} {j1 : Int64} {l3 : Int32} {S : SV} (h : gX10_sightLine j1 l3 S = some (r, S')) : PE S S' := by
  unfold gX10_sightLine at h
  have q : PE S S := PE.rf
  rcases ite_or h with ⟨-, h⟩ | ⟨-, h⟩
  · skip
    exact q.tr (pbX10_sightLine_37 h)
  · skip
    rcases ite_or h with ⟨-, h⟩ | ⟨-, h⟩
    · skip
      exact q.tr (pbX10_sightLine_37 h)
    · skip
      rcases ite_or h with ⟨-, h⟩ | ⟨-, h⟩
      · skip
        exact q.tr (pbX10_sightLine_37 h)
      · skip
        exact q.tr (pbX10_sightLine_37 h)
theorem pbX10_factLine_84 {r : Int32} {S' : SV} {l4 : Int32} {S : SV} (h : gbX10_factLine_84 l4 S = some (r, S')) : PE S S' := by
  unfold gbX10_factLine_84 at h
  have q : PE S S := PE.rf
  obtain ⟨x87, S87, hw, h⟩ := ob2 h
  have q := q.tr (pX10_takeThing hw)
  rcases ite_or h with ⟨-, h⟩ | ⟨-, h⟩
  · skip
    cases h <;> exact q
  · skip
    obtain ⟨S102, hw, h⟩ := ob h
    have q := q.tr (pe_wA rfl hw)
    obtain ⟨S107, hw, h⟩ := ob h
    have q := q.tr (pX10_keepRow hw)
    cases h <;> exact q
theorem pbX10_factLine_37 {r : Int32} {S' : SV} {l3 : Int32} {s0 : Int32} {S : SV} (h : gbX10_factLine_37 l3 s0 S = some (r, S')) : PE S S' := by
  unfold gbX10_factLine_37 at h
  have q : PE S S := PE.rf
  rcases ite_or h with ⟨-, h⟩ | ⟨-, h⟩
  · skip
    obtain ⟨x46, S46, hw, h⟩ := ob2 h
    have q := q.tr (pX10_fails hw)
    rcases ite_or h with ⟨-, h⟩ | ⟨-, h⟩
    · cases h <;> exact q
    · cases h
  · skip
    obtain ⟨S55, hw, h⟩ := ob h
    have q := q.tr (pX10_full hw)
    obtain ⟨S59, hw, h⟩ := ob h
    have q := q.tr (pX10_token hw)
    obtain ⟨S68, hw, h⟩ := ob h
    have q := q.tr (pe_wA rfl hw)
    rcases ite_or h with ⟨-, h⟩ | ⟨-, h⟩
    · skip
      obtain ⟨x78, S78, hw, h⟩ := ob2 h
      have q := q.tr (pX10_take hw)
      rcases ite_or h with ⟨-, h⟩ | ⟨-, h⟩
      · skip
        cases h <;> exact q
      · skip
        exact q.tr (pbX10_factLine_84 h)
    · skip
      exact q.tr (pbX10_factLine_84 h)
theorem pX10_factLine {r : Int32} {S' : SV} {j1 : Int64} {l3 : Int32} {S : SV} (h : gX10_factLine j1 l3 S = some (r, S')) : PE S S' := by
  unfold gX10_factLine at h
  have q : PE S S := PE.rf
  rcases ite_or h with ⟨-, h⟩ | ⟨-, h⟩
  · skip
    exact q.tr (pbX10_factLine_37 h)
  · skip
    rcases ite_or h with ⟨-, h⟩ | ⟨-, h⟩
    · skip
      exact q.tr (pbX10_factLine_37 h)
    · skip
      rcases ite_or h with ⟨-, h⟩ | ⟨-, h⟩
      · skip
        exact q.tr (pbX10_factLine_37 h)
      · skip
        exact q.tr (pbX10_factLine_37 h)
theorem pX10_lineOf {r : Int32} {S' : SV} {l1 : Int32} {j2 : Int64} {l4 : Int32} {S : SV} (h : gX10_lineOf l1 j2 l4 S = some (r, S')) : PE S S' := by
  unfold gX10_lineOf at h
  have q : PE S S := PE.rf
  rcases ite_or h with ⟨-, h⟩ | ⟨-, h⟩
  · skip
    obtain ⟨x32, S32, hw, h⟩ := ob2 h
    have q := q.tr (pX10_countryLine hw)
    rcases ite_or h with ⟨-, h⟩ | ⟨-, h⟩
    · cases h <;> exact q
    · cases h
  · skip
    rcases ite_or h with ⟨-, h⟩ | ⟨-, h⟩
    · skip
      obtain ⟨x40, S40, hw, h⟩ := ob2 h
      have q := q.tr (pX10_yearLine hw)
      rcases ite_or h with ⟨-, h⟩ | ⟨-, h⟩
      · cases h <;> exact q
      · cases h
    · skip
      rcases ite_or h with ⟨-, h⟩ | ⟨-, h⟩
      · skip
        obtain ⟨x48, S48, hw, h⟩ := ob2 h
        have q := q.tr (pX10_sightLine hw)
        rcases ite_or h with ⟨-, h⟩ | ⟨-, h⟩
        · cases h <;> exact q
        · cases h
      · skip
        obtain ⟨x56, S56, hw, h⟩ := ob2 h
        have q := q.tr (pX10_factLine hw)
        rcases ite_or h with ⟨-, h⟩ | ⟨-, h⟩
        · cases h <;> exact q
        · cases h
theorem pbX10_lines_71 {r : Int32} {S' : SV} {k2' : Int32 → Int32 → SV → Option (Int32 × SV)} (hk2 : ∀ (l1 : Int32) (l2 : Int32) (S : SV), k2' l1 l2 S = some (r, S') → PE S S') {l1 : Int32} {l2 : Int32} {S : SV} (h : gbX10_lines_71 k2' l1 l2 S = some (r, S')) : PE S S' := by
  unfold gbX10_lines_71 at h
  have q : PE S S := PE.rf
  exact q.tr (hk2 _ _ _ h)
theorem pbX10_lines_63 {r : Int32} {S' : SV} {k2' : Int32 → Int32 → SV → Option (Int32 × SV)} (hk2 : ∀ (l1 : Int32) (l2 : Int32) (S : SV), k2' l1 l2 S = some (r, S') → PE S S') {l1 : Int32} {l2 : Int32} {S : SV} (h : gbX10_lines_63 k2' l1 l2 S = some (r, S')) : PE S S' := by
  unfold gbX10_lines_63 at h
  have q : PE S S := PE.rf
  rcases ite_or h with ⟨-, h⟩ | ⟨-, h⟩
  · skip
    exact q.tr (pbX10_lines_71 hk2 h)
  · skip
    obtain ⟨S68, hw, h⟩ := ob h
    have q := q.tr (pX10_token hw)
    exact q.tr (pbX10_lines_71 hk2 h)
theorem pbX10_lines_41 {r : Int32} {S' : SV} {k2' : Int32 → Int32 → SV → Option (Int32 × SV)} (hk2 : ∀ (l1 : Int32) (l2 : Int32) (S : SV), k2' l1 l2 S = some (r, S') → PE S S') {l1 : Int32} {l3 : Int32} {s1 : Int32} {s2 : Int64} {S : SV} (h : gbX10_lines_41 k2' l1 l3 s1 s2 S = some (r, S')) : PE S S' := by
  unfold gbX10_lines_41 at h
  have q : PE S S := PE.rf
  obtain ⟨x42, S42, hw, h⟩ := ob2 h
  have q := q.tr (pX10_lineOf hw)
  rcases ite_or h with ⟨-, h⟩ | ⟨-, h⟩
  · skip
    exact q.tr (pbX10_lines_63 hk2 h)
  · skip
    rcases ite_or h with ⟨-, h⟩ | ⟨-, h⟩
    · skip
      exact q.tr (pbX10_lines_63 hk2 h)
    · skip
      obtain ⟨x59, S59, hw, h⟩ := ob2 h
      have q := q.tr (pX10_fails hw)
      exact q.tr (pbX10_lines_63 hk2 h)
theorem pbX10_lines_2 {r : Int32} {S' : SV} {k2' : Int32 → Int32 → SV → Option (Int32 × SV)} (hk2 : ∀ (l1 : Int32) (l2 : Int32) (S : SV), k2' l1 l2 S = some (r, S') → PE S S') {l1 : Int32} {l2 : Int32} {S : SV} (h : gbX10_lines_2 k2' l1 l2 S = some (r, S')) : PE S S' := by
  unfold gbX10_lines_2 at h
  have q : PE S S := PE.rf
  rcases ite_or h with ⟨-, h⟩ | ⟨-, h⟩
  · skip
    rcases ite_or h with ⟨-, h⟩ | ⟨-, h⟩
    · cases h <;> exact q
    · cases h
  · skip
    rcases ite_or h with ⟨-, h⟩ | ⟨-, h⟩
    · skip
      rcases ite_or h with ⟨-, h⟩ | ⟨-, h⟩
      · cases h <;> exact q
      · cases h
    · skip
      obtain ⟨S20, ew, h⟩ := nm_ex h
      have q := q.tr (pe_wI ew)
      rcases ite_or h with ⟨-, h⟩ | ⟨-, h⟩
      · skip
        exact q.tr (pbX10_lines_41 hk2 h)
      · skip
        exact q.tr (pbX10_lines_41 hk2 h)
theorem pfX10_lines_2 {r : Int32} {S' : SV} : ∀ (n : Nat) (l1 : Int32) (l2 : Int32) (S : SV), gfX10_lines_2 n l1 l2 S = some (r, S') → PE S S' := by
  intro n
  induction n with
  | zero => intro l1 l2 S h; cases h
  | succ n ih => intro l1 l2 S h; exact pbX10_lines_2 (fun l1 l2 S h => ih l1 l2 S h) h
theorem pX10_lines {r : Int32} {S' : SV} {l1 : Int32} {S : SV} (h : gX10_lines l1 S = some (r, S')) : PE S S' := by
  unfold gX10_lines at h
  have q : PE S S := PE.rf
  exact q.tr (pfX10_lines_2 FU _ _ _ h)
theorem pX10_fault {r : Int32} {S' : SV} {l1 : Int32} {S : SV} (h : gX10_fault l1 S = some (r, S')) : PE S S' := by
  unfold gX10_fault at h
  have q : PE S S := PE.rf
  obtain ⟨S2, ew, h⟩ := nm_ex h
  have q := q.tr (pe_wI ew)
  rcases ite_or h with ⟨-, h⟩ | ⟨-, h⟩
  · skip
    obtain ⟨x14, -, h⟩ := ob h
    cases h <;> exact q
  · skip
    rcases ite_or h with ⟨-, h⟩ | ⟨-, h⟩
    · skip
      obtain ⟨x28, -, h⟩ := ob h
      cases h <;> exact q
    · skip
      cases h <;> exact q
theorem pbX10_begin_2 {S' : SV} {k2' : Int32 → SV → Option SV} (hk2 : ∀ (l1 : Int32) (S : SV), k2' l1 S = some S' → PE S S') {l1 : Int32} {S : SV} (h : gbX10_begin_2 k2' l1 S = some S') : PE S S' := by
  unfold gbX10_begin_2 at h
  have q : PE S S := PE.rf
  rcases ite_or h with ⟨-, h⟩ | ⟨-, h⟩
  · skip
    obtain ⟨S44, ew, h⟩ := nm_ex h
    have q := q.tr (pe_wI ew)
    obtain ⟨S49, ew, h⟩ := nm_ex h
    have q := q.tr (pe_wI ew)
    obtain ⟨S54, ew, h⟩ := nm_ex h
    have q := q.tr (pe_wI ew)
    obtain ⟨S59, ew, h⟩ := nm_ex h
    have q := q.tr (pe_wI ew)
    obtain ⟨S64, ew, h⟩ := nm_ex h
    have q := q.tr (pe_wI ew)
    obtain ⟨S69, ew, h⟩ := nm_ex h
    have q := q.tr (pe_wI ew)
    obtain ⟨S74, ew, h⟩ := nm_ex h
    have q := q.tr (pe_wI ew)
    cases h <;> exact q
  · skip
    obtain ⟨x18, -, h⟩ := ob h
    obtain ⟨S21, hw, h⟩ := ob h
    have q := q.tr (pe_wA rfl hw)
    obtain ⟨x32, -, h⟩ := ob h
    obtain ⟨S35, hw, h⟩ := ob h
    have q := q.tr (pe_wA rfl hw)
    obtain ⟨v36, -, h⟩ := nm_ex h
    exact q.tr (hk2 _ _ h)
theorem pfX10_begin_2 {S' : SV} : ∀ (n : Nat) (l1 : Int32) (S : SV), gfX10_begin_2 n l1 S = some S' → PE S S' := by
  intro n
  induction n with
  | zero => intro l1 S h; cases h
  | succ n ih => intro l1 S h; exact pbX10_begin_2 (fun l1 S h => ih l1 S h) h
theorem pX10_begin {S' : SV} {S : SV} (h : gX10_begin S = some S') : PE S S' := by
  unfold gX10_begin at h
  have q : PE S S := PE.rf
  exact q.tr (pfX10_begin_2 FU _ _ h)
theorem pbX10_takes_2 {S' : SV} {k2' : Int32 → Int32 → SV → Option SV} (hk2 : ∀ (l1 : Int32) (l2 : Int32) (S : SV), k2' l1 l2 S = some S' → PE S S') {l1 : Int32} {l2 : Int32} {S : SV} (h : gbX10_takes_2 k2' l1 l2 S = some S') : PE S S' := by
  unfold gbX10_takes_2 at h
  have q : PE S S := PE.rf
  rcases ite_or h with ⟨-, h⟩ | ⟨-, h⟩
  · skip
    obtain ⟨S52, ew, h⟩ := nm_ex h
    have q := q.tr (pe_wI ew)
    cases h <;> exact q
  · skip
    rcases ite_or h with ⟨-, h⟩ | ⟨-, h⟩
    · skip
      obtain ⟨v39, -, h⟩ := nm_ex h
      exact q.tr (hk2 _ _ _ h)
    · skip
      obtain ⟨S31, hw, h⟩ := ob h
      have q := q.tr (pe_wA rfl hw)
      obtain ⟨S38, hw, h⟩ := ob h
      have q := q.tr (pe_wA rfl hw)
      obtain ⟨v39, -, h⟩ := nm_ex h
      exact q.tr (hk2 _ _ _ h)
theorem pfX10_takes_2 {S' : SV} : ∀ (n : Nat) (l1 : Int32) (l2 : Int32) (S : SV), gfX10_takes_2 n l1 l2 S = some S' → PE S S' := by
  intro n
  induction n with
  | zero => intro l1 l2 S h; cases h
  | succ n ih => intro l1 l2 S h; exact pbX10_takes_2 (fun l1 l2 S h => ih l1 l2 S h) h
theorem pX10_takes {S' : SV} {l1 : Int32} {S : SV} (h : gX10_takes l1 S = some S') : PE S S' := by
  unfold gX10_takes at h
  have q : PE S S := PE.rf
  exact q.tr (pfX10_takes_2 FU _ _ _ h)
theorem pbX10_falls_68 {S' : SV} {k2' : Int32 → SV → Option SV} (hk2 : ∀ (l1 : Int32) (S : SV), k2' l1 S = some S' → PE S S') {l1 : Int32} {l2 : Int32} {S : SV} (h : gbX10_falls_68 k2' l1 l2 S = some S') : PE S S' := by
  unfold gbX10_falls_68 at h
  have q : PE S S := PE.rf
  rcases ite_or h with ⟨-, h⟩ | ⟨-, h⟩
  · skip
    obtain ⟨v79, -, h⟩ := nm_ex h
    exact q.tr (hk2 _ _ h)
  · skip
    exact q.tr (hk2 _ _ h)
theorem pbX10_falls_49 {S' : SV} {k2' : Int32 → SV → Option SV} (hk2 : ∀ (l1 : Int32) (S : SV), k2' l1 S = some S' → PE S S') {l1 : Int32} {s0 : Int32} {S : SV} (h : gbX10_falls_49 k2' l1 s0 S = some S') : PE S S' := by
  unfold gbX10_falls_49 at h
  have q : PE S S := PE.rf
  rcases ite_or h with ⟨-, h⟩ | ⟨-, h⟩
  · skip
    exact q.tr (pbX10_falls_68 hk2 h)
  · skip
    obtain ⟨x63, -, h⟩ := ob h
    obtain ⟨S65, hw, h⟩ := ob h
    have q := q.tr (pX10_takes hw)
    exact q.tr (pbX10_falls_68 hk2 h)
theorem pbX10_falls_48 {S' : SV} {k2' : Int32 → SV → Option SV} (hk2 : ∀ (l1 : Int32) (S : SV), k2' l1 S = some S' → PE S S') {l1 : Int32} {S : SV} (h : gbX10_falls_48 k2' l1 S = some S') : PE S S' := by
  unfold gbX10_falls_48 at h
  have q : PE S S := PE.rf
  exact q.tr (pbX10_falls_49 hk2 h)
theorem pbX10_falls_44 {S' : SV} {k2' : Int32 → SV → Option SV} (hk2 : ∀ (l1 : Int32) (S : SV), k2' l1 S = some S' → PE S S') {l1 : Int32} {S : SV} (h : gbX10_falls_44 k2' l1 S = some S') : PE S S' := by
  unfold gbX10_falls_44 at h
  have q : PE S S := PE.rf
  exact q.tr (pbX10_falls_49 hk2 h)
theorem pbX10_falls_2 {S' : SV} {k2' : Int32 → SV → Option SV} (hk2 : ∀ (l1 : Int32) (S : SV), k2' l1 S = some S' → PE S S') {l1 : Int32} {S : SV} (h : gbX10_falls_2 k2' l1 S = some S') : PE S S' := by
  unfold gbX10_falls_2 at h
  have q : PE S S := PE.rf
  rcases ite_or h with ⟨-, h⟩ | ⟨-, h⟩
  · skip
    cases h <;> exact q
  · skip
    rcases ite_or h with ⟨-, h⟩ | ⟨-, h⟩
    · skip
      obtain ⟨x26, -, h⟩ := ob h
      rcases ite_or h with ⟨-, h⟩ | ⟨-, h⟩
      · skip
        exact q.tr (pbX10_falls_44 hk2 h)
      · skip
        obtain ⟨x35, -, h⟩ := ob h
        obtain ⟨x38, -, h⟩ := ob h
        rcases ite_or h with ⟨-, h⟩ | ⟨-, h⟩
        · skip
          exact q.tr (pbX10_falls_48 hk2 h)
        · skip
          exact q.tr (pbX10_falls_44 hk2 h)
    · skip
      exact q.tr (pbX10_falls_48 hk2 h)
theorem pfX10_falls_2 {S' : SV} : ∀ (n : Nat) (l1 : Int32) (S : SV), gfX10_falls_2 n l1 S = some S' → PE S S' := by
  intro n
  induction n with
  | zero => intro l1 S h; cases h
  | succ n ih => intro l1 S h; exact pbX10_falls_2 (fun l1 S h => ih l1 S h) h
theorem pX10_falls {S' : SV} {S : SV} (h : gX10_falls S = some S') : PE S S' := by
  unfold gX10_falls at h
  have q : PE S S := PE.rf
  exact q.tr (pfX10_falls_2 FU _ _ h)
theorem pbX10_hand_74 {r : Int32} {S' : SV} {k57' : Int32 → SV → Option (Int32 × SV)} {k74' : Int32 → Int32 → SV → Option (Int32 × SV)} (hk57 : ∀ (l2 : Int32) (S : SV), k57' l2 S = some (r, S') → PE S S') (hk74 : ∀ (l2 : Int32) (l3 : Int32) (S : SV), k74' l2 l3 S = some (r, S') → PE S S') {l2 : Int32} {l3 : Int32} {S : SV} (h : gbX10_hand_74 k57' k74' l2 l3 S = some (r, S')) : PE S S' := by
  unfold gbX10_hand_74 at h
  have q : PE S S := PE.rf
  rcases ite_or h with ⟨-, h⟩ | ⟨-, h⟩
  · skip
    obtain ⟨v103, -, h⟩ := nm_ex h
    exact q.tr (hk57 _ _ h)
  · skip
    obtain ⟨x85, -, h⟩ := ob h
    obtain ⟨S90, hw, h⟩ := ob h
    have q := q.tr (pe_wA rfl hw)
    obtain ⟨x96, -, h⟩ := ob h
    exact q.tr (hk74 _ _ _ h)
theorem pfX10_hand_74 {r : Int32} {S' : SV} {k57' : Int32 → SV → Option (Int32 × SV)} (hk57 : ∀ (l2 : Int32) (S : SV), k57' l2 S = some (r, S') → PE S S') : ∀ (n : Nat) (l2 : Int32) (l3 : Int32) (S : SV), gfX10_hand_74 k57' n l2 l3 S = some (r, S') → PE S S' := by
  intro n
  induction n with
  | zero => intro l2 l3 S h; cases h
  | succ n ih => intro l2 l3 S h; exact pbX10_hand_74 hk57 (fun l2 l3 S h => ih l2 l3 S h) h
theorem pbX10_hand_57 {r : Int32} {S' : SV} {k57' : Int32 → SV → Option (Int32 × SV)} (hk57 : ∀ (l2 : Int32) (S : SV), k57' l2 S = some (r, S') → PE S S') {l2 : Int32} {S : SV} (h : gbX10_hand_57 k57' l2 S = some (r, S')) : PE S S' := by
  unfold gbX10_hand_57 at h
  have q : PE S S := PE.rf
  rcases ite_or h with ⟨-, h⟩ | ⟨-, h⟩
  · skip
    obtain ⟨S110, hw, h⟩ := ob h
    have q := q.tr (pX10_begin hw)
    obtain ⟨S114, hw, h⟩ := ob h
    have q := q.tr (pX10_falls hw)
    cases h <;> exact q
  · skip
    obtain ⟨x70, -, h⟩ := ob h
    exact q.tr (pfX10_hand_74 hk57 FU _ _ _ h)
theorem pfX10_hand_57 {r : Int32} {S' : SV} : ∀ (n : Nat) (l2 : Int32) (S : SV), gfX10_hand_57 n l2 S = some (r, S') → PE S S' := by
  intro n
  induction n with
  | zero => intro l2 S h; cases h
  | succ n ih => intro l2 S h; exact pbX10_hand_57 (fun l2 S h => ih l2 S h) h
theorem pbX10_hand_36 {r : Int32} {S' : SV} {k36' : Int32 → SV → Option (Int32 × SV)} (hk36 : ∀ (l2 : Int32) (S : SV), k36' l2 S = some (r, S') → PE S S') {l2 : Int32} {S : SV} (h : gbX10_hand_36 k36' l2 S = some (r, S')) : PE S S' := by
  unfold gbX10_hand_36 at h
  have q : PE S S := PE.rf
  rcases ite_or h with ⟨-, h⟩ | ⟨-, h⟩
  · skip
    exact q.tr (pfX10_hand_57 FU _ _ h)
  · skip
    obtain ⟨S48, hw, h⟩ := ob h
    have q := q.tr (pe_wA rfl hw)
    obtain ⟨v49, -, h⟩ := nm_ex h
    exact q.tr (hk36 _ _ h)
theorem pfX10_hand_36 {r : Int32} {S' : SV} : ∀ (n : Nat) (l2 : Int32) (S : SV), gfX10_hand_36 n l2 S = some (r, S') → PE S S' := by
  intro n
  induction n with
  | zero => intro l2 S h; cases h
  | succ n ih => intro l2 S h; exact pbX10_hand_36 (fun l2 S h => ih l2 S h) h
theorem pX10_hand {r : Int32} {S' : SV} {l1 : Int32} {S : SV} (h : gX10_hand l1 S = some (r, S')) : PE S S' := by
  unfold gX10_hand at h
  have q : PE S S := PE.rf
  obtain ⟨x3, -, h⟩ := ob h
  rcases ite_or h with ⟨-, h⟩ | ⟨-, h⟩
  · skip
    cases h <;> exact q
  · skip
    obtain ⟨S13, ew, h⟩ := nm_ex h
    have q := q.tr (pe_wI ew)
    obtain ⟨x19, -, h⟩ := ob h
    obtain ⟨S22, ew, h⟩ := nm_ex h
    have q := q.tr (pe_wI ew)
    obtain ⟨x28, -, h⟩ := ob h
    obtain ⟨S31, ew, h⟩ := nm_ex h
    have q := q.tr (pe_wI ew)
    exact q.tr (pfX10_hand_36 FU _ _ h)
theorem pbX10_sees_81 {S' : SV} {l1 : Int32} {l2 : Int32} {S : SV} (h : gbX10_sees_81 l1 l2 S = some S') : PE S S' := by
  unfold gbX10_sees_81 at h
  have q : PE S S := PE.rf
  obtain ⟨S90, ew, h⟩ := nm_ex h
  have q := q.tr (pe_wI ew)
  obtain ⟨S102, ew, h⟩ := nm_ex h
  have q := q.tr (pe_wI ew)
  cases h <;> exact q
theorem pX10_sees {S' : SV} {l1 : Int32} {l2 : Int32} {S : SV} (h : gX10_sees l1 l2 S = some S') : PE S S' := by
  unfold gX10_sees at h
  have q : PE S S := PE.rf
  obtain ⟨x12, -, h⟩ := ob h
  obtain ⟨x15, -, h⟩ := ob h
  obtain ⟨x21, -, h⟩ := ob h
  obtain ⟨S28, hw, h⟩ := ob h
  have q := q.tr (pe_wA rfl hw)
  obtain ⟨x31, -, h⟩ := ob h
  obtain ⟨x36, -, h⟩ := ob h
  obtain ⟨x44, -, h⟩ := ob h
  rcases ite_or h with ⟨-, h⟩ | ⟨-, h⟩
  · skip
    exact q.tr (pbX10_sees_81 h)
  · skip
    obtain ⟨x62, -, h⟩ := ob h
    obtain ⟨S68, hw, h⟩ := ob h
    have q := q.tr (pe_wA rfl hw)
    obtain ⟨S78, ew, h⟩ := nm_ex h
    have q := q.tr (pe_wI ew)
    exact q.tr (pbX10_sees_81 h)
theorem pbX10_goesOn_2 {S' : SV} {k2' : Int32 → SV → Option SV} (hk2 : ∀ (l1 : Int32) (S : SV), k2' l1 S = some S' → PE S S') {l1 : Int32} {S : SV} (h : gbX10_goesOn_2 k2' l1 S = some S') : PE S S' := by
  unfold gbX10_goesOn_2 at h
  have q : PE S S := PE.rf
  rcases ite_or h with ⟨-, h⟩ | ⟨-, h⟩
  · skip
    obtain ⟨S68, ew, h⟩ := nm_ex h
    have q := q.tr (pe_wI ew)
    obtain ⟨S73, ew, h⟩ := nm_ex h
    have q := q.tr (pe_wI ew)
    obtain ⟨S83, ew, h⟩ := nm_ex h
    have q := q.tr (pe_wI ew)
    obtain ⟨S87, hw, h⟩ := ob h
    have q := q.tr (pX10_falls hw)
    cases h <;> exact q
  · skip
    rcases ite_or h with ⟨-, h⟩ | ⟨-, h⟩
    · skip
      obtain ⟨x46, -, h⟩ := ob h
      obtain ⟨x52, -, h⟩ := ob h
      obtain ⟨S59, hw, h⟩ := ob h
      have q := q.tr (pe_wA rfl hw)
      obtain ⟨v60, -, h⟩ := nm_ex h
      exact q.tr (hk2 _ _ h)
    · skip
      obtain ⟨x36, -, h⟩ := ob h
      obtain ⟨S59, hw, h⟩ := ob h
      have q := q.tr (pe_wA rfl hw)
      obtain ⟨v60, -, h⟩ := nm_ex h
      exact q.tr (hk2 _ _ h)
theorem pfX10_goesOn_2 {S' : SV} : ∀ (n : Nat) (l1 : Int32) (S : SV), gfX10_goesOn_2 n l1 S = some S' → PE S S' := by
  intro n
  induction n with
  | zero => intro l1 S h; cases h
  | succ n ih => intro l1 S h; exact pbX10_goesOn_2 (fun l1 S h => ih l1 S h) h
theorem pX10_goesOn {S' : SV} {S : SV} (h : gX10_goesOn S = some S') : PE S S' := by
  unfold gX10_goesOn at h
  have q : PE S S := PE.rf
  exact q.tr (pfX10_goesOn_2 FU _ _ h)
theorem pbX10_country_354 {r : Int32} {S' : SV} {l3 : Int32} {s1 : Int32} {S : SV} (h : gbX10_country_354 l3 s1 S = some (r, S')) : PE S S' := by
  unfold gbX10_country_354 at h
  have q : PE S S := PE.rf
  obtain ⟨x356, -, h⟩ := ob h
  cases h <;> exact q
theorem pbX10_country_321 {r : Int32} {S' : SV} {l3 : Int32} {s1 : Int32} {S : SV} (h : gbX10_country_321 l3 s1 S = some (r, S')) : PE S S' := by
  unfold gbX10_country_321 at h
  have q : PE S S := PE.rf
  obtain ⟨x323, -, h⟩ := ob h
  cases h <;> exact q
theorem pbX10_country_301 {r : Int32} {S' : SV} {l2 : Int32} {l3 : Int32} {s0 : Int32} {s2 : Int32} {S : SV} (h : gbX10_country_301 l2 l3 s0 s2 S = some (r, S')) : PE S S' := by
  unfold gbX10_country_301 at h
  have q : PE S S := PE.rf
  obtain ⟨x301, -, h⟩ := ob h
  rcases ite_or h with ⟨-, h⟩ | ⟨-, h⟩
  · skip
    cases h <;> exact q
  · skip
    rcases ite_or h with ⟨-, h⟩ | ⟨-, h⟩
    · skip
      exact q.tr (pbX10_country_321 h)
    · skip
      exact q.tr (pbX10_country_321 h)
theorem pbX10_country_171 {r : Int32} {S' : SV} {l4 : Int32} {s1 : Int32} {S : SV} (h : gbX10_country_171 l4 s1 S = some (r, S')) : PE S S' := by
  unfold gbX10_country_171 at h
  have q : PE S S := PE.rf
  obtain ⟨x174, -, h⟩ := ob h
  cases h <;> exact q
theorem pbX10_country_151 {r : Int32} {S' : SV} {l4 : Int32} {l5 : Int32} {s0 : Int32} {S : SV} (h : gbX10_country_151 l4 l5 s0 S = some (r, S')) : PE S S' := by
  unfold gbX10_country_151 at h
  have q : PE S S := PE.rf
  rcases ite_or h with ⟨-, h⟩ | ⟨-, h⟩
  · skip
    cases h <;> exact q
  · skip
    rcases ite_or h with ⟨-, h⟩ | ⟨-, h⟩
    · skip
      exact q.tr (pbX10_country_171 h)
    · skip
      exact q.tr (pbX10_country_171 h)
theorem pbX10_country_150 {r : Int32} {S' : SV} {l4 : Int32} {l5 : Int32} {S : SV} (h : gbX10_country_150 l4 l5 S = some (r, S')) : PE S S' := by
  unfold gbX10_country_150 at h
  have q : PE S S := PE.rf
  exact q.tr (pbX10_country_151 h)
theorem pbX10_country_140 {r : Int32} {S' : SV} {l4 : Int32} {l5 : Int32} {s0 : Int32} {s2 : Int32} {S : SV} (h : gbX10_country_140 l4 l5 s0 s2 S = some (r, S')) : PE S S' := by
  unfold gbX10_country_140 at h
  have q : PE S S := PE.rf
  obtain ⟨x140, -, h⟩ := ob h
  rcases ite_or h with ⟨-, h⟩ | ⟨-, h⟩
  · skip
    exact q.tr (pbX10_country_150 h)
  · skip
    exact q.tr (pbX10_country_151 h)
theorem pbX10_country_119 {r : Int32} {S' : SV} {l4 : Int32} {l5 : Int32} {s0 : Int32} {s2 : Int32} {S : SV} (h : gbX10_country_119 l4 l5 s0 s2 S = some (r, S')) : PE S S' := by
  unfold gbX10_country_119 at h
  have q : PE S S := PE.rf
  obtain ⟨x119, -, h⟩ := ob h
  rcases ite_or h with ⟨-, h⟩ | ⟨-, h⟩
  · skip
    exact q.tr (pbX10_country_150 h)
  · skip
    rcases ite_or h with ⟨-, h⟩ | ⟨-, h⟩
    · skip
      exact q.tr (pbX10_country_140 h)
    · skip
      exact q.tr (pbX10_country_140 h)
theorem pbX10_country_88 {r : Int32} {S' : SV} {l2 : Int32} {l4 : Int32} {s0 : Int32} {S : SV} (h : gbX10_country_88 l2 l4 s0 S = some (r, S')) : PE S S' := by
  unfold gbX10_country_88 at h
  have q : PE S S := PE.rf
  rcases ite_or h with ⟨-, h⟩ | ⟨-, h⟩
  · skip
    exact q.tr (pbX10_country_150 h)
  · skip
    rcases ite_or h with ⟨-, h⟩ | ⟨-, h⟩
    · skip
      exact q.tr (pbX10_country_150 h)
    · skip
      rcases ite_or h with ⟨-, h⟩ | ⟨-, h⟩
      · skip
        exact q.tr (pbX10_country_119 h)
      · skip
        exact q.tr (pbX10_country_119 h)
theorem pbX10_country_64 {r : Int32} {S' : SV} {l4 : Int32} {s1 : Int32} {S : SV} (h : gbX10_country_64 l4 s1 S = some (r, S')) : PE S S' := by
  unfold gbX10_country_64 at h
  have q : PE S S := PE.rf
  obtain ⟨x67, -, h⟩ := ob h
  cases h <;> exact q
theorem pX10_country {r : Int32} {S' : SV} {l1 : Int32} {l2 : Int32} {S : SV} (h : gX10_country l1 l2 S = some (r, S')) : PE S S' := by
  unfold gX10_country at h
  have q : PE S S := PE.rf
  obtain ⟨S2, ew, h⟩ := nm_ex h
  have q := q.tr (pe_wI ew)
  obtain ⟨x7, S7, hw, h⟩ := ob2 h
  have q := q.tr (pX10_hand hw)
  rcases ite_or h with ⟨-, h⟩ | ⟨-, h⟩
  · skip
    cases h <;> exact q
  · skip
    obtain ⟨v20, -, h⟩ := nm_ex h
    rcases ite_or h with ⟨-, h⟩ | ⟨-, h⟩
    · skip
      rcases ite_or h with ⟨-, h⟩ | ⟨-, h⟩
      · skip
        rcases ite_or h with ⟨-, h⟩ | ⟨-, h⟩
        · skip
          cases h <;> exact q
        · skip
          obtain ⟨x247, -, h⟩ := ob h
          cases h <;> exact q
      · skip
        rcases ite_or h with ⟨-, h⟩ | ⟨-, h⟩
        · skip
          rcases ite_or h with ⟨-, h⟩ | ⟨-, h⟩
          · skip
            cases h <;> exact q
          · skip
            obtain ⟨x279, -, h⟩ := ob h
            cases h <;> exact q
        · skip
          rcases ite_or h with ⟨-, h⟩ | ⟨-, h⟩
          · skip
            rcases ite_or h with ⟨-, h⟩ | ⟨-, h⟩
            · skip
              cases h <;> exact q
            · skip
              obtain ⟨x279, -, h⟩ := ob h
              cases h <;> exact q
          · skip
            rcases ite_or h with ⟨-, h⟩ | ⟨-, h⟩
            · skip
              rcases ite_or h with ⟨-, h⟩ | ⟨-, h⟩
              · skip
                cases h <;> exact q
              · skip
                obtain ⟨x279, -, h⟩ := ob h
                cases h <;> exact q
            · skip
              rcases ite_or h with ⟨-, h⟩ | ⟨-, h⟩
              · skip
                rcases ite_or h with ⟨-, h⟩ | ⟨-, h⟩
                · skip
                  cases h <;> exact q
                · skip
                  obtain ⟨x279, -, h⟩ := ob h
                  cases h <;> exact q
              · skip
                rcases ite_or h with ⟨-, h⟩ | ⟨-, h⟩
                · skip
                  rcases ite_or h with ⟨-, h⟩ | ⟨-, h⟩
                  · skip
                    exact q.tr (pbX10_country_301 h)
                  · skip
                    exact q.tr (pbX10_country_301 h)
                · skip
                  rcases ite_or h with ⟨-, h⟩ | ⟨-, h⟩
                  · skip
                    rcases ite_or h with ⟨-, h⟩ | ⟨-, h⟩
                    · skip
                      exact q.tr (pbX10_country_301 h)
                    · skip
                      exact q.tr (pbX10_country_301 h)
                  · skip
                    rcases ite_or h with ⟨-, h⟩ | ⟨-, h⟩
                    · skip
                      rcases ite_or h with ⟨-, h⟩ | ⟨-, h⟩
                      · skip
                        cases h <;> exact q
                      · skip
                        rcases ite_or h with ⟨-, h⟩ | ⟨-, h⟩
                        · skip
                          exact q.tr (pbX10_country_354 h)
                        · skip
                          exact q.tr (pbX10_country_354 h)
                    · skip
                      rcases ite_or h with ⟨-, h⟩ | ⟨-, h⟩
                      · skip
                        rcases ite_or h with ⟨-, h⟩ | ⟨-, h⟩
                        · skip
                          cases h <;> exact q
                        · skip
                          rcases ite_or h with ⟨-, h⟩ | ⟨-, h⟩
                          · skip
                            exact q.tr (pbX10_country_354 h)
                          · skip
                            exact q.tr (pbX10_country_354 h)
                      · skip
                        cases h <;> exact q
    · skip
      obtain ⟨v31, -, h⟩ := nm_ex h
      rcases ite_or h with ⟨-, h⟩ | ⟨-, h⟩
      · skip
        rcases ite_or h with ⟨-, h⟩ | ⟨-, h⟩
        · skip
          exact q.tr (pbX10_country_88 h)
        · skip
          exact q.tr (pbX10_country_88 h)
      · skip
        obtain ⟨x44, -, h⟩ := ob h
        rcases ite_or h with ⟨-, h⟩ | ⟨-, h⟩
        · skip
          cases h <;> exact q
        · skip
          rcases ite_or h with ⟨-, h⟩ | ⟨-, h⟩
          · skip
            exact q.tr (pbX10_country_64 h)
          · skip
            exact q.tr (pbX10_country_64 h)
theorem pX10_hasYear {r : Int32} {S' : SV} {l1 : Int32} {S : SV} (h : gX10_hasYear l1 S = some (r, S')) : PE S S' := by
  unfold gX10_hasYear at h
  have q : PE S S := PE.rf
  obtain ⟨S2, ew, h⟩ := nm_ex h
  have q := q.tr (pe_wI ew)
  obtain ⟨x8, -, h⟩ := ob h
  rcases ite_or h with ⟨-, h⟩ | ⟨-, h⟩
  · cases h <;> exact q
  · cases h
theorem pX10_deed {r : Int32} {S' : SV} {l1 : Int32} {l2 : Int32} {l3 : Int32} {S : SV} (h : gX10_deed l1 l2 l3 S = some (r, S')) : PE S S' := by
  unfold gX10_deed at h
  have q : PE S S := PE.rf
  obtain ⟨S2, ew, h⟩ := nm_ex h
  have q := q.tr (pe_wI ew)
  obtain ⟨x7, S7, hw, h⟩ := ob2 h
  have q := q.tr (pX10_hasYear hw)
  rcases ite_or h with ⟨-, h⟩ | ⟨-, h⟩
  · skip
    cases h <;> exact q
  · skip
    rcases ite_or h with ⟨-, h⟩ | ⟨-, h⟩
    · skip
      rcases ite_or h with ⟨-, h⟩ | ⟨-, h⟩
      · skip
        obtain ⟨x26, -, h⟩ := ob h
        cases h <;> exact q
      · skip
        cases h <;> exact q
    · skip
      obtain ⟨x38, -, h⟩ := ob h
      rcases ite_or h with ⟨-, h⟩ | ⟨-, h⟩
      · skip
        cases h <;> exact q
      · skip
        rcases ite_or h with ⟨-, h⟩ | ⟨-, h⟩
        · skip
          cases h <;> exact q
        · skip
          obtain ⟨x61, -, h⟩ := ob h
          cases h <;> exact q
theorem pX10_looks {r : Int32} {S' : SV} {l1 : Int32} {l2 : Int32} {S : SV} (h : gX10_looks l1 l2 S = some (r, S')) : PE S S' := by
  unfold gX10_looks at h
  have q : PE S S := PE.rf
  obtain ⟨x2, -, h⟩ := ob h
  rcases ite_or h with ⟨-, h⟩ | ⟨-, h⟩
  · skip
    cases h <;> exact q
  · skip
    obtain ⟨x10, -, h⟩ := ob h
    rcases ite_or h with ⟨-, h⟩ | ⟨-, h⟩
    · skip
      cases h <;> exact q
    · skip
      rcases ite_or h with ⟨-, h⟩ | ⟨-, h⟩
      · skip
        obtain ⟨S37, hw, h⟩ := ob h
        have q := q.tr (pX10_sees hw)
        cases h <;> exact q
      · skip
        cases h <;> exact q
theorem pX10_turns {r : Int32} {S' : SV} {l1 : Int32} {l2 : Int32} {S : SV} (h : gX10_turns l1 l2 S = some (r, S')) : PE S S' := by
  unfold gX10_turns at h
  have q : PE S S := PE.rf
  obtain ⟨x2, -, h⟩ := ob h
  rcases ite_or h with ⟨-, h⟩ | ⟨-, h⟩
  · skip
    cases h <;> exact q
  · skip
    rcases ite_or h with ⟨-, h⟩ | ⟨-, h⟩
    · skip
      obtain ⟨S31, ew, h⟩ := nm_ex h
      have q := q.tr (pe_wI ew)
      cases h <;> exact q
    · skip
      cases h <;> exact q
theorem pX10_forges {r : Int32} {S' : SV} {l1 : Int32} {S : SV} (h : gX10_forges l1 S = some (r, S')) : PE S S' := by
  unfold gX10_forges at h
  have q : PE S S := PE.rf
  obtain ⟨x2, -, h⟩ := ob h
  rcases ite_or h with ⟨-, h⟩ | ⟨-, h⟩
  · skip
    cases h <;> exact q
  · skip
    obtain ⟨x23, -, h⟩ := ob h
    obtain ⟨S28, hw, h⟩ := ob h
    have q := q.tr (pe_wA rfl hw)
    obtain ⟨S38, ew, h⟩ := nm_ex h
    have q := q.tr (pe_wI ew)
    cases h <;> exact q
theorem pbX10_does_51 {r : Int32} {S' : SV} {s1 : Int32} {s2 : Int32} {S : SV} (h : gbX10_does_51 s1 s2 S = some (r, S')) : PE S S' := by
  unfold gbX10_does_51 at h
  have q : PE S S := PE.rf
  obtain ⟨x51, S51, hw, h⟩ := ob2 h
  have q := q.tr (pX10_turns hw)
  rcases ite_or h with ⟨-, h⟩ | ⟨-, h⟩
  · cases h <;> exact q
  · cases h
theorem pX10_does {r : Int32} {S' : SV} {l1 : Int32} {l2 : Int32} {l3 : Int32} {S : SV} (h : gX10_does l1 l2 l3 S = some (r, S')) : PE S S' := by
  unfold gX10_does at h
  have q : PE S S := PE.rf
  rcases ite_or h with ⟨-, h⟩ | ⟨-, h⟩
  · skip
    obtain ⟨x35, S35, hw, h⟩ := ob2 h
    have q := q.tr (pX10_looks hw)
    rcases ite_or h with ⟨-, h⟩ | ⟨-, h⟩
    · cases h <;> exact q
    · cases h
  · skip
    rcases ite_or h with ⟨-, h⟩ | ⟨-, h⟩
    · skip
      rcases ite_or h with ⟨-, h⟩ | ⟨-, h⟩
      · skip
        exact q.tr (pbX10_does_51 h)
      · skip
        exact q.tr (pbX10_does_51 h)
    · skip
      rcases ite_or h with ⟨-, h⟩ | ⟨-, h⟩
      · skip
        rcases ite_or h with ⟨-, h⟩ | ⟨-, h⟩
        · skip
          exact q.tr (pbX10_does_51 h)
        · skip
          exact q.tr (pbX10_does_51 h)
      · skip
        rcases ite_or h with ⟨-, h⟩ | ⟨-, h⟩
        · skip
          obtain ⟨x57, S57, hw, h⟩ := ob2 h
          have q := q.tr (pX10_forges hw)
          rcases ite_or h with ⟨-, h⟩ | ⟨-, h⟩
          · cases h <;> exact q
          · cases h
        · skip
          rcases ite_or h with ⟨-, h⟩ | ⟨-, h⟩
          · skip
            cases h <;> exact q
          · skip
            obtain ⟨S73, hw, h⟩ := ob h
            have q := q.tr (pX10_goesOn hw)
            cases h <;> exact q
theorem pX10_doesDeed {r : Int32} {S' : SV} {l1 : Int32} {S : SV} (h : gX10_doesDeed l1 S = some (r, S')) : PE S S' := by
  unfold gX10_doesDeed at h
  have q : PE S S := PE.rf
  obtain ⟨x4, -, h⟩ := ob h
  obtain ⟨x10, -, h⟩ := ob h
  obtain ⟨x16, -, h⟩ := ob h
  obtain ⟨x19, S19, hw, h⟩ := ob2 h
  have q := q.tr (pX10_does hw)
  rcases ite_or h with ⟨-, h⟩ | ⟨-, h⟩
  · cases h <;> exact q
  · cases h
theorem pbX10_play_2 {r : Int32} {S' : SV} {k2' : Int32 → Int32 → SV → Option (Int32 × SV)} (hk2 : ∀ (l1 : Int32) (l2 : Int32) (S : SV), k2' l1 l2 S = some (r, S') → PE S S') {l1 : Int32} {l2 : Int32} {S : SV} (h : gbX10_play_2 k2' l1 l2 S = some (r, S')) : PE S S' := by
  unfold gbX10_play_2 at h
  have q : PE S S := PE.rf
  rcases ite_or h with ⟨-, h⟩ | ⟨-, h⟩
  · skip
    cases h <;> exact q
  · skip
    obtain ⟨x9, S9, hw, h⟩ := ob2 h
    have q := q.tr (pX10_doesDeed hw)
    rcases ite_or h with ⟨-, h⟩ | ⟨-, h⟩
    · skip
      cases h <;> exact q
    · skip
      obtain ⟨v15, -, h⟩ := nm_ex h
      exact q.tr (hk2 _ _ _ h)
theorem pfX10_play_2 {r : Int32} {S' : SV} : ∀ (n : Nat) (l1 : Int32) (l2 : Int32) (S : SV), gfX10_play_2 n l1 l2 S = some (r, S') → PE S S' := by
  intro n
  induction n with
  | zero => intro l1 l2 S h; cases h
  | succ n ih => intro l1 l2 S h; exact pbX10_play_2 (fun l1 l2 S h => ih l1 l2 S h) h
theorem pX10_play {r : Int32} {S' : SV} {l1 : Int32} {S : SV} (h : gX10_play l1 S = some (r, S')) : PE S S' := by
  unfold gX10_play at h
  have q : PE S S := PE.rf
  exact q.tr (pfX10_play_2 FU _ _ _ h)
theorem pX10_layAll {r : Int32} {S' : SV} {l1 : Int32} {l2 : Int32} {S : SV} (h : gX10_layAll l1 l2 S = some (r, S')) : PE S S' := by
  unfold gX10_layAll at h
  have q : PE S S := PE.rf
  obtain ⟨x2, S2, hw, h⟩ := ob2 h
  have q := q.tr (pX10_hasYear hw)
  rcases ite_or h with ⟨-, h⟩ | ⟨-, h⟩
  · skip
    cases h <;> exact q
  · skip
    obtain ⟨x10, S10, hw, h⟩ := ob2 h
    have q := q.tr (pX10_hand hw)
    rcases ite_or h with ⟨-, h⟩ | ⟨-, h⟩
    · skip
      cases h <;> exact q
    · skip
      cases h <;> exact q
theorem pX10_till {r : Int32} {S' : SV} {l1 : Int32} {l2 : Int32} {S : SV} (h : gX10_till l1 l2 S = some (r, S')) : PE S S' := by
  unfold gX10_till at h
  have q : PE S S := PE.rf
  obtain ⟨S2, ew, h⟩ := nm_ex h
  have q := q.tr (pe_wI ew)
  obtain ⟨x8, S8, hw, h⟩ := ob2 h
  have q := q.tr (pX10_layAll hw)
  rcases ite_or h with ⟨-, h⟩ | ⟨-, h⟩
  · skip
    cases h <;> exact q
  · skip
    obtain ⟨x16, -, h⟩ := ob h
    obtain ⟨x19, S19, hw, h⟩ := ob2 h
    have q := q.tr (pX10_play hw)
    cases h <;> exact q
theorem pX10_state {r : Int32} {S' : SV} {l1 : Int32} {l2 : Int32} {l3 : Int32} {l4 : Int32} {S : SV} (h : gX10_state l1 l2 l3 l4 S = some (r, S')) : PE S S' := by
  unfold gX10_state at h
  have q : PE S S := PE.rf
  obtain ⟨S2, ew, h⟩ := nm_ex h
  have q := q.tr (pe_wI ew)
  obtain ⟨x8, S8, hw, h⟩ := ob2 h
  have q := q.tr (pX10_layAll hw)
  rcases ite_or h with ⟨-, h⟩ | ⟨-, h⟩
  · skip
    cases h <;> exact q
  · skip
    obtain ⟨x17, -, h⟩ := ob h
    rcases ite_or h with ⟨-, h⟩ | ⟨-, h⟩
    · skip
      cases h <;> exact q
    · skip
      obtain ⟨x28, S28, hw, h⟩ := ob2 h
      have q := q.tr (pX10_play hw)
      rcases ite_or h with ⟨-, h⟩ | ⟨-, h⟩
      · skip
        obtain ⟨x38, -, h⟩ := ob h
        cases h <;> exact q
      · skip
        cases h <;> exact q
theorem pbX10_lasts_50 {r : Int32} {S' : SV} {l2 : Int32} {S : SV} (h : gbX10_lasts_50 l2 S = some (r, S')) : PE S S' := by
  unfold gbX10_lasts_50 at h
  have q : PE S S := PE.rf
  rcases ite_or h with ⟨-, h⟩ | ⟨-, h⟩
  · skip
    cases h <;> exact q
  · skip
    cases h <;> exact q
theorem pbX10_lasts_23 {r : Int32} {S' : SV} {k23' : Int32 → SV → Option (Int32 × SV)} (hk23 : ∀ (l2 : Int32) (S : SV), k23' l2 S = some (r, S') → PE S S') {l2 : Int32} {S : SV} (h : gbX10_lasts_23 k23' l2 S = some (r, S')) : PE S S' := by
  unfold gbX10_lasts_23 at h
  have q : PE S S := PE.rf
  rcases ite_or h with ⟨-, h⟩ | ⟨-, h⟩
  · skip
    exact q.tr (pbX10_lasts_50 h)
  · skip
    rcases ite_or h with ⟨-, h⟩ | ⟨-, h⟩
    · skip
      obtain ⟨S44, hw, h⟩ := ob h
      have q := q.tr (pX10_goesOn hw)
      exact q.tr (hk23 _ _ h)
    · skip
      exact q.tr (pbX10_lasts_50 h)
theorem pfX10_lasts_23 {r : Int32} {S' : SV} : ∀ (n : Nat) (l2 : Int32) (S : SV), gfX10_lasts_23 n l2 S = some (r, S') → PE S S' := by
  intro n
  induction n with
  | zero => intro l2 S h; cases h
  | succ n ih => intro l2 S h; exact pbX10_lasts_23 (fun l2 S h => ih l2 S h) h
theorem pX10_lasts {r : Int32} {S' : SV} {l1 : Int32} {l2 : Int32} {S : SV} (h : gX10_lasts l1 l2 S = some (r, S')) : PE S S' := by
  unfold gX10_lasts at h
  have q : PE S S := PE.rf
  obtain ⟨S2, ew, h⟩ := nm_ex h
  have q := q.tr (pe_wI ew)
  obtain ⟨x7, S7, hw, h⟩ := ob2 h
  have q := q.tr (pX10_hand hw)
  rcases ite_or h with ⟨-, h⟩ | ⟨-, h⟩
  · skip
    cases h <;> exact q
  · skip
    obtain ⟨x15, -, h⟩ := ob h
    rcases ite_or h with ⟨-, h⟩ | ⟨-, h⟩
    · skip
      cases h <;> exact q
    · skip
      exact q.tr (pfX10_lasts_23 FU _ _ h)
theorem pbX10_layRow_75 {r : Int32} {S' : SV} {k12' : Int32 → Int32 → Int32 → SV → Option (Int32 × SV)} (hk12 : ∀ (l2 : Int32) (l3 : Int32) (l4 : Int32) (S : SV), k12' l2 l3 l4 S = some (r, S') → PE S S') {l2 : Int32} {l3 : Int32} {l4 : Int32} {S : SV} (h : gbX10_layRow_75 k12' l2 l3 l4 S = some (r, S')) : PE S S' := by
  unfold gbX10_layRow_75 at h
  have q : PE S S := PE.rf
  obtain ⟨x82, -, h⟩ := ob h
  rcases ite_or h with ⟨-, h⟩ | ⟨-, h⟩
  · skip
    obtain ⟨v102, -, h⟩ := nm_ex h
    obtain ⟨v103, -, h⟩ := nm_ex h
    exact q.tr (hk12 _ _ _ _ h)
  · skip
    obtain ⟨x95, -, h⟩ := ob h
    obtain ⟨v102, -, h⟩ := nm_ex h
    obtain ⟨v103, -, h⟩ := nm_ex h
    exact q.tr (hk12 _ _ _ _ h)
theorem pbX10_layRow_12 {r : Int32} {S' : SV} {k12' : Int32 → Int32 → Int32 → SV → Option (Int32 × SV)} (hk12 : ∀ (l2 : Int32) (l3 : Int32) (l4 : Int32) (S : SV), k12' l2 l3 l4 S = some (r, S') → PE S S') {l2 : Int32} {l3 : Int32} {l4 : Int32} {S : SV} (h : gbX10_layRow_12 k12' l2 l3 l4 S = some (r, S')) : PE S S' := by
  unfold gbX10_layRow_12 at h
  have q : PE S S := PE.rf
  rcases ite_or h with ⟨-, h⟩ | ⟨-, h⟩
  · skip
    cases h <;> exact q
  · skip
    obtain ⟨S27, hw, h⟩ := ob h
    have q := q.tr (pe_wA rfl hw)
    obtain ⟨v32, -, h⟩ := nm_ex h
    obtain ⟨x39, -, h⟩ := ob h
    rcases ite_or h with ⟨-, h⟩ | ⟨-, h⟩
    · skip
      exact q.tr (pbX10_layRow_75 hk12 h)
    · skip
      obtain ⟨x52, -, h⟩ := ob h
      obtain ⟨x53, -, h⟩ := ob h
      rcases ite_or h with ⟨-, h⟩ | ⟨-, h⟩
      · skip
        cases h <;> exact q
      · skip
        obtain ⟨x66, -, h⟩ := ob h
        rcases ite_or h with ⟨-, h⟩ | ⟨-, h⟩
        · skip
          exact q.tr (pbX10_layRow_75 hk12 h)
        · skip
          cases h <;> exact q
theorem pfX10_layRow_12 {r : Int32} {S' : SV} : ∀ (n : Nat) (l2 : Int32) (l3 : Int32) (l4 : Int32) (S : SV), gfX10_layRow_12 n l2 l3 l4 S = some (r, S') → PE S S' := by
  intro n
  induction n with
  | zero => intro l2 l3 l4 S h; cases h
  | succ n ih => intro l2 l3 l4 S h; exact pbX10_layRow_12 (fun l2 l3 l4 S h => ih l2 l3 l4 S h) h
theorem pX10_layRow {r : Int32} {S' : SV} {l1 : Int32} {S : SV} (h : gX10_layRow l1 S = some (r, S')) : PE S S' := by
  unfold gX10_layRow at h
  have q : PE S S := PE.rf
  obtain ⟨v10, -, h⟩ := nm_ex h
  exact q.tr (pfX10_layRow_12 FU _ _ _ _ h)
theorem pbX10_tryRow_155 {S' : SV} {l1 : Int32} {l2 : Int32} {S : SV} (h : gbX10_tryRow_155 l1 l2 S = some S') : PE S S' := by
  unfold gbX10_tryRow_155 at h
  have q : PE S S := PE.rf
  obtain ⟨x157, -, h⟩ := ob h
  rcases ite_or h with ⟨-, h⟩ | ⟨-, h⟩
  · skip
    obtain ⟨S179, ew, h⟩ := nm_ex h
    have q := q.tr (pe_wI ew)
    cases h <;> exact q
  · skip
    obtain ⟨S179, ew, h⟩ := nm_ex h
    have q := q.tr (pe_wI ew)
    cases h <;> exact q
theorem pbX10_tryRow_126 {S' : SV} {k126' : Int32 → Int32 → Int32 → SV → Option SV} (hk126 : ∀ (l1 : Int32) (l2 : Int32) (l5 : Int32) (S : SV), k126' l1 l2 l5 S = some S' → PE S S') {l1 : Int32} {l2 : Int32} {l5 : Int32} {S : SV} (h : gbX10_tryRow_126 k126' l1 l2 l5 S = some S') : PE S S' := by
  unfold gbX10_tryRow_126 at h
  have q : PE S S := PE.rf
  rcases ite_or h with ⟨-, h⟩ | ⟨-, h⟩
  · skip
    exact q.tr (pbX10_tryRow_155 h)
  · skip
    obtain ⟨x147, -, h⟩ := ob h
    obtain ⟨S148, hw, h⟩ := ob h
    have q := q.tr (pe_wA rfl hw)
    obtain ⟨v149, -, h⟩ := nm_ex h
    exact q.tr (hk126 _ _ _ _ h)
theorem pfX10_tryRow_126 {S' : SV} : ∀ (n : Nat) (l1 : Int32) (l2 : Int32) (l5 : Int32) (S : SV), gfX10_tryRow_126 n l1 l2 l5 S = some S' → PE S S' := by
  intro n
  induction n with
  | zero => intro l1 l2 l5 S h; cases h
  | succ n ih => intro l1 l2 l5 S h; exact pbX10_tryRow_126 (fun l1 l2 l5 S h => ih l1 l2 l5 S h) h
theorem pbX10_tryRow_112 {S' : SV} {l1 : Int32} {l2 : Int32} {l3 : Int32} {l4 : Int32} {S : SV} (h : gbX10_tryRow_112 l1 l2 l3 l4 S = some S') : PE S S' := by
  unfold gbX10_tryRow_112 at h
  have q : PE S S := PE.rf
  obtain ⟨S115, ew, h⟩ := nm_ex h
  have q := q.tr (pe_wI ew)
  obtain ⟨S120, ew, h⟩ := nm_ex h
  have q := q.tr (pe_wI ew)
  exact q.tr (pfX10_tryRow_126 FU _ _ _ _ h)
theorem pbX10_tryRow_52 {S' : SV} {k52' : Int32 → Int32 → Int32 → Int32 → SV → Option SV} (hk52 : ∀ (l1 : Int32) (l2 : Int32) (l3 : Int32) (l4 : Int32) (S : SV), k52' l1 l2 l3 l4 S = some S' → PE S S') {l1 : Int32} {l2 : Int32} {l3 : Int32} {l4 : Int32} {S : SV} (h : gbX10_tryRow_52 k52' l1 l2 l3 l4 S = some S') : PE S S' := by
  unfold gbX10_tryRow_52 at h
  have q : PE S S := PE.rf
  rcases ite_or h with ⟨-, h⟩ | ⟨-, h⟩
  · skip
    obtain ⟨x78, -, h⟩ := ob h
    obtain ⟨x81, -, h⟩ := ob h
    rcases ite_or h with ⟨-, h⟩ | ⟨-, h⟩
    · skip
      exact q.tr (pbX10_tryRow_112 h)
    · skip
      rcases ite_or h with ⟨-, h⟩ | ⟨-, h⟩
      · skip
        rcases ite_or h with ⟨-, h⟩ | ⟨-, h⟩
        · skip
          exact q.tr (pbX10_tryRow_155 h)
        · skip
          exact q.tr (pbX10_tryRow_112 h)
      · skip
        exact q.tr (pbX10_tryRow_155 h)
  · skip
    obtain ⟨x68, -, h⟩ := ob h
    obtain ⟨v70, -, h⟩ := nm_ex h
    obtain ⟨v71, -, h⟩ := nm_ex h
    exact q.tr (hk52 _ _ _ _ _ h)
theorem pfX10_tryRow_52 {S' : SV} : ∀ (n : Nat) (l1 : Int32) (l2 : Int32) (l3 : Int32) (l4 : Int32) (S : SV), gfX10_tryRow_52 n l1 l2 l3 l4 S = some S' → PE S S' := by
  intro n
  induction n with
  | zero => intro l1 l2 l3 l4 S h; cases h
  | succ n ih => intro l1 l2 l3 l4 S h; exact pbX10_tryRow_52 (fun l1 l2 l3 l4 S h => ih l1 l2 l3 l4 S h) h
theorem pbX10_tryRow_4 {S' : SV} {k4' : Int32 → Int32 → Int32 → SV → Option SV} (hk4 : ∀ (l1 : Int32) (l2 : Int32) (l3 : Int32) (S : SV), k4' l1 l2 l3 S = some S' → PE S S') {l1 : Int32} {l2 : Int32} {l3 : Int32} {S : SV} (h : gbX10_tryRow_4 k4' l1 l2 l3 S = some S') : PE S S' := by
  unfold gbX10_tryRow_4 at h
  have q : PE S S := PE.rf
  rcases ite_or h with ⟨-, h⟩ | ⟨-, h⟩
  · skip
    obtain ⟨S44, hw, h⟩ := ob h
    have q := q.tr (pX10_goesOn hw)
    exact q.tr (pfX10_tryRow_52 FU _ _ _ _ _ h)
  · skip
    obtain ⟨x17, -, h⟩ := ob h
    rcases ite_or h with ⟨-, h⟩ | ⟨-, h⟩
    · skip
      obtain ⟨v37, -, h⟩ := nm_ex h
      exact q.tr (hk4 _ _ _ _ h)
    · skip
      obtain ⟨x30, -, h⟩ := ob h
      obtain ⟨S31, hw, h⟩ := ob h
      have q := q.tr (pX10_sees hw)
      obtain ⟨v34, -, h⟩ := nm_ex h
      obtain ⟨v37, -, h⟩ := nm_ex h
      exact q.tr (hk4 _ _ _ _ h)
theorem pfX10_tryRow_4 {S' : SV} : ∀ (n : Nat) (l1 : Int32) (l2 : Int32) (l3 : Int32) (S : SV), gfX10_tryRow_4 n l1 l2 l3 S = some S' → PE S S' := by
  intro n
  induction n with
  | zero => intro l1 l2 l3 S h; cases h
  | succ n ih => intro l1 l2 l3 S h; exact pbX10_tryRow_4 (fun l1 l2 l3 S h => ih l1 l2 l3 S h) h
theorem pX10_tryRow {S' : SV} {l1 : Int32} {S : SV} (h : gX10_tryRow l1 S = some S') : PE S S' := by
  unfold gX10_tryRow at h
  have q : PE S S := PE.rf
  exact q.tr (pfX10_tryRow_4 FU _ _ _ _ h)
theorem pbX10_findWatch_47 {S' : SV} {k47' : Int32 → Int32 → Int32 → SV → Option SV} (hk47 : ∀ (l1 : Int32) (l2 : Int32) (l3 : Int32) (S : SV), k47' l1 l2 l3 S = some S' → PE S S') {l1 : Int32} {l2 : Int32} {l3 : Int32} {S : SV} (h : gbX10_findWatch_47 k47' l1 l2 l3 S = some S') : PE S S' := by
  unfold gbX10_findWatch_47 at h
  have q : PE S S := PE.rf
  rcases ite_or h with ⟨-, h⟩ | ⟨-, h⟩
  · skip
    cases h <;> exact q
  · skip
    obtain ⟨S53, hw, h⟩ := ob h
    have q := q.tr (pX10_begin hw)
    obtain ⟨S57, hw, h⟩ := ob h
    have q := q.tr (pX10_falls hw)
    obtain ⟨x62, S62, hw, h⟩ := ob2 h
    have q := q.tr (pX10_layRow hw)
    rcases ite_or h with ⟨-, h⟩ | ⟨-, h⟩
    · skip
      obtain ⟨v73, -, h⟩ := nm_ex h
      exact q.tr (hk47 _ _ _ _ h)
    · skip
      obtain ⟨S70, hw, h⟩ := ob h
      have q := q.tr (pX10_tryRow hw)
      obtain ⟨v73, -, h⟩ := nm_ex h
      exact q.tr (hk47 _ _ _ _ h)
theorem pfX10_findWatch_47 {S' : SV} : ∀ (n : Nat) (l1 : Int32) (l2 : Int32) (l3 : Int32) (S : SV), gfX10_findWatch_47 n l1 l2 l3 S = some S' → PE S S' := by
  intro n
  induction n with
  | zero => intro l1 l2 l3 S h; cases h
  | succ n ih => intro l1 l2 l3 S h; exact pbX10_findWatch_47 (fun l1 l2 l3 S h => ih l1 l2 l3 S h) h
theorem pbX10_findWatch_9 {S' : SV} {k9' : Int32 → Int32 → Int32 → SV → Option SV} (hk9 : ∀ (l1 : Int32) (l2 : Int32) (l3 : Int32) (S : SV), k9' l1 l2 l3 S = some S' → PE S S') {l1 : Int32} {l2 : Int32} {l3 : Int32} {S : SV} (h : gbX10_findWatch_9 k9' l1 l2 l3 S = some S') : PE S S' := by
  unfold gbX10_findWatch_9 at h
  have q : PE S S := PE.rf
  rcases ite_or h with ⟨-, h⟩ | ⟨-, h⟩
  · skip
    obtain ⟨S30, ew, h⟩ := nm_ex h
    have q := q.tr (pe_wI ew)
    obtain ⟨S35, ew, h⟩ := nm_ex h
    have q := q.tr (pe_wI ew)
    obtain ⟨S42, ew, h⟩ := nm_ex h
    have q := q.tr (pe_wI ew)
    exact q.tr (pfX10_findWatch_47 FU _ _ _ _ h)
  · skip
    obtain ⟨v21, -, h⟩ := nm_ex h
    obtain ⟨v22, -, h⟩ := nm_ex h
    exact q.tr (hk9 _ _ _ _ h)
theorem pfX10_findWatch_9 {S' : SV} : ∀ (n : Nat) (l1 : Int32) (l2 : Int32) (l3 : Int32) (S : SV), gfX10_findWatch_9 n l1 l2 l3 S = some S' → PE S S' := by
  intro n
  induction n with
  | zero => intro l1 l2 l3 S h; cases h
  | succ n ih => intro l1 l2 l3 S h; exact pbX10_findWatch_9 (fun l1 l2 l3 S h => ih l1 l2 l3 S h) h
theorem pX10_findWatch {S' : SV} {S : SV} (h : gX10_findWatch S = some S') : PE S S' := by
  unfold gX10_findWatch at h
  have q : PE S S := PE.rf
  obtain ⟨x1, -, h⟩ := ob h
  exact q.tr (pfX10_findWatch_9 FU _ _ _ _ h)
theorem pX10_watch {r : Int32} {S' : SV} {l1 : Int32} {l2 : Int32} {S : SV} (h : gX10_watch l1 l2 S = some (r, S')) : PE S S' := by
  unfold gX10_watch at h
  have q : PE S S := PE.rf
  obtain ⟨S2, ew, h⟩ := nm_ex h
  have q := q.tr (pe_wI ew)
  obtain ⟨x7, S7, hw, h⟩ := ob2 h
  have q := q.tr (pX10_hand hw)
  rcases ite_or h with ⟨-, h⟩ | ⟨-, h⟩
  · skip
    cases h <;> exact q
  · skip
    rcases ite_or h with ⟨-, h⟩ | ⟨-, h⟩
    · skip
      cases h <;> exact q
    · skip
      obtain ⟨S31, hw, h⟩ := ob h
      have q := q.tr (pX10_findWatch hw)
      rcases ite_or h with ⟨-, h⟩ | ⟨-, h⟩
      · skip
        cases h <;> exact q
      · skip
        rcases ite_or h with ⟨-, h⟩ | ⟨-, h⟩
        · skip
          cases h <;> exact q
        · skip
          obtain ⟨x64, -, h⟩ := ob h
          cases h <;> exact q
theorem pbX10_hoursTill_91 {r : Int32} {S' : SV} {l4 : Int32} {l5 : Int32} {S : SV} (h : gbX10_hoursTill_91 l4 l5 S = some (r, S')) : PE S S' := by
  unfold gbX10_hoursTill_91 at h
  have q : PE S S := PE.rf
  rcases ite_or h with ⟨-, h⟩ | ⟨-, h⟩
  · skip
    cases h <;> exact q
  · skip
    cases h <;> exact q
theorem pbX10_hoursTill_60 {r : Int32} {S' : SV} {k20' : Int32 → Int32 → Int32 → SV → Option (Int32 × SV)} (hk20 : ∀ (l3 : Int32) (l4 : Int32) (l5 : Int32) (S : SV), k20' l3 l4 l5 S = some (r, S') → PE S S') {l3 : Int32} {l4 : Int32} {s0 : Int32} {S : SV} (h : gbX10_hoursTill_60 k20' l3 l4 s0 S = some (r, S')) : PE S S' := by
  unfold gbX10_hoursTill_60 at h
  have q : PE S S := PE.rf
  obtain ⟨S63, hw, h⟩ := ob h
  have q := q.tr (pX10_goesOn hw)
  obtain ⟨v75, -, h⟩ := nm_ex h
  obtain ⟨v86, -, h⟩ := nm_ex h
  exact q.tr (hk20 _ _ _ _ h)
theorem pbX10_hoursTill_20 {r : Int32} {S' : SV} {k20' : Int32 → Int32 → Int32 → SV → Option (Int32 × SV)} (hk20 : ∀ (l3 : Int32) (l4 : Int32) (l5 : Int32) (S : SV), k20' l3 l4 l5 S = some (r, S') → PE S S') {l3 : Int32} {l4 : Int32} {l5 : Int32} {S : SV} (h : gbX10_hoursTill_20 k20' l3 l4 l5 S = some (r, S')) : PE S S' := by
  unfold gbX10_hoursTill_20 at h
  have q : PE S S := PE.rf
  rcases ite_or h with ⟨-, h⟩ | ⟨-, h⟩
  · skip
    rcases ite_or h with ⟨-, h⟩ | ⟨-, h⟩
    · skip
      exact q.tr (pbX10_hoursTill_91 h)
    · skip
      obtain ⟨x40, -, h⟩ := ob h
      rcases ite_or h with ⟨-, h⟩ | ⟨-, h⟩
      · skip
        exact q.tr (pbX10_hoursTill_60 hk20 h)
      · skip
        obtain ⟨x52, -, h⟩ := ob h
        exact q.tr (pbX10_hoursTill_60 hk20 h)
  · skip
    exact q.tr (pbX10_hoursTill_91 h)
theorem pfX10_hoursTill_20 {r : Int32} {S' : SV} : ∀ (n : Nat) (l3 : Int32) (l4 : Int32) (l5 : Int32) (S : SV), gfX10_hoursTill_20 n l3 l4 l5 S = some (r, S') → PE S S' := by
  intro n
  induction n with
  | zero => intro l3 l4 l5 S h; cases h
  | succ n ih => intro l3 l4 l5 S h; exact pbX10_hoursTill_20 (fun l3 l4 l5 S h => ih l3 l4 l5 S h) h
theorem pX10_hoursTill {r : Int32} {S' : SV} {l1 : Int32} {l2 : Int32} {l3 : Int32} {S : SV} (h : gX10_hoursTill l1 l2 l3 S = some (r, S')) : PE S S' := by
  unfold gX10_hoursTill at h
  have q : PE S S := PE.rf
  obtain ⟨v8, -, h⟩ := nm_ex h
  obtain ⟨v18, -, h⟩ := nm_ex h
  exact q.tr (pfX10_hoursTill_20 FU _ _ _ _ h)
theorem pX10_way {r : Int32} {S' : SV} {l1 : Int32} {l2 : Int32} {l3 : Int32} {l4 : Int32} {S : SV} (h : gX10_way l1 l2 l3 l4 S = some (r, S')) : PE S S' := by
  unfold gX10_way at h
  have q : PE S S := PE.rf
  obtain ⟨S2, ew, h⟩ := nm_ex h
  have q := q.tr (pe_wI ew)
  obtain ⟨x7, S7, hw, h⟩ := ob2 h
  have q := q.tr (pX10_hand hw)
  rcases ite_or h with ⟨-, h⟩ | ⟨-, h⟩
  · skip
    cases h <;> exact q
  · skip
    obtain ⟨x15, -, h⟩ := ob h
    rcases ite_or h with ⟨-, h⟩ | ⟨-, h⟩
    · skip
      cases h <;> exact q
    · skip
      obtain ⟨x23, -, h⟩ := ob h
      rcases ite_or h with ⟨-, h⟩ | ⟨-, h⟩
      · skip
        cases h <;> exact q
      · skip
        rcases ite_or h with ⟨-, h⟩ | ⟨-, h⟩
        · skip
          obtain ⟨x53, S53, hw, h⟩ := ob2 h
          have q := q.tr (pX10_hoursTill hw)
          cases h <;> exact q
        · skip
          obtain ⟨x39, -, h⟩ := ob h
          cases h <;> exact q
theorem pbX10_asks_59 {S' : SV} {l1 : Int32} {l2 : Int32} {l3 : Int32} {S : SV} (h : gbX10_asks_59 l1 l2 l3 S = some S') : PE S S' := by
  unfold gbX10_asks_59 at h
  have q : PE S S := PE.rf
  obtain ⟨S65, hw, h⟩ := ob h
  have q := q.tr (pe_wA rfl hw)
  obtain ⟨S72, hw, h⟩ := ob h
  have q := q.tr (pe_wA rfl hw)
  rcases ite_or h with ⟨-, h⟩ | ⟨-, h⟩
  · skip
    cases h <;> exact q
  · skip
    obtain ⟨S84, hw, h⟩ := ob h
    have q := q.tr (pe_wA rfl hw)
    cases h <;> exact q
theorem pX10_asks {S' : SV} {l1 : Int32} {l2 : Int32} {S : SV} (h : gX10_asks l1 l2 S = some S') : PE S S' := by
  unfold gX10_asks at h
  have q : PE S S := PE.rf
  obtain ⟨x6, -, h⟩ := ob h
  obtain ⟨S11, hw, h⟩ := ob h
  have q := q.tr (pe_wA rfl hw)
  obtain ⟨x17, -, h⟩ := ob h
  rcases ite_or h with ⟨-, h⟩ | ⟨-, h⟩
  · skip
    exact q.tr (pbX10_asks_59 h)
  · skip
    obtain ⟨x27, -, h⟩ := ob h
    obtain ⟨x33, -, h⟩ := ob h
    rcases ite_or h with ⟨-, h⟩ | ⟨-, h⟩
    · skip
      exact q.tr (pbX10_asks_59 h)
    · skip
      obtain ⟨x42, -, h⟩ := ob h
      obtain ⟨x48, -, h⟩ := ob h
      rcases ite_or h with ⟨-, h⟩ | ⟨-, h⟩
      · skip
        rcases ite_or h with ⟨-, h⟩ | ⟨-, h⟩
        · skip
          cases h <;> exact q
        · skip
          exact q.tr (pbX10_asks_59 h)
      · skip
        cases h <;> exact q
theorem pbX10_marry_72 {S' : SV} {k36' : Int32 → SV → Option SV} {k44' : Int32 → Int32 → SV → Option SV} (hk36 : ∀ (l1 : Int32) (S : SV), k36' l1 S = some S' → PE S S') (hk44 : ∀ (l1 : Int32) (l2 : Int32) (S : SV), k44' l1 l2 S = some S' → PE S S') {l1 : Int32} {l2 : Int32} {s0 : Int32} {S : SV} (h : gbX10_marry_72 k36' k44' l1 l2 s0 S = some S') : PE S S' := by
  unfold gbX10_marry_72 at h
  have q : PE S S := PE.rf
  rcases ite_or h with ⟨-, h⟩ | ⟨-, h⟩
  · skip
    obtain ⟨v86, -, h⟩ := nm_ex h
    exact q.tr (hk44 _ _ _ h)
  · skip
    obtain ⟨S81, hw, h⟩ := ob h
    have q := q.tr (pX10_asks hw)
    obtain ⟨v86, -, h⟩ := nm_ex h
    exact q.tr (hk44 _ _ _ h)
theorem pbX10_marry_44 {S' : SV} {k36' : Int32 → SV → Option SV} {k44' : Int32 → Int32 → SV → Option SV} (hk36 : ∀ (l1 : Int32) (S : SV), k36' l1 S = some S' → PE S S') (hk44 : ∀ (l1 : Int32) (l2 : Int32) (S : SV), k44' l1 l2 S = some S' → PE S S') {l1 : Int32} {l2 : Int32} {S : SV} (h : gbX10_marry_44 k36' k44' l1 l2 S = some S') : PE S S' := by
  unfold gbX10_marry_44 at h
  have q : PE S S := PE.rf
  obtain ⟨x47, -, h⟩ := ob h
  rcases ite_or h with ⟨-, h⟩ | ⟨-, h⟩
  · skip
    exact q.tr (hk36 _ _ h)
  · skip
    obtain ⟨x58, -, h⟩ := ob h
    rcases ite_or h with ⟨-, h⟩ | ⟨-, h⟩
    · skip
      obtain ⟨x65, -, h⟩ := ob h
      exact q.tr (pbX10_marry_72 hk36 hk44 h)
    · skip
      exact q.tr (pbX10_marry_72 hk36 hk44 h)
theorem pfX10_marry_44 {S' : SV} {k36' : Int32 → SV → Option SV} (hk36 : ∀ (l1 : Int32) (S : SV), k36' l1 S = some S' → PE S S') : ∀ (n : Nat) (l1 : Int32) (l2 : Int32) (S : SV), gfX10_marry_44 k36' n l1 l2 S = some S' → PE S S' := by
  intro n
  induction n with
  | zero => intro l1 l2 S h; cases h
  | succ n ih => intro l1 l2 S h; exact pbX10_marry_44 hk36 (fun l1 l2 S h => ih l1 l2 S h) h
theorem pbX10_marry_36 {S' : SV} {k36' : Int32 → SV → Option SV} (hk36 : ∀ (l1 : Int32) (S : SV), k36' l1 S = some S' → PE S S') {l1 : Int32} {S : SV} (h : gbX10_marry_36 k36' l1 S = some S') : PE S S' := by
  unfold gbX10_marry_36 at h
  have q : PE S S := PE.rf
  rcases ite_or h with ⟨-, h⟩ | ⟨-, h⟩
  · skip
    cases h <;> exact q
  · skip
    exact q.tr (pfX10_marry_44 hk36 FU _ _ _ h)
theorem pfX10_marry_36 {S' : SV} : ∀ (n : Nat) (l1 : Int32) (S : SV), gfX10_marry_36 n l1 S = some S' → PE S S' := by
  intro n
  induction n with
  | zero => intro l1 S h; cases h
  | succ n ih => intro l1 S h; exact pbX10_marry_36 (fun l1 S h => ih l1 S h) h
theorem pbX10_marry_2 {S' : SV} {k2' : Int32 → SV → Option SV} (hk2 : ∀ (l1 : Int32) (S : SV), k2' l1 S = some S' → PE S S') {l1 : Int32} {S : SV} (h : gbX10_marry_2 k2' l1 S = some S') : PE S S' := by
  unfold gbX10_marry_2 at h
  have q : PE S S := PE.rf
  rcases ite_or h with ⟨-, h⟩ | ⟨-, h⟩
  · skip
    exact q.tr (pfX10_marry_36 FU _ _ h)
  · skip
    obtain ⟨S13, hw, h⟩ := ob h
    have q := q.tr (pe_wA rfl hw)
    obtain ⟨S20, hw, h⟩ := ob h
    have q := q.tr (pe_wA rfl hw)
    obtain ⟨S27, hw, h⟩ := ob h
    have q := q.tr (pe_wA rfl hw)
    obtain ⟨v28, -, h⟩ := nm_ex h
    exact q.tr (hk2 _ _ h)
theorem pfX10_marry_2 {S' : SV} : ∀ (n : Nat) (l1 : Int32) (S : SV), gfX10_marry_2 n l1 S = some S' → PE S S' := by
  intro n
  induction n with
  | zero => intro l1 S h; cases h
  | succ n ih => intro l1 S h; exact pbX10_marry_2 (fun l1 S h => ih l1 S h) h
theorem pX10_marry {S' : SV} {S : SV} (h : gX10_marry S = some S') : PE S S' := by
  unfold gX10_marry at h
  have q : PE S S := PE.rf
  exact q.tr (pfX10_marry_2 FU _ _ h)
theorem pbX10_married_25 {r : Int32} {S' : SV} {l2 : Int32} {l3 : Int32} {s0 : Int32} {s1 : Int32} {s3 : Int32} {S : SV} (h : gbX10_married_25 l2 l3 s0 s1 s3 S = some (r, S')) : PE S S' := by
  unfold gbX10_married_25 at h
  have q : PE S S := PE.rf
  obtain ⟨x25, -, h⟩ := ob h
  rcases ite_or h with ⟨-, h⟩ | ⟨-, h⟩
  · skip
    cases h <;> exact q
  · skip
    obtain ⟨S40, hw, h⟩ := ob h
    have q := q.tr (pX10_marry hw)
    rcases ite_or h with ⟨-, h⟩ | ⟨-, h⟩
    · skip
      obtain ⟨x61, -, h⟩ := ob h
      cases h <;> exact q
    · skip
      obtain ⟨x52, -, h⟩ := ob h
      cases h <;> exact q
theorem pX10_married {r : Int32} {S' : SV} {l1 : Int32} {l2 : Int32} {l3 : Int32} {S : SV} (h : gX10_married l1 l2 l3 S = some (r, S')) : PE S S' := by
  unfold gX10_married at h
  have q : PE S S := PE.rf
  obtain ⟨S2, ew, h⟩ := nm_ex h
  have q := q.tr (pe_wI ew)
  obtain ⟨x7, S7, hw, h⟩ := ob2 h
  have q := q.tr (pX10_hand hw)
  rcases ite_or h with ⟨-, h⟩ | ⟨-, h⟩
  · skip
    cases h <;> exact q
  · skip
    rcases ite_or h with ⟨-, h⟩ | ⟨-, h⟩
    · skip
      exact q.tr (pbX10_married_25 h)
    · skip
      exact q.tr (pbX10_married_25 h)
theorem pbX10_unhappy_203 {r : Int32} {S' : SV} {k104' : Int32 → Int32 → SV → Option (Int32 × SV)} {k116' : Int32 → Int32 → Int32 → SV → Option (Int32 × SV)} (hk104 : ∀ (l2 : Int32) (l3 : Int32) (S : SV), k104' l2 l3 S = some (r, S') → PE S S') (hk116 : ∀ (l2 : Int32) (l3 : Int32) (l4 : Int32) (S : SV), k116' l2 l3 l4 S = some (r, S') → PE S S') {l2 : Int32} {l3 : Int32} {l4 : Int32} {l5 : Int32} {s0 : Int32} {S : SV} (h : gbX10_unhappy_203 k104' k116' l2 l3 l4 l5 s0 S = some (r, S')) : PE S S' := by
  unfold gbX10_unhappy_203 at h
  have q : PE S S := PE.rf
  obtain ⟨x211, -, h⟩ := ob h
  rcases ite_or h with ⟨-, h⟩ | ⟨-, h⟩
  · skip
    obtain ⟨v233, -, h⟩ := nm_ex h
    obtain ⟨v234, -, h⟩ := nm_ex h
    exact q.tr (hk116 _ _ _ _ h)
  · skip
    rcases ite_or h with ⟨-, h⟩ | ⟨-, h⟩
    · skip
      obtain ⟨v233, -, h⟩ := nm_ex h
      obtain ⟨v234, -, h⟩ := nm_ex h
      exact q.tr (hk116 _ _ _ _ h)
    · skip
      rcases ite_or h with ⟨-, h⟩ | ⟨-, h⟩
      · skip
        obtain ⟨v233, -, h⟩ := nm_ex h
        obtain ⟨v234, -, h⟩ := nm_ex h
        exact q.tr (hk116 _ _ _ _ h)
      · skip
        obtain ⟨v233, -, h⟩ := nm_ex h
        obtain ⟨v234, -, h⟩ := nm_ex h
        exact q.tr (hk116 _ _ _ _ h)
theorem pbX10_unhappy_198 {r : Int32} {S' : SV} {k104' : Int32 → Int32 → SV → Option (Int32 × SV)} {k116' : Int32 → Int32 → Int32 → SV → Option (Int32 × SV)} (hk104 : ∀ (l2 : Int32) (l3 : Int32) (S : SV), k104' l2 l3 S = some (r, S') → PE S S') (hk116 : ∀ (l2 : Int32) (l3 : Int32) (l4 : Int32) (S : SV), k116' l2 l3 l4 S = some (r, S') → PE S S') {l2 : Int32} {l3 : Int32} {l4 : Int32} {l5 : Int32} {S : SV} (h : gbX10_unhappy_198 k104' k116' l2 l3 l4 l5 S = some (r, S')) : PE S S' := by
  unfold gbX10_unhappy_198 at h
  have q : PE S S := PE.rf
  exact q.tr (pbX10_unhappy_203 hk104 hk116 h)
theorem pbX10_unhappy_162 {r : Int32} {S' : SV} {k104' : Int32 → Int32 → SV → Option (Int32 × SV)} {k116' : Int32 → Int32 → Int32 → SV → Option (Int32 × SV)} (hk104 : ∀ (l2 : Int32) (l3 : Int32) (S : SV), k104' l2 l3 S = some (r, S') → PE S S') (hk116 : ∀ (l2 : Int32) (l3 : Int32) (l4 : Int32) (S : SV), k116' l2 l3 l4 S = some (r, S') → PE S S') {l2 : Int32} {l3 : Int32} {l4 : Int32} {s0 : Int32} {S : SV} (h : gbX10_unhappy_162 k104' k116' l2 l3 l4 s0 S = some (r, S')) : PE S S' := by
  unfold gbX10_unhappy_162 at h
  have q : PE S S := PE.rf
  obtain ⟨x170, -, h⟩ := ob h
  rcases ite_or h with ⟨-, h⟩ | ⟨-, h⟩
  · skip
    exact q.tr (pbX10_unhappy_198 hk104 hk116 h)
  · skip
    obtain ⟨x179, -, h⟩ := ob h
    obtain ⟨x191, -, h⟩ := ob h
    obtain ⟨x192, -, h⟩ := ob h
    rcases ite_or h with ⟨-, h⟩ | ⟨-, h⟩
    · skip
      exact q.tr (pbX10_unhappy_203 hk104 hk116 h)
    · skip
      exact q.tr (pbX10_unhappy_198 hk104 hk116 h)
theorem pbX10_unhappy_157 {r : Int32} {S' : SV} {k104' : Int32 → Int32 → SV → Option (Int32 × SV)} {k116' : Int32 → Int32 → Int32 → SV → Option (Int32 × SV)} (hk104 : ∀ (l2 : Int32) (l3 : Int32) (S : SV), k104' l2 l3 S = some (r, S') → PE S S') (hk116 : ∀ (l2 : Int32) (l3 : Int32) (l4 : Int32) (S : SV), k116' l2 l3 l4 S = some (r, S') → PE S S') {l2 : Int32} {l3 : Int32} {l4 : Int32} {S : SV} (h : gbX10_unhappy_157 k104' k116' l2 l3 l4 S = some (r, S')) : PE S S' := by
  unfold gbX10_unhappy_157 at h
  have q : PE S S := PE.rf
  exact q.tr (pbX10_unhappy_162 hk104 hk116 h)
theorem pbX10_unhappy_116 {r : Int32} {S' : SV} {k104' : Int32 → Int32 → SV → Option (Int32 × SV)} {k116' : Int32 → Int32 → Int32 → SV → Option (Int32 × SV)} (hk104 : ∀ (l2 : Int32) (l3 : Int32) (S : SV), k104' l2 l3 S = some (r, S') → PE S S') (hk116 : ∀ (l2 : Int32) (l3 : Int32) (l4 : Int32) (S : SV), k116' l2 l3 l4 S = some (r, S') → PE S S') {l2 : Int32} {l3 : Int32} {l4 : Int32} {S : SV} (h : gbX10_unhappy_116 k104' k116' l2 l3 l4 S = some (r, S')) : PE S S' := by
  unfold gbX10_unhappy_116 at h
  have q : PE S S := PE.rf
  obtain ⟨x120, -, h⟩ := ob h
  rcases ite_or h with ⟨-, h⟩ | ⟨-, h⟩
  · skip
    obtain ⟨v240, -, h⟩ := nm_ex h
    exact q.tr (hk104 _ _ _ h)
  · skip
    obtain ⟨x131, -, h⟩ := ob h
    rcases ite_or h with ⟨-, h⟩ | ⟨-, h⟩
    · skip
      exact q.tr (pbX10_unhappy_157 hk104 hk116 h)
    · skip
      obtain ⟨x140, -, h⟩ := ob h
      obtain ⟨x150, -, h⟩ := ob h
      obtain ⟨x151, -, h⟩ := ob h
      rcases ite_or h with ⟨-, h⟩ | ⟨-, h⟩
      · skip
        exact q.tr (pbX10_unhappy_162 hk104 hk116 h)
      · skip
        exact q.tr (pbX10_unhappy_157 hk104 hk116 h)
theorem pfX10_unhappy_116 {r : Int32} {S' : SV} {k104' : Int32 → Int32 → SV → Option (Int32 × SV)} (hk104 : ∀ (l2 : Int32) (l3 : Int32) (S : SV), k104' l2 l3 S = some (r, S') → PE S S') : ∀ (n : Nat) (l2 : Int32) (l3 : Int32) (l4 : Int32) (S : SV), gfX10_unhappy_116 k104' n l2 l3 l4 S = some (r, S') → PE S S' := by
  intro n
  induction n with
  | zero => intro l2 l3 l4 S h; cases h
  | succ n ih => intro l2 l3 l4 S h; exact pbX10_unhappy_116 hk104 (fun l2 l3 l4 S h => ih l2 l3 l4 S h) h
theorem pbX10_unhappy_104 {r : Int32} {S' : SV} {k104' : Int32 → Int32 → SV → Option (Int32 × SV)} (hk104 : ∀ (l2 : Int32) (l3 : Int32) (S : SV), k104' l2 l3 S = some (r, S') → PE S S') {l2 : Int32} {l3 : Int32} {S : SV} (h : gbX10_unhappy_104 k104' l2 l3 S = some (r, S')) : PE S S' := by
  unfold gbX10_unhappy_104 at h
  have q : PE S S := PE.rf
  obtain ⟨x107, -, h⟩ := ob h
  rcases ite_or h with ⟨-, h⟩ | ⟨-, h⟩
  · skip
    cases h <;> exact q
  · skip
    exact q.tr (pfX10_unhappy_116 hk104 FU _ _ _ _ h)
theorem pfX10_unhappy_104 {r : Int32} {S' : SV} : ∀ (n : Nat) (l2 : Int32) (l3 : Int32) (S : SV), gfX10_unhappy_104 n l2 l3 S = some (r, S') → PE S S' := by
  intro n
  induction n with
  | zero => intro l2 l3 S h; cases h
  | succ n ih => intro l2 l3 S h; exact pbX10_unhappy_104 (fun l2 l3 S h => ih l2 l3 S h) h
theorem pbX10_unhappy_44 {r : Int32} {S' : SV} {k44' : Int32 → SV → Option (Int32 × SV)} (hk44 : ∀ (l2 : Int32) (S : SV), k44' l2 S = some (r, S') → PE S S') {l2 : Int32} {S : SV} (h : gbX10_unhappy_44 k44' l2 S = some (r, S')) : PE S S' := by
  unfold gbX10_unhappy_44 at h
  have q : PE S S := PE.rf
  rcases ite_or h with ⟨-, h⟩ | ⟨-, h⟩
  · skip
    exact q.tr (pfX10_unhappy_104 FU _ _ _ h)
  · skip
    obtain ⟨x61, -, h⟩ := ob h
    obtain ⟨x69, -, h⟩ := ob h
    obtain ⟨S72, hw, h⟩ := ob h
    have q := q.tr (pe_wA rfl hw)
    obtain ⟨x82, -, h⟩ := ob h
    obtain ⟨x90, -, h⟩ := ob h
    obtain ⟨S93, hw, h⟩ := ob h
    have q := q.tr (pe_wA rfl hw)
    obtain ⟨v94, -, h⟩ := nm_ex h
    exact q.tr (hk44 _ _ h)
theorem pfX10_unhappy_44 {r : Int32} {S' : SV} : ∀ (n : Nat) (l2 : Int32) (S : SV), gfX10_unhappy_44 n l2 S = some (r, S') → PE S S' := by
  intro n
  induction n with
  | zero => intro l2 S h; cases h
  | succ n ih => intro l2 S h; exact pbX10_unhappy_44 (fun l2 S h => ih l2 S h) h
theorem pbX10_unhappy_17 {r : Int32} {S' : SV} {k17' : Int32 → SV → Option (Int32 × SV)} (hk17 : ∀ (l2 : Int32) (S : SV), k17' l2 S = some (r, S') → PE S S') {l2 : Int32} {S : SV} (h : gbX10_unhappy_17 k17' l2 S = some (r, S')) : PE S S' := by
  unfold gbX10_unhappy_17 at h
  have q : PE S S := PE.rf
  rcases ite_or h with ⟨-, h⟩ | ⟨-, h⟩
  · skip
    exact q.tr (pfX10_unhappy_44 FU _ _ h)
  · skip
    obtain ⟨S28, hw, h⟩ := ob h
    have q := q.tr (pe_wA rfl hw)
    obtain ⟨S35, hw, h⟩ := ob h
    have q := q.tr (pe_wA rfl hw)
    obtain ⟨v36, -, h⟩ := nm_ex h
    exact q.tr (hk17 _ _ h)
theorem pfX10_unhappy_17 {r : Int32} {S' : SV} : ∀ (n : Nat) (l2 : Int32) (S : SV), gfX10_unhappy_17 n l2 S = some (r, S') → PE S S' := by
  intro n
  induction n with
  | zero => intro l2 S h; cases h
  | succ n ih => intro l2 S h; exact pbX10_unhappy_17 (fun l2 S h => ih l2 S h) h
theorem pX10_unhappy {r : Int32} {S' : SV} {l1 : Int32} {S : SV} (h : gX10_unhappy l1 S = some (r, S')) : PE S S' := by
  unfold gX10_unhappy at h
  have q : PE S S := PE.rf
  obtain ⟨S2, ew, h⟩ := nm_ex h
  have q := q.tr (pe_wI ew)
  obtain ⟨x7, S7, hw, h⟩ := ob2 h
  have q := q.tr (pX10_hand hw)
  rcases ite_or h with ⟨-, h⟩ | ⟨-, h⟩
  · skip
    cases h <;> exact q
  · skip
    exact q.tr (pfX10_unhappy_17 FU _ _ h)
theorem pbX10_agree_124 {r : Int32} {S' : SV} {l1 : Int32} {l2 : Int32} {l3 : Int32} {l4 : Int32} {l5 : Int32} {l9 : Int32} {s0 : Int32} {S : SV} (h : gbX10_agree_124 l1 l2 l3 l4 l5 l9 s0 S = some (r, S')) : PE S S' := by
  unfold gbX10_agree_124 at h
  have q : PE S S := PE.rf
  rcases ite_or h with ⟨-, h⟩ | ⟨-, h⟩
  · skip
    rcases ite_or h with ⟨-, h⟩ | ⟨-, h⟩
    · skip
      cases h <;> exact q
    · skip
      rcases ite_or h with ⟨-, h⟩ | ⟨-, h⟩
      · skip
        cases h <;> exact q
      · skip
        rcases ite_or h with ⟨-, h⟩ | ⟨-, h⟩
        · skip
          cases h <;> exact q
        · skip
          cases h <;> exact q
  · skip
    cases h <;> exact q
theorem pbX10_agree_99 {r : Int32} {S' : SV} {l1 : Int32} {l2 : Int32} {l3 : Int32} {l4 : Int32} {l5 : Int32} {l6 : Int32} {l7 : Int32} {l8 : Int32} {s0 : Int32} {S : SV} (h : gbX10_agree_99 l1 l2 l3 l4 l5 l6 l7 l8 s0 S = some (r, S')) : PE S S' := by
  unfold gbX10_agree_99 at h
  have q : PE S S := PE.rf
  rcases ite_or h with ⟨-, h⟩ | ⟨-, h⟩
  · skip
    exact q.tr (pbX10_agree_124 h)
  · skip
    rcases ite_or h with ⟨-, h⟩ | ⟨-, h⟩
    · skip
      exact q.tr (pbX10_agree_124 h)
    · skip
      exact q.tr (pbX10_agree_124 h)
theorem pbX10_agree_87 {r : Int32} {S' : SV} {l1 : Int32} {l2 : Int32} {l3 : Int32} {l4 : Int32} {l5 : Int32} {l6 : Int32} {l7 : Int32} {l8 : Int32} {S : SV} (h : gbX10_agree_87 l1 l2 l3 l4 l5 l6 l7 l8 S = some (r, S')) : PE S S' := by
  unfold gbX10_agree_87 at h
  have q : PE S S := PE.rf
  rcases ite_or h with ⟨-, h⟩ | ⟨-, h⟩
  · skip
    exact q.tr (pbX10_agree_99 h)
  · skip
    exact q.tr (pbX10_agree_99 h)
theorem pX10_agree {r : Int32} {S' : SV} {l1 : Int32} {l2 : Int32} {l3 : Int32} {l4 : Int32} {l5 : Int32} {S : SV} (h : gX10_agree l1 l2 l3 l4 l5 S = some (r, S')) : PE S S' := by
  unfold gX10_agree at h
  have q : PE S S := PE.rf
  obtain ⟨S2, ew, h⟩ := nm_ex h
  have q := q.tr (pe_wI ew)
  rcases ite_or h with ⟨-, h⟩ | ⟨-, h⟩
  · skip
    cases h <;> exact q
  · skip
    rcases ite_or h with ⟨-, h⟩ | ⟨-, h⟩
    · skip
      cases h <;> exact q
    · skip
      rcases ite_or h with ⟨-, h⟩ | ⟨-, h⟩
      · skip
        cases h <;> exact q
      · skip
        rcases ite_or h with ⟨-, h⟩ | ⟨-, h⟩
        · skip
          cases h <;> exact q
        · skip
          obtain ⟨v53, -, h⟩ := nm_ex h
          obtain ⟨v60, -, h⟩ := nm_ex h
          obtain ⟨v67, -, h⟩ := nm_ex h
          rcases ite_or h with ⟨-, h⟩ | ⟨-, h⟩
          · skip
            exact q.tr (pbX10_agree_87 h)
          · skip
            rcases ite_or h with ⟨-, h⟩ | ⟨-, h⟩
            · skip
              exact q.tr (pbX10_agree_87 h)
            · skip
              exact q.tr (pbX10_agree_99 h)
theorem pX10_hasSight {r : Int32} {S' : SV} {l1 : Int32} {S : SV} (h : gX10_hasSight l1 S = some (r, S')) : PE S S' := by
  unfold gX10_hasSight at h
  have q : PE S S := PE.rf
  obtain ⟨S2, ew, h⟩ := nm_ex h
  have q := q.tr (pe_wI ew)
  obtain ⟨x8, -, h⟩ := ob h
  rcases ite_or h with ⟨-, h⟩ | ⟨-, h⟩
  · cases h <;> exact q
  · cases h
theorem pX10_view {r : Int32} {S' : SV} {l1 : Int32} {l2 : Int32} {l3 : Int32} {S : SV} (h : gX10_view l1 l2 l3 S = some (r, S')) : PE S S' := by
  unfold gX10_view at h
  have q : PE S S := PE.rf
  obtain ⟨S2, ew, h⟩ := nm_ex h
  have q := q.tr (pe_wI ew)
  obtain ⟨x7, S7, hw, h⟩ := ob2 h
  have q := q.tr (pX10_hasSight hw)
  rcases ite_or h with ⟨-, h⟩ | ⟨-, h⟩
  · skip
    cases h <;> exact q
  · skip
    rcases ite_or h with ⟨-, h⟩ | ⟨-, h⟩
    · skip
      rcases ite_or h with ⟨-, h⟩ | ⟨-, h⟩
      · skip
        obtain ⟨x26, -, h⟩ := ob h
        cases h <;> exact q
      · skip
        cases h <;> exact q
    · skip
      obtain ⟨x38, -, h⟩ := ob h
      rcases ite_or h with ⟨-, h⟩ | ⟨-, h⟩
      · skip
        cases h <;> exact q
      · skip
        rcases ite_or h with ⟨-, h⟩ | ⟨-, h⟩
        · skip
          cases h <;> exact q
        · skip
          obtain ⟨x61, -, h⟩ := ob h
          cases h <;> exact q
theorem pbX10_findCells_101 {r : Int32} {S' : SV} {k7' : Int32 → Int32 → Int32 → SV → Option (Int32 × SV)} (hk7 : ∀ (l1 : Int32) (l2 : Int32) (l3 : Int32) (S : SV), k7' l1 l2 l3 S = some (r, S') → PE S S') {l1 : Int32} {l2 : Int32} {l3 : Int32} {l4 : Int32} {s0 : Nat} {s1 : Int32} {s2 : Int32} (w_s0 : isP s0 = false) {S : SV} (h : gbX10_findCells_101 k7' l1 l2 l3 l4 s0 s1 s2 S = some (r, S')) : PE S S' := by
  unfold gbX10_findCells_101 at h
  have q : PE S S := PE.rf
  obtain ⟨S101, hw, h⟩ := ob h
  have q := q.tr (pe_wA w_s0 hw)
  rcases ite_or h with ⟨-, h⟩ | ⟨-, h⟩
  · skip
    obtain ⟨S118, ew, h⟩ := nm_ex h
    have q := q.tr (pe_wI ew)
    obtain ⟨v121, -, h⟩ := nm_ex h
    exact q.tr (hk7 _ _ _ _ h)
  · skip
    obtain ⟨S118, ew, h⟩ := nm_ex h
    have q := q.tr (pe_wI ew)
    obtain ⟨v121, -, h⟩ := nm_ex h
    exact q.tr (hk7 _ _ _ _ h)
theorem pbX10_findCells_75 {r : Int32} {S' : SV} {k7' : Int32 → Int32 → Int32 → SV → Option (Int32 × SV)} (hk7 : ∀ (l1 : Int32) (l2 : Int32) (l3 : Int32) (S : SV), k7' l1 l2 l3 S = some (r, S') → PE S S') {l1 : Int32} {l2 : Int32} {l3 : Int32} {l4 : Int32} {S : SV} (h : gbX10_findCells_75 k7' l1 l2 l3 l4 S = some (r, S')) : PE S S' := by
  unfold gbX10_findCells_75 at h
  have q : PE S S := PE.rf
  rcases ite_or h with ⟨-, h⟩ | ⟨-, h⟩
  · skip
    obtain ⟨x100, -, h⟩ := ob h
    exact q.tr (pbX10_findCells_101 hk7 rfl h)
  · skip
    exact q.tr (pbX10_findCells_101 hk7 rfl h)
theorem pbX10_findCells_19 {r : Int32} {S' : SV} {k7' : Int32 → Int32 → Int32 → SV → Option (Int32 × SV)} {k19' : Int32 → Int32 → Int32 → Int32 → Int32 → SV → Option (Int32 × SV)} (hk7 : ∀ (l1 : Int32) (l2 : Int32) (l3 : Int32) (S : SV), k7' l1 l2 l3 S = some (r, S') → PE S S') (hk19 : ∀ (l1 : Int32) (l2 : Int32) (l3 : Int32) (l4 : Int32) (l5 : Int32) (S : SV), k19' l1 l2 l3 l4 l5 S = some (r, S') → PE S S') {l1 : Int32} {l2 : Int32} {l3 : Int32} {l4 : Int32} {l5 : Int32} {S : SV} (h : gbX10_findCells_19 k7' k19' l1 l2 l3 l4 l5 S = some (r, S')) : PE S S' := by
  unfold gbX10_findCells_19 at h
  have q : PE S S := PE.rf
  obtain ⟨x22, -, h⟩ := ob h
  rcases ite_or h with ⟨-, h⟩ | ⟨-, h⟩
  · skip
    exact q.tr (pbX10_findCells_75 hk7 h)
  · skip
    rcases ite_or h with ⟨-, h⟩ | ⟨-, h⟩
    · skip
      exact q.tr (pbX10_findCells_75 hk7 h)
    · skip
      rcases ite_or h with ⟨-, h⟩ | ⟨-, h⟩
      · skip
        obtain ⟨v69, -, h⟩ := nm_ex h
        exact q.tr (hk19 _ _ _ _ _ _ h)
      · skip
        obtain ⟨x44, -, h⟩ := ob h
        obtain ⟨x51, -, h⟩ := ob h
        obtain ⟨x56, -, h⟩ := ob h
        rcases ite_or h with ⟨-, h⟩ | ⟨-, h⟩
        · skip
          obtain ⟨v69, -, h⟩ := nm_ex h
          exact q.tr (hk19 _ _ _ _ _ _ h)
        · skip
          obtain ⟨v69, -, h⟩ := nm_ex h
          exact q.tr (hk19 _ _ _ _ _ _ h)
theorem pfX10_findCells_19 {r : Int32} {S' : SV} {k7' : Int32 → Int32 → Int32 → SV → Option (Int32 × SV)} (hk7 : ∀ (l1 : Int32) (l2 : Int32) (l3 : Int32) (S : SV), k7' l1 l2 l3 S = some (r, S') → PE S S') : ∀ (n : Nat) (l1 : Int32) (l2 : Int32) (l3 : Int32) (l4 : Int32) (l5 : Int32) (S : SV), gfX10_findCells_19 k7' n l1 l2 l3 l4 l5 S = some (r, S') → PE S S' := by
  intro n
  induction n with
  | zero => intro l1 l2 l3 l4 l5 S h; cases h
  | succ n ih => intro l1 l2 l3 l4 l5 S h; exact pbX10_findCells_19 hk7 (fun l1 l2 l3 l4 l5 S h => ih l1 l2 l3 l4 l5 S h) h
theorem pbX10_findCells_7 {r : Int32} {S' : SV} {k7' : Int32 → Int32 → Int32 → SV → Option (Int32 × SV)} (hk7 : ∀ (l1 : Int32) (l2 : Int32) (l3 : Int32) (S : SV), k7' l1 l2 l3 S = some (r, S') → PE S S') {l1 : Int32} {l2 : Int32} {l3 : Int32} {S : SV} (h : gbX10_findCells_7 k7' l1 l2 l3 S = some (r, S')) : PE S S' := by
  unfold gbX10_findCells_7 at h
  have q : PE S S := PE.rf
  rcases ite_or h with ⟨-, h⟩ | ⟨-, h⟩
  · skip
    cases h <;> exact q
  · skip
    exact q.tr (pfX10_findCells_19 hk7 FU _ _ _ _ _ _ h)
theorem pfX10_findCells_7 {r : Int32} {S' : SV} : ∀ (n : Nat) (l1 : Int32) (l2 : Int32) (l3 : Int32) (S : SV), gfX10_findCells_7 n l1 l2 l3 S = some (r, S') → PE S S' := by
  intro n
  induction n with
  | zero => intro l1 l2 l3 S h; cases h
  | succ n ih => intro l1 l2 l3 S h; exact pbX10_findCells_7 (fun l1 l2 l3 S h => ih l1 l2 l3 S h) h
theorem pX10_findCells {r : Int32} {S' : SV} {l1 : Int32} {l2 : Int32} {S : SV} (h : gX10_findCells l1 l2 S = some (r, S')) : PE S S' := by
  unfold gX10_findCells at h
  have q : PE S S := PE.rf
  obtain ⟨S2, ew, h⟩ := nm_ex h
  have q := q.tr (pe_wI ew)
  exact q.tr (pfX10_findCells_7 FU _ _ _ _ h)
theorem pX10_fits {r : Int32} {S' : SV} {l1 : Int32} {l2 : Int32} {l3 : Int32} {S : SV} (h : gX10_fits l1 l2 l3 S = some (r, S')) : PE S S' := by
  unfold gX10_fits at h
  have q : PE S S := PE.rf
  obtain ⟨S2, ew, h⟩ := nm_ex h
  have q := q.tr (pe_wI ew)
  rcases ite_or h with ⟨-, h⟩ | ⟨-, h⟩
  · skip
    cases h <;> exact q
  · skip
    obtain ⟨x16, S16, hw, h⟩ := ob2 h
    have q := q.tr (pX10_hasSight hw)
    rcases ite_or h with ⟨-, h⟩ | ⟨-, h⟩
    · skip
      cases h <;> exact q
    · skip
      obtain ⟨x28, S28, hw, h⟩ := ob2 h
      have q := q.tr (pX10_findCells hw)
      rcases ite_or h with ⟨-, h⟩ | ⟨-, h⟩
      · skip
        rcases ite_or h with ⟨-, h⟩ | ⟨-, h⟩
        · skip
          cases h <;> exact q
        · skip
          rcases ite_or h with ⟨-, h⟩ | ⟨-, h⟩
          · skip
            rcases ite_or h with ⟨-, h⟩ | ⟨-, h⟩
            · skip
              obtain ⟨x110, -, h⟩ := ob h
              cases h <;> exact q
            · skip
              cases h <;> exact q
          · skip
            rcases ite_or h with ⟨-, h⟩ | ⟨-, h⟩
            · skip
              obtain ⟨x118, -, h⟩ := ob h
              cases h <;> exact q
            · skip
              cases h <;> exact q
      · skip
        rcases ite_or h with ⟨-, h⟩ | ⟨-, h⟩
        · skip
          cases h <;> exact q
        · skip
          obtain ⟨x57, -, h⟩ := ob h
          cases h <;> exact q
theorem pX10_hasFight {r : Int32} {S' : SV} {l1 : Int32} {S : SV} (h : gX10_hasFight l1 S = some (r, S')) : PE S S' := by
  unfold gX10_hasFight at h
  have q : PE S S := PE.rf
  obtain ⟨S2, ew, h⟩ := nm_ex h
  have q := q.tr (pe_wI ew)
  obtain ⟨x8, -, h⟩ := ob h
  rcases ite_or h with ⟨-, h⟩ | ⟨-, h⟩
  · cases h <;> exact q
  · cases h
theorem pX10_fact {r : Int32} {S' : SV} {l1 : Int32} {l2 : Int32} {l3 : Int32} {S : SV} (h : gX10_fact l1 l2 l3 S = some (r, S')) : PE S S' := by
  unfold gX10_fact at h
  have q : PE S S := PE.rf
  obtain ⟨S2, ew, h⟩ := nm_ex h
  have q := q.tr (pe_wI ew)
  obtain ⟨x7, S7, hw, h⟩ := ob2 h
  have q := q.tr (pX10_hasFight hw)
  rcases ite_or h with ⟨-, h⟩ | ⟨-, h⟩
  · skip
    cases h <;> exact q
  · skip
    rcases ite_or h with ⟨-, h⟩ | ⟨-, h⟩
    · skip
      rcases ite_or h with ⟨-, h⟩ | ⟨-, h⟩
      · skip
        obtain ⟨x26, -, h⟩ := ob h
        cases h <;> exact q
      · skip
        cases h <;> exact q
    · skip
      obtain ⟨x38, -, h⟩ := ob h
      rcases ite_or h with ⟨-, h⟩ | ⟨-, h⟩
      · skip
        cases h <;> exact q
      · skip
        rcases ite_or h with ⟨-, h⟩ | ⟨-, h⟩
        · skip
          cases h <;> exact q
        · skip
          obtain ⟨x61, -, h⟩ := ob h
          cases h <;> exact q
theorem pbX10_findSets_77 {S' : SV} {k7' : Int32 → SV → Option SV} {k17' : Int32 → Int32 → Int32 → SV → Option SV} (hk7 : ∀ (l1 : Int32) (S : SV), k7' l1 S = some S' → PE S S') (hk17 : ∀ (l1 : Int32) (l2 : Int32) (l3 : Int32) (S : SV), k17' l1 l2 l3 S = some S' → PE S S') {l1 : Int32} {l3 : Int32} {s0 : Int32} {s1 : Int32} {S : SV} (h : gbX10_findSets_77 k7' k17' l1 l3 s0 s1 S = some S') : PE S S' := by
  unfold gbX10_findSets_77 at h
  have q : PE S S := PE.rf
  rcases ite_or h with ⟨-, h⟩ | ⟨-, h⟩
  · skip
    obtain ⟨v86, -, h⟩ := nm_ex h
    exact q.tr (hk17 _ _ _ _ h)
  · skip
    obtain ⟨v86, -, h⟩ := nm_ex h
    exact q.tr (hk17 _ _ _ _ h)
theorem pbX10_findSets_62 {S' : SV} {k7' : Int32 → SV → Option SV} {k17' : Int32 → Int32 → Int32 → SV → Option SV} (hk7 : ∀ (l1 : Int32) (S : SV), k7' l1 S = some S' → PE S S') (hk17 : ∀ (l1 : Int32) (l2 : Int32) (l3 : Int32) (S : SV), k17' l1 l2 l3 S = some S' → PE S S') {l1 : Int32} {l3 : Int32} {s0 : Int32} {S : SV} (h : gbX10_findSets_62 k7' k17' l1 l3 s0 S = some S') : PE S S' := by
  unfold gbX10_findSets_62 at h
  have q : PE S S := PE.rf
  obtain ⟨x65, -, h⟩ := ob h
  rcases ite_or h with ⟨-, h⟩ | ⟨-, h⟩
  · skip
    exact q.tr (pbX10_findSets_77 hk7 hk17 h)
  · skip
    exact q.tr (pbX10_findSets_77 hk7 hk17 h)
theorem pbX10_findSets_17 {S' : SV} {k7' : Int32 → SV → Option SV} {k17' : Int32 → Int32 → Int32 → SV → Option SV} (hk7 : ∀ (l1 : Int32) (S : SV), k7' l1 S = some S' → PE S S') (hk17 : ∀ (l1 : Int32) (l2 : Int32) (l3 : Int32) (S : SV), k17' l1 l2 l3 S = some S' → PE S S') {l1 : Int32} {l2 : Int32} {l3 : Int32} {S : SV} (h : gbX10_findSets_17 k7' k17' l1 l2 l3 S = some S') : PE S S' := by
  unfold gbX10_findSets_17 at h
  have q : PE S S := PE.rf
  obtain ⟨x19, -, h⟩ := ob h
  rcases ite_or h with ⟨-, h⟩ | ⟨-, h⟩
  · skip
    rcases ite_or h with ⟨-, h⟩ | ⟨-, h⟩
    · skip
      obtain ⟨S109, ew, h⟩ := nm_ex h
      have q := q.tr (pe_wI ew)
      obtain ⟨v112, -, h⟩ := nm_ex h
      exact q.tr (hk7 _ _ h)
    · skip
      obtain ⟨S109, ew, h⟩ := nm_ex h
      have q := q.tr (pe_wI ew)
      obtain ⟨v112, -, h⟩ := nm_ex h
      exact q.tr (hk7 _ _ h)
  · skip
    obtain ⟨x29, -, h⟩ := ob h
    obtain ⟨x32, -, h⟩ := ob h
    obtain ⟨v37, -, h⟩ := nm_ex h
    rcases ite_or h with ⟨-, h⟩ | ⟨-, h⟩
    · skip
      obtain ⟨v86, -, h⟩ := nm_ex h
      exact q.tr (hk17 _ _ _ _ h)
    · skip
      obtain ⟨x46, -, h⟩ := ob h
      rcases ite_or h with ⟨-, h⟩ | ⟨-, h⟩
      · skip
        obtain ⟨v86, -, h⟩ := nm_ex h
        exact q.tr (hk17 _ _ _ _ h)
      · skip
        rcases ite_or h with ⟨-, h⟩ | ⟨-, h⟩
        · skip
          exact q.tr (pbX10_findSets_62 hk7 hk17 h)
        · skip
          exact q.tr (pbX10_findSets_62 hk7 hk17 h)
theorem pfX10_findSets_17 {S' : SV} {k7' : Int32 → SV → Option SV} (hk7 : ∀ (l1 : Int32) (S : SV), k7' l1 S = some S' → PE S S') : ∀ (n : Nat) (l1 : Int32) (l2 : Int32) (l3 : Int32) (S : SV), gfX10_findSets_17 k7' n l1 l2 l3 S = some S' → PE S S' := by
  intro n
  induction n with
  | zero => intro l1 l2 l3 S h; cases h
  | succ n ih => intro l1 l2 l3 S h; exact pbX10_findSets_17 hk7 (fun l1 l2 l3 S h => ih l1 l2 l3 S h) h
theorem pbX10_findSets_7 {S' : SV} {k7' : Int32 → SV → Option SV} (hk7 : ∀ (l1 : Int32) (S : SV), k7' l1 S = some S' → PE S S') {l1 : Int32} {S : SV} (h : gbX10_findSets_7 k7' l1 S = some S') : PE S S' := by
  unfold gbX10_findSets_7 at h
  have q : PE S S := PE.rf
  rcases ite_or h with ⟨-, h⟩ | ⟨-, h⟩
  · skip
    cases h <;> exact q
  · skip
    exact q.tr (pfX10_findSets_17 hk7 FU _ _ _ _ h)
theorem pfX10_findSets_7 {S' : SV} : ∀ (n : Nat) (l1 : Int32) (S : SV), gfX10_findSets_7 n l1 S = some S' → PE S S' := by
  intro n
  induction n with
  | zero => intro l1 S h; cases h
  | succ n ih => intro l1 S h; exact pbX10_findSets_7 (fun l1 S h => ih l1 S h) h
theorem pX10_findSets {S' : SV} {S : SV} (h : gX10_findSets S = some S') : PE S S' := by
  unfold gX10_findSets at h
  have q : PE S S := PE.rf
  obtain ⟨S2, ew, h⟩ := nm_ex h
  have q := q.tr (pe_wI ew)
  exact q.tr (pfX10_findSets_7 FU _ _ h)
theorem pbX10_words_83 {r : Int32} {S' : SV} {s1 : Int32} {S : SV} (h : gbX10_words_83 s1 S = some (r, S')) : PE S S' := by
  unfold gbX10_words_83 at h
  have q : PE S S := PE.rf
  obtain ⟨x83, -, h⟩ := ob h
  cases h <;> exact q
theorem pX10_words {r : Int32} {S' : SV} {l1 : Int32} {l2 : Int32} {S : SV} (h : gX10_words l1 l2 S = some (r, S')) : PE S S' := by
  unfold gX10_words at h
  have q : PE S S := PE.rf
  obtain ⟨S2, ew, h⟩ := nm_ex h
  have q := q.tr (pe_wI ew)
  obtain ⟨x7, S7, hw, h⟩ := ob2 h
  have q := q.tr (pX10_hasFight hw)
  rcases ite_or h with ⟨-, h⟩ | ⟨-, h⟩
  · skip
    cases h <;> exact q
  · skip
    obtain ⟨S17, hw, h⟩ := ob h
    have q := q.tr (pX10_findSets hw)
    rcases ite_or h with ⟨-, h⟩ | ⟨-, h⟩
    · skip
      rcases ite_or h with ⟨-, h⟩ | ⟨-, h⟩
      · skip
        obtain ⟨x68, -, h⟩ := ob h
        cases h <;> exact q
      · skip
        rcases ite_or h with ⟨-, h⟩ | ⟨-, h⟩
        · skip
          rcases ite_or h with ⟨-, h⟩ | ⟨-, h⟩
          · skip
            exact q.tr (pbX10_words_83 h)
          · skip
            exact q.tr (pbX10_words_83 h)
        · skip
          rcases ite_or h with ⟨-, h⟩ | ⟨-, h⟩
          · skip
            rcases ite_or h with ⟨-, h⟩ | ⟨-, h⟩
            · skip
              exact q.tr (pbX10_words_83 h)
            · skip
              exact q.tr (pbX10_words_83 h)
          · skip
            cases h <;> exact q
    · skip
      obtain ⟨x31, -, h⟩ := ob h
      cases h <;> exact q
theorem pX10_draw {r : Int32} {S' : SV} {l1 : Int32} {S : SV} (h : gX10_draw l1 S = some (r, S')) : PE S S' := by
  unfold gX10_draw at h
  have q : PE S S := PE.rf
  obtain ⟨S13, ew, h⟩ := nm_ex h
  have q := q.tr (pe_wI ew)
  rcases ite_or h with ⟨-, h⟩ | ⟨-, h⟩
  · skip
    cases h <;> exact q
  · skip
    cases h <;> exact q
theorem pbX10_drawDeed_83 {S' : SV} {s1 : Int32} {s2 : Int32} {S : SV} (h : gbX10_drawDeed_83 s1 s2 S = some S') : PE S S' := by
  unfold gbX10_drawDeed_83 at h
  have q : PE S S := PE.rf
  obtain ⟨x83, S83, hw, h⟩ := ob2 h
  have q := q.tr (pX10_turns hw)
  cases h <;> exact q
theorem pX10_drawDeed {S' : SV} {S : SV} (h : gX10_drawDeed S = some S') : PE S S' := by
  unfold gX10_drawDeed at h
  have q : PE S S := PE.rf
  obtain ⟨x3, S3, hw, h⟩ := ob2 h
  have q := q.tr (pX10_draw hw)
  rcases ite_or h with ⟨-, h⟩ | ⟨-, h⟩
  · skip
    rcases ite_or h with ⟨-, h⟩ | ⟨-, h⟩
    · skip
      rcases ite_or h with ⟨-, h⟩ | ⟨-, h⟩
      · skip
        rcases ite_or h with ⟨-, h⟩ | ⟨-, h⟩
        · skip
          cases h <;> exact q
        · skip
          obtain ⟨x108, S108, hw, h⟩ := ob2 h
          have q := q.tr (pX10_draw hw)
          obtain ⟨x111, S111, hw, h⟩ := ob2 h
          have q := q.tr (pX10_forges hw)
          cases h <;> exact q
      · skip
        obtain ⟨x122, S122, hw, h⟩ := ob2 h
        have q := q.tr (pX10_does hw)
        cases h <;> exact q
    · skip
      rcases ite_or h with ⟨-, h⟩ | ⟨-, h⟩
      · skip
        cases h <;> exact q
      · skip
        obtain ⟨x70, S70, hw, h⟩ := ob2 h
        have q := q.tr (pX10_draw hw)
        rcases ite_or h with ⟨-, h⟩ | ⟨-, h⟩
        · skip
          exact q.tr (pbX10_drawDeed_83 h)
        · skip
          exact q.tr (pbX10_drawDeed_83 h)
  · skip
    rcases ite_or h with ⟨-, h⟩ | ⟨-, h⟩
    · skip
      cases h <;> exact q
    · skip
      rcases ite_or h with ⟨-, h⟩ | ⟨-, h⟩
      · skip
        cases h <;> exact q
      · skip
        obtain ⟨x31, S31, hw, h⟩ := ob2 h
        have q := q.tr (pX10_draw hw)
        obtain ⟨x42, S42, hw, h⟩ := ob2 h
        have q := q.tr (pX10_draw hw)
        obtain ⟨x45, S45, hw, h⟩ := ob2 h
        have q := q.tr (pX10_looks hw)
        cases h <;> exact q
theorem pbX10_drawn_34 {r : Int32} {S' : SV} {k34' : Int32 → Int32 → Int32 → SV → Option (Int32 × SV)} (hk34 : ∀ (l3 : Int32) (l4 : Int32) (l5 : Int32) (S : SV), k34' l3 l4 l5 S = some (r, S') → PE S S') {l3 : Int32} {l4 : Int32} {l5 : Int32} {S : SV} (h : gbX10_drawn_34 k34' l3 l4 l5 S = some (r, S')) : PE S S' := by
  unfold gbX10_drawn_34 at h
  have q : PE S S := PE.rf
  rcases ite_or h with ⟨-, h⟩ | ⟨-, h⟩
  · skip
    obtain ⟨x53, -, h⟩ := ob h
    cases h <;> exact q
  · skip
    obtain ⟨S41, hw, h⟩ := ob h
    have q := q.tr (pX10_drawDeed hw)
    obtain ⟨v44, -, h⟩ := nm_ex h
    exact q.tr (hk34 _ _ _ _ h)
theorem pfX10_drawn_34 {r : Int32} {S' : SV} : ∀ (n : Nat) (l3 : Int32) (l4 : Int32) (l5 : Int32) (S : SV), gfX10_drawn_34 n l3 l4 l5 S = some (r, S') → PE S S' := by
  intro n
  induction n with
  | zero => intro l3 l4 l5 S h; cases h
  | succ n ih => intro l3 l4 l5 S h; exact pbX10_drawn_34 (fun l3 l4 l5 S h => ih l3 l4 l5 S h) h
theorem pX10_drawn {r : Int32} {S' : SV} {l1 : Int32} {l2 : Int32} {l3 : Int32} {l4 : Int32} {S : SV} (h : gX10_drawn l1 l2 l3 l4 S = some (r, S')) : PE S S' := by
  unfold gX10_drawn at h
  have q : PE S S := PE.rf
  obtain ⟨S2, ew, h⟩ := nm_ex h
  have q := q.tr (pe_wI ew)
  rcases ite_or h with ⟨-, h⟩ | ⟨-, h⟩
  · skip
    cases h <;> exact q
  · skip
    obtain ⟨x17, S17, hw, h⟩ := ob2 h
    have q := q.tr (pX10_hand hw)
    rcases ite_or h with ⟨-, h⟩ | ⟨-, h⟩
    · skip
      cases h <;> exact q
    · skip
      obtain ⟨S28, ew, h⟩ := nm_ex h
      have q := q.tr (pe_wI ew)
      exact q.tr (pfX10_drawn_34 FU _ _ _ _ h)
theorem pbX10_need_59 {r : Int32} {S' : SV} {k36' : Int32 → Int32 → Int32 → SV → Option (Int32 × SV)} {k59' : Int32 → Int32 → Int32 → SV → Option (Int32 × SV)} (hk36 : ∀ (l2 : Int32) (l3 : Int32) (l4 : Int32) (S : SV), k36' l2 l3 l4 S = some (r, S') → PE S S') (hk59 : ∀ (l2 : Int32) (l3 : Int32) (l4 : Int32) (S : SV), k59' l2 l3 l4 S = some (r, S') → PE S S') {l2 : Int32} {l3 : Int32} {l4 : Int32} {S : SV} (h : gbX10_need_59 k36' k59' l2 l3 l4 S = some (r, S')) : PE S S' := by
  unfold gbX10_need_59 at h
  have q : PE S S := PE.rf
  rcases ite_or h with ⟨-, h⟩ | ⟨-, h⟩
  · skip
    rcases ite_or h with ⟨-, h⟩ | ⟨-, h⟩
    · skip
      cases h <;> exact q
    · skip
      obtain ⟨v88, -, h⟩ := nm_ex h
      exact q.tr (hk36 _ _ _ _ h)
  · skip
    obtain ⟨S68, hw, h⟩ := ob h
    have q := q.tr (pX10_goesOn hw)
    exact q.tr (hk59 _ _ _ _ h)
theorem pfX10_need_59 {r : Int32} {S' : SV} {k36' : Int32 → Int32 → Int32 → SV → Option (Int32 × SV)} (hk36 : ∀ (l2 : Int32) (l3 : Int32) (l4 : Int32) (S : SV), k36' l2 l3 l4 S = some (r, S') → PE S S') : ∀ (n : Nat) (l2 : Int32) (l3 : Int32) (l4 : Int32) (S : SV), gfX10_need_59 k36' n l2 l3 l4 S = some (r, S') → PE S S' := by
  intro n
  induction n with
  | zero => intro l2 l3 l4 S h; cases h
  | succ n ih => intro l2 l3 l4 S h; exact pbX10_need_59 hk36 (fun l2 l3 l4 S h => ih l2 l3 l4 S h) h
theorem pbX10_need_36 {r : Int32} {S' : SV} {k36' : Int32 → Int32 → Int32 → SV → Option (Int32 × SV)} (hk36 : ∀ (l2 : Int32) (l3 : Int32) (l4 : Int32) (S : SV), k36' l2 l3 l4 S = some (r, S') → PE S S') {l2 : Int32} {l3 : Int32} {l4 : Int32} {S : SV} (h : gbX10_need_36 k36' l2 l3 l4 S = some (r, S')) : PE S S' := by
  unfold gbX10_need_36 at h
  have q : PE S S := PE.rf
  rcases ite_or h with ⟨-, h⟩ | ⟨-, h⟩
  · skip
    cases h <;> exact q
  · skip
    obtain ⟨S44, hw, h⟩ := ob h
    have q := q.tr (pX10_begin hw)
    obtain ⟨S54, hw, h⟩ := ob h
    have q := q.tr (pe_wA rfl hw)
    obtain ⟨S56, hw, h⟩ := ob h
    have q := q.tr (pX10_falls hw)
    exact q.tr (pfX10_need_59 hk36 FU _ _ _ _ h)
theorem pfX10_need_36 {r : Int32} {S' : SV} : ∀ (n : Nat) (l2 : Int32) (l3 : Int32) (l4 : Int32) (S : SV), gfX10_need_36 n l2 l3 l4 S = some (r, S') → PE S S' := by
  intro n
  induction n with
  | zero => intro l2 l3 l4 S h; cases h
  | succ n ih => intro l2 l3 l4 S h; exact pbX10_need_36 (fun l2 l3 l4 S h => ih l2 l3 l4 S h) h
theorem pX10_need {r : Int32} {S' : SV} {l1 : Int32} {l2 : Int32} {l3 : Int32} {S : SV} (h : gX10_need l1 l2 l3 S = some (r, S')) : PE S S' := by
  unfold gX10_need at h
  have q : PE S S := PE.rf
  obtain ⟨S2, ew, h⟩ := nm_ex h
  have q := q.tr (pe_wI ew)
  rcases ite_or h with ⟨-, h⟩ | ⟨-, h⟩
  · skip
    cases h <;> exact q
  · skip
    obtain ⟨x17, S17, hw, h⟩ := ob2 h
    have q := q.tr (pX10_hand hw)
    rcases ite_or h with ⟨-, h⟩ | ⟨-, h⟩
    · skip
      cases h <;> exact q
    · skip
      obtain ⟨x25, -, h⟩ := ob h
      rcases ite_or h with ⟨-, h⟩ | ⟨-, h⟩
      · skip
        cases h <;> exact q
      · skip
        exact q.tr (pfX10_need_36 FU _ _ _ _ h)
theorem pbX10_keystone_81 {r : Int32} {S' : SV} {k24' : Int32 → Int32 → Int32 → Int32 → SV → Option (Int32 × SV)} (hk24 : ∀ (l2 : Int32) (l3 : Int32) (l4 : Int32) (l5 : Int32) (S : SV), k24' l2 l3 l4 l5 S = some (r, S') → PE S S') {l2 : Int32} {l4 : Int32} {l5 : Int32} {l6 : Int32} {s0 : Int32} {S : SV} (h : gbX10_keystone_81 k24' l2 l4 l5 l6 s0 S = some (r, S')) : PE S S' := by
  unfold gbX10_keystone_81 at h
  have q : PE S S := PE.rf
  obtain ⟨v89, -, h⟩ := nm_ex h
  obtain ⟨v91, -, h⟩ := nm_ex h
  exact q.tr (hk24 _ _ _ _ _ h)
theorem pbX10_keystone_66 {r : Int32} {S' : SV} {k24' : Int32 → Int32 → Int32 → Int32 → SV → Option (Int32 × SV)} (hk24 : ∀ (l2 : Int32) (l3 : Int32) (l4 : Int32) (l5 : Int32) (S : SV), k24' l2 l3 l4 l5 S = some (r, S') → PE S S') {l2 : Int32} {l3 : Int32} {l4 : Int32} {l5 : Int32} {s0 : Int32} {S : SV} (h : gbX10_keystone_66 k24' l2 l3 l4 l5 s0 S = some (r, S')) : PE S S' := by
  unfold gbX10_keystone_66 at h
  have q : PE S S := PE.rf
  rcases ite_or h with ⟨-, h⟩ | ⟨-, h⟩
  · skip
    exact q.tr (pbX10_keystone_81 hk24 h)
  · skip
    exact q.tr (pbX10_keystone_81 hk24 h)
theorem pbX10_keystone_24 {r : Int32} {S' : SV} {k24' : Int32 → Int32 → Int32 → Int32 → SV → Option (Int32 × SV)} (hk24 : ∀ (l2 : Int32) (l3 : Int32) (l4 : Int32) (l5 : Int32) (S : SV), k24' l2 l3 l4 l5 S = some (r, S') → PE S S') {l2 : Int32} {l3 : Int32} {l4 : Int32} {l5 : Int32} {S : SV} (h : gbX10_keystone_24 k24' l2 l3 l4 l5 S = some (r, S')) : PE S S' := by
  unfold gbX10_keystone_24 at h
  have q : PE S S := PE.rf
  rcases ite_or h with ⟨-, h⟩ | ⟨-, h⟩
  · skip
    rcases ite_or h with ⟨-, h⟩ | ⟨-, h⟩
    · skip
      cases h <;> exact q
    · skip
      cases h <;> exact q
  · skip
    rcases ite_or h with ⟨-, h⟩ | ⟨-, h⟩
    · skip
      obtain ⟨x55, -, h⟩ := ob h
      obtain ⟨x63, -, h⟩ := ob h
      exact q.tr (pbX10_keystone_66 hk24 h)
    · skip
      exact q.tr (pbX10_keystone_66 hk24 h)
theorem pfX10_keystone_24 {r : Int32} {S' : SV} : ∀ (n : Nat) (l2 : Int32) (l3 : Int32) (l4 : Int32) (l5 : Int32) (S : SV), gfX10_keystone_24 n l2 l3 l4 l5 S = some (r, S') → PE S S' := by
  intro n
  induction n with
  | zero => intro l2 l3 l4 l5 S h; cases h
  | succ n ih => intro l2 l3 l4 l5 S h; exact pbX10_keystone_24 (fun l2 l3 l4 l5 S h => ih l2 l3 l4 l5 S h) h
theorem pX10_keystone {r : Int32} {S' : SV} {l1 : Int32} {l2 : Int32} {S : SV} (h : gX10_keystone l1 l2 S = some (r, S')) : PE S S' := by
  unfold gX10_keystone at h
  have q : PE S S := PE.rf
  obtain ⟨S2, ew, h⟩ := nm_ex h
  have q := q.tr (pe_wI ew)
  obtain ⟨x7, S7, hw, h⟩ := ob2 h
  have q := q.tr (pX10_hand hw)
  rcases ite_or h with ⟨-, h⟩ | ⟨-, h⟩
  · skip
    cases h <;> exact q
  · skip
    exact q.tr (pfX10_keystone_24 FU _ _ _ _ _ h)
theorem pbX10_paired_167 {r : Int32} {S' : SV} {k167' : Int32 → Int32 → SV → Option (Int32 × SV)} (hk167 : ∀ (l1 : Int32) (l2 : Int32) (S : SV), k167' l1 l2 S = some (r, S') → PE S S') {l1 : Int32} {l2 : Int32} {S : SV} (h : gbX10_paired_167 k167' l1 l2 S = some (r, S')) : PE S S' := by
  unfold gbX10_paired_167 at h
  have q : PE S S := PE.rf
  rcases ite_or h with ⟨-, h⟩ | ⟨-, h⟩
  · skip
    cases h <;> exact q
  · skip
    obtain ⟨x179, -, h⟩ := ob h
    obtain ⟨v183, -, h⟩ := nm_ex h
    obtain ⟨v184, -, h⟩ := nm_ex h
    exact q.tr (hk167 _ _ _ h)
theorem pfX10_paired_167 {r : Int32} {S' : SV} : ∀ (n : Nat) (l1 : Int32) (l2 : Int32) (S : SV), gfX10_paired_167 n l1 l2 S = some (r, S') → PE S S' := by
  intro n
  induction n with
  | zero => intro l1 l2 S h; cases h
  | succ n ih => intro l1 l2 S h; exact pbX10_paired_167 (fun l1 l2 S h => ih l1 l2 S h) h
theorem pbX10_paired_100 {r : Int32} {S' : SV} {k33' : Int32 → SV → Option (Int32 × SV)} {k45' : Int32 → Int32 → SV → Option (Int32 × SV)} {k51' : Int32 → Int32 → Int32 → SV → Option (Int32 × SV)} (hk33 : ∀ (l1 : Int32) (S : SV), k33' l1 S = some (r, S') → PE S S') (hk45 : ∀ (l1 : Int32) (l2 : Int32) (S : SV), k45' l1 l2 S = some (r, S') → PE S S') (hk51 : ∀ (l1 : Int32) (l2 : Int32) (l3 : Int32) (S : SV), k51' l1 l2 l3 S = some (r, S') → PE S S') {l1 : Int32} {l2 : Int32} {l3 : Int32} {s0 : Int32} {S : SV} (h : gbX10_paired_100 k33' k45' k51' l1 l2 l3 s0 S = some (r, S')) : PE S S' := by
  unfold gbX10_paired_100 at h
  have q : PE S S := PE.rf
  rcases ite_or h with ⟨-, h⟩ | ⟨-, h⟩
  · skip
    obtain ⟨x143, -, h⟩ := ob h
    obtain ⟨S144, hw, h⟩ := ob h
    have q := q.tr (pe_wA rfl hw)
    obtain ⟨v145, -, h⟩ := nm_ex h
    exact q.tr (hk51 _ _ _ _ h)
  · skip
    obtain ⟨x117, -, h⟩ := ob h
    obtain ⟨x130, -, h⟩ := ob h
    obtain ⟨S144, hw, h⟩ := ob h
    have q := q.tr (pe_wA rfl hw)
    obtain ⟨v145, -, h⟩ := nm_ex h
    exact q.tr (hk51 _ _ _ _ h)
theorem pbX10_paired_99 {r : Int32} {S' : SV} {k33' : Int32 → SV → Option (Int32 × SV)} {k45' : Int32 → Int32 → SV → Option (Int32 × SV)} {k51' : Int32 → Int32 → Int32 → SV → Option (Int32 × SV)} (hk33 : ∀ (l1 : Int32) (S : SV), k33' l1 S = some (r, S') → PE S S') (hk45 : ∀ (l1 : Int32) (l2 : Int32) (S : SV), k45' l1 l2 S = some (r, S') → PE S S') (hk51 : ∀ (l1 : Int32) (l2 : Int32) (l3 : Int32) (S : SV), k51' l1 l2 l3 S = some (r, S') → PE S S') {l1 : Int32} {l2 : Int32} {l3 : Int32} {S : SV} (h : gbX10_paired_99 k33' k45' k51' l1 l2 l3 S = some (r, S')) : PE S S' := by
  unfold gbX10_paired_99 at h
  have q : PE S S := PE.rf
  exact q.tr (pbX10_paired_100 hk33 hk45 hk51 h)
theorem pbX10_paired_51 {r : Int32} {S' : SV} {k33' : Int32 → SV → Option (Int32 × SV)} {k45' : Int32 → Int32 → SV → Option (Int32 × SV)} {k51' : Int32 → Int32 → Int32 → SV → Option (Int32 × SV)} (hk33 : ∀ (l1 : Int32) (S : SV), k33' l1 S = some (r, S') → PE S S') (hk45 : ∀ (l1 : Int32) (l2 : Int32) (S : SV), k45' l1 l2 S = some (r, S') → PE S S') (hk51 : ∀ (l1 : Int32) (l2 : Int32) (l3 : Int32) (S : SV), k51' l1 l2 l3 S = some (r, S') → PE S S') {l1 : Int32} {l2 : Int32} {l3 : Int32} {S : SV} (h : gbX10_paired_51 k33' k45' k51' l1 l2 l3 S = some (r, S')) : PE S S' := by
  unfold gbX10_paired_51 at h
  have q : PE S S := PE.rf
  obtain ⟨x54, -, h⟩ := ob h
  rcases ite_or h with ⟨-, h⟩ | ⟨-, h⟩
  · skip
    obtain ⟨v151, -, h⟩ := nm_ex h
    exact q.tr (hk45 _ _ _ h)
  · skip
    rcases ite_or h with ⟨-, h⟩ | ⟨-, h⟩
    · skip
      exact q.tr (pbX10_paired_99 hk33 hk45 hk51 h)
    · skip
      obtain ⟨x73, -, h⟩ := ob h
      obtain ⟨x81, -, h⟩ := ob h
      obtain ⟨x89, -, h⟩ := ob h
      rcases ite_or h with ⟨-, h⟩ | ⟨-, h⟩
      · skip
        exact q.tr (pbX10_paired_99 hk33 hk45 hk51 h)
      · skip
        exact q.tr (pbX10_paired_100 hk33 hk45 hk51 h)
theorem pfX10_paired_51 {r : Int32} {S' : SV} {k33' : Int32 → SV → Option (Int32 × SV)} {k45' : Int32 → Int32 → SV → Option (Int32 × SV)} (hk33 : ∀ (l1 : Int32) (S : SV), k33' l1 S = some (r, S') → PE S S') (hk45 : ∀ (l1 : Int32) (l2 : Int32) (S : SV), k45' l1 l2 S = some (r, S') → PE S S') : ∀ (n : Nat) (l1 : Int32) (l2 : Int32) (l3 : Int32) (S : SV), gfX10_paired_51 k33' k45' n l1 l2 l3 S = some (r, S') → PE S S' := by
  intro n
  induction n with
  | zero => intro l1 l2 l3 S h; cases h
  | succ n ih => intro l1 l2 l3 S h; exact pbX10_paired_51 hk33 hk45 (fun l1 l2 l3 S h => ih l1 l2 l3 S h) h
theorem pbX10_paired_45 {r : Int32} {S' : SV} {k33' : Int32 → SV → Option (Int32 × SV)} {k45' : Int32 → Int32 → SV → Option (Int32 × SV)} (hk33 : ∀ (l1 : Int32) (S : SV), k33' l1 S = some (r, S') → PE S S') (hk45 : ∀ (l1 : Int32) (l2 : Int32) (S : SV), k45' l1 l2 S = some (r, S') → PE S S') {l1 : Int32} {l2 : Int32} {S : SV} (h : gbX10_paired_45 k33' k45' l1 l2 S = some (r, S')) : PE S S' := by
  unfold gbX10_paired_45 at h
  have q : PE S S := PE.rf
  rcases ite_or h with ⟨-, h⟩ | ⟨-, h⟩
  · skip
    obtain ⟨v157, -, h⟩ := nm_ex h
    exact q.tr (hk33 _ _ h)
  · skip
    exact q.tr (pfX10_paired_51 hk33 hk45 FU _ _ _ _ h)
theorem pfX10_paired_45 {r : Int32} {S' : SV} {k33' : Int32 → SV → Option (Int32 × SV)} (hk33 : ∀ (l1 : Int32) (S : SV), k33' l1 S = some (r, S') → PE S S') : ∀ (n : Nat) (l1 : Int32) (l2 : Int32) (S : SV), gfX10_paired_45 k33' n l1 l2 S = some (r, S') → PE S S' := by
  intro n
  induction n with
  | zero => intro l1 l2 S h; cases h
  | succ n ih => intro l1 l2 S h; exact pbX10_paired_45 hk33 (fun l1 l2 S h => ih l1 l2 S h) h
theorem pbX10_paired_33 {r : Int32} {S' : SV} {k33' : Int32 → SV → Option (Int32 × SV)} (hk33 : ∀ (l1 : Int32) (S : SV), k33' l1 S = some (r, S') → PE S S') {l1 : Int32} {S : SV} (h : gbX10_paired_33 k33' l1 S = some (r, S')) : PE S S' := by
  unfold gbX10_paired_33 at h
  have q : PE S S := PE.rf
  obtain ⟨x36, -, h⟩ := ob h
  rcases ite_or h with ⟨-, h⟩ | ⟨-, h⟩
  · skip
    exact q.tr (pfX10_paired_167 FU _ _ _ h)
  · skip
    exact q.tr (pfX10_paired_45 hk33 FU _ _ _ h)
theorem pfX10_paired_33 {r : Int32} {S' : SV} : ∀ (n : Nat) (l1 : Int32) (S : SV), gfX10_paired_33 n l1 S = some (r, S') → PE S S' := by
  intro n
  induction n with
  | zero => intro l1 S h; cases h
  | succ n ih => intro l1 S h; exact pbX10_paired_33 (fun l1 S h => ih l1 S h) h
theorem pbX10_paired_2 {r : Int32} {S' : SV} {k2' : Int32 → SV → Option (Int32 × SV)} (hk2 : ∀ (l1 : Int32) (S : SV), k2' l1 S = some (r, S') → PE S S') {l1 : Int32} {S : SV} (h : gbX10_paired_2 k2' l1 S = some (r, S')) : PE S S' := by
  unfold gbX10_paired_2 at h
  have q : PE S S := PE.rf
  rcases ite_or h with ⟨-, h⟩ | ⟨-, h⟩
  · skip
    exact q.tr (pfX10_paired_33 FU _ _ h)
  · skip
    rcases ite_or h with ⟨-, h⟩ | ⟨-, h⟩
    · skip
      obtain ⟨S24, hw, h⟩ := ob h
      have q := q.tr (pe_wA rfl hw)
      obtain ⟨v25, -, h⟩ := nm_ex h
      exact q.tr (hk2 _ _ h)
    · skip
      obtain ⟨S24, hw, h⟩ := ob h
      have q := q.tr (pe_wA rfl hw)
      obtain ⟨v25, -, h⟩ := nm_ex h
      exact q.tr (hk2 _ _ h)
theorem pfX10_paired_2 {r : Int32} {S' : SV} : ∀ (n : Nat) (l1 : Int32) (S : SV), gfX10_paired_2 n l1 S = some (r, S') → PE S S' := by
  intro n
  induction n with
  | zero => intro l1 S h; cases h
  | succ n ih => intro l1 S h; exact pbX10_paired_2 (fun l1 S h => ih l1 S h) h
theorem pX10_paired {r : Int32} {S' : SV} {S : SV} (h : gX10_paired S = some (r, S')) : PE S S' := by
  unfold gX10_paired at h
  have q : PE S S := PE.rf
  exact q.tr (pfX10_paired_2 FU _ _ h)
theorem pbX10_height_91 {r : Int32} {S' : SV} {s1 : Int32} {S : SV} (h : gbX10_height_91 s1 S = some (r, S')) : PE S S' := by
  unfold gbX10_height_91 at h
  have q : PE S S := PE.rf
  obtain ⟨x91, -, h⟩ := ob h
  cases h <;> exact q
theorem pX10_height {r : Int32} {S' : SV} {l1 : Int32} {l2 : Int32} {S : SV} (h : gX10_height l1 l2 S = some (r, S')) : PE S S' := by
  unfold gX10_height at h
  have q : PE S S := PE.rf
  obtain ⟨S2, ew, h⟩ := nm_ex h
  have q := q.tr (pe_wI ew)
  obtain ⟨x7, S7, hw, h⟩ := ob2 h
  have q := q.tr (pX10_hand hw)
  rcases ite_or h with ⟨-, h⟩ | ⟨-, h⟩
  · skip
    cases h <;> exact q
  · skip
    rcases ite_or h with ⟨-, h⟩ | ⟨-, h⟩
    · skip
      obtain ⟨x53, -, h⟩ := ob h
      cases h <;> exact q
    · skip
      rcases ite_or h with ⟨-, h⟩ | ⟨-, h⟩
      · skip
        obtain ⟨S58, hw, h⟩ := ob h
        have q := q.tr (pX10_findWatch hw)
        rcases ite_or h with ⟨-, h⟩ | ⟨-, h⟩
        · skip
          cases h <;> exact q
        · skip
          cases h <;> exact q
      · skip
        rcases ite_or h with ⟨-, h⟩ | ⟨-, h⟩
        · skip
          rcases ite_or h with ⟨-, h⟩ | ⟨-, h⟩
          · skip
            exact q.tr (pbX10_height_91 h)
          · skip
            exact q.tr (pbX10_height_91 h)
        · skip
          rcases ite_or h with ⟨-, h⟩ | ⟨-, h⟩
          · skip
            rcases ite_or h with ⟨-, h⟩ | ⟨-, h⟩
            · skip
              exact q.tr (pbX10_height_91 h)
            · skip
              exact q.tr (pbX10_height_91 h)
          · skip
            rcases ite_or h with ⟨-, h⟩ | ⟨-, h⟩
            · skip
              obtain ⟨x96, S96, hw, h⟩ := ob2 h
              have q := q.tr (pX10_paired hw)
              cases h <;> exact q
            · skip
              cases h <;> exact q
theorem pX10_meet {r : Int32} {S' : SV} {l1 : Int32} {l2 : Int32} {l3 : Int32} {S : SV} (h : gX10_meet l1 l2 l3 S = some (r, S')) : PE S S' := by
  unfold gX10_meet at h
  have q : PE S S := PE.rf
  obtain ⟨S2, ew, h⟩ := nm_ex h
  have q := q.tr (pe_wI ew)
  obtain ⟨x7, S7, hw, h⟩ := ob2 h
  have q := q.tr (pX10_hand hw)
  rcases ite_or h with ⟨-, h⟩ | ⟨-, h⟩
  · skip
    cases h <;> exact q
  · skip
    obtain ⟨x15, -, h⟩ := ob h
    rcases ite_or h with ⟨-, h⟩ | ⟨-, h⟩
    · skip
      cases h <;> exact q
    · skip
      obtain ⟨x23, -, h⟩ := ob h
      rcases ite_or h with ⟨-, h⟩ | ⟨-, h⟩
      · skip
        cases h <;> exact q
      · skip
        obtain ⟨x37, S37, hw, h⟩ := ob2 h
        have q := q.tr (pX10_hoursTill hw)
        cases h <;> exact q
theorem pbX10_after_116 {r : Int32} {S' : SV} {k64' : Int32 → Int32 → Int32 → Int32 → Int32 → SV → Option (Int32 × SV)} (hk64 : ∀ (l3 : Int32) (l4 : Int32) (l5 : Int32) (l6 : Int32) (l7 : Int32) (S : SV), k64' l3 l4 l5 l6 l7 S = some (r, S') → PE S S') {l3 : Int32} {l4 : Int32} {l6 : Int32} {l7 : Int32} {s0 : Int32} {S : SV} (h : gbX10_after_116 k64' l3 l4 l6 l7 s0 S = some (r, S')) : PE S S' := by
  unfold gbX10_after_116 at h
  have q : PE S S := PE.rf
  rcases ite_or h with ⟨-, h⟩ | ⟨-, h⟩
  · skip
    obtain ⟨v149, -, h⟩ := nm_ex h
    exact q.tr (hk64 _ _ _ _ _ _ h)
  · skip
    obtain ⟨x127, -, h⟩ := ob h
    rcases ite_or h with ⟨-, h⟩ | ⟨-, h⟩
    · skip
      obtain ⟨x141, -, h⟩ := ob h
      obtain ⟨x145, -, h⟩ := ob h
      obtain ⟨S148, hw, h⟩ := ob h
      have q := q.tr (pe_wA rfl hw)
      obtain ⟨v149, -, h⟩ := nm_ex h
      exact q.tr (hk64 _ _ _ _ _ _ h)
    · skip
      obtain ⟨v149, -, h⟩ := nm_ex h
      exact q.tr (hk64 _ _ _ _ _ _ h)
theorem pbX10_after_114 {r : Int32} {S' : SV} {k64' : Int32 → Int32 → Int32 → Int32 → Int32 → SV → Option (Int32 × SV)} (hk64 : ∀ (l3 : Int32) (l4 : Int32) (l5 : Int32) (l6 : Int32) (l7 : Int32) (S : SV), k64' l3 l4 l5 l6 l7 S = some (r, S') → PE S S') {l3 : Int32} {l4 : Int32} {l5 : Int32} {l6 : Int32} {l7 : Int32} {S : SV} (h : gbX10_after_114 k64' l3 l4 l5 l6 l7 S = some (r, S')) : PE S S' := by
  unfold gbX10_after_114 at h
  have q : PE S S := PE.rf
  exact q.tr (pbX10_after_116 hk64 h)
theorem pbX10_after_92 {r : Int32} {S' : SV} {k64' : Int32 → Int32 → Int32 → Int32 → Int32 → SV → Option (Int32 × SV)} (hk64 : ∀ (l3 : Int32) (l4 : Int32) (l5 : Int32) (l6 : Int32) (l7 : Int32) (S : SV), k64' l3 l4 l5 l6 l7 S = some (r, S') → PE S S') {l3 : Int32} {l4 : Int32} {l5 : Int32} {l7 : Int32} {s0 : Int32} {S : SV} (h : gbX10_after_92 k64' l3 l4 l5 l7 s0 S = some (r, S')) : PE S S' := by
  unfold gbX10_after_92 at h
  have q : PE S S := PE.rf
  rcases ite_or h with ⟨-, h⟩ | ⟨-, h⟩
  · skip
    rcases ite_or h with ⟨-, h⟩ | ⟨-, h⟩
    · skip
      exact q.tr (pbX10_after_114 hk64 h)
    · skip
      exact q.tr (pbX10_after_116 hk64 h)
  · skip
    exact q.tr (pbX10_after_114 hk64 h)
theorem pbX10_after_91 {r : Int32} {S' : SV} {k64' : Int32 → Int32 → Int32 → Int32 → Int32 → SV → Option (Int32 × SV)} (hk64 : ∀ (l3 : Int32) (l4 : Int32) (l5 : Int32) (l6 : Int32) (l7 : Int32) (S : SV), k64' l3 l4 l5 l6 l7 S = some (r, S') → PE S S') {l3 : Int32} {l4 : Int32} {l5 : Int32} {l7 : Int32} {S : SV} (h : gbX10_after_91 k64' l3 l4 l5 l7 S = some (r, S')) : PE S S' := by
  unfold gbX10_after_91 at h
  have q : PE S S := PE.rf
  exact q.tr (pbX10_after_92 hk64 h)
theorem pbX10_after_64 {r : Int32} {S' : SV} {k64' : Int32 → Int32 → Int32 → Int32 → Int32 → SV → Option (Int32 × SV)} (hk64 : ∀ (l3 : Int32) (l4 : Int32) (l5 : Int32) (l6 : Int32) (l7 : Int32) (S : SV), k64' l3 l4 l5 l6 l7 S = some (r, S') → PE S S') {l3 : Int32} {l4 : Int32} {l5 : Int32} {l6 : Int32} {l7 : Int32} {S : SV} (h : gbX10_after_64 k64' l3 l4 l5 l6 l7 S = some (r, S')) : PE S S' := by
  unfold gbX10_after_64 at h
  have q : PE S S := PE.rf
  rcases ite_or h with ⟨-, h⟩ | ⟨-, h⟩
  · skip
    rcases ite_or h with ⟨-, h⟩ | ⟨-, h⟩
    · skip
      obtain ⟨x168, -, h⟩ := ob h
      cases h <;> exact q
    · skip
      rcases ite_or h with ⟨-, h⟩ | ⟨-, h⟩
      · skip
        cases h <;> exact q
      · skip
        rcases ite_or h with ⟨-, h⟩ | ⟨-, h⟩
        · skip
          obtain ⟨x190, -, h⟩ := ob h
          cases h <;> exact q
        · skip
          cases h <;> exact q
  · skip
    obtain ⟨x72, -, h⟩ := ob h
    rcases ite_or h with ⟨-, h⟩ | ⟨-, h⟩
    · skip
      exact q.tr (pbX10_after_91 hk64 h)
    · skip
      obtain ⟨x81, S81, hw, h⟩ := ob2 h
      have q := q.tr (pX10_doesDeed hw)
      rcases ite_or h with ⟨-, h⟩ | ⟨-, h⟩
      · skip
        exact q.tr (pbX10_after_91 hk64 h)
      · skip
        exact q.tr (pbX10_after_92 hk64 h)
theorem pfX10_after_64 {r : Int32} {S' : SV} : ∀ (n : Nat) (l3 : Int32) (l4 : Int32) (l5 : Int32) (l6 : Int32) (l7 : Int32) (S : SV), gfX10_after_64 n l3 l4 l5 l6 l7 S = some (r, S') → PE S S' := by
  intro n
  induction n with
  | zero => intro l3 l4 l5 l6 l7 S h; cases h
  | succ n ih => intro l3 l4 l5 l6 l7 S h; exact pbX10_after_64 (fun l3 l4 l5 l6 l7 S h => ih l3 l4 l5 l6 l7 S h) h
theorem pbX10_after_29 {r : Int32} {S' : SV} {k29' : Int32 → Int32 → SV → Option (Int32 × SV)} (hk29 : ∀ (l3 : Int32) (l4 : Int32) (S : SV), k29' l3 l4 S = some (r, S') → PE S S') {l3 : Int32} {l4 : Int32} {S : SV} (h : gbX10_after_29 k29' l3 l4 S = some (r, S')) : PE S S' := by
  unfold gbX10_after_29 at h
  have q : PE S S := PE.rf
  rcases ite_or h with ⟨-, h⟩ | ⟨-, h⟩
  · skip
    exact q.tr (pfX10_after_64 FU _ _ _ _ _ _ h)
  · skip
    obtain ⟨S42, hw, h⟩ := ob h
    have q := q.tr (pe_wA rfl hw)
    obtain ⟨v43, -, h⟩ := nm_ex h
    exact q.tr (hk29 _ _ _ h)
theorem pfX10_after_29 {r : Int32} {S' : SV} : ∀ (n : Nat) (l3 : Int32) (l4 : Int32) (S : SV), gfX10_after_29 n l3 l4 S = some (r, S') → PE S S' := by
  intro n
  induction n with
  | zero => intro l3 l4 S h; cases h
  | succ n ih => intro l3 l4 S h; exact pbX10_after_29 (fun l3 l4 S h => ih l3 l4 S h) h
theorem pX10_after {r : Int32} {S' : SV} {l1 : Int32} {l2 : Int32} {l3 : Int32} {S : SV} (h : gX10_after l1 l2 l3 S = some (r, S')) : PE S S' := by
  unfold gX10_after at h
  have q : PE S S := PE.rf
  obtain ⟨S2, ew, h⟩ := nm_ex h
  have q := q.tr (pe_wI ew)
  obtain ⟨x8, S8, hw, h⟩ := ob2 h
  have q := q.tr (pX10_layAll hw)
  rcases ite_or h with ⟨-, h⟩ | ⟨-, h⟩
  · skip
    cases h <;> exact q
  · skip
    rcases ite_or h with ⟨-, h⟩ | ⟨-, h⟩
    · skip
      cases h <;> exact q
    · skip
      exact q.tr (pfX10_after_29 FU _ _ _ h)
theorem pbX10_wrong_65 {r : Int32} {S' : SV} {k33' : Int32 → Int32 → Int32 → Int32 → Int32 → SV → Option (Int32 × SV)} (hk33 : ∀ (l2 : Int32) (l3 : Int32) (l4 : Int32) (l5 : Int32) (l6 : Int32) (S : SV), k33' l2 l3 l4 l5 l6 S = some (r, S') → PE S S') {l2 : Int32} {l3 : Int32} {l5 : Int32} {l6 : Int32} {l7 : Int32} {s0 : Int32} {S : SV} (h : gbX10_wrong_65 k33' l2 l3 l5 l6 l7 s0 S = some (r, S')) : PE S S' := by
  unfold gbX10_wrong_65 at h
  have q : PE S S := PE.rf
  obtain ⟨v74, -, h⟩ := nm_ex h
  obtain ⟨v76, -, h⟩ := nm_ex h
  exact q.tr (hk33 _ _ _ _ _ _ h)
theorem pbX10_wrong_33 {r : Int32} {S' : SV} {k33' : Int32 → Int32 → Int32 → Int32 → Int32 → SV → Option (Int32 × SV)} (hk33 : ∀ (l2 : Int32) (l3 : Int32) (l4 : Int32) (l5 : Int32) (l6 : Int32) (S : SV), k33' l2 l3 l4 l5 l6 S = some (r, S') → PE S S') {l2 : Int32} {l3 : Int32} {l4 : Int32} {l5 : Int32} {l6 : Int32} {S : SV} (h : gbX10_wrong_33 k33' l2 l3 l4 l5 l6 S = some (r, S')) : PE S S' := by
  unfold gbX10_wrong_33 at h
  have q : PE S S := PE.rf
  obtain ⟨x36, -, h⟩ := ob h
  rcases ite_or h with ⟨-, h⟩ | ⟨-, h⟩
  · skip
    rcases ite_or h with ⟨-, h⟩ | ⟨-, h⟩
    · skip
      cases h <;> exact q
    · skip
      cases h <;> exact q
  · skip
    obtain ⟨x46, S46, hw, h⟩ := ob2 h
    have q := q.tr (pX10_findCells hw)
    rcases ite_or h with ⟨-, h⟩ | ⟨-, h⟩
    · skip
      exact q.tr (pbX10_wrong_65 hk33 h)
    · skip
      exact q.tr (pbX10_wrong_65 hk33 h)
theorem pfX10_wrong_33 {r : Int32} {S' : SV} : ∀ (n : Nat) (l2 : Int32) (l3 : Int32) (l4 : Int32) (l5 : Int32) (l6 : Int32) (S : SV), gfX10_wrong_33 n l2 l3 l4 l5 l6 S = some (r, S') → PE S S' := by
  intro n
  induction n with
  | zero => intro l2 l3 l4 l5 l6 S h; cases h
  | succ n ih => intro l2 l3 l4 l5 l6 S h; exact pbX10_wrong_33 (fun l2 l3 l4 l5 l6 S h => ih l2 l3 l4 l5 l6 S h) h
theorem pX10_wrong {r : Int32} {S' : SV} {l1 : Int32} {l2 : Int32} {l3 : Int32} {S : SV} (h : gX10_wrong l1 l2 l3 S = some (r, S')) : PE S S' := by
  unfold gX10_wrong at h
  have q : PE S S := PE.rf
  obtain ⟨S2, ew, h⟩ := nm_ex h
  have q := q.tr (pe_wI ew)
  rcases ite_or h with ⟨-, h⟩ | ⟨-, h⟩
  · skip
    cases h <;> exact q
  · skip
    obtain ⟨x16, S16, hw, h⟩ := ob2 h
    have q := q.tr (pX10_hasSight hw)
    rcases ite_or h with ⟨-, h⟩ | ⟨-, h⟩
    · skip
      cases h <;> exact q
    · skip
      exact q.tr (pfX10_wrong_33 FU _ _ _ _ _ _ h)
theorem pbX10_tell_139 {r : Int32} {S' : SV} {k28' : Int32 → Int32 → Int32 → SV → Option (Int32 × SV)} (hk28 : ∀ (l2 : Int32) (l3 : Int32) (l4 : Int32) (S : SV), k28' l2 l3 l4 S = some (r, S') → PE S S') {l3 : Int32} {l4 : Int32} {l6 : Int32} {s0 : Int32} {S : SV} (h : gbX10_tell_139 k28' l3 l4 l6 s0 S = some (r, S')) : PE S S' := by
  unfold gbX10_tell_139 at h
  have q : PE S S := PE.rf
  obtain ⟨v146, -, h⟩ := nm_ex h
  obtain ⟨v147, -, h⟩ := nm_ex h
  exact q.tr (hk28 _ _ _ _ h)
theorem pbX10_tell_125 {r : Int32} {S' : SV} {k28' : Int32 → Int32 → Int32 → SV → Option (Int32 × SV)} (hk28 : ∀ (l2 : Int32) (l3 : Int32) (l4 : Int32) (S : SV), k28' l2 l3 l4 S = some (r, S') → PE S S') {l2 : Int32} {l3 : Int32} {l4 : Int32} {s0 : Int32} {S : SV} (h : gbX10_tell_125 k28' l2 l3 l4 s0 S = some (r, S')) : PE S S' := by
  unfold gbX10_tell_125 at h
  have q : PE S S := PE.rf
  rcases ite_or h with ⟨-, h⟩ | ⟨-, h⟩
  · skip
    exact q.tr (pbX10_tell_139 hk28 h)
  · skip
    exact q.tr (pbX10_tell_139 hk28 h)
theorem pbX10_tell_48 {r : Int32} {S' : SV} {k28' : Int32 → Int32 → Int32 → SV → Option (Int32 × SV)} {k48' : Int32 → Int32 → Int32 → Int32 → Int32 → SV → Option (Int32 × SV)} (hk28 : ∀ (l2 : Int32) (l3 : Int32) (l4 : Int32) (S : SV), k28' l2 l3 l4 S = some (r, S') → PE S S') (hk48 : ∀ (l2 : Int32) (l3 : Int32) (l4 : Int32) (l5 : Int32) (l6 : Int32) (S : SV), k48' l2 l3 l4 l5 l6 S = some (r, S') → PE S S') {l2 : Int32} {l3 : Int32} {l4 : Int32} {l5 : Int32} {l6 : Int32} {S : SV} (h : gbX10_tell_48 k28' k48' l2 l3 l4 l5 l6 S = some (r, S')) : PE S S' := by
  unfold gbX10_tell_48 at h
  have q : PE S S := PE.rf
  rcases ite_or h with ⟨-, h⟩ | ⟨-, h⟩
  · skip
    obtain ⟨x98, -, h⟩ := ob h
    rcases ite_or h with ⟨-, h⟩ | ⟨-, h⟩
    · skip
      exact q.tr (pbX10_tell_125 hk28 h)
    · skip
      obtain ⟨x116, -, h⟩ := ob h
      exact q.tr (pbX10_tell_125 hk28 h)
  · skip
    rcases ite_or h with ⟨-, h⟩ | ⟨-, h⟩
    · skip
      obtain ⟨v87, -, h⟩ := nm_ex h
      obtain ⟨v89, -, h⟩ := nm_ex h
      exact q.tr (hk48 _ _ _ _ _ _ h)
    · skip
      obtain ⟨x74, -, h⟩ := ob h
      rcases ite_or h with ⟨-, h⟩ | ⟨-, h⟩
      · skip
        obtain ⟨v87, -, h⟩ := nm_ex h
        obtain ⟨v89, -, h⟩ := nm_ex h
        exact q.tr (hk48 _ _ _ _ _ _ h)
      · skip
        obtain ⟨v87, -, h⟩ := nm_ex h
        obtain ⟨v89, -, h⟩ := nm_ex h
        exact q.tr (hk48 _ _ _ _ _ _ h)
theorem pfX10_tell_48 {r : Int32} {S' : SV} {k28' : Int32 → Int32 → Int32 → SV → Option (Int32 × SV)} (hk28 : ∀ (l2 : Int32) (l3 : Int32) (l4 : Int32) (S : SV), k28' l2 l3 l4 S = some (r, S') → PE S S') : ∀ (n : Nat) (l2 : Int32) (l3 : Int32) (l4 : Int32) (l5 : Int32) (l6 : Int32) (S : SV), gfX10_tell_48 k28' n l2 l3 l4 l5 l6 S = some (r, S') → PE S S' := by
  intro n
  induction n with
  | zero => intro l2 l3 l4 l5 l6 S h; cases h
  | succ n ih => intro l2 l3 l4 l5 l6 S h; exact pbX10_tell_48 hk28 (fun l2 l3 l4 l5 l6 S h => ih l2 l3 l4 l5 l6 S h) h
theorem pbX10_tell_28 {r : Int32} {S' : SV} {k28' : Int32 → Int32 → Int32 → SV → Option (Int32 × SV)} (hk28 : ∀ (l2 : Int32) (l3 : Int32) (l4 : Int32) (S : SV), k28' l2 l3 l4 S = some (r, S') → PE S S') {l2 : Int32} {l3 : Int32} {l4 : Int32} {S : SV} (h : gbX10_tell_28 k28' l2 l3 l4 S = some (r, S')) : PE S S' := by
  unfold gbX10_tell_28 at h
  have q : PE S S := PE.rf
  rcases ite_or h with ⟨-, h⟩ | ⟨-, h⟩
  · skip
    cases h <;> exact q
  · skip
    rcases ite_or h with ⟨-, h⟩ | ⟨-, h⟩
    · skip
      cases h <;> exact q
    · skip
      exact q.tr (pfX10_tell_48 hk28 FU _ _ _ _ _ _ h)
theorem pfX10_tell_28 {r : Int32} {S' : SV} : ∀ (n : Nat) (l2 : Int32) (l3 : Int32) (l4 : Int32) (S : SV), gfX10_tell_28 n l2 l3 l4 S = some (r, S') → PE S S' := by
  intro n
  induction n with
  | zero => intro l2 l3 l4 S h; cases h
  | succ n ih => intro l2 l3 l4 S h; exact pbX10_tell_28 (fun l2 l3 l4 S h => ih l2 l3 l4 S h) h
theorem pX10_tell {r : Int32} {S' : SV} {l1 : Int32} {S : SV} (h : gX10_tell l1 S = some (r, S')) : PE S S' := by
  unfold gX10_tell at h
  have q : PE S S := PE.rf
  obtain ⟨S2, ew, h⟩ := nm_ex h
  have q := q.tr (pe_wI ew)
  obtain ⟨x7, S7, hw, h⟩ := ob2 h
  have q := q.tr (pX10_hasFight hw)
  rcases ite_or h with ⟨-, h⟩ | ⟨-, h⟩
  · skip
    cases h <;> exact q
  · skip
    obtain ⟨S16, hw, h⟩ := ob h
    have q := q.tr (pX10_findSets hw)
    exact q.tr (pfX10_tell_28 FU _ _ _ _ h)
theorem pX10_count {r : Int32} {S' : SV} {l1 : Int32} {S : SV} (h : gX10_count l1 S = some (r, S')) : PE S S' := by
  unfold gX10_count at h
  have q : PE S S := PE.rf
  obtain ⟨S2, ew, h⟩ := nm_ex h
  have q := q.tr (pe_wI ew)
  rcases ite_or h with ⟨-, h⟩ | ⟨-, h⟩
  · skip
    cases h <;> exact q
  · skip
    obtain ⟨x19, -, h⟩ := ob h
    cases h <;> exact q
