def gX10_deeds (S : SV) : Option (Int32) :=
  (rA 968 (S.2.1 7) ((121 : Int32) * (S.1 38))).bind fun x11 =>
  some x11
set_option maxRecDepth 100000 in
theorem eX10_deeds {a : Nat} {ρ : RV} {S : SV} {z : AH} (hR : RD 9 a ρ S z) : fX10_deeds a z = gX10_deeds S := by
  unfold fX10_deeds gX10_deeds
  refine eo (isO_rd hR) ?_
  refine sb (gN_rd hR rfl (Or.inl rfl)) ?_
  refine sb (gI_rd hR rfl) ?_
  refine eb0 (ixI_rd hR (k := 7) rfl rfl (by decide) 0 rfl (by decide) _) (fun x11 => ?_)
  rfl
def gX10_deedOf (l1 : Int32) (l2 : Int32) (S : SV) : Option (Int32) :=
  (rA 968 (S.2.1 7) (((((121 : Int32) * (S.1 38)) + (1 : Int32)) + ((3 : Int32) * l1)) + l2)).bind fun x19 =>
  some x19
set_option maxRecDepth 100000 in
theorem eX10_deedOf {a : Nat} {ρ : RV} {S : SV} {z : AH} (hR : RD 9 a ρ S z) (l1 : Int32) (l2 : Int32) : fX10_deedOf a l1 l2 z = gX10_deedOf l1 l2 S := by
  unfold fX10_deedOf gX10_deedOf
  refine eo (isO_rd hR) ?_
  refine sb (gN_rd hR rfl (Or.inl rfl)) ?_
  refine sb (gI_rd hR rfl) ?_
  refine eb0 (ixI_rd hR (k := 7) rfl rfl (by decide) 0 rfl (by decide) _) (fun x19 => ?_)
  rfl
def gX10_hasYear (l1 : Int32) (S : SV) : Option (Int32 × SV) :=
  nm (wI S 38 l1) fun S2 =>
  (gX10_is (1 : Int32) l1 S2).bind fun x8 =>
  if x8 = 0 ∨ x8 = 1 then some (x8, S2) else none
set_option maxRecDepth 100000 in
theorem eX10_hasYear {a : Nat} {ρ : RV} {z : AH} (hz : a + szV 9 ≤ z.length) (l1 : Int32) (S : SV) : fX10_hasYear a l1 (wr 9 a ρ S z) = (gX10_hasYear l1 S).map (fun q => (q.1, wr 9 a ρ q.2 z)) := by
  unfold fX10_hasYear gX10_hasYear
  refine eo (isO_rd (rd_wr hz)) ?_
  refine ep (f := (fun S => wr 9 a ρ S z)) (pF_int hz rfl _) (fun S2 => ?_)
  refine eb (eX10_is (rd_wr hz) (1 : Int32) l1) (fun x8 => ?_)
  refine ei (fun _ => rfl) (fun _ => rfl)
def gX10_deed (l1 : Int32) (l2 : Int32) (l3 : Int32) (S : SV) : Option (Int32 × SV) :=
  nm (wI S 0 (0 : Int32)) fun S2 =>
  b2 (gX10_hasYear l1 S2) fun x7 S7 =>
  if x7 = (0 : Int32) then (
    some ((-2 : Int32), S7)
  ) else (
    if l2 = (-1 : Int32) then (
      if l3 = (0 : Int32) then (
        (gX10_deeds S7).bind fun x26 =>
        some (x26, S7)
      ) else (
        some ((-2 : Int32), S7)
      )
    ) else (
      (gX10_deeds S7).bind fun x38 =>
      if (fX10_in l2 (0 : Int32) (x38 - (1 : Int32))) = (0 : Int32) then (
        some ((-2 : Int32), S7)
      ) else (
        if (fX10_in l3 (0 : Int32) (2 : Int32)) = (0 : Int32) then (
          some ((-2 : Int32), S7)
        ) else (
          (gX10_deedOf l2 l3 S7).bind fun x61 =>
          some (x61, S7)
        )
      )
    )
  )
set_option maxRecDepth 100000 in
theorem eX10_deed {a : Nat} {ρ : RV} {z : AH} (hz : a + szV 9 ≤ z.length) (l1 : Int32) (l2 : Int32) (l3 : Int32) (S : SV) : fX10_deed a l1 l2 l3 (wr 9 a ρ S z) = (gX10_deed l1 l2 l3 S).map (fun q => (q.1, wr 9 a ρ q.2 z)) := by
  unfold fX10_deed gX10_deed
  refine eo (isO_rd (rd_wr hz)) ?_
  refine ep (f := (fun S => wr 9 a ρ S z)) (pF_int hz rfl _) (fun S2 => ?_)
  refine e2m (f := (fun S => wr 9 a ρ S z)) (eX10_hasYear hz l1 S2) (fun x7 S7 => ?_)
  refine ei (fun _ => ?_) (fun _ => ?_)
  · skip
    rfl
  · skip
    refine ei (fun _ => ?_) (fun _ => ?_)
    · skip
      refine ei (fun _ => ?_) (fun _ => ?_)
      · skip
        refine eb (eX10_deeds (rd_wr hz)) (fun x26 => ?_)
        rfl
      · skip
        rfl
    · skip
      refine eb (eX10_deeds (rd_wr hz)) (fun x38 => ?_)
      refine ei (fun _ => ?_) (fun _ => ?_)
      · skip
        rfl
      · skip
        refine ei (fun _ => ?_) (fun _ => ?_)
        · skip
          rfl
        · skip
          refine eb (eX10_deedOf (rd_wr hz) l2 l3) (fun x61 => ?_)
          rfl
def gX10_looks (l1 : Int32) (l2 : Int32) (S : SV) : Option (Int32 × SV) :=
  (gX10_isCouple l1 S).bind fun x2 =>
  if x2 = (0 : Int32) then (
    some ((0 : Int32), S)
  ) else (
    (gX10_isThere l2 S).bind fun x10 =>
    if x10 = (0 : Int32) then (
      some ((0 : Int32), S)
    ) else (
      if (fX10_has ((S.1 32) ||| (S.1 34)) l1) = (0 : Int32) then (
        (gX10_sees l1 l2 S).bind fun S37 =>
        some ((1 : Int32), S37)
      ) else (
        some ((0 : Int32), S)
      )
    )
  )
set_option maxRecDepth 100000 in
theorem eX10_looks {a : Nat} {ρ : RV} {z : AH} (hz : a + szV 9 ≤ z.length) (l1 : Int32) (l2 : Int32) (S : SV) : fX10_looks a l1 l2 (wr 9 a ρ S z) = (gX10_looks l1 l2 S).map (fun q => (q.1, wr 9 a ρ q.2 z)) := by
  unfold fX10_looks gX10_looks
  refine eo (isO_rd (rd_wr hz)) ?_
  refine eb (eX10_isCouple (rd_wr hz) l1) (fun x2 => ?_)
  refine ei (fun _ => ?_) (fun _ => ?_)
  · skip
    rfl
  · skip
    refine eb (eX10_isThere (rd_wr hz) l2) (fun x10 => ?_)
    refine ei (fun _ => ?_) (fun _ => ?_)
    · skip
      rfl
    · skip
      refine sb (gI_rd (rd_wr hz) rfl) ?_
      refine sb (gI_rd (rd_wr hz) rfl) ?_
      refine ei (fun _ => ?_) (fun _ => ?_)
      · skip
        refine em (f := (fun S => wr 9 a ρ S z)) (eX10_sees hz l1 l2 S) (fun S37 => ?_)
        rfl
      · skip
        rfl
def gX10_turns (l1 : Int32) (l2 : Int32) (S : SV) : Option (Int32 × SV) :=
  (gX10_isCouple l1 S).bind fun x2 =>
  if x2 = (0 : Int32) then (
    some ((0 : Int32), S)
  ) else (
    if (fX10_has (S.1 32) l1) = l2 then (
      nm (wI S 32 ((S.1 32) ^^^ (shl (1 : Int32) l1))) fun S31 =>
      some ((1 : Int32), S31)
    ) else (
      some ((0 : Int32), S)
    )
  )
set_option maxRecDepth 100000 in
theorem eX10_turns {a : Nat} {ρ : RV} {z : AH} (hz : a + szV 9 ≤ z.length) (l1 : Int32) (l2 : Int32) (S : SV) : fX10_turns a l1 l2 (wr 9 a ρ S z) = (gX10_turns l1 l2 S).map (fun q => (q.1, wr 9 a ρ q.2 z)) := by
  unfold fX10_turns gX10_turns
  refine eo (isO_rd (rd_wr hz)) ?_
  refine eb (eX10_isCouple (rd_wr hz) l1) (fun x2 => ?_)
  refine ei (fun _ => ?_) (fun _ => ?_)
  · skip
    rfl
  · skip
    refine sb (gI_rd (rd_wr hz) rfl) ?_
    refine ei (fun _ => ?_) (fun _ => ?_)
    · skip
      refine sb (gI_rd (rd_wr hz) rfl) ?_
      refine ep (f := (fun S => wr 9 a ρ S z)) (pF_int hz rfl _) (fun S31 => ?_)
      rfl
    · skip
      rfl
def gX10_forges (l1 : Int32) (S : SV) : Option (Int32 × SV) :=
  (gX10_isThere l1 S).bind fun x2 =>
  if x2 = (0 : Int32) then (
    some ((0 : Int32), S)
  ) else (
    (rA 8 (S.2.1 28) l1).bind fun x23 =>
    (wA 28 8 S l1 (fX10_lesser (99 : Int32) ((2 : Int32) * x23))).bind fun S28 =>
    nm (wI S28 33 ((S28.1 33) ||| (shl (1 : Int32) l1))) fun S38 =>
    some ((1 : Int32), S38)
  )
set_option maxRecDepth 100000 in
theorem eX10_forges {a : Nat} {ρ : RV} {z : AH} (hz : a + szV 9 ≤ z.length) (l1 : Int32) (S : SV) : fX10_forges a l1 (wr 9 a ρ S z) = (gX10_forges l1 S).map (fun q => (q.1, wr 9 a ρ q.2 z)) := by
  unfold fX10_forges gX10_forges
  refine eo (isO_rd (rd_wr hz)) ?_
  refine eb (eX10_isThere (rd_wr hz) l1) (fun x2 => ?_)
  refine ei (fun _ => ?_) (fun _ => ?_)
  · skip
    rfl
  · skip
    refine sb (gN_rd (rd_wr hz) rfl (Or.inl rfl)) ?_
    refine sb (gN_rd (rd_wr hz) rfl (Or.inl rfl)) ?_
    refine eb (ixI_rd (rd_wr hz) (k := 28) rfl rfl (by decide) 0 rfl (by decide) _) (fun x23 => ?_)
    refine em (f := (fun S => wr 9 a ρ S z)) (stI_rd rkOk9 hz (k := 28) rfl rfl (by decide) 0 rfl (by decide) _ _) (fun S28 => ?_)
    refine sb (gI_rd (rd_wr hz) rfl) ?_
    refine ep (f := (fun S => wr 9 a ρ S z)) (pF_int hz rfl _) (fun S38 => ?_)
    rfl
def gbX10_does_51 (s1 : Int32) (s2 : Int32) (S : SV) : Option (Int32 × SV) :=
  b2 (gX10_turns s1 s2 S) fun x51 S51 =>
  if x51 = 0 ∨ x51 = 1 then some (x51, S51) else none
set_option maxRecDepth 100000 in
theorem ebX10_does_51 {a : Nat} {ρ : RV} {z : AH} (hz : a + szV 9 ≤ z.length) (s1 : Int32) (s2 : Int32) (S : SV) : bX10_does_51 a s1 s2 (wr 9 a ρ S z) = (gbX10_does_51 s1 s2 S).map (fun q => (q.1, wr 9 a ρ q.2 z)) := by
  unfold bX10_does_51 gbX10_does_51
  refine e2m (f := (fun S => wr 9 a ρ S z)) (eX10_turns hz s1 s2 S) (fun x51 S51 => ?_)
  refine ei (fun _ => rfl) (fun _ => rfl)
def gX10_does (l1 : Int32) (l2 : Int32) (l3 : Int32) (S : SV) : Option (Int32 × SV) :=
  if l1 = (0 : Int32) then (
    b2 (gX10_looks l2 l3 S) fun x35 S35 =>
    if x35 = 0 ∨ x35 = 1 then some (x35, S35) else none
  ) else (
    if l1 = (1 : Int32) then (
      if l1 = (2 : Int32) then (
        gbX10_does_51 l2 (1 : Int32) S
      ) else (
        gbX10_does_51 l2 (0 : Int32) S
      )
    ) else (
      if l1 = (2 : Int32) then (
        if l1 = (2 : Int32) then (
          gbX10_does_51 l2 (1 : Int32) S
        ) else (
          gbX10_does_51 l2 (0 : Int32) S
        )
      ) else (
        if l1 = (3 : Int32) then (
          b2 (gX10_forges l2 S) fun x57 S57 =>
          if x57 = 0 ∨ x57 = 1 then some (x57, S57) else none
        ) else (
          if (S.1 37) = (99 : Int32) then (
            some ((0 : Int32), S)
          ) else (
            (gX10_goesOn S).bind fun S73 =>
            some ((1 : Int32), S73)
          )
        )
      )
    )
  )
set_option maxRecDepth 100000 in
theorem eX10_does {a : Nat} {ρ : RV} {z : AH} (hz : a + szV 9 ≤ z.length) (l1 : Int32) (l2 : Int32) (l3 : Int32) (S : SV) : fX10_does a l1 l2 l3 (wr 9 a ρ S z) = (gX10_does l1 l2 l3 S).map (fun q => (q.1, wr 9 a ρ q.2 z)) := by
  unfold fX10_does gX10_does
  refine eo (isO_rd (rd_wr hz)) ?_
  refine ei (fun _ => ?_) (fun _ => ?_)
  · skip
    refine e2m (f := (fun S => wr 9 a ρ S z)) (eX10_looks hz l2 l3 S) (fun x35 S35 => ?_)
    refine ei (fun _ => rfl) (fun _ => rfl)
  · skip
    refine ei (fun _ => ?_) (fun _ => ?_)
    · skip
      refine ei (fun _ => ?_) (fun _ => ?_)
      · skip
        exact ebX10_does_51 hz l2 (1 : Int32) S
      · skip
        exact ebX10_does_51 hz l2 (0 : Int32) S
    · skip
      refine ei (fun _ => ?_) (fun _ => ?_)
      · skip
        refine ei (fun _ => ?_) (fun _ => ?_)
        · skip
          exact ebX10_does_51 hz l2 (1 : Int32) S
        · skip
          exact ebX10_does_51 hz l2 (0 : Int32) S
      · skip
        refine ei (fun _ => ?_) (fun _ => ?_)
        · skip
          refine e2m (f := (fun S => wr 9 a ρ S z)) (eX10_forges hz l2 S) (fun x57 S57 => ?_)
          refine ei (fun _ => rfl) (fun _ => rfl)
        · skip
          refine sb (gI_rd (rd_wr hz) rfl) ?_
          refine ei (fun _ => ?_) (fun _ => ?_)
          · skip
            rfl
          · skip
            refine em (f := (fun S => wr 9 a ρ S z)) (eX10_goesOn hz S) (fun S73 => ?_)
            rfl
def gX10_doesDeed (l1 : Int32) (S : SV) : Option (Int32 × SV) :=
  (gX10_deedOf l1 (0 : Int32) S).bind fun x4 =>
  (gX10_deedOf l1 (1 : Int32) S).bind fun x10 =>
  (gX10_deedOf l1 (2 : Int32) S).bind fun x16 =>
  b2 (gX10_does x4 x10 x16 S) fun x19 S19 =>
  if x19 = 0 ∨ x19 = 1 then some (x19, S19) else none
set_option maxRecDepth 100000 in
theorem eX10_doesDeed {a : Nat} {ρ : RV} {z : AH} (hz : a + szV 9 ≤ z.length) (l1 : Int32) (S : SV) : fX10_doesDeed a l1 (wr 9 a ρ S z) = (gX10_doesDeed l1 S).map (fun q => (q.1, wr 9 a ρ q.2 z)) := by
  unfold fX10_doesDeed gX10_doesDeed
  refine eo (isO_rd (rd_wr hz)) ?_
  refine eb (eX10_deedOf (rd_wr hz) l1 (0 : Int32)) (fun x4 => ?_)
  refine eb (eX10_deedOf (rd_wr hz) l1 (1 : Int32)) (fun x10 => ?_)
  refine eb (eX10_deedOf (rd_wr hz) l1 (2 : Int32)) (fun x16 => ?_)
  refine e2m (f := (fun S => wr 9 a ρ S z)) (eX10_does hz x4 x10 x16 S) (fun x19 S19 => ?_)
  refine ei (fun _ => rfl) (fun _ => rfl)
def gbX10_play_2 (k2 : Int32 → Int32 → SV → Option (Int32 × SV)) (l1 : Int32) (l2 : Int32) (S : SV) : Option (Int32 × SV) :=
  if l1 ≤ l2 then (
    some (l2, S)
  ) else (
    b2 (gX10_doesDeed l2 S) fun x9 S9 =>
    if x9 = (0 : Int32) then (
      some (l2, S9)
    ) else (
      nm (l2 + (1 : Int32)) fun v15 =>
      k2 l1 v15 S9
    )
  )
set_option maxRecDepth 100000 in
theorem ebX10_play_2 {a : Nat} {ρ : RV} {z : AH} (hz : a + szV 9 ≤ z.length) {k2 : Nat → Int32 → Int32 → AH → Option (Int32 × AH)} {k2' : Int32 → Int32 → SV → Option (Int32 × SV)} (hk2 : ∀ (l1 : Int32) (l2 : Int32) (S : SV), k2 a l1 l2 (wr 9 a ρ S z) = (k2' l1 l2 S).map (fun q => (q.1, wr 9 a ρ q.2 z))) (l1 : Int32) (l2 : Int32) (S : SV) : bX10_play_2 k2 a l1 l2 (wr 9 a ρ S z) = (gbX10_play_2 k2' l1 l2 S).map (fun q => (q.1, wr 9 a ρ q.2 z)) := by
  unfold bX10_play_2 gbX10_play_2
  refine ei (fun _ => ?_) (fun _ => ?_)
  · skip
    rfl
  · skip
    refine e2m (f := (fun S => wr 9 a ρ S z)) (eX10_doesDeed hz l2 S) (fun x9 S9 => ?_)
    refine ei (fun _ => ?_) (fun _ => ?_)
    · skip
      rfl
    · skip
      refine en (fun v15 => ?_)
      exact hk2 l1 v15 S9
def gfX10_play_2 : Nat → Int32 → Int32 → SV → Option (Int32 × SV)
  | 0, _, _, _ => none
  | n + 1, l1, l2, S => gbX10_play_2 (gfX10_play_2 n) l1 l2 S
theorem efX10_play_2 {a : Nat} {ρ : RV} {z : AH} (hz : a + szV 9 ≤ z.length) : ∀ (n : Nat) (l1 : Int32) (l2 : Int32) (S : SV), fX10_play_2 n a l1 l2 (wr 9 a ρ S z) = (gfX10_play_2 n l1 l2 S).map (fun q => (q.1, wr 9 a ρ q.2 z)) := by
  intro n
  induction n with
  | zero => intros; rfl
  | succ n ih => intro l1 l2 S; exact ebX10_play_2 hz (fun l1 l2 S => ih l1 l2 S) l1 l2 S
def gX10_play (l1 : Int32) (S : SV) : Option (Int32 × SV) :=
  gfX10_play_2 FU l1 (0 : Int32) S
set_option maxRecDepth 100000 in
theorem eX10_play {a : Nat} {ρ : RV} {z : AH} (hz : a + szV 9 ≤ z.length) (l1 : Int32) (S : SV) : fX10_play a l1 (wr 9 a ρ S z) = (gX10_play l1 S).map (fun q => (q.1, wr 9 a ρ q.2 z)) := by
  unfold fX10_play gX10_play
  refine eo (isO_rd (rd_wr hz)) ?_
  exact efX10_play_2 hz FU l1 (0 : Int32) S
def gX10_layAll (l1 : Int32) (l2 : Int32) (S : SV) : Option (Int32 × SV) :=
  b2 (gX10_hasYear l2 S) fun x2 S2 =>
  if x2 = (0 : Int32) then (
    some ((0 : Int32), S2)
  ) else (
    b2 (gX10_hand l1 S2) fun x10 S10 =>
    if x10 = (0 : Int32) then (
      some ((0 : Int32), S10)
    ) else (
      some ((1 : Int32), S10)
    )
  )
set_option maxRecDepth 100000 in
theorem eX10_layAll {a : Nat} {ρ : RV} {z : AH} (hz : a + szV 9 ≤ z.length) (l1 : Int32) (l2 : Int32) (S : SV) : fX10_layAll a l1 l2 (wr 9 a ρ S z) = (gX10_layAll l1 l2 S).map (fun q => (q.1, wr 9 a ρ q.2 z)) := by
  unfold fX10_layAll gX10_layAll
  refine eo (isO_rd (rd_wr hz)) ?_
  refine e2m (f := (fun S => wr 9 a ρ S z)) (eX10_hasYear hz l2 S) (fun x2 S2 => ?_)
  refine ei (fun _ => ?_) (fun _ => ?_)
  · skip
    rfl
  · skip
    refine e2m (f := (fun S => wr 9 a ρ S z)) (eX10_hand hz l1 S2) (fun x10 S10 => ?_)
    refine ei (fun _ => ?_) (fun _ => ?_)
    · skip
      rfl
    · skip
      rfl
def gX10_till (l1 : Int32) (l2 : Int32) (S : SV) : Option (Int32 × SV) :=
  nm (wI S 0 (0 : Int32)) fun S2 =>
  b2 (gX10_layAll l1 l2 S2) fun x8 S8 =>
  if x8 = (0 : Int32) then (
    some ((-1 : Int32), S8)
  ) else (
    (gX10_deeds S8).bind fun x16 =>
    b2 (gX10_play x16 S8) fun x19 S19 =>
    some (x19, S19)
  )
set_option maxRecDepth 100000 in
theorem eX10_till {a : Nat} {ρ : RV} {z : AH} (hz : a + szV 9 ≤ z.length) (l1 : Int32) (l2 : Int32) (S : SV) : fX10_till a l1 l2 (wr 9 a ρ S z) = (gX10_till l1 l2 S).map (fun q => (q.1, wr 9 a ρ q.2 z)) := by
  unfold fX10_till gX10_till
  refine eo (isO_rd (rd_wr hz)) ?_
  refine ep (f := (fun S => wr 9 a ρ S z)) (pF_int hz rfl _) (fun S2 => ?_)
  refine e2m (f := (fun S => wr 9 a ρ S z)) (eX10_layAll hz l1 l2 S2) (fun x8 S8 => ?_)
  refine ei (fun _ => ?_) (fun _ => ?_)
  · skip
    rfl
  · skip
    refine eb (eX10_deeds (rd_wr hz)) (fun x16 => ?_)
    refine e2m (f := (fun S => wr 9 a ρ S z)) (eX10_play hz x16 S8) (fun x19 S19 => ?_)
    rfl
def gX10_ofState (l1 : Int32) (S : SV) : Option (Int32) :=
  nm (irem l1 (10 : Int32)) fun v4 =>
  if (l1 / (10 : Int32)) = (0 : Int32) then (
    if l1 = (0 : Int32) then (
      some (S.1 37)
    ) else (
      if l1 = (1 : Int32) then (
        some (S.1 31)
      ) else (
        if l1 = (2 : Int32) then (
          some (S.1 32)
        ) else (
          if l1 = (3 : Int32) then (
            some (S.1 33)
          ) else (
            if l1 = (4 : Int32) then (
              some (S.1 34)
            ) else (
              some (-2 : Int32)
            )
          )
        )
      )
    )
  ) else (
    if (l1 / (10 : Int32)) = (1 : Int32) then (
      if (S.1 26) ≤ v4 then (
        some (-2 : Int32)
      ) else (
        (rA 8 (S.2.1 28) v4).bind fun x115 =>
        some x115
      )
    ) else (
      if (l1 / (10 : Int32)) = (2 : Int32) then (
        if (S.1 26) ≤ v4 then (
          some (-2 : Int32)
        ) else (
          (rA 8 (S.2.1 29) v4).bind fun x135 =>
          some x135
        )
      ) else (
        if (l1 / (10 : Int32)) = (3 : Int32) then (
          if (S.1 26) ≤ v4 then (
            some (-2 : Int32)
          ) else (
            (gX10_bears v4 S).bind fun x152 =>
            some x152
          )
        ) else (
          some (-2 : Int32)
        )
      )
    )
  )
set_option maxRecDepth 100000 in
theorem eX10_ofState {a : Nat} {ρ : RV} {S : SV} {z : AH} (hR : RD 9 a ρ S z) (l1 : Int32) : fX10_ofState a l1 z = gX10_ofState l1 S := by
  unfold fX10_ofState gX10_ofState
  refine eo (isO_rd hR) ?_
  refine en0 (fun v4 => ?_)
  refine ei0 (fun _ => ?_) (fun _ => ?_)
  · skip
    refine ei0 (fun _ => ?_) (fun _ => ?_)
    · skip
      refine sb (gI_rd hR rfl) ?_
      rfl
    · skip
      refine ei0 (fun _ => ?_) (fun _ => ?_)
      · skip
        refine sb (gI_rd hR rfl) ?_
        rfl
      · skip
        refine ei0 (fun _ => ?_) (fun _ => ?_)
        · skip
          refine sb (gI_rd hR rfl) ?_
          rfl
        · skip
          refine ei0 (fun _ => ?_) (fun _ => ?_)
          · skip
            refine sb (gI_rd hR rfl) ?_
            rfl
          · skip
            refine ei0 (fun _ => ?_) (fun _ => ?_)
            · skip
              refine sb (gI_rd hR rfl) ?_
              rfl
            · skip
              rfl
  · skip
    refine ei0 (fun _ => ?_) (fun _ => ?_)
    · skip
      refine sb (gI_rd hR rfl) ?_
      refine ei0 (fun _ => ?_) (fun _ => ?_)
      · skip
        rfl
      · skip
        refine sb (gN_rd hR rfl (Or.inl rfl)) ?_
        refine eb0 (ixI_rd hR (k := 28) rfl rfl (by decide) 0 rfl (by decide) _) (fun x115 => ?_)
        rfl
    · skip
      refine ei0 (fun _ => ?_) (fun _ => ?_)
      · skip
        refine sb (gI_rd hR rfl) ?_
        refine ei0 (fun _ => ?_) (fun _ => ?_)
        · skip
          rfl
        · skip
          refine sb (gN_rd hR rfl (Or.inl rfl)) ?_
          refine eb0 (ixI_rd hR (k := 29) rfl rfl (by decide) 0 rfl (by decide) _) (fun x135 => ?_)
          rfl
      · skip
        refine ei0 (fun _ => ?_) (fun _ => ?_)
        · skip
          refine sb (gI_rd hR rfl) ?_
          refine ei0 (fun _ => ?_) (fun _ => ?_)
          · skip
            rfl
          · skip
            refine eb0 (eX10_bears hR v4) (fun x152 => ?_)
            rfl
        · skip
          rfl
def gX10_state (l1 : Int32) (l2 : Int32) (l3 : Int32) (l4 : Int32) (S : SV) : Option (Int32 × SV) :=
  nm (wI S 0 (0 : Int32)) fun S2 =>
  b2 (gX10_layAll l1 l2 S2) fun x8 S8 =>
  if x8 = (0 : Int32) then (
    some ((-2 : Int32), S8)
  ) else (
    (gX10_deeds S8).bind fun x17 =>
    if (fX10_in l3 (0 : Int32) x17) = (0 : Int32) then (
      some ((-2 : Int32), S8)
    ) else (
      b2 (gX10_play l3 S8) fun x28 S28 =>
      if x28 = l3 then (
        (gX10_ofState l4 S28).bind fun x38 =>
        some (x38, S28)
      ) else (
        some ((-2 : Int32), S28)
      )
    )
  )
set_option maxRecDepth 100000 in
theorem eX10_state {a : Nat} {ρ : RV} {z : AH} (hz : a + szV 9 ≤ z.length) (l1 : Int32) (l2 : Int32) (l3 : Int32) (l4 : Int32) (S : SV) : fX10_state a l1 l2 l3 l4 (wr 9 a ρ S z) = (gX10_state l1 l2 l3 l4 S).map (fun q => (q.1, wr 9 a ρ q.2 z)) := by
  unfold fX10_state gX10_state
  refine eo (isO_rd (rd_wr hz)) ?_
  refine ep (f := (fun S => wr 9 a ρ S z)) (pF_int hz rfl _) (fun S2 => ?_)
  refine e2m (f := (fun S => wr 9 a ρ S z)) (eX10_layAll hz l1 l2 S2) (fun x8 S8 => ?_)
  refine ei (fun _ => ?_) (fun _ => ?_)
  · skip
    rfl
  · skip
    refine eb (eX10_deeds (rd_wr hz)) (fun x17 => ?_)
    refine ei (fun _ => ?_) (fun _ => ?_)
    · skip
      rfl
    · skip
      refine e2m (f := (fun S => wr 9 a ρ S z)) (eX10_play hz l3 S8) (fun x28 S28 => ?_)
      refine ei (fun _ => ?_) (fun _ => ?_)
      · skip
        refine eb (eX10_ofState (rd_wr hz) l4) (fun x38 => ?_)
        rfl
      · skip
        rfl
def gbX10_lasts_50 (l2 : Int32) (S : SV) : Option (Int32 × SV) :=
  if (fX10_has (S.1 31) l2) = (0 : Int32) then (
    some ((-1 : Int32), S)
  ) else (
    some ((S.1 37), S)
  )
set_option maxRecDepth 100000 in
theorem ebX10_lasts_50 {a : Nat} {ρ : RV} {z : AH} (hz : a + szV 9 ≤ z.length) (l2 : Int32) (S : SV) : bX10_lasts_50 a l2 (wr 9 a ρ S z) = (gbX10_lasts_50 l2 S).map (fun q => (q.1, wr 9 a ρ q.2 z)) := by
  unfold bX10_lasts_50 gbX10_lasts_50
  refine sb (gI_rd (rd_wr hz) rfl) ?_
  refine ei (fun _ => ?_) (fun _ => ?_)
  · skip
    rfl
  · skip
    refine sb (gI_rd (rd_wr hz) rfl) ?_
    rfl
def gbX10_lasts_23 (k23 : Int32 → SV → Option (Int32 × SV)) (l2 : Int32) (S : SV) : Option (Int32 × SV) :=
  if (99 : Int32) ≤ (S.1 37) then (
    gbX10_lasts_50 l2 S
  ) else (
    if (fX10_has (S.1 31) l2) = (0 : Int32) then (
      (gX10_goesOn S).bind fun S44 =>
      k23 l2 S44
    ) else (
      gbX10_lasts_50 l2 S
    )
  )
set_option maxRecDepth 100000 in
theorem ebX10_lasts_23 {a : Nat} {ρ : RV} {z : AH} (hz : a + szV 9 ≤ z.length) {k23 : Nat → Int32 → AH → Option (Int32 × AH)} {k23' : Int32 → SV → Option (Int32 × SV)} (hk23 : ∀ (l2 : Int32) (S : SV), k23 a l2 (wr 9 a ρ S z) = (k23' l2 S).map (fun q => (q.1, wr 9 a ρ q.2 z))) (l2 : Int32) (S : SV) : bX10_lasts_23 k23 a l2 (wr 9 a ρ S z) = (gbX10_lasts_23 k23' l2 S).map (fun q => (q.1, wr 9 a ρ q.2 z)) := by
  unfold bX10_lasts_23 gbX10_lasts_23
  refine sb (gI_rd (rd_wr hz) rfl) ?_
  refine ei (fun _ => ?_) (fun _ => ?_)
  · skip
    exact ebX10_lasts_50 hz l2 S
  · skip
    refine sb (gI_rd (rd_wr hz) rfl) ?_
    refine ei (fun _ => ?_) (fun _ => ?_)
    · skip
      refine em (f := (fun S => wr 9 a ρ S z)) (eX10_goesOn hz S) (fun S44 => ?_)
      exact hk23 l2 S44
    · skip
      exact ebX10_lasts_50 hz l2 S
def gfX10_lasts_23 : Nat → Int32 → SV → Option (Int32 × SV)
  | 0, _, _ => none
  | n + 1, l2, S => gbX10_lasts_23 (gfX10_lasts_23 n) l2 S
theorem efX10_lasts_23 {a : Nat} {ρ : RV} {z : AH} (hz : a + szV 9 ≤ z.length) : ∀ (n : Nat) (l2 : Int32) (S : SV), fX10_lasts_23 n a l2 (wr 9 a ρ S z) = (gfX10_lasts_23 n l2 S).map (fun q => (q.1, wr 9 a ρ q.2 z)) := by
  intro n
  induction n with
  | zero => intros; rfl
  | succ n ih => intro l2 S; exact ebX10_lasts_23 hz (fun l2 S => ih l2 S) l2 S
def gX10_lasts (l1 : Int32) (l2 : Int32) (S : SV) : Option (Int32 × SV) :=
  nm (wI S 0 (0 : Int32)) fun S2 =>
  b2 (gX10_hand l1 S2) fun x7 S7 =>
  if x7 = (0 : Int32) then (
    some ((-1 : Int32), S7)
  ) else (
    (gX10_isThing l2 S7).bind fun x15 =>
    if x15 = (0 : Int32) then (
      some ((-1 : Int32), S7)
    ) else (
      gfX10_lasts_23 FU l2 S7
    )
  )
set_option maxRecDepth 100000 in
theorem eX10_lasts {a : Nat} {ρ : RV} {z : AH} (hz : a + szV 9 ≤ z.length) (l1 : Int32) (l2 : Int32) (S : SV) : fX10_lasts a l1 l2 (wr 9 a ρ S z) = (gX10_lasts l1 l2 S).map (fun q => (q.1, wr 9 a ρ q.2 z)) := by
  unfold fX10_lasts gX10_lasts
  refine eo (isO_rd (rd_wr hz)) ?_
  refine ep (f := (fun S => wr 9 a ρ S z)) (pF_int hz rfl _) (fun S2 => ?_)
  refine e2m (f := (fun S => wr 9 a ρ S z)) (eX10_hand hz l1 S2) (fun x7 S7 => ?_)
  refine ei (fun _ => ?_) (fun _ => ?_)
  · skip
    rfl
  · skip
    refine eb (eX10_isThing (rd_wr hz) l2) (fun x15 => ?_)
    refine ei (fun _ => ?_) (fun _ => ?_)
    · skip
      rfl
    · skip
      exact efX10_lasts_23 hz FU l2 S7
def gbX10_layRow_75 (k12 : Int32 → Int32 → Int32 → SV → Option (Int32 × SV)) (l2 : Int32) (l3 : Int32) (l4 : Int32) (S : SV) : Option (Int32 × SV) :=
  (rA 4 (S.2.1 39) l4).bind fun x82 =>
  if (8 : Int32) ≤ x82 then (
    nm (l3 ||| (0 : Int32)) fun v102 =>
    nm (l4 + (-1 : Int32)) fun v103 =>
    k12 l2 v102 v103 S
  ) else (
    (rA 4 (S.2.1 39) l4).bind fun x95 =>
    nm (l3 ||| (shl (1 : Int32) x95)) fun v102 =>
    nm (l4 + (-1 : Int32)) fun v103 =>
    k12 l2 v102 v103 S
  )
set_option maxRecDepth 100000 in
theorem ebX10_layRow_75 {a : Nat} {ρ : RV} {z : AH} (hz : a + szV 9 ≤ z.length) {k12 : Nat → Int32 → Int32 → Int32 → AH → Option (Int32 × AH)} {k12' : Int32 → Int32 → Int32 → SV → Option (Int32 × SV)} (hk12 : ∀ (l2 : Int32) (l3 : Int32) (l4 : Int32) (S : SV), k12 a l2 l3 l4 (wr 9 a ρ S z) = (k12' l2 l3 l4 S).map (fun q => (q.1, wr 9 a ρ q.2 z))) (l2 : Int32) (l3 : Int32) (l4 : Int32) (S : SV) : bX10_layRow_75 k12 a l2 l3 l4 (wr 9 a ρ S z) = (gbX10_layRow_75 k12' l2 l3 l4 S).map (fun q => (q.1, wr 9 a ρ q.2 z)) := by
  unfold bX10_layRow_75 gbX10_layRow_75
  refine sb (gN_rd (rd_wr hz) rfl (Or.inl rfl)) ?_
  refine eb (ixI_rd (rd_wr hz) (k := 39) rfl rfl (by decide) 0 rfl (by decide) _) (fun x82 => ?_)
  refine ei (fun _ => ?_) (fun _ => ?_)
  · skip
    refine en (fun v102 => ?_)
    refine en (fun v103 => ?_)
    exact hk12 l2 v102 v103 S
  · skip
    refine sb (gN_rd (rd_wr hz) rfl (Or.inl rfl)) ?_
    refine eb (ixI_rd (rd_wr hz) (k := 39) rfl rfl (by decide) 0 rfl (by decide) _) (fun x95 => ?_)
    refine en (fun v102 => ?_)
    refine en (fun v103 => ?_)
    exact hk12 l2 v102 v103 S
def gbX10_layRow_12 (k12 : Int32 → Int32 → Int32 → SV → Option (Int32 × SV)) (l2 : Int32) (l3 : Int32) (l4 : Int32) (S : SV) : Option (Int32 × SV) :=
  if l4 < (0 : Int32) then (
    some ((1 : Int32), S)
  ) else (
    (wA 39 4 S l4 (irem l2 (9 : Int32))).bind fun S27 =>
    nm (l2 / (9 : Int32)) fun v32 =>
    (rA 4 (S27.2.1 39) l4).bind fun x39 =>
    if (8 : Int32) ≤ x39 then (
      gbX10_layRow_75 k12 v32 l3 l4 S27
    ) else (
      (rA 4 (S27.2.1 39) l4).bind fun x52 =>
      (gX10_isThere x52 S27).bind fun x53 =>
      if x53 = (0 : Int32) then (
        some ((0 : Int32), S27)
      ) else (
        (rA 4 (S27.2.1 39) l4).bind fun x66 =>
        if (fX10_has l3 x66) = (0 : Int32) then (
          gbX10_layRow_75 k12 v32 l3 l4 S27
        ) else (
          some ((0 : Int32), S27)
        )
      )
    )
  )
set_option maxRecDepth 100000 in
theorem ebX10_layRow_12 {a : Nat} {ρ : RV} {z : AH} (hz : a + szV 9 ≤ z.length) {k12 : Nat → Int32 → Int32 → Int32 → AH → Option (Int32 × AH)} {k12' : Int32 → Int32 → Int32 → SV → Option (Int32 × SV)} (hk12 : ∀ (l2 : Int32) (l3 : Int32) (l4 : Int32) (S : SV), k12 a l2 l3 l4 (wr 9 a ρ S z) = (k12' l2 l3 l4 S).map (fun q => (q.1, wr 9 a ρ q.2 z))) (l2 : Int32) (l3 : Int32) (l4 : Int32) (S : SV) : bX10_layRow_12 k12 a l2 l3 l4 (wr 9 a ρ S z) = (gbX10_layRow_12 k12' l2 l3 l4 S).map (fun q => (q.1, wr 9 a ρ q.2 z)) := by
  unfold bX10_layRow_12 gbX10_layRow_12
  refine ei (fun _ => ?_) (fun _ => ?_)
  · skip
    rfl
  · skip
    refine sb (gN_rd (rd_wr hz) rfl (Or.inl rfl)) ?_
    refine em (f := (fun S => wr 9 a ρ S z)) (stI_rd rkOk9 hz (k := 39) rfl rfl (by decide) 0 rfl (by decide) _ _) (fun S27 => ?_)
    refine en (fun v32 => ?_)
    refine sb (gN_rd (rd_wr hz) rfl (Or.inl rfl)) ?_
    refine eb (ixI_rd (rd_wr hz) (k := 39) rfl rfl (by decide) 0 rfl (by decide) _) (fun x39 => ?_)
    refine ei (fun _ => ?_) (fun _ => ?_)
    · skip
      exact ebX10_layRow_75 hz hk12 v32 l3 l4 S27
    · skip
      refine sb (gN_rd (rd_wr hz) rfl (Or.inl rfl)) ?_
      refine eb (ixI_rd (rd_wr hz) (k := 39) rfl rfl (by decide) 0 rfl (by decide) _) (fun x52 => ?_)
      refine eb (eX10_isThere (rd_wr hz) x52) (fun x53 => ?_)
      refine ei (fun _ => ?_) (fun _ => ?_)
      · skip
        rfl
      · skip
        refine sb (gN_rd (rd_wr hz) rfl (Or.inl rfl)) ?_
        refine eb (ixI_rd (rd_wr hz) (k := 39) rfl rfl (by decide) 0 rfl (by decide) _) (fun x66 => ?_)
        refine ei (fun _ => ?_) (fun _ => ?_)
        · skip
          exact ebX10_layRow_75 hz hk12 v32 l3 l4 S27
        · skip
          rfl
def gfX10_layRow_12 : Nat → Int32 → Int32 → Int32 → SV → Option (Int32 × SV)
  | 0, _, _, _, _ => none
  | n + 1, l2, l3, l4, S => gbX10_layRow_12 (gfX10_layRow_12 n) l2 l3 l4 S
theorem efX10_layRow_12 {a : Nat} {ρ : RV} {z : AH} (hz : a + szV 9 ≤ z.length) : ∀ (n : Nat) (l2 : Int32) (l3 : Int32) (l4 : Int32) (S : SV), fX10_layRow_12 n a l2 l3 l4 (wr 9 a ρ S z) = (gfX10_layRow_12 n l2 l3 l4 S).map (fun q => (q.1, wr 9 a ρ q.2 z)) := by
  intro n
  induction n with
  | zero => intros; rfl
  | succ n ih => intro l2 l3 l4 S; exact ebX10_layRow_12 hz (fun l2 l3 l4 S => ih l2 l3 l4 S) l2 l3 l4 S
def gX10_layRow (l1 : Int32) (S : SV) : Option (Int32 × SV) :=
  nm ((S.1 27) - (1 : Int32)) fun v10 =>
  gfX10_layRow_12 FU l1 (0 : Int32) v10 S
set_option maxRecDepth 100000 in
theorem eX10_layRow {a : Nat} {ρ : RV} {z : AH} (hz : a + szV 9 ≤ z.length) (l1 : Int32) (S : SV) : fX10_layRow a l1 (wr 9 a ρ S z) = (gX10_layRow l1 S).map (fun q => (q.1, wr 9 a ρ q.2 z)) := by
  unfold fX10_layRow gX10_layRow
  refine eo (isO_rd (rd_wr hz)) ?_
  refine sb (gI_rd (rd_wr hz) rfl) ?_
  refine en (fun v10 => ?_)
  exact efX10_layRow_12 hz FU l1 (0 : Int32) v10 S
def gbX10_tryRow_155 (l1 : Int32) (l2 : Int32) (S : SV) : Option SV :=
  (gX10_thereSet S).bind fun x157 =>
  if x157 = l1 then (
    nm (wI S 43 (fX10_lesser (S.1 43) l2)) fun S179 =>
    some S179
  ) else (
    nm (wI S 43 (S.1 43)) fun S179 =>
    some S179
  )
set_option maxRecDepth 100000 in
theorem ebX10_tryRow_155 {a : Nat} {ρ : RV} {z : AH} (hz : a + szV 9 ≤ z.length) (l1 : Int32) (l2 : Int32) (S : SV) : bX10_tryRow_155 a l1 l2 (wr 9 a ρ S z) = (gbX10_tryRow_155 l1 l2 S).map (fun S => wr 9 a ρ S z) := by
  unfold bX10_tryRow_155 gbX10_tryRow_155
  refine eb (eX10_thereSet (rd_wr hz)) (fun x157 => ?_)
  refine ei (fun _ => ?_) (fun _ => ?_)
  · skip
    refine sb (gI_rd (rd_wr hz) rfl) ?_
    refine ep (f := (fun S => wr 9 a ρ S z)) (pF_int hz rfl _) (fun S179 => ?_)
    rfl
  · skip
    refine sb (gI_rd (rd_wr hz) rfl) ?_
    refine ep (f := (fun S => wr 9 a ρ S z)) (pF_int hz rfl _) (fun S179 => ?_)
    rfl
def gbX10_tryRow_126 (k126 : Int32 → Int32 → Int32 → SV → Option SV) (l1 : Int32) (l2 : Int32) (l5 : Int32) (S : SV) : Option SV :=
  if (S.1 27) ≤ l5 then (
    gbX10_tryRow_155 l1 l2 S
  ) else (
    (rA 4 (S.2.1 39) l5).bind fun x147 =>
    (wA 40 4 S l5 x147).bind fun S148 =>
    nm (l5 + (1 : Int32)) fun v149 =>
    k126 l1 l2 v149 S148
  )
set_option maxRecDepth 100000 in
theorem ebX10_tryRow_126 {a : Nat} {ρ : RV} {z : AH} (hz : a + szV 9 ≤ z.length) {k126 : Nat → Int32 → Int32 → Int32 → AH → Option AH} {k126' : Int32 → Int32 → Int32 → SV → Option SV} (hk126 : ∀ (l1 : Int32) (l2 : Int32) (l5 : Int32) (S : SV), k126 a l1 l2 l5 (wr 9 a ρ S z) = (k126' l1 l2 l5 S).map (fun S => wr 9 a ρ S z)) (l1 : Int32) (l2 : Int32) (l5 : Int32) (S : SV) : bX10_tryRow_126 k126 a l1 l2 l5 (wr 9 a ρ S z) = (gbX10_tryRow_126 k126' l1 l2 l5 S).map (fun S => wr 9 a ρ S z) := by
  unfold bX10_tryRow_126 gbX10_tryRow_126
  refine sb (gI_rd (rd_wr hz) rfl) ?_
  refine ei (fun _ => ?_) (fun _ => ?_)
  · skip
    exact ebX10_tryRow_155 hz l1 l2 S
  · skip
    refine sb (gN_rd (rd_wr hz) rfl (Or.inl rfl)) ?_
    refine sb (gN_rd (rd_wr hz) rfl (Or.inl rfl)) ?_
    refine eb (ixI_rd (rd_wr hz) (k := 39) rfl rfl (by decide) 0 rfl (by decide) _) (fun x147 => ?_)
    refine em (f := (fun S => wr 9 a ρ S z)) (stI_rd rkOk9 hz (k := 40) rfl rfl (by decide) 0 rfl (by decide) _ _) (fun S148 => ?_)
    refine en (fun v149 => ?_)
    exact hk126 l1 l2 v149 S148
def gfX10_tryRow_126 : Nat → Int32 → Int32 → Int32 → SV → Option SV
  | 0, _, _, _, _ => none
  | n + 1, l1, l2, l5, S => gbX10_tryRow_126 (gfX10_tryRow_126 n) l1 l2 l5 S
theorem efX10_tryRow_126 {a : Nat} {ρ : RV} {z : AH} (hz : a + szV 9 ≤ z.length) : ∀ (n : Nat) (l1 : Int32) (l2 : Int32) (l5 : Int32) (S : SV), fX10_tryRow_126 n a l1 l2 l5 (wr 9 a ρ S z) = (gfX10_tryRow_126 n l1 l2 l5 S).map (fun S => wr 9 a ρ S z) := by
  intro n
  induction n with
  | zero => intros; rfl
  | succ n ih => intro l1 l2 l5 S; exact ebX10_tryRow_126 hz (fun l1 l2 l5 S => ih l1 l2 l5 S) l1 l2 l5 S
def gbX10_tryRow_112 (l1 : Int32) (l2 : Int32) (l3 : Int32) (l4 : Int32) (S : SV) : Option SV :=
  nm (wI S 41 l4) fun S115 =>
  nm (wI S115 42 l3) fun S120 =>
  gfX10_tryRow_126 FU l1 l2 (0 : Int32) S120
set_option maxRecDepth 100000 in
theorem ebX10_tryRow_112 {a : Nat} {ρ : RV} {z : AH} (hz : a + szV 9 ≤ z.length) (l1 : Int32) (l2 : Int32) (l3 : Int32) (l4 : Int32) (S : SV) : bX10_tryRow_112 a l1 l2 l3 l4 (wr 9 a ρ S z) = (gbX10_tryRow_112 l1 l2 l3 l4 S).map (fun S => wr 9 a ρ S z) := by
  unfold bX10_tryRow_112 gbX10_tryRow_112
  refine ep (f := (fun S => wr 9 a ρ S z)) (pF_int hz rfl _) (fun S115 => ?_)
  refine ep (f := (fun S => wr 9 a ρ S z)) (pF_int hz rfl _) (fun S120 => ?_)
  exact efX10_tryRow_126 hz FU l1 l2 (0 : Int32) S120
def gbX10_tryRow_52 (k52 : Int32 → Int32 → Int32 → Int32 → SV → Option SV) (l1 : Int32) (l2 : Int32) (l3 : Int32) (l4 : Int32) (S : SV) : Option SV :=
  if (S.1 26) ≤ l4 then (
    (gX10_thereSet S).bind fun x78 =>
    (fX10_ones x78).bind fun x81 =>
    if (S.1 41) < x81 then (
      gbX10_tryRow_112 l1 l2 l3 x81 S
    ) else (
      if x81 = (S.1 41) then (
        if l3 ≤ (S.1 42) then (
          gbX10_tryRow_155 l1 l2 S
        ) else (
          gbX10_tryRow_112 l1 l2 l3 x81 S
        )
      ) else (
        gbX10_tryRow_155 l1 l2 S
      )
    )
  ) else (
    (rA 8 (S.2.1 28) l4).bind fun x68 =>
    nm (l3 + x68) fun v70 =>
    nm (l4 + (1 : Int32)) fun v71 =>
    k52 l1 l2 v70 v71 S
  )
set_option maxRecDepth 100000 in
theorem ebX10_tryRow_52 {a : Nat} {ρ : RV} {z : AH} (hz : a + szV 9 ≤ z.length) {k52 : Nat → Int32 → Int32 → Int32 → Int32 → AH → Option AH} {k52' : Int32 → Int32 → Int32 → Int32 → SV → Option SV} (hk52 : ∀ (l1 : Int32) (l2 : Int32) (l3 : Int32) (l4 : Int32) (S : SV), k52 a l1 l2 l3 l4 (wr 9 a ρ S z) = (k52' l1 l2 l3 l4 S).map (fun S => wr 9 a ρ S z)) (l1 : Int32) (l2 : Int32) (l3 : Int32) (l4 : Int32) (S : SV) : bX10_tryRow_52 k52 a l1 l2 l3 l4 (wr 9 a ρ S z) = (gbX10_tryRow_52 k52' l1 l2 l3 l4 S).map (fun S => wr 9 a ρ S z) := by
  unfold bX10_tryRow_52 gbX10_tryRow_52
  refine sb (gI_rd (rd_wr hz) rfl) ?_
  refine ei (fun _ => ?_) (fun _ => ?_)
  · skip
    refine eb (eX10_thereSet (rd_wr hz)) (fun x78 => ?_)
    refine eb rfl (fun x81 => ?_)
    refine sb (gI_rd (rd_wr hz) rfl) ?_
    refine ei (fun _ => ?_) (fun _ => ?_)
    · skip
      exact ebX10_tryRow_112 hz l1 l2 l3 x81 S
    · skip
      refine sb (gI_rd (rd_wr hz) rfl) ?_
      refine ei (fun _ => ?_) (fun _ => ?_)
      · skip
        refine sb (gI_rd (rd_wr hz) rfl) ?_
        refine ei (fun _ => ?_) (fun _ => ?_)
        · skip
          exact ebX10_tryRow_155 hz l1 l2 S
        · skip
          exact ebX10_tryRow_112 hz l1 l2 l3 x81 S
      · skip
        exact ebX10_tryRow_155 hz l1 l2 S
  · skip
    refine sb (gN_rd (rd_wr hz) rfl (Or.inl rfl)) ?_
    refine eb (ixI_rd (rd_wr hz) (k := 28) rfl rfl (by decide) 0 rfl (by decide) _) (fun x68 => ?_)
    refine en (fun v70 => ?_)
    refine en (fun v71 => ?_)
    exact hk52 l1 l2 v70 v71 S
def gfX10_tryRow_52 : Nat → Int32 → Int32 → Int32 → Int32 → SV → Option SV
  | 0, _, _, _, _, _ => none
  | n + 1, l1, l2, l3, l4, S => gbX10_tryRow_52 (gfX10_tryRow_52 n) l1 l2 l3 l4 S
theorem efX10_tryRow_52 {a : Nat} {ρ : RV} {z : AH} (hz : a + szV 9 ≤ z.length) : ∀ (n : Nat) (l1 : Int32) (l2 : Int32) (l3 : Int32) (l4 : Int32) (S : SV), fX10_tryRow_52 n a l1 l2 l3 l4 (wr 9 a ρ S z) = (gfX10_tryRow_52 n l1 l2 l3 l4 S).map (fun S => wr 9 a ρ S z) := by
  intro n
  induction n with
  | zero => intros; rfl
  | succ n ih => intro l1 l2 l3 l4 S; exact ebX10_tryRow_52 hz (fun l1 l2 l3 l4 S => ih l1 l2 l3 l4 S) l1 l2 l3 l4 S
def gbX10_tryRow_4 (k4 : Int32 → Int32 → Int32 → SV → Option SV) (l1 : Int32) (l2 : Int32) (l3 : Int32) (S : SV) : Option SV :=
  if (S.1 27) ≤ l3 then (
    (gX10_goesOn S).bind fun S44 =>
    gfX10_tryRow_52 FU l1 l2 (0 : Int32) (0 : Int32) S44
  ) else (
    (rA 4 (S.2.1 39) l3).bind fun x17 =>
    if (8 : Int32) ≤ x17 then (
      nm (l3 + (1 : Int32)) fun v37 =>
      k4 l1 l2 v37 S
    ) else (
      (rA 4 (S.2.1 39) l3).bind fun x30 =>
      (gX10_sees l3 x30 S).bind fun S31 =>
      nm (l2 + (1 : Int32)) fun v34 =>
      nm (l3 + (1 : Int32)) fun v37 =>
      k4 l1 v34 v37 S31
    )
  )
set_option maxRecDepth 100000 in
theorem ebX10_tryRow_4 {a : Nat} {ρ : RV} {z : AH} (hz : a + szV 9 ≤ z.length) {k4 : Nat → Int32 → Int32 → Int32 → AH → Option AH} {k4' : Int32 → Int32 → Int32 → SV → Option SV} (hk4 : ∀ (l1 : Int32) (l2 : Int32) (l3 : Int32) (S : SV), k4 a l1 l2 l3 (wr 9 a ρ S z) = (k4' l1 l2 l3 S).map (fun S => wr 9 a ρ S z)) (l1 : Int32) (l2 : Int32) (l3 : Int32) (S : SV) : bX10_tryRow_4 k4 a l1 l2 l3 (wr 9 a ρ S z) = (gbX10_tryRow_4 k4' l1 l2 l3 S).map (fun S => wr 9 a ρ S z) := by
  unfold bX10_tryRow_4 gbX10_tryRow_4
  refine sb (gI_rd (rd_wr hz) rfl) ?_
  refine ei (fun _ => ?_) (fun _ => ?_)
  · skip
    refine em (f := (fun S => wr 9 a ρ S z)) (eX10_goesOn hz S) (fun S44 => ?_)
    exact efX10_tryRow_52 hz FU l1 l2 (0 : Int32) (0 : Int32) S44
  · skip
    refine sb (gN_rd (rd_wr hz) rfl (Or.inl rfl)) ?_
    refine eb (ixI_rd (rd_wr hz) (k := 39) rfl rfl (by decide) 0 rfl (by decide) _) (fun x17 => ?_)
    refine ei (fun _ => ?_) (fun _ => ?_)
    · skip
      refine en (fun v37 => ?_)
      exact hk4 l1 l2 v37 S
    · skip
      refine sb (gN_rd (rd_wr hz) rfl (Or.inl rfl)) ?_
      refine eb (ixI_rd (rd_wr hz) (k := 39) rfl rfl (by decide) 0 rfl (by decide) _) (fun x30 => ?_)
      refine em (f := (fun S => wr 9 a ρ S z)) (eX10_sees hz l3 x30 S) (fun S31 => ?_)
      refine en (fun v34 => ?_)
      refine en (fun v37 => ?_)
      exact hk4 l1 v34 v37 S31
def gfX10_tryRow_4 : Nat → Int32 → Int32 → Int32 → SV → Option SV
  | 0, _, _, _, _ => none
  | n + 1, l1, l2, l3, S => gbX10_tryRow_4 (gfX10_tryRow_4 n) l1 l2 l3 S
theorem efX10_tryRow_4 {a : Nat} {ρ : RV} {z : AH} (hz : a + szV 9 ≤ z.length) : ∀ (n : Nat) (l1 : Int32) (l2 : Int32) (l3 : Int32) (S : SV), fX10_tryRow_4 n a l1 l2 l3 (wr 9 a ρ S z) = (gfX10_tryRow_4 n l1 l2 l3 S).map (fun S => wr 9 a ρ S z) := by
  intro n
  induction n with
  | zero => intros; rfl
  | succ n ih => intro l1 l2 l3 S; exact ebX10_tryRow_4 hz (fun l1 l2 l3 S => ih l1 l2 l3 S) l1 l2 l3 S
def gX10_tryRow (l1 : Int32) (S : SV) : Option SV :=
  gfX10_tryRow_4 FU l1 (0 : Int32) (0 : Int32) S
set_option maxRecDepth 100000 in
theorem eX10_tryRow {a : Nat} {ρ : RV} {z : AH} (hz : a + szV 9 ≤ z.length) (l1 : Int32) (S : SV) : fX10_tryRow a l1 (wr 9 a ρ S z) = (gX10_tryRow l1 S).map (fun S => wr 9 a ρ S z) := by
  unfold fX10_tryRow gX10_tryRow
  refine eo (isO_rd (rd_wr hz)) ?_
  exact efX10_tryRow_4 hz FU l1 (0 : Int32) (0 : Int32) S
def gbX10_findWatch_47 (k47 : Int32 → Int32 → Int32 → SV → Option SV) (l1 : Int32) (l2 : Int32) (l3 : Int32) (S : SV) : Option SV :=
  if l2 ≤ l3 then (
    some S
  ) else (
    (gX10_begin S).bind fun S53 =>
    (gX10_falls S53).bind fun S57 =>
    b2 (gX10_layRow l3 S57) fun x62 S62 =>
    if x62 = (0 : Int32) then (
      nm (l3 + (1 : Int32)) fun v73 =>
      k47 l1 l2 v73 S62
    ) else (
      (gX10_tryRow l1 S62).bind fun S70 =>
      nm (l3 + (1 : Int32)) fun v73 =>
      k47 l1 l2 v73 S70
    )
  )
set_option maxRecDepth 100000 in
theorem ebX10_findWatch_47 {a : Nat} {ρ : RV} {z : AH} (hz : a + szV 9 ≤ z.length) {k47 : Nat → Int32 → Int32 → Int32 → AH → Option AH} {k47' : Int32 → Int32 → Int32 → SV → Option SV} (hk47 : ∀ (l1 : Int32) (l2 : Int32) (l3 : Int32) (S : SV), k47 a l1 l2 l3 (wr 9 a ρ S z) = (k47' l1 l2 l3 S).map (fun S => wr 9 a ρ S z)) (l1 : Int32) (l2 : Int32) (l3 : Int32) (S : SV) : bX10_findWatch_47 k47 a l1 l2 l3 (wr 9 a ρ S z) = (gbX10_findWatch_47 k47' l1 l2 l3 S).map (fun S => wr 9 a ρ S z) := by
  unfold bX10_findWatch_47 gbX10_findWatch_47
  refine ei (fun _ => ?_) (fun _ => ?_)
  · skip
    rfl
  · skip
    refine em (f := (fun S => wr 9 a ρ S z)) (eX10_begin hz S) (fun S53 => ?_)
    refine em (f := (fun S => wr 9 a ρ S z)) (eX10_falls hz S53) (fun S57 => ?_)
    refine e2m (f := (fun S => wr 9 a ρ S z)) (eX10_layRow hz l3 S57) (fun x62 S62 => ?_)
    refine ei (fun _ => ?_) (fun _ => ?_)
    · skip
      refine en (fun v73 => ?_)
      exact hk47 l1 l2 v73 S62
    · skip
      refine em (f := (fun S => wr 9 a ρ S z)) (eX10_tryRow hz l1 S62) (fun S70 => ?_)
      refine en (fun v73 => ?_)
      exact hk47 l1 l2 v73 S70
def gfX10_findWatch_47 : Nat → Int32 → Int32 → Int32 → SV → Option SV
  | 0, _, _, _, _ => none
  | n + 1, l1, l2, l3, S => gbX10_findWatch_47 (gfX10_findWatch_47 n) l1 l2 l3 S
theorem efX10_findWatch_47 {a : Nat} {ρ : RV} {z : AH} (hz : a + szV 9 ≤ z.length) : ∀ (n : Nat) (l1 : Int32) (l2 : Int32) (l3 : Int32) (S : SV), fX10_findWatch_47 n a l1 l2 l3 (wr 9 a ρ S z) = (gfX10_findWatch_47 n l1 l2 l3 S).map (fun S => wr 9 a ρ S z) := by
  intro n
  induction n with
  | zero => intros; rfl
  | succ n ih => intro l1 l2 l3 S; exact ebX10_findWatch_47 hz (fun l1 l2 l3 S => ih l1 l2 l3 S) l1 l2 l3 S
def gbX10_findWatch_9 (k9 : Int32 → Int32 → Int32 → SV → Option SV) (l1 : Int32) (l2 : Int32) (l3 : Int32) (S : SV) : Option SV :=
  if (S.1 27) ≤ l3 then (
    nm (wI S 41 (-1 : Int32)) fun S30 =>
    nm (wI S30 42 (-1 : Int32)) fun S35 =>
    nm (wI S35 43 (1000000 : Int32)) fun S42 =>
    gfX10_findWatch_47 FU l1 l2 (0 : Int32) S42
  ) else (
    nm (l2 * (9 : Int32)) fun v21 =>
    nm (l3 + (1 : Int32)) fun v22 =>
    k9 l1 v21 v22 S
  )
set_option maxRecDepth 100000 in
theorem ebX10_findWatch_9 {a : Nat} {ρ : RV} {z : AH} (hz : a + szV 9 ≤ z.length) {k9 : Nat → Int32 → Int32 → Int32 → AH → Option AH} {k9' : Int32 → Int32 → Int32 → SV → Option SV} (hk9 : ∀ (l1 : Int32) (l2 : Int32) (l3 : Int32) (S : SV), k9 a l1 l2 l3 (wr 9 a ρ S z) = (k9' l1 l2 l3 S).map (fun S => wr 9 a ρ S z)) (l1 : Int32) (l2 : Int32) (l3 : Int32) (S : SV) : bX10_findWatch_9 k9 a l1 l2 l3 (wr 9 a ρ S z) = (gbX10_findWatch_9 k9' l1 l2 l3 S).map (fun S => wr 9 a ρ S z) := by
  unfold bX10_findWatch_9 gbX10_findWatch_9
  refine sb (gI_rd (rd_wr hz) rfl) ?_
  refine ei (fun _ => ?_) (fun _ => ?_)
  · skip
    refine ep (f := (fun S => wr 9 a ρ S z)) (pF_int hz rfl _) (fun S30 => ?_)
    refine ep (f := (fun S => wr 9 a ρ S z)) (pF_int hz rfl _) (fun S35 => ?_)
    refine ep (f := (fun S => wr 9 a ρ S z)) (pF_int hz rfl _) (fun S42 => ?_)
    exact efX10_findWatch_47 hz FU l1 l2 (0 : Int32) S42
  · skip
    refine en (fun v21 => ?_)
    refine en (fun v22 => ?_)
    exact hk9 l1 v21 v22 S
def gfX10_findWatch_9 : Nat → Int32 → Int32 → Int32 → SV → Option SV
  | 0, _, _, _, _ => none
  | n + 1, l1, l2, l3, S => gbX10_findWatch_9 (gfX10_findWatch_9 n) l1 l2 l3 S
theorem efX10_findWatch_9 {a : Nat} {ρ : RV} {z : AH} (hz : a + szV 9 ≤ z.length) : ∀ (n : Nat) (l1 : Int32) (l2 : Int32) (l3 : Int32) (S : SV), fX10_findWatch_9 n a l1 l2 l3 (wr 9 a ρ S z) = (gfX10_findWatch_9 n l1 l2 l3 S).map (fun S => wr 9 a ρ S z) := by
  intro n
  induction n with
  | zero => intros; rfl
  | succ n ih => intro l1 l2 l3 S; exact ebX10_findWatch_9 hz (fun l1 l2 l3 S => ih l1 l2 l3 S) l1 l2 l3 S
def gX10_findWatch (S : SV) : Option SV :=
  (gX10_thereSet S).bind fun x1 =>
  gfX10_findWatch_9 FU x1 (1 : Int32) (0 : Int32) S
set_option maxRecDepth 100000 in
theorem eX10_findWatch {a : Nat} {ρ : RV} {z : AH} (hz : a + szV 9 ≤ z.length) (S : SV) : fX10_findWatch a (wr 9 a ρ S z) = (gX10_findWatch S).map (fun S => wr 9 a ρ S z) := by
  unfold fX10_findWatch gX10_findWatch
  refine eo (isO_rd (rd_wr hz)) ?_
  refine eb (eX10_thereSet (rd_wr hz)) (fun x1 => ?_)
  exact efX10_findWatch_9 hz FU x1 (1 : Int32) (0 : Int32) S
def gX10_watch (l1 : Int32) (l2 : Int32) (S : SV) : Option (Int32 × SV) :=
  nm (wI S 0 (0 : Int32)) fun S2 =>
  b2 (gX10_hand l1 S2) fun x7 S7 =>
  if x7 = (0 : Int32) then (
    some ((-1 : Int32), S7)
  ) else (
    if (fX10_in l2 (-2 : Int32) ((S7.1 27) - (1 : Int32))) = (0 : Int32) then (
      some ((-1 : Int32), S7)
    ) else (
      (gX10_findWatch S7).bind fun S31 =>
      if l2 = (-1 : Int32) then (
        some ((S31.1 41), S31)
      ) else (
        if l2 = (-2 : Int32) then (
          some ((S31.1 42), S31)
        ) else (
          (rA 4 (S31.2.1 40) l2).bind fun x64 =>
          some (x64, S31)
        )
      )
    )
  )
set_option maxRecDepth 100000 in
theorem eX10_watch {a : Nat} {ρ : RV} {z : AH} (hz : a + szV 9 ≤ z.length) (l1 : Int32) (l2 : Int32) (S : SV) : fX10_watch a l1 l2 (wr 9 a ρ S z) = (gX10_watch l1 l2 S).map (fun q => (q.1, wr 9 a ρ q.2 z)) := by
  unfold fX10_watch gX10_watch
  refine eo (isO_rd (rd_wr hz)) ?_
  refine ep (f := (fun S => wr 9 a ρ S z)) (pF_int hz rfl _) (fun S2 => ?_)
  refine e2m (f := (fun S => wr 9 a ρ S z)) (eX10_hand hz l1 S2) (fun x7 S7 => ?_)
  refine ei (fun _ => ?_) (fun _ => ?_)
  · skip
    rfl
  · skip
    refine sb (gI_rd (rd_wr hz) rfl) ?_
    refine ei (fun _ => ?_) (fun _ => ?_)
    · skip
      rfl
    · skip
      refine em (f := (fun S => wr 9 a ρ S z)) (eX10_findWatch hz S7) (fun S31 => ?_)
      refine ei (fun _ => ?_) (fun _ => ?_)
      · skip
        refine sb (gI_rd (rd_wr hz) rfl) ?_
        rfl
      · skip
        refine ei (fun _ => ?_) (fun _ => ?_)
        · skip
          refine sb (gI_rd (rd_wr hz) rfl) ?_
          rfl
        · skip
          refine sb (gN_rd (rd_wr hz) rfl (Or.inl rfl)) ?_
          refine eb (ixI_rd (rd_wr hz) (k := 40) rfl rfl (by decide) 0 rfl (by decide) _) (fun x64 => ?_)
          rfl
def gbX10_nextTo_51 (k4 : Int32 → Int32 → Int32 → Option (Int32)) (l1 : Int32) (l3 : Int32) (l4 : Int32) (l5 : Int32) (s0 : Int32) (s1 : Int32) (S : SV) : Option (Int32) :=
  nm (s0 ||| s1) fun v52 =>
  if (fX10_has l1 l5) = (0 : Int32) then (
    nm (v52 ||| (0 : Int32)) fun v72 =>
    nm (l3 + (1 : Int32)) fun v73 =>
    k4 l1 v72 v73
  ) else (
    nm (v52 ||| (shl (1 : Int32) l4)) fun v72 =>
    nm (l3 + (1 : Int32)) fun v73 =>
    k4 l1 v72 v73
  )
set_option maxRecDepth 100000 in
theorem ebX10_nextTo_51 {a : Nat} {ρ : RV} {S : SV} {z : AH} (hR : RD 9 a ρ S z) {k4 : Nat → Int32 → Int32 → Int32 → Option (Int32)} {k4' : Int32 → Int32 → Int32 → Option (Int32)} (hk4 : ∀ (l1 : Int32) (l2 : Int32) (l3 : Int32), k4 a l1 l2 l3 = k4' l1 l2 l3) (l1 : Int32) (l3 : Int32) (l4 : Int32) (l5 : Int32) (s0 : Int32) (s1 : Int32) : bX10_nextTo_51 k4 a l1 l3 l4 l5 s0 s1 z = gbX10_nextTo_51 k4' l1 l3 l4 l5 s0 s1 S := by
  unfold bX10_nextTo_51 gbX10_nextTo_51
  refine en0 (fun v52 => ?_)
  refine ei0 (fun _ => ?_) (fun _ => ?_)
  · skip
    refine en0 (fun v72 => ?_)
    refine en0 (fun v73 => ?_)
    exact hk4 l1 v72 v73
  · skip
    refine en0 (fun v72 => ?_)
    refine en0 (fun v73 => ?_)
    exact hk4 l1 v72 v73
def gbX10_nextTo_4 (k4 : Int32 → Int32 → Int32 → Option (Int32)) (l1 : Int32) (l2 : Int32) (l3 : Int32) (S : SV) : Option (Int32) :=
  (gX10_of (1 : Int32) S).bind fun x7 =>
  if x7 ≤ l3 then (
    some l2
  ) else (
    (gX10_of ((54 : Int32) + l3) S).bind fun x18 =>
    (gX10_of ((66 : Int32) + l3) S).bind fun x28 =>
    if (fX10_has l1 x18) = (0 : Int32) then (
      gbX10_nextTo_51 k4 l1 l3 x18 x28 l2 (0 : Int32) S
    ) else (
      gbX10_nextTo_51 k4 l1 l3 x18 x28 l2 (shl (1 : Int32) x28) S
    )
  )
set_option maxRecDepth 100000 in
theorem ebX10_nextTo_4 {a : Nat} {ρ : RV} {S : SV} {z : AH} (hR : RD 9 a ρ S z) {k4 : Nat → Int32 → Int32 → Int32 → Option (Int32)} {k4' : Int32 → Int32 → Int32 → Option (Int32)} (hk4 : ∀ (l1 : Int32) (l2 : Int32) (l3 : Int32), k4 a l1 l2 l3 = k4' l1 l2 l3) (l1 : Int32) (l2 : Int32) (l3 : Int32) : bX10_nextTo_4 k4 a l1 l2 l3 z = gbX10_nextTo_4 k4' l1 l2 l3 S := by
  unfold bX10_nextTo_4 gbX10_nextTo_4
  refine eb0 (eX10_of hR (1 : Int32)) (fun x7 => ?_)
  refine ei0 (fun _ => ?_) (fun _ => ?_)
  · skip
    rfl
  · skip
    refine eb0 (eX10_of hR ((54 : Int32) + l3)) (fun x18 => ?_)
    refine eb0 (eX10_of hR ((66 : Int32) + l3)) (fun x28 => ?_)
    refine ei0 (fun _ => ?_) (fun _ => ?_)
    · skip
      exact ebX10_nextTo_51 hR hk4 l1 l3 x18 x28 l2 (0 : Int32)
    · skip
      exact ebX10_nextTo_51 hR hk4 l1 l3 x18 x28 l2 (shl (1 : Int32) x28)
def gfX10_nextTo_4 (S : SV) : Nat → Int32 → Int32 → Int32 → Option (Int32)
  | 0, _, _, _ => none
  | n + 1, l1, l2, l3 => gbX10_nextTo_4 (gfX10_nextTo_4 S n) l1 l2 l3 S
theorem efX10_nextTo_4 {a : Nat} {ρ : RV} {S : SV} {z : AH} (hR : RD 9 a ρ S z) : ∀ (n : Nat) (l1 : Int32) (l2 : Int32) (l3 : Int32), fX10_nextTo_4 z n a l1 l2 l3 = gfX10_nextTo_4 S n l1 l2 l3 := by
  intro n
  induction n with
  | zero => intros; rfl
  | succ n ih => intro l1 l2 l3; exact ebX10_nextTo_4 hR (fun l1 l2 l3 => ih l1 l2 l3) l1 l2 l3
def gX10_nextTo (l1 : Int32) (S : SV) : Option (Int32) :=
  gfX10_nextTo_4 S FU l1 l1 (0 : Int32)
set_option maxRecDepth 100000 in
theorem eX10_nextTo {a : Nat} {ρ : RV} {S : SV} {z : AH} (hR : RD 9 a ρ S z) (l1 : Int32) : fX10_nextTo a l1 z = gX10_nextTo l1 S := by
  unfold fX10_nextTo gX10_nextTo
  refine eo (isO_rd hR) ?_
  exact efX10_nextTo_4 hR FU l1 l1 (0 : Int32)
def gbX10_hoursTill_91 (l4 : Int32) (l5 : Int32) (S : SV) : Option (Int32 × SV) :=
  if (l4 &&& l5) = (0 : Int32) then (
    some ((-1 : Int32), S)
  ) else (
    some ((S.1 37), S)
  )
set_option maxRecDepth 100000 in
theorem ebX10_hoursTill_91 {a : Nat} {ρ : RV} {z : AH} (hz : a + szV 9 ≤ z.length) (l4 : Int32) (l5 : Int32) (S : SV) : bX10_hoursTill_91 a l4 l5 (wr 9 a ρ S z) = (gbX10_hoursTill_91 l4 l5 S).map (fun q => (q.1, wr 9 a ρ q.2 z)) := by
  unfold bX10_hoursTill_91 gbX10_hoursTill_91
  refine ei (fun _ => ?_) (fun _ => ?_)
  · skip
    rfl
  · skip
    refine sb (gI_rd (rd_wr hz) rfl) ?_
    rfl
def gbX10_hoursTill_60 (k20 : Int32 → Int32 → Int32 → SV → Option (Int32 × SV)) (l3 : Int32) (l4 : Int32) (s0 : Int32) (S : SV) : Option (Int32 × SV) :=
  (gX10_goesOn S).bind fun S63 =>
  nm (l4 &&& ((S63.1 31) ^^^ (-1 : Int32))) fun v75 =>
  nm (s0 &&& ((S63.1 31) ^^^ (-1 : Int32))) fun v86 =>
  k20 l3 v75 v86 S63
set_option maxRecDepth 100000 in
theorem ebX10_hoursTill_60 {a : Nat} {ρ : RV} {z : AH} (hz : a + szV 9 ≤ z.length) {k20 : Nat → Int32 → Int32 → Int32 → AH → Option (Int32 × AH)} {k20' : Int32 → Int32 → Int32 → SV → Option (Int32 × SV)} (hk20 : ∀ (l3 : Int32) (l4 : Int32) (l5 : Int32) (S : SV), k20 a l3 l4 l5 (wr 9 a ρ S z) = (k20' l3 l4 l5 S).map (fun q => (q.1, wr 9 a ρ q.2 z))) (l3 : Int32) (l4 : Int32) (s0 : Int32) (S : SV) : bX10_hoursTill_60 k20 a l3 l4 s0 (wr 9 a ρ S z) = (gbX10_hoursTill_60 k20' l3 l4 s0 S).map (fun q => (q.1, wr 9 a ρ q.2 z)) := by
  unfold bX10_hoursTill_60 gbX10_hoursTill_60
  refine em (f := (fun S => wr 9 a ρ S z)) (eX10_goesOn hz S) (fun S63 => ?_)
  refine sb (gI_rd (rd_wr hz) rfl) ?_
  refine en (fun v75 => ?_)
  refine sb (gI_rd (rd_wr hz) rfl) ?_
  refine en (fun v86 => ?_)
  exact hk20 l3 v75 v86 S63
def gbX10_hoursTill_20 (k20 : Int32 → Int32 → Int32 → SV → Option (Int32 × SV)) (l3 : Int32) (l4 : Int32) (l5 : Int32) (S : SV) : Option (Int32 × SV) :=
  if (l4 &&& l5) = (0 : Int32) then (
    if (99 : Int32) ≤ (S.1 37) then (
      gbX10_hoursTill_91 l4 l5 S
    ) else (
      (gX10_nextTo l4 S).bind fun x40 =>
      if l3 = (0 : Int32) then (
        gbX10_hoursTill_60 k20 l3 x40 l5 S
      ) else (
        (gX10_nextTo l5 S).bind fun x52 =>
        gbX10_hoursTill_60 k20 l3 x40 x52 S
      )
    )
  ) else (
    gbX10_hoursTill_91 l4 l5 S
  )
set_option maxRecDepth 100000 in
theorem ebX10_hoursTill_20 {a : Nat} {ρ : RV} {z : AH} (hz : a + szV 9 ≤ z.length) {k20 : Nat → Int32 → Int32 → Int32 → AH → Option (Int32 × AH)} {k20' : Int32 → Int32 → Int32 → SV → Option (Int32 × SV)} (hk20 : ∀ (l3 : Int32) (l4 : Int32) (l5 : Int32) (S : SV), k20 a l3 l4 l5 (wr 9 a ρ S z) = (k20' l3 l4 l5 S).map (fun q => (q.1, wr 9 a ρ q.2 z))) (l3 : Int32) (l4 : Int32) (l5 : Int32) (S : SV) : bX10_hoursTill_20 k20 a l3 l4 l5 (wr 9 a ρ S z) = (gbX10_hoursTill_20 k20' l3 l4 l5 S).map (fun q => (q.1, wr 9 a ρ q.2 z)) := by
  unfold bX10_hoursTill_20 gbX10_hoursTill_20
  refine ei (fun _ => ?_) (fun _ => ?_)
  · skip
    refine sb (gI_rd (rd_wr hz) rfl) ?_
    refine ei (fun _ => ?_) (fun _ => ?_)
    · skip
      exact ebX10_hoursTill_91 hz l4 l5 S
    · skip
      refine eb (eX10_nextTo (rd_wr hz) l4) (fun x40 => ?_)
      refine ei (fun _ => ?_) (fun _ => ?_)
      · skip
        exact ebX10_hoursTill_60 hz hk20 l3 x40 l5 S
      · skip
        refine eb (eX10_nextTo (rd_wr hz) l5) (fun x52 => ?_)
        exact ebX10_hoursTill_60 hz hk20 l3 x40 x52 S
  · skip
    exact ebX10_hoursTill_91 hz l4 l5 S
def gfX10_hoursTill_20 : Nat → Int32 → Int32 → Int32 → SV → Option (Int32 × SV)
  | 0, _, _, _, _ => none
  | n + 1, l3, l4, l5, S => gbX10_hoursTill_20 (gfX10_hoursTill_20 n) l3 l4 l5 S
theorem efX10_hoursTill_20 {a : Nat} {ρ : RV} {z : AH} (hz : a + szV 9 ≤ z.length) : ∀ (n : Nat) (l3 : Int32) (l4 : Int32) (l5 : Int32) (S : SV), fX10_hoursTill_20 n a l3 l4 l5 (wr 9 a ρ S z) = (gfX10_hoursTill_20 n l3 l4 l5 S).map (fun q => (q.1, wr 9 a ρ q.2 z)) := by
  intro n
  induction n with
  | zero => intros; rfl
  | succ n ih => intro l3 l4 l5 S; exact ebX10_hoursTill_20 hz (fun l3 l4 l5 S => ih l3 l4 l5 S) l3 l4 l5 S
def gX10_hoursTill (l1 : Int32) (l2 : Int32) (l3 : Int32) (S : SV) : Option (Int32 × SV) :=
  nm (l1 &&& ((S.1 31) ^^^ (-1 : Int32))) fun v8 =>
  nm (l2 &&& ((S.1 31) ^^^ (-1 : Int32))) fun v18 =>
  gfX10_hoursTill_20 FU l3 v8 v18 S
set_option maxRecDepth 100000 in
theorem eX10_hoursTill {a : Nat} {ρ : RV} {z : AH} (hz : a + szV 9 ≤ z.length) (l1 : Int32) (l2 : Int32) (l3 : Int32) (S : SV) : fX10_hoursTill a l1 l2 l3 (wr 9 a ρ S z) = (gX10_hoursTill l1 l2 l3 S).map (fun q => (q.1, wr 9 a ρ q.2 z)) := by
  unfold fX10_hoursTill gX10_hoursTill
  refine eo (isO_rd (rd_wr hz)) ?_
  refine sb (gI_rd (rd_wr hz) rfl) ?_
  refine en (fun v8 => ?_)
  refine sb (gI_rd (rd_wr hz) rfl) ?_
  refine en (fun v18 => ?_)
  exact efX10_hoursTill_20 hz FU l3 v8 v18 S
def gbX10_sureBy_81 (k5 : Int32 → Int32 → Int32 → Int32 → Option (Int32)) (k81 : Int32 → Int32 → Int32 → Int32 → Int32 → Int32 → Int32 → Option (Int32)) (l1 : Int32) (l2 : Int32) (l3 : Int32) (l4 : Int32) (l5 : Int32) (l6 : Int32) (l7 : Int32) (S : SV) : Option (Int32) :=
  if (8 : Int32) ≤ l7 then (
    if (fX10_has l6 l2) = (0 : Int32) then (
      nm (l4 + (1 : Int32)) fun v121 =>
      k5 l1 l2 l3 v121
    ) else (
      nm (l4 + (1 : Int32)) fun v121 =>
      k5 l1 l2 l4 v121
    )
  ) else (
    (gX10_nextTo l6 S).bind fun x91 =>
    nm (x91 &&& l5) fun v97 =>
    nm (l7 + (1 : Int32)) fun v99 =>
    k81 l1 l2 l3 l4 l5 v97 v99
  )
set_option maxRecDepth 100000 in
theorem ebX10_sureBy_81 {a : Nat} {ρ : RV} {S : SV} {z : AH} (hR : RD 9 a ρ S z) {k5 : Nat → Int32 → Int32 → Int32 → Int32 → Option (Int32)} {k5' : Int32 → Int32 → Int32 → Int32 → Option (Int32)} {k81 : Nat → Int32 → Int32 → Int32 → Int32 → Int32 → Int32 → Int32 → Option (Int32)} {k81' : Int32 → Int32 → Int32 → Int32 → Int32 → Int32 → Int32 → Option (Int32)} (hk5 : ∀ (l1 : Int32) (l2 : Int32) (l3 : Int32) (l4 : Int32), k5 a l1 l2 l3 l4 = k5' l1 l2 l3 l4) (hk81 : ∀ (l1 : Int32) (l2 : Int32) (l3 : Int32) (l4 : Int32) (l5 : Int32) (l6 : Int32) (l7 : Int32), k81 a l1 l2 l3 l4 l5 l6 l7 = k81' l1 l2 l3 l4 l5 l6 l7) (l1 : Int32) (l2 : Int32) (l3 : Int32) (l4 : Int32) (l5 : Int32) (l6 : Int32) (l7 : Int32) : bX10_sureBy_81 k5 k81 a l1 l2 l3 l4 l5 l6 l7 z = gbX10_sureBy_81 k5' k81' l1 l2 l3 l4 l5 l6 l7 S := by
  unfold bX10_sureBy_81 gbX10_sureBy_81
  refine ei0 (fun _ => ?_) (fun _ => ?_)
  · skip
    refine ei0 (fun _ => ?_) (fun _ => ?_)
    · skip
      refine en0 (fun v121 => ?_)
      exact hk5 l1 l2 l3 v121
    · skip
      refine en0 (fun v121 => ?_)
      exact hk5 l1 l2 l4 v121
  · skip
    refine eb0 (eX10_nextTo hR l6) (fun x91 => ?_)
    refine en0 (fun v97 => ?_)
    refine en0 (fun v99 => ?_)
    exact hk81 l1 l2 l3 l4 l5 v97 v99
def gfX10_sureBy_81 (k5 : Int32 → Int32 → Int32 → Int32 → Option (Int32)) (S : SV) : Nat → Int32 → Int32 → Int32 → Int32 → Int32 → Int32 → Int32 → Option (Int32)
  | 0, _, _, _, _, _, _, _ => none
  | n + 1, l1, l2, l3, l4, l5, l6, l7 => gbX10_sureBy_81 k5 (gfX10_sureBy_81 k5 S n) l1 l2 l3 l4 l5 l6 l7 S
theorem efX10_sureBy_81 {a : Nat} {ρ : RV} {S : SV} {z : AH} (hR : RD 9 a ρ S z) {k5 : Nat → Int32 → Int32 → Int32 → Int32 → Option (Int32)} {k5' : Int32 → Int32 → Int32 → Int32 → Option (Int32)} (hk5 : ∀ (l1 : Int32) (l2 : Int32) (l3 : Int32) (l4 : Int32), k5 a l1 l2 l3 l4 = k5' l1 l2 l3 l4) : ∀ (n : Nat) (l1 : Int32) (l2 : Int32) (l3 : Int32) (l4 : Int32) (l5 : Int32) (l6 : Int32) (l7 : Int32), fX10_sureBy_81 k5 z n a l1 l2 l3 l4 l5 l6 l7 = gfX10_sureBy_81 k5' S n l1 l2 l3 l4 l5 l6 l7 := by
  intro n
  induction n with
  | zero => intros; rfl
  | succ n ih => intro l1 l2 l3 l4 l5 l6 l7; exact ebX10_sureBy_81 hR hk5 (fun l1 l2 l3 l4 l5 l6 l7 => ih l1 l2 l3 l4 l5 l6 l7) l1 l2 l3 l4 l5 l6 l7
def gbX10_sureBy_18 (k5 : Int32 → Int32 → Int32 → Int32 → Option (Int32)) (k18 : Int32 → Int32 → Int32 → Int32 → Int32 → Int32 → Option (Int32)) (l1 : Int32) (l2 : Int32) (l3 : Int32) (l4 : Int32) (l5 : Int32) (l6 : Int32) (S : SV) : Option (Int32) :=
  if (S.1 26) ≤ l6 then (
    nm ((shl (1 : Int32) l1) &&& l5) fun v76 =>
    gfX10_sureBy_81 k5 S FU l1 l2 l3 l4 l5 v76 (0 : Int32)
  ) else (
    if (fX10_has (S.1 31) l6) = (0 : Int32) then (
      (rA 8 (S.2.1 28) l6).bind fun x47 =>
      if x47 < l4 then (
        nm (l5 ||| (0 : Int32)) fun v62 =>
        nm (l6 + (1 : Int32)) fun v64 =>
        k18 l1 l2 l3 l4 v62 v64
      ) else (
        nm (l5 ||| (shl (1 : Int32) l6)) fun v62 =>
        nm (l6 + (1 : Int32)) fun v64 =>
        k18 l1 l2 l3 l4 v62 v64
      )
    ) else (
      nm (l5 ||| (0 : Int32)) fun v62 =>
      nm (l6 + (1 : Int32)) fun v64 =>
      k18 l1 l2 l3 l4 v62 v64
    )
  )
set_option maxRecDepth 100000 in
theorem ebX10_sureBy_18 {a : Nat} {ρ : RV} {S : SV} {z : AH} (hR : RD 9 a ρ S z) {k5 : Nat → Int32 → Int32 → Int32 → Int32 → Option (Int32)} {k5' : Int32 → Int32 → Int32 → Int32 → Option (Int32)} {k18 : Nat → Int32 → Int32 → Int32 → Int32 → Int32 → Int32 → Option (Int32)} {k18' : Int32 → Int32 → Int32 → Int32 → Int32 → Int32 → Option (Int32)} (hk5 : ∀ (l1 : Int32) (l2 : Int32) (l3 : Int32) (l4 : Int32), k5 a l1 l2 l3 l4 = k5' l1 l2 l3 l4) (hk18 : ∀ (l1 : Int32) (l2 : Int32) (l3 : Int32) (l4 : Int32) (l5 : Int32) (l6 : Int32), k18 a l1 l2 l3 l4 l5 l6 = k18' l1 l2 l3 l4 l5 l6) (l1 : Int32) (l2 : Int32) (l3 : Int32) (l4 : Int32) (l5 : Int32) (l6 : Int32) : bX10_sureBy_18 k5 k18 a l1 l2 l3 l4 l5 l6 z = gbX10_sureBy_18 k5' k18' l1 l2 l3 l4 l5 l6 S := by
  unfold bX10_sureBy_18 gbX10_sureBy_18
  refine sb (gI_rd hR rfl) ?_
  refine ei0 (fun _ => ?_) (fun _ => ?_)
  · skip
    refine en0 (fun v76 => ?_)
    exact efX10_sureBy_81 hR hk5 FU l1 l2 l3 l4 l5 v76 (0 : Int32)
  · skip
    refine sb (gI_rd hR rfl) ?_
    refine ei0 (fun _ => ?_) (fun _ => ?_)
    · skip
      refine sb (gN_rd hR rfl (Or.inl rfl)) ?_
      refine eb0 (ixI_rd hR (k := 28) rfl rfl (by decide) 0 rfl (by decide) _) (fun x47 => ?_)
      refine ei0 (fun _ => ?_) (fun _ => ?_)
      · skip
        refine en0 (fun v62 => ?_)
        refine en0 (fun v64 => ?_)
        exact hk18 l1 l2 l3 l4 v62 v64
      · skip
        refine en0 (fun v62 => ?_)
        refine en0 (fun v64 => ?_)
        exact hk18 l1 l2 l3 l4 v62 v64
    · skip
      refine en0 (fun v62 => ?_)
      refine en0 (fun v64 => ?_)
      exact hk18 l1 l2 l3 l4 v62 v64
def gfX10_sureBy_18 (k5 : Int32 → Int32 → Int32 → Int32 → Option (Int32)) (S : SV) : Nat → Int32 → Int32 → Int32 → Int32 → Int32 → Int32 → Option (Int32)
  | 0, _, _, _, _, _, _ => none
  | n + 1, l1, l2, l3, l4, l5, l6 => gbX10_sureBy_18 k5 (gfX10_sureBy_18 k5 S n) l1 l2 l3 l4 l5 l6 S
theorem efX10_sureBy_18 {a : Nat} {ρ : RV} {S : SV} {z : AH} (hR : RD 9 a ρ S z) {k5 : Nat → Int32 → Int32 → Int32 → Int32 → Option (Int32)} {k5' : Int32 → Int32 → Int32 → Int32 → Option (Int32)} (hk5 : ∀ (l1 : Int32) (l2 : Int32) (l3 : Int32) (l4 : Int32), k5 a l1 l2 l3 l4 = k5' l1 l2 l3 l4) : ∀ (n : Nat) (l1 : Int32) (l2 : Int32) (l3 : Int32) (l4 : Int32) (l5 : Int32) (l6 : Int32), fX10_sureBy_18 k5 z n a l1 l2 l3 l4 l5 l6 = gfX10_sureBy_18 k5' S n l1 l2 l3 l4 l5 l6 := by
  intro n
  induction n with
  | zero => intros; rfl
  | succ n ih => intro l1 l2 l3 l4 l5 l6; exact ebX10_sureBy_18 hR hk5 (fun l1 l2 l3 l4 l5 l6 => ih l1 l2 l3 l4 l5 l6) l1 l2 l3 l4 l5 l6
def gbX10_sureBy_5 (k5 : Int32 → Int32 → Int32 → Int32 → Option (Int32)) (l1 : Int32) (l2 : Int32) (l3 : Int32) (l4 : Int32) (S : SV) : Option (Int32) :=
  if (99 : Int32) < l4 then (
    some l3
  ) else (
    gfX10_sureBy_18 k5 S FU l1 l2 l3 l4 (0 : Int32) (0 : Int32)
  )
set_option maxRecDepth 100000 in
theorem ebX10_sureBy_5 {a : Nat} {ρ : RV} {S : SV} {z : AH} (hR : RD 9 a ρ S z) {k5 : Nat → Int32 → Int32 → Int32 → Int32 → Option (Int32)} {k5' : Int32 → Int32 → Int32 → Int32 → Option (Int32)} (hk5 : ∀ (l1 : Int32) (l2 : Int32) (l3 : Int32) (l4 : Int32), k5 a l1 l2 l3 l4 = k5' l1 l2 l3 l4) (l1 : Int32) (l2 : Int32) (l3 : Int32) (l4 : Int32) : bX10_sureBy_5 k5 a l1 l2 l3 l4 z = gbX10_sureBy_5 k5' l1 l2 l3 l4 S := by
  unfold bX10_sureBy_5 gbX10_sureBy_5
  refine ei0 (fun _ => ?_) (fun _ => ?_)
  · skip
    rfl
  · skip
    exact efX10_sureBy_18 hR hk5 FU l1 l2 l3 l4 (0 : Int32) (0 : Int32)
def gfX10_sureBy_5 (S : SV) : Nat → Int32 → Int32 → Int32 → Int32 → Option (Int32)
  | 0, _, _, _, _ => none
  | n + 1, l1, l2, l3, l4 => gbX10_sureBy_5 (gfX10_sureBy_5 S n) l1 l2 l3 l4 S
theorem efX10_sureBy_5 {a : Nat} {ρ : RV} {S : SV} {z : AH} (hR : RD 9 a ρ S z) : ∀ (n : Nat) (l1 : Int32) (l2 : Int32) (l3 : Int32) (l4 : Int32), fX10_sureBy_5 z n a l1 l2 l3 l4 = gfX10_sureBy_5 S n l1 l2 l3 l4 := by
  intro n
  induction n with
  | zero => intros; rfl
  | succ n ih => intro l1 l2 l3 l4; exact ebX10_sureBy_5 hR (fun l1 l2 l3 l4 => ih l1 l2 l3 l4) l1 l2 l3 l4
def gX10_sureBy (l1 : Int32) (l2 : Int32) (S : SV) : Option (Int32) :=
  gfX10_sureBy_5 S FU l1 l2 (-1 : Int32) (1 : Int32)
set_option maxRecDepth 100000 in
theorem eX10_sureBy {a : Nat} {ρ : RV} {S : SV} {z : AH} (hR : RD 9 a ρ S z) (l1 : Int32) (l2 : Int32) : fX10_sureBy a l1 l2 z = gX10_sureBy l1 l2 S := by
  unfold fX10_sureBy gX10_sureBy
  refine eo (isO_rd hR) ?_
  exact efX10_sureBy_5 hR FU l1 l2 (-1 : Int32) (1 : Int32)
def gX10_way (l1 : Int32) (l2 : Int32) (l3 : Int32) (l4 : Int32) (S : SV) : Option (Int32 × SV) :=
  nm (wI S 0 (0 : Int32)) fun S2 =>
  b2 (gX10_hand l1 S2) fun x7 S7 =>
  if x7 = (0 : Int32) then (
    some ((-1 : Int32), S7)
  ) else (
    (gX10_isThing l2 S7).bind fun x15 =>
    if x15 = (0 : Int32) then (
      some ((-1 : Int32), S7)
    ) else (
      (gX10_isThing l3 S7).bind fun x23 =>
      if x23 = (0 : Int32) then (
        some ((-1 : Int32), S7)
      ) else (
        if l4 = (0 : Int32) then (
          b2 (gX10_hoursTill (shl (1 : Int32) l2) (shl (1 : Int32) l3) (0 : Int32) S7) fun x53 S53 =>
          some (x53, S53)
        ) else (
          (gX10_sureBy l2 l3 S7).bind fun x39 =>
          some (x39, S7)
        )
      )
    )
  )
set_option maxRecDepth 100000 in
theorem eX10_way {a : Nat} {ρ : RV} {z : AH} (hz : a + szV 9 ≤ z.length) (l1 : Int32) (l2 : Int32) (l3 : Int32) (l4 : Int32) (S : SV) : fX10_way a l1 l2 l3 l4 (wr 9 a ρ S z) = (gX10_way l1 l2 l3 l4 S).map (fun q => (q.1, wr 9 a ρ q.2 z)) := by
  unfold fX10_way gX10_way
  refine eo (isO_rd (rd_wr hz)) ?_
  refine ep (f := (fun S => wr 9 a ρ S z)) (pF_int hz rfl _) (fun S2 => ?_)
  refine e2m (f := (fun S => wr 9 a ρ S z)) (eX10_hand hz l1 S2) (fun x7 S7 => ?_)
  refine ei (fun _ => ?_) (fun _ => ?_)
  · skip
    rfl
  · skip
    refine eb (eX10_isThing (rd_wr hz) l2) (fun x15 => ?_)
    refine ei (fun _ => ?_) (fun _ => ?_)
    · skip
      rfl
    · skip
      refine eb (eX10_isThing (rd_wr hz) l3) (fun x23 => ?_)
      refine ei (fun _ => ?_) (fun _ => ?_)
      · skip
        rfl
      · skip
        refine ei (fun _ => ?_) (fun _ => ?_)
        · skip
          refine e2m (f := (fun S => wr 9 a ρ S z)) (eX10_hoursTill hz (shl (1 : Int32) l2) (shl (1 : Int32) l3) (0 : Int32) S7) (fun x53 S53 => ?_)
          rfl
        · skip
          refine eb (eX10_sureBy (rd_wr hz) l2 l3) (fun x39 => ?_)
          rfl
def gX10_likes (l1 : Int32) (l2 : Int32) (S : SV) : Option (Int32) :=
  (gX10_of (((78 : Int32) + ((4 : Int32) * l1)) + l2) S).bind fun x9 =>
  some x9
set_option maxRecDepth 100000 in
theorem eX10_likes {a : Nat} {ρ : RV} {S : SV} {z : AH} (hR : RD 9 a ρ S z) (l1 : Int32) (l2 : Int32) : fX10_likes a l1 l2 z = gX10_likes l1 l2 S := by
  unfold fX10_likes gX10_likes
  refine eo (isO_rd hR) ?_
  refine eb0 (eX10_of hR (((78 : Int32) + ((4 : Int32) * l1)) + l2)) (fun x9 => ?_)
  rfl
def gX10_liked (l1 : Int32) (l2 : Int32) (S : SV) : Option (Int32) :=
  (gX10_of (((94 : Int32) + ((4 : Int32) * l1)) + l2) S).bind fun x9 =>
  some x9
set_option maxRecDepth 100000 in
theorem eX10_liked {a : Nat} {ρ : RV} {S : SV} {z : AH} (hR : RD 9 a ρ S z) (l1 : Int32) (l2 : Int32) : fX10_liked a l1 l2 z = gX10_liked l1 l2 S := by
  unfold fX10_liked gX10_liked
  refine eo (isO_rd hR) ?_
  refine eb0 (eX10_of hR (((94 : Int32) + ((4 : Int32) * l1)) + l2)) (fun x9 => ?_)
  rfl
def gbX10_nextAsked_4 (k4 : Int32 → Int32 → Int32 → Option (Int32)) (l1 : Int32) (l2 : Int32) (l3 : Int32) (S : SV) : Option (Int32) :=
  (gX10_of (3 : Int32) S).bind fun x7 =>
  if x7 ≤ l3 then (
    some l2
  ) else (
    (rA 4 (S.2.1 46) l1).bind fun x18 =>
    if (fX10_has x18 l3) = (0 : Int32) then (
      if l2 = (-1 : Int32) then (
        nm (l3 + (1 : Int32)) fun v52 =>
        k4 l1 l3 v52
      ) else (
        (gX10_likes l1 l3 S).bind fun x34 =>
        (gX10_likes l1 l2 S).bind fun x40 =>
        if x34 ≤ x40 then (
          nm (l3 + (1 : Int32)) fun v52 =>
          k4 l1 l2 v52
        ) else (
          nm (l3 + (1 : Int32)) fun v52 =>
          k4 l1 l3 v52
        )
      )
    ) else (
      nm (l3 + (1 : Int32)) fun v52 =>
      k4 l1 l2 v52
    )
  )
set_option maxRecDepth 100000 in
theorem ebX10_nextAsked_4 {a : Nat} {ρ : RV} {S : SV} {z : AH} (hR : RD 9 a ρ S z) {k4 : Nat → Int32 → Int32 → Int32 → Option (Int32)} {k4' : Int32 → Int32 → Int32 → Option (Int32)} (hk4 : ∀ (l1 : Int32) (l2 : Int32) (l3 : Int32), k4 a l1 l2 l3 = k4' l1 l2 l3) (l1 : Int32) (l2 : Int32) (l3 : Int32) : bX10_nextAsked_4 k4 a l1 l2 l3 z = gbX10_nextAsked_4 k4' l1 l2 l3 S := by
  unfold bX10_nextAsked_4 gbX10_nextAsked_4
  refine eb0 (eX10_of hR (3 : Int32)) (fun x7 => ?_)
  refine ei0 (fun _ => ?_) (fun _ => ?_)
  · skip
    rfl
  · skip
    refine sb (gN_rd hR rfl (Or.inl rfl)) ?_
    refine eb0 (ixI_rd hR (k := 46) rfl rfl (by decide) 0 rfl (by decide) _) (fun x18 => ?_)
    refine ei0 (fun _ => ?_) (fun _ => ?_)
    · skip
      refine ei0 (fun _ => ?_) (fun _ => ?_)
      · skip
        refine en0 (fun v52 => ?_)
        exact hk4 l1 l3 v52
      · skip
        refine eb0 (eX10_likes hR l1 l3) (fun x34 => ?_)
        refine eb0 (eX10_likes hR l1 l2) (fun x40 => ?_)
        refine ei0 (fun _ => ?_) (fun _ => ?_)
        · skip
          refine en0 (fun v52 => ?_)
          exact hk4 l1 l2 v52
        · skip
          refine en0 (fun v52 => ?_)
          exact hk4 l1 l3 v52
    · skip
      refine en0 (fun v52 => ?_)
      exact hk4 l1 l2 v52
def gfX10_nextAsked_4 (S : SV) : Nat → Int32 → Int32 → Int32 → Option (Int32)
  | 0, _, _, _ => none
  | n + 1, l1, l2, l3 => gbX10_nextAsked_4 (gfX10_nextAsked_4 S n) l1 l2 l3 S
theorem efX10_nextAsked_4 {a : Nat} {ρ : RV} {S : SV} {z : AH} (hR : RD 9 a ρ S z) : ∀ (n : Nat) (l1 : Int32) (l2 : Int32) (l3 : Int32), fX10_nextAsked_4 z n a l1 l2 l3 = gfX10_nextAsked_4 S n l1 l2 l3 := by
  intro n
  induction n with
  | zero => intros; rfl
  | succ n ih => intro l1 l2 l3; exact ebX10_nextAsked_4 hR (fun l1 l2 l3 => ih l1 l2 l3) l1 l2 l3
def gX10_nextAsked (l1 : Int32) (S : SV) : Option (Int32) :=
  gfX10_nextAsked_4 S FU l1 (-1 : Int32) (0 : Int32)
set_option maxRecDepth 100000 in
theorem eX10_nextAsked {a : Nat} {ρ : RV} {S : SV} {z : AH} (hR : RD 9 a ρ S z) (l1 : Int32) : fX10_nextAsked a l1 z = gX10_nextAsked l1 S := by
  unfold fX10_nextAsked gX10_nextAsked
  refine eo (isO_rd hR) ?_
  exact efX10_nextAsked_4 hR FU l1 (-1 : Int32) (0 : Int32)
def gbX10_asks_59 (l1 : Int32) (l2 : Int32) (l3 : Int32) (S : SV) : Option SV :=
  (wA 45 4 S l2 l1).bind fun S65 =>
  (wA 44 4 S65 l1 l2).bind fun S72 =>
  if l3 = (-1 : Int32) then (
    some S72
  ) else (
    (wA 44 4 S72 l3 (-1 : Int32)).bind fun S84 =>
    some S84
  )
set_option maxRecDepth 100000 in
theorem ebX10_asks_59 {a : Nat} {ρ : RV} {z : AH} (hz : a + szV 9 ≤ z.length) (l1 : Int32) (l2 : Int32) (l3 : Int32) (S : SV) : bX10_asks_59 a l1 l2 l3 (wr 9 a ρ S z) = (gbX10_asks_59 l1 l2 l3 S).map (fun S => wr 9 a ρ S z) := by
  unfold bX10_asks_59 gbX10_asks_59
  refine sb (gN_rd (rd_wr hz) rfl (Or.inl rfl)) ?_
  refine em (f := (fun S => wr 9 a ρ S z)) (stI_rd rkOk9 hz (k := 45) rfl rfl (by decide) 0 rfl (by decide) _ _) (fun S65 => ?_)
  refine sb (gN_rd (rd_wr hz) rfl (Or.inl rfl)) ?_
  refine em (f := (fun S => wr 9 a ρ S z)) (stI_rd rkOk9 hz (k := 44) rfl rfl (by decide) 0 rfl (by decide) _ _) (fun S72 => ?_)
  refine ei (fun _ => ?_) (fun _ => ?_)
  · skip
    rfl
  · skip
    refine sb (gN_rd (rd_wr hz) rfl (Or.inl rfl)) ?_
    refine em (f := (fun S => wr 9 a ρ S z)) (stI_rd rkOk9 hz (k := 44) rfl rfl (by decide) 0 rfl (by decide) _ _) (fun S84 => ?_)
    rfl
def gX10_asks (l1 : Int32) (l2 : Int32) (S : SV) : Option SV :=
  (rA 4 (S.2.1 46) l1).bind fun x6 =>
  (wA 46 4 S l1 (x6 ||| (shl (1 : Int32) l2))).bind fun S11 =>
  (rA 4 (S11.2.1 45) l2).bind fun x17 =>
  if x17 = (-1 : Int32) then (
    gbX10_asks_59 l1 l2 x17 S11
  ) else (
    (gX10_liked l2 l1 S11).bind fun x27 =>
    (gX10_liked l2 x17 S11).bind fun x33 =>
    if x33 < x27 then (
      gbX10_asks_59 l1 l2 x17 S11
    ) else (
      (gX10_liked l2 l1 S11).bind fun x42 =>
      (gX10_liked l2 x17 S11).bind fun x48 =>
      if x42 = x48 then (
        if x17 ≤ l1 then (
          some S11
        ) else (
          gbX10_asks_59 l1 l2 x17 S11
        )
      ) else (
        some S11
      )
    )
  )
set_option maxRecDepth 100000 in
theorem eX10_asks {a : Nat} {ρ : RV} {z : AH} (hz : a + szV 9 ≤ z.length) (l1 : Int32) (l2 : Int32) (S : SV) : fX10_asks a l1 l2 (wr 9 a ρ S z) = (gX10_asks l1 l2 S).map (fun S => wr 9 a ρ S z) := by
  unfold fX10_asks gX10_asks
  refine eo (isO_rd (rd_wr hz)) ?_
  refine sb (gN_rd (rd_wr hz) rfl (Or.inl rfl)) ?_
  refine eb (ixI_rd (rd_wr hz) (k := 46) rfl rfl (by decide) 0 rfl (by decide) _) (fun x6 => ?_)
  refine em (f := (fun S => wr 9 a ρ S z)) (stI_rd rkOk9 hz (k := 46) rfl rfl (by decide) 0 rfl (by decide) _ _) (fun S11 => ?_)
  refine sb (gN_rd (rd_wr hz) rfl (Or.inl rfl)) ?_
  refine eb (ixI_rd (rd_wr hz) (k := 45) rfl rfl (by decide) 0 rfl (by decide) _) (fun x17 => ?_)
  refine ei (fun _ => ?_) (fun _ => ?_)
  · skip
    exact ebX10_asks_59 hz l1 l2 x17 S11
  · skip
    refine eb (eX10_liked (rd_wr hz) l2 l1) (fun x27 => ?_)
    refine eb (eX10_liked (rd_wr hz) l2 x17) (fun x33 => ?_)
    refine ei (fun _ => ?_) (fun _ => ?_)
    · skip
      exact ebX10_asks_59 hz l1 l2 x17 S11
    · skip
      refine eb (eX10_liked (rd_wr hz) l2 l1) (fun x42 => ?_)
      refine eb (eX10_liked (rd_wr hz) l2 x17) (fun x48 => ?_)
      refine ei (fun _ => ?_) (fun _ => ?_)
      · skip
        refine ei (fun _ => ?_) (fun _ => ?_)
        · skip
          rfl
        · skip
          exact ebX10_asks_59 hz l1 l2 x17 S11
      · skip
        rfl
def gbX10_marry_72 (k36 : Int32 → SV → Option SV) (k44 : Int32 → Int32 → SV → Option SV) (l1 : Int32) (l2 : Int32) (s0 : Int32) (S : SV) : Option SV :=
  if s0 = (-1 : Int32) then (
    nm (l2 + (1 : Int32)) fun v86 =>
    k44 l1 v86 S
  ) else (
    (gX10_asks l2 s0 S).bind fun S81 =>
    nm (l2 + (1 : Int32)) fun v86 =>
    k44 (1 : Int32) v86 S81
  )
set_option maxRecDepth 100000 in
theorem ebX10_marry_72 {a : Nat} {ρ : RV} {z : AH} (hz : a + szV 9 ≤ z.length) {k36 : Nat → Int32 → AH → Option AH} {k36' : Int32 → SV → Option SV} {k44 : Nat → Int32 → Int32 → AH → Option AH} {k44' : Int32 → Int32 → SV → Option SV} (hk36 : ∀ (l1 : Int32) (S : SV), k36 a l1 (wr 9 a ρ S z) = (k36' l1 S).map (fun S => wr 9 a ρ S z)) (hk44 : ∀ (l1 : Int32) (l2 : Int32) (S : SV), k44 a l1 l2 (wr 9 a ρ S z) = (k44' l1 l2 S).map (fun S => wr 9 a ρ S z)) (l1 : Int32) (l2 : Int32) (s0 : Int32) (S : SV) : bX10_marry_72 k36 k44 a l1 l2 s0 (wr 9 a ρ S z) = (gbX10_marry_72 k36' k44' l1 l2 s0 S).map (fun S => wr 9 a ρ S z) := by
  unfold bX10_marry_72 gbX10_marry_72
  refine ei (fun _ => ?_) (fun _ => ?_)
  · skip
    refine en (fun v86 => ?_)
    exact hk44 l1 v86 S
  · skip
    refine em (f := (fun S => wr 9 a ρ S z)) (eX10_asks hz l2 s0 S) (fun S81 => ?_)
    refine en (fun v86 => ?_)
    exact hk44 (1 : Int32) v86 S81
def gbX10_marry_44 (k36 : Int32 → SV → Option SV) (k44 : Int32 → Int32 → SV → Option SV) (l1 : Int32) (l2 : Int32) (S : SV) : Option SV :=
  (gX10_of (2 : Int32) S).bind fun x47 =>
  if x47 ≤ l2 then (
    k36 l1 S
  ) else (
    (rA 4 (S.2.1 44) l2).bind fun x58 =>
    if x58 = (-1 : Int32) then (
      (gX10_nextAsked l2 S).bind fun x65 =>
      gbX10_marry_72 k36 k44 l1 l2 x65 S
    ) else (
      gbX10_marry_72 k36 k44 l1 l2 (-1 : Int32) S
    )
  )
set_option maxRecDepth 100000 in
theorem ebX10_marry_44 {a : Nat} {ρ : RV} {z : AH} (hz : a + szV 9 ≤ z.length) {k36 : Nat → Int32 → AH → Option AH} {k36' : Int32 → SV → Option SV} {k44 : Nat → Int32 → Int32 → AH → Option AH} {k44' : Int32 → Int32 → SV → Option SV} (hk36 : ∀ (l1 : Int32) (S : SV), k36 a l1 (wr 9 a ρ S z) = (k36' l1 S).map (fun S => wr 9 a ρ S z)) (hk44 : ∀ (l1 : Int32) (l2 : Int32) (S : SV), k44 a l1 l2 (wr 9 a ρ S z) = (k44' l1 l2 S).map (fun S => wr 9 a ρ S z)) (l1 : Int32) (l2 : Int32) (S : SV) : bX10_marry_44 k36 k44 a l1 l2 (wr 9 a ρ S z) = (gbX10_marry_44 k36' k44' l1 l2 S).map (fun S => wr 9 a ρ S z) := by
  unfold bX10_marry_44 gbX10_marry_44
  refine eb (eX10_of (rd_wr hz) (2 : Int32)) (fun x47 => ?_)
  refine ei (fun _ => ?_) (fun _ => ?_)
  · skip
    exact hk36 l1 S
  · skip
    refine sb (gN_rd (rd_wr hz) rfl (Or.inl rfl)) ?_
    refine eb (ixI_rd (rd_wr hz) (k := 44) rfl rfl (by decide) 0 rfl (by decide) _) (fun x58 => ?_)
    refine ei (fun _ => ?_) (fun _ => ?_)
    · skip
      refine eb (eX10_nextAsked (rd_wr hz) l2) (fun x65 => ?_)
      exact ebX10_marry_72 hz hk36 hk44 l1 l2 x65 S
    · skip
      exact ebX10_marry_72 hz hk36 hk44 l1 l2 (-1 : Int32) S
def gfX10_marry_44 (k36 : Int32 → SV → Option SV) : Nat → Int32 → Int32 → SV → Option SV
  | 0, _, _, _ => none
  | n + 1, l1, l2, S => gbX10_marry_44 k36 (gfX10_marry_44 k36 n) l1 l2 S
theorem efX10_marry_44 {a : Nat} {ρ : RV} {z : AH} (hz : a + szV 9 ≤ z.length) {k36 : Nat → Int32 → AH → Option AH} {k36' : Int32 → SV → Option SV} (hk36 : ∀ (l1 : Int32) (S : SV), k36 a l1 (wr 9 a ρ S z) = (k36' l1 S).map (fun S => wr 9 a ρ S z)) : ∀ (n : Nat) (l1 : Int32) (l2 : Int32) (S : SV), fX10_marry_44 k36 n a l1 l2 (wr 9 a ρ S z) = (gfX10_marry_44 k36' n l1 l2 S).map (fun S => wr 9 a ρ S z) := by
  intro n
  induction n with
  | zero => intros; rfl
  | succ n ih => intro l1 l2 S; exact ebX10_marry_44 hz hk36 (fun l1 l2 S => ih l1 l2 S) l1 l2 S
def gbX10_marry_36 (k36 : Int32 → SV → Option SV) (l1 : Int32) (S : SV) : Option SV :=
  if l1 = (0 : Int32) then (
    some S
  ) else (
    gfX10_marry_44 k36 FU (0 : Int32) (0 : Int32) S
  )
set_option maxRecDepth 100000 in
theorem ebX10_marry_36 {a : Nat} {ρ : RV} {z : AH} (hz : a + szV 9 ≤ z.length) {k36 : Nat → Int32 → AH → Option AH} {k36' : Int32 → SV → Option SV} (hk36 : ∀ (l1 : Int32) (S : SV), k36 a l1 (wr 9 a ρ S z) = (k36' l1 S).map (fun S => wr 9 a ρ S z)) (l1 : Int32) (S : SV) : bX10_marry_36 k36 a l1 (wr 9 a ρ S z) = (gbX10_marry_36 k36' l1 S).map (fun S => wr 9 a ρ S z) := by
  unfold bX10_marry_36 gbX10_marry_36
  refine ei (fun _ => ?_) (fun _ => ?_)
  · skip
    rfl
  · skip
    exact efX10_marry_44 hz hk36 FU (0 : Int32) (0 : Int32) S
def gfX10_marry_36 : Nat → Int32 → SV → Option SV
  | 0, _, _ => none
  | n + 1, l1, S => gbX10_marry_36 (gfX10_marry_36 n) l1 S
theorem efX10_marry_36 {a : Nat} {ρ : RV} {z : AH} (hz : a + szV 9 ≤ z.length) : ∀ (n : Nat) (l1 : Int32) (S : SV), fX10_marry_36 n a l1 (wr 9 a ρ S z) = (gfX10_marry_36 n l1 S).map (fun S => wr 9 a ρ S z) := by
  intro n
  induction n with
  | zero => intros; rfl
  | succ n ih => intro l1 S; exact ebX10_marry_36 hz (fun l1 S => ih l1 S) l1 S
def gbX10_marry_2 (k2 : Int32 → SV → Option SV) (l1 : Int32) (S : SV) : Option SV :=
  if (4 : Int32) ≤ l1 then (
    gfX10_marry_36 FU (1 : Int32) S
  ) else (
    (wA 44 4 S l1 (-1 : Int32)).bind fun S13 =>
    (wA 45 4 S13 l1 (-1 : Int32)).bind fun S20 =>
    (wA 46 4 S20 l1 (0 : Int32)).bind fun S27 =>
    nm (l1 + (1 : Int32)) fun v28 =>
    k2 v28 S27
  )
set_option maxRecDepth 100000 in
theorem ebX10_marry_2 {a : Nat} {ρ : RV} {z : AH} (hz : a + szV 9 ≤ z.length) {k2 : Nat → Int32 → AH → Option AH} {k2' : Int32 → SV → Option SV} (hk2 : ∀ (l1 : Int32) (S : SV), k2 a l1 (wr 9 a ρ S z) = (k2' l1 S).map (fun S => wr 9 a ρ S z)) (l1 : Int32) (S : SV) : bX10_marry_2 k2 a l1 (wr 9 a ρ S z) = (gbX10_marry_2 k2' l1 S).map (fun S => wr 9 a ρ S z) := by
  unfold bX10_marry_2 gbX10_marry_2
  refine ei (fun _ => ?_) (fun _ => ?_)
  · skip
    exact efX10_marry_36 hz FU (1 : Int32) S
  · skip
    refine sb (gN_rd (rd_wr hz) rfl (Or.inl rfl)) ?_
    refine em (f := (fun S => wr 9 a ρ S z)) (stI_rd rkOk9 hz (k := 44) rfl rfl (by decide) 0 rfl (by decide) _ _) (fun S13 => ?_)
    refine sb (gN_rd (rd_wr hz) rfl (Or.inl rfl)) ?_
    refine em (f := (fun S => wr 9 a ρ S z)) (stI_rd rkOk9 hz (k := 45) rfl rfl (by decide) 0 rfl (by decide) _ _) (fun S20 => ?_)
    refine sb (gN_rd (rd_wr hz) rfl (Or.inl rfl)) ?_
    refine em (f := (fun S => wr 9 a ρ S z)) (stI_rd rkOk9 hz (k := 46) rfl rfl (by decide) 0 rfl (by decide) _ _) (fun S27 => ?_)
    refine en (fun v28 => ?_)
    exact hk2 v28 S27
def gfX10_marry_2 : Nat → Int32 → SV → Option SV
  | 0, _, _ => none
  | n + 1, l1, S => gbX10_marry_2 (gfX10_marry_2 n) l1 S
theorem efX10_marry_2 {a : Nat} {ρ : RV} {z : AH} (hz : a + szV 9 ≤ z.length) : ∀ (n : Nat) (l1 : Int32) (S : SV), fX10_marry_2 n a l1 (wr 9 a ρ S z) = (gfX10_marry_2 n l1 S).map (fun S => wr 9 a ρ S z) := by
  intro n
  induction n with
  | zero => intros; rfl
  | succ n ih => intro l1 S; exact ebX10_marry_2 hz (fun l1 S => ih l1 S) l1 S
def gX10_marry (S : SV) : Option SV :=
  gfX10_marry_2 FU (0 : Int32) S
set_option maxRecDepth 100000 in
theorem eX10_marry {a : Nat} {ρ : RV} {z : AH} (hz : a + szV 9 ≤ z.length) (S : SV) : fX10_marry a (wr 9 a ρ S z) = (gX10_marry S).map (fun S => wr 9 a ρ S z) := by
  unfold fX10_marry gX10_marry
  refine eo (isO_rd (rd_wr hz)) ?_
  exact efX10_marry_2 hz FU (0 : Int32) S
def gbX10_married_25 (l2 : Int32) (l3 : Int32) (s0 : Int32) (s1 : Int32) (s3 : Int32) (S : SV) : Option (Int32 × SV) :=
  (gX10_of s3 S).bind fun x25 =>
  if (fX10_in s0 s1 (x25 - (1 : Int32))) = (0 : Int32) then (
    some ((-2 : Int32), S)
  ) else (
    (gX10_marry S).bind fun S40 =>
    if l3 = (0 : Int32) then (
      (rA 4 (S40.2.1 44) l2).bind fun x61 =>
      some (x61, S40)
    ) else (
      (rA 4 (S40.2.1 45) l2).bind fun x52 =>
      some (x52, S40)
    )
  )
set_option maxRecDepth 100000 in
theorem ebX10_married_25 {a : Nat} {ρ : RV} {z : AH} (hz : a + szV 9 ≤ z.length) (l2 : Int32) (l3 : Int32) (s0 : Int32) (s1 : Int32) (s3 : Int32) (S : SV) : bX10_married_25 a l2 l3 s0 s1 a s3 (wr 9 a ρ S z) = (gbX10_married_25 l2 l3 s0 s1 s3 S).map (fun q => (q.1, wr 9 a ρ q.2 z)) := by
  unfold bX10_married_25 gbX10_married_25
  refine eb (eX10_of (rd_wr hz) s3) (fun x25 => ?_)
  refine ei (fun _ => ?_) (fun _ => ?_)
  · skip
    rfl
  · skip
    refine em (f := (fun S => wr 9 a ρ S z)) (eX10_marry hz S) (fun S40 => ?_)
    refine ei (fun _ => ?_) (fun _ => ?_)
    · skip
      refine sb (gN_rd (rd_wr hz) rfl (Or.inl rfl)) ?_
      refine eb (ixI_rd (rd_wr hz) (k := 44) rfl rfl (by decide) 0 rfl (by decide) _) (fun x61 => ?_)
      rfl
    · skip
      refine sb (gN_rd (rd_wr hz) rfl (Or.inl rfl)) ?_
      refine eb (ixI_rd (rd_wr hz) (k := 45) rfl rfl (by decide) 0 rfl (by decide) _) (fun x52 => ?_)
      rfl
def gX10_married (l1 : Int32) (l2 : Int32) (l3 : Int32) (S : SV) : Option (Int32 × SV) :=
  nm (wI S 0 (0 : Int32)) fun S2 =>
  b2 (gX10_hand l1 S2) fun x7 S7 =>
  if x7 = (0 : Int32) then (
    some ((-2 : Int32), S7)
  ) else (
    if l3 = (0 : Int32) then (
      gbX10_married_25 l2 l3 l2 (0 : Int32) (2 : Int32) S7
    ) else (
      gbX10_married_25 l2 l3 l2 (0 : Int32) (3 : Int32) S7
    )
  )
set_option maxRecDepth 100000 in
theorem eX10_married {a : Nat} {ρ : RV} {z : AH} (hz : a + szV 9 ≤ z.length) (l1 : Int32) (l2 : Int32) (l3 : Int32) (S : SV) : fX10_married a l1 l2 l3 (wr 9 a ρ S z) = (gX10_married l1 l2 l3 S).map (fun q => (q.1, wr 9 a ρ q.2 z)) := by
  unfold fX10_married gX10_married
  refine eo (isO_rd (rd_wr hz)) ?_
  refine ep (f := (fun S => wr 9 a ρ S z)) (pF_int hz rfl _) (fun S2 => ?_)
  refine e2m (f := (fun S => wr 9 a ρ S z)) (eX10_hand hz l1 S2) (fun x7 S7 => ?_)
  refine ei (fun _ => ?_) (fun _ => ?_)
  · skip
    rfl
  · skip
    refine ei (fun _ => ?_) (fun _ => ?_)
    · skip
      exact ebX10_married_25 hz l2 l3 l2 (0 : Int32) (2 : Int32) S7
    · skip
      exact ebX10_married_25 hz l2 l3 l2 (0 : Int32) (3 : Int32) S7
def gbX10_unhappy_203 (k104 : Int32 → Int32 → SV → Option (Int32 × SV)) (k116 : Int32 → Int32 → Int32 → SV → Option (Int32 × SV)) (l2 : Int32) (l3 : Int32) (l4 : Int32) (l5 : Int32) (s0 : Int32) (S : SV) : Option (Int32 × SV) :=
  (rA 4 (S.2.1 44) l3).bind fun x211 =>
  if x211 = l4 then (
    nm (l2 + (0 : Int32)) fun v233 =>
    nm (l4 + (1 : Int32)) fun v234 =>
    k116 v233 l3 v234 S
  ) else (
    if l5 = (0 : Int32) then (
      nm (l2 + (0 : Int32)) fun v233 =>
      nm (l4 + (1 : Int32)) fun v234 =>
      k116 v233 l3 v234 S
    ) else (
      if s0 = (0 : Int32) then (
        nm (l2 + (0 : Int32)) fun v233 =>
        nm (l4 + (1 : Int32)) fun v234 =>
        k116 v233 l3 v234 S
      ) else (
        nm (l2 + (1 : Int32)) fun v233 =>
        nm (l4 + (1 : Int32)) fun v234 =>
        k116 v233 l3 v234 S
      )
    )
  )
set_option maxRecDepth 100000 in
theorem ebX10_unhappy_203 {a : Nat} {ρ : RV} {z : AH} (hz : a + szV 9 ≤ z.length) {k104 : Nat → Int32 → Int32 → AH → Option (Int32 × AH)} {k104' : Int32 → Int32 → SV → Option (Int32 × SV)} {k116 : Nat → Int32 → Int32 → Int32 → AH → Option (Int32 × AH)} {k116' : Int32 → Int32 → Int32 → SV → Option (Int32 × SV)} (hk104 : ∀ (l2 : Int32) (l3 : Int32) (S : SV), k104 a l2 l3 (wr 9 a ρ S z) = (k104' l2 l3 S).map (fun q => (q.1, wr 9 a ρ q.2 z))) (hk116 : ∀ (l2 : Int32) (l3 : Int32) (l4 : Int32) (S : SV), k116 a l2 l3 l4 (wr 9 a ρ S z) = (k116' l2 l3 l4 S).map (fun q => (q.1, wr 9 a ρ q.2 z))) (l2 : Int32) (l3 : Int32) (l4 : Int32) (l5 : Int32) (s0 : Int32) (S : SV) : bX10_unhappy_203 k104 k116 a l2 l3 l4 l5 s0 (wr 9 a ρ S z) = (gbX10_unhappy_203 k104' k116' l2 l3 l4 l5 s0 S).map (fun q => (q.1, wr 9 a ρ q.2 z)) := by
  unfold bX10_unhappy_203 gbX10_unhappy_203
  refine sb (gN_rd (rd_wr hz) rfl (Or.inl rfl)) ?_
  refine eb (ixI_rd (rd_wr hz) (k := 44) rfl rfl (by decide) 0 rfl (by decide) _) (fun x211 => ?_)
  refine ei (fun _ => ?_) (fun _ => ?_)
  · skip
    refine en (fun v233 => ?_)
    refine en (fun v234 => ?_)
    exact hk116 v233 l3 v234 S
  · skip
    refine ei (fun _ => ?_) (fun _ => ?_)
    · skip
      refine en (fun v233 => ?_)
      refine en (fun v234 => ?_)
      exact hk116 v233 l3 v234 S
    · skip
      refine ei (fun _ => ?_) (fun _ => ?_)
      · skip
        refine en (fun v233 => ?_)
        refine en (fun v234 => ?_)
        exact hk116 v233 l3 v234 S
      · skip
        refine en (fun v233 => ?_)
        refine en (fun v234 => ?_)
        exact hk116 v233 l3 v234 S
def gbX10_unhappy_198 (k104 : Int32 → Int32 → SV → Option (Int32 × SV)) (k116 : Int32 → Int32 → Int32 → SV → Option (Int32 × SV)) (l2 : Int32) (l3 : Int32) (l4 : Int32) (l5 : Int32) (S : SV) : Option (Int32 × SV) :=
  gbX10_unhappy_203 k104 k116 l2 l3 l4 l5 (1 : Int32) S
set_option maxRecDepth 100000 in
theorem ebX10_unhappy_198 {a : Nat} {ρ : RV} {z : AH} (hz : a + szV 9 ≤ z.length) {k104 : Nat → Int32 → Int32 → AH → Option (Int32 × AH)} {k104' : Int32 → Int32 → SV → Option (Int32 × SV)} {k116 : Nat → Int32 → Int32 → Int32 → AH → Option (Int32 × AH)} {k116' : Int32 → Int32 → Int32 → SV → Option (Int32 × SV)} (hk104 : ∀ (l2 : Int32) (l3 : Int32) (S : SV), k104 a l2 l3 (wr 9 a ρ S z) = (k104' l2 l3 S).map (fun q => (q.1, wr 9 a ρ q.2 z))) (hk116 : ∀ (l2 : Int32) (l3 : Int32) (l4 : Int32) (S : SV), k116 a l2 l3 l4 (wr 9 a ρ S z) = (k116' l2 l3 l4 S).map (fun q => (q.1, wr 9 a ρ q.2 z))) (l2 : Int32) (l3 : Int32) (l4 : Int32) (l5 : Int32) (S : SV) : bX10_unhappy_198 k104 k116 a l2 l3 l4 l5 (wr 9 a ρ S z) = (gbX10_unhappy_198 k104' k116' l2 l3 l4 l5 S).map (fun q => (q.1, wr 9 a ρ q.2 z)) := by
  unfold bX10_unhappy_198 gbX10_unhappy_198
  exact ebX10_unhappy_203 hz hk104 hk116 l2 l3 l4 l5 (1 : Int32) S
def gbX10_unhappy_162 (k104 : Int32 → Int32 → SV → Option (Int32 × SV)) (k116 : Int32 → Int32 → Int32 → SV → Option (Int32 × SV)) (l2 : Int32) (l3 : Int32) (l4 : Int32) (s0 : Int32) (S : SV) : Option (Int32 × SV) :=
  (rA 4 (S.2.1 45) l4).bind fun x170 =>
  if x170 = (-1 : Int32) then (
    gbX10_unhappy_198 k104 k116 l2 l3 l4 s0 S
  ) else (
    (gX10_liked l4 l3 S).bind fun x179 =>
    (rA 4 (S.2.1 45) l4).bind fun x191 =>
    (gX10_liked l4 x191 S).bind fun x192 =>
    if x179 ≤ x192 then (
      gbX10_unhappy_203 k104 k116 l2 l3 l4 s0 (0 : Int32) S
    ) else (
      gbX10_unhappy_198 k104 k116 l2 l3 l4 s0 S
    )
  )
set_option maxRecDepth 100000 in
theorem ebX10_unhappy_162 {a : Nat} {ρ : RV} {z : AH} (hz : a + szV 9 ≤ z.length) {k104 : Nat → Int32 → Int32 → AH → Option (Int32 × AH)} {k104' : Int32 → Int32 → SV → Option (Int32 × SV)} {k116 : Nat → Int32 → Int32 → Int32 → AH → Option (Int32 × AH)} {k116' : Int32 → Int32 → Int32 → SV → Option (Int32 × SV)} (hk104 : ∀ (l2 : Int32) (l3 : Int32) (S : SV), k104 a l2 l3 (wr 9 a ρ S z) = (k104' l2 l3 S).map (fun q => (q.1, wr 9 a ρ q.2 z))) (hk116 : ∀ (l2 : Int32) (l3 : Int32) (l4 : Int32) (S : SV), k116 a l2 l3 l4 (wr 9 a ρ S z) = (k116' l2 l3 l4 S).map (fun q => (q.1, wr 9 a ρ q.2 z))) (l2 : Int32) (l3 : Int32) (l4 : Int32) (s0 : Int32) (S : SV) : bX10_unhappy_162 k104 k116 a l2 l3 l4 s0 (wr 9 a ρ S z) = (gbX10_unhappy_162 k104' k116' l2 l3 l4 s0 S).map (fun q => (q.1, wr 9 a ρ q.2 z)) := by
  unfold bX10_unhappy_162 gbX10_unhappy_162
  refine sb (gN_rd (rd_wr hz) rfl (Or.inl rfl)) ?_
  refine eb (ixI_rd (rd_wr hz) (k := 45) rfl rfl (by decide) 0 rfl (by decide) _) (fun x170 => ?_)
  refine ei (fun _ => ?_) (fun _ => ?_)
  · skip
    exact ebX10_unhappy_198 hz hk104 hk116 l2 l3 l4 s0 S
  · skip
    refine eb (eX10_liked (rd_wr hz) l4 l3) (fun x179 => ?_)
    refine sb (gN_rd (rd_wr hz) rfl (Or.inl rfl)) ?_
    refine eb (ixI_rd (rd_wr hz) (k := 45) rfl rfl (by decide) 0 rfl (by decide) _) (fun x191 => ?_)
    refine eb (eX10_liked (rd_wr hz) l4 x191) (fun x192 => ?_)
    refine ei (fun _ => ?_) (fun _ => ?_)
    · skip
      exact ebX10_unhappy_203 hz hk104 hk116 l2 l3 l4 s0 (0 : Int32) S
    · skip
      exact ebX10_unhappy_198 hz hk104 hk116 l2 l3 l4 s0 S
def gbX10_unhappy_157 (k104 : Int32 → Int32 → SV → Option (Int32 × SV)) (k116 : Int32 → Int32 → Int32 → SV → Option (Int32 × SV)) (l2 : Int32) (l3 : Int32) (l4 : Int32) (S : SV) : Option (Int32 × SV) :=
  gbX10_unhappy_162 k104 k116 l2 l3 l4 (1 : Int32) S
set_option maxRecDepth 100000 in
theorem ebX10_unhappy_157 {a : Nat} {ρ : RV} {z : AH} (hz : a + szV 9 ≤ z.length) {k104 : Nat → Int32 → Int32 → AH → Option (Int32 × AH)} {k104' : Int32 → Int32 → SV → Option (Int32 × SV)} {k116 : Nat → Int32 → Int32 → Int32 → AH → Option (Int32 × AH)} {k116' : Int32 → Int32 → Int32 → SV → Option (Int32 × SV)} (hk104 : ∀ (l2 : Int32) (l3 : Int32) (S : SV), k104 a l2 l3 (wr 9 a ρ S z) = (k104' l2 l3 S).map (fun q => (q.1, wr 9 a ρ q.2 z))) (hk116 : ∀ (l2 : Int32) (l3 : Int32) (l4 : Int32) (S : SV), k116 a l2 l3 l4 (wr 9 a ρ S z) = (k116' l2 l3 l4 S).map (fun q => (q.1, wr 9 a ρ q.2 z))) (l2 : Int32) (l3 : Int32) (l4 : Int32) (S : SV) : bX10_unhappy_157 k104 k116 a l2 l3 l4 (wr 9 a ρ S z) = (gbX10_unhappy_157 k104' k116' l2 l3 l4 S).map (fun q => (q.1, wr 9 a ρ q.2 z)) := by
  unfold bX10_unhappy_157 gbX10_unhappy_157
  exact ebX10_unhappy_162 hz hk104 hk116 l2 l3 l4 (1 : Int32) S
def gbX10_unhappy_116 (k104 : Int32 → Int32 → SV → Option (Int32 × SV)) (k116 : Int32 → Int32 → Int32 → SV → Option (Int32 × SV)) (l2 : Int32) (l3 : Int32) (l4 : Int32) (S : SV) : Option (Int32 × SV) :=
  (gX10_of (3 : Int32) S).bind fun x120 =>
  if x120 ≤ l4 then (
    nm (l3 + (1 : Int32)) fun v240 =>
    k104 l2 v240 S
  ) else (
    (rA 4 (S.2.1 44) l3).bind fun x131 =>
    if x131 = (-1 : Int32) then (
      gbX10_unhappy_157 k104 k116 l2 l3 l4 S
    ) else (
      (gX10_likes l3 l4 S).bind fun x140 =>
      (rA 4 (S.2.1 44) l3).bind fun x150 =>
      (gX10_likes l3 x150 S).bind fun x151 =>
      if x140 ≤ x151 then (
        gbX10_unhappy_162 k104 k116 l2 l3 l4 (0 : Int32) S
      ) else (
        gbX10_unhappy_157 k104 k116 l2 l3 l4 S
      )
    )
  )
set_option maxRecDepth 100000 in
theorem ebX10_unhappy_116 {a : Nat} {ρ : RV} {z : AH} (hz : a + szV 9 ≤ z.length) {k104 : Nat → Int32 → Int32 → AH → Option (Int32 × AH)} {k104' : Int32 → Int32 → SV → Option (Int32 × SV)} {k116 : Nat → Int32 → Int32 → Int32 → AH → Option (Int32 × AH)} {k116' : Int32 → Int32 → Int32 → SV → Option (Int32 × SV)} (hk104 : ∀ (l2 : Int32) (l3 : Int32) (S : SV), k104 a l2 l3 (wr 9 a ρ S z) = (k104' l2 l3 S).map (fun q => (q.1, wr 9 a ρ q.2 z))) (hk116 : ∀ (l2 : Int32) (l3 : Int32) (l4 : Int32) (S : SV), k116 a l2 l3 l4 (wr 9 a ρ S z) = (k116' l2 l3 l4 S).map (fun q => (q.1, wr 9 a ρ q.2 z))) (l2 : Int32) (l3 : Int32) (l4 : Int32) (S : SV) : bX10_unhappy_116 k104 k116 a l2 l3 l4 (wr 9 a ρ S z) = (gbX10_unhappy_116 k104' k116' l2 l3 l4 S).map (fun q => (q.1, wr 9 a ρ q.2 z)) := by
  unfold bX10_unhappy_116 gbX10_unhappy_116
  refine eb (eX10_of (rd_wr hz) (3 : Int32)) (fun x120 => ?_)
  refine ei (fun _ => ?_) (fun _ => ?_)
  · skip
    refine en (fun v240 => ?_)
    exact hk104 l2 v240 S
  · skip
    refine sb (gN_rd (rd_wr hz) rfl (Or.inl rfl)) ?_
    refine eb (ixI_rd (rd_wr hz) (k := 44) rfl rfl (by decide) 0 rfl (by decide) _) (fun x131 => ?_)
    refine ei (fun _ => ?_) (fun _ => ?_)
    · skip
      exact ebX10_unhappy_157 hz hk104 hk116 l2 l3 l4 S
    · skip
      refine eb (eX10_likes (rd_wr hz) l3 l4) (fun x140 => ?_)
      refine sb (gN_rd (rd_wr hz) rfl (Or.inl rfl)) ?_
      refine eb (ixI_rd (rd_wr hz) (k := 44) rfl rfl (by decide) 0 rfl (by decide) _) (fun x150 => ?_)
      refine eb (eX10_likes (rd_wr hz) l3 x150) (fun x151 => ?_)
      refine ei (fun _ => ?_) (fun _ => ?_)
      · skip
        exact ebX10_unhappy_162 hz hk104 hk116 l2 l3 l4 (0 : Int32) S
      · skip
        exact ebX10_unhappy_157 hz hk104 hk116 l2 l3 l4 S
def gfX10_unhappy_116 (k104 : Int32 → Int32 → SV → Option (Int32 × SV)) : Nat → Int32 → Int32 → Int32 → SV → Option (Int32 × SV)
  | 0, _, _, _, _ => none
  | n + 1, l2, l3, l4, S => gbX10_unhappy_116 k104 (gfX10_unhappy_116 k104 n) l2 l3 l4 S
theorem efX10_unhappy_116 {a : Nat} {ρ : RV} {z : AH} (hz : a + szV 9 ≤ z.length) {k104 : Nat → Int32 → Int32 → AH → Option (Int32 × AH)} {k104' : Int32 → Int32 → SV → Option (Int32 × SV)} (hk104 : ∀ (l2 : Int32) (l3 : Int32) (S : SV), k104 a l2 l3 (wr 9 a ρ S z) = (k104' l2 l3 S).map (fun q => (q.1, wr 9 a ρ q.2 z))) : ∀ (n : Nat) (l2 : Int32) (l3 : Int32) (l4 : Int32) (S : SV), fX10_unhappy_116 k104 n a l2 l3 l4 (wr 9 a ρ S z) = (gfX10_unhappy_116 k104' n l2 l3 l4 S).map (fun q => (q.1, wr 9 a ρ q.2 z)) := by
  intro n
  induction n with
  | zero => intros; rfl
  | succ n ih => intro l2 l3 l4 S; exact ebX10_unhappy_116 hz hk104 (fun l2 l3 l4 S => ih l2 l3 l4 S) l2 l3 l4 S
def gbX10_unhappy_104 (k104 : Int32 → Int32 → SV → Option (Int32 × SV)) (l2 : Int32) (l3 : Int32) (S : SV) : Option (Int32 × SV) :=
  (gX10_of (2 : Int32) S).bind fun x107 =>
  if x107 ≤ l3 then (
    some (l2, S)
  ) else (
    gfX10_unhappy_116 k104 FU l2 l3 (0 : Int32) S
  )
set_option maxRecDepth 100000 in
theorem ebX10_unhappy_104 {a : Nat} {ρ : RV} {z : AH} (hz : a + szV 9 ≤ z.length) {k104 : Nat → Int32 → Int32 → AH → Option (Int32 × AH)} {k104' : Int32 → Int32 → SV → Option (Int32 × SV)} (hk104 : ∀ (l2 : Int32) (l3 : Int32) (S : SV), k104 a l2 l3 (wr 9 a ρ S z) = (k104' l2 l3 S).map (fun q => (q.1, wr 9 a ρ q.2 z))) (l2 : Int32) (l3 : Int32) (S : SV) : bX10_unhappy_104 k104 a l2 l3 (wr 9 a ρ S z) = (gbX10_unhappy_104 k104' l2 l3 S).map (fun q => (q.1, wr 9 a ρ q.2 z)) := by
  unfold bX10_unhappy_104 gbX10_unhappy_104
  refine eb (eX10_of (rd_wr hz) (2 : Int32)) (fun x107 => ?_)
  refine ei (fun _ => ?_) (fun _ => ?_)
  · skip
    rfl
  · skip
    exact efX10_unhappy_116 hz hk104 FU l2 l3 (0 : Int32) S
def gfX10_unhappy_104 : Nat → Int32 → Int32 → SV → Option (Int32 × SV)
  | 0, _, _, _ => none
  | n + 1, l2, l3, S => gbX10_unhappy_104 (gfX10_unhappy_104 n) l2 l3 S
theorem efX10_unhappy_104 {a : Nat} {ρ : RV} {z : AH} (hz : a + szV 9 ≤ z.length) : ∀ (n : Nat) (l2 : Int32) (l3 : Int32) (S : SV), fX10_unhappy_104 n a l2 l3 (wr 9 a ρ S z) = (gfX10_unhappy_104 n l2 l3 S).map (fun q => (q.1, wr 9 a ρ q.2 z)) := by
  intro n
  induction n with
  | zero => intros; rfl
  | succ n ih => intro l2 l3 S; exact ebX10_unhappy_104 hz (fun l2 l3 S => ih l2 l3 S) l2 l3 S
def gbX10_unhappy_44 (k44 : Int32 → SV → Option (Int32 × SV)) (l2 : Int32) (S : SV) : Option (Int32 × SV) :=
  if (S.1 27) ≤ l2 then (
    gfX10_unhappy_104 FU (0 : Int32) (0 : Int32) S
  ) else (
    (gX10_of ((46 : Int32) + l2) S).bind fun x61 =>
    (gX10_of ((50 : Int32) + l2) S).bind fun x69 =>
    (wA 44 4 S x61 x69).bind fun S72 =>
    (gX10_of ((50 : Int32) + l2) S72).bind fun x82 =>
    (gX10_of ((46 : Int32) + l2) S72).bind fun x90 =>
    (wA 45 4 S72 x82 x90).bind fun S93 =>
    nm (l2 + (1 : Int32)) fun v94 =>
    k44 v94 S93
  )
set_option maxRecDepth 100000 in
theorem ebX10_unhappy_44 {a : Nat} {ρ : RV} {z : AH} (hz : a + szV 9 ≤ z.length) {k44 : Nat → Int32 → AH → Option (Int32 × AH)} {k44' : Int32 → SV → Option (Int32 × SV)} (hk44 : ∀ (l2 : Int32) (S : SV), k44 a l2 (wr 9 a ρ S z) = (k44' l2 S).map (fun q => (q.1, wr 9 a ρ q.2 z))) (l2 : Int32) (S : SV) : bX10_unhappy_44 k44 a l2 (wr 9 a ρ S z) = (gbX10_unhappy_44 k44' l2 S).map (fun q => (q.1, wr 9 a ρ q.2 z)) := by
  unfold bX10_unhappy_44 gbX10_unhappy_44
  refine sb (gI_rd (rd_wr hz) rfl) ?_
  refine ei (fun _ => ?_) (fun _ => ?_)
  · skip
    exact efX10_unhappy_104 hz FU (0 : Int32) (0 : Int32) S
  · skip
    refine sb (gN_rd (rd_wr hz) rfl (Or.inl rfl)) ?_
    refine eb (eX10_of (rd_wr hz) ((46 : Int32) + l2)) (fun x61 => ?_)
    refine eb (eX10_of (rd_wr hz) ((50 : Int32) + l2)) (fun x69 => ?_)
    refine em (f := (fun S => wr 9 a ρ S z)) (stI_rd rkOk9 hz (k := 44) rfl rfl (by decide) 0 rfl (by decide) _ _) (fun S72 => ?_)
    refine sb (gN_rd (rd_wr hz) rfl (Or.inl rfl)) ?_
    refine eb (eX10_of (rd_wr hz) ((50 : Int32) + l2)) (fun x82 => ?_)
    refine eb (eX10_of (rd_wr hz) ((46 : Int32) + l2)) (fun x90 => ?_)
    refine em (f := (fun S => wr 9 a ρ S z)) (stI_rd rkOk9 hz (k := 45) rfl rfl (by decide) 0 rfl (by decide) _ _) (fun S93 => ?_)
    refine en (fun v94 => ?_)
    exact hk44 v94 S93
def gfX10_unhappy_44 : Nat → Int32 → SV → Option (Int32 × SV)
  | 0, _, _ => none
  | n + 1, l2, S => gbX10_unhappy_44 (gfX10_unhappy_44 n) l2 S
theorem efX10_unhappy_44 {a : Nat} {ρ : RV} {z : AH} (hz : a + szV 9 ≤ z.length) : ∀ (n : Nat) (l2 : Int32) (S : SV), fX10_unhappy_44 n a l2 (wr 9 a ρ S z) = (gfX10_unhappy_44 n l2 S).map (fun q => (q.1, wr 9 a ρ q.2 z)) := by
  intro n
  induction n with
  | zero => intros; rfl
  | succ n ih => intro l2 S; exact ebX10_unhappy_44 hz (fun l2 S => ih l2 S) l2 S
def gbX10_unhappy_17 (k17 : Int32 → SV → Option (Int32 × SV)) (l2 : Int32) (S : SV) : Option (Int32 × SV) :=
  if (4 : Int32) ≤ l2 then (
    gfX10_unhappy_44 FU (0 : Int32) S
  ) else (
    (wA 44 4 S l2 (-1 : Int32)).bind fun S28 =>
    (wA 45 4 S28 l2 (-1 : Int32)).bind fun S35 =>
    nm (l2 + (1 : Int32)) fun v36 =>
    k17 v36 S35
  )
set_option maxRecDepth 100000 in
theorem ebX10_unhappy_17 {a : Nat} {ρ : RV} {z : AH} (hz : a + szV 9 ≤ z.length) {k17 : Nat → Int32 → AH → Option (Int32 × AH)} {k17' : Int32 → SV → Option (Int32 × SV)} (hk17 : ∀ (l2 : Int32) (S : SV), k17 a l2 (wr 9 a ρ S z) = (k17' l2 S).map (fun q => (q.1, wr 9 a ρ q.2 z))) (l2 : Int32) (S : SV) : bX10_unhappy_17 k17 a l2 (wr 9 a ρ S z) = (gbX10_unhappy_17 k17' l2 S).map (fun q => (q.1, wr 9 a ρ q.2 z)) := by
  unfold bX10_unhappy_17 gbX10_unhappy_17
  refine ei (fun _ => ?_) (fun _ => ?_)
  · skip
    exact efX10_unhappy_44 hz FU (0 : Int32) S
  · skip
    refine sb (gN_rd (rd_wr hz) rfl (Or.inl rfl)) ?_
    refine em (f := (fun S => wr 9 a ρ S z)) (stI_rd rkOk9 hz (k := 44) rfl rfl (by decide) 0 rfl (by decide) _ _) (fun S28 => ?_)
    refine sb (gN_rd (rd_wr hz) rfl (Or.inl rfl)) ?_
    refine em (f := (fun S => wr 9 a ρ S z)) (stI_rd rkOk9 hz (k := 45) rfl rfl (by decide) 0 rfl (by decide) _ _) (fun S35 => ?_)
    refine en (fun v36 => ?_)
    exact hk17 v36 S35
def gfX10_unhappy_17 : Nat → Int32 → SV → Option (Int32 × SV)
  | 0, _, _ => none
  | n + 1, l2, S => gbX10_unhappy_17 (gfX10_unhappy_17 n) l2 S
theorem efX10_unhappy_17 {a : Nat} {ρ : RV} {z : AH} (hz : a + szV 9 ≤ z.length) : ∀ (n : Nat) (l2 : Int32) (S : SV), fX10_unhappy_17 n a l2 (wr 9 a ρ S z) = (gfX10_unhappy_17 n l2 S).map (fun q => (q.1, wr 9 a ρ q.2 z)) := by
  intro n
  induction n with
  | zero => intros; rfl
  | succ n ih => intro l2 S; exact ebX10_unhappy_17 hz (fun l2 S => ih l2 S) l2 S
def gX10_unhappy (l1 : Int32) (S : SV) : Option (Int32 × SV) :=
  nm (wI S 0 (0 : Int32)) fun S2 =>
  b2 (gX10_hand l1 S2) fun x7 S7 =>
  if x7 = (0 : Int32) then (
    some ((-1 : Int32), S7)
  ) else (
    gfX10_unhappy_17 FU (0 : Int32) S7
  )
set_option maxRecDepth 100000 in
theorem eX10_unhappy {a : Nat} {ρ : RV} {z : AH} (hz : a + szV 9 ≤ z.length) (l1 : Int32) (S : SV) : fX10_unhappy a l1 (wr 9 a ρ S z) = (gX10_unhappy l1 S).map (fun q => (q.1, wr 9 a ρ q.2 z)) := by
  unfold fX10_unhappy gX10_unhappy
  refine eo (isO_rd (rd_wr hz)) ?_
  refine ep (f := (fun S => wr 9 a ρ S z)) (pF_int hz rfl _) (fun S2 => ?_)
  refine e2m (f := (fun S => wr 9 a ρ S z)) (eX10_hand hz l1 S2) (fun x7 S7 => ?_)
  refine ei (fun _ => ?_) (fun _ => ?_)
  · skip
    rfl
  · skip
    exact efX10_unhappy_17 hz FU (0 : Int32) S7
def gbX10_agree_124 (l1 : Int32) (l2 : Int32) (l3 : Int32) (l4 : Int32) (l5 : Int32) (l9 : Int32) (s0 : Int32) (S : SV) : Option (Int32 × SV) :=
  if s0 ≤ l4 then (
    if l5 = (0 : Int32) then (
      some (l9, S)
    ) else (
      if l9 = (0 : Int32) then (
        some (((l1 + l2) / (2 : Int32)), S)
      ) else (
        if l9 = (1 : Int32) then (
          some (((l1 + l3) / (2 : Int32)), S)
        ) else (
          some (((l2 + l3) / (2 : Int32)), S)
        )
      )
    )
  ) else (
    some ((-1 : Int32), S)
  )
set_option maxRecDepth 100000 in
theorem ebX10_agree_124 {a : Nat} {ρ : RV} {z : AH} (hz : a + szV 9 ≤ z.length) (l1 : Int32) (l2 : Int32) (l3 : Int32) (l4 : Int32) (l5 : Int32) (l9 : Int32) (s0 : Int32) (S : SV) : bX10_agree_124 l1 l2 l3 l4 l5 l9 s0 (wr 9 a ρ S z) = (gbX10_agree_124 l1 l2 l3 l4 l5 l9 s0 S).map (fun q => (q.1, wr 9 a ρ q.2 z)) := by
  unfold bX10_agree_124 gbX10_agree_124
  refine ei (fun _ => ?_) (fun _ => ?_)
  · skip
    refine ei (fun _ => ?_) (fun _ => ?_)
    · skip
      rfl
    · skip
      refine ei (fun _ => ?_) (fun _ => ?_)
      · skip
        rfl
      · skip
        refine ei (fun _ => ?_) (fun _ => ?_)
        · skip
          rfl
        · skip
          rfl
  · skip
    rfl
def gbX10_agree_99 (l1 : Int32) (l2 : Int32) (l3 : Int32) (l4 : Int32) (l5 : Int32) (l6 : Int32) (l7 : Int32) (l8 : Int32) (s0 : Int32) (S : SV) : Option (Int32 × SV) :=
  if s0 = (0 : Int32) then (
    gbX10_agree_124 l1 l2 l3 l4 l5 s0 l6 S
  ) else (
    if s0 = (1 : Int32) then (
      gbX10_agree_124 l1 l2 l3 l4 l5 s0 l7 S
    ) else (
      gbX10_agree_124 l1 l2 l3 l4 l5 s0 l8 S
    )
  )
set_option maxRecDepth 100000 in
theorem ebX10_agree_99 {a : Nat} {ρ : RV} {z : AH} (hz : a + szV 9 ≤ z.length) (l1 : Int32) (l2 : Int32) (l3 : Int32) (l4 : Int32) (l5 : Int32) (l6 : Int32) (l7 : Int32) (l8 : Int32) (s0 : Int32) (S : SV) : bX10_agree_99 l1 l2 l3 l4 l5 l6 l7 l8 s0 (wr 9 a ρ S z) = (gbX10_agree_99 l1 l2 l3 l4 l5 l6 l7 l8 s0 S).map (fun q => (q.1, wr 9 a ρ q.2 z)) := by
  unfold bX10_agree_99 gbX10_agree_99
  refine ei (fun _ => ?_) (fun _ => ?_)
  · skip
    exact ebX10_agree_124 hz l1 l2 l3 l4 l5 s0 l6 S
  · skip
    refine ei (fun _ => ?_) (fun _ => ?_)
    · skip
      exact ebX10_agree_124 hz l1 l2 l3 l4 l5 s0 l7 S
    · skip
      exact ebX10_agree_124 hz l1 l2 l3 l4 l5 s0 l8 S
def gbX10_agree_87 (l1 : Int32) (l2 : Int32) (l3 : Int32) (l4 : Int32) (l5 : Int32) (l6 : Int32) (l7 : Int32) (l8 : Int32) (S : SV) : Option (Int32 × SV) :=
  if l8 < l7 then (
    gbX10_agree_99 l1 l2 l3 l4 l5 l6 l7 l8 (2 : Int32) S
  ) else (
    gbX10_agree_99 l1 l2 l3 l4 l5 l6 l7 l8 (1 : Int32) S
  )
set_option maxRecDepth 100000 in
theorem ebX10_agree_87 {a : Nat} {ρ : RV} {z : AH} (hz : a + szV 9 ≤ z.length) (l1 : Int32) (l2 : Int32) (l3 : Int32) (l4 : Int32) (l5 : Int32) (l6 : Int32) (l7 : Int32) (l8 : Int32) (S : SV) : bX10_agree_87 l1 l2 l3 l4 l5 l6 l7 l8 (wr 9 a ρ S z) = (gbX10_agree_87 l1 l2 l3 l4 l5 l6 l7 l8 S).map (fun q => (q.1, wr 9 a ρ q.2 z)) := by
  unfold bX10_agree_87 gbX10_agree_87
  refine ei (fun _ => ?_) (fun _ => ?_)
  · skip
    exact ebX10_agree_99 hz l1 l2 l3 l4 l5 l6 l7 l8 (2 : Int32) S
  · skip
    exact ebX10_agree_99 hz l1 l2 l3 l4 l5 l6 l7 l8 (1 : Int32) S
def gX10_agree (l1 : Int32) (l2 : Int32) (l3 : Int32) (l4 : Int32) (l5 : Int32) (S : SV) : Option (Int32 × SV) :=
  nm (wI S 0 (0 : Int32)) fun S2 =>
  if (fX10_in l1 (0 : Int32) (99 : Int32)) = (0 : Int32) then (
    some ((-1 : Int32), S2)
  ) else (
    if (fX10_in l2 (0 : Int32) (99 : Int32)) = (0 : Int32) then (
      some ((-1 : Int32), S2)
    ) else (
      if (fX10_in l3 (0 : Int32) (99 : Int32)) = (0 : Int32) then (
        some ((-1 : Int32), S2)
      ) else (
        if (fX10_in l4 (0 : Int32) (9 : Int32)) = (0 : Int32) then (
          some ((-1 : Int32), S2)
        ) else (
          nm (fX10_apart l1 l2) fun v53 =>
          nm (fX10_apart l1 l3) fun v60 =>
          nm (fX10_apart l2 l3) fun v67 =>
          if v60 < v53 then (
            gbX10_agree_87 l1 l2 l3 l4 l5 v53 v60 v67 S2
          ) else (
            if v67 < v53 then (
              gbX10_agree_87 l1 l2 l3 l4 l5 v53 v60 v67 S2
            ) else (
              gbX10_agree_99 l1 l2 l3 l4 l5 v53 v60 v67 (0 : Int32) S2
            )
          )
        )
      )
    )
  )
set_option maxRecDepth 100000 in
theorem eX10_agree {a : Nat} {ρ : RV} {z : AH} (hz : a + szV 9 ≤ z.length) (l1 : Int32) (l2 : Int32) (l3 : Int32) (l4 : Int32) (l5 : Int32) (S : SV) : fX10_agree a l1 l2 l3 l4 l5 (wr 9 a ρ S z) = (gX10_agree l1 l2 l3 l4 l5 S).map (fun q => (q.1, wr 9 a ρ q.2 z)) := by
  unfold fX10_agree gX10_agree
  refine eo (isO_rd (rd_wr hz)) ?_
  refine ep (f := (fun S => wr 9 a ρ S z)) (pF_int hz rfl _) (fun S2 => ?_)
  refine ei (fun _ => ?_) (fun _ => ?_)
  · skip
    rfl
  · skip
    refine ei (fun _ => ?_) (fun _ => ?_)
    · skip
      rfl
    · skip
      refine ei (fun _ => ?_) (fun _ => ?_)
      · skip
        rfl
      · skip
        refine ei (fun _ => ?_) (fun _ => ?_)
        · skip
          rfl
        · skip
          refine en (fun v53 => ?_)
          refine en (fun v60 => ?_)
          refine en (fun v67 => ?_)
          refine ei (fun _ => ?_) (fun _ => ?_)
          · skip
            exact ebX10_agree_87 hz l1 l2 l3 l4 l5 v53 v60 v67 S2
          · skip
            refine ei (fun _ => ?_) (fun _ => ?_)
            · skip
              exact ebX10_agree_87 hz l1 l2 l3 l4 l5 v53 v60 v67 S2
            · skip
              exact ebX10_agree_99 hz l1 l2 l3 l4 l5 v53 v60 v67 (0 : Int32) S2
def gX10_viewOf (l1 : Int32) (l2 : Int32) (S : SV) : Option (Int32) :=
  (rA 136 (S.2.1 8) (((((17 : Int32) * (S.1 47)) + (1 : Int32)) + ((2 : Int32) * l1)) + l2)).bind fun x19 =>
  some x19
set_option maxRecDepth 100000 in
theorem eX10_viewOf {a : Nat} {ρ : RV} {S : SV} {z : AH} (hR : RD 9 a ρ S z) (l1 : Int32) (l2 : Int32) : fX10_viewOf a l1 l2 z = gX10_viewOf l1 l2 S := by
  unfold fX10_viewOf gX10_viewOf
  refine eo (isO_rd hR) ?_
  refine sb (gN_rd hR rfl (Or.inl rfl)) ?_
  refine sb (gI_rd hR rfl) ?_
  refine eb0 (ixI_rd hR (k := 8) rfl rfl (by decide) 0 rfl (by decide) _) (fun x19 => ?_)
  rfl
def gX10_views (S : SV) : Option (Int32) :=
  (rA 136 (S.2.1 8) ((17 : Int32) * (S.1 47))).bind fun x11 =>
  some x11
set_option maxRecDepth 100000 in
theorem eX10_views {a : Nat} {ρ : RV} {S : SV} {z : AH} (hR : RD 9 a ρ S z) : fX10_views a z = gX10_views S := by
  unfold fX10_views gX10_views
  refine eo (isO_rd hR) ?_
  refine sb (gN_rd hR rfl (Or.inl rfl)) ?_
  refine sb (gI_rd hR rfl) ?_
  refine eb0 (ixI_rd hR (k := 8) rfl rfl (by decide) 0 rfl (by decide) _) (fun x11 => ?_)
  rfl
def gX10_hasSight (l1 : Int32) (S : SV) : Option (Int32 × SV) :=
  nm (wI S 47 l1) fun S2 =>
  (gX10_is (2 : Int32) l1 S2).bind fun x8 =>
  if x8 = 0 ∨ x8 = 1 then some (x8, S2) else none
set_option maxRecDepth 100000 in
theorem eX10_hasSight {a : Nat} {ρ : RV} {z : AH} (hz : a + szV 9 ≤ z.length) (l1 : Int32) (S : SV) : fX10_hasSight a l1 (wr 9 a ρ S z) = (gX10_hasSight l1 S).map (fun q => (q.1, wr 9 a ρ q.2 z)) := by
  unfold fX10_hasSight gX10_hasSight
  refine eo (isO_rd (rd_wr hz)) ?_
  refine ep (f := (fun S => wr 9 a ρ S z)) (pF_int hz rfl _) (fun S2 => ?_)
  refine eb (eX10_is (rd_wr hz) (2 : Int32) l1) (fun x8 => ?_)
  refine ei (fun _ => rfl) (fun _ => rfl)
def gX10_view (l1 : Int32) (l2 : Int32) (l3 : Int32) (S : SV) : Option (Int32 × SV) :=
  nm (wI S 0 (0 : Int32)) fun S2 =>
  b2 (gX10_hasSight l1 S2) fun x7 S7 =>
  if x7 = (0 : Int32) then (
    some ((-2 : Int32), S7)
  ) else (
    if l2 = (-1 : Int32) then (
      if l3 = (0 : Int32) then (
        (gX10_views S7).bind fun x26 =>
        some (x26, S7)
      ) else (
        some ((-2 : Int32), S7)
      )
    ) else (
      (gX10_views S7).bind fun x38 =>
      if (fX10_in l2 (0 : Int32) (x38 - (1 : Int32))) = (0 : Int32) then (
        some ((-2 : Int32), S7)
      ) else (
        if (fX10_in l3 (0 : Int32) (1 : Int32)) = (0 : Int32) then (
          some ((-2 : Int32), S7)
        ) else (
          (gX10_viewOf l2 l3 S7).bind fun x61 =>
          some (x61, S7)
        )
      )
    )
  )
set_option maxRecDepth 100000 in
theorem eX10_view {a : Nat} {ρ : RV} {z : AH} (hz : a + szV 9 ≤ z.length) (l1 : Int32) (l2 : Int32) (l3 : Int32) (S : SV) : fX10_view a l1 l2 l3 (wr 9 a ρ S z) = (gX10_view l1 l2 l3 S).map (fun q => (q.1, wr 9 a ρ q.2 z)) := by
  unfold fX10_view gX10_view
  refine eo (isO_rd (rd_wr hz)) ?_
  refine ep (f := (fun S => wr 9 a ρ S z)) (pF_int hz rfl _) (fun S2 => ?_)
  refine e2m (f := (fun S => wr 9 a ρ S z)) (eX10_hasSight hz l1 S2) (fun x7 S7 => ?_)
  refine ei (fun _ => ?_) (fun _ => ?_)
  · skip
    rfl
  · skip
    refine ei (fun _ => ?_) (fun _ => ?_)
    · skip
      refine ei (fun _ => ?_) (fun _ => ?_)
      · skip
        refine eb (eX10_views (rd_wr hz)) (fun x26 => ?_)
        rfl
      · skip
        rfl
    · skip
      refine eb (eX10_views (rd_wr hz)) (fun x38 => ?_)
      refine ei (fun _ => ?_) (fun _ => ?_)
      · skip
        rfl
      · skip
        refine ei (fun _ => ?_) (fun _ => ?_)
        · skip
          rfl
        · skip
          refine eb (eX10_viewOf (rd_wr hz) l2 l3) (fun x61 => ?_)
          rfl
def gbX10_crosses_32 (l3 : Int32) (l4 : Int32) (s0 : Int32) (S : SV) : Option (Int32) :=
  if l4 < (fX10_apart s0 (irem l3 (10 : Int32))) then (
    some (0 : Int32)
  ) else (
    some (1 : Int32)
  )
set_option maxRecDepth 100000 in
theorem ebX10_crosses_32 {a : Nat} {ρ : RV} {S : SV} {z : AH} (hR : RD 9 a ρ S z) (l3 : Int32) (l4 : Int32) (s0 : Int32) : bX10_crosses_32 l3 l4 s0 z = gbX10_crosses_32 l3 l4 s0 S := by
  unfold bX10_crosses_32 gbX10_crosses_32
  refine ei0 (fun _ => ?_) (fun _ => ?_)
  · skip
    rfl
  · skip
    rfl
def gX10_crosses (l1 : Int32) (l2 : Int32) (l3 : Int32) (l4 : Int32) (S : SV) : Option (Int32) :=
  nm ((l3 / (10 : Int32)) + (1 : Int32)) fun v6 =>
  if l1 = (0 : Int32) then (
    gbX10_crosses_32 l3 l4 l2 S
  ) else (
    if l1 = (1 : Int32) then (
      gbX10_crosses_32 l3 l4 (l2 + v6) S
    ) else (
      gbX10_crosses_32 l3 l4 (l2 - v6) S
    )
  )
set_option maxRecDepth 100000 in
theorem eX10_crosses {a : Nat} {ρ : RV} {S : SV} {z : AH} (hR : RD 9 a ρ S z) (l1 : Int32) (l2 : Int32) (l3 : Int32) (l4 : Int32) : fX10_crosses a l1 l2 l3 l4 z = gX10_crosses l1 l2 l3 l4 S := by
  unfold fX10_crosses gX10_crosses
  refine eo (isO_rd hR) ?_
  refine en0 (fun v6 => ?_)
  refine ei0 (fun _ => ?_) (fun _ => ?_)
  · skip
    exact ebX10_crosses_32 hR l3 l4 l2
  · skip
    refine ei0 (fun _ => ?_) (fun _ => ?_)
    · skip
      exact ebX10_crosses_32 hR l3 l4 (l2 + v6)
    · skip
      exact ebX10_crosses_32 hR l3 l4 (l2 - v6)
def gbX10_findCells_101 (k7 : Int32 → Int32 → Int32 → SV → Option (Int32 × SV)) (l1 : Int32) (l2 : Int32) (l3 : Int32) (l4 : Int32) (s0 : Nat) (s1 : Int32) (s2 : Int32) (S : SV) : Option (Int32 × SV) :=
  (wA s0 (aLen 9 s0) S s1 s2).bind fun S101 =>
  if l4 = (0 : Int32) then (
    nm (wI S101 49 ((S101.1 49) + (0 : Int32))) fun S118 =>
    nm (l3 + (1 : Int32)) fun v121 =>
    k7 l1 l2 v121 S118
  ) else (
    nm (wI S101 49 ((S101.1 49) + (1 : Int32))) fun S118 =>
    nm (l3 + (1 : Int32)) fun v121 =>
    k7 l1 l2 v121 S118
  )
set_option maxRecDepth 100000 in
theorem ebX10_findCells_101 {a : Nat} {ρ : RV} {z : AH} (hz : a + szV 9 ≤ z.length) {k7 : Nat → Int32 → Int32 → Int32 → AH → Option (Int32 × AH)} {k7' : Int32 → Int32 → Int32 → SV → Option (Int32 × SV)} (hk7 : ∀ (l1 : Int32) (l2 : Int32) (l3 : Int32) (S : SV), k7 a l1 l2 l3 (wr 9 a ρ S z) = (k7' l1 l2 l3 S).map (fun q => (q.1, wr 9 a ρ q.2 z))) (l1 : Int32) (l2 : Int32) (l3 : Int32) (l4 : Int32) (s0 : Nat) (s1 : Int32) (s2 : Int32) (S : SV) (r_s0 : arrI 9 s0 = true) : bX10_findCells_101 k7 a l1 l2 l3 l4 (a + aOff 9 s0) s1 s2 (wr 9 a ρ S z) = (gbX10_findCells_101 k7' l1 l2 l3 l4 s0 s1 s2 S).map (fun q => (q.1, wr 9 a ρ q.2 z)) := by
  unfold bX10_findCells_101 gbX10_findCells_101
  refine em (f := (fun S => wr 9 a ρ S z)) (stI_rd rkOk9 hz (aI1 r_s0) (aI2 r_s0) (aI3 r_s0) 0 rfl (by decide) _ _) (fun S101 => ?_)
  refine sb (gI_rd (rd_wr hz) rfl) ?_
  refine ei (fun _ => ?_) (fun _ => ?_)
  · skip
    refine ep (f := (fun S => wr 9 a ρ S z)) (pF_int hz rfl _) (fun S118 => ?_)
    refine en (fun v121 => ?_)
    exact hk7 l1 l2 v121 S118
  · skip
    refine ep (f := (fun S => wr 9 a ρ S z)) (pF_int hz rfl _) (fun S118 => ?_)
    refine en (fun v121 => ?_)
    exact hk7 l1 l2 v121 S118
def gbX10_findCells_75 (k7 : Int32 → Int32 → Int32 → SV → Option (Int32 × SV)) (l1 : Int32) (l2 : Int32) (l3 : Int32) (l4 : Int32) (S : SV) : Option (Int32 × SV) :=
  if l4 = (0 : Int32) then (
    (rA 100 (S.2.1 48) (S.1 49)).bind fun x100 =>
    gbX10_findCells_101 k7 l1 l2 l3 l4 48 (S.1 49) x100 S
  ) else (
    gbX10_findCells_101 k7 l1 l2 l3 l4 48 (S.1 49) l3 S
  )
set_option maxRecDepth 100000 in
theorem ebX10_findCells_75 {a : Nat} {ρ : RV} {z : AH} (hz : a + szV 9 ≤ z.length) {k7 : Nat → Int32 → Int32 → Int32 → AH → Option (Int32 × AH)} {k7' : Int32 → Int32 → Int32 → SV → Option (Int32 × SV)} (hk7 : ∀ (l1 : Int32) (l2 : Int32) (l3 : Int32) (S : SV), k7 a l1 l2 l3 (wr 9 a ρ S z) = (k7' l1 l2 l3 S).map (fun q => (q.1, wr 9 a ρ q.2 z))) (l1 : Int32) (l2 : Int32) (l3 : Int32) (l4 : Int32) (S : SV) : bX10_findCells_75 k7 a l1 l2 l3 l4 (wr 9 a ρ S z) = (gbX10_findCells_75 k7' l1 l2 l3 l4 S).map (fun q => (q.1, wr 9 a ρ q.2 z)) := by
  unfold bX10_findCells_75 gbX10_findCells_75
  refine sb (gN_rd (rd_wr hz) rfl (Or.inl rfl)) ?_
  refine sb (gI_rd (rd_wr hz) rfl) ?_
  refine ei (fun _ => ?_) (fun _ => ?_)
  · skip
    refine sb (gN_rd (rd_wr hz) rfl (Or.inl rfl)) ?_
    refine sb (gI_rd (rd_wr hz) rfl) ?_
    refine eb (ixI_rd (rd_wr hz) (k := 48) rfl rfl (by decide) 0 rfl (by decide) _) (fun x100 => ?_)
    exact ebX10_findCells_101 hz hk7 l1 l2 l3 l4 48 (S.1 49) x100 S rfl
  · skip
    exact ebX10_findCells_101 hz hk7 l1 l2 l3 l4 48 (S.1 49) l3 S rfl
def gbX10_findCells_19 (k7 : Int32 → Int32 → Int32 → SV → Option (Int32 × SV)) (k19 : Int32 → Int32 → Int32 → Int32 → Int32 → SV → Option (Int32 × SV)) (l1 : Int32) (l2 : Int32) (l3 : Int32) (l4 : Int32) (l5 : Int32) (S : SV) : Option (Int32 × SV) :=
  (gX10_views S).bind fun x22 =>
  if x22 ≤ l5 then (
    gbX10_findCells_75 k7 l1 l2 l3 l4 S
  ) else (
    if l4 = (0 : Int32) then (
      gbX10_findCells_75 k7 l1 l2 l3 l4 S
    ) else (
      if l5 = l2 then (
        nm (l5 + (1 : Int32)) fun v69 =>
        k19 l1 l2 l3 (1 : Int32) v69 S
      ) else (
        (gX10_viewOf l5 (0 : Int32) S).bind fun x44 =>
        (gX10_viewOf l5 (1 : Int32) S).bind fun x51 =>
        (gX10_crosses x44 x51 l3 l1 S).bind fun x56 =>
        if x56 = (0 : Int32) then (
          nm (l5 + (1 : Int32)) fun v69 =>
          k19 l1 l2 l3 (0 : Int32) v69 S
        ) else (
          nm (l5 + (1 : Int32)) fun v69 =>
          k19 l1 l2 l3 (1 : Int32) v69 S
        )
      )
    )
  )
set_option maxRecDepth 100000 in
theorem ebX10_findCells_19 {a : Nat} {ρ : RV} {z : AH} (hz : a + szV 9 ≤ z.length) {k7 : Nat → Int32 → Int32 → Int32 → AH → Option (Int32 × AH)} {k7' : Int32 → Int32 → Int32 → SV → Option (Int32 × SV)} {k19 : Nat → Int32 → Int32 → Int32 → Int32 → Int32 → AH → Option (Int32 × AH)} {k19' : Int32 → Int32 → Int32 → Int32 → Int32 → SV → Option (Int32 × SV)} (hk7 : ∀ (l1 : Int32) (l2 : Int32) (l3 : Int32) (S : SV), k7 a l1 l2 l3 (wr 9 a ρ S z) = (k7' l1 l2 l3 S).map (fun q => (q.1, wr 9 a ρ q.2 z))) (hk19 : ∀ (l1 : Int32) (l2 : Int32) (l3 : Int32) (l4 : Int32) (l5 : Int32) (S : SV), k19 a l1 l2 l3 l4 l5 (wr 9 a ρ S z) = (k19' l1 l2 l3 l4 l5 S).map (fun q => (q.1, wr 9 a ρ q.2 z))) (l1 : Int32) (l2 : Int32) (l3 : Int32) (l4 : Int32) (l5 : Int32) (S : SV) : bX10_findCells_19 k7 k19 a l1 l2 l3 l4 l5 (wr 9 a ρ S z) = (gbX10_findCells_19 k7' k19' l1 l2 l3 l4 l5 S).map (fun q => (q.1, wr 9 a ρ q.2 z)) := by
  unfold bX10_findCells_19 gbX10_findCells_19
  refine eb (eX10_views (rd_wr hz)) (fun x22 => ?_)
  refine ei (fun _ => ?_) (fun _ => ?_)
  · skip
    exact ebX10_findCells_75 hz hk7 l1 l2 l3 l4 S
  · skip
    refine ei (fun _ => ?_) (fun _ => ?_)
    · skip
      exact ebX10_findCells_75 hz hk7 l1 l2 l3 l4 S
    · skip
      refine ei (fun _ => ?_) (fun _ => ?_)
      · skip
        refine en (fun v69 => ?_)
        exact hk19 l1 l2 l3 (1 : Int32) v69 S
      · skip
        refine eb (eX10_viewOf (rd_wr hz) l5 (0 : Int32)) (fun x44 => ?_)
        refine eb (eX10_viewOf (rd_wr hz) l5 (1 : Int32)) (fun x51 => ?_)
        refine eb (eX10_crosses (rd_wr hz) x44 x51 l3 l1) (fun x56 => ?_)
        refine ei (fun _ => ?_) (fun _ => ?_)
        · skip
          refine en (fun v69 => ?_)
          exact hk19 l1 l2 l3 (0 : Int32) v69 S
        · skip
          refine en (fun v69 => ?_)
          exact hk19 l1 l2 l3 (1 : Int32) v69 S
def gfX10_findCells_19 (k7 : Int32 → Int32 → Int32 → SV → Option (Int32 × SV)) : Nat → Int32 → Int32 → Int32 → Int32 → Int32 → SV → Option (Int32 × SV)
  | 0, _, _, _, _, _, _ => none
  | n + 1, l1, l2, l3, l4, l5, S => gbX10_findCells_19 k7 (gfX10_findCells_19 k7 n) l1 l2 l3 l4 l5 S
theorem efX10_findCells_19 {a : Nat} {ρ : RV} {z : AH} (hz : a + szV 9 ≤ z.length) {k7 : Nat → Int32 → Int32 → Int32 → AH → Option (Int32 × AH)} {k7' : Int32 → Int32 → Int32 → SV → Option (Int32 × SV)} (hk7 : ∀ (l1 : Int32) (l2 : Int32) (l3 : Int32) (S : SV), k7 a l1 l2 l3 (wr 9 a ρ S z) = (k7' l1 l2 l3 S).map (fun q => (q.1, wr 9 a ρ q.2 z))) : ∀ (n : Nat) (l1 : Int32) (l2 : Int32) (l3 : Int32) (l4 : Int32) (l5 : Int32) (S : SV), fX10_findCells_19 k7 n a l1 l2 l3 l4 l5 (wr 9 a ρ S z) = (gfX10_findCells_19 k7' n l1 l2 l3 l4 l5 S).map (fun q => (q.1, wr 9 a ρ q.2 z)) := by
  intro n
  induction n with
  | zero => intros; rfl
  | succ n ih => intro l1 l2 l3 l4 l5 S; exact ebX10_findCells_19 hz hk7 (fun l1 l2 l3 l4 l5 S => ih l1 l2 l3 l4 l5 S) l1 l2 l3 l4 l5 S
def gbX10_findCells_7 (k7 : Int32 → Int32 → Int32 → SV → Option (Int32 × SV)) (l1 : Int32) (l2 : Int32) (l3 : Int32) (S : SV) : Option (Int32 × SV) :=
  if (100 : Int32) ≤ l3 then (
    some ((S.1 49), S)
  ) else (
    gfX10_findCells_19 k7 FU l1 l2 l3 (1 : Int32) (0 : Int32) S
  )
set_option maxRecDepth 100000 in
theorem ebX10_findCells_7 {a : Nat} {ρ : RV} {z : AH} (hz : a + szV 9 ≤ z.length) {k7 : Nat → Int32 → Int32 → Int32 → AH → Option (Int32 × AH)} {k7' : Int32 → Int32 → Int32 → SV → Option (Int32 × SV)} (hk7 : ∀ (l1 : Int32) (l2 : Int32) (l3 : Int32) (S : SV), k7 a l1 l2 l3 (wr 9 a ρ S z) = (k7' l1 l2 l3 S).map (fun q => (q.1, wr 9 a ρ q.2 z))) (l1 : Int32) (l2 : Int32) (l3 : Int32) (S : SV) : bX10_findCells_7 k7 a l1 l2 l3 (wr 9 a ρ S z) = (gbX10_findCells_7 k7' l1 l2 l3 S).map (fun q => (q.1, wr 9 a ρ q.2 z)) := by
  unfold bX10_findCells_7 gbX10_findCells_7
  refine ei (fun _ => ?_) (fun _ => ?_)
  · skip
    refine sb (gI_rd (rd_wr hz) rfl) ?_
    rfl
  · skip
    exact efX10_findCells_19 hz hk7 FU l1 l2 l3 (1 : Int32) (0 : Int32) S
def gfX10_findCells_7 : Nat → Int32 → Int32 → Int32 → SV → Option (Int32 × SV)
  | 0, _, _, _, _ => none
  | n + 1, l1, l2, l3, S => gbX10_findCells_7 (gfX10_findCells_7 n) l1 l2 l3 S
theorem efX10_findCells_7 {a : Nat} {ρ : RV} {z : AH} (hz : a + szV 9 ≤ z.length) : ∀ (n : Nat) (l1 : Int32) (l2 : Int32) (l3 : Int32) (S : SV), fX10_findCells_7 n a l1 l2 l3 (wr 9 a ρ S z) = (gfX10_findCells_7 n l1 l2 l3 S).map (fun q => (q.1, wr 9 a ρ q.2 z)) := by
  intro n
  induction n with
  | zero => intros; rfl
  | succ n ih => intro l1 l2 l3 S; exact ebX10_findCells_7 hz (fun l1 l2 l3 S => ih l1 l2 l3 S) l1 l2 l3 S
def gX10_findCells (l1 : Int32) (l2 : Int32) (S : SV) : Option (Int32 × SV) :=
  nm (wI S 49 (0 : Int32)) fun S2 =>
  gfX10_findCells_7 FU l1 l2 (0 : Int32) S2
set_option maxRecDepth 100000 in
theorem eX10_findCells {a : Nat} {ρ : RV} {z : AH} (hz : a + szV 9 ≤ z.length) (l1 : Int32) (l2 : Int32) (S : SV) : fX10_findCells a l1 l2 (wr 9 a ρ S z) = (gX10_findCells l1 l2 S).map (fun q => (q.1, wr 9 a ρ q.2 z)) := by
  unfold fX10_findCells gX10_findCells
  refine eo (isO_rd (rd_wr hz)) ?_
  refine ep (f := (fun S => wr 9 a ρ S z)) (pF_int hz rfl _) (fun S2 => ?_)
  exact efX10_findCells_7 hz FU l1 l2 (0 : Int32) S2
def gbX10_nextView_105 (k9 : Int32 → Int32 → Int32 → Int32 → Option (Int32)) (l1 : Int32) (l3 : Int32) (l4 : Int32) (l6 : Int32) (s0 : Int32) (S : SV) : Option (Int32) :=
  nm (fX10_lesser l3 l6) fun v112 =>
  nm (l4 + (1 : Int32)) fun v113 =>
  k9 l1 s0 v112 v113
set_option maxRecDepth 100000 in
theorem ebX10_nextView_105 {a : Nat} {ρ : RV} {S : SV} {z : AH} (hR : RD 9 a ρ S z) {k9 : Nat → Int32 → Int32 → Int32 → Int32 → Option (Int32)} {k9' : Int32 → Int32 → Int32 → Int32 → Option (Int32)} (hk9 : ∀ (l1 : Int32) (l2 : Int32) (l3 : Int32) (l4 : Int32), k9 a l1 l2 l3 l4 = k9' l1 l2 l3 l4) (l1 : Int32) (l3 : Int32) (l4 : Int32) (l6 : Int32) (s0 : Int32) : bX10_nextView_105 k9 a l1 l3 l4 l6 s0 z = gbX10_nextView_105 k9' l1 l3 l4 l6 s0 S := by
  unfold bX10_nextView_105 gbX10_nextView_105
  refine en0 (fun v112 => ?_)
  refine en0 (fun v113 => ?_)
  exact hk9 l1 s0 v112 v113
def gbX10_nextView_29 (k9 : Int32 → Int32 → Int32 → Int32 → Option (Int32)) (k29 : Int32 → Int32 → Int32 → Int32 → Int32 → Int32 → Option (Int32)) (l1 : Int32) (l2 : Int32) (l3 : Int32) (l4 : Int32) (l5 : Int32) (l6 : Int32) (S : SV) : Option (Int32) :=
  if (S.1 49) ≤ l6 then (
    nm (fX10_greater l5 ((S.1 49) - l5)) fun v91 =>
    if l3 ≤ v91 then (
      gbX10_nextView_105 k9 l1 l3 l4 v91 l2 S
    ) else (
      gbX10_nextView_105 k9 l1 l3 l4 v91 l4 S
    )
  ) else (
    (rA 100 (S.2.1 48) l6).bind fun x57 =>
    (gX10_crosses (l4 / (10 : Int32)) (irem l4 (10 : Int32)) x57 l1 S).bind fun x59 =>
    if x59 = (0 : Int32) then (
      nm (l5 + (0 : Int32)) fun v71 =>
      nm (l6 + (1 : Int32)) fun v73 =>
      k29 l1 l2 l3 l4 v71 v73
    ) else (
      nm (l5 + (1 : Int32)) fun v71 =>
      nm (l6 + (1 : Int32)) fun v73 =>
      k29 l1 l2 l3 l4 v71 v73
    )
  )
set_option maxRecDepth 100000 in
theorem ebX10_nextView_29 {a : Nat} {ρ : RV} {S : SV} {z : AH} (hR : RD 9 a ρ S z) {k9 : Nat → Int32 → Int32 → Int32 → Int32 → Option (Int32)} {k9' : Int32 → Int32 → Int32 → Int32 → Option (Int32)} {k29 : Nat → Int32 → Int32 → Int32 → Int32 → Int32 → Int32 → Option (Int32)} {k29' : Int32 → Int32 → Int32 → Int32 → Int32 → Int32 → Option (Int32)} (hk9 : ∀ (l1 : Int32) (l2 : Int32) (l3 : Int32) (l4 : Int32), k9 a l1 l2 l3 l4 = k9' l1 l2 l3 l4) (hk29 : ∀ (l1 : Int32) (l2 : Int32) (l3 : Int32) (l4 : Int32) (l5 : Int32) (l6 : Int32), k29 a l1 l2 l3 l4 l5 l6 = k29' l1 l2 l3 l4 l5 l6) (l1 : Int32) (l2 : Int32) (l3 : Int32) (l4 : Int32) (l5 : Int32) (l6 : Int32) : bX10_nextView_29 k9 k29 a l1 l2 l3 l4 l5 l6 z = gbX10_nextView_29 k9' k29' l1 l2 l3 l4 l5 l6 S := by
  unfold bX10_nextView_29 gbX10_nextView_29
  refine sb (gI_rd hR rfl) ?_
  refine ei0 (fun _ => ?_) (fun _ => ?_)
  · skip
    refine sb (gI_rd hR rfl) ?_
    refine en0 (fun v91 => ?_)
    refine ei0 (fun _ => ?_) (fun _ => ?_)
    · skip
      exact ebX10_nextView_105 hR hk9 l1 l3 l4 v91 l2
    · skip
      exact ebX10_nextView_105 hR hk9 l1 l3 l4 v91 l4
  · skip
    refine sb (gN_rd hR rfl (Or.inl rfl)) ?_
    refine eb0 (ixI_rd hR (k := 48) rfl rfl (by decide) 0 rfl (by decide) _) (fun x57 => ?_)
    refine eb0 (eX10_crosses hR (l4 / (10 : Int32)) (irem l4 (10 : Int32)) x57 l1) (fun x59 => ?_)
    refine ei0 (fun _ => ?_) (fun _ => ?_)
    · skip
      refine en0 (fun v71 => ?_)
      refine en0 (fun v73 => ?_)
      exact hk29 l1 l2 l3 l4 v71 v73
    · skip
      refine en0 (fun v71 => ?_)
      refine en0 (fun v73 => ?_)
      exact hk29 l1 l2 l3 l4 v71 v73
def gfX10_nextView_29 (k9 : Int32 → Int32 → Int32 → Int32 → Option (Int32)) (S : SV) : Nat → Int32 → Int32 → Int32 → Int32 → Int32 → Int32 → Option (Int32)
  | 0, _, _, _, _, _, _ => none
  | n + 1, l1, l2, l3, l4, l5, l6 => gbX10_nextView_29 k9 (gfX10_nextView_29 k9 S n) l1 l2 l3 l4 l5 l6 S
theorem efX10_nextView_29 {a : Nat} {ρ : RV} {S : SV} {z : AH} (hR : RD 9 a ρ S z) {k9 : Nat → Int32 → Int32 → Int32 → Int32 → Option (Int32)} {k9' : Int32 → Int32 → Int32 → Int32 → Option (Int32)} (hk9 : ∀ (l1 : Int32) (l2 : Int32) (l3 : Int32) (l4 : Int32), k9 a l1 l2 l3 l4 = k9' l1 l2 l3 l4) : ∀ (n : Nat) (l1 : Int32) (l2 : Int32) (l3 : Int32) (l4 : Int32) (l5 : Int32) (l6 : Int32), fX10_nextView_29 k9 z n a l1 l2 l3 l4 l5 l6 = gfX10_nextView_29 k9' S n l1 l2 l3 l4 l5 l6 := by
  intro n
  induction n with
  | zero => intros; rfl
  | succ n ih => intro l1 l2 l3 l4 l5 l6; exact ebX10_nextView_29 hR hk9 (fun l1 l2 l3 l4 l5 l6 => ih l1 l2 l3 l4 l5 l6) l1 l2 l3 l4 l5 l6
def gbX10_nextView_9 (k9 : Int32 → Int32 → Int32 → Int32 → Option (Int32)) (l1 : Int32) (l2 : Int32) (l3 : Int32) (l4 : Int32) (S : SV) : Option (Int32) :=
  if (30 : Int32) ≤ l4 then (
    some l2
  ) else (
    if (S.1 49) ≤ (0 : Int32) then (
      some l2
    ) else (
      gfX10_nextView_29 k9 S FU l1 l2 l3 l4 (0 : Int32) (0 : Int32)
    )
  )
set_option maxRecDepth 100000 in
theorem ebX10_nextView_9 {a : Nat} {ρ : RV} {S : SV} {z : AH} (hR : RD 9 a ρ S z) {k9 : Nat → Int32 → Int32 → Int32 → Int32 → Option (Int32)} {k9' : Int32 → Int32 → Int32 → Int32 → Option (Int32)} (hk9 : ∀ (l1 : Int32) (l2 : Int32) (l3 : Int32) (l4 : Int32), k9 a l1 l2 l3 l4 = k9' l1 l2 l3 l4) (l1 : Int32) (l2 : Int32) (l3 : Int32) (l4 : Int32) : bX10_nextView_9 k9 a l1 l2 l3 l4 z = gbX10_nextView_9 k9' l1 l2 l3 l4 S := by
  unfold bX10_nextView_9 gbX10_nextView_9
  refine ei0 (fun _ => ?_) (fun _ => ?_)
  · skip
    rfl
  · skip
    refine sb (gI_rd hR rfl) ?_
    refine ei0 (fun _ => ?_) (fun _ => ?_)
    · skip
      rfl
    · skip
      exact efX10_nextView_29 hR hk9 FU l1 l2 l3 l4 (0 : Int32) (0 : Int32)
def gfX10_nextView_9 (S : SV) : Nat → Int32 → Int32 → Int32 → Int32 → Option (Int32)
  | 0, _, _, _, _ => none
  | n + 1, l1, l2, l3, l4 => gbX10_nextView_9 (gfX10_nextView_9 S n) l1 l2 l3 l4 S
theorem efX10_nextView_9 {a : Nat} {ρ : RV} {S : SV} {z : AH} (hR : RD 9 a ρ S z) : ∀ (n : Nat) (l1 : Int32) (l2 : Int32) (l3 : Int32) (l4 : Int32), fX10_nextView_9 z n a l1 l2 l3 l4 = gfX10_nextView_9 S n l1 l2 l3 l4 := by
  intro n
  induction n with
  | zero => intros; rfl
  | succ n ih => intro l1 l2 l3 l4; exact ebX10_nextView_9 hR (fun l1 l2 l3 l4 => ih l1 l2 l3 l4) l1 l2 l3 l4
def gX10_nextView (l1 : Int32) (S : SV) : Option (Int32) :=
  gfX10_nextView_9 S FU l1 (-1 : Int32) (1000000 : Int32) (0 : Int32)
set_option maxRecDepth 100000 in
theorem eX10_nextView {a : Nat} {ρ : RV} {S : SV} {z : AH} (hR : RD 9 a ρ S z) (l1 : Int32) : fX10_nextView a l1 z = gX10_nextView l1 S := by
  unfold fX10_nextView gX10_nextView
  refine eo (isO_rd hR) ?_
  exact efX10_nextView_9 hR FU l1 (-1 : Int32) (1000000 : Int32) (0 : Int32)
def gX10_fits (l1 : Int32) (l2 : Int32) (l3 : Int32) (S : SV) : Option (Int32 × SV) :=
  nm (wI S 0 (0 : Int32)) fun S2 =>
  if (fX10_in l2 (0 : Int32) (3 : Int32)) = (0 : Int32) then (
    some ((-2 : Int32), S2)
  ) else (
    b2 (gX10_hasSight l1 S2) fun x16 S16 =>
    if x16 = (0 : Int32) then (
      some ((-2 : Int32), S16)
    ) else (
      b2 (gX10_findCells l2 (-1 : Int32) S16) fun x28 S28 =>
      if l3 < (10 : Int32) then (
        if l3 = (0 : Int32) then (
          some ((S28.1 49), S28)
        ) else (
          if l3 = (1 : Int32) then (
            if (S28.1 49) = (1 : Int32) then (
              (rA 100 (S28.2.1 48) (0 : Int32)).bind fun x110 =>
              some (x110, S28)
            ) else (
              some ((-1 : Int32), S28)
            )
          ) else (
            if l3 = (2 : Int32) then (
              (gX10_nextView l2 S28).bind fun x118 =>
              some (x118, S28)
            ) else (
              some ((-2 : Int32), S28)
            )
          )
        )
      ) else (
        if (S28.1 49) ≤ (l3 - (10 : Int32)) then (
          some ((-2 : Int32), S28)
        ) else (
          (rA 100 (S28.2.1 48) (l3 - (10 : Int32))).bind fun x57 =>
          some (x57, S28)
        )
      )
    )
  )
set_option maxRecDepth 100000 in
theorem eX10_fits {a : Nat} {ρ : RV} {z : AH} (hz : a + szV 9 ≤ z.length) (l1 : Int32) (l2 : Int32) (l3 : Int32) (S : SV) : fX10_fits a l1 l2 l3 (wr 9 a ρ S z) = (gX10_fits l1 l2 l3 S).map (fun q => (q.1, wr 9 a ρ q.2 z)) := by
  unfold fX10_fits gX10_fits
  refine eo (isO_rd (rd_wr hz)) ?_
  refine ep (f := (fun S => wr 9 a ρ S z)) (pF_int hz rfl _) (fun S2 => ?_)
  refine ei (fun _ => ?_) (fun _ => ?_)
  · skip
    rfl
  · skip
    refine e2m (f := (fun S => wr 9 a ρ S z)) (eX10_hasSight hz l1 S2) (fun x16 S16 => ?_)
    refine ei (fun _ => ?_) (fun _ => ?_)
    · skip
      rfl
    · skip
      refine e2m (f := (fun S => wr 9 a ρ S z)) (eX10_findCells hz l2 (-1 : Int32) S16) (fun x28 S28 => ?_)
      refine ei (fun _ => ?_) (fun _ => ?_)
      · skip
        refine ei (fun _ => ?_) (fun _ => ?_)
        · skip
          refine sb (gI_rd (rd_wr hz) rfl) ?_
          rfl
        · skip
          refine ei (fun _ => ?_) (fun _ => ?_)
          · skip
            refine sb (gI_rd (rd_wr hz) rfl) ?_
            refine ei (fun _ => ?_) (fun _ => ?_)
            · skip
              refine sb (gN_rd (rd_wr hz) rfl (Or.inl rfl)) ?_
              refine eb (ixI_rd (rd_wr hz) (k := 48) rfl rfl (by decide) 0 rfl (by decide) _) (fun x110 => ?_)
              rfl
            · skip
              rfl
          · skip
            refine ei (fun _ => ?_) (fun _ => ?_)
            · skip
              refine eb (eX10_nextView (rd_wr hz) l2) (fun x118 => ?_)
              rfl
            · skip
              rfl
      · skip
        refine sb (gI_rd (rd_wr hz) rfl) ?_
        refine ei (fun _ => ?_) (fun _ => ?_)
        · skip
          rfl
        · skip
          refine sb (gN_rd (rd_wr hz) rfl (Or.inl rfl)) ?_
          refine eb (ixI_rd (rd_wr hz) (k := 48) rfl rfl (by decide) 0 rfl (by decide) _) (fun x57 => ?_)
          rfl
def gX10_factOf (l1 : Int32) (l2 : Int32) (S : SV) : Option (Int32) :=
  (rA 392 (S.2.1 9) (((((49 : Int32) * (S.1 50)) + (1 : Int32)) + ((3 : Int32) * l1)) + l2)).bind fun x19 =>
  some x19
set_option maxRecDepth 100000 in
theorem eX10_factOf {a : Nat} {ρ : RV} {S : SV} {z : AH} (hR : RD 9 a ρ S z) (l1 : Int32) (l2 : Int32) : fX10_factOf a l1 l2 z = gX10_factOf l1 l2 S := by
  unfold fX10_factOf gX10_factOf
  refine eo (isO_rd hR) ?_
  refine sb (gN_rd hR rfl (Or.inl rfl)) ?_
  refine sb (gI_rd hR rfl) ?_
  refine eb0 (ixI_rd hR (k := 9) rfl rfl (by decide) 0 rfl (by decide) _) (fun x19 => ?_)
  rfl
def gX10_facts (S : SV) : Option (Int32) :=
  (rA 392 (S.2.1 9) ((49 : Int32) * (S.1 50))).bind fun x11 =>
  some x11
set_option maxRecDepth 100000 in
theorem eX10_facts {a : Nat} {ρ : RV} {S : SV} {z : AH} (hR : RD 9 a ρ S z) : fX10_facts a z = gX10_facts S := by
  unfold fX10_facts gX10_facts
  refine eo (isO_rd hR) ?_
  refine sb (gN_rd hR rfl (Or.inl rfl)) ?_
  refine sb (gI_rd hR rfl) ?_
  refine eb0 (ixI_rd hR (k := 9) rfl rfl (by decide) 0 rfl (by decide) _) (fun x11 => ?_)
  rfl
def gX10_hasFight (l1 : Int32) (S : SV) : Option (Int32 × SV) :=
  nm (wI S 50 l1) fun S2 =>
  (gX10_is (3 : Int32) l1 S2).bind fun x8 =>
  if x8 = 0 ∨ x8 = 1 then some (x8, S2) else none
set_option maxRecDepth 100000 in
theorem eX10_hasFight {a : Nat} {ρ : RV} {z : AH} (hz : a + szV 9 ≤ z.length) (l1 : Int32) (S : SV) : fX10_hasFight a l1 (wr 9 a ρ S z) = (gX10_hasFight l1 S).map (fun q => (q.1, wr 9 a ρ q.2 z)) := by
  unfold fX10_hasFight gX10_hasFight
  refine eo (isO_rd (rd_wr hz)) ?_
  refine ep (f := (fun S => wr 9 a ρ S z)) (pF_int hz rfl _) (fun S2 => ?_)
  refine eb (eX10_is (rd_wr hz) (3 : Int32) l1) (fun x8 => ?_)
  refine ei (fun _ => rfl) (fun _ => rfl)
def gX10_fact (l1 : Int32) (l2 : Int32) (l3 : Int32) (S : SV) : Option (Int32 × SV) :=
  nm (wI S 0 (0 : Int32)) fun S2 =>
  b2 (gX10_hasFight l1 S2) fun x7 S7 =>
  if x7 = (0 : Int32) then (
    some ((-2 : Int32), S7)
  ) else (
    if l2 = (-1 : Int32) then (
      if l3 = (0 : Int32) then (
        (gX10_facts S7).bind fun x26 =>
        some (x26, S7)
      ) else (
        some ((-2 : Int32), S7)
      )
    ) else (
      (gX10_facts S7).bind fun x38 =>
      if (fX10_in l2 (0 : Int32) (x38 - (1 : Int32))) = (0 : Int32) then (
        some ((-2 : Int32), S7)
      ) else (
        if (fX10_in l3 (0 : Int32) (2 : Int32)) = (0 : Int32) then (
          some ((-2 : Int32), S7)
        ) else (
          (gX10_factOf l2 l3 S7).bind fun x61 =>
          some (x61, S7)
        )
      )
    )
  )
set_option maxRecDepth 100000 in
theorem eX10_fact {a : Nat} {ρ : RV} {z : AH} (hz : a + szV 9 ≤ z.length) (l1 : Int32) (l2 : Int32) (l3 : Int32) (S : SV) : fX10_fact a l1 l2 l3 (wr 9 a ρ S z) = (gX10_fact l1 l2 l3 S).map (fun q => (q.1, wr 9 a ρ q.2 z)) := by
  unfold fX10_fact gX10_fact
  refine eo (isO_rd (rd_wr hz)) ?_
  refine ep (f := (fun S => wr 9 a ρ S z)) (pF_int hz rfl _) (fun S2 => ?_)
  refine e2m (f := (fun S => wr 9 a ρ S z)) (eX10_hasFight hz l1 S2) (fun x7 S7 => ?_)
  refine ei (fun _ => ?_) (fun _ => ?_)
  · skip
    rfl
  · skip
    refine ei (fun _ => ?_) (fun _ => ?_)
    · skip
      refine ei (fun _ => ?_) (fun _ => ?_)
      · skip
        refine eb (eX10_facts (rd_wr hz)) (fun x26 => ?_)
        rfl
      · skip
        rfl
    · skip
      refine eb (eX10_facts (rd_wr hz)) (fun x38 => ?_)
      refine ei (fun _ => ?_) (fun _ => ?_)
      · skip
        rfl
      · skip
        refine ei (fun _ => ?_) (fun _ => ?_)
        · skip
          rfl
        · skip
          refine eb (eX10_factOf (rd_wr hz) l2 l3) (fun x61 => ?_)
          rfl
def gbX10_lookersOf_4 (k4 : Int32 → Int32 → Int32 → Option (Int32)) (l1 : Int32) (l2 : Int32) (l3 : Int32) (S : SV) : Option (Int32) :=
  (gX10_facts S).bind fun x6 =>
  if x6 ≤ l3 then (
    some l2
  ) else (
    (gX10_factOf l3 (0 : Int32) S).bind fun x16 =>
    if x16 = (0 : Int32) then (
      (gX10_factOf l3 (1 : Int32) S).bind fun x25 =>
      if x25 = l1 then (
        (gX10_factOf l3 (2 : Int32) S).bind fun x36 =>
        nm (l2 ||| (shl (1 : Int32) x36)) fun v45 =>
        nm (l3 + (1 : Int32)) fun v46 =>
        k4 l1 v45 v46
      ) else (
        nm (l2 ||| (0 : Int32)) fun v45 =>
        nm (l3 + (1 : Int32)) fun v46 =>
        k4 l1 v45 v46
      )
    ) else (
      nm (l2 ||| (0 : Int32)) fun v45 =>
      nm (l3 + (1 : Int32)) fun v46 =>
      k4 l1 v45 v46
    )
  )
set_option maxRecDepth 100000 in
theorem ebX10_lookersOf_4 {a : Nat} {ρ : RV} {S : SV} {z : AH} (hR : RD 9 a ρ S z) {k4 : Nat → Int32 → Int32 → Int32 → Option (Int32)} {k4' : Int32 → Int32 → Int32 → Option (Int32)} (hk4 : ∀ (l1 : Int32) (l2 : Int32) (l3 : Int32), k4 a l1 l2 l3 = k4' l1 l2 l3) (l1 : Int32) (l2 : Int32) (l3 : Int32) : bX10_lookersOf_4 k4 a l1 l2 l3 z = gbX10_lookersOf_4 k4' l1 l2 l3 S := by
  unfold bX10_lookersOf_4 gbX10_lookersOf_4
  refine eb0 (eX10_facts hR) (fun x6 => ?_)
  refine ei0 (fun _ => ?_) (fun _ => ?_)
  · skip
    rfl
  · skip
    refine eb0 (eX10_factOf hR l3 (0 : Int32)) (fun x16 => ?_)
    refine ei0 (fun _ => ?_) (fun _ => ?_)
    · skip
      refine eb0 (eX10_factOf hR l3 (1 : Int32)) (fun x25 => ?_)
      refine ei0 (fun _ => ?_) (fun _ => ?_)
      · skip
        refine eb0 (eX10_factOf hR l3 (2 : Int32)) (fun x36 => ?_)
        refine en0 (fun v45 => ?_)
        refine en0 (fun v46 => ?_)
        exact hk4 l1 v45 v46
      · skip
        refine en0 (fun v45 => ?_)
        refine en0 (fun v46 => ?_)
        exact hk4 l1 v45 v46
    · skip
      refine en0 (fun v45 => ?_)
      refine en0 (fun v46 => ?_)
      exact hk4 l1 v45 v46
def gfX10_lookersOf_4 (S : SV) : Nat → Int32 → Int32 → Int32 → Option (Int32)
  | 0, _, _, _ => none
  | n + 1, l1, l2, l3 => gbX10_lookersOf_4 (gfX10_lookersOf_4 S n) l1 l2 l3 S
theorem efX10_lookersOf_4 {a : Nat} {ρ : RV} {S : SV} {z : AH} (hR : RD 9 a ρ S z) : ∀ (n : Nat) (l1 : Int32) (l2 : Int32) (l3 : Int32), fX10_lookersOf_4 z n a l1 l2 l3 = gfX10_lookersOf_4 S n l1 l2 l3 := by
  intro n
  induction n with
  | zero => intros; rfl
  | succ n ih => intro l1 l2 l3; exact ebX10_lookersOf_4 hR (fun l1 l2 l3 => ih l1 l2 l3) l1 l2 l3
def gX10_lookersOf (l1 : Int32) (S : SV) : Option (Int32) :=
  gfX10_lookersOf_4 S FU l1 (0 : Int32) (0 : Int32)
set_option maxRecDepth 100000 in
theorem eX10_lookersOf {a : Nat} {ρ : RV} {S : SV} {z : AH} (hR : RD 9 a ρ S z) (l1 : Int32) : fX10_lookersOf a l1 z = gX10_lookersOf l1 S := by
  unfold fX10_lookersOf gX10_lookersOf
  refine eo (isO_rd hR) ?_
  exact efX10_lookersOf_4 hR FU l1 (0 : Int32) (0 : Int32)
def gbX10_findSets_77 (k7 : Int32 → SV → Option SV) (k17 : Int32 → Int32 → Int32 → SV → Option SV) (l1 : Int32) (l3 : Int32) (s0 : Int32) (s1 : Int32) (S : SV) : Option SV :=
  if s0 = s1 then (
    nm (l3 + (1 : Int32)) fun v86 =>
    k17 l1 (1 : Int32) v86 S
  ) else (
    nm (l3 + (1 : Int32)) fun v86 =>
    k17 l1 (0 : Int32) v86 S
  )
set_option maxRecDepth 100000 in
theorem ebX10_findSets_77 {a : Nat} {ρ : RV} {z : AH} (hz : a + szV 9 ≤ z.length) {k7 : Nat → Int32 → AH → Option AH} {k7' : Int32 → SV → Option SV} {k17 : Nat → Int32 → Int32 → Int32 → AH → Option AH} {k17' : Int32 → Int32 → Int32 → SV → Option SV} (hk7 : ∀ (l1 : Int32) (S : SV), k7 a l1 (wr 9 a ρ S z) = (k7' l1 S).map (fun S => wr 9 a ρ S z)) (hk17 : ∀ (l1 : Int32) (l2 : Int32) (l3 : Int32) (S : SV), k17 a l1 l2 l3 (wr 9 a ρ S z) = (k17' l1 l2 l3 S).map (fun S => wr 9 a ρ S z)) (l1 : Int32) (l3 : Int32) (s0 : Int32) (s1 : Int32) (S : SV) : bX10_findSets_77 k7 k17 a l1 l3 s0 s1 (wr 9 a ρ S z) = (gbX10_findSets_77 k7' k17' l1 l3 s0 s1 S).map (fun S => wr 9 a ρ S z) := by
  unfold bX10_findSets_77 gbX10_findSets_77
  refine ei (fun _ => ?_) (fun _ => ?_)
  · skip
    refine en (fun v86 => ?_)
    exact hk17 l1 (1 : Int32) v86 S
  · skip
    refine en (fun v86 => ?_)
    exact hk17 l1 (0 : Int32) v86 S
def gbX10_findSets_62 (k7 : Int32 → SV → Option SV) (k17 : Int32 → Int32 → Int32 → SV → Option SV) (l1 : Int32) (l3 : Int32) (s0 : Int32) (S : SV) : Option SV :=
  (gX10_factOf l3 (0 : Int32) S).bind fun x65 =>
  if x65 = (1 : Int32) then (
    gbX10_findSets_77 k7 k17 l1 l3 s0 (1 : Int32) S
  ) else (
    gbX10_findSets_77 k7 k17 l1 l3 s0 (0 : Int32) S
  )
set_option maxRecDepth 100000 in
theorem ebX10_findSets_62 {a : Nat} {ρ : RV} {z : AH} (hz : a + szV 9 ≤ z.length) {k7 : Nat → Int32 → AH → Option AH} {k7' : Int32 → SV → Option SV} {k17 : Nat → Int32 → Int32 → Int32 → AH → Option AH} {k17' : Int32 → Int32 → Int32 → SV → Option SV} (hk7 : ∀ (l1 : Int32) (S : SV), k7 a l1 (wr 9 a ρ S z) = (k7' l1 S).map (fun S => wr 9 a ρ S z)) (hk17 : ∀ (l1 : Int32) (l2 : Int32) (l3 : Int32) (S : SV), k17 a l1 l2 l3 (wr 9 a ρ S z) = (k17' l1 l2 l3 S).map (fun S => wr 9 a ρ S z)) (l1 : Int32) (l3 : Int32) (s0 : Int32) (S : SV) : bX10_findSets_62 k7 k17 a l1 l3 s0 (wr 9 a ρ S z) = (gbX10_findSets_62 k7' k17' l1 l3 s0 S).map (fun S => wr 9 a ρ S z) := by
  unfold bX10_findSets_62 gbX10_findSets_62
  refine eb (eX10_factOf (rd_wr hz) l3 (0 : Int32)) (fun x65 => ?_)
  refine ei (fun _ => ?_) (fun _ => ?_)
  · skip
    exact ebX10_findSets_77 hz hk7 hk17 l1 l3 s0 (1 : Int32) S
  · skip
    exact ebX10_findSets_77 hz hk7 hk17 l1 l3 s0 (0 : Int32) S
def gbX10_findSets_17 (k7 : Int32 → SV → Option SV) (k17 : Int32 → Int32 → Int32 → SV → Option SV) (l1 : Int32) (l2 : Int32) (l3 : Int32) (S : SV) : Option SV :=
  (gX10_facts S).bind fun x19 =>
  if x19 ≤ l3 then (
    if l2 = (0 : Int32) then (
      nm (wI S 51 ((S.1 51) ||| (0 : Int32))) fun S109 =>
      nm (l1 + (1 : Int32)) fun v112 =>
      k7 v112 S109
    ) else (
      nm (wI S 51 ((S.1 51) ||| (shl (1 : Int32) l1))) fun S109 =>
      nm (l1 + (1 : Int32)) fun v112 =>
      k7 v112 S109
    )
  ) else (
    (gX10_factOf l3 (1 : Int32) S).bind fun x29 =>
    (gX10_lookersOf x29 S).bind fun x32 =>
    nm (x32 &&& l1) fun v37 =>
    if l2 = (0 : Int32) then (
      nm (l3 + (1 : Int32)) fun v86 =>
      k17 l1 (0 : Int32) v86 S
    ) else (
      (gX10_factOf l3 (0 : Int32) S).bind fun x46 =>
      if x46 = (0 : Int32) then (
        nm (l3 + (1 : Int32)) fun v86 =>
        k17 l1 (1 : Int32) v86 S
      ) else (
        if v37 = (0 : Int32) then (
          gbX10_findSets_62 k7 k17 l1 l3 (0 : Int32) S
        ) else (
          gbX10_findSets_62 k7 k17 l1 l3 (1 : Int32) S
        )
      )
    )
  )
set_option maxRecDepth 100000 in
theorem ebX10_findSets_17 {a : Nat} {ρ : RV} {z : AH} (hz : a + szV 9 ≤ z.length) {k7 : Nat → Int32 → AH → Option AH} {k7' : Int32 → SV → Option SV} {k17 : Nat → Int32 → Int32 → Int32 → AH → Option AH} {k17' : Int32 → Int32 → Int32 → SV → Option SV} (hk7 : ∀ (l1 : Int32) (S : SV), k7 a l1 (wr 9 a ρ S z) = (k7' l1 S).map (fun S => wr 9 a ρ S z)) (hk17 : ∀ (l1 : Int32) (l2 : Int32) (l3 : Int32) (S : SV), k17 a l1 l2 l3 (wr 9 a ρ S z) = (k17' l1 l2 l3 S).map (fun S => wr 9 a ρ S z)) (l1 : Int32) (l2 : Int32) (l3 : Int32) (S : SV) : bX10_findSets_17 k7 k17 a l1 l2 l3 (wr 9 a ρ S z) = (gbX10_findSets_17 k7' k17' l1 l2 l3 S).map (fun S => wr 9 a ρ S z) := by
  unfold bX10_findSets_17 gbX10_findSets_17
  refine eb (eX10_facts (rd_wr hz)) (fun x19 => ?_)
  refine ei (fun _ => ?_) (fun _ => ?_)
  · skip
    refine sb (gI_rd (rd_wr hz) rfl) ?_
    refine ei (fun _ => ?_) (fun _ => ?_)
    · skip
      refine ep (f := (fun S => wr 9 a ρ S z)) (pF_int hz rfl _) (fun S109 => ?_)
      refine en (fun v112 => ?_)
      exact hk7 v112 S109
    · skip
      refine ep (f := (fun S => wr 9 a ρ S z)) (pF_int hz rfl _) (fun S109 => ?_)
      refine en (fun v112 => ?_)
      exact hk7 v112 S109
  · skip
    refine eb (eX10_factOf (rd_wr hz) l3 (1 : Int32)) (fun x29 => ?_)
    refine eb (eX10_lookersOf (rd_wr hz) x29) (fun x32 => ?_)
    refine en (fun v37 => ?_)
    refine ei (fun _ => ?_) (fun _ => ?_)
    · skip
      refine en (fun v86 => ?_)
      exact hk17 l1 (0 : Int32) v86 S
    · skip
      refine eb (eX10_factOf (rd_wr hz) l3 (0 : Int32)) (fun x46 => ?_)
      refine ei (fun _ => ?_) (fun _ => ?_)
      · skip
        refine en (fun v86 => ?_)
        exact hk17 l1 (1 : Int32) v86 S
      · skip
        refine ei (fun _ => ?_) (fun _ => ?_)
        · skip
          exact ebX10_findSets_62 hz hk7 hk17 l1 l3 (0 : Int32) S
        · skip
          exact ebX10_findSets_62 hz hk7 hk17 l1 l3 (1 : Int32) S
def gfX10_findSets_17 (k7 : Int32 → SV → Option SV) : Nat → Int32 → Int32 → Int32 → SV → Option SV
  | 0, _, _, _, _ => none
  | n + 1, l1, l2, l3, S => gbX10_findSets_17 k7 (gfX10_findSets_17 k7 n) l1 l2 l3 S
theorem efX10_findSets_17 {a : Nat} {ρ : RV} {z : AH} (hz : a + szV 9 ≤ z.length) {k7 : Nat → Int32 → AH → Option AH} {k7' : Int32 → SV → Option SV} (hk7 : ∀ (l1 : Int32) (S : SV), k7 a l1 (wr 9 a ρ S z) = (k7' l1 S).map (fun S => wr 9 a ρ S z)) : ∀ (n : Nat) (l1 : Int32) (l2 : Int32) (l3 : Int32) (S : SV), fX10_findSets_17 k7 n a l1 l2 l3 (wr 9 a ρ S z) = (gfX10_findSets_17 k7' n l1 l2 l3 S).map (fun S => wr 9 a ρ S z) := by
  intro n
  induction n with
  | zero => intros; rfl
  | succ n ih => intro l1 l2 l3 S; exact ebX10_findSets_17 hz hk7 (fun l1 l2 l3 S => ih l1 l2 l3 S) l1 l2 l3 S
def gbX10_findSets_7 (k7 : Int32 → SV → Option SV) (l1 : Int32) (S : SV) : Option SV :=
  if (16 : Int32) ≤ l1 then (
    some S
  ) else (
    gfX10_findSets_17 k7 FU l1 (1 : Int32) (0 : Int32) S
  )
set_option maxRecDepth 100000 in
theorem ebX10_findSets_7 {a : Nat} {ρ : RV} {z : AH} (hz : a + szV 9 ≤ z.length) {k7 : Nat → Int32 → AH → Option AH} {k7' : Int32 → SV → Option SV} (hk7 : ∀ (l1 : Int32) (S : SV), k7 a l1 (wr 9 a ρ S z) = (k7' l1 S).map (fun S => wr 9 a ρ S z)) (l1 : Int32) (S : SV) : bX10_findSets_7 k7 a l1 (wr 9 a ρ S z) = (gbX10_findSets_7 k7' l1 S).map (fun S => wr 9 a ρ S z) := by
  unfold bX10_findSets_7 gbX10_findSets_7
  refine ei (fun _ => ?_) (fun _ => ?_)
  · skip
    rfl
  · skip
    exact efX10_findSets_17 hz hk7 FU l1 (1 : Int32) (0 : Int32) S
def gfX10_findSets_7 : Nat → Int32 → SV → Option SV
  | 0, _, _ => none
  | n + 1, l1, S => gbX10_findSets_7 (gfX10_findSets_7 n) l1 S
theorem efX10_findSets_7 {a : Nat} {ρ : RV} {z : AH} (hz : a + szV 9 ≤ z.length) : ∀ (n : Nat) (l1 : Int32) (S : SV), fX10_findSets_7 n a l1 (wr 9 a ρ S z) = (gfX10_findSets_7 n l1 S).map (fun S => wr 9 a ρ S z) := by
  intro n
  induction n with
  | zero => intros; rfl
  | succ n ih => intro l1 S; exact ebX10_findSets_7 hz (fun l1 S => ih l1 S) l1 S
def gX10_findSets (S : SV) : Option SV :=
  nm (wI S 51 (0 : Int32)) fun S2 =>
  gfX10_findSets_7 FU (0 : Int32) S2
set_option maxRecDepth 100000 in
theorem eX10_findSets {a : Nat} {ρ : RV} {z : AH} (hz : a + szV 9 ≤ z.length) (S : SV) : fX10_findSets a (wr 9 a ρ S z) = (gX10_findSets S).map (fun S => wr 9 a ρ S z) := by
  unfold fX10_findSets gX10_findSets
  refine eo (isO_rd (rd_wr hz)) ?_
  refine ep (f := (fun S => wr 9 a ρ S z)) (pF_int hz rfl _) (fun S2 => ?_)
  exact efX10_findSets_7 hz FU (0 : Int32) S2
def gbX10_setAt_4 (k4 : Int32 → Int32 → Int32 → Option (Int32)) (l1 : Int32) (l2 : Int32) (l3 : Int32) (S : SV) : Option (Int32) :=
  if (16 : Int32) ≤ l3 then (
    some (-2 : Int32)
  ) else (
    if (fX10_has (S.1 51) l3) = (0 : Int32) then (
      nm (l3 + (1 : Int32)) fun v31 =>
      k4 l1 l2 v31
    ) else (
      if l2 = l1 then (
        some l3
      ) else (
        nm (l2 + (1 : Int32)) fun v28 =>
        nm (l3 + (1 : Int32)) fun v31 =>
        k4 l1 v28 v31
      )
    )
  )
set_option maxRecDepth 100000 in
theorem ebX10_setAt_4 {a : Nat} {ρ : RV} {S : SV} {z : AH} (hR : RD 9 a ρ S z) {k4 : Nat → Int32 → Int32 → Int32 → Option (Int32)} {k4' : Int32 → Int32 → Int32 → Option (Int32)} (hk4 : ∀ (l1 : Int32) (l2 : Int32) (l3 : Int32), k4 a l1 l2 l3 = k4' l1 l2 l3) (l1 : Int32) (l2 : Int32) (l3 : Int32) : bX10_setAt_4 k4 a l1 l2 l3 z = gbX10_setAt_4 k4' l1 l2 l3 S := by
  unfold bX10_setAt_4 gbX10_setAt_4
  refine ei0 (fun _ => ?_) (fun _ => ?_)
  · skip
    rfl
  · skip
    refine sb (gI_rd hR rfl) ?_
    refine ei0 (fun _ => ?_) (fun _ => ?_)
    · skip
      refine en0 (fun v31 => ?_)
      exact hk4 l1 l2 v31
    · skip
      refine ei0 (fun _ => ?_) (fun _ => ?_)
      · skip
        rfl
      · skip
        refine en0 (fun v28 => ?_)
        refine en0 (fun v31 => ?_)
        exact hk4 l1 v28 v31
def gfX10_setAt_4 (S : SV) : Nat → Int32 → Int32 → Int32 → Option (Int32)
  | 0, _, _, _ => none
  | n + 1, l1, l2, l3 => gbX10_setAt_4 (gfX10_setAt_4 S n) l1 l2 l3 S
theorem efX10_setAt_4 {a : Nat} {ρ : RV} {S : SV} {z : AH} (hR : RD 9 a ρ S z) : ∀ (n : Nat) (l1 : Int32) (l2 : Int32) (l3 : Int32), fX10_setAt_4 z n a l1 l2 l3 = gfX10_setAt_4 S n l1 l2 l3 := by
  intro n
  induction n with
  | zero => intros; rfl
  | succ n ih => intro l1 l2 l3; exact ebX10_setAt_4 hR (fun l1 l2 l3 => ih l1 l2 l3) l1 l2 l3
def gX10_setAt (l1 : Int32) (S : SV) : Option (Int32) :=
  gfX10_setAt_4 S FU l1 (0 : Int32) (0 : Int32)
set_option maxRecDepth 100000 in
theorem eX10_setAt {a : Nat} {ρ : RV} {S : SV} {z : AH} (hR : RD 9 a ρ S z) (l1 : Int32) : fX10_setAt a l1 z = gX10_setAt l1 S := by
  unfold fX10_setAt gX10_setAt
  refine eo (isO_rd hR) ?_
  exact efX10_setAt_4 hR FU l1 (0 : Int32) (0 : Int32)
def gbX10_ofSets_37 (k10 : Int32 → Int32 → Int32 → Int32 → Option (Int32)) (l1 : Int32) (l3 : Int32) (l4 : Int32) (s0 : Int32) (s1 : Int32) (S : SV) : Option (Int32) :=
  nm (s0 &&& s1) fun v38 =>
  if (fX10_has (S.1 51) l4) = (0 : Int32) then (
    nm (l4 + (1 : Int32)) fun v65 =>
    k10 l1 v38 l3 v65
  ) else (
    (fX10_ones l4).bind fun x54 =>
    nm (fX10_lesser l3 x54) fun v64 =>
    nm (l4 + (1 : Int32)) fun v65 =>
    k10 l1 v38 v64 v65
  )
set_option maxRecDepth 100000 in
theorem ebX10_ofSets_37 {a : Nat} {ρ : RV} {S : SV} {z : AH} (hR : RD 9 a ρ S z) {k10 : Nat → Int32 → Int32 → Int32 → Int32 → Option (Int32)} {k10' : Int32 → Int32 → Int32 → Int32 → Option (Int32)} (hk10 : ∀ (l1 : Int32) (l2 : Int32) (l3 : Int32) (l4 : Int32), k10 a l1 l2 l3 l4 = k10' l1 l2 l3 l4) (l1 : Int32) (l3 : Int32) (l4 : Int32) (s0 : Int32) (s1 : Int32) : bX10_ofSets_37 k10 a l1 l3 l4 s0 s1 z = gbX10_ofSets_37 k10' l1 l3 l4 s0 s1 S := by
  unfold bX10_ofSets_37 gbX10_ofSets_37
  refine en0 (fun v38 => ?_)
  refine sb (gI_rd hR rfl) ?_
  refine ei0 (fun _ => ?_) (fun _ => ?_)
  · skip
    refine en0 (fun v65 => ?_)
    exact hk10 l1 v38 l3 v65
  · skip
    refine eb0 rfl (fun x54 => ?_)
    refine en0 (fun v64 => ?_)
    refine en0 (fun v65 => ?_)
    exact hk10 l1 v38 v64 v65
def gbX10_ofSets_10 (k10 : Int32 → Int32 → Int32 → Int32 → Option (Int32)) (l1 : Int32) (l2 : Int32) (l3 : Int32) (l4 : Int32) (S : SV) : Option (Int32) :=
  if (16 : Int32) ≤ l4 then (
    if (S.1 51) = (0 : Int32) then (
      some (-1 : Int32)
    ) else (
      if l1 = (0 : Int32) then (
        some l3
      ) else (
        some l2
      )
    )
  ) else (
    if (fX10_has (S.1 51) l4) = (0 : Int32) then (
      gbX10_ofSets_37 k10 l1 l3 l4 l2 (15 : Int32) S
    ) else (
      gbX10_ofSets_37 k10 l1 l3 l4 l2 l4 S
    )
  )
set_option maxRecDepth 100000 in
theorem ebX10_ofSets_10 {a : Nat} {ρ : RV} {S : SV} {z : AH} (hR : RD 9 a ρ S z) {k10 : Nat → Int32 → Int32 → Int32 → Int32 → Option (Int32)} {k10' : Int32 → Int32 → Int32 → Int32 → Option (Int32)} (hk10 : ∀ (l1 : Int32) (l2 : Int32) (l3 : Int32) (l4 : Int32), k10 a l1 l2 l3 l4 = k10' l1 l2 l3 l4) (l1 : Int32) (l2 : Int32) (l3 : Int32) (l4 : Int32) : bX10_ofSets_10 k10 a l1 l2 l3 l4 z = gbX10_ofSets_10 k10' l1 l2 l3 l4 S := by
  unfold bX10_ofSets_10 gbX10_ofSets_10
  refine ei0 (fun _ => ?_) (fun _ => ?_)
  · skip
    refine sb (gI_rd hR rfl) ?_
    refine ei0 (fun _ => ?_) (fun _ => ?_)
    · skip
      rfl
    · skip
      refine ei0 (fun _ => ?_) (fun _ => ?_)
      · skip
        rfl
      · skip
        rfl
  · skip
    refine sb (gI_rd hR rfl) ?_
    refine ei0 (fun _ => ?_) (fun _ => ?_)
    · skip
      exact ebX10_ofSets_37 hR hk10 l1 l3 l4 l2 (15 : Int32)
    · skip
      exact ebX10_ofSets_37 hR hk10 l1 l3 l4 l2 l4
def gfX10_ofSets_10 (S : SV) : Nat → Int32 → Int32 → Int32 → Int32 → Option (Int32)
  | 0, _, _, _, _ => none
  | n + 1, l1, l2, l3, l4 => gbX10_ofSets_10 (gfX10_ofSets_10 S n) l1 l2 l3 l4 S
theorem efX10_ofSets_10 {a : Nat} {ρ : RV} {S : SV} {z : AH} (hR : RD 9 a ρ S z) : ∀ (n : Nat) (l1 : Int32) (l2 : Int32) (l3 : Int32) (l4 : Int32), fX10_ofSets_10 z n a l1 l2 l3 l4 = gfX10_ofSets_10 S n l1 l2 l3 l4 := by
  intro n
  induction n with
  | zero => intros; rfl
  | succ n ih => intro l1 l2 l3 l4; exact ebX10_ofSets_10 hR (fun l1 l2 l3 l4 => ih l1 l2 l3 l4) l1 l2 l3 l4
def gX10_ofSets (l1 : Int32) (S : SV) : Option (Int32) :=
  gfX10_ofSets_10 S FU l1 (15 : Int32) (1000000 : Int32) (0 : Int32)
set_option maxRecDepth 100000 in
theorem eX10_ofSets {a : Nat} {ρ : RV} {S : SV} {z : AH} (hR : RD 9 a ρ S z) (l1 : Int32) : fX10_ofSets a l1 z = gX10_ofSets l1 S := by
  unfold fX10_ofSets gX10_ofSets
  refine eo (isO_rd hR) ?_
  exact efX10_ofSets_10 hR FU l1 (15 : Int32) (1000000 : Int32) (0 : Int32)
def gbX10_words_83 (s1 : Int32) (S : SV) : Option (Int32 × SV) :=
  (gX10_ofSets s1 S).bind fun x83 =>
  some (x83, S)
set_option maxRecDepth 100000 in
theorem ebX10_words_83 {a : Nat} {ρ : RV} {z : AH} (hz : a + szV 9 ≤ z.length) (s1 : Int32) (S : SV) : bX10_words_83 a s1 (wr 9 a ρ S z) = (gbX10_words_83 s1 S).map (fun q => (q.1, wr 9 a ρ q.2 z)) := by
  unfold bX10_words_83 gbX10_words_83
  refine eb (eX10_ofSets (rd_wr hz) s1) (fun x83 => ?_)
  rfl
def gX10_words (l1 : Int32) (l2 : Int32) (S : SV) : Option (Int32 × SV) :=
  nm (wI S 0 (0 : Int32)) fun S2 =>
  b2 (gX10_hasFight l1 S2) fun x7 S7 =>
  if x7 = (0 : Int32) then (
    some ((-2 : Int32), S7)
  ) else (
    (gX10_findSets S7).bind fun S17 =>
    if l2 < (10 : Int32) then (
      if l2 = (0 : Int32) then (
        (fX10_manyOf (S17.1 51)).bind fun x68 =>
        some (x68, S17)
      ) else (
        if l2 = (1 : Int32) then (
          if l2 = (1 : Int32) then (
            gbX10_words_83 (1 : Int32) S17
          ) else (
            gbX10_words_83 (0 : Int32) S17
          )
        ) else (
          if l2 = (2 : Int32) then (
            if l2 = (1 : Int32) then (
              gbX10_words_83 (1 : Int32) S17
            ) else (
              gbX10_words_83 (0 : Int32) S17
            )
          ) else (
            some ((-2 : Int32), S17)
          )
        )
      )
    ) else (
      (gX10_setAt (l2 - (10 : Int32)) S17).bind fun x31 =>
      some (x31, S17)
    )
  )
set_option maxRecDepth 100000 in
theorem eX10_words {a : Nat} {ρ : RV} {z : AH} (hz : a + szV 9 ≤ z.length) (l1 : Int32) (l2 : Int32) (S : SV) : fX10_words a l1 l2 (wr 9 a ρ S z) = (gX10_words l1 l2 S).map (fun q => (q.1, wr 9 a ρ q.2 z)) := by
  unfold fX10_words gX10_words
  refine eo (isO_rd (rd_wr hz)) ?_
  refine ep (f := (fun S => wr 9 a ρ S z)) (pF_int hz rfl _) (fun S2 => ?_)
  refine e2m (f := (fun S => wr 9 a ρ S z)) (eX10_hasFight hz l1 S2) (fun x7 S7 => ?_)
  refine ei (fun _ => ?_) (fun _ => ?_)
  · skip
    rfl
  · skip
    refine em (f := (fun S => wr 9 a ρ S z)) (eX10_findSets hz S7) (fun S17 => ?_)
    refine ei (fun _ => ?_) (fun _ => ?_)
    · skip
      refine ei (fun _ => ?_) (fun _ => ?_)
      · skip
        refine sb (gI_rd (rd_wr hz) rfl) ?_
        refine eb rfl (fun x68 => ?_)
        rfl
      · skip
        refine ei (fun _ => ?_) (fun _ => ?_)
        · skip
          refine ei (fun _ => ?_) (fun _ => ?_)
          · skip
            exact ebX10_words_83 hz (1 : Int32) S17
          · skip
            exact ebX10_words_83 hz (0 : Int32) S17
        · skip
          refine ei (fun _ => ?_) (fun _ => ?_)
          · skip
            refine ei (fun _ => ?_) (fun _ => ?_)
            · skip
              exact ebX10_words_83 hz (1 : Int32) S17
            · skip
              exact ebX10_words_83 hz (0 : Int32) S17
          · skip
            rfl
    · skip
      refine eb (eX10_setAt (rd_wr hz) (l2 - (10 : Int32))) (fun x31 => ?_)
      rfl
def gX10_draw (l1 : Int32) (S : SV) : Option (Int32 × SV) :=
  nm (wI S 52 (((S.1 52) * (1103515245 : Int32)) + (12345 : Int32))) fun S13 =>
  if ¬ l1 = 0 then (
    some ((irem (ush (S13.1 52) (16 : Int32)) l1), S13)
  ) else (
    none
  )
set_option maxRecDepth 100000 in
theorem eX10_draw {a : Nat} {ρ : RV} {z : AH} (hz : a + szV 9 ≤ z.length) (l1 : Int32) (S : SV) : fX10_draw a l1 (wr 9 a ρ S z) = (gX10_draw l1 S).map (fun q => (q.1, wr 9 a ρ q.2 z)) := by
  unfold fX10_draw gX10_draw
  refine eo (isO_rd (rd_wr hz)) ?_
  refine sb (gI_rd (rd_wr hz) rfl) ?_
  refine ep (f := (fun S => wr 9 a ρ S z)) (pF_int hz rfl _) (fun S13 => ?_)
  refine sb (gI_rd (rd_wr hz) rfl) ?_
  refine ei (fun _ => ?_) (fun _ => ?_)
  · skip
    rfl
  · skip
    rfl
