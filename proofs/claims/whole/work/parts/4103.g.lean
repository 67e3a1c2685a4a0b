def gbX10_drawDeed_83 (s1 : Int32) (s2 : Int32) (S : SV) : Option SV :=
  b2 (gX10_turns s1 s2 S) fun x83 S83 =>
  some S83
set_option maxRecDepth 100000 in
theorem ebX10_drawDeed_83 {a : Nat} {ρ : RV} {z : AH} (hz : a + szV 9 ≤ z.length) (s1 : Int32) (s2 : Int32) (S : SV) : bX10_drawDeed_83 a s1 s2 (wr 9 a ρ S z) = (gbX10_drawDeed_83 s1 s2 S).map (fun S => wr 9 a ρ S z) := by
  unfold bX10_drawDeed_83 gbX10_drawDeed_83
  refine e2m (f := (fun S => wr 9 a ρ S z)) (eX10_turns hz s1 s2 S) (fun x83 S83 => ?_)
  rfl
def gX10_drawDeed (S : SV) : Option SV :=
  b2 (gX10_draw (8 : Int32) S) fun x3 S3 =>
  if (3 : Int32) ≤ x3 then (
    if (5 : Int32) ≤ x3 then (
      if x3 = (5 : Int32) then (
        if (S3.1 26) ≤ (0 : Int32) then (
          some S3
        ) else (
          b2 (gX10_draw (S3.1 26) S3) fun x108 S108 =>
          b2 (gX10_forges x108 S108) fun x111 S111 =>
          some S111
        )
      ) else (
        b2 (gX10_does (4 : Int32) (-1 : Int32) (-1 : Int32) S3) fun x122 S122 =>
        some S122
      )
    ) else (
      if (S3.1 27) ≤ (0 : Int32) then (
        some S3
      ) else (
        b2 (gX10_draw (S3.1 27) S3) fun x70 S70 =>
        if x3 = (4 : Int32) then (
          gbX10_drawDeed_83 x70 (1 : Int32) S70
        ) else (
          gbX10_drawDeed_83 x70 (0 : Int32) S70
        )
      )
    )
  ) else (
    if (S3.1 27) ≤ (0 : Int32) then (
      some S3
    ) else (
      if (S3.1 26) ≤ (0 : Int32) then (
        some S3
      ) else (
        b2 (gX10_draw (S3.1 27) S3) fun x31 S31 =>
        b2 (gX10_draw (S31.1 26) S31) fun x42 S42 =>
        b2 (gX10_looks x31 x42 S42) fun x45 S45 =>
        some S45
      )
    )
  )
set_option maxRecDepth 100000 in
theorem eX10_drawDeed {a : Nat} {ρ : RV} {z : AH} (hz : a + szV 9 ≤ z.length) (S : SV) : fX10_drawDeed a (wr 9 a ρ S z) = (gX10_drawDeed S).map (fun S => wr 9 a ρ S z) := by
  unfold fX10_drawDeed gX10_drawDeed
  refine eo (isO_rd (rd_wr hz)) ?_
  refine e2m (f := (fun S => wr 9 a ρ S z)) (eX10_draw hz (8 : Int32) S) (fun x3 S3 => ?_)
  refine ei (fun _ => ?_) (fun _ => ?_)
  · skip
    refine ei (fun _ => ?_) (fun _ => ?_)
    · skip
      refine ei (fun _ => ?_) (fun _ => ?_)
      · skip
        refine sb (gI_rd (rd_wr hz) rfl) ?_
        refine ei (fun _ => ?_) (fun _ => ?_)
        · skip
          rfl
        · skip
          refine sb (gI_rd (rd_wr hz) rfl) ?_
          refine e2m (f := (fun S => wr 9 a ρ S z)) (eX10_draw hz (S3.1 26) S3) (fun x108 S108 => ?_)
          refine e2m (f := (fun S => wr 9 a ρ S z)) (eX10_forges hz x108 S108) (fun x111 S111 => ?_)
          rfl
      · skip
        refine e2m (f := (fun S => wr 9 a ρ S z)) (eX10_does hz (4 : Int32) (-1 : Int32) (-1 : Int32) S3) (fun x122 S122 => ?_)
        rfl
    · skip
      refine sb (gI_rd (rd_wr hz) rfl) ?_
      refine ei (fun _ => ?_) (fun _ => ?_)
      · skip
        rfl
      · skip
        refine sb (gI_rd (rd_wr hz) rfl) ?_
        refine e2m (f := (fun S => wr 9 a ρ S z)) (eX10_draw hz (S3.1 27) S3) (fun x70 S70 => ?_)
        refine ei (fun _ => ?_) (fun _ => ?_)
        · skip
          exact ebX10_drawDeed_83 hz x70 (1 : Int32) S70
        · skip
          exact ebX10_drawDeed_83 hz x70 (0 : Int32) S70
  · skip
    refine sb (gI_rd (rd_wr hz) rfl) ?_
    refine ei (fun _ => ?_) (fun _ => ?_)
    · skip
      rfl
    · skip
      refine sb (gI_rd (rd_wr hz) rfl) ?_
      refine ei (fun _ => ?_) (fun _ => ?_)
      · skip
        rfl
      · skip
        refine sb (gI_rd (rd_wr hz) rfl) ?_
        refine e2m (f := (fun S => wr 9 a ρ S z)) (eX10_draw hz (S3.1 27) S3) (fun x31 S31 => ?_)
        refine sb (gI_rd (rd_wr hz) rfl) ?_
        refine e2m (f := (fun S => wr 9 a ρ S z)) (eX10_draw hz (S31.1 26) S31) (fun x42 S42 => ?_)
        refine e2m (f := (fun S => wr 9 a ρ S z)) (eX10_looks hz x31 x42 S42) (fun x45 S45 => ?_)
        rfl
def gbX10_drawn_34 (k34 : Int32 → Int32 → Int32 → SV → Option (Int32 × SV)) (l3 : Int32) (l4 : Int32) (l5 : Int32) (S : SV) : Option (Int32 × SV) :=
  if l3 ≤ l5 then (
    (gX10_ofState l4 S).bind fun x53 =>
    some (x53, S)
  ) else (
    (gX10_drawDeed S).bind fun S41 =>
    nm (l5 + (1 : Int32)) fun v44 =>
    k34 l3 l4 v44 S41
  )
set_option maxRecDepth 100000 in
theorem ebX10_drawn_34 {a : Nat} {ρ : RV} {z : AH} (hz : a + szV 9 ≤ z.length) {k34 : Nat → Int32 → Int32 → Int32 → AH → Option (Int32 × AH)} {k34' : Int32 → Int32 → Int32 → SV → Option (Int32 × SV)} (hk34 : ∀ (l3 : Int32) (l4 : Int32) (l5 : Int32) (S : SV), k34 a l3 l4 l5 (wr 9 a ρ S z) = (k34' l3 l4 l5 S).map (fun q => (q.1, wr 9 a ρ q.2 z))) (l3 : Int32) (l4 : Int32) (l5 : Int32) (S : SV) : bX10_drawn_34 k34 a l3 l4 l5 (wr 9 a ρ S z) = (gbX10_drawn_34 k34' l3 l4 l5 S).map (fun q => (q.1, wr 9 a ρ q.2 z)) := by
  unfold bX10_drawn_34 gbX10_drawn_34
  refine ei (fun _ => ?_) (fun _ => ?_)
  · skip
    refine eb (eX10_ofState (rd_wr hz) l4) (fun x53 => ?_)
    rfl
  · skip
    refine em (f := (fun S => wr 9 a ρ S z)) (eX10_drawDeed hz S) (fun S41 => ?_)
    refine en (fun v44 => ?_)
    exact hk34 l3 l4 v44 S41
def gfX10_drawn_34 : Nat → Int32 → Int32 → Int32 → SV → Option (Int32 × SV)
  | 0, _, _, _, _ => none
  | n + 1, l3, l4, l5, S => gbX10_drawn_34 (gfX10_drawn_34 n) l3 l4 l5 S
theorem efX10_drawn_34 {a : Nat} {ρ : RV} {z : AH} (hz : a + szV 9 ≤ z.length) : ∀ (n : Nat) (l3 : Int32) (l4 : Int32) (l5 : Int32) (S : SV), fX10_drawn_34 n a l3 l4 l5 (wr 9 a ρ S z) = (gfX10_drawn_34 n l3 l4 l5 S).map (fun q => (q.1, wr 9 a ρ q.2 z)) := by
  intro n
  induction n with
  | zero => intros; rfl
  | succ n ih => intro l3 l4 l5 S; exact ebX10_drawn_34 hz (fun l3 l4 l5 S => ih l3 l4 l5 S) l3 l4 l5 S
def gX10_drawn (l1 : Int32) (l2 : Int32) (l3 : Int32) (l4 : Int32) (S : SV) : Option (Int32 × SV) :=
  nm (wI S 0 (0 : Int32)) fun S2 =>
  if (fX10_in l3 (0 : Int32) (60 : Int32)) = (0 : Int32) then (
    some ((-2 : Int32), S2)
  ) else (
    b2 (gX10_hand l1 S2) fun x17 S17 =>
    if x17 = (0 : Int32) then (
      some ((-2 : Int32), S17)
    ) else (
      nm (wI S17 52 l2) fun S28 =>
      gfX10_drawn_34 FU l3 l4 (0 : Int32) S28
    )
  )
set_option maxRecDepth 100000 in
theorem eX10_drawn {a : Nat} {ρ : RV} {z : AH} (hz : a + szV 9 ≤ z.length) (l1 : Int32) (l2 : Int32) (l3 : Int32) (l4 : Int32) (S : SV) : fX10_drawn a l1 l2 l3 l4 (wr 9 a ρ S z) = (gX10_drawn l1 l2 l3 l4 S).map (fun q => (q.1, wr 9 a ρ q.2 z)) := by
  unfold fX10_drawn gX10_drawn
  refine eo (isO_rd (rd_wr hz)) ?_
  refine ep (f := (fun S => wr 9 a ρ S z)) (pF_int hz rfl _) (fun S2 => ?_)
  refine ei (fun _ => ?_) (fun _ => ?_)
  · skip
    rfl
  · skip
    refine e2m (f := (fun S => wr 9 a ρ S z)) (eX10_hand hz l1 S2) (fun x17 S17 => ?_)
    refine ei (fun _ => ?_) (fun _ => ?_)
    · skip
      rfl
    · skip
      refine ep (f := (fun S => wr 9 a ρ S z)) (pF_int hz rfl _) (fun S28 => ?_)
      exact efX10_drawn_34 hz FU l3 l4 (0 : Int32) S28
def gbX10_need_59 (k36 : Int32 → Int32 → Int32 → SV → Option (Int32 × SV)) (k59 : Int32 → Int32 → Int32 → SV → Option (Int32 × SV)) (l2 : Int32) (l3 : Int32) (l4 : Int32) (S : SV) : Option (Int32 × SV) :=
  if l3 ≤ (S.1 37) then (
    if (fX10_has (S.1 31) l2) = (0 : Int32) then (
      some (l4, S)
    ) else (
      nm (l4 + (1 : Int32)) fun v88 =>
      k36 l2 l3 v88 S
    )
  ) else (
    (gX10_goesOn S).bind fun S68 =>
    k59 l2 l3 l4 S68
  )
set_option maxRecDepth 100000 in
theorem ebX10_need_59 {a : Nat} {ρ : RV} {z : AH} (hz : a + szV 9 ≤ z.length) {k36 : Nat → Int32 → Int32 → Int32 → AH → Option (Int32 × AH)} {k36' : Int32 → Int32 → Int32 → SV → Option (Int32 × SV)} {k59 : Nat → Int32 → Int32 → Int32 → AH → Option (Int32 × AH)} {k59' : Int32 → Int32 → Int32 → SV → Option (Int32 × SV)} (hk36 : ∀ (l2 : Int32) (l3 : Int32) (l4 : Int32) (S : SV), k36 a l2 l3 l4 (wr 9 a ρ S z) = (k36' l2 l3 l4 S).map (fun q => (q.1, wr 9 a ρ q.2 z))) (hk59 : ∀ (l2 : Int32) (l3 : Int32) (l4 : Int32) (S : SV), k59 a l2 l3 l4 (wr 9 a ρ S z) = (k59' l2 l3 l4 S).map (fun q => (q.1, wr 9 a ρ q.2 z))) (l2 : Int32) (l3 : Int32) (l4 : Int32) (S : SV) : bX10_need_59 k36 k59 a l2 l3 l4 (wr 9 a ρ S z) = (gbX10_need_59 k36' k59' l2 l3 l4 S).map (fun q => (q.1, wr 9 a ρ q.2 z)) := by
  unfold bX10_need_59 gbX10_need_59
  refine sb (gI_rd (rd_wr hz) rfl) ?_
  refine ei (fun _ => ?_) (fun _ => ?_)
  · skip
    refine sb (gI_rd (rd_wr hz) rfl) ?_
    refine ei (fun _ => ?_) (fun _ => ?_)
    · skip
      rfl
    · skip
      refine en (fun v88 => ?_)
      exact hk36 l2 l3 v88 S
  · skip
    refine em (f := (fun S => wr 9 a ρ S z)) (eX10_goesOn hz S) (fun S68 => ?_)
    exact hk59 l2 l3 l4 S68
def gfX10_need_59 (k36 : Int32 → Int32 → Int32 → SV → Option (Int32 × SV)) : Nat → Int32 → Int32 → Int32 → SV → Option (Int32 × SV)
  | 0, _, _, _, _ => none
  | n + 1, l2, l3, l4, S => gbX10_need_59 k36 (gfX10_need_59 k36 n) l2 l3 l4 S
theorem efX10_need_59 {a : Nat} {ρ : RV} {z : AH} (hz : a + szV 9 ≤ z.length) {k36 : Nat → Int32 → Int32 → Int32 → AH → Option (Int32 × AH)} {k36' : Int32 → Int32 → Int32 → SV → Option (Int32 × SV)} (hk36 : ∀ (l2 : Int32) (l3 : Int32) (l4 : Int32) (S : SV), k36 a l2 l3 l4 (wr 9 a ρ S z) = (k36' l2 l3 l4 S).map (fun q => (q.1, wr 9 a ρ q.2 z))) : ∀ (n : Nat) (l2 : Int32) (l3 : Int32) (l4 : Int32) (S : SV), fX10_need_59 k36 n a l2 l3 l4 (wr 9 a ρ S z) = (gfX10_need_59 k36' n l2 l3 l4 S).map (fun q => (q.1, wr 9 a ρ q.2 z)) := by
  intro n
  induction n with
  | zero => intros; rfl
  | succ n ih => intro l2 l3 l4 S; exact ebX10_need_59 hz hk36 (fun l2 l3 l4 S => ih l2 l3 l4 S) l2 l3 l4 S
def gbX10_need_36 (k36 : Int32 → Int32 → Int32 → SV → Option (Int32 × SV)) (l2 : Int32) (l3 : Int32) (l4 : Int32) (S : SV) : Option (Int32 × SV) :=
  if (99 : Int32) < l4 then (
    some ((-1 : Int32), S)
  ) else (
    (gX10_begin S).bind fun S44 =>
    (wA 28 8 S44 l2 l4).bind fun S54 =>
    (gX10_falls S54).bind fun S56 =>
    gfX10_need_59 k36 FU l2 l3 l4 S56
  )
set_option maxRecDepth 100000 in
theorem ebX10_need_36 {a : Nat} {ρ : RV} {z : AH} (hz : a + szV 9 ≤ z.length) {k36 : Nat → Int32 → Int32 → Int32 → AH → Option (Int32 × AH)} {k36' : Int32 → Int32 → Int32 → SV → Option (Int32 × SV)} (hk36 : ∀ (l2 : Int32) (l3 : Int32) (l4 : Int32) (S : SV), k36 a l2 l3 l4 (wr 9 a ρ S z) = (k36' l2 l3 l4 S).map (fun q => (q.1, wr 9 a ρ q.2 z))) (l2 : Int32) (l3 : Int32) (l4 : Int32) (S : SV) : bX10_need_36 k36 a l2 l3 l4 (wr 9 a ρ S z) = (gbX10_need_36 k36' l2 l3 l4 S).map (fun q => (q.1, wr 9 a ρ q.2 z)) := by
  unfold bX10_need_36 gbX10_need_36
  refine ei (fun _ => ?_) (fun _ => ?_)
  · skip
    rfl
  · skip
    refine em (f := (fun S => wr 9 a ρ S z)) (eX10_begin hz S) (fun S44 => ?_)
    refine sb (gN_rd (rd_wr hz) rfl (Or.inl rfl)) ?_
    refine em (f := (fun S => wr 9 a ρ S z)) (stI_rd rkOk9 hz (k := 28) rfl rfl (by decide) 0 rfl (by decide) _ _) (fun S54 => ?_)
    refine em (f := (fun S => wr 9 a ρ S z)) (eX10_falls hz S54) (fun S56 => ?_)
    exact efX10_need_59 hz hk36 FU l2 l3 l4 S56
def gfX10_need_36 : Nat → Int32 → Int32 → Int32 → SV → Option (Int32 × SV)
  | 0, _, _, _, _ => none
  | n + 1, l2, l3, l4, S => gbX10_need_36 (gfX10_need_36 n) l2 l3 l4 S
theorem efX10_need_36 {a : Nat} {ρ : RV} {z : AH} (hz : a + szV 9 ≤ z.length) : ∀ (n : Nat) (l2 : Int32) (l3 : Int32) (l4 : Int32) (S : SV), fX10_need_36 n a l2 l3 l4 (wr 9 a ρ S z) = (gfX10_need_36 n l2 l3 l4 S).map (fun q => (q.1, wr 9 a ρ q.2 z)) := by
  intro n
  induction n with
  | zero => intros; rfl
  | succ n ih => intro l2 l3 l4 S; exact ebX10_need_36 hz (fun l2 l3 l4 S => ih l2 l3 l4 S) l2 l3 l4 S
def gX10_need (l1 : Int32) (l2 : Int32) (l3 : Int32) (S : SV) : Option (Int32 × SV) :=
  nm (wI S 0 (0 : Int32)) fun S2 =>
  if (fX10_in l3 (0 : Int32) (99 : Int32)) = (0 : Int32) then (
    some ((-1 : Int32), S2)
  ) else (
    b2 (gX10_hand l1 S2) fun x17 S17 =>
    if x17 = (0 : Int32) then (
      some ((-1 : Int32), S17)
    ) else (
      (gX10_isThing l2 S17).bind fun x25 =>
      if x25 = (0 : Int32) then (
        some ((-1 : Int32), S17)
      ) else (
        gfX10_need_36 FU l2 l3 (0 : Int32) S17
      )
    )
  )
set_option maxRecDepth 100000 in
theorem eX10_need {a : Nat} {ρ : RV} {z : AH} (hz : a + szV 9 ≤ z.length) (l1 : Int32) (l2 : Int32) (l3 : Int32) (S : SV) : fX10_need a l1 l2 l3 (wr 9 a ρ S z) = (gX10_need l1 l2 l3 S).map (fun q => (q.1, wr 9 a ρ q.2 z)) := by
  unfold fX10_need gX10_need
  refine eo (isO_rd (rd_wr hz)) ?_
  refine ep (f := (fun S => wr 9 a ρ S z)) (pF_int hz rfl _) (fun S2 => ?_)
  refine ei (fun _ => ?_) (fun _ => ?_)
  · skip
    rfl
  · skip
    refine e2m (f := (fun S => wr 9 a ρ S z)) (eX10_hand hz l1 S2) (fun x17 S17 => ?_)
    refine ei (fun _ => ?_) (fun _ => ?_)
    · skip
      rfl
    · skip
      refine eb (eX10_isThing (rd_wr hz) l2) (fun x25 => ?_)
      refine ei (fun _ => ?_) (fun _ => ?_)
      · skip
        rfl
      · skip
        exact efX10_need_36 hz FU l2 l3 (0 : Int32) S17
def gbX10_keystone_81 (k24 : Int32 → Int32 → Int32 → Int32 → SV → Option (Int32 × SV)) (l2 : Int32) (l4 : Int32) (l5 : Int32) (l6 : Int32) (s0 : Int32) (S : SV) : Option (Int32 × SV) :=
  nm (fX10_greater l4 l6) fun v89 =>
  nm (l5 + (1 : Int32)) fun v91 =>
  k24 l2 s0 v89 v91 S
set_option maxRecDepth 100000 in
theorem ebX10_keystone_81 {a : Nat} {ρ : RV} {z : AH} (hz : a + szV 9 ≤ z.length) {k24 : Nat → Int32 → Int32 → Int32 → Int32 → AH → Option (Int32 × AH)} {k24' : Int32 → Int32 → Int32 → Int32 → SV → Option (Int32 × SV)} (hk24 : ∀ (l2 : Int32) (l3 : Int32) (l4 : Int32) (l5 : Int32) (S : SV), k24 a l2 l3 l4 l5 (wr 9 a ρ S z) = (k24' l2 l3 l4 l5 S).map (fun q => (q.1, wr 9 a ρ q.2 z))) (l2 : Int32) (l4 : Int32) (l5 : Int32) (l6 : Int32) (s0 : Int32) (S : SV) : bX10_keystone_81 k24 a l2 l4 l5 l6 s0 (wr 9 a ρ S z) = (gbX10_keystone_81 k24' l2 l4 l5 l6 s0 S).map (fun q => (q.1, wr 9 a ρ q.2 z)) := by
  unfold bX10_keystone_81 gbX10_keystone_81
  refine en (fun v89 => ?_)
  refine en (fun v91 => ?_)
  exact hk24 l2 s0 v89 v91 S
def gbX10_keystone_66 (k24 : Int32 → Int32 → Int32 → Int32 → SV → Option (Int32 × SV)) (l2 : Int32) (l3 : Int32) (l4 : Int32) (l5 : Int32) (s0 : Int32) (S : SV) : Option (Int32 × SV) :=
  if s0 ≤ l4 then (
    gbX10_keystone_81 k24 l2 l4 l5 s0 l3 S
  ) else (
    gbX10_keystone_81 k24 l2 l4 l5 s0 l5 S
  )
set_option maxRecDepth 100000 in
theorem ebX10_keystone_66 {a : Nat} {ρ : RV} {z : AH} (hz : a + szV 9 ≤ z.length) {k24 : Nat → Int32 → Int32 → Int32 → Int32 → AH → Option (Int32 × AH)} {k24' : Int32 → Int32 → Int32 → Int32 → SV → Option (Int32 × SV)} (hk24 : ∀ (l2 : Int32) (l3 : Int32) (l4 : Int32) (l5 : Int32) (S : SV), k24 a l2 l3 l4 l5 (wr 9 a ρ S z) = (k24' l2 l3 l4 l5 S).map (fun q => (q.1, wr 9 a ρ q.2 z))) (l2 : Int32) (l3 : Int32) (l4 : Int32) (l5 : Int32) (s0 : Int32) (S : SV) : bX10_keystone_66 k24 a l2 l3 l4 l5 s0 (wr 9 a ρ S z) = (gbX10_keystone_66 k24' l2 l3 l4 l5 s0 S).map (fun q => (q.1, wr 9 a ρ q.2 z)) := by
  unfold bX10_keystone_66 gbX10_keystone_66
  refine ei (fun _ => ?_) (fun _ => ?_)
  · skip
    exact ebX10_keystone_81 hz hk24 l2 l4 l5 s0 l3 S
  · skip
    exact ebX10_keystone_81 hz hk24 l2 l4 l5 s0 l5 S
def gbX10_keystone_24 (k24 : Int32 → Int32 → Int32 → Int32 → SV → Option (Int32 × SV)) (l2 : Int32) (l3 : Int32) (l4 : Int32) (l5 : Int32) (S : SV) : Option (Int32 × SV) :=
  if (S.1 26) ≤ l5 then (
    if l2 = (0 : Int32) then (
      some (l3, S)
    ) else (
      some (l4, S)
    )
  ) else (
    if (fX10_has (S.1 31) l5) = (0 : Int32) then (
      (rA 8 (S.2.1 30) l5).bind fun x55 =>
      (fX10_ones (x55 &&& ((S.1 31) ^^^ (-1 : Int32)))).bind fun x63 =>
      gbX10_keystone_66 k24 l2 l3 l4 l5 x63 S
    ) else (
      gbX10_keystone_66 k24 l2 l3 l4 l5 (-1 : Int32) S
    )
  )
set_option maxRecDepth 100000 in
theorem ebX10_keystone_24 {a : Nat} {ρ : RV} {z : AH} (hz : a + szV 9 ≤ z.length) {k24 : Nat → Int32 → Int32 → Int32 → Int32 → AH → Option (Int32 × AH)} {k24' : Int32 → Int32 → Int32 → Int32 → SV → Option (Int32 × SV)} (hk24 : ∀ (l2 : Int32) (l3 : Int32) (l4 : Int32) (l5 : Int32) (S : SV), k24 a l2 l3 l4 l5 (wr 9 a ρ S z) = (k24' l2 l3 l4 l5 S).map (fun q => (q.1, wr 9 a ρ q.2 z))) (l2 : Int32) (l3 : Int32) (l4 : Int32) (l5 : Int32) (S : SV) : bX10_keystone_24 k24 a l2 l3 l4 l5 (wr 9 a ρ S z) = (gbX10_keystone_24 k24' l2 l3 l4 l5 S).map (fun q => (q.1, wr 9 a ρ q.2 z)) := by
  unfold bX10_keystone_24 gbX10_keystone_24
  refine sb (gI_rd (rd_wr hz) rfl) ?_
  refine ei (fun _ => ?_) (fun _ => ?_)
  · skip
    refine ei (fun _ => ?_) (fun _ => ?_)
    · skip
      rfl
    · skip
      rfl
  · skip
    refine sb (gI_rd (rd_wr hz) rfl) ?_
    refine ei (fun _ => ?_) (fun _ => ?_)
    · skip
      refine sb (gN_rd (rd_wr hz) rfl (Or.inl rfl)) ?_
      refine eb (ixI_rd (rd_wr hz) (k := 30) rfl rfl (by decide) 0 rfl (by decide) _) (fun x55 => ?_)
      refine sb (gI_rd (rd_wr hz) rfl) ?_
      refine eb rfl (fun x63 => ?_)
      exact ebX10_keystone_66 hz hk24 l2 l3 l4 l5 x63 S
    · skip
      exact ebX10_keystone_66 hz hk24 l2 l3 l4 l5 (-1 : Int32) S
def gfX10_keystone_24 : Nat → Int32 → Int32 → Int32 → Int32 → SV → Option (Int32 × SV)
  | 0, _, _, _, _, _ => none
  | n + 1, l2, l3, l4, l5, S => gbX10_keystone_24 (gfX10_keystone_24 n) l2 l3 l4 l5 S
theorem efX10_keystone_24 {a : Nat} {ρ : RV} {z : AH} (hz : a + szV 9 ≤ z.length) : ∀ (n : Nat) (l2 : Int32) (l3 : Int32) (l4 : Int32) (l5 : Int32) (S : SV), fX10_keystone_24 n a l2 l3 l4 l5 (wr 9 a ρ S z) = (gfX10_keystone_24 n l2 l3 l4 l5 S).map (fun q => (q.1, wr 9 a ρ q.2 z)) := by
  intro n
  induction n with
  | zero => intros; rfl
  | succ n ih => intro l2 l3 l4 l5 S; exact ebX10_keystone_24 hz (fun l2 l3 l4 l5 S => ih l2 l3 l4 l5 S) l2 l3 l4 l5 S
def gX10_keystone (l1 : Int32) (l2 : Int32) (S : SV) : Option (Int32 × SV) :=
  nm (wI S 0 (0 : Int32)) fun S2 =>
  b2 (gX10_hand l1 S2) fun x7 S7 =>
  if x7 = (0 : Int32) then (
    some ((-2 : Int32), S7)
  ) else (
    gfX10_keystone_24 FU l2 (-1 : Int32) (-1 : Int32) (0 : Int32) S7
  )
set_option maxRecDepth 100000 in
theorem eX10_keystone {a : Nat} {ρ : RV} {z : AH} (hz : a + szV 9 ≤ z.length) (l1 : Int32) (l2 : Int32) (S : SV) : fX10_keystone a l1 l2 (wr 9 a ρ S z) = (gX10_keystone l1 l2 S).map (fun q => (q.1, wr 9 a ρ q.2 z)) := by
  unfold fX10_keystone gX10_keystone
  refine eo (isO_rd (rd_wr hz)) ?_
  refine ep (f := (fun S => wr 9 a ρ S z)) (pF_int hz rfl _) (fun S2 => ?_)
  refine e2m (f := (fun S => wr 9 a ρ S z)) (eX10_hand hz l1 S2) (fun x7 S7 => ?_)
  refine ei (fun _ => ?_) (fun _ => ?_)
  · skip
    rfl
  · skip
    exact efX10_keystone_24 hz FU l2 (-1 : Int32) (-1 : Int32) (0 : Int32) S7
def gbX10_highest_32 (k4 : Int32 → Int32 → Option (Int32)) (k32 : Int32 → Int32 → Int32 → Int32 → Option (Int32)) (l1 : Int32) (l2 : Int32) (l3 : Int32) (l4 : Int32) (S : SV) : Option (Int32) :=
  if l4 = (-1 : Int32) then (
    nm (fX10_greater l1 l3) fun v60 =>
    nm (l2 + (1 : Int32)) fun v61 =>
    k4 v60 v61
  ) else (
    nm (l3 + (1 : Int32)) fun v38 =>
    (gX10_of ((30 : Int32) + l4) S).bind fun x47 =>
    k32 l1 l2 v38 x47
  )
set_option maxRecDepth 100000 in
theorem ebX10_highest_32 {a : Nat} {ρ : RV} {S : SV} {z : AH} (hR : RD 9 a ρ S z) {k4 : Nat → Int32 → Int32 → Option (Int32)} {k4' : Int32 → Int32 → Option (Int32)} {k32 : Nat → Int32 → Int32 → Int32 → Int32 → Option (Int32)} {k32' : Int32 → Int32 → Int32 → Int32 → Option (Int32)} (hk4 : ∀ (l1 : Int32) (l2 : Int32), k4 a l1 l2 = k4' l1 l2) (hk32 : ∀ (l1 : Int32) (l2 : Int32) (l3 : Int32) (l4 : Int32), k32 a l1 l2 l3 l4 = k32' l1 l2 l3 l4) (l1 : Int32) (l2 : Int32) (l3 : Int32) (l4 : Int32) : bX10_highest_32 k4 k32 a l1 l2 l3 l4 z = gbX10_highest_32 k4' k32' l1 l2 l3 l4 S := by
  unfold bX10_highest_32 gbX10_highest_32
  refine ei0 (fun _ => ?_) (fun _ => ?_)
  · skip
    refine en0 (fun v60 => ?_)
    refine en0 (fun v61 => ?_)
    exact hk4 v60 v61
  · skip
    refine en0 (fun v38 => ?_)
    refine eb0 (eX10_of hR ((30 : Int32) + l4)) (fun x47 => ?_)
    exact hk32 l1 l2 v38 x47
def gfX10_highest_32 (k4 : Int32 → Int32 → Option (Int32)) (S : SV) : Nat → Int32 → Int32 → Int32 → Int32 → Option (Int32)
  | 0, _, _, _, _ => none
  | n + 1, l1, l2, l3, l4 => gbX10_highest_32 k4 (gfX10_highest_32 k4 S n) l1 l2 l3 l4 S
theorem efX10_highest_32 {a : Nat} {ρ : RV} {S : SV} {z : AH} (hR : RD 9 a ρ S z) {k4 : Nat → Int32 → Int32 → Option (Int32)} {k4' : Int32 → Int32 → Option (Int32)} (hk4 : ∀ (l1 : Int32) (l2 : Int32), k4 a l1 l2 = k4' l1 l2) : ∀ (n : Nat) (l1 : Int32) (l2 : Int32) (l3 : Int32) (l4 : Int32), fX10_highest_32 k4 z n a l1 l2 l3 l4 = gfX10_highest_32 k4' S n l1 l2 l3 l4 := by
  intro n
  induction n with
  | zero => intros; rfl
  | succ n ih => intro l1 l2 l3 l4; exact ebX10_highest_32 hR hk4 (fun l1 l2 l3 l4 => ih l1 l2 l3 l4) l1 l2 l3 l4
def gbX10_highest_4 (k4 : Int32 → Int32 → Option (Int32)) (l1 : Int32) (l2 : Int32) (S : SV) : Option (Int32) :=
  if (S.1 26) ≤ l2 then (
    some l1
  ) else (
    if (fX10_has (S.1 31) l2) = (0 : Int32) then (
      gfX10_highest_32 k4 S FU l1 l2 (0 : Int32) l2
    ) else (
      gfX10_highest_32 k4 S FU l1 l2 (0 : Int32) (-1 : Int32)
    )
  )
set_option maxRecDepth 100000 in
theorem ebX10_highest_4 {a : Nat} {ρ : RV} {S : SV} {z : AH} (hR : RD 9 a ρ S z) {k4 : Nat → Int32 → Int32 → Option (Int32)} {k4' : Int32 → Int32 → Option (Int32)} (hk4 : ∀ (l1 : Int32) (l2 : Int32), k4 a l1 l2 = k4' l1 l2) (l1 : Int32) (l2 : Int32) : bX10_highest_4 k4 a l1 l2 z = gbX10_highest_4 k4' l1 l2 S := by
  unfold bX10_highest_4 gbX10_highest_4
  refine sb (gI_rd hR rfl) ?_
  refine ei0 (fun _ => ?_) (fun _ => ?_)
  · skip
    rfl
  · skip
    refine sb (gI_rd hR rfl) ?_
    refine ei0 (fun _ => ?_) (fun _ => ?_)
    · skip
      exact efX10_highest_32 hR hk4 FU l1 l2 (0 : Int32) l2
    · skip
      exact efX10_highest_32 hR hk4 FU l1 l2 (0 : Int32) (-1 : Int32)
def gfX10_highest_4 (S : SV) : Nat → Int32 → Int32 → Option (Int32)
  | 0, _, _ => none
  | n + 1, l1, l2 => gbX10_highest_4 (gfX10_highest_4 S n) l1 l2 S
theorem efX10_highest_4 {a : Nat} {ρ : RV} {S : SV} {z : AH} (hR : RD 9 a ρ S z) : ∀ (n : Nat) (l1 : Int32) (l2 : Int32), fX10_highest_4 z n a l1 l2 = gfX10_highest_4 S n l1 l2 := by
  intro n
  induction n with
  | zero => intros; rfl
  | succ n ih => intro l1 l2; exact ebX10_highest_4 hR (fun l1 l2 => ih l1 l2) l1 l2
def gX10_highest (S : SV) : Option (Int32) :=
  gfX10_highest_4 S FU (0 : Int32) (0 : Int32)
set_option maxRecDepth 100000 in
theorem eX10_highest {a : Nat} {ρ : RV} {S : SV} {z : AH} (hR : RD 9 a ρ S z) : fX10_highest a z = gX10_highest S := by
  unfold fX10_highest gX10_highest
  refine eo (isO_rd hR) ?_
  exact efX10_highest_4 hR FU (0 : Int32) (0 : Int32)
def gbX10_partOf_6 (k6 : Int32 → Int32 → Option (Int32)) (l2 : Int32) (l3 : Int32) (S : SV) : Option (Int32) :=
  if (8 : Int32) ≤ l3 then (
    some l2
  ) else (
    (gX10_nextTo l2 S).bind fun x14 =>
    nm (x14 &&& ((S.1 31) ^^^ (-1 : Int32))) fun v24 =>
    nm (l3 + (1 : Int32)) fun v25 =>
    k6 v24 v25
  )
set_option maxRecDepth 100000 in
theorem ebX10_partOf_6 {a : Nat} {ρ : RV} {S : SV} {z : AH} (hR : RD 9 a ρ S z) {k6 : Nat → Int32 → Int32 → Option (Int32)} {k6' : Int32 → Int32 → Option (Int32)} (hk6 : ∀ (l2 : Int32) (l3 : Int32), k6 a l2 l3 = k6' l2 l3) (l2 : Int32) (l3 : Int32) : bX10_partOf_6 k6 a l2 l3 z = gbX10_partOf_6 k6' l2 l3 S := by
  unfold bX10_partOf_6 gbX10_partOf_6
  refine ei0 (fun _ => ?_) (fun _ => ?_)
  · skip
    rfl
  · skip
    refine eb0 (eX10_nextTo hR l2) (fun x14 => ?_)
    refine sb (gI_rd hR rfl) ?_
    refine en0 (fun v24 => ?_)
    refine en0 (fun v25 => ?_)
    exact hk6 v24 v25
def gfX10_partOf_6 (S : SV) : Nat → Int32 → Int32 → Option (Int32)
  | 0, _, _ => none
  | n + 1, l2, l3 => gbX10_partOf_6 (gfX10_partOf_6 S n) l2 l3 S
theorem efX10_partOf_6 {a : Nat} {ρ : RV} {S : SV} {z : AH} (hR : RD 9 a ρ S z) : ∀ (n : Nat) (l2 : Int32) (l3 : Int32), fX10_partOf_6 z n a l2 l3 = gfX10_partOf_6 S n l2 l3 := by
  intro n
  induction n with
  | zero => intros; rfl
  | succ n ih => intro l2 l3; exact ebX10_partOf_6 hR (fun l2 l3 => ih l2 l3) l2 l3
def gX10_partOf (l1 : Int32) (S : SV) : Option (Int32) :=
  nm (shl (1 : Int32) l1) fun v3 =>
  gfX10_partOf_6 S FU v3 (0 : Int32)
set_option maxRecDepth 100000 in
theorem eX10_partOf {a : Nat} {ρ : RV} {S : SV} {z : AH} (hR : RD 9 a ρ S z) (l1 : Int32) : fX10_partOf a l1 z = gX10_partOf l1 S := by
  unfold fX10_partOf gX10_partOf
  refine eo (isO_rd hR) ?_
  refine en0 (fun v3 => ?_)
  exact efX10_partOf_6 hR FU v3 (0 : Int32)
def gbX10_parts_10 (k10 : Int32 → Int32 → Int32 → Int32 → Int32 → Option (Int32)) (l1 : Int32) (l2 : Int32) (l3 : Int32) (l4 : Int32) (l5 : Int32) (S : SV) : Option (Int32) :=
  if (S.1 26) ≤ l5 then (
    if l1 = (0 : Int32) then (
      some l2
    ) else (
      some l3
    )
  ) else (
    if (fX10_has ((S.1 31) ||| l4) l5) = (0 : Int32) then (
      (gX10_partOf l5 S).bind fun x39 =>
      nm (l4 ||| x39) fun v43 =>
      nm (l2 + (1 : Int32)) fun v45 =>
      (gX10_partOf l5 S).bind fun x52 =>
      (fX10_ones x52).bind fun x55 =>
      nm (fX10_greater l3 x55) fun v61 =>
      nm (l5 + (1 : Int32)) fun v62 =>
      k10 l1 v45 v61 v43 v62
    ) else (
      nm (l5 + (1 : Int32)) fun v62 =>
      k10 l1 l2 l3 l4 v62
    )
  )
set_option maxRecDepth 100000 in
theorem ebX10_parts_10 {a : Nat} {ρ : RV} {S : SV} {z : AH} (hR : RD 9 a ρ S z) {k10 : Nat → Int32 → Int32 → Int32 → Int32 → Int32 → Option (Int32)} {k10' : Int32 → Int32 → Int32 → Int32 → Int32 → Option (Int32)} (hk10 : ∀ (l1 : Int32) (l2 : Int32) (l3 : Int32) (l4 : Int32) (l5 : Int32), k10 a l1 l2 l3 l4 l5 = k10' l1 l2 l3 l4 l5) (l1 : Int32) (l2 : Int32) (l3 : Int32) (l4 : Int32) (l5 : Int32) : bX10_parts_10 k10 a l1 l2 l3 l4 l5 z = gbX10_parts_10 k10' l1 l2 l3 l4 l5 S := by
  unfold bX10_parts_10 gbX10_parts_10
  refine sb (gI_rd hR rfl) ?_
  refine ei0 (fun _ => ?_) (fun _ => ?_)
  · skip
    refine ei0 (fun _ => ?_) (fun _ => ?_)
    · skip
      rfl
    · skip
      rfl
  · skip
    refine sb (gI_rd hR rfl) ?_
    refine ei0 (fun _ => ?_) (fun _ => ?_)
    · skip
      refine eb0 (eX10_partOf hR l5) (fun x39 => ?_)
      refine en0 (fun v43 => ?_)
      refine en0 (fun v45 => ?_)
      refine eb0 (eX10_partOf hR l5) (fun x52 => ?_)
      refine eb0 rfl (fun x55 => ?_)
      refine en0 (fun v61 => ?_)
      refine en0 (fun v62 => ?_)
      exact hk10 l1 v45 v61 v43 v62
    · skip
      refine en0 (fun v62 => ?_)
      exact hk10 l1 l2 l3 l4 v62
def gfX10_parts_10 (S : SV) : Nat → Int32 → Int32 → Int32 → Int32 → Int32 → Option (Int32)
  | 0, _, _, _, _, _ => none
  | n + 1, l1, l2, l3, l4, l5 => gbX10_parts_10 (gfX10_parts_10 S n) l1 l2 l3 l4 l5 S
theorem efX10_parts_10 {a : Nat} {ρ : RV} {S : SV} {z : AH} (hR : RD 9 a ρ S z) : ∀ (n : Nat) (l1 : Int32) (l2 : Int32) (l3 : Int32) (l4 : Int32) (l5 : Int32), fX10_parts_10 z n a l1 l2 l3 l4 l5 = gfX10_parts_10 S n l1 l2 l3 l4 l5 := by
  intro n
  induction n with
  | zero => intros; rfl
  | succ n ih => intro l1 l2 l3 l4 l5; exact ebX10_parts_10 hR (fun l1 l2 l3 l4 l5 => ih l1 l2 l3 l4 l5) l1 l2 l3 l4 l5
def gX10_parts (l1 : Int32) (S : SV) : Option (Int32) :=
  gfX10_parts_10 S FU l1 (0 : Int32) (0 : Int32) (0 : Int32) (0 : Int32)
set_option maxRecDepth 100000 in
theorem eX10_parts {a : Nat} {ρ : RV} {S : SV} {z : AH} (hR : RD 9 a ρ S z) (l1 : Int32) : fX10_parts a l1 z = gX10_parts l1 S := by
  unfold fX10_parts gX10_parts
  refine eo (isO_rd hR) ?_
  exact efX10_parts_10 hR FU l1 (0 : Int32) (0 : Int32) (0 : Int32) (0 : Int32)
def gbX10_paired_167 (k167 : Int32 → Int32 → SV → Option (Int32 × SV)) (l1 : Int32) (l2 : Int32) (S : SV) : Option (Int32 × SV) :=
  if (16 : Int32) ≤ l2 then (
    some (l1, S)
  ) else (
    (rA 16 (S.2.1 53) l2).bind fun x179 =>
    nm (fX10_greater l1 x179) fun v183 =>
    nm (l2 + (1 : Int32)) fun v184 =>
    k167 v183 v184 S
  )
set_option maxRecDepth 100000 in
theorem ebX10_paired_167 {a : Nat} {ρ : RV} {z : AH} (hz : a + szV 9 ≤ z.length) {k167 : Nat → Int32 → Int32 → AH → Option (Int32 × AH)} {k167' : Int32 → Int32 → SV → Option (Int32 × SV)} (hk167 : ∀ (l1 : Int32) (l2 : Int32) (S : SV), k167 a l1 l2 (wr 9 a ρ S z) = (k167' l1 l2 S).map (fun q => (q.1, wr 9 a ρ q.2 z))) (l1 : Int32) (l2 : Int32) (S : SV) : bX10_paired_167 k167 a l1 l2 (wr 9 a ρ S z) = (gbX10_paired_167 k167' l1 l2 S).map (fun q => (q.1, wr 9 a ρ q.2 z)) := by
  unfold bX10_paired_167 gbX10_paired_167
  refine ei (fun _ => ?_) (fun _ => ?_)
  · skip
    rfl
  · skip
    refine sb (gN_rd (rd_wr hz) rfl (Or.inl rfl)) ?_
    refine eb (ixI_rd (rd_wr hz) (k := 53) rfl rfl (by decide) 0 rfl (by decide) _) (fun x179 => ?_)
    refine en (fun v183 => ?_)
    refine en (fun v184 => ?_)
    exact hk167 v183 v184 S
def gfX10_paired_167 : Nat → Int32 → Int32 → SV → Option (Int32 × SV)
  | 0, _, _, _ => none
  | n + 1, l1, l2, S => gbX10_paired_167 (gfX10_paired_167 n) l1 l2 S
theorem efX10_paired_167 {a : Nat} {ρ : RV} {z : AH} (hz : a + szV 9 ≤ z.length) : ∀ (n : Nat) (l1 : Int32) (l2 : Int32) (S : SV), fX10_paired_167 n a l1 l2 (wr 9 a ρ S z) = (gfX10_paired_167 n l1 l2 S).map (fun q => (q.1, wr 9 a ρ q.2 z)) := by
  intro n
  induction n with
  | zero => intros; rfl
  | succ n ih => intro l1 l2 S; exact ebX10_paired_167 hz (fun l1 l2 S => ih l1 l2 S) l1 l2 S
def gbX10_paired_100 (k33 : Int32 → SV → Option (Int32 × SV)) (k45 : Int32 → Int32 → SV → Option (Int32 × SV)) (k51 : Int32 → Int32 → Int32 → SV → Option (Int32 × SV)) (l1 : Int32) (l2 : Int32) (l3 : Int32) (s0 : Int32) (S : SV) : Option (Int32 × SV) :=
  if s0 = (0 : Int32) then (
    (rA 16 (S.2.1 53) l2).bind fun x143 =>
    (wA 53 16 S l2 x143).bind fun S144 =>
    nm (l3 + (1 : Int32)) fun v145 =>
    k51 l1 l2 v145 S144
  ) else (
    (rA 16 (S.2.1 53) l2).bind fun x117 =>
    (rA 16 (S.2.1 53) (l2 &&& ((shl (1 : Int32) l3) ^^^ (-1 : Int32)))).bind fun x130 =>
    (wA 53 16 S l2 (fX10_greater x117 ((1 : Int32) + x130))).bind fun S144 =>
    nm (l3 + (1 : Int32)) fun v145 =>
    k51 l1 l2 v145 S144
  )
set_option maxRecDepth 100000 in
theorem ebX10_paired_100 {a : Nat} {ρ : RV} {z : AH} (hz : a + szV 9 ≤ z.length) {k33 : Nat → Int32 → AH → Option (Int32 × AH)} {k33' : Int32 → SV → Option (Int32 × SV)} {k45 : Nat → Int32 → Int32 → AH → Option (Int32 × AH)} {k45' : Int32 → Int32 → SV → Option (Int32 × SV)} {k51 : Nat → Int32 → Int32 → Int32 → AH → Option (Int32 × AH)} {k51' : Int32 → Int32 → Int32 → SV → Option (Int32 × SV)} (hk33 : ∀ (l1 : Int32) (S : SV), k33 a l1 (wr 9 a ρ S z) = (k33' l1 S).map (fun q => (q.1, wr 9 a ρ q.2 z))) (hk45 : ∀ (l1 : Int32) (l2 : Int32) (S : SV), k45 a l1 l2 (wr 9 a ρ S z) = (k45' l1 l2 S).map (fun q => (q.1, wr 9 a ρ q.2 z))) (hk51 : ∀ (l1 : Int32) (l2 : Int32) (l3 : Int32) (S : SV), k51 a l1 l2 l3 (wr 9 a ρ S z) = (k51' l1 l2 l3 S).map (fun q => (q.1, wr 9 a ρ q.2 z))) (l1 : Int32) (l2 : Int32) (l3 : Int32) (s0 : Int32) (S : SV) : bX10_paired_100 k33 k45 k51 a l1 l2 l3 s0 (wr 9 a ρ S z) = (gbX10_paired_100 k33' k45' k51' l1 l2 l3 s0 S).map (fun q => (q.1, wr 9 a ρ q.2 z)) := by
  unfold bX10_paired_100 gbX10_paired_100
  refine sb (gN_rd (rd_wr hz) rfl (Or.inl rfl)) ?_
  refine ei (fun _ => ?_) (fun _ => ?_)
  · skip
    refine sb (gN_rd (rd_wr hz) rfl (Or.inl rfl)) ?_
    refine eb (ixI_rd (rd_wr hz) (k := 53) rfl rfl (by decide) 0 rfl (by decide) _) (fun x143 => ?_)
    refine em (f := (fun S => wr 9 a ρ S z)) (stI_rd rkOk9 hz (k := 53) rfl rfl (by decide) 0 rfl (by decide) _ _) (fun S144 => ?_)
    refine en (fun v145 => ?_)
    exact hk51 l1 l2 v145 S144
  · skip
    refine sb (gN_rd (rd_wr hz) rfl (Or.inl rfl)) ?_
    refine eb (ixI_rd (rd_wr hz) (k := 53) rfl rfl (by decide) 0 rfl (by decide) _) (fun x117 => ?_)
    refine sb (gN_rd (rd_wr hz) rfl (Or.inl rfl)) ?_
    refine eb (ixI_rd (rd_wr hz) (k := 53) rfl rfl (by decide) 0 rfl (by decide) _) (fun x130 => ?_)
    refine em (f := (fun S => wr 9 a ρ S z)) (stI_rd rkOk9 hz (k := 53) rfl rfl (by decide) 0 rfl (by decide) _ _) (fun S144 => ?_)
    refine en (fun v145 => ?_)
    exact hk51 l1 l2 v145 S144
def gbX10_paired_99 (k33 : Int32 → SV → Option (Int32 × SV)) (k45 : Int32 → Int32 → SV → Option (Int32 × SV)) (k51 : Int32 → Int32 → Int32 → SV → Option (Int32 × SV)) (l1 : Int32) (l2 : Int32) (l3 : Int32) (S : SV) : Option (Int32 × SV) :=
  gbX10_paired_100 k33 k45 k51 l1 l2 l3 (0 : Int32) S
set_option maxRecDepth 100000 in
theorem ebX10_paired_99 {a : Nat} {ρ : RV} {z : AH} (hz : a + szV 9 ≤ z.length) {k33 : Nat → Int32 → AH → Option (Int32 × AH)} {k33' : Int32 → SV → Option (Int32 × SV)} {k45 : Nat → Int32 → Int32 → AH → Option (Int32 × AH)} {k45' : Int32 → Int32 → SV → Option (Int32 × SV)} {k51 : Nat → Int32 → Int32 → Int32 → AH → Option (Int32 × AH)} {k51' : Int32 → Int32 → Int32 → SV → Option (Int32 × SV)} (hk33 : ∀ (l1 : Int32) (S : SV), k33 a l1 (wr 9 a ρ S z) = (k33' l1 S).map (fun q => (q.1, wr 9 a ρ q.2 z))) (hk45 : ∀ (l1 : Int32) (l2 : Int32) (S : SV), k45 a l1 l2 (wr 9 a ρ S z) = (k45' l1 l2 S).map (fun q => (q.1, wr 9 a ρ q.2 z))) (hk51 : ∀ (l1 : Int32) (l2 : Int32) (l3 : Int32) (S : SV), k51 a l1 l2 l3 (wr 9 a ρ S z) = (k51' l1 l2 l3 S).map (fun q => (q.1, wr 9 a ρ q.2 z))) (l1 : Int32) (l2 : Int32) (l3 : Int32) (S : SV) : bX10_paired_99 k33 k45 k51 a l1 l2 l3 (wr 9 a ρ S z) = (gbX10_paired_99 k33' k45' k51' l1 l2 l3 S).map (fun q => (q.1, wr 9 a ρ q.2 z)) := by
  unfold bX10_paired_99 gbX10_paired_99
  exact ebX10_paired_100 hz hk33 hk45 hk51 l1 l2 l3 (0 : Int32) S
def gbX10_paired_51 (k33 : Int32 → SV → Option (Int32 × SV)) (k45 : Int32 → Int32 → SV → Option (Int32 × SV)) (k51 : Int32 → Int32 → Int32 → SV → Option (Int32 × SV)) (l1 : Int32) (l2 : Int32) (l3 : Int32) (S : SV) : Option (Int32 × SV) :=
  (gX10_of (3 : Int32) S).bind fun x54 =>
  if x54 ≤ l3 then (
    nm (l2 + (-1 : Int32)) fun v151 =>
    k45 l1 v151 S
  ) else (
    if (fX10_has l2 l3) = (0 : Int32) then (
      gbX10_paired_99 k33 k45 k51 l1 l2 l3 S
    ) else (
      (gX10_of ((38 : Int32) + l1) S).bind fun x73 =>
      (gX10_of ((42 : Int32) + l3) S).bind fun x81 =>
      (gX10_of (5 : Int32) S).bind fun x89 =>
      if x89 < (fX10_apart x73 x81) then (
        gbX10_paired_99 k33 k45 k51 l1 l2 l3 S
      ) else (
        gbX10_paired_100 k33 k45 k51 l1 l2 l3 (1 : Int32) S
      )
    )
  )
set_option maxRecDepth 100000 in
theorem ebX10_paired_51 {a : Nat} {ρ : RV} {z : AH} (hz : a + szV 9 ≤ z.length) {k33 : Nat → Int32 → AH → Option (Int32 × AH)} {k33' : Int32 → SV → Option (Int32 × SV)} {k45 : Nat → Int32 → Int32 → AH → Option (Int32 × AH)} {k45' : Int32 → Int32 → SV → Option (Int32 × SV)} {k51 : Nat → Int32 → Int32 → Int32 → AH → Option (Int32 × AH)} {k51' : Int32 → Int32 → Int32 → SV → Option (Int32 × SV)} (hk33 : ∀ (l1 : Int32) (S : SV), k33 a l1 (wr 9 a ρ S z) = (k33' l1 S).map (fun q => (q.1, wr 9 a ρ q.2 z))) (hk45 : ∀ (l1 : Int32) (l2 : Int32) (S : SV), k45 a l1 l2 (wr 9 a ρ S z) = (k45' l1 l2 S).map (fun q => (q.1, wr 9 a ρ q.2 z))) (hk51 : ∀ (l1 : Int32) (l2 : Int32) (l3 : Int32) (S : SV), k51 a l1 l2 l3 (wr 9 a ρ S z) = (k51' l1 l2 l3 S).map (fun q => (q.1, wr 9 a ρ q.2 z))) (l1 : Int32) (l2 : Int32) (l3 : Int32) (S : SV) : bX10_paired_51 k33 k45 k51 a l1 l2 l3 (wr 9 a ρ S z) = (gbX10_paired_51 k33' k45' k51' l1 l2 l3 S).map (fun q => (q.1, wr 9 a ρ q.2 z)) := by
  unfold bX10_paired_51 gbX10_paired_51
  refine eb (eX10_of (rd_wr hz) (3 : Int32)) (fun x54 => ?_)
  refine ei (fun _ => ?_) (fun _ => ?_)
  · skip
    refine en (fun v151 => ?_)
    exact hk45 l1 v151 S
  · skip
    refine ei (fun _ => ?_) (fun _ => ?_)
    · skip
      exact ebX10_paired_99 hz hk33 hk45 hk51 l1 l2 l3 S
    · skip
      refine eb (eX10_of (rd_wr hz) ((38 : Int32) + l1)) (fun x73 => ?_)
      refine eb (eX10_of (rd_wr hz) ((42 : Int32) + l3)) (fun x81 => ?_)
      refine eb (eX10_of (rd_wr hz) (5 : Int32)) (fun x89 => ?_)
      refine ei (fun _ => ?_) (fun _ => ?_)
      · skip
        exact ebX10_paired_99 hz hk33 hk45 hk51 l1 l2 l3 S
      · skip
        exact ebX10_paired_100 hz hk33 hk45 hk51 l1 l2 l3 (1 : Int32) S
def gfX10_paired_51 (k33 : Int32 → SV → Option (Int32 × SV)) (k45 : Int32 → Int32 → SV → Option (Int32 × SV)) : Nat → Int32 → Int32 → Int32 → SV → Option (Int32 × SV)
  | 0, _, _, _, _ => none
  | n + 1, l1, l2, l3, S => gbX10_paired_51 k33 k45 (gfX10_paired_51 k33 k45 n) l1 l2 l3 S
theorem efX10_paired_51 {a : Nat} {ρ : RV} {z : AH} (hz : a + szV 9 ≤ z.length) {k33 : Nat → Int32 → AH → Option (Int32 × AH)} {k33' : Int32 → SV → Option (Int32 × SV)} {k45 : Nat → Int32 → Int32 → AH → Option (Int32 × AH)} {k45' : Int32 → Int32 → SV → Option (Int32 × SV)} (hk33 : ∀ (l1 : Int32) (S : SV), k33 a l1 (wr 9 a ρ S z) = (k33' l1 S).map (fun q => (q.1, wr 9 a ρ q.2 z))) (hk45 : ∀ (l1 : Int32) (l2 : Int32) (S : SV), k45 a l1 l2 (wr 9 a ρ S z) = (k45' l1 l2 S).map (fun q => (q.1, wr 9 a ρ q.2 z))) : ∀ (n : Nat) (l1 : Int32) (l2 : Int32) (l3 : Int32) (S : SV), fX10_paired_51 k33 k45 n a l1 l2 l3 (wr 9 a ρ S z) = (gfX10_paired_51 k33' k45' n l1 l2 l3 S).map (fun q => (q.1, wr 9 a ρ q.2 z)) := by
  intro n
  induction n with
  | zero => intros; rfl
  | succ n ih => intro l1 l2 l3 S; exact ebX10_paired_51 hz hk33 hk45 (fun l1 l2 l3 S => ih l1 l2 l3 S) l1 l2 l3 S
def gbX10_paired_45 (k33 : Int32 → SV → Option (Int32 × SV)) (k45 : Int32 → Int32 → SV → Option (Int32 × SV)) (l1 : Int32) (l2 : Int32) (S : SV) : Option (Int32 × SV) :=
  if l2 < (0 : Int32) then (
    nm (l1 + (1 : Int32)) fun v157 =>
    k33 v157 S
  ) else (
    gfX10_paired_51 k33 k45 FU l1 l2 (0 : Int32) S
  )
set_option maxRecDepth 100000 in
theorem ebX10_paired_45 {a : Nat} {ρ : RV} {z : AH} (hz : a + szV 9 ≤ z.length) {k33 : Nat → Int32 → AH → Option (Int32 × AH)} {k33' : Int32 → SV → Option (Int32 × SV)} {k45 : Nat → Int32 → Int32 → AH → Option (Int32 × AH)} {k45' : Int32 → Int32 → SV → Option (Int32 × SV)} (hk33 : ∀ (l1 : Int32) (S : SV), k33 a l1 (wr 9 a ρ S z) = (k33' l1 S).map (fun q => (q.1, wr 9 a ρ q.2 z))) (hk45 : ∀ (l1 : Int32) (l2 : Int32) (S : SV), k45 a l1 l2 (wr 9 a ρ S z) = (k45' l1 l2 S).map (fun q => (q.1, wr 9 a ρ q.2 z))) (l1 : Int32) (l2 : Int32) (S : SV) : bX10_paired_45 k33 k45 a l1 l2 (wr 9 a ρ S z) = (gbX10_paired_45 k33' k45' l1 l2 S).map (fun q => (q.1, wr 9 a ρ q.2 z)) := by
  unfold bX10_paired_45 gbX10_paired_45
  refine ei (fun _ => ?_) (fun _ => ?_)
  · skip
    refine en (fun v157 => ?_)
    exact hk33 v157 S
  · skip
    exact efX10_paired_51 hz hk33 hk45 FU l1 l2 (0 : Int32) S
def gfX10_paired_45 (k33 : Int32 → SV → Option (Int32 × SV)) : Nat → Int32 → Int32 → SV → Option (Int32 × SV)
  | 0, _, _, _ => none
  | n + 1, l1, l2, S => gbX10_paired_45 k33 (gfX10_paired_45 k33 n) l1 l2 S
theorem efX10_paired_45 {a : Nat} {ρ : RV} {z : AH} (hz : a + szV 9 ≤ z.length) {k33 : Nat → Int32 → AH → Option (Int32 × AH)} {k33' : Int32 → SV → Option (Int32 × SV)} (hk33 : ∀ (l1 : Int32) (S : SV), k33 a l1 (wr 9 a ρ S z) = (k33' l1 S).map (fun q => (q.1, wr 9 a ρ q.2 z))) : ∀ (n : Nat) (l1 : Int32) (l2 : Int32) (S : SV), fX10_paired_45 k33 n a l1 l2 (wr 9 a ρ S z) = (gfX10_paired_45 k33' n l1 l2 S).map (fun q => (q.1, wr 9 a ρ q.2 z)) := by
  intro n
  induction n with
  | zero => intros; rfl
  | succ n ih => intro l1 l2 S; exact ebX10_paired_45 hz hk33 (fun l1 l2 S => ih l1 l2 S) l1 l2 S
def gbX10_paired_33 (k33 : Int32 → SV → Option (Int32 × SV)) (l1 : Int32) (S : SV) : Option (Int32 × SV) :=
  (gX10_of (2 : Int32) S).bind fun x36 =>
  if x36 ≤ l1 then (
    gfX10_paired_167 FU (0 : Int32) (0 : Int32) S
  ) else (
    gfX10_paired_45 k33 FU l1 (15 : Int32) S
  )
set_option maxRecDepth 100000 in
theorem ebX10_paired_33 {a : Nat} {ρ : RV} {z : AH} (hz : a + szV 9 ≤ z.length) {k33 : Nat → Int32 → AH → Option (Int32 × AH)} {k33' : Int32 → SV → Option (Int32 × SV)} (hk33 : ∀ (l1 : Int32) (S : SV), k33 a l1 (wr 9 a ρ S z) = (k33' l1 S).map (fun q => (q.1, wr 9 a ρ q.2 z))) (l1 : Int32) (S : SV) : bX10_paired_33 k33 a l1 (wr 9 a ρ S z) = (gbX10_paired_33 k33' l1 S).map (fun q => (q.1, wr 9 a ρ q.2 z)) := by
  unfold bX10_paired_33 gbX10_paired_33
  refine eb (eX10_of (rd_wr hz) (2 : Int32)) (fun x36 => ?_)
  refine ei (fun _ => ?_) (fun _ => ?_)
  · skip
    exact efX10_paired_167 hz FU (0 : Int32) (0 : Int32) S
  · skip
    exact efX10_paired_45 hz hk33 FU l1 (15 : Int32) S
def gfX10_paired_33 : Nat → Int32 → SV → Option (Int32 × SV)
  | 0, _, _ => none
  | n + 1, l1, S => gbX10_paired_33 (gfX10_paired_33 n) l1 S
theorem efX10_paired_33 {a : Nat} {ρ : RV} {z : AH} (hz : a + szV 9 ≤ z.length) : ∀ (n : Nat) (l1 : Int32) (S : SV), fX10_paired_33 n a l1 (wr 9 a ρ S z) = (gfX10_paired_33 n l1 S).map (fun q => (q.1, wr 9 a ρ q.2 z)) := by
  intro n
  induction n with
  | zero => intros; rfl
  | succ n ih => intro l1 S; exact ebX10_paired_33 hz (fun l1 S => ih l1 S) l1 S
def gbX10_paired_2 (k2 : Int32 → SV → Option (Int32 × SV)) (l1 : Int32) (S : SV) : Option (Int32 × SV) :=
  if (16 : Int32) ≤ l1 then (
    gfX10_paired_33 FU (0 : Int32) S
  ) else (
    if l1 = (0 : Int32) then (
      (wA 53 16 S l1 (0 : Int32)).bind fun S24 =>
      nm (l1 + (1 : Int32)) fun v25 =>
      k2 v25 S24
    ) else (
      (wA 53 16 S l1 (-1000000 : Int32)).bind fun S24 =>
      nm (l1 + (1 : Int32)) fun v25 =>
      k2 v25 S24
    )
  )
set_option maxRecDepth 100000 in
theorem ebX10_paired_2 {a : Nat} {ρ : RV} {z : AH} (hz : a + szV 9 ≤ z.length) {k2 : Nat → Int32 → AH → Option (Int32 × AH)} {k2' : Int32 → SV → Option (Int32 × SV)} (hk2 : ∀ (l1 : Int32) (S : SV), k2 a l1 (wr 9 a ρ S z) = (k2' l1 S).map (fun q => (q.1, wr 9 a ρ q.2 z))) (l1 : Int32) (S : SV) : bX10_paired_2 k2 a l1 (wr 9 a ρ S z) = (gbX10_paired_2 k2' l1 S).map (fun q => (q.1, wr 9 a ρ q.2 z)) := by
  unfold bX10_paired_2 gbX10_paired_2
  refine ei (fun _ => ?_) (fun _ => ?_)
  · skip
    exact efX10_paired_33 hz FU (0 : Int32) S
  · skip
    refine sb (gN_rd (rd_wr hz) rfl (Or.inl rfl)) ?_
    refine ei (fun _ => ?_) (fun _ => ?_)
    · skip
      refine em (f := (fun S => wr 9 a ρ S z)) (stI_rd rkOk9 hz (k := 53) rfl rfl (by decide) 0 rfl (by decide) _ _) (fun S24 => ?_)
      refine en (fun v25 => ?_)
      exact hk2 v25 S24
    · skip
      refine em (f := (fun S => wr 9 a ρ S z)) (stI_rd rkOk9 hz (k := 53) rfl rfl (by decide) 0 rfl (by decide) _ _) (fun S24 => ?_)
      refine en (fun v25 => ?_)
      exact hk2 v25 S24
def gfX10_paired_2 : Nat → Int32 → SV → Option (Int32 × SV)
  | 0, _, _ => none
  | n + 1, l1, S => gbX10_paired_2 (gfX10_paired_2 n) l1 S
theorem efX10_paired_2 {a : Nat} {ρ : RV} {z : AH} (hz : a + szV 9 ≤ z.length) : ∀ (n : Nat) (l1 : Int32) (S : SV), fX10_paired_2 n a l1 (wr 9 a ρ S z) = (gfX10_paired_2 n l1 S).map (fun q => (q.1, wr 9 a ρ q.2 z)) := by
  intro n
  induction n with
  | zero => intros; rfl
  | succ n ih => intro l1 S; exact ebX10_paired_2 hz (fun l1 S => ih l1 S) l1 S
def gX10_paired (S : SV) : Option (Int32 × SV) :=
  gfX10_paired_2 FU (0 : Int32) S
set_option maxRecDepth 100000 in
theorem eX10_paired {a : Nat} {ρ : RV} {z : AH} (hz : a + szV 9 ≤ z.length) (S : SV) : fX10_paired a (wr 9 a ρ S z) = (gX10_paired S).map (fun q => (q.1, wr 9 a ρ q.2 z)) := by
  unfold fX10_paired gX10_paired
  refine eo (isO_rd (rd_wr hz)) ?_
  exact efX10_paired_2 hz FU (0 : Int32) S
def gbX10_height_91 (s1 : Int32) (S : SV) : Option (Int32 × SV) :=
  (gX10_parts s1 S).bind fun x91 =>
  some (x91, S)
set_option maxRecDepth 100000 in
theorem ebX10_height_91 {a : Nat} {ρ : RV} {z : AH} (hz : a + szV 9 ≤ z.length) (s1 : Int32) (S : SV) : bX10_height_91 a s1 (wr 9 a ρ S z) = (gbX10_height_91 s1 S).map (fun q => (q.1, wr 9 a ρ q.2 z)) := by
  unfold bX10_height_91 gbX10_height_91
  refine eb (eX10_parts (rd_wr hz) s1) (fun x91 => ?_)
  rfl
def gX10_height (l1 : Int32) (l2 : Int32) (S : SV) : Option (Int32 × SV) :=
  nm (wI S 0 (0 : Int32)) fun S2 =>
  b2 (gX10_hand l1 S2) fun x7 S7 =>
  if x7 = (0 : Int32) then (
    some ((-2 : Int32), S7)
  ) else (
    if l2 = (0 : Int32) then (
      (gX10_highest S7).bind fun x53 =>
      some (x53, S7)
    ) else (
      if l2 = (1 : Int32) then (
        (gX10_findWatch S7).bind fun S58 =>
        if (S58.1 43) < (1000000 : Int32) then (
          some ((S58.1 43), S58)
        ) else (
          some ((-1 : Int32), S58)
        )
      ) else (
        if l2 = (2 : Int32) then (
          if l2 = (3 : Int32) then (
            gbX10_height_91 (1 : Int32) S7
          ) else (
            gbX10_height_91 (0 : Int32) S7
          )
        ) else (
          if l2 = (3 : Int32) then (
            if l2 = (3 : Int32) then (
              gbX10_height_91 (1 : Int32) S7
            ) else (
              gbX10_height_91 (0 : Int32) S7
            )
          ) else (
            if l2 = (4 : Int32) then (
              b2 (gX10_paired S7) fun x96 S96 =>
              some (x96, S96)
            ) else (
              some ((-2 : Int32), S7)
            )
          )
        )
      )
    )
  )
set_option maxRecDepth 100000 in
theorem eX10_height {a : Nat} {ρ : RV} {z : AH} (hz : a + szV 9 ≤ z.length) (l1 : Int32) (l2 : Int32) (S : SV) : fX10_height a l1 l2 (wr 9 a ρ S z) = (gX10_height l1 l2 S).map (fun q => (q.1, wr 9 a ρ q.2 z)) := by
  unfold fX10_height gX10_height
  refine eo (isO_rd (rd_wr hz)) ?_
  refine ep (f := (fun S => wr 9 a ρ S z)) (pF_int hz rfl _) (fun S2 => ?_)
  refine e2m (f := (fun S => wr 9 a ρ S z)) (eX10_hand hz l1 S2) (fun x7 S7 => ?_)
  refine ei (fun _ => ?_) (fun _ => ?_)
  · skip
    rfl
  · skip
    refine ei (fun _ => ?_) (fun _ => ?_)
    · skip
      refine eb (eX10_highest (rd_wr hz)) (fun x53 => ?_)
      rfl
    · skip
      refine ei (fun _ => ?_) (fun _ => ?_)
      · skip
        refine em (f := (fun S => wr 9 a ρ S z)) (eX10_findWatch hz S7) (fun S58 => ?_)
        refine sb (gI_rd (rd_wr hz) rfl) ?_
        refine ei (fun _ => ?_) (fun _ => ?_)
        · skip
          refine sb (gI_rd (rd_wr hz) rfl) ?_
          rfl
        · skip
          rfl
      · skip
        refine ei (fun _ => ?_) (fun _ => ?_)
        · skip
          refine ei (fun _ => ?_) (fun _ => ?_)
          · skip
            exact ebX10_height_91 hz (1 : Int32) S7
          · skip
            exact ebX10_height_91 hz (0 : Int32) S7
        · skip
          refine ei (fun _ => ?_) (fun _ => ?_)
          · skip
            refine ei (fun _ => ?_) (fun _ => ?_)
            · skip
              exact ebX10_height_91 hz (1 : Int32) S7
            · skip
              exact ebX10_height_91 hz (0 : Int32) S7
          · skip
            refine ei (fun _ => ?_) (fun _ => ?_)
            · skip
              refine e2m (f := (fun S => wr 9 a ρ S z)) (eX10_paired hz S7) (fun x96 S96 => ?_)
              rfl
            · skip
              rfl
def gX10_meet (l1 : Int32) (l2 : Int32) (l3 : Int32) (S : SV) : Option (Int32 × SV) :=
  nm (wI S 0 (0 : Int32)) fun S2 =>
  b2 (gX10_hand l1 S2) fun x7 S7 =>
  if x7 = (0 : Int32) then (
    some ((-1 : Int32), S7)
  ) else (
    (gX10_isThing l2 S7).bind fun x15 =>
    if x15 = (0 : Int32) then (
      some ((-1 : Int32), S7)
    ) else (
      (gX10_isThing l3 S7).bind fun x23 =>
      if x23 = (0 : Int32) then (
        some ((-1 : Int32), S7)
      ) else (
        b2 (gX10_hoursTill (shl (1 : Int32) l2) (shl (1 : Int32) l3) (1 : Int32) S7) fun x37 S37 =>
        some (x37, S37)
      )
    )
  )
set_option maxRecDepth 100000 in
theorem eX10_meet {a : Nat} {ρ : RV} {z : AH} (hz : a + szV 9 ≤ z.length) (l1 : Int32) (l2 : Int32) (l3 : Int32) (S : SV) : fX10_meet a l1 l2 l3 (wr 9 a ρ S z) = (gX10_meet l1 l2 l3 S).map (fun q => (q.1, wr 9 a ρ q.2 z)) := by
  unfold fX10_meet gX10_meet
  refine eo (isO_rd (rd_wr hz)) ?_
  refine ep (f := (fun S => wr 9 a ρ S z)) (pF_int hz rfl _) (fun S2 => ?_)
  refine e2m (f := (fun S => wr 9 a ρ S z)) (eX10_hand hz l1 S2) (fun x7 S7 => ?_)
  refine ei (fun _ => ?_) (fun _ => ?_)
  · skip
    rfl
  · skip
    refine eb (eX10_isThing (rd_wr hz) l2) (fun x15 => ?_)
    refine ei (fun _ => ?_) (fun _ => ?_)
    · skip
      rfl
    · skip
      refine eb (eX10_isThing (rd_wr hz) l3) (fun x23 => ?_)
      refine ei (fun _ => ?_) (fun _ => ?_)
      · skip
        rfl
      · skip
        refine e2m (f := (fun S => wr 9 a ρ S z)) (eX10_hoursTill hz (shl (1 : Int32) l2) (shl (1 : Int32) l3) (1 : Int32) S7) (fun x37 S37 => ?_)
        rfl
def gbX10_busiest_33 (k4 : Int32 → Int32 → Option (Int32)) (l1 : Int32) (l2 : Int32) (s0 : Int32) (s1 : Int32) (S : SV) : Option (Int32) :=
  if s0 ≤ s1 then (
    nm (l2 + (1 : Int32)) fun v42 =>
    k4 l1 v42
  ) else (
    nm (l2 + (1 : Int32)) fun v42 =>
    k4 l2 v42
  )
set_option maxRecDepth 100000 in
theorem ebX10_busiest_33 {a : Nat} {ρ : RV} {S : SV} {z : AH} (hR : RD 9 a ρ S z) {k4 : Nat → Int32 → Int32 → Option (Int32)} {k4' : Int32 → Int32 → Option (Int32)} (hk4 : ∀ (l1 : Int32) (l2 : Int32), k4 a l1 l2 = k4' l1 l2) (l1 : Int32) (l2 : Int32) (s0 : Int32) (s1 : Int32) : bX10_busiest_33 k4 a l1 l2 s0 s1 z = gbX10_busiest_33 k4' l1 l2 s0 s1 S := by
  unfold bX10_busiest_33 gbX10_busiest_33
  refine ei0 (fun _ => ?_) (fun _ => ?_)
  · skip
    refine en0 (fun v42 => ?_)
    exact hk4 l1 v42
  · skip
    refine en0 (fun v42 => ?_)
    exact hk4 l2 v42
def gbX10_busiest_4 (k4 : Int32 → Int32 → Option (Int32)) (l1 : Int32) (l2 : Int32) (S : SV) : Option (Int32) :=
  if (S.1 27) ≤ l2 then (
    some l1
  ) else (
    (rA 4 (S.2.1 54) l2).bind fun x17 =>
    if l1 = (-1 : Int32) then (
      gbX10_busiest_33 k4 l1 l2 x17 (0 : Int32) S
    ) else (
      (rA 4 (S.2.1 54) l1).bind fun x32 =>
      gbX10_busiest_33 k4 l1 l2 x17 x32 S
    )
  )
set_option maxRecDepth 100000 in
theorem ebX10_busiest_4 {a : Nat} {ρ : RV} {S : SV} {z : AH} (hR : RD 9 a ρ S z) {k4 : Nat → Int32 → Int32 → Option (Int32)} {k4' : Int32 → Int32 → Option (Int32)} (hk4 : ∀ (l1 : Int32) (l2 : Int32), k4 a l1 l2 = k4' l1 l2) (l1 : Int32) (l2 : Int32) : bX10_busiest_4 k4 a l1 l2 z = gbX10_busiest_4 k4' l1 l2 S := by
  unfold bX10_busiest_4 gbX10_busiest_4
  refine sb (gI_rd hR rfl) ?_
  refine ei0 (fun _ => ?_) (fun _ => ?_)
  · skip
    rfl
  · skip
    refine sb (gN_rd hR rfl (Or.inl rfl)) ?_
    refine eb0 (ixI_rd hR (k := 54) rfl rfl (by decide) 0 rfl (by decide) _) (fun x17 => ?_)
    refine ei0 (fun _ => ?_) (fun _ => ?_)
    · skip
      exact ebX10_busiest_33 hR hk4 l1 l2 x17 (0 : Int32)
    · skip
      refine sb (gN_rd hR rfl (Or.inl rfl)) ?_
      refine eb0 (ixI_rd hR (k := 54) rfl rfl (by decide) 0 rfl (by decide) _) (fun x32 => ?_)
      exact ebX10_busiest_33 hR hk4 l1 l2 x17 x32
def gfX10_busiest_4 (S : SV) : Nat → Int32 → Int32 → Option (Int32)
  | 0, _, _ => none
  | n + 1, l1, l2 => gbX10_busiest_4 (gfX10_busiest_4 S n) l1 l2 S
theorem efX10_busiest_4 {a : Nat} {ρ : RV} {S : SV} {z : AH} (hR : RD 9 a ρ S z) : ∀ (n : Nat) (l1 : Int32) (l2 : Int32), fX10_busiest_4 z n a l1 l2 = gfX10_busiest_4 S n l1 l2 := by
  intro n
  induction n with
  | zero => intros; rfl
  | succ n ih => intro l1 l2; exact ebX10_busiest_4 hR (fun l1 l2 => ih l1 l2) l1 l2
def gX10_busiest (S : SV) : Option (Int32) :=
  gfX10_busiest_4 S FU (-1 : Int32) (0 : Int32)
set_option maxRecDepth 100000 in
theorem eX10_busiest {a : Nat} {ρ : RV} {S : SV} {z : AH} (hR : RD 9 a ρ S z) : fX10_busiest a z = gX10_busiest S := by
  unfold fX10_busiest gX10_busiest
  refine eo (isO_rd hR) ?_
  exact efX10_busiest_4 hR FU (-1 : Int32) (0 : Int32)
def gbX10_after_116 (k64 : Int32 → Int32 → Int32 → Int32 → Int32 → SV → Option (Int32 × SV)) (l3 : Int32) (l4 : Int32) (l6 : Int32) (l7 : Int32) (s0 : Int32) (S : SV) : Option (Int32 × SV) :=
  if l6 = (0 : Int32) then (
    nm (l7 + (1 : Int32)) fun v149 =>
    k64 l3 l4 s0 l6 v149 S
  ) else (
    (gX10_deedOf l7 (0 : Int32) S).bind fun x127 =>
    if x127 = (0 : Int32) then (
      (gX10_deedOf l7 (1 : Int32) S).bind fun x141 =>
      (rA 4 (S.2.1 54) x141).bind fun x145 =>
      (wA 54 4 S x141 (x145 + (1 : Int32))).bind fun S148 =>
      nm (l7 + (1 : Int32)) fun v149 =>
      k64 l3 l4 s0 l6 v149 S148
    ) else (
      nm (l7 + (1 : Int32)) fun v149 =>
      k64 l3 l4 s0 l6 v149 S
    )
  )
set_option maxRecDepth 100000 in
theorem ebX10_after_116 {a : Nat} {ρ : RV} {z : AH} (hz : a + szV 9 ≤ z.length) {k64 : Nat → Int32 → Int32 → Int32 → Int32 → Int32 → AH → Option (Int32 × AH)} {k64' : Int32 → Int32 → Int32 → Int32 → Int32 → SV → Option (Int32 × SV)} (hk64 : ∀ (l3 : Int32) (l4 : Int32) (l5 : Int32) (l6 : Int32) (l7 : Int32) (S : SV), k64 a l3 l4 l5 l6 l7 (wr 9 a ρ S z) = (k64' l3 l4 l5 l6 l7 S).map (fun q => (q.1, wr 9 a ρ q.2 z))) (l3 : Int32) (l4 : Int32) (l6 : Int32) (l7 : Int32) (s0 : Int32) (S : SV) : bX10_after_116 k64 a l3 l4 l6 l7 s0 (wr 9 a ρ S z) = (gbX10_after_116 k64' l3 l4 l6 l7 s0 S).map (fun q => (q.1, wr 9 a ρ q.2 z)) := by
  unfold bX10_after_116 gbX10_after_116
  refine ei (fun _ => ?_) (fun _ => ?_)
  · skip
    refine en (fun v149 => ?_)
    exact hk64 l3 l4 s0 l6 v149 S
  · skip
    refine eb (eX10_deedOf (rd_wr hz) l7 (0 : Int32)) (fun x127 => ?_)
    refine ei (fun _ => ?_) (fun _ => ?_)
    · skip
      refine sb (gN_rd (rd_wr hz) rfl (Or.inl rfl)) ?_
      refine eb (eX10_deedOf (rd_wr hz) l7 (1 : Int32)) (fun x141 => ?_)
      refine eb (ixI_rd (rd_wr hz) (k := 54) rfl rfl (by decide) 0 rfl (by decide) _) (fun x145 => ?_)
      refine em (f := (fun S => wr 9 a ρ S z)) (stI_rd rkOk9 hz (k := 54) rfl rfl (by decide) 0 rfl (by decide) _ _) (fun S148 => ?_)
      refine en (fun v149 => ?_)
      exact hk64 l3 l4 s0 l6 v149 S148
    · skip
      refine en (fun v149 => ?_)
      exact hk64 l3 l4 s0 l6 v149 S
def gbX10_after_114 (k64 : Int32 → Int32 → Int32 → Int32 → Int32 → SV → Option (Int32 × SV)) (l3 : Int32) (l4 : Int32) (l5 : Int32) (l6 : Int32) (l7 : Int32) (S : SV) : Option (Int32 × SV) :=
  gbX10_after_116 k64 l3 l4 l6 l7 l5 S
set_option maxRecDepth 100000 in
theorem ebX10_after_114 {a : Nat} {ρ : RV} {z : AH} (hz : a + szV 9 ≤ z.length) {k64 : Nat → Int32 → Int32 → Int32 → Int32 → Int32 → AH → Option (Int32 × AH)} {k64' : Int32 → Int32 → Int32 → Int32 → Int32 → SV → Option (Int32 × SV)} (hk64 : ∀ (l3 : Int32) (l4 : Int32) (l5 : Int32) (l6 : Int32) (l7 : Int32) (S : SV), k64 a l3 l4 l5 l6 l7 (wr 9 a ρ S z) = (k64' l3 l4 l5 l6 l7 S).map (fun q => (q.1, wr 9 a ρ q.2 z))) (l3 : Int32) (l4 : Int32) (l5 : Int32) (l6 : Int32) (l7 : Int32) (S : SV) : bX10_after_114 k64 a l3 l4 l5 l6 l7 (wr 9 a ρ S z) = (gbX10_after_114 k64' l3 l4 l5 l6 l7 S).map (fun q => (q.1, wr 9 a ρ q.2 z)) := by
  unfold bX10_after_114 gbX10_after_114
  exact ebX10_after_116 hz hk64 l3 l4 l6 l7 l5 S
def gbX10_after_92 (k64 : Int32 → Int32 → Int32 → Int32 → Int32 → SV → Option (Int32 × SV)) (l3 : Int32) (l4 : Int32) (l5 : Int32) (l7 : Int32) (s0 : Int32) (S : SV) : Option (Int32 × SV) :=
  if l5 = (-1 : Int32) then (
    if (S.1 31) = l4 then (
      gbX10_after_114 k64 l3 l4 l5 s0 l7 S
    ) else (
      gbX10_after_116 k64 l3 l4 s0 l7 l7 S
    )
  ) else (
    gbX10_after_114 k64 l3 l4 l5 s0 l7 S
  )
set_option maxRecDepth 100000 in
theorem ebX10_after_92 {a : Nat} {ρ : RV} {z : AH} (hz : a + szV 9 ≤ z.length) {k64 : Nat → Int32 → Int32 → Int32 → Int32 → Int32 → AH → Option (Int32 × AH)} {k64' : Int32 → Int32 → Int32 → Int32 → Int32 → SV → Option (Int32 × SV)} (hk64 : ∀ (l3 : Int32) (l4 : Int32) (l5 : Int32) (l6 : Int32) (l7 : Int32) (S : SV), k64 a l3 l4 l5 l6 l7 (wr 9 a ρ S z) = (k64' l3 l4 l5 l6 l7 S).map (fun q => (q.1, wr 9 a ρ q.2 z))) (l3 : Int32) (l4 : Int32) (l5 : Int32) (l7 : Int32) (s0 : Int32) (S : SV) : bX10_after_92 k64 a l3 l4 l5 l7 s0 (wr 9 a ρ S z) = (gbX10_after_92 k64' l3 l4 l5 l7 s0 S).map (fun q => (q.1, wr 9 a ρ q.2 z)) := by
  unfold bX10_after_92 gbX10_after_92
  refine ei (fun _ => ?_) (fun _ => ?_)
  · skip
    refine sb (gI_rd (rd_wr hz) rfl) ?_
    refine ei (fun _ => ?_) (fun _ => ?_)
    · skip
      exact ebX10_after_114 hz hk64 l3 l4 l5 s0 l7 S
    · skip
      exact ebX10_after_116 hz hk64 l3 l4 s0 l7 l7 S
  · skip
    exact ebX10_after_114 hz hk64 l3 l4 l5 s0 l7 S
def gbX10_after_91 (k64 : Int32 → Int32 → Int32 → Int32 → Int32 → SV → Option (Int32 × SV)) (l3 : Int32) (l4 : Int32) (l5 : Int32) (l7 : Int32) (S : SV) : Option (Int32 × SV) :=
  gbX10_after_92 k64 l3 l4 l5 l7 (0 : Int32) S
set_option maxRecDepth 100000 in
theorem ebX10_after_91 {a : Nat} {ρ : RV} {z : AH} (hz : a + szV 9 ≤ z.length) {k64 : Nat → Int32 → Int32 → Int32 → Int32 → Int32 → AH → Option (Int32 × AH)} {k64' : Int32 → Int32 → Int32 → Int32 → Int32 → SV → Option (Int32 × SV)} (hk64 : ∀ (l3 : Int32) (l4 : Int32) (l5 : Int32) (l6 : Int32) (l7 : Int32) (S : SV), k64 a l3 l4 l5 l6 l7 (wr 9 a ρ S z) = (k64' l3 l4 l5 l6 l7 S).map (fun q => (q.1, wr 9 a ρ q.2 z))) (l3 : Int32) (l4 : Int32) (l5 : Int32) (l7 : Int32) (S : SV) : bX10_after_91 k64 a l3 l4 l5 l7 (wr 9 a ρ S z) = (gbX10_after_91 k64' l3 l4 l5 l7 S).map (fun q => (q.1, wr 9 a ρ q.2 z)) := by
  unfold bX10_after_91 gbX10_after_91
  exact ebX10_after_92 hz hk64 l3 l4 l5 l7 (0 : Int32) S
def gbX10_after_64 (k64 : Int32 → Int32 → Int32 → Int32 → Int32 → SV → Option (Int32 × SV)) (l3 : Int32) (l4 : Int32) (l5 : Int32) (l6 : Int32) (l7 : Int32) (S : SV) : Option (Int32 × SV) :=
  if l6 = (0 : Int32) then (
    if l3 = (0 : Int32) then (
      (fX10_ones ((S.1 31) &&& (l4 ^^^ (-1 : Int32)))).bind fun x168 =>
      some (x168, S)
    ) else (
      if l3 = (1 : Int32) then (
        some (l5, S)
      ) else (
        if l3 = (2 : Int32) then (
          (gX10_busiest S).bind fun x190 =>
          some (x190, S)
        ) else (
          some ((S.1 36), S)
        )
      )
    )
  ) else (
    (gX10_deeds S).bind fun x72 =>
    if x72 ≤ l7 then (
      gbX10_after_91 k64 l3 l4 l5 l7 S
    ) else (
      b2 (gX10_doesDeed l7 S) fun x81 S81 =>
      if x81 = (0 : Int32) then (
        gbX10_after_91 k64 l3 l4 l5 l7 S81
      ) else (
        gbX10_after_92 k64 l3 l4 l5 l7 (1 : Int32) S81
      )
    )
  )
set_option maxRecDepth 100000 in
theorem ebX10_after_64 {a : Nat} {ρ : RV} {z : AH} (hz : a + szV 9 ≤ z.length) {k64 : Nat → Int32 → Int32 → Int32 → Int32 → Int32 → AH → Option (Int32 × AH)} {k64' : Int32 → Int32 → Int32 → Int32 → Int32 → SV → Option (Int32 × SV)} (hk64 : ∀ (l3 : Int32) (l4 : Int32) (l5 : Int32) (l6 : Int32) (l7 : Int32) (S : SV), k64 a l3 l4 l5 l6 l7 (wr 9 a ρ S z) = (k64' l3 l4 l5 l6 l7 S).map (fun q => (q.1, wr 9 a ρ q.2 z))) (l3 : Int32) (l4 : Int32) (l5 : Int32) (l6 : Int32) (l7 : Int32) (S : SV) : bX10_after_64 k64 a l3 l4 l5 l6 l7 (wr 9 a ρ S z) = (gbX10_after_64 k64' l3 l4 l5 l6 l7 S).map (fun q => (q.1, wr 9 a ρ q.2 z)) := by
  unfold bX10_after_64 gbX10_after_64
  refine ei (fun _ => ?_) (fun _ => ?_)
  · skip
    refine ei (fun _ => ?_) (fun _ => ?_)
    · skip
      refine sb (gI_rd (rd_wr hz) rfl) ?_
      refine eb rfl (fun x168 => ?_)
      rfl
    · skip
      refine ei (fun _ => ?_) (fun _ => ?_)
      · skip
        rfl
      · skip
        refine ei (fun _ => ?_) (fun _ => ?_)
        · skip
          refine eb (eX10_busiest (rd_wr hz)) (fun x190 => ?_)
          rfl
        · skip
          refine sb (gI_rd (rd_wr hz) rfl) ?_
          rfl
  · skip
    refine eb (eX10_deeds (rd_wr hz)) (fun x72 => ?_)
    refine ei (fun _ => ?_) (fun _ => ?_)
    · skip
      exact ebX10_after_91 hz hk64 l3 l4 l5 l7 S
    · skip
      refine e2m (f := (fun S => wr 9 a ρ S z)) (eX10_doesDeed hz l7 S) (fun x81 S81 => ?_)
      refine ei (fun _ => ?_) (fun _ => ?_)
      · skip
        exact ebX10_after_91 hz hk64 l3 l4 l5 l7 S81
      · skip
        exact ebX10_after_92 hz hk64 l3 l4 l5 l7 (1 : Int32) S81
def gfX10_after_64 : Nat → Int32 → Int32 → Int32 → Int32 → Int32 → SV → Option (Int32 × SV)
  | 0, _, _, _, _, _, _ => none
  | n + 1, l3, l4, l5, l6, l7, S => gbX10_after_64 (gfX10_after_64 n) l3 l4 l5 l6 l7 S
theorem efX10_after_64 {a : Nat} {ρ : RV} {z : AH} (hz : a + szV 9 ≤ z.length) : ∀ (n : Nat) (l3 : Int32) (l4 : Int32) (l5 : Int32) (l6 : Int32) (l7 : Int32) (S : SV), fX10_after_64 n a l3 l4 l5 l6 l7 (wr 9 a ρ S z) = (gfX10_after_64 n l3 l4 l5 l6 l7 S).map (fun q => (q.1, wr 9 a ρ q.2 z)) := by
  intro n
  induction n with
  | zero => intros; rfl
  | succ n ih => intro l3 l4 l5 l6 l7 S; exact ebX10_after_64 hz (fun l3 l4 l5 l6 l7 S => ih l3 l4 l5 l6 l7 S) l3 l4 l5 l6 l7 S
def gbX10_after_29 (k29 : Int32 → Int32 → SV → Option (Int32 × SV)) (l3 : Int32) (l4 : Int32) (S : SV) : Option (Int32 × SV) :=
  if (4 : Int32) ≤ l4 then (
    gfX10_after_64 FU l3 (S.1 31) (-1 : Int32) (1 : Int32) (0 : Int32) S
  ) else (
    (wA 54 4 S l4 (0 : Int32)).bind fun S42 =>
    nm (l4 + (1 : Int32)) fun v43 =>
    k29 l3 v43 S42
  )
set_option maxRecDepth 100000 in
theorem ebX10_after_29 {a : Nat} {ρ : RV} {z : AH} (hz : a + szV 9 ≤ z.length) {k29 : Nat → Int32 → Int32 → AH → Option (Int32 × AH)} {k29' : Int32 → Int32 → SV → Option (Int32 × SV)} (hk29 : ∀ (l3 : Int32) (l4 : Int32) (S : SV), k29 a l3 l4 (wr 9 a ρ S z) = (k29' l3 l4 S).map (fun q => (q.1, wr 9 a ρ q.2 z))) (l3 : Int32) (l4 : Int32) (S : SV) : bX10_after_29 k29 a l3 l4 (wr 9 a ρ S z) = (gbX10_after_29 k29' l3 l4 S).map (fun q => (q.1, wr 9 a ρ q.2 z)) := by
  unfold bX10_after_29 gbX10_after_29
  refine ei (fun _ => ?_) (fun _ => ?_)
  · skip
    refine sb (gI_rd (rd_wr hz) rfl) ?_
    exact efX10_after_64 hz FU l3 (S.1 31) (-1 : Int32) (1 : Int32) (0 : Int32) S
  · skip
    refine sb (gN_rd (rd_wr hz) rfl (Or.inl rfl)) ?_
    refine em (f := (fun S => wr 9 a ρ S z)) (stI_rd rkOk9 hz (k := 54) rfl rfl (by decide) 0 rfl (by decide) _ _) (fun S42 => ?_)
    refine en (fun v43 => ?_)
    exact hk29 l3 v43 S42
def gfX10_after_29 : Nat → Int32 → Int32 → SV → Option (Int32 × SV)
  | 0, _, _, _ => none
  | n + 1, l3, l4, S => gbX10_after_29 (gfX10_after_29 n) l3 l4 S
theorem efX10_after_29 {a : Nat} {ρ : RV} {z : AH} (hz : a + szV 9 ≤ z.length) : ∀ (n : Nat) (l3 : Int32) (l4 : Int32) (S : SV), fX10_after_29 n a l3 l4 (wr 9 a ρ S z) = (gfX10_after_29 n l3 l4 S).map (fun q => (q.1, wr 9 a ρ q.2 z)) := by
  intro n
  induction n with
  | zero => intros; rfl
  | succ n ih => intro l3 l4 S; exact ebX10_after_29 hz (fun l3 l4 S => ih l3 l4 S) l3 l4 S
def gX10_after (l1 : Int32) (l2 : Int32) (l3 : Int32) (S : SV) : Option (Int32 × SV) :=
  nm (wI S 0 (0 : Int32)) fun S2 =>
  b2 (gX10_layAll l1 l2 S2) fun x8 S8 =>
  if x8 = (0 : Int32) then (
    some ((-2 : Int32), S8)
  ) else (
    if (fX10_in l3 (0 : Int32) (3 : Int32)) = (0 : Int32) then (
      some ((-2 : Int32), S8)
    ) else (
      gfX10_after_29 FU l3 (0 : Int32) S8
    )
  )
set_option maxRecDepth 100000 in
theorem eX10_after {a : Nat} {ρ : RV} {z : AH} (hz : a + szV 9 ≤ z.length) (l1 : Int32) (l2 : Int32) (l3 : Int32) (S : SV) : fX10_after a l1 l2 l3 (wr 9 a ρ S z) = (gX10_after l1 l2 l3 S).map (fun q => (q.1, wr 9 a ρ q.2 z)) := by
  unfold fX10_after gX10_after
  refine eo (isO_rd (rd_wr hz)) ?_
  refine ep (f := (fun S => wr 9 a ρ S z)) (pF_int hz rfl _) (fun S2 => ?_)
  refine e2m (f := (fun S => wr 9 a ρ S z)) (eX10_layAll hz l1 l2 S2) (fun x8 S8 => ?_)
  refine ei (fun _ => ?_) (fun _ => ?_)
  · skip
    rfl
  · skip
    refine ei (fun _ => ?_) (fun _ => ?_)
    · skip
      rfl
    · skip
      exact efX10_after_29 hz FU l3 (0 : Int32) S8
def gbX10_wrong_65 (k33 : Int32 → Int32 → Int32 → Int32 → Int32 → SV → Option (Int32 × SV)) (l2 : Int32) (l3 : Int32) (l5 : Int32) (l6 : Int32) (l7 : Int32) (s0 : Int32) (S : SV) : Option (Int32 × SV) :=
  nm (fX10_greater l5 l7) fun v74 =>
  nm (l6 + (1 : Int32)) fun v76 =>
  k33 l2 l3 s0 v74 v76 S
set_option maxRecDepth 100000 in
theorem ebX10_wrong_65 {a : Nat} {ρ : RV} {z : AH} (hz : a + szV 9 ≤ z.length) {k33 : Nat → Int32 → Int32 → Int32 → Int32 → Int32 → AH → Option (Int32 × AH)} {k33' : Int32 → Int32 → Int32 → Int32 → Int32 → SV → Option (Int32 × SV)} (hk33 : ∀ (l2 : Int32) (l3 : Int32) (l4 : Int32) (l5 : Int32) (l6 : Int32) (S : SV), k33 a l2 l3 l4 l5 l6 (wr 9 a ρ S z) = (k33' l2 l3 l4 l5 l6 S).map (fun q => (q.1, wr 9 a ρ q.2 z))) (l2 : Int32) (l3 : Int32) (l5 : Int32) (l6 : Int32) (l7 : Int32) (s0 : Int32) (S : SV) : bX10_wrong_65 k33 a l2 l3 l5 l6 l7 s0 (wr 9 a ρ S z) = (gbX10_wrong_65 k33' l2 l3 l5 l6 l7 s0 S).map (fun q => (q.1, wr 9 a ρ q.2 z)) := by
  unfold bX10_wrong_65 gbX10_wrong_65
  refine en (fun v74 => ?_)
  refine en (fun v76 => ?_)
  exact hk33 l2 l3 s0 v74 v76 S
def gbX10_wrong_33 (k33 : Int32 → Int32 → Int32 → Int32 → Int32 → SV → Option (Int32 × SV)) (l2 : Int32) (l3 : Int32) (l4 : Int32) (l5 : Int32) (l6 : Int32) (S : SV) : Option (Int32 × SV) :=
  (gX10_views S).bind fun x36 =>
  if x36 ≤ l6 then (
    if l3 = (0 : Int32) then (
      some (l4, S)
    ) else (
      some (l5, S)
    )
  ) else (
    b2 (gX10_findCells l2 l6 S) fun x46 S46 =>
    if x46 ≤ l5 then (
      gbX10_wrong_65 k33 l2 l3 l5 l6 x46 l4 S46
    ) else (
      gbX10_wrong_65 k33 l2 l3 l5 l6 x46 l6 S46
    )
  )
set_option maxRecDepth 100000 in
theorem ebX10_wrong_33 {a : Nat} {ρ : RV} {z : AH} (hz : a + szV 9 ≤ z.length) {k33 : Nat → Int32 → Int32 → Int32 → Int32 → Int32 → AH → Option (Int32 × AH)} {k33' : Int32 → Int32 → Int32 → Int32 → Int32 → SV → Option (Int32 × SV)} (hk33 : ∀ (l2 : Int32) (l3 : Int32) (l4 : Int32) (l5 : Int32) (l6 : Int32) (S : SV), k33 a l2 l3 l4 l5 l6 (wr 9 a ρ S z) = (k33' l2 l3 l4 l5 l6 S).map (fun q => (q.1, wr 9 a ρ q.2 z))) (l2 : Int32) (l3 : Int32) (l4 : Int32) (l5 : Int32) (l6 : Int32) (S : SV) : bX10_wrong_33 k33 a l2 l3 l4 l5 l6 (wr 9 a ρ S z) = (gbX10_wrong_33 k33' l2 l3 l4 l5 l6 S).map (fun q => (q.1, wr 9 a ρ q.2 z)) := by
  unfold bX10_wrong_33 gbX10_wrong_33
  refine eb (eX10_views (rd_wr hz)) (fun x36 => ?_)
  refine ei (fun _ => ?_) (fun _ => ?_)
  · skip
    refine ei (fun _ => ?_) (fun _ => ?_)
    · skip
      rfl
    · skip
      rfl
  · skip
    refine e2m (f := (fun S => wr 9 a ρ S z)) (eX10_findCells hz l2 l6 S) (fun x46 S46 => ?_)
    refine ei (fun _ => ?_) (fun _ => ?_)
    · skip
      exact ebX10_wrong_65 hz hk33 l2 l3 l5 l6 x46 l4 S46
    · skip
      exact ebX10_wrong_65 hz hk33 l2 l3 l5 l6 x46 l6 S46
def gfX10_wrong_33 : Nat → Int32 → Int32 → Int32 → Int32 → Int32 → SV → Option (Int32 × SV)
  | 0, _, _, _, _, _, _ => none
  | n + 1, l2, l3, l4, l5, l6, S => gbX10_wrong_33 (gfX10_wrong_33 n) l2 l3 l4 l5 l6 S
theorem efX10_wrong_33 {a : Nat} {ρ : RV} {z : AH} (hz : a + szV 9 ≤ z.length) : ∀ (n : Nat) (l2 : Int32) (l3 : Int32) (l4 : Int32) (l5 : Int32) (l6 : Int32) (S : SV), fX10_wrong_33 n a l2 l3 l4 l5 l6 (wr 9 a ρ S z) = (gfX10_wrong_33 n l2 l3 l4 l5 l6 S).map (fun q => (q.1, wr 9 a ρ q.2 z)) := by
  intro n
  induction n with
  | zero => intros; rfl
  | succ n ih => intro l2 l3 l4 l5 l6 S; exact ebX10_wrong_33 hz (fun l2 l3 l4 l5 l6 S => ih l2 l3 l4 l5 l6 S) l2 l3 l4 l5 l6 S
def gX10_wrong (l1 : Int32) (l2 : Int32) (l3 : Int32) (S : SV) : Option (Int32 × SV) :=
  nm (wI S 0 (0 : Int32)) fun S2 =>
  if (fX10_in l2 (0 : Int32) (3 : Int32)) = (0 : Int32) then (
    some ((-1 : Int32), S2)
  ) else (
    b2 (gX10_hasSight l1 S2) fun x16 S16 =>
    if x16 = (0 : Int32) then (
      some ((-1 : Int32), S16)
    ) else (
      gfX10_wrong_33 FU l2 l3 (-1 : Int32) (-1 : Int32) (0 : Int32) S16
    )
  )
set_option maxRecDepth 100000 in
theorem eX10_wrong {a : Nat} {ρ : RV} {z : AH} (hz : a + szV 9 ≤ z.length) (l1 : Int32) (l2 : Int32) (l3 : Int32) (S : SV) : fX10_wrong a l1 l2 l3 (wr 9 a ρ S z) = (gX10_wrong l1 l2 l3 S).map (fun q => (q.1, wr 9 a ρ q.2 z)) := by
  unfold fX10_wrong gX10_wrong
  refine eo (isO_rd (rd_wr hz)) ?_
  refine ep (f := (fun S => wr 9 a ρ S z)) (pF_int hz rfl _) (fun S2 => ?_)
  refine ei (fun _ => ?_) (fun _ => ?_)
  · skip
    rfl
  · skip
    refine e2m (f := (fun S => wr 9 a ρ S z)) (eX10_hasSight hz l1 S2) (fun x16 S16 => ?_)
    refine ei (fun _ => ?_) (fun _ => ?_)
    · skip
      rfl
    · skip
      exact efX10_wrong_33 hz FU l2 l3 (-1 : Int32) (-1 : Int32) (0 : Int32) S16
def gbX10_tell_139 (k28 : Int32 → Int32 → Int32 → SV → Option (Int32 × SV)) (l3 : Int32) (l4 : Int32) (l6 : Int32) (s0 : Int32) (S : SV) : Option (Int32 × SV) :=
  nm (fX10_lesser l3 l6) fun v146 =>
  nm (l4 + (1 : Int32)) fun v147 =>
  k28 s0 v146 v147 S
set_option maxRecDepth 100000 in
theorem ebX10_tell_139 {a : Nat} {ρ : RV} {z : AH} (hz : a + szV 9 ≤ z.length) {k28 : Nat → Int32 → Int32 → Int32 → AH → Option (Int32 × AH)} {k28' : Int32 → Int32 → Int32 → SV → Option (Int32 × SV)} (hk28 : ∀ (l2 : Int32) (l3 : Int32) (l4 : Int32) (S : SV), k28 a l2 l3 l4 (wr 9 a ρ S z) = (k28' l2 l3 l4 S).map (fun q => (q.1, wr 9 a ρ q.2 z))) (l3 : Int32) (l4 : Int32) (l6 : Int32) (s0 : Int32) (S : SV) : bX10_tell_139 k28 a l3 l4 l6 s0 (wr 9 a ρ S z) = (gbX10_tell_139 k28' l3 l4 l6 s0 S).map (fun q => (q.1, wr 9 a ρ q.2 z)) := by
  unfold bX10_tell_139 gbX10_tell_139
  refine en (fun v146 => ?_)
  refine en (fun v147 => ?_)
  exact hk28 s0 v146 v147 S
def gbX10_tell_125 (k28 : Int32 → Int32 → Int32 → SV → Option (Int32 × SV)) (l2 : Int32) (l3 : Int32) (l4 : Int32) (s0 : Int32) (S : SV) : Option (Int32 × SV) :=
  if l3 ≤ s0 then (
    gbX10_tell_139 k28 l3 l4 s0 l2 S
  ) else (
    gbX10_tell_139 k28 l3 l4 s0 l4 S
  )
set_option maxRecDepth 100000 in
theorem ebX10_tell_125 {a : Nat} {ρ : RV} {z : AH} (hz : a + szV 9 ≤ z.length) {k28 : Nat → Int32 → Int32 → Int32 → AH → Option (Int32 × AH)} {k28' : Int32 → Int32 → Int32 → SV → Option (Int32 × SV)} (hk28 : ∀ (l2 : Int32) (l3 : Int32) (l4 : Int32) (S : SV), k28 a l2 l3 l4 (wr 9 a ρ S z) = (k28' l2 l3 l4 S).map (fun q => (q.1, wr 9 a ρ q.2 z))) (l2 : Int32) (l3 : Int32) (l4 : Int32) (s0 : Int32) (S : SV) : bX10_tell_125 k28 a l2 l3 l4 s0 (wr 9 a ρ S z) = (gbX10_tell_125 k28' l2 l3 l4 s0 S).map (fun q => (q.1, wr 9 a ρ q.2 z)) := by
  unfold bX10_tell_125 gbX10_tell_125
  refine ei (fun _ => ?_) (fun _ => ?_)
  · skip
    exact ebX10_tell_139 hz hk28 l3 l4 s0 l2 S
  · skip
    exact ebX10_tell_139 hz hk28 l3 l4 s0 l4 S
def gbX10_tell_48 (k28 : Int32 → Int32 → Int32 → SV → Option (Int32 × SV)) (k48 : Int32 → Int32 → Int32 → Int32 → Int32 → SV → Option (Int32 × SV)) (l2 : Int32) (l3 : Int32) (l4 : Int32) (l5 : Int32) (l6 : Int32) (S : SV) : Option (Int32 × SV) :=
  if (16 : Int32) ≤ l6 then (
    (gX10_lookersOf l4 S).bind fun x98 =>
    if x98 = (0 : Int32) then (
      gbX10_tell_125 k28 l2 l3 l4 (1000000 : Int32) S
    ) else (
      (fX10_manyOf (S.1 51)).bind fun x116 =>
      gbX10_tell_125 k28 l2 l3 l4 (fX10_greater l5 (x116 - l5)) S
    )
  ) else (
    if (fX10_has (S.1 51) l6) = (0 : Int32) then (
      nm (l5 + (0 : Int32)) fun v87 =>
      nm (l6 + (1 : Int32)) fun v89 =>
      k48 l2 l3 l4 v87 v89 S
    ) else (
      (gX10_lookersOf l4 S).bind fun x74 =>
      if (l6 &&& x74) = (0 : Int32) then (
        nm (l5 + (0 : Int32)) fun v87 =>
        nm (l6 + (1 : Int32)) fun v89 =>
        k48 l2 l3 l4 v87 v89 S
      ) else (
        nm (l5 + (1 : Int32)) fun v87 =>
        nm (l6 + (1 : Int32)) fun v89 =>
        k48 l2 l3 l4 v87 v89 S
      )
    )
  )
set_option maxRecDepth 100000 in
theorem ebX10_tell_48 {a : Nat} {ρ : RV} {z : AH} (hz : a + szV 9 ≤ z.length) {k28 : Nat → Int32 → Int32 → Int32 → AH → Option (Int32 × AH)} {k28' : Int32 → Int32 → Int32 → SV → Option (Int32 × SV)} {k48 : Nat → Int32 → Int32 → Int32 → Int32 → Int32 → AH → Option (Int32 × AH)} {k48' : Int32 → Int32 → Int32 → Int32 → Int32 → SV → Option (Int32 × SV)} (hk28 : ∀ (l2 : Int32) (l3 : Int32) (l4 : Int32) (S : SV), k28 a l2 l3 l4 (wr 9 a ρ S z) = (k28' l2 l3 l4 S).map (fun q => (q.1, wr 9 a ρ q.2 z))) (hk48 : ∀ (l2 : Int32) (l3 : Int32) (l4 : Int32) (l5 : Int32) (l6 : Int32) (S : SV), k48 a l2 l3 l4 l5 l6 (wr 9 a ρ S z) = (k48' l2 l3 l4 l5 l6 S).map (fun q => (q.1, wr 9 a ρ q.2 z))) (l2 : Int32) (l3 : Int32) (l4 : Int32) (l5 : Int32) (l6 : Int32) (S : SV) : bX10_tell_48 k28 k48 a l2 l3 l4 l5 l6 (wr 9 a ρ S z) = (gbX10_tell_48 k28' k48' l2 l3 l4 l5 l6 S).map (fun q => (q.1, wr 9 a ρ q.2 z)) := by
  unfold bX10_tell_48 gbX10_tell_48
  refine ei (fun _ => ?_) (fun _ => ?_)
  · skip
    refine eb (eX10_lookersOf (rd_wr hz) l4) (fun x98 => ?_)
    refine ei (fun _ => ?_) (fun _ => ?_)
    · skip
      exact ebX10_tell_125 hz hk28 l2 l3 l4 (1000000 : Int32) S
    · skip
      refine sb (gI_rd (rd_wr hz) rfl) ?_
      refine eb rfl (fun x116 => ?_)
      exact ebX10_tell_125 hz hk28 l2 l3 l4 (fX10_greater l5 (x116 - l5)) S
  · skip
    refine sb (gI_rd (rd_wr hz) rfl) ?_
    refine ei (fun _ => ?_) (fun _ => ?_)
    · skip
      refine en (fun v87 => ?_)
      refine en (fun v89 => ?_)
      exact hk48 l2 l3 l4 v87 v89 S
    · skip
      refine eb (eX10_lookersOf (rd_wr hz) l4) (fun x74 => ?_)
      refine ei (fun _ => ?_) (fun _ => ?_)
      · skip
        refine en (fun v87 => ?_)
        refine en (fun v89 => ?_)
        exact hk48 l2 l3 l4 v87 v89 S
      · skip
        refine en (fun v87 => ?_)
        refine en (fun v89 => ?_)
        exact hk48 l2 l3 l4 v87 v89 S
def gfX10_tell_48 (k28 : Int32 → Int32 → Int32 → SV → Option (Int32 × SV)) : Nat → Int32 → Int32 → Int32 → Int32 → Int32 → SV → Option (Int32 × SV)
  | 0, _, _, _, _, _, _ => none
  | n + 1, l2, l3, l4, l5, l6, S => gbX10_tell_48 k28 (gfX10_tell_48 k28 n) l2 l3 l4 l5 l6 S
theorem efX10_tell_48 {a : Nat} {ρ : RV} {z : AH} (hz : a + szV 9 ≤ z.length) {k28 : Nat → Int32 → Int32 → Int32 → AH → Option (Int32 × AH)} {k28' : Int32 → Int32 → Int32 → SV → Option (Int32 × SV)} (hk28 : ∀ (l2 : Int32) (l3 : Int32) (l4 : Int32) (S : SV), k28 a l2 l3 l4 (wr 9 a ρ S z) = (k28' l2 l3 l4 S).map (fun q => (q.1, wr 9 a ρ q.2 z))) : ∀ (n : Nat) (l2 : Int32) (l3 : Int32) (l4 : Int32) (l5 : Int32) (l6 : Int32) (S : SV), fX10_tell_48 k28 n a l2 l3 l4 l5 l6 (wr 9 a ρ S z) = (gfX10_tell_48 k28' n l2 l3 l4 l5 l6 S).map (fun q => (q.1, wr 9 a ρ q.2 z)) := by
  intro n
  induction n with
  | zero => intros; rfl
  | succ n ih => intro l2 l3 l4 l5 l6 S; exact ebX10_tell_48 hz hk28 (fun l2 l3 l4 l5 l6 S => ih l2 l3 l4 l5 l6 S) l2 l3 l4 l5 l6 S
def gbX10_tell_28 (k28 : Int32 → Int32 → Int32 → SV → Option (Int32 × SV)) (l2 : Int32) (l3 : Int32) (l4 : Int32) (S : SV) : Option (Int32 × SV) :=
  if (8 : Int32) ≤ l4 then (
    some (l2, S)
  ) else (
    if (S.1 51) = (0 : Int32) then (
      some (l2, S)
    ) else (
      gfX10_tell_48 k28 FU l2 l3 l4 (0 : Int32) (0 : Int32) S
    )
  )
set_option maxRecDepth 100000 in
theorem ebX10_tell_28 {a : Nat} {ρ : RV} {z : AH} (hz : a + szV 9 ≤ z.length) {k28 : Nat → Int32 → Int32 → Int32 → AH → Option (Int32 × AH)} {k28' : Int32 → Int32 → Int32 → SV → Option (Int32 × SV)} (hk28 : ∀ (l2 : Int32) (l3 : Int32) (l4 : Int32) (S : SV), k28 a l2 l3 l4 (wr 9 a ρ S z) = (k28' l2 l3 l4 S).map (fun q => (q.1, wr 9 a ρ q.2 z))) (l2 : Int32) (l3 : Int32) (l4 : Int32) (S : SV) : bX10_tell_28 k28 a l2 l3 l4 (wr 9 a ρ S z) = (gbX10_tell_28 k28' l2 l3 l4 S).map (fun q => (q.1, wr 9 a ρ q.2 z)) := by
  unfold bX10_tell_28 gbX10_tell_28
  refine ei (fun _ => ?_) (fun _ => ?_)
  · skip
    rfl
  · skip
    refine sb (gI_rd (rd_wr hz) rfl) ?_
    refine ei (fun _ => ?_) (fun _ => ?_)
    · skip
      rfl
    · skip
      exact efX10_tell_48 hz hk28 FU l2 l3 l4 (0 : Int32) (0 : Int32) S
def gfX10_tell_28 : Nat → Int32 → Int32 → Int32 → SV → Option (Int32 × SV)
  | 0, _, _, _, _ => none
  | n + 1, l2, l3, l4, S => gbX10_tell_28 (gfX10_tell_28 n) l2 l3 l4 S
theorem efX10_tell_28 {a : Nat} {ρ : RV} {z : AH} (hz : a + szV 9 ≤ z.length) : ∀ (n : Nat) (l2 : Int32) (l3 : Int32) (l4 : Int32) (S : SV), fX10_tell_28 n a l2 l3 l4 (wr 9 a ρ S z) = (gfX10_tell_28 n l2 l3 l4 S).map (fun q => (q.1, wr 9 a ρ q.2 z)) := by
  intro n
  induction n with
  | zero => intros; rfl
  | succ n ih => intro l2 l3 l4 S; exact ebX10_tell_28 hz (fun l2 l3 l4 S => ih l2 l3 l4 S) l2 l3 l4 S
def gX10_tell (l1 : Int32) (S : SV) : Option (Int32 × SV) :=
  nm (wI S 0 (0 : Int32)) fun S2 =>
  b2 (gX10_hasFight l1 S2) fun x7 S7 =>
  if x7 = (0 : Int32) then (
    some ((-1 : Int32), S7)
  ) else (
    (gX10_findSets S7).bind fun S16 =>
    gfX10_tell_28 FU (-1 : Int32) (1000000 : Int32) (0 : Int32) S16
  )
set_option maxRecDepth 100000 in
theorem eX10_tell {a : Nat} {ρ : RV} {z : AH} (hz : a + szV 9 ≤ z.length) (l1 : Int32) (S : SV) : fX10_tell a l1 (wr 9 a ρ S z) = (gX10_tell l1 S).map (fun q => (q.1, wr 9 a ρ q.2 z)) := by
  unfold fX10_tell gX10_tell
  refine eo (isO_rd (rd_wr hz)) ?_
  refine ep (f := (fun S => wr 9 a ρ S z)) (pF_int hz rfl _) (fun S2 => ?_)
  refine e2m (f := (fun S => wr 9 a ρ S z)) (eX10_hasFight hz l1 S2) (fun x7 S7 => ?_)
  refine ei (fun _ => ?_) (fun _ => ?_)
  · skip
    rfl
  · skip
    refine em (f := (fun S => wr 9 a ρ S z)) (eX10_findSets hz S7) (fun S16 => ?_)
    exact efX10_tell_28 hz FU (-1 : Int32) (1000000 : Int32) (0 : Int32) S16
def gX10_count (l1 : Int32) (S : SV) : Option (Int32 × SV) :=
  nm (wI S 0 (0 : Int32)) fun S2 =>
  if (fX10_in l1 (0 : Int32) (3 : Int32)) = (0 : Int32) then (
    some ((-2 : Int32), S2)
  ) else (
    (rA 16 (S2.2.1 5) l1).bind fun x19 =>
    some (x19, S2)
  )
set_option maxRecDepth 100000 in
theorem eX10_count {a : Nat} {ρ : RV} {z : AH} (hz : a + szV 9 ≤ z.length) (l1 : Int32) (S : SV) : fX10_count a l1 (wr 9 a ρ S z) = (gX10_count l1 S).map (fun q => (q.1, wr 9 a ρ q.2 z)) := by
  unfold fX10_count gX10_count
  refine eo (isO_rd (rd_wr hz)) ?_
  refine ep (f := (fun S => wr 9 a ρ S z)) (pF_int hz rfl _) (fun S2 => ?_)
  refine ei (fun _ => ?_) (fun _ => ?_)
  · skip
    rfl
  · skip
    refine sb (gN_rd (rd_wr hz) rfl (Or.inl rfl)) ?_
    refine eb (ixI_rd (rd_wr hz) (k := 5) rfl rfl (by decide) 0 rfl (by decide) _) (fun x19 => ?_)
    rfl
def gX10_image (l1 : Int32) (S : SV) : Option (Int32 × SV) :=
  nm (wI S 0 (0 : Int32)) fun S2 =>
  if (fX10_in l1 (0 : Int32) (2 : Int32)) = (0 : Int32) then (
    some ((0 : Int32), S2)
  ) else (
    (gX10_copyAll (0 : Int32) (l1 + (1 : Int32)) S2).bind fun S21 =>
    (wA 55 3 S21 l1 (vp_nar .boolean (1 : Int32))).bind fun S30 =>
    some ((1 : Int32), S30)
  )
set_option maxRecDepth 100000 in
theorem eX10_image {a : Nat} {ρ : RV} {z : AH} (hz : a + szV 9 ≤ z.length) (l1 : Int32) (S : SV) : fX10_image a l1 (wr 9 a ρ S z) = (gX10_image l1 S).map (fun q => (q.1, wr 9 a ρ q.2 z)) := by
  unfold fX10_image gX10_image
  refine eo (isO_rd (rd_wr hz)) ?_
  refine ep (f := (fun S => wr 9 a ρ S z)) (pF_int hz rfl _) (fun S2 => ?_)
  refine ei (fun _ => ?_) (fun _ => ?_)
  · skip
    rfl
  · skip
    refine em (f := (fun S => wr 9 a ρ S z)) (eX10_copyAll hz (0 : Int32) (l1 + (1 : Int32)) S2) (fun S21 => ?_)
    refine sb (gN_rd (rd_wr hz) rfl (Or.inr (Or.inr (Or.inl rfl)))) ?_
    refine em (f := (fun S => wr 9 a ρ S z)) (stI_rd rkOk9 hz (k := 55) rfl rfl (by decide) 2 rfl (by decide) _ _) (fun S30 => ?_)
    rfl
def gX10_again (l1 : Int32) (S : SV) : Option (Int32 × SV) :=
  nm (wI S 0 (0 : Int32)) fun S2 =>
  if (fX10_in l1 (0 : Int32) (2 : Int32)) = (0 : Int32) then (
    some ((0 : Int32), S2)
  ) else (
    (rA 3 (S2.2.1 55) l1).bind fun x19 =>
    if x19 = (0 : Int32) then (
      some ((0 : Int32), S2)
    ) else (
      (gX10_copyAll (l1 + (1 : Int32)) (0 : Int32) S2).bind fun S30 =>
      some ((1 : Int32), S30)
    )
  )
set_option maxRecDepth 100000 in
theorem eX10_again {a : Nat} {ρ : RV} {z : AH} (hz : a + szV 9 ≤ z.length) (l1 : Int32) (S : SV) : fX10_again a l1 (wr 9 a ρ S z) = (gX10_again l1 S).map (fun q => (q.1, wr 9 a ρ q.2 z)) := by
  unfold fX10_again gX10_again
  refine eo (isO_rd (rd_wr hz)) ?_
  refine ep (f := (fun S => wr 9 a ρ S z)) (pF_int hz rfl _) (fun S2 => ?_)
  refine ei (fun _ => ?_) (fun _ => ?_)
  · skip
    rfl
  · skip
    refine sb (gN_rd (rd_wr hz) rfl (Or.inr (Or.inr (Or.inl rfl)))) ?_
    refine eb (ixI_rd (rd_wr hz) (k := 55) rfl rfl (by decide) 2 rfl (by decide) _) (fun x19 => ?_)
    refine ei (fun _ => ?_) (fun _ => ?_)
    · skip
      rfl
    · skip
      refine em (f := (fun S => wr 9 a ρ S z)) (eX10_copyAll hz (l1 + (1 : Int32)) (0 : Int32) S2) (fun S30 => ?_)
      rfl
