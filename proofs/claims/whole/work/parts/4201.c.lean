theorem rkOk0 : rkOk 0 = true := by decide +kernel
theorem rkOk1 : rkOk 1 = true := by decide +kernel
theorem rkOk2 : rkOk 2 = true := by decide +kernel
theorem rkOk3 : rkOk 3 = true := by decide +kernel
theorem rkOk4 : rkOk 4 = true := by decide +kernel
theorem rkOk5 : rkOk 5 = true := by decide +kernel
theorem rkOk6 : rkOk 6 = true := by decide +kernel
theorem lnd (ρ : RV) (c : Nat) : (va_up ρ.1 0 (some c), ρ.2).1 0 = some c := by show va_up ρ.1 0 (some c) 0 = some c; exact va_up_self _ _ _
/-- a piece of a row copied into a row of a view -/
def cpV (k n0 n1 : Nat) (i j : Int32) (f : Nat → Int32) (n : Int32) (S : SV) : Option SV :=
  if (¬ i < 0 ∧ ¬ j < 0 ∧ ¬ n < 0) ∧ (i.toNatClampNeg + n.toNatClampNeg ≤ n0 ∧ j.toNatClampNeg + n.toNatClampNeg ≤ n1) then some (wR S k (va_cpy f (S.2.1 k) i.toNatClampNeg j.toNatClampNeg n.toNatClampNeg)) else none
theorem cpI_rd {c a b n0 : Nat} {ρ : RV} {S : SV} {z : AH} {f : Nat → Int32} (hc : rkOk c = true) (hl : a + szV c ≤ z.length) (hA : RW 0 b n0 f (wr c a ρ S z)) {k off n1 t : Nat} (hk : (dsc c ρ.2.2)[k]? = some (1, off, n1, t)) (hr : rk c off = some k) (h0 : 0 < off) (i j n : Int32) : cpI 0 (wr c a ρ S z) b i (a + off) j n = (cpV k n0 n1 i j f n S).map (fun S' => wr c a ρ S' z) := by
  unfold cpI
  have e : rowZ c ρ S k = .inl (0, n1, S.2.1 k) := by simp [rowZ, hk]
  rw [show (wr c a ρ S z)[b]? = _ from hA, wr_row hl hr h0, e]
  have key : ∀ f, (wr c a ρ S z).set (a + off) (rowZ c ρ (wR S k f) k) = wr c a ρ (wR S k f) z := by
    intro f
    refine set_row hl hr h0 (obZ_ne rfl (fun j hj => ?_)) (fun d' k' hk' hd' hne => ?_)
    · unfold fvZ; split <;> simp_all [wR]
    · have hkk : k' ≠ k := fun e => hne (rk_inj hc (by rw [hk', e]) hr hd' h0)
      unfold rowZ
      simp [wR, hkk]
  have e2 : ∀ f, rowZ c ρ (wR S k f) k = .inl (0, n1, f) := fun f => by simp [rowZ, hk, wR]
  unfold cpV
  by_cases hq : (¬ i < 0 ∧ ¬ j < 0 ∧ ¬ n < 0) ∧ (i.toNatClampNeg + n.toNatClampNeg ≤ n0 ∧ j.toNatClampNeg + n.toNatClampNeg ≤ n1)
  · rw [if_pos hq]
    refine (if_pos (⟨⟨rfl, rfl⟩, hq.1, hq.2, Or.inl rfl⟩ : (0 = 0 ∧ 0 = 0) ∧ _ ∧ _ ∧ _)).trans ?_
    rw [← e2, key]; rfl
  · rw [if_neg hq]
    exact if_neg (fun h : (0 = 0 ∧ 0 = 0) ∧ _ ∧ _ ∧ _ => hq ⟨h.2.1, h.2.2.1⟩)
def gX0_hasThing (l1 : Int32) (S : SV) : Option (Int32) :=
  if l1 < (0 : Int32) then (
    some (0 : Int32)
  ) else (
    if (S.1 0) ≤ l1 then (
      some (0 : Int32)
    ) else (
      some (1 : Int32)
    )
  )
set_option maxRecDepth 100000 in
theorem eX0_hasThing {z : AH} {a : Nat} {ρ : RV} {S : SV} (hR : RD 0 a ρ S z) (l1 : Int32) : fX0_hasThing a l1 z = gX0_hasThing l1 S := by
  unfold fX0_hasThing gX0_hasThing
  refine eo (isO_rd hR) ?_
  refine ei0 (fun _ => ?_) (fun _ => ?_)
  · skip
    rfl
  · skip
    refine sb (gI_rd hR rfl) ?_
    refine ei0 (fun _ => ?_) (fun _ => ?_)
    · skip
      rfl
    · skip
      rfl
def gX0_addThing (l1 : Int32) (l2 : Int32) (l3 : Int32) (S : SV) : Option SV :=
  if (8 : Int32) ≤ (S.1 0) then (
    some S
  ) else (
    (wA 1 8 S (S.1 0) l1).bind fun S18 =>
    (wA 2 8 S18 (S18.1 0) l2).bind fun S28 =>
    (wA 3 8 S28 (S28.1 0) l3).bind fun S38 =>
    nm (wI S38 0 ((S38.1 0) + (1 : Int32))) fun S46 =>
    some S46
  )
set_option maxRecDepth 100000 in
theorem eX0_addThing {z : AH} {a : Nat} {ρ : RV} (hz : a + szV 0 ≤ z.length) (l1 : Int32) (l2 : Int32) (l3 : Int32) (S : SV) : fX0_addThing a l1 l2 l3 (wr 0 a ρ S z) = (gX0_addThing l1 l2 l3 S).map (fun S => wr 0 a ρ S z) := by
  unfold fX0_addThing gX0_addThing
  refine eo (isO_rd (rd_wr hz)) ?_
  refine sb (gI_rd (rd_wr hz) rfl) ?_
  refine ei (fun _ => ?_) (fun _ => ?_)
  · skip
    rfl
  · skip
    refine sb (gN_rd (rd_wr hz) rfl (Or.inl rfl)) ?_
    refine sb (gI_rd (rd_wr hz) rfl) ?_
    refine em (f := (fun S => wr 0 a ρ S z)) (stI_rd rkOk0 hz (k := 1) rfl rfl (by decide) 0 rfl (by decide) _ _) (fun S18 => ?_)
    refine sb (gN_rd (rd_wr hz) rfl (Or.inl rfl)) ?_
    refine sb (gI_rd (rd_wr hz) rfl) ?_
    refine em (f := (fun S => wr 0 a ρ S z)) (stI_rd rkOk0 hz (k := 2) rfl rfl (by decide) 0 rfl (by decide) _ _) (fun S28 => ?_)
    refine sb (gN_rd (rd_wr hz) rfl (Or.inl rfl)) ?_
    refine sb (gI_rd (rd_wr hz) rfl) ?_
    refine em (f := (fun S => wr 0 a ρ S z)) (stI_rd rkOk0 hz (k := 3) rfl rfl (by decide) 0 rfl (by decide) _ _) (fun S38 => ?_)
    refine sb (gI_rd (rd_wr hz) rfl) ?_
    refine ep (f := (fun S => wr 0 a ρ S z)) (pF_int hz rfl _) (fun S46 => ?_)
    rfl
def gX0_restOn (l1 : Int32) (l2 : Int32) (S : SV) : Option SV :=
  if l1 < (0 : Int32) then (
    some S
  ) else (
    if (8 : Int32) ≤ l1 then (
      some S
    ) else (
      (wA 4 8 S l1 l2).bind fun S16 =>
      some S16
    )
  )
set_option maxRecDepth 100000 in
theorem eX0_restOn {z : AH} {a : Nat} {ρ : RV} (hz : a + szV 0 ≤ z.length) (l1 : Int32) (l2 : Int32) (S : SV) : fX0_restOn a l1 l2 (wr 0 a ρ S z) = (gX0_restOn l1 l2 S).map (fun S => wr 0 a ρ S z) := by
  unfold fX0_restOn gX0_restOn
  refine eo (isO_rd (rd_wr hz)) ?_
  refine ei (fun _ => ?_) (fun _ => ?_)
  · skip
    rfl
  · skip
    refine ei (fun _ => ?_) (fun _ => ?_)
    · skip
      rfl
    · skip
      refine sb (gN_rd (rd_wr hz) rfl (Or.inl rfl)) ?_
      refine em (f := (fun S => wr 0 a ρ S z)) (stI_rd rkOk0 hz (k := 4) rfl rfl (by decide) 0 rfl (by decide) _ _) (fun S16 => ?_)
      rfl
def gX0_addPath (l1 : Int32) (l2 : Int32) (S : SV) : Option SV :=
  if (12 : Int32) ≤ (S.1 7) then (
    some S
  ) else (
    if (fX0_isPlace l1) = (0 : Int32) then (
      some S
    ) else (
      if (fX0_isPlace l2) = (0 : Int32) then (
        some S
      ) else (
        (wA 8 12 S (S.1 7) l1).bind fun S32 =>
        (wA 9 12 S32 (S32.1 7) l2).bind fun S42 =>
        nm (wI S42 7 ((S42.1 7) + (1 : Int32))) fun S50 =>
        (rA 8 (S50.2.1 6) l1).bind fun x59 =>
        (wA 6 8 S50 l1 (x59 ||| (shl (1 : Int32) l2))).bind fun S64 =>
        (rA 8 (S64.2.1 6) l2).bind fun x71 =>
        (wA 6 8 S64 l2 (x71 ||| (shl (1 : Int32) l1))).bind fun S76 =>
        some S76
      )
    )
  )
set_option maxRecDepth 100000 in
theorem eX0_addPath {z : AH} {a : Nat} {ρ : RV} (hz : a + szV 0 ≤ z.length) (l1 : Int32) (l2 : Int32) (S : SV) : fX0_addPath a l1 l2 (wr 0 a ρ S z) = (gX0_addPath l1 l2 S).map (fun S => wr 0 a ρ S z) := by
  unfold fX0_addPath gX0_addPath
  refine eo (isO_rd (rd_wr hz)) ?_
  refine sb (gI_rd (rd_wr hz) rfl) ?_
  refine ei (fun _ => ?_) (fun _ => ?_)
  · skip
    rfl
  · skip
    refine ei (fun _ => ?_) (fun _ => ?_)
    · skip
      rfl
    · skip
      refine ei (fun _ => ?_) (fun _ => ?_)
      · skip
        rfl
      · skip
        refine sb (gN_rd (rd_wr hz) rfl (Or.inl rfl)) ?_
        refine sb (gI_rd (rd_wr hz) rfl) ?_
        refine em (f := (fun S => wr 0 a ρ S z)) (stI_rd rkOk0 hz (k := 8) rfl rfl (by decide) 0 rfl (by decide) _ _) (fun S32 => ?_)
        refine sb (gN_rd (rd_wr hz) rfl (Or.inl rfl)) ?_
        refine sb (gI_rd (rd_wr hz) rfl) ?_
        refine em (f := (fun S => wr 0 a ρ S z)) (stI_rd rkOk0 hz (k := 9) rfl rfl (by decide) 0 rfl (by decide) _ _) (fun S42 => ?_)
        refine sb (gI_rd (rd_wr hz) rfl) ?_
        refine ep (f := (fun S => wr 0 a ρ S z)) (pF_int hz rfl _) (fun S50 => ?_)
        refine sb (gN_rd (rd_wr hz) rfl (Or.inl rfl)) ?_
        refine eb (ixI_rd (rd_wr hz) (k := 6) rfl rfl (by decide) 0 rfl (by decide) _) (fun x59 => ?_)
        refine em (f := (fun S => wr 0 a ρ S z)) (stI_rd rkOk0 hz (k := 6) rfl rfl (by decide) 0 rfl (by decide) _ _) (fun S64 => ?_)
        refine sb (gN_rd (rd_wr hz) rfl (Or.inl rfl)) ?_
        refine eb (ixI_rd (rd_wr hz) (k := 6) rfl rfl (by decide) 0 rfl (by decide) _) (fun x71 => ?_)
        refine em (f := (fun S => wr 0 a ρ S z)) (stI_rd rkOk0 hz (k := 6) rfl rfl (by decide) 0 rfl (by decide) _ _) (fun S76 => ?_)
        rfl
def gX0_addLeft (l1 : Int32) (S : SV) : Option SV :=
  if (4 : Int32) ≤ (S.1 10) then (
    some S
  ) else (
    (wA 12 4 S (S.1 10) l1).bind fun S17 =>
    nm (wI S17 10 ((S17.1 10) + (1 : Int32))) fun S25 =>
    some S25
  )
set_option maxRecDepth 100000 in
theorem eX0_addLeft {z : AH} {a : Nat} {ρ : RV} (hz : a + szV 0 ≤ z.length) (l1 : Int32) (S : SV) : fX0_addLeft a l1 (wr 0 a ρ S z) = (gX0_addLeft l1 S).map (fun S => wr 0 a ρ S z) := by
  unfold fX0_addLeft gX0_addLeft
  refine eo (isO_rd (rd_wr hz)) ?_
  refine sb (gI_rd (rd_wr hz) rfl) ?_
  refine ei (fun _ => ?_) (fun _ => ?_)
  · skip
    rfl
  · skip
    refine sb (gN_rd (rd_wr hz) rfl (Or.inl rfl)) ?_
    refine sb (gI_rd (rd_wr hz) rfl) ?_
    refine em (f := (fun S => wr 0 a ρ S z)) (stI_rd rkOk0 hz (k := 12) rfl rfl (by decide) 0 rfl (by decide) _ _) (fun S17 => ?_)
    refine sb (gI_rd (rd_wr hz) rfl) ?_
    refine ep (f := (fun S => wr 0 a ρ S z)) (pF_int hz rfl _) (fun S25 => ?_)
    rfl
def gX0_addRight (l1 : Int32) (S : SV) : Option SV :=
  if (4 : Int32) ≤ (S.1 11) then (
    some S
  ) else (
    (wA 13 4 S (S.1 11) l1).bind fun S17 =>
    nm (wI S17 11 ((S17.1 11) + (1 : Int32))) fun S25 =>
    some S25
  )
set_option maxRecDepth 100000 in
theorem eX0_addRight {z : AH} {a : Nat} {ρ : RV} (hz : a + szV 0 ≤ z.length) (l1 : Int32) (S : SV) : fX0_addRight a l1 (wr 0 a ρ S z) = (gX0_addRight l1 S).map (fun S => wr 0 a ρ S z) := by
  unfold fX0_addRight gX0_addRight
  refine eo (isO_rd (rd_wr hz)) ?_
  refine sb (gI_rd (rd_wr hz) rfl) ?_
  refine ei (fun _ => ?_) (fun _ => ?_)
  · skip
    rfl
  · skip
    refine sb (gN_rd (rd_wr hz) rfl (Or.inl rfl)) ?_
    refine sb (gI_rd (rd_wr hz) rfl) ?_
    refine em (f := (fun S => wr 0 a ρ S z)) (stI_rd rkOk0 hz (k := 13) rfl rfl (by decide) 0 rfl (by decide) _ _) (fun S17 => ?_)
    refine sb (gI_rd (rd_wr hz) rfl) ?_
    refine ep (f := (fun S => wr 0 a ρ S z)) (pF_int hz rfl _) (fun S25 => ?_)
    rfl
def gX0_addCouple (l1 : Int32) (l2 : Int32) (S : SV) : Option SV :=
  if (4 : Int32) ≤ (S.1 14) then (
    some S
  ) else (
    (wA 15 4 S (S.1 14) l1).bind fun S17 =>
    (wA 16 4 S17 (S17.1 14) l2).bind fun S27 =>
    nm (wI S27 14 ((S27.1 14) + (1 : Int32))) fun S35 =>
    some S35
  )
set_option maxRecDepth 100000 in
theorem eX0_addCouple {z : AH} {a : Nat} {ρ : RV} (hz : a + szV 0 ≤ z.length) (l1 : Int32) (l2 : Int32) (S : SV) : fX0_addCouple a l1 l2 (wr 0 a ρ S z) = (gX0_addCouple l1 l2 S).map (fun S => wr 0 a ρ S z) := by
  unfold fX0_addCouple gX0_addCouple
  refine eo (isO_rd (rd_wr hz)) ?_
  refine sb (gI_rd (rd_wr hz) rfl) ?_
  refine ei (fun _ => ?_) (fun _ => ?_)
  · skip
    rfl
  · skip
    refine sb (gN_rd (rd_wr hz) rfl (Or.inl rfl)) ?_
    refine sb (gI_rd (rd_wr hz) rfl) ?_
    refine em (f := (fun S => wr 0 a ρ S z)) (stI_rd rkOk0 hz (k := 15) rfl rfl (by decide) 0 rfl (by decide) _ _) (fun S17 => ?_)
    refine sb (gN_rd (rd_wr hz) rfl (Or.inl rfl)) ?_
    refine sb (gI_rd (rd_wr hz) rfl) ?_
    refine em (f := (fun S => wr 0 a ρ S z)) (stI_rd rkOk0 hz (k := 16) rfl rfl (by decide) 0 rfl (by decide) _ _) (fun S27 => ?_)
    refine sb (gI_rd (rd_wr hz) rfl) ?_
    refine ep (f := (fun S => wr 0 a ρ S z)) (pF_int hz rfl _) (fun S35 => ?_)
    rfl
def gbX0_hasRing_41 (k2 : Int32 → Option (Int32)) (l1 : Int32) (l2 : Int32) (S : SV) : Option (Int32) :=
  (gX0_hasThing l2 S).bind fun x43 =>
  if x43 = (0 : Int32) then (
    nm (l1 + (1 : Int32)) fun v51 =>
    k2 v51
  ) else (
    some (1 : Int32)
  )
set_option maxRecDepth 100000 in
theorem ebX0_hasRing_41 {z : AH} {a : Nat} {ρ : RV} {S : SV} (hR : RD 0 a ρ S z) {k2 : Nat → Int32 → Option (Int32)} {k2' : Int32 → Option (Int32)} (hk2 : ∀ (l1 : Int32), k2 a l1 = k2' l1) (l1 : Int32) (l2 : Int32) : bX0_hasRing_41 k2 a l1 l2 z = gbX0_hasRing_41 k2' l1 l2 S := by
  unfold bX0_hasRing_41 gbX0_hasRing_41
  refine eb0 (eX0_hasThing hR l2) (fun x43 => ?_)
  refine ei0 (fun _ => ?_) (fun _ => ?_)
  · skip
    refine en0 (fun v51 => ?_)
    exact hk2 v51
  · skip
    rfl
def gbX0_hasRing_14 (k2 : Int32 → Option (Int32)) (k14 : Int32 → Int32 → Int32 → Option (Int32)) (l1 : Int32) (l2 : Int32) (l3 : Int32) (S : SV) : Option (Int32) :=
  if (8 : Int32) ≤ l3 then (
    gbX0_hasRing_41 k2 l1 l2 S
  ) else (
    (gX0_hasThing l2 S).bind fun x22 =>
    if x22 = (0 : Int32) then (
      gbX0_hasRing_41 k2 l1 l2 S
    ) else (
      (rA 8 (S.2.1 4) l2).bind fun x33 =>
      nm (l3 + (1 : Int32)) fun v35 =>
      k14 l1 x33 v35
    )
  )
set_option maxRecDepth 100000 in
theorem ebX0_hasRing_14 {z : AH} {a : Nat} {ρ : RV} {S : SV} (hR : RD 0 a ρ S z) {k2 : Nat → Int32 → Option (Int32)} {k2' : Int32 → Option (Int32)} {k14 : Nat → Int32 → Int32 → Int32 → Option (Int32)} {k14' : Int32 → Int32 → Int32 → Option (Int32)} (hk2 : ∀ (l1 : Int32), k2 a l1 = k2' l1) (hk14 : ∀ (l1 : Int32) (l2 : Int32) (l3 : Int32), k14 a l1 l2 l3 = k14' l1 l2 l3) (l1 : Int32) (l2 : Int32) (l3 : Int32) : bX0_hasRing_14 k2 k14 a l1 l2 l3 z = gbX0_hasRing_14 k2' k14' l1 l2 l3 S := by
  unfold bX0_hasRing_14 gbX0_hasRing_14
  refine ei0 (fun _ => ?_) (fun _ => ?_)
  · skip
    exact ebX0_hasRing_41 hR hk2 l1 l2
  · skip
    refine eb0 (eX0_hasThing hR l2) (fun x22 => ?_)
    refine ei0 (fun _ => ?_) (fun _ => ?_)
    · skip
      exact ebX0_hasRing_41 hR hk2 l1 l2
    · skip
      refine sb (gN_rd hR rfl (Or.inl rfl)) ?_
      refine eb0 (ixI_rd hR (k := 4) rfl rfl (by decide) 0 rfl (by decide) _) (fun x33 => ?_)
      refine en0 (fun v35 => ?_)
      exact hk14 l1 x33 v35
def gfX0_hasRing_14 (k2 : Int32 → Option (Int32)) (S : SV) : Nat → Int32 → Int32 → Int32 → Option (Int32)
  | 0, _, _, _ => none
  | n + 1, l1, l2, l3 => gbX0_hasRing_14 k2 (gfX0_hasRing_14 k2 S n) l1 l2 l3 S
theorem efX0_hasRing_14 {z : AH} {a : Nat} {ρ : RV} {S : SV} (hR : RD 0 a ρ S z) {k2 : Nat → Int32 → Option (Int32)} {k2' : Int32 → Option (Int32)} (hk2 : ∀ (l1 : Int32), k2 a l1 = k2' l1) : ∀ (n : Nat) (l1 : Int32) (l2 : Int32) (l3 : Int32), fX0_hasRing_14 k2 z n a l1 l2 l3 = gfX0_hasRing_14 k2' S n l1 l2 l3 := by
  intro n
  induction n with
  | zero => intros; rfl
  | succ n ih => intro l1 l2 l3; exact ebX0_hasRing_14 hR hk2 (fun l1 l2 l3 => ih l1 l2 l3) l1 l2 l3
def gbX0_hasRing_2 (k2 : Int32 → Option (Int32)) (l1 : Int32) (S : SV) : Option (Int32) :=
  if (S.1 0) ≤ l1 then (
    some (0 : Int32)
  ) else (
    gfX0_hasRing_14 k2 S FU l1 l1 (0 : Int32)
  )
set_option maxRecDepth 100000 in
theorem ebX0_hasRing_2 {z : AH} {a : Nat} {ρ : RV} {S : SV} (hR : RD 0 a ρ S z) {k2 : Nat → Int32 → Option (Int32)} {k2' : Int32 → Option (Int32)} (hk2 : ∀ (l1 : Int32), k2 a l1 = k2' l1) (l1 : Int32) : bX0_hasRing_2 k2 a l1 z = gbX0_hasRing_2 k2' l1 S := by
  unfold bX0_hasRing_2 gbX0_hasRing_2
  refine sb (gI_rd hR rfl) ?_
  refine ei0 (fun _ => ?_) (fun _ => ?_)
  · skip
    rfl
  · skip
    exact efX0_hasRing_14 hR hk2 FU l1 l1 (0 : Int32)
def gfX0_hasRing_2 (S : SV) : Nat → Int32 → Option (Int32)
  | 0, _ => none
  | n + 1, l1 => gbX0_hasRing_2 (gfX0_hasRing_2 S n) l1 S
theorem efX0_hasRing_2 {z : AH} {a : Nat} {ρ : RV} {S : SV} (hR : RD 0 a ρ S z) : ∀ (n : Nat) (l1 : Int32), fX0_hasRing_2 z n a l1 = gfX0_hasRing_2 S n l1 := by
  intro n
  induction n with
  | zero => intros; rfl
  | succ n ih => intro l1; exact ebX0_hasRing_2 hR (fun l1 => ih l1) l1
def gX0_hasRing (S : SV) : Option (Int32) :=
  gfX0_hasRing_2 S FU (0 : Int32)
set_option maxRecDepth 100000 in
theorem eX0_hasRing {z : AH} {a : Nat} {ρ : RV} {S : SV} (hR : RD 0 a ρ S z) : fX0_hasRing a z = gX0_hasRing S := by
  unfold fX0_hasRing gX0_hasRing
  refine eo (isO_rd hR) ?_
  exact efX0_hasRing_2 hR FU (0 : Int32)
def gbX0_sharesEye_12 (k2 : Int32 → Option (Int32)) (k12 : Int32 → Int32 → Option (Int32)) (l1 : Int32) (l2 : Int32) (S : SV) : Option (Int32) :=
  if l1 ≤ l2 then (
    nm (l1 + (1 : Int32)) fun v55 =>
    k2 v55
  ) else (
    (rA 4 (S.2.1 15) l1).bind fun x22 =>
    (rA 4 (S.2.1 15) l2).bind fun x28 =>
    if x22 = x28 then (
      some (1 : Int32)
    ) else (
      (rA 4 (S.2.1 16) l1).bind fun x37 =>
      (rA 4 (S.2.1 16) l2).bind fun x43 =>
      if x37 = x43 then (
        some (1 : Int32)
      ) else (
        nm (l2 + (1 : Int32)) fun v49 =>
        k12 l1 v49
      )
    )
  )
set_option maxRecDepth 100000 in
theorem ebX0_sharesEye_12 {z : AH} {a : Nat} {ρ : RV} {S : SV} (hR : RD 0 a ρ S z) {k2 : Nat → Int32 → Option (Int32)} {k2' : Int32 → Option (Int32)} {k12 : Nat → Int32 → Int32 → Option (Int32)} {k12' : Int32 → Int32 → Option (Int32)} (hk2 : ∀ (l1 : Int32), k2 a l1 = k2' l1) (hk12 : ∀ (l1 : Int32) (l2 : Int32), k12 a l1 l2 = k12' l1 l2) (l1 : Int32) (l2 : Int32) : bX0_sharesEye_12 k2 k12 a l1 l2 z = gbX0_sharesEye_12 k2' k12' l1 l2 S := by
  unfold bX0_sharesEye_12 gbX0_sharesEye_12
  refine ei0 (fun _ => ?_) (fun _ => ?_)
  · skip
    refine en0 (fun v55 => ?_)
    exact hk2 v55
  · skip
    refine sb (gN_rd hR rfl (Or.inl rfl)) ?_
    refine eb0 (ixI_rd hR (k := 15) rfl rfl (by decide) 0 rfl (by decide) _) (fun x22 => ?_)
    refine sb (gN_rd hR rfl (Or.inl rfl)) ?_
    refine eb0 (ixI_rd hR (k := 15) rfl rfl (by decide) 0 rfl (by decide) _) (fun x28 => ?_)
    refine ei0 (fun _ => ?_) (fun _ => ?_)
    · skip
      rfl
    · skip
      refine sb (gN_rd hR rfl (Or.inl rfl)) ?_
      refine eb0 (ixI_rd hR (k := 16) rfl rfl (by decide) 0 rfl (by decide) _) (fun x37 => ?_)
      refine sb (gN_rd hR rfl (Or.inl rfl)) ?_
      refine eb0 (ixI_rd hR (k := 16) rfl rfl (by decide) 0 rfl (by decide) _) (fun x43 => ?_)
      refine ei0 (fun _ => ?_) (fun _ => ?_)
      · skip
        rfl
      · skip
        refine en0 (fun v49 => ?_)
        exact hk12 l1 v49
def gfX0_sharesEye_12 (k2 : Int32 → Option (Int32)) (S : SV) : Nat → Int32 → Int32 → Option (Int32)
  | 0, _, _ => none
  | n + 1, l1, l2 => gbX0_sharesEye_12 k2 (gfX0_sharesEye_12 k2 S n) l1 l2 S
theorem efX0_sharesEye_12 {z : AH} {a : Nat} {ρ : RV} {S : SV} (hR : RD 0 a ρ S z) {k2 : Nat → Int32 → Option (Int32)} {k2' : Int32 → Option (Int32)} (hk2 : ∀ (l1 : Int32), k2 a l1 = k2' l1) : ∀ (n : Nat) (l1 : Int32) (l2 : Int32), fX0_sharesEye_12 k2 z n a l1 l2 = gfX0_sharesEye_12 k2' S n l1 l2 := by
  intro n
  induction n with
  | zero => intros; rfl
  | succ n ih => intro l1 l2; exact ebX0_sharesEye_12 hR hk2 (fun l1 l2 => ih l1 l2) l1 l2
def gbX0_sharesEye_2 (k2 : Int32 → Option (Int32)) (l1 : Int32) (S : SV) : Option (Int32) :=
  if (S.1 14) ≤ l1 then (
    some (0 : Int32)
  ) else (
    gfX0_sharesEye_12 k2 S FU l1 (0 : Int32)
  )
set_option maxRecDepth 100000 in
theorem ebX0_sharesEye_2 {z : AH} {a : Nat} {ρ : RV} {S : SV} (hR : RD 0 a ρ S z) {k2 : Nat → Int32 → Option (Int32)} {k2' : Int32 → Option (Int32)} (hk2 : ∀ (l1 : Int32), k2 a l1 = k2' l1) (l1 : Int32) : bX0_sharesEye_2 k2 a l1 z = gbX0_sharesEye_2 k2' l1 S := by
  unfold bX0_sharesEye_2 gbX0_sharesEye_2
  refine sb (gI_rd hR rfl) ?_
  refine ei0 (fun _ => ?_) (fun _ => ?_)
  · skip
    rfl
  · skip
    exact efX0_sharesEye_12 hR hk2 FU l1 (0 : Int32)
def gfX0_sharesEye_2 (S : SV) : Nat → Int32 → Option (Int32)
  | 0, _ => none
  | n + 1, l1 => gbX0_sharesEye_2 (gfX0_sharesEye_2 S n) l1 S
theorem efX0_sharesEye_2 {z : AH} {a : Nat} {ρ : RV} {S : SV} (hR : RD 0 a ρ S z) : ∀ (n : Nat) (l1 : Int32), fX0_sharesEye_2 z n a l1 = gfX0_sharesEye_2 S n l1 := by
  intro n
  induction n with
  | zero => intros; rfl
  | succ n ih => intro l1; exact ebX0_sharesEye_2 hR (fun l1 => ih l1) l1
def gX0_sharesEye (S : SV) : Option (Int32) :=
  gfX0_sharesEye_2 S FU (0 : Int32)
set_option maxRecDepth 100000 in
theorem eX0_sharesEye {z : AH} {a : Nat} {ρ : RV} {S : SV} (hR : RD 0 a ρ S z) : fX0_sharesEye a z = gX0_sharesEye S := by
  unfold fX0_sharesEye gX0_sharesEye
  refine eo (isO_rd hR) ?_
  exact efX0_sharesEye_2 hR FU (0 : Int32)
def gbX0_findAbove_19 (k2 : Int32 → SV → Option SV) (k19 : Int32 → Int32 → Int32 → SV → Option SV) (l1 : Int32) (l2 : Int32) (l3 : Int32) (S : SV) : Option SV :=
  if (8 : Int32) ≤ l3 then (
    nm (l1 + (1 : Int32)) fun v58 =>
    k2 v58 S
  ) else (
    (gX0_hasThing l2 S).bind fun x27 =>
    if x27 = (0 : Int32) then (
      nm (l1 + (1 : Int32)) fun v58 =>
      k2 v58 S
    ) else (
      (rA 8 (S.2.1 5) l2).bind fun x39 =>
      (wA 5 8 S l2 (x39 ||| (shl (1 : Int32) l1))).bind fun S44 =>
      (rA 8 (S44.2.1 4) l2).bind fun x50 =>
      nm (l3 + (1 : Int32)) fun v52 =>
      k19 l1 x50 v52 S44
    )
  )
set_option maxRecDepth 100000 in
theorem ebX0_findAbove_19 {z : AH} {a : Nat} {ρ : RV} (hz : a + szV 0 ≤ z.length) {k2 : Nat → Int32 → AH → Option AH} {k2' : Int32 → SV → Option SV} {k19 : Nat → Int32 → Int32 → Int32 → AH → Option AH} {k19' : Int32 → Int32 → Int32 → SV → Option SV} (hk2 : ∀ (l1 : Int32) (S : SV), k2 a l1 (wr 0 a ρ S z) = (k2' l1 S).map (fun S => wr 0 a ρ S z)) (hk19 : ∀ (l1 : Int32) (l2 : Int32) (l3 : Int32) (S : SV), k19 a l1 l2 l3 (wr 0 a ρ S z) = (k19' l1 l2 l3 S).map (fun S => wr 0 a ρ S z)) (l1 : Int32) (l2 : Int32) (l3 : Int32) (S : SV) : bX0_findAbove_19 k2 k19 a l1 l2 l3 (wr 0 a ρ S z) = (gbX0_findAbove_19 k2' k19' l1 l2 l3 S).map (fun S => wr 0 a ρ S z) := by
  unfold bX0_findAbove_19 gbX0_findAbove_19
  refine ei (fun _ => ?_) (fun _ => ?_)
  · skip
    refine en (fun v58 => ?_)
    exact hk2 v58 S
  · skip
    refine eb (eX0_hasThing (rd_wr hz) l2) (fun x27 => ?_)
    refine ei (fun _ => ?_) (fun _ => ?_)
    · skip
      refine en (fun v58 => ?_)
      exact hk2 v58 S
    · skip
      refine sb (gN_rd (rd_wr hz) rfl (Or.inl rfl)) ?_
      refine eb (ixI_rd (rd_wr hz) (k := 5) rfl rfl (by decide) 0 rfl (by decide) _) (fun x39 => ?_)
      refine em (f := (fun S => wr 0 a ρ S z)) (stI_rd rkOk0 hz (k := 5) rfl rfl (by decide) 0 rfl (by decide) _ _) (fun S44 => ?_)
      refine sb (gN_rd (rd_wr hz) rfl (Or.inl rfl)) ?_
      refine eb (ixI_rd (rd_wr hz) (k := 4) rfl rfl (by decide) 0 rfl (by decide) _) (fun x50 => ?_)
      refine en (fun v52 => ?_)
      exact hk19 l1 x50 v52 S44
def gfX0_findAbove_19 (k2 : Int32 → SV → Option SV) : Nat → Int32 → Int32 → Int32 → SV → Option SV
  | 0, _, _, _, _ => none
  | n + 1, l1, l2, l3, S => gbX0_findAbove_19 k2 (gfX0_findAbove_19 k2 n) l1 l2 l3 S
theorem efX0_findAbove_19 {z : AH} {a : Nat} {ρ : RV} (hz : a + szV 0 ≤ z.length) {k2 : Nat → Int32 → AH → Option AH} {k2' : Int32 → SV → Option SV} (hk2 : ∀ (l1 : Int32) (S : SV), k2 a l1 (wr 0 a ρ S z) = (k2' l1 S).map (fun S => wr 0 a ρ S z)) : ∀ (n : Nat) (l1 : Int32) (l2 : Int32) (l3 : Int32) (S : SV), fX0_findAbove_19 k2 n a l1 l2 l3 (wr 0 a ρ S z) = (gfX0_findAbove_19 k2' n l1 l2 l3 S).map (fun S => wr 0 a ρ S z) := by
  intro n
  induction n with
  | zero => intros; rfl
  | succ n ih => intro l1 l2 l3 S; exact ebX0_findAbove_19 hz hk2 (fun l1 l2 l3 S => ih l1 l2 l3 S) l1 l2 l3 S
def gbX0_findAbove_2 (k2 : Int32 → SV → Option SV) (l1 : Int32) (S : SV) : Option SV :=
  if (S.1 0) ≤ l1 then (
    some S
  ) else (
    (rA 8 (S.2.1 4) l1).bind fun x15 =>
    gfX0_findAbove_19 k2 FU l1 x15 (0 : Int32) S
  )
set_option maxRecDepth 100000 in
theorem ebX0_findAbove_2 {z : AH} {a : Nat} {ρ : RV} (hz : a + szV 0 ≤ z.length) {k2 : Nat → Int32 → AH → Option AH} {k2' : Int32 → SV → Option SV} (hk2 : ∀ (l1 : Int32) (S : SV), k2 a l1 (wr 0 a ρ S z) = (k2' l1 S).map (fun S => wr 0 a ρ S z)) (l1 : Int32) (S : SV) : bX0_findAbove_2 k2 a l1 (wr 0 a ρ S z) = (gbX0_findAbove_2 k2' l1 S).map (fun S => wr 0 a ρ S z) := by
  unfold bX0_findAbove_2 gbX0_findAbove_2
  refine sb (gI_rd (rd_wr hz) rfl) ?_
  refine ei (fun _ => ?_) (fun _ => ?_)
  · skip
    rfl
  · skip
    refine sb (gN_rd (rd_wr hz) rfl (Or.inl rfl)) ?_
    refine eb (ixI_rd (rd_wr hz) (k := 4) rfl rfl (by decide) 0 rfl (by decide) _) (fun x15 => ?_)
    exact efX0_findAbove_19 hz hk2 FU l1 x15 (0 : Int32) S
def gfX0_findAbove_2 : Nat → Int32 → SV → Option SV
  | 0, _, _ => none
  | n + 1, l1, S => gbX0_findAbove_2 (gfX0_findAbove_2 n) l1 S
theorem efX0_findAbove_2 {z : AH} {a : Nat} {ρ : RV} (hz : a + szV 0 ≤ z.length) : ∀ (n : Nat) (l1 : Int32) (S : SV), fX0_findAbove_2 n a l1 (wr 0 a ρ S z) = (gfX0_findAbove_2 n l1 S).map (fun S => wr 0 a ρ S z) := by
  intro n
  induction n with
  | zero => intros; rfl
  | succ n ih => intro l1 S; exact ebX0_findAbove_2 hz (fun l1 S => ih l1 S) l1 S
def gX0_findAbove (S : SV) : Option SV :=
  gfX0_findAbove_2 FU (0 : Int32) S
set_option maxRecDepth 100000 in
theorem eX0_findAbove {z : AH} {a : Nat} {ρ : RV} (hz : a + szV 0 ≤ z.length) (S : SV) : fX0_findAbove a (wr 0 a ρ S z) = (gX0_findAbove S).map (fun S => wr 0 a ρ S z) := by
  unfold fX0_findAbove gX0_findAbove
  refine eo (isO_rd (rd_wr hz)) ?_
  exact efX0_findAbove_2 hz FU (0 : Int32) S
def gX9_pick (n0 : Nat) (f0 : Nat → Int32) (l1 : Int32) (l2 : Int32) : Option (Int32) :=
  if l2 < (0 : Int32) then (
    some (-2 : Int32)
  ) else (
    if l1 ≤ l2 then (
      some (-2 : Int32)
    ) else (
      if (Int32.ofNat n0) ≤ l2 then (
        some (-2 : Int32)
      ) else (
        (rA n0 f0 l2).bind fun x17 =>
        some x17
      )
    )
  )
set_option maxRecDepth 100000 in
theorem eX9_pick {z : AH} {a0 n0 : Nat} {f0 : Nat → Int32} (h0 : RW 0 a0 n0 f0 z) (l1 : Int32) (l2 : Int32) : fX9_pick a0 l1 l2 z = gX9_pick n0 f0 l1 l2 := by
  unfold fX9_pick gX9_pick
  refine ei0 (fun _ => ?_) (fun _ => ?_)
  · skip
    rfl
  · skip
    refine ei0 (fun _ => ?_) (fun _ => ?_)
    · skip
      rfl
    · skip
      refine sb (lnI_rw h0) ?_
      refine ei0 (fun _ => ?_) (fun _ => ?_)
      · skip
        rfl
      · skip
        refine eb0 (ixI_rw h0 _) (fun x17 => ?_)
        rfl
def gX0_sightOfLeft (l1 : Int32) (S : SV) : Option (Int32) :=
  (gX9_pick 4 (S.2.1 15) (S.1 14) l1).bind fun x18 =>
  (gX9_pick 4 (S.2.1 12) (S.1 10) x18).bind fun x21 =>
  some (imax (0 : Int32) x21)
set_option maxRecDepth 100000 in
theorem eX0_sightOfLeft {z : AH} {a : Nat} {ρ : RV} {S : SV} (hR : RD 0 a ρ S z) (l1 : Int32) : fX0_sightOfLeft a l1 z = gX0_sightOfLeft l1 S := by
  unfold fX0_sightOfLeft gX0_sightOfLeft
  refine eo (isO_rd hR) ?_
  refine sb (gN_rd hR rfl (Or.inl rfl)) ?_
  refine sb (gI_rd hR rfl) ?_
  refine sb (gN_rd hR rfl (Or.inl rfl)) ?_
  refine sb (gI_rd hR rfl) ?_
  refine eb0 (eX9_pick (rw_rd hR (k := 15) rfl rfl (by decide) 0 rfl (by decide)) (S.1 14) l1) (fun x18 => ?_)
  refine eb0 (eX9_pick (rw_rd hR (k := 12) rfl rfl (by decide) 0 rfl (by decide)) (S.1 10) x18) (fun x21 => ?_)
  rfl
def gX0_sightOfRight (l1 : Int32) (S : SV) : Option (Int32) :=
  (gX9_pick 4 (S.2.1 16) (S.1 14) l1).bind fun x18 =>
  (gX9_pick 4 (S.2.1 13) (S.1 11) x18).bind fun x21 =>
  some (imax (0 : Int32) x21)
set_option maxRecDepth 100000 in
theorem eX0_sightOfRight {z : AH} {a : Nat} {ρ : RV} {S : SV} (hR : RD 0 a ρ S z) (l1 : Int32) : fX0_sightOfRight a l1 z = gX0_sightOfRight l1 S := by
  unfold fX0_sightOfRight gX0_sightOfRight
  refine eo (isO_rd hR) ?_
  refine sb (gN_rd hR rfl (Or.inl rfl)) ?_
  refine sb (gI_rd hR rfl) ?_
  refine sb (gN_rd hR rfl (Or.inl rfl)) ?_
  refine sb (gI_rd hR rfl) ?_
  refine eb0 (eX9_pick (rw_rd hR (k := 16) rfl rfl (by decide) 0 rfl (by decide)) (S.1 14) l1) (fun x18 => ?_)
  refine eb0 (eX9_pick (rw_rd hR (k := 13) rfl rfl (by decide) 0 rfl (by decide)) (S.1 11) x18) (fun x21 => ?_)
  rfl
def gX0_sizeOf (l1 : Int32) (S : SV) : Option (Int32) :=
  if l1 = (0 : Int32) then (
    some (S.1 0)
  ) else (
    if l1 = (1 : Int32) then (
      some (S.1 7)
    ) else (
      if l1 = (2 : Int32) then (
        some (S.1 10)
      ) else (
        if l1 = (3 : Int32) then (
          some (S.1 11)
        ) else (
          if l1 = (4 : Int32) then (
            some (S.1 14)
          ) else (
            if l1 = (5 : Int32) then (
              some (S.1 19)
            ) else (
              some (-2 : Int32)
            )
          )
        )
      )
    )
  )
set_option maxRecDepth 100000 in
theorem eX0_sizeOf {z : AH} {a : Nat} {ρ : RV} {S : SV} (hR : RD 0 a ρ S z) (l1 : Int32) : fX0_sizeOf a l1 z = gX0_sizeOf l1 S := by
  unfold fX0_sizeOf gX0_sizeOf
  refine eo (isO_rd hR) ?_
  refine ei0 (fun _ => ?_) (fun _ => ?_)
  · skip
    refine sb (gI_rd hR rfl) ?_
    rfl
  · skip
    refine ei0 (fun _ => ?_) (fun _ => ?_)
    · skip
      refine sb (gI_rd hR rfl) ?_
      rfl
    · skip
      refine ei0 (fun _ => ?_) (fun _ => ?_)
      · skip
        refine sb (gI_rd hR rfl) ?_
        rfl
      · skip
        refine ei0 (fun _ => ?_) (fun _ => ?_)
        · skip
          refine sb (gI_rd hR rfl) ?_
          rfl
        · skip
          refine ei0 (fun _ => ?_) (fun _ => ?_)
          · skip
            refine sb (gI_rd hR rfl) ?_
            rfl
          · skip
            refine ei0 (fun _ => ?_) (fun _ => ?_)
            · skip
              refine sb (gI_rd hR rfl) ?_
              rfl
            · skip
              rfl
def gX0_ofThing (l1 : Int32) (l2 : Int32) (S : SV) : Option (Int32) :=
  if l1 = (1 : Int32) then (
    (gX9_pick 8 (S.2.1 1) (S.1 0) l2).bind fun x37 =>
    some x37
  ) else (
    if l1 = (2 : Int32) then (
      (gX9_pick 8 (S.2.1 2) (S.1 0) l2).bind fun x50 =>
      some x50
    ) else (
      if l1 = (3 : Int32) then (
        (gX9_pick 8 (S.2.1 3) (S.1 0) l2).bind fun x63 =>
        some x63
      ) else (
        (gX9_pick 8 (S.2.1 4) (S.1 0) l2).bind fun x76 =>
        some x76
      )
    )
  )
set_option maxRecDepth 100000 in
theorem eX0_ofThing {z : AH} {a : Nat} {ρ : RV} {S : SV} (hR : RD 0 a ρ S z) (l1 : Int32) (l2 : Int32) : fX0_ofThing a l1 l2 z = gX0_ofThing l1 l2 S := by
  unfold fX0_ofThing gX0_ofThing
  refine eo (isO_rd hR) ?_
  refine ei0 (fun _ => ?_) (fun _ => ?_)
  · skip
    refine sb (gN_rd hR rfl (Or.inl rfl)) ?_
    refine sb (gI_rd hR rfl) ?_
    refine eb0 (eX9_pick (rw_rd hR (k := 1) rfl rfl (by decide) 0 rfl (by decide)) (S.1 0) l2) (fun x37 => ?_)
    rfl
  · skip
    refine ei0 (fun _ => ?_) (fun _ => ?_)
    · skip
      refine sb (gN_rd hR rfl (Or.inl rfl)) ?_
      refine sb (gI_rd hR rfl) ?_
      refine eb0 (eX9_pick (rw_rd hR (k := 2) rfl rfl (by decide) 0 rfl (by decide)) (S.1 0) l2) (fun x50 => ?_)
      rfl
    · skip
      refine ei0 (fun _ => ?_) (fun _ => ?_)
      · skip
        refine sb (gN_rd hR rfl (Or.inl rfl)) ?_
        refine sb (gI_rd hR rfl) ?_
        refine eb0 (eX9_pick (rw_rd hR (k := 3) rfl rfl (by decide) 0 rfl (by decide)) (S.1 0) l2) (fun x63 => ?_)
        rfl
      · skip
        refine sb (gN_rd hR rfl (Or.inl rfl)) ?_
        refine sb (gI_rd hR rfl) ?_
        refine eb0 (eX9_pick (rw_rd hR (k := 4) rfl rfl (by decide) 0 rfl (by decide)) (S.1 0) l2) (fun x76 => ?_)
        rfl
def gX0_ofEyeOrCouple (l1 : Int32) (l2 : Int32) (S : SV) : Option (Int32) :=
  if l1 = (5 : Int32) then (
    (gX9_pick 4 (S.2.1 12) (S.1 10) l2).bind fun x37 =>
    some x37
  ) else (
    if l1 = (6 : Int32) then (
      (gX9_pick 4 (S.2.1 13) (S.1 11) l2).bind fun x50 =>
      some x50
    ) else (
      if l1 = (7 : Int32) then (
        (gX9_pick 4 (S.2.1 15) (S.1 14) l2).bind fun x63 =>
        some x63
      ) else (
        (gX9_pick 4 (S.2.1 16) (S.1 14) l2).bind fun x76 =>
        some x76
      )
    )
  )
set_option maxRecDepth 100000 in
theorem eX0_ofEyeOrCouple {z : AH} {a : Nat} {ρ : RV} {S : SV} (hR : RD 0 a ρ S z) (l1 : Int32) (l2 : Int32) : fX0_ofEyeOrCouple a l1 l2 z = gX0_ofEyeOrCouple l1 l2 S := by
  unfold fX0_ofEyeOrCouple gX0_ofEyeOrCouple
  refine eo (isO_rd hR) ?_
  refine ei0 (fun _ => ?_) (fun _ => ?_)
  · skip
    refine sb (gN_rd hR rfl (Or.inl rfl)) ?_
    refine sb (gI_rd hR rfl) ?_
    refine eb0 (eX9_pick (rw_rd hR (k := 12) rfl rfl (by decide) 0 rfl (by decide)) (S.1 10) l2) (fun x37 => ?_)
    rfl
  · skip
    refine ei0 (fun _ => ?_) (fun _ => ?_)
    · skip
      refine sb (gN_rd hR rfl (Or.inl rfl)) ?_
      refine sb (gI_rd hR rfl) ?_
      refine eb0 (eX9_pick (rw_rd hR (k := 13) rfl rfl (by decide) 0 rfl (by decide)) (S.1 11) l2) (fun x50 => ?_)
      rfl
    · skip
      refine ei0 (fun _ => ?_) (fun _ => ?_)
      · skip
        refine sb (gN_rd hR rfl (Or.inl rfl)) ?_
        refine sb (gI_rd hR rfl) ?_
        refine eb0 (eX9_pick (rw_rd hR (k := 15) rfl rfl (by decide) 0 rfl (by decide)) (S.1 14) l2) (fun x63 => ?_)
        rfl
      · skip
        refine sb (gN_rd hR rfl (Or.inl rfl)) ?_
        refine sb (gI_rd hR rfl) ?_
        refine eb0 (eX9_pick (rw_rd hR (k := 16) rfl rfl (by decide) 0 rfl (by decide)) (S.1 14) l2) (fun x76 => ?_)
        rfl
def gbX0_ofLikes_23 (n0 : Nat) (f0 : Nat → Int32) (l3 : Int32) (s0 : Int32) : Option (Int32) :=
  if s0 = (0 : Int32) then (
    some (-2 : Int32)
  ) else (
    (gX9_pick n0 f0 (Int32.ofNat n0) l3).bind fun x34 =>
    some x34
  )
set_option maxRecDepth 100000 in
theorem ebX0_ofLikes_23 {z : AH} {a0 n0 : Nat} {f0 : Nat → Int32} (h0 : RW 0 a0 n0 f0 z) (l3 : Int32) (s0 : Int32) : bX0_ofLikes_23 a0 l3 s0 z = gbX0_ofLikes_23 n0 f0 l3 s0 := by
  unfold bX0_ofLikes_23 gbX0_ofLikes_23
  refine ei0 (fun _ => ?_) (fun _ => ?_)
  · skip
    rfl
  · skip
    refine sb (lnI_rw h0) ?_
    refine eb0 (eX9_pick h0 (Int32.ofNat n0) l3) (fun x34 => ?_)
    rfl
def gbX0_ofLikes_22 (n0 : Nat) (f0 : Nat → Int32) (l3 : Int32) : Option (Int32) :=
  gbX0_ofLikes_23 n0 f0 l3 (0 : Int32)
set_option maxRecDepth 100000 in
theorem ebX0_ofLikes_22 {z : AH} {a0 n0 : Nat} {f0 : Nat → Int32} (h0 : RW 0 a0 n0 f0 z) (l3 : Int32) : bX0_ofLikes_22 a0 l3 z = gbX0_ofLikes_22 n0 f0 l3 := by
  unfold bX0_ofLikes_22 gbX0_ofLikes_22
  exact ebX0_ofLikes_23 h0 l3 (0 : Int32)
def gX0_ofLikes (n0 : Nat) (f0 : Nat → Int32) (l1 : Int32) (l2 : Int32) (l3 : Int32) : Option (Int32) :=
  if l3 < (0 : Int32) then (
    gbX0_ofLikes_22 n0 f0 l3
  ) else (
    if l1 ≤ (l3 / (4 : Int32)) then (
      gbX0_ofLikes_22 n0 f0 l3
    ) else (
      if l2 ≤ (irem l3 (4 : Int32)) then (
        gbX0_ofLikes_22 n0 f0 l3
      ) else (
        gbX0_ofLikes_23 n0 f0 l3 (1 : Int32)
      )
    )
  )
set_option maxRecDepth 100000 in
theorem eX0_ofLikes {z : AH} {a0 n0 : Nat} {f0 : Nat → Int32} (h0 : RW 0 a0 n0 f0 z) (l1 : Int32) (l2 : Int32) (l3 : Int32) : fX0_ofLikes a0 l1 l2 l3 z = gX0_ofLikes n0 f0 l1 l2 l3 := by
  unfold fX0_ofLikes gX0_ofLikes
  refine ei0 (fun _ => ?_) (fun _ => ?_)
  · skip
    exact ebX0_ofLikes_22 h0 l3
  · skip
    refine ei0 (fun _ => ?_) (fun _ => ?_)
    · skip
      exact ebX0_ofLikes_22 h0 l3
    · skip
      refine ei0 (fun _ => ?_) (fun _ => ?_)
      · skip
        exact ebX0_ofLikes_22 h0 l3
      · skip
        exact ebX0_ofLikes_23 h0 l3 (1 : Int32)
def gbX0_answer_142 (l1 : Int32) (S : SV) : Option (Int32) :=
  if l1 < (160 : Int32) then (
    some (-2 : Int32)
  ) else (
    if (180 : Int32) ≤ l1 then (
      some (-2 : Int32)
    ) else (
      (gX0_ofLikes 16 (S.2.1 18) (S.1 11) (S.1 10) (l1 - (160 : Int32))).bind fun x173 =>
      some x173
    )
  )
set_option maxRecDepth 100000 in
theorem ebX0_answer_142 {z : AH} {a : Nat} {ρ : RV} {S : SV} (hR : RD 0 a ρ S z) (l1 : Int32) : bX0_answer_142 a l1 z = gbX0_answer_142 l1 S := by
  unfold bX0_answer_142 gbX0_answer_142
  refine ei0 (fun _ => ?_) (fun _ => ?_)
  · skip
    rfl
  · skip
    refine ei0 (fun _ => ?_) (fun _ => ?_)
    · skip
      rfl
    · skip
      refine sb (gN_rd hR rfl (Or.inl rfl)) ?_
      refine sb (gI_rd hR rfl) ?_
      refine sb (gI_rd hR rfl) ?_
      refine eb0 (eX0_ofLikes (rw_rd hR (k := 18) rfl rfl (by decide) 0 rfl (by decide)) (S.1 11) (S.1 10) (l1 - (160 : Int32))) (fun x173 => ?_)
      rfl
def gbX0_answer_107 (l1 : Int32) (S : SV) : Option (Int32) :=
  if l1 < (140 : Int32) then (
    gbX0_answer_142 l1 S
  ) else (
    if (160 : Int32) ≤ l1 then (
      gbX0_answer_142 l1 S
    ) else (
      (gX0_ofLikes 16 (S.2.1 17) (S.1 10) (S.1 11) (l1 - (140 : Int32))).bind fun x138 =>
      some x138
    )
  )
set_option maxRecDepth 100000 in
theorem ebX0_answer_107 {z : AH} {a : Nat} {ρ : RV} {S : SV} (hR : RD 0 a ρ S z) (l1 : Int32) : bX0_answer_107 a l1 z = gbX0_answer_107 l1 S := by
  unfold bX0_answer_107 gbX0_answer_107
  refine ei0 (fun _ => ?_) (fun _ => ?_)
  · skip
    exact ebX0_answer_142 hR l1
  · skip
    refine ei0 (fun _ => ?_) (fun _ => ?_)
    · skip
      exact ebX0_answer_142 hR l1
    · skip
      refine sb (gN_rd hR rfl (Or.inl rfl)) ?_
      refine sb (gI_rd hR rfl) ?_
      refine sb (gI_rd hR rfl) ?_
      refine eb0 (eX0_ofLikes (rw_rd hR (k := 17) rfl rfl (by decide) 0 rfl (by decide)) (S.1 10) (S.1 11) (l1 - (140 : Int32))) (fun x138 => ?_)
      rfl
def gbX0_answer_78 (l1 : Int32) (S : SV) : Option (Int32) :=
  if l1 < (120 : Int32) then (
    gbX0_answer_107 l1 S
  ) else (
    if (140 : Int32) ≤ l1 then (
      gbX0_answer_107 l1 S
    ) else (
      (gX9_pick 12 (S.2.1 9) (S.1 7) (l1 - (120 : Int32))).bind fun x103 =>
      some x103
    )
  )
set_option maxRecDepth 100000 in
theorem ebX0_answer_78 {z : AH} {a : Nat} {ρ : RV} {S : SV} (hR : RD 0 a ρ S z) (l1 : Int32) : bX0_answer_78 a l1 z = gbX0_answer_78 l1 S := by
  unfold bX0_answer_78 gbX0_answer_78
  refine ei0 (fun _ => ?_) (fun _ => ?_)
  · skip
    exact ebX0_answer_107 hR l1
  · skip
    refine ei0 (fun _ => ?_) (fun _ => ?_)
    · skip
      exact ebX0_answer_107 hR l1
    · skip
      refine sb (gN_rd hR rfl (Or.inl rfl)) ?_
      refine sb (gI_rd hR rfl) ?_
      refine eb0 (eX9_pick (rw_rd hR (k := 9) rfl rfl (by decide) 0 rfl (by decide)) (S.1 7) (l1 - (120 : Int32))) (fun x103 => ?_)
      rfl
def gX0_answer (l1 : Int32) (S : SV) : Option (Int32) :=
  if (10 : Int32) ≤ l1 then (
    if (50 : Int32) ≤ l1 then (
      if (90 : Int32) ≤ l1 then (
        if l1 < (100 : Int32) then (
          gbX0_answer_78 l1 S
        ) else (
          if (120 : Int32) ≤ l1 then (
            gbX0_answer_78 l1 S
          ) else (
            (gX9_pick 12 (S.2.1 8) (S.1 7) (l1 - (100 : Int32))).bind fun x74 =>
            some x74
          )
        )
      ) else (
        (gX0_ofEyeOrCouple (l1 / (10 : Int32)) (irem l1 (10 : Int32)) S).bind fun x46 =>
        some x46
      )
    ) else (
      (gX0_ofThing (l1 / (10 : Int32)) (irem l1 (10 : Int32)) S).bind fun x27 =>
      some x27
    )
  ) else (
    (gX0_sizeOf l1 S).bind fun x8 =>
    some x8
  )
set_option maxRecDepth 100000 in
theorem eX0_answer {z : AH} {a : Nat} {ρ : RV} {S : SV} (hR : RD 0 a ρ S z) (l1 : Int32) : fX0_answer a l1 z = gX0_answer l1 S := by
  unfold fX0_answer gX0_answer
  refine eo (isO_rd hR) ?_
  refine ei0 (fun _ => ?_) (fun _ => ?_)
  · skip
    refine ei0 (fun _ => ?_) (fun _ => ?_)
    · skip
      refine ei0 (fun _ => ?_) (fun _ => ?_)
      · skip
        refine ei0 (fun _ => ?_) (fun _ => ?_)
        · skip
          exact ebX0_answer_78 hR l1
        · skip
          refine ei0 (fun _ => ?_) (fun _ => ?_)
          · skip
            exact ebX0_answer_78 hR l1
          · skip
            refine sb (gN_rd hR rfl (Or.inl rfl)) ?_
            refine sb (gI_rd hR rfl) ?_
            refine eb0 (eX9_pick (rw_rd hR (k := 8) rfl rfl (by decide) 0 rfl (by decide)) (S.1 7) (l1 - (100 : Int32))) (fun x74 => ?_)
            rfl
      · skip
        refine eb0 (eX0_ofEyeOrCouple hR (l1 / (10 : Int32)) (irem l1 (10 : Int32))) (fun x46 => ?_)
        rfl
    · skip
      refine eb0 (eX0_ofThing hR (l1 / (10 : Int32)) (irem l1 (10 : Int32))) (fun x27 => ?_)
      rfl
  · skip
    refine eb0 (eX0_sizeOf hR l1) (fun x8 => ?_)
    rfl
def gbX1_part_2 (k2 : Int32 → SV → Option SV) (l1 : Int32) (S : SV) : Option SV :=
  if (4 : Int32) ≤ l1 then (
    some S
  ) else (
    (wA 0 4 S l1 (-1 : Int32)).bind fun S13 =>
    (wA 1 4 S13 l1 (-1 : Int32)).bind fun S20 =>
    (wA 2 4 S20 l1 (0 : Int32)).bind fun S27 =>
    nm (l1 + (1 : Int32)) fun v28 =>
    k2 v28 S27
  )
set_option maxRecDepth 100000 in
theorem ebX1_part_2 {z : AH} {a : Nat} {ρ : RV} (hz : a + szV 1 ≤ z.length) {k2 : Nat → Int32 → AH → Option AH} {k2' : Int32 → SV → Option SV} (hk2 : ∀ (l1 : Int32) (S : SV), k2 a l1 (wr 1 a ρ S z) = (k2' l1 S).map (fun S => wr 1 a ρ S z)) (l1 : Int32) (S : SV) : bX1_part_2 k2 a l1 (wr 1 a ρ S z) = (gbX1_part_2 k2' l1 S).map (fun S => wr 1 a ρ S z) := by
  unfold bX1_part_2 gbX1_part_2
  refine ei (fun _ => ?_) (fun _ => ?_)
  · skip
    rfl
  · skip
    refine sb (gN_rd (rd_wr hz) rfl (Or.inl rfl)) ?_
    refine em (f := (fun S => wr 1 a ρ S z)) (stI_rd rkOk1 hz (k := 0) rfl rfl (by decide) 0 rfl (by decide) _ _) (fun S13 => ?_)
    refine sb (gN_rd (rd_wr hz) rfl (Or.inl rfl)) ?_
    refine em (f := (fun S => wr 1 a ρ S z)) (stI_rd rkOk1 hz (k := 1) rfl rfl (by decide) 0 rfl (by decide) _ _) (fun S20 => ?_)
    refine sb (gN_rd (rd_wr hz) rfl (Or.inl rfl)) ?_
    refine em (f := (fun S => wr 1 a ρ S z)) (stI_rd rkOk1 hz (k := 2) rfl rfl (by decide) 0 rfl (by decide) _ _) (fun S27 => ?_)
    refine en (fun v28 => ?_)
    exact hk2 v28 S27
def gfX1_part_2 : Nat → Int32 → SV → Option SV
  | 0, _, _ => none
  | n + 1, l1, S => gbX1_part_2 (gfX1_part_2 n) l1 S
theorem efX1_part_2 {z : AH} {a : Nat} {ρ : RV} (hz : a + szV 1 ≤ z.length) : ∀ (n : Nat) (l1 : Int32) (S : SV), fX1_part_2 n a l1 (wr 1 a ρ S z) = (gfX1_part_2 n l1 S).map (fun S => wr 1 a ρ S z) := by
  intro n
  induction n with
  | zero => intros; rfl
  | succ n ih => intro l1 S; exact ebX1_part_2 hz (fun l1 S => ih l1 S) l1 S
def gX1_part (S : SV) : Option SV :=
  gfX1_part_2 FU (0 : Int32) S
set_option maxRecDepth 100000 in
theorem eX1_part {z : AH} {a : Nat} {ρ : RV} (hz : a + szV 1 ≤ z.length) (S : SV) : fX1_part a (wr 1 a ρ S z) = (gX1_part S).map (fun S => wr 1 a ρ S z) := by
  unfold fX1_part gX1_part
  refine eo (isO_rd (rd_wr hz)) ?_
  exact efX1_part_2 hz FU (0 : Int32) S
def gX1_leftLikes (V0 : SV) (l1 : Int32) (l2 : Int32) : Option (Int32) :=
  (gX9_pick 16 (V0.2.1 17) (Int32.ofNat 16) (((4 : Int32) * l1) + l2)).bind fun x14 =>
  some x14
set_option maxRecDepth 100000 in
theorem eX1_leftLikes {z : AH} {a0 : Nat} {ρ0 : RV} {V0 : SV} (h0 : RD 0 a0 ρ0 V0 z) (l1 : Int32) (l2 : Int32) : fX1_leftLikes a0 l1 l2 z = gX1_leftLikes V0 l1 l2 := by
  unfold fX1_leftLikes gX1_leftLikes
  refine sb (gN_rd h0 rfl (Or.inl rfl)) ?_
  refine sb (gN_rd h0 rfl (Or.inl rfl)) ?_
  refine sb (lnI_rd h0 (k := 17) rfl rfl (by decide) 0 rfl (by decide)) ?_
  refine eb0 (eX9_pick (rw_rd h0 (k := 17) rfl rfl (by decide) 0 rfl (by decide)) (Int32.ofNat 16) (((4 : Int32) * l1) + l2)) (fun x14 => ?_)
  rfl
def gbX1_favourite_8 (k8 : Int32 → Int32 → Int32 → Int32 → Option (Int32)) (V1 : SV) (l2 : Int32) (l3 : Int32) (l4 : Int32) (l5 : Int32) (S : SV) : Option (Int32) :=
  if (V1.1 11) ≤ l5 then (
    some l3
  ) else (
    (gX1_leftLikes V1 l2 l5).bind fun x21 =>
    (rA 4 (S.2.1 2) l2).bind fun x31 =>
    if (fX9_hasBit x31 l5) = (0 : Int32) then (
      if x21 ≤ l4 then (
        nm (l5 + (1 : Int32)) fun v54 =>
        k8 l2 l3 l4 v54
      ) else (
        nm (l5 + (1 : Int32)) fun v54 =>
        k8 l2 l5 x21 v54
      )
    ) else (
      nm (l5 + (1 : Int32)) fun v54 =>
      k8 l2 l3 l4 v54
    )
  )
set_option maxRecDepth 100000 in
theorem ebX1_favourite_8 {z : AH} {a : Nat} {ρ : RV} {S : SV} (hR : RD 1 a ρ S z) {a1 : Nat} {ρ1 : RV} {V1 : SV} (h1 : RD 0 a1 ρ1 V1 z) {k8 : Nat → Nat → Int32 → Int32 → Int32 → Int32 → Option (Int32)} {k8' : Int32 → Int32 → Int32 → Int32 → Option (Int32)} (hk8 : ∀ (l2 : Int32) (l3 : Int32) (l4 : Int32) (l5 : Int32), k8 a a1 l2 l3 l4 l5 = k8' l2 l3 l4 l5) (l2 : Int32) (l3 : Int32) (l4 : Int32) (l5 : Int32) : bX1_favourite_8 k8 a a1 l2 l3 l4 l5 z = gbX1_favourite_8 k8' V1 l2 l3 l4 l5 S := by
  unfold bX1_favourite_8 gbX1_favourite_8
  refine sb (gI_rd h1 rfl) ?_
  refine ei0 (fun _ => ?_) (fun _ => ?_)
  · skip
    rfl
  · skip
    refine eb0 (eX1_leftLikes h1 l2 l5) (fun x21 => ?_)
    refine sb (gN_rd hR rfl (Or.inl rfl)) ?_
    refine eb0 (ixI_rd hR (k := 2) rfl rfl (by decide) 0 rfl (by decide) _) (fun x31 => ?_)
    refine ei0 (fun _ => ?_) (fun _ => ?_)
    · skip
      refine ei0 (fun _ => ?_) (fun _ => ?_)
      · skip
        refine en0 (fun v54 => ?_)
        exact hk8 l2 l3 l4 v54
      · skip
        refine en0 (fun v54 => ?_)
        exact hk8 l2 l5 x21 v54
    · skip
      refine en0 (fun v54 => ?_)
      exact hk8 l2 l3 l4 v54
def gfX1_favourite_8 (V1 : SV) (S : SV) : Nat → Int32 → Int32 → Int32 → Int32 → Option (Int32)
  | 0, _, _, _, _ => none
  | n + 1, l2, l3, l4, l5 => gbX1_favourite_8 (gfX1_favourite_8 V1 S n) V1 l2 l3 l4 l5 S
theorem efX1_favourite_8 {z : AH} {a : Nat} {ρ : RV} {S : SV} (hR : RD 1 a ρ S z) {a1 : Nat} {ρ1 : RV} {V1 : SV} (h1 : RD 0 a1 ρ1 V1 z) : ∀ (n : Nat) (l2 : Int32) (l3 : Int32) (l4 : Int32) (l5 : Int32), fX1_favourite_8 z n a a1 l2 l3 l4 l5 = gfX1_favourite_8 V1 S n l2 l3 l4 l5 := by
  intro n
  induction n with
  | zero => intros; rfl
  | succ n ih => intro l2 l3 l4 l5; exact ebX1_favourite_8 hR h1 (fun l2 l3 l4 l5 => ih l2 l3 l4 l5) l2 l3 l4 l5
def gX1_favourite (V1 : SV) (l2 : Int32) (S : SV) : Option (Int32) :=
  gfX1_favourite_8 V1 S FU l2 (-1 : Int32) (-1 : Int32) (0 : Int32)
set_option maxRecDepth 100000 in
theorem eX1_favourite {z : AH} {a : Nat} {ρ : RV} {S : SV} (hR : RD 1 a ρ S z) {a1 : Nat} {ρ1 : RV} {V1 : SV} (h1 : RD 0 a1 ρ1 V1 z) (l2 : Int32) : fX1_favourite a a1 l2 z = gX1_favourite V1 l2 S := by
  unfold fX1_favourite gX1_favourite
  refine eo (isO_rd hR) ?_
  exact efX1_favourite_8 hR h1 FU l2 (-1 : Int32) (-1 : Int32) (0 : Int32)
def gbX1_firstWhoAsks_2 (k2 : Int32 → Option (Int32)) (V1 : SV) (l2 : Int32) (S : SV) : Option (Int32) :=
  if (V1.1 10) ≤ l2 then (
    some (-1 : Int32)
  ) else (
    (rA 4 (S.2.1 0) l2).bind fun x15 =>
    if x15 = (-1 : Int32) then (
      (gX1_favourite V1 l2 S).bind fun x23 =>
      if x23 = (-1 : Int32) then (
        nm (l2 + (1 : Int32)) fun v32 =>
        k2 v32
      ) else (
        some l2
      )
    ) else (
      nm (l2 + (1 : Int32)) fun v32 =>
      k2 v32
    )
  )
set_option maxRecDepth 100000 in
theorem ebX1_firstWhoAsks_2 {z : AH} {a : Nat} {ρ : RV} {S : SV} (hR : RD 1 a ρ S z) {a1 : Nat} {ρ1 : RV} {V1 : SV} (h1 : RD 0 a1 ρ1 V1 z) {k2 : Nat → Nat → Int32 → Option (Int32)} {k2' : Int32 → Option (Int32)} (hk2 : ∀ (l2 : Int32), k2 a a1 l2 = k2' l2) (l2 : Int32) : bX1_firstWhoAsks_2 k2 a a1 l2 z = gbX1_firstWhoAsks_2 k2' V1 l2 S := by
  unfold bX1_firstWhoAsks_2 gbX1_firstWhoAsks_2
  refine sb (gI_rd h1 rfl) ?_
  refine ei0 (fun _ => ?_) (fun _ => ?_)
  · skip
    rfl
  · skip
    refine sb (gN_rd hR rfl (Or.inl rfl)) ?_
    refine eb0 (ixI_rd hR (k := 0) rfl rfl (by decide) 0 rfl (by decide) _) (fun x15 => ?_)
    refine ei0 (fun _ => ?_) (fun _ => ?_)
    · skip
      refine eb0 (eX1_favourite hR h1 l2) (fun x23 => ?_)
      refine ei0 (fun _ => ?_) (fun _ => ?_)
      · skip
        refine en0 (fun v32 => ?_)
        exact hk2 v32
      · skip
        rfl
    · skip
      refine en0 (fun v32 => ?_)
      exact hk2 v32
def gfX1_firstWhoAsks_2 (V1 : SV) (S : SV) : Nat → Int32 → Option (Int32)
  | 0, _ => none
  | n + 1, l2 => gbX1_firstWhoAsks_2 (gfX1_firstWhoAsks_2 V1 S n) V1 l2 S
theorem efX1_firstWhoAsks_2 {z : AH} {a : Nat} {ρ : RV} {S : SV} (hR : RD 1 a ρ S z) {a1 : Nat} {ρ1 : RV} {V1 : SV} (h1 : RD 0 a1 ρ1 V1 z) : ∀ (n : Nat) (l2 : Int32), fX1_firstWhoAsks_2 z n a a1 l2 = gfX1_firstWhoAsks_2 V1 S n l2 := by
  intro n
  induction n with
  | zero => intros; rfl
  | succ n ih => intro l2; exact ebX1_firstWhoAsks_2 hR h1 (fun l2 => ih l2) l2
def gX1_firstWhoAsks (V1 : SV) (S : SV) : Option (Int32) :=
  gfX1_firstWhoAsks_2 V1 S FU (0 : Int32)
set_option maxRecDepth 100000 in
theorem eX1_firstWhoAsks {z : AH} {a : Nat} {ρ : RV} {S : SV} (hR : RD 1 a ρ S z) {a1 : Nat} {ρ1 : RV} {V1 : SV} (h1 : RD 0 a1 ρ1 V1 z) : fX1_firstWhoAsks a a1 z = gX1_firstWhoAsks V1 S := by
  unfold fX1_firstWhoAsks gX1_firstWhoAsks
  refine eo (isO_rd hR) ?_
  exact efX1_firstWhoAsks_2 hR h1 FU (0 : Int32)
def gX1_rightLikes (V0 : SV) (l1 : Int32) (l2 : Int32) : Option (Int32) :=
  (gX9_pick 16 (V0.2.1 18) (Int32.ofNat 16) (((4 : Int32) * l1) + l2)).bind fun x14 =>
  some x14
set_option maxRecDepth 100000 in
theorem eX1_rightLikes {z : AH} {a0 : Nat} {ρ0 : RV} {V0 : SV} (h0 : RD 0 a0 ρ0 V0 z) (l1 : Int32) (l2 : Int32) : fX1_rightLikes a0 l1 l2 z = gX1_rightLikes V0 l1 l2 := by
  unfold fX1_rightLikes gX1_rightLikes
  refine sb (gN_rd h0 rfl (Or.inl rfl)) ?_
  refine sb (gN_rd h0 rfl (Or.inl rfl)) ?_
  refine sb (lnI_rd h0 (k := 18) rfl rfl (by decide) 0 rfl (by decide)) ?_
  refine eb0 (eX9_pick (rw_rd h0 (k := 18) rfl rfl (by decide) 0 rfl (by decide)) (Int32.ofNat 16) (((4 : Int32) * l1) + l2)) (fun x14 => ?_)
  rfl
def gbX1_ask_72 (V1 : SV) (l2 : Int32) (l3 : Int32) (l4 : Int32) (S : SV) : Option SV :=
  (wA 0 4 S l2 l3).bind fun S78 =>
  (wA 1 4 S78 l3 l2).bind fun S85 =>
  if l4 < (0 : Int32) then (
    some S85
  ) else (
    if (4 : Int32) ≤ l4 then (
      some S85
    ) else (
      (wA 0 4 S85 l4 (-1 : Int32)).bind fun S104 =>
      some S104
    )
  )
set_option maxRecDepth 100000 in
theorem ebX1_ask_72 {z : AH} {a : Nat} {ρ : RV} (hz : a + szV 1 ≤ z.length) {a1 : Nat} {ρ1 : RV} {V1 : SV} (h1 : RD 0 a1 ρ1 V1 z) (d1 : a1 + szV 0 ≤ a ∨ a + szV 1 ≤ a1) (l2 : Int32) (l3 : Int32) (l4 : Int32) (S : SV) : bX1_ask_72 a l2 l3 l4 (wr 1 a ρ S z) = (gbX1_ask_72 V1 l2 l3 l4 S).map (fun S => wr 1 a ρ S z) := by
  unfold bX1_ask_72 gbX1_ask_72
  refine sb (gN_rd (rd_wr hz) rfl (Or.inl rfl)) ?_
  refine em (f := (fun S => wr 1 a ρ S z)) (stI_rd rkOk1 hz (k := 0) rfl rfl (by decide) 0 rfl (by decide) _ _) (fun S78 => ?_)
  refine sb (gN_rd (rd_wr hz) rfl (Or.inl rfl)) ?_
  refine em (f := (fun S => wr 1 a ρ S z)) (stI_rd rkOk1 hz (k := 1) rfl rfl (by decide) 0 rfl (by decide) _ _) (fun S85 => ?_)
  refine ei (fun _ => ?_) (fun _ => ?_)
  · skip
    rfl
  · skip
    refine ei (fun _ => ?_) (fun _ => ?_)
    · skip
      rfl
    · skip
      refine sb (gN_rd (rd_wr hz) rfl (Or.inl rfl)) ?_
      refine em (f := (fun S => wr 1 a ρ S z)) (stI_rd rkOk1 hz (k := 0) rfl rfl (by decide) 0 rfl (by decide) _ _) (fun S104 => ?_)
      rfl
def gbX1_ask_54 (V1 : SV) (l2 : Int32) (l3 : Int32) (l4 : Int32) (s0 : Int32) (S : SV) : Option SV :=
  if (0 : Int32) < s0 then (
    gbX1_ask_72 V1 l2 l3 l4 S
  ) else (
    if s0 = (0 : Int32) then (
      if l4 ≤ l2 then (
        some S
      ) else (
        gbX1_ask_72 V1 l2 l3 l4 S
      )
    ) else (
      some S
    )
  )
set_option maxRecDepth 100000 in
theorem ebX1_ask_54 {z : AH} {a : Nat} {ρ : RV} (hz : a + szV 1 ≤ z.length) {a1 : Nat} {ρ1 : RV} {V1 : SV} (h1 : RD 0 a1 ρ1 V1 z) (d1 : a1 + szV 0 ≤ a ∨ a + szV 1 ≤ a1) (l2 : Int32) (l3 : Int32) (l4 : Int32) (s0 : Int32) (S : SV) : bX1_ask_54 a l2 l3 l4 s0 (wr 1 a ρ S z) = (gbX1_ask_54 V1 l2 l3 l4 s0 S).map (fun S => wr 1 a ρ S z) := by
  unfold bX1_ask_54 gbX1_ask_54
  refine ei (fun _ => ?_) (fun _ => ?_)
  · skip
    exact ebX1_ask_72 hz h1 d1 l2 l3 l4 S
  · skip
    refine ei (fun _ => ?_) (fun _ => ?_)
    · skip
      refine ei (fun _ => ?_) (fun _ => ?_)
      · skip
        rfl
      · skip
        exact ebX1_ask_72 hz h1 d1 l2 l3 l4 S
    · skip
      rfl
def gX1_ask (V1 : SV) (l2 : Int32) (l3 : Int32) (S : SV) : Option SV :=
  if l3 < (0 : Int32) then (
    some S
  ) else (
    if l3 < (4 : Int32) then (
      (rA 4 (S.2.1 2) l2).bind fun x16 =>
      (wA 2 4 S l2 (x16 ||| (shl (1 : Int32) l3))).bind fun S21 =>
      (rA 4 (S21.2.1 1) l3).bind fun x27 =>
      if x27 = (-1 : Int32) then (
        gbX1_ask_54 V1 l2 l3 x27 (1 : Int32) S21
      ) else (
        (gX1_rightLikes V1 l3 l2).bind fun x43 =>
        (gX1_rightLikes V1 l3 x27).bind fun x50 =>
        gbX1_ask_54 V1 l2 l3 x27 (x43 - x50) S21
      )
    ) else (
      some S
    )
  )
set_option maxRecDepth 100000 in
theorem eX1_ask {z : AH} {a : Nat} {ρ : RV} (hz : a + szV 1 ≤ z.length) {a1 : Nat} {ρ1 : RV} {V1 : SV} (h1 : RD 0 a1 ρ1 V1 z) (d1 : a1 + szV 0 ≤ a ∨ a + szV 1 ≤ a1) (l2 : Int32) (l3 : Int32) (S : SV) : fX1_ask a a1 l2 l3 (wr 1 a ρ S z) = (gX1_ask V1 l2 l3 S).map (fun S => wr 1 a ρ S z) := by
  unfold fX1_ask gX1_ask
  refine eo (isO_rd (rd_wr hz)) ?_
  refine ei (fun _ => ?_) (fun _ => ?_)
  · skip
    rfl
  · skip
    refine ei (fun _ => ?_) (fun _ => ?_)
    · skip
      refine sb (gN_rd (rd_wr hz) rfl (Or.inl rfl)) ?_
      refine eb (ixI_rd (rd_wr hz) (k := 2) rfl rfl (by decide) 0 rfl (by decide) _) (fun x16 => ?_)
      refine em (f := (fun S => wr 1 a ρ S z)) (stI_rd rkOk1 hz (k := 2) rfl rfl (by decide) 0 rfl (by decide) _ _) (fun S21 => ?_)
      refine sb (gN_rd (rd_wr hz) rfl (Or.inl rfl)) ?_
      refine eb (ixI_rd (rd_wr hz) (k := 1) rfl rfl (by decide) 0 rfl (by decide) _) (fun x27 => ?_)
      refine ei (fun _ => ?_) (fun _ => ?_)
      · skip
        exact ebX1_ask_54 hz h1 d1 l2 l3 x27 (1 : Int32) S21
      · skip
        refine eb (eX1_rightLikes (h1.far d1) l3 l2) (fun x43 => ?_)
        refine eb (eX1_rightLikes (h1.far d1) l3 x27) (fun x50 => ?_)
        exact ebX1_ask_54 hz h1 d1 l2 l3 x27 (x43 - x50) S21
    · skip
      rfl
def gbX1_marry_6 (k6 : Int32 → SV → Option SV) (V1 : SV) (l2 : Int32) (S : SV) : Option SV :=
  if (16 : Int32) ≤ l2 then (
    some S
  ) else (
    (gX1_firstWhoAsks V1 S).bind fun x14 =>
    if x14 = (-1 : Int32) then (
      some S
    ) else (
      (gX1_favourite V1 x14 S).bind fun x30 =>
      (gX1_ask V1 x14 x30 S).bind fun S33 =>
      nm (l2 + (1 : Int32)) fun v36 =>
      k6 v36 S33
    )
  )
set_option maxRecDepth 100000 in
theorem ebX1_marry_6 {z : AH} {a : Nat} {ρ : RV} (hz : a + szV 1 ≤ z.length) {a1 : Nat} {ρ1 : RV} {V1 : SV} (h1 : RD 0 a1 ρ1 V1 z) (d1 : a1 + szV 0 ≤ a ∨ a + szV 1 ≤ a1) {k6 : Nat → Nat → Int32 → AH → Option AH} {k6' : Int32 → SV → Option SV} (hk6 : ∀ (l2 : Int32) (S : SV), k6 a a1 l2 (wr 1 a ρ S z) = (k6' l2 S).map (fun S => wr 1 a ρ S z)) (l2 : Int32) (S : SV) : bX1_marry_6 k6 a a1 l2 (wr 1 a ρ S z) = (gbX1_marry_6 k6' V1 l2 S).map (fun S => wr 1 a ρ S z) := by
  unfold bX1_marry_6 gbX1_marry_6
  refine ei (fun _ => ?_) (fun _ => ?_)
  · skip
    rfl
  · skip
    refine eb (eX1_firstWhoAsks (rd_wr hz) (h1.far d1)) (fun x14 => ?_)
    refine ei (fun _ => ?_) (fun _ => ?_)
    · skip
      rfl
    · skip
      refine eb (eX1_favourite (rd_wr hz) (h1.far d1) x14) (fun x30 => ?_)
      refine em (f := (fun S => wr 1 a ρ S z)) (eX1_ask (ρ := ρ) hz h1 d1 x14 x30 S) (fun S33 => ?_)
      refine en (fun v36 => ?_)
      exact hk6 v36 S33
def gfX1_marry_6 (V1 : SV) : Nat → Int32 → SV → Option SV
  | 0, _, _ => none
  | n + 1, l2, S => gbX1_marry_6 (gfX1_marry_6 V1 n) V1 l2 S
theorem efX1_marry_6 {z : AH} {a : Nat} {ρ : RV} (hz : a + szV 1 ≤ z.length) {a1 : Nat} {ρ1 : RV} {V1 : SV} (h1 : RD 0 a1 ρ1 V1 z) (d1 : a1 + szV 0 ≤ a ∨ a + szV 1 ≤ a1) : ∀ (n : Nat) (l2 : Int32) (S : SV), fX1_marry_6 n a a1 l2 (wr 1 a ρ S z) = (gfX1_marry_6 V1 n l2 S).map (fun S => wr 1 a ρ S z) := by
  intro n
  induction n with
  | zero => intros; rfl
  | succ n ih => intro l2 S; exact ebX1_marry_6 hz h1 d1 (fun l2 S => ih l2 S) l2 S
def gX1_marry (V1 : SV) (S : SV) : Option SV :=
  (gX1_part S).bind fun S1 =>
  gfX1_marry_6 V1 FU (0 : Int32) S1
set_option maxRecDepth 100000 in
theorem eX1_marry {z : AH} {a : Nat} {ρ : RV} (hz : a + szV 1 ≤ z.length) {a1 : Nat} {ρ1 : RV} {V1 : SV} (h1 : RD 0 a1 ρ1 V1 z) (d1 : a1 + szV 0 ≤ a ∨ a + szV 1 ≤ a1) (S : SV) : fX1_marry a a1 (wr 1 a ρ S z) = (gX1_marry V1 S).map (fun S => wr 1 a ρ S z) := by
  unfold fX1_marry gX1_marry
  refine eo (isO_rd (rd_wr hz)) ?_
  refine em (f := (fun S => wr 1 a ρ S z)) (eX1_part (ρ := ρ) hz S) (fun S1 => ?_)
  exact efX1_marry_6 hz h1 d1 FU (0 : Int32) S1
def gX1_couple (l1 : Int32) (l2 : Int32) (S : SV) : Option SV :=
  if l1 < (0 : Int32) then (
    some S
  ) else (
    if (4 : Int32) ≤ l1 then (
      some S
    ) else (
      if l2 < (0 : Int32) then (
        some S
      ) else (
        if (4 : Int32) ≤ l2 then (
          some S
        ) else (
          (wA 0 4 S l1 l2).bind fun S24 =>
          (wA 1 4 S24 l2 l1).bind fun S31 =>
          some S31
        )
      )
    )
  )
set_option maxRecDepth 100000 in
theorem eX1_couple {z : AH} {a : Nat} {ρ : RV} (hz : a + szV 1 ≤ z.length) (l1 : Int32) (l2 : Int32) (S : SV) : fX1_couple a l1 l2 (wr 1 a ρ S z) = (gX1_couple l1 l2 S).map (fun S => wr 1 a ρ S z) := by
  unfold fX1_couple gX1_couple
  refine eo (isO_rd (rd_wr hz)) ?_
  refine ei (fun _ => ?_) (fun _ => ?_)
  · skip
    rfl
  · skip
    refine ei (fun _ => ?_) (fun _ => ?_)
    · skip
      rfl
    · skip
      refine ei (fun _ => ?_) (fun _ => ?_)
      · skip
        rfl
      · skip
        refine ei (fun _ => ?_) (fun _ => ?_)
        · skip
          rfl
        · skip
          refine sb (gN_rd (rd_wr hz) rfl (Or.inl rfl)) ?_
          refine em (f := (fun S => wr 1 a ρ S z)) (stI_rd rkOk1 hz (k := 0) rfl rfl (by decide) 0 rfl (by decide) _ _) (fun S24 => ?_)
          refine sb (gN_rd (rd_wr hz) rfl (Or.inl rfl)) ?_
          refine em (f := (fun S => wr 1 a ρ S z)) (stI_rd rkOk1 hz (k := 1) rfl rfl (by decide) 0 rfl (by decide) _ _) (fun S31 => ?_)
          rfl
def gX1_leftWould (V1 : SV) (l2 : Int32) (l3 : Int32) (S : SV) : Option (Int32) :=
  (rA 4 (S.2.1 0) l2).bind fun x5 =>
  if x5 = (-1 : Int32) then (
    some (1 : Int32)
  ) else (
    (gX1_leftLikes V1 l2 l3).bind fun x17 =>
    (gX1_leftLikes V1 l2 x5).bind fun x24 =>
    if x17 ≤ x24 then (
      some (0 : Int32)
    ) else (
      some (1 : Int32)
    )
  )
set_option maxRecDepth 100000 in
theorem eX1_leftWould {z : AH} {a : Nat} {ρ : RV} {S : SV} (hR : RD 1 a ρ S z) {a1 : Nat} {ρ1 : RV} {V1 : SV} (h1 : RD 0 a1 ρ1 V1 z) (l2 : Int32) (l3 : Int32) : fX1_leftWould a a1 l2 l3 z = gX1_leftWould V1 l2 l3 S := by
  unfold fX1_leftWould gX1_leftWould
  refine eo (isO_rd hR) ?_
  refine sb (gN_rd hR rfl (Or.inl rfl)) ?_
  refine eb0 (ixI_rd hR (k := 0) rfl rfl (by decide) 0 rfl (by decide) _) (fun x5 => ?_)
  refine ei0 (fun _ => ?_) (fun _ => ?_)
  · skip
    rfl
  · skip
    refine eb0 (eX1_leftLikes h1 l2 l3) (fun x17 => ?_)
    refine eb0 (eX1_leftLikes h1 l2 x5) (fun x24 => ?_)
    refine ei0 (fun _ => ?_) (fun _ => ?_)
    · skip
      rfl
    · skip
      rfl
def gX1_rightWould (V1 : SV) (l2 : Int32) (l3 : Int32) (S : SV) : Option (Int32) :=
  (rA 4 (S.2.1 1) l2).bind fun x5 =>
  if x5 = (-1 : Int32) then (
    some (1 : Int32)
  ) else (
    (gX1_rightLikes V1 l2 l3).bind fun x17 =>
    (gX1_rightLikes V1 l2 x5).bind fun x24 =>
    if x17 ≤ x24 then (
      some (0 : Int32)
    ) else (
      some (1 : Int32)
    )
  )
set_option maxRecDepth 100000 in
theorem eX1_rightWould {z : AH} {a : Nat} {ρ : RV} {S : SV} (hR : RD 1 a ρ S z) {a1 : Nat} {ρ1 : RV} {V1 : SV} (h1 : RD 0 a1 ρ1 V1 z) (l2 : Int32) (l3 : Int32) : fX1_rightWould a a1 l2 l3 z = gX1_rightWould V1 l2 l3 S := by
  unfold fX1_rightWould gX1_rightWould
  refine eo (isO_rd hR) ?_
  refine sb (gN_rd hR rfl (Or.inl rfl)) ?_
  refine eb0 (ixI_rd hR (k := 1) rfl rfl (by decide) 0 rfl (by decide) _) (fun x5 => ?_)
  refine ei0 (fun _ => ?_) (fun _ => ?_)
  · skip
    rfl
  · skip
    refine eb0 (eX1_rightLikes h1 l2 l3) (fun x17 => ?_)
    refine eb0 (eX1_rightLikes h1 l2 x5) (fun x24 => ?_)
    refine ei0 (fun _ => ?_) (fun _ => ?_)
    · skip
      rfl
    · skip
      rfl
def gbX1_countUnhappy_51 (k40 : Int32 → Int32 → SV → Option (Int32 × SV)) (k51 : Int32 → Int32 → Int32 → SV → Option (Int32 × SV)) (V1 : SV) (l2 : Int32) (l3 : Int32) (l4 : Int32) (S : SV) : Option (Int32 × SV) :=
  if (V1.1 11) ≤ l4 then (
    nm (l3 + (1 : Int32)) fun v102 =>
    k40 l2 v102 S
  ) else (
    (rA 4 (S.2.1 0) l3).bind fun x65 =>
    if x65 = l4 then (
      nm (l4 + (1 : Int32)) fun v96 =>
      k51 l2 l3 v96 S
    ) else (
      (gX1_leftWould V1 l3 l4 S).bind fun x76 =>
      if x76 = (0 : Int32) then (
        nm (l4 + (1 : Int32)) fun v96 =>
        k51 l2 l3 v96 S
      ) else (
        (gX1_rightWould V1 l4 l3 S).bind fun x87 =>
        if x87 = (0 : Int32) then (
          nm (l4 + (1 : Int32)) fun v96 =>
          k51 l2 l3 v96 S
        ) else (
          nm (l2 + (1 : Int32)) fun v93 =>
          nm (l4 + (1 : Int32)) fun v96 =>
          k51 v93 l3 v96 S
        )
      )
    )
  )
set_option maxRecDepth 100000 in
theorem ebX1_countUnhappy_51 {z : AH} {a : Nat} {ρ : RV} (hz : a + szV 1 ≤ z.length) {a1 : Nat} {ρ1 : RV} {V1 : SV} (h1 : RD 0 a1 ρ1 V1 z) (d1 : a1 + szV 0 ≤ a ∨ a + szV 1 ≤ a1) {k40 : Nat → Nat → Int32 → Int32 → AH → Option (Int32 × AH)} {k40' : Int32 → Int32 → SV → Option (Int32 × SV)} {k51 : Nat → Nat → Int32 → Int32 → Int32 → AH → Option (Int32 × AH)} {k51' : Int32 → Int32 → Int32 → SV → Option (Int32 × SV)} (hk40 : ∀ (l2 : Int32) (l3 : Int32) (S : SV), k40 a a1 l2 l3 (wr 1 a ρ S z) = (k40' l2 l3 S).map (fun q => (q.1, wr 1 a ρ q.2 z))) (hk51 : ∀ (l2 : Int32) (l3 : Int32) (l4 : Int32) (S : SV), k51 a a1 l2 l3 l4 (wr 1 a ρ S z) = (k51' l2 l3 l4 S).map (fun q => (q.1, wr 1 a ρ q.2 z))) (l2 : Int32) (l3 : Int32) (l4 : Int32) (S : SV) : bX1_countUnhappy_51 k40 k51 a a1 l2 l3 l4 (wr 1 a ρ S z) = (gbX1_countUnhappy_51 k40' k51' V1 l2 l3 l4 S).map (fun q => (q.1, wr 1 a ρ q.2 z)) := by
  unfold bX1_countUnhappy_51 gbX1_countUnhappy_51
  refine sb (gI_rd (h1.far d1) rfl) ?_
  refine ei (fun _ => ?_) (fun _ => ?_)
  · skip
    refine en (fun v102 => ?_)
    exact hk40 l2 v102 S
  · skip
    refine sb (gN_rd (rd_wr hz) rfl (Or.inl rfl)) ?_
    refine eb (ixI_rd (rd_wr hz) (k := 0) rfl rfl (by decide) 0 rfl (by decide) _) (fun x65 => ?_)
    refine ei (fun _ => ?_) (fun _ => ?_)
    · skip
      refine en (fun v96 => ?_)
      exact hk51 l2 l3 v96 S
    · skip
      refine eb (eX1_leftWould (rd_wr hz) (h1.far d1) l3 l4) (fun x76 => ?_)
      refine ei (fun _ => ?_) (fun _ => ?_)
      · skip
        refine en (fun v96 => ?_)
        exact hk51 l2 l3 v96 S
      · skip
        refine eb (eX1_rightWould (rd_wr hz) (h1.far d1) l4 l3) (fun x87 => ?_)
        refine ei (fun _ => ?_) (fun _ => ?_)
        · skip
          refine en (fun v96 => ?_)
          exact hk51 l2 l3 v96 S
        · skip
          refine en (fun v93 => ?_)
          refine en (fun v96 => ?_)
          exact hk51 v93 l3 v96 S
def gfX1_countUnhappy_51 (k40 : Int32 → Int32 → SV → Option (Int32 × SV)) (V1 : SV) : Nat → Int32 → Int32 → Int32 → SV → Option (Int32 × SV)
  | 0, _, _, _, _ => none
  | n + 1, l2, l3, l4, S => gbX1_countUnhappy_51 k40 (gfX1_countUnhappy_51 k40 V1 n) V1 l2 l3 l4 S
theorem efX1_countUnhappy_51 {z : AH} {a : Nat} {ρ : RV} (hz : a + szV 1 ≤ z.length) {a1 : Nat} {ρ1 : RV} {V1 : SV} (h1 : RD 0 a1 ρ1 V1 z) (d1 : a1 + szV 0 ≤ a ∨ a + szV 1 ≤ a1) {k40 : Nat → Nat → Int32 → Int32 → AH → Option (Int32 × AH)} {k40' : Int32 → Int32 → SV → Option (Int32 × SV)} (hk40 : ∀ (l2 : Int32) (l3 : Int32) (S : SV), k40 a a1 l2 l3 (wr 1 a ρ S z) = (k40' l2 l3 S).map (fun q => (q.1, wr 1 a ρ q.2 z))) : ∀ (n : Nat) (l2 : Int32) (l3 : Int32) (l4 : Int32) (S : SV), fX1_countUnhappy_51 k40 n a a1 l2 l3 l4 (wr 1 a ρ S z) = (gfX1_countUnhappy_51 k40' V1 n l2 l3 l4 S).map (fun q => (q.1, wr 1 a ρ q.2 z)) := by
  intro n
  induction n with
  | zero => intros; rfl
  | succ n ih => intro l2 l3 l4 S; exact ebX1_countUnhappy_51 hz h1 d1 hk40 (fun l2 l3 l4 S => ih l2 l3 l4 S) l2 l3 l4 S
def gbX1_countUnhappy_40 (k40 : Int32 → Int32 → SV → Option (Int32 × SV)) (V1 : SV) (l2 : Int32) (l3 : Int32) (S : SV) : Option (Int32 × SV) :=
  if (V1.1 10) ≤ l3 then (
    some (l2, S)
  ) else (
    gfX1_countUnhappy_51 k40 V1 FU l2 l3 (0 : Int32) S
  )
set_option maxRecDepth 100000 in
theorem ebX1_countUnhappy_40 {z : AH} {a : Nat} {ρ : RV} (hz : a + szV 1 ≤ z.length) {a1 : Nat} {ρ1 : RV} {V1 : SV} (h1 : RD 0 a1 ρ1 V1 z) (d1 : a1 + szV 0 ≤ a ∨ a + szV 1 ≤ a1) {k40 : Nat → Nat → Int32 → Int32 → AH → Option (Int32 × AH)} {k40' : Int32 → Int32 → SV → Option (Int32 × SV)} (hk40 : ∀ (l2 : Int32) (l3 : Int32) (S : SV), k40 a a1 l2 l3 (wr 1 a ρ S z) = (k40' l2 l3 S).map (fun q => (q.1, wr 1 a ρ q.2 z))) (l2 : Int32) (l3 : Int32) (S : SV) : bX1_countUnhappy_40 k40 a a1 l2 l3 (wr 1 a ρ S z) = (gbX1_countUnhappy_40 k40' V1 l2 l3 S).map (fun q => (q.1, wr 1 a ρ q.2 z)) := by
  unfold bX1_countUnhappy_40 gbX1_countUnhappy_40
  refine sb (gI_rd (h1.far d1) rfl) ?_
  refine ei (fun _ => ?_) (fun _ => ?_)
  · skip
    rfl
  · skip
    exact efX1_countUnhappy_51 hz h1 d1 hk40 FU l2 l3 (0 : Int32) S
def gfX1_countUnhappy_40 (V1 : SV) : Nat → Int32 → Int32 → SV → Option (Int32 × SV)
  | 0, _, _, _ => none
  | n + 1, l2, l3, S => gbX1_countUnhappy_40 (gfX1_countUnhappy_40 V1 n) V1 l2 l3 S
theorem efX1_countUnhappy_40 {z : AH} {a : Nat} {ρ : RV} (hz : a + szV 1 ≤ z.length) {a1 : Nat} {ρ1 : RV} {V1 : SV} (h1 : RD 0 a1 ρ1 V1 z) (d1 : a1 + szV 0 ≤ a ∨ a + szV 1 ≤ a1) : ∀ (n : Nat) (l2 : Int32) (l3 : Int32) (S : SV), fX1_countUnhappy_40 n a a1 l2 l3 (wr 1 a ρ S z) = (gfX1_countUnhappy_40 V1 n l2 l3 S).map (fun q => (q.1, wr 1 a ρ q.2 z)) := by
  intro n
  induction n with
  | zero => intros; rfl
  | succ n ih => intro l2 l3 S; exact ebX1_countUnhappy_40 hz h1 d1 (fun l2 l3 S => ih l2 l3 S) l2 l3 S
def gbX1_countUnhappy_6 (k6 : Int32 → SV → Option (Int32 × SV)) (V1 : SV) (l2 : Int32) (S : SV) : Option (Int32 × SV) :=
  if (V1.1 14) ≤ l2 then (
    gfX1_countUnhappy_40 V1 FU (0 : Int32) (0 : Int32) S
  ) else (
    (rA 4 (V1.2.1 15) l2).bind fun x20 =>
    (rA 4 (V1.2.1 16) l2).bind fun x26 =>
    (gX1_couple x20 x26 S).bind fun S27 =>
    nm (l2 + (1 : Int32)) fun v30 =>
    k6 v30 S27
  )
set_option maxRecDepth 100000 in
theorem ebX1_countUnhappy_6 {z : AH} {a : Nat} {ρ : RV} (hz : a + szV 1 ≤ z.length) {a1 : Nat} {ρ1 : RV} {V1 : SV} (h1 : RD 0 a1 ρ1 V1 z) (d1 : a1 + szV 0 ≤ a ∨ a + szV 1 ≤ a1) {k6 : Nat → Nat → Int32 → AH → Option (Int32 × AH)} {k6' : Int32 → SV → Option (Int32 × SV)} (hk6 : ∀ (l2 : Int32) (S : SV), k6 a a1 l2 (wr 1 a ρ S z) = (k6' l2 S).map (fun q => (q.1, wr 1 a ρ q.2 z))) (l2 : Int32) (S : SV) : bX1_countUnhappy_6 k6 a a1 l2 (wr 1 a ρ S z) = (gbX1_countUnhappy_6 k6' V1 l2 S).map (fun q => (q.1, wr 1 a ρ q.2 z)) := by
  unfold bX1_countUnhappy_6 gbX1_countUnhappy_6
  refine sb (gI_rd (h1.far d1) rfl) ?_
  refine ei (fun _ => ?_) (fun _ => ?_)
  · skip
    exact efX1_countUnhappy_40 hz h1 d1 FU (0 : Int32) (0 : Int32) S
  · skip
    refine sb (gN_rd (h1.far d1) rfl (Or.inl rfl)) ?_
    refine eb (ixI_rd (h1.far d1) (k := 15) rfl rfl (by decide) 0 rfl (by decide) _) (fun x20 => ?_)
    refine sb (gN_rd (h1.far d1) rfl (Or.inl rfl)) ?_
    refine eb (ixI_rd (h1.far d1) (k := 16) rfl rfl (by decide) 0 rfl (by decide) _) (fun x26 => ?_)
    refine em (f := (fun S => wr 1 a ρ S z)) (eX1_couple (ρ := ρ) hz x20 x26 S) (fun S27 => ?_)
    refine en (fun v30 => ?_)
    exact hk6 v30 S27
def gfX1_countUnhappy_6 (V1 : SV) : Nat → Int32 → SV → Option (Int32 × SV)
  | 0, _, _ => none
  | n + 1, l2, S => gbX1_countUnhappy_6 (gfX1_countUnhappy_6 V1 n) V1 l2 S
theorem efX1_countUnhappy_6 {z : AH} {a : Nat} {ρ : RV} (hz : a + szV 1 ≤ z.length) {a1 : Nat} {ρ1 : RV} {V1 : SV} (h1 : RD 0 a1 ρ1 V1 z) (d1 : a1 + szV 0 ≤ a ∨ a + szV 1 ≤ a1) : ∀ (n : Nat) (l2 : Int32) (S : SV), fX1_countUnhappy_6 n a a1 l2 (wr 1 a ρ S z) = (gfX1_countUnhappy_6 V1 n l2 S).map (fun q => (q.1, wr 1 a ρ q.2 z)) := by
  intro n
  induction n with
  | zero => intros; rfl
  | succ n ih => intro l2 S; exact ebX1_countUnhappy_6 hz h1 d1 (fun l2 S => ih l2 S) l2 S
def gX1_countUnhappy (V1 : SV) (S : SV) : Option (Int32 × SV) :=
  (gX1_part S).bind fun S1 =>
  gfX1_countUnhappy_6 V1 FU (0 : Int32) S1
set_option maxRecDepth 100000 in
theorem eX1_countUnhappy {z : AH} {a : Nat} {ρ : RV} (hz : a + szV 1 ≤ z.length) {a1 : Nat} {ρ1 : RV} {V1 : SV} (h1 : RD 0 a1 ρ1 V1 z) (d1 : a1 + szV 0 ≤ a ∨ a + szV 1 ≤ a1) (S : SV) : fX1_countUnhappy a a1 (wr 1 a ρ S z) = (gX1_countUnhappy V1 S).map (fun q => (q.1, wr 1 a ρ q.2 z)) := by
  unfold fX1_countUnhappy gX1_countUnhappy
  refine eo (isO_rd (rd_wr hz)) ?_
  refine em (f := (fun S => wr 1 a ρ S z)) (eX1_part (ρ := ρ) hz S) (fun S1 => ?_)
  exact efX1_countUnhappy_6 hz h1 d1 FU (0 : Int32) S1
def gbX1_withOneMore_41 (k5 : Int32 → Int32 → Int32 → Int32 → Option (Int32)) (k41 : Int32 → Int32 → Int32 → Int32 → Int32 → Option (Int32)) (V0 : SV) (l1 : Int32) (l2 : Int32) (l3 : Int32) (l4 : Int32) (l5 : Int32) : Option (Int32) :=
  if (16 : Int32) ≤ l5 then (
    nm (l4 + (1 : Int32)) fun v85 =>
    k5 l1 l2 l3 v85
  ) else (
    if (fX9_hasBit l2 l5) = (0 : Int32) then (
      nm (l5 + (1 : Int32)) fun v79 =>
      k41 l1 l2 l3 l4 v79
    ) else (
      if (fX9_hasBit l5 l4) = (0 : Int32) then (
        nm (l3 ||| (shl (1 : Int32) (l5 ||| (shl (1 : Int32) l4)))) fun v78 =>
        nm (l5 + (1 : Int32)) fun v79 =>
        k41 l1 l2 v78 l4 v79
      ) else (
        nm (l5 + (1 : Int32)) fun v79 =>
        k41 l1 l2 l3 l4 v79
      )
    )
  )
set_option maxRecDepth 100000 in
theorem ebX1_withOneMore_41 {z : AH} {a0 : Nat} {ρ0 : RV} {V0 : SV} (h0 : RD 0 a0 ρ0 V0 z) {k5 : Nat → Int32 → Int32 → Int32 → Int32 → Option (Int32)} {k5' : Int32 → Int32 → Int32 → Int32 → Option (Int32)} {k41 : Nat → Int32 → Int32 → Int32 → Int32 → Int32 → Option (Int32)} {k41' : Int32 → Int32 → Int32 → Int32 → Int32 → Option (Int32)} (hk5 : ∀ (l1 : Int32) (l2 : Int32) (l3 : Int32) (l4 : Int32), k5 a0 l1 l2 l3 l4 = k5' l1 l2 l3 l4) (hk41 : ∀ (l1 : Int32) (l2 : Int32) (l3 : Int32) (l4 : Int32) (l5 : Int32), k41 a0 l1 l2 l3 l4 l5 = k41' l1 l2 l3 l4 l5) (l1 : Int32) (l2 : Int32) (l3 : Int32) (l4 : Int32) (l5 : Int32) : bX1_withOneMore_41 k5 k41 a0 l1 l2 l3 l4 l5 z = gbX1_withOneMore_41 k5' k41' V0 l1 l2 l3 l4 l5 := by
  unfold bX1_withOneMore_41 gbX1_withOneMore_41
  refine ei0 (fun _ => ?_) (fun _ => ?_)
  · skip
    refine en0 (fun v85 => ?_)
    exact hk5 l1 l2 l3 v85
  · skip
    refine ei0 (fun _ => ?_) (fun _ => ?_)
    · skip
      refine en0 (fun v79 => ?_)
      exact hk41 l1 l2 l3 l4 v79
    · skip
      refine ei0 (fun _ => ?_) (fun _ => ?_)
      · skip
        refine en0 (fun v78 => ?_)
        refine en0 (fun v79 => ?_)
        exact hk41 l1 l2 v78 l4 v79
      · skip
        refine en0 (fun v79 => ?_)
        exact hk41 l1 l2 l3 l4 v79
def gfX1_withOneMore_41 (k5 : Int32 → Int32 → Int32 → Int32 → Option (Int32)) (V0 : SV) : Nat → Int32 → Int32 → Int32 → Int32 → Int32 → Option (Int32)
  | 0, _, _, _, _, _ => none
  | n + 1, l1, l2, l3, l4, l5 => gbX1_withOneMore_41 k5 (gfX1_withOneMore_41 k5 V0 n) V0 l1 l2 l3 l4 l5
theorem efX1_withOneMore_41 {z : AH} {a0 : Nat} {ρ0 : RV} {V0 : SV} (h0 : RD 0 a0 ρ0 V0 z) {k5 : Nat → Int32 → Int32 → Int32 → Int32 → Option (Int32)} {k5' : Int32 → Int32 → Int32 → Int32 → Option (Int32)} (hk5 : ∀ (l1 : Int32) (l2 : Int32) (l3 : Int32) (l4 : Int32), k5 a0 l1 l2 l3 l4 = k5' l1 l2 l3 l4) : ∀ (n : Nat) (l1 : Int32) (l2 : Int32) (l3 : Int32) (l4 : Int32) (l5 : Int32), fX1_withOneMore_41 k5 z n a0 l1 l2 l3 l4 l5 = gfX1_withOneMore_41 k5' V0 n l1 l2 l3 l4 l5 := by
  intro n
  induction n with
  | zero => intros; rfl
  | succ n ih => intro l1 l2 l3 l4 l5; exact ebX1_withOneMore_41 h0 hk5 (fun l1 l2 l3 l4 l5 => ih l1 l2 l3 l4 l5) l1 l2 l3 l4 l5
def gbX1_withOneMore_5 (k5 : Int32 → Int32 → Int32 → Int32 → Option (Int32)) (V0 : SV) (l1 : Int32) (l2 : Int32) (l3 : Int32) (l4 : Int32) : Option (Int32) :=
  if (V0.1 11) ≤ l4 then (
    some l3
  ) else (
    (rA 4 (V0.2.1 12) l1).bind fun x19 =>
    (rA 4 (V0.2.1 13) l4).bind fun x26 =>
    if (V0.1 19) < (iabs (x19 - x26)) then (
      nm (l4 + (1 : Int32)) fun v85 =>
      k5 l1 l2 l3 v85
    ) else (
      gfX1_withOneMore_41 k5 V0 FU l1 l2 l3 l4 (0 : Int32)
    )
  )
set_option maxRecDepth 100000 in
theorem ebX1_withOneMore_5 {z : AH} {a0 : Nat} {ρ0 : RV} {V0 : SV} (h0 : RD 0 a0 ρ0 V0 z) {k5 : Nat → Int32 → Int32 → Int32 → Int32 → Option (Int32)} {k5' : Int32 → Int32 → Int32 → Int32 → Option (Int32)} (hk5 : ∀ (l1 : Int32) (l2 : Int32) (l3 : Int32) (l4 : Int32), k5 a0 l1 l2 l3 l4 = k5' l1 l2 l3 l4) (l1 : Int32) (l2 : Int32) (l3 : Int32) (l4 : Int32) : bX1_withOneMore_5 k5 a0 l1 l2 l3 l4 z = gbX1_withOneMore_5 k5' V0 l1 l2 l3 l4 := by
  unfold bX1_withOneMore_5 gbX1_withOneMore_5
  refine sb (gI_rd h0 rfl) ?_
  refine ei0 (fun _ => ?_) (fun _ => ?_)
  · skip
    rfl
  · skip
    refine sb (gN_rd h0 rfl (Or.inl rfl)) ?_
    refine eb0 (ixI_rd h0 (k := 12) rfl rfl (by decide) 0 rfl (by decide) _) (fun x19 => ?_)
    refine sb (gN_rd h0 rfl (Or.inl rfl)) ?_
    refine eb0 (ixI_rd h0 (k := 13) rfl rfl (by decide) 0 rfl (by decide) _) (fun x26 => ?_)
    refine sb (gI_rd h0 rfl) ?_
    refine ei0 (fun _ => ?_) (fun _ => ?_)
    · skip
      refine en0 (fun v85 => ?_)
      exact hk5 l1 l2 l3 v85
    · skip
      exact efX1_withOneMore_41 h0 hk5 FU l1 l2 l3 l4 (0 : Int32)
def gfX1_withOneMore_5 (V0 : SV) : Nat → Int32 → Int32 → Int32 → Int32 → Option (Int32)
  | 0, _, _, _, _ => none
  | n + 1, l1, l2, l3, l4 => gbX1_withOneMore_5 (gfX1_withOneMore_5 V0 n) V0 l1 l2 l3 l4
theorem efX1_withOneMore_5 {z : AH} {a0 : Nat} {ρ0 : RV} {V0 : SV} (h0 : RD 0 a0 ρ0 V0 z) : ∀ (n : Nat) (l1 : Int32) (l2 : Int32) (l3 : Int32) (l4 : Int32), fX1_withOneMore_5 z n a0 l1 l2 l3 l4 = gfX1_withOneMore_5 V0 n l1 l2 l3 l4 := by
  intro n
  induction n with
  | zero => intros; rfl
  | succ n ih => intro l1 l2 l3 l4; exact ebX1_withOneMore_5 h0 (fun l1 l2 l3 l4 => ih l1 l2 l3 l4) l1 l2 l3 l4
def gX1_withOneMore (V0 : SV) (l1 : Int32) (l2 : Int32) : Option (Int32) :=
  gfX1_withOneMore_5 V0 FU l1 l2 l2 (0 : Int32)
set_option maxRecDepth 100000 in
theorem eX1_withOneMore {z : AH} {a0 : Nat} {ρ0 : RV} {V0 : SV} (h0 : RD 0 a0 ρ0 V0 z) (l1 : Int32) (l2 : Int32) : fX1_withOneMore a0 l1 l2 z = gX1_withOneMore V0 l1 l2 := by
  unfold fX1_withOneMore gX1_withOneMore
  exact efX1_withOneMore_5 h0 FU l1 l2 l2 (0 : Int32)
def gbX1_mostPairs_29 (k29 : Int32 → Int32 → Int32 → Option (Int32)) (V0 : SV) (l1 : Int32) (l2 : Int32) (l3 : Int32) : Option (Int32) :=
  if (16 : Int32) ≤ l3 then (
    some l2
  ) else (
    if (fX9_hasBit l1 l3) = (0 : Int32) then (
      nm (l3 + (1 : Int32)) fun v52 =>
      k29 l1 l2 v52
    ) else (
      nm (imax l2 (fJ6_bitCount_0f7a4 l3)) fun v51 =>
      nm (l3 + (1 : Int32)) fun v52 =>
      k29 l1 v51 v52
    )
  )
set_option maxRecDepth 100000 in
theorem ebX1_mostPairs_29 {z : AH} {a0 : Nat} {ρ0 : RV} {V0 : SV} (h0 : RD 0 a0 ρ0 V0 z) {k29 : Int32 → Int32 → Int32 → Option (Int32)} {k29' : Int32 → Int32 → Int32 → Option (Int32)} (hk29 : ∀ (l1 : Int32) (l2 : Int32) (l3 : Int32), k29 l1 l2 l3 = k29' l1 l2 l3) (l1 : Int32) (l2 : Int32) (l3 : Int32) : bX1_mostPairs_29 k29 l1 l2 l3 z = gbX1_mostPairs_29 k29' V0 l1 l2 l3 := by
  unfold bX1_mostPairs_29 gbX1_mostPairs_29
  refine ei0 (fun _ => ?_) (fun _ => ?_)
  · skip
    rfl
  · skip
    refine ei0 (fun _ => ?_) (fun _ => ?_)
    · skip
      refine en0 (fun v52 => ?_)
      exact hk29 l1 l2 v52
    · skip
      refine en0 (fun v51 => ?_)
      refine en0 (fun v52 => ?_)
      exact hk29 l1 v51 v52
def gfX1_mostPairs_29 (V0 : SV) : Nat → Int32 → Int32 → Int32 → Option (Int32)
  | 0, _, _, _ => none
  | n + 1, l1, l2, l3 => gbX1_mostPairs_29 (gfX1_mostPairs_29 V0 n) V0 l1 l2 l3
theorem efX1_mostPairs_29 {z : AH} {a0 : Nat} {ρ0 : RV} {V0 : SV} (h0 : RD 0 a0 ρ0 V0 z) : ∀ (n : Nat) (l1 : Int32) (l2 : Int32) (l3 : Int32), fX1_mostPairs_29 z n l1 l2 l3 = gfX1_mostPairs_29 V0 n l1 l2 l3 := by
  intro n
  induction n with
  | zero => intros; rfl
  | succ n ih => intro l1 l2 l3; exact ebX1_mostPairs_29 h0 (fun l1 l2 l3 => ih l1 l2 l3) l1 l2 l3
def gbX1_mostPairs_4 (k4 : Int32 → Int32 → Option (Int32)) (V0 : SV) (l1 : Int32) (l2 : Int32) : Option (Int32) :=
  if (V0.1 10) ≤ l2 then (
    gfX1_mostPairs_29 V0 FU l1 (0 : Int32) (0 : Int32)
  ) else (
    (gX1_withOneMore V0 l2 l1).bind fun x15 =>
    nm (l2 + (1 : Int32)) fun v19 =>
    k4 x15 v19
  )
set_option maxRecDepth 100000 in
theorem ebX1_mostPairs_4 {z : AH} {a0 : Nat} {ρ0 : RV} {V0 : SV} (h0 : RD 0 a0 ρ0 V0 z) {k4 : Nat → Int32 → Int32 → Option (Int32)} {k4' : Int32 → Int32 → Option (Int32)} (hk4 : ∀ (l1 : Int32) (l2 : Int32), k4 a0 l1 l2 = k4' l1 l2) (l1 : Int32) (l2 : Int32) : bX1_mostPairs_4 k4 a0 l1 l2 z = gbX1_mostPairs_4 k4' V0 l1 l2 := by
  unfold bX1_mostPairs_4 gbX1_mostPairs_4
  refine sb (gI_rd h0 rfl) ?_
  refine ei0 (fun _ => ?_) (fun _ => ?_)
  · skip
    exact efX1_mostPairs_29 h0 FU l1 (0 : Int32) (0 : Int32)
  · skip
    refine eb0 (eX1_withOneMore h0 l2 l1) (fun x15 => ?_)
    refine en0 (fun v19 => ?_)
    exact hk4 x15 v19
def gfX1_mostPairs_4 (V0 : SV) : Nat → Int32 → Int32 → Option (Int32)
  | 0, _, _ => none
  | n + 1, l1, l2 => gbX1_mostPairs_4 (gfX1_mostPairs_4 V0 n) V0 l1 l2
theorem efX1_mostPairs_4 {z : AH} {a0 : Nat} {ρ0 : RV} {V0 : SV} (h0 : RD 0 a0 ρ0 V0 z) : ∀ (n : Nat) (l1 : Int32) (l2 : Int32), fX1_mostPairs_4 z n a0 l1 l2 = gfX1_mostPairs_4 V0 n l1 l2 := by
  intro n
  induction n with
  | zero => intros; rfl
  | succ n ih => intro l1 l2; exact ebX1_mostPairs_4 h0 (fun l1 l2 => ih l1 l2) l1 l2
def gX1_mostPairs (V0 : SV) : Option (Int32) :=
  gfX1_mostPairs_4 V0 FU (1 : Int32) (0 : Int32)
set_option maxRecDepth 100000 in
theorem eX1_mostPairs {z : AH} {a0 : Nat} {ρ0 : RV} {V0 : SV} (h0 : RD 0 a0 ρ0 V0 z) : fX1_mostPairs a0 z = gX1_mostPairs V0 := by
  unfold fX1_mostPairs gX1_mostPairs
  exact efX1_mostPairs_4 h0 FU (1 : Int32) (0 : Int32)
def gX2_cellAt (l1 : Int32) (S : SV) : Option (Int32) :=
  (gX9_pick 100 (S.2.1 0) (S.1 1) l1).bind fun x9 =>
  some x9
set_option maxRecDepth 100000 in
theorem eX2_cellAt {z : AH} {a : Nat} {ρ : RV} {S : SV} (hR : RD 2 a ρ S z) (l1 : Int32) : fX2_cellAt a l1 z = gX2_cellAt l1 S := by
  unfold fX2_cellAt gX2_cellAt
  refine eo (isO_rd hR) ?_
  refine sb (gN_rd hR rfl (Or.inl rfl)) ?_
  refine sb (gI_rd hR rfl) ?_
  refine eb0 (eX9_pick (rw_rd hR (k := 0) rfl rfl (by decide) 0 rfl (by decide)) (S.1 1) l1) (fun x9 => ?_)
  rfl
def gbX2_fitsAll_3 (k3 : Int32 → Int32 → Int32 → Int32 → Option (Int32)) (V0 : SV) (m0 : Nat) (l1 : Int32) (l2 : Int32) (l3 : Int32) (l4 : Int32) : Option (Int32) :=
  if (V0.1 3) ≤ l4 then (
    some (1 : Int32)
  ) else (
    if l4 = l2 then (
      nm (l4 + (1 : Int32)) fun v42 =>
      k3 l1 l2 l3 v42
    ) else (
      (rA m0 (V0.2.1 0) l4).bind fun x24 =>
      (rA m0 (V0.2.1 1) l4).bind fun x31 =>
      if (fX2_crosses x24 x31 l1 l3) = (0 : Int32) then (
        some (0 : Int32)
      ) else (
        nm (l4 + (1 : Int32)) fun v42 =>
        k3 l1 l2 l3 v42
      )
    )
  )
set_option maxRecDepth 100000 in
theorem ebX2_fitsAll_3 {z : AH} {a0 : Nat} {ρ0 : RV} {V0 : SV} (h0 : RD 4 a0 ρ0 V0 z) {k3 : Nat → Int32 → Int32 → Int32 → Int32 → Option (Int32)} {k3' : Int32 → Int32 → Int32 → Int32 → Option (Int32)} (hk3 : ∀ (l1 : Int32) (l2 : Int32) (l3 : Int32) (l4 : Int32), k3 a0 l1 l2 l3 l4 = k3' l1 l2 l3 l4) (l1 : Int32) (l2 : Int32) (l3 : Int32) (l4 : Int32) : bX2_fitsAll_3 k3 a0 l1 l2 l3 l4 z = gbX2_fitsAll_3 k3' V0 ρ0.2.2 l1 l2 l3 l4 := by
  unfold bX2_fitsAll_3 gbX2_fitsAll_3
  refine sb (gI_rd h0 rfl) ?_
  refine ei0 (fun _ => ?_) (fun _ => ?_)
  · skip
    rfl
  · skip
    refine ei0 (fun _ => ?_) (fun _ => ?_)
    · skip
      refine en0 (fun v42 => ?_)
      exact hk3 l1 l2 l3 v42
    · skip
      refine sb (gN_rd h0 rfl (Or.inl rfl)) ?_
      refine eb0 (ixI_rd h0 (k := 0) rfl rfl (by decide) 0 rfl (by decide) _) (fun x24 => ?_)
      refine sb (gN_rd h0 rfl (Or.inl rfl)) ?_
      refine eb0 (ixI_rd h0 (k := 1) rfl rfl (by decide) 0 rfl (by decide) _) (fun x31 => ?_)
      refine ei0 (fun _ => ?_) (fun _ => ?_)
      · skip
        rfl
      · skip
        refine en0 (fun v42 => ?_)
        exact hk3 l1 l2 l3 v42
def gfX2_fitsAll_3 (V0 : SV) (m0 : Nat) : Nat → Int32 → Int32 → Int32 → Int32 → Option (Int32)
  | 0, _, _, _, _ => none
  | n + 1, l1, l2, l3, l4 => gbX2_fitsAll_3 (gfX2_fitsAll_3 V0 m0 n) V0 m0 l1 l2 l3 l4
theorem efX2_fitsAll_3 {z : AH} {a0 : Nat} {ρ0 : RV} {V0 : SV} (h0 : RD 4 a0 ρ0 V0 z) : ∀ (n : Nat) (l1 : Int32) (l2 : Int32) (l3 : Int32) (l4 : Int32), fX2_fitsAll_3 z n a0 l1 l2 l3 l4 = gfX2_fitsAll_3 V0 ρ0.2.2 n l1 l2 l3 l4 := by
  intro n
  induction n with
  | zero => intros; rfl
  | succ n ih => intro l1 l2 l3 l4; exact ebX2_fitsAll_3 h0 (fun l1 l2 l3 l4 => ih l1 l2 l3 l4) l1 l2 l3 l4
def gX2_fitsAll (V0 : SV) (m0 : Nat) (l1 : Int32) (l2 : Int32) (l3 : Int32) : Option (Int32) :=
  gfX2_fitsAll_3 V0 m0 FU l1 l2 l3 (0 : Int32)
set_option maxRecDepth 100000 in
theorem eX2_fitsAll {z : AH} {a0 : Nat} {ρ0 : RV} {V0 : SV} (h0 : RD 4 a0 ρ0 V0 z) (l1 : Int32) (l2 : Int32) (l3 : Int32) : fX2_fitsAll a0 l1 l2 l3 z = gX2_fitsAll V0 ρ0.2.2 l1 l2 l3 := by
  unfold fX2_fitsAll gX2_fitsAll
  exact efX2_fitsAll_3 h0 FU l1 l2 l3 (0 : Int32)
def gbX2_gather_8 (k8 : Int32 → Int32 → Int32 → SV → Option SV) (V1 : SV) (m1 : Nat) (l2 : Int32) (l3 : Int32) (l4 : Int32) (S : SV) : Option SV :=
  if (100 : Int32) ≤ l4 then (
    some S
  ) else (
    (gX2_fitsAll V1 m1 l2 l3 l4).bind fun x20 =>
    if x20 = (0 : Int32) then (
      nm (l4 + (1 : Int32)) fun v47 =>
      k8 l2 l3 v47 S
    ) else (
      (wA 0 100 S (S.1 1) l4).bind fun S36 =>
      nm (wI S36 1 ((S36.1 1) + (1 : Int32))) fun S44 =>
      nm (l4 + (1 : Int32)) fun v47 =>
      k8 l2 l3 v47 S44
    )
  )
set_option maxRecDepth 100000 in
theorem ebX2_gather_8 {z : AH} {a : Nat} {ρ : RV} (hz : a + szV 2 ≤ z.length) {a1 : Nat} {ρ1 : RV} {V1 : SV} (h1 : RD 4 a1 ρ1 V1 z) (d1 : a1 + szV 4 ≤ a ∨ a + szV 2 ≤ a1) {k8 : Nat → Nat → Int32 → Int32 → Int32 → AH → Option AH} {k8' : Int32 → Int32 → Int32 → SV → Option SV} (hk8 : ∀ (l2 : Int32) (l3 : Int32) (l4 : Int32) (S : SV), k8 a a1 l2 l3 l4 (wr 2 a ρ S z) = (k8' l2 l3 l4 S).map (fun S => wr 2 a ρ S z)) (l2 : Int32) (l3 : Int32) (l4 : Int32) (S : SV) : bX2_gather_8 k8 a a1 l2 l3 l4 (wr 2 a ρ S z) = (gbX2_gather_8 k8' V1 ρ1.2.2 l2 l3 l4 S).map (fun S => wr 2 a ρ S z) := by
  unfold bX2_gather_8 gbX2_gather_8
  refine ei (fun _ => ?_) (fun _ => ?_)
  · skip
    rfl
  · skip
    refine eb (eX2_fitsAll (h1.far d1) l2 l3 l4) (fun x20 => ?_)
    refine ei (fun _ => ?_) (fun _ => ?_)
    · skip
      refine en (fun v47 => ?_)
      exact hk8 l2 l3 v47 S
    · skip
      refine sb (gN_rd (rd_wr hz) rfl (Or.inl rfl)) ?_
      refine sb (gI_rd (rd_wr hz) rfl) ?_
      refine em (f := (fun S => wr 2 a ρ S z)) (stI_rd rkOk2 hz (k := 0) rfl rfl (by decide) 0 rfl (by decide) _ _) (fun S36 => ?_)
      refine sb (gI_rd (rd_wr hz) rfl) ?_
      refine ep (f := (fun S => wr 2 a ρ S z)) (pF_int hz rfl _) (fun S44 => ?_)
      refine en (fun v47 => ?_)
      exact hk8 l2 l3 v47 S44
def gfX2_gather_8 (V1 : SV) (m1 : Nat) : Nat → Int32 → Int32 → Int32 → SV → Option SV
  | 0, _, _, _, _ => none
  | n + 1, l2, l3, l4, S => gbX2_gather_8 (gfX2_gather_8 V1 m1 n) V1 m1 l2 l3 l4 S
theorem efX2_gather_8 {z : AH} {a : Nat} {ρ : RV} (hz : a + szV 2 ≤ z.length) {a1 : Nat} {ρ1 : RV} {V1 : SV} (h1 : RD 4 a1 ρ1 V1 z) (d1 : a1 + szV 4 ≤ a ∨ a + szV 2 ≤ a1) : ∀ (n : Nat) (l2 : Int32) (l3 : Int32) (l4 : Int32) (S : SV), fX2_gather_8 n a a1 l2 l3 l4 (wr 2 a ρ S z) = (gfX2_gather_8 V1 ρ1.2.2 n l2 l3 l4 S).map (fun S => wr 2 a ρ S z) := by
  intro n
  induction n with
  | zero => intros; rfl
  | succ n ih => intro l2 l3 l4 S; exact ebX2_gather_8 hz h1 d1 (fun l2 l3 l4 S => ih l2 l3 l4 S) l2 l3 l4 S
def gX2_gather (V1 : SV) (m1 : Nat) (l2 : Int32) (l3 : Int32) (S : SV) : Option SV :=
  nm (wI S 1 (0 : Int32)) fun S2 =>
  gfX2_gather_8 V1 m1 FU l2 l3 (0 : Int32) S2
set_option maxRecDepth 100000 in
theorem eX2_gather {z : AH} {a : Nat} {ρ : RV} (hz : a + szV 2 ≤ z.length) {a1 : Nat} {ρ1 : RV} {V1 : SV} (h1 : RD 4 a1 ρ1 V1 z) (d1 : a1 + szV 4 ≤ a ∨ a + szV 2 ≤ a1) (l2 : Int32) (l3 : Int32) (S : SV) : fX2_gather a a1 l2 l3 (wr 2 a ρ S z) = (gX2_gather V1 ρ1.2.2 l2 l3 S).map (fun S => wr 2 a ρ S z) := by
  unfold fX2_gather gX2_gather
  refine eo (isO_rd (rd_wr hz)) ?_
  refine ep (f := (fun S => wr 2 a ρ S z)) (pF_int hz rfl _) (fun S2 => ?_)
  exact efX2_gather_8 hz h1 d1 FU l2 l3 (0 : Int32) S2
def gbX2_nextView_28 (k8 : Int32 → Int32 → Int32 → Int32 → Option (Int32)) (k28 : Int32 → Int32 → Int32 → Int32 → Int32 → Int32 → Option (Int32)) (l1 : Int32) (l2 : Int32) (l3 : Int32) (l4 : Int32) (l5 : Int32) (l6 : Int32) (S : SV) : Option (Int32) :=
  if (S.1 1) ≤ l6 then (
    nm (imax l5 ((S.1 1) - l5)) fun v89 =>
    if l3 ≤ v89 then (
      nm (l4 + (1 : Int32)) fun v103 =>
      k8 l1 l2 l3 v103
    ) else (
      nm (l4 + (1 : Int32)) fun v103 =>
      k8 l1 l4 v89 v103
    )
  ) else (
    (rA 100 (S.2.1 0) l6).bind fun x56 =>
    if (fX2_crosses (l4 / (10 : Int32)) (irem l4 (10 : Int32)) l1 x56) = (0 : Int32) then (
      nm (l5 + (0 : Int32)) fun v69 =>
      nm (l6 + (1 : Int32)) fun v71 =>
      k28 l1 l2 l3 l4 v69 v71
    ) else (
      nm (l5 + (1 : Int32)) fun v69 =>
      nm (l6 + (1 : Int32)) fun v71 =>
      k28 l1 l2 l3 l4 v69 v71
    )
  )
set_option maxRecDepth 100000 in
theorem ebX2_nextView_28 {z : AH} {a : Nat} {ρ : RV} {S : SV} (hR : RD 2 a ρ S z) {k8 : Nat → Int32 → Int32 → Int32 → Int32 → Option (Int32)} {k8' : Int32 → Int32 → Int32 → Int32 → Option (Int32)} {k28 : Nat → Int32 → Int32 → Int32 → Int32 → Int32 → Int32 → Option (Int32)} {k28' : Int32 → Int32 → Int32 → Int32 → Int32 → Int32 → Option (Int32)} (hk8 : ∀ (l1 : Int32) (l2 : Int32) (l3 : Int32) (l4 : Int32), k8 a l1 l2 l3 l4 = k8' l1 l2 l3 l4) (hk28 : ∀ (l1 : Int32) (l2 : Int32) (l3 : Int32) (l4 : Int32) (l5 : Int32) (l6 : Int32), k28 a l1 l2 l3 l4 l5 l6 = k28' l1 l2 l3 l4 l5 l6) (l1 : Int32) (l2 : Int32) (l3 : Int32) (l4 : Int32) (l5 : Int32) (l6 : Int32) : bX2_nextView_28 k8 k28 a l1 l2 l3 l4 l5 l6 z = gbX2_nextView_28 k8' k28' l1 l2 l3 l4 l5 l6 S := by
  unfold bX2_nextView_28 gbX2_nextView_28
  refine sb (gI_rd hR rfl) ?_
  refine ei0 (fun _ => ?_) (fun _ => ?_)
  · skip
    refine sb (gI_rd hR rfl) ?_
    refine en0 (fun v89 => ?_)
    refine ei0 (fun _ => ?_) (fun _ => ?_)
    · skip
      refine en0 (fun v103 => ?_)
      exact hk8 l1 l2 l3 v103
    · skip
      refine en0 (fun v103 => ?_)
      exact hk8 l1 l4 v89 v103
  · skip
    refine sb (gN_rd hR rfl (Or.inl rfl)) ?_
    refine eb0 (ixI_rd hR (k := 0) rfl rfl (by decide) 0 rfl (by decide) _) (fun x56 => ?_)
    refine ei0 (fun _ => ?_) (fun _ => ?_)
    · skip
      refine en0 (fun v69 => ?_)
      refine en0 (fun v71 => ?_)
      exact hk28 l1 l2 l3 l4 v69 v71
    · skip
      refine en0 (fun v69 => ?_)
      refine en0 (fun v71 => ?_)
      exact hk28 l1 l2 l3 l4 v69 v71
def gfX2_nextView_28 (k8 : Int32 → Int32 → Int32 → Int32 → Option (Int32)) (S : SV) : Nat → Int32 → Int32 → Int32 → Int32 → Int32 → Int32 → Option (Int32)
  | 0, _, _, _, _, _, _ => none
  | n + 1, l1, l2, l3, l4, l5, l6 => gbX2_nextView_28 k8 (gfX2_nextView_28 k8 S n) l1 l2 l3 l4 l5 l6 S
theorem efX2_nextView_28 {z : AH} {a : Nat} {ρ : RV} {S : SV} (hR : RD 2 a ρ S z) {k8 : Nat → Int32 → Int32 → Int32 → Int32 → Option (Int32)} {k8' : Int32 → Int32 → Int32 → Int32 → Option (Int32)} (hk8 : ∀ (l1 : Int32) (l2 : Int32) (l3 : Int32) (l4 : Int32), k8 a l1 l2 l3 l4 = k8' l1 l2 l3 l4) : ∀ (n : Nat) (l1 : Int32) (l2 : Int32) (l3 : Int32) (l4 : Int32) (l5 : Int32) (l6 : Int32), fX2_nextView_28 k8 z n a l1 l2 l3 l4 l5 l6 = gfX2_nextView_28 k8' S n l1 l2 l3 l4 l5 l6 := by
  intro n
  induction n with
  | zero => intros; rfl
  | succ n ih => intro l1 l2 l3 l4 l5 l6; exact ebX2_nextView_28 hR hk8 (fun l1 l2 l3 l4 l5 l6 => ih l1 l2 l3 l4 l5 l6) l1 l2 l3 l4 l5 l6
def gbX2_nextView_8 (k8 : Int32 → Int32 → Int32 → Int32 → Option (Int32)) (l1 : Int32) (l2 : Int32) (l3 : Int32) (l4 : Int32) (S : SV) : Option (Int32) :=
  if (30 : Int32) ≤ l4 then (
    some l2
  ) else (
    if (S.1 1) ≤ (0 : Int32) then (
      some l2
    ) else (
      gfX2_nextView_28 k8 S FU l1 l2 l3 l4 (0 : Int32) (0 : Int32)
    )
  )
set_option maxRecDepth 100000 in
theorem ebX2_nextView_8 {z : AH} {a : Nat} {ρ : RV} {S : SV} (hR : RD 2 a ρ S z) {k8 : Nat → Int32 → Int32 → Int32 → Int32 → Option (Int32)} {k8' : Int32 → Int32 → Int32 → Int32 → Option (Int32)} (hk8 : ∀ (l1 : Int32) (l2 : Int32) (l3 : Int32) (l4 : Int32), k8 a l1 l2 l3 l4 = k8' l1 l2 l3 l4) (l1 : Int32) (l2 : Int32) (l3 : Int32) (l4 : Int32) : bX2_nextView_8 k8 a l1 l2 l3 l4 z = gbX2_nextView_8 k8' l1 l2 l3 l4 S := by
  unfold bX2_nextView_8 gbX2_nextView_8
  refine ei0 (fun _ => ?_) (fun _ => ?_)
  · skip
    rfl
  · skip
    refine sb (gI_rd hR rfl) ?_
    refine ei0 (fun _ => ?_) (fun _ => ?_)
    · skip
      rfl
    · skip
      exact efX2_nextView_28 hR hk8 FU l1 l2 l3 l4 (0 : Int32) (0 : Int32)
def gfX2_nextView_8 (S : SV) : Nat → Int32 → Int32 → Int32 → Int32 → Option (Int32)
  | 0, _, _, _, _ => none
  | n + 1, l1, l2, l3, l4 => gbX2_nextView_8 (gfX2_nextView_8 S n) l1 l2 l3 l4 S
theorem efX2_nextView_8 {z : AH} {a : Nat} {ρ : RV} {S : SV} (hR : RD 2 a ρ S z) : ∀ (n : Nat) (l1 : Int32) (l2 : Int32) (l3 : Int32) (l4 : Int32), fX2_nextView_8 z n a l1 l2 l3 l4 = gfX2_nextView_8 S n l1 l2 l3 l4 := by
  intro n
  induction n with
  | zero => intros; rfl
  | succ n ih => intro l1 l2 l3 l4; exact ebX2_nextView_8 hR (fun l1 l2 l3 l4 => ih l1 l2 l3 l4) l1 l2 l3 l4
def gX2_nextView (l1 : Int32) (S : SV) : Option (Int32) :=
  gfX2_nextView_8 S FU l1 (-1 : Int32) (101 : Int32) (0 : Int32)
set_option maxRecDepth 100000 in
theorem eX2_nextView {z : AH} {a : Nat} {ρ : RV} {S : SV} (hR : RD 2 a ρ S z) (l1 : Int32) : fX2_nextView a l1 z = gX2_nextView l1 S := by
  unfold fX2_nextView gX2_nextView
  refine eo (isO_rd hR) ?_
  exact efX2_nextView_8 hR FU l1 (-1 : Int32) (101 : Int32) (0 : Int32)
def gbX3_lookersAt_4 (k4 : Int32 → Int32 → Int32 → Option (Int32)) (V0 : SV) (m0 : Nat) (l1 : Int32) (l2 : Int32) (l3 : Int32) : Option (Int32) :=
  if (V0.1 3) ≤ l3 then (
    some l2
  ) else (
    (rA m0 (V0.2.1 0) l3).bind fun x17 =>
    if x17 = (0 : Int32) then (
      (rA m0 (V0.2.1 2) l3).bind fun x26 =>
      if x26 = l1 then (
        (rA m0 (V0.2.1 1) l3).bind fun x38 =>
        nm (l2 ||| (shl (1 : Int32) x38)) fun v41 =>
        nm (l3 + (1 : Int32)) fun v42 =>
        k4 l1 v41 v42
      ) else (
        nm (l3 + (1 : Int32)) fun v42 =>
        k4 l1 l2 v42
      )
    ) else (
      nm (l3 + (1 : Int32)) fun v42 =>
      k4 l1 l2 v42
    )
  )
set_option maxRecDepth 100000 in
theorem ebX3_lookersAt_4 {z : AH} {a0 : Nat} {ρ0 : RV} {V0 : SV} (h0 : RD 4 a0 ρ0 V0 z) {k4 : Nat → Int32 → Int32 → Int32 → Option (Int32)} {k4' : Int32 → Int32 → Int32 → Option (Int32)} (hk4 : ∀ (l1 : Int32) (l2 : Int32) (l3 : Int32), k4 a0 l1 l2 l3 = k4' l1 l2 l3) (l1 : Int32) (l2 : Int32) (l3 : Int32) : bX3_lookersAt_4 k4 a0 l1 l2 l3 z = gbX3_lookersAt_4 k4' V0 ρ0.2.2 l1 l2 l3 := by
  unfold bX3_lookersAt_4 gbX3_lookersAt_4
  refine sb (gI_rd h0 rfl) ?_
  refine ei0 (fun _ => ?_) (fun _ => ?_)
  · skip
    rfl
  · skip
    refine sb (gN_rd h0 rfl (Or.inl rfl)) ?_
    refine eb0 (ixI_rd h0 (k := 0) rfl rfl (by decide) 0 rfl (by decide) _) (fun x17 => ?_)
    refine ei0 (fun _ => ?_) (fun _ => ?_)
    · skip
      refine sb (gN_rd h0 rfl (Or.inl rfl)) ?_
      refine eb0 (ixI_rd h0 (k := 2) rfl rfl (by decide) 0 rfl (by decide) _) (fun x26 => ?_)
      refine ei0 (fun _ => ?_) (fun _ => ?_)
      · skip
        refine sb (gN_rd h0 rfl (Or.inl rfl)) ?_
        refine eb0 (ixI_rd h0 (k := 1) rfl rfl (by decide) 0 rfl (by decide) _) (fun x38 => ?_)
        refine en0 (fun v41 => ?_)
        refine en0 (fun v42 => ?_)
        exact hk4 l1 v41 v42
      · skip
        refine en0 (fun v42 => ?_)
        exact hk4 l1 l2 v42
    · skip
      refine en0 (fun v42 => ?_)
      exact hk4 l1 l2 v42
def gfX3_lookersAt_4 (V0 : SV) (m0 : Nat) : Nat → Int32 → Int32 → Int32 → Option (Int32)
  | 0, _, _, _ => none
  | n + 1, l1, l2, l3 => gbX3_lookersAt_4 (gfX3_lookersAt_4 V0 m0 n) V0 m0 l1 l2 l3
theorem efX3_lookersAt_4 {z : AH} {a0 : Nat} {ρ0 : RV} {V0 : SV} (h0 : RD 4 a0 ρ0 V0 z) : ∀ (n : Nat) (l1 : Int32) (l2 : Int32) (l3 : Int32), fX3_lookersAt_4 z n a0 l1 l2 l3 = gfX3_lookersAt_4 V0 ρ0.2.2 n l1 l2 l3 := by
  intro n
  induction n with
  | zero => intros; rfl
  | succ n ih => intro l1 l2 l3; exact ebX3_lookersAt_4 h0 (fun l1 l2 l3 => ih l1 l2 l3) l1 l2 l3
def gX3_lookersAt (V0 : SV) (m0 : Nat) (l1 : Int32) : Option (Int32) :=
  gfX3_lookersAt_4 V0 m0 FU l1 (0 : Int32) (0 : Int32)
set_option maxRecDepth 100000 in
theorem eX3_lookersAt {z : AH} {a0 : Nat} {ρ0 : RV} {V0 : SV} (h0 : RD 4 a0 ρ0 V0 z) (l1 : Int32) : fX3_lookersAt a0 l1 z = gX3_lookersAt V0 ρ0.2.2 l1 := by
  unfold fX3_lookersAt gX3_lookersAt
  exact efX3_lookersAt_4 h0 FU l1 (0 : Int32) (0 : Int32)
def gbX3_fitting_5 (k5 : Int32 → Int32 → Option (Int32)) (V0 : SV) (m0 : Nat) (l1 : Int32) (l2 : Int32) : Option (Int32) :=
  if (V0.1 3) ≤ l2 then (
    some l1
  ) else (
    (rA m0 (V0.2.1 0) l2).bind fun x18 =>
    if x18 = (0 : Int32) then (
      nm (l2 + (1 : Int32)) fun v56 =>
      k5 l1 v56
    ) else (
      (rA m0 (V0.2.1 1) l2).bind fun x28 =>
      (gX3_lookersAt V0 m0 x28).bind fun x29 =>
      (fX3_shimmering x29).bind fun x32 =>
      (rA m0 (V0.2.1 0) l2).bind fun x42 =>
      if x42 = (1 : Int32) then (
        nm (l1 &&& x32) fun v55 =>
        nm (l2 + (1 : Int32)) fun v56 =>
        k5 v55 v56
      ) else (
        nm (l1 &&& (x32 ^^^ (-1 : Int32))) fun v55 =>
        nm (l2 + (1 : Int32)) fun v56 =>
        k5 v55 v56
      )
    )
  )
set_option maxRecDepth 100000 in
theorem ebX3_fitting_5 {z : AH} {a0 : Nat} {ρ0 : RV} {V0 : SV} (h0 : RD 4 a0 ρ0 V0 z) {k5 : Nat → Int32 → Int32 → Option (Int32)} {k5' : Int32 → Int32 → Option (Int32)} (hk5 : ∀ (l1 : Int32) (l2 : Int32), k5 a0 l1 l2 = k5' l1 l2) (l1 : Int32) (l2 : Int32) : bX3_fitting_5 k5 a0 l1 l2 z = gbX3_fitting_5 k5' V0 ρ0.2.2 l1 l2 := by
  unfold bX3_fitting_5 gbX3_fitting_5
  refine sb (gI_rd h0 rfl) ?_
  refine ei0 (fun _ => ?_) (fun _ => ?_)
  · skip
    rfl
  · skip
    refine sb (gN_rd h0 rfl (Or.inl rfl)) ?_
    refine eb0 (ixI_rd h0 (k := 0) rfl rfl (by decide) 0 rfl (by decide) _) (fun x18 => ?_)
    refine ei0 (fun _ => ?_) (fun _ => ?_)
    · skip
      refine en0 (fun v56 => ?_)
      exact hk5 l1 v56
    · skip
      refine sb (gN_rd h0 rfl (Or.inl rfl)) ?_
      refine eb0 (ixI_rd h0 (k := 1) rfl rfl (by decide) 0 rfl (by decide) _) (fun x28 => ?_)
      refine eb0 (eX3_lookersAt h0 x28) (fun x29 => ?_)
      refine eb0 rfl (fun x32 => ?_)
      refine sb (gN_rd h0 rfl (Or.inl rfl)) ?_
      refine eb0 (ixI_rd h0 (k := 0) rfl rfl (by decide) 0 rfl (by decide) _) (fun x42 => ?_)
      refine ei0 (fun _ => ?_) (fun _ => ?_)
      · skip
        refine en0 (fun v55 => ?_)
        refine en0 (fun v56 => ?_)
        exact hk5 v55 v56
      · skip
        refine en0 (fun v55 => ?_)
        refine en0 (fun v56 => ?_)
        exact hk5 v55 v56
def gfX3_fitting_5 (V0 : SV) (m0 : Nat) : Nat → Int32 → Int32 → Option (Int32)
  | 0, _, _ => none
  | n + 1, l1, l2 => gbX3_fitting_5 (gfX3_fitting_5 V0 m0 n) V0 m0 l1 l2
theorem efX3_fitting_5 {z : AH} {a0 : Nat} {ρ0 : RV} {V0 : SV} (h0 : RD 4 a0 ρ0 V0 z) : ∀ (n : Nat) (l1 : Int32) (l2 : Int32), fX3_fitting_5 z n a0 l1 l2 = gfX3_fitting_5 V0 ρ0.2.2 n l1 l2 := by
  intro n
  induction n with
  | zero => intros; rfl
  | succ n ih => intro l1 l2; exact ebX3_fitting_5 h0 (fun l1 l2 => ih l1 l2) l1 l2
def gX3_fitting (V0 : SV) (m0 : Nat) : Option (Int32) :=
  gfX3_fitting_5 V0 m0 FU (65535 : Int32) (0 : Int32)
set_option maxRecDepth 100000 in
theorem eX3_fitting {z : AH} {a0 : Nat} {ρ0 : RV} {V0 : SV} (h0 : RD 4 a0 ρ0 V0 z) : fX3_fitting a0 z = gX3_fitting V0 ρ0.2.2 := by
  unfold fX3_fitting gX3_fitting
  exact efX3_fitting_5 h0 FU (65535 : Int32) (0 : Int32)
def gbX3_telling_13 (k13 : Int32 → Int32 → Int32 → Int32 → Option (Int32)) (V0 : SV) (m0 : Nat) (l1 : Int32) (l2 : Int32) (l3 : Int32) (l4 : Int32) : Option (Int32) :=
  if (8 : Int32) ≤ l4 then (
    some l2
  ) else (
    if l1 = (0 : Int32) then (
      some l2
    ) else (
      (gX3_lookersAt V0 m0 l4).bind fun x27 =>
      (fX3_shimmering x27).bind fun x35 =>
      nm (fJ6_bitCount_0f7a4 (l1 &&& x35)) fun v42 =>
      nm (imax v42 ((fJ6_bitCount_0f7a4 l1) - v42)) fun v56 =>
      if x27 = (0 : Int32) then (
        nm (l4 + (1 : Int32)) fun v75 =>
        k13 l1 l2 l3 v75
      ) else (
        if l3 ≤ v56 then (
          nm (l4 + (1 : Int32)) fun v75 =>
          k13 l1 l2 l3 v75
        ) else (
          nm (l4 + (1 : Int32)) fun v75 =>
          k13 l1 l4 v56 v75
        )
      )
    )
  )
set_option maxRecDepth 100000 in
theorem ebX3_telling_13 {z : AH} {a0 : Nat} {ρ0 : RV} {V0 : SV} (h0 : RD 4 a0 ρ0 V0 z) {k13 : Nat → Int32 → Int32 → Int32 → Int32 → Option (Int32)} {k13' : Int32 → Int32 → Int32 → Int32 → Option (Int32)} (hk13 : ∀ (l1 : Int32) (l2 : Int32) (l3 : Int32) (l4 : Int32), k13 a0 l1 l2 l3 l4 = k13' l1 l2 l3 l4) (l1 : Int32) (l2 : Int32) (l3 : Int32) (l4 : Int32) : bX3_telling_13 k13 a0 l1 l2 l3 l4 z = gbX3_telling_13 k13' V0 ρ0.2.2 l1 l2 l3 l4 := by
  unfold bX3_telling_13 gbX3_telling_13
  refine ei0 (fun _ => ?_) (fun _ => ?_)
  · skip
    rfl
  · skip
    refine ei0 (fun _ => ?_) (fun _ => ?_)
    · skip
      rfl
    · skip
      refine eb0 (eX3_lookersAt h0 l4) (fun x27 => ?_)
      refine eb0 rfl (fun x35 => ?_)
      refine en0 (fun v42 => ?_)
      refine en0 (fun v56 => ?_)
      refine ei0 (fun _ => ?_) (fun _ => ?_)
      · skip
        refine en0 (fun v75 => ?_)
        exact hk13 l1 l2 l3 v75
      · skip
        refine ei0 (fun _ => ?_) (fun _ => ?_)
        · skip
          refine en0 (fun v75 => ?_)
          exact hk13 l1 l2 l3 v75
        · skip
          refine en0 (fun v75 => ?_)
          exact hk13 l1 l4 v56 v75
def gfX3_telling_13 (V0 : SV) (m0 : Nat) : Nat → Int32 → Int32 → Int32 → Int32 → Option (Int32)
  | 0, _, _, _, _ => none
  | n + 1, l1, l2, l3, l4 => gbX3_telling_13 (gfX3_telling_13 V0 m0 n) V0 m0 l1 l2 l3 l4
theorem efX3_telling_13 {z : AH} {a0 : Nat} {ρ0 : RV} {V0 : SV} (h0 : RD 4 a0 ρ0 V0 z) : ∀ (n : Nat) (l1 : Int32) (l2 : Int32) (l3 : Int32) (l4 : Int32), fX3_telling_13 z n a0 l1 l2 l3 l4 = gfX3_telling_13 V0 ρ0.2.2 n l1 l2 l3 l4 := by
  intro n
  induction n with
  | zero => intros; rfl
  | succ n ih => intro l1 l2 l3 l4; exact ebX3_telling_13 h0 (fun l1 l2 l3 l4 => ih l1 l2 l3 l4) l1 l2 l3 l4
def gX3_telling (V0 : SV) (m0 : Nat) : Option (Int32) :=
  (gX3_fitting V0 m0).bind fun x1 =>
  gfX3_telling_13 V0 m0 FU x1 (-1 : Int32) (17 : Int32) (0 : Int32)
set_option maxRecDepth 100000 in
theorem eX3_telling {z : AH} {a0 : Nat} {ρ0 : RV} {V0 : SV} (h0 : RD 4 a0 ρ0 V0 z) : fX3_telling a0 z = gX3_telling V0 ρ0.2.2 := by
  unfold fX3_telling gX3_telling
  refine eb0 (eX3_fitting h0) (fun x1 => ?_)
  exact efX3_telling_13 h0 FU x1 (-1 : Int32) (17 : Int32) (0 : Int32)
def gX4_find (l1 : Int32) (l2 : Int32) (S : SV) : Option SV :=
  nm (wI S 13 l1) fun S2 =>
  nm (wI S2 14 l2) fun S7 =>
  some S7
set_option maxRecDepth 100000 in
theorem eX4_find {z : AH} {a : Nat} {ρ : RV} (hz : a + szV 3 ≤ z.length) (l1 : Int32) (l2 : Int32) (S : SV) : fX4_find a l1 l2 (wr 3 a ρ S z) = (gX4_find l1 l2 S).map (fun S => wr 3 a ρ S z) := by
  unfold fX4_find gX4_find
  refine eo (isO_rd (rd_wr hz)) ?_
  refine ep (f := (fun S => wr 3 a ρ S z)) (pF_int hz rfl _) (fun S2 => ?_)
  refine ep (f := (fun S => wr 3 a ρ S z)) (pF_int hz rfl _) (fun S7 => ?_)
  rfl
def gbX4_canBe_84 (l4 : Int32) (l5 : Int32) (l6 : Int32) (s0 : Int32) (S : SV) : Option (Int32) :=
  if l5 < l6 then (
    some (0 : Int32)
  ) else (
    if l4 < l5 then (
      some (0 : Int32)
    ) else (
      if s0 = (0 : Int32) then (
        some (1 : Int32)
      ) else (
        some (0 : Int32)
      )
    )
  )
set_option maxRecDepth 100000 in
theorem ebX4_canBe_84 {z : AH} {a : Nat} {ρ : RV} {S : SV} (hR : RD 3 a ρ S z) (l4 : Int32) (l5 : Int32) (l6 : Int32) (s0 : Int32) : bX4_canBe_84 l4 l5 l6 s0 z = gbX4_canBe_84 l4 l5 l6 s0 S := by
  unfold bX4_canBe_84 gbX4_canBe_84
  refine ei0 (fun _ => ?_) (fun _ => ?_)
  · skip
    rfl
  · skip
    refine ei0 (fun _ => ?_) (fun _ => ?_)
    · skip
      rfl
    · skip
      refine ei0 (fun _ => ?_) (fun _ => ?_)
      · skip
        rfl
      · skip
        rfl
def gbX4_canBe_83 (l4 : Int32) (l5 : Int32) (l6 : Int32) (S : SV) : Option (Int32) :=
  gbX4_canBe_84 l4 l5 l6 (0 : Int32) S
set_option maxRecDepth 100000 in
theorem ebX4_canBe_83 {z : AH} {a : Nat} {ρ : RV} {S : SV} (hR : RD 3 a ρ S z) (l4 : Int32) (l5 : Int32) (l6 : Int32) : bX4_canBe_83 l4 l5 l6 z = gbX4_canBe_83 l4 l5 l6 S := by
  unfold bX4_canBe_83 gbX4_canBe_83
  exact ebX4_canBe_84 hR l4 l5 l6 (0 : Int32)
def gbX4_canBe_61 (l1 : Int32) (l2 : Int32) (l4 : Int32) (l5 : Int32) (l6 : Int32) (S : SV) : Option (Int32) :=
  if l2 = (1 : Int32) then (
    (rA 360 (S.2.1 2) ((3 : Int32) * l1)).bind fun x75 =>
    if l5 = x75 then (
      gbX4_canBe_84 l4 l5 l6 (1 : Int32) S
    ) else (
      gbX4_canBe_83 l4 l5 l6 S
    )
  ) else (
    gbX4_canBe_83 l4 l5 l6 S
  )
set_option maxRecDepth 100000 in
theorem ebX4_canBe_61 {z : AH} {a : Nat} {ρ : RV} {S : SV} (hR : RD 3 a ρ S z) (l1 : Int32) (l2 : Int32) (l4 : Int32) (l5 : Int32) (l6 : Int32) : bX4_canBe_61 a l1 l2 l4 l5 l6 z = gbX4_canBe_61 l1 l2 l4 l5 l6 S := by
  unfold bX4_canBe_61 gbX4_canBe_61
  refine ei0 (fun _ => ?_) (fun _ => ?_)
  · skip
    refine sb (gN_rd hR rfl (Or.inl rfl)) ?_
    refine eb0 (ixI_rd hR (k := 2) rfl rfl (by decide) 0 rfl (by decide) _) (fun x75 => ?_)
    refine ei0 (fun _ => ?_) (fun _ => ?_)
    · skip
      exact ebX4_canBe_84 hR l4 l5 l6 (1 : Int32)
    · skip
      exact ebX4_canBe_83 hR l4 l5 l6
  · skip
    exact ebX4_canBe_83 hR l4 l5 l6
def gbX4_canBe_49 (l1 : Int32) (l2 : Int32) (l3 : Int32) (l4 : Int32) (l5 : Int32) (s0 : Int32) (S : SV) : Option (Int32) :=
  if l3 = (1 : Int32) then (
    gbX4_canBe_61 l1 l2 l4 l5 s0 S
  ) else (
    if l3 = (2 : Int32) then (
      gbX4_canBe_61 l1 l2 l4 l5 s0 S
    ) else (
      gbX4_canBe_83 l4 l5 s0 S
    )
  )
set_option maxRecDepth 100000 in
theorem ebX4_canBe_49 {z : AH} {a : Nat} {ρ : RV} {S : SV} (hR : RD 3 a ρ S z) (l1 : Int32) (l2 : Int32) (l3 : Int32) (l4 : Int32) (l5 : Int32) (s0 : Int32) : bX4_canBe_49 a l1 l2 l3 l4 l5 s0 z = gbX4_canBe_49 l1 l2 l3 l4 l5 s0 S := by
  unfold bX4_canBe_49 gbX4_canBe_49
  refine ei0 (fun _ => ?_) (fun _ => ?_)
  · skip
    exact ebX4_canBe_61 hR l1 l2 l4 l5 s0
  · skip
    refine ei0 (fun _ => ?_) (fun _ => ?_)
    · skip
      exact ebX4_canBe_61 hR l1 l2 l4 l5 s0
    · skip
      exact ebX4_canBe_83 hR l4 l5 s0
def gbX4_canBe_44 (l1 : Int32) (l2 : Int32) (l3 : Int32) (l4 : Int32) (l5 : Int32) (S : SV) : Option (Int32) :=
  gbX4_canBe_49 l1 l2 l3 l4 l5 (1 : Int32) S
set_option maxRecDepth 100000 in
theorem ebX4_canBe_44 {z : AH} {a : Nat} {ρ : RV} {S : SV} (hR : RD 3 a ρ S z) (l1 : Int32) (l2 : Int32) (l3 : Int32) (l4 : Int32) (l5 : Int32) : bX4_canBe_44 a l1 l2 l3 l4 l5 z = gbX4_canBe_44 l1 l2 l3 l4 l5 S := by
  unfold bX4_canBe_44 gbX4_canBe_44
  exact ebX4_canBe_49 hR l1 l2 l3 l4 l5 (1 : Int32)
def gX4_canBe (l1 : Int32) (l2 : Int32) (S : SV) : Option (Int32) :=
  (rA 120 (S.2.1 0) l1).bind fun x5 =>
  (fX4_top x5 l2).bind fun x9 =>
  if x9 = (-1 : Int32) then (
    some (1 : Int32)
  ) else (
    (rA 360 (S.2.1 2) (((3 : Int32) * l1) + l2)).bind fun x31 =>
    if x5 = (4 : Int32) then (
      gbX4_canBe_44 l1 l2 x5 x9 x31 S
    ) else (
      if x5 = (5 : Int32) then (
        gbX4_canBe_44 l1 l2 x5 x9 x31 S
      ) else (
        gbX4_canBe_49 l1 l2 x5 x9 x31 (0 : Int32) S
      )
    )
  )
set_option maxRecDepth 100000 in
theorem eX4_canBe {z : AH} {a : Nat} {ρ : RV} {S : SV} (hR : RD 3 a ρ S z) (l1 : Int32) (l2 : Int32) : fX4_canBe a l1 l2 z = gX4_canBe l1 l2 S := by
  unfold fX4_canBe gX4_canBe
  refine eo (isO_rd hR) ?_
  refine sb (gN_rd hR rfl (Or.inl rfl)) ?_
  refine eb0 (ixI_rd hR (k := 0) rfl rfl (by decide) 0 rfl (by decide) _) (fun x5 => ?_)
  refine eb0 rfl (fun x9 => ?_)
  refine ei0 (fun _ => ?_) (fun _ => ?_)
  · skip
    rfl
  · skip
    refine sb (gN_rd hR rfl (Or.inl rfl)) ?_
    refine eb0 (ixI_rd hR (k := 2) rfl rfl (by decide) 0 rfl (by decide) _) (fun x31 => ?_)
    refine ei0 (fun _ => ?_) (fun _ => ?_)
    · skip
      exact ebX4_canBe_44 hR l1 l2 x5 x9 x31
    · skip
      refine ei0 (fun _ => ?_) (fun _ => ?_)
      · skip
        exact ebX4_canBe_44 hR l1 l2 x5 x9 x31
      · skip
        exact ebX4_canBe_49 hR l1 l2 x5 x9 x31 (0 : Int32)
def gX5_add (m : Nat) (l1 : Int32) (l2 : Int32) (l3 : Int32) (S : SV) : Option SV :=
  if (S.1 3) < (0 : Int32) then (
    some S
  ) else (
    if (Int32.ofNat m) ≤ (S.1 3) then (
      some S
    ) else (
      (wA 0 m S (S.1 3) l1).bind fun S28 =>
      (wA 1 m S28 (S28.1 3) l2).bind fun S38 =>
      (wA 2 m S38 (S38.1 3) l3).bind fun S48 =>
      nm (wI S48 3 ((S48.1 3) + (1 : Int32))) fun S56 =>
      some S56
    )
  )
set_option maxRecDepth 100000 in
theorem eX5_add {z : AH} {a : Nat} {ρ : RV} (hz : a + szV 4 ≤ z.length) (l1 : Int32) (l2 : Int32) (l3 : Int32) (S : SV) : fX5_add a l1 l2 l3 (wr 4 a ρ S z) = (gX5_add ρ.2.2 l1 l2 l3 S).map (fun S => wr 4 a ρ S z) := by
  unfold fX5_add gX5_add
  refine eo (isO_rd (rd_wr hz)) ?_
  refine sb (gI_rd (rd_wr hz) rfl) ?_
  refine ei (fun _ => ?_) (fun _ => ?_)
  · skip
    rfl
  · skip
    refine sb (gI_rd (rd_wr hz) rfl) ?_
    refine sb (gN_rd (rd_wr hz) rfl (Or.inl rfl)) ?_
    refine sb (lnI_rd (rd_wr hz) (k := 0) rfl rfl (by decide) 0 rfl (by decide)) ?_
    refine ei (fun _ => ?_) (fun _ => ?_)
    · skip
      rfl
    · skip
      refine sb (gN_rd (rd_wr hz) rfl (Or.inl rfl)) ?_
      refine sb (gI_rd (rd_wr hz) rfl) ?_
      refine em (f := (fun S => wr 4 a ρ S z)) (stI_rd rkOk4 hz (k := 0) rfl rfl (by decide) 0 rfl (by decide) _ _) (fun S28 => ?_)
      refine sb (gN_rd (rd_wr hz) rfl (Or.inl rfl)) ?_
      refine sb (gI_rd (rd_wr hz) rfl) ?_
      refine em (f := (fun S => wr 4 a ρ S z)) (stI_rd rkOk4 hz (k := 1) rfl rfl (by decide) 0 rfl (by decide) _ _) (fun S38 => ?_)
      refine sb (gN_rd (rd_wr hz) rfl (Or.inl rfl)) ?_
      refine sb (gI_rd (rd_wr hz) rfl) ?_
      refine em (f := (fun S => wr 4 a ρ S z)) (stI_rd rkOk4 hz (k := 2) rfl rfl (by decide) 0 rfl (by decide) _ _) (fun S48 => ?_)
      refine sb (gI_rd (rd_wr hz) rfl) ?_
      refine ep (f := (fun S => wr 4 a ρ S z)) (pF_int hz rfl _) (fun S56 => ?_)
      rfl
def gX5_answer (m : Nat) (l1 : Int32) (l2 : Int32) (S : SV) : Option (Int32) :=
  if l2 = (0 : Int32) then (
    (gX9_pick m (S.2.1 0) (S.1 3) l1).bind fun x37 =>
    some x37
  ) else (
    if l2 = (1 : Int32) then (
      (gX9_pick m (S.2.1 1) (S.1 3) l1).bind fun x50 =>
      some x50
    ) else (
      if l2 = (2 : Int32) then (
        (gX9_pick m (S.2.1 2) (S.1 3) l1).bind fun x63 =>
        some x63
      ) else (
        some (-2 : Int32)
      )
    )
  )
set_option maxRecDepth 100000 in
theorem eX5_answer {z : AH} {a : Nat} {ρ : RV} {S : SV} (hR : RD 4 a ρ S z) (l1 : Int32) (l2 : Int32) : fX5_answer a l1 l2 z = gX5_answer ρ.2.2 l1 l2 S := by
  unfold fX5_answer gX5_answer
  refine eo (isO_rd hR) ?_
  refine ei0 (fun _ => ?_) (fun _ => ?_)
  · skip
    refine sb (gN_rd hR rfl (Or.inl rfl)) ?_
    refine sb (gI_rd hR rfl) ?_
    refine eb0 (eX9_pick (rw_rd hR (k := 0) rfl rfl (by decide) 0 rfl (by decide)) (S.1 3) l1) (fun x37 => ?_)
    rfl
  · skip
    refine ei0 (fun _ => ?_) (fun _ => ?_)
    · skip
      refine sb (gN_rd hR rfl (Or.inl rfl)) ?_
      refine sb (gI_rd hR rfl) ?_
      refine eb0 (eX9_pick (rw_rd hR (k := 1) rfl rfl (by decide) 0 rfl (by decide)) (S.1 3) l1) (fun x50 => ?_)
      rfl
    · skip
      refine ei0 (fun _ => ?_) (fun _ => ?_)
      · skip
        refine sb (gN_rd hR rfl (Or.inl rfl)) ?_
        refine sb (gI_rd hR rfl) ?_
        refine eb0 (eX9_pick (rw_rd hR (k := 2) rfl rfl (by decide) 0 rfl (by decide)) (S.1 3) l1) (fun x63 => ?_)
        rfl
      · skip
        rfl
def gbX6_load_37 (k37 : Int32 → SV → Option SV) (V1 : SV) (l2 : Int32) (S : SV) : Option SV :=
  if (Int32.ofNat 4) ≤ l2 then (
    nm (wI S 5 (0 : Int32)) fun S61 =>
    nm (wI S61 6 (0 : Int32)) fun S66 =>
    nm (wI S66 7 (0 : Int32)) fun S71 =>
    nm (wI S71 8 (0 : Int32)) fun S76 =>
    nm (wI S76 9 (0 : Int32)) fun S81 =>
    nm (wI S81 10 (0 : Int32)) fun S86 =>
    nm (wI S86 11 (0 : Int32)) fun S91 =>
    nm (wI S91 12 (0 : Int32)) fun S96 =>
    nm (wI S96 13 (-1 : Int32)) fun S101 =>
    some S101
  ) else (
    (wA 3 4 S l2 (0 : Int32)).bind fun S52 =>
    nm (l2 + (1 : Int32)) fun v53 =>
    k37 v53 S52
  )
set_option maxRecDepth 100000 in
theorem ebX6_load_37 {z : AH} {a : Nat} {ρ : RV} (hz : a + szV 5 ≤ z.length) {a1 : Nat} {ρ1 : RV} {V1 : SV} (h1 : RD 0 a1 ρ1 V1 z) (d1 : a1 + szV 0 ≤ a ∨ a + szV 5 ≤ a1) {k37 : Nat → Int32 → AH → Option AH} {k37' : Int32 → SV → Option SV} (hk37 : ∀ (l2 : Int32) (S : SV), k37 a l2 (wr 5 a (va_up ρ.1 0 (some a1), ρ.2) S z) = (k37' l2 S).map (fun S => wr 5 a (va_up ρ.1 0 (some a1), ρ.2) S z)) (l2 : Int32) (S : SV) : bX6_load_37 k37 a l2 (wr 5 a (va_up ρ.1 0 (some a1), ρ.2) S z) = (gbX6_load_37 k37' V1 l2 S).map (fun S => wr 5 a (va_up ρ.1 0 (some a1), ρ.2) S z) := by
  unfold bX6_load_37 gbX6_load_37
  refine sb (gN_rd (rd_wr hz) rfl (Or.inl rfl)) ?_
  refine sb (lnI_rd (rd_wr hz) (k := 3) rfl rfl (by decide) 0 rfl (by decide)) ?_
  refine ei (fun _ => ?_) (fun _ => ?_)
  · skip
    refine ep (f := (fun S => wr 5 a (va_up ρ.1 0 (some a1), ρ.2) S z)) (pF_int hz rfl _) (fun S61 => ?_)
    refine ep (f := (fun S => wr 5 a (va_up ρ.1 0 (some a1), ρ.2) S z)) (pF_int hz rfl _) (fun S66 => ?_)
    refine ep (f := (fun S => wr 5 a (va_up ρ.1 0 (some a1), ρ.2) S z)) (pF_int hz rfl _) (fun S71 => ?_)
    refine ep (f := (fun S => wr 5 a (va_up ρ.1 0 (some a1), ρ.2) S z)) (pF_int hz rfl _) (fun S76 => ?_)
    refine ep (f := (fun S => wr 5 a (va_up ρ.1 0 (some a1), ρ.2) S z)) (pF_int hz rfl _) (fun S81 => ?_)
    refine ep (f := (fun S => wr 5 a (va_up ρ.1 0 (some a1), ρ.2) S z)) (pF_int hz rfl _) (fun S86 => ?_)
    refine ep (f := (fun S => wr 5 a (va_up ρ.1 0 (some a1), ρ.2) S z)) (pF_int hz rfl _) (fun S91 => ?_)
    refine ep (f := (fun S => wr 5 a (va_up ρ.1 0 (some a1), ρ.2) S z)) (pF_int hz rfl _) (fun S96 => ?_)
    refine ep (f := (fun S => wr 5 a (va_up ρ.1 0 (some a1), ρ.2) S z)) (pF_int hz rfl _) (fun S101 => ?_)
    rfl
  · skip
    refine sb (gN_rd (rd_wr hz) rfl (Or.inl rfl)) ?_
    refine em (f := (fun S => wr 5 a (va_up ρ.1 0 (some a1), ρ.2) S z)) (stI_rd rkOk5 hz (k := 3) rfl rfl (by decide) 0 rfl (by decide) _ _) (fun S52 => ?_)
    refine en (fun v53 => ?_)
    exact hk37 v53 S52
def gfX6_load_37 (V1 : SV) : Nat → Int32 → SV → Option SV
  | 0, _, _ => none
  | n + 1, l2, S => gbX6_load_37 (gfX6_load_37 V1 n) V1 l2 S
theorem efX6_load_37 {z : AH} {a : Nat} {ρ : RV} (hz : a + szV 5 ≤ z.length) {a1 : Nat} {ρ1 : RV} {V1 : SV} (h1 : RD 0 a1 ρ1 V1 z) (d1 : a1 + szV 0 ≤ a ∨ a + szV 5 ≤ a1) : ∀ (n : Nat) (l2 : Int32) (S : SV), fX6_load_37 n a l2 (wr 5 a (va_up ρ.1 0 (some a1), ρ.2) S z) = (gfX6_load_37 V1 n l2 S).map (fun S => wr 5 a (va_up ρ.1 0 (some a1), ρ.2) S z) := by
  intro n
  induction n with
  | zero => intros; rfl
  | succ n ih => intro l2 S; exact ebX6_load_37 hz h1 d1 (fun l2 S => ih l2 S) l2 S
def gX6_load (V1 : SV) (S : SV) : Option SV :=
  (cpV 1 8 8 (0 : Int32) (0 : Int32) (V1.2.1 1) (8 : Int32) S).bind fun S17 =>
  (cpV 2 8 8 (0 : Int32) (0 : Int32) (V1.2.1 2) (8 : Int32) S17).bind fun S32 =>
  gfX6_load_37 V1 FU (0 : Int32) S32
set_option maxRecDepth 100000 in
theorem eX6_load {z : AH} {a : Nat} {ρ : RV} (hz : a + szV 5 ≤ z.length) {a1 : Nat} {ρ1 : RV} {V1 : SV} (h1 : RD 0 a1 ρ1 V1 z) (d1 : a1 + szV 0 ≤ a ∨ a + szV 5 ≤ a1) (S : SV) : fX6_load a a1 (wr 5 a ρ S z) = (gX6_load V1 S).map (fun S => wr 5 a (va_up ρ.1 0 (some a1), ρ.2) S z) := by
  unfold fX6_load gX6_load
  refine eo (isO_rd (rd_wr hz)) ?_
  refine sb (pF_ref hz rfl (some a1)) ?_
  refine sb (gN_rd (h1.far d1) rfl (Or.inl rfl)) ?_
  refine sb (gN_rd (rd_wr hz) rfl (Or.inl rfl)) ?_
  refine em (f := (fun S => wr 5 a (va_up ρ.1 0 (some a1), ρ.2) S z)) (cpI_rd rkOk5 hz (rw_rd (h1.far d1) (k := 1) rfl rfl (by decide) 0 rfl (by decide)) (k := 1) rfl rfl (by decide) (0 : Int32) (0 : Int32) (8 : Int32)) (fun S17 => ?_)
  refine sb (gN_rd (h1.far d1) rfl (Or.inl rfl)) ?_
  refine sb (gN_rd (rd_wr hz) rfl (Or.inl rfl)) ?_
  refine em (f := (fun S => wr 5 a (va_up ρ.1 0 (some a1), ρ.2) S z)) (cpI_rd rkOk5 hz (rw_rd (h1.far d1) (k := 2) rfl rfl (by decide) 0 rfl (by decide)) (k := 2) rfl rfl (by decide) (0 : Int32) (0 : Int32) (8 : Int32)) (fun S32 => ?_)
  exact efX6_load_37 hz h1 d1 FU (0 : Int32) S32
def gbX6_bears_73 (k39 : Int32 → Int32 → Int32 → Option (Int32)) (C : SV) (l2 : Int32) (l4 : Int32) (s0 : Int32) (s1 : Int32) (S : SV) : Option (Int32) :=
  nm (s0 + s1) fun v74 =>
  nm (ush l2 (1 : Int32)) fun v78 =>
  nm (l4 + (1 : Int32)) fun v79 =>
  k39 v78 v74 v79
set_option maxRecDepth 100000 in
theorem ebX6_bears_73 {z : AH} {a : Nat} {ρ : RV} {S : SV} (hR : RD 5 a ρ S z) {c : Nat} {ρC : RV} {C : SV} (hC : RD 0 c ρC C z) (hl : ρ.1 0 = some c) {k39 : Nat → Int32 → Int32 → Int32 → Option (Int32)} {k39' : Int32 → Int32 → Int32 → Option (Int32)} (hk39 : ∀ (l2 : Int32) (l3 : Int32) (l4 : Int32), k39 a l2 l3 l4 = k39' l2 l3 l4) (l2 : Int32) (l4 : Int32) (s0 : Int32) (s1 : Int32) : bX6_bears_73 k39 a l2 l4 s0 s1 z = gbX6_bears_73 k39' C l2 l4 s0 s1 S := by
  unfold bX6_bears_73 gbX6_bears_73
  refine en0 (fun v74 => ?_)
  refine en0 (fun v78 => ?_)
  refine en0 (fun v79 => ?_)
  exact hk39 v78 v74 v79
def gbX6_bears_39 (k39 : Int32 → Int32 → Int32 → Option (Int32)) (C : SV) (l2 : Int32) (l3 : Int32) (l4 : Int32) (S : SV) : Option (Int32) :=
  if (C.1 0) ≤ l4 then (
    some l3
  ) else (
    if l2 = (0 : Int32) then (
      some l3
    ) else (
      if (l2 &&& (1 : Int32)) = (0 : Int32) then (
        gbX6_bears_73 k39 C l2 l4 l3 (0 : Int32) S
      ) else (
        (rA 8 (S.2.1 2) l4).bind fun x72 =>
        gbX6_bears_73 k39 C l2 l4 l3 x72 S
      )
    )
  )
set_option maxRecDepth 100000 in
theorem ebX6_bears_39 {z : AH} {a : Nat} {ρ : RV} {S : SV} (hR : RD 5 a ρ S z) {c : Nat} {ρC : RV} {C : SV} (hC : RD 0 c ρC C z) (hl : ρ.1 0 = some c) {k39 : Nat → Int32 → Int32 → Int32 → Option (Int32)} {k39' : Int32 → Int32 → Int32 → Option (Int32)} (hk39 : ∀ (l2 : Int32) (l3 : Int32) (l4 : Int32), k39 a l2 l3 l4 = k39' l2 l3 l4) (l2 : Int32) (l3 : Int32) (l4 : Int32) : bX6_bears_39 k39 a l2 l3 l4 z = gbX6_bears_39 k39' C l2 l3 l4 S := by
  unfold bX6_bears_39 gbX6_bears_39
  refine sb ((gR_rd hR rfl).trans hl) ?_
  refine sb (gI_rd hC rfl) ?_
  refine ei0 (fun _ => ?_) (fun _ => ?_)
  · skip
    rfl
  · skip
    refine ei0 (fun _ => ?_) (fun _ => ?_)
    · skip
      rfl
    · skip
      refine ei0 (fun _ => ?_) (fun _ => ?_)
      · skip
        exact ebX6_bears_73 hR hC hl hk39 l2 l4 l3 (0 : Int32)
      · skip
        refine sb (gN_rd hR rfl (Or.inl rfl)) ?_
        refine eb0 (ixI_rd hR (k := 2) rfl rfl (by decide) 0 rfl (by decide) _) (fun x72 => ?_)
        exact ebX6_bears_73 hR hC hl hk39 l2 l4 l3 x72
def gfX6_bears_39 (C : SV) (S : SV) : Nat → Int32 → Int32 → Int32 → Option (Int32)
  | 0, _, _, _ => none
  | n + 1, l2, l3, l4 => gbX6_bears_39 (gfX6_bears_39 C S n) C l2 l3 l4 S
theorem efX6_bears_39 {z : AH} {a : Nat} {ρ : RV} {S : SV} (hR : RD 5 a ρ S z) {c : Nat} {ρC : RV} {C : SV} (hC : RD 0 c ρC C z) (hl : ρ.1 0 = some c) : ∀ (n : Nat) (l2 : Int32) (l3 : Int32) (l4 : Int32), fX6_bears_39 z n a l2 l3 l4 = gfX6_bears_39 C S n l2 l3 l4 := by
  intro n
  induction n with
  | zero => intros; rfl
  | succ n ih => intro l2 l3 l4; exact ebX6_bears_39 hR hC hl (fun l2 l3 l4 => ih l2 l3 l4) l2 l3 l4
def gX6_bears (C : SV) (l1 : Int32) (S : SV) : Option (Int32) :=
  if l1 < (0 : Int32) then (
    some (0 : Int32)
  ) else (
    if l1 < (C.1 0) then (
      (rA 8 (C.2.1 5) l1).bind fun x25 =>
      nm (x25 &&& ((S.1 6) ^^^ (-1 : Int32))) fun v33 =>
      gfX6_bears_39 C S FU v33 (0 : Int32) (0 : Int32)
    ) else (
      some (0 : Int32)
    )
  )
set_option maxRecDepth 100000 in
theorem eX6_bears {z : AH} {a : Nat} {ρ : RV} {S : SV} (hR : RD 5 a ρ S z) {c : Nat} {ρC : RV} {C : SV} (hC : RD 0 c ρC C z) (hl : ρ.1 0 = some c) (l1 : Int32) : fX6_bears a l1 z = gX6_bears C l1 S := by
  unfold fX6_bears gX6_bears
  refine eo (isO_rd hR) ?_
  refine ei0 (fun _ => ?_) (fun _ => ?_)
  · skip
    rfl
  · skip
    refine sb ((gR_rd hR rfl).trans hl) ?_
    refine sb (gI_rd hC rfl) ?_
    refine ei0 (fun _ => ?_) (fun _ => ?_)
    · skip
      refine sb ((gR_rd hR rfl).trans hl) ?_
      refine sb (gN_rd hC rfl (Or.inl rfl)) ?_
      refine eb0 (ixI_rd hC (k := 5) rfl rfl (by decide) 0 rfl (by decide) _) (fun x25 => ?_)
      refine sb (gI_rd hR rfl) ?_
      refine en0 (fun v33 => ?_)
      exact efX6_bears_39 hR hC hl FU v33 (0 : Int32) (0 : Int32)
    · skip
      rfl
def gbX6_fall_70 (k2 : Int32 → SV → Option SV) (C : SV) (l1 : Int32) (l2 : Int32) (S : SV) : Option SV :=
  if l2 = (-1 : Int32) then (
    some S
  ) else (
    (rA 8 (C.2.1 5) l2).bind fun x92 =>
    nm (wI S 6 ((S.1 6) ||| ((shl (1 : Int32) l2) ||| x92))) fun S95 =>
    nm (l1 + (1 : Int32)) fun v98 =>
    k2 v98 S95
  )
set_option maxRecDepth 100000 in
theorem ebX6_fall_70 {z : AH} {a : Nat} {ρ : RV} (hz : a + szV 5 ≤ z.length) {c : Nat} {ρC : RV} {C : SV} (hC : RD 0 c ρC C z) (dC : c + szV 0 ≤ a ∨ a + szV 5 ≤ c) (hl : ρ.1 0 = some c) {k2 : Nat → Int32 → AH → Option AH} {k2' : Int32 → SV → Option SV} (hk2 : ∀ (l1 : Int32) (S : SV), k2 a l1 (wr 5 a ρ S z) = (k2' l1 S).map (fun S => wr 5 a ρ S z)) (l1 : Int32) (l2 : Int32) (S : SV) : bX6_fall_70 k2 a l1 l2 (wr 5 a ρ S z) = (gbX6_fall_70 k2' C l1 l2 S).map (fun S => wr 5 a ρ S z) := by
  unfold bX6_fall_70 gbX6_fall_70
  refine ei (fun _ => ?_) (fun _ => ?_)
  · skip
    rfl
  · skip
    refine sb (gI_rd (rd_wr hz) rfl) ?_
    refine sb ((gR_rd (rd_wr hz) rfl).trans hl) ?_
    refine sb (gN_rd (hC.far dC) rfl (Or.inl rfl)) ?_
    refine eb (ixI_rd (hC.far dC) (k := 5) rfl rfl (by decide) 0 rfl (by decide) _) (fun x92 => ?_)
    refine ep (f := (fun S => wr 5 a ρ S z)) (pF_int hz rfl _) (fun S95 => ?_)
    refine en (fun v98 => ?_)
    exact hk2 v98 S95
def gbX6_fall_12 (k2 : Int32 → SV → Option SV) (k12 : Int32 → Int32 → Int32 → SV → Option SV) (C : SV) (l1 : Int32) (l2 : Int32) (l3 : Int32) (S : SV) : Option SV :=
  if (C.1 0) ≤ l3 then (
    gbX6_fall_70 k2 C l1 l2 S
  ) else (
    if l2 = (-1 : Int32) then (
      if ((ush (S.1 6) l3) &&& (1 : Int32)) = (0 : Int32) then (
        (rA 8 (S.2.1 1) l3).bind fun x44 =>
        if x44 ≤ (0 : Int32) then (
          nm (l3 + (1 : Int32)) fun v64 =>
          k12 l1 l3 v64 S
        ) else (
          (rA 8 (S.2.1 1) l3).bind fun x53 =>
          (gX6_bears C l3 S).bind fun x56 =>
          if x56 ≤ x53 then (
            nm (l3 + (1 : Int32)) fun v64 =>
            k12 l1 l2 v64 S
          ) else (
            nm (l3 + (1 : Int32)) fun v64 =>
            k12 l1 l3 v64 S
          )
        )
      ) else (
        nm (l3 + (1 : Int32)) fun v64 =>
        k12 l1 l2 v64 S
      )
    ) else (
      gbX6_fall_70 k2 C l1 l2 S
    )
  )
set_option maxRecDepth 100000 in
theorem ebX6_fall_12 {z : AH} {a : Nat} {ρ : RV} (hz : a + szV 5 ≤ z.length) {c : Nat} {ρC : RV} {C : SV} (hC : RD 0 c ρC C z) (dC : c + szV 0 ≤ a ∨ a + szV 5 ≤ c) (hl : ρ.1 0 = some c) {k2 : Nat → Int32 → AH → Option AH} {k2' : Int32 → SV → Option SV} {k12 : Nat → Int32 → Int32 → Int32 → AH → Option AH} {k12' : Int32 → Int32 → Int32 → SV → Option SV} (hk2 : ∀ (l1 : Int32) (S : SV), k2 a l1 (wr 5 a ρ S z) = (k2' l1 S).map (fun S => wr 5 a ρ S z)) (hk12 : ∀ (l1 : Int32) (l2 : Int32) (l3 : Int32) (S : SV), k12 a l1 l2 l3 (wr 5 a ρ S z) = (k12' l1 l2 l3 S).map (fun S => wr 5 a ρ S z)) (l1 : Int32) (l2 : Int32) (l3 : Int32) (S : SV) : bX6_fall_12 k2 k12 a l1 l2 l3 (wr 5 a ρ S z) = (gbX6_fall_12 k2' k12' C l1 l2 l3 S).map (fun S => wr 5 a ρ S z) := by
  unfold bX6_fall_12 gbX6_fall_12
  refine sb ((gR_rd (rd_wr hz) rfl).trans hl) ?_
  refine sb (gI_rd (hC.far dC) rfl) ?_
  refine ei (fun _ => ?_) (fun _ => ?_)
  · skip
    exact ebX6_fall_70 hz hC dC hl hk2 l1 l2 S
  · skip
    refine ei (fun _ => ?_) (fun _ => ?_)
    · skip
      refine sb (gI_rd (rd_wr hz) rfl) ?_
      refine ei (fun _ => ?_) (fun _ => ?_)
      · skip
        refine sb (gN_rd (rd_wr hz) rfl (Or.inl rfl)) ?_
        refine eb (ixI_rd (rd_wr hz) (k := 1) rfl rfl (by decide) 0 rfl (by decide) _) (fun x44 => ?_)
        refine ei (fun _ => ?_) (fun _ => ?_)
        · skip
          refine en (fun v64 => ?_)
          exact hk12 l1 l3 v64 S
        · skip
          refine sb (gN_rd (rd_wr hz) rfl (Or.inl rfl)) ?_
          refine eb (ixI_rd (rd_wr hz) (k := 1) rfl rfl (by decide) 0 rfl (by decide) _) (fun x53 => ?_)
          refine eb (eX6_bears (ρ := ρ) (rd_wr hz) (hC.far dC) hl l3) (fun x56 => ?_)
          refine ei (fun _ => ?_) (fun _ => ?_)
          · skip
            refine en (fun v64 => ?_)
            exact hk12 l1 l2 v64 S
          · skip
            refine en (fun v64 => ?_)
            exact hk12 l1 l3 v64 S
      · skip
        refine en (fun v64 => ?_)
        exact hk12 l1 l2 v64 S
    · skip
      exact ebX6_fall_70 hz hC dC hl hk2 l1 l2 S
def gfX6_fall_12 (k2 : Int32 → SV → Option SV) (C : SV) : Nat → Int32 → Int32 → Int32 → SV → Option SV
  | 0, _, _, _, _ => none
  | n + 1, l1, l2, l3, S => gbX6_fall_12 k2 (gfX6_fall_12 k2 C n) C l1 l2 l3 S
theorem efX6_fall_12 {z : AH} {a : Nat} {ρ : RV} (hz : a + szV 5 ≤ z.length) {c : Nat} {ρC : RV} {C : SV} (hC : RD 0 c ρC C z) (dC : c + szV 0 ≤ a ∨ a + szV 5 ≤ c) (hl : ρ.1 0 = some c) {k2 : Nat → Int32 → AH → Option AH} {k2' : Int32 → SV → Option SV} (hk2 : ∀ (l1 : Int32) (S : SV), k2 a l1 (wr 5 a ρ S z) = (k2' l1 S).map (fun S => wr 5 a ρ S z)) : ∀ (n : Nat) (l1 : Int32) (l2 : Int32) (l3 : Int32) (S : SV), fX6_fall_12 k2 n a l1 l2 l3 (wr 5 a ρ S z) = (gfX6_fall_12 k2' C n l1 l2 l3 S).map (fun S => wr 5 a ρ S z) := by
  intro n
  induction n with
  | zero => intros; rfl
  | succ n ih => intro l1 l2 l3 S; exact ebX6_fall_12 hz hC dC hl hk2 (fun l1 l2 l3 S => ih l1 l2 l3 S) l1 l2 l3 S
def gbX6_fall_2 (k2 : Int32 → SV → Option SV) (C : SV) (l1 : Int32) (S : SV) : Option SV :=
  if (8 : Int32) ≤ l1 then (
    some S
  ) else (
    gfX6_fall_12 k2 C FU l1 (-1 : Int32) (0 : Int32) S
  )
set_option maxRecDepth 100000 in
theorem ebX6_fall_2 {z : AH} {a : Nat} {ρ : RV} (hz : a + szV 5 ≤ z.length) {c : Nat} {ρC : RV} {C : SV} (hC : RD 0 c ρC C z) (dC : c + szV 0 ≤ a ∨ a + szV 5 ≤ c) (hl : ρ.1 0 = some c) {k2 : Nat → Int32 → AH → Option AH} {k2' : Int32 → SV → Option SV} (hk2 : ∀ (l1 : Int32) (S : SV), k2 a l1 (wr 5 a ρ S z) = (k2' l1 S).map (fun S => wr 5 a ρ S z)) (l1 : Int32) (S : SV) : bX6_fall_2 k2 a l1 (wr 5 a ρ S z) = (gbX6_fall_2 k2' C l1 S).map (fun S => wr 5 a ρ S z) := by
  unfold bX6_fall_2 gbX6_fall_2
  refine ei (fun _ => ?_) (fun _ => ?_)
  · skip
    rfl
  · skip
    exact efX6_fall_12 hz hC dC hl hk2 FU l1 (-1 : Int32) (0 : Int32) S
def gfX6_fall_2 (C : SV) : Nat → Int32 → SV → Option SV
  | 0, _, _ => none
  | n + 1, l1, S => gbX6_fall_2 (gfX6_fall_2 C n) C l1 S
theorem efX6_fall_2 {z : AH} {a : Nat} {ρ : RV} (hz : a + szV 5 ≤ z.length) {c : Nat} {ρC : RV} {C : SV} (hC : RD 0 c ρC C z) (dC : c + szV 0 ≤ a ∨ a + szV 5 ≤ c) (hl : ρ.1 0 = some c) : ∀ (n : Nat) (l1 : Int32) (S : SV), fX6_fall_2 n a l1 (wr 5 a ρ S z) = (gfX6_fall_2 C n l1 S).map (fun S => wr 5 a ρ S z) := by
  intro n
  induction n with
  | zero => intros; rfl
  | succ n ih => intro l1 S; exact ebX6_fall_2 hz hC dC hl (fun l1 S => ih l1 S) l1 S
def gX6_fall (C : SV) (S : SV) : Option SV :=
  gfX6_fall_2 C FU (0 : Int32) S
set_option maxRecDepth 100000 in
theorem eX6_fall {z : AH} {a : Nat} {ρ : RV} (hz : a + szV 5 ≤ z.length) {c : Nat} {ρC : RV} {C : SV} (hC : RD 0 c ρC C z) (dC : c + szV 0 ≤ a ∨ a + szV 5 ≤ c) (hl : ρ.1 0 = some c) (S : SV) : fX6_fall a (wr 5 a ρ S z) = (gX6_fall C S).map (fun S => wr 5 a ρ S z) := by
  unfold fX6_fall gX6_fall
  refine eo (isO_rd (rd_wr hz)) ?_
  exact efX6_fall_2 hz hC dC hl FU (0 : Int32) S
def gX6_begin (V1 : SV) (S : SV) : Option SV :=
  (gX6_load V1 S).bind fun S2 =>
  (gX6_fall V1 S2).bind fun S6 =>
  nm (wI S6 7 (S6.1 6)) fun S14 =>
  some S14
set_option maxRecDepth 100000 in
theorem eX6_begin {z : AH} {a : Nat} {ρ : RV} (hz : a + szV 5 ≤ z.length) {a1 : Nat} {ρ1 : RV} {V1 : SV} (h1 : RD 0 a1 ρ1 V1 z) (d1 : a1 + szV 0 ≤ a ∨ a + szV 5 ≤ a1) (S : SV) : fX6_begin a a1 (wr 5 a ρ S z) = (gX6_begin V1 S).map (fun S => wr 5 a (va_up ρ.1 0 (some a1), ρ.2) S z) := by
  unfold fX6_begin gX6_begin
  refine eo (isO_rd (rd_wr hz)) ?_
  refine em (f := (fun S => wr 5 a (va_up ρ.1 0 (some a1), ρ.2) S z)) (eX6_load (ρ := ρ) hz h1 d1 S) (fun S2 => ?_)
  refine em (f := (fun S => wr 5 a (va_up ρ.1 0 (some a1), ρ.2) S z)) (eX6_fall (ρ := (va_up ρ.1 0 (some a1), ρ.2)) hz h1 d1 (lnd ρ a1) S2) (fun S6 => ?_)
  refine sb (gI_rd (rd_wr hz) rfl) ?_
  refine ep (f := (fun S => wr 5 a (va_up ρ.1 0 (some a1), ρ.2) S z)) (pF_int hz rfl _) (fun S14 => ?_)
  rfl
def gX6_isThere (C : SV) (l1 : Int32) (S : SV) : Option (Int32) :=
  (gX0_hasThing l1 C).bind fun x5 =>
  if x5 = (0 : Int32) then (
    some (0 : Int32)
  ) else (
    if (fX9_hasBit (S.1 6) l1) = (0 : Int32) then (
      some (1 : Int32)
    ) else (
      some (0 : Int32)
    )
  )
set_option maxRecDepth 100000 in
theorem eX6_isThere {z : AH} {a : Nat} {ρ : RV} {S : SV} (hR : RD 5 a ρ S z) {c : Nat} {ρC : RV} {C : SV} (hC : RD 0 c ρC C z) (hl : ρ.1 0 = some c) (l1 : Int32) : fX6_isThere a l1 z = gX6_isThere C l1 S := by
  unfold fX6_isThere gX6_isThere
  refine eo (isO_rd hR) ?_
  refine sb ((gR_rd hR rfl).trans hl) ?_
  refine eb0 (eX0_hasThing hC l1) (fun x5 => ?_)
  refine ei0 (fun _ => ?_) (fun _ => ?_)
  · skip
    rfl
  · skip
    refine sb (gI_rd hR rfl) ?_
    refine ei0 (fun _ => ?_) (fun _ => ?_)
    · skip
      rfl
    · skip
      rfl
def gX6_there (C : SV) (S : SV) : Option (Int32) :=
  some (((shl (1 : Int32) (C.1 0)) - (1 : Int32)) &&& ((S.1 6) ^^^ (-1 : Int32)))
set_option maxRecDepth 100000 in
theorem eX6_there {z : AH} {a : Nat} {ρ : RV} {S : SV} (hR : RD 5 a ρ S z) {c : Nat} {ρC : RV} {C : SV} (hC : RD 0 c ρC C z) (hl : ρ.1 0 = some c) : fX6_there a z = gX6_there C S := by
  unfold fX6_there gX6_there
  refine eo (isO_rd hR) ?_
  refine sb ((gR_rd hR rfl).trans hl) ?_
  refine sb (gI_rd hC rfl) ?_
  refine sb (gI_rd hR rfl) ?_
  rfl
def gX6_restingOn (C : SV) (l1 : Int32) (S : SV) : Option (Int32) :=
  (gX0_hasThing l1 C).bind fun x5 =>
  if x5 = (0 : Int32) then (
    some (0 : Int32)
  ) else (
    (rA 8 (C.2.1 5) l1).bind fun x19 =>
    some (x19 &&& ((S.1 6) ^^^ (-1 : Int32)))
  )
set_option maxRecDepth 100000 in
theorem eX6_restingOn {z : AH} {a : Nat} {ρ : RV} {S : SV} (hR : RD 5 a ρ S z) {c : Nat} {ρC : RV} {C : SV} (hC : RD 0 c ρC C z) (hl : ρ.1 0 = some c) (l1 : Int32) : fX6_restingOn a l1 z = gX6_restingOn C l1 S := by
  unfold fX6_restingOn gX6_restingOn
  refine eo (isO_rd hR) ?_
  refine sb ((gR_rd hR rfl).trans hl) ?_
  refine eb0 (eX0_hasThing hC l1) (fun x5 => ?_)
  refine ei0 (fun _ => ?_) (fun _ => ?_)
  · skip
    rfl
  · skip
    refine sb ((gR_rd hR rfl).trans hl) ?_
    refine sb (gN_rd hC rfl (Or.inl rfl)) ?_
    refine eb0 (ixI_rd hC (k := 5) rfl rfl (by decide) 0 rfl (by decide) _) (fun x19 => ?_)
    refine sb (gI_rd hR rfl) ?_
    rfl
def gbX6_look_158 (C : SV) (l1 : Int32) (l2 : Int32) (S : SV) : Option (Int32 × SV) :=
  nm (wI S 10 ((S.1 10) ||| (shl (1 : Int32) l1))) fun S167 =>
  nm (wI S167 11 ((S167.1 11) ||| (shl (1 : Int32) l2))) fun S179 =>
  (rA 4 (S179.2.1 3) l1).bind fun x188 =>
  (wA 3 4 S179 l1 (x188 + (1 : Int32))).bind fun S191 =>
  some ((1 : Int32), S191)
set_option maxRecDepth 100000 in
theorem ebX6_look_158 {z : AH} {a : Nat} {ρ : RV} (hz : a + szV 5 ≤ z.length) {c : Nat} {ρC : RV} {C : SV} (hC : RD 0 c ρC C z) (dC : c + szV 0 ≤ a ∨ a + szV 5 ≤ c) (hl : ρ.1 0 = some c) (l1 : Int32) (l2 : Int32) (S : SV) : bX6_look_158 a l1 l2 (wr 5 a ρ S z) = (gbX6_look_158 C l1 l2 S).map (fun q => (q.1, wr 5 a ρ q.2 z)) := by
  unfold bX6_look_158 gbX6_look_158
  refine sb (gI_rd (rd_wr hz) rfl) ?_
  refine ep (f := (fun S => wr 5 a ρ S z)) (pF_int hz rfl _) (fun S167 => ?_)
  refine sb (gI_rd (rd_wr hz) rfl) ?_
  refine ep (f := (fun S => wr 5 a ρ S z)) (pF_int hz rfl _) (fun S179 => ?_)
  refine sb (gN_rd (rd_wr hz) rfl (Or.inl rfl)) ?_
  refine eb (ixI_rd (rd_wr hz) (k := 3) rfl rfl (by decide) 0 rfl (by decide) _) (fun x188 => ?_)
  refine em (f := (fun S => wr 5 a ρ S z)) (stI_rd rkOk5 hz (k := 3) rfl rfl (by decide) 0 rfl (by decide) _ _) (fun S191 => ?_)
  rfl
def gbX6_look_59 (C : SV) (l1 : Int32) (l2 : Int32) (s0 : Int32) (S : SV) : Option (Int32 × SV) :=
  if s0 = (0 : Int32) then (
    some ((0 : Int32), S)
  ) else (
    (gX0_sightOfLeft l1 C).bind fun x71 =>
    (gX0_sightOfRight l1 C).bind fun x81 =>
    (rA 8 (S.2.1 1) l2).bind fun x98 =>
    (wA 1 8 S l2 (imin (99 : Int32) ((x98 + x71) + x81))).bind fun S108 =>
    if (iabs (x71 - x81)) ≤ (C.1 19) then (
      gbX6_look_158 C l1 l2 S108
    ) else (
      (rA 8 (S108.2.1 2) l2).bind fun x139 =>
      (wA 2 8 S108 l2 (imin (9 : Int32) (x139 + (1 : Int32)))).bind fun S145 =>
      nm (wI S145 12 ((S145.1 12) ||| (shl (1 : Int32) l2))) fun S155 =>
      gbX6_look_158 C l1 l2 S155
    )
  )
set_option maxRecDepth 100000 in
theorem ebX6_look_59 {z : AH} {a : Nat} {ρ : RV} (hz : a + szV 5 ≤ z.length) {c : Nat} {ρC : RV} {C : SV} (hC : RD 0 c ρC C z) (dC : c + szV 0 ≤ a ∨ a + szV 5 ≤ c) (hl : ρ.1 0 = some c) (l1 : Int32) (l2 : Int32) (s0 : Int32) (S : SV) : bX6_look_59 a l1 l2 s0 (wr 5 a ρ S z) = (gbX6_look_59 C l1 l2 s0 S).map (fun q => (q.1, wr 5 a ρ q.2 z)) := by
  unfold bX6_look_59 gbX6_look_59
  refine ei (fun _ => ?_) (fun _ => ?_)
  · skip
    rfl
  · skip
    refine sb ((gR_rd (rd_wr hz) rfl).trans hl) ?_
    refine eb (eX0_sightOfLeft (hC.far dC) l1) (fun x71 => ?_)
    refine sb ((gR_rd (rd_wr hz) rfl).trans hl) ?_
    refine eb (eX0_sightOfRight (hC.far dC) l1) (fun x81 => ?_)
    refine sb (gN_rd (rd_wr hz) rfl (Or.inl rfl)) ?_
    refine sb (gN_rd (rd_wr hz) rfl (Or.inl rfl)) ?_
    refine eb (ixI_rd (rd_wr hz) (k := 1) rfl rfl (by decide) 0 rfl (by decide) _) (fun x98 => ?_)
    refine em (f := (fun S => wr 5 a ρ S z)) (stI_rd rkOk5 hz (k := 1) rfl rfl (by decide) 0 rfl (by decide) _ _) (fun S108 => ?_)
    refine sb ((gR_rd (rd_wr hz) rfl).trans hl) ?_
    refine sb (gI_rd (hC.far dC) rfl) ?_
    refine ei (fun _ => ?_) (fun _ => ?_)
    · skip
      exact ebX6_look_158 hz hC dC hl l1 l2 S108
    · skip
      refine sb (gN_rd (rd_wr hz) rfl (Or.inl rfl)) ?_
      refine sb (gN_rd (rd_wr hz) rfl (Or.inl rfl)) ?_
      refine eb (ixI_rd (rd_wr hz) (k := 2) rfl rfl (by decide) 0 rfl (by decide) _) (fun x139 => ?_)
      refine em (f := (fun S => wr 5 a ρ S z)) (stI_rd rkOk5 hz (k := 2) rfl rfl (by decide) 0 rfl (by decide) _ _) (fun S145 => ?_)
      refine sb (gI_rd (rd_wr hz) rfl) ?_
      refine ep (f := (fun S => wr 5 a ρ S z)) (pF_int hz rfl _) (fun S155 => ?_)
      exact ebX6_look_158 hz hC dC hl l1 l2 S155
def gbX6_look_58 (C : SV) (l1 : Int32) (l2 : Int32) (S : SV) : Option (Int32 × SV) :=
  gbX6_look_59 C l1 l2 (0 : Int32) S
set_option maxRecDepth 100000 in
theorem ebX6_look_58 {z : AH} {a : Nat} {ρ : RV} (hz : a + szV 5 ≤ z.length) {c : Nat} {ρC : RV} {C : SV} (hC : RD 0 c ρC C z) (dC : c + szV 0 ≤ a ∨ a + szV 5 ≤ c) (hl : ρ.1 0 = some c) (l1 : Int32) (l2 : Int32) (S : SV) : bX6_look_58 a l1 l2 (wr 5 a ρ S z) = (gbX6_look_58 C l1 l2 S).map (fun q => (q.1, wr 5 a ρ q.2 z)) := by
  unfold bX6_look_58 gbX6_look_58
  exact ebX6_look_59 hz hC dC hl l1 l2 (0 : Int32) S
def gX6_look (C : SV) (l1 : Int32) (l2 : Int32) (S : SV) : Option (Int32 × SV) :=
  if l1 < (0 : Int32) then (
    gbX6_look_58 C l1 l2 S
  ) else (
    if (C.1 14) ≤ l1 then (
      gbX6_look_58 C l1 l2 S
    ) else (
      if (Int32.ofNat 4) ≤ l1 then (
        gbX6_look_58 C l1 l2 S
      ) else (
        (gX6_isThere C l2 S).bind fun x26 =>
        if x26 = (0 : Int32) then (
          gbX6_look_58 C l1 l2 S
        ) else (
          if (fX9_hasBit (S.1 8) l1) = (0 : Int32) then (
            if (fX9_hasBit (S.1 10) l1) = (0 : Int32) then (
              gbX6_look_59 C l1 l2 (1 : Int32) S
            ) else (
              gbX6_look_58 C l1 l2 S
            )
          ) else (
            gbX6_look_58 C l1 l2 S
          )
        )
      )
    )
  )
set_option maxRecDepth 100000 in
theorem eX6_look {z : AH} {a : Nat} {ρ : RV} (hz : a + szV 5 ≤ z.length) {c : Nat} {ρC : RV} {C : SV} (hC : RD 0 c ρC C z) (dC : c + szV 0 ≤ a ∨ a + szV 5 ≤ c) (hl : ρ.1 0 = some c) (l1 : Int32) (l2 : Int32) (S : SV) : fX6_look a l1 l2 (wr 5 a ρ S z) = (gX6_look C l1 l2 S).map (fun q => (q.1, wr 5 a ρ q.2 z)) := by
  unfold fX6_look gX6_look
  refine eo (isO_rd (rd_wr hz)) ?_
  refine ei (fun _ => ?_) (fun _ => ?_)
  · skip
    exact ebX6_look_58 hz hC dC hl l1 l2 S
  · skip
    refine sb ((gR_rd (rd_wr hz) rfl).trans hl) ?_
    refine sb (gI_rd (hC.far dC) rfl) ?_
    refine ei (fun _ => ?_) (fun _ => ?_)
    · skip
      exact ebX6_look_58 hz hC dC hl l1 l2 S
    · skip
      refine sb (gN_rd (rd_wr hz) rfl (Or.inl rfl)) ?_
      refine sb (lnI_rd (rd_wr hz) (k := 3) rfl rfl (by decide) 0 rfl (by decide)) ?_
      refine ei (fun _ => ?_) (fun _ => ?_)
      · skip
        exact ebX6_look_58 hz hC dC hl l1 l2 S
      · skip
        refine eb (eX6_isThere (ρ := ρ) (rd_wr hz) (hC.far dC) hl l2) (fun x26 => ?_)
        refine ei (fun _ => ?_) (fun _ => ?_)
        · skip
          exact ebX6_look_58 hz hC dC hl l1 l2 S
        · skip
          refine sb (gI_rd (rd_wr hz) rfl) ?_
          refine ei (fun _ => ?_) (fun _ => ?_)
          · skip
            refine sb (gI_rd (rd_wr hz) rfl) ?_
            refine ei (fun _ => ?_) (fun _ => ?_)
            · skip
              exact ebX6_look_59 hz hC dC hl l1 l2 (1 : Int32) S
            · skip
              exact ebX6_look_58 hz hC dC hl l1 l2 S
          · skip
            exact ebX6_look_58 hz hC dC hl l1 l2 S
def gX6_quarrel (C : SV) (l1 : Int32) (S : SV) : Option (Int32 × SV) :=
  if l1 < (0 : Int32) then (
    some ((0 : Int32), S)
  ) else (
    if (C.1 14) ≤ l1 then (
      some ((0 : Int32), S)
    ) else (
      if (fX9_hasBit (S.1 8) l1) = (0 : Int32) then (
        nm (wI S 8 ((S.1 8) ||| (shl (1 : Int32) l1))) fun S37 =>
        some ((1 : Int32), S37)
      ) else (
        some ((0 : Int32), S)
      )
    )
  )
set_option maxRecDepth 100000 in
theorem eX6_quarrel {z : AH} {a : Nat} {ρ : RV} (hz : a + szV 5 ≤ z.length) {c : Nat} {ρC : RV} {C : SV} (hC : RD 0 c ρC C z) (dC : c + szV 0 ≤ a ∨ a + szV 5 ≤ c) (hl : ρ.1 0 = some c) (l1 : Int32) (S : SV) : fX6_quarrel a l1 (wr 5 a ρ S z) = (gX6_quarrel C l1 S).map (fun q => (q.1, wr 5 a ρ q.2 z)) := by
  unfold fX6_quarrel gX6_quarrel
  refine eo (isO_rd (rd_wr hz)) ?_
  refine ei (fun _ => ?_) (fun _ => ?_)
  · skip
    rfl
  · skip
    refine sb ((gR_rd (rd_wr hz) rfl).trans hl) ?_
    refine sb (gI_rd (hC.far dC) rfl) ?_
    refine ei (fun _ => ?_) (fun _ => ?_)
    · skip
      rfl
    · skip
      refine sb (gI_rd (rd_wr hz) rfl) ?_
      refine ei (fun _ => ?_) (fun _ => ?_)
      · skip
        refine sb (gI_rd (rd_wr hz) rfl) ?_
        refine ep (f := (fun S => wr 5 a ρ S z)) (pF_int hz rfl _) (fun S37 => ?_)
        rfl
      · skip
        rfl
def gX6_reconcile (C : SV) (l1 : Int32) (S : SV) : Option (Int32 × SV) :=
  if l1 < (0 : Int32) then (
    some ((0 : Int32), S)
  ) else (
    if (C.1 14) ≤ l1 then (
      some ((0 : Int32), S)
    ) else (
      if (fX9_hasBit (S.1 8) l1) = (0 : Int32) then (
        some ((0 : Int32), S)
      ) else (
        nm (wI S 8 ((S.1 8) &&& ((shl (1 : Int32) l1) ^^^ (-1 : Int32)))) fun S39 =>
        some ((1 : Int32), S39)
      )
    )
  )
set_option maxRecDepth 100000 in
theorem eX6_reconcile {z : AH} {a : Nat} {ρ : RV} (hz : a + szV 5 ≤ z.length) {c : Nat} {ρC : RV} {C : SV} (hC : RD 0 c ρC C z) (dC : c + szV 0 ≤ a ∨ a + szV 5 ≤ c) (hl : ρ.1 0 = some c) (l1 : Int32) (S : SV) : fX6_reconcile a l1 (wr 5 a ρ S z) = (gX6_reconcile C l1 S).map (fun q => (q.1, wr 5 a ρ q.2 z)) := by
  unfold fX6_reconcile gX6_reconcile
  refine eo (isO_rd (rd_wr hz)) ?_
  refine ei (fun _ => ?_) (fun _ => ?_)
  · skip
    rfl
  · skip
    refine sb ((gR_rd (rd_wr hz) rfl).trans hl) ?_
    refine sb (gI_rd (hC.far dC) rfl) ?_
    refine ei (fun _ => ?_) (fun _ => ?_)
    · skip
      rfl
    · skip
      refine sb (gI_rd (rd_wr hz) rfl) ?_
      refine ei (fun _ => ?_) (fun _ => ?_)
      · skip
        rfl
      · skip
        refine sb (gI_rd (rd_wr hz) rfl) ?_
        refine ep (f := (fun S => wr 5 a ρ S z)) (pF_int hz rfl _) (fun S39 => ?_)
        rfl
def gX6_forge (C : SV) (l1 : Int32) (S : SV) : Option (Int32 × SV) :=
  (gX6_isThere C l1 S).bind fun x2 =>
  if x2 = (0 : Int32) then (
    some ((0 : Int32), S)
  ) else (
    (rA 8 (S.2.1 1) l1).bind fun x23 =>
    (wA 1 8 S l1 (imin (99 : Int32) ((2 : Int32) * x23))).bind fun S28 =>
    nm (wI S28 9 ((S28.1 9) ||| (shl (1 : Int32) l1))) fun S38 =>
    some ((1 : Int32), S38)
  )
set_option maxRecDepth 100000 in
theorem eX6_forge {z : AH} {a : Nat} {ρ : RV} (hz : a + szV 5 ≤ z.length) {c : Nat} {ρC : RV} {C : SV} (hC : RD 0 c ρC C z) (dC : c + szV 0 ≤ a ∨ a + szV 5 ≤ c) (hl : ρ.1 0 = some c) (l1 : Int32) (S : SV) : fX6_forge a l1 (wr 5 a ρ S z) = (gX6_forge C l1 S).map (fun q => (q.1, wr 5 a ρ q.2 z)) := by
  unfold fX6_forge gX6_forge
  refine eo (isO_rd (rd_wr hz)) ?_
  refine eb (eX6_isThere (ρ := ρ) (rd_wr hz) (hC.far dC) hl l1) (fun x2 => ?_)
  refine ei (fun _ => ?_) (fun _ => ?_)
  · skip
    rfl
  · skip
    refine sb (gN_rd (rd_wr hz) rfl (Or.inl rfl)) ?_
    refine sb (gN_rd (rd_wr hz) rfl (Or.inl rfl)) ?_
    refine eb (ixI_rd (rd_wr hz) (k := 1) rfl rfl (by decide) 0 rfl (by decide) _) (fun x23 => ?_)
    refine em (f := (fun S => wr 5 a ρ S z)) (stI_rd rkOk5 hz (k := 1) rfl rfl (by decide) 0 rfl (by decide) _ _) (fun S28 => ?_)
    refine sb (gI_rd (rd_wr hz) rfl) ?_
    refine ep (f := (fun S => wr 5 a ρ S z)) (pF_int hz rfl _) (fun S38 => ?_)
    rfl
def gbX6_passHour_2 (k2 : Int32 → SV → Option (Int32 × SV)) (C : SV) (l1 : Int32) (S : SV) : Option (Int32 × SV) :=
  if (C.1 0) ≤ l1 then (
    (gX6_fall C S).bind fun S62 =>
    nm (wI S62 10 (0 : Int32)) fun S67 =>
    nm (wI S67 11 (0 : Int32)) fun S72 =>
    nm (wI S72 5 ((S72.1 5) + (1 : Int32))) fun S82 =>
    some ((1 : Int32), S82)
  ) else (
    if (fX9_hasBit ((S.1 6) ||| (S.1 11)) l1) = (0 : Int32) then (
      (rA 8 (S.2.1 1) l1).bind fun x40 =>
      (rA 8 (C.2.1 3) l1).bind fun x49 =>
      (wA 1 8 S l1 (imax (0 : Int32) (x40 - x49))).bind fun S54 =>
      nm (l1 + (1 : Int32)) fun v55 =>
      k2 v55 S54
    ) else (
      nm (l1 + (1 : Int32)) fun v55 =>
      k2 v55 S
    )
  )
set_option maxRecDepth 100000 in
theorem ebX6_passHour_2 {z : AH} {a : Nat} {ρ : RV} (hz : a + szV 5 ≤ z.length) {c : Nat} {ρC : RV} {C : SV} (hC : RD 0 c ρC C z) (dC : c + szV 0 ≤ a ∨ a + szV 5 ≤ c) (hl : ρ.1 0 = some c) {k2 : Nat → Int32 → AH → Option (Int32 × AH)} {k2' : Int32 → SV → Option (Int32 × SV)} (hk2 : ∀ (l1 : Int32) (S : SV), k2 a l1 (wr 5 a ρ S z) = (k2' l1 S).map (fun q => (q.1, wr 5 a ρ q.2 z))) (l1 : Int32) (S : SV) : bX6_passHour_2 k2 a l1 (wr 5 a ρ S z) = (gbX6_passHour_2 k2' C l1 S).map (fun q => (q.1, wr 5 a ρ q.2 z)) := by
  unfold bX6_passHour_2 gbX6_passHour_2
  refine sb ((gR_rd (rd_wr hz) rfl).trans hl) ?_
  refine sb (gI_rd (hC.far dC) rfl) ?_
  refine ei (fun _ => ?_) (fun _ => ?_)
  · skip
    refine em (f := (fun S => wr 5 a ρ S z)) (eX6_fall (ρ := ρ) hz hC dC hl S) (fun S62 => ?_)
    refine ep (f := (fun S => wr 5 a ρ S z)) (pF_int hz rfl _) (fun S67 => ?_)
    refine ep (f := (fun S => wr 5 a ρ S z)) (pF_int hz rfl _) (fun S72 => ?_)
    refine sb (gI_rd (rd_wr hz) rfl) ?_
    refine ep (f := (fun S => wr 5 a ρ S z)) (pF_int hz rfl _) (fun S82 => ?_)
    rfl
  · skip
    refine sb (gI_rd (rd_wr hz) rfl) ?_
    refine sb (gI_rd (rd_wr hz) rfl) ?_
    refine ei (fun _ => ?_) (fun _ => ?_)
    · skip
      refine sb (gN_rd (rd_wr hz) rfl (Or.inl rfl)) ?_
      refine sb (gN_rd (rd_wr hz) rfl (Or.inl rfl)) ?_
      refine eb (ixI_rd (rd_wr hz) (k := 1) rfl rfl (by decide) 0 rfl (by decide) _) (fun x40 => ?_)
      refine sb ((gR_rd (rd_wr hz) rfl).trans hl) ?_
      refine sb (gN_rd (hC.far dC) rfl (Or.inl rfl)) ?_
      refine eb (ixI_rd (hC.far dC) (k := 3) rfl rfl (by decide) 0 rfl (by decide) _) (fun x49 => ?_)
      refine em (f := (fun S => wr 5 a ρ S z)) (stI_rd rkOk5 hz (k := 1) rfl rfl (by decide) 0 rfl (by decide) _ _) (fun S54 => ?_)
      refine en (fun v55 => ?_)
      exact hk2 v55 S54
    · skip
      refine en (fun v55 => ?_)
      exact hk2 v55 S
def gfX6_passHour_2 (C : SV) : Nat → Int32 → SV → Option (Int32 × SV)
  | 0, _, _ => none
  | n + 1, l1, S => gbX6_passHour_2 (gfX6_passHour_2 C n) C l1 S
theorem efX6_passHour_2 {z : AH} {a : Nat} {ρ : RV} (hz : a + szV 5 ≤ z.length) {c : Nat} {ρC : RV} {C : SV} (hC : RD 0 c ρC C z) (dC : c + szV 0 ≤ a ∨ a + szV 5 ≤ c) (hl : ρ.1 0 = some c) : ∀ (n : Nat) (l1 : Int32) (S : SV), fX6_passHour_2 n a l1 (wr 5 a ρ S z) = (gfX6_passHour_2 C n l1 S).map (fun q => (q.1, wr 5 a ρ q.2 z)) := by
  intro n
  induction n with
  | zero => intros; rfl
  | succ n ih => intro l1 S; exact ebX6_passHour_2 hz hC dC hl (fun l1 S => ih l1 S) l1 S
def gX6_passHour (C : SV) (S : SV) : Option (Int32 × SV) :=
  gfX6_passHour_2 C FU (0 : Int32) S
set_option maxRecDepth 100000 in
theorem eX6_passHour {z : AH} {a : Nat} {ρ : RV} (hz : a + szV 5 ≤ z.length) {c : Nat} {ρC : RV} {C : SV} (hC : RD 0 c ρC C z) (dC : c + szV 0 ≤ a ∨ a + szV 5 ≤ c) (hl : ρ.1 0 = some c) (S : SV) : fX6_passHour a (wr 5 a ρ S z) = (gX6_passHour C S).map (fun q => (q.1, wr 5 a ρ q.2 z)) := by
  unfold fX6_passHour gX6_passHour
  refine eo (isO_rd (rd_wr hz)) ?_
  exact efX6_passHour_2 hz hC dC hl FU (0 : Int32) S
def gX6_act (C : SV) (l1 : Int32) (l2 : Int32) (l3 : Int32) (S : SV) : Option (Int32 × SV) :=
  if l1 = (0 : Int32) then (
    b2 (gX6_look C l2 l3 S) fun x35 S35 =>
    if x35 = 0 ∨ x35 = 1 then some (x35, S35) else none
  ) else (
    if l1 = (1 : Int32) then (
      b2 (gX6_quarrel C l2 S) fun x41 S41 =>
      if x41 = 0 ∨ x41 = 1 then some (x41, S41) else none
    ) else (
      if l1 = (2 : Int32) then (
        b2 (gX6_reconcile C l2 S) fun x47 S47 =>
        if x47 = 0 ∨ x47 = 1 then some (x47, S47) else none
      ) else (
        if l1 = (3 : Int32) then (
          b2 (gX6_forge C l2 S) fun x53 S53 =>
          if x53 = 0 ∨ x53 = 1 then some (x53, S53) else none
        ) else (
          if (99 : Int32) ≤ (S.1 5) then (
            some ((0 : Int32), S)
          ) else (
            b2 (gX6_passHour C S) fun x67 S67 =>
            if x67 = (0 : Int32) then (
              some ((0 : Int32), S67)
            ) else (
              some ((1 : Int32), S67)
            )
          )
        )
      )
    )
  )
set_option maxRecDepth 100000 in
theorem eX6_act {z : AH} {a : Nat} {ρ : RV} (hz : a + szV 5 ≤ z.length) {c : Nat} {ρC : RV} {C : SV} (hC : RD 0 c ρC C z) (dC : c + szV 0 ≤ a ∨ a + szV 5 ≤ c) (hl : ρ.1 0 = some c) (l1 : Int32) (l2 : Int32) (l3 : Int32) (S : SV) : fX6_act a l1 l2 l3 (wr 5 a ρ S z) = (gX6_act C l1 l2 l3 S).map (fun q => (q.1, wr 5 a ρ q.2 z)) := by
  unfold fX6_act gX6_act
  refine eo (isO_rd (rd_wr hz)) ?_
  refine ei (fun _ => ?_) (fun _ => ?_)
  · skip
    refine e2m (f := (fun S => wr 5 a ρ S z)) (eX6_look (ρ := ρ) hz hC dC hl l2 l3 S) (fun x35 S35 => ?_)
    refine ei (fun _ => rfl) (fun _ => rfl)
  · skip
    refine ei (fun _ => ?_) (fun _ => ?_)
    · skip
      refine e2m (f := (fun S => wr 5 a ρ S z)) (eX6_quarrel (ρ := ρ) hz hC dC hl l2 S) (fun x41 S41 => ?_)
      refine ei (fun _ => rfl) (fun _ => rfl)
    · skip
      refine ei (fun _ => ?_) (fun _ => ?_)
      · skip
        refine e2m (f := (fun S => wr 5 a ρ S z)) (eX6_reconcile (ρ := ρ) hz hC dC hl l2 S) (fun x47 S47 => ?_)
        refine ei (fun _ => rfl) (fun _ => rfl)
      · skip
        refine ei (fun _ => ?_) (fun _ => ?_)
        · skip
          refine e2m (f := (fun S => wr 5 a ρ S z)) (eX6_forge (ρ := ρ) hz hC dC hl l2 S) (fun x53 S53 => ?_)
          refine ei (fun _ => rfl) (fun _ => rfl)
        · skip
          refine sb (gI_rd (rd_wr hz) rfl) ?_
          refine ei (fun _ => ?_) (fun _ => ?_)
          · skip
            rfl
          · skip
            refine e2m (f := (fun S => wr 5 a ρ S z)) (eX6_passHour (ρ := ρ) hz hC dC hl S) (fun x67 S67 => ?_)
            refine ei (fun _ => ?_) (fun _ => ?_)
            · skip
              rfl
            · skip
              rfl
def gbX6_live_12 (k12 : Int32 → Int32 → SV → Option (Int32 × SV)) (C : SV) (V1 : SV) (m1 : Nat) (l3 : Int32) (l4 : Int32) (S : SV) : Option (Int32 × SV) :=
  if l3 ≤ l4 then (
    some (l3, S)
  ) else (
    (gX5_answer m1 l4 (0 : Int32) V1).bind fun x29 =>
    (gX5_answer m1 l4 (1 : Int32) V1).bind fun x36 =>
    (gX5_answer m1 l4 (2 : Int32) V1).bind fun x43 =>
    b2 (gX6_act C x29 x36 x43 S) fun x46 S46 =>
    if x46 = (0 : Int32) then (
      some (l4, S46)
    ) else (
      if (S46.1 6) = (S.1 6) then (
        nm (l4 + (1 : Int32)) fun v78 =>
        k12 l3 v78 S46
      ) else (
        if (S46.1 13) = (-1 : Int32) then (
          nm (wI S46 13 l4) fun S75 =>
          nm (l4 + (1 : Int32)) fun v78 =>
          k12 l3 v78 S75
        ) else (
          nm (l4 + (1 : Int32)) fun v78 =>
          k12 l3 v78 S46
        )
      )
    )
  )
set_option maxRecDepth 100000 in
theorem ebX6_live_12 {z : AH} {a : Nat} {ρ : RV} (hz : a + szV 5 ≤ z.length) {c : Nat} {ρC : RV} {C : SV} (hC : RD 0 c ρC C z) (dC : c + szV 0 ≤ a ∨ a + szV 5 ≤ c) (hl : ρ.1 0 = some c) {a1 : Nat} {ρ1 : RV} {V1 : SV} (h1 : RD 4 a1 ρ1 V1 z) (d1 : a1 + szV 4 ≤ a ∨ a + szV 5 ≤ a1) {k12 : Nat → Nat → Int32 → Int32 → AH → Option (Int32 × AH)} {k12' : Int32 → Int32 → SV → Option (Int32 × SV)} (hk12 : ∀ (l3 : Int32) (l4 : Int32) (S : SV), k12 a a1 l3 l4 (wr 5 a ρ S z) = (k12' l3 l4 S).map (fun q => (q.1, wr 5 a ρ q.2 z))) (l3 : Int32) (l4 : Int32) (S : SV) : bX6_live_12 k12 a a1 l3 l4 (wr 5 a ρ S z) = (gbX6_live_12 k12' C V1 ρ1.2.2 l3 l4 S).map (fun q => (q.1, wr 5 a ρ q.2 z)) := by
  unfold bX6_live_12 gbX6_live_12
  refine ei (fun _ => ?_) (fun _ => ?_)
  · skip
    rfl
  · skip
    refine sb (gI_rd (rd_wr hz) rfl) ?_
    refine eb (eX5_answer (h1.far d1) l4 (0 : Int32)) (fun x29 => ?_)
    refine eb (eX5_answer (h1.far d1) l4 (1 : Int32)) (fun x36 => ?_)
    refine eb (eX5_answer (h1.far d1) l4 (2 : Int32)) (fun x43 => ?_)
    refine e2m (f := (fun S => wr 5 a ρ S z)) (eX6_act (ρ := ρ) hz hC dC hl x29 x36 x43 S) (fun x46 S46 => ?_)
    refine ei (fun _ => ?_) (fun _ => ?_)
    · skip
      rfl
    · skip
      refine sb (gI_rd (rd_wr hz) rfl) ?_
      refine ei (fun _ => ?_) (fun _ => ?_)
      · skip
        refine en (fun v78 => ?_)
        exact hk12 l3 v78 S46
      · skip
        refine sb (gI_rd (rd_wr hz) rfl) ?_
        refine ei (fun _ => ?_) (fun _ => ?_)
        · skip
          refine ep (f := (fun S => wr 5 a ρ S z)) (pF_int hz rfl _) (fun S75 => ?_)
          refine en (fun v78 => ?_)
          exact hk12 l3 v78 S75
        · skip
          refine en (fun v78 => ?_)
          exact hk12 l3 v78 S46
def gfX6_live_12 (C : SV) (V1 : SV) (m1 : Nat) : Nat → Int32 → Int32 → SV → Option (Int32 × SV)
  | 0, _, _, _ => none
  | n + 1, l3, l4, S => gbX6_live_12 (gfX6_live_12 C V1 m1 n) C V1 m1 l3 l4 S
theorem efX6_live_12 {z : AH} {a : Nat} {ρ : RV} (hz : a + szV 5 ≤ z.length) {c : Nat} {ρC : RV} {C : SV} (hC : RD 0 c ρC C z) (dC : c + szV 0 ≤ a ∨ a + szV 5 ≤ c) (hl : ρ.1 0 = some c) {a1 : Nat} {ρ1 : RV} {V1 : SV} (h1 : RD 4 a1 ρ1 V1 z) (d1 : a1 + szV 4 ≤ a ∨ a + szV 5 ≤ a1) : ∀ (n : Nat) (l3 : Int32) (l4 : Int32) (S : SV), fX6_live_12 n a a1 l3 l4 (wr 5 a ρ S z) = (gfX6_live_12 C V1 ρ1.2.2 n l3 l4 S).map (fun q => (q.1, wr 5 a ρ q.2 z)) := by
  intro n
  induction n with
  | zero => intros; rfl
  | succ n ih => intro l3 l4 S; exact ebX6_live_12 hz hC dC hl h1 d1 (fun l3 l4 S => ih l3 l4 S) l3 l4 S
def gX6_live (C : SV) (V1 : SV) (m1 : Nat) (l2 : Int32) (S : SV) : Option (Int32 × SV) :=
  nm (imin l2 (V1.1 3)) fun v8 =>
  gfX6_live_12 C V1 m1 FU v8 (0 : Int32) S
set_option maxRecDepth 100000 in
theorem eX6_live {z : AH} {a : Nat} {ρ : RV} (hz : a + szV 5 ≤ z.length) {c : Nat} {ρC : RV} {C : SV} (hC : RD 0 c ρC C z) (dC : c + szV 0 ≤ a ∨ a + szV 5 ≤ c) (hl : ρ.1 0 = some c) {a1 : Nat} {ρ1 : RV} {V1 : SV} (h1 : RD 4 a1 ρ1 V1 z) (d1 : a1 + szV 4 ≤ a ∨ a + szV 5 ≤ a1) (l2 : Int32) (S : SV) : fX6_live a a1 l2 (wr 5 a ρ S z) = (gX6_live C V1 ρ1.2.2 l2 S).map (fun q => (q.1, wr 5 a ρ q.2 z)) := by
  unfold fX6_live gX6_live
  refine eo (isO_rd (rd_wr hz)) ?_
  refine sb (gI_rd (h1.far d1) rfl) ?_
  refine en (fun v8 => ?_)
  exact efX6_live_12 hz hC dC hl h1 d1 FU v8 (0 : Int32) S
def gX6_ofThing (C : SV) (l1 : Int32) (l2 : Int32) (S : SV) : Option (Int32) :=
  if (3 : Int32) < l1 then (
    some (-2 : Int32)
  ) else (
    (gX0_hasThing l2 C).bind fun x10 =>
    if x10 = (0 : Int32) then (
      some (-2 : Int32)
    ) else (
      (gX6_isThere C l2 S).bind fun x21 =>
      if x21 = (0 : Int32) then (
        some (0 : Int32)
      ) else (
        if l1 = (3 : Int32) then (
          (gX6_bears C l2 S).bind fun x36 =>
          some x36
        ) else (
          if l1 = (1 : Int32) then (
            (rA 8 (S.2.1 1) l2).bind fun x50 =>
            some x50
          ) else (
            (rA 8 (S.2.1 2) l2).bind fun x59 =>
            some x59
          )
        )
      )
    )
  )
set_option maxRecDepth 100000 in
theorem eX6_ofThing {z : AH} {a : Nat} {ρ : RV} {S : SV} (hR : RD 5 a ρ S z) {c : Nat} {ρC : RV} {C : SV} (hC : RD 0 c ρC C z) (hl : ρ.1 0 = some c) (l1 : Int32) (l2 : Int32) : fX6_ofThing a l1 l2 z = gX6_ofThing C l1 l2 S := by
  unfold fX6_ofThing gX6_ofThing
  refine eo (isO_rd hR) ?_
  refine ei0 (fun _ => ?_) (fun _ => ?_)
  · skip
    rfl
  · skip
    refine sb ((gR_rd hR rfl).trans hl) ?_
    refine eb0 (eX0_hasThing hC l2) (fun x10 => ?_)
    refine ei0 (fun _ => ?_) (fun _ => ?_)
    · skip
      rfl
    · skip
      refine eb0 (eX6_isThere (ρ := ρ) hR hC hl l2) (fun x21 => ?_)
      refine ei0 (fun _ => ?_) (fun _ => ?_)
      · skip
        rfl
      · skip
        refine ei0 (fun _ => ?_) (fun _ => ?_)
        · skip
          refine eb0 (eX6_bears (ρ := ρ) hR hC hl l2) (fun x36 => ?_)
          rfl
        · skip
          refine ei0 (fun _ => ?_) (fun _ => ?_)
          · skip
            refine sb (gN_rd hR rfl (Or.inl rfl)) ?_
            refine eb0 (ixI_rd hR (k := 1) rfl rfl (by decide) 0 rfl (by decide) _) (fun x50 => ?_)
            rfl
          · skip
            refine sb (gN_rd hR rfl (Or.inl rfl)) ?_
            refine eb0 (ixI_rd hR (k := 2) rfl rfl (by decide) 0 rfl (by decide) _) (fun x59 => ?_)
            rfl
def gX6_answer (C : SV) (l1 : Int32) (S : SV) : Option (Int32) :=
  if l1 = (0 : Int32) then (
    some (S.1 5)
  ) else (
    if l1 = (1 : Int32) then (
      some (S.1 6)
    ) else (
      if l1 = (2 : Int32) then (
        some (S.1 8)
      ) else (
        if l1 = (3 : Int32) then (
          some (S.1 9)
        ) else (
          if l1 = (4 : Int32) then (
            some (S.1 10)
          ) else (
            if (10 : Int32) ≤ l1 then (
              (gX6_ofThing C (l1 / (10 : Int32)) (irem l1 (10 : Int32)) S).bind fun x81 =>
              some x81
            ) else (
              some (-2 : Int32)
            )
          )
        )
      )
    )
  )
set_option maxRecDepth 100000 in
theorem eX6_answer {z : AH} {a : Nat} {ρ : RV} {S : SV} (hR : RD 5 a ρ S z) {c : Nat} {ρC : RV} {C : SV} (hC : RD 0 c ρC C z) (hl : ρ.1 0 = some c) (l1 : Int32) : fX6_answer a l1 z = gX6_answer C l1 S := by
  unfold fX6_answer gX6_answer
  refine eo (isO_rd hR) ?_
  refine ei0 (fun _ => ?_) (fun _ => ?_)
  · skip
    refine sb (gI_rd hR rfl) ?_
    rfl
  · skip
    refine ei0 (fun _ => ?_) (fun _ => ?_)
    · skip
      refine sb (gI_rd hR rfl) ?_
      rfl
    · skip
      refine ei0 (fun _ => ?_) (fun _ => ?_)
      · skip
        refine sb (gI_rd hR rfl) ?_
        rfl
      · skip
        refine ei0 (fun _ => ?_) (fun _ => ?_)
        · skip
          refine sb (gI_rd hR rfl) ?_
          rfl
        · skip
          refine ei0 (fun _ => ?_) (fun _ => ?_)
          · skip
            refine sb (gI_rd hR rfl) ?_
            rfl
          · skip
            refine ei0 (fun _ => ?_) (fun _ => ?_)
            · skip
              refine eb0 (eX6_ofThing (ρ := ρ) hR hC hl (l1 / (10 : Int32)) (irem l1 (10 : Int32))) (fun x81 => ?_)
              rfl
            · skip
              rfl
def gbX6_busiest_6 (k6 : Int32 → Int32 → Int32 → Option (Int32)) (C : SV) (l1 : Int32) (l2 : Int32) (l3 : Int32) (S : SV) : Option (Int32) :=
  if (Int32.ofNat 4) ≤ l3 then (
    some l1
  ) else (
    (rA 4 (S.2.1 3) l3).bind fun x20 =>
    if x20 ≤ l2 then (
      nm (l3 + (1 : Int32)) fun v34 =>
      k6 l1 l2 v34
    ) else (
      (rA 4 (S.2.1 3) l3).bind fun x32 =>
      nm (l3 + (1 : Int32)) fun v34 =>
      k6 l3 x32 v34
    )
  )
set_option maxRecDepth 100000 in
theorem ebX6_busiest_6 {z : AH} {a : Nat} {ρ : RV} {S : SV} (hR : RD 5 a ρ S z) {c : Nat} {ρC : RV} {C : SV} (hC : RD 0 c ρC C z) (hl : ρ.1 0 = some c) {k6 : Nat → Int32 → Int32 → Int32 → Option (Int32)} {k6' : Int32 → Int32 → Int32 → Option (Int32)} (hk6 : ∀ (l1 : Int32) (l2 : Int32) (l3 : Int32), k6 a l1 l2 l3 = k6' l1 l2 l3) (l1 : Int32) (l2 : Int32) (l3 : Int32) : bX6_busiest_6 k6 a l1 l2 l3 z = gbX6_busiest_6 k6' C l1 l2 l3 S := by
  unfold bX6_busiest_6 gbX6_busiest_6
  refine sb (gN_rd hR rfl (Or.inl rfl)) ?_
  refine sb (lnI_rd hR (k := 3) rfl rfl (by decide) 0 rfl (by decide)) ?_
  refine ei0 (fun _ => ?_) (fun _ => ?_)
  · skip
    rfl
  · skip
    refine sb (gN_rd hR rfl (Or.inl rfl)) ?_
    refine eb0 (ixI_rd hR (k := 3) rfl rfl (by decide) 0 rfl (by decide) _) (fun x20 => ?_)
    refine ei0 (fun _ => ?_) (fun _ => ?_)
    · skip
      refine en0 (fun v34 => ?_)
      exact hk6 l1 l2 v34
    · skip
      refine sb (gN_rd hR rfl (Or.inl rfl)) ?_
      refine eb0 (ixI_rd hR (k := 3) rfl rfl (by decide) 0 rfl (by decide) _) (fun x32 => ?_)
      refine en0 (fun v34 => ?_)
      exact hk6 l3 x32 v34
def gfX6_busiest_6 (C : SV) (S : SV) : Nat → Int32 → Int32 → Int32 → Option (Int32)
  | 0, _, _, _ => none
  | n + 1, l1, l2, l3 => gbX6_busiest_6 (gfX6_busiest_6 C S n) C l1 l2 l3 S
theorem efX6_busiest_6 {z : AH} {a : Nat} {ρ : RV} {S : SV} (hR : RD 5 a ρ S z) {c : Nat} {ρC : RV} {C : SV} (hC : RD 0 c ρC C z) (hl : ρ.1 0 = some c) : ∀ (n : Nat) (l1 : Int32) (l2 : Int32) (l3 : Int32), fX6_busiest_6 z n a l1 l2 l3 = gfX6_busiest_6 C S n l1 l2 l3 := by
  intro n
  induction n with
  | zero => intros; rfl
  | succ n ih => intro l1 l2 l3; exact ebX6_busiest_6 hR hC hl (fun l1 l2 l3 => ih l1 l2 l3) l1 l2 l3
def gX6_busiest (C : SV) (S : SV) : Option (Int32) :=
  gfX6_busiest_6 C S FU (-1 : Int32) (0 : Int32) (0 : Int32)
set_option maxRecDepth 100000 in
theorem eX6_busiest {z : AH} {a : Nat} {ρ : RV} {S : SV} (hR : RD 5 a ρ S z) {c : Nat} {ρC : RV} {C : SV} (hC : RD 0 c ρC C z) (hl : ρ.1 0 = some c) : fX6_busiest a z = gX6_busiest C S := by
  unfold fX6_busiest gX6_busiest
  refine eo (isO_rd hR) ?_
  exact efX6_busiest_6 hR hC hl FU (-1 : Int32) (0 : Int32) (0 : Int32)
def gX6_below (C : SV) (l1 : Int32) (S : SV) : Option (Int32 × SV) :=
  nm (wI S 14 (((S.1 14) * (1103515245 : Int32)) + (12345 : Int32))) fun S12 =>
  if l1 ≤ (0 : Int32) then (
    some ((0 : Int32), S12)
  ) else (
    if ¬ l1 = 0 then (
      some ((irem (ush (S12.1 14) (16 : Int32)) l1), S12)
    ) else (
      none
    )
  )
set_option maxRecDepth 100000 in
theorem eX6_below {z : AH} {a : Nat} {ρ : RV} (hz : a + szV 5 ≤ z.length) {c : Nat} {ρC : RV} {C : SV} (hC : RD 0 c ρC C z) (dC : c + szV 0 ≤ a ∨ a + szV 5 ≤ c) (hl : ρ.1 0 = some c) (l1 : Int32) (S : SV) : fX6_below a l1 (wr 5 a ρ S z) = (gX6_below C l1 S).map (fun q => (q.1, wr 5 a ρ q.2 z)) := by
  unfold fX6_below gX6_below
  refine eo (isO_rd (rd_wr hz)) ?_
  refine sb (gI_rd (rd_wr hz) rfl) ?_
  refine ep (f := (fun S => wr 5 a ρ S z)) (pF_int hz rfl _) (fun S12 => ?_)
  refine ei (fun _ => ?_) (fun _ => ?_)
  · skip
    rfl
  · skip
    refine sb (gI_rd (rd_wr hz) rfl) ?_
    refine ei (fun _ => ?_) (fun _ => ?_)
    · skip
      rfl
    · skip
      rfl
def gbX6_drawDeed_143 (C : SV) (s1 : Int32) (s2 : Int32) (S : SV) : Option SV :=
  b2 (gX6_act C s1 s2 (-1 : Int32) S) fun x144 S144 =>
  some S144
set_option maxRecDepth 100000 in
theorem ebX6_drawDeed_143 {z : AH} {a : Nat} {ρ : RV} (hz : a + szV 5 ≤ z.length) {c : Nat} {ρC : RV} {C : SV} (hC : RD 0 c ρC C z) (dC : c + szV 0 ≤ a ∨ a + szV 5 ≤ c) (hl : ρ.1 0 = some c) (s1 : Int32) (s2 : Int32) (S : SV) : bX6_drawDeed_143 a s1 s2 (wr 5 a ρ S z) = (gbX6_drawDeed_143 C s1 s2 S).map (fun S => wr 5 a ρ S z) := by
  unfold bX6_drawDeed_143 gbX6_drawDeed_143
  refine e2m (f := (fun S => wr 5 a ρ S z)) (eX6_act (ρ := ρ) hz hC dC hl s1 s2 (-1 : Int32) S) (fun x144 S144 => ?_)
  rfl
def gbX6_drawDeed_103 (C : SV) (l1 : Int32) (l2 : Int32) (l4 : Int32) (s0 : Int32) (S : SV) : Option SV :=
  if (2 : Int32) < l1 then (
    if l2 = (0 : Int32) then (
      gbX6_drawDeed_143 C ((imin l1 (6 : Int32)) - (2 : Int32)) s0 S
    ) else (
      gbX6_drawDeed_143 C ((imin l1 (6 : Int32)) - (2 : Int32)) l4 S
    )
  ) else (
    b2 (gX6_act C (0 : Int32) l4 s0 S) fun x116 S116 =>
    some S116
  )
set_option maxRecDepth 100000 in
theorem ebX6_drawDeed_103 {z : AH} {a : Nat} {ρ : RV} (hz : a + szV 5 ≤ z.length) {c : Nat} {ρC : RV} {C : SV} (hC : RD 0 c ρC C z) (dC : c + szV 0 ≤ a ∨ a + szV 5 ≤ c) (hl : ρ.1 0 = some c) (l1 : Int32) (l2 : Int32) (l4 : Int32) (s0 : Int32) (S : SV) : bX6_drawDeed_103 a l1 l2 l4 s0 (wr 5 a ρ S z) = (gbX6_drawDeed_103 C l1 l2 l4 s0 S).map (fun S => wr 5 a ρ S z) := by
  unfold bX6_drawDeed_103 gbX6_drawDeed_103
  refine ei (fun _ => ?_) (fun _ => ?_)
  · skip
    refine ei (fun _ => ?_) (fun _ => ?_)
    · skip
      exact ebX6_drawDeed_143 hz hC dC hl ((imin l1 (6 : Int32)) - (2 : Int32)) s0 S
    · skip
      exact ebX6_drawDeed_143 hz hC dC hl ((imin l1 (6 : Int32)) - (2 : Int32)) l4 S
  · skip
    refine e2m (f := (fun S => wr 5 a ρ S z)) (eX6_act (ρ := ρ) hz hC dC hl (0 : Int32) l4 s0 S) (fun x116 S116 => ?_)
    rfl
def gbX6_drawDeed_82 (C : SV) (l1 : Int32) (l2 : Int32) (l3 : Int32) (s0 : Int32) (S : SV) : Option SV :=
  if l3 = (0 : Int32) then (
    gbX6_drawDeed_103 C l1 l2 s0 (-1 : Int32) S
  ) else (
    b2 (gX6_below C (C.1 0) S) fun x96 S96 =>
    gbX6_drawDeed_103 C l1 l2 s0 x96 S96
  )
set_option maxRecDepth 100000 in
theorem ebX6_drawDeed_82 {z : AH} {a : Nat} {ρ : RV} (hz : a + szV 5 ≤ z.length) {c : Nat} {ρC : RV} {C : SV} (hC : RD 0 c ρC C z) (dC : c + szV 0 ≤ a ∨ a + szV 5 ≤ c) (hl : ρ.1 0 = some c) (l1 : Int32) (l2 : Int32) (l3 : Int32) (s0 : Int32) (S : SV) : bX6_drawDeed_82 a l1 l2 l3 s0 (wr 5 a ρ S z) = (gbX6_drawDeed_82 C l1 l2 l3 s0 S).map (fun S => wr 5 a ρ S z) := by
  unfold bX6_drawDeed_82 gbX6_drawDeed_82
  refine ei (fun _ => ?_) (fun _ => ?_)
  · skip
    exact ebX6_drawDeed_103 hz hC dC hl l1 l2 s0 (-1 : Int32) S
  · skip
    refine sb ((gR_rd (rd_wr hz) rfl).trans hl) ?_
    refine sb (gI_rd (hC.far dC) rfl) ?_
    refine e2m (f := (fun S => wr 5 a ρ S z)) (eX6_below (ρ := ρ) hz hC dC hl (C.1 0) S) (fun x96 S96 => ?_)
    exact ebX6_drawDeed_103 hz hC dC hl l1 l2 s0 x96 S96
def gbX6_drawDeed_63 (C : SV) (l1 : Int32) (l2 : Int32) (l3 : Int32) (S : SV) : Option SV :=
  if l2 = (0 : Int32) then (
    gbX6_drawDeed_82 C l1 l2 l3 (-1 : Int32) S
  ) else (
    b2 (gX6_below C (C.1 14) S) fun x75 S75 =>
    gbX6_drawDeed_82 C l1 l2 l3 x75 S75
  )
set_option maxRecDepth 100000 in
theorem ebX6_drawDeed_63 {z : AH} {a : Nat} {ρ : RV} (hz : a + szV 5 ≤ z.length) {c : Nat} {ρC : RV} {C : SV} (hC : RD 0 c ρC C z) (dC : c + szV 0 ≤ a ∨ a + szV 5 ≤ c) (hl : ρ.1 0 = some c) (l1 : Int32) (l2 : Int32) (l3 : Int32) (S : SV) : bX6_drawDeed_63 a l1 l2 l3 (wr 5 a ρ S z) = (gbX6_drawDeed_63 C l1 l2 l3 S).map (fun S => wr 5 a ρ S z) := by
  unfold bX6_drawDeed_63 gbX6_drawDeed_63
  refine ei (fun _ => ?_) (fun _ => ?_)
  · skip
    exact ebX6_drawDeed_82 hz hC dC hl l1 l2 l3 (-1 : Int32) S
  · skip
    refine sb ((gR_rd (rd_wr hz) rfl).trans hl) ?_
    refine sb (gI_rd (hC.far dC) rfl) ?_
    refine e2m (f := (fun S => wr 5 a ρ S z)) (eX6_below (ρ := ρ) hz hC dC hl (C.1 14) S) (fun x75 S75 => ?_)
    exact ebX6_drawDeed_82 hz hC dC hl l1 l2 l3 x75 S75
def gbX6_drawDeed_48 (C : SV) (l1 : Int32) (l2 : Int32) (l3 : Int32) (S : SV) : Option SV :=
  if l3 = (0 : Int32) then (
    gbX6_drawDeed_63 C l1 l2 l3 S
  ) else (
    if (C.1 0) = (0 : Int32) then (
      some S
    ) else (
      gbX6_drawDeed_63 C l1 l2 l3 S
    )
  )
set_option maxRecDepth 100000 in
theorem ebX6_drawDeed_48 {z : AH} {a : Nat} {ρ : RV} (hz : a + szV 5 ≤ z.length) {c : Nat} {ρC : RV} {C : SV} (hC : RD 0 c ρC C z) (dC : c + szV 0 ≤ a ∨ a + szV 5 ≤ c) (hl : ρ.1 0 = some c) (l1 : Int32) (l2 : Int32) (l3 : Int32) (S : SV) : bX6_drawDeed_48 a l1 l2 l3 (wr 5 a ρ S z) = (gbX6_drawDeed_48 C l1 l2 l3 S).map (fun S => wr 5 a ρ S z) := by
  unfold bX6_drawDeed_48 gbX6_drawDeed_48
  refine ei (fun _ => ?_) (fun _ => ?_)
  · skip
    exact ebX6_drawDeed_63 hz hC dC hl l1 l2 l3 S
  · skip
    refine sb ((gR_rd (rd_wr hz) rfl).trans hl) ?_
    refine sb (gI_rd (hC.far dC) rfl) ?_
    refine ei (fun _ => ?_) (fun _ => ?_)
    · skip
      rfl
    · skip
      exact ebX6_drawDeed_63 hz hC dC hl l1 l2 l3 S
def gbX6_drawDeed_33 (C : SV) (l1 : Int32) (l2 : Int32) (s0 : Int32) (S : SV) : Option SV :=
  if l2 = (0 : Int32) then (
    gbX6_drawDeed_48 C l1 l2 s0 S
  ) else (
    if (C.1 14) = (0 : Int32) then (
      some S
    ) else (
      gbX6_drawDeed_48 C l1 l2 s0 S
    )
  )
set_option maxRecDepth 100000 in
theorem ebX6_drawDeed_33 {z : AH} {a : Nat} {ρ : RV} (hz : a + szV 5 ≤ z.length) {c : Nat} {ρC : RV} {C : SV} (hC : RD 0 c ρC C z) (dC : c + szV 0 ≤ a ∨ a + szV 5 ≤ c) (hl : ρ.1 0 = some c) (l1 : Int32) (l2 : Int32) (s0 : Int32) (S : SV) : bX6_drawDeed_33 a l1 l2 s0 (wr 5 a ρ S z) = (gbX6_drawDeed_33 C l1 l2 s0 S).map (fun S => wr 5 a ρ S z) := by
  unfold bX6_drawDeed_33 gbX6_drawDeed_33
  refine ei (fun _ => ?_) (fun _ => ?_)
  · skip
    exact ebX6_drawDeed_48 hz hC dC hl l1 l2 s0 S
  · skip
    refine sb ((gR_rd (rd_wr hz) rfl).trans hl) ?_
    refine sb (gI_rd (hC.far dC) rfl) ?_
    refine ei (fun _ => ?_) (fun _ => ?_)
    · skip
      rfl
    · skip
      exact ebX6_drawDeed_48 hz hC dC hl l1 l2 s0 S
def gbX6_drawDeed_28 (C : SV) (l1 : Int32) (l2 : Int32) (S : SV) : Option SV :=
  gbX6_drawDeed_33 C l1 l2 (1 : Int32) S
set_option maxRecDepth 100000 in
theorem ebX6_drawDeed_28 {z : AH} {a : Nat} {ρ : RV} (hz : a + szV 5 ≤ z.length) {c : Nat} {ρC : RV} {C : SV} (hC : RD 0 c ρC C z) (dC : c + szV 0 ≤ a ∨ a + szV 5 ≤ c) (hl : ρ.1 0 = some c) (l1 : Int32) (l2 : Int32) (S : SV) : bX6_drawDeed_28 a l1 l2 (wr 5 a ρ S z) = (gbX6_drawDeed_28 C l1 l2 S).map (fun S => wr 5 a ρ S z) := by
  unfold bX6_drawDeed_28 gbX6_drawDeed_28
  exact ebX6_drawDeed_33 hz hC dC hl l1 l2 (1 : Int32) S
def gbX6_drawDeed_17 (C : SV) (l1 : Int32) (s0 : Int32) (S : SV) : Option SV :=
  if l1 ≤ (2 : Int32) then (
    gbX6_drawDeed_28 C l1 s0 S
  ) else (
    if l1 = (5 : Int32) then (
      gbX6_drawDeed_28 C l1 s0 S
    ) else (
      gbX6_drawDeed_33 C l1 s0 (0 : Int32) S
    )
  )
set_option maxRecDepth 100000 in
theorem ebX6_drawDeed_17 {z : AH} {a : Nat} {ρ : RV} (hz : a + szV 5 ≤ z.length) {c : Nat} {ρC : RV} {C : SV} (hC : RD 0 c ρC C z) (dC : c + szV 0 ≤ a ∨ a + szV 5 ≤ c) (hl : ρ.1 0 = some c) (l1 : Int32) (s0 : Int32) (S : SV) : bX6_drawDeed_17 a l1 s0 (wr 5 a ρ S z) = (gbX6_drawDeed_17 C l1 s0 S).map (fun S => wr 5 a ρ S z) := by
  unfold bX6_drawDeed_17 gbX6_drawDeed_17
  refine ei (fun _ => ?_) (fun _ => ?_)
  · skip
    exact ebX6_drawDeed_28 hz hC dC hl l1 s0 S
  · skip
    refine ei (fun _ => ?_) (fun _ => ?_)
    · skip
      exact ebX6_drawDeed_28 hz hC dC hl l1 s0 S
    · skip
      exact ebX6_drawDeed_33 hz hC dC hl l1 s0 (0 : Int32) S
def gX6_drawDeed (C : SV) (S : SV) : Option SV :=
  b2 (gX6_below C (8 : Int32) S) fun x3 S3 =>
  if (4 : Int32) < x3 then (
    gbX6_drawDeed_17 C x3 (0 : Int32) S3
  ) else (
    gbX6_drawDeed_17 C x3 (1 : Int32) S3
  )
set_option maxRecDepth 100000 in
theorem eX6_drawDeed {z : AH} {a : Nat} {ρ : RV} (hz : a + szV 5 ≤ z.length) {c : Nat} {ρC : RV} {C : SV} (hC : RD 0 c ρC C z) (dC : c + szV 0 ≤ a ∨ a + szV 5 ≤ c) (hl : ρ.1 0 = some c) (S : SV) : fX6_drawDeed a (wr 5 a ρ S z) = (gX6_drawDeed C S).map (fun S => wr 5 a ρ S z) := by
  unfold fX6_drawDeed gX6_drawDeed
  refine eo (isO_rd (rd_wr hz)) ?_
  refine e2m (f := (fun S => wr 5 a ρ S z)) (eX6_below (ρ := ρ) hz hC dC hl (8 : Int32) S) (fun x3 S3 => ?_)
  refine ei (fun _ => ?_) (fun _ => ?_)
  · skip
    exact ebX6_drawDeed_17 hz hC dC hl x3 (0 : Int32) S3
  · skip
    exact ebX6_drawDeed_17 hz hC dC hl x3 (1 : Int32) S3
