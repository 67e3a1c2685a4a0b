theorem rkOk9 : rkOk 9 = true := by decide +kernel
theorem lng9 {m : Nat} : ∀ j, j ≠ 15 → ∀ r, (dsc 9 m)[j]? ≠ some (5, r) := by
  intro j hj r h
  have h2 := (List.getElem?_eq_some_iff.mp h).1
  have h3 : j < 56 := h2
  have key : ∀ j, j < 56 → j ≠ 15 → ((dsc 9 0).getD j (0, 0, 0, 0)).1 ≠ 5 := by decide +kernel
  refine key j h3 hj ?_
  rw [List.getD_eq_getElem?_getD, show (dsc 9 0)[j]? = _ from h]; rfl
/-- rows of ints by a number that is not fixed -/
def aLen (c k : Nat) : Nat := ((dsc c 0).getD k (0, 0, 0, 0)).2.2.1
def aOff (c k : Nat) : Nat := ((dsc c 0).getD k (0, 0, 0, 0)).2.1
def arrI (c k : Nat) : Bool := decide (k < (dsc c 0).length) && decide (((dsc c 0).getD k (0, 0, 0, 0)).1 = 1) && decide (0 < aOff c k) && decide (rk c (aOff c k) = some k)
theorem aI1 {c k : Nat} (h : arrI c k = true) : (dsc c 0)[k]? = some (0 + 1, aOff c k, aLen c k, ((dsc c 0).getD k (0, 0, 0, 0)).2.2.2) := by
  simp only [arrI, Bool.and_eq_true, decide_eq_true_eq] at h
  obtain ⟨⟨⟨h1, h2⟩, -⟩, -⟩ := h
  rw [List.getElem?_eq_getElem h1]
  unfold aOff aLen
  rw [List.getD_eq_getElem?_getD, List.getElem?_eq_getElem h1] at h2 ⊢
  simp only [Option.getD_some] at h2 ⊢
  generalize (dsc c 0)[k] = q at h2 ⊢
  obtain ⟨q1, q2, q3, q4⟩ := q
  cases h2
  rfl
theorem aI2 {c k : Nat} (h : arrI c k = true) : rk c (aOff c k) = some k := by
  simp only [arrI, Bool.and_eq_true, decide_eq_true_eq] at h
  exact h.2
theorem aI3 {c k : Nat} (h : arrI c k = true) : 0 < aOff c k := by
  simp only [arrI, Bool.and_eq_true, decide_eq_true_eq] at h
  exact h.1.2
def gbX10_copyRow_3 (k3 : Nat → Int32 → Int32 → Int32 → Int32 → SV → Option SV) (a0 : Nat) (l1 : Int32) (l2 : Int32) (l3 : Int32) (l4 : Int32) (S : SV) : Option SV :=
  if l1 ≤ l4 then (
    some S
  ) else (
    (rA (aLen 9 a0) (S.2.1 a0) ((l1 * l2) + l4)).bind fun x23 =>
    (wA a0 (aLen 9 a0) S ((l1 * l3) + l4) x23).bind fun S24 =>
    nm (l4 + (1 : Int32)) fun v25 =>
    k3 a0 l1 l2 l3 v25 S24
  )
set_option maxRecDepth 100000 in
theorem ebX10_copyRow_3 {a : Nat} {ρ : RV} {z : AH} (hz : a + szV 9 ≤ z.length) {k3 : Nat → Int32 → Int32 → Int32 → Int32 → AH → Option AH} {k3' : Nat → Int32 → Int32 → Int32 → Int32 → SV → Option SV} (hk3 : ∀ (a0 : Nat) (l1 : Int32) (l2 : Int32) (l3 : Int32) (l4 : Int32) (S : SV), arrI 9 a0 = true → k3 (a + aOff 9 a0) l1 l2 l3 l4 (wr 9 a ρ S z) = (k3' a0 l1 l2 l3 l4 S).map (fun S => wr 9 a ρ S z)) (a0 : Nat) (l1 : Int32) (l2 : Int32) (l3 : Int32) (l4 : Int32) (S : SV) (r_a0 : arrI 9 a0 = true) : bX10_copyRow_3 k3 (a + aOff 9 a0) l1 l2 l3 l4 (wr 9 a ρ S z) = (gbX10_copyRow_3 k3' a0 l1 l2 l3 l4 S).map (fun S => wr 9 a ρ S z) := by
  unfold bX10_copyRow_3 gbX10_copyRow_3
  refine ei (fun _ => ?_) (fun _ => ?_)
  · skip
    rfl
  · skip
    refine eb (ixI_rd (rd_wr hz) (aI1 r_a0) (aI2 r_a0) (aI3 r_a0) 0 rfl (by decide) _) (fun x23 => ?_)
    refine em (f := (fun S => wr 9 a ρ S z)) (stI_rd rkOk9 hz (aI1 r_a0) (aI2 r_a0) (aI3 r_a0) 0 rfl (by decide) _ _) (fun S24 => ?_)
    refine en (fun v25 => ?_)
    exact hk3 a0 l1 l2 l3 v25 S24 r_a0
def gfX10_copyRow_3 : Nat → Nat → Int32 → Int32 → Int32 → Int32 → SV → Option SV
  | 0, _, _, _, _, _, _ => none
  | n + 1, a0, l1, l2, l3, l4, S => gbX10_copyRow_3 (gfX10_copyRow_3 n) a0 l1 l2 l3 l4 S
theorem efX10_copyRow_3 {a : Nat} {ρ : RV} {z : AH} (hz : a + szV 9 ≤ z.length) : ∀ (n : Nat) (a0 : Nat) (l1 : Int32) (l2 : Int32) (l3 : Int32) (l4 : Int32) (S : SV), arrI 9 a0 = true → fX10_copyRow_3 n (a + aOff 9 a0) l1 l2 l3 l4 (wr 9 a ρ S z) = (gfX10_copyRow_3 n a0 l1 l2 l3 l4 S).map (fun S => wr 9 a ρ S z) := by
  intro n
  induction n with
  | zero => intros; rfl
  | succ n ih => intro a0 l1 l2 l3 l4 S r_a0; exact ebX10_copyRow_3 hz (fun a0 l1 l2 l3 l4 S r_a0 => ih a0 l1 l2 l3 l4 S r_a0) a0 l1 l2 l3 l4 S r_a0
def gX10_copyRow (a0 : Nat) (l1 : Int32) (l2 : Int32) (l3 : Int32) (S : SV) : Option SV :=
  gfX10_copyRow_3 FU a0 l1 l2 l3 (0 : Int32) S
set_option maxRecDepth 100000 in
theorem eX10_copyRow {a : Nat} {ρ : RV} {z : AH} (hz : a + szV 9 ≤ z.length) (a0 : Nat) (l1 : Int32) (l2 : Int32) (l3 : Int32) (S : SV) (r_a0 : arrI 9 a0 = true) : fX10_copyRow (a + aOff 9 a0) l1 l2 l3 (wr 9 a ρ S z) = (gX10_copyRow a0 l1 l2 l3 S).map (fun S => wr 9 a ρ S z) := by
  unfold fX10_copyRow gX10_copyRow
  exact efX10_copyRow_3 hz FU a0 l1 l2 l3 (0 : Int32) S r_a0
def gbX10_copyAll_2 (k2 : Int32 → Int32 → Int32 → SV → Option SV) (l1 : Int32) (l2 : Int32) (l3 : Int32) (S : SV) : Option SV :=
  if (600 : Int32) ≤ l3 then (
    (gX10_copyRow 2 (1 : Int32) l1 l2 S).bind fun S46 =>
    (gX10_copyRow 3 (1 : Int32) l1 l2 S46).bind fun S56 =>
    (gX10_copyRow 4 (1 : Int32) l1 l2 S56).bind fun S66 =>
    (gX10_copyRow 5 (4 : Int32) l1 l2 S66).bind fun S76 =>
    (gX10_copyRow 6 (220 : Int32) l1 l2 S76).bind fun S88 =>
    (gX10_copyRow 7 (242 : Int32) l1 l2 S88).bind fun S100 =>
    (gX10_copyRow 8 (34 : Int32) l1 l2 S100).bind fun S111 =>
    (gX10_copyRow 9 (98 : Int32) l1 l2 S111).bind fun S122 =>
    some S122
  ) else (
    (rA 2400 (S.2.1 1) (((600 : Int32) * l1) + l3)).bind fun x31 =>
    (wA 1 2400 S (((600 : Int32) * l2) + l3) (vp_nar .byte x31)).bind fun S32 =>
    nm (l3 + (1 : Int32)) fun v33 =>
    k2 l1 l2 v33 S32
  )
set_option maxRecDepth 100000 in
theorem ebX10_copyAll_2 {a : Nat} {ρ : RV} {z : AH} (hz : a + szV 9 ≤ z.length) {k2 : Nat → Int32 → Int32 → Int32 → AH → Option AH} {k2' : Int32 → Int32 → Int32 → SV → Option SV} (hk2 : ∀ (l1 : Int32) (l2 : Int32) (l3 : Int32) (S : SV), k2 a l1 l2 l3 (wr 9 a ρ S z) = (k2' l1 l2 l3 S).map (fun S => wr 9 a ρ S z)) (l1 : Int32) (l2 : Int32) (l3 : Int32) (S : SV) : bX10_copyAll_2 k2 a l1 l2 l3 (wr 9 a ρ S z) = (gbX10_copyAll_2 k2' l1 l2 l3 S).map (fun S => wr 9 a ρ S z) := by
  unfold bX10_copyAll_2 gbX10_copyAll_2
  refine ei (fun _ => ?_) (fun _ => ?_)
  · skip
    refine sb (gN_rd (rd_wr hz) rfl (Or.inl rfl)) ?_
    refine em (f := (fun S => wr 9 a ρ S z)) (eX10_copyRow hz 2 (1 : Int32) l1 l2 S rfl) (fun S46 => ?_)
    refine sb (gN_rd (rd_wr hz) rfl (Or.inl rfl)) ?_
    refine em (f := (fun S => wr 9 a ρ S z)) (eX10_copyRow hz 3 (1 : Int32) l1 l2 S46 rfl) (fun S56 => ?_)
    refine sb (gN_rd (rd_wr hz) rfl (Or.inl rfl)) ?_
    refine em (f := (fun S => wr 9 a ρ S z)) (eX10_copyRow hz 4 (1 : Int32) l1 l2 S56 rfl) (fun S66 => ?_)
    refine sb (gN_rd (rd_wr hz) rfl (Or.inl rfl)) ?_
    refine em (f := (fun S => wr 9 a ρ S z)) (eX10_copyRow hz 5 (4 : Int32) l1 l2 S66 rfl) (fun S76 => ?_)
    refine sb (gN_rd (rd_wr hz) rfl (Or.inl rfl)) ?_
    refine em (f := (fun S => wr 9 a ρ S z)) (eX10_copyRow hz 6 (220 : Int32) l1 l2 S76 rfl) (fun S88 => ?_)
    refine sb (gN_rd (rd_wr hz) rfl (Or.inl rfl)) ?_
    refine em (f := (fun S => wr 9 a ρ S z)) (eX10_copyRow hz 7 (242 : Int32) l1 l2 S88 rfl) (fun S100 => ?_)
    refine sb (gN_rd (rd_wr hz) rfl (Or.inl rfl)) ?_
    refine em (f := (fun S => wr 9 a ρ S z)) (eX10_copyRow hz 8 (34 : Int32) l1 l2 S100 rfl) (fun S111 => ?_)
    refine sb (gN_rd (rd_wr hz) rfl (Or.inl rfl)) ?_
    refine em (f := (fun S => wr 9 a ρ S z)) (eX10_copyRow hz 9 (98 : Int32) l1 l2 S111 rfl) (fun S122 => ?_)
    rfl
  · skip
    refine sb (gN_rd (rd_wr hz) rfl (Or.inr (Or.inl rfl))) ?_
    refine sb (gN_rd (rd_wr hz) rfl (Or.inr (Or.inl rfl))) ?_
    refine eb (ixI_rd (rd_wr hz) (k := 1) rfl rfl (by decide) 1 rfl (by decide) _) (fun x31 => ?_)
    refine em (f := (fun S => wr 9 a ρ S z)) (stI_rd rkOk9 hz (k := 1) rfl rfl (by decide) 1 rfl (by decide) _ _) (fun S32 => ?_)
    refine en (fun v33 => ?_)
    exact hk2 l1 l2 v33 S32
def gfX10_copyAll_2 : Nat → Int32 → Int32 → Int32 → SV → Option SV
  | 0, _, _, _, _ => none
  | n + 1, l1, l2, l3, S => gbX10_copyAll_2 (gfX10_copyAll_2 n) l1 l2 l3 S
theorem efX10_copyAll_2 {a : Nat} {ρ : RV} {z : AH} (hz : a + szV 9 ≤ z.length) : ∀ (n : Nat) (l1 : Int32) (l2 : Int32) (l3 : Int32) (S : SV), fX10_copyAll_2 n a l1 l2 l3 (wr 9 a ρ S z) = (gfX10_copyAll_2 n l1 l2 l3 S).map (fun S => wr 9 a ρ S z) := by
  intro n
  induction n with
  | zero => intros; rfl
  | succ n ih => intro l1 l2 l3 S; exact ebX10_copyAll_2 hz (fun l1 l2 l3 S => ih l1 l2 l3 S) l1 l2 l3 S
def gX10_copyAll (l1 : Int32) (l2 : Int32) (S : SV) : Option SV :=
  gfX10_copyAll_2 FU l1 l2 (0 : Int32) S
set_option maxRecDepth 100000 in
theorem eX10_copyAll {a : Nat} {ρ : RV} {z : AH} (hz : a + szV 9 ≤ z.length) (l1 : Int32) (l2 : Int32) (S : SV) : fX10_copyAll a l1 l2 (wr 9 a ρ S z) = (gX10_copyAll l1 l2 S).map (fun S => wr 9 a ρ S z) := by
  unfold fX10_copyAll gX10_copyAll
  refine eo (isO_rd (rd_wr hz)) ?_
  exact efX10_copyAll_2 hz FU l1 l2 (0 : Int32) S
def gX10_is (l1 : Int32) (l2 : Int32) (S : SV) : Option (Int32) :=
  (rA 16 (S.2.1 5) l1).bind fun x7 =>
  if (fX10_in l2 (0 : Int32) (x7 - (1 : Int32))) = 0 ∨ (fX10_in l2 (0 : Int32) (x7 - (1 : Int32))) = 1 then some (fX10_in l2 (0 : Int32) (x7 - (1 : Int32))) else none
set_option maxRecDepth 100000 in
theorem eX10_is {a : Nat} {ρ : RV} {S : SV} {z : AH} (hR : RD 9 a ρ S z) (l1 : Int32) (l2 : Int32) : fX10_is a l1 l2 z = gX10_is l1 l2 S := by
  unfold fX10_is gX10_is
  refine eo (isO_rd hR) ?_
  refine sb (gN_rd hR rfl (Or.inl rfl)) ?_
  refine eb0 (ixI_rd hR (k := 5) rfl rfl (by decide) 0 rfl (by decide) _) (fun x7 => ?_)
  refine ei0 (fun _ => rfl) (fun _ => rfl)
def gbX10_four_3 (k3 : Int32 → Int32 → SV → Option SV) (l1 : Int32) (l2 : Int32) (S : SV) : Option SV :=
  if l2 < (0 : Int32) then (
    some S
  ) else (
    (rA 4 (S.2.1 2) (0 : Int32)).bind fun x16 =>
    (wA 1 2400 S x16 (vp_nar .byte (Int8.toInt32 (Int32.toInt8 (shr l1 l2))))).bind fun S21 =>
    (rA 4 (S21.2.1 2) (0 : Int32)).bind fun x28 =>
    (wA 2 4 S21 (0 : Int32) (x28 + (1 : Int32))).bind fun S31 =>
    nm (l2 + (-8 : Int32)) fun v32 =>
    k3 l1 v32 S31
  )
set_option maxRecDepth 100000 in
theorem ebX10_four_3 {a : Nat} {ρ : RV} {z : AH} (hz : a + szV 9 ≤ z.length) {k3 : Nat → Int32 → Int32 → AH → Option AH} {k3' : Int32 → Int32 → SV → Option SV} (hk3 : ∀ (l1 : Int32) (l2 : Int32) (S : SV), k3 a l1 l2 (wr 9 a ρ S z) = (k3' l1 l2 S).map (fun S => wr 9 a ρ S z)) (l1 : Int32) (l2 : Int32) (S : SV) : bX10_four_3 k3 a l1 l2 (wr 9 a ρ S z) = (gbX10_four_3 k3' l1 l2 S).map (fun S => wr 9 a ρ S z) := by
  unfold bX10_four_3 gbX10_four_3
  refine ei (fun _ => ?_) (fun _ => ?_)
  · skip
    rfl
  · skip
    refine sb (gN_rd (rd_wr hz) rfl (Or.inr (Or.inl rfl))) ?_
    refine sb (gN_rd (rd_wr hz) rfl (Or.inl rfl)) ?_
    refine eb (ixI_rd (rd_wr hz) (k := 2) rfl rfl (by decide) 0 rfl (by decide) _) (fun x16 => ?_)
    refine em (f := (fun S => wr 9 a ρ S z)) (stI_rd rkOk9 hz (k := 1) rfl rfl (by decide) 1 rfl (by decide) _ _) (fun S21 => ?_)
    refine sb (gN_rd (rd_wr hz) rfl (Or.inl rfl)) ?_
    refine eb (ixI_rd (rd_wr hz) (k := 2) rfl rfl (by decide) 0 rfl (by decide) _) (fun x28 => ?_)
    refine em (f := (fun S => wr 9 a ρ S z)) (stI_rd rkOk9 hz (k := 2) rfl rfl (by decide) 0 rfl (by decide) _ _) (fun S31 => ?_)
    refine en (fun v32 => ?_)
    exact hk3 l1 v32 S31
def gfX10_four_3 : Nat → Int32 → Int32 → SV → Option SV
  | 0, _, _, _ => none
  | n + 1, l1, l2, S => gbX10_four_3 (gfX10_four_3 n) l1 l2 S
theorem efX10_four_3 {a : Nat} {ρ : RV} {z : AH} (hz : a + szV 9 ≤ z.length) : ∀ (n : Nat) (l1 : Int32) (l2 : Int32) (S : SV), fX10_four_3 n a l1 l2 (wr 9 a ρ S z) = (gfX10_four_3 n l1 l2 S).map (fun S => wr 9 a ρ S z) := by
  intro n
  induction n with
  | zero => intros; rfl
  | succ n ih => intro l1 l2 S; exact ebX10_four_3 hz (fun l1 l2 S => ih l1 l2 S) l1 l2 S
def gX10_four (l1 : Int32) (S : SV) : Option SV :=
  gfX10_four_3 FU l1 (24 : Int32) S
set_option maxRecDepth 100000 in
theorem eX10_four {a : Nat} {ρ : RV} {z : AH} (hz : a + szV 9 ≤ z.length) (l1 : Int32) (S : SV) : fX10_four a l1 (wr 9 a ρ S z) = (gX10_four l1 S).map (fun S => wr 9 a ρ S z) := by
  unfold fX10_four gX10_four
  refine eo (isO_rd (rd_wr hz)) ?_
  exact efX10_four_3 hz FU l1 (24 : Int32) S
def gX10_feed (l1 : Int32) (l2 : Int32) (l3 : Int32) (l4 : Int32) (l5 : Int32) (S : SV) : Option (Int32 × SV) :=
  nm (wI S 0 (0 : Int32)) fun S2 =>
  (rA 4 (S2.2.1 2) (0 : Int32)).bind fun x10 =>
  if (x10 + (20 : Int32)) ≤ (600 : Int32) then (
    (gX10_four l1 S2).bind fun S24 =>
    (gX10_four l2 S24).bind fun S29 =>
    (gX10_four l3 S29).bind fun S34 =>
    (gX10_four l4 S34).bind fun S40 =>
    (gX10_four l5 S40).bind fun S46 =>
    (rA 4 (S46.2.1 2) (0 : Int32)).bind fun x54 =>
    some (x54, S46)
  ) else (
    some ((-1 : Int32), S2)
  )
set_option maxRecDepth 100000 in
theorem eX10_feed {a : Nat} {ρ : RV} {z : AH} (hz : a + szV 9 ≤ z.length) (l1 : Int32) (l2 : Int32) (l3 : Int32) (l4 : Int32) (l5 : Int32) (S : SV) : fX10_feed a l1 l2 l3 l4 l5 (wr 9 a ρ S z) = (gX10_feed l1 l2 l3 l4 l5 S).map (fun q => (q.1, wr 9 a ρ q.2 z)) := by
  unfold fX10_feed gX10_feed
  refine eo (isO_rd (rd_wr hz)) ?_
  refine ep (f := (fun S => wr 9 a ρ S z)) (pF_int hz rfl _) (fun S2 => ?_)
  refine sb (gN_rd (rd_wr hz) rfl (Or.inl rfl)) ?_
  refine eb (ixI_rd (rd_wr hz) (k := 2) rfl rfl (by decide) 0 rfl (by decide) _) (fun x10 => ?_)
  refine ei (fun _ => ?_) (fun _ => ?_)
  · skip
    refine em (f := (fun S => wr 9 a ρ S z)) (eX10_four hz l1 S2) (fun S24 => ?_)
    refine em (f := (fun S => wr 9 a ρ S z)) (eX10_four hz l2 S24) (fun S29 => ?_)
    refine em (f := (fun S => wr 9 a ρ S z)) (eX10_four hz l3 S29) (fun S34 => ?_)
    refine em (f := (fun S => wr 9 a ρ S z)) (eX10_four hz l4 S34) (fun S40 => ?_)
    refine em (f := (fun S => wr 9 a ρ S z)) (eX10_four hz l5 S40) (fun S46 => ?_)
    refine sb (gN_rd (rd_wr hz) rfl (Or.inl rfl)) ?_
    refine eb (ixI_rd (rd_wr hz) (k := 2) rfl rfl (by decide) 0 rfl (by decide) _) (fun x54 => ?_)
    rfl
  · skip
    rfl
def gX10_end (l1 : Int32) (S : SV) : Option (Int32 × SV) :=
  nm (wI S 0 (0 : Int32)) fun S2 =>
  (rA 4 (S2.2.1 2) (0 : Int32)).bind fun x12 =>
  if (fX10_in l1 (0 : Int32) x12) = (0 : Int32) then (
    some ((-1 : Int32), S2)
  ) else (
    (wA 2 4 S2 (0 : Int32) l1).bind fun S27 =>
    some (l1, S27)
  )
set_option maxRecDepth 100000 in
theorem eX10_end {a : Nat} {ρ : RV} {z : AH} (hz : a + szV 9 ≤ z.length) (l1 : Int32) (S : SV) : fX10_end a l1 (wr 9 a ρ S z) = (gX10_end l1 S).map (fun q => (q.1, wr 9 a ρ q.2 z)) := by
  unfold fX10_end gX10_end
  refine eo (isO_rd (rd_wr hz)) ?_
  refine ep (f := (fun S => wr 9 a ρ S z)) (pF_int hz rfl _) (fun S2 => ?_)
  refine sb (gN_rd (rd_wr hz) rfl (Or.inl rfl)) ?_
  refine eb (ixI_rd (rd_wr hz) (k := 2) rfl rfl (by decide) 0 rfl (by decide) _) (fun x12 => ?_)
  refine ei (fun _ => ?_) (fun _ => ?_)
  · skip
    rfl
  · skip
    refine sb (gN_rd (rd_wr hz) rfl (Or.inl rfl)) ?_
    refine em (f := (fun S => wr 9 a ρ S z)) (stI_rd rkOk9 hz (k := 2) rfl rfl (by decide) 0 rfl (by decide) _ _) (fun S27 => ?_)
    rfl
def gX10_see (S : SV) : Option (Int32) :=
  if (S.1 11) ≤ (S.1 10) then (
    some (-1 : Int32)
  ) else (
    (rA 2400 (S.2.1 1) (S.1 10)).bind fun x19 =>
    some (x19 &&& (255 : Int32))
  )
set_option maxRecDepth 100000 in
theorem eX10_see {a : Nat} {ρ : RV} {S : SV} {z : AH} (hR : RD 9 a ρ S z) : fX10_see a z = gX10_see S := by
  unfold fX10_see gX10_see
  refine eo (isO_rd hR) ?_
  refine sb (gI_rd hR rfl) ?_
  refine sb (gI_rd hR rfl) ?_
  refine ei0 (fun _ => ?_) (fun _ => ?_)
  · skip
    rfl
  · skip
    refine sb (gN_rd hR rfl (Or.inr (Or.inl rfl))) ?_
    refine sb (gI_rd hR rfl) ?_
    refine eb0 (ixI_rd hR (k := 1) rfl rfl (by decide) 1 rfl (by decide) _) (fun x19 => ?_)
    rfl
def gbX10_token_205 (k163 : Int32 → SV → Option SV) (l2 : Int32) (s1 : Int32) (S : SV) : Option SV :=
  nm (wI S 14 s1) fun S205 =>
  nm (wI S205 10 ((S205.1 10) + (1 : Int32))) fun S215 =>
  nm (l2 + (1 : Int32)) fun v218 =>
  k163 v218 S215
set_option maxRecDepth 100000 in
theorem ebX10_token_205 {a : Nat} {ρ : RV} {z : AH} (hz : a + szV 9 ≤ z.length) {k163 : Nat → Int32 → AH → Option AH} {k163' : Int32 → SV → Option SV} (hk163 : ∀ (l2 : Int32) (S : SV), k163 a l2 (wr 9 a ρ S z) = (k163' l2 S).map (fun S => wr 9 a ρ S z)) (l2 : Int32) (s1 : Int32) (S : SV) : bX10_token_205 k163 a l2 a s1 (wr 9 a ρ S z) = (gbX10_token_205 k163' l2 s1 S).map (fun S => wr 9 a ρ S z) := by
  unfold bX10_token_205 gbX10_token_205
  refine ep (f := (fun S => wr 9 a ρ S z)) (pF_int hz rfl _) (fun S205 => ?_)
  refine sb (gI_rd (rd_wr hz) rfl) ?_
  refine ep (f := (fun S => wr 9 a ρ S z)) (pF_int hz rfl _) (fun S215 => ?_)
  refine en (fun v218 => ?_)
  exact hk163 v218 S215
def gbX10_token_163 (k163 : Int32 → SV → Option SV) (l2 : Int32) (S : SV) : Option SV :=
  (gX10_see S).bind fun x164 =>
  if (fX10_in x164 (48 : Int32) (57 : Int32)) = (0 : Int32) then (
    if l2 ≤ (2 : Int32) then (
      nm (wI S 13 (3 : Int32)) fun S235 =>
      some S235
    ) else (
      nm (wI S 13 (1 : Int32)) fun S235 =>
      some S235
    )
  ) else (
    if (2 : Int32) ≤ l2 then (
      gbX10_token_205 k163 l2 (S.1 14) S
    ) else (
      (gX10_see S).bind fun x191 =>
      gbX10_token_205 k163 l2 ((((10 : Int32) * (S.1 14)) + x191) - (48 : Int32)) S
    )
  )
set_option maxRecDepth 100000 in
theorem ebX10_token_163 {a : Nat} {ρ : RV} {z : AH} (hz : a + szV 9 ≤ z.length) {k163 : Nat → Int32 → AH → Option AH} {k163' : Int32 → SV → Option SV} (hk163 : ∀ (l2 : Int32) (S : SV), k163 a l2 (wr 9 a ρ S z) = (k163' l2 S).map (fun S => wr 9 a ρ S z)) (l2 : Int32) (S : SV) : bX10_token_163 k163 a l2 (wr 9 a ρ S z) = (gbX10_token_163 k163' l2 S).map (fun S => wr 9 a ρ S z) := by
  unfold bX10_token_163 gbX10_token_163
  refine eb (eX10_see (rd_wr hz)) (fun x164 => ?_)
  refine ei (fun _ => ?_) (fun _ => ?_)
  · skip
    refine ei (fun _ => ?_) (fun _ => ?_)
    · skip
      refine ep (f := (fun S => wr 9 a ρ S z)) (pF_int hz rfl _) (fun S235 => ?_)
      rfl
    · skip
      refine ep (f := (fun S => wr 9 a ρ S z)) (pF_int hz rfl _) (fun S235 => ?_)
      rfl
  · skip
    refine ei (fun _ => ?_) (fun _ => ?_)
    · skip
      refine sb (gI_rd (rd_wr hz) rfl) ?_
      exact ebX10_token_205 hz hk163 l2 (S.1 14) S
    · skip
      refine sb (gI_rd (rd_wr hz) rfl) ?_
      refine eb (eX10_see (rd_wr hz)) (fun x191 => ?_)
      exact ebX10_token_205 hz hk163 l2 ((((10 : Int32) * (S.1 14)) + x191) - (48 : Int32)) S
def gfX10_token_163 : Nat → Int32 → SV → Option SV
  | 0, _, _ => none
  | n + 1, l2, S => gbX10_token_163 (gfX10_token_163 n) l2 S
theorem efX10_token_163 {a : Nat} {ρ : RV} {z : AH} (hz : a + szV 9 ≤ z.length) : ∀ (n : Nat) (l2 : Int32) (S : SV), fX10_token_163 n a l2 (wr 9 a ρ S z) = (gfX10_token_163 n l2 S).map (fun S => wr 9 a ρ S z) := by
  intro n
  induction n with
  | zero => intros; rfl
  | succ n ih => intro l2 S; exact ebX10_token_163 hz (fun l2 S => ih l2 S) l2 S
def gbX10_token_74 (k74 : Int32 → SV → Option SV) (l2 : Int32) (S : SV) : Option SV :=
  (gX10_see S).bind fun x75 =>
  if (fX10_in x75 (97 : Int32) (122 : Int32)) = (0 : Int32) then (
    if l2 ≤ (8 : Int32) then (
      nm (wL S S.2.2) fun S136 =>
      nm (wI S136 13 (2 : Int32)) fun S141 =>
      some S141
    ) else (
      nm (wL S (0 : Int64)) fun S136 =>
      nm (wI S136 13 (2 : Int32)) fun S141 =>
      some S141
    )
  ) else (
    (gX10_see S).bind fun x97 =>
    nm (wL S ((lshl S.2.2 (8 : Int32)) ||| (Int32.toInt64 x97))) fun S102 =>
    nm (wI S102 10 ((S102.1 10) + (1 : Int32))) fun S112 =>
    nm (l2 + (1 : Int32)) fun v115 =>
    k74 v115 S112
  )
set_option maxRecDepth 100000 in
theorem ebX10_token_74 {a : Nat} {ρ : RV} {z : AH} (hz : a + szV 9 ≤ z.length) {k74 : Nat → Int32 → AH → Option AH} {k74' : Int32 → SV → Option SV} (hk74 : ∀ (l2 : Int32) (S : SV), k74 a l2 (wr 9 a ρ S z) = (k74' l2 S).map (fun S => wr 9 a ρ S z)) (l2 : Int32) (S : SV) : bX10_token_74 k74 a l2 (wr 9 a ρ S z) = (gbX10_token_74 k74' l2 S).map (fun S => wr 9 a ρ S z) := by
  unfold bX10_token_74 gbX10_token_74
  refine eb (eX10_see (rd_wr hz)) (fun x75 => ?_)
  refine ei (fun _ => ?_) (fun _ => ?_)
  · skip
    refine ei (fun _ => ?_) (fun _ => ?_)
    · skip
      refine sb (gJ_rd (rd_wr hz) rfl) ?_
      refine ep (f := (fun S => wr 9 a ρ S z)) (pF_lng hz rfl lng9 _) (fun S136 => ?_)
      refine ep (f := (fun S => wr 9 a ρ S z)) (pF_int hz rfl _) (fun S141 => ?_)
      rfl
    · skip
      refine ep (f := (fun S => wr 9 a ρ S z)) (pF_lng hz rfl lng9 _) (fun S136 => ?_)
      refine ep (f := (fun S => wr 9 a ρ S z)) (pF_int hz rfl _) (fun S141 => ?_)
      rfl
  · skip
    refine sb (gJ_rd (rd_wr hz) rfl) ?_
    refine eb (eX10_see (rd_wr hz)) (fun x97 => ?_)
    refine ep (f := (fun S => wr 9 a ρ S z)) (pF_lng hz rfl lng9 _) (fun S102 => ?_)
    refine sb (gI_rd (rd_wr hz) rfl) ?_
    refine ep (f := (fun S => wr 9 a ρ S z)) (pF_int hz rfl _) (fun S112 => ?_)
    refine en (fun v115 => ?_)
    exact hk74 v115 S112
def gfX10_token_74 : Nat → Int32 → SV → Option SV
  | 0, _, _ => none
  | n + 1, l2, S => gbX10_token_74 (gfX10_token_74 n) l2 S
theorem efX10_token_74 {a : Nat} {ρ : RV} {z : AH} (hz : a + szV 9 ≤ z.length) : ∀ (n : Nat) (l2 : Int32) (S : SV), fX10_token_74 n a l2 (wr 9 a ρ S z) = (gfX10_token_74 n l2 S).map (fun S => wr 9 a ρ S z) := by
  intro n
  induction n with
  | zero => intros; rfl
  | succ n ih => intro l2 S; exact ebX10_token_74 hz (fun l2 S => ih l2 S) l2 S
def gbX10_token_0 (k0 : SV → Option SV) (S : SV) : Option SV :=
  (gX10_see S).bind fun x1 =>
  if x1 = (10 : Int32) then (
    nm (wI S 10 ((S.1 10) + (1 : Int32))) fun S25 =>
    k0 S25
  ) else (
    (gX10_see S).bind fun x10 =>
    if x10 = (32 : Int32) then (
      nm (wI S 10 ((S.1 10) + (1 : Int32))) fun S25 =>
      k0 S25
    ) else (
      nm (wI S 12 (S.1 10)) fun S36 =>
      (gX10_see S36).bind fun x40 =>
      nm (wL S36 (0 : Int64)) fun S46 =>
      if (0 : Int32) ≤ x40 then (
        if (fX10_in x40 (97 : Int32) (122 : Int32)) = (0 : Int32) then (
          if (fX10_in x40 (48 : Int32) (57 : Int32)) = (0 : Int32) then (
            nm (wI S46 10 ((S46.1 10) + (1 : Int32))) fun S248 =>
            if x40 = (59 : Int32) then (
              nm (wI S248 13 (4 : Int32)) fun S263 =>
              some S263
            ) else (
              nm (wI S248 13 (1 : Int32)) fun S263 =>
              some S263
            )
          ) else (
            nm (wI S46 14 (0 : Int32)) fun S160 =>
            gfX10_token_163 FU (0 : Int32) S160
          )
        ) else (
          gfX10_token_74 FU (0 : Int32) S46
        )
      ) else (
        nm (wI S46 13 (0 : Int32)) fun S57 =>
        some S57
      )
    )
  )
set_option maxRecDepth 100000 in
theorem ebX10_token_0 {a : Nat} {ρ : RV} {z : AH} (hz : a + szV 9 ≤ z.length) {k0 : Nat → AH → Option AH} {k0' : SV → Option SV} (hk0 : ∀ (S : SV), k0 a (wr 9 a ρ S z) = (k0' S).map (fun S => wr 9 a ρ S z)) (S : SV) : bX10_token_0 k0 a (wr 9 a ρ S z) = (gbX10_token_0 k0' S).map (fun S => wr 9 a ρ S z) := by
  unfold bX10_token_0 gbX10_token_0
  refine eb (eX10_see (rd_wr hz)) (fun x1 => ?_)
  refine ei (fun _ => ?_) (fun _ => ?_)
  · skip
    refine sb (gI_rd (rd_wr hz) rfl) ?_
    refine ep (f := (fun S => wr 9 a ρ S z)) (pF_int hz rfl _) (fun S25 => ?_)
    exact hk0 S25
  · skip
    refine eb (eX10_see (rd_wr hz)) (fun x10 => ?_)
    refine ei (fun _ => ?_) (fun _ => ?_)
    · skip
      refine sb (gI_rd (rd_wr hz) rfl) ?_
      refine ep (f := (fun S => wr 9 a ρ S z)) (pF_int hz rfl _) (fun S25 => ?_)
      exact hk0 S25
    · skip
      refine sb (gI_rd (rd_wr hz) rfl) ?_
      refine ep (f := (fun S => wr 9 a ρ S z)) (pF_int hz rfl _) (fun S36 => ?_)
      refine eb (eX10_see (rd_wr hz)) (fun x40 => ?_)
      refine ep (f := (fun S => wr 9 a ρ S z)) (pF_lng hz rfl lng9 _) (fun S46 => ?_)
      refine ei (fun _ => ?_) (fun _ => ?_)
      · skip
        refine ei (fun _ => ?_) (fun _ => ?_)
        · skip
          refine ei (fun _ => ?_) (fun _ => ?_)
          · skip
            refine sb (gI_rd (rd_wr hz) rfl) ?_
            refine ep (f := (fun S => wr 9 a ρ S z)) (pF_int hz rfl _) (fun S248 => ?_)
            refine ei (fun _ => ?_) (fun _ => ?_)
            · skip
              refine ep (f := (fun S => wr 9 a ρ S z)) (pF_int hz rfl _) (fun S263 => ?_)
              rfl
            · skip
              refine ep (f := (fun S => wr 9 a ρ S z)) (pF_int hz rfl _) (fun S263 => ?_)
              rfl
          · skip
            refine ep (f := (fun S => wr 9 a ρ S z)) (pF_int hz rfl _) (fun S160 => ?_)
            exact efX10_token_163 hz FU (0 : Int32) S160
        · skip
          exact efX10_token_74 hz FU (0 : Int32) S46
      · skip
        refine ep (f := (fun S => wr 9 a ρ S z)) (pF_int hz rfl _) (fun S57 => ?_)
        rfl
def gfX10_token_0 : Nat → SV → Option SV
  | 0, _ => none
  | n + 1, S => gbX10_token_0 (gfX10_token_0 n) S
theorem efX10_token_0 {a : Nat} {ρ : RV} {z : AH} (hz : a + szV 9 ≤ z.length) : ∀ (n : Nat) (S : SV), fX10_token_0 n a (wr 9 a ρ S z) = (gfX10_token_0 n S).map (fun S => wr 9 a ρ S z) := by
  intro n
  induction n with
  | zero => intros; rfl
  | succ n ih => intro S; exact ebX10_token_0 hz (fun S => ih S) S
def gX10_token (S : SV) : Option SV :=
  gfX10_token_0 FU S
set_option maxRecDepth 100000 in
theorem eX10_token {a : Nat} {ρ : RV} {z : AH} (hz : a + szV 9 ≤ z.length) (S : SV) : fX10_token a (wr 9 a ρ S z) = (gX10_token S).map (fun S => wr 9 a ρ S z) := by
  unfold fX10_token gX10_token
  refine eo (isO_rd (rd_wr hz)) ?_
  exact efX10_token_0 hz FU S
def gX10_fails (S : SV) : Option (Int32 × SV) :=
  nm (wI S 16 (S.1 12)) fun S5 =>
  some ((0 : Int32), S5)
set_option maxRecDepth 100000 in
theorem eX10_fails {a : Nat} {ρ : RV} {z : AH} (hz : a + szV 9 ≤ z.length) (S : SV) : fX10_fails a (wr 9 a ρ S z) = (gX10_fails S).map (fun q => (q.1, wr 9 a ρ q.2 z)) := by
  unfold fX10_fails gX10_fails
  refine eo (isO_rd (rd_wr hz)) ?_
  refine sb (gI_rd (rd_wr hz) rfl) ?_
  refine ep (f := (fun S => wr 9 a ρ S z)) (pF_int hz rfl _) (fun S5 => ?_)
  rfl
def gbX10_later_31 (l1 : Int32) (l2 : Int32) (S : SV) : Option SV :=
  nm (wI S 17 l1) fun S33 =>
  nm (wI S33 18 l2) fun S38 =>
  some S38
set_option maxRecDepth 100000 in
theorem ebX10_later_31 {a : Nat} {ρ : RV} {z : AH} (hz : a + szV 9 ≤ z.length) (l1 : Int32) (l2 : Int32) (S : SV) : bX10_later_31 a l1 l2 (wr 9 a ρ S z) = (gbX10_later_31 l1 l2 S).map (fun S => wr 9 a ρ S z) := by
  unfold bX10_later_31 gbX10_later_31
  refine ep (f := (fun S => wr 9 a ρ S z)) (pF_int hz rfl _) (fun S33 => ?_)
  refine ep (f := (fun S => wr 9 a ρ S z)) (pF_int hz rfl _) (fun S38 => ?_)
  rfl
def gX10_later (l1 : Int32) (l2 : Int32) (S : SV) : Option SV :=
  if (S.1 17) = (0 : Int32) then (
    gbX10_later_31 l1 l2 S
  ) else (
    if l2 < (S.1 18) then (
      gbX10_later_31 l1 l2 S
    ) else (
      if l2 = (S.1 18) then (
        if (S.1 17) ≤ l1 then (
          some S
        ) else (
          gbX10_later_31 l1 l2 S
        )
      ) else (
        some S
      )
    )
  )
set_option maxRecDepth 100000 in
theorem eX10_later {a : Nat} {ρ : RV} {z : AH} (hz : a + szV 9 ≤ z.length) (l1 : Int32) (l2 : Int32) (S : SV) : fX10_later a l1 l2 (wr 9 a ρ S z) = (gX10_later l1 l2 S).map (fun S => wr 9 a ρ S z) := by
  unfold fX10_later gX10_later
  refine eo (isO_rd (rd_wr hz)) ?_
  refine sb (gI_rd (rd_wr hz) rfl) ?_
  refine ei (fun _ => ?_) (fun _ => ?_)
  · skip
    exact ebX10_later_31 hz l1 l2 S
  · skip
    refine sb (gI_rd (rd_wr hz) rfl) ?_
    refine ei (fun _ => ?_) (fun _ => ?_)
    · skip
      exact ebX10_later_31 hz l1 l2 S
    · skip
      refine sb (gI_rd (rd_wr hz) rfl) ?_
      refine ei (fun _ => ?_) (fun _ => ?_)
      · skip
        refine sb (gI_rd (rd_wr hz) rfl) ?_
        refine ei (fun _ => ?_) (fun _ => ?_)
        · skip
          rfl
        · skip
          exact ebX10_later_31 hz l1 l2 S
      · skip
        rfl
def gbX10_takeBut_58 (S : SV) : Option (Int32 × SV) :=
  (gX10_token S).bind fun S59 =>
  some ((1 : Int32), S59)
set_option maxRecDepth 100000 in
theorem ebX10_takeBut_58 {a : Nat} {ρ : RV} {z : AH} (hz : a + szV 9 ≤ z.length) (S : SV) : bX10_takeBut_58 a (wr 9 a ρ S z) = (gbX10_takeBut_58 S).map (fun q => (q.1, wr 9 a ρ q.2 z)) := by
  unfold bX10_takeBut_58 gbX10_takeBut_58
  refine em (f := (fun S => wr 9 a ρ S z)) (eX10_token hz S) (fun S59 => ?_)
  rfl
def gbX10_takeBut_44 (S : SV) : Option (Int32 × SV) :=
  (gX10_later (2 : Int32) (S.1 12) S).bind fun S50 =>
  nm (wI S50 24 (0 : Int32)) fun S55 =>
  gbX10_takeBut_58 S55
set_option maxRecDepth 100000 in
theorem ebX10_takeBut_44 {a : Nat} {ρ : RV} {z : AH} (hz : a + szV 9 ≤ z.length) (S : SV) : bX10_takeBut_44 a (wr 9 a ρ S z) = (gbX10_takeBut_44 S).map (fun q => (q.1, wr 9 a ρ q.2 z)) := by
  unfold bX10_takeBut_44 gbX10_takeBut_44
  refine sb (gI_rd (rd_wr hz) rfl) ?_
  refine em (f := (fun S => wr 9 a ρ S z)) (eX10_later hz (2 : Int32) (S.1 12) S) (fun S50 => ?_)
  refine ep (f := (fun S => wr 9 a ρ S z)) (pF_int hz rfl _) (fun S55 => ?_)
  exact ebX10_takeBut_58 hz S55
def gX10_takeBut (l1 : Int32) (l2 : Int32) (l3 : Int32) (l4 : Int32) (S : SV) : Option (Int32 × SV) :=
  if (S.1 13) = (3 : Int32) then (
    (wA 20 4 S l1 (S.1 14)).bind fun S22 =>
    if (fX10_in (S22.1 14) l2 l3) = (0 : Int32) then (
      gbX10_takeBut_44 S22
    ) else (
      if (S22.1 14) = l4 then (
        gbX10_takeBut_44 S22
      ) else (
        gbX10_takeBut_58 S22
      )
    )
  ) else (
    b2 (gX10_fails S) fun x9 S9 =>
    if x9 = 0 ∨ x9 = 1 then some (x9, S9) else none
  )
set_option maxRecDepth 100000 in
theorem eX10_takeBut {a : Nat} {ρ : RV} {z : AH} (hz : a + szV 9 ≤ z.length) (l1 : Int32) (l2 : Int32) (l3 : Int32) (l4 : Int32) (S : SV) : fX10_takeBut a l1 l2 l3 l4 (wr 9 a ρ S z) = (gX10_takeBut l1 l2 l3 l4 S).map (fun q => (q.1, wr 9 a ρ q.2 z)) := by
  unfold fX10_takeBut gX10_takeBut
  refine eo (isO_rd (rd_wr hz)) ?_
  refine sb (gI_rd (rd_wr hz) rfl) ?_
  refine ei (fun _ => ?_) (fun _ => ?_)
  · skip
    refine sb (gN_rd (rd_wr hz) rfl (Or.inl rfl)) ?_
    refine sb (gI_rd (rd_wr hz) rfl) ?_
    refine em (f := (fun S => wr 9 a ρ S z)) (stI_rd rkOk9 hz (k := 20) rfl rfl (by decide) 0 rfl (by decide) _ _) (fun S22 => ?_)
    refine sb (gI_rd (rd_wr hz) rfl) ?_
    refine ei (fun _ => ?_) (fun _ => ?_)
    · skip
      exact ebX10_takeBut_44 hz S22
    · skip
      refine sb (gI_rd (rd_wr hz) rfl) ?_
      refine ei (fun _ => ?_) (fun _ => ?_)
      · skip
        exact ebX10_takeBut_44 hz S22
      · skip
        exact ebX10_takeBut_58 hz S22
  · skip
    refine e2m (f := (fun S => wr 9 a ρ S z)) (eX10_fails hz S) (fun x9 S9 => ?_)
    refine ei (fun _ => rfl) (fun _ => rfl)
def gX10_take (l1 : Int32) (l2 : Int32) (l3 : Int32) (S : SV) : Option (Int32 × SV) :=
  b2 (gX10_takeBut l1 l2 l3 (-1 : Int32) S) fun x5 S5 =>
  if x5 = 0 ∨ x5 = 1 then some (x5, S5) else none
set_option maxRecDepth 100000 in
theorem eX10_take {a : Nat} {ρ : RV} {z : AH} (hz : a + szV 9 ≤ z.length) (l1 : Int32) (l2 : Int32) (l3 : Int32) (S : SV) : fX10_take a l1 l2 l3 (wr 9 a ρ S z) = (gX10_take l1 l2 l3 S).map (fun q => (q.1, wr 9 a ρ q.2 z)) := by
  unfold fX10_take gX10_take
  refine eo (isO_rd (rd_wr hz)) ?_
  refine e2m (f := (fun S => wr 9 a ρ S z)) (eX10_takeBut hz l1 l2 l3 (-1 : Int32) S) (fun x5 S5 => ?_)
  refine ei (fun _ => rfl) (fun _ => rfl)
def gX10_takeThing (l1 : Int32) (l2 : Int32) (S : SV) : Option (Int32 × SV) :=
  b2 (gX10_takeBut l1 (0 : Int32) (7 : Int32) l2 S) fun x6 S6 =>
  if x6 = (0 : Int32) then (
    some ((0 : Int32), S6)
  ) else (
    (rA 4 (S6.2.1 20) l1).bind fun x24 =>
    nm (wI S6 21 (fX10_greater (S6.1 21) x24)) fun S28 =>
    some ((1 : Int32), S28)
  )
set_option maxRecDepth 100000 in
theorem eX10_takeThing {a : Nat} {ρ : RV} {z : AH} (hz : a + szV 9 ≤ z.length) (l1 : Int32) (l2 : Int32) (S : SV) : fX10_takeThing a l1 l2 (wr 9 a ρ S z) = (gX10_takeThing l1 l2 S).map (fun q => (q.1, wr 9 a ρ q.2 z)) := by
  unfold fX10_takeThing gX10_takeThing
  refine eo (isO_rd (rd_wr hz)) ?_
  refine e2m (f := (fun S => wr 9 a ρ S z)) (eX10_takeBut hz l1 (0 : Int32) (7 : Int32) l2 S) (fun x6 S6 => ?_)
  refine ei (fun _ => ?_) (fun _ => ?_)
  · skip
    rfl
  · skip
    refine sb (gI_rd (rd_wr hz) rfl) ?_
    refine sb (gN_rd (rd_wr hz) rfl (Or.inl rfl)) ?_
    refine eb (ixI_rd (rd_wr hz) (k := 20) rfl rfl (by decide) 0 rfl (by decide) _) (fun x24 => ?_)
    refine ep (f := (fun S => wr 9 a ρ S z)) (pF_int hz rfl _) (fun S28 => ?_)
    rfl
def gX10_takeLeft (l1 : Int32) (S : SV) : Option (Int32 × SV) :=
  b2 (gX10_take l1 (0 : Int32) (3 : Int32) S) fun x4 S4 =>
  if x4 = (0 : Int32) then (
    some ((0 : Int32), S4)
  ) else (
    (rA 4 (S4.2.1 20) l1).bind fun x22 =>
    nm (wI S4 22 (fX10_greater (S4.1 22) x22)) fun S26 =>
    some ((1 : Int32), S26)
  )
set_option maxRecDepth 100000 in
theorem eX10_takeLeft {a : Nat} {ρ : RV} {z : AH} (hz : a + szV 9 ≤ z.length) (l1 : Int32) (S : SV) : fX10_takeLeft a l1 (wr 9 a ρ S z) = (gX10_takeLeft l1 S).map (fun q => (q.1, wr 9 a ρ q.2 z)) := by
  unfold fX10_takeLeft gX10_takeLeft
  refine eo (isO_rd (rd_wr hz)) ?_
  refine e2m (f := (fun S => wr 9 a ρ S z)) (eX10_take hz l1 (0 : Int32) (3 : Int32) S) (fun x4 S4 => ?_)
  refine ei (fun _ => ?_) (fun _ => ?_)
  · skip
    rfl
  · skip
    refine sb (gI_rd (rd_wr hz) rfl) ?_
    refine sb (gN_rd (rd_wr hz) rfl (Or.inl rfl)) ?_
    refine eb (ixI_rd (rd_wr hz) (k := 20) rfl rfl (by decide) 0 rfl (by decide) _) (fun x22 => ?_)
    refine ep (f := (fun S => wr 9 a ρ S z)) (pF_int hz rfl _) (fun S26 => ?_)
    rfl
def gX10_takeRight (l1 : Int32) (S : SV) : Option (Int32 × SV) :=
  b2 (gX10_take l1 (0 : Int32) (3 : Int32) S) fun x4 S4 =>
  if x4 = (0 : Int32) then (
    some ((0 : Int32), S4)
  ) else (
    (rA 4 (S4.2.1 20) l1).bind fun x22 =>
    nm (wI S4 23 (fX10_greater (S4.1 23) x22)) fun S26 =>
    some ((1 : Int32), S26)
  )
set_option maxRecDepth 100000 in
theorem eX10_takeRight {a : Nat} {ρ : RV} {z : AH} (hz : a + szV 9 ≤ z.length) (l1 : Int32) (S : SV) : fX10_takeRight a l1 (wr 9 a ρ S z) = (gX10_takeRight l1 S).map (fun q => (q.1, wr 9 a ρ q.2 z)) := by
  unfold fX10_takeRight gX10_takeRight
  refine eo (isO_rd (rd_wr hz)) ?_
  refine e2m (f := (fun S => wr 9 a ρ S z)) (eX10_take hz l1 (0 : Int32) (3 : Int32) S) (fun x4 S4 => ?_)
  refine ei (fun _ => ?_) (fun _ => ?_)
  · skip
    rfl
  · skip
    refine sb (gI_rd (rd_wr hz) rfl) ?_
    refine sb (gN_rd (rd_wr hz) rfl (Or.inl rfl)) ?_
    refine eb (ixI_rd (rd_wr hz) (k := 20) rfl rfl (by decide) 0 rfl (by decide) _) (fun x22 => ?_)
    refine ep (f := (fun S => wr 9 a ρ S z)) (pF_int hz rfl _) (fun S26 => ?_)
    rfl
def gX10_full (l1 : Int32) (l2 : Int32) (l3 : Int32) (S : SV) : Option SV :=
  (rA 121 (S.2.1 19) l1).bind fun x5 =>
  if x5 = l2 then (
    (gX10_later (3 : Int32) l3 S).bind fun S13 =>
    some S13
  ) else (
    some S
  )
set_option maxRecDepth 100000 in
theorem eX10_full {a : Nat} {ρ : RV} {z : AH} (hz : a + szV 9 ≤ z.length) (l1 : Int32) (l2 : Int32) (l3 : Int32) (S : SV) : fX10_full a l1 l2 l3 (wr 9 a ρ S z) = (gX10_full l1 l2 l3 S).map (fun S => wr 9 a ρ S z) := by
  unfold fX10_full gX10_full
  refine eo (isO_rd (rd_wr hz)) ?_
  refine sb (gN_rd (rd_wr hz) rfl (Or.inl rfl)) ?_
  refine eb (ixI_rd (rd_wr hz) (k := 19) rfl rfl (by decide) 0 rfl (by decide) _) (fun x5 => ?_)
  refine ei (fun _ => ?_) (fun _ => ?_)
  · skip
    refine em (f := (fun S => wr 9 a ρ S z)) (eX10_later hz (3 : Int32) l3 S) (fun S13 => ?_)
    rfl
  · skip
    rfl
def gbX10_keep_52 (l1 : Int32) (l4 : Int32) (l5 : Int32) (S : SV) : Option (Int32 × SV) :=
  (rA 121 (S.2.1 19) l1).bind fun x58 =>
  if l4 ≤ l5 then (
    (wA 19 121 S l1 (x58 + (0 : Int32))).bind fun S72 =>
    some ((1 : Int32), S72)
  ) else (
    (wA 19 121 S l1 (x58 + (1 : Int32))).bind fun S72 =>
    some ((1 : Int32), S72)
  )
set_option maxRecDepth 100000 in
theorem ebX10_keep_52 {a : Nat} {ρ : RV} {z : AH} (hz : a + szV 9 ≤ z.length) (l1 : Int32) (l4 : Int32) (l5 : Int32) (S : SV) : bX10_keep_52 a l1 l4 l5 (wr 9 a ρ S z) = (gbX10_keep_52 l1 l4 l5 S).map (fun q => (q.1, wr 9 a ρ q.2 z)) := by
  unfold bX10_keep_52 gbX10_keep_52
  refine sb (gN_rd (rd_wr hz) rfl (Or.inl rfl)) ?_
  refine eb (ixI_rd (rd_wr hz) (k := 19) rfl rfl (by decide) 0 rfl (by decide) _) (fun x58 => ?_)
  refine ei (fun _ => ?_) (fun _ => ?_)
  · skip
    refine em (f := (fun S => wr 9 a ρ S z)) (stI_rd rkOk9 hz (k := 19) rfl rfl (by decide) 0 rfl (by decide) _ _) (fun S72 => ?_)
    rfl
  · skip
    refine em (f := (fun S => wr 9 a ρ S z)) (stI_rd rkOk9 hz (k := 19) rfl rfl (by decide) 0 rfl (by decide) _ _) (fun S72 => ?_)
    rfl
def gbX10_keep_11 (k11 : Int32 → Int32 → Int32 → Int32 → Int32 → Int32 → SV → Option (Int32 × SV)) (l1 : Int32) (l2 : Int32) (l3 : Int32) (l4 : Int32) (l5 : Int32) (l6 : Int32) (S : SV) : Option (Int32 × SV) :=
  if l3 ≤ l6 then (
    gbX10_keep_52 l1 l4 l5 S
  ) else (
    if l4 ≤ l5 then (
      gbX10_keep_52 l1 l4 l5 S
    ) else (
      (rA 4 (S.2.1 20) l6).bind fun x44 =>
      (wA 19 121 S ((l2 + (l4 * l6)) + l5) x44).bind fun S45 =>
      nm (l6 + (1 : Int32)) fun v46 =>
      k11 l1 l2 l3 l4 l5 v46 S45
    )
  )
set_option maxRecDepth 100000 in
theorem ebX10_keep_11 {a : Nat} {ρ : RV} {z : AH} (hz : a + szV 9 ≤ z.length) {k11 : Nat → Int32 → Int32 → Int32 → Int32 → Int32 → Int32 → AH → Option (Int32 × AH)} {k11' : Int32 → Int32 → Int32 → Int32 → Int32 → Int32 → SV → Option (Int32 × SV)} (hk11 : ∀ (l1 : Int32) (l2 : Int32) (l3 : Int32) (l4 : Int32) (l5 : Int32) (l6 : Int32) (S : SV), k11 a l1 l2 l3 l4 l5 l6 (wr 9 a ρ S z) = (k11' l1 l2 l3 l4 l5 l6 S).map (fun q => (q.1, wr 9 a ρ q.2 z))) (l1 : Int32) (l2 : Int32) (l3 : Int32) (l4 : Int32) (l5 : Int32) (l6 : Int32) (S : SV) : bX10_keep_11 k11 a l1 l2 l3 l4 l5 l6 (wr 9 a ρ S z) = (gbX10_keep_11 k11' l1 l2 l3 l4 l5 l6 S).map (fun q => (q.1, wr 9 a ρ q.2 z)) := by
  unfold bX10_keep_11 gbX10_keep_11
  refine ei (fun _ => ?_) (fun _ => ?_)
  · skip
    exact ebX10_keep_52 hz l1 l4 l5 S
  · skip
    refine ei (fun _ => ?_) (fun _ => ?_)
    · skip
      exact ebX10_keep_52 hz l1 l4 l5 S
    · skip
      refine sb (gN_rd (rd_wr hz) rfl (Or.inl rfl)) ?_
      refine sb (gN_rd (rd_wr hz) rfl (Or.inl rfl)) ?_
      refine eb (ixI_rd (rd_wr hz) (k := 20) rfl rfl (by decide) 0 rfl (by decide) _) (fun x44 => ?_)
      refine em (f := (fun S => wr 9 a ρ S z)) (stI_rd rkOk9 hz (k := 19) rfl rfl (by decide) 0 rfl (by decide) _ _) (fun S45 => ?_)
      refine en (fun v46 => ?_)
      exact hk11 l1 l2 l3 l4 l5 v46 S45
def gfX10_keep_11 : Nat → Int32 → Int32 → Int32 → Int32 → Int32 → Int32 → SV → Option (Int32 × SV)
  | 0, _, _, _, _, _, _, _ => none
  | n + 1, l1, l2, l3, l4, l5, l6, S => gbX10_keep_11 (gfX10_keep_11 n) l1 l2 l3 l4 l5 l6 S
theorem efX10_keep_11 {a : Nat} {ρ : RV} {z : AH} (hz : a + szV 9 ≤ z.length) : ∀ (n : Nat) (l1 : Int32) (l2 : Int32) (l3 : Int32) (l4 : Int32) (l5 : Int32) (l6 : Int32) (S : SV), fX10_keep_11 n a l1 l2 l3 l4 l5 l6 (wr 9 a ρ S z) = (gfX10_keep_11 n l1 l2 l3 l4 l5 l6 S).map (fun q => (q.1, wr 9 a ρ q.2 z)) := by
  intro n
  induction n with
  | zero => intros; rfl
  | succ n ih => intro l1 l2 l3 l4 l5 l6 S; exact ebX10_keep_11 hz (fun l1 l2 l3 l4 l5 l6 S => ih l1 l2 l3 l4 l5 l6 S) l1 l2 l3 l4 l5 l6 S
def gX10_keep (l1 : Int32) (l2 : Int32) (l3 : Int32) (l4 : Int32) (S : SV) : Option (Int32 × SV) :=
  (rA 121 (S.2.1 19) l1).bind fun x5 =>
  gfX10_keep_11 FU l1 l2 l3 l4 x5 (0 : Int32) S
set_option maxRecDepth 100000 in
theorem eX10_keep {a : Nat} {ρ : RV} {z : AH} (hz : a + szV 9 ≤ z.length) (l1 : Int32) (l2 : Int32) (l3 : Int32) (l4 : Int32) (S : SV) : fX10_keep a l1 l2 l3 l4 (wr 9 a ρ S z) = (gX10_keep l1 l2 l3 l4 S).map (fun q => (q.1, wr 9 a ρ q.2 z)) := by
  unfold fX10_keep gX10_keep
  refine eo (isO_rd (rd_wr hz)) ?_
  refine sb (gN_rd (rd_wr hz) rfl (Or.inl rfl)) ?_
  refine eb (ixI_rd (rd_wr hz) (k := 19) rfl rfl (by decide) 0 rfl (by decide) _) (fun x5 => ?_)
  exact efX10_keep_11 hz FU l1 l2 l3 l4 x5 (0 : Int32) S
def gX10_put (l1 : Int32) (l2 : Int32) (S : SV) : Option (Int32 × SV) :=
  if (S.1 24) = (0 : Int32) then (
    some ((1 : Int32), S)
  ) else (
    (wA 19 121 S l1 l2).bind fun S13 =>
    some ((1 : Int32), S13)
  )
set_option maxRecDepth 100000 in
theorem eX10_put {a : Nat} {ρ : RV} {z : AH} (hz : a + szV 9 ≤ z.length) (l1 : Int32) (l2 : Int32) (S : SV) : fX10_put a l1 l2 (wr 9 a ρ S z) = (gX10_put l1 l2 S).map (fun q => (q.1, wr 9 a ρ q.2 z)) := by
  unfold fX10_put gX10_put
  refine eo (isO_rd (rd_wr hz)) ?_
  refine sb (gI_rd (rd_wr hz) rfl) ?_
  refine ei (fun _ => ?_) (fun _ => ?_)
  · skip
    rfl
  · skip
    refine sb (gN_rd (rd_wr hz) rfl (Or.inl rfl)) ?_
    refine em (f := (fun S => wr 9 a ρ S z)) (stI_rd rkOk9 hz (k := 19) rfl rfl (by decide) 0 rfl (by decide) _ _) (fun S13 => ?_)
    rfl
def gbX10_countryLine_379 (j1 : Int64) (S : SV) : Option (Int32 × SV) :=
  (gX10_token S).bind fun S380 =>
  if j1 = (491328337011 : Int64) then (
    b2 (gX10_takeThing (0 : Int32) (-1 : Int32) S380) fun x394 S394 =>
    if x394 = (0 : Int32) then (
      some ((0 : Int32), S394)
    ) else (
      (rA 4 (S394.2.1 20) (0 : Int32)).bind fun x407 =>
      b2 (gX10_takeThing (1 : Int32) x407 S394) fun x408 S408 =>
      if x408 = (0 : Int32) then (
        some ((0 : Int32), S408)
      ) else (
        (rA 4 (S408.2.1 20) (0 : Int32)).bind fun x422 =>
        (rA 4 (S408.2.1 20) (1 : Int32)).bind fun x432 =>
        b2 (gX10_put ((30 : Int32) + (x422 &&& (7 : Int32))) x432 S408) fun x433 S433 =>
        if x433 = (0 : Int32) then (
          some ((0 : Int32), S433)
        ) else (
          some ((1 : Int32), S433)
        )
      )
    )
  ) else (
    if j1 = (1751215716 : Int64) then (
      b2 (gX10_take (0 : Int32) (0 : Int32) (9 : Int32) S380) fun x458 S458 =>
      if x458 = (0 : Int32) then (
        some ((0 : Int32), S458)
      ) else (
        (rA 4 (S458.2.1 20) (0 : Int32)).bind fun x471 =>
        b2 (gX10_put (5 : Int32) x471 S458) fun x472 S472 =>
        if x472 = (0 : Int32) then (
          some ((0 : Int32), S472)
        ) else (
          some ((1 : Int32), S472)
        )
      )
    ) else (
      if j1 = (465625113971 : Int64) then (
        b2 (gX10_takeLeft (0 : Int32) S380) fun x494 S494 =>
        if x494 = (0 : Int32) then (
          some ((0 : Int32), S494)
        ) else (
          b2 (gX10_takeRight (1 : Int32) S494) fun x502 S502 =>
          if x502 = (0 : Int32) then (
            some ((0 : Int32), S502)
          ) else (
            b2 (gX10_take (2 : Int32) (0 : Int32) (9 : Int32) S502) fun x513 S513 =>
            if x513 = (0 : Int32) then (
              some ((0 : Int32), S513)
            ) else (
              (rA 4 (S513.2.1 20) (0 : Int32)).bind fun x528 =>
              (rA 4 (S513.2.1 20) (1 : Int32)).bind fun x538 =>
              (rA 4 (S513.2.1 20) (2 : Int32)).bind fun x547 =>
              b2 (gX10_put (((78 : Int32) + ((4 : Int32) * (x528 &&& (3 : Int32)))) + (x538 &&& (3 : Int32))) x547 S513) fun x548 S548 =>
              if x548 = (0 : Int32) then (
                some ((0 : Int32), S548)
              ) else (
                some ((1 : Int32), S548)
              )
            )
          )
        )
      ) else (
        b2 (gX10_takeRight (0 : Int32) S380) fun x562 S562 =>
        if x562 = (0 : Int32) then (
          some ((0 : Int32), S562)
        ) else (
          b2 (gX10_takeLeft (1 : Int32) S562) fun x570 S570 =>
          if x570 = (0 : Int32) then (
            some ((0 : Int32), S570)
          ) else (
            b2 (gX10_take (2 : Int32) (0 : Int32) (9 : Int32) S570) fun x581 S581 =>
            if x581 = (0 : Int32) then (
              some ((0 : Int32), S581)
            ) else (
              (rA 4 (S581.2.1 20) (0 : Int32)).bind fun x596 =>
              (rA 4 (S581.2.1 20) (1 : Int32)).bind fun x606 =>
              (rA 4 (S581.2.1 20) (2 : Int32)).bind fun x615 =>
              b2 (gX10_put (((94 : Int32) + ((4 : Int32) * (x596 &&& (3 : Int32)))) + (x606 &&& (3 : Int32))) x615 S581) fun x616 S616 =>
              if x616 = (0 : Int32) then (
                some ((0 : Int32), S616)
              ) else (
                some ((1 : Int32), S616)
              )
            )
          )
        )
      )
    )
  )
set_option maxRecDepth 100000 in
theorem ebX10_countryLine_379 {a : Nat} {ρ : RV} {z : AH} (hz : a + szV 9 ≤ z.length) (j1 : Int64) (S : SV) : bX10_countryLine_379 a j1 (wr 9 a ρ S z) = (gbX10_countryLine_379 j1 S).map (fun q => (q.1, wr 9 a ρ q.2 z)) := by
  unfold bX10_countryLine_379 gbX10_countryLine_379
  refine em (f := (fun S => wr 9 a ρ S z)) (eX10_token hz S) (fun S380 => ?_)
  refine ei (fun _ => ?_) (fun _ => ?_)
  · skip
    refine e2m (f := (fun S => wr 9 a ρ S z)) (eX10_takeThing hz (0 : Int32) (-1 : Int32) S380) (fun x394 S394 => ?_)
    refine ei (fun _ => ?_) (fun _ => ?_)
    · skip
      rfl
    · skip
      refine sb (gN_rd (rd_wr hz) rfl (Or.inl rfl)) ?_
      refine eb (ixI_rd (rd_wr hz) (k := 20) rfl rfl (by decide) 0 rfl (by decide) _) (fun x407 => ?_)
      refine e2m (f := (fun S => wr 9 a ρ S z)) (eX10_takeThing hz (1 : Int32) x407 S394) (fun x408 S408 => ?_)
      refine ei (fun _ => ?_) (fun _ => ?_)
      · skip
        rfl
      · skip
        refine sb (gN_rd (rd_wr hz) rfl (Or.inl rfl)) ?_
        refine eb (ixI_rd (rd_wr hz) (k := 20) rfl rfl (by decide) 0 rfl (by decide) _) (fun x422 => ?_)
        refine sb (gN_rd (rd_wr hz) rfl (Or.inl rfl)) ?_
        refine eb (ixI_rd (rd_wr hz) (k := 20) rfl rfl (by decide) 0 rfl (by decide) _) (fun x432 => ?_)
        refine e2m (f := (fun S => wr 9 a ρ S z)) (eX10_put hz ((30 : Int32) + (x422 &&& (7 : Int32))) x432 S408) (fun x433 S433 => ?_)
        refine ei (fun _ => ?_) (fun _ => ?_)
        · skip
          rfl
        · skip
          rfl
  · skip
    refine ei (fun _ => ?_) (fun _ => ?_)
    · skip
      refine e2m (f := (fun S => wr 9 a ρ S z)) (eX10_take hz (0 : Int32) (0 : Int32) (9 : Int32) S380) (fun x458 S458 => ?_)
      refine ei (fun _ => ?_) (fun _ => ?_)
      · skip
        rfl
      · skip
        refine sb (gN_rd (rd_wr hz) rfl (Or.inl rfl)) ?_
        refine eb (ixI_rd (rd_wr hz) (k := 20) rfl rfl (by decide) 0 rfl (by decide) _) (fun x471 => ?_)
        refine e2m (f := (fun S => wr 9 a ρ S z)) (eX10_put hz (5 : Int32) x471 S458) (fun x472 S472 => ?_)
        refine ei (fun _ => ?_) (fun _ => ?_)
        · skip
          rfl
        · skip
          rfl
    · skip
      refine ei (fun _ => ?_) (fun _ => ?_)
      · skip
        refine e2m (f := (fun S => wr 9 a ρ S z)) (eX10_takeLeft hz (0 : Int32) S380) (fun x494 S494 => ?_)
        refine ei (fun _ => ?_) (fun _ => ?_)
        · skip
          rfl
        · skip
          refine e2m (f := (fun S => wr 9 a ρ S z)) (eX10_takeRight hz (1 : Int32) S494) (fun x502 S502 => ?_)
          refine ei (fun _ => ?_) (fun _ => ?_)
          · skip
            rfl
          · skip
            refine e2m (f := (fun S => wr 9 a ρ S z)) (eX10_take hz (2 : Int32) (0 : Int32) (9 : Int32) S502) (fun x513 S513 => ?_)
            refine ei (fun _ => ?_) (fun _ => ?_)
            · skip
              rfl
            · skip
              refine sb (gN_rd (rd_wr hz) rfl (Or.inl rfl)) ?_
              refine eb (ixI_rd (rd_wr hz) (k := 20) rfl rfl (by decide) 0 rfl (by decide) _) (fun x528 => ?_)
              refine sb (gN_rd (rd_wr hz) rfl (Or.inl rfl)) ?_
              refine eb (ixI_rd (rd_wr hz) (k := 20) rfl rfl (by decide) 0 rfl (by decide) _) (fun x538 => ?_)
              refine sb (gN_rd (rd_wr hz) rfl (Or.inl rfl)) ?_
              refine eb (ixI_rd (rd_wr hz) (k := 20) rfl rfl (by decide) 0 rfl (by decide) _) (fun x547 => ?_)
              refine e2m (f := (fun S => wr 9 a ρ S z)) (eX10_put hz (((78 : Int32) + ((4 : Int32) * (x528 &&& (3 : Int32)))) + (x538 &&& (3 : Int32))) x547 S513) (fun x548 S548 => ?_)
              refine ei (fun _ => ?_) (fun _ => ?_)
              · skip
                rfl
              · skip
                rfl
      · skip
        refine e2m (f := (fun S => wr 9 a ρ S z)) (eX10_takeRight hz (0 : Int32) S380) (fun x562 S562 => ?_)
        refine ei (fun _ => ?_) (fun _ => ?_)
        · skip
          rfl
        · skip
          refine e2m (f := (fun S => wr 9 a ρ S z)) (eX10_takeLeft hz (1 : Int32) S562) (fun x570 S570 => ?_)
          refine ei (fun _ => ?_) (fun _ => ?_)
          · skip
            rfl
          · skip
            refine e2m (f := (fun S => wr 9 a ρ S z)) (eX10_take hz (2 : Int32) (0 : Int32) (9 : Int32) S570) (fun x581 S581 => ?_)
            refine ei (fun _ => ?_) (fun _ => ?_)
            · skip
              rfl
            · skip
              refine sb (gN_rd (rd_wr hz) rfl (Or.inl rfl)) ?_
              refine eb (ixI_rd (rd_wr hz) (k := 20) rfl rfl (by decide) 0 rfl (by decide) _) (fun x596 => ?_)
              refine sb (gN_rd (rd_wr hz) rfl (Or.inl rfl)) ?_
              refine eb (ixI_rd (rd_wr hz) (k := 20) rfl rfl (by decide) 0 rfl (by decide) _) (fun x606 => ?_)
              refine sb (gN_rd (rd_wr hz) rfl (Or.inl rfl)) ?_
              refine eb (ixI_rd (rd_wr hz) (k := 20) rfl rfl (by decide) 0 rfl (by decide) _) (fun x615 => ?_)
              refine e2m (f := (fun S => wr 9 a ρ S z)) (eX10_put hz (((94 : Int32) + ((4 : Int32) * (x596 &&& (3 : Int32)))) + (x606 &&& (3 : Int32))) x615 S581) (fun x616 S616 => ?_)
              refine ei (fun _ => ?_) (fun _ => ?_)
              · skip
                rfl
              · skip
                rfl
def gbX10_countryLine_116 (l3 : Int32) (l4 : Int32) (s1 : Int32) (s2 : Int32) (S : SV) : Option (Int32 × SV) :=
  (gX10_full s1 s2 l3 S).bind fun S117 =>
  (gX10_token S117).bind fun S121 =>
  if l4 = (0 : Int32) then (
    b2 (gX10_take (0 : Int32) (0 : Int32) (99 : Int32) S121) fun x161 S161 =>
    if x161 = (0 : Int32) then (
      some ((0 : Int32), S161)
    ) else (
      b2 (gX10_take (1 : Int32) (0 : Int32) (9 : Int32) S161) fun x172 S172 =>
      if x172 = (0 : Int32) then (
        some ((0 : Int32), S172)
      ) else (
        b2 (gX10_take (2 : Int32) (0 : Int32) (9 : Int32) S172) fun x183 S183 =>
        if x183 = (0 : Int32) then (
          some ((0 : Int32), S183)
        ) else (
          b2 (gX10_keep (0 : Int32) (6 : Int32) (3 : Int32) (8 : Int32) S183) fun x196 S196 =>
          if x196 = (0 : Int32) then (
            some ((0 : Int32), S196)
          ) else (
            some ((1 : Int32), S196)
          )
        )
      )
    )
  ) else (
    if l4 = (1 : Int32) then (
      b2 (gX10_takeThing (0 : Int32) (-1 : Int32) S121) fun x211 S211 =>
      if x211 = (0 : Int32) then (
        some ((0 : Int32), S211)
      ) else (
        (rA 4 (S211.2.1 20) (0 : Int32)).bind fun x224 =>
        b2 (gX10_takeThing (1 : Int32) x224 S211) fun x225 S225 =>
        if x225 = (0 : Int32) then (
          some ((0 : Int32), S225)
        ) else (
          b2 (gX10_keep (1 : Int32) (54 : Int32) (2 : Int32) (12 : Int32) S225) fun x238 S238 =>
          if x238 = (0 : Int32) then (
            some ((0 : Int32), S238)
          ) else (
            some ((1 : Int32), S238)
          )
        )
      )
    ) else (
      if l4 = (2 : Int32) then (
        b2 (gX10_take (0 : Int32) (1 : Int32) (9 : Int32) S121) fun x255 S255 =>
        if x255 = (0 : Int32) then (
          some ((0 : Int32), S255)
        ) else (
          b2 (gX10_keep (2 : Int32) (38 : Int32) (1 : Int32) (4 : Int32) S255) fun x267 S267 =>
          if x267 = (0 : Int32) then (
            some ((0 : Int32), S267)
          ) else (
            some ((1 : Int32), S267)
          )
        )
      ) else (
        if l4 = (3 : Int32) then (
          b2 (gX10_take (0 : Int32) (1 : Int32) (9 : Int32) S121) fun x284 S284 =>
          if x284 = (0 : Int32) then (
            some ((0 : Int32), S284)
          ) else (
            b2 (gX10_keep (3 : Int32) (42 : Int32) (1 : Int32) (4 : Int32) S284) fun x296 S296 =>
            if x296 = (0 : Int32) then (
              some ((0 : Int32), S296)
            ) else (
              some ((1 : Int32), S296)
            )
          )
        ) else (
          b2 (gX10_takeLeft (0 : Int32) S121) fun x310 S310 =>
          if x310 = (0 : Int32) then (
            some ((0 : Int32), S310)
          ) else (
            b2 (gX10_takeRight (1 : Int32) S310) fun x318 S318 =>
            if x318 = (0 : Int32) then (
              some ((0 : Int32), S318)
            ) else (
              b2 (gX10_keep (4 : Int32) (46 : Int32) (2 : Int32) (4 : Int32) S318) fun x330 S330 =>
              if x330 = (0 : Int32) then (
                some ((0 : Int32), S330)
              ) else (
                some ((1 : Int32), S330)
              )
            )
          )
        )
      )
    )
  )
set_option maxRecDepth 100000 in
theorem ebX10_countryLine_116 {a : Nat} {ρ : RV} {z : AH} (hz : a + szV 9 ≤ z.length) (l3 : Int32) (l4 : Int32) (s1 : Int32) (s2 : Int32) (S : SV) : bX10_countryLine_116 a l3 l4 a s1 s2 (wr 9 a ρ S z) = (gbX10_countryLine_116 l3 l4 s1 s2 S).map (fun q => (q.1, wr 9 a ρ q.2 z)) := by
  unfold bX10_countryLine_116 gbX10_countryLine_116
  refine em (f := (fun S => wr 9 a ρ S z)) (eX10_full hz s1 s2 l3 S) (fun S117 => ?_)
  refine em (f := (fun S => wr 9 a ρ S z)) (eX10_token hz S117) (fun S121 => ?_)
  refine ei (fun _ => ?_) (fun _ => ?_)
  · skip
    refine e2m (f := (fun S => wr 9 a ρ S z)) (eX10_take hz (0 : Int32) (0 : Int32) (99 : Int32) S121) (fun x161 S161 => ?_)
    refine ei (fun _ => ?_) (fun _ => ?_)
    · skip
      rfl
    · skip
      refine e2m (f := (fun S => wr 9 a ρ S z)) (eX10_take hz (1 : Int32) (0 : Int32) (9 : Int32) S161) (fun x172 S172 => ?_)
      refine ei (fun _ => ?_) (fun _ => ?_)
      · skip
        rfl
      · skip
        refine e2m (f := (fun S => wr 9 a ρ S z)) (eX10_take hz (2 : Int32) (0 : Int32) (9 : Int32) S172) (fun x183 S183 => ?_)
        refine ei (fun _ => ?_) (fun _ => ?_)
        · skip
          rfl
        · skip
          refine e2m (f := (fun S => wr 9 a ρ S z)) (eX10_keep hz (0 : Int32) (6 : Int32) (3 : Int32) (8 : Int32) S183) (fun x196 S196 => ?_)
          refine ei (fun _ => ?_) (fun _ => ?_)
          · skip
            rfl
          · skip
            rfl
  · skip
    refine ei (fun _ => ?_) (fun _ => ?_)
    · skip
      refine e2m (f := (fun S => wr 9 a ρ S z)) (eX10_takeThing hz (0 : Int32) (-1 : Int32) S121) (fun x211 S211 => ?_)
      refine ei (fun _ => ?_) (fun _ => ?_)
      · skip
        rfl
      · skip
        refine sb (gN_rd (rd_wr hz) rfl (Or.inl rfl)) ?_
        refine eb (ixI_rd (rd_wr hz) (k := 20) rfl rfl (by decide) 0 rfl (by decide) _) (fun x224 => ?_)
        refine e2m (f := (fun S => wr 9 a ρ S z)) (eX10_takeThing hz (1 : Int32) x224 S211) (fun x225 S225 => ?_)
        refine ei (fun _ => ?_) (fun _ => ?_)
        · skip
          rfl
        · skip
          refine e2m (f := (fun S => wr 9 a ρ S z)) (eX10_keep hz (1 : Int32) (54 : Int32) (2 : Int32) (12 : Int32) S225) (fun x238 S238 => ?_)
          refine ei (fun _ => ?_) (fun _ => ?_)
          · skip
            rfl
          · skip
            rfl
    · skip
      refine ei (fun _ => ?_) (fun _ => ?_)
      · skip
        refine e2m (f := (fun S => wr 9 a ρ S z)) (eX10_take hz (0 : Int32) (1 : Int32) (9 : Int32) S121) (fun x255 S255 => ?_)
        refine ei (fun _ => ?_) (fun _ => ?_)
        · skip
          rfl
        · skip
          refine e2m (f := (fun S => wr 9 a ρ S z)) (eX10_keep hz (2 : Int32) (38 : Int32) (1 : Int32) (4 : Int32) S255) (fun x267 S267 => ?_)
          refine ei (fun _ => ?_) (fun _ => ?_)
          · skip
            rfl
          · skip
            rfl
      · skip
        refine ei (fun _ => ?_) (fun _ => ?_)
        · skip
          refine e2m (f := (fun S => wr 9 a ρ S z)) (eX10_take hz (0 : Int32) (1 : Int32) (9 : Int32) S121) (fun x284 S284 => ?_)
          refine ei (fun _ => ?_) (fun _ => ?_)
          · skip
            rfl
          · skip
            refine e2m (f := (fun S => wr 9 a ρ S z)) (eX10_keep hz (3 : Int32) (42 : Int32) (1 : Int32) (4 : Int32) S284) (fun x296 S296 => ?_)
            refine ei (fun _ => ?_) (fun _ => ?_)
            · skip
              rfl
            · skip
              rfl
        · skip
          refine e2m (f := (fun S => wr 9 a ρ S z)) (eX10_takeLeft hz (0 : Int32) S121) (fun x310 S310 => ?_)
          refine ei (fun _ => ?_) (fun _ => ?_)
          · skip
            rfl
          · skip
            refine e2m (f := (fun S => wr 9 a ρ S z)) (eX10_takeRight hz (1 : Int32) S310) (fun x318 S318 => ?_)
            refine ei (fun _ => ?_) (fun _ => ?_)
            · skip
              rfl
            · skip
              refine e2m (f := (fun S => wr 9 a ρ S z)) (eX10_keep hz (4 : Int32) (46 : Int32) (2 : Int32) (4 : Int32) S318) (fun x330 S330 => ?_)
              refine ei (fun _ => ?_) (fun _ => ?_)
              · skip
                rfl
              · skip
                rfl
def gbX10_countryLine_89 (l3 : Int32) (s0 : Int32) (S : SV) : Option (Int32 × SV) :=
  if s0 = (0 : Int32) then (
    gbX10_countryLine_116 l3 s0 s0 (8 : Int32) S
  ) else (
    if s0 = (1 : Int32) then (
      gbX10_countryLine_116 l3 s0 s0 (12 : Int32) S
    ) else (
      gbX10_countryLine_116 l3 s0 s0 (4 : Int32) S
    )
  )
set_option maxRecDepth 100000 in
theorem ebX10_countryLine_89 {a : Nat} {ρ : RV} {z : AH} (hz : a + szV 9 ≤ z.length) (l3 : Int32) (s0 : Int32) (S : SV) : bX10_countryLine_89 a l3 s0 (wr 9 a ρ S z) = (gbX10_countryLine_89 l3 s0 S).map (fun q => (q.1, wr 9 a ρ q.2 z)) := by
  unfold bX10_countryLine_89 gbX10_countryLine_89
  refine ei (fun _ => ?_) (fun _ => ?_)
  · skip
    exact ebX10_countryLine_116 hz l3 s0 s0 (8 : Int32) S
  · skip
    refine ei (fun _ => ?_) (fun _ => ?_)
    · skip
      exact ebX10_countryLine_116 hz l3 s0 s0 (12 : Int32) S
    · skip
      exact ebX10_countryLine_116 hz l3 s0 s0 (4 : Int32) S
def gbX10_countryLine_40 (j1 : Int64) (l3 : Int32) (S : SV) : Option (Int32 × SV) :=
  if j1 = (499967946343 : Int64) then (
    gbX10_countryLine_89 l3 (0 : Int32) S
  ) else (
    if j1 = (1885434984 : Int64) then (
      gbX10_countryLine_89 l3 (1 : Int32) S
    ) else (
      if j1 = (1818584692 : Int64) then (
        gbX10_countryLine_89 l3 (2 : Int32) S
      ) else (
        if j1 = (491394656372 : Int64) then (
          gbX10_countryLine_89 l3 (3 : Int32) S
        ) else (
          gbX10_countryLine_89 l3 (4 : Int32) S
        )
      )
    )
  )
set_option maxRecDepth 100000 in
theorem ebX10_countryLine_40 {a : Nat} {ρ : RV} {z : AH} (hz : a + szV 9 ≤ z.length) (j1 : Int64) (l3 : Int32) (S : SV) : bX10_countryLine_40 a j1 l3 (wr 9 a ρ S z) = (gbX10_countryLine_40 j1 l3 S).map (fun q => (q.1, wr 9 a ρ q.2 z)) := by
  unfold bX10_countryLine_40 gbX10_countryLine_40
  refine ei (fun _ => ?_) (fun _ => ?_)
  · skip
    exact ebX10_countryLine_89 hz l3 (0 : Int32) S
  · skip
    refine ei (fun _ => ?_) (fun _ => ?_)
    · skip
      exact ebX10_countryLine_89 hz l3 (1 : Int32) S
    · skip
      refine ei (fun _ => ?_) (fun _ => ?_)
      · skip
        exact ebX10_countryLine_89 hz l3 (2 : Int32) S
      · skip
        refine ei (fun _ => ?_) (fun _ => ?_)
        · skip
          exact ebX10_countryLine_89 hz l3 (3 : Int32) S
        · skip
          exact ebX10_countryLine_89 hz l3 (4 : Int32) S
def gX10_countryLine (j1 : Int64) (l3 : Int32) (S : SV) : Option (Int32 × SV) :=
  if j1 = (499967946343 : Int64) then (
    gbX10_countryLine_40 j1 l3 S
  ) else (
    if j1 = (1885434984 : Int64) then (
      gbX10_countryLine_40 j1 l3 S
    ) else (
      if j1 = (1818584692 : Int64) then (
        gbX10_countryLine_40 j1 l3 S
      ) else (
        if j1 = (491394656372 : Int64) then (
          gbX10_countryLine_40 j1 l3 S
        ) else (
          if j1 = (109330362821733 : Int64) then (
            gbX10_countryLine_40 j1 l3 S
          ) else (
            if j1 = (491328337011 : Int64) then (
              gbX10_countryLine_379 j1 S
            ) else (
              if j1 = (1751215716 : Int64) then (
                gbX10_countryLine_379 j1 S
              ) else (
                if j1 = (465625113971 : Int64) then (
                  gbX10_countryLine_379 j1 S
                ) else (
                  if j1 = (465625113956 : Int64) then (
                    gbX10_countryLine_379 j1 S
                  ) else (
                    b2 (gX10_fails S) fun x375 S375 =>
                    if x375 = 0 ∨ x375 = 1 then some (x375, S375) else none
                  )
                )
              )
            )
          )
        )
      )
    )
  )
set_option maxRecDepth 100000 in
theorem eX10_countryLine {a : Nat} {ρ : RV} {z : AH} (hz : a + szV 9 ≤ z.length) (j1 : Int64) (l3 : Int32) (S : SV) : fX10_countryLine a j1 l3 (wr 9 a ρ S z) = (gX10_countryLine j1 l3 S).map (fun q => (q.1, wr 9 a ρ q.2 z)) := by
  unfold fX10_countryLine gX10_countryLine
  refine eo (isO_rd (rd_wr hz)) ?_
  refine ei (fun _ => ?_) (fun _ => ?_)
  · skip
    exact ebX10_countryLine_40 hz j1 l3 S
  · skip
    refine ei (fun _ => ?_) (fun _ => ?_)
    · skip
      exact ebX10_countryLine_40 hz j1 l3 S
    · skip
      refine ei (fun _ => ?_) (fun _ => ?_)
      · skip
        exact ebX10_countryLine_40 hz j1 l3 S
      · skip
        refine ei (fun _ => ?_) (fun _ => ?_)
        · skip
          exact ebX10_countryLine_40 hz j1 l3 S
        · skip
          refine ei (fun _ => ?_) (fun _ => ?_)
          · skip
            exact ebX10_countryLine_40 hz j1 l3 S
          · skip
            refine ei (fun _ => ?_) (fun _ => ?_)
            · skip
              exact ebX10_countryLine_379 hz j1 S
            · skip
              refine ei (fun _ => ?_) (fun _ => ?_)
              · skip
                exact ebX10_countryLine_379 hz j1 S
              · skip
                refine ei (fun _ => ?_) (fun _ => ?_)
                · skip
                  exact ebX10_countryLine_379 hz j1 S
                · skip
                  refine ei (fun _ => ?_) (fun _ => ?_)
                  · skip
                    exact ebX10_countryLine_379 hz j1 S
                  · skip
                    refine e2m (f := (fun S => wr 9 a ρ S z)) (eX10_fails hz S) (fun x375 S375 => ?_)
                    refine ei (fun _ => rfl) (fun _ => rfl)
def gbX10_keepRow_16 (k16 : Int32 → Int32 → Int32 → SV → Option SV) (l1 : Int32) (l3 : Int32) (l4 : Int32) (S : SV) : Option SV :=
  if l1 ≤ l4 then (
    (rA 121 (S.2.1 19) (0 : Int32)).bind fun x54 =>
    (wA 19 121 S (0 : Int32) (x54 + (1 : Int32))).bind fun S57 =>
    some S57
  ) else (
    (rA 4 (S.2.1 20) l4).bind fun x40 =>
    (wA 19 121 S (((1 : Int32) + (l1 * l3)) + l4) x40).bind fun S41 =>
    nm (l4 + (1 : Int32)) fun v42 =>
    k16 l1 l3 v42 S41
  )
set_option maxRecDepth 100000 in
theorem ebX10_keepRow_16 {a : Nat} {ρ : RV} {z : AH} (hz : a + szV 9 ≤ z.length) {k16 : Nat → Int32 → Int32 → Int32 → AH → Option AH} {k16' : Int32 → Int32 → Int32 → SV → Option SV} (hk16 : ∀ (l1 : Int32) (l3 : Int32) (l4 : Int32) (S : SV), k16 a l1 l3 l4 (wr 9 a ρ S z) = (k16' l1 l3 l4 S).map (fun S => wr 9 a ρ S z)) (l1 : Int32) (l3 : Int32) (l4 : Int32) (S : SV) : bX10_keepRow_16 k16 a l1 l3 l4 (wr 9 a ρ S z) = (gbX10_keepRow_16 k16' l1 l3 l4 S).map (fun S => wr 9 a ρ S z) := by
  unfold bX10_keepRow_16 gbX10_keepRow_16
  refine ei (fun _ => ?_) (fun _ => ?_)
  · skip
    refine sb (gN_rd (rd_wr hz) rfl (Or.inl rfl)) ?_
    refine eb (ixI_rd (rd_wr hz) (k := 19) rfl rfl (by decide) 0 rfl (by decide) _) (fun x54 => ?_)
    refine em (f := (fun S => wr 9 a ρ S z)) (stI_rd rkOk9 hz (k := 19) rfl rfl (by decide) 0 rfl (by decide) _ _) (fun S57 => ?_)
    rfl
  · skip
    refine sb (gN_rd (rd_wr hz) rfl (Or.inl rfl)) ?_
    refine sb (gN_rd (rd_wr hz) rfl (Or.inl rfl)) ?_
    refine eb (ixI_rd (rd_wr hz) (k := 20) rfl rfl (by decide) 0 rfl (by decide) _) (fun x40 => ?_)
    refine em (f := (fun S => wr 9 a ρ S z)) (stI_rd rkOk9 hz (k := 19) rfl rfl (by decide) 0 rfl (by decide) _ _) (fun S41 => ?_)
    refine en (fun v42 => ?_)
    exact hk16 l1 l3 v42 S41
def gfX10_keepRow_16 : Nat → Int32 → Int32 → Int32 → SV → Option SV
  | 0, _, _, _, _ => none
  | n + 1, l1, l3, l4, S => gbX10_keepRow_16 (gfX10_keepRow_16 n) l1 l3 l4 S
theorem efX10_keepRow_16 {a : Nat} {ρ : RV} {z : AH} (hz : a + szV 9 ≤ z.length) : ∀ (n : Nat) (l1 : Int32) (l3 : Int32) (l4 : Int32) (S : SV), fX10_keepRow_16 n a l1 l3 l4 (wr 9 a ρ S z) = (gfX10_keepRow_16 n l1 l3 l4 S).map (fun S => wr 9 a ρ S z) := by
  intro n
  induction n with
  | zero => intros; rfl
  | succ n ih => intro l1 l3 l4 S; exact ebX10_keepRow_16 hz (fun l1 l3 l4 S => ih l1 l3 l4 S) l1 l3 l4 S
def gX10_keepRow (l1 : Int32) (l2 : Int32) (S : SV) : Option SV :=
  (rA 121 (S.2.1 19) (0 : Int32)).bind fun x5 =>
  if x5 = l2 then (
    some S
  ) else (
    gfX10_keepRow_16 FU l1 x5 (0 : Int32) S
  )
set_option maxRecDepth 100000 in
theorem eX10_keepRow {a : Nat} {ρ : RV} {z : AH} (hz : a + szV 9 ≤ z.length) (l1 : Int32) (l2 : Int32) (S : SV) : fX10_keepRow a l1 l2 (wr 9 a ρ S z) = (gX10_keepRow l1 l2 S).map (fun S => wr 9 a ρ S z) := by
  unfold fX10_keepRow gX10_keepRow
  refine eo (isO_rd (rd_wr hz)) ?_
  refine sb (gN_rd (rd_wr hz) rfl (Or.inl rfl)) ?_
  refine eb (ixI_rd (rd_wr hz) (k := 19) rfl rfl (by decide) 0 rfl (by decide) _) (fun x5 => ?_)
  refine ei (fun _ => ?_) (fun _ => ?_)
  · skip
    rfl
  · skip
    exact efX10_keepRow_16 hz FU l1 x5 (0 : Int32) S
def gbX10_yearLine_153 (l4 : Int32) (s0 : Int32) (S : SV) : Option (Int32 × SV) :=
  if s0 = (0 : Int32) then (
    if s0 = 0 ∨ s0 = 1 then some (s0, S) else none
  ) else (
    (wA 20 4 S (0 : Int32) l4).bind fun S167 =>
    (gX10_keepRow (3 : Int32) (40 : Int32) S167).bind fun S172 =>
    if s0 = 0 ∨ s0 = 1 then some (s0, S172) else none
  )
set_option maxRecDepth 100000 in
theorem ebX10_yearLine_153 {a : Nat} {ρ : RV} {z : AH} (hz : a + szV 9 ≤ z.length) (l4 : Int32) (s0 : Int32) (S : SV) : bX10_yearLine_153 a l4 s0 (wr 9 a ρ S z) = (gbX10_yearLine_153 l4 s0 S).map (fun q => (q.1, wr 9 a ρ q.2 z)) := by
  unfold bX10_yearLine_153 gbX10_yearLine_153
  refine ei (fun _ => ?_) (fun _ => ?_)
  · skip
    refine ei (fun _ => rfl) (fun _ => rfl)
  · skip
    refine sb (gN_rd (rd_wr hz) rfl (Or.inl rfl)) ?_
    refine em (f := (fun S => wr 9 a ρ S z)) (stI_rd rkOk9 hz (k := 20) rfl rfl (by decide) 0 rfl (by decide) _ _) (fun S167 => ?_)
    refine em (f := (fun S => wr 9 a ρ S z)) (eX10_keepRow hz (3 : Int32) (40 : Int32) S167) (fun S172 => ?_)
    refine ei (fun _ => rfl) (fun _ => rfl)
def gbX10_yearLine_152 (l4 : Int32) (S : SV) : Option (Int32 × SV) :=
  gbX10_yearLine_153 l4 (0 : Int32) S
set_option maxRecDepth 100000 in
theorem ebX10_yearLine_152 {a : Nat} {ρ : RV} {z : AH} (hz : a + szV 9 ≤ z.length) (l4 : Int32) (S : SV) : bX10_yearLine_152 a l4 (wr 9 a ρ S z) = (gbX10_yearLine_152 l4 S).map (fun q => (q.1, wr 9 a ρ q.2 z)) := by
  unfold bX10_yearLine_152 gbX10_yearLine_152
  exact ebX10_yearLine_153 hz l4 (0 : Int32) S
def gbX10_yearLine_148 (l4 : Int32) (S : SV) : Option (Int32 × SV) :=
  gbX10_yearLine_153 l4 (1 : Int32) S
set_option maxRecDepth 100000 in
theorem ebX10_yearLine_148 {a : Nat} {ρ : RV} {z : AH} (hz : a + szV 9 ≤ z.length) (l4 : Int32) (S : SV) : bX10_yearLine_148 a l4 (wr 9 a ρ S z) = (gbX10_yearLine_148 l4 S).map (fun q => (q.1, wr 9 a ρ q.2 z)) := by
  unfold bX10_yearLine_148 gbX10_yearLine_148
  exact ebX10_yearLine_153 hz l4 (1 : Int32) S
def gbX10_yearLine_61 (l3 : Int32) (s0 : Int32) (S : SV) : Option (Int32 × SV) :=
  if s0 = (-1 : Int32) then (
    b2 (gX10_fails S) fun x70 S70 =>
    if x70 = 0 ∨ x70 = 1 then some (x70, S70) else none
  ) else (
    (gX10_full (0 : Int32) (40 : Int32) l3 S).bind fun S79 =>
    (gX10_token S79).bind fun S83 =>
    (wA 20 4 S83 (1 : Int32) (-1 : Int32)).bind fun S92 =>
    (wA 20 4 S92 (2 : Int32) (-1 : Int32)).bind fun S99 =>
    if s0 = (4 : Int32) then (
      gbX10_yearLine_148 s0 S99
    ) else (
      if s0 = (3 : Int32) then (
        b2 (gX10_takeThing (1 : Int32) (-1 : Int32) S99) fun x115 S115 =>
        if x115 = (0 : Int32) then (
          gbX10_yearLine_152 s0 S115
        ) else (
          gbX10_yearLine_148 s0 S115
        )
      ) else (
        b2 (gX10_take (1 : Int32) (0 : Int32) (3 : Int32) S99) fun x128 S128 =>
        if x128 = (0 : Int32) then (
          gbX10_yearLine_152 s0 S128
        ) else (
          if s0 = (0 : Int32) then (
            b2 (gX10_takeThing (2 : Int32) (-1 : Int32) S128) fun x142 S142 =>
            if x142 = (0 : Int32) then (
              gbX10_yearLine_152 s0 S142
            ) else (
              gbX10_yearLine_148 s0 S142
            )
          ) else (
            gbX10_yearLine_148 s0 S128
          )
        )
      )
    )
  )
set_option maxRecDepth 100000 in
theorem ebX10_yearLine_61 {a : Nat} {ρ : RV} {z : AH} (hz : a + szV 9 ≤ z.length) (l3 : Int32) (s0 : Int32) (S : SV) : bX10_yearLine_61 a l3 s0 (wr 9 a ρ S z) = (gbX10_yearLine_61 l3 s0 S).map (fun q => (q.1, wr 9 a ρ q.2 z)) := by
  unfold bX10_yearLine_61 gbX10_yearLine_61
  refine ei (fun _ => ?_) (fun _ => ?_)
  · skip
    refine e2m (f := (fun S => wr 9 a ρ S z)) (eX10_fails hz S) (fun x70 S70 => ?_)
    refine ei (fun _ => rfl) (fun _ => rfl)
  · skip
    refine em (f := (fun S => wr 9 a ρ S z)) (eX10_full hz (0 : Int32) (40 : Int32) l3 S) (fun S79 => ?_)
    refine em (f := (fun S => wr 9 a ρ S z)) (eX10_token hz S79) (fun S83 => ?_)
    refine sb (gN_rd (rd_wr hz) rfl (Or.inl rfl)) ?_
    refine em (f := (fun S => wr 9 a ρ S z)) (stI_rd rkOk9 hz (k := 20) rfl rfl (by decide) 0 rfl (by decide) _ _) (fun S92 => ?_)
    refine sb (gN_rd (rd_wr hz) rfl (Or.inl rfl)) ?_
    refine em (f := (fun S => wr 9 a ρ S z)) (stI_rd rkOk9 hz (k := 20) rfl rfl (by decide) 0 rfl (by decide) _ _) (fun S99 => ?_)
    refine ei (fun _ => ?_) (fun _ => ?_)
    · skip
      exact ebX10_yearLine_148 hz s0 S99
    · skip
      refine ei (fun _ => ?_) (fun _ => ?_)
      · skip
        refine e2m (f := (fun S => wr 9 a ρ S z)) (eX10_takeThing hz (1 : Int32) (-1 : Int32) S99) (fun x115 S115 => ?_)
        refine ei (fun _ => ?_) (fun _ => ?_)
        · skip
          exact ebX10_yearLine_152 hz s0 S115
        · skip
          exact ebX10_yearLine_148 hz s0 S115
      · skip
        refine e2m (f := (fun S => wr 9 a ρ S z)) (eX10_take hz (1 : Int32) (0 : Int32) (3 : Int32) S99) (fun x128 S128 => ?_)
        refine ei (fun _ => ?_) (fun _ => ?_)
        · skip
          exact ebX10_yearLine_152 hz s0 S128
        · skip
          refine ei (fun _ => ?_) (fun _ => ?_)
          · skip
            refine e2m (f := (fun S => wr 9 a ρ S z)) (eX10_takeThing hz (2 : Int32) (-1 : Int32) S128) (fun x142 S142 => ?_)
            refine ei (fun _ => ?_) (fun _ => ?_)
            · skip
              exact ebX10_yearLine_152 hz s0 S142
            · skip
              exact ebX10_yearLine_148 hz s0 S142
          · skip
            exact ebX10_yearLine_148 hz s0 S128
def gX10_yearLine (j1 : Int64) (l3 : Int32) (S : SV) : Option (Int32 × SV) :=
  if j1 = (1819242347 : Int64) then (
    gbX10_yearLine_61 l3 (0 : Int32) S
  ) else (
    if j1 = (512970876019 : Int64) then (
      gbX10_yearLine_61 l3 (1 : Int32) S
    ) else (
      if j1 = (482737218405 : Int64) then (
        gbX10_yearLine_61 l3 (2 : Int32) S
      ) else (
        if j1 = (120299659095922 : Int64) then (
          gbX10_yearLine_61 l3 (3 : Int32) S
        ) else (
          if j1 = (1752135026 : Int64) then (
            gbX10_yearLine_61 l3 (4 : Int32) S
          ) else (
            gbX10_yearLine_61 l3 (-1 : Int32) S
          )
        )
      )
    )
  )
set_option maxRecDepth 100000 in
theorem eX10_yearLine {a : Nat} {ρ : RV} {z : AH} (hz : a + szV 9 ≤ z.length) (j1 : Int64) (l3 : Int32) (S : SV) : fX10_yearLine a j1 l3 (wr 9 a ρ S z) = (gX10_yearLine j1 l3 S).map (fun q => (q.1, wr 9 a ρ q.2 z)) := by
  unfold fX10_yearLine gX10_yearLine
  refine eo (isO_rd (rd_wr hz)) ?_
  refine ei (fun _ => ?_) (fun _ => ?_)
  · skip
    exact ebX10_yearLine_61 hz l3 (0 : Int32) S
  · skip
    refine ei (fun _ => ?_) (fun _ => ?_)
    · skip
      exact ebX10_yearLine_61 hz l3 (1 : Int32) S
    · skip
      refine ei (fun _ => ?_) (fun _ => ?_)
      · skip
        exact ebX10_yearLine_61 hz l3 (2 : Int32) S
      · skip
        refine ei (fun _ => ?_) (fun _ => ?_)
        · skip
          exact ebX10_yearLine_61 hz l3 (3 : Int32) S
        · skip
          refine ei (fun _ => ?_) (fun _ => ?_)
          · skip
            exact ebX10_yearLine_61 hz l3 (4 : Int32) S
          · skip
            exact ebX10_yearLine_61 hz l3 (-1 : Int32) S
def gbX10_sightLine_37 (l3 : Int32) (s0 : Int32) (S : SV) : Option (Int32 × SV) :=
  if s0 = (-1 : Int32) then (
    b2 (gX10_fails S) fun x46 S46 =>
    if x46 = 0 ∨ x46 = 1 then some (x46, S46) else none
  ) else (
    (gX10_full (0 : Int32) (8 : Int32) l3 S).bind fun S55 =>
    (gX10_token S55).bind fun S59 =>
    b2 (gX10_take (1 : Int32) (0 : Int32) (9 : Int32) S59) fun x67 S67 =>
    if x67 = (0 : Int32) then (
      some ((0 : Int32), S67)
    ) else (
      (wA 20 4 S67 (0 : Int32) s0).bind fun S82 =>
      (gX10_keepRow (2 : Int32) (8 : Int32) S82).bind fun S87 =>
      some ((1 : Int32), S87)
    )
  )
set_option maxRecDepth 100000 in
theorem ebX10_sightLine_37 {a : Nat} {ρ : RV} {z : AH} (hz : a + szV 9 ≤ z.length) (l3 : Int32) (s0 : Int32) (S : SV) : bX10_sightLine_37 a l3 s0 (wr 9 a ρ S z) = (gbX10_sightLine_37 l3 s0 S).map (fun q => (q.1, wr 9 a ρ q.2 z)) := by
  unfold bX10_sightLine_37 gbX10_sightLine_37
  refine ei (fun _ => ?_) (fun _ => ?_)
  · skip
    refine e2m (f := (fun S => wr 9 a ρ S z)) (eX10_fails hz S) (fun x46 S46 => ?_)
    refine ei (fun _ => rfl) (fun _ => rfl)
  · skip
    refine em (f := (fun S => wr 9 a ρ S z)) (eX10_full hz (0 : Int32) (8 : Int32) l3 S) (fun S55 => ?_)
    refine em (f := (fun S => wr 9 a ρ S z)) (eX10_token hz S55) (fun S59 => ?_)
    refine e2m (f := (fun S => wr 9 a ρ S z)) (eX10_take hz (1 : Int32) (0 : Int32) (9 : Int32) S59) (fun x67 S67 => ?_)
    refine ei (fun _ => ?_) (fun _ => ?_)
    · skip
      rfl
    · skip
      refine sb (gN_rd (rd_wr hz) rfl (Or.inl rfl)) ?_
      refine em (f := (fun S => wr 9 a ρ S z)) (stI_rd rkOk9 hz (k := 20) rfl rfl (by decide) 0 rfl (by decide) _ _) (fun S82 => ?_)
      refine em (f := (fun S => wr 9 a ρ S z)) (eX10_keepRow hz (2 : Int32) (8 : Int32) S82) (fun S87 => ?_)
      rfl
def gX10_sightLine (j1 : Int64) (l3 : Int32) (S : SV) : Option (Int32 × SV) :=
  if j1 = (8319400174365927540 : Int64) then (
    gbX10_sightLine_37 l3 (0 : Int32) S
  ) else (
    if j1 = (491394656372 : Int64) then (
      gbX10_sightLine_37 l3 (1 : Int32) S
    ) else (
      if j1 = (1818584692 : Int64) then (
        gbX10_sightLine_37 l3 (2 : Int32) S
      ) else (
        gbX10_sightLine_37 l3 (-1 : Int32) S
      )
    )
  )
set_option maxRecDepth 100000 in
theorem eX10_sightLine {a : Nat} {ρ : RV} {z : AH} (hz : a + szV 9 ≤ z.length) (j1 : Int64) (l3 : Int32) (S : SV) : fX10_sightLine a j1 l3 (wr 9 a ρ S z) = (gX10_sightLine j1 l3 S).map (fun q => (q.1, wr 9 a ρ q.2 z)) := by
  unfold fX10_sightLine gX10_sightLine
  refine eo (isO_rd (rd_wr hz)) ?_
  refine ei (fun _ => ?_) (fun _ => ?_)
  · skip
    exact ebX10_sightLine_37 hz l3 (0 : Int32) S
  · skip
    refine ei (fun _ => ?_) (fun _ => ?_)
    · skip
      exact ebX10_sightLine_37 hz l3 (1 : Int32) S
    · skip
      refine ei (fun _ => ?_) (fun _ => ?_)
      · skip
        exact ebX10_sightLine_37 hz l3 (2 : Int32) S
      · skip
        exact ebX10_sightLine_37 hz l3 (-1 : Int32) S
def gbX10_factLine_84 (l4 : Int32) (S : SV) : Option (Int32 × SV) :=
  b2 (gX10_takeThing (1 : Int32) (-1 : Int32) S) fun x87 S87 =>
  if x87 = (0 : Int32) then (
    some ((0 : Int32), S87)
  ) else (
    (wA 20 4 S87 (0 : Int32) l4).bind fun S102 =>
    (gX10_keepRow (3 : Int32) (16 : Int32) S102).bind fun S107 =>
    some ((1 : Int32), S107)
  )
set_option maxRecDepth 100000 in
theorem ebX10_factLine_84 {a : Nat} {ρ : RV} {z : AH} (hz : a + szV 9 ≤ z.length) (l4 : Int32) (S : SV) : bX10_factLine_84 a l4 (wr 9 a ρ S z) = (gbX10_factLine_84 l4 S).map (fun q => (q.1, wr 9 a ρ q.2 z)) := by
  unfold bX10_factLine_84 gbX10_factLine_84
  refine e2m (f := (fun S => wr 9 a ρ S z)) (eX10_takeThing hz (1 : Int32) (-1 : Int32) S) (fun x87 S87 => ?_)
  refine ei (fun _ => ?_) (fun _ => ?_)
  · skip
    rfl
  · skip
    refine sb (gN_rd (rd_wr hz) rfl (Or.inl rfl)) ?_
    refine em (f := (fun S => wr 9 a ρ S z)) (stI_rd rkOk9 hz (k := 20) rfl rfl (by decide) 0 rfl (by decide) _ _) (fun S102 => ?_)
    refine em (f := (fun S => wr 9 a ρ S z)) (eX10_keepRow hz (3 : Int32) (16 : Int32) S102) (fun S107 => ?_)
    rfl
def gbX10_factLine_37 (l3 : Int32) (s0 : Int32) (S : SV) : Option (Int32 × SV) :=
  if s0 = (-1 : Int32) then (
    b2 (gX10_fails S) fun x46 S46 =>
    if x46 = 0 ∨ x46 = 1 then some (x46, S46) else none
  ) else (
    (gX10_full (0 : Int32) (16 : Int32) l3 S).bind fun S55 =>
    (gX10_token S55).bind fun S59 =>
    (wA 20 4 S59 (2 : Int32) (-1 : Int32)).bind fun S68 =>
    if s0 = (0 : Int32) then (
      b2 (gX10_take (2 : Int32) (0 : Int32) (3 : Int32) S68) fun x78 S78 =>
      if x78 = (0 : Int32) then (
        some ((0 : Int32), S78)
      ) else (
        gbX10_factLine_84 s0 S78
      )
    ) else (
      gbX10_factLine_84 s0 S68
    )
  )
set_option maxRecDepth 100000 in
theorem ebX10_factLine_37 {a : Nat} {ρ : RV} {z : AH} (hz : a + szV 9 ≤ z.length) (l3 : Int32) (s0 : Int32) (S : SV) : bX10_factLine_37 a l3 s0 (wr 9 a ρ S z) = (gbX10_factLine_37 l3 s0 S).map (fun q => (q.1, wr 9 a ρ q.2 z)) := by
  unfold bX10_factLine_37 gbX10_factLine_37
  refine ei (fun _ => ?_) (fun _ => ?_)
  · skip
    refine e2m (f := (fun S => wr 9 a ρ S z)) (eX10_fails hz S) (fun x46 S46 => ?_)
    refine ei (fun _ => rfl) (fun _ => rfl)
  · skip
    refine em (f := (fun S => wr 9 a ρ S z)) (eX10_full hz (0 : Int32) (16 : Int32) l3 S) (fun S55 => ?_)
    refine em (f := (fun S => wr 9 a ρ S z)) (eX10_token hz S55) (fun S59 => ?_)
    refine sb (gN_rd (rd_wr hz) rfl (Or.inl rfl)) ?_
    refine em (f := (fun S => wr 9 a ρ S z)) (stI_rd rkOk9 hz (k := 20) rfl rfl (by decide) 0 rfl (by decide) _ _) (fun S68 => ?_)
    refine ei (fun _ => ?_) (fun _ => ?_)
    · skip
      refine e2m (f := (fun S => wr 9 a ρ S z)) (eX10_take hz (2 : Int32) (0 : Int32) (3 : Int32) S68) (fun x78 S78 => ?_)
      refine ei (fun _ => ?_) (fun _ => ?_)
      · skip
        rfl
      · skip
        exact ebX10_factLine_84 hz s0 S78
    · skip
      exact ebX10_factLine_84 hz s0 S68
def gX10_factLine (j1 : Int64) (l3 : Int32) (S : SV) : Option (Int32 × SV) :=
  if j1 = (119225866478948 : Int64) then (
    gbX10_factLine_37 l3 (0 : Int32) S
  ) else (
    if j1 = (8316012630647337587 : Int64) then (
      gbX10_factLine_37 l3 (1 : Int32) S
    ) else (
      if j1 = (495874305132 : Int64) then (
        gbX10_factLine_37 l3 (2 : Int32) S
      ) else (
        gbX10_factLine_37 l3 (-1 : Int32) S
      )
    )
  )
set_option maxRecDepth 100000 in
theorem eX10_factLine {a : Nat} {ρ : RV} {z : AH} (hz : a + szV 9 ≤ z.length) (j1 : Int64) (l3 : Int32) (S : SV) : fX10_factLine a j1 l3 (wr 9 a ρ S z) = (gX10_factLine j1 l3 S).map (fun q => (q.1, wr 9 a ρ q.2 z)) := by
  unfold fX10_factLine gX10_factLine
  refine eo (isO_rd (rd_wr hz)) ?_
  refine ei (fun _ => ?_) (fun _ => ?_)
  · skip
    exact ebX10_factLine_37 hz l3 (0 : Int32) S
  · skip
    refine ei (fun _ => ?_) (fun _ => ?_)
    · skip
      exact ebX10_factLine_37 hz l3 (1 : Int32) S
    · skip
      refine ei (fun _ => ?_) (fun _ => ?_)
      · skip
        exact ebX10_factLine_37 hz l3 (2 : Int32) S
      · skip
        exact ebX10_factLine_37 hz l3 (-1 : Int32) S
def gX10_lineOf (l1 : Int32) (j2 : Int64) (l4 : Int32) (S : SV) : Option (Int32 × SV) :=
  if l1 = (0 : Int32) then (
    b2 (gX10_countryLine j2 l4 S) fun x32 S32 =>
    if x32 = 0 ∨ x32 = 1 then some (x32, S32) else none
  ) else (
    if l1 = (1 : Int32) then (
      b2 (gX10_yearLine j2 l4 S) fun x40 S40 =>
      if x40 = 0 ∨ x40 = 1 then some (x40, S40) else none
    ) else (
      if l1 = (2 : Int32) then (
        b2 (gX10_sightLine j2 l4 S) fun x48 S48 =>
        if x48 = 0 ∨ x48 = 1 then some (x48, S48) else none
      ) else (
        b2 (gX10_factLine j2 l4 S) fun x56 S56 =>
        if x56 = 0 ∨ x56 = 1 then some (x56, S56) else none
      )
    )
  )
set_option maxRecDepth 100000 in
theorem eX10_lineOf {a : Nat} {ρ : RV} {z : AH} (hz : a + szV 9 ≤ z.length) (l1 : Int32) (j2 : Int64) (l4 : Int32) (S : SV) : fX10_lineOf a l1 j2 l4 (wr 9 a ρ S z) = (gX10_lineOf l1 j2 l4 S).map (fun q => (q.1, wr 9 a ρ q.2 z)) := by
  unfold fX10_lineOf gX10_lineOf
  refine eo (isO_rd (rd_wr hz)) ?_
  refine ei (fun _ => ?_) (fun _ => ?_)
  · skip
    refine e2m (f := (fun S => wr 9 a ρ S z)) (eX10_countryLine hz j2 l4 S) (fun x32 S32 => ?_)
    refine ei (fun _ => rfl) (fun _ => rfl)
  · skip
    refine ei (fun _ => ?_) (fun _ => ?_)
    · skip
      refine e2m (f := (fun S => wr 9 a ρ S z)) (eX10_yearLine hz j2 l4 S) (fun x40 S40 => ?_)
      refine ei (fun _ => rfl) (fun _ => rfl)
    · skip
      refine ei (fun _ => ?_) (fun _ => ?_)
      · skip
        refine e2m (f := (fun S => wr 9 a ρ S z)) (eX10_sightLine hz j2 l4 S) (fun x48 S48 => ?_)
        refine ei (fun _ => rfl) (fun _ => rfl)
      · skip
        refine e2m (f := (fun S => wr 9 a ρ S z)) (eX10_factLine hz j2 l4 S) (fun x56 S56 => ?_)
        refine ei (fun _ => rfl) (fun _ => rfl)
def gbX10_lines_71 (k2 : Int32 → Int32 → SV → Option (Int32 × SV)) (l1 : Int32) (l2 : Int32) (S : SV) : Option (Int32 × SV) :=
  k2 l1 l2 S
set_option maxRecDepth 100000 in
theorem ebX10_lines_71 {a : Nat} {ρ : RV} {z : AH} (hz : a + szV 9 ≤ z.length) {k2 : Nat → Int32 → Int32 → AH → Option (Int32 × AH)} {k2' : Int32 → Int32 → SV → Option (Int32 × SV)} (hk2 : ∀ (l1 : Int32) (l2 : Int32) (S : SV), k2 a l1 l2 (wr 9 a ρ S z) = (k2' l1 l2 S).map (fun q => (q.1, wr 9 a ρ q.2 z))) (l1 : Int32) (l2 : Int32) (S : SV) : bX10_lines_71 k2 a l1 l2 (wr 9 a ρ S z) = (gbX10_lines_71 k2' l1 l2 S).map (fun q => (q.1, wr 9 a ρ q.2 z)) := by
  unfold bX10_lines_71 gbX10_lines_71
  exact hk2 l1 l2 S
def gbX10_lines_63 (k2 : Int32 → Int32 → SV → Option (Int32 × SV)) (l1 : Int32) (l2 : Int32) (S : SV) : Option (Int32 × SV) :=
  if l2 = (0 : Int32) then (
    gbX10_lines_71 k2 l1 l2 S
  ) else (
    (gX10_token S).bind fun S68 =>
    gbX10_lines_71 k2 l1 l2 S68
  )
set_option maxRecDepth 100000 in
theorem ebX10_lines_63 {a : Nat} {ρ : RV} {z : AH} (hz : a + szV 9 ≤ z.length) {k2 : Nat → Int32 → Int32 → AH → Option (Int32 × AH)} {k2' : Int32 → Int32 → SV → Option (Int32 × SV)} (hk2 : ∀ (l1 : Int32) (l2 : Int32) (S : SV), k2 a l1 l2 (wr 9 a ρ S z) = (k2' l1 l2 S).map (fun q => (q.1, wr 9 a ρ q.2 z))) (l1 : Int32) (l2 : Int32) (S : SV) : bX10_lines_63 k2 a l1 l2 (wr 9 a ρ S z) = (gbX10_lines_63 k2' l1 l2 S).map (fun q => (q.1, wr 9 a ρ q.2 z)) := by
  unfold bX10_lines_63 gbX10_lines_63
  refine ei (fun _ => ?_) (fun _ => ?_)
  · skip
    exact ebX10_lines_71 hz hk2 l1 l2 S
  · skip
    refine em (f := (fun S => wr 9 a ρ S z)) (eX10_token hz S) (fun S68 => ?_)
    exact ebX10_lines_71 hz hk2 l1 l2 S68
def gbX10_lines_41 (k2 : Int32 → Int32 → SV → Option (Int32 × SV)) (l1 : Int32) (l3 : Int32) (s1 : Int32) (s2 : Int64) (S : SV) : Option (Int32 × SV) :=
  b2 (gX10_lineOf s1 s2 l3 S) fun x42 S42 =>
  if x42 = (0 : Int32) then (
    gbX10_lines_63 k2 l1 x42 S42
  ) else (
    if (S42.1 13) = (4 : Int32) then (
      gbX10_lines_63 k2 l1 x42 S42
    ) else (
      b2 (gX10_fails S42) fun x59 S59 =>
      gbX10_lines_63 k2 l1 x59 S59
    )
  )
set_option maxRecDepth 100000 in
theorem ebX10_lines_41 {a : Nat} {ρ : RV} {z : AH} (hz : a + szV 9 ≤ z.length) {k2 : Nat → Int32 → Int32 → AH → Option (Int32 × AH)} {k2' : Int32 → Int32 → SV → Option (Int32 × SV)} (hk2 : ∀ (l1 : Int32) (l2 : Int32) (S : SV), k2 a l1 l2 (wr 9 a ρ S z) = (k2' l1 l2 S).map (fun q => (q.1, wr 9 a ρ q.2 z))) (l1 : Int32) (l3 : Int32) (s1 : Int32) (s2 : Int64) (S : SV) : bX10_lines_41 k2 a l1 l3 a s1 s2 (wr 9 a ρ S z) = (gbX10_lines_41 k2' l1 l3 s1 s2 S).map (fun q => (q.1, wr 9 a ρ q.2 z)) := by
  unfold bX10_lines_41 gbX10_lines_41
  refine e2m (f := (fun S => wr 9 a ρ S z)) (eX10_lineOf hz s1 s2 l3 S) (fun x42 S42 => ?_)
  refine ei (fun _ => ?_) (fun _ => ?_)
  · skip
    exact ebX10_lines_63 hz hk2 l1 x42 S42
  · skip
    refine sb (gI_rd (rd_wr hz) rfl) ?_
    refine ei (fun _ => ?_) (fun _ => ?_)
    · skip
      exact ebX10_lines_63 hz hk2 l1 x42 S42
    · skip
      refine e2m (f := (fun S => wr 9 a ρ S z)) (eX10_fails hz S42) (fun x59 S59 => ?_)
      exact ebX10_lines_63 hz hk2 l1 x59 S59
def gbX10_lines_2 (k2 : Int32 → Int32 → SV → Option (Int32 × SV)) (l1 : Int32) (l2 : Int32) (S : SV) : Option (Int32 × SV) :=
  if l2 = (0 : Int32) then (
    if l2 = 0 ∨ l2 = 1 then some (l2, S) else none
  ) else (
    if (S.1 13) = (0 : Int32) then (
      if l2 = 0 ∨ l2 = 1 then some (l2, S) else none
    ) else (
      nm (wI S 24 (1 : Int32)) fun S20 =>
      if (S20.1 13) = (2 : Int32) then (
        gbX10_lines_41 k2 l1 (S.1 12) l1 S20.2.2 S20
      ) else (
        gbX10_lines_41 k2 l1 (S.1 12) l1 (0 : Int64) S20
      )
    )
  )
set_option maxRecDepth 100000 in
theorem ebX10_lines_2 {a : Nat} {ρ : RV} {z : AH} (hz : a + szV 9 ≤ z.length) {k2 : Nat → Int32 → Int32 → AH → Option (Int32 × AH)} {k2' : Int32 → Int32 → SV → Option (Int32 × SV)} (hk2 : ∀ (l1 : Int32) (l2 : Int32) (S : SV), k2 a l1 l2 (wr 9 a ρ S z) = (k2' l1 l2 S).map (fun q => (q.1, wr 9 a ρ q.2 z))) (l1 : Int32) (l2 : Int32) (S : SV) : bX10_lines_2 k2 a l1 l2 (wr 9 a ρ S z) = (gbX10_lines_2 k2' l1 l2 S).map (fun q => (q.1, wr 9 a ρ q.2 z)) := by
  unfold bX10_lines_2 gbX10_lines_2
  refine ei (fun _ => ?_) (fun _ => ?_)
  · skip
    refine ei (fun _ => rfl) (fun _ => rfl)
  · skip
    refine sb (gI_rd (rd_wr hz) rfl) ?_
    refine ei (fun _ => ?_) (fun _ => ?_)
    · skip
      refine ei (fun _ => rfl) (fun _ => rfl)
    · skip
      refine sb (gI_rd (rd_wr hz) rfl) ?_
      refine ep (f := (fun S => wr 9 a ρ S z)) (pF_int hz rfl _) (fun S20 => ?_)
      refine sb (gI_rd (rd_wr hz) rfl) ?_
      refine ei (fun _ => ?_) (fun _ => ?_)
      · skip
        refine sb (gJ_rd (rd_wr hz) rfl) ?_
        exact ebX10_lines_41 hz hk2 l1 (S.1 12) l1 S20.2.2 S20
      · skip
        exact ebX10_lines_41 hz hk2 l1 (S.1 12) l1 (0 : Int64) S20
def gfX10_lines_2 : Nat → Int32 → Int32 → SV → Option (Int32 × SV)
  | 0, _, _, _ => none
  | n + 1, l1, l2, S => gbX10_lines_2 (gfX10_lines_2 n) l1 l2 S
theorem efX10_lines_2 {a : Nat} {ρ : RV} {z : AH} (hz : a + szV 9 ≤ z.length) : ∀ (n : Nat) (l1 : Int32) (l2 : Int32) (S : SV), fX10_lines_2 n a l1 l2 (wr 9 a ρ S z) = (gfX10_lines_2 n l1 l2 S).map (fun q => (q.1, wr 9 a ρ q.2 z)) := by
  intro n
  induction n with
  | zero => intros; rfl
  | succ n ih => intro l1 l2 S; exact ebX10_lines_2 hz (fun l1 l2 S => ih l1 l2 S) l1 l2 S
def gX10_lines (l1 : Int32) (S : SV) : Option (Int32 × SV) :=
  gfX10_lines_2 FU l1 (1 : Int32) S
set_option maxRecDepth 100000 in
theorem eX10_lines {a : Nat} {ρ : RV} {z : AH} (hz : a + szV 9 ≤ z.length) (l1 : Int32) (S : SV) : fX10_lines a l1 (wr 9 a ρ S z) = (gX10_lines l1 S).map (fun q => (q.1, wr 9 a ρ q.2 z)) := by
  unfold fX10_lines gX10_lines
  refine eo (isO_rd (rd_wr hz)) ?_
  exact efX10_lines_2 hz FU l1 (1 : Int32) S
def gbX10_isRing_43 (k2 : Int32 → Option (Int32)) (l1 : Int32) (l2 : Int32) (S : SV) : Option (Int32) :=
  if l2 = (-1 : Int32) then (
    nm (l1 + (1 : Int32)) fun v50 =>
    k2 v50
  ) else (
    some (1 : Int32)
  )
set_option maxRecDepth 100000 in
theorem ebX10_isRing_43 {a : Nat} {ρ : RV} {S : SV} {z : AH} (hR : RD 9 a ρ S z) {k2 : Nat → Int32 → Option (Int32)} {k2' : Int32 → Option (Int32)} (hk2 : ∀ (l1 : Int32), k2 a l1 = k2' l1) (l1 : Int32) (l2 : Int32) : bX10_isRing_43 k2 a l1 l2 z = gbX10_isRing_43 k2' l1 l2 S := by
  unfold bX10_isRing_43 gbX10_isRing_43
  refine ei0 (fun _ => ?_) (fun _ => ?_)
  · skip
    refine en0 (fun v50 => ?_)
    exact hk2 v50
  · skip
    rfl
def gbX10_isRing_16 (k2 : Int32 → Option (Int32)) (k16 : Int32 → Int32 → Int32 → Option (Int32)) (l1 : Int32) (l2 : Int32) (l3 : Int32) (S : SV) : Option (Int32) :=
  if (8 : Int32) ≤ l3 then (
    gbX10_isRing_43 k2 l1 l2 S
  ) else (
    if l2 = (-1 : Int32) then (
      gbX10_isRing_43 k2 l1 l2 S
    ) else (
      (rA 121 (S.2.1 19) ((30 : Int32) + l2)).bind fun x35 =>
      nm (l3 + (1 : Int32)) fun v37 =>
      k16 l1 x35 v37
    )
  )
set_option maxRecDepth 100000 in
theorem ebX10_isRing_16 {a : Nat} {ρ : RV} {S : SV} {z : AH} (hR : RD 9 a ρ S z) {k2 : Nat → Int32 → Option (Int32)} {k2' : Int32 → Option (Int32)} {k16 : Nat → Int32 → Int32 → Int32 → Option (Int32)} {k16' : Int32 → Int32 → Int32 → Option (Int32)} (hk2 : ∀ (l1 : Int32), k2 a l1 = k2' l1) (hk16 : ∀ (l1 : Int32) (l2 : Int32) (l3 : Int32), k16 a l1 l2 l3 = k16' l1 l2 l3) (l1 : Int32) (l2 : Int32) (l3 : Int32) : bX10_isRing_16 k2 k16 a l1 l2 l3 z = gbX10_isRing_16 k2' k16' l1 l2 l3 S := by
  unfold bX10_isRing_16 gbX10_isRing_16
  refine ei0 (fun _ => ?_) (fun _ => ?_)
  · skip
    exact ebX10_isRing_43 hR hk2 l1 l2
  · skip
    refine ei0 (fun _ => ?_) (fun _ => ?_)
    · skip
      exact ebX10_isRing_43 hR hk2 l1 l2
    · skip
      refine sb (gN_rd hR rfl (Or.inl rfl)) ?_
      refine eb0 (ixI_rd hR (k := 19) rfl rfl (by decide) 0 rfl (by decide) _) (fun x35 => ?_)
      refine en0 (fun v37 => ?_)
      exact hk16 l1 x35 v37
def gfX10_isRing_16 (k2 : Int32 → Option (Int32)) (S : SV) : Nat → Int32 → Int32 → Int32 → Option (Int32)
  | 0, _, _, _ => none
  | n + 1, l1, l2, l3 => gbX10_isRing_16 k2 (gfX10_isRing_16 k2 S n) l1 l2 l3 S
theorem efX10_isRing_16 {a : Nat} {ρ : RV} {S : SV} {z : AH} (hR : RD 9 a ρ S z) {k2 : Nat → Int32 → Option (Int32)} {k2' : Int32 → Option (Int32)} (hk2 : ∀ (l1 : Int32), k2 a l1 = k2' l1) : ∀ (n : Nat) (l1 : Int32) (l2 : Int32) (l3 : Int32), fX10_isRing_16 k2 z n a l1 l2 l3 = gfX10_isRing_16 k2' S n l1 l2 l3 := by
  intro n
  induction n with
  | zero => intros; rfl
  | succ n ih => intro l1 l2 l3; exact ebX10_isRing_16 hR hk2 (fun l1 l2 l3 => ih l1 l2 l3) l1 l2 l3
def gbX10_isRing_2 (k2 : Int32 → Option (Int32)) (l1 : Int32) (S : SV) : Option (Int32) :=
  (rA 121 (S.2.1 19) (0 : Int32)).bind fun x8 =>
  if x8 ≤ l1 then (
    some (0 : Int32)
  ) else (
    gfX10_isRing_16 k2 S FU l1 l1 (0 : Int32)
  )
set_option maxRecDepth 100000 in
theorem ebX10_isRing_2 {a : Nat} {ρ : RV} {S : SV} {z : AH} (hR : RD 9 a ρ S z) {k2 : Nat → Int32 → Option (Int32)} {k2' : Int32 → Option (Int32)} (hk2 : ∀ (l1 : Int32), k2 a l1 = k2' l1) (l1 : Int32) : bX10_isRing_2 k2 a l1 z = gbX10_isRing_2 k2' l1 S := by
  unfold bX10_isRing_2 gbX10_isRing_2
  refine sb (gN_rd hR rfl (Or.inl rfl)) ?_
  refine eb0 (ixI_rd hR (k := 19) rfl rfl (by decide) 0 rfl (by decide) _) (fun x8 => ?_)
  refine ei0 (fun _ => ?_) (fun _ => ?_)
  · skip
    rfl
  · skip
    exact efX10_isRing_16 hR hk2 FU l1 l1 (0 : Int32)
def gfX10_isRing_2 (S : SV) : Nat → Int32 → Option (Int32)
  | 0, _ => none
  | n + 1, l1 => gbX10_isRing_2 (gfX10_isRing_2 S n) l1 S
theorem efX10_isRing_2 {a : Nat} {ρ : RV} {S : SV} {z : AH} (hR : RD 9 a ρ S z) : ∀ (n : Nat) (l1 : Int32), fX10_isRing_2 z n a l1 = gfX10_isRing_2 S n l1 := by
  intro n
  induction n with
  | zero => intros; rfl
  | succ n ih => intro l1; exact ebX10_isRing_2 hR (fun l1 => ih l1) l1
def gX10_isRing (S : SV) : Option (Int32) :=
  gfX10_isRing_2 S FU (0 : Int32)
set_option maxRecDepth 100000 in
theorem eX10_isRing {a : Nat} {ρ : RV} {S : SV} {z : AH} (hR : RD 9 a ρ S z) : fX10_isRing a z = gX10_isRing S := by
  unfold fX10_isRing gX10_isRing
  refine eo (isO_rd hR) ?_
  exact efX10_isRing_2 hR FU (0 : Int32)
def gbX10_isTwice_14 (k2 : Int32 → Option (Int32)) (k14 : Int32 → Int32 → Option (Int32)) (l1 : Int32) (l2 : Int32) (S : SV) : Option (Int32) :=
  if l1 ≤ l2 then (
    nm (l1 + (1 : Int32)) fun v69 =>
    k2 v69
  ) else (
    (rA 121 (S.2.1 19) ((46 : Int32) + l1)).bind fun x27 =>
    (rA 121 (S.2.1 19) ((46 : Int32) + l2)).bind fun x36 =>
    if x27 = x36 then (
      some (1 : Int32)
    ) else (
      (rA 121 (S.2.1 19) ((50 : Int32) + l1)).bind fun x48 =>
      (rA 121 (S.2.1 19) ((50 : Int32) + l2)).bind fun x57 =>
      if x48 = x57 then (
        some (1 : Int32)
      ) else (
        nm (l2 + (1 : Int32)) fun v63 =>
        k14 l1 v63
      )
    )
  )
set_option maxRecDepth 100000 in
theorem ebX10_isTwice_14 {a : Nat} {ρ : RV} {S : SV} {z : AH} (hR : RD 9 a ρ S z) {k2 : Nat → Int32 → Option (Int32)} {k2' : Int32 → Option (Int32)} {k14 : Nat → Int32 → Int32 → Option (Int32)} {k14' : Int32 → Int32 → Option (Int32)} (hk2 : ∀ (l1 : Int32), k2 a l1 = k2' l1) (hk14 : ∀ (l1 : Int32) (l2 : Int32), k14 a l1 l2 = k14' l1 l2) (l1 : Int32) (l2 : Int32) : bX10_isTwice_14 k2 k14 a l1 l2 z = gbX10_isTwice_14 k2' k14' l1 l2 S := by
  unfold bX10_isTwice_14 gbX10_isTwice_14
  refine ei0 (fun _ => ?_) (fun _ => ?_)
  · skip
    refine en0 (fun v69 => ?_)
    exact hk2 v69
  · skip
    refine sb (gN_rd hR rfl (Or.inl rfl)) ?_
    refine eb0 (ixI_rd hR (k := 19) rfl rfl (by decide) 0 rfl (by decide) _) (fun x27 => ?_)
    refine sb (gN_rd hR rfl (Or.inl rfl)) ?_
    refine eb0 (ixI_rd hR (k := 19) rfl rfl (by decide) 0 rfl (by decide) _) (fun x36 => ?_)
    refine ei0 (fun _ => ?_) (fun _ => ?_)
    · skip
      rfl
    · skip
      refine sb (gN_rd hR rfl (Or.inl rfl)) ?_
      refine eb0 (ixI_rd hR (k := 19) rfl rfl (by decide) 0 rfl (by decide) _) (fun x48 => ?_)
      refine sb (gN_rd hR rfl (Or.inl rfl)) ?_
      refine eb0 (ixI_rd hR (k := 19) rfl rfl (by decide) 0 rfl (by decide) _) (fun x57 => ?_)
      refine ei0 (fun _ => ?_) (fun _ => ?_)
      · skip
        rfl
      · skip
        refine en0 (fun v63 => ?_)
        exact hk14 l1 v63
def gfX10_isTwice_14 (k2 : Int32 → Option (Int32)) (S : SV) : Nat → Int32 → Int32 → Option (Int32)
  | 0, _, _ => none
  | n + 1, l1, l2 => gbX10_isTwice_14 k2 (gfX10_isTwice_14 k2 S n) l1 l2 S
theorem efX10_isTwice_14 {a : Nat} {ρ : RV} {S : SV} {z : AH} (hR : RD 9 a ρ S z) {k2 : Nat → Int32 → Option (Int32)} {k2' : Int32 → Option (Int32)} (hk2 : ∀ (l1 : Int32), k2 a l1 = k2' l1) : ∀ (n : Nat) (l1 : Int32) (l2 : Int32), fX10_isTwice_14 k2 z n a l1 l2 = gfX10_isTwice_14 k2' S n l1 l2 := by
  intro n
  induction n with
  | zero => intros; rfl
  | succ n ih => intro l1 l2; exact ebX10_isTwice_14 hR hk2 (fun l1 l2 => ih l1 l2) l1 l2
def gbX10_isTwice_2 (k2 : Int32 → Option (Int32)) (l1 : Int32) (S : SV) : Option (Int32) :=
  (rA 121 (S.2.1 19) (4 : Int32)).bind fun x8 =>
  if x8 ≤ l1 then (
    some (0 : Int32)
  ) else (
    gfX10_isTwice_14 k2 S FU l1 (0 : Int32)
  )
set_option maxRecDepth 100000 in
theorem ebX10_isTwice_2 {a : Nat} {ρ : RV} {S : SV} {z : AH} (hR : RD 9 a ρ S z) {k2 : Nat → Int32 → Option (Int32)} {k2' : Int32 → Option (Int32)} (hk2 : ∀ (l1 : Int32), k2 a l1 = k2' l1) (l1 : Int32) : bX10_isTwice_2 k2 a l1 z = gbX10_isTwice_2 k2' l1 S := by
  unfold bX10_isTwice_2 gbX10_isTwice_2
  refine sb (gN_rd hR rfl (Or.inl rfl)) ?_
  refine eb0 (ixI_rd hR (k := 19) rfl rfl (by decide) 0 rfl (by decide) _) (fun x8 => ?_)
  refine ei0 (fun _ => ?_) (fun _ => ?_)
  · skip
    rfl
  · skip
    exact efX10_isTwice_14 hR hk2 FU l1 (0 : Int32)
def gfX10_isTwice_2 (S : SV) : Nat → Int32 → Option (Int32)
  | 0, _ => none
  | n + 1, l1 => gbX10_isTwice_2 (gfX10_isTwice_2 S n) l1 S
theorem efX10_isTwice_2 {a : Nat} {ρ : RV} {S : SV} {z : AH} (hR : RD 9 a ρ S z) : ∀ (n : Nat) (l1 : Int32), fX10_isTwice_2 z n a l1 = gfX10_isTwice_2 S n l1 := by
  intro n
  induction n with
  | zero => intros; rfl
  | succ n ih => intro l1; exact ebX10_isTwice_2 hR (fun l1 => ih l1) l1
def gX10_isTwice (S : SV) : Option (Int32) :=
  gfX10_isTwice_2 S FU (0 : Int32)
set_option maxRecDepth 100000 in
theorem eX10_isTwice {a : Nat} {ρ : RV} {S : SV} {z : AH} (hR : RD 9 a ρ S z) : fX10_isTwice a z = gX10_isTwice S := by
  unfold fX10_isTwice gX10_isTwice
  refine eo (isO_rd hR) ?_
  exact efX10_isTwice_2 hR FU (0 : Int32)
def gX10_endFault (S : SV) : Option (Int32) :=
  (rA 121 (S.2.1 19) (0 : Int32)).bind fun x9 =>
  if x9 ≤ (S.1 21) then (
    some (4 : Int32)
  ) else (
    (rA 121 (S.2.1 19) (2 : Int32)).bind fun x22 =>
    if x22 ≤ (S.1 22) then (
      some (4 : Int32)
    ) else (
      (rA 121 (S.2.1 19) (3 : Int32)).bind fun x35 =>
      if (S.1 23) < x35 then (
        (gX10_isRing S).bind fun x44 =>
        if x44 = (0 : Int32) then (
          (gX10_isTwice S).bind fun x55 =>
          if x55 = (0 : Int32) then (
            some (0 : Int32)
          ) else (
            some (6 : Int32)
          )
        ) else (
          some (5 : Int32)
        )
      ) else (
        some (4 : Int32)
      )
    )
  )
set_option maxRecDepth 100000 in
theorem eX10_endFault {a : Nat} {ρ : RV} {S : SV} {z : AH} (hR : RD 9 a ρ S z) : fX10_endFault a z = gX10_endFault S := by
  unfold fX10_endFault gX10_endFault
  refine eo (isO_rd hR) ?_
  refine sb (gI_rd hR rfl) ?_
  refine sb (gN_rd hR rfl (Or.inl rfl)) ?_
  refine eb0 (ixI_rd hR (k := 19) rfl rfl (by decide) 0 rfl (by decide) _) (fun x9 => ?_)
  refine ei0 (fun _ => ?_) (fun _ => ?_)
  · skip
    rfl
  · skip
    refine sb (gI_rd hR rfl) ?_
    refine sb (gN_rd hR rfl (Or.inl rfl)) ?_
    refine eb0 (ixI_rd hR (k := 19) rfl rfl (by decide) 0 rfl (by decide) _) (fun x22 => ?_)
    refine ei0 (fun _ => ?_) (fun _ => ?_)
    · skip
      rfl
    · skip
      refine sb (gI_rd hR rfl) ?_
      refine sb (gN_rd hR rfl (Or.inl rfl)) ?_
      refine eb0 (ixI_rd hR (k := 19) rfl rfl (by decide) 0 rfl (by decide) _) (fun x35 => ?_)
      refine ei0 (fun _ => ?_) (fun _ => ?_)
      · skip
        refine eb0 (eX10_isRing hR) (fun x44 => ?_)
        refine ei0 (fun _ => ?_) (fun _ => ?_)
        · skip
          refine eb0 (eX10_isTwice hR) (fun x55 => ?_)
          refine ei0 (fun _ => ?_) (fun _ => ?_)
          · skip
            rfl
          · skip
            rfl
        · skip
          rfl
      · skip
        rfl
def gbX10_readText_171 (s0 : Nat) (s1 : Int32) (s2 : Int32) (S : SV) : Option (Int32 × SV) :=
  (wA s0 (aLen 9 s0) S s1 s2).bind fun S171 =>
  (rA 4 (S171.2.1 3) (0 : Int32)).bind fun x177 =>
  if x177 = (0 : Int32) then (
    some ((1 : Int32), S171)
  ) else (
    some ((0 : Int32), S171)
  )
set_option maxRecDepth 100000 in
theorem ebX10_readText_171 {a : Nat} {ρ : RV} {z : AH} (hz : a + szV 9 ≤ z.length) (s0 : Nat) (s1 : Int32) (s2 : Int32) (S : SV) (r_s0 : arrI 9 s0 = true) : bX10_readText_171 a (a + aOff 9 s0) s1 s2 (wr 9 a ρ S z) = (gbX10_readText_171 s0 s1 s2 S).map (fun q => (q.1, wr 9 a ρ q.2 z)) := by
  unfold bX10_readText_171 gbX10_readText_171
  refine em (f := (fun S => wr 9 a ρ S z)) (stI_rd rkOk9 hz (aI1 r_s0) (aI2 r_s0) (aI3 r_s0) 0 rfl (by decide) _ _) (fun S171 => ?_)
  refine sb (gN_rd (rd_wr hz) rfl (Or.inl rfl)) ?_
  refine eb (ixI_rd (rd_wr hz) (k := 3) rfl rfl (by decide) 0 rfl (by decide) _) (fun x177 => ?_)
  refine ei (fun _ => ?_) (fun _ => ?_)
  · skip
    rfl
  · skip
    rfl
def gbX10_readText_139 (l2 : Int32) (s0 : Nat) (s1 : Int32) (s2 : Int32) (S : SV) : Option (Int32 × SV) :=
  (wA s0 (aLen 9 s0) S s1 s2).bind fun S139 =>
  if l2 = (0 : Int32) then (
    gbX10_readText_171 4 (0 : Int32) (S139.1 16) S139
  ) else (
    if (S139.1 17) ≤ (0 : Int32) then (
      gbX10_readText_171 4 (0 : Int32) (-1 : Int32) S139
    ) else (
      gbX10_readText_171 4 (0 : Int32) (S139.1 18) S139
    )
  )
set_option maxRecDepth 100000 in
theorem ebX10_readText_139 {a : Nat} {ρ : RV} {z : AH} (hz : a + szV 9 ≤ z.length) (l2 : Int32) (s0 : Nat) (s1 : Int32) (s2 : Int32) (S : SV) (r_s0 : arrI 9 s0 = true) : bX10_readText_139 a l2 (a + aOff 9 s0) s1 s2 (wr 9 a ρ S z) = (gbX10_readText_139 l2 s0 s1 s2 S).map (fun q => (q.1, wr 9 a ρ q.2 z)) := by
  unfold bX10_readText_139 gbX10_readText_139
  refine em (f := (fun S => wr 9 a ρ S z)) (stI_rd rkOk9 hz (aI1 r_s0) (aI2 r_s0) (aI3 r_s0) 0 rfl (by decide) _ _) (fun S139 => ?_)
  refine sb (gN_rd (rd_wr hz) rfl (Or.inl rfl)) ?_
  refine ei (fun _ => ?_) (fun _ => ?_)
  · skip
    refine sb (gI_rd (rd_wr hz) rfl) ?_
    exact ebX10_readText_171 hz 4 (0 : Int32) (S139.1 16) S139 rfl
  · skip
    refine sb (gI_rd (rd_wr hz) rfl) ?_
    refine ei (fun _ => ?_) (fun _ => ?_)
    · skip
      exact ebX10_readText_171 hz 4 (0 : Int32) (-1 : Int32) S139 rfl
    · skip
      refine sb (gI_rd (rd_wr hz) rfl) ?_
      exact ebX10_readText_171 hz 4 (0 : Int32) (S139.1 18) S139 rfl
def gbX10_readText_122 (l2 : Int32) (S : SV) : Option (Int32 × SV) :=
  if l2 = (0 : Int32) then (
    gbX10_readText_139 l2 3 (0 : Int32) (1 : Int32) S
  ) else (
    gbX10_readText_139 l2 3 (0 : Int32) (S.1 17) S
  )
set_option maxRecDepth 100000 in
theorem ebX10_readText_122 {a : Nat} {ρ : RV} {z : AH} (hz : a + szV 9 ≤ z.length) (l2 : Int32) (S : SV) : bX10_readText_122 a l2 (wr 9 a ρ S z) = (gbX10_readText_122 l2 S).map (fun q => (q.1, wr 9 a ρ q.2 z)) := by
  unfold bX10_readText_122 gbX10_readText_122
  refine sb (gN_rd (rd_wr hz) rfl (Or.inl rfl)) ?_
  refine ei (fun _ => ?_) (fun _ => ?_)
  · skip
    exact ebX10_readText_139 hz l2 3 (0 : Int32) (1 : Int32) S rfl
  · skip
    refine sb (gI_rd (rd_wr hz) rfl) ?_
    exact ebX10_readText_139 hz l2 3 (0 : Int32) (S.1 17) S rfl
def gbX10_readText_32 (k2 : Int32 → Int32 → SV → Option (Int32 × SV)) (l1 : Int32) (l2 : Int32) (s0 : Nat) (s1 : Int32) (S : SV) : Option (Int32 × SV) :=
  if l1 = (0 : Int32) then (
    if l2 = (5 : Int32) then (
      (wA s0 (aLen 9 s0) S s1 (3 : Int32)).bind fun S46 =>
      nm (l2 + (1 : Int32)) fun v47 =>
      k2 l1 v47 S46
    ) else (
      (wA s0 (aLen 9 s0) S s1 (0 : Int32)).bind fun S46 =>
      nm (l2 + (1 : Int32)) fun v47 =>
      k2 l1 v47 S46
    )
  ) else (
    (wA s0 (aLen 9 s0) S s1 (0 : Int32)).bind fun S46 =>
    nm (l2 + (1 : Int32)) fun v47 =>
    k2 l1 v47 S46
  )
set_option maxRecDepth 100000 in
theorem ebX10_readText_32 {a : Nat} {ρ : RV} {z : AH} (hz : a + szV 9 ≤ z.length) {k2 : Nat → Int32 → Int32 → AH → Option (Int32 × AH)} {k2' : Int32 → Int32 → SV → Option (Int32 × SV)} (hk2 : ∀ (l1 : Int32) (l2 : Int32) (S : SV), k2 a l1 l2 (wr 9 a ρ S z) = (k2' l1 l2 S).map (fun q => (q.1, wr 9 a ρ q.2 z))) (l1 : Int32) (l2 : Int32) (s0 : Nat) (s1 : Int32) (S : SV) (r_s0 : arrI 9 s0 = true) : bX10_readText_32 k2 a l1 l2 (a + aOff 9 s0) s1 (wr 9 a ρ S z) = (gbX10_readText_32 k2' l1 l2 s0 s1 S).map (fun q => (q.1, wr 9 a ρ q.2 z)) := by
  unfold bX10_readText_32 gbX10_readText_32
  refine ei (fun _ => ?_) (fun _ => ?_)
  · skip
    refine ei (fun _ => ?_) (fun _ => ?_)
    · skip
      refine em (f := (fun S => wr 9 a ρ S z)) (stI_rd rkOk9 hz (aI1 r_s0) (aI2 r_s0) (aI3 r_s0) 0 rfl (by decide) _ _) (fun S46 => ?_)
      refine en (fun v47 => ?_)
      exact hk2 l1 v47 S46
    · skip
      refine em (f := (fun S => wr 9 a ρ S z)) (stI_rd rkOk9 hz (aI1 r_s0) (aI2 r_s0) (aI3 r_s0) 0 rfl (by decide) _ _) (fun S46 => ?_)
      refine en (fun v47 => ?_)
      exact hk2 l1 v47 S46
  · skip
    refine em (f := (fun S => wr 9 a ρ S z)) (stI_rd rkOk9 hz (aI1 r_s0) (aI2 r_s0) (aI3 r_s0) 0 rfl (by decide) _ _) (fun S46 => ?_)
    refine en (fun v47 => ?_)
    exact hk2 l1 v47 S46
def gbX10_readText_2 (k2 : Int32 → Int32 → SV → Option (Int32 × SV)) (l1 : Int32) (l2 : Int32) (S : SV) : Option (Int32 × SV) :=
  if (121 : Int32) ≤ l2 then (
    nm (wI S 21 (-1 : Int32)) fun S55 =>
    nm (wI S55 22 (-1 : Int32)) fun S60 =>
    nm (wI S60 23 (-1 : Int32)) fun S65 =>
    nm (wI S65 10 (0 : Int32)) fun S70 =>
    nm (wI S70 17 (0 : Int32)) fun S75 =>
    (gX10_token S75).bind fun S79 =>
    b2 (gX10_lines l1 S79) fun x84 S84 =>
    if x84 = (0 : Int32) then (
      gbX10_readText_122 x84 S84
    ) else (
      if l1 = (0 : Int32) then (
        if (S84.1 17) = (0 : Int32) then (
          (gX10_endFault S84).bind fun x104 =>
          if x104 ≤ (0 : Int32) then (
            gbX10_readText_122 x84 S84
          ) else (
            (gX10_endFault S84).bind fun x112 =>
            (gX10_later x112 (S84.1 12) S84).bind fun S119 =>
            gbX10_readText_122 x84 S119
          )
        ) else (
          gbX10_readText_122 x84 S84
        )
      ) else (
        gbX10_readText_122 x84 S84
      )
    )
  ) else (
    if l1 = (0 : Int32) then (
      if (fX10_in l2 (30 : Int32) (37 : Int32)) = (0 : Int32) then (
        gbX10_readText_32 k2 l1 l2 19 l2 S
      ) else (
        (wA 19 121 S l2 (-1 : Int32)).bind fun S46 =>
        nm (l2 + (1 : Int32)) fun v47 =>
        k2 l1 v47 S46
      )
    ) else (
      gbX10_readText_32 k2 l1 l2 19 l2 S
    )
  )
set_option maxRecDepth 100000 in
theorem ebX10_readText_2 {a : Nat} {ρ : RV} {z : AH} (hz : a + szV 9 ≤ z.length) {k2 : Nat → Int32 → Int32 → AH → Option (Int32 × AH)} {k2' : Int32 → Int32 → SV → Option (Int32 × SV)} (hk2 : ∀ (l1 : Int32) (l2 : Int32) (S : SV), k2 a l1 l2 (wr 9 a ρ S z) = (k2' l1 l2 S).map (fun q => (q.1, wr 9 a ρ q.2 z))) (l1 : Int32) (l2 : Int32) (S : SV) : bX10_readText_2 k2 a l1 l2 (wr 9 a ρ S z) = (gbX10_readText_2 k2' l1 l2 S).map (fun q => (q.1, wr 9 a ρ q.2 z)) := by
  unfold bX10_readText_2 gbX10_readText_2
  refine ei (fun _ => ?_) (fun _ => ?_)
  · skip
    refine ep (f := (fun S => wr 9 a ρ S z)) (pF_int hz rfl _) (fun S55 => ?_)
    refine ep (f := (fun S => wr 9 a ρ S z)) (pF_int hz rfl _) (fun S60 => ?_)
    refine ep (f := (fun S => wr 9 a ρ S z)) (pF_int hz rfl _) (fun S65 => ?_)
    refine ep (f := (fun S => wr 9 a ρ S z)) (pF_int hz rfl _) (fun S70 => ?_)
    refine ep (f := (fun S => wr 9 a ρ S z)) (pF_int hz rfl _) (fun S75 => ?_)
    refine em (f := (fun S => wr 9 a ρ S z)) (eX10_token hz S75) (fun S79 => ?_)
    refine e2m (f := (fun S => wr 9 a ρ S z)) (eX10_lines hz l1 S79) (fun x84 S84 => ?_)
    refine ei (fun _ => ?_) (fun _ => ?_)
    · skip
      exact ebX10_readText_122 hz x84 S84
    · skip
      refine ei (fun _ => ?_) (fun _ => ?_)
      · skip
        refine sb (gI_rd (rd_wr hz) rfl) ?_
        refine ei (fun _ => ?_) (fun _ => ?_)
        · skip
          refine eb (eX10_endFault (rd_wr hz)) (fun x104 => ?_)
          refine ei (fun _ => ?_) (fun _ => ?_)
          · skip
            exact ebX10_readText_122 hz x84 S84
          · skip
            refine eb (eX10_endFault (rd_wr hz)) (fun x112 => ?_)
            refine sb (gI_rd (rd_wr hz) rfl) ?_
            refine em (f := (fun S => wr 9 a ρ S z)) (eX10_later hz x112 (S84.1 12) S84) (fun S119 => ?_)
            exact ebX10_readText_122 hz x84 S119
        · skip
          exact ebX10_readText_122 hz x84 S84
      · skip
        exact ebX10_readText_122 hz x84 S84
  · skip
    refine sb (gN_rd (rd_wr hz) rfl (Or.inl rfl)) ?_
    refine ei (fun _ => ?_) (fun _ => ?_)
    · skip
      refine ei (fun _ => ?_) (fun _ => ?_)
      · skip
        exact ebX10_readText_32 hz hk2 l1 l2 19 l2 S rfl
      · skip
        refine em (f := (fun S => wr 9 a ρ S z)) (stI_rd rkOk9 hz (k := 19) rfl rfl (by decide) 0 rfl (by decide) _ _) (fun S46 => ?_)
        refine en (fun v47 => ?_)
        exact hk2 l1 v47 S46
    · skip
      exact ebX10_readText_32 hz hk2 l1 l2 19 l2 S rfl
def gfX10_readText_2 : Nat → Int32 → Int32 → SV → Option (Int32 × SV)
  | 0, _, _, _ => none
  | n + 1, l1, l2, S => gbX10_readText_2 (gfX10_readText_2 n) l1 l2 S
theorem efX10_readText_2 {a : Nat} {ρ : RV} {z : AH} (hz : a + szV 9 ≤ z.length) : ∀ (n : Nat) (l1 : Int32) (l2 : Int32) (S : SV), fX10_readText_2 n a l1 l2 (wr 9 a ρ S z) = (gfX10_readText_2 n l1 l2 S).map (fun q => (q.1, wr 9 a ρ q.2 z)) := by
  intro n
  induction n with
  | zero => intros; rfl
  | succ n ih => intro l1 l2 S; exact ebX10_readText_2 hz (fun l1 l2 S => ih l1 l2 S) l1 l2 S
def gX10_readText (l1 : Int32) (S : SV) : Option (Int32 × SV) :=
  gfX10_readText_2 FU l1 (0 : Int32) S
set_option maxRecDepth 100000 in
theorem eX10_readText {a : Nat} {ρ : RV} {z : AH} (hz : a + szV 9 ≤ z.length) (l1 : Int32) (S : SV) : fX10_readText a l1 (wr 9 a ρ S z) = (gX10_readText l1 S).map (fun q => (q.1, wr 9 a ρ q.2 z)) := by
  unfold fX10_readText gX10_readText
  refine eo (isO_rd (rd_wr hz)) ?_
  exact efX10_readText_2 hz FU l1 (0 : Int32) S
def gbX10_store_3 (k3 : Nat → Int32 → Int32 → Int32 → SV → Option SV) (a1 : Nat) (l2 : Int32) (l3 : Int32) (l4 : Int32) (S : SV) : Option SV :=
  if l2 ≤ l4 then (
    some S
  ) else (
    (rA 121 (S.2.1 19) l4).bind fun x22 =>
    (wA a1 (aLen 9 a1) S ((l2 * l3) + l4) x22).bind fun S23 =>
    nm (l4 + (1 : Int32)) fun v24 =>
    k3 a1 l2 l3 v24 S23
  )
set_option maxRecDepth 100000 in
theorem ebX10_store_3 {a : Nat} {ρ : RV} {z : AH} (hz : a + szV 9 ≤ z.length) {k3 : Nat → Nat → Int32 → Int32 → Int32 → AH → Option AH} {k3' : Nat → Int32 → Int32 → Int32 → SV → Option SV} (hk3 : ∀ (a1 : Nat) (l2 : Int32) (l3 : Int32) (l4 : Int32) (S : SV), arrI 9 a1 = true → k3 a (a + aOff 9 a1) l2 l3 l4 (wr 9 a ρ S z) = (k3' a1 l2 l3 l4 S).map (fun S => wr 9 a ρ S z)) (a1 : Nat) (l2 : Int32) (l3 : Int32) (l4 : Int32) (S : SV) (r_a1 : arrI 9 a1 = true) : bX10_store_3 k3 a (a + aOff 9 a1) l2 l3 l4 (wr 9 a ρ S z) = (gbX10_store_3 k3' a1 l2 l3 l4 S).map (fun S => wr 9 a ρ S z) := by
  unfold bX10_store_3 gbX10_store_3
  refine ei (fun _ => ?_) (fun _ => ?_)
  · skip
    rfl
  · skip
    refine sb (gN_rd (rd_wr hz) rfl (Or.inl rfl)) ?_
    refine eb (ixI_rd (rd_wr hz) (k := 19) rfl rfl (by decide) 0 rfl (by decide) _) (fun x22 => ?_)
    refine em (f := (fun S => wr 9 a ρ S z)) (stI_rd rkOk9 hz (aI1 r_a1) (aI2 r_a1) (aI3 r_a1) 0 rfl (by decide) _ _) (fun S23 => ?_)
    refine en (fun v24 => ?_)
    exact hk3 a1 l2 l3 v24 S23 r_a1
def gfX10_store_3 : Nat → Nat → Int32 → Int32 → Int32 → SV → Option SV
  | 0, _, _, _, _, _ => none
  | n + 1, a1, l2, l3, l4, S => gbX10_store_3 (gfX10_store_3 n) a1 l2 l3 l4 S
theorem efX10_store_3 {a : Nat} {ρ : RV} {z : AH} (hz : a + szV 9 ≤ z.length) : ∀ (n : Nat) (a1 : Nat) (l2 : Int32) (l3 : Int32) (l4 : Int32) (S : SV), arrI 9 a1 = true → fX10_store_3 n a (a + aOff 9 a1) l2 l3 l4 (wr 9 a ρ S z) = (gfX10_store_3 n a1 l2 l3 l4 S).map (fun S => wr 9 a ρ S z) := by
  intro n
  induction n with
  | zero => intros; rfl
  | succ n ih => intro a1 l2 l3 l4 S r_a1; exact ebX10_store_3 hz (fun a1 l2 l3 l4 S r_a1 => ih a1 l2 l3 l4 S r_a1) a1 l2 l3 l4 S r_a1
def gX10_store (a1 : Nat) (l2 : Int32) (l3 : Int32) (S : SV) : Option SV :=
  gfX10_store_3 FU a1 l2 l3 (0 : Int32) S
set_option maxRecDepth 100000 in
theorem eX10_store {a : Nat} {ρ : RV} {z : AH} (hz : a + szV 9 ≤ z.length) (a1 : Nat) (l2 : Int32) (l3 : Int32) (S : SV) (r_a1 : arrI 9 a1 = true) : fX10_store a (a + aOff 9 a1) l2 l3 (wr 9 a ρ S z) = (gX10_store a1 l2 l3 S).map (fun S => wr 9 a ρ S z) := by
  unfold fX10_store gX10_store
  refine eo (isO_rd (rd_wr hz)) ?_
  exact efX10_store_3 hz FU a1 l2 l3 (0 : Int32) S r_a1
def gX10_storeAll (l1 : Int32) (l2 : Int32) (S : SV) : Option SV :=
  if l1 = (0 : Int32) then (
    (gX10_store 6 (110 : Int32) l2 S).bind fun S36 =>
    some S36
  ) else (
    if l1 = (1 : Int32) then (
      (gX10_store 7 (121 : Int32) l2 S).bind fun S48 =>
      some S48
    ) else (
      if l1 = (2 : Int32) then (
        (gX10_store 8 (17 : Int32) l2 S).bind fun S60 =>
        some S60
      ) else (
        (gX10_store 9 (49 : Int32) l2 S).bind fun S72 =>
        some S72
      )
    )
  )
set_option maxRecDepth 100000 in
theorem eX10_storeAll {a : Nat} {ρ : RV} {z : AH} (hz : a + szV 9 ≤ z.length) (l1 : Int32) (l2 : Int32) (S : SV) : fX10_storeAll a l1 l2 (wr 9 a ρ S z) = (gX10_storeAll l1 l2 S).map (fun S => wr 9 a ρ S z) := by
  unfold fX10_storeAll gX10_storeAll
  refine eo (isO_rd (rd_wr hz)) ?_
  refine ei (fun _ => ?_) (fun _ => ?_)
  · skip
    refine sb (gN_rd (rd_wr hz) rfl (Or.inl rfl)) ?_
    refine em (f := (fun S => wr 9 a ρ S z)) (eX10_store hz 6 (110 : Int32) l2 S rfl) (fun S36 => ?_)
    rfl
  · skip
    refine ei (fun _ => ?_) (fun _ => ?_)
    · skip
      refine sb (gN_rd (rd_wr hz) rfl (Or.inl rfl)) ?_
      refine em (f := (fun S => wr 9 a ρ S z)) (eX10_store hz 7 (121 : Int32) l2 S rfl) (fun S48 => ?_)
      rfl
    · skip
      refine ei (fun _ => ?_) (fun _ => ?_)
      · skip
        refine sb (gN_rd (rd_wr hz) rfl (Or.inl rfl)) ?_
        refine em (f := (fun S => wr 9 a ρ S z)) (eX10_store hz 8 (17 : Int32) l2 S rfl) (fun S60 => ?_)
        rfl
      · skip
        refine sb (gN_rd (rd_wr hz) rfl (Or.inl rfl)) ?_
        refine em (f := (fun S => wr 9 a ρ S z)) (eX10_store hz 9 (49 : Int32) l2 S rfl) (fun S72 => ?_)
        rfl
def gbX10_text_118 (l1 : Int32) (l3 : Int32) (s0 : Nat) (s1 : Int32) (s2 : Int32) (s3 : Int32) (S : SV) : Option (Int32 × SV) :=
  (wA s0 (aLen 9 s0) S s1 (s2 + s3)).bind fun S119 =>
  (gX10_storeAll l1 l3 S119).bind fun S123 =>
  some (l3, S123)
set_option maxRecDepth 100000 in
theorem ebX10_text_118 {a : Nat} {ρ : RV} {z : AH} (hz : a + szV 9 ≤ z.length) (l1 : Int32) (l3 : Int32) (s0 : Nat) (s1 : Int32) (s2 : Int32) (s3 : Int32) (S : SV) (r_s0 : arrI 9 s0 = true) : bX10_text_118 a l1 l3 (a + aOff 9 s0) s1 s2 s3 (wr 9 a ρ S z) = (gbX10_text_118 l1 l3 s0 s1 s2 s3 S).map (fun q => (q.1, wr 9 a ρ q.2 z)) := by
  unfold bX10_text_118 gbX10_text_118
  refine em (f := (fun S => wr 9 a ρ S z)) (stI_rd rkOk9 hz (aI1 r_s0) (aI2 r_s0) (aI3 r_s0) 0 rfl (by decide) _ _) (fun S119 => ?_)
  refine em (f := (fun S => wr 9 a ρ S z)) (eX10_storeAll hz l1 l3 S119) (fun S123 => ?_)
  rfl
def gbX10_text_100 (l1 : Int32) (l2 : Int32) (s0 : Int32) (S : SV) : Option (Int32 × SV) :=
  (rA 16 (S.2.1 5) l1).bind fun x107 =>
  if l2 = (-1 : Int32) then (
    gbX10_text_118 l1 s0 5 l1 x107 (1 : Int32) S
  ) else (
    gbX10_text_118 l1 s0 5 l1 x107 (0 : Int32) S
  )
set_option maxRecDepth 100000 in
theorem ebX10_text_100 {a : Nat} {ρ : RV} {z : AH} (hz : a + szV 9 ≤ z.length) (l1 : Int32) (l2 : Int32) (s0 : Int32) (S : SV) : bX10_text_100 a l1 l2 s0 (wr 9 a ρ S z) = (gbX10_text_100 l1 l2 s0 S).map (fun q => (q.1, wr 9 a ρ q.2 z)) := by
  unfold bX10_text_100 gbX10_text_100
  refine sb (gN_rd (rd_wr hz) rfl (Or.inl rfl)) ?_
  refine eb (ixI_rd (rd_wr hz) (k := 5) rfl rfl (by decide) 0 rfl (by decide) _) (fun x107 => ?_)
  refine ei (fun _ => ?_) (fun _ => ?_)
  · skip
    exact ebX10_text_118 hz l1 s0 5 l1 x107 (1 : Int32) S rfl
  · skip
    exact ebX10_text_118 hz l1 s0 5 l1 x107 (0 : Int32) S rfl
def gbX10_text_75 (l1 : Int32) (l2 : Int32) (S : SV) : Option (Int32 × SV) :=
  b2 (gX10_readText l1 S) fun x77 S77 =>
  if x77 = (0 : Int32) then (
    some ((-1 : Int32), S77)
  ) else (
    if l2 = (-1 : Int32) then (
      (rA 16 (S77.2.1 5) l1).bind fun x95 =>
      gbX10_text_100 l1 l2 x95 S77
    ) else (
      gbX10_text_100 l1 l2 l2 S77
    )
  )
set_option maxRecDepth 100000 in
theorem ebX10_text_75 {a : Nat} {ρ : RV} {z : AH} (hz : a + szV 9 ≤ z.length) (l1 : Int32) (l2 : Int32) (S : SV) : bX10_text_75 a l1 l2 (wr 9 a ρ S z) = (gbX10_text_75 l1 l2 S).map (fun q => (q.1, wr 9 a ρ q.2 z)) := by
  unfold bX10_text_75 gbX10_text_75
  refine e2m (f := (fun S => wr 9 a ρ S z)) (eX10_readText hz l1 S) (fun x77 S77 => ?_)
  refine ei (fun _ => ?_) (fun _ => ?_)
  · skip
    rfl
  · skip
    refine ei (fun _ => ?_) (fun _ => ?_)
    · skip
      refine sb (gN_rd (rd_wr hz) rfl (Or.inl rfl)) ?_
      refine eb (ixI_rd (rd_wr hz) (k := 5) rfl rfl (by decide) 0 rfl (by decide) _) (fun x95 => ?_)
      exact ebX10_text_100 hz l1 l2 x95 S77
    · skip
      exact ebX10_text_100 hz l1 l2 l2 S77
def gX10_text (l1 : Int32) (l2 : Int32) (S : SV) : Option (Int32 × SV) :=
  nm (wI S 0 (0 : Int32)) fun S2 =>
  (rA 4 (S2.2.1 2) (0 : Int32)).bind fun x11 =>
  nm (wI S2 11 x11) fun S12 =>
  (wA 2 4 S12 (0 : Int32) (0 : Int32)).bind fun S21 =>
  (wA 3 4 S21 (0 : Int32) (0 : Int32)).bind fun S28 =>
  (wA 4 4 S28 (0 : Int32) (-1 : Int32)).bind fun S35 =>
  if (fX10_in l1 (0 : Int32) (3 : Int32)) = (0 : Int32) then (
    some ((-2 : Int32), S35)
  ) else (
    if l2 = (-1 : Int32) then (
      (rA 16 (S35.2.1 5) l1).bind fun x55 =>
      if x55 = (2 : Int32) then (
        some ((-2 : Int32), S35)
      ) else (
        gbX10_text_75 l1 l2 S35
      )
    ) else (
      (gX10_is l1 l2 S35).bind fun x66 =>
      if x66 = (0 : Int32) then (
        some ((-2 : Int32), S35)
      ) else (
        gbX10_text_75 l1 l2 S35
      )
    )
  )
set_option maxRecDepth 100000 in
theorem eX10_text {a : Nat} {ρ : RV} {z : AH} (hz : a + szV 9 ≤ z.length) (l1 : Int32) (l2 : Int32) (S : SV) : fX10_text a l1 l2 (wr 9 a ρ S z) = (gX10_text l1 l2 S).map (fun q => (q.1, wr 9 a ρ q.2 z)) := by
  unfold fX10_text gX10_text
  refine eo (isO_rd (rd_wr hz)) ?_
  refine ep (f := (fun S => wr 9 a ρ S z)) (pF_int hz rfl _) (fun S2 => ?_)
  refine sb (gN_rd (rd_wr hz) rfl (Or.inl rfl)) ?_
  refine eb (ixI_rd (rd_wr hz) (k := 2) rfl rfl (by decide) 0 rfl (by decide) _) (fun x11 => ?_)
  refine ep (f := (fun S => wr 9 a ρ S z)) (pF_int hz rfl _) (fun S12 => ?_)
  refine sb (gN_rd (rd_wr hz) rfl (Or.inl rfl)) ?_
  refine em (f := (fun S => wr 9 a ρ S z)) (stI_rd rkOk9 hz (k := 2) rfl rfl (by decide) 0 rfl (by decide) _ _) (fun S21 => ?_)
  refine sb (gN_rd (rd_wr hz) rfl (Or.inl rfl)) ?_
  refine em (f := (fun S => wr 9 a ρ S z)) (stI_rd rkOk9 hz (k := 3) rfl rfl (by decide) 0 rfl (by decide) _ _) (fun S28 => ?_)
  refine sb (gN_rd (rd_wr hz) rfl (Or.inl rfl)) ?_
  refine em (f := (fun S => wr 9 a ρ S z)) (stI_rd rkOk9 hz (k := 4) rfl rfl (by decide) 0 rfl (by decide) _ _) (fun S35 => ?_)
  refine ei (fun _ => ?_) (fun _ => ?_)
  · skip
    rfl
  · skip
    refine ei (fun _ => ?_) (fun _ => ?_)
    · skip
      refine sb (gN_rd (rd_wr hz) rfl (Or.inl rfl)) ?_
      refine eb (ixI_rd (rd_wr hz) (k := 5) rfl rfl (by decide) 0 rfl (by decide) _) (fun x55 => ?_)
      refine ei (fun _ => ?_) (fun _ => ?_)
      · skip
        rfl
      · skip
        exact ebX10_text_75 hz l1 l2 S35
    · skip
      refine eb (eX10_is (rd_wr hz) l1 l2) (fun x66 => ?_)
      refine ei (fun _ => ?_) (fun _ => ?_)
      · skip
        rfl
      · skip
        exact ebX10_text_75 hz l1 l2 S35
def gX10_fault (l1 : Int32) (S : SV) : Option (Int32 × SV) :=
  nm (wI S 0 (0 : Int32)) fun S2 =>
  if l1 = (0 : Int32) then (
    (rA 4 (S2.2.1 3) (0 : Int32)).bind fun x14 =>
    some (x14, S2)
  ) else (
    if l1 = (1 : Int32) then (
      (rA 4 (S2.2.1 4) (0 : Int32)).bind fun x28 =>
      some (x28, S2)
    ) else (
      some ((-1 : Int32), S2)
    )
  )
set_option maxRecDepth 100000 in
theorem eX10_fault {a : Nat} {ρ : RV} {z : AH} (hz : a + szV 9 ≤ z.length) (l1 : Int32) (S : SV) : fX10_fault a l1 (wr 9 a ρ S z) = (gX10_fault l1 S).map (fun q => (q.1, wr 9 a ρ q.2 z)) := by
  unfold fX10_fault gX10_fault
  refine eo (isO_rd (rd_wr hz)) ?_
  refine ep (f := (fun S => wr 9 a ρ S z)) (pF_int hz rfl _) (fun S2 => ?_)
  refine ei (fun _ => ?_) (fun _ => ?_)
  · skip
    refine sb (gN_rd (rd_wr hz) rfl (Or.inl rfl)) ?_
    refine eb (ixI_rd (rd_wr hz) (k := 3) rfl rfl (by decide) 0 rfl (by decide) _) (fun x14 => ?_)
    rfl
  · skip
    refine ei (fun _ => ?_) (fun _ => ?_)
    · skip
      refine sb (gN_rd (rd_wr hz) rfl (Or.inl rfl)) ?_
      refine eb (ixI_rd (rd_wr hz) (k := 4) rfl rfl (by decide) 0 rfl (by decide) _) (fun x28 => ?_)
      rfl
    · skip
      rfl
def gX10_of (l1 : Int32) (S : SV) : Option (Int32) :=
  (rA 880 (S.2.1 6) (((110 : Int32) * (S.1 25)) + l1)).bind fun x13 =>
  some x13
set_option maxRecDepth 100000 in
theorem eX10_of {a : Nat} {ρ : RV} {S : SV} {z : AH} (hR : RD 9 a ρ S z) (l1 : Int32) : fX10_of a l1 z = gX10_of l1 S := by
  unfold fX10_of gX10_of
  refine eo (isO_rd hR) ?_
  refine sb (gN_rd hR rfl (Or.inl rfl)) ?_
  refine sb (gI_rd hR rfl) ?_
  refine eb0 (ixI_rd hR (k := 6) rfl rfl (by decide) 0 rfl (by decide) _) (fun x13 => ?_)
  rfl
def gbX10_begin_2 (k2 : Int32 → SV → Option SV) (l1 : Int32) (S : SV) : Option SV :=
  if (8 : Int32) ≤ l1 then (
    nm (wI S 31 (0 : Int32)) fun S44 =>
    nm (wI S44 32 (0 : Int32)) fun S49 =>
    nm (wI S49 33 (0 : Int32)) fun S54 =>
    nm (wI S54 34 (0 : Int32)) fun S59 =>
    nm (wI S59 35 (0 : Int32)) fun S64 =>
    nm (wI S64 36 (0 : Int32)) fun S69 =>
    nm (wI S69 37 (0 : Int32)) fun S74 =>
    some S74
  ) else (
    (gX10_of ((6 : Int32) + l1) S).bind fun x18 =>
    (wA 28 8 S l1 x18).bind fun S21 =>
    (gX10_of ((14 : Int32) + l1) S21).bind fun x32 =>
    (wA 29 8 S21 l1 x32).bind fun S35 =>
    nm (l1 + (1 : Int32)) fun v36 =>
    k2 v36 S35
  )
set_option maxRecDepth 100000 in
theorem ebX10_begin_2 {a : Nat} {ρ : RV} {z : AH} (hz : a + szV 9 ≤ z.length) {k2 : Nat → Int32 → AH → Option AH} {k2' : Int32 → SV → Option SV} (hk2 : ∀ (l1 : Int32) (S : SV), k2 a l1 (wr 9 a ρ S z) = (k2' l1 S).map (fun S => wr 9 a ρ S z)) (l1 : Int32) (S : SV) : bX10_begin_2 k2 a l1 (wr 9 a ρ S z) = (gbX10_begin_2 k2' l1 S).map (fun S => wr 9 a ρ S z) := by
  unfold bX10_begin_2 gbX10_begin_2
  refine ei (fun _ => ?_) (fun _ => ?_)
  · skip
    refine ep (f := (fun S => wr 9 a ρ S z)) (pF_int hz rfl _) (fun S44 => ?_)
    refine ep (f := (fun S => wr 9 a ρ S z)) (pF_int hz rfl _) (fun S49 => ?_)
    refine ep (f := (fun S => wr 9 a ρ S z)) (pF_int hz rfl _) (fun S54 => ?_)
    refine ep (f := (fun S => wr 9 a ρ S z)) (pF_int hz rfl _) (fun S59 => ?_)
    refine ep (f := (fun S => wr 9 a ρ S z)) (pF_int hz rfl _) (fun S64 => ?_)
    refine ep (f := (fun S => wr 9 a ρ S z)) (pF_int hz rfl _) (fun S69 => ?_)
    refine ep (f := (fun S => wr 9 a ρ S z)) (pF_int hz rfl _) (fun S74 => ?_)
    rfl
  · skip
    refine sb (gN_rd (rd_wr hz) rfl (Or.inl rfl)) ?_
    refine eb (eX10_of (rd_wr hz) ((6 : Int32) + l1)) (fun x18 => ?_)
    refine em (f := (fun S => wr 9 a ρ S z)) (stI_rd rkOk9 hz (k := 28) rfl rfl (by decide) 0 rfl (by decide) _ _) (fun S21 => ?_)
    refine sb (gN_rd (rd_wr hz) rfl (Or.inl rfl)) ?_
    refine eb (eX10_of (rd_wr hz) ((14 : Int32) + l1)) (fun x32 => ?_)
    refine em (f := (fun S => wr 9 a ρ S z)) (stI_rd rkOk9 hz (k := 29) rfl rfl (by decide) 0 rfl (by decide) _ _) (fun S35 => ?_)
    refine en (fun v36 => ?_)
    exact hk2 v36 S35
def gfX10_begin_2 : Nat → Int32 → SV → Option SV
  | 0, _, _ => none
  | n + 1, l1, S => gbX10_begin_2 (gfX10_begin_2 n) l1 S
theorem efX10_begin_2 {a : Nat} {ρ : RV} {z : AH} (hz : a + szV 9 ≤ z.length) : ∀ (n : Nat) (l1 : Int32) (S : SV), fX10_begin_2 n a l1 (wr 9 a ρ S z) = (gfX10_begin_2 n l1 S).map (fun S => wr 9 a ρ S z) := by
  intro n
  induction n with
  | zero => intros; rfl
  | succ n ih => intro l1 S; exact ebX10_begin_2 hz (fun l1 S => ih l1 S) l1 S
def gX10_begin (S : SV) : Option SV :=
  gfX10_begin_2 FU (0 : Int32) S
set_option maxRecDepth 100000 in
theorem eX10_begin {a : Nat} {ρ : RV} {z : AH} (hz : a + szV 9 ≤ z.length) (S : SV) : fX10_begin a (wr 9 a ρ S z) = (gX10_begin S).map (fun S => wr 9 a ρ S z) := by
  unfold fX10_begin gX10_begin
  refine eo (isO_rd (rd_wr hz)) ?_
  exact efX10_begin_2 hz FU (0 : Int32) S
def gbX10_bears_4 (k4 : Int32 → Int32 → Int32 → Option (Int32)) (l1 : Int32) (l2 : Int32) (l3 : Int32) (S : SV) : Option (Int32) :=
  if (S.1 26) ≤ l3 then (
    some l2
  ) else (
    (rA 8 (S.2.1 30) l1).bind fun x18 =>
    if (fX10_has (x18 &&& ((S.1 31) ^^^ (-1 : Int32))) l3) = (0 : Int32) then (
      nm (l2 + (0 : Int32)) fun v44 =>
      nm (l3 + (1 : Int32)) fun v45 =>
      k4 l1 v44 v45
    ) else (
      (rA 8 (S.2.1 29) l3).bind fun x38 =>
      nm (l2 + x38) fun v44 =>
      nm (l3 + (1 : Int32)) fun v45 =>
      k4 l1 v44 v45
    )
  )
set_option maxRecDepth 100000 in
theorem ebX10_bears_4 {a : Nat} {ρ : RV} {S : SV} {z : AH} (hR : RD 9 a ρ S z) {k4 : Nat → Int32 → Int32 → Int32 → Option (Int32)} {k4' : Int32 → Int32 → Int32 → Option (Int32)} (hk4 : ∀ (l1 : Int32) (l2 : Int32) (l3 : Int32), k4 a l1 l2 l3 = k4' l1 l2 l3) (l1 : Int32) (l2 : Int32) (l3 : Int32) : bX10_bears_4 k4 a l1 l2 l3 z = gbX10_bears_4 k4' l1 l2 l3 S := by
  unfold bX10_bears_4 gbX10_bears_4
  refine sb (gI_rd hR rfl) ?_
  refine ei0 (fun _ => ?_) (fun _ => ?_)
  · skip
    rfl
  · skip
    refine sb (gN_rd hR rfl (Or.inl rfl)) ?_
    refine eb0 (ixI_rd hR (k := 30) rfl rfl (by decide) 0 rfl (by decide) _) (fun x18 => ?_)
    refine sb (gI_rd hR rfl) ?_
    refine ei0 (fun _ => ?_) (fun _ => ?_)
    · skip
      refine en0 (fun v44 => ?_)
      refine en0 (fun v45 => ?_)
      exact hk4 l1 v44 v45
    · skip
      refine sb (gN_rd hR rfl (Or.inl rfl)) ?_
      refine eb0 (ixI_rd hR (k := 29) rfl rfl (by decide) 0 rfl (by decide) _) (fun x38 => ?_)
      refine en0 (fun v44 => ?_)
      refine en0 (fun v45 => ?_)
      exact hk4 l1 v44 v45
def gfX10_bears_4 (S : SV) : Nat → Int32 → Int32 → Int32 → Option (Int32)
  | 0, _, _, _ => none
  | n + 1, l1, l2, l3 => gbX10_bears_4 (gfX10_bears_4 S n) l1 l2 l3 S
theorem efX10_bears_4 {a : Nat} {ρ : RV} {S : SV} {z : AH} (hR : RD 9 a ρ S z) : ∀ (n : Nat) (l1 : Int32) (l2 : Int32) (l3 : Int32), fX10_bears_4 z n a l1 l2 l3 = gfX10_bears_4 S n l1 l2 l3 := by
  intro n
  induction n with
  | zero => intros; rfl
  | succ n ih => intro l1 l2 l3; exact ebX10_bears_4 hR (fun l1 l2 l3 => ih l1 l2 l3) l1 l2 l3
def gX10_bears (l1 : Int32) (S : SV) : Option (Int32) :=
  gfX10_bears_4 S FU l1 (0 : Int32) (0 : Int32)
set_option maxRecDepth 100000 in
theorem eX10_bears {a : Nat} {ρ : RV} {S : SV} {z : AH} (hR : RD 9 a ρ S z) (l1 : Int32) : fX10_bears a l1 z = gX10_bears l1 S := by
  unfold fX10_bears gX10_bears
  refine eo (isO_rd hR) ?_
  exact efX10_bears_4 hR FU l1 (0 : Int32) (0 : Int32)
def gbX10_takes_2 (k2 : Int32 → Int32 → SV → Option SV) (l1 : Int32) (l2 : Int32) (S : SV) : Option SV :=
  if (S.1 26) ≤ l2 then (
    nm (wI S 31 ((S.1 31) ||| l1)) fun S52 =>
    some S52
  ) else (
    if (fX10_has (l1 &&& ((S.1 31) ^^^ (-1 : Int32))) l2) = (0 : Int32) then (
      nm (l2 + (1 : Int32)) fun v39 =>
      k2 l1 v39 S
    ) else (
      (wA 28 8 S l2 (0 : Int32)).bind fun S31 =>
      (wA 29 8 S31 l2 (0 : Int32)).bind fun S38 =>
      nm (l2 + (1 : Int32)) fun v39 =>
      k2 l1 v39 S38
    )
  )
set_option maxRecDepth 100000 in
theorem ebX10_takes_2 {a : Nat} {ρ : RV} {z : AH} (hz : a + szV 9 ≤ z.length) {k2 : Nat → Int32 → Int32 → AH → Option AH} {k2' : Int32 → Int32 → SV → Option SV} (hk2 : ∀ (l1 : Int32) (l2 : Int32) (S : SV), k2 a l1 l2 (wr 9 a ρ S z) = (k2' l1 l2 S).map (fun S => wr 9 a ρ S z)) (l1 : Int32) (l2 : Int32) (S : SV) : bX10_takes_2 k2 a l1 l2 (wr 9 a ρ S z) = (gbX10_takes_2 k2' l1 l2 S).map (fun S => wr 9 a ρ S z) := by
  unfold bX10_takes_2 gbX10_takes_2
  refine sb (gI_rd (rd_wr hz) rfl) ?_
  refine ei (fun _ => ?_) (fun _ => ?_)
  · skip
    refine sb (gI_rd (rd_wr hz) rfl) ?_
    refine ep (f := (fun S => wr 9 a ρ S z)) (pF_int hz rfl _) (fun S52 => ?_)
    rfl
  · skip
    refine sb (gI_rd (rd_wr hz) rfl) ?_
    refine ei (fun _ => ?_) (fun _ => ?_)
    · skip
      refine en (fun v39 => ?_)
      exact hk2 l1 v39 S
    · skip
      refine sb (gN_rd (rd_wr hz) rfl (Or.inl rfl)) ?_
      refine em (f := (fun S => wr 9 a ρ S z)) (stI_rd rkOk9 hz (k := 28) rfl rfl (by decide) 0 rfl (by decide) _ _) (fun S31 => ?_)
      refine sb (gN_rd (rd_wr hz) rfl (Or.inl rfl)) ?_
      refine em (f := (fun S => wr 9 a ρ S z)) (stI_rd rkOk9 hz (k := 29) rfl rfl (by decide) 0 rfl (by decide) _ _) (fun S38 => ?_)
      refine en (fun v39 => ?_)
      exact hk2 l1 v39 S38
def gfX10_takes_2 : Nat → Int32 → Int32 → SV → Option SV
  | 0, _, _, _ => none
  | n + 1, l1, l2, S => gbX10_takes_2 (gfX10_takes_2 n) l1 l2 S
theorem efX10_takes_2 {a : Nat} {ρ : RV} {z : AH} (hz : a + szV 9 ≤ z.length) : ∀ (n : Nat) (l1 : Int32) (l2 : Int32) (S : SV), fX10_takes_2 n a l1 l2 (wr 9 a ρ S z) = (gfX10_takes_2 n l1 l2 S).map (fun S => wr 9 a ρ S z) := by
  intro n
  induction n with
  | zero => intros; rfl
  | succ n ih => intro l1 l2 S; exact ebX10_takes_2 hz (fun l1 l2 S => ih l1 l2 S) l1 l2 S
def gX10_takes (l1 : Int32) (S : SV) : Option SV :=
  gfX10_takes_2 FU l1 (0 : Int32) S
set_option maxRecDepth 100000 in
theorem eX10_takes {a : Nat} {ρ : RV} {z : AH} (hz : a + szV 9 ≤ z.length) (l1 : Int32) (S : SV) : fX10_takes a l1 (wr 9 a ρ S z) = (gX10_takes l1 S).map (fun S => wr 9 a ρ S z) := by
  unfold fX10_takes gX10_takes
  refine eo (isO_rd (rd_wr hz)) ?_
  exact efX10_takes_2 hz FU l1 (0 : Int32) S
def gbX10_falls_68 (k2 : Int32 → SV → Option SV) (l1 : Int32) (l2 : Int32) (S : SV) : Option SV :=
  if l2 = (0 : Int32) then (
    nm (l1 + (1 : Int32)) fun v79 =>
    k2 v79 S
  ) else (
    k2 (0 : Int32) S
  )
set_option maxRecDepth 100000 in
theorem ebX10_falls_68 {a : Nat} {ρ : RV} {z : AH} (hz : a + szV 9 ≤ z.length) {k2 : Nat → Int32 → AH → Option AH} {k2' : Int32 → SV → Option SV} (hk2 : ∀ (l1 : Int32) (S : SV), k2 a l1 (wr 9 a ρ S z) = (k2' l1 S).map (fun S => wr 9 a ρ S z)) (l1 : Int32) (l2 : Int32) (S : SV) : bX10_falls_68 k2 a l1 l2 (wr 9 a ρ S z) = (gbX10_falls_68 k2' l1 l2 S).map (fun S => wr 9 a ρ S z) := by
  unfold bX10_falls_68 gbX10_falls_68
  refine ei (fun _ => ?_) (fun _ => ?_)
  · skip
    refine en (fun v79 => ?_)
    exact hk2 v79 S
  · skip
    exact hk2 (0 : Int32) S
def gbX10_falls_49 (k2 : Int32 → SV → Option SV) (l1 : Int32) (s0 : Int32) (S : SV) : Option SV :=
  if s0 = (0 : Int32) then (
    gbX10_falls_68 k2 l1 s0 S
  ) else (
    (rA 8 (S.2.1 30) l1).bind fun x63 =>
    (gX10_takes ((shl (1 : Int32) l1) ||| x63) S).bind fun S65 =>
    gbX10_falls_68 k2 l1 s0 S65
  )
set_option maxRecDepth 100000 in
theorem ebX10_falls_49 {a : Nat} {ρ : RV} {z : AH} (hz : a + szV 9 ≤ z.length) {k2 : Nat → Int32 → AH → Option AH} {k2' : Int32 → SV → Option SV} (hk2 : ∀ (l1 : Int32) (S : SV), k2 a l1 (wr 9 a ρ S z) = (k2' l1 S).map (fun S => wr 9 a ρ S z)) (l1 : Int32) (s0 : Int32) (S : SV) : bX10_falls_49 k2 a l1 s0 (wr 9 a ρ S z) = (gbX10_falls_49 k2' l1 s0 S).map (fun S => wr 9 a ρ S z) := by
  unfold bX10_falls_49 gbX10_falls_49
  refine ei (fun _ => ?_) (fun _ => ?_)
  · skip
    exact ebX10_falls_68 hz hk2 l1 s0 S
  · skip
    refine sb (gN_rd (rd_wr hz) rfl (Or.inl rfl)) ?_
    refine eb (ixI_rd (rd_wr hz) (k := 30) rfl rfl (by decide) 0 rfl (by decide) _) (fun x63 => ?_)
    refine em (f := (fun S => wr 9 a ρ S z)) (eX10_takes hz ((shl (1 : Int32) l1) ||| x63) S) (fun S65 => ?_)
    exact ebX10_falls_68 hz hk2 l1 s0 S65
def gbX10_falls_48 (k2 : Int32 → SV → Option SV) (l1 : Int32) (S : SV) : Option SV :=
  gbX10_falls_49 k2 l1 (0 : Int32) S
set_option maxRecDepth 100000 in
theorem ebX10_falls_48 {a : Nat} {ρ : RV} {z : AH} (hz : a + szV 9 ≤ z.length) {k2 : Nat → Int32 → AH → Option AH} {k2' : Int32 → SV → Option SV} (hk2 : ∀ (l1 : Int32) (S : SV), k2 a l1 (wr 9 a ρ S z) = (k2' l1 S).map (fun S => wr 9 a ρ S z)) (l1 : Int32) (S : SV) : bX10_falls_48 k2 a l1 (wr 9 a ρ S z) = (gbX10_falls_48 k2' l1 S).map (fun S => wr 9 a ρ S z) := by
  unfold bX10_falls_48 gbX10_falls_48
  exact ebX10_falls_49 hz hk2 l1 (0 : Int32) S
def gbX10_falls_44 (k2 : Int32 → SV → Option SV) (l1 : Int32) (S : SV) : Option SV :=
  gbX10_falls_49 k2 l1 (1 : Int32) S
set_option maxRecDepth 100000 in
theorem ebX10_falls_44 {a : Nat} {ρ : RV} {z : AH} (hz : a + szV 9 ≤ z.length) {k2 : Nat → Int32 → AH → Option AH} {k2' : Int32 → SV → Option SV} (hk2 : ∀ (l1 : Int32) (S : SV), k2 a l1 (wr 9 a ρ S z) = (k2' l1 S).map (fun S => wr 9 a ρ S z)) (l1 : Int32) (S : SV) : bX10_falls_44 k2 a l1 (wr 9 a ρ S z) = (gbX10_falls_44 k2' l1 S).map (fun S => wr 9 a ρ S z) := by
  unfold bX10_falls_44 gbX10_falls_44
  exact ebX10_falls_49 hz hk2 l1 (1 : Int32) S
def gbX10_falls_2 (k2 : Int32 → SV → Option SV) (l1 : Int32) (S : SV) : Option SV :=
  if (S.1 26) ≤ l1 then (
    some S
  ) else (
    if (fX10_has (S.1 31) l1) = (0 : Int32) then (
      (rA 8 (S.2.1 28) l1).bind fun x26 =>
      if x26 = (0 : Int32) then (
        gbX10_falls_44 k2 l1 S
      ) else (
        (rA 8 (S.2.1 28) l1).bind fun x35 =>
        (gX10_bears l1 S).bind fun x38 =>
        if x38 ≤ x35 then (
          gbX10_falls_48 k2 l1 S
        ) else (
          gbX10_falls_44 k2 l1 S
        )
      )
    ) else (
      gbX10_falls_48 k2 l1 S
    )
  )
set_option maxRecDepth 100000 in
theorem ebX10_falls_2 {a : Nat} {ρ : RV} {z : AH} (hz : a + szV 9 ≤ z.length) {k2 : Nat → Int32 → AH → Option AH} {k2' : Int32 → SV → Option SV} (hk2 : ∀ (l1 : Int32) (S : SV), k2 a l1 (wr 9 a ρ S z) = (k2' l1 S).map (fun S => wr 9 a ρ S z)) (l1 : Int32) (S : SV) : bX10_falls_2 k2 a l1 (wr 9 a ρ S z) = (gbX10_falls_2 k2' l1 S).map (fun S => wr 9 a ρ S z) := by
  unfold bX10_falls_2 gbX10_falls_2
  refine sb (gI_rd (rd_wr hz) rfl) ?_
  refine ei (fun _ => ?_) (fun _ => ?_)
  · skip
    rfl
  · skip
    refine sb (gI_rd (rd_wr hz) rfl) ?_
    refine ei (fun _ => ?_) (fun _ => ?_)
    · skip
      refine sb (gN_rd (rd_wr hz) rfl (Or.inl rfl)) ?_
      refine eb (ixI_rd (rd_wr hz) (k := 28) rfl rfl (by decide) 0 rfl (by decide) _) (fun x26 => ?_)
      refine ei (fun _ => ?_) (fun _ => ?_)
      · skip
        exact ebX10_falls_44 hz hk2 l1 S
      · skip
        refine sb (gN_rd (rd_wr hz) rfl (Or.inl rfl)) ?_
        refine eb (ixI_rd (rd_wr hz) (k := 28) rfl rfl (by decide) 0 rfl (by decide) _) (fun x35 => ?_)
        refine eb (eX10_bears (rd_wr hz) l1) (fun x38 => ?_)
        refine ei (fun _ => ?_) (fun _ => ?_)
        · skip
          exact ebX10_falls_48 hz hk2 l1 S
        · skip
          exact ebX10_falls_44 hz hk2 l1 S
    · skip
      exact ebX10_falls_48 hz hk2 l1 S
def gfX10_falls_2 : Nat → Int32 → SV → Option SV
  | 0, _, _ => none
  | n + 1, l1, S => gbX10_falls_2 (gfX10_falls_2 n) l1 S
theorem efX10_falls_2 {a : Nat} {ρ : RV} {z : AH} (hz : a + szV 9 ≤ z.length) : ∀ (n : Nat) (l1 : Int32) (S : SV), fX10_falls_2 n a l1 (wr 9 a ρ S z) = (gfX10_falls_2 n l1 S).map (fun S => wr 9 a ρ S z) := by
  intro n
  induction n with
  | zero => intros; rfl
  | succ n ih => intro l1 S; exact ebX10_falls_2 hz (fun l1 S => ih l1 S) l1 S
def gX10_falls (S : SV) : Option SV :=
  gfX10_falls_2 FU (0 : Int32) S
set_option maxRecDepth 100000 in
theorem eX10_falls {a : Nat} {ρ : RV} {z : AH} (hz : a + szV 9 ≤ z.length) (S : SV) : fX10_falls a (wr 9 a ρ S z) = (gX10_falls S).map (fun S => wr 9 a ρ S z) := by
  unfold fX10_falls gX10_falls
  refine eo (isO_rd (rd_wr hz)) ?_
  exact efX10_falls_2 hz FU (0 : Int32) S
def gbX10_hand_74 (k57 : Int32 → SV → Option (Int32 × SV)) (k74 : Int32 → Int32 → SV → Option (Int32 × SV)) (l2 : Int32) (l3 : Int32) (S : SV) : Option (Int32 × SV) :=
  if l3 = (-1 : Int32) then (
    nm (l2 + (1 : Int32)) fun v103 =>
    k57 v103 S
  ) else (
    (rA 8 (S.2.1 30) l3).bind fun x85 =>
    (wA 30 8 S l3 (x85 ||| (shl (1 : Int32) l2))).bind fun S90 =>
    (gX10_of ((30 : Int32) + l3) S90).bind fun x96 =>
    k74 l2 x96 S90
  )
set_option maxRecDepth 100000 in
theorem ebX10_hand_74 {a : Nat} {ρ : RV} {z : AH} (hz : a + szV 9 ≤ z.length) {k57 : Nat → Int32 → AH → Option (Int32 × AH)} {k57' : Int32 → SV → Option (Int32 × SV)} {k74 : Nat → Int32 → Int32 → AH → Option (Int32 × AH)} {k74' : Int32 → Int32 → SV → Option (Int32 × SV)} (hk57 : ∀ (l2 : Int32) (S : SV), k57 a l2 (wr 9 a ρ S z) = (k57' l2 S).map (fun q => (q.1, wr 9 a ρ q.2 z))) (hk74 : ∀ (l2 : Int32) (l3 : Int32) (S : SV), k74 a l2 l3 (wr 9 a ρ S z) = (k74' l2 l3 S).map (fun q => (q.1, wr 9 a ρ q.2 z))) (l2 : Int32) (l3 : Int32) (S : SV) : bX10_hand_74 k57 k74 a l2 l3 (wr 9 a ρ S z) = (gbX10_hand_74 k57' k74' l2 l3 S).map (fun q => (q.1, wr 9 a ρ q.2 z)) := by
  unfold bX10_hand_74 gbX10_hand_74
  refine ei (fun _ => ?_) (fun _ => ?_)
  · skip
    refine en (fun v103 => ?_)
    exact hk57 v103 S
  · skip
    refine sb (gN_rd (rd_wr hz) rfl (Or.inl rfl)) ?_
    refine eb (ixI_rd (rd_wr hz) (k := 30) rfl rfl (by decide) 0 rfl (by decide) _) (fun x85 => ?_)
    refine em (f := (fun S => wr 9 a ρ S z)) (stI_rd rkOk9 hz (k := 30) rfl rfl (by decide) 0 rfl (by decide) _ _) (fun S90 => ?_)
    refine eb (eX10_of (rd_wr hz) ((30 : Int32) + l3)) (fun x96 => ?_)
    exact hk74 l2 x96 S90
def gfX10_hand_74 (k57 : Int32 → SV → Option (Int32 × SV)) : Nat → Int32 → Int32 → SV → Option (Int32 × SV)
  | 0, _, _, _ => none
  | n + 1, l2, l3, S => gbX10_hand_74 k57 (gfX10_hand_74 k57 n) l2 l3 S
theorem efX10_hand_74 {a : Nat} {ρ : RV} {z : AH} (hz : a + szV 9 ≤ z.length) {k57 : Nat → Int32 → AH → Option (Int32 × AH)} {k57' : Int32 → SV → Option (Int32 × SV)} (hk57 : ∀ (l2 : Int32) (S : SV), k57 a l2 (wr 9 a ρ S z) = (k57' l2 S).map (fun q => (q.1, wr 9 a ρ q.2 z))) : ∀ (n : Nat) (l2 : Int32) (l3 : Int32) (S : SV), fX10_hand_74 k57 n a l2 l3 (wr 9 a ρ S z) = (gfX10_hand_74 k57' n l2 l3 S).map (fun q => (q.1, wr 9 a ρ q.2 z)) := by
  intro n
  induction n with
  | zero => intros; rfl
  | succ n ih => intro l2 l3 S; exact ebX10_hand_74 hz hk57 (fun l2 l3 S => ih l2 l3 S) l2 l3 S
def gbX10_hand_57 (k57 : Int32 → SV → Option (Int32 × SV)) (l2 : Int32) (S : SV) : Option (Int32 × SV) :=
  if (S.1 26) ≤ l2 then (
    (gX10_begin S).bind fun S110 =>
    (gX10_falls S110).bind fun S114 =>
    some ((1 : Int32), S114)
  ) else (
    (gX10_of ((30 : Int32) + l2) S).bind fun x70 =>
    gfX10_hand_74 k57 FU l2 x70 S
  )
set_option maxRecDepth 100000 in
theorem ebX10_hand_57 {a : Nat} {ρ : RV} {z : AH} (hz : a + szV 9 ≤ z.length) {k57 : Nat → Int32 → AH → Option (Int32 × AH)} {k57' : Int32 → SV → Option (Int32 × SV)} (hk57 : ∀ (l2 : Int32) (S : SV), k57 a l2 (wr 9 a ρ S z) = (k57' l2 S).map (fun q => (q.1, wr 9 a ρ q.2 z))) (l2 : Int32) (S : SV) : bX10_hand_57 k57 a l2 (wr 9 a ρ S z) = (gbX10_hand_57 k57' l2 S).map (fun q => (q.1, wr 9 a ρ q.2 z)) := by
  unfold bX10_hand_57 gbX10_hand_57
  refine sb (gI_rd (rd_wr hz) rfl) ?_
  refine ei (fun _ => ?_) (fun _ => ?_)
  · skip
    refine em (f := (fun S => wr 9 a ρ S z)) (eX10_begin hz S) (fun S110 => ?_)
    refine em (f := (fun S => wr 9 a ρ S z)) (eX10_falls hz S110) (fun S114 => ?_)
    rfl
  · skip
    refine eb (eX10_of (rd_wr hz) ((30 : Int32) + l2)) (fun x70 => ?_)
    exact efX10_hand_74 hz hk57 FU l2 x70 S
def gfX10_hand_57 : Nat → Int32 → SV → Option (Int32 × SV)
  | 0, _, _ => none
  | n + 1, l2, S => gbX10_hand_57 (gfX10_hand_57 n) l2 S
theorem efX10_hand_57 {a : Nat} {ρ : RV} {z : AH} (hz : a + szV 9 ≤ z.length) : ∀ (n : Nat) (l2 : Int32) (S : SV), fX10_hand_57 n a l2 (wr 9 a ρ S z) = (gfX10_hand_57 n l2 S).map (fun q => (q.1, wr 9 a ρ q.2 z)) := by
  intro n
  induction n with
  | zero => intros; rfl
  | succ n ih => intro l2 S; exact ebX10_hand_57 hz (fun l2 S => ih l2 S) l2 S
def gbX10_hand_36 (k36 : Int32 → SV → Option (Int32 × SV)) (l2 : Int32) (S : SV) : Option (Int32 × SV) :=
  if (8 : Int32) ≤ l2 then (
    gfX10_hand_57 FU (0 : Int32) S
  ) else (
    (wA 30 8 S l2 (0 : Int32)).bind fun S48 =>
    nm (l2 + (1 : Int32)) fun v49 =>
    k36 v49 S48
  )
set_option maxRecDepth 100000 in
theorem ebX10_hand_36 {a : Nat} {ρ : RV} {z : AH} (hz : a + szV 9 ≤ z.length) {k36 : Nat → Int32 → AH → Option (Int32 × AH)} {k36' : Int32 → SV → Option (Int32 × SV)} (hk36 : ∀ (l2 : Int32) (S : SV), k36 a l2 (wr 9 a ρ S z) = (k36' l2 S).map (fun q => (q.1, wr 9 a ρ q.2 z))) (l2 : Int32) (S : SV) : bX10_hand_36 k36 a l2 (wr 9 a ρ S z) = (gbX10_hand_36 k36' l2 S).map (fun q => (q.1, wr 9 a ρ q.2 z)) := by
  unfold bX10_hand_36 gbX10_hand_36
  refine ei (fun _ => ?_) (fun _ => ?_)
  · skip
    exact efX10_hand_57 hz FU (0 : Int32) S
  · skip
    refine sb (gN_rd (rd_wr hz) rfl (Or.inl rfl)) ?_
    refine em (f := (fun S => wr 9 a ρ S z)) (stI_rd rkOk9 hz (k := 30) rfl rfl (by decide) 0 rfl (by decide) _ _) (fun S48 => ?_)
    refine en (fun v49 => ?_)
    exact hk36 v49 S48
def gfX10_hand_36 : Nat → Int32 → SV → Option (Int32 × SV)
  | 0, _, _ => none
  | n + 1, l2, S => gbX10_hand_36 (gfX10_hand_36 n) l2 S
theorem efX10_hand_36 {a : Nat} {ρ : RV} {z : AH} (hz : a + szV 9 ≤ z.length) : ∀ (n : Nat) (l2 : Int32) (S : SV), fX10_hand_36 n a l2 (wr 9 a ρ S z) = (gfX10_hand_36 n l2 S).map (fun q => (q.1, wr 9 a ρ q.2 z)) := by
  intro n
  induction n with
  | zero => intros; rfl
  | succ n ih => intro l2 S; exact ebX10_hand_36 hz (fun l2 S => ih l2 S) l2 S
def gX10_hand (l1 : Int32) (S : SV) : Option (Int32 × SV) :=
  (gX10_is (0 : Int32) l1 S).bind fun x3 =>
  if x3 = (0 : Int32) then (
    some ((0 : Int32), S)
  ) else (
    nm (wI S 25 l1) fun S13 =>
    (gX10_of (0 : Int32) S13).bind fun x19 =>
    nm (wI S13 26 x19) fun S22 =>
    (gX10_of (4 : Int32) S22).bind fun x28 =>
    nm (wI S22 27 x28) fun S31 =>
    gfX10_hand_36 FU (0 : Int32) S31
  )
set_option maxRecDepth 100000 in
theorem eX10_hand {a : Nat} {ρ : RV} {z : AH} (hz : a + szV 9 ≤ z.length) (l1 : Int32) (S : SV) : fX10_hand a l1 (wr 9 a ρ S z) = (gX10_hand l1 S).map (fun q => (q.1, wr 9 a ρ q.2 z)) := by
  unfold fX10_hand gX10_hand
  refine eo (isO_rd (rd_wr hz)) ?_
  refine eb (eX10_is (rd_wr hz) (0 : Int32) l1) (fun x3 => ?_)
  refine ei (fun _ => ?_) (fun _ => ?_)
  · skip
    rfl
  · skip
    refine ep (f := (fun S => wr 9 a ρ S z)) (pF_int hz rfl _) (fun S13 => ?_)
    refine eb (eX10_of (rd_wr hz) (0 : Int32)) (fun x19 => ?_)
    refine ep (f := (fun S => wr 9 a ρ S z)) (pF_int hz rfl _) (fun S22 => ?_)
    refine eb (eX10_of (rd_wr hz) (4 : Int32)) (fun x28 => ?_)
    refine ep (f := (fun S => wr 9 a ρ S z)) (pF_int hz rfl _) (fun S31 => ?_)
    exact efX10_hand_36 hz FU (0 : Int32) S31
def gX10_isThing (l1 : Int32) (S : SV) : Option (Int32) :=
  if (fX10_in l1 (0 : Int32) ((S.1 26) - (1 : Int32))) = 0 ∨ (fX10_in l1 (0 : Int32) ((S.1 26) - (1 : Int32))) = 1 then some (fX10_in l1 (0 : Int32) ((S.1 26) - (1 : Int32))) else none
set_option maxRecDepth 100000 in
theorem eX10_isThing {a : Nat} {ρ : RV} {S : SV} {z : AH} (hR : RD 9 a ρ S z) (l1 : Int32) : fX10_isThing a l1 z = gX10_isThing l1 S := by
  unfold fX10_isThing gX10_isThing
  refine eo (isO_rd hR) ?_
  refine sb (gI_rd hR rfl) ?_
  refine ei0 (fun _ => rfl) (fun _ => rfl)
def gX10_isCouple (l1 : Int32) (S : SV) : Option (Int32) :=
  if (fX10_in l1 (0 : Int32) ((S.1 27) - (1 : Int32))) = 0 ∨ (fX10_in l1 (0 : Int32) ((S.1 27) - (1 : Int32))) = 1 then some (fX10_in l1 (0 : Int32) ((S.1 27) - (1 : Int32))) else none
set_option maxRecDepth 100000 in
theorem eX10_isCouple {a : Nat} {ρ : RV} {S : SV} {z : AH} (hR : RD 9 a ρ S z) (l1 : Int32) : fX10_isCouple a l1 z = gX10_isCouple l1 S := by
  unfold fX10_isCouple gX10_isCouple
  refine eo (isO_rd hR) ?_
  refine sb (gI_rd hR rfl) ?_
  refine ei0 (fun _ => rfl) (fun _ => rfl)
def gX10_isThere (l1 : Int32) (S : SV) : Option (Int32) :=
  (gX10_isThing l1 S).bind fun x2 =>
  if x2 = (0 : Int32) then (
    some (0 : Int32)
  ) else (
    if (fX10_has (S.1 31) l1) = (0 : Int32) then (
      some (1 : Int32)
    ) else (
      some (0 : Int32)
    )
  )
set_option maxRecDepth 100000 in
theorem eX10_isThere {a : Nat} {ρ : RV} {S : SV} {z : AH} (hR : RD 9 a ρ S z) (l1 : Int32) : fX10_isThere a l1 z = gX10_isThere l1 S := by
  unfold fX10_isThere gX10_isThere
  refine eo (isO_rd hR) ?_
  refine eb0 (eX10_isThing hR l1) (fun x2 => ?_)
  refine ei0 (fun _ => ?_) (fun _ => ?_)
  · skip
    rfl
  · skip
    refine sb (gI_rd hR rfl) ?_
    refine ei0 (fun _ => ?_) (fun _ => ?_)
    · skip
      rfl
    · skip
      rfl
def gX10_thereSet (S : SV) : Option (Int32) :=
  some (((shl (1 : Int32) (S.1 26)) - (1 : Int32)) &&& ((S.1 31) ^^^ (-1 : Int32)))
set_option maxRecDepth 100000 in
theorem eX10_thereSet {a : Nat} {ρ : RV} {S : SV} {z : AH} (hR : RD 9 a ρ S z) : fX10_thereSet a z = gX10_thereSet S := by
  unfold fX10_thereSet gX10_thereSet
  refine eo (isO_rd hR) ?_
  refine sb (gI_rd hR rfl) ?_
  refine sb (gI_rd hR rfl) ?_
  rfl
def gX10_sightLeft (l1 : Int32) (S : SV) : Option (Int32) :=
  (gX10_of ((46 : Int32) + l1) S).bind fun x8 =>
  (gX10_of ((38 : Int32) + x8) S).bind fun x12 =>
  some x12
set_option maxRecDepth 100000 in
theorem eX10_sightLeft {a : Nat} {ρ : RV} {S : SV} {z : AH} (hR : RD 9 a ρ S z) (l1 : Int32) : fX10_sightLeft a l1 z = gX10_sightLeft l1 S := by
  unfold fX10_sightLeft gX10_sightLeft
  refine eo (isO_rd hR) ?_
  refine eb0 (eX10_of hR ((46 : Int32) + l1)) (fun x8 => ?_)
  refine eb0 (eX10_of hR ((38 : Int32) + x8)) (fun x12 => ?_)
  rfl
def gX10_sightRight (l1 : Int32) (S : SV) : Option (Int32) :=
  (gX10_of ((50 : Int32) + l1) S).bind fun x8 =>
  (gX10_of ((42 : Int32) + x8) S).bind fun x12 =>
  some x12
set_option maxRecDepth 100000 in
theorem eX10_sightRight {a : Nat} {ρ : RV} {S : SV} {z : AH} (hR : RD 9 a ρ S z) (l1 : Int32) : fX10_sightRight a l1 z = gX10_sightRight l1 S := by
  unfold fX10_sightRight gX10_sightRight
  refine eo (isO_rd hR) ?_
  refine eb0 (eX10_of hR ((50 : Int32) + l1)) (fun x8 => ?_)
  refine eb0 (eX10_of hR ((42 : Int32) + x8)) (fun x12 => ?_)
  rfl
def gbX10_sees_81 (l1 : Int32) (l2 : Int32) (S : SV) : Option SV :=
  nm (wI S 35 ((S.1 35) ||| (shl (1 : Int32) l2))) fun S90 =>
  nm (wI S90 34 ((S90.1 34) ||| (shl (1 : Int32) l1))) fun S102 =>
  some S102
set_option maxRecDepth 100000 in
theorem ebX10_sees_81 {a : Nat} {ρ : RV} {z : AH} (hz : a + szV 9 ≤ z.length) (l1 : Int32) (l2 : Int32) (S : SV) : bX10_sees_81 a l1 l2 (wr 9 a ρ S z) = (gbX10_sees_81 l1 l2 S).map (fun S => wr 9 a ρ S z) := by
  unfold bX10_sees_81 gbX10_sees_81
  refine sb (gI_rd (rd_wr hz) rfl) ?_
  refine ep (f := (fun S => wr 9 a ρ S z)) (pF_int hz rfl _) (fun S90 => ?_)
  refine sb (gI_rd (rd_wr hz) rfl) ?_
  refine ep (f := (fun S => wr 9 a ρ S z)) (pF_int hz rfl _) (fun S102 => ?_)
  rfl
def gX10_sees (l1 : Int32) (l2 : Int32) (S : SV) : Option SV :=
  (rA 8 (S.2.1 28) l2).bind fun x12 =>
  (gX10_sightLeft l1 S).bind fun x15 =>
  (gX10_sightRight l1 S).bind fun x21 =>
  (wA 28 8 S l2 (fX10_lesser (99 : Int32) ((x12 + x15) + x21))).bind fun S28 =>
  (gX10_sightLeft l1 S28).bind fun x31 =>
  (gX10_sightRight l1 S28).bind fun x36 =>
  (gX10_of (5 : Int32) S28).bind fun x44 =>
  if (fX10_apart x31 x36) ≤ x44 then (
    gbX10_sees_81 l1 l2 S28
  ) else (
    (rA 8 (S28.2.1 29) l2).bind fun x62 =>
    (wA 29 8 S28 l2 (fX10_lesser (9 : Int32) (x62 + (1 : Int32)))).bind fun S68 =>
    nm (wI S68 36 ((S68.1 36) ||| (shl (1 : Int32) l2))) fun S78 =>
    gbX10_sees_81 l1 l2 S78
  )
set_option maxRecDepth 100000 in
theorem eX10_sees {a : Nat} {ρ : RV} {z : AH} (hz : a + szV 9 ≤ z.length) (l1 : Int32) (l2 : Int32) (S : SV) : fX10_sees a l1 l2 (wr 9 a ρ S z) = (gX10_sees l1 l2 S).map (fun S => wr 9 a ρ S z) := by
  unfold fX10_sees gX10_sees
  refine eo (isO_rd (rd_wr hz)) ?_
  refine sb (gN_rd (rd_wr hz) rfl (Or.inl rfl)) ?_
  refine sb (gN_rd (rd_wr hz) rfl (Or.inl rfl)) ?_
  refine eb (ixI_rd (rd_wr hz) (k := 28) rfl rfl (by decide) 0 rfl (by decide) _) (fun x12 => ?_)
  refine eb (eX10_sightLeft (rd_wr hz) l1) (fun x15 => ?_)
  refine eb (eX10_sightRight (rd_wr hz) l1) (fun x21 => ?_)
  refine em (f := (fun S => wr 9 a ρ S z)) (stI_rd rkOk9 hz (k := 28) rfl rfl (by decide) 0 rfl (by decide) _ _) (fun S28 => ?_)
  refine eb (eX10_sightLeft (rd_wr hz) l1) (fun x31 => ?_)
  refine eb (eX10_sightRight (rd_wr hz) l1) (fun x36 => ?_)
  refine eb (eX10_of (rd_wr hz) (5 : Int32)) (fun x44 => ?_)
  refine ei (fun _ => ?_) (fun _ => ?_)
  · skip
    exact ebX10_sees_81 hz l1 l2 S28
  · skip
    refine sb (gN_rd (rd_wr hz) rfl (Or.inl rfl)) ?_
    refine sb (gN_rd (rd_wr hz) rfl (Or.inl rfl)) ?_
    refine eb (ixI_rd (rd_wr hz) (k := 29) rfl rfl (by decide) 0 rfl (by decide) _) (fun x62 => ?_)
    refine em (f := (fun S => wr 9 a ρ S z)) (stI_rd rkOk9 hz (k := 29) rfl rfl (by decide) 0 rfl (by decide) _ _) (fun S68 => ?_)
    refine sb (gI_rd (rd_wr hz) rfl) ?_
    refine ep (f := (fun S => wr 9 a ρ S z)) (pF_int hz rfl _) (fun S78 => ?_)
    exact ebX10_sees_81 hz l1 l2 S78
def gbX10_goesOn_2 (k2 : Int32 → SV → Option SV) (l1 : Int32) (S : SV) : Option SV :=
  if (S.1 26) ≤ l1 then (
    nm (wI S 35 (0 : Int32)) fun S68 =>
    nm (wI S68 34 (0 : Int32)) fun S73 =>
    nm (wI S73 37 ((S73.1 37) + (1 : Int32))) fun S83 =>
    (gX10_falls S83).bind fun S87 =>
    some S87
  ) else (
    if (fX10_has ((S.1 31) ||| (S.1 35)) l1) = (0 : Int32) then (
      (rA 8 (S.2.1 28) l1).bind fun x46 =>
      (gX10_of ((22 : Int32) + l1) S).bind fun x52 =>
      (wA 28 8 S l1 (fX10_greater (0 : Int32) (x46 - x52))).bind fun S59 =>
      nm (l1 + (1 : Int32)) fun v60 =>
      k2 v60 S59
    ) else (
      (rA 8 (S.2.1 28) l1).bind fun x36 =>
      (wA 28 8 S l1 x36).bind fun S59 =>
      nm (l1 + (1 : Int32)) fun v60 =>
      k2 v60 S59
    )
  )
set_option maxRecDepth 100000 in
theorem ebX10_goesOn_2 {a : Nat} {ρ : RV} {z : AH} (hz : a + szV 9 ≤ z.length) {k2 : Nat → Int32 → AH → Option AH} {k2' : Int32 → SV → Option SV} (hk2 : ∀ (l1 : Int32) (S : SV), k2 a l1 (wr 9 a ρ S z) = (k2' l1 S).map (fun S => wr 9 a ρ S z)) (l1 : Int32) (S : SV) : bX10_goesOn_2 k2 a l1 (wr 9 a ρ S z) = (gbX10_goesOn_2 k2' l1 S).map (fun S => wr 9 a ρ S z) := by
  unfold bX10_goesOn_2 gbX10_goesOn_2
  refine sb (gI_rd (rd_wr hz) rfl) ?_
  refine ei (fun _ => ?_) (fun _ => ?_)
  · skip
    refine ep (f := (fun S => wr 9 a ρ S z)) (pF_int hz rfl _) (fun S68 => ?_)
    refine ep (f := (fun S => wr 9 a ρ S z)) (pF_int hz rfl _) (fun S73 => ?_)
    refine sb (gI_rd (rd_wr hz) rfl) ?_
    refine ep (f := (fun S => wr 9 a ρ S z)) (pF_int hz rfl _) (fun S83 => ?_)
    refine em (f := (fun S => wr 9 a ρ S z)) (eX10_falls hz S83) (fun S87 => ?_)
    rfl
  · skip
    refine sb (gN_rd (rd_wr hz) rfl (Or.inl rfl)) ?_
    refine sb (gI_rd (rd_wr hz) rfl) ?_
    refine sb (gI_rd (rd_wr hz) rfl) ?_
    refine ei (fun _ => ?_) (fun _ => ?_)
    · skip
      refine sb (gN_rd (rd_wr hz) rfl (Or.inl rfl)) ?_
      refine eb (ixI_rd (rd_wr hz) (k := 28) rfl rfl (by decide) 0 rfl (by decide) _) (fun x46 => ?_)
      refine eb (eX10_of (rd_wr hz) ((22 : Int32) + l1)) (fun x52 => ?_)
      refine em (f := (fun S => wr 9 a ρ S z)) (stI_rd rkOk9 hz (k := 28) rfl rfl (by decide) 0 rfl (by decide) _ _) (fun S59 => ?_)
      refine en (fun v60 => ?_)
      exact hk2 v60 S59
    · skip
      refine sb (gN_rd (rd_wr hz) rfl (Or.inl rfl)) ?_
      refine eb (ixI_rd (rd_wr hz) (k := 28) rfl rfl (by decide) 0 rfl (by decide) _) (fun x36 => ?_)
      refine em (f := (fun S => wr 9 a ρ S z)) (stI_rd rkOk9 hz (k := 28) rfl rfl (by decide) 0 rfl (by decide) _ _) (fun S59 => ?_)
      refine en (fun v60 => ?_)
      exact hk2 v60 S59
def gfX10_goesOn_2 : Nat → Int32 → SV → Option SV
  | 0, _, _ => none
  | n + 1, l1, S => gbX10_goesOn_2 (gfX10_goesOn_2 n) l1 S
theorem efX10_goesOn_2 {a : Nat} {ρ : RV} {z : AH} (hz : a + szV 9 ≤ z.length) : ∀ (n : Nat) (l1 : Int32) (S : SV), fX10_goesOn_2 n a l1 (wr 9 a ρ S z) = (gfX10_goesOn_2 n l1 S).map (fun S => wr 9 a ρ S z) := by
  intro n
  induction n with
  | zero => intros; rfl
  | succ n ih => intro l1 S; exact ebX10_goesOn_2 hz (fun l1 S => ih l1 S) l1 S
def gX10_goesOn (S : SV) : Option SV :=
  gfX10_goesOn_2 FU (0 : Int32) S
set_option maxRecDepth 100000 in
theorem eX10_goesOn {a : Nat} {ρ : RV} {z : AH} (hz : a + szV 9 ≤ z.length) (S : SV) : fX10_goesOn a (wr 9 a ρ S z) = (gX10_goesOn S).map (fun S => wr 9 a ρ S z) := by
  unfold fX10_goesOn gX10_goesOn
  refine eo (isO_rd (rd_wr hz)) ?_
  exact efX10_goesOn_2 hz FU (0 : Int32) S
def gbX10_country_354 (l3 : Int32) (s1 : Int32) (S : SV) : Option (Int32 × SV) :=
  (gX10_of (s1 + l3) S).bind fun x356 =>
  some (x356, S)
set_option maxRecDepth 100000 in
theorem ebX10_country_354 {a : Nat} {ρ : RV} {z : AH} (hz : a + szV 9 ≤ z.length) (l3 : Int32) (s1 : Int32) (S : SV) : bX10_country_354 l3 a s1 (wr 9 a ρ S z) = (gbX10_country_354 l3 s1 S).map (fun q => (q.1, wr 9 a ρ q.2 z)) := by
  unfold bX10_country_354 gbX10_country_354
  refine eb (eX10_of (rd_wr hz) (s1 + l3)) (fun x356 => ?_)
  rfl
def gbX10_country_321 (l3 : Int32) (s1 : Int32) (S : SV) : Option (Int32 × SV) :=
  (gX10_of (s1 + l3) S).bind fun x323 =>
  some (x323, S)
set_option maxRecDepth 100000 in
theorem ebX10_country_321 {a : Nat} {ρ : RV} {z : AH} (hz : a + szV 9 ≤ z.length) (l3 : Int32) (s1 : Int32) (S : SV) : bX10_country_321 l3 a s1 (wr 9 a ρ S z) = (gbX10_country_321 l3 s1 S).map (fun q => (q.1, wr 9 a ρ q.2 z)) := by
  unfold bX10_country_321 gbX10_country_321
  refine eb (eX10_of (rd_wr hz) (s1 + l3)) (fun x323 => ?_)
  rfl
def gbX10_country_301 (l2 : Int32) (l3 : Int32) (s0 : Int32) (s2 : Int32) (S : SV) : Option (Int32 × SV) :=
  (gX10_of s2 S).bind fun x301 =>
  if x301 ≤ s0 then (
    some ((-2 : Int32), S)
  ) else (
    if (60 : Int32) ≤ l2 then (
      gbX10_country_321 l3 (42 : Int32) S
    ) else (
      gbX10_country_321 l3 (38 : Int32) S
    )
  )
set_option maxRecDepth 100000 in
theorem ebX10_country_301 {a : Nat} {ρ : RV} {z : AH} (hz : a + szV 9 ≤ z.length) (l2 : Int32) (l3 : Int32) (s0 : Int32) (s2 : Int32) (S : SV) : bX10_country_301 a l2 l3 s0 a s2 (wr 9 a ρ S z) = (gbX10_country_301 l2 l3 s0 s2 S).map (fun q => (q.1, wr 9 a ρ q.2 z)) := by
  unfold bX10_country_301 gbX10_country_301
  refine eb (eX10_of (rd_wr hz) s2) (fun x301 => ?_)
  refine ei (fun _ => ?_) (fun _ => ?_)
  · skip
    rfl
  · skip
    refine ei (fun _ => ?_) (fun _ => ?_)
    · skip
      exact ebX10_country_321 hz l3 (42 : Int32) S
    · skip
      exact ebX10_country_321 hz l3 (38 : Int32) S
def gbX10_country_171 (l4 : Int32) (s1 : Int32) (S : SV) : Option (Int32 × SV) :=
  (gX10_of (s1 + l4) S).bind fun x174 =>
  some (x174, S)
set_option maxRecDepth 100000 in
theorem ebX10_country_171 {a : Nat} {ρ : RV} {z : AH} (hz : a + szV 9 ≤ z.length) (l4 : Int32) (s1 : Int32) (S : SV) : bX10_country_171 l4 a s1 (wr 9 a ρ S z) = (gbX10_country_171 l4 s1 S).map (fun q => (q.1, wr 9 a ρ q.2 z)) := by
  unfold bX10_country_171 gbX10_country_171
  refine eb (eX10_of (rd_wr hz) (s1 + l4)) (fun x174 => ?_)
  rfl
def gbX10_country_151 (l4 : Int32) (l5 : Int32) (s0 : Int32) (S : SV) : Option (Int32 × SV) :=
  if s0 = (0 : Int32) then (
    some ((-2 : Int32), S)
  ) else (
    if l5 = (0 : Int32) then (
      gbX10_country_171 l4 (94 : Int32) S
    ) else (
      gbX10_country_171 l4 (78 : Int32) S
    )
  )
set_option maxRecDepth 100000 in
theorem ebX10_country_151 {a : Nat} {ρ : RV} {z : AH} (hz : a + szV 9 ≤ z.length) (l4 : Int32) (l5 : Int32) (s0 : Int32) (S : SV) : bX10_country_151 a l4 l5 s0 (wr 9 a ρ S z) = (gbX10_country_151 l4 l5 s0 S).map (fun q => (q.1, wr 9 a ρ q.2 z)) := by
  unfold bX10_country_151 gbX10_country_151
  refine ei (fun _ => ?_) (fun _ => ?_)
  · skip
    rfl
  · skip
    refine ei (fun _ => ?_) (fun _ => ?_)
    · skip
      exact ebX10_country_171 hz l4 (94 : Int32) S
    · skip
      exact ebX10_country_171 hz l4 (78 : Int32) S
def gbX10_country_150 (l4 : Int32) (l5 : Int32) (S : SV) : Option (Int32 × SV) :=
  gbX10_country_151 l4 l5 (0 : Int32) S
set_option maxRecDepth 100000 in
theorem ebX10_country_150 {a : Nat} {ρ : RV} {z : AH} (hz : a + szV 9 ≤ z.length) (l4 : Int32) (l5 : Int32) (S : SV) : bX10_country_150 a l4 l5 (wr 9 a ρ S z) = (gbX10_country_150 l4 l5 S).map (fun q => (q.1, wr 9 a ρ q.2 z)) := by
  unfold bX10_country_150 gbX10_country_150
  exact ebX10_country_151 hz l4 l5 (0 : Int32) S
def gbX10_country_140 (l4 : Int32) (l5 : Int32) (s0 : Int32) (s2 : Int32) (S : SV) : Option (Int32 × SV) :=
  (gX10_of s2 S).bind fun x140 =>
  if x140 ≤ s0 then (
    gbX10_country_150 l4 l5 S
  ) else (
    gbX10_country_151 l4 l5 (1 : Int32) S
  )
set_option maxRecDepth 100000 in
theorem ebX10_country_140 {a : Nat} {ρ : RV} {z : AH} (hz : a + szV 9 ≤ z.length) (l4 : Int32) (l5 : Int32) (s0 : Int32) (s2 : Int32) (S : SV) : bX10_country_140 a l4 l5 s0 a s2 (wr 9 a ρ S z) = (gbX10_country_140 l4 l5 s0 s2 S).map (fun q => (q.1, wr 9 a ρ q.2 z)) := by
  unfold bX10_country_140 gbX10_country_140
  refine eb (eX10_of (rd_wr hz) s2) (fun x140 => ?_)
  refine ei (fun _ => ?_) (fun _ => ?_)
  · skip
    exact ebX10_country_150 hz l4 l5 S
  · skip
    exact ebX10_country_151 hz l4 l5 (1 : Int32) S
def gbX10_country_119 (l4 : Int32) (l5 : Int32) (s0 : Int32) (s2 : Int32) (S : SV) : Option (Int32 × SV) :=
  (gX10_of s2 S).bind fun x119 =>
  if x119 ≤ s0 then (
    gbX10_country_150 l4 l5 S
  ) else (
    if l5 = (0 : Int32) then (
      gbX10_country_140 l4 l5 (irem l4 (4 : Int32)) (2 : Int32) S
    ) else (
      gbX10_country_140 l4 l5 (irem l4 (4 : Int32)) (3 : Int32) S
    )
  )
set_option maxRecDepth 100000 in
theorem ebX10_country_119 {a : Nat} {ρ : RV} {z : AH} (hz : a + szV 9 ≤ z.length) (l4 : Int32) (l5 : Int32) (s0 : Int32) (s2 : Int32) (S : SV) : bX10_country_119 a l4 l5 s0 a s2 (wr 9 a ρ S z) = (gbX10_country_119 l4 l5 s0 s2 S).map (fun q => (q.1, wr 9 a ρ q.2 z)) := by
  unfold bX10_country_119 gbX10_country_119
  refine eb (eX10_of (rd_wr hz) s2) (fun x119 => ?_)
  refine ei (fun _ => ?_) (fun _ => ?_)
  · skip
    exact ebX10_country_150 hz l4 l5 S
  · skip
    refine ei (fun _ => ?_) (fun _ => ?_)
    · skip
      exact ebX10_country_140 hz l4 l5 (irem l4 (4 : Int32)) (2 : Int32) S
    · skip
      exact ebX10_country_140 hz l4 l5 (irem l4 (4 : Int32)) (3 : Int32) S
def gbX10_country_88 (l2 : Int32) (l4 : Int32) (s0 : Int32) (S : SV) : Option (Int32 × SV) :=
  if (180 : Int32) ≤ l2 then (
    gbX10_country_150 l4 s0 S
  ) else (
    if (16 : Int32) ≤ l4 then (
      gbX10_country_150 l4 s0 S
    ) else (
      if s0 = (0 : Int32) then (
        gbX10_country_119 l4 s0 (l4 / (4 : Int32)) (3 : Int32) S
      ) else (
        gbX10_country_119 l4 s0 (l4 / (4 : Int32)) (2 : Int32) S
      )
    )
  )
set_option maxRecDepth 100000 in
theorem ebX10_country_88 {a : Nat} {ρ : RV} {z : AH} (hz : a + szV 9 ≤ z.length) (l2 : Int32) (l4 : Int32) (s0 : Int32) (S : SV) : bX10_country_88 a l2 l4 s0 (wr 9 a ρ S z) = (gbX10_country_88 l2 l4 s0 S).map (fun q => (q.1, wr 9 a ρ q.2 z)) := by
  unfold bX10_country_88 gbX10_country_88
  refine ei (fun _ => ?_) (fun _ => ?_)
  · skip
    exact ebX10_country_150 hz l4 s0 S
  · skip
    refine ei (fun _ => ?_) (fun _ => ?_)
    · skip
      exact ebX10_country_150 hz l4 s0 S
    · skip
      refine ei (fun _ => ?_) (fun _ => ?_)
      · skip
        exact ebX10_country_119 hz l4 s0 (l4 / (4 : Int32)) (3 : Int32) S
      · skip
        exact ebX10_country_119 hz l4 s0 (l4 / (4 : Int32)) (2 : Int32) S
def gbX10_country_64 (l4 : Int32) (s1 : Int32) (S : SV) : Option (Int32 × SV) :=
  (gX10_of (s1 + l4) S).bind fun x67 =>
  some (x67, S)
set_option maxRecDepth 100000 in
theorem ebX10_country_64 {a : Nat} {ρ : RV} {z : AH} (hz : a + szV 9 ≤ z.length) (l4 : Int32) (s1 : Int32) (S : SV) : bX10_country_64 l4 a s1 (wr 9 a ρ S z) = (gbX10_country_64 l4 s1 S).map (fun q => (q.1, wr 9 a ρ q.2 z)) := by
  unfold bX10_country_64 gbX10_country_64
  refine eb (eX10_of (rd_wr hz) (s1 + l4)) (fun x67 => ?_)
  rfl
def gX10_country (l1 : Int32) (l2 : Int32) (S : SV) : Option (Int32 × SV) :=
  nm (wI S 0 (0 : Int32)) fun S2 =>
  b2 (gX10_hand l1 S2) fun x7 S7 =>
  if x7 = (0 : Int32) then (
    some ((-2 : Int32), S7)
  ) else (
    nm (irem l2 (10 : Int32)) fun v20 =>
    if l2 < (100 : Int32) then (
      if (l2 / (10 : Int32)) = (0 : Int32) then (
        if (fX10_in l2 (0 : Int32) (5 : Int32)) = (0 : Int32) then (
          some ((-2 : Int32), S7)
        ) else (
          (gX10_of l2 S7).bind fun x247 =>
          some (x247, S7)
        )
      ) else (
        if (l2 / (10 : Int32)) = (1 : Int32) then (
          if (S7.1 26) ≤ v20 then (
            some ((-2 : Int32), S7)
          ) else (
            (gX10_of (((6 : Int32) + ((8 : Int32) * ((l2 / (10 : Int32)) - (1 : Int32)))) + v20) S7).bind fun x279 =>
            some (x279, S7)
          )
        ) else (
          if (l2 / (10 : Int32)) = (2 : Int32) then (
            if (S7.1 26) ≤ v20 then (
              some ((-2 : Int32), S7)
            ) else (
              (gX10_of (((6 : Int32) + ((8 : Int32) * ((l2 / (10 : Int32)) - (1 : Int32)))) + v20) S7).bind fun x279 =>
              some (x279, S7)
            )
          ) else (
            if (l2 / (10 : Int32)) = (3 : Int32) then (
              if (S7.1 26) ≤ v20 then (
                some ((-2 : Int32), S7)
              ) else (
                (gX10_of (((6 : Int32) + ((8 : Int32) * ((l2 / (10 : Int32)) - (1 : Int32)))) + v20) S7).bind fun x279 =>
                some (x279, S7)
              )
            ) else (
              if (l2 / (10 : Int32)) = (4 : Int32) then (
                if (S7.1 26) ≤ v20 then (
                  some ((-2 : Int32), S7)
                ) else (
                  (gX10_of (((6 : Int32) + ((8 : Int32) * ((l2 / (10 : Int32)) - (1 : Int32)))) + v20) S7).bind fun x279 =>
                  some (x279, S7)
                )
              ) else (
                if (l2 / (10 : Int32)) = (5 : Int32) then (
                  if (60 : Int32) ≤ l2 then (
                    gbX10_country_301 l2 v20 v20 (3 : Int32) S7
                  ) else (
                    gbX10_country_301 l2 v20 v20 (2 : Int32) S7
                  )
                ) else (
                  if (l2 / (10 : Int32)) = (6 : Int32) then (
                    if (60 : Int32) ≤ l2 then (
                      gbX10_country_301 l2 v20 v20 (3 : Int32) S7
                    ) else (
                      gbX10_country_301 l2 v20 v20 (2 : Int32) S7
                    )
                  ) else (
                    if (l2 / (10 : Int32)) = (7 : Int32) then (
                      if (S7.1 27) ≤ v20 then (
                        some ((-2 : Int32), S7)
                      ) else (
                        if (80 : Int32) ≤ l2 then (
                          gbX10_country_354 v20 (50 : Int32) S7
                        ) else (
                          gbX10_country_354 v20 (46 : Int32) S7
                        )
                      )
                    ) else (
                      if (l2 / (10 : Int32)) = (8 : Int32) then (
                        if (S7.1 27) ≤ v20 then (
                          some ((-2 : Int32), S7)
                        ) else (
                          if (80 : Int32) ≤ l2 then (
                            gbX10_country_354 v20 (50 : Int32) S7
                          ) else (
                            gbX10_country_354 v20 (46 : Int32) S7
                          )
                        )
                      ) else (
                        some ((-2 : Int32), S7)
                      )
                    )
                  )
                )
              )
            )
          )
        )
      )
    ) else (
      nm (irem l2 (20 : Int32)) fun v31 =>
      if (140 : Int32) ≤ l2 then (
        if (160 : Int32) ≤ l2 then (
          gbX10_country_88 l2 v31 (0 : Int32) S7
        ) else (
          gbX10_country_88 l2 v31 (1 : Int32) S7
        )
      ) else (
        (gX10_of (1 : Int32) S7).bind fun x44 =>
        if x44 ≤ v31 then (
          some ((-2 : Int32), S7)
        ) else (
          if (120 : Int32) ≤ l2 then (
            gbX10_country_64 v31 (66 : Int32) S7
          ) else (
            gbX10_country_64 v31 (54 : Int32) S7
          )
        )
      )
    )
  )
set_option maxRecDepth 100000 in
theorem eX10_country {a : Nat} {ρ : RV} {z : AH} (hz : a + szV 9 ≤ z.length) (l1 : Int32) (l2 : Int32) (S : SV) : fX10_country a l1 l2 (wr 9 a ρ S z) = (gX10_country l1 l2 S).map (fun q => (q.1, wr 9 a ρ q.2 z)) := by
  unfold fX10_country gX10_country
  refine eo (isO_rd (rd_wr hz)) ?_
  refine ep (f := (fun S => wr 9 a ρ S z)) (pF_int hz rfl _) (fun S2 => ?_)
  refine e2m (f := (fun S => wr 9 a ρ S z)) (eX10_hand hz l1 S2) (fun x7 S7 => ?_)
  refine ei (fun _ => ?_) (fun _ => ?_)
  · skip
    rfl
  · skip
    refine en (fun v20 => ?_)
    refine ei (fun _ => ?_) (fun _ => ?_)
    · skip
      refine ei (fun _ => ?_) (fun _ => ?_)
      · skip
        refine ei (fun _ => ?_) (fun _ => ?_)
        · skip
          rfl
        · skip
          refine eb (eX10_of (rd_wr hz) l2) (fun x247 => ?_)
          rfl
      · skip
        refine ei (fun _ => ?_) (fun _ => ?_)
        · skip
          refine sb (gI_rd (rd_wr hz) rfl) ?_
          refine ei (fun _ => ?_) (fun _ => ?_)
          · skip
            rfl
          · skip
            refine eb (eX10_of (rd_wr hz) (((6 : Int32) + ((8 : Int32) * ((l2 / (10 : Int32)) - (1 : Int32)))) + v20)) (fun x279 => ?_)
            rfl
        · skip
          refine ei (fun _ => ?_) (fun _ => ?_)
          · skip
            refine sb (gI_rd (rd_wr hz) rfl) ?_
            refine ei (fun _ => ?_) (fun _ => ?_)
            · skip
              rfl
            · skip
              refine eb (eX10_of (rd_wr hz) (((6 : Int32) + ((8 : Int32) * ((l2 / (10 : Int32)) - (1 : Int32)))) + v20)) (fun x279 => ?_)
              rfl
          · skip
            refine ei (fun _ => ?_) (fun _ => ?_)
            · skip
              refine sb (gI_rd (rd_wr hz) rfl) ?_
              refine ei (fun _ => ?_) (fun _ => ?_)
              · skip
                rfl
              · skip
                refine eb (eX10_of (rd_wr hz) (((6 : Int32) + ((8 : Int32) * ((l2 / (10 : Int32)) - (1 : Int32)))) + v20)) (fun x279 => ?_)
                rfl
            · skip
              refine ei (fun _ => ?_) (fun _ => ?_)
              · skip
                refine sb (gI_rd (rd_wr hz) rfl) ?_
                refine ei (fun _ => ?_) (fun _ => ?_)
                · skip
                  rfl
                · skip
                  refine eb (eX10_of (rd_wr hz) (((6 : Int32) + ((8 : Int32) * ((l2 / (10 : Int32)) - (1 : Int32)))) + v20)) (fun x279 => ?_)
                  rfl
              · skip
                refine ei (fun _ => ?_) (fun _ => ?_)
                · skip
                  refine ei (fun _ => ?_) (fun _ => ?_)
                  · skip
                    exact ebX10_country_301 hz l2 v20 v20 (3 : Int32) S7
                  · skip
                    exact ebX10_country_301 hz l2 v20 v20 (2 : Int32) S7
                · skip
                  refine ei (fun _ => ?_) (fun _ => ?_)
                  · skip
                    refine ei (fun _ => ?_) (fun _ => ?_)
                    · skip
                      exact ebX10_country_301 hz l2 v20 v20 (3 : Int32) S7
                    · skip
                      exact ebX10_country_301 hz l2 v20 v20 (2 : Int32) S7
                  · skip
                    refine ei (fun _ => ?_) (fun _ => ?_)
                    · skip
                      refine sb (gI_rd (rd_wr hz) rfl) ?_
                      refine ei (fun _ => ?_) (fun _ => ?_)
                      · skip
                        rfl
                      · skip
                        refine ei (fun _ => ?_) (fun _ => ?_)
                        · skip
                          exact ebX10_country_354 hz v20 (50 : Int32) S7
                        · skip
                          exact ebX10_country_354 hz v20 (46 : Int32) S7
                    · skip
                      refine ei (fun _ => ?_) (fun _ => ?_)
                      · skip
                        refine sb (gI_rd (rd_wr hz) rfl) ?_
                        refine ei (fun _ => ?_) (fun _ => ?_)
                        · skip
                          rfl
                        · skip
                          refine ei (fun _ => ?_) (fun _ => ?_)
                          · skip
                            exact ebX10_country_354 hz v20 (50 : Int32) S7
                          · skip
                            exact ebX10_country_354 hz v20 (46 : Int32) S7
                      · skip
                        rfl
    · skip
      refine en (fun v31 => ?_)
      refine ei (fun _ => ?_) (fun _ => ?_)
      · skip
        refine ei (fun _ => ?_) (fun _ => ?_)
        · skip
          exact ebX10_country_88 hz l2 v31 (0 : Int32) S7
        · skip
          exact ebX10_country_88 hz l2 v31 (1 : Int32) S7
      · skip
        refine eb (eX10_of (rd_wr hz) (1 : Int32)) (fun x44 => ?_)
        refine ei (fun _ => ?_) (fun _ => ?_)
        · skip
          rfl
        · skip
          refine ei (fun _ => ?_) (fun _ => ?_)
          · skip
            exact ebX10_country_64 hz v31 (66 : Int32) S7
          · skip
            exact ebX10_country_64 hz v31 (54 : Int32) S7
