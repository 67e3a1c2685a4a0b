def gbX6_staysWith_58 (V1 : SV) (l2 : Int32) (S : SV) : Option (Int32 × SV) :=
  (gX6_isThere V1 l2 S).bind fun x60 =>
  if x60 = 0 ∨ x60 = 1 then some (x60, S) else none
set_option maxRecDepth 100000 in
theorem ebX6_staysWith_58 {z : AH} {a : Nat} {ρ : RV} (hz : a + szV 5 ≤ z.length) {a1 : Nat} {ρ1 : RV} {V1 : SV} (h1 : RD 0 a1 ρ1 V1 z) (d1 : a1 + szV 0 ≤ a ∨ a + szV 5 ≤ a1) (l2 : Int32) (S : SV) : bX6_staysWith_58 a l2 (wr 5 a (va_up ρ.1 0 (some a1), ρ.2) S z) = (gbX6_staysWith_58 V1 l2 S).map (fun q => (q.1, wr 5 a (va_up ρ.1 0 (some a1), ρ.2) q.2 z)) := by
  unfold bX6_staysWith_58 gbX6_staysWith_58
  refine eb (eX6_isThere (ρ := (va_up ρ.1 0 (some a1), ρ.2)) (rd_wr hz) (h1.far d1) (lnd ρ a1) l2) (fun x60 => ?_)
  refine ei (fun _ => rfl) (fun _ => rfl)
def gbX6_staysWith_32 (k32 : Int32 → Int32 → Int32 → SV → Option (Int32 × SV)) (V1 : SV) (l2 : Int32) (l4 : Int32) (l5 : Int32) (S : SV) : Option (Int32 × SV) :=
  if l4 ≤ l5 then (
    gbX6_staysWith_58 V1 l2 S
  ) else (
    (gX6_isThere V1 l2 S).bind fun x41 =>
    if x41 = (0 : Int32) then (
      gbX6_staysWith_58 V1 l2 S
    ) else (
      b2 (gX6_passHour V1 S) fun x48 S48 =>
      nm (l5 + (1 : Int32)) fun v52 =>
      k32 l2 l4 v52 S48
    )
  )
set_option maxRecDepth 100000 in
theorem ebX6_staysWith_32 {z : AH} {a : Nat} {ρ : RV} (hz : a + szV 5 ≤ z.length) {a1 : Nat} {ρ1 : RV} {V1 : SV} (h1 : RD 0 a1 ρ1 V1 z) (d1 : a1 + szV 0 ≤ a ∨ a + szV 5 ≤ a1) {k32 : Nat → Int32 → Int32 → Int32 → AH → Option (Int32 × AH)} {k32' : Int32 → Int32 → Int32 → SV → Option (Int32 × SV)} (hk32 : ∀ (l2 : Int32) (l4 : Int32) (l5 : Int32) (S : SV), k32 a l2 l4 l5 (wr 5 a (va_up ρ.1 0 (some a1), ρ.2) S z) = (k32' l2 l4 l5 S).map (fun q => (q.1, wr 5 a (va_up ρ.1 0 (some a1), ρ.2) q.2 z))) (l2 : Int32) (l4 : Int32) (l5 : Int32) (S : SV) : bX6_staysWith_32 k32 a l2 l4 l5 (wr 5 a (va_up ρ.1 0 (some a1), ρ.2) S z) = (gbX6_staysWith_32 k32' V1 l2 l4 l5 S).map (fun q => (q.1, wr 5 a (va_up ρ.1 0 (some a1), ρ.2) q.2 z)) := by
  unfold bX6_staysWith_32 gbX6_staysWith_32
  refine ei (fun _ => ?_) (fun _ => ?_)
  · skip
    exact ebX6_staysWith_58 hz h1 d1 l2 S
  · skip
    refine eb (eX6_isThere (ρ := (va_up ρ.1 0 (some a1), ρ.2)) (rd_wr hz) (h1.far d1) (lnd ρ a1) l2) (fun x41 => ?_)
    refine ei (fun _ => ?_) (fun _ => ?_)
    · skip
      exact ebX6_staysWith_58 hz h1 d1 l2 S
    · skip
      refine e2m (f := (fun S => wr 5 a (va_up ρ.1 0 (some a1), ρ.2) S z)) (eX6_passHour (ρ := (va_up ρ.1 0 (some a1), ρ.2)) hz h1 d1 (lnd ρ a1) S) (fun x48 S48 => ?_)
      refine en (fun v52 => ?_)
      exact hk32 l2 l4 v52 S48
def gfX6_staysWith_32 (V1 : SV) : Nat → Int32 → Int32 → Int32 → SV → Option (Int32 × SV)
  | 0, _, _, _, _ => none
  | n + 1, l2, l4, l5, S => gbX6_staysWith_32 (gfX6_staysWith_32 V1 n) V1 l2 l4 l5 S
theorem efX6_staysWith_32 {z : AH} {a : Nat} {ρ : RV} (hz : a + szV 5 ≤ z.length) {a1 : Nat} {ρ1 : RV} {V1 : SV} (h1 : RD 0 a1 ρ1 V1 z) (d1 : a1 + szV 0 ≤ a ∨ a + szV 5 ≤ a1) : ∀ (n : Nat) (l2 : Int32) (l4 : Int32) (l5 : Int32) (S : SV), fX6_staysWith_32 n a l2 l4 l5 (wr 5 a (va_up ρ.1 0 (some a1), ρ.2) S z) = (gfX6_staysWith_32 V1 n l2 l4 l5 S).map (fun q => (q.1, wr 5 a (va_up ρ.1 0 (some a1), ρ.2) q.2 z)) := by
  intro n
  induction n with
  | zero => intros; rfl
  | succ n ih => intro l2 l4 l5 S; exact ebX6_staysWith_32 hz h1 d1 (fun l2 l4 l5 S => ih l2 l4 l5 S) l2 l4 l5 S
def gX6_staysWith (V1 : SV) (l2 : Int32) (l3 : Int32) (l4 : Int32) (S : SV) : Option (Int32 × SV) :=
  (gX6_load V1 S).bind fun S2 =>
  (gX0_hasThing l2 V1).bind fun x10 =>
  if x10 = (0 : Int32) then (
    some ((0 : Int32), S2)
  ) else (
    (wA 1 8 S2 l2 l3).bind fun S24 =>
    (gX6_fall V1 S24).bind fun S26 =>
    gfX6_staysWith_32 V1 FU l2 l4 (0 : Int32) S26
  )
set_option maxRecDepth 100000 in
theorem eX6_staysWith {z : AH} {a : Nat} {ρ : RV} (hz : a + szV 5 ≤ z.length) {a1 : Nat} {ρ1 : RV} {V1 : SV} (h1 : RD 0 a1 ρ1 V1 z) (d1 : a1 + szV 0 ≤ a ∨ a + szV 5 ≤ a1) (l2 : Int32) (l3 : Int32) (l4 : Int32) (S : SV) : fX6_staysWith a a1 l2 l3 l4 (wr 5 a ρ S z) = (gX6_staysWith V1 l2 l3 l4 S).map (fun q => (q.1, wr 5 a (va_up ρ.1 0 (some a1), ρ.2) q.2 z)) := by
  unfold fX6_staysWith gX6_staysWith
  refine eo (isO_rd (rd_wr hz)) ?_
  refine em (f := (fun S => wr 5 a (va_up ρ.1 0 (some a1), ρ.2) S z)) (eX6_load (ρ := ρ) hz h1 d1 S) (fun S2 => ?_)
  refine sb ((gR_rd (rd_wr hz) rfl).trans (lnd ρ a1)) ?_
  refine eb (eX0_hasThing (h1.far d1) l2) (fun x10 => ?_)
  refine ei (fun _ => ?_) (fun _ => ?_)
  · skip
    rfl
  · skip
    refine sb (gN_rd (rd_wr hz) rfl (Or.inl rfl)) ?_
    refine em (f := (fun S => wr 5 a (va_up ρ.1 0 (some a1), ρ.2) S z)) (stI_rd rkOk5 hz (k := 1) rfl rfl (by decide) 0 rfl (by decide) _ _) (fun S24 => ?_)
    refine em (f := (fun S => wr 5 a (va_up ρ.1 0 (some a1), ρ.2) S z)) (eX6_fall (ρ := (va_up ρ.1 0 (some a1), ρ.2)) hz h1 d1 (lnd ρ a1) S24) (fun S26 => ?_)
    exact efX6_staysWith_32 hz h1 d1 FU l2 l4 (0 : Int32) S26
def gbX6_spread_4 (k4 : Int32 → Int32 → Int32 → Option (Int32)) (C : SV) (l1 : Int32) (l2 : Int32) (l3 : Int32) (S : SV) : Option (Int32) :=
  if (C.1 0) ≤ l3 then (
    some l2
  ) else (
    if (fX9_hasBit l1 l3) = (0 : Int32) then (
      nm (l3 + (1 : Int32)) fun v35 =>
      k4 l1 l2 v35
    ) else (
      (rA 8 (C.2.1 6) l3).bind fun x32 =>
      nm (l2 ||| x32) fun v34 =>
      nm (l3 + (1 : Int32)) fun v35 =>
      k4 l1 v34 v35
    )
  )
set_option maxRecDepth 100000 in
theorem ebX6_spread_4 {z : AH} {a : Nat} {ρ : RV} {S : SV} (hR : RD 5 a ρ S z) {c : Nat} {ρC : RV} {C : SV} (hC : RD 0 c ρC C z) (hl : ρ.1 0 = some c) {k4 : Nat → Int32 → Int32 → Int32 → Option (Int32)} {k4' : Int32 → Int32 → Int32 → Option (Int32)} (hk4 : ∀ (l1 : Int32) (l2 : Int32) (l3 : Int32), k4 a l1 l2 l3 = k4' l1 l2 l3) (l1 : Int32) (l2 : Int32) (l3 : Int32) : bX6_spread_4 k4 a l1 l2 l3 z = gbX6_spread_4 k4' C l1 l2 l3 S := by
  unfold bX6_spread_4 gbX6_spread_4
  refine sb ((gR_rd hR rfl).trans hl) ?_
  refine sb (gI_rd hC rfl) ?_
  refine ei0 (fun _ => ?_) (fun _ => ?_)
  · skip
    rfl
  · skip
    refine ei0 (fun _ => ?_) (fun _ => ?_)
    · skip
      refine en0 (fun v35 => ?_)
      exact hk4 l1 l2 v35
    · skip
      refine sb ((gR_rd hR rfl).trans hl) ?_
      refine sb (gN_rd hC rfl (Or.inl rfl)) ?_
      refine eb0 (ixI_rd hC (k := 6) rfl rfl (by decide) 0 rfl (by decide) _) (fun x32 => ?_)
      refine en0 (fun v34 => ?_)
      refine en0 (fun v35 => ?_)
      exact hk4 l1 v34 v35
def gfX6_spread_4 (C : SV) (S : SV) : Nat → Int32 → Int32 → Int32 → Option (Int32)
  | 0, _, _, _ => none
  | n + 1, l1, l2, l3 => gbX6_spread_4 (gfX6_spread_4 C S n) C l1 l2 l3 S
theorem efX6_spread_4 {z : AH} {a : Nat} {ρ : RV} {S : SV} (hR : RD 5 a ρ S z) {c : Nat} {ρC : RV} {C : SV} (hC : RD 0 c ρC C z) (hl : ρ.1 0 = some c) : ∀ (n : Nat) (l1 : Int32) (l2 : Int32) (l3 : Int32), fX6_spread_4 z n a l1 l2 l3 = gfX6_spread_4 C S n l1 l2 l3 := by
  intro n
  induction n with
  | zero => intros; rfl
  | succ n ih => intro l1 l2 l3; exact ebX6_spread_4 hR hC hl (fun l1 l2 l3 => ih l1 l2 l3) l1 l2 l3
def gX6_spread (C : SV) (l1 : Int32) (S : SV) : Option (Int32) :=
  gfX6_spread_4 C S FU l1 l1 (0 : Int32)
set_option maxRecDepth 100000 in
theorem eX6_spread {z : AH} {a : Nat} {ρ : RV} {S : SV} (hR : RD 5 a ρ S z) {c : Nat} {ρC : RV} {C : SV} (hC : RD 0 c ρC C z) (hl : ρ.1 0 = some c) (l1 : Int32) : fX6_spread a l1 z = gX6_spread C l1 S := by
  unfold fX6_spread gX6_spread
  refine eo (isO_rd hR) ?_
  exact efX6_spread_4 hR hC hl FU l1 l1 (0 : Int32)
def gbX6_fewestHours_12 (k12 : Int32 → Int32 → Int32 → SV → Option (Int32 × SV)) (C : SV) (l2 : Int32) (l3 : Int32) (l4 : Int32) (S : SV) : Option (Int32 × SV) :=
  if (99 : Int32) < l4 then (
    some ((-1 : Int32), S)
  ) else (
    if l3 = (0 : Int32) then (
      some ((-1 : Int32), S)
    ) else (
      if (fX9_hasBit l3 l2) = (0 : Int32) then (
        (gX6_spread C l3 S).bind fun x36 =>
        b2 (gX6_passHour C S) fun x41 S41 =>
        (gX6_there C S41).bind fun x47 =>
        nm (x36 &&& x47) fun v51 =>
        nm (l4 + (1 : Int32)) fun v52 =>
        k12 l2 v51 v52 S41
      ) else (
        some (l4, S)
      )
    )
  )
set_option maxRecDepth 100000 in
theorem ebX6_fewestHours_12 {z : AH} {a : Nat} {ρ : RV} (hz : a + szV 5 ≤ z.length) {c : Nat} {ρC : RV} {C : SV} (hC : RD 0 c ρC C z) (dC : c + szV 0 ≤ a ∨ a + szV 5 ≤ c) (hl : ρ.1 0 = some c) {k12 : Nat → Int32 → Int32 → Int32 → AH → Option (Int32 × AH)} {k12' : Int32 → Int32 → Int32 → SV → Option (Int32 × SV)} (hk12 : ∀ (l2 : Int32) (l3 : Int32) (l4 : Int32) (S : SV), k12 a l2 l3 l4 (wr 5 a ρ S z) = (k12' l2 l3 l4 S).map (fun q => (q.1, wr 5 a ρ q.2 z))) (l2 : Int32) (l3 : Int32) (l4 : Int32) (S : SV) : bX6_fewestHours_12 k12 a l2 l3 l4 (wr 5 a ρ S z) = (gbX6_fewestHours_12 k12' C l2 l3 l4 S).map (fun q => (q.1, wr 5 a ρ q.2 z)) := by
  unfold bX6_fewestHours_12 gbX6_fewestHours_12
  refine ei (fun _ => ?_) (fun _ => ?_)
  · skip
    rfl
  · skip
    refine ei (fun _ => ?_) (fun _ => ?_)
    · skip
      rfl
    · skip
      refine ei (fun _ => ?_) (fun _ => ?_)
      · skip
        refine eb (eX6_spread (ρ := ρ) (rd_wr hz) (hC.far dC) hl l3) (fun x36 => ?_)
        refine e2m (f := (fun S => wr 5 a ρ S z)) (eX6_passHour (ρ := ρ) hz hC dC hl S) (fun x41 S41 => ?_)
        refine eb (eX6_there (ρ := ρ) (rd_wr hz) (hC.far dC) hl) (fun x47 => ?_)
        refine en (fun v51 => ?_)
        refine en (fun v52 => ?_)
        exact hk12 l2 v51 v52 S41
      · skip
        rfl
def gfX6_fewestHours_12 (C : SV) : Nat → Int32 → Int32 → Int32 → SV → Option (Int32 × SV)
  | 0, _, _, _, _ => none
  | n + 1, l2, l3, l4, S => gbX6_fewestHours_12 (gfX6_fewestHours_12 C n) C l2 l3 l4 S
theorem efX6_fewestHours_12 {z : AH} {a : Nat} {ρ : RV} (hz : a + szV 5 ≤ z.length) {c : Nat} {ρC : RV} {C : SV} (hC : RD 0 c ρC C z) (dC : c + szV 0 ≤ a ∨ a + szV 5 ≤ c) (hl : ρ.1 0 = some c) : ∀ (n : Nat) (l2 : Int32) (l3 : Int32) (l4 : Int32) (S : SV), fX6_fewestHours_12 n a l2 l3 l4 (wr 5 a ρ S z) = (gfX6_fewestHours_12 C n l2 l3 l4 S).map (fun q => (q.1, wr 5 a ρ q.2 z)) := by
  intro n
  induction n with
  | zero => intros; rfl
  | succ n ih => intro l2 l3 l4 S; exact ebX6_fewestHours_12 hz hC dC hl (fun l2 l3 l4 S => ih l2 l3 l4 S) l2 l3 l4 S
def gX6_fewestHours (C : SV) (l1 : Int32) (l2 : Int32) (S : SV) : Option (Int32 × SV) :=
  (gX6_there C S).bind fun x4 =>
  nm ((shl (1 : Int32) l1) &&& x4) fun v8 =>
  gfX6_fewestHours_12 C FU l2 v8 (0 : Int32) S
set_option maxRecDepth 100000 in
theorem eX6_fewestHours {z : AH} {a : Nat} {ρ : RV} (hz : a + szV 5 ≤ z.length) {c : Nat} {ρC : RV} {C : SV} (hC : RD 0 c ρC C z) (dC : c + szV 0 ≤ a ∨ a + szV 5 ≤ c) (hl : ρ.1 0 = some c) (l1 : Int32) (l2 : Int32) (S : SV) : fX6_fewestHours a l1 l2 (wr 5 a ρ S z) = (gX6_fewestHours C l1 l2 S).map (fun q => (q.1, wr 5 a ρ q.2 z)) := by
  unfold fX6_fewestHours gX6_fewestHours
  refine eo (isO_rd (rd_wr hz)) ?_
  refine eb (eX6_there (ρ := ρ) (rd_wr hz) (hC.far dC) hl) (fun x4 => ?_)
  refine en (fun v8 => ?_)
  exact efX6_fewestHours_12 hz hC dC hl FU l2 v8 (0 : Int32) S
def gbX6_fewestHoursToMeet_22 (k22 : Int32 → Int32 → Int32 → SV → Option (Int32 × SV)) (C : SV) (l3 : Int32) (l4 : Int32) (l5 : Int32) (S : SV) : Option (Int32 × SV) :=
  if (99 : Int32) < l5 then (
    some ((-1 : Int32), S)
  ) else (
    if l3 = (0 : Int32) then (
      some ((-1 : Int32), S)
    ) else (
      if l4 = (0 : Int32) then (
        some ((-1 : Int32), S)
      ) else (
        if (l3 &&& l4) = (0 : Int32) then (
          (gX6_spread C l3 S).bind fun x50 =>
          (gX6_spread C l4 S).bind fun x57 =>
          b2 (gX6_passHour C S) fun x63 S63 =>
          (gX6_there C S63).bind fun x69 =>
          nm (x50 &&& x69) fun v73 =>
          (gX6_there C S63).bind fun x77 =>
          nm (x57 &&& x77) fun v81 =>
          nm (l5 + (1 : Int32)) fun v83 =>
          k22 v73 v81 v83 S63
        ) else (
          some (l5, S)
        )
      )
    )
  )
set_option maxRecDepth 100000 in
theorem ebX6_fewestHoursToMeet_22 {z : AH} {a : Nat} {ρ : RV} (hz : a + szV 5 ≤ z.length) {c : Nat} {ρC : RV} {C : SV} (hC : RD 0 c ρC C z) (dC : c + szV 0 ≤ a ∨ a + szV 5 ≤ c) (hl : ρ.1 0 = some c) {k22 : Nat → Int32 → Int32 → Int32 → AH → Option (Int32 × AH)} {k22' : Int32 → Int32 → Int32 → SV → Option (Int32 × SV)} (hk22 : ∀ (l3 : Int32) (l4 : Int32) (l5 : Int32) (S : SV), k22 a l3 l4 l5 (wr 5 a ρ S z) = (k22' l3 l4 l5 S).map (fun q => (q.1, wr 5 a ρ q.2 z))) (l3 : Int32) (l4 : Int32) (l5 : Int32) (S : SV) : bX6_fewestHoursToMeet_22 k22 a l3 l4 l5 (wr 5 a ρ S z) = (gbX6_fewestHoursToMeet_22 k22' C l3 l4 l5 S).map (fun q => (q.1, wr 5 a ρ q.2 z)) := by
  unfold bX6_fewestHoursToMeet_22 gbX6_fewestHoursToMeet_22
  refine ei (fun _ => ?_) (fun _ => ?_)
  · skip
    rfl
  · skip
    refine ei (fun _ => ?_) (fun _ => ?_)
    · skip
      rfl
    · skip
      refine ei (fun _ => ?_) (fun _ => ?_)
      · skip
        rfl
      · skip
        refine ei (fun _ => ?_) (fun _ => ?_)
        · skip
          refine eb (eX6_spread (ρ := ρ) (rd_wr hz) (hC.far dC) hl l3) (fun x50 => ?_)
          refine eb (eX6_spread (ρ := ρ) (rd_wr hz) (hC.far dC) hl l4) (fun x57 => ?_)
          refine e2m (f := (fun S => wr 5 a ρ S z)) (eX6_passHour (ρ := ρ) hz hC dC hl S) (fun x63 S63 => ?_)
          refine eb (eX6_there (ρ := ρ) (rd_wr hz) (hC.far dC) hl) (fun x69 => ?_)
          refine en (fun v73 => ?_)
          refine eb (eX6_there (ρ := ρ) (rd_wr hz) (hC.far dC) hl) (fun x77 => ?_)
          refine en (fun v81 => ?_)
          refine en (fun v83 => ?_)
          exact hk22 v73 v81 v83 S63
        · skip
          rfl
def gfX6_fewestHoursToMeet_22 (C : SV) : Nat → Int32 → Int32 → Int32 → SV → Option (Int32 × SV)
  | 0, _, _, _, _ => none
  | n + 1, l3, l4, l5, S => gbX6_fewestHoursToMeet_22 (gfX6_fewestHoursToMeet_22 C n) C l3 l4 l5 S
theorem efX6_fewestHoursToMeet_22 {z : AH} {a : Nat} {ρ : RV} (hz : a + szV 5 ≤ z.length) {c : Nat} {ρC : RV} {C : SV} (hC : RD 0 c ρC C z) (dC : c + szV 0 ≤ a ∨ a + szV 5 ≤ c) (hl : ρ.1 0 = some c) : ∀ (n : Nat) (l3 : Int32) (l4 : Int32) (l5 : Int32) (S : SV), fX6_fewestHoursToMeet_22 n a l3 l4 l5 (wr 5 a ρ S z) = (gfX6_fewestHoursToMeet_22 C n l3 l4 l5 S).map (fun q => (q.1, wr 5 a ρ q.2 z)) := by
  intro n
  induction n with
  | zero => intros; rfl
  | succ n ih => intro l3 l4 l5 S; exact ebX6_fewestHoursToMeet_22 hz hC dC hl (fun l3 l4 l5 S => ih l3 l4 l5 S) l3 l4 l5 S
def gX6_fewestHoursToMeet (C : SV) (l1 : Int32) (l2 : Int32) (S : SV) : Option (Int32 × SV) :=
  (gX6_there C S).bind fun x4 =>
  nm ((shl (1 : Int32) l1) &&& x4) fun v8 =>
  (gX6_there C S).bind fun x13 =>
  nm ((shl (1 : Int32) l2) &&& x13) fun v17 =>
  gfX6_fewestHoursToMeet_22 C FU v8 v17 (0 : Int32) S
set_option maxRecDepth 100000 in
theorem eX6_fewestHoursToMeet {z : AH} {a : Nat} {ρ : RV} (hz : a + szV 5 ≤ z.length) {c : Nat} {ρC : RV} {C : SV} (hC : RD 0 c ρC C z) (dC : c + szV 0 ≤ a ∨ a + szV 5 ≤ c) (hl : ρ.1 0 = some c) (l1 : Int32) (l2 : Int32) (S : SV) : fX6_fewestHoursToMeet a l1 l2 (wr 5 a ρ S z) = (gX6_fewestHoursToMeet C l1 l2 S).map (fun q => (q.1, wr 5 a ρ q.2 z)) := by
  unfold fX6_fewestHoursToMeet gX6_fewestHoursToMeet
  refine eo (isO_rd (rd_wr hz)) ?_
  refine eb (eX6_there (ρ := ρ) (rd_wr hz) (hC.far dC) hl) (fun x4 => ?_)
  refine en (fun v8 => ?_)
  refine eb (eX6_there (ρ := ρ) (rd_wr hz) (hC.far dC) hl) (fun x13 => ?_)
  refine en (fun v17 => ?_)
  exact efX6_fewestHoursToMeet_22 hz hC dC hl FU v8 v17 (0 : Int32) S
def gX6_widen (C : SV) (l1 : Int32) (l2 : Int32) (S : SV) : Option SV :=
  (gX6_isThere C l1 S).bind fun x2 =>
  if x2 = (0 : Int32) then (
    some S
  ) else (
    (gX6_isThere C l2 S).bind fun x10 =>
    if x10 = (0 : Int32) then (
      some S
    ) else (
      (rA 8 (S.2.1 4) l2).bind fun x26 =>
      (rA 8 (S.2.1 4) l1).bind fun x32 =>
      (rA 8 (S.2.1 1) l2).bind fun x38 =>
      (wA 4 8 S l2 (imax x26 (imin x32 x38))).bind fun S45 =>
      some S45
    )
  )
set_option maxRecDepth 100000 in
theorem eX6_widen {z : AH} {a : Nat} {ρ : RV} (hz : a + szV 5 ≤ z.length) {c : Nat} {ρC : RV} {C : SV} (hC : RD 0 c ρC C z) (dC : c + szV 0 ≤ a ∨ a + szV 5 ≤ c) (hl : ρ.1 0 = some c) (l1 : Int32) (l2 : Int32) (S : SV) : fX6_widen a l1 l2 (wr 5 a ρ S z) = (gX6_widen C l1 l2 S).map (fun S => wr 5 a ρ S z) := by
  unfold fX6_widen gX6_widen
  refine eo (isO_rd (rd_wr hz)) ?_
  refine eb (eX6_isThere (ρ := ρ) (rd_wr hz) (hC.far dC) hl l1) (fun x2 => ?_)
  refine ei (fun _ => ?_) (fun _ => ?_)
  · skip
    rfl
  · skip
    refine eb (eX6_isThere (ρ := ρ) (rd_wr hz) (hC.far dC) hl l2) (fun x10 => ?_)
    refine ei (fun _ => ?_) (fun _ => ?_)
    · skip
      rfl
    · skip
      refine sb (gN_rd (rd_wr hz) rfl (Or.inl rfl)) ?_
      refine sb (gN_rd (rd_wr hz) rfl (Or.inl rfl)) ?_
      refine eb (ixI_rd (rd_wr hz) (k := 4) rfl rfl (by decide) 0 rfl (by decide) _) (fun x26 => ?_)
      refine sb (gN_rd (rd_wr hz) rfl (Or.inl rfl)) ?_
      refine eb (ixI_rd (rd_wr hz) (k := 4) rfl rfl (by decide) 0 rfl (by decide) _) (fun x32 => ?_)
      refine sb (gN_rd (rd_wr hz) rfl (Or.inl rfl)) ?_
      refine eb (ixI_rd (rd_wr hz) (k := 1) rfl rfl (by decide) 0 rfl (by decide) _) (fun x38 => ?_)
      refine em (f := (fun S => wr 5 a ρ S z)) (stI_rd rkOk5 hz (k := 4) rfl rfl (by decide) 0 rfl (by decide) _ _) (fun S45 => ?_)
      rfl
def gbX6_surest_67 (k58 : Int32 → Int32 → SV → Option (Int32 × SV)) (k67 : Int32 → Int32 → Int32 → SV → Option (Int32 × SV)) (C : SV) (l2 : Int32) (l3 : Int32) (l4 : Int32) (S : SV) : Option (Int32 × SV) :=
  if (C.1 7) ≤ l4 then (
    nm (l3 + (1 : Int32)) fun v133 =>
    k58 l2 v133 S
  ) else (
    (rA 12 (C.2.1 8) l4).bind fun x89 =>
    (rA 12 (C.2.1 9) l4).bind fun x99 =>
    (gX6_widen C x89 x99 S).bind fun S100 =>
    (rA 12 (C.2.1 9) l4).bind fun x113 =>
    (rA 12 (C.2.1 8) l4).bind fun x123 =>
    (gX6_widen C x113 x123 S100).bind fun S124 =>
    nm (l4 + (1 : Int32)) fun v127 =>
    k67 l2 l3 v127 S124
  )
set_option maxRecDepth 100000 in
theorem ebX6_surest_67 {z : AH} {a : Nat} {ρ : RV} (hz : a + szV 5 ≤ z.length) {c : Nat} {ρC : RV} {C : SV} (hC : RD 0 c ρC C z) (dC : c + szV 0 ≤ a ∨ a + szV 5 ≤ c) (hl : ρ.1 0 = some c) {k58 : Nat → Int32 → Int32 → AH → Option (Int32 × AH)} {k58' : Int32 → Int32 → SV → Option (Int32 × SV)} {k67 : Nat → Int32 → Int32 → Int32 → AH → Option (Int32 × AH)} {k67' : Int32 → Int32 → Int32 → SV → Option (Int32 × SV)} (hk58 : ∀ (l2 : Int32) (l3 : Int32) (S : SV), k58 a l2 l3 (wr 5 a ρ S z) = (k58' l2 l3 S).map (fun q => (q.1, wr 5 a ρ q.2 z))) (hk67 : ∀ (l2 : Int32) (l3 : Int32) (l4 : Int32) (S : SV), k67 a l2 l3 l4 (wr 5 a ρ S z) = (k67' l2 l3 l4 S).map (fun q => (q.1, wr 5 a ρ q.2 z))) (l2 : Int32) (l3 : Int32) (l4 : Int32) (S : SV) : bX6_surest_67 k58 k67 a l2 l3 l4 (wr 5 a ρ S z) = (gbX6_surest_67 k58' k67' C l2 l3 l4 S).map (fun q => (q.1, wr 5 a ρ q.2 z)) := by
  unfold bX6_surest_67 gbX6_surest_67
  refine sb ((gR_rd (rd_wr hz) rfl).trans hl) ?_
  refine sb (gI_rd (hC.far dC) rfl) ?_
  refine ei (fun _ => ?_) (fun _ => ?_)
  · skip
    refine en (fun v133 => ?_)
    exact hk58 l2 v133 S
  · skip
    refine sb ((gR_rd (rd_wr hz) rfl).trans hl) ?_
    refine sb (gN_rd (hC.far dC) rfl (Or.inl rfl)) ?_
    refine eb (ixI_rd (hC.far dC) (k := 8) rfl rfl (by decide) 0 rfl (by decide) _) (fun x89 => ?_)
    refine sb ((gR_rd (rd_wr hz) rfl).trans hl) ?_
    refine sb (gN_rd (hC.far dC) rfl (Or.inl rfl)) ?_
    refine eb (ixI_rd (hC.far dC) (k := 9) rfl rfl (by decide) 0 rfl (by decide) _) (fun x99 => ?_)
    refine em (f := (fun S => wr 5 a ρ S z)) (eX6_widen (ρ := ρ) hz hC dC hl x89 x99 S) (fun S100 => ?_)
    refine sb ((gR_rd (rd_wr hz) rfl).trans hl) ?_
    refine sb (gN_rd (hC.far dC) rfl (Or.inl rfl)) ?_
    refine eb (ixI_rd (hC.far dC) (k := 9) rfl rfl (by decide) 0 rfl (by decide) _) (fun x113 => ?_)
    refine sb ((gR_rd (rd_wr hz) rfl).trans hl) ?_
    refine sb (gN_rd (hC.far dC) rfl (Or.inl rfl)) ?_
    refine eb (ixI_rd (hC.far dC) (k := 8) rfl rfl (by decide) 0 rfl (by decide) _) (fun x123 => ?_)
    refine em (f := (fun S => wr 5 a ρ S z)) (eX6_widen (ρ := ρ) hz hC dC hl x113 x123 S100) (fun S124 => ?_)
    refine en (fun v127 => ?_)
    exact hk67 l2 l3 v127 S124
def gfX6_surest_67 (k58 : Int32 → Int32 → SV → Option (Int32 × SV)) (C : SV) : Nat → Int32 → Int32 → Int32 → SV → Option (Int32 × SV)
  | 0, _, _, _, _ => none
  | n + 1, l2, l3, l4, S => gbX6_surest_67 k58 (gfX6_surest_67 k58 C n) C l2 l3 l4 S
theorem efX6_surest_67 {z : AH} {a : Nat} {ρ : RV} (hz : a + szV 5 ≤ z.length) {c : Nat} {ρC : RV} {C : SV} (hC : RD 0 c ρC C z) (dC : c + szV 0 ≤ a ∨ a + szV 5 ≤ c) (hl : ρ.1 0 = some c) {k58 : Nat → Int32 → Int32 → AH → Option (Int32 × AH)} {k58' : Int32 → Int32 → SV → Option (Int32 × SV)} (hk58 : ∀ (l2 : Int32) (l3 : Int32) (S : SV), k58 a l2 l3 (wr 5 a ρ S z) = (k58' l2 l3 S).map (fun q => (q.1, wr 5 a ρ q.2 z))) : ∀ (n : Nat) (l2 : Int32) (l3 : Int32) (l4 : Int32) (S : SV), fX6_surest_67 k58 n a l2 l3 l4 (wr 5 a ρ S z) = (gfX6_surest_67 k58' C n l2 l3 l4 S).map (fun q => (q.1, wr 5 a ρ q.2 z)) := by
  intro n
  induction n with
  | zero => intros; rfl
  | succ n ih => intro l2 l3 l4 S; exact ebX6_surest_67 hz hC dC hl hk58 (fun l2 l3 l4 S => ih l2 l3 l4 S) l2 l3 l4 S
def gbX6_surest_58 (k58 : Int32 → Int32 → SV → Option (Int32 × SV)) (C : SV) (l2 : Int32) (l3 : Int32) (S : SV) : Option (Int32 × SV) :=
  if (8 : Int32) ≤ l3 then (
    (rA 8 (S.2.1 4) l2).bind fun x144 =>
    if x144 ≤ (0 : Int32) then (
      some ((-1 : Int32), S)
    ) else (
      (rA 8 (S.2.1 4) l2).bind fun x153 =>
      some (x153, S)
    )
  ) else (
    gfX6_surest_67 k58 C FU l2 l3 (0 : Int32) S
  )
set_option maxRecDepth 100000 in
theorem ebX6_surest_58 {z : AH} {a : Nat} {ρ : RV} (hz : a + szV 5 ≤ z.length) {c : Nat} {ρC : RV} {C : SV} (hC : RD 0 c ρC C z) (dC : c + szV 0 ≤ a ∨ a + szV 5 ≤ c) (hl : ρ.1 0 = some c) {k58 : Nat → Int32 → Int32 → AH → Option (Int32 × AH)} {k58' : Int32 → Int32 → SV → Option (Int32 × SV)} (hk58 : ∀ (l2 : Int32) (l3 : Int32) (S : SV), k58 a l2 l3 (wr 5 a ρ S z) = (k58' l2 l3 S).map (fun q => (q.1, wr 5 a ρ q.2 z))) (l2 : Int32) (l3 : Int32) (S : SV) : bX6_surest_58 k58 a l2 l3 (wr 5 a ρ S z) = (gbX6_surest_58 k58' C l2 l3 S).map (fun q => (q.1, wr 5 a ρ q.2 z)) := by
  unfold bX6_surest_58 gbX6_surest_58
  refine ei (fun _ => ?_) (fun _ => ?_)
  · skip
    refine sb (gN_rd (rd_wr hz) rfl (Or.inl rfl)) ?_
    refine eb (ixI_rd (rd_wr hz) (k := 4) rfl rfl (by decide) 0 rfl (by decide) _) (fun x144 => ?_)
    refine ei (fun _ => ?_) (fun _ => ?_)
    · skip
      rfl
    · skip
      refine sb (gN_rd (rd_wr hz) rfl (Or.inl rfl)) ?_
      refine eb (ixI_rd (rd_wr hz) (k := 4) rfl rfl (by decide) 0 rfl (by decide) _) (fun x153 => ?_)
      rfl
  · skip
    exact efX6_surest_67 hz hC dC hl hk58 FU l2 l3 (0 : Int32) S
def gfX6_surest_58 (C : SV) : Nat → Int32 → Int32 → SV → Option (Int32 × SV)
  | 0, _, _, _ => none
  | n + 1, l2, l3, S => gbX6_surest_58 (gfX6_surest_58 C n) C l2 l3 S
theorem efX6_surest_58 {z : AH} {a : Nat} {ρ : RV} (hz : a + szV 5 ≤ z.length) {c : Nat} {ρC : RV} {C : SV} (hC : RD 0 c ρC C z) (dC : c + szV 0 ≤ a ∨ a + szV 5 ≤ c) (hl : ρ.1 0 = some c) : ∀ (n : Nat) (l2 : Int32) (l3 : Int32) (S : SV), fX6_surest_58 n a l2 l3 (wr 5 a ρ S z) = (gfX6_surest_58 C n l2 l3 S).map (fun q => (q.1, wr 5 a ρ q.2 z)) := by
  intro n
  induction n with
  | zero => intros; rfl
  | succ n ih => intro l2 l3 S; exact ebX6_surest_58 hz hC dC hl (fun l2 l3 S => ih l2 l3 S) l2 l3 S
def gbX6_surest_20 (k20 : Int32 → Int32 → Int32 → SV → Option (Int32 × SV)) (C : SV) (l1 : Int32) (l2 : Int32) (l3 : Int32) (S : SV) : Option (Int32 × SV) :=
  if (Int32.ofNat 8) ≤ l3 then (
    gfX6_surest_58 C FU l2 (0 : Int32) S
  ) else (
    if l3 = l1 then (
      (rA 8 (S.2.1 1) l3).bind fun x44 =>
      (wA 4 8 S l3 x44).bind fun S49 =>
      nm (l3 + (1 : Int32)) fun v50 =>
      k20 l1 l2 v50 S49
    ) else (
      (wA 4 8 S l3 (0 : Int32)).bind fun S49 =>
      nm (l3 + (1 : Int32)) fun v50 =>
      k20 l1 l2 v50 S49
    )
  )
set_option maxRecDepth 100000 in
theorem ebX6_surest_20 {z : AH} {a : Nat} {ρ : RV} (hz : a + szV 5 ≤ z.length) {c : Nat} {ρC : RV} {C : SV} (hC : RD 0 c ρC C z) (dC : c + szV 0 ≤ a ∨ a + szV 5 ≤ c) (hl : ρ.1 0 = some c) {k20 : Nat → Int32 → Int32 → Int32 → AH → Option (Int32 × AH)} {k20' : Int32 → Int32 → Int32 → SV → Option (Int32 × SV)} (hk20 : ∀ (l1 : Int32) (l2 : Int32) (l3 : Int32) (S : SV), k20 a l1 l2 l3 (wr 5 a ρ S z) = (k20' l1 l2 l3 S).map (fun q => (q.1, wr 5 a ρ q.2 z))) (l1 : Int32) (l2 : Int32) (l3 : Int32) (S : SV) : bX6_surest_20 k20 a l1 l2 l3 (wr 5 a ρ S z) = (gbX6_surest_20 k20' C l1 l2 l3 S).map (fun q => (q.1, wr 5 a ρ q.2 z)) := by
  unfold bX6_surest_20 gbX6_surest_20
  refine sb (gN_rd (rd_wr hz) rfl (Or.inl rfl)) ?_
  refine sb (lnI_rd (rd_wr hz) (k := 4) rfl rfl (by decide) 0 rfl (by decide)) ?_
  refine ei (fun _ => ?_) (fun _ => ?_)
  · skip
    exact efX6_surest_58 hz hC dC hl FU l2 (0 : Int32) S
  · skip
    refine sb (gN_rd (rd_wr hz) rfl (Or.inl rfl)) ?_
    refine ei (fun _ => ?_) (fun _ => ?_)
    · skip
      refine sb (gN_rd (rd_wr hz) rfl (Or.inl rfl)) ?_
      refine eb (ixI_rd (rd_wr hz) (k := 1) rfl rfl (by decide) 0 rfl (by decide) _) (fun x44 => ?_)
      refine em (f := (fun S => wr 5 a ρ S z)) (stI_rd rkOk5 hz (k := 4) rfl rfl (by decide) 0 rfl (by decide) _ _) (fun S49 => ?_)
      refine en (fun v50 => ?_)
      exact hk20 l1 l2 v50 S49
    · skip
      refine em (f := (fun S => wr 5 a ρ S z)) (stI_rd rkOk5 hz (k := 4) rfl rfl (by decide) 0 rfl (by decide) _ _) (fun S49 => ?_)
      refine en (fun v50 => ?_)
      exact hk20 l1 l2 v50 S49
def gfX6_surest_20 (C : SV) : Nat → Int32 → Int32 → Int32 → SV → Option (Int32 × SV)
  | 0, _, _, _, _ => none
  | n + 1, l1, l2, l3, S => gbX6_surest_20 (gfX6_surest_20 C n) C l1 l2 l3 S
theorem efX6_surest_20 {z : AH} {a : Nat} {ρ : RV} (hz : a + szV 5 ≤ z.length) {c : Nat} {ρC : RV} {C : SV} (hC : RD 0 c ρC C z) (dC : c + szV 0 ≤ a ∨ a + szV 5 ≤ c) (hl : ρ.1 0 = some c) : ∀ (n : Nat) (l1 : Int32) (l2 : Int32) (l3 : Int32) (S : SV), fX6_surest_20 n a l1 l2 l3 (wr 5 a ρ S z) = (gfX6_surest_20 C n l1 l2 l3 S).map (fun q => (q.1, wr 5 a ρ q.2 z)) := by
  intro n
  induction n with
  | zero => intros; rfl
  | succ n ih => intro l1 l2 l3 S; exact ebX6_surest_20 hz hC dC hl (fun l1 l2 l3 S => ih l1 l2 l3 S) l1 l2 l3 S
def gX6_surest (C : SV) (l1 : Int32) (l2 : Int32) (S : SV) : Option (Int32 × SV) :=
  (gX6_isThere C l1 S).bind fun x2 =>
  if x2 = (0 : Int32) then (
    some ((-1 : Int32), S)
  ) else (
    (gX6_isThere C l2 S).bind fun x10 =>
    if x10 = (0 : Int32) then (
      some ((-1 : Int32), S)
    ) else (
      gfX6_surest_20 C FU l1 l2 (0 : Int32) S
    )
  )
set_option maxRecDepth 100000 in
theorem eX6_surest {z : AH} {a : Nat} {ρ : RV} (hz : a + szV 5 ≤ z.length) {c : Nat} {ρC : RV} {C : SV} (hC : RD 0 c ρC C z) (dC : c + szV 0 ≤ a ∨ a + szV 5 ≤ c) (hl : ρ.1 0 = some c) (l1 : Int32) (l2 : Int32) (S : SV) : fX6_surest a l1 l2 (wr 5 a ρ S z) = (gX6_surest C l1 l2 S).map (fun q => (q.1, wr 5 a ρ q.2 z)) := by
  unfold fX6_surest gX6_surest
  refine eo (isO_rd (rd_wr hz)) ?_
  refine eb (eX6_isThere (ρ := ρ) (rd_wr hz) (hC.far dC) hl l1) (fun x2 => ?_)
  refine ei (fun _ => ?_) (fun _ => ?_)
  · skip
    rfl
  · skip
    refine eb (eX6_isThere (ρ := ρ) (rd_wr hz) (hC.far dC) hl l2) (fun x10 => ?_)
    refine ei (fun _ => ?_) (fun _ => ?_)
    · skip
      rfl
    · skip
      exact efX6_surest_20 hz hC dC hl FU l1 l2 (0 : Int32) S
def gbX6_highest_60 (k4 : Int32 → Int32 → Option (Int32)) (C : SV) (l1 : Int32) (l2 : Int32) (l3 : Int32) (S : SV) : Option (Int32) :=
  nm (imax l1 l3) fun v65 =>
  nm (l2 + (1 : Int32)) fun v66 =>
  k4 v65 v66
set_option maxRecDepth 100000 in
theorem ebX6_highest_60 {z : AH} {a : Nat} {ρ : RV} {S : SV} (hR : RD 5 a ρ S z) {c : Nat} {ρC : RV} {C : SV} (hC : RD 0 c ρC C z) (hl : ρ.1 0 = some c) {k4 : Nat → Int32 → Int32 → Option (Int32)} {k4' : Int32 → Int32 → Option (Int32)} (hk4 : ∀ (l1 : Int32) (l2 : Int32), k4 a l1 l2 = k4' l1 l2) (l1 : Int32) (l2 : Int32) (l3 : Int32) : bX6_highest_60 k4 a l1 l2 l3 z = gbX6_highest_60 k4' C l1 l2 l3 S := by
  unfold bX6_highest_60 gbX6_highest_60
  refine en0 (fun v65 => ?_)
  refine en0 (fun v66 => ?_)
  exact hk4 v65 v66
def gbX6_highest_23 (k4 : Int32 → Int32 → Option (Int32)) (k23 : Int32 → Int32 → Int32 → Int32 → Int32 → Option (Int32)) (C : SV) (l1 : Int32) (l2 : Int32) (l3 : Int32) (l4 : Int32) (l5 : Int32) (S : SV) : Option (Int32) :=
  if (8 : Int32) ≤ l5 then (
    gbX6_highest_60 k4 C l1 l2 l3 S
  ) else (
    (gX6_isThere C l4 S).bind fun x33 =>
    if x33 = (0 : Int32) then (
      gbX6_highest_60 k4 C l1 l2 l3 S
    ) else (
      nm (l3 + (1 : Int32)) fun v39 =>
      (rA 8 (C.2.1 4) l4).bind fun x51 =>
      nm (l5 + (1 : Int32)) fun v54 =>
      k23 l1 l2 v39 x51 v54
    )
  )
set_option maxRecDepth 100000 in
theorem ebX6_highest_23 {z : AH} {a : Nat} {ρ : RV} {S : SV} (hR : RD 5 a ρ S z) {c : Nat} {ρC : RV} {C : SV} (hC : RD 0 c ρC C z) (hl : ρ.1 0 = some c) {k4 : Nat → Int32 → Int32 → Option (Int32)} {k4' : Int32 → Int32 → Option (Int32)} {k23 : Nat → Int32 → Int32 → Int32 → Int32 → Int32 → Option (Int32)} {k23' : Int32 → Int32 → Int32 → Int32 → Int32 → Option (Int32)} (hk4 : ∀ (l1 : Int32) (l2 : Int32), k4 a l1 l2 = k4' l1 l2) (hk23 : ∀ (l1 : Int32) (l2 : Int32) (l3 : Int32) (l4 : Int32) (l5 : Int32), k23 a l1 l2 l3 l4 l5 = k23' l1 l2 l3 l4 l5) (l1 : Int32) (l2 : Int32) (l3 : Int32) (l4 : Int32) (l5 : Int32) : bX6_highest_23 k4 k23 a l1 l2 l3 l4 l5 z = gbX6_highest_23 k4' k23' C l1 l2 l3 l4 l5 S := by
  unfold bX6_highest_23 gbX6_highest_23
  refine ei0 (fun _ => ?_) (fun _ => ?_)
  · skip
    exact ebX6_highest_60 hR hC hl hk4 l1 l2 l3
  · skip
    refine eb0 (eX6_isThere (ρ := ρ) hR hC hl l4) (fun x33 => ?_)
    refine ei0 (fun _ => ?_) (fun _ => ?_)
    · skip
      exact ebX6_highest_60 hR hC hl hk4 l1 l2 l3
    · skip
      refine en0 (fun v39 => ?_)
      refine sb ((gR_rd hR rfl).trans hl) ?_
      refine sb (gN_rd hC rfl (Or.inl rfl)) ?_
      refine eb0 (ixI_rd hC (k := 4) rfl rfl (by decide) 0 rfl (by decide) _) (fun x51 => ?_)
      refine en0 (fun v54 => ?_)
      exact hk23 l1 l2 v39 x51 v54
def gfX6_highest_23 (k4 : Int32 → Int32 → Option (Int32)) (C : SV) (S : SV) : Nat → Int32 → Int32 → Int32 → Int32 → Int32 → Option (Int32)
  | 0, _, _, _, _, _ => none
  | n + 1, l1, l2, l3, l4, l5 => gbX6_highest_23 k4 (gfX6_highest_23 k4 C S n) C l1 l2 l3 l4 l5 S
theorem efX6_highest_23 {z : AH} {a : Nat} {ρ : RV} {S : SV} (hR : RD 5 a ρ S z) {c : Nat} {ρC : RV} {C : SV} (hC : RD 0 c ρC C z) (hl : ρ.1 0 = some c) {k4 : Nat → Int32 → Int32 → Option (Int32)} {k4' : Int32 → Int32 → Option (Int32)} (hk4 : ∀ (l1 : Int32) (l2 : Int32), k4 a l1 l2 = k4' l1 l2) : ∀ (n : Nat) (l1 : Int32) (l2 : Int32) (l3 : Int32) (l4 : Int32) (l5 : Int32), fX6_highest_23 k4 z n a l1 l2 l3 l4 l5 = gfX6_highest_23 k4' C S n l1 l2 l3 l4 l5 := by
  intro n
  induction n with
  | zero => intros; rfl
  | succ n ih => intro l1 l2 l3 l4 l5; exact ebX6_highest_23 hR hC hl hk4 (fun l1 l2 l3 l4 l5 => ih l1 l2 l3 l4 l5) l1 l2 l3 l4 l5
def gbX6_highest_4 (k4 : Int32 → Int32 → Option (Int32)) (C : SV) (l1 : Int32) (l2 : Int32) (S : SV) : Option (Int32) :=
  if (C.1 0) ≤ l2 then (
    some l1
  ) else (
    gfX6_highest_23 k4 C S FU l1 l2 (0 : Int32) l2 (0 : Int32)
  )
set_option maxRecDepth 100000 in
theorem ebX6_highest_4 {z : AH} {a : Nat} {ρ : RV} {S : SV} (hR : RD 5 a ρ S z) {c : Nat} {ρC : RV} {C : SV} (hC : RD 0 c ρC C z) (hl : ρ.1 0 = some c) {k4 : Nat → Int32 → Int32 → Option (Int32)} {k4' : Int32 → Int32 → Option (Int32)} (hk4 : ∀ (l1 : Int32) (l2 : Int32), k4 a l1 l2 = k4' l1 l2) (l1 : Int32) (l2 : Int32) : bX6_highest_4 k4 a l1 l2 z = gbX6_highest_4 k4' C l1 l2 S := by
  unfold bX6_highest_4 gbX6_highest_4
  refine sb ((gR_rd hR rfl).trans hl) ?_
  refine sb (gI_rd hC rfl) ?_
  refine ei0 (fun _ => ?_) (fun _ => ?_)
  · skip
    rfl
  · skip
    exact efX6_highest_23 hR hC hl hk4 FU l1 l2 (0 : Int32) l2 (0 : Int32)
def gfX6_highest_4 (C : SV) (S : SV) : Nat → Int32 → Int32 → Option (Int32)
  | 0, _, _ => none
  | n + 1, l1, l2 => gbX6_highest_4 (gfX6_highest_4 C S n) C l1 l2 S
theorem efX6_highest_4 {z : AH} {a : Nat} {ρ : RV} {S : SV} (hR : RD 5 a ρ S z) {c : Nat} {ρC : RV} {C : SV} (hC : RD 0 c ρC C z) (hl : ρ.1 0 = some c) : ∀ (n : Nat) (l1 : Int32) (l2 : Int32), fX6_highest_4 z n a l1 l2 = gfX6_highest_4 C S n l1 l2 := by
  intro n
  induction n with
  | zero => intros; rfl
  | succ n ih => intro l1 l2; exact ebX6_highest_4 hR hC hl (fun l1 l2 => ih l1 l2) l1 l2
def gX6_highest (C : SV) (S : SV) : Option (Int32) :=
  gfX6_highest_4 C S FU (0 : Int32) (0 : Int32)
set_option maxRecDepth 100000 in
theorem eX6_highest {z : AH} {a : Nat} {ρ : RV} {S : SV} (hR : RD 5 a ρ S z) {c : Nat} {ρC : RV} {C : SV} (hC : RD 0 c ρC C z) (hl : ρ.1 0 = some c) : fX6_highest a z = gX6_highest C S := by
  unfold fX6_highest gX6_highest
  refine eo (isO_rd hR) ?_
  exact efX6_highest_4 hR hC hl FU (0 : Int32) (0 : Int32)
def gbX6_partOf_11 (k11 : Int32 → Int32 → Option (Int32)) (C : SV) (l2 : Int32) (l3 : Int32) (S : SV) : Option (Int32) :=
  if (8 : Int32) ≤ l3 then (
    some l2
  ) else (
    (gX6_spread C l2 S).bind fun x19 =>
    (gX6_there C S).bind fun x23 =>
    nm (x19 &&& x23) fun v27 =>
    nm (l3 + (1 : Int32)) fun v28 =>
    k11 v27 v28
  )
set_option maxRecDepth 100000 in
theorem ebX6_partOf_11 {z : AH} {a : Nat} {ρ : RV} {S : SV} (hR : RD 5 a ρ S z) {c : Nat} {ρC : RV} {C : SV} (hC : RD 0 c ρC C z) (hl : ρ.1 0 = some c) {k11 : Nat → Int32 → Int32 → Option (Int32)} {k11' : Int32 → Int32 → Option (Int32)} (hk11 : ∀ (l2 : Int32) (l3 : Int32), k11 a l2 l3 = k11' l2 l3) (l2 : Int32) (l3 : Int32) : bX6_partOf_11 k11 a l2 l3 z = gbX6_partOf_11 k11' C l2 l3 S := by
  unfold bX6_partOf_11 gbX6_partOf_11
  refine ei0 (fun _ => ?_) (fun _ => ?_)
  · skip
    rfl
  · skip
    refine eb0 (eX6_spread (ρ := ρ) hR hC hl l2) (fun x19 => ?_)
    refine eb0 (eX6_there (ρ := ρ) hR hC hl) (fun x23 => ?_)
    refine en0 (fun v27 => ?_)
    refine en0 (fun v28 => ?_)
    exact hk11 v27 v28
def gfX6_partOf_11 (C : SV) (S : SV) : Nat → Int32 → Int32 → Option (Int32)
  | 0, _, _ => none
  | n + 1, l2, l3 => gbX6_partOf_11 (gfX6_partOf_11 C S n) C l2 l3 S
theorem efX6_partOf_11 {z : AH} {a : Nat} {ρ : RV} {S : SV} (hR : RD 5 a ρ S z) {c : Nat} {ρC : RV} {C : SV} (hC : RD 0 c ρC C z) (hl : ρ.1 0 = some c) : ∀ (n : Nat) (l2 : Int32) (l3 : Int32), fX6_partOf_11 z n a l2 l3 = gfX6_partOf_11 C S n l2 l3 := by
  intro n
  induction n with
  | zero => intros; rfl
  | succ n ih => intro l2 l3; exact ebX6_partOf_11 hR hC hl (fun l2 l3 => ih l2 l3) l2 l3
def gX6_partOf (C : SV) (l1 : Int32) (S : SV) : Option (Int32) :=
  (gX6_there C S).bind fun x4 =>
  nm ((shl (1 : Int32) l1) &&& x4) fun v8 =>
  gfX6_partOf_11 C S FU v8 (0 : Int32)
set_option maxRecDepth 100000 in
theorem eX6_partOf {z : AH} {a : Nat} {ρ : RV} {S : SV} (hR : RD 5 a ρ S z) {c : Nat} {ρC : RV} {C : SV} (hC : RD 0 c ρC C z) (hl : ρ.1 0 = some c) (l1 : Int32) : fX6_partOf a l1 z = gX6_partOf C l1 S := by
  unfold fX6_partOf gX6_partOf
  refine eo (isO_rd hR) ?_
  refine eb0 (eX6_there (ρ := ρ) hR hC hl) (fun x4 => ?_)
  refine en0 (fun v8 => ?_)
  exact efX6_partOf_11 hR hC hl FU v8 (0 : Int32)
def gbX6_countParts_6 (k6 : Int32 → Int32 → Int32 → Option (Int32)) (C : SV) (l1 : Int32) (l2 : Int32) (l3 : Int32) (S : SV) : Option (Int32) :=
  if (C.1 0) ≤ l3 then (
    some l1
  ) else (
    (gX6_isThere C l3 S).bind fun x19 =>
    if x19 = (0 : Int32) then (
      nm (l3 + (1 : Int32)) fun v44 =>
      k6 l1 l2 v44
    ) else (
      if (fX9_hasBit l2 l3) = (0 : Int32) then (
        (gX6_partOf C l3 S).bind fun x36 =>
        nm (l2 ||| x36) fun v40 =>
        nm (l1 + (1 : Int32)) fun v41 =>
        nm (l3 + (1 : Int32)) fun v44 =>
        k6 v41 v40 v44
      ) else (
        nm (l3 + (1 : Int32)) fun v44 =>
        k6 l1 l2 v44
      )
    )
  )
set_option maxRecDepth 100000 in
theorem ebX6_countParts_6 {z : AH} {a : Nat} {ρ : RV} {S : SV} (hR : RD 5 a ρ S z) {c : Nat} {ρC : RV} {C : SV} (hC : RD 0 c ρC C z) (hl : ρ.1 0 = some c) {k6 : Nat → Int32 → Int32 → Int32 → Option (Int32)} {k6' : Int32 → Int32 → Int32 → Option (Int32)} (hk6 : ∀ (l1 : Int32) (l2 : Int32) (l3 : Int32), k6 a l1 l2 l3 = k6' l1 l2 l3) (l1 : Int32) (l2 : Int32) (l3 : Int32) : bX6_countParts_6 k6 a l1 l2 l3 z = gbX6_countParts_6 k6' C l1 l2 l3 S := by
  unfold bX6_countParts_6 gbX6_countParts_6
  refine sb ((gR_rd hR rfl).trans hl) ?_
  refine sb (gI_rd hC rfl) ?_
  refine ei0 (fun _ => ?_) (fun _ => ?_)
  · skip
    rfl
  · skip
    refine eb0 (eX6_isThere (ρ := ρ) hR hC hl l3) (fun x19 => ?_)
    refine ei0 (fun _ => ?_) (fun _ => ?_)
    · skip
      refine en0 (fun v44 => ?_)
      exact hk6 l1 l2 v44
    · skip
      refine ei0 (fun _ => ?_) (fun _ => ?_)
      · skip
        refine eb0 (eX6_partOf (ρ := ρ) hR hC hl l3) (fun x36 => ?_)
        refine en0 (fun v40 => ?_)
        refine en0 (fun v41 => ?_)
        refine en0 (fun v44 => ?_)
        exact hk6 v41 v40 v44
      · skip
        refine en0 (fun v44 => ?_)
        exact hk6 l1 l2 v44
def gfX6_countParts_6 (C : SV) (S : SV) : Nat → Int32 → Int32 → Int32 → Option (Int32)
  | 0, _, _, _ => none
  | n + 1, l1, l2, l3 => gbX6_countParts_6 (gfX6_countParts_6 C S n) C l1 l2 l3 S
theorem efX6_countParts_6 {z : AH} {a : Nat} {ρ : RV} {S : SV} (hR : RD 5 a ρ S z) {c : Nat} {ρC : RV} {C : SV} (hC : RD 0 c ρC C z) (hl : ρ.1 0 = some c) : ∀ (n : Nat) (l1 : Int32) (l2 : Int32) (l3 : Int32), fX6_countParts_6 z n a l1 l2 l3 = gfX6_countParts_6 C S n l1 l2 l3 := by
  intro n
  induction n with
  | zero => intros; rfl
  | succ n ih => intro l1 l2 l3; exact ebX6_countParts_6 hR hC hl (fun l1 l2 l3 => ih l1 l2 l3) l1 l2 l3
def gX6_countParts (C : SV) (S : SV) : Option (Int32) :=
  gfX6_countParts_6 C S FU (0 : Int32) (0 : Int32) (0 : Int32)
set_option maxRecDepth 100000 in
theorem eX6_countParts {z : AH} {a : Nat} {ρ : RV} {S : SV} (hR : RD 5 a ρ S z) {c : Nat} {ρC : RV} {C : SV} (hC : RD 0 c ρC C z) (hl : ρ.1 0 = some c) : fX6_countParts a z = gX6_countParts C S := by
  unfold fX6_countParts gX6_countParts
  refine eo (isO_rd hR) ?_
  exact efX6_countParts_6 hR hC hl FU (0 : Int32) (0 : Int32) (0 : Int32)
def gbX6_largestPart_4 (k4 : Int32 → Int32 → Option (Int32)) (C : SV) (l1 : Int32) (l2 : Int32) (S : SV) : Option (Int32) :=
  if (C.1 0) ≤ l2 then (
    some l1
  ) else (
    (gX6_partOf C l2 S).bind fun x18 =>
    nm (imax l1 (fJ6_bitCount_0f7a4 x18)) fun v27 =>
    nm (l2 + (1 : Int32)) fun v28 =>
    k4 v27 v28
  )
set_option maxRecDepth 100000 in
theorem ebX6_largestPart_4 {z : AH} {a : Nat} {ρ : RV} {S : SV} (hR : RD 5 a ρ S z) {c : Nat} {ρC : RV} {C : SV} (hC : RD 0 c ρC C z) (hl : ρ.1 0 = some c) {k4 : Nat → Int32 → Int32 → Option (Int32)} {k4' : Int32 → Int32 → Option (Int32)} (hk4 : ∀ (l1 : Int32) (l2 : Int32), k4 a l1 l2 = k4' l1 l2) (l1 : Int32) (l2 : Int32) : bX6_largestPart_4 k4 a l1 l2 z = gbX6_largestPart_4 k4' C l1 l2 S := by
  unfold bX6_largestPart_4 gbX6_largestPart_4
  refine sb ((gR_rd hR rfl).trans hl) ?_
  refine sb (gI_rd hC rfl) ?_
  refine ei0 (fun _ => ?_) (fun _ => ?_)
  · skip
    rfl
  · skip
    refine eb0 (eX6_partOf (ρ := ρ) hR hC hl l2) (fun x18 => ?_)
    refine en0 (fun v27 => ?_)
    refine en0 (fun v28 => ?_)
    exact hk4 v27 v28
def gfX6_largestPart_4 (C : SV) (S : SV) : Nat → Int32 → Int32 → Option (Int32)
  | 0, _, _ => none
  | n + 1, l1, l2 => gbX6_largestPart_4 (gfX6_largestPart_4 C S n) C l1 l2 S
theorem efX6_largestPart_4 {z : AH} {a : Nat} {ρ : RV} {S : SV} (hR : RD 5 a ρ S z) {c : Nat} {ρC : RV} {C : SV} (hC : RD 0 c ρC C z) (hl : ρ.1 0 = some c) : ∀ (n : Nat) (l1 : Int32) (l2 : Int32), fX6_largestPart_4 z n a l1 l2 = gfX6_largestPart_4 C S n l1 l2 := by
  intro n
  induction n with
  | zero => intros; rfl
  | succ n ih => intro l1 l2; exact ebX6_largestPart_4 hR hC hl (fun l1 l2 => ih l1 l2) l1 l2
def gX6_largestPart (C : SV) (S : SV) : Option (Int32) :=
  gfX6_largestPart_4 C S FU (0 : Int32) (0 : Int32)
set_option maxRecDepth 100000 in
theorem eX6_largestPart {z : AH} {a : Nat} {ρ : RV} {S : SV} (hR : RD 5 a ρ S z) {c : Nat} {ρC : RV} {C : SV} (hC : RD 0 c ρC C z) (hl : ρ.1 0 = some c) : fX6_largestPart a z = gX6_largestPart C S := by
  unfold fX6_largestPart gX6_largestPart
  refine eo (isO_rd hR) ?_
  exact efX6_largestPart_4 hR hC hl FU (0 : Int32) (0 : Int32)
def gbX7_addWord_3 (k3 : Int32 → Int32 → SV → Option SV) (l1 : Int32) (l2 : Int32) (S : SV) : Option SV :=
  if l2 < (0 : Int32) then (
    some S
  ) else (
    if (S.1 1) < (0 : Int32) then (
      nm (l2 + (-8 : Int32)) fun v47 =>
      k3 l1 v47 S
    ) else (
      if (600 : Int32) ≤ (S.1 1) then (
        nm (l2 + (-8 : Int32)) fun v47 =>
        k3 l1 v47 S
      ) else (
        (wA 0 600 S (S.1 1) (vp_nar .byte (Int8.toInt32 (Int32.toInt8 (ush l1 l2))))).bind fun S36 =>
        nm (wI S36 1 ((S36.1 1) + (1 : Int32))) fun S44 =>
        nm (l2 + (-8 : Int32)) fun v47 =>
        k3 l1 v47 S44
      )
    )
  )
set_option maxRecDepth 100000 in
theorem ebX7_addWord_3 {z : AH} {a : Nat} {ρ : RV} (hz : a + szV 6 ≤ z.length) {k3 : Nat → Int32 → Int32 → AH → Option AH} {k3' : Int32 → Int32 → SV → Option SV} (hk3 : ∀ (l1 : Int32) (l2 : Int32) (S : SV), k3 a l1 l2 (wr 6 a ρ S z) = (k3' l1 l2 S).map (fun S => wr 6 a ρ S z)) (l1 : Int32) (l2 : Int32) (S : SV) : bX7_addWord_3 k3 a l1 l2 (wr 6 a ρ S z) = (gbX7_addWord_3 k3' l1 l2 S).map (fun S => wr 6 a ρ S z) := by
  unfold bX7_addWord_3 gbX7_addWord_3
  refine ei (fun _ => ?_) (fun _ => ?_)
  · skip
    rfl
  · skip
    refine sb (gI_rd (rd_wr hz) rfl) ?_
    refine ei (fun _ => ?_) (fun _ => ?_)
    · skip
      refine en (fun v47 => ?_)
      exact hk3 l1 v47 S
    · skip
      refine sb (gI_rd (rd_wr hz) rfl) ?_
      refine ei (fun _ => ?_) (fun _ => ?_)
      · skip
        refine en (fun v47 => ?_)
        exact hk3 l1 v47 S
      · skip
        refine sb (gN_rd (rd_wr hz) rfl (Or.inr (Or.inl rfl))) ?_
        refine sb (gI_rd (rd_wr hz) rfl) ?_
        refine em (f := (fun S => wr 6 a ρ S z)) (stI_rd rkOk6 hz (k := 0) rfl rfl (by decide) 1 rfl (by decide) _ _) (fun S36 => ?_)
        refine sb (gI_rd (rd_wr hz) rfl) ?_
        refine ep (f := (fun S => wr 6 a ρ S z)) (pF_int hz rfl _) (fun S44 => ?_)
        refine en (fun v47 => ?_)
        exact hk3 l1 v47 S44
def gfX7_addWord_3 : Nat → Int32 → Int32 → SV → Option SV
  | 0, _, _, _ => none
  | n + 1, l1, l2, S => gbX7_addWord_3 (gfX7_addWord_3 n) l1 l2 S
theorem efX7_addWord_3 {z : AH} {a : Nat} {ρ : RV} (hz : a + szV 6 ≤ z.length) : ∀ (n : Nat) (l1 : Int32) (l2 : Int32) (S : SV), fX7_addWord_3 n a l1 l2 (wr 6 a ρ S z) = (gfX7_addWord_3 n l1 l2 S).map (fun S => wr 6 a ρ S z) := by
  intro n
  induction n with
  | zero => intros; rfl
  | succ n ih => intro l1 l2 S; exact ebX7_addWord_3 hz (fun l1 l2 S => ih l1 l2 S) l1 l2 S
def gX7_addWord (l1 : Int32) (S : SV) : Option SV :=
  gfX7_addWord_3 FU l1 (24 : Int32) S
set_option maxRecDepth 100000 in
theorem eX7_addWord {z : AH} {a : Nat} {ρ : RV} (hz : a + szV 6 ≤ z.length) (l1 : Int32) (S : SV) : fX7_addWord a l1 (wr 6 a ρ S z) = (gX7_addWord l1 S).map (fun S => wr 6 a ρ S z) := by
  unfold fX7_addWord gX7_addWord
  refine eo (isO_rd (rd_wr hz)) ?_
  exact efX7_addWord_3 hz FU l1 (24 : Int32) S
def gX7_sizeOf (l1 : Int32) (S : SV) : Option (Int32) :=
  (gX9_pick 4 (S.2.1 4) (4 : Int32) l1).bind fun x6 =>
  some x6
set_option maxRecDepth 100000 in
theorem eX7_sizeOf {z : AH} {a : Nat} {ρ : RV} {S : SV} (hR : RD 6 a ρ S z) (l1 : Int32) : fX7_sizeOf a l1 z = gX7_sizeOf l1 S := by
  unfold fX7_sizeOf gX7_sizeOf
  refine eo (isO_rd hR) ?_
  refine sb (gN_rd hR rfl (Or.inl rfl)) ?_
  refine eb0 (eX9_pick (rw_rd hR (k := 4) rfl rfl (by decide) 0 rfl (by decide)) (4 : Int32) l1) (fun x6 => ?_)
  rfl
def gX7_slotFor (l1 : Int32) (l2 : Int32) (S : SV) : Option (Int32) :=
  (gX7_sizeOf l1 S).bind fun x2 =>
  if l2 = (-1 : Int32) then (
    if (2 : Int32) ≤ x2 then (
      some (-2 : Int32)
    ) else (
      some x2
    )
  ) else (
    if l2 < (0 : Int32) then (
      some (-2 : Int32)
    ) else (
      if x2 ≤ l2 then (
        some (-2 : Int32)
      ) else (
        some l2
      )
    )
  )
set_option maxRecDepth 100000 in
theorem eX7_slotFor {z : AH} {a : Nat} {ρ : RV} {S : SV} (hR : RD 6 a ρ S z) (l1 : Int32) (l2 : Int32) : fX7_slotFor a l1 l2 z = gX7_slotFor l1 l2 S := by
  unfold fX7_slotFor gX7_slotFor
  refine eo (isO_rd hR) ?_
  refine eb0 (eX7_sizeOf hR l1) (fun x2 => ?_)
  refine ei0 (fun _ => ?_) (fun _ => ?_)
  · skip
    refine ei0 (fun _ => ?_) (fun _ => ?_)
    · skip
      rfl
    · skip
      rfl
  · skip
    refine ei0 (fun _ => ?_) (fun _ => ?_)
    · skip
      rfl
    · skip
      refine ei0 (fun _ => ?_) (fun _ => ?_)
      · skip
        rfl
      · skip
        rfl
def gX7_grow (l1 : Int32) (l2 : Int32) (S : SV) : Option SV :=
  (rA 4 (S.2.1 4) l1).bind fun x6 =>
  if l2 = x6 then (
    (rA 4 (S.2.1 4) l1).bind fun x16 =>
    (wA 4 4 S l1 (x16 + (1 : Int32))).bind fun S19 =>
    some S19
  ) else (
    some S
  )
set_option maxRecDepth 100000 in
theorem eX7_grow {z : AH} {a : Nat} {ρ : RV} (hz : a + szV 6 ≤ z.length) (l1 : Int32) (l2 : Int32) (S : SV) : fX7_grow a l1 l2 (wr 6 a ρ S z) = (gX7_grow l1 l2 S).map (fun S => wr 6 a ρ S z) := by
  unfold fX7_grow gX7_grow
  refine eo (isO_rd (rd_wr hz)) ?_
  refine sb (gN_rd (rd_wr hz) rfl (Or.inl rfl)) ?_
  refine eb (ixI_rd (rd_wr hz) (k := 4) rfl rfl (by decide) 0 rfl (by decide) _) (fun x6 => ?_)
  refine ei (fun _ => ?_) (fun _ => ?_)
  · skip
    refine sb (gN_rd (rd_wr hz) rfl (Or.inl rfl)) ?_
    refine eb (ixI_rd (rd_wr hz) (k := 4) rfl rfl (by decide) 0 rfl (by decide) _) (fun x16 => ?_)
    refine em (f := (fun S => wr 6 a ρ S z)) (stI_rd rkOk6 hz (k := 4) rfl rfl (by decide) 0 rfl (by decide) _ _) (fun S19 => ?_)
    rfl
  · skip
    rfl
def gX9_agree (l1 : Int32) (l2 : Int32) (l3 : Int32) (l4 : Int32) (l5 : Int32) (S : SV) : Option (Int32) :=
  if (fX9_isNumber l1) = (0 : Int32) then (
    some (-1 : Int32)
  ) else (
    if (fX9_isNumber l2) = (0 : Int32) then (
      some (-1 : Int32)
    ) else (
      if (fX9_isNumber l3) = (0 : Int32) then (
        some (-1 : Int32)
      ) else (
        if l4 < (0 : Int32) then (
          some (-1 : Int32)
        ) else (
          if l4 ≤ (9 : Int32) then (
            nm (iabs (l1 - l2)) fun v41 =>
            nm (iabs (l1 - l3)) fun v49 =>
            nm (iabs (l2 - l3)) fun v57 =>
            nm (imin v41 (imin v49 v57)) fun v71 =>
            if v71 ≤ l4 then (
              if v41 = v71 then (
                if l5 = (0 : Int32) then (
                  some (0 : Int32)
                ) else (
                  some ((l1 + l2) / (2 : Int32))
                )
              ) else (
                if v49 = v71 then (
                  if l5 = (0 : Int32) then (
                    some (1 : Int32)
                  ) else (
                    some ((l1 + l3) / (2 : Int32))
                  )
                ) else (
                  if l5 = (0 : Int32) then (
                    some (2 : Int32)
                  ) else (
                    some ((l2 + l3) / (2 : Int32))
                  )
                )
              )
            ) else (
              some (-1 : Int32)
            )
          ) else (
            some (-1 : Int32)
          )
        )
      )
    )
  )
set_option maxRecDepth 100000 in
theorem eX9_agree {z : AH} {a : Nat} {ρ : RV} {S : SV} (hR : RD 8 a ρ S z) (l1 : Int32) (l2 : Int32) (l3 : Int32) (l4 : Int32) (l5 : Int32) : fX9_agree a l1 l2 l3 l4 l5 z = gX9_agree l1 l2 l3 l4 l5 S := by
  unfold fX9_agree gX9_agree
  refine eo (isO_rd hR) ?_
  refine ei0 (fun _ => ?_) (fun _ => ?_)
  · skip
    rfl
  · skip
    refine ei0 (fun _ => ?_) (fun _ => ?_)
    · skip
      rfl
    · skip
      refine ei0 (fun _ => ?_) (fun _ => ?_)
      · skip
        rfl
      · skip
        refine ei0 (fun _ => ?_) (fun _ => ?_)
        · skip
          rfl
        · skip
          refine ei0 (fun _ => ?_) (fun _ => ?_)
          · skip
            refine en0 (fun v41 => ?_)
            refine en0 (fun v49 => ?_)
            refine en0 (fun v57 => ?_)
            refine en0 (fun v71 => ?_)
            refine ei0 (fun _ => ?_) (fun _ => ?_)
            · skip
              refine ei0 (fun _ => ?_) (fun _ => ?_)
              · skip
                refine ei0 (fun _ => ?_) (fun _ => ?_)
                · skip
                  rfl
                · skip
                  rfl
              · skip
                refine ei0 (fun _ => ?_) (fun _ => ?_)
                · skip
                  refine ei0 (fun _ => ?_) (fun _ => ?_)
                  · skip
                    rfl
                  · skip
                    rfl
                · skip
                  refine ei0 (fun _ => ?_) (fun _ => ?_)
                  · skip
                    rfl
                  · skip
                    rfl
            · skip
              rfl
          · skip
            rfl
