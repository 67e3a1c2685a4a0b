theorem dX8_tryFrom_97 : decode cX8_tryFrom 97 = .ok (.iconst 1, 1) := by decide +kernel
theorem dX8_tryFrom_98 : decode cX8_tryFrom 98 = .ok (.iadd, 1) := by decide +kernel
theorem dX8_tryFrom_99 : decode cX8_tryFrom 99 = .ok (.iload_n 2, 1) := by decide +kernel
theorem dX8_tryFrom_100 : decode cX8_tryFrom 100 = .ok (.iconst 1, 1) := by decide +kernel
theorem dX8_tryFrom_101 : decode cX8_tryFrom 101 = .ok (.iadd, 1) := by decide +kernel
theorem dX8_tryFrom_102 : decode cX8_tryFrom 102 = .ok (.invokestatic 50, 3) := by decide +kernel
theorem dX8_tryFrom_105 : decode cX8_tryFrom 105 = .ok (.iinc 5 1, 3) := by decide +kernel
theorem dX8_tryFrom_108 : decode cX8_tryFrom 108 = .ok (.goto (-65), 3) := by decide +kernel
theorem dX8_tryFrom_111 : decode cX8_tryFrom 111 = .ok (.aload 4, 2) := by decide +kernel
theorem dX8_tryFrom_113 : decode cX8_tryFrom 113 = .ok (.aload_n 3, 1) := by decide +kernel
theorem dX8_tryFrom_114 : decode cX8_tryFrom 114 = .ok (.invokevirtual 81, 3) := by decide +kernel
theorem dX8_tryFrom_117 : decode cX8_tryFrom 117 = .ok (.aload_n 0, 1) := by decide +kernel
theorem dX8_tryFrom_118 : decode cX8_tryFrom 118 = .ok (.getfield 26, 3) := by decide +kernel
theorem dX8_tryFrom_121 : decode cX8_tryFrom 121 = .ok (.iload_n 1, 1) := by decide +kernel
theorem dX8_tryFrom_122 : decode cX8_tryFrom 122 = .ok (.bipush 8, 2) := by decide +kernel
theorem dX8_tryFrom_124 : decode cX8_tryFrom 124 = .ok (.iastore, 1) := by decide +kernel
theorem dX8_tryFrom_125 : decode cX8_tryFrom 125 = .ok (.aload_n 0, 1) := by decide +kernel
theorem dX8_tryFrom_126 : decode cX8_tryFrom 126 = .ok (.iload_n 1, 1) := by decide +kernel
theorem dX8_tryFrom_127 : decode cX8_tryFrom 127 = .ok (.iconst 1, 1) := by decide +kernel
theorem dX8_tryFrom_128 : decode cX8_tryFrom 128 = .ok (.iadd, 1) := by decide +kernel
theorem dX8_tryFrom_129 : decode cX8_tryFrom 129 = .ok (.iload_n 2, 1) := by decide +kernel
theorem dX8_tryFrom_130 : decode cX8_tryFrom 130 = .ok (.invokestatic 50, 3) := by decide +kernel
theorem dX8_tryFrom_133 : decode cX8_tryFrom 133 = .ok (.return_, 1) := by decide +kernel
theorem flX8_74 : FL RX8 74 5 11 := ⟨_, rfl, Nat.le_of_ble_eq_true rfl, tw 366 (by decide +kernel) rfl, rfl⟩
theorem cdX6_look : Cond.code yX6_look cX6_look 6 (some .boolean) ∈ tz := tc4 7 rfl rfl
theorem lVX8_85 : LV RX8 85 yX6_look cX6_look 6 (some .boolean) 2 := ⟨tw 936 (by decide +kernel) rfl, tw 844 (by decide +kernel) rfl, tw 845 (by decide +kernel) rfl, tw 124 (by decide +kernel) rfl, cdX6_look, ⟨by decide +kernel, by decide +kernel, by decide +kernel⟩⟩
theorem cdX8_judge : Cond.code yX8_judge cX8_judge 6 none ∈ tz := tc4 79 rfl rfl
theorem lVX8_64 : LV RX8 64 yX8_judge cX8_judge 6 none 2 := ⟨tw 915 (by decide +kernel) rfl, tw 917 (by decide +kernel) rfl, tw 23 (by decide +kernel) rfl, tw 125 (by decide +kernel) rfl, cdX8_judge, ⟨by decide +kernel, by decide +kernel, by decide +kernel⟩⟩
theorem flX8_13 : FL RX8 13 7 0 := ⟨_, rfl, Nat.le_of_ble_eq_true rfl, tw 413 (by decide +kernel) rfl, rfl⟩
theorem flX8_61 : FL RX8 61 0 14 := ⟨_, rfl, Nat.le_of_ble_eq_true rfl, tw 187 (by decide +kernel) rfl, rfl⟩
abbrev rmX8_tryFrom_0 : Room := { frames := 4, cells := 0, slots := 0, locals := 126 }
def bX8_tryFrom_0_43 (k43 : Nat → Int32 → Int32 → Nat → Nat → Int32 → AH → Option AH) (a0 : Nat) (l1 : Int32) (l2 : Int32) (a3 : Nat) (a4 : Nat) (l5 : Int32) (z : AH) : Option AH :=
  (gN 5 0 z a3).bind fun b46 =>
  (gI 0 0 z b46).bind fun x49 =>
  if x49 ≤ l5 then (
    (fX6_copy a4 a3 z).bind fun z114 =>
    (gN 7 2 z114 a0).bind fun b118 =>
    (stI 0 z114 b118 l1 (8 : Int32)).bind fun z124 =>
    none
  ) else (
    (gI 5 6 z a3).bind fun x56 =>
    (gI 5 11 z a3).bind fun x60 =>
    if (fX9_hasBit (x56 ||| x60) l5) = (0 : Int32) then (
      (fX6_copy a4 a3 z).bind fun z75 =>
      b2 (fX6_look a4 l1 l5 z75) fun x83 z83 =>
      (gN 7 2 z83 a0).bind fun b88 =>
      (stI 0 z83 b88 l1 l5).bind fun z94 =>
      none
    ) else (
      nm (l5 + (1 : Int32)) fun v105 =>
      k43 a0 l1 l2 a3 a4 v105 z
    )
  )
set_option maxHeartbeats 4000000 in
set_option maxRecDepth 100000 in
theorem kbX8_tryFrom_0_43 {p : Program} {l : Launch} {e : Env} {s : State} {m : MethodId} {args : Array Value} {below : List Frame} {meth : Method} {c : Code} {G : GW} {z' : AH} (C : Cx p m c cX8_tryFrom 6 s args RX8 G) (hlk : meth.locks = false) (hr : meth.sig.returnType = none) (k43 : Nat → Int32 → Int32 → Nat → Nat → Int32 → AH → Option AH) (hk43 : ∀ (a0 : Nat) (l1 : Int32) (l2 : Int32) (a3 : Nat) (a4 : Nat) (l5 : Int32) (z : AH) (H : Heap) (locs : List Loc) (ls : Array Slot), k43 a0 l1 l2 a3 a4 l5 z = some z' → Wb G z s H locs → lv_has ls 6 [(0, .ref (gB G + a0)), (1, .int l1), (2, .int l2), (3, .ref (gB G + a3)), (4, .ref (gB G + a4)), (5, .int l5)] → W p l e rmX8_tryFrom_0 s m args below meth c H locs 0 0 (MQ below (Qv G z') args s 0 0 (AA G)) (F0 m 43 ls [])) (a0 : Nat) (l1 : Int32) (l2 : Int32) (a3 : Nat) (a4 : Nat) (l5 : Int32) {z : AH} {H : Heap} {locs : List Loc} {ls : Array Slot} (h : bX8_tryFrom_0_43 k43 a0 l1 l2 a3 a4 l5 z = some z') (hW : Wb G z s H locs) (hl : lv_has ls 6 [(0, .ref (gB G + a0)), (1, .int l1), (2, .int l2), (3, .ref (gB G + a3)), (4, .ref (gB G + a4)), (5, .int l5)]) : W p l e rmX8_tryFrom_0 s m args below meth c H locs 0 0 (MQ below (Qv G z') args s 0 0 (AA G)) (F0 m 43 ls []) := by
  have hx := C.1
  have hb := C.2.1
  unfold bX8_tryFrom_0_43 at h
  refine lv_iload hx hb dX8_tryFrom_43 (lv_at hl 5 rfl) ?_
  refine lv_aload_n hx hb dX8_tryFrom_45 rfl (lv_at hl 3 rfl) ?_
  obtain ⟨b46, hg, h⟩ := ob h
  refine wz_gN C hW flX8_58 hg dX8_tryFrom_46 ?_
  obtain ⟨x49, hg, h⟩ := ob h
  refine wz_gI C hW flX8_68 hg dX8_tryFrom_49 ?_
  refine lv_icmp_ge (tgt := 111) hx hb dX8_tryFrom_52 (by decide) (fun c52 => ?_) (fun c52 => ?_)
  · have h := ite_t c52 h
    refine lv_aload hx hb dX8_tryFrom_111 (lv_at hl 4 rfl) ?_
    refine lv_aload_n hx hb dX8_tryFrom_113 rfl (lv_at hl 3 rfl) ?_
    obtain ⟨z114, hq, h⟩ := ob h
    refine wz_rV (c' := 0) (s' := 0) hW (wz_runV (rest := []) C hW lVX8_81 (ck hq).1 rfl (ctX6_copy l G a4 a3 z hq) ⟨⟨rfl, rfl⟩, Nat.le_of_ble_eq_true rfl, Nat.le_of_ble_eq_true rfl⟩ rfl hl.1 rfl (Nat.le_of_ble_eq_true rfl) dX8_tryFrom_114 ⟨Nat.le_of_ble_eq_true rfl, Nat.le_of_ble_eq_true rfl⟩) rfl rfl (fun H locs hW => ?_)
    refine lv_aload_n hx hb dX8_tryFrom_117 rfl (lv_at hl 0 rfl) ?_
    obtain ⟨b118, hg, h⟩ := ob h
    refine wz_gN C hW flX8_26 hg dX8_tryFrom_118 ?_
    refine lv_iload_n hx hb dX8_tryFrom_121 rfl (lv_at hl 1 rfl) ?_
    refine lv_bipush (v := 8) hx hb dX8_tryFrom_122 (by decide) ?_
    obtain ⟨z124, hg, h⟩ := ob h
    refine wz_ast C hW hg dX8_tryFrom_124 (fun H locs hW => ?_)
    refine lv_aload_n hx hb dX8_tryFrom_125 rfl (lv_at hl 0 rfl) ?_
    refine lv_iload_n hx hb dX8_tryFrom_126 rfl (lv_at hl 1 rfl) ?_
    refine lv_iconst (v := 1) hx hb dX8_tryFrom_127 (by decide) ?_
    refine lv_iadd hx hb dX8_tryFrom_128 ?_
    refine lv_iload_n hx hb dX8_tryFrom_129 rfl (lv_at hl 2 rfl) ?_
    cases h
  · have h := ite_f c52 h
    refine lv_aload_n hx hb dX8_tryFrom_55 rfl (lv_at hl 3 rfl) ?_
    obtain ⟨x56, hg, h⟩ := ob h
    refine wz_gI C hW flX8_71 hg dX8_tryFrom_56 ?_
    refine lv_aload_n hx hb dX8_tryFrom_59 rfl (lv_at hl 3 rfl) ?_
    obtain ⟨x60, hg, h⟩ := ob h
    refine wz_gI C hW flX8_74 hg dX8_tryFrom_60 ?_
    refine lv_ior hx hb dX8_tryFrom_63 ?_
    refine lv_iload hx hb dX8_tryFrom_64 (lv_at hl 5 rfl) ?_
    refine wz_rI (c' := 0) (s' := 0) hW (wz_runN (rest := []) C hW lNX8_77 (ctX9_hasBit l G (x56 ||| x60) l5 z rfl) ⟨⟨rfl, rfl⟩, Nat.le_of_ble_eq_true rfl, Nat.le_of_ble_eq_true rfl⟩ rfl hl.1 rfl (Nat.le_of_ble_eq_true rfl) dX8_tryFrom_66 ⟨Nat.le_of_ble_eq_true rfl, Nat.le_of_ble_eq_true rfl⟩) rfl rfl (fun H locs hW => ?_)
    refine lv_if_ne (tgt := 105) hx hb dX8_tryFrom_69 (by decide) (fun c69 => ?_) (fun c69 => ?_)
    · have h := ite_f c69 h
      obtain ⟨v105, ev105⟩ : ∃ y : Int32, y = (l5 + (1 : Int32)) := ⟨_, rfl⟩
      have h := nm_to h ev105
      refine lv_iinc (v := v105) (lv' := [(5, .int v105), (0, .ref (gB G + a0)), (1, .int l1), (2, .int l2), (3, .ref (gB G + a3)), (4, .ref (gB G + a4))]) hx hb dX8_tryFrom_105 hl (k := 5) rfl (by rw [ev105]; rfl) (by decide) rfl (fun ls hl => ?_)
      refine lv_goto (tgt := 43) hx hb dX8_tryFrom_108 (by decide) ?_
      exact hk43 a0 l1 l2 a3 a4 v105 z _ _ _ h hW (lv_sub hl [1, 2, 3, 4, 5, 0] rfl)
    · have h := ite_t c69 h
      refine lv_aload hx hb dX8_tryFrom_72 (lv_at hl 4 rfl) ?_
      refine lv_aload_n hx hb dX8_tryFrom_74 rfl (lv_at hl 3 rfl) ?_
      obtain ⟨z75, hq, h⟩ := ob h
      refine wz_rV (c' := 0) (s' := 0) hW (wz_runV (rest := []) C hW lVX8_81 (ck hq).1 rfl (ctX6_copy l G a4 a3 z hq) ⟨⟨rfl, rfl⟩, Nat.le_of_ble_eq_true rfl, Nat.le_of_ble_eq_true rfl⟩ rfl hl.1 rfl (Nat.le_of_ble_eq_true rfl) dX8_tryFrom_75 ⟨Nat.le_of_ble_eq_true rfl, Nat.le_of_ble_eq_true rfl⟩) rfl rfl (fun H locs hW => ?_)
      refine lv_aload hx hb dX8_tryFrom_78 (lv_at hl 4 rfl) ?_
      refine lv_iload_n hx hb dX8_tryFrom_80 rfl (lv_at hl 1 rfl) ?_
      refine lv_iload hx hb dX8_tryFrom_81 (lv_at hl 5 rfl) ?_
      obtain ⟨x83, z83, hq, h⟩ := ob2 h
      refine wz_rI (c' := 0) (s' := 0) hW (wz_runV (rest := []) C hW lVX8_85 (ck hq).1 rfl (ctX6_look l G a4 l1 l5 z75 hq) ⟨⟨rfl, rfl⟩, Nat.le_of_ble_eq_true rfl, Nat.le_of_ble_eq_true rfl⟩ rfl hl.1 rfl (Nat.le_of_ble_eq_true rfl) dX8_tryFrom_83 ⟨Nat.le_of_ble_eq_true rfl, Nat.le_of_ble_eq_true rfl⟩) rfl rfl (fun H locs hW => ?_)
      refine lv_pop hx hb dX8_tryFrom_86 rfl ?_
      refine lv_aload_n hx hb dX8_tryFrom_87 rfl (lv_at hl 0 rfl) ?_
      obtain ⟨b88, hg, h⟩ := ob h
      refine wz_gN C hW flX8_26 hg dX8_tryFrom_88 ?_
      refine lv_iload_n hx hb dX8_tryFrom_91 rfl (lv_at hl 1 rfl) ?_
      refine lv_iload hx hb dX8_tryFrom_92 (lv_at hl 5 rfl) ?_
      obtain ⟨z94, hg, h⟩ := ob h
      refine wz_ast C hW hg dX8_tryFrom_94 (fun H locs hW => ?_)
      refine lv_aload_n hx hb dX8_tryFrom_95 rfl (lv_at hl 0 rfl) ?_
      refine lv_iload_n hx hb dX8_tryFrom_96 rfl (lv_at hl 1 rfl) ?_
      refine lv_iconst (v := 1) hx hb dX8_tryFrom_97 (by decide) ?_
      refine lv_iadd hx hb dX8_tryFrom_98 ?_
      refine lv_iload_n hx hb dX8_tryFrom_99 rfl (lv_at hl 2 rfl) ?_
      refine lv_iconst (v := 1) hx hb dX8_tryFrom_100 (by decide) ?_
      refine lv_iadd hx hb dX8_tryFrom_101 ?_
      cases h
def fX8_tryFrom_0_43 : Nat → Nat → Int32 → Int32 → Nat → Nat → Int32 → AH → Option AH
  | 0, _, _, _, _, _, _, _ => none
  | n + 1, a0, l1, l2, a3, a4, l5, z => bX8_tryFrom_0_43 (fX8_tryFrom_0_43 n) a0 l1 l2 a3 a4 l5 z
theorem klX8_tryFrom_0_43 {p : Program} {l : Launch} {e : Env} {s : State} {m : MethodId} {args : Array Value} {below : List Frame} {meth : Method} {c : Code} {G : GW} {z' : AH} (C : Cx p m c cX8_tryFrom 6 s args RX8 G) (hlk : meth.locks = false) (hr : meth.sig.returnType = none) : ∀ (n : Nat) (a0 : Nat) (l1 : Int32) (l2 : Int32) (a3 : Nat) (a4 : Nat) (l5 : Int32) (z : AH) (H : Heap) (locs : List Loc) (ls : Array Slot), fX8_tryFrom_0_43 n a0 l1 l2 a3 a4 l5 z = some z' → Wb G z s H locs → lv_has ls 6 [(0, .ref (gB G + a0)), (1, .int l1), (2, .int l2), (3, .ref (gB G + a3)), (4, .ref (gB G + a4)), (5, .int l5)] → W p l e rmX8_tryFrom_0 s m args below meth c H locs 0 0 (MQ below (Qv G z') args s 0 0 (AA G)) (F0 m 43 ls []) := by
  intro n
  induction n with
  | zero => intro a0 l1 l2 a3 a4 l5 z H locs ls h; have h : (none : Option AH) = some z' := h; cases h
  | succ n ih => intro a0 l1 l2 a3 a4 l5 z H locs ls h hW hl; exact kbX8_tryFrom_0_43 C hlk hr (fX8_tryFrom_0_43 n) (fun a0 l1 l2 a3 a4 l5 z H locs ls h hW hl => ih a0 l1 l2 a3 a4 l5 z H locs ls h hW hl) a0 l1 l2 a3 a4 l5 h hW hl
def bX8_tryFrom_0_23 (a0 : Nat) (l2 : Int32) (a3 : Nat) (z : AH) : Option AH :=
  (fX8_judge a0 a3 l2 z).bind fun z26 =>
  some z26
set_option maxHeartbeats 4000000 in
set_option maxRecDepth 100000 in
theorem kbX8_tryFrom_0_23 {p : Program} {l : Launch} {e : Env} {s : State} {m : MethodId} {args : Array Value} {below : List Frame} {meth : Method} {c : Code} {G : GW} {z' : AH} (C : Cx p m c cX8_tryFrom 6 s args RX8 G) (hlk : meth.locks = false) (hr : meth.sig.returnType = none) (a0 : Nat) (l2 : Int32) (a3 : Nat) {z : AH} {H : Heap} {locs : List Loc} {ls : Array Slot} (h : bX8_tryFrom_0_23 a0 l2 a3 z = some z') (hW : Wb G z s H locs) (hl : lv_has ls 6 [(0, .ref (gB G + a0)), (2, .int l2), (3, .ref (gB G + a3))]) : W p l e rmX8_tryFrom_0 s m args below meth c H locs 0 0 (MQ below (Qv G z') args s 0 0 (AA G)) (F0 m 23 ls []) := by
  have hx := C.1
  have hb := C.2.1
  unfold bX8_tryFrom_0_23 at h
  refine lv_aload_n hx hb dX8_tryFrom_23 rfl (lv_at hl 0 rfl) ?_
  refine lv_aload_n hx hb dX8_tryFrom_24 rfl (lv_at hl 2 rfl) ?_
  refine lv_iload_n hx hb dX8_tryFrom_25 rfl (lv_at hl 1 rfl) ?_
  obtain ⟨z26, hq, h⟩ := ob h
  refine wz_rV (c' := 0) (s' := 0) hW (wz_runV (rest := []) C hW lVX8_64 (ck hq).1 rfl (ctX8_judge l G a0 a3 l2 z hq) ⟨⟨rfl, rfl⟩, Nat.le_of_ble_eq_true rfl, Nat.le_of_ble_eq_true rfl⟩ rfl hl.1 rfl (Nat.le_of_ble_eq_true rfl) dX8_tryFrom_26 ⟨Nat.le_of_ble_eq_true rfl, Nat.le_of_ble_eq_true rfl⟩) rfl rfl (fun H locs hW => ?_)
  exact wz_vretE C hlk hr (Option.some.inj h) hW dX8_tryFrom_29
def fX8_tryFrom_0 (a0 : Nat) (l1 : Int32) (l2 : Int32) (z : AH) : Option AH :=
  (gN 7 0 z a0).bind fun b1 =>
  (ixN 5 z b1 l1).bind fun b5 =>
  (gN 5 0 z b5).bind fun b9 =>
  (gI 0 14 z b9).bind fun x12 =>
  if x12 ≤ l1 then (
    bX8_tryFrom_0_23 a0 l2 b5 z
  ) else (
    if l1 < (4 : Int32) then (
      (gN 7 0 z a0).bind fun b31 =>
      (ixN 5 z b31 (l1 + (1 : Int32))).bind fun b37 =>
      fX8_tryFrom_0_43 FU a0 l1 l2 b5 b37 (0 : Int32) z
    ) else (
      bX8_tryFrom_0_23 a0 l2 b5 z
    )
  )
set_option maxHeartbeats 4000000 in
set_option maxRecDepth 100000 in
theorem ctX8_tryFrom_0 (l : Launch) (G : GW) (a0 : Nat) (l1 : Int32) (l2 : Int32) (z : AH) {z' : AH} (h : fX8_tryFrom_0 a0 l1 l2 z = some z') : Met l yX8_tryFrom (wy yX8_tryFrom cX8_tryFrom 6 none) rmX8_tryFrom_0 (Pz G [.ref (gB G + a0), .int l1, .int l2] z) (Qv G z') 0 0 (AA G) := by
  refine wz_ent (own := RX8) (by decide +kernel) rfl (fun p e s m below meth c ls C hlk hr hin hW hl => ?_) (Nat.le_of_ble_eq_true rfl)
  have hl : lv_has ls 6 [(0, .ref (gB G + a0)), (1, .int l1), (2, .int l2)] := hl
  have hx := C.1
  have hb := C.2.1
  unfold fX8_tryFrom_0 at h
  refine lv_aload_n hx hb dX8_tryFrom_0 rfl (lv_at hl 0 rfl) ?_
  obtain ⟨b1, hg, h⟩ := ob h
  refine wz_gN C hW flX8_13 hg dX8_tryFrom_1 ?_
  refine lv_iload_n hx hb dX8_tryFrom_4 rfl (lv_at hl 1 rfl) ?_
  obtain ⟨b5, hg, h⟩ := ob h
  refine wz_nld (Or.inr (Or.inr (Or.inl rfl))) C hW hg dX8_tryFrom_5 ?_
  refine lv_astore_n (lv' := [(3, .ref (gB G + b5)), (0, .ref (gB G + a0)), (1, .int l1), (2, .int l2)]) hx hb dX8_tryFrom_6 rfl hl (by decide) rfl (fun ls hl => ?_)
  refine lv_iload_n hx hb dX8_tryFrom_7 rfl (lv_at hl 2 rfl) ?_
  refine lv_aload_n hx hb dX8_tryFrom_8 rfl (lv_at hl 0 rfl) ?_
  obtain ⟨b9, hg, h⟩ := ob h
  refine wz_gN C hW flX8_58 hg dX8_tryFrom_9 ?_
  obtain ⟨x12, hg, h⟩ := ob h
  refine wz_gI C hW flX8_61 hg dX8_tryFrom_12 ?_
  refine lv_icmp_ge (tgt := 23) hx hb dX8_tryFrom_15 (by decide) (fun c15 => ?_) (fun c15 => ?_)
  · have h := ite_t c15 h
    exact kbX8_tryFrom_0_23 C hlk hr a0 l2 b5 h hW (lv_sub hl [1, 3, 0] rfl)
  · have h := ite_f c15 h
    refine lv_iload_n hx hb dX8_tryFrom_18 rfl (lv_at hl 2 rfl) ?_
    refine lv_iconst (v := 4) hx hb dX8_tryFrom_19 (by decide) ?_
    refine lv_icmp_lt (tgt := 30) hx hb dX8_tryFrom_20 (by decide) (fun c20 => ?_) (fun c20 => ?_)
    · have h := ite_t c20 h
      refine lv_aload_n hx hb dX8_tryFrom_30 rfl (lv_at hl 1 rfl) ?_
      obtain ⟨b31, hg, h⟩ := ob h
      refine wz_gN C hW flX8_13 hg dX8_tryFrom_31 ?_
      refine lv_iload_n hx hb dX8_tryFrom_34 rfl (lv_at hl 2 rfl) ?_
      refine lv_iconst (v := 1) hx hb dX8_tryFrom_35 (by decide) ?_
      refine lv_iadd hx hb dX8_tryFrom_36 ?_
      obtain ⟨b37, hg, h⟩ := ob h
      refine wz_nld (Or.inr (Or.inr (Or.inl rfl))) C hW hg dX8_tryFrom_37 ?_
      refine lv_astore (lv' := [(4, .ref (gB G + b37)), (3, .ref (gB G + b5)), (0, .ref (gB G + a0)), (1, .int l1), (2, .int l2)]) hx hb dX8_tryFrom_38 hl (by decide) rfl (fun ls hl => ?_)
      refine lv_iconst (v := 0) hx hb dX8_tryFrom_40 (by decide) ?_
      refine lv_istore (lv' := [(5, .int (0 : Int32)), (4, .ref (gB G + b37)), (3, .ref (gB G + b5)), (0, .ref (gB G + a0)), (1, .int l1), (2, .int l2)]) hx hb dX8_tryFrom_41 hl (by decide) rfl (fun ls hl => ?_)
      exact klX8_tryFrom_0_43 C hlk hr FU a0 l1 l2 b5 b37 (0 : Int32) z _ _ _ h hW (lv_sub hl [3, 4, 5, 2, 1, 0] rfl)
    · have h := ite_f c20 h
      exact kbX8_tryFrom_0_23 C hlk hr a0 l2 b5 h hW (lv_sub hl [1, 3, 0] rfl)
theorem cdX8_tryFrom : Cond.code yX8_tryFrom cX8_tryFrom 6 none ∈ tz := tc4 75 rfl rfl
theorem lTX8_50 : LT RX8 50 yX8_tryFrom cX8_tryFrom 6 none 3 := ⟨tw 912 (by decide +kernel) rfl, tw 913 (by decide +kernel) rfl, tw 125 (by decide +kernel) rfl, cdX8_tryFrom, ⟨by decide +kernel, by decide +kernel, by decide +kernel⟩⟩
abbrev rmX8_tryFrom_1 : Room := { frames := 5, cells := 0, slots := 0, locals := 151 }
def bX8_tryFrom_1_43 (k43 : Nat → Int32 → Int32 → Nat → Nat → Int32 → AH → Option AH) (a0 : Nat) (l1 : Int32) (l2 : Int32) (a3 : Nat) (a4 : Nat) (l5 : Int32) (z : AH) : Option AH :=
  (gN 5 0 z a3).bind fun b46 =>
  (gI 0 0 z b46).bind fun x49 =>
  if x49 ≤ l5 then (
    (fX6_copy a4 a3 z).bind fun z114 =>
    (gN 7 2 z114 a0).bind fun b118 =>
    (stI 0 z114 b118 l1 (8 : Int32)).bind fun z124 =>
    (fX8_tryFrom_0 a0 (l1 + (1 : Int32)) l2 z124).bind fun z130 =>
    some z130
  ) else (
    (gI 5 6 z a3).bind fun x56 =>
    (gI 5 11 z a3).bind fun x60 =>
    if (fX9_hasBit (x56 ||| x60) l5) = (0 : Int32) then (
      (fX6_copy a4 a3 z).bind fun z75 =>
      b2 (fX6_look a4 l1 l5 z75) fun x83 z83 =>
      (gN 7 2 z83 a0).bind fun b88 =>
      (stI 0 z83 b88 l1 l5).bind fun z94 =>
      (fX8_tryFrom_0 a0 (l1 + (1 : Int32)) (l2 + (1 : Int32)) z94).bind fun z102 =>
      nm (l5 + (1 : Int32)) fun v105 =>
      k43 a0 l1 l2 a3 a4 v105 z102
    ) else (
      nm (l5 + (1 : Int32)) fun v105 =>
      k43 a0 l1 l2 a3 a4 v105 z
    )
  )
set_option maxHeartbeats 4000000 in
set_option maxRecDepth 100000 in
theorem kbX8_tryFrom_1_43 {p : Program} {l : Launch} {e : Env} {s : State} {m : MethodId} {args : Array Value} {below : List Frame} {meth : Method} {c : Code} {G : GW} {z' : AH} (C : Cx p m c cX8_tryFrom 6 s args RX8 G) (hlk : meth.locks = false) (hr : meth.sig.returnType = none) (k43 : Nat → Int32 → Int32 → Nat → Nat → Int32 → AH → Option AH) (hk43 : ∀ (a0 : Nat) (l1 : Int32) (l2 : Int32) (a3 : Nat) (a4 : Nat) (l5 : Int32) (z : AH) (H : Heap) (locs : List Loc) (ls : Array Slot), k43 a0 l1 l2 a3 a4 l5 z = some z' → Wb G z s H locs → lv_has ls 6 [(0, .ref (gB G + a0)), (1, .int l1), (2, .int l2), (3, .ref (gB G + a3)), (4, .ref (gB G + a4)), (5, .int l5)] → W p l e rmX8_tryFrom_1 s m args below meth c H locs 0 0 (MQ below (Qv G z') args s 0 0 (AA G)) (F0 m 43 ls [])) (a0 : Nat) (l1 : Int32) (l2 : Int32) (a3 : Nat) (a4 : Nat) (l5 : Int32) {z : AH} {H : Heap} {locs : List Loc} {ls : Array Slot} (h : bX8_tryFrom_1_43 k43 a0 l1 l2 a3 a4 l5 z = some z') (hW : Wb G z s H locs) (hl : lv_has ls 6 [(0, .ref (gB G + a0)), (1, .int l1), (2, .int l2), (3, .ref (gB G + a3)), (4, .ref (gB G + a4)), (5, .int l5)]) : W p l e rmX8_tryFrom_1 s m args below meth c H locs 0 0 (MQ below (Qv G z') args s 0 0 (AA G)) (F0 m 43 ls []) := by
  have hx := C.1
  have hb := C.2.1
  unfold bX8_tryFrom_1_43 at h
  refine lv_iload hx hb dX8_tryFrom_43 (lv_at hl 5 rfl) ?_
  refine lv_aload_n hx hb dX8_tryFrom_45 rfl (lv_at hl 3 rfl) ?_
  obtain ⟨b46, hg, h⟩ := ob h
  refine wz_gN C hW flX8_58 hg dX8_tryFrom_46 ?_
  obtain ⟨x49, hg, h⟩ := ob h
  refine wz_gI C hW flX8_68 hg dX8_tryFrom_49 ?_
  refine lv_icmp_ge (tgt := 111) hx hb dX8_tryFrom_52 (by decide) (fun c52 => ?_) (fun c52 => ?_)
  · have h := ite_t c52 h
    refine lv_aload hx hb dX8_tryFrom_111 (lv_at hl 4 rfl) ?_
    refine lv_aload_n hx hb dX8_tryFrom_113 rfl (lv_at hl 3 rfl) ?_
    obtain ⟨z114, hq, h⟩ := ob h
    refine wz_rV (c' := 0) (s' := 0) hW (wz_runV (rest := []) C hW lVX8_81 (ck hq).1 rfl (ctX6_copy l G a4 a3 z hq) ⟨⟨rfl, rfl⟩, Nat.le_of_ble_eq_true rfl, Nat.le_of_ble_eq_true rfl⟩ rfl hl.1 rfl (Nat.le_of_ble_eq_true rfl) dX8_tryFrom_114 ⟨Nat.le_of_ble_eq_true rfl, Nat.le_of_ble_eq_true rfl⟩) rfl rfl (fun H locs hW => ?_)
    refine lv_aload_n hx hb dX8_tryFrom_117 rfl (lv_at hl 0 rfl) ?_
    obtain ⟨b118, hg, h⟩ := ob h
    refine wz_gN C hW flX8_26 hg dX8_tryFrom_118 ?_
    refine lv_iload_n hx hb dX8_tryFrom_121 rfl (lv_at hl 1 rfl) ?_
    refine lv_bipush (v := 8) hx hb dX8_tryFrom_122 (by decide) ?_
    obtain ⟨z124, hg, h⟩ := ob h
    refine wz_ast C hW hg dX8_tryFrom_124 (fun H locs hW => ?_)
    refine lv_aload_n hx hb dX8_tryFrom_125 rfl (lv_at hl 0 rfl) ?_
    refine lv_iload_n hx hb dX8_tryFrom_126 rfl (lv_at hl 1 rfl) ?_
    refine lv_iconst (v := 1) hx hb dX8_tryFrom_127 (by decide) ?_
    refine lv_iadd hx hb dX8_tryFrom_128 ?_
    refine lv_iload_n hx hb dX8_tryFrom_129 rfl (lv_at hl 2 rfl) ?_
    obtain ⟨z130, hq, h⟩ := ob h
    refine wz_rV (c' := 0) (s' := 0) hW (wz_runS (rest := []) C hW lTX8_50 (ctX8_tryFrom_0 l G a0 (l1 + (1 : Int32)) l2 z124 hq) ⟨⟨rfl, rfl⟩, Nat.le_of_ble_eq_true rfl, Nat.le_of_ble_eq_true rfl⟩ rfl hl.1 rfl (Nat.le_of_ble_eq_true rfl) dX8_tryFrom_130 ⟨Nat.le_of_ble_eq_true rfl, Nat.le_of_ble_eq_true rfl⟩) rfl rfl (fun H locs hW => ?_)
    exact wz_vretE C hlk hr (Option.some.inj h) hW dX8_tryFrom_133
  · have h := ite_f c52 h
    refine lv_aload_n hx hb dX8_tryFrom_55 rfl (lv_at hl 3 rfl) ?_
    obtain ⟨x56, hg, h⟩ := ob h
    refine wz_gI C hW flX8_71 hg dX8_tryFrom_56 ?_
    refine lv_aload_n hx hb dX8_tryFrom_59 rfl (lv_at hl 3 rfl) ?_
    obtain ⟨x60, hg, h⟩ := ob h
    refine wz_gI C hW flX8_74 hg dX8_tryFrom_60 ?_
    refine lv_ior hx hb dX8_tryFrom_63 ?_
    refine lv_iload hx hb dX8_tryFrom_64 (lv_at hl 5 rfl) ?_
    refine wz_rI (c' := 0) (s' := 0) hW (wz_runN (rest := []) C hW lNX8_77 (ctX9_hasBit l G (x56 ||| x60) l5 z rfl) ⟨⟨rfl, rfl⟩, Nat.le_of_ble_eq_true rfl, Nat.le_of_ble_eq_true rfl⟩ rfl hl.1 rfl (Nat.le_of_ble_eq_true rfl) dX8_tryFrom_66 ⟨Nat.le_of_ble_eq_true rfl, Nat.le_of_ble_eq_true rfl⟩) rfl rfl (fun H locs hW => ?_)
    refine lv_if_ne (tgt := 105) hx hb dX8_tryFrom_69 (by decide) (fun c69 => ?_) (fun c69 => ?_)
    · have h := ite_f c69 h
      obtain ⟨v105, ev105⟩ : ∃ y : Int32, y = (l5 + (1 : Int32)) := ⟨_, rfl⟩
      have h := nm_to h ev105
      refine lv_iinc (v := v105) (lv' := [(5, .int v105), (0, .ref (gB G + a0)), (1, .int l1), (2, .int l2), (3, .ref (gB G + a3)), (4, .ref (gB G + a4))]) hx hb dX8_tryFrom_105 hl (k := 5) rfl (by rw [ev105]; rfl) (by decide) rfl (fun ls hl => ?_)
      refine lv_goto (tgt := 43) hx hb dX8_tryFrom_108 (by decide) ?_
      exact hk43 a0 l1 l2 a3 a4 v105 z _ _ _ h hW (lv_sub hl [1, 2, 3, 4, 5, 0] rfl)
    · have h := ite_t c69 h
      refine lv_aload hx hb dX8_tryFrom_72 (lv_at hl 4 rfl) ?_
      refine lv_aload_n hx hb dX8_tryFrom_74 rfl (lv_at hl 3 rfl) ?_
      obtain ⟨z75, hq, h⟩ := ob h
      refine wz_rV (c' := 0) (s' := 0) hW (wz_runV (rest := []) C hW lVX8_81 (ck hq).1 rfl (ctX6_copy l G a4 a3 z hq) ⟨⟨rfl, rfl⟩, Nat.le_of_ble_eq_true rfl, Nat.le_of_ble_eq_true rfl⟩ rfl hl.1 rfl (Nat.le_of_ble_eq_true rfl) dX8_tryFrom_75 ⟨Nat.le_of_ble_eq_true rfl, Nat.le_of_ble_eq_true rfl⟩) rfl rfl (fun H locs hW => ?_)
      refine lv_aload hx hb dX8_tryFrom_78 (lv_at hl 4 rfl) ?_
      refine lv_iload_n hx hb dX8_tryFrom_80 rfl (lv_at hl 1 rfl) ?_
      refine lv_iload hx hb dX8_tryFrom_81 (lv_at hl 5 rfl) ?_
      obtain ⟨x83, z83, hq, h⟩ := ob2 h
      refine wz_rI (c' := 0) (s' := 0) hW (wz_runV (rest := []) C hW lVX8_85 (ck hq).1 rfl (ctX6_look l G a4 l1 l5 z75 hq) ⟨⟨rfl, rfl⟩, Nat.le_of_ble_eq_true rfl, Nat.le_of_ble_eq_true rfl⟩ rfl hl.1 rfl (Nat.le_of_ble_eq_true rfl) dX8_tryFrom_83 ⟨Nat.le_of_ble_eq_true rfl, Nat.le_of_ble_eq_true rfl⟩) rfl rfl (fun H locs hW => ?_)
      refine lv_pop hx hb dX8_tryFrom_86 rfl ?_
      refine lv_aload_n hx hb dX8_tryFrom_87 rfl (lv_at hl 0 rfl) ?_
      obtain ⟨b88, hg, h⟩ := ob h
      refine wz_gN C hW flX8_26 hg dX8_tryFrom_88 ?_
      refine lv_iload_n hx hb dX8_tryFrom_91 rfl (lv_at hl 1 rfl) ?_
      refine lv_iload hx hb dX8_tryFrom_92 (lv_at hl 5 rfl) ?_
      obtain ⟨z94, hg, h⟩ := ob h
      refine wz_ast C hW hg dX8_tryFrom_94 (fun H locs hW => ?_)
      refine lv_aload_n hx hb dX8_tryFrom_95 rfl (lv_at hl 0 rfl) ?_
      refine lv_iload_n hx hb dX8_tryFrom_96 rfl (lv_at hl 1 rfl) ?_
      refine lv_iconst (v := 1) hx hb dX8_tryFrom_97 (by decide) ?_
      refine lv_iadd hx hb dX8_tryFrom_98 ?_
      refine lv_iload_n hx hb dX8_tryFrom_99 rfl (lv_at hl 2 rfl) ?_
      refine lv_iconst (v := 1) hx hb dX8_tryFrom_100 (by decide) ?_
      refine lv_iadd hx hb dX8_tryFrom_101 ?_
      obtain ⟨z102, hq, h⟩ := ob h
      refine wz_rV (c' := 0) (s' := 0) hW (wz_runS (rest := []) C hW lTX8_50 (ctX8_tryFrom_0 l G a0 (l1 + (1 : Int32)) (l2 + (1 : Int32)) z94 hq) ⟨⟨rfl, rfl⟩, Nat.le_of_ble_eq_true rfl, Nat.le_of_ble_eq_true rfl⟩ rfl hl.1 rfl (Nat.le_of_ble_eq_true rfl) dX8_tryFrom_102 ⟨Nat.le_of_ble_eq_true rfl, Nat.le_of_ble_eq_true rfl⟩) rfl rfl (fun H locs hW => ?_)
      obtain ⟨v105, ev105⟩ : ∃ y : Int32, y = (l5 + (1 : Int32)) := ⟨_, rfl⟩
      have h := nm_to h ev105
      refine lv_iinc (v := v105) (lv' := [(5, .int v105), (0, .ref (gB G + a0)), (1, .int l1), (2, .int l2), (3, .ref (gB G + a3)), (4, .ref (gB G + a4))]) hx hb dX8_tryFrom_105 hl (k := 5) rfl (by rw [ev105]; rfl) (by decide) rfl (fun ls hl => ?_)
      refine lv_goto (tgt := 43) hx hb dX8_tryFrom_108 (by decide) ?_
      exact hk43 a0 l1 l2 a3 a4 v105 z102 _ _ _ h hW (lv_sub hl [1, 2, 3, 4, 5, 0] rfl)
def fX8_tryFrom_1_43 : Nat → Nat → Int32 → Int32 → Nat → Nat → Int32 → AH → Option AH
  | 0, _, _, _, _, _, _, _ => none
  | n + 1, a0, l1, l2, a3, a4, l5, z => bX8_tryFrom_1_43 (fX8_tryFrom_1_43 n) a0 l1 l2 a3 a4 l5 z
theorem klX8_tryFrom_1_43 {p : Program} {l : Launch} {e : Env} {s : State} {m : MethodId} {args : Array Value} {below : List Frame} {meth : Method} {c : Code} {G : GW} {z' : AH} (C : Cx p m c cX8_tryFrom 6 s args RX8 G) (hlk : meth.locks = false) (hr : meth.sig.returnType = none) : ∀ (n : Nat) (a0 : Nat) (l1 : Int32) (l2 : Int32) (a3 : Nat) (a4 : Nat) (l5 : Int32) (z : AH) (H : Heap) (locs : List Loc) (ls : Array Slot), fX8_tryFrom_1_43 n a0 l1 l2 a3 a4 l5 z = some z' → Wb G z s H locs → lv_has ls 6 [(0, .ref (gB G + a0)), (1, .int l1), (2, .int l2), (3, .ref (gB G + a3)), (4, .ref (gB G + a4)), (5, .int l5)] → W p l e rmX8_tryFrom_1 s m args below meth c H locs 0 0 (MQ below (Qv G z') args s 0 0 (AA G)) (F0 m 43 ls []) := by
  intro n
  induction n with
  | zero => intro a0 l1 l2 a3 a4 l5 z H locs ls h; have h : (none : Option AH) = some z' := h; cases h
  | succ n ih => intro a0 l1 l2 a3 a4 l5 z H locs ls h hW hl; exact kbX8_tryFrom_1_43 C hlk hr (fX8_tryFrom_1_43 n) (fun a0 l1 l2 a3 a4 l5 z H locs ls h hW hl => ih a0 l1 l2 a3 a4 l5 z H locs ls h hW hl) a0 l1 l2 a3 a4 l5 h hW hl
def bX8_tryFrom_1_23 (a0 : Nat) (l2 : Int32) (a3 : Nat) (z : AH) : Option AH :=
  (fX8_judge a0 a3 l2 z).bind fun z26 =>
  some z26
set_option maxHeartbeats 4000000 in
set_option maxRecDepth 100000 in
theorem kbX8_tryFrom_1_23 {p : Program} {l : Launch} {e : Env} {s : State} {m : MethodId} {args : Array Value} {below : List Frame} {meth : Method} {c : Code} {G : GW} {z' : AH} (C : Cx p m c cX8_tryFrom 6 s args RX8 G) (hlk : meth.locks = false) (hr : meth.sig.returnType = none) (a0 : Nat) (l2 : Int32) (a3 : Nat) {z : AH} {H : Heap} {locs : List Loc} {ls : Array Slot} (h : bX8_tryFrom_1_23 a0 l2 a3 z = some z') (hW : Wb G z s H locs) (hl : lv_has ls 6 [(0, .ref (gB G + a0)), (2, .int l2), (3, .ref (gB G + a3))]) : W p l e rmX8_tryFrom_1 s m args below meth c H locs 0 0 (MQ below (Qv G z') args s 0 0 (AA G)) (F0 m 23 ls []) := by
  have hx := C.1
  have hb := C.2.1
  unfold bX8_tryFrom_1_23 at h
  refine lv_aload_n hx hb dX8_tryFrom_23 rfl (lv_at hl 0 rfl) ?_
  refine lv_aload_n hx hb dX8_tryFrom_24 rfl (lv_at hl 2 rfl) ?_
  refine lv_iload_n hx hb dX8_tryFrom_25 rfl (lv_at hl 1 rfl) ?_
  obtain ⟨z26, hq, h⟩ := ob h
  refine wz_rV (c' := 0) (s' := 0) hW (wz_runV (rest := []) C hW lVX8_64 (ck hq).1 rfl (ctX8_judge l G a0 a3 l2 z hq) ⟨⟨rfl, rfl⟩, Nat.le_of_ble_eq_true rfl, Nat.le_of_ble_eq_true rfl⟩ rfl hl.1 rfl (Nat.le_of_ble_eq_true rfl) dX8_tryFrom_26 ⟨Nat.le_of_ble_eq_true rfl, Nat.le_of_ble_eq_true rfl⟩) rfl rfl (fun H locs hW => ?_)
  exact wz_vretE C hlk hr (Option.some.inj h) hW dX8_tryFrom_29
def fX8_tryFrom_1 (a0 : Nat) (l1 : Int32) (l2 : Int32) (z : AH) : Option AH :=
  (gN 7 0 z a0).bind fun b1 =>
  (ixN 5 z b1 l1).bind fun b5 =>
  (gN 5 0 z b5).bind fun b9 =>
  (gI 0 14 z b9).bind fun x12 =>
  if x12 ≤ l1 then (
    bX8_tryFrom_1_23 a0 l2 b5 z
  ) else (
    if l1 < (4 : Int32) then (
      (gN 7 0 z a0).bind fun b31 =>
      (ixN 5 z b31 (l1 + (1 : Int32))).bind fun b37 =>
      fX8_tryFrom_1_43 FU a0 l1 l2 b5 b37 (0 : Int32) z
    ) else (
      bX8_tryFrom_1_23 a0 l2 b5 z
    )
  )
set_option maxHeartbeats 4000000 in
set_option maxRecDepth 100000 in
theorem ctX8_tryFrom_1 (l : Launch) (G : GW) (a0 : Nat) (l1 : Int32) (l2 : Int32) (z : AH) {z' : AH} (h : fX8_tryFrom_1 a0 l1 l2 z = some z') : Met l yX8_tryFrom (wy yX8_tryFrom cX8_tryFrom 6 none) rmX8_tryFrom_1 (Pz G [.ref (gB G + a0), .int l1, .int l2] z) (Qv G z') 0 0 (AA G) := by
  refine wz_ent (own := RX8) (by decide +kernel) rfl (fun p e s m below meth c ls C hlk hr hin hW hl => ?_) (Nat.le_of_ble_eq_true rfl)
  have hl : lv_has ls 6 [(0, .ref (gB G + a0)), (1, .int l1), (2, .int l2)] := hl
  have hx := C.1
  have hb := C.2.1
  unfold fX8_tryFrom_1 at h
  refine lv_aload_n hx hb dX8_tryFrom_0 rfl (lv_at hl 0 rfl) ?_
  obtain ⟨b1, hg, h⟩ := ob h
  refine wz_gN C hW flX8_13 hg dX8_tryFrom_1 ?_
  refine lv_iload_n hx hb dX8_tryFrom_4 rfl (lv_at hl 1 rfl) ?_
  obtain ⟨b5, hg, h⟩ := ob h
  refine wz_nld (Or.inr (Or.inr (Or.inl rfl))) C hW hg dX8_tryFrom_5 ?_
  refine lv_astore_n (lv' := [(3, .ref (gB G + b5)), (0, .ref (gB G + a0)), (1, .int l1), (2, .int l2)]) hx hb dX8_tryFrom_6 rfl hl (by decide) rfl (fun ls hl => ?_)
  refine lv_iload_n hx hb dX8_tryFrom_7 rfl (lv_at hl 2 rfl) ?_
  refine lv_aload_n hx hb dX8_tryFrom_8 rfl (lv_at hl 0 rfl) ?_
  obtain ⟨b9, hg, h⟩ := ob h
  refine wz_gN C hW flX8_58 hg dX8_tryFrom_9 ?_
  obtain ⟨x12, hg, h⟩ := ob h
  refine wz_gI C hW flX8_61 hg dX8_tryFrom_12 ?_
  refine lv_icmp_ge (tgt := 23) hx hb dX8_tryFrom_15 (by decide) (fun c15 => ?_) (fun c15 => ?_)
  · have h := ite_t c15 h
    exact kbX8_tryFrom_1_23 C hlk hr a0 l2 b5 h hW (lv_sub hl [1, 3, 0] rfl)
  · have h := ite_f c15 h
    refine lv_iload_n hx hb dX8_tryFrom_18 rfl (lv_at hl 2 rfl) ?_
    refine lv_iconst (v := 4) hx hb dX8_tryFrom_19 (by decide) ?_
    refine lv_icmp_lt (tgt := 30) hx hb dX8_tryFrom_20 (by decide) (fun c20 => ?_) (fun c20 => ?_)
    · have h := ite_t c20 h
      refine lv_aload_n hx hb dX8_tryFrom_30 rfl (lv_at hl 1 rfl) ?_
      obtain ⟨b31, hg, h⟩ := ob h
      refine wz_gN C hW flX8_13 hg dX8_tryFrom_31 ?_
      refine lv_iload_n hx hb dX8_tryFrom_34 rfl (lv_at hl 2 rfl) ?_
      refine lv_iconst (v := 1) hx hb dX8_tryFrom_35 (by decide) ?_
      refine lv_iadd hx hb dX8_tryFrom_36 ?_
      obtain ⟨b37, hg, h⟩ := ob h
      refine wz_nld (Or.inr (Or.inr (Or.inl rfl))) C hW hg dX8_tryFrom_37 ?_
      refine lv_astore (lv' := [(4, .ref (gB G + b37)), (3, .ref (gB G + b5)), (0, .ref (gB G + a0)), (1, .int l1), (2, .int l2)]) hx hb dX8_tryFrom_38 hl (by decide) rfl (fun ls hl => ?_)
      refine lv_iconst (v := 0) hx hb dX8_tryFrom_40 (by decide) ?_
      refine lv_istore (lv' := [(5, .int (0 : Int32)), (4, .ref (gB G + b37)), (3, .ref (gB G + b5)), (0, .ref (gB G + a0)), (1, .int l1), (2, .int l2)]) hx hb dX8_tryFrom_41 hl (by decide) rfl (fun ls hl => ?_)
      exact klX8_tryFrom_1_43 C hlk hr FU a0 l1 l2 b5 b37 (0 : Int32) z _ _ _ h hW (lv_sub hl [3, 4, 5, 2, 1, 0] rfl)
    · have h := ite_f c20 h
      exact kbX8_tryFrom_1_23 C hlk hr a0 l2 b5 h hW (lv_sub hl [1, 3, 0] rfl)
abbrev rmX8_tryFrom_2 : Room := { frames := 6, cells := 0, slots := 0, locals := 176 }
def bX8_tryFrom_2_43 (k43 : Nat → Int32 → Int32 → Nat → Nat → Int32 → AH → Option AH) (a0 : Nat) (l1 : Int32) (l2 : Int32) (a3 : Nat) (a4 : Nat) (l5 : Int32) (z : AH) : Option AH :=
  (gN 5 0 z a3).bind fun b46 =>
  (gI 0 0 z b46).bind fun x49 =>
  if x49 ≤ l5 then (
    (fX6_copy a4 a3 z).bind fun z114 =>
    (gN 7 2 z114 a0).bind fun b118 =>
    (stI 0 z114 b118 l1 (8 : Int32)).bind fun z124 =>
    (fX8_tryFrom_1 a0 (l1 + (1 : Int32)) l2 z124).bind fun z130 =>
    some z130
  ) else (
    (gI 5 6 z a3).bind fun x56 =>
    (gI 5 11 z a3).bind fun x60 =>
    if (fX9_hasBit (x56 ||| x60) l5) = (0 : Int32) then (
      (fX6_copy a4 a3 z).bind fun z75 =>
      b2 (fX6_look a4 l1 l5 z75) fun x83 z83 =>
      (gN 7 2 z83 a0).bind fun b88 =>
      (stI 0 z83 b88 l1 l5).bind fun z94 =>
      (fX8_tryFrom_1 a0 (l1 + (1 : Int32)) (l2 + (1 : Int32)) z94).bind fun z102 =>
      nm (l5 + (1 : Int32)) fun v105 =>
      k43 a0 l1 l2 a3 a4 v105 z102
    ) else (
      nm (l5 + (1 : Int32)) fun v105 =>
      k43 a0 l1 l2 a3 a4 v105 z
    )
  )
set_option maxHeartbeats 4000000 in
set_option maxRecDepth 100000 in
theorem kbX8_tryFrom_2_43 {p : Program} {l : Launch} {e : Env} {s : State} {m : MethodId} {args : Array Value} {below : List Frame} {meth : Method} {c : Code} {G : GW} {z' : AH} (C : Cx p m c cX8_tryFrom 6 s args RX8 G) (hlk : meth.locks = false) (hr : meth.sig.returnType = none) (k43 : Nat → Int32 → Int32 → Nat → Nat → Int32 → AH → Option AH) (hk43 : ∀ (a0 : Nat) (l1 : Int32) (l2 : Int32) (a3 : Nat) (a4 : Nat) (l5 : Int32) (z : AH) (H : Heap) (locs : List Loc) (ls : Array Slot), k43 a0 l1 l2 a3 a4 l5 z = some z' → Wb G z s H locs → lv_has ls 6 [(0, .ref (gB G + a0)), (1, .int l1), (2, .int l2), (3, .ref (gB G + a3)), (4, .ref (gB G + a4)), (5, .int l5)] → W p l e rmX8_tryFrom_2 s m args below meth c H locs 0 0 (MQ below (Qv G z') args s 0 0 (AA G)) (F0 m 43 ls [])) (a0 : Nat) (l1 : Int32) (l2 : Int32) (a3 : Nat) (a4 : Nat) (l5 : Int32) {z : AH} {H : Heap} {locs : List Loc} {ls : Array Slot} (h : bX8_tryFrom_2_43 k43 a0 l1 l2 a3 a4 l5 z = some z') (hW : Wb G z s H locs) (hl : lv_has ls 6 [(0, .ref (gB G + a0)), (1, .int l1), (2, .int l2), (3, .ref (gB G + a3)), (4, .ref (gB G + a4)), (5, .int l5)]) : W p l e rmX8_tryFrom_2 s m args below meth c H locs 0 0 (MQ below (Qv G z') args s 0 0 (AA G)) (F0 m 43 ls []) := by
  have hx := C.1
  have hb := C.2.1
  unfold bX8_tryFrom_2_43 at h
  refine lv_iload hx hb dX8_tryFrom_43 (lv_at hl 5 rfl) ?_
  refine lv_aload_n hx hb dX8_tryFrom_45 rfl (lv_at hl 3 rfl) ?_
  obtain ⟨b46, hg, h⟩ := ob h
  refine wz_gN C hW flX8_58 hg dX8_tryFrom_46 ?_
  obtain ⟨x49, hg, h⟩ := ob h
  refine wz_gI C hW flX8_68 hg dX8_tryFrom_49 ?_
  refine lv_icmp_ge (tgt := 111) hx hb dX8_tryFrom_52 (by decide) (fun c52 => ?_) (fun c52 => ?_)
  · have h := ite_t c52 h
    refine lv_aload hx hb dX8_tryFrom_111 (lv_at hl 4 rfl) ?_
    refine lv_aload_n hx hb dX8_tryFrom_113 rfl (lv_at hl 3 rfl) ?_
    obtain ⟨z114, hq, h⟩ := ob h
    refine wz_rV (c' := 0) (s' := 0) hW (wz_runV (rest := []) C hW lVX8_81 (ck hq).1 rfl (ctX6_copy l G a4 a3 z hq) ⟨⟨rfl, rfl⟩, Nat.le_of_ble_eq_true rfl, Nat.le_of_ble_eq_true rfl⟩ rfl hl.1 rfl (Nat.le_of_ble_eq_true rfl) dX8_tryFrom_114 ⟨Nat.le_of_ble_eq_true rfl, Nat.le_of_ble_eq_true rfl⟩) rfl rfl (fun H locs hW => ?_)
    refine lv_aload_n hx hb dX8_tryFrom_117 rfl (lv_at hl 0 rfl) ?_
    obtain ⟨b118, hg, h⟩ := ob h
    refine wz_gN C hW flX8_26 hg dX8_tryFrom_118 ?_
    refine lv_iload_n hx hb dX8_tryFrom_121 rfl (lv_at hl 1 rfl) ?_
    refine lv_bipush (v := 8) hx hb dX8_tryFrom_122 (by decide) ?_
    obtain ⟨z124, hg, h⟩ := ob h
    refine wz_ast C hW hg dX8_tryFrom_124 (fun H locs hW => ?_)
    refine lv_aload_n hx hb dX8_tryFrom_125 rfl (lv_at hl 0 rfl) ?_
    refine lv_iload_n hx hb dX8_tryFrom_126 rfl (lv_at hl 1 rfl) ?_
    refine lv_iconst (v := 1) hx hb dX8_tryFrom_127 (by decide) ?_
    refine lv_iadd hx hb dX8_tryFrom_128 ?_
    refine lv_iload_n hx hb dX8_tryFrom_129 rfl (lv_at hl 2 rfl) ?_
    obtain ⟨z130, hq, h⟩ := ob h
    refine wz_rV (c' := 0) (s' := 0) hW (wz_runS (rest := []) C hW lTX8_50 (ctX8_tryFrom_1 l G a0 (l1 + (1 : Int32)) l2 z124 hq) ⟨⟨rfl, rfl⟩, Nat.le_of_ble_eq_true rfl, Nat.le_of_ble_eq_true rfl⟩ rfl hl.1 rfl (Nat.le_of_ble_eq_true rfl) dX8_tryFrom_130 ⟨Nat.le_of_ble_eq_true rfl, Nat.le_of_ble_eq_true rfl⟩) rfl rfl (fun H locs hW => ?_)
    exact wz_vretE C hlk hr (Option.some.inj h) hW dX8_tryFrom_133
  · have h := ite_f c52 h
    refine lv_aload_n hx hb dX8_tryFrom_55 rfl (lv_at hl 3 rfl) ?_
    obtain ⟨x56, hg, h⟩ := ob h
    refine wz_gI C hW flX8_71 hg dX8_tryFrom_56 ?_
    refine lv_aload_n hx hb dX8_tryFrom_59 rfl (lv_at hl 3 rfl) ?_
    obtain ⟨x60, hg, h⟩ := ob h
    refine wz_gI C hW flX8_74 hg dX8_tryFrom_60 ?_
    refine lv_ior hx hb dX8_tryFrom_63 ?_
    refine lv_iload hx hb dX8_tryFrom_64 (lv_at hl 5 rfl) ?_
    refine wz_rI (c' := 0) (s' := 0) hW (wz_runN (rest := []) C hW lNX8_77 (ctX9_hasBit l G (x56 ||| x60) l5 z rfl) ⟨⟨rfl, rfl⟩, Nat.le_of_ble_eq_true rfl, Nat.le_of_ble_eq_true rfl⟩ rfl hl.1 rfl (Nat.le_of_ble_eq_true rfl) dX8_tryFrom_66 ⟨Nat.le_of_ble_eq_true rfl, Nat.le_of_ble_eq_true rfl⟩) rfl rfl (fun H locs hW => ?_)
    refine lv_if_ne (tgt := 105) hx hb dX8_tryFrom_69 (by decide) (fun c69 => ?_) (fun c69 => ?_)
    · have h := ite_f c69 h
      obtain ⟨v105, ev105⟩ : ∃ y : Int32, y = (l5 + (1 : Int32)) := ⟨_, rfl⟩
      have h := nm_to h ev105
      refine lv_iinc (v := v105) (lv' := [(5, .int v105), (0, .ref (gB G + a0)), (1, .int l1), (2, .int l2), (3, .ref (gB G + a3)), (4, .ref (gB G + a4))]) hx hb dX8_tryFrom_105 hl (k := 5) rfl (by rw [ev105]; rfl) (by decide) rfl (fun ls hl => ?_)
      refine lv_goto (tgt := 43) hx hb dX8_tryFrom_108 (by decide) ?_
      exact hk43 a0 l1 l2 a3 a4 v105 z _ _ _ h hW (lv_sub hl [1, 2, 3, 4, 5, 0] rfl)
    · have h := ite_t c69 h
      refine lv_aload hx hb dX8_tryFrom_72 (lv_at hl 4 rfl) ?_
      refine lv_aload_n hx hb dX8_tryFrom_74 rfl (lv_at hl 3 rfl) ?_
      obtain ⟨z75, hq, h⟩ := ob h
      refine wz_rV (c' := 0) (s' := 0) hW (wz_runV (rest := []) C hW lVX8_81 (ck hq).1 rfl (ctX6_copy l G a4 a3 z hq) ⟨⟨rfl, rfl⟩, Nat.le_of_ble_eq_true rfl, Nat.le_of_ble_eq_true rfl⟩ rfl hl.1 rfl (Nat.le_of_ble_eq_true rfl) dX8_tryFrom_75 ⟨Nat.le_of_ble_eq_true rfl, Nat.le_of_ble_eq_true rfl⟩) rfl rfl (fun H locs hW => ?_)
      refine lv_aload hx hb dX8_tryFrom_78 (lv_at hl 4 rfl) ?_
      refine lv_iload_n hx hb dX8_tryFrom_80 rfl (lv_at hl 1 rfl) ?_
      refine lv_iload hx hb dX8_tryFrom_81 (lv_at hl 5 rfl) ?_
      obtain ⟨x83, z83, hq, h⟩ := ob2 h
      refine wz_rI (c' := 0) (s' := 0) hW (wz_runV (rest := []) C hW lVX8_85 (ck hq).1 rfl (ctX6_look l G a4 l1 l5 z75 hq) ⟨⟨rfl, rfl⟩, Nat.le_of_ble_eq_true rfl, Nat.le_of_ble_eq_true rfl⟩ rfl hl.1 rfl (Nat.le_of_ble_eq_true rfl) dX8_tryFrom_83 ⟨Nat.le_of_ble_eq_true rfl, Nat.le_of_ble_eq_true rfl⟩) rfl rfl (fun H locs hW => ?_)
      refine lv_pop hx hb dX8_tryFrom_86 rfl ?_
      refine lv_aload_n hx hb dX8_tryFrom_87 rfl (lv_at hl 0 rfl) ?_
      obtain ⟨b88, hg, h⟩ := ob h
      refine wz_gN C hW flX8_26 hg dX8_tryFrom_88 ?_
      refine lv_iload_n hx hb dX8_tryFrom_91 rfl (lv_at hl 1 rfl) ?_
      refine lv_iload hx hb dX8_tryFrom_92 (lv_at hl 5 rfl) ?_
      obtain ⟨z94, hg, h⟩ := ob h
      refine wz_ast C hW hg dX8_tryFrom_94 (fun H locs hW => ?_)
      refine lv_aload_n hx hb dX8_tryFrom_95 rfl (lv_at hl 0 rfl) ?_
      refine lv_iload_n hx hb dX8_tryFrom_96 rfl (lv_at hl 1 rfl) ?_
      refine lv_iconst (v := 1) hx hb dX8_tryFrom_97 (by decide) ?_
      refine lv_iadd hx hb dX8_tryFrom_98 ?_
      refine lv_iload_n hx hb dX8_tryFrom_99 rfl (lv_at hl 2 rfl) ?_
      refine lv_iconst (v := 1) hx hb dX8_tryFrom_100 (by decide) ?_
      refine lv_iadd hx hb dX8_tryFrom_101 ?_
      obtain ⟨z102, hq, h⟩ := ob h
      refine wz_rV (c' := 0) (s' := 0) hW (wz_runS (rest := []) C hW lTX8_50 (ctX8_tryFrom_1 l G a0 (l1 + (1 : Int32)) (l2 + (1 : Int32)) z94 hq) ⟨⟨rfl, rfl⟩, Nat.le_of_ble_eq_true rfl, Nat.le_of_ble_eq_true rfl⟩ rfl hl.1 rfl (Nat.le_of_ble_eq_true rfl) dX8_tryFrom_102 ⟨Nat.le_of_ble_eq_true rfl, Nat.le_of_ble_eq_true rfl⟩) rfl rfl (fun H locs hW => ?_)
      obtain ⟨v105, ev105⟩ : ∃ y : Int32, y = (l5 + (1 : Int32)) := ⟨_, rfl⟩
      have h := nm_to h ev105
      refine lv_iinc (v := v105) (lv' := [(5, .int v105), (0, .ref (gB G + a0)), (1, .int l1), (2, .int l2), (3, .ref (gB G + a3)), (4, .ref (gB G + a4))]) hx hb dX8_tryFrom_105 hl (k := 5) rfl (by rw [ev105]; rfl) (by decide) rfl (fun ls hl => ?_)
      refine lv_goto (tgt := 43) hx hb dX8_tryFrom_108 (by decide) ?_
      exact hk43 a0 l1 l2 a3 a4 v105 z102 _ _ _ h hW (lv_sub hl [1, 2, 3, 4, 5, 0] rfl)
def fX8_tryFrom_2_43 : Nat → Nat → Int32 → Int32 → Nat → Nat → Int32 → AH → Option AH
  | 0, _, _, _, _, _, _, _ => none
  | n + 1, a0, l1, l2, a3, a4, l5, z => bX8_tryFrom_2_43 (fX8_tryFrom_2_43 n) a0 l1 l2 a3 a4 l5 z
theorem klX8_tryFrom_2_43 {p : Program} {l : Launch} {e : Env} {s : State} {m : MethodId} {args : Array Value} {below : List Frame} {meth : Method} {c : Code} {G : GW} {z' : AH} (C : Cx p m c cX8_tryFrom 6 s args RX8 G) (hlk : meth.locks = false) (hr : meth.sig.returnType = none) : ∀ (n : Nat) (a0 : Nat) (l1 : Int32) (l2 : Int32) (a3 : Nat) (a4 : Nat) (l5 : Int32) (z : AH) (H : Heap) (locs : List Loc) (ls : Array Slot), fX8_tryFrom_2_43 n a0 l1 l2 a3 a4 l5 z = some z' → Wb G z s H locs → lv_has ls 6 [(0, .ref (gB G + a0)), (1, .int l1), (2, .int l2), (3, .ref (gB G + a3)), (4, .ref (gB G + a4)), (5, .int l5)] → W p l e rmX8_tryFrom_2 s m args below meth c H locs 0 0 (MQ below (Qv G z') args s 0 0 (AA G)) (F0 m 43 ls []) := by
  intro n
  induction n with
  | zero => intro a0 l1 l2 a3 a4 l5 z H locs ls h; have h : (none : Option AH) = some z' := h; cases h
  | succ n ih => intro a0 l1 l2 a3 a4 l5 z H locs ls h hW hl; exact kbX8_tryFrom_2_43 C hlk hr (fX8_tryFrom_2_43 n) (fun a0 l1 l2 a3 a4 l5 z H locs ls h hW hl => ih a0 l1 l2 a3 a4 l5 z H locs ls h hW hl) a0 l1 l2 a3 a4 l5 h hW hl
def bX8_tryFrom_2_23 (a0 : Nat) (l2 : Int32) (a3 : Nat) (z : AH) : Option AH :=
  (fX8_judge a0 a3 l2 z).bind fun z26 =>
  some z26
set_option maxHeartbeats 4000000 in
set_option maxRecDepth 100000 in
theorem kbX8_tryFrom_2_23 {p : Program} {l : Launch} {e : Env} {s : State} {m : MethodId} {args : Array Value} {below : List Frame} {meth : Method} {c : Code} {G : GW} {z' : AH} (C : Cx p m c cX8_tryFrom 6 s args RX8 G) (hlk : meth.locks = false) (hr : meth.sig.returnType = none) (a0 : Nat) (l2 : Int32) (a3 : Nat) {z : AH} {H : Heap} {locs : List Loc} {ls : Array Slot} (h : bX8_tryFrom_2_23 a0 l2 a3 z = some z') (hW : Wb G z s H locs) (hl : lv_has ls 6 [(0, .ref (gB G + a0)), (2, .int l2), (3, .ref (gB G + a3))]) : W p l e rmX8_tryFrom_2 s m args below meth c H locs 0 0 (MQ below (Qv G z') args s 0 0 (AA G)) (F0 m 23 ls []) := by
  have hx := C.1
  have hb := C.2.1
  unfold bX8_tryFrom_2_23 at h
  refine lv_aload_n hx hb dX8_tryFrom_23 rfl (lv_at hl 0 rfl) ?_
  refine lv_aload_n hx hb dX8_tryFrom_24 rfl (lv_at hl 2 rfl) ?_
  refine lv_iload_n hx hb dX8_tryFrom_25 rfl (lv_at hl 1 rfl) ?_
  obtain ⟨z26, hq, h⟩ := ob h
  refine wz_rV (c' := 0) (s' := 0) hW (wz_runV (rest := []) C hW lVX8_64 (ck hq).1 rfl (ctX8_judge l G a0 a3 l2 z hq) ⟨⟨rfl, rfl⟩, Nat.le_of_ble_eq_true rfl, Nat.le_of_ble_eq_true rfl⟩ rfl hl.1 rfl (Nat.le_of_ble_eq_true rfl) dX8_tryFrom_26 ⟨Nat.le_of_ble_eq_true rfl, Nat.le_of_ble_eq_true rfl⟩) rfl rfl (fun H locs hW => ?_)
  exact wz_vretE C hlk hr (Option.some.inj h) hW dX8_tryFrom_29
def fX8_tryFrom_2 (a0 : Nat) (l1 : Int32) (l2 : Int32) (z : AH) : Option AH :=
  (gN 7 0 z a0).bind fun b1 =>
  (ixN 5 z b1 l1).bind fun b5 =>
  (gN 5 0 z b5).bind fun b9 =>
  (gI 0 14 z b9).bind fun x12 =>
  if x12 ≤ l1 then (
    bX8_tryFrom_2_23 a0 l2 b5 z
  ) else (
    if l1 < (4 : Int32) then (
      (gN 7 0 z a0).bind fun b31 =>
      (ixN 5 z b31 (l1 + (1 : Int32))).bind fun b37 =>
      fX8_tryFrom_2_43 FU a0 l1 l2 b5 b37 (0 : Int32) z
    ) else (
      bX8_tryFrom_2_23 a0 l2 b5 z
    )
  )
set_option maxHeartbeats 4000000 in
set_option maxRecDepth 100000 in
theorem ctX8_tryFrom_2 (l : Launch) (G : GW) (a0 : Nat) (l1 : Int32) (l2 : Int32) (z : AH) {z' : AH} (h : fX8_tryFrom_2 a0 l1 l2 z = some z') : Met l yX8_tryFrom (wy yX8_tryFrom cX8_tryFrom 6 none) rmX8_tryFrom_2 (Pz G [.ref (gB G + a0), .int l1, .int l2] z) (Qv G z') 0 0 (AA G) := by
  refine wz_ent (own := RX8) (by decide +kernel) rfl (fun p e s m below meth c ls C hlk hr hin hW hl => ?_) (Nat.le_of_ble_eq_true rfl)
  have hl : lv_has ls 6 [(0, .ref (gB G + a0)), (1, .int l1), (2, .int l2)] := hl
  have hx := C.1
  have hb := C.2.1
  unfold fX8_tryFrom_2 at h
  refine lv_aload_n hx hb dX8_tryFrom_0 rfl (lv_at hl 0 rfl) ?_
  obtain ⟨b1, hg, h⟩ := ob h
  refine wz_gN C hW flX8_13 hg dX8_tryFrom_1 ?_
  refine lv_iload_n hx hb dX8_tryFrom_4 rfl (lv_at hl 1 rfl) ?_
  obtain ⟨b5, hg, h⟩ := ob h
  refine wz_nld (Or.inr (Or.inr (Or.inl rfl))) C hW hg dX8_tryFrom_5 ?_
  refine lv_astore_n (lv' := [(3, .ref (gB G + b5)), (0, .ref (gB G + a0)), (1, .int l1), (2, .int l2)]) hx hb dX8_tryFrom_6 rfl hl (by decide) rfl (fun ls hl => ?_)
  refine lv_iload_n hx hb dX8_tryFrom_7 rfl (lv_at hl 2 rfl) ?_
  refine lv_aload_n hx hb dX8_tryFrom_8 rfl (lv_at hl 0 rfl) ?_
  obtain ⟨b9, hg, h⟩ := ob h
  refine wz_gN C hW flX8_58 hg dX8_tryFrom_9 ?_
  obtain ⟨x12, hg, h⟩ := ob h
  refine wz_gI C hW flX8_61 hg dX8_tryFrom_12 ?_
  refine lv_icmp_ge (tgt := 23) hx hb dX8_tryFrom_15 (by decide) (fun c15 => ?_) (fun c15 => ?_)
  · have h := ite_t c15 h
    exact kbX8_tryFrom_2_23 C hlk hr a0 l2 b5 h hW (lv_sub hl [1, 3, 0] rfl)
  · have h := ite_f c15 h
    refine lv_iload_n hx hb dX8_tryFrom_18 rfl (lv_at hl 2 rfl) ?_
    refine lv_iconst (v := 4) hx hb dX8_tryFrom_19 (by decide) ?_
    refine lv_icmp_lt (tgt := 30) hx hb dX8_tryFrom_20 (by decide) (fun c20 => ?_) (fun c20 => ?_)
    · have h := ite_t c20 h
      refine lv_aload_n hx hb dX8_tryFrom_30 rfl (lv_at hl 1 rfl) ?_
      obtain ⟨b31, hg, h⟩ := ob h
      refine wz_gN C hW flX8_13 hg dX8_tryFrom_31 ?_
      refine lv_iload_n hx hb dX8_tryFrom_34 rfl (lv_at hl 2 rfl) ?_
      refine lv_iconst (v := 1) hx hb dX8_tryFrom_35 (by decide) ?_
      refine lv_iadd hx hb dX8_tryFrom_36 ?_
      obtain ⟨b37, hg, h⟩ := ob h
      refine wz_nld (Or.inr (Or.inr (Or.inl rfl))) C hW hg dX8_tryFrom_37 ?_
      refine lv_astore (lv' := [(4, .ref (gB G + b37)), (3, .ref (gB G + b5)), (0, .ref (gB G + a0)), (1, .int l1), (2, .int l2)]) hx hb dX8_tryFrom_38 hl (by decide) rfl (fun ls hl => ?_)
      refine lv_iconst (v := 0) hx hb dX8_tryFrom_40 (by decide) ?_
      refine lv_istore (lv' := [(5, .int (0 : Int32)), (4, .ref (gB G + b37)), (3, .ref (gB G + b5)), (0, .ref (gB G + a0)), (1, .int l1), (2, .int l2)]) hx hb dX8_tryFrom_41 hl (by decide) rfl (fun ls hl => ?_)
      exact klX8_tryFrom_2_43 C hlk hr FU a0 l1 l2 b5 b37 (0 : Int32) z _ _ _ h hW (lv_sub hl [3, 4, 5, 2, 1, 0] rfl)
    · have h := ite_f c20 h
      exact kbX8_tryFrom_2_23 C hlk hr a0 l2 b5 h hW (lv_sub hl [1, 3, 0] rfl)
abbrev rmX8_tryFrom_3 : Room := { frames := 7, cells := 0, slots := 0, locals := 201 }
def bX8_tryFrom_3_43 (k43 : Nat → Int32 → Int32 → Nat → Nat → Int32 → AH → Option AH) (a0 : Nat) (l1 : Int32) (l2 : Int32) (a3 : Nat) (a4 : Nat) (l5 : Int32) (z : AH) : Option AH :=
  (gN 5 0 z a3).bind fun b46 =>
  (gI 0 0 z b46).bind fun x49 =>
  if x49 ≤ l5 then (
    (fX6_copy a4 a3 z).bind fun z114 =>
    (gN 7 2 z114 a0).bind fun b118 =>
    (stI 0 z114 b118 l1 (8 : Int32)).bind fun z124 =>
    (fX8_tryFrom_2 a0 (l1 + (1 : Int32)) l2 z124).bind fun z130 =>
    some z130
  ) else (
    (gI 5 6 z a3).bind fun x56 =>
    (gI 5 11 z a3).bind fun x60 =>
    if (fX9_hasBit (x56 ||| x60) l5) = (0 : Int32) then (
      (fX6_copy a4 a3 z).bind fun z75 =>
      b2 (fX6_look a4 l1 l5 z75) fun x83 z83 =>
      (gN 7 2 z83 a0).bind fun b88 =>
      (stI 0 z83 b88 l1 l5).bind fun z94 =>
      (fX8_tryFrom_2 a0 (l1 + (1 : Int32)) (l2 + (1 : Int32)) z94).bind fun z102 =>
      nm (l5 + (1 : Int32)) fun v105 =>
      k43 a0 l1 l2 a3 a4 v105 z102
    ) else (
      nm (l5 + (1 : Int32)) fun v105 =>
      k43 a0 l1 l2 a3 a4 v105 z
    )
  )
set_option maxHeartbeats 4000000 in
set_option maxRecDepth 100000 in
theorem kbX8_tryFrom_3_43 {p : Program} {l : Launch} {e : Env} {s : State} {m : MethodId} {args : Array Value} {below : List Frame} {meth : Method} {c : Code} {G : GW} {z' : AH} (C : Cx p m c cX8_tryFrom 6 s args RX8 G) (hlk : meth.locks = false) (hr : meth.sig.returnType = none) (k43 : Nat → Int32 → Int32 → Nat → Nat → Int32 → AH → Option AH) (hk43 : ∀ (a0 : Nat) (l1 : Int32) (l2 : Int32) (a3 : Nat) (a4 : Nat) (l5 : Int32) (z : AH) (H : Heap) (locs : List Loc) (ls : Array Slot), k43 a0 l1 l2 a3 a4 l5 z = some z' → Wb G z s H locs → lv_has ls 6 [(0, .ref (gB G + a0)), (1, .int l1), (2, .int l2), (3, .ref (gB G + a3)), (4, .ref (gB G + a4)), (5, .int l5)] → W p l e rmX8_tryFrom_3 s m args below meth c H locs 0 0 (MQ below (Qv G z') args s 0 0 (AA G)) (F0 m 43 ls [])) (a0 : Nat) (l1 : Int32) (l2 : Int32) (a3 : Nat) (a4 : Nat) (l5 : Int32) {z : AH} {H : Heap} {locs : List Loc} {ls : Array Slot} (h : bX8_tryFrom_3_43 k43 a0 l1 l2 a3 a4 l5 z = some z') (hW : Wb G z s H locs) (hl : lv_has ls 6 [(0, .ref (gB G + a0)), (1, .int l1), (2, .int l2), (3, .ref (gB G + a3)), (4, .ref (gB G + a4)), (5, .int l5)]) : W p l e rmX8_tryFrom_3 s m args below meth c H locs 0 0 (MQ below (Qv G z') args s 0 0 (AA G)) (F0 m 43 ls []) := by
  have hx := C.1
  have hb := C.2.1
  unfold bX8_tryFrom_3_43 at h
  refine lv_iload hx hb dX8_tryFrom_43 (lv_at hl 5 rfl) ?_
  refine lv_aload_n hx hb dX8_tryFrom_45 rfl (lv_at hl 3 rfl) ?_
  obtain ⟨b46, hg, h⟩ := ob h
  refine wz_gN C hW flX8_58 hg dX8_tryFrom_46 ?_
  obtain ⟨x49, hg, h⟩ := ob h
  refine wz_gI C hW flX8_68 hg dX8_tryFrom_49 ?_
  refine lv_icmp_ge (tgt := 111) hx hb dX8_tryFrom_52 (by decide) (fun c52 => ?_) (fun c52 => ?_)
  · have h := ite_t c52 h
    refine lv_aload hx hb dX8_tryFrom_111 (lv_at hl 4 rfl) ?_
    refine lv_aload_n hx hb dX8_tryFrom_113 rfl (lv_at hl 3 rfl) ?_
    obtain ⟨z114, hq, h⟩ := ob h
    refine wz_rV (c' := 0) (s' := 0) hW (wz_runV (rest := []) C hW lVX8_81 (ck hq).1 rfl (ctX6_copy l G a4 a3 z hq) ⟨⟨rfl, rfl⟩, Nat.le_of_ble_eq_true rfl, Nat.le_of_ble_eq_true rfl⟩ rfl hl.1 rfl (Nat.le_of_ble_eq_true rfl) dX8_tryFrom_114 ⟨Nat.le_of_ble_eq_true rfl, Nat.le_of_ble_eq_true rfl⟩) rfl rfl (fun H locs hW => ?_)
    refine lv_aload_n hx hb dX8_tryFrom_117 rfl (lv_at hl 0 rfl) ?_
    obtain ⟨b118, hg, h⟩ := ob h
    refine wz_gN C hW flX8_26 hg dX8_tryFrom_118 ?_
    refine lv_iload_n hx hb dX8_tryFrom_121 rfl (lv_at hl 1 rfl) ?_
    refine lv_bipush (v := 8) hx hb dX8_tryFrom_122 (by decide) ?_
    obtain ⟨z124, hg, h⟩ := ob h
    refine wz_ast C hW hg dX8_tryFrom_124 (fun H locs hW => ?_)
    refine lv_aload_n hx hb dX8_tryFrom_125 rfl (lv_at hl 0 rfl) ?_
    refine lv_iload_n hx hb dX8_tryFrom_126 rfl (lv_at hl 1 rfl) ?_
    refine lv_iconst (v := 1) hx hb dX8_tryFrom_127 (by decide) ?_
    refine lv_iadd hx hb dX8_tryFrom_128 ?_
    refine lv_iload_n hx hb dX8_tryFrom_129 rfl (lv_at hl 2 rfl) ?_
    obtain ⟨z130, hq, h⟩ := ob h
    refine wz_rV (c' := 0) (s' := 0) hW (wz_runS (rest := []) C hW lTX8_50 (ctX8_tryFrom_2 l G a0 (l1 + (1 : Int32)) l2 z124 hq) ⟨⟨rfl, rfl⟩, Nat.le_of_ble_eq_true rfl, Nat.le_of_ble_eq_true rfl⟩ rfl hl.1 rfl (Nat.le_of_ble_eq_true rfl) dX8_tryFrom_130 ⟨Nat.le_of_ble_eq_true rfl, Nat.le_of_ble_eq_true rfl⟩) rfl rfl (fun H locs hW => ?_)
    exact wz_vretE C hlk hr (Option.some.inj h) hW dX8_tryFrom_133
  · have h := ite_f c52 h
    refine lv_aload_n hx hb dX8_tryFrom_55 rfl (lv_at hl 3 rfl) ?_
    obtain ⟨x56, hg, h⟩ := ob h
    refine wz_gI C hW flX8_71 hg dX8_tryFrom_56 ?_
    refine lv_aload_n hx hb dX8_tryFrom_59 rfl (lv_at hl 3 rfl) ?_
    obtain ⟨x60, hg, h⟩ := ob h
    refine wz_gI C hW flX8_74 hg dX8_tryFrom_60 ?_
    refine lv_ior hx hb dX8_tryFrom_63 ?_
    refine lv_iload hx hb dX8_tryFrom_64 (lv_at hl 5 rfl) ?_
    refine wz_rI (c' := 0) (s' := 0) hW (wz_runN (rest := []) C hW lNX8_77 (ctX9_hasBit l G (x56 ||| x60) l5 z rfl) ⟨⟨rfl, rfl⟩, Nat.le_of_ble_eq_true rfl, Nat.le_of_ble_eq_true rfl⟩ rfl hl.1 rfl (Nat.le_of_ble_eq_true rfl) dX8_tryFrom_66 ⟨Nat.le_of_ble_eq_true rfl, Nat.le_of_ble_eq_true rfl⟩) rfl rfl (fun H locs hW => ?_)
    refine lv_if_ne (tgt := 105) hx hb dX8_tryFrom_69 (by decide) (fun c69 => ?_) (fun c69 => ?_)
    · have h := ite_f c69 h
      obtain ⟨v105, ev105⟩ : ∃ y : Int32, y = (l5 + (1 : Int32)) := ⟨_, rfl⟩
      have h := nm_to h ev105
      refine lv_iinc (v := v105) (lv' := [(5, .int v105), (0, .ref (gB G + a0)), (1, .int l1), (2, .int l2), (3, .ref (gB G + a3)), (4, .ref (gB G + a4))]) hx hb dX8_tryFrom_105 hl (k := 5) rfl (by rw [ev105]; rfl) (by decide) rfl (fun ls hl => ?_)
      refine lv_goto (tgt := 43) hx hb dX8_tryFrom_108 (by decide) ?_
      exact hk43 a0 l1 l2 a3 a4 v105 z _ _ _ h hW (lv_sub hl [1, 2, 3, 4, 5, 0] rfl)
    · have h := ite_t c69 h
      refine lv_aload hx hb dX8_tryFrom_72 (lv_at hl 4 rfl) ?_
      refine lv_aload_n hx hb dX8_tryFrom_74 rfl (lv_at hl 3 rfl) ?_
      obtain ⟨z75, hq, h⟩ := ob h
      refine wz_rV (c' := 0) (s' := 0) hW (wz_runV (rest := []) C hW lVX8_81 (ck hq).1 rfl (ctX6_copy l G a4 a3 z hq) ⟨⟨rfl, rfl⟩, Nat.le_of_ble_eq_true rfl, Nat.le_of_ble_eq_true rfl⟩ rfl hl.1 rfl (Nat.le_of_ble_eq_true rfl) dX8_tryFrom_75 ⟨Nat.le_of_ble_eq_true rfl, Nat.le_of_ble_eq_true rfl⟩) rfl rfl (fun H locs hW => ?_)
      refine lv_aload hx hb dX8_tryFrom_78 (lv_at hl 4 rfl) ?_
      refine lv_iload_n hx hb dX8_tryFrom_80 rfl (lv_at hl 1 rfl) ?_
      refine lv_iload hx hb dX8_tryFrom_81 (lv_at hl 5 rfl) ?_
      obtain ⟨x83, z83, hq, h⟩ := ob2 h
      refine wz_rI (c' := 0) (s' := 0) hW (wz_runV (rest := []) C hW lVX8_85 (ck hq).1 rfl (ctX6_look l G a4 l1 l5 z75 hq) ⟨⟨rfl, rfl⟩, Nat.le_of_ble_eq_true rfl, Nat.le_of_ble_eq_true rfl⟩ rfl hl.1 rfl (Nat.le_of_ble_eq_true rfl) dX8_tryFrom_83 ⟨Nat.le_of_ble_eq_true rfl, Nat.le_of_ble_eq_true rfl⟩) rfl rfl (fun H locs hW => ?_)
      refine lv_pop hx hb dX8_tryFrom_86 rfl ?_
      refine lv_aload_n hx hb dX8_tryFrom_87 rfl (lv_at hl 0 rfl) ?_
      obtain ⟨b88, hg, h⟩ := ob h
      refine wz_gN C hW flX8_26 hg dX8_tryFrom_88 ?_
      refine lv_iload_n hx hb dX8_tryFrom_91 rfl (lv_at hl 1 rfl) ?_
      refine lv_iload hx hb dX8_tryFrom_92 (lv_at hl 5 rfl) ?_
      obtain ⟨z94, hg, h⟩ := ob h
      refine wz_ast C hW hg dX8_tryFrom_94 (fun H locs hW => ?_)
      refine lv_aload_n hx hb dX8_tryFrom_95 rfl (lv_at hl 0 rfl) ?_
      refine lv_iload_n hx hb dX8_tryFrom_96 rfl (lv_at hl 1 rfl) ?_
      refine lv_iconst (v := 1) hx hb dX8_tryFrom_97 (by decide) ?_
      refine lv_iadd hx hb dX8_tryFrom_98 ?_
      refine lv_iload_n hx hb dX8_tryFrom_99 rfl (lv_at hl 2 rfl) ?_
      refine lv_iconst (v := 1) hx hb dX8_tryFrom_100 (by decide) ?_
      refine lv_iadd hx hb dX8_tryFrom_101 ?_
      obtain ⟨z102, hq, h⟩ := ob h
      refine wz_rV (c' := 0) (s' := 0) hW (wz_runS (rest := []) C hW lTX8_50 (ctX8_tryFrom_2 l G a0 (l1 + (1 : Int32)) (l2 + (1 : Int32)) z94 hq) ⟨⟨rfl, rfl⟩, Nat.le_of_ble_eq_true rfl, Nat.le_of_ble_eq_true rfl⟩ rfl hl.1 rfl (Nat.le_of_ble_eq_true rfl) dX8_tryFrom_102 ⟨Nat.le_of_ble_eq_true rfl, Nat.le_of_ble_eq_true rfl⟩) rfl rfl (fun H locs hW => ?_)
      obtain ⟨v105, ev105⟩ : ∃ y : Int32, y = (l5 + (1 : Int32)) := ⟨_, rfl⟩
      have h := nm_to h ev105
      refine lv_iinc (v := v105) (lv' := [(5, .int v105), (0, .ref (gB G + a0)), (1, .int l1), (2, .int l2), (3, .ref (gB G + a3)), (4, .ref (gB G + a4))]) hx hb dX8_tryFrom_105 hl (k := 5) rfl (by rw [ev105]; rfl) (by decide) rfl (fun ls hl => ?_)
      refine lv_goto (tgt := 43) hx hb dX8_tryFrom_108 (by decide) ?_
      exact hk43 a0 l1 l2 a3 a4 v105 z102 _ _ _ h hW (lv_sub hl [1, 2, 3, 4, 5, 0] rfl)
def fX8_tryFrom_3_43 : Nat → Nat → Int32 → Int32 → Nat → Nat → Int32 → AH → Option AH
  | 0, _, _, _, _, _, _, _ => none
  | n + 1, a0, l1, l2, a3, a4, l5, z => bX8_tryFrom_3_43 (fX8_tryFrom_3_43 n) a0 l1 l2 a3 a4 l5 z
theorem klX8_tryFrom_3_43 {p : Program} {l : Launch} {e : Env} {s : State} {m : MethodId} {args : Array Value} {below : List Frame} {meth : Method} {c : Code} {G : GW} {z' : AH} (C : Cx p m c cX8_tryFrom 6 s args RX8 G) (hlk : meth.locks = false) (hr : meth.sig.returnType = none) : ∀ (n : Nat) (a0 : Nat) (l1 : Int32) (l2 : Int32) (a3 : Nat) (a4 : Nat) (l5 : Int32) (z : AH) (H : Heap) (locs : List Loc) (ls : Array Slot), fX8_tryFrom_3_43 n a0 l1 l2 a3 a4 l5 z = some z' → Wb G z s H locs → lv_has ls 6 [(0, .ref (gB G + a0)), (1, .int l1), (2, .int l2), (3, .ref (gB G + a3)), (4, .ref (gB G + a4)), (5, .int l5)] → W p l e rmX8_tryFrom_3 s m args below meth c H locs 0 0 (MQ below (Qv G z') args s 0 0 (AA G)) (F0 m 43 ls []) := by
  intro n
  induction n with
  | zero => intro a0 l1 l2 a3 a4 l5 z H locs ls h; have h : (none : Option AH) = some z' := h; cases h
  | succ n ih => intro a0 l1 l2 a3 a4 l5 z H locs ls h hW hl; exact kbX8_tryFrom_3_43 C hlk hr (fX8_tryFrom_3_43 n) (fun a0 l1 l2 a3 a4 l5 z H locs ls h hW hl => ih a0 l1 l2 a3 a4 l5 z H locs ls h hW hl) a0 l1 l2 a3 a4 l5 h hW hl
def bX8_tryFrom_3_23 (a0 : Nat) (l2 : Int32) (a3 : Nat) (z : AH) : Option AH :=
  (fX8_judge a0 a3 l2 z).bind fun z26 =>
  some z26
set_option maxHeartbeats 4000000 in
set_option maxRecDepth 100000 in
theorem kbX8_tryFrom_3_23 {p : Program} {l : Launch} {e : Env} {s : State} {m : MethodId} {args : Array Value} {below : List Frame} {meth : Method} {c : Code} {G : GW} {z' : AH} (C : Cx p m c cX8_tryFrom 6 s args RX8 G) (hlk : meth.locks = false) (hr : meth.sig.returnType = none) (a0 : Nat) (l2 : Int32) (a3 : Nat) {z : AH} {H : Heap} {locs : List Loc} {ls : Array Slot} (h : bX8_tryFrom_3_23 a0 l2 a3 z = some z') (hW : Wb G z s H locs) (hl : lv_has ls 6 [(0, .ref (gB G + a0)), (2, .int l2), (3, .ref (gB G + a3))]) : W p l e rmX8_tryFrom_3 s m args below meth c H locs 0 0 (MQ below (Qv G z') args s 0 0 (AA G)) (F0 m 23 ls []) := by
  have hx := C.1
  have hb := C.2.1
  unfold bX8_tryFrom_3_23 at h
  refine lv_aload_n hx hb dX8_tryFrom_23 rfl (lv_at hl 0 rfl) ?_
  refine lv_aload_n hx hb dX8_tryFrom_24 rfl (lv_at hl 2 rfl) ?_
  refine lv_iload_n hx hb dX8_tryFrom_25 rfl (lv_at hl 1 rfl) ?_
  obtain ⟨z26, hq, h⟩ := ob h
  refine wz_rV (c' := 0) (s' := 0) hW (wz_runV (rest := []) C hW lVX8_64 (ck hq).1 rfl (ctX8_judge l G a0 a3 l2 z hq) ⟨⟨rfl, rfl⟩, Nat.le_of_ble_eq_true rfl, Nat.le_of_ble_eq_true rfl⟩ rfl hl.1 rfl (Nat.le_of_ble_eq_true rfl) dX8_tryFrom_26 ⟨Nat.le_of_ble_eq_true rfl, Nat.le_of_ble_eq_true rfl⟩) rfl rfl (fun H locs hW => ?_)
  exact wz_vretE C hlk hr (Option.some.inj h) hW dX8_tryFrom_29
def fX8_tryFrom_3 (a0 : Nat) (l1 : Int32) (l2 : Int32) (z : AH) : Option AH :=
  (gN 7 0 z a0).bind fun b1 =>
  (ixN 5 z b1 l1).bind fun b5 =>
  (gN 5 0 z b5).bind fun b9 =>
  (gI 0 14 z b9).bind fun x12 =>
  if x12 ≤ l1 then (
    bX8_tryFrom_3_23 a0 l2 b5 z
  ) else (
    if l1 < (4 : Int32) then (
      (gN 7 0 z a0).bind fun b31 =>
      (ixN 5 z b31 (l1 + (1 : Int32))).bind fun b37 =>
      fX8_tryFrom_3_43 FU a0 l1 l2 b5 b37 (0 : Int32) z
    ) else (
      bX8_tryFrom_3_23 a0 l2 b5 z
    )
  )
set_option maxHeartbeats 4000000 in
set_option maxRecDepth 100000 in
theorem ctX8_tryFrom_3 (l : Launch) (G : GW) (a0 : Nat) (l1 : Int32) (l2 : Int32) (z : AH) {z' : AH} (h : fX8_tryFrom_3 a0 l1 l2 z = some z') : Met l yX8_tryFrom (wy yX8_tryFrom cX8_tryFrom 6 none) rmX8_tryFrom_3 (Pz G [.ref (gB G + a0), .int l1, .int l2] z) (Qv G z') 0 0 (AA G) := by
  refine wz_ent (own := RX8) (by decide +kernel) rfl (fun p e s m below meth c ls C hlk hr hin hW hl => ?_) (Nat.le_of_ble_eq_true rfl)
  have hl : lv_has ls 6 [(0, .ref (gB G + a0)), (1, .int l1), (2, .int l2)] := hl
  have hx := C.1
  have hb := C.2.1
  unfold fX8_tryFrom_3 at h
  refine lv_aload_n hx hb dX8_tryFrom_0 rfl (lv_at hl 0 rfl) ?_
  obtain ⟨b1, hg, h⟩ := ob h
  refine wz_gN C hW flX8_13 hg dX8_tryFrom_1 ?_
  refine lv_iload_n hx hb dX8_tryFrom_4 rfl (lv_at hl 1 rfl) ?_
  obtain ⟨b5, hg, h⟩ := ob h
  refine wz_nld (Or.inr (Or.inr (Or.inl rfl))) C hW hg dX8_tryFrom_5 ?_
  refine lv_astore_n (lv' := [(3, .ref (gB G + b5)), (0, .ref (gB G + a0)), (1, .int l1), (2, .int l2)]) hx hb dX8_tryFrom_6 rfl hl (by decide) rfl (fun ls hl => ?_)
  refine lv_iload_n hx hb dX8_tryFrom_7 rfl (lv_at hl 2 rfl) ?_
  refine lv_aload_n hx hb dX8_tryFrom_8 rfl (lv_at hl 0 rfl) ?_
  obtain ⟨b9, hg, h⟩ := ob h
  refine wz_gN C hW flX8_58 hg dX8_tryFrom_9 ?_
  obtain ⟨x12, hg, h⟩ := ob h
  refine wz_gI C hW flX8_61 hg dX8_tryFrom_12 ?_
  refine lv_icmp_ge (tgt := 23) hx hb dX8_tryFrom_15 (by decide) (fun c15 => ?_) (fun c15 => ?_)
  · have h := ite_t c15 h
    exact kbX8_tryFrom_3_23 C hlk hr a0 l2 b5 h hW (lv_sub hl [1, 3, 0] rfl)
  · have h := ite_f c15 h
    refine lv_iload_n hx hb dX8_tryFrom_18 rfl (lv_at hl 2 rfl) ?_
    refine lv_iconst (v := 4) hx hb dX8_tryFrom_19 (by decide) ?_
    refine lv_icmp_lt (tgt := 30) hx hb dX8_tryFrom_20 (by decide) (fun c20 => ?_) (fun c20 => ?_)
    · have h := ite_t c20 h
      refine lv_aload_n hx hb dX8_tryFrom_30 rfl (lv_at hl 1 rfl) ?_
      obtain ⟨b31, hg, h⟩ := ob h
      refine wz_gN C hW flX8_13 hg dX8_tryFrom_31 ?_
      refine lv_iload_n hx hb dX8_tryFrom_34 rfl (lv_at hl 2 rfl) ?_
      refine lv_iconst (v := 1) hx hb dX8_tryFrom_35 (by decide) ?_
      refine lv_iadd hx hb dX8_tryFrom_36 ?_
      obtain ⟨b37, hg, h⟩ := ob h
      refine wz_nld (Or.inr (Or.inr (Or.inl rfl))) C hW hg dX8_tryFrom_37 ?_
      refine lv_astore (lv' := [(4, .ref (gB G + b37)), (3, .ref (gB G + b5)), (0, .ref (gB G + a0)), (1, .int l1), (2, .int l2)]) hx hb dX8_tryFrom_38 hl (by decide) rfl (fun ls hl => ?_)
      refine lv_iconst (v := 0) hx hb dX8_tryFrom_40 (by decide) ?_
      refine lv_istore (lv' := [(5, .int (0 : Int32)), (4, .ref (gB G + b37)), (3, .ref (gB G + b5)), (0, .ref (gB G + a0)), (1, .int l1), (2, .int l2)]) hx hb dX8_tryFrom_41 hl (by decide) rfl (fun ls hl => ?_)
      exact klX8_tryFrom_3_43 C hlk hr FU a0 l1 l2 b5 b37 (0 : Int32) z _ _ _ h hW (lv_sub hl [3, 4, 5, 2, 1, 0] rfl)
    · have h := ite_f c20 h
      exact kbX8_tryFrom_3_23 C hlk hr a0 l2 b5 h hW (lv_sub hl [1, 3, 0] rfl)
abbrev rmX8_tryFrom_4 : Room := { frames := 8, cells := 0, slots := 0, locals := 226 }
def bX8_tryFrom_4_43 (k43 : Nat → Int32 → Int32 → Nat → Nat → Int32 → AH → Option AH) (a0 : Nat) (l1 : Int32) (l2 : Int32) (a3 : Nat) (a4 : Nat) (l5 : Int32) (z : AH) : Option AH :=
  (gN 5 0 z a3).bind fun b46 =>
  (gI 0 0 z b46).bind fun x49 =>
  if x49 ≤ l5 then (
    (fX6_copy a4 a3 z).bind fun z114 =>
    (gN 7 2 z114 a0).bind fun b118 =>
    (stI 0 z114 b118 l1 (8 : Int32)).bind fun z124 =>
    (fX8_tryFrom_3 a0 (l1 + (1 : Int32)) l2 z124).bind fun z130 =>
    some z130
  ) else (
    (gI 5 6 z a3).bind fun x56 =>
    (gI 5 11 z a3).bind fun x60 =>
    if (fX9_hasBit (x56 ||| x60) l5) = (0 : Int32) then (
      (fX6_copy a4 a3 z).bind fun z75 =>
      b2 (fX6_look a4 l1 l5 z75) fun x83 z83 =>
      (gN 7 2 z83 a0).bind fun b88 =>
      (stI 0 z83 b88 l1 l5).bind fun z94 =>
      (fX8_tryFrom_3 a0 (l1 + (1 : Int32)) (l2 + (1 : Int32)) z94).bind fun z102 =>
      nm (l5 + (1 : Int32)) fun v105 =>
      k43 a0 l1 l2 a3 a4 v105 z102
    ) else (
      nm (l5 + (1 : Int32)) fun v105 =>
      k43 a0 l1 l2 a3 a4 v105 z
    )
  )
set_option maxHeartbeats 4000000 in
set_option maxRecDepth 100000 in
theorem kbX8_tryFrom_4_43 {p : Program} {l : Launch} {e : Env} {s : State} {m : MethodId} {args : Array Value} {below : List Frame} {meth : Method} {c : Code} {G : GW} {z' : AH} (C : Cx p m c cX8_tryFrom 6 s args RX8 G) (hlk : meth.locks = false) (hr : meth.sig.returnType = none) (k43 : Nat → Int32 → Int32 → Nat → Nat → Int32 → AH → Option AH) (hk43 : ∀ (a0 : Nat) (l1 : Int32) (l2 : Int32) (a3 : Nat) (a4 : Nat) (l5 : Int32) (z : AH) (H : Heap) (locs : List Loc) (ls : Array Slot), k43 a0 l1 l2 a3 a4 l5 z = some z' → Wb G z s H locs → lv_has ls 6 [(0, .ref (gB G + a0)), (1, .int l1), (2, .int l2), (3, .ref (gB G + a3)), (4, .ref (gB G + a4)), (5, .int l5)] → W p l e rmX8_tryFrom_4 s m args below meth c H locs 0 0 (MQ below (Qv G z') args s 0 0 (AA G)) (F0 m 43 ls [])) (a0 : Nat) (l1 : Int32) (l2 : Int32) (a3 : Nat) (a4 : Nat) (l5 : Int32) {z : AH} {H : Heap} {locs : List Loc} {ls : Array Slot} (h : bX8_tryFrom_4_43 k43 a0 l1 l2 a3 a4 l5 z = some z') (hW : Wb G z s H locs) (hl : lv_has ls 6 [(0, .ref (gB G + a0)), (1, .int l1), (2, .int l2), (3, .ref (gB G + a3)), (4, .ref (gB G + a4)), (5, .int l5)]) : W p l e rmX8_tryFrom_4 s m args below meth c H locs 0 0 (MQ below (Qv G z') args s 0 0 (AA G)) (F0 m 43 ls []) := by
  have hx := C.1
  have hb := C.2.1
  unfold bX8_tryFrom_4_43 at h
  refine lv_iload hx hb dX8_tryFrom_43 (lv_at hl 5 rfl) ?_
  refine lv_aload_n hx hb dX8_tryFrom_45 rfl (lv_at hl 3 rfl) ?_
  obtain ⟨b46, hg, h⟩ := ob h
  refine wz_gN C hW flX8_58 hg dX8_tryFrom_46 ?_
  obtain ⟨x49, hg, h⟩ := ob h
  refine wz_gI C hW flX8_68 hg dX8_tryFrom_49 ?_
  refine lv_icmp_ge (tgt := 111) hx hb dX8_tryFrom_52 (by decide) (fun c52 => ?_) (fun c52 => ?_)
  · have h := ite_t c52 h
    refine lv_aload hx hb dX8_tryFrom_111 (lv_at hl 4 rfl) ?_
    refine lv_aload_n hx hb dX8_tryFrom_113 rfl (lv_at hl 3 rfl) ?_
    obtain ⟨z114, hq, h⟩ := ob h
    refine wz_rV (c' := 0) (s' := 0) hW (wz_runV (rest := []) C hW lVX8_81 (ck hq).1 rfl (ctX6_copy l G a4 a3 z hq) ⟨⟨rfl, rfl⟩, Nat.le_of_ble_eq_true rfl, Nat.le_of_ble_eq_true rfl⟩ rfl hl.1 rfl (Nat.le_of_ble_eq_true rfl) dX8_tryFrom_114 ⟨Nat.le_of_ble_eq_true rfl, Nat.le_of_ble_eq_true rfl⟩) rfl rfl (fun H locs hW => ?_)
    refine lv_aload_n hx hb dX8_tryFrom_117 rfl (lv_at hl 0 rfl) ?_
    obtain ⟨b118, hg, h⟩ := ob h
    refine wz_gN C hW flX8_26 hg dX8_tryFrom_118 ?_
    refine lv_iload_n hx hb dX8_tryFrom_121 rfl (lv_at hl 1 rfl) ?_
    refine lv_bipush (v := 8) hx hb dX8_tryFrom_122 (by decide) ?_
    obtain ⟨z124, hg, h⟩ := ob h
    refine wz_ast C hW hg dX8_tryFrom_124 (fun H locs hW => ?_)
    refine lv_aload_n hx hb dX8_tryFrom_125 rfl (lv_at hl 0 rfl) ?_
    refine lv_iload_n hx hb dX8_tryFrom_126 rfl (lv_at hl 1 rfl) ?_
    refine lv_iconst (v := 1) hx hb dX8_tryFrom_127 (by decide) ?_
    refine lv_iadd hx hb dX8_tryFrom_128 ?_
    refine lv_iload_n hx hb dX8_tryFrom_129 rfl (lv_at hl 2 rfl) ?_
    obtain ⟨z130, hq, h⟩ := ob h
    refine wz_rV (c' := 0) (s' := 0) hW (wz_runS (rest := []) C hW lTX8_50 (ctX8_tryFrom_3 l G a0 (l1 + (1 : Int32)) l2 z124 hq) ⟨⟨rfl, rfl⟩, Nat.le_of_ble_eq_true rfl, Nat.le_of_ble_eq_true rfl⟩ rfl hl.1 rfl (Nat.le_of_ble_eq_true rfl) dX8_tryFrom_130 ⟨Nat.le_of_ble_eq_true rfl, Nat.le_of_ble_eq_true rfl⟩) rfl rfl (fun H locs hW => ?_)
    exact wz_vretE C hlk hr (Option.some.inj h) hW dX8_tryFrom_133
  · have h := ite_f c52 h
    refine lv_aload_n hx hb dX8_tryFrom_55 rfl (lv_at hl 3 rfl) ?_
    obtain ⟨x56, hg, h⟩ := ob h
    refine wz_gI C hW flX8_71 hg dX8_tryFrom_56 ?_
    refine lv_aload_n hx hb dX8_tryFrom_59 rfl (lv_at hl 3 rfl) ?_
    obtain ⟨x60, hg, h⟩ := ob h
    refine wz_gI C hW flX8_74 hg dX8_tryFrom_60 ?_
    refine lv_ior hx hb dX8_tryFrom_63 ?_
    refine lv_iload hx hb dX8_tryFrom_64 (lv_at hl 5 rfl) ?_
    refine wz_rI (c' := 0) (s' := 0) hW (wz_runN (rest := []) C hW lNX8_77 (ctX9_hasBit l G (x56 ||| x60) l5 z rfl) ⟨⟨rfl, rfl⟩, Nat.le_of_ble_eq_true rfl, Nat.le_of_ble_eq_true rfl⟩ rfl hl.1 rfl (Nat.le_of_ble_eq_true rfl) dX8_tryFrom_66 ⟨Nat.le_of_ble_eq_true rfl, Nat.le_of_ble_eq_true rfl⟩) rfl rfl (fun H locs hW => ?_)
    refine lv_if_ne (tgt := 105) hx hb dX8_tryFrom_69 (by decide) (fun c69 => ?_) (fun c69 => ?_)
    · have h := ite_f c69 h
      obtain ⟨v105, ev105⟩ : ∃ y : Int32, y = (l5 + (1 : Int32)) := ⟨_, rfl⟩
      have h := nm_to h ev105
      refine lv_iinc (v := v105) (lv' := [(5, .int v105), (0, .ref (gB G + a0)), (1, .int l1), (2, .int l2), (3, .ref (gB G + a3)), (4, .ref (gB G + a4))]) hx hb dX8_tryFrom_105 hl (k := 5) rfl (by rw [ev105]; rfl) (by decide) rfl (fun ls hl => ?_)
      refine lv_goto (tgt := 43) hx hb dX8_tryFrom_108 (by decide) ?_
      exact hk43 a0 l1 l2 a3 a4 v105 z _ _ _ h hW (lv_sub hl [1, 2, 3, 4, 5, 0] rfl)
    · have h := ite_t c69 h
      refine lv_aload hx hb dX8_tryFrom_72 (lv_at hl 4 rfl) ?_
      refine lv_aload_n hx hb dX8_tryFrom_74 rfl (lv_at hl 3 rfl) ?_
      obtain ⟨z75, hq, h⟩ := ob h
      refine wz_rV (c' := 0) (s' := 0) hW (wz_runV (rest := []) C hW lVX8_81 (ck hq).1 rfl (ctX6_copy l G a4 a3 z hq) ⟨⟨rfl, rfl⟩, Nat.le_of_ble_eq_true rfl, Nat.le_of_ble_eq_true rfl⟩ rfl hl.1 rfl (Nat.le_of_ble_eq_true rfl) dX8_tryFrom_75 ⟨Nat.le_of_ble_eq_true rfl, Nat.le_of_ble_eq_true rfl⟩) rfl rfl (fun H locs hW => ?_)
      refine lv_aload hx hb dX8_tryFrom_78 (lv_at hl 4 rfl) ?_
      refine lv_iload_n hx hb dX8_tryFrom_80 rfl (lv_at hl 1 rfl) ?_
      refine lv_iload hx hb dX8_tryFrom_81 (lv_at hl 5 rfl) ?_
      obtain ⟨x83, z83, hq, h⟩ := ob2 h
      refine wz_rI (c' := 0) (s' := 0) hW (wz_runV (rest := []) C hW lVX8_85 (ck hq).1 rfl (ctX6_look l G a4 l1 l5 z75 hq) ⟨⟨rfl, rfl⟩, Nat.le_of_ble_eq_true rfl, Nat.le_of_ble_eq_true rfl⟩ rfl hl.1 rfl (Nat.le_of_ble_eq_true rfl) dX8_tryFrom_83 ⟨Nat.le_of_ble_eq_true rfl, Nat.le_of_ble_eq_true rfl⟩) rfl rfl (fun H locs hW => ?_)
      refine lv_pop hx hb dX8_tryFrom_86 rfl ?_
      refine lv_aload_n hx hb dX8_tryFrom_87 rfl (lv_at hl 0 rfl) ?_
      obtain ⟨b88, hg, h⟩ := ob h
      refine wz_gN C hW flX8_26 hg dX8_tryFrom_88 ?_
      refine lv_iload_n hx hb dX8_tryFrom_91 rfl (lv_at hl 1 rfl) ?_
      refine lv_iload hx hb dX8_tryFrom_92 (lv_at hl 5 rfl) ?_
      obtain ⟨z94, hg, h⟩ := ob h
      refine wz_ast C hW hg dX8_tryFrom_94 (fun H locs hW => ?_)
      refine lv_aload_n hx hb dX8_tryFrom_95 rfl (lv_at hl 0 rfl) ?_
      refine lv_iload_n hx hb dX8_tryFrom_96 rfl (lv_at hl 1 rfl) ?_
      refine lv_iconst (v := 1) hx hb dX8_tryFrom_97 (by decide) ?_
      refine lv_iadd hx hb dX8_tryFrom_98 ?_
      refine lv_iload_n hx hb dX8_tryFrom_99 rfl (lv_at hl 2 rfl) ?_
      refine lv_iconst (v := 1) hx hb dX8_tryFrom_100 (by decide) ?_
      refine lv_iadd hx hb dX8_tryFrom_101 ?_
      obtain ⟨z102, hq, h⟩ := ob h
      refine wz_rV (c' := 0) (s' := 0) hW (wz_runS (rest := []) C hW lTX8_50 (ctX8_tryFrom_3 l G a0 (l1 + (1 : Int32)) (l2 + (1 : Int32)) z94 hq) ⟨⟨rfl, rfl⟩, Nat.le_of_ble_eq_true rfl, Nat.le_of_ble_eq_true rfl⟩ rfl hl.1 rfl (Nat.le_of_ble_eq_true rfl) dX8_tryFrom_102 ⟨Nat.le_of_ble_eq_true rfl, Nat.le_of_ble_eq_true rfl⟩) rfl rfl (fun H locs hW => ?_)
      obtain ⟨v105, ev105⟩ : ∃ y : Int32, y = (l5 + (1 : Int32)) := ⟨_, rfl⟩
      have h := nm_to h ev105
      refine lv_iinc (v := v105) (lv' := [(5, .int v105), (0, .ref (gB G + a0)), (1, .int l1), (2, .int l2), (3, .ref (gB G + a3)), (4, .ref (gB G + a4))]) hx hb dX8_tryFrom_105 hl (k := 5) rfl (by rw [ev105]; rfl) (by decide) rfl (fun ls hl => ?_)
      refine lv_goto (tgt := 43) hx hb dX8_tryFrom_108 (by decide) ?_
      exact hk43 a0 l1 l2 a3 a4 v105 z102 _ _ _ h hW (lv_sub hl [1, 2, 3, 4, 5, 0] rfl)
def fX8_tryFrom_4_43 : Nat → Nat → Int32 → Int32 → Nat → Nat → Int32 → AH → Option AH
  | 0, _, _, _, _, _, _, _ => none
  | n + 1, a0, l1, l2, a3, a4, l5, z => bX8_tryFrom_4_43 (fX8_tryFrom_4_43 n) a0 l1 l2 a3 a4 l5 z
theorem klX8_tryFrom_4_43 {p : Program} {l : Launch} {e : Env} {s : State} {m : MethodId} {args : Array Value} {below : List Frame} {meth : Method} {c : Code} {G : GW} {z' : AH} (C : Cx p m c cX8_tryFrom 6 s args RX8 G) (hlk : meth.locks = false) (hr : meth.sig.returnType = none) : ∀ (n : Nat) (a0 : Nat) (l1 : Int32) (l2 : Int32) (a3 : Nat) (a4 : Nat) (l5 : Int32) (z : AH) (H : Heap) (locs : List Loc) (ls : Array Slot), fX8_tryFrom_4_43 n a0 l1 l2 a3 a4 l5 z = some z' → Wb G z s H locs → lv_has ls 6 [(0, .ref (gB G + a0)), (1, .int l1), (2, .int l2), (3, .ref (gB G + a3)), (4, .ref (gB G + a4)), (5, .int l5)] → W p l e rmX8_tryFrom_4 s m args below meth c H locs 0 0 (MQ below (Qv G z') args s 0 0 (AA G)) (F0 m 43 ls []) := by
  intro n
  induction n with
  | zero => intro a0 l1 l2 a3 a4 l5 z H locs ls h; have h : (none : Option AH) = some z' := h; cases h
  | succ n ih => intro a0 l1 l2 a3 a4 l5 z H locs ls h hW hl; exact kbX8_tryFrom_4_43 C hlk hr (fX8_tryFrom_4_43 n) (fun a0 l1 l2 a3 a4 l5 z H locs ls h hW hl => ih a0 l1 l2 a3 a4 l5 z H locs ls h hW hl) a0 l1 l2 a3 a4 l5 h hW hl
def bX8_tryFrom_4_23 (a0 : Nat) (l2 : Int32) (a3 : Nat) (z : AH) : Option AH :=
  (fX8_judge a0 a3 l2 z).bind fun z26 =>
  some z26
set_option maxHeartbeats 4000000 in
set_option maxRecDepth 100000 in
theorem kbX8_tryFrom_4_23 {p : Program} {l : Launch} {e : Env} {s : State} {m : MethodId} {args : Array Value} {below : List Frame} {meth : Method} {c : Code} {G : GW} {z' : AH} (C : Cx p m c cX8_tryFrom 6 s args RX8 G) (hlk : meth.locks = false) (hr : meth.sig.returnType = none) (a0 : Nat) (l2 : Int32) (a3 : Nat) {z : AH} {H : Heap} {locs : List Loc} {ls : Array Slot} (h : bX8_tryFrom_4_23 a0 l2 a3 z = some z') (hW : Wb G z s H locs) (hl : lv_has ls 6 [(0, .ref (gB G + a0)), (2, .int l2), (3, .ref (gB G + a3))]) : W p l e rmX8_tryFrom_4 s m args below meth c H locs 0 0 (MQ below (Qv G z') args s 0 0 (AA G)) (F0 m 23 ls []) := by
  have hx := C.1
  have hb := C.2.1
  unfold bX8_tryFrom_4_23 at h
  refine lv_aload_n hx hb dX8_tryFrom_23 rfl (lv_at hl 0 rfl) ?_
  refine lv_aload_n hx hb dX8_tryFrom_24 rfl (lv_at hl 2 rfl) ?_
  refine lv_iload_n hx hb dX8_tryFrom_25 rfl (lv_at hl 1 rfl) ?_
  obtain ⟨z26, hq, h⟩ := ob h
  refine wz_rV (c' := 0) (s' := 0) hW (wz_runV (rest := []) C hW lVX8_64 (ck hq).1 rfl (ctX8_judge l G a0 a3 l2 z hq) ⟨⟨rfl, rfl⟩, Nat.le_of_ble_eq_true rfl, Nat.le_of_ble_eq_true rfl⟩ rfl hl.1 rfl (Nat.le_of_ble_eq_true rfl) dX8_tryFrom_26 ⟨Nat.le_of_ble_eq_true rfl, Nat.le_of_ble_eq_true rfl⟩) rfl rfl (fun H locs hW => ?_)
  exact wz_vretE C hlk hr (Option.some.inj h) hW dX8_tryFrom_29
def fX8_tryFrom_4 (a0 : Nat) (l1 : Int32) (l2 : Int32) (z : AH) : Option AH :=
  (gN 7 0 z a0).bind fun b1 =>
  (ixN 5 z b1 l1).bind fun b5 =>
  (gN 5 0 z b5).bind fun b9 =>
  (gI 0 14 z b9).bind fun x12 =>
  if x12 ≤ l1 then (
    bX8_tryFrom_4_23 a0 l2 b5 z
  ) else (
    if l1 < (4 : Int32) then (
      (gN 7 0 z a0).bind fun b31 =>
      (ixN 5 z b31 (l1 + (1 : Int32))).bind fun b37 =>
      fX8_tryFrom_4_43 FU a0 l1 l2 b5 b37 (0 : Int32) z
    ) else (
      bX8_tryFrom_4_23 a0 l2 b5 z
    )
  )
set_option maxHeartbeats 4000000 in
set_option maxRecDepth 100000 in
theorem ctX8_tryFrom_4 (l : Launch) (G : GW) (a0 : Nat) (l1 : Int32) (l2 : Int32) (z : AH) {z' : AH} (h : fX8_tryFrom_4 a0 l1 l2 z = some z') : Met l yX8_tryFrom (wy yX8_tryFrom cX8_tryFrom 6 none) rmX8_tryFrom_4 (Pz G [.ref (gB G + a0), .int l1, .int l2] z) (Qv G z') 0 0 (AA G) := by
  refine wz_ent (own := RX8) (by decide +kernel) rfl (fun p e s m below meth c ls C hlk hr hin hW hl => ?_) (Nat.le_of_ble_eq_true rfl)
  have hl : lv_has ls 6 [(0, .ref (gB G + a0)), (1, .int l1), (2, .int l2)] := hl
  have hx := C.1
  have hb := C.2.1
  unfold fX8_tryFrom_4 at h
  refine lv_aload_n hx hb dX8_tryFrom_0 rfl (lv_at hl 0 rfl) ?_
  obtain ⟨b1, hg, h⟩ := ob h
  refine wz_gN C hW flX8_13 hg dX8_tryFrom_1 ?_
  refine lv_iload_n hx hb dX8_tryFrom_4 rfl (lv_at hl 1 rfl) ?_
  obtain ⟨b5, hg, h⟩ := ob h
  refine wz_nld (Or.inr (Or.inr (Or.inl rfl))) C hW hg dX8_tryFrom_5 ?_
  refine lv_astore_n (lv' := [(3, .ref (gB G + b5)), (0, .ref (gB G + a0)), (1, .int l1), (2, .int l2)]) hx hb dX8_tryFrom_6 rfl hl (by decide) rfl (fun ls hl => ?_)
  refine lv_iload_n hx hb dX8_tryFrom_7 rfl (lv_at hl 2 rfl) ?_
  refine lv_aload_n hx hb dX8_tryFrom_8 rfl (lv_at hl 0 rfl) ?_
  obtain ⟨b9, hg, h⟩ := ob h
  refine wz_gN C hW flX8_58 hg dX8_tryFrom_9 ?_
  obtain ⟨x12, hg, h⟩ := ob h
  refine wz_gI C hW flX8_61 hg dX8_tryFrom_12 ?_
  refine lv_icmp_ge (tgt := 23) hx hb dX8_tryFrom_15 (by decide) (fun c15 => ?_) (fun c15 => ?_)
  · have h := ite_t c15 h
    exact kbX8_tryFrom_4_23 C hlk hr a0 l2 b5 h hW (lv_sub hl [1, 3, 0] rfl)
  · have h := ite_f c15 h
    refine lv_iload_n hx hb dX8_tryFrom_18 rfl (lv_at hl 2 rfl) ?_
    refine lv_iconst (v := 4) hx hb dX8_tryFrom_19 (by decide) ?_
    refine lv_icmp_lt (tgt := 30) hx hb dX8_tryFrom_20 (by decide) (fun c20 => ?_) (fun c20 => ?_)
    · have h := ite_t c20 h
      refine lv_aload_n hx hb dX8_tryFrom_30 rfl (lv_at hl 1 rfl) ?_
      obtain ⟨b31, hg, h⟩ := ob h
      refine wz_gN C hW flX8_13 hg dX8_tryFrom_31 ?_
      refine lv_iload_n hx hb dX8_tryFrom_34 rfl (lv_at hl 2 rfl) ?_
      refine lv_iconst (v := 1) hx hb dX8_tryFrom_35 (by decide) ?_
      refine lv_iadd hx hb dX8_tryFrom_36 ?_
      obtain ⟨b37, hg, h⟩ := ob h
      refine wz_nld (Or.inr (Or.inr (Or.inl rfl))) C hW hg dX8_tryFrom_37 ?_
      refine lv_astore (lv' := [(4, .ref (gB G + b37)), (3, .ref (gB G + b5)), (0, .ref (gB G + a0)), (1, .int l1), (2, .int l2)]) hx hb dX8_tryFrom_38 hl (by decide) rfl (fun ls hl => ?_)
      refine lv_iconst (v := 0) hx hb dX8_tryFrom_40 (by decide) ?_
      refine lv_istore (lv' := [(5, .int (0 : Int32)), (4, .ref (gB G + b37)), (3, .ref (gB G + b5)), (0, .ref (gB G + a0)), (1, .int l1), (2, .int l2)]) hx hb dX8_tryFrom_41 hl (by decide) rfl (fun ls hl => ?_)
      exact klX8_tryFrom_4_43 C hlk hr FU a0 l1 l2 b5 b37 (0 : Int32) z _ _ _ h hW (lv_sub hl [3, 4, 5, 2, 1, 0] rfl)
    · have h := ite_f c20 h
      exact kbX8_tryFrom_4_23 C hlk hr a0 l2 b5 h hW (lv_sub hl [1, 3, 0] rfl)
theorem dX8_search_0 : decode cX8_search 0 = .ok (.aload_n 1, 1) := by decide +kernel
theorem dX8_search_1 : decode cX8_search 1 = .ok (.aload_n 0, 1) := by decide +kernel
theorem dX8_search_2 : decode cX8_search 2 = .ok (.getfield 33, 3) := by decide +kernel
theorem dX8_search_5 : decode cX8_search 5 = .ok (.if_acmp .ne 4, 3) := by decide +kernel
theorem dX8_search_8 : decode cX8_search 8 = .ok (.return_, 1) := by decide +kernel
theorem dX8_search_9 : decode cX8_search 9 = .ok (.aload_n 0, 1) := by decide +kernel
theorem dX8_search_10 : decode cX8_search 10 = .ok (.aload_n 1, 1) := by decide +kernel
theorem dX8_search_11 : decode cX8_search 11 = .ok (.putfield 33, 3) := by decide +kernel
theorem dX8_search_14 : decode cX8_search 14 = .ok (.aload_n 0, 1) := by decide +kernel
theorem dX8_search_15 : decode cX8_search 15 = .ok (.iconst (-1), 1) := by decide +kernel
theorem dX8_search_16 : decode cX8_search 16 = .ok (.putfield 37, 3) := by decide +kernel
theorem dX8_search_19 : decode cX8_search 19 = .ok (.aload_n 0, 1) := by decide +kernel
theorem dX8_search_20 : decode cX8_search 20 = .ok (.iconst (-1), 1) := by decide +kernel
theorem dX8_search_21 : decode cX8_search 21 = .ok (.putfield 41, 3) := by decide +kernel
theorem dX8_search_24 : decode cX8_search 24 = .ok (.aload_n 0, 1) := by decide +kernel
theorem dX8_search_25 : decode cX8_search 25 = .ok (.iconst (-1), 1) := by decide +kernel
theorem dX8_search_26 : decode cX8_search 26 = .ok (.putfield 44, 3) := by decide +kernel
theorem dX8_search_29 : decode cX8_search 29 = .ok (.aload_n 0, 1) := by decide +kernel
theorem dX8_search_30 : decode cX8_search 30 = .ok (.getfield 13, 3) := by decide +kernel
theorem dX8_search_33 : decode cX8_search 33 = .ok (.iconst 0, 1) := by decide +kernel
theorem dX8_search_34 : decode cX8_search 34 = .ok (.aaload, 1) := by decide +kernel
theorem dX8_search_35 : decode cX8_search 35 = .ok (.aload_n 1, 1) := by decide +kernel
theorem dX8_search_36 : decode cX8_search 36 = .ok (.invokevirtual 47, 3) := by decide +kernel
theorem dX8_search_39 : decode cX8_search 39 = .ok (.aload_n 0, 1) := by decide +kernel
theorem dX8_search_40 : decode cX8_search 40 = .ok (.iconst 0, 1) := by decide +kernel
theorem dX8_search_41 : decode cX8_search 41 = .ok (.iconst 0, 1) := by decide +kernel
theorem dX8_search_42 : decode cX8_search 42 = .ok (.invokestatic 50, 3) := by decide +kernel
theorem dX8_search_45 : decode cX8_search 45 = .ok (.return_, 1) := by decide +kernel
theorem flX8_33 : FL RX8 33 7 4 := ⟨_, rfl, Nat.le_of_ble_eq_true rfl, tw 417 (by decide +kernel) rfl, rfl⟩
theorem cdX6_begin : Cond.code yX6_begin cX6_begin 2 none ∈ tz := tc3 218 rfl rfl
theorem lVX8_47 : LV RX8 47 yX6_begin cX6_begin 2 none 1 := ⟨tw 911 (by decide +kernel) rfl, tw 815 (by decide +kernel) rfl, tw 816 (by decide +kernel) rfl, tw 124 (by decide +kernel) rfl, cdX6_begin, ⟨by decide +kernel, by decide +kernel, by decide +kernel⟩⟩
abbrev rmX8_search : Room := { frames := 9, cells := 0, slots := 0, locals := 251 }
def fX8_search (a0 : Nat) (a1 : Nat) (z : AH) : Option AH :=
  if isO 7 z a0 = true then
    (gQ 7 4 z a0).bind fun q2_ =>
    if (some a1) = q2_ then (
      some z
    ) else (
      (pF 7 4 z a0 (.ref a1)).bind fun z11 =>
      (pF 7 5 z11 a0 (.int (-1 : Int32))).bind fun z16 =>
      (pF 7 6 z16 a0 (.int (-1 : Int32))).bind fun z21 =>
      (pF 7 7 z21 a0 (.int (-1 : Int32))).bind fun z26 =>
      (gN 7 0 z26 a0).bind fun b30 =>
      (ixN 5 z26 b30 (0 : Int32)).bind fun b34 =>
      (fX6_begin b34 a1 z26).bind fun z36 =>
      (fX8_tryFrom_4 a0 (0 : Int32) (0 : Int32) z36).bind fun z42 =>
      some z42
    )
  else none
set_option maxHeartbeats 4000000 in
set_option maxRecDepth 100000 in
theorem ctX8_search (l : Launch) (G : GW) (a0 : Nat) (a1 : Nat) (z : AH) {z' : AH} (h : fX8_search a0 a1 z = some z') : Met l yX8_search (wy yX8_search cX8_search 2 none) rmX8_search (Pz G [.ref (gB G + a0), .ref (gB G + a1)] z) (Qv G z') 0 0 (AA G) := by
  refine wz_ent (own := RX8) (by decide +kernel) rfl (fun p e s m below meth c ls C hlk hr hin hW hl => ?_) (Nat.le_of_ble_eq_true rfl)
  have hl : lv_has ls 2 [(0, .ref (gB G + a0)), (1, .ref (gB G + a1))] := hl
  have hx := C.1
  have hb := C.2.1
  unfold fX8_search at h
  obtain ⟨-, h⟩ := ck h
  refine lv_aload_n hx hb dX8_search_0 rfl (lv_at hl 1 rfl) ?_
  refine lv_aload_n hx hb dX8_search_1 rfl (lv_at hl 0 rfl) ?_
  obtain ⟨q2_, hg, h⟩ := ob h
  refine wz_gQ C hW flX8_33 hg dX8_search_2 ?_
  refine wz_acmp_ne (r1 := (some a1)) (r2 := q2_) (tgt := 9) C dX8_search_5 (by decide) (fun c5 => ?_) (fun c5 => ?_)
  · have h := ite_f c5 h
    refine lv_aload_n hx hb dX8_search_9 rfl (lv_at hl 0 rfl) ?_
    refine lv_aload_n hx hb dX8_search_10 rfl (lv_at hl 1 rfl) ?_
    obtain ⟨z11, hg, h⟩ := ob h
    refine wz_put (v := (.ref a1)) C hW flX8_33 rfl rfl hg dX8_search_11 (fun H locs hW => ?_)
    refine lv_aload_n hx hb dX8_search_14 rfl (lv_at hl 0 rfl) ?_
    refine lv_iconst (v := -1) hx hb dX8_search_15 (by decide) ?_
    obtain ⟨z16, hg, h⟩ := ob h
    refine wz_put (v := (.int (-1 : Int32))) C hW flX8_37 rfl rfl hg dX8_search_16 (fun H locs hW => ?_)
    refine lv_aload_n hx hb dX8_search_19 rfl (lv_at hl 0 rfl) ?_
    refine lv_iconst (v := -1) hx hb dX8_search_20 (by decide) ?_
    obtain ⟨z21, hg, h⟩ := ob h
    refine wz_put (v := (.int (-1 : Int32))) C hW flX8_41 rfl rfl hg dX8_search_21 (fun H locs hW => ?_)
    refine lv_aload_n hx hb dX8_search_24 rfl (lv_at hl 0 rfl) ?_
    refine lv_iconst (v := -1) hx hb dX8_search_25 (by decide) ?_
    obtain ⟨z26, hg, h⟩ := ob h
    refine wz_put (v := (.int (-1 : Int32))) C hW flX8_44 rfl rfl hg dX8_search_26 (fun H locs hW => ?_)
    refine lv_aload_n hx hb dX8_search_29 rfl (lv_at hl 0 rfl) ?_
    obtain ⟨b30, hg, h⟩ := ob h
    refine wz_gN C hW flX8_13 hg dX8_search_30 ?_
    refine lv_iconst (v := 0) hx hb dX8_search_33 (by decide) ?_
    obtain ⟨b34, hg, h⟩ := ob h
    refine wz_nld (Or.inr (Or.inr (Or.inl rfl))) C hW hg dX8_search_34 ?_
    refine lv_aload_n hx hb dX8_search_35 rfl (lv_at hl 1 rfl) ?_
    obtain ⟨z36, hq, h⟩ := ob h
    refine wz_rV (c' := 0) (s' := 0) hW (wz_runV (rest := []) C hW lVX8_47 (ck hq).1 rfl (ctX6_begin l G b34 a1 z26 hq) ⟨⟨rfl, rfl⟩, Nat.le_of_ble_eq_true rfl, Nat.le_of_ble_eq_true rfl⟩ rfl hl.1 rfl (Nat.le_of_ble_eq_true rfl) dX8_search_36 ⟨Nat.le_of_ble_eq_true rfl, Nat.le_of_ble_eq_true rfl⟩) rfl rfl (fun H locs hW => ?_)
    refine lv_aload_n hx hb dX8_search_39 rfl (lv_at hl 0 rfl) ?_
    refine lv_iconst (v := 0) hx hb dX8_search_40 (by decide) ?_
    refine lv_iconst (v := 0) hx hb dX8_search_41 (by decide) ?_
    obtain ⟨z42, hq, h⟩ := ob h
    refine wz_rV (c' := 0) (s' := 0) hW (wz_runS (rest := []) C hW lTX8_50 (ctX8_tryFrom_4 l G a0 (0 : Int32) (0 : Int32) z36 hq) ⟨⟨rfl, rfl⟩, Nat.le_of_ble_eq_true rfl, Nat.le_of_ble_eq_true rfl⟩ rfl hl.1 rfl (Nat.le_of_ble_eq_true rfl) dX8_search_42 ⟨Nat.le_of_ble_eq_true rfl, Nat.le_of_ble_eq_true rfl⟩) rfl rfl (fun H locs hW => ?_)
    exact wz_vretE C hlk hr (Option.some.inj h) hW dX8_search_45
  · have h := ite_t c5 h
    exact wz_vretE C hlk hr (Option.some.inj h) hW dX8_search_8
theorem dX8_init_0 : decode cX8_init 0 = .ok (.aload_n 0, 1) := by decide +kernel
theorem dX8_init_1 : decode cX8_init 1 = .ok (.invokespecial 3, 3) := by decide +kernel
theorem dX8_init_4 : decode cX8_init 4 = .ok (.aload_n 0, 1) := by decide +kernel
theorem dX8_init_5 : decode cX8_init 5 = .ok (.iconst 5, 1) := by decide +kernel
theorem dX8_init_6 : decode cX8_init 6 = .ok (.anewarray 11, 3) := by decide +kernel
theorem dX8_init_9 : decode cX8_init 9 = .ok (.putfield 13, 3) := by decide +kernel
theorem dX8_init_12 : decode cX8_init 12 = .ok (.iconst 0, 1) := by decide +kernel
theorem dX8_init_13 : decode cX8_init 13 = .ok (.istore_n 2, 1) := by decide +kernel
theorem dX8_init_14 : decode cX8_init 14 = .ok (.iload_n 2, 1) := by decide +kernel
theorem dX8_init_15 : decode cX8_init 15 = .ok (.aload_n 0, 1) := by decide +kernel
theorem dX8_init_16 : decode cX8_init 16 = .ok (.getfield 13, 3) := by decide +kernel
theorem dX8_init_19 : decode cX8_init 19 = .ok (.arraylength, 1) := by decide +kernel
theorem dX8_init_20 : decode cX8_init 20 = .ok (.if_icmp .ge 23, 3) := by decide +kernel
theorem dX8_init_23 : decode cX8_init 23 = .ok (.aload_n 0, 1) := by decide +kernel
theorem dX8_init_24 : decode cX8_init 24 = .ok (.getfield 13, 3) := by decide +kernel
theorem dX8_init_27 : decode cX8_init 27 = .ok (.iload_n 2, 1) := by decide +kernel
theorem dX8_init_28 : decode cX8_init 28 = .ok (.new 11, 3) := by decide +kernel
theorem dX8_init_31 : decode cX8_init 31 = .ok (.dup, 1) := by decide +kernel
theorem dX8_init_32 : decode cX8_init 32 = .ok (.aload_n 1, 1) := by decide +kernel
theorem dX8_init_33 : decode cX8_init 33 = .ok (.invokespecial 19, 3) := by decide +kernel
theorem dX8_init_36 : decode cX8_init 36 = .ok (.aastore, 1) := by decide +kernel
theorem dX8_init_37 : decode cX8_init 37 = .ok (.iinc 2 1, 3) := by decide +kernel
theorem dX8_init_40 : decode cX8_init 40 = .ok (.goto (-26), 3) := by decide +kernel
theorem dX8_init_43 : decode cX8_init 43 = .ok (.aload_n 0, 1) := by decide +kernel
theorem dX8_init_44 : decode cX8_init 44 = .ok (.new 11, 3) := by decide +kernel
theorem dX8_init_47 : decode cX8_init 47 = .ok (.dup, 1) := by decide +kernel
theorem dX8_init_48 : decode cX8_init 48 = .ok (.aload_n 1, 1) := by decide +kernel
theorem dX8_init_49 : decode cX8_init 49 = .ok (.invokespecial 19, 3) := by decide +kernel
theorem dX8_init_52 : decode cX8_init 52 = .ok (.putfield 22, 3) := by decide +kernel
theorem dX8_init_55 : decode cX8_init 55 = .ok (.aload_n 0, 1) := by decide +kernel
theorem dX8_init_56 : decode cX8_init 56 = .ok (.iconst 4, 1) := by decide +kernel
theorem dX8_init_57 : decode cX8_init 57 = .ok (.newarray .int, 2) := by decide +kernel
theorem dX8_init_59 : decode cX8_init 59 = .ok (.putfield 26, 3) := by decide +kernel
theorem dX8_init_62 : decode cX8_init 62 = .ok (.aload_n 0, 1) := by decide +kernel
theorem dX8_init_63 : decode cX8_init 63 = .ok (.iconst 4, 1) := by decide +kernel
theorem dX8_init_64 : decode cX8_init 64 = .ok (.newarray .int, 2) := by decide +kernel
theorem dX8_init_66 : decode cX8_init 66 = .ok (.putfield 30, 3) := by decide +kernel
theorem dX8_init_69 : decode cX8_init 69 = .ok (.aload_n 0, 1) := by decide +kernel
theorem dX8_init_70 : decode cX8_init 70 = .ok (.aconst_null, 1) := by decide +kernel
theorem dX8_init_71 : decode cX8_init 71 = .ok (.putfield 33, 3) := by decide +kernel
theorem dX8_init_74 : decode cX8_init 74 = .ok (.return_, 1) := by decide +kernel
theorem cdX6_init : Cond.code yX6_init cX6_init 2 none ∈ tz := tc1 228 rfl rfl
theorem lIX8_19 : LI RX8 19 yX6_init cX6_init 2 1 := ⟨tw 412 (by decide +kernel) rfl, tw 346 (by decide +kernel) rfl, rfl, tw 124 (by decide +kernel) rfl, cdX6_init, ⟨by decide +kernel, by decide +kernel, by decide +kernel⟩⟩
abbrev rmX8_init : Room := { frames := 2, cells := 33, slots := 271, locals := 41 }
def fX8_init (a0 : Nat) (a1 : Nat) (z : AH) : Option AH :=
  if isO 7 z a0 = true then
    mk (.inr (.inl (5, 5, fun _ => none))) z fun b6 z6 =>
    (pF 7 0 z6 a0 (.ref b6)).bind fun z9 =>
    (gN 7 0 z9 a0).bind fun b16 =>
    (lnQ 5 z9 b16).bind fun x19 =>
    if x19 = (5 : Int32) then (
    (gN 7 0 z9 a0).bind fun b24 =>
    mk (.inr (.inr (5, newF 5))) z9 fun b28 z28 =>
    (fX6_init b28 a1 z28).bind fun z33 =>
    (stQ 5 z33 b24 (0 : Int32) (some b28)).bind fun z36 =>
    (gN 7 0 z36 a0).bind fun b16_2 =>
    (lnQ 5 z36 b16_2).bind fun x19_2 =>
    if x19_2 = (5 : Int32) then (
    (gN 7 0 z36 a0).bind fun b24_2 =>
    mk (.inr (.inr (5, newF 5))) z36 fun b28_2 z28_2 =>
    (fX6_init b28_2 a1 z28_2).bind fun z33_2 =>
    (stQ 5 z33_2 b24_2 (1 : Int32) (some b28_2)).bind fun z36_2 =>
    (gN 7 0 z36_2 a0).bind fun b16_3 =>
    (lnQ 5 z36_2 b16_3).bind fun x19_3 =>
    if x19_3 = (5 : Int32) then (
    (gN 7 0 z36_2 a0).bind fun b24_3 =>
    mk (.inr (.inr (5, newF 5))) z36_2 fun b28_3 z28_3 =>
    (fX6_init b28_3 a1 z28_3).bind fun z33_3 =>
    (stQ 5 z33_3 b24_3 (2 : Int32) (some b28_3)).bind fun z36_3 =>
    (gN 7 0 z36_3 a0).bind fun b16_4 =>
    (lnQ 5 z36_3 b16_4).bind fun x19_4 =>
    if x19_4 = (5 : Int32) then (
    (gN 7 0 z36_3 a0).bind fun b24_4 =>
    mk (.inr (.inr (5, newF 5))) z36_3 fun b28_4 z28_4 =>
    (fX6_init b28_4 a1 z28_4).bind fun z33_4 =>
    (stQ 5 z33_4 b24_4 (3 : Int32) (some b28_4)).bind fun z36_4 =>
    (gN 7 0 z36_4 a0).bind fun b16_5 =>
    (lnQ 5 z36_4 b16_5).bind fun x19_5 =>
    if x19_5 = (5 : Int32) then (
    (gN 7 0 z36_4 a0).bind fun b24_5 =>
    mk (.inr (.inr (5, newF 5))) z36_4 fun b28_5 z28_5 =>
    (fX6_init b28_5 a1 z28_5).bind fun z33_5 =>
    (stQ 5 z33_5 b24_5 (4 : Int32) (some b28_5)).bind fun z36_5 =>
    (gN 7 0 z36_5 a0).bind fun b16_6 =>
    (lnQ 5 z36_5 b16_6).bind fun x19_6 =>
    if x19_6 = (5 : Int32) then (
    mk (.inr (.inr (5, newF 5))) z36_5 fun b44 z44 =>
    (fX6_init b44 a1 z44).bind fun z49 =>
    (pF 7 1 z49 a0 (.ref b44)).bind fun z52 =>
    mk (.inl (0, 4, fun _ => 0)) z52 fun b57 z57 =>
    (pF 7 2 z57 a0 (.ref b57)).bind fun z59 =>
    mk (.inl (0, 4, fun _ => 0)) z59 fun b64 z64 =>
    (pF 7 3 z64 a0 (.ref b64)).bind fun z66 =>
    (pF 7 4 z66 a0 .null).bind fun z71 =>
    some z71
    ) else none
    ) else none
    ) else none
    ) else none
    ) else none
    ) else none
  else none
set_option maxHeartbeats 4000000 in
set_option maxRecDepth 100000 in
theorem ctX8_init (l : Launch) (G : GW) (a0 : Nat) (a1 : Nat) (z : AH) {z' : AH} (h : fX8_init a0 a1 z = some z') : Met l yX8_init (wy yX8_init cX8_init 3 none) rmX8_init (Pz G [.ref (gB G + a0), .ref (gB G + a1)] z) (Qv G z') 33 271 (AA G) := by
  refine wz_ent (own := RX8) (by decide +kernel) rfl (fun p e s m below meth c ls C hlk hr hin hW hl => ?_) (Nat.le_of_ble_eq_true rfl)
  have hl : lv_has ls 3 [(0, .ref (gB G + a0)), (1, .ref (gB G + a1))] := hl
  have hx := C.1
  have hb := C.2.1
  unfold fX8_init at h
  obtain ⟨-, h⟩ := ck h
  refine lv_aload_n hx hb dX8_init_0 rfl (lv_at hl 0 rfl) ?_
  refine wz_obj ⟨tw 409 (by decide +kernel) rfl, tw 144 (by decide +kernel) rfl, tw 145 (by decide +kernel) rfl⟩ C hl.1 dX8_init_1 ⟨Nat.le_of_ble_eq_true rfl, Nat.le_of_ble_eq_true rfl⟩ ?_
  refine lv_aload_n hx hb dX8_init_4 rfl (lv_at hl 0 rfl) ?_
  refine lv_iconst (v := 5) hx hb dX8_init_5 (by decide) ?_
  obtain ⟨b6, z6, ea, ez, h⟩ := mk_ob h
  refine wz_newQK (N := 5) (c' := 1) (s' := 5) ea ez (Or.inr (Or.inr (Or.inl rfl))) (tw 410 (by decide +kernel) rfl) C hW (by decide) (by decide +kernel) (Nat.le_of_ble_eq_true rfl) ⟨Nat.le_of_ble_eq_true rfl, Nat.le_of_ble_eq_true rfl⟩ rfl rfl dX8_init_6 (fun H hW => ?_)
  obtain ⟨z9, hg, h⟩ := ob h
  refine wz_putF (v := (.ref b6)) C hin hW flX8_13 rfl rfl hg dX8_init_9 (fun H locs hW => ?_)
  refine lv_iconst (v := 0) hx hb dX8_init_12 (by decide) ?_
  refine lv_istore_n (lv' := [(2, .int (0 : Int32)), (0, .ref (gB G + a0)), (1, .ref (gB G + a1))]) hx hb dX8_init_13 rfl hl (by decide) rfl (fun ls hl => ?_)
  refine lv_iload_n hx hb dX8_init_14 rfl (lv_at hl 0 rfl) ?_
  refine lv_aload_n hx hb dX8_init_15 rfl (lv_at hl 1 rfl) ?_
  obtain ⟨b16, hg, h⟩ := ob h
  refine wz_gN C hW flX8_13 hg dX8_init_16 ?_
  obtain ⟨x19, hg, h⟩ := ob h
  refine wz_lenQ (Or.inr (Or.inr (Or.inl rfl))) C hW hg dX8_init_19 ?_
  have hq5 := (ck h).1
  replace h := (ck h).2
  subst hq5
  refine lv_icmp_ge (tgt := 43) hx hb dX8_init_20 (by decide) (fun q => absurd q (by decide)) (fun _ => ?_)
  refine lv_aload_n hx hb dX8_init_23 rfl (lv_at hl 1 rfl) ?_
  obtain ⟨b24, hg, h⟩ := ob h
  refine wz_gN C hW flX8_13 hg dX8_init_24 ?_
  refine lv_iload_n hx hb dX8_init_27 rfl (lv_at hl 0 rfl) ?_
  obtain ⟨b28, z28, ea, ez, h⟩ := mk_ob h
  refine wz_newK (c' := 2) (s' := 20) ea ez ⟨_, rfl⟩ ⟨tw 410 (by decide +kernel) rfl, tw 344 (by decide +kernel) rfl, tw 124 (by decide +kernel) rfl⟩ C hW ⟨Nat.le_of_ble_eq_true rfl, Nat.le_of_ble_eq_true rfl⟩ rfl rfl dX8_init_28 (fun H hW => ?_)
  refine lv_dup hx hb dX8_init_31 rfl ?_
  refine lv_aload_n hx hb dX8_init_32 rfl (lv_at hl 2 rfl) ?_
  obtain ⟨z33, hq, h⟩ := ob h
  refine wz_rV (c' := 6) (s' := 48) hW (wz_runI (rest := [.ref (gB G + b28), .int (0 : Int32), .ref (gB G + b24)]) C hW lIX8_19 (ctX6_init l G b28 a1 z28 hq) ⟨⟨rfl, rfl⟩, Nat.le_of_ble_eq_true rfl, Nat.le_of_ble_eq_true rfl⟩ rfl hl.1 rfl (Nat.le_of_ble_eq_true rfl) dX8_init_33 ⟨Nat.le_of_ble_eq_true rfl, Nat.le_of_ble_eq_true rfl⟩) rfl rfl (fun H locs hW => ?_)
  obtain ⟨z36, hg, h⟩ := ob h
  refine wz_qst (Or.inr (Or.inr (Or.inl rfl))) C hW hg dX8_init_36 (fun H locs hW => ?_)
  refine lv_iinc (v := 1) (lv' := [(2, .int (1 : Int32)), (0, .ref (gB G + a0)), (1, .ref (gB G + a1))]) hx hb dX8_init_37 hl (k := 0) rfl (by decide) (by decide) rfl (fun ls hl => ?_)
  refine lv_goto (tgt := 14) hx hb dX8_init_40 (by decide) ?_
  refine lv_iload_n hx hb dX8_init_14 rfl (lv_at hl 0 rfl) ?_
  refine lv_aload_n hx hb dX8_init_15 rfl (lv_at hl 1 rfl) ?_
  obtain ⟨b16_2, hg, h⟩ := ob h
  refine wz_gN C hW flX8_13 hg dX8_init_16 ?_
  obtain ⟨x19_2, hg, h⟩ := ob h
  refine wz_lenQ (Or.inr (Or.inr (Or.inl rfl))) C hW hg dX8_init_19 ?_
  have hq5 := (ck h).1
  replace h := (ck h).2
  subst hq5
  refine lv_icmp_ge (tgt := 43) hx hb dX8_init_20 (by decide) (fun q => absurd q (by decide)) (fun _ => ?_)
  refine lv_aload_n hx hb dX8_init_23 rfl (lv_at hl 1 rfl) ?_
  obtain ⟨b24_2, hg, h⟩ := ob h
  refine wz_gN C hW flX8_13 hg dX8_init_24 ?_
  refine lv_iload_n hx hb dX8_init_27 rfl (lv_at hl 0 rfl) ?_
  obtain ⟨b28_2, z28_2, ea, ez, h⟩ := mk_ob h
  refine wz_newK (c' := 7) (s' := 63) ea ez ⟨_, rfl⟩ ⟨tw 410 (by decide +kernel) rfl, tw 344 (by decide +kernel) rfl, tw 124 (by decide +kernel) rfl⟩ C hW ⟨Nat.le_of_ble_eq_true rfl, Nat.le_of_ble_eq_true rfl⟩ rfl rfl dX8_init_28 (fun H hW => ?_)
  refine lv_dup hx hb dX8_init_31 rfl ?_
  refine lv_aload_n hx hb dX8_init_32 rfl (lv_at hl 2 rfl) ?_
  obtain ⟨z33_2, hq, h⟩ := ob h
  refine wz_rV (c' := 11) (s' := 91) hW (wz_runI (rest := [.ref (gB G + b28_2), .int (1 : Int32), .ref (gB G + b24_2)]) C hW lIX8_19 (ctX6_init l G b28_2 a1 z28_2 hq) ⟨⟨rfl, rfl⟩, Nat.le_of_ble_eq_true rfl, Nat.le_of_ble_eq_true rfl⟩ rfl hl.1 rfl (Nat.le_of_ble_eq_true rfl) dX8_init_33 ⟨Nat.le_of_ble_eq_true rfl, Nat.le_of_ble_eq_true rfl⟩) rfl rfl (fun H locs hW => ?_)
  obtain ⟨z36_2, hg, h⟩ := ob h
  refine wz_qst (Or.inr (Or.inr (Or.inl rfl))) C hW hg dX8_init_36 (fun H locs hW => ?_)
  refine lv_iinc (v := 2) (lv' := [(2, .int (2 : Int32)), (0, .ref (gB G + a0)), (1, .ref (gB G + a1))]) hx hb dX8_init_37 hl (k := 0) rfl (by decide) (by decide) rfl (fun ls hl => ?_)
  refine lv_goto (tgt := 14) hx hb dX8_init_40 (by decide) ?_
  refine lv_iload_n hx hb dX8_init_14 rfl (lv_at hl 0 rfl) ?_
  refine lv_aload_n hx hb dX8_init_15 rfl (lv_at hl 1 rfl) ?_
  obtain ⟨b16_3, hg, h⟩ := ob h
  refine wz_gN C hW flX8_13 hg dX8_init_16 ?_
  obtain ⟨x19_3, hg, h⟩ := ob h
  refine wz_lenQ (Or.inr (Or.inr (Or.inl rfl))) C hW hg dX8_init_19 ?_
  have hq5 := (ck h).1
  replace h := (ck h).2
  subst hq5
  refine lv_icmp_ge (tgt := 43) hx hb dX8_init_20 (by decide) (fun q => absurd q (by decide)) (fun _ => ?_)
  refine lv_aload_n hx hb dX8_init_23 rfl (lv_at hl 1 rfl) ?_
  obtain ⟨b24_3, hg, h⟩ := ob h
  refine wz_gN C hW flX8_13 hg dX8_init_24 ?_
  refine lv_iload_n hx hb dX8_init_27 rfl (lv_at hl 0 rfl) ?_
  obtain ⟨b28_3, z28_3, ea, ez, h⟩ := mk_ob h
  refine wz_newK (c' := 12) (s' := 106) ea ez ⟨_, rfl⟩ ⟨tw 410 (by decide +kernel) rfl, tw 344 (by decide +kernel) rfl, tw 124 (by decide +kernel) rfl⟩ C hW ⟨Nat.le_of_ble_eq_true rfl, Nat.le_of_ble_eq_true rfl⟩ rfl rfl dX8_init_28 (fun H hW => ?_)
  refine lv_dup hx hb dX8_init_31 rfl ?_
  refine lv_aload_n hx hb dX8_init_32 rfl (lv_at hl 2 rfl) ?_
  obtain ⟨z33_3, hq, h⟩ := ob h
  refine wz_rV (c' := 16) (s' := 134) hW (wz_runI (rest := [.ref (gB G + b28_3), .int (2 : Int32), .ref (gB G + b24_3)]) C hW lIX8_19 (ctX6_init l G b28_3 a1 z28_3 hq) ⟨⟨rfl, rfl⟩, Nat.le_of_ble_eq_true rfl, Nat.le_of_ble_eq_true rfl⟩ rfl hl.1 rfl (Nat.le_of_ble_eq_true rfl) dX8_init_33 ⟨Nat.le_of_ble_eq_true rfl, Nat.le_of_ble_eq_true rfl⟩) rfl rfl (fun H locs hW => ?_)
  obtain ⟨z36_3, hg, h⟩ := ob h
  refine wz_qst (Or.inr (Or.inr (Or.inl rfl))) C hW hg dX8_init_36 (fun H locs hW => ?_)
  refine lv_iinc (v := 3) (lv' := [(2, .int (3 : Int32)), (0, .ref (gB G + a0)), (1, .ref (gB G + a1))]) hx hb dX8_init_37 hl (k := 0) rfl (by decide) (by decide) rfl (fun ls hl => ?_)
  refine lv_goto (tgt := 14) hx hb dX8_init_40 (by decide) ?_
  refine lv_iload_n hx hb dX8_init_14 rfl (lv_at hl 0 rfl) ?_
  refine lv_aload_n hx hb dX8_init_15 rfl (lv_at hl 1 rfl) ?_
  obtain ⟨b16_4, hg, h⟩ := ob h
  refine wz_gN C hW flX8_13 hg dX8_init_16 ?_
  obtain ⟨x19_4, hg, h⟩ := ob h
  refine wz_lenQ (Or.inr (Or.inr (Or.inl rfl))) C hW hg dX8_init_19 ?_
  have hq5 := (ck h).1
  replace h := (ck h).2
  subst hq5
  refine lv_icmp_ge (tgt := 43) hx hb dX8_init_20 (by decide) (fun q => absurd q (by decide)) (fun _ => ?_)
  refine lv_aload_n hx hb dX8_init_23 rfl (lv_at hl 1 rfl) ?_
  obtain ⟨b24_4, hg, h⟩ := ob h
  refine wz_gN C hW flX8_13 hg dX8_init_24 ?_
  refine lv_iload_n hx hb dX8_init_27 rfl (lv_at hl 0 rfl) ?_
  obtain ⟨b28_4, z28_4, ea, ez, h⟩ := mk_ob h
  refine wz_newK (c' := 17) (s' := 149) ea ez ⟨_, rfl⟩ ⟨tw 410 (by decide +kernel) rfl, tw 344 (by decide +kernel) rfl, tw 124 (by decide +kernel) rfl⟩ C hW ⟨Nat.le_of_ble_eq_true rfl, Nat.le_of_ble_eq_true rfl⟩ rfl rfl dX8_init_28 (fun H hW => ?_)
  refine lv_dup hx hb dX8_init_31 rfl ?_
  refine lv_aload_n hx hb dX8_init_32 rfl (lv_at hl 2 rfl) ?_
  obtain ⟨z33_4, hq, h⟩ := ob h
  refine wz_rV (c' := 21) (s' := 177) hW (wz_runI (rest := [.ref (gB G + b28_4), .int (3 : Int32), .ref (gB G + b24_4)]) C hW lIX8_19 (ctX6_init l G b28_4 a1 z28_4 hq) ⟨⟨rfl, rfl⟩, Nat.le_of_ble_eq_true rfl, Nat.le_of_ble_eq_true rfl⟩ rfl hl.1 rfl (Nat.le_of_ble_eq_true rfl) dX8_init_33 ⟨Nat.le_of_ble_eq_true rfl, Nat.le_of_ble_eq_true rfl⟩) rfl rfl (fun H locs hW => ?_)
  obtain ⟨z36_4, hg, h⟩ := ob h
  refine wz_qst (Or.inr (Or.inr (Or.inl rfl))) C hW hg dX8_init_36 (fun H locs hW => ?_)
  refine lv_iinc (v := 4) (lv' := [(2, .int (4 : Int32)), (0, .ref (gB G + a0)), (1, .ref (gB G + a1))]) hx hb dX8_init_37 hl (k := 0) rfl (by decide) (by decide) rfl (fun ls hl => ?_)
  refine lv_goto (tgt := 14) hx hb dX8_init_40 (by decide) ?_
  refine lv_iload_n hx hb dX8_init_14 rfl (lv_at hl 0 rfl) ?_
  refine lv_aload_n hx hb dX8_init_15 rfl (lv_at hl 1 rfl) ?_
  obtain ⟨b16_5, hg, h⟩ := ob h
  refine wz_gN C hW flX8_13 hg dX8_init_16 ?_
  obtain ⟨x19_5, hg, h⟩ := ob h
  refine wz_lenQ (Or.inr (Or.inr (Or.inl rfl))) C hW hg dX8_init_19 ?_
  have hq5 := (ck h).1
  replace h := (ck h).2
  subst hq5
  refine lv_icmp_ge (tgt := 43) hx hb dX8_init_20 (by decide) (fun q => absurd q (by decide)) (fun _ => ?_)
  refine lv_aload_n hx hb dX8_init_23 rfl (lv_at hl 1 rfl) ?_
  obtain ⟨b24_5, hg, h⟩ := ob h
  refine wz_gN C hW flX8_13 hg dX8_init_24 ?_
  refine lv_iload_n hx hb dX8_init_27 rfl (lv_at hl 0 rfl) ?_
  obtain ⟨b28_5, z28_5, ea, ez, h⟩ := mk_ob h
  refine wz_newK (c' := 22) (s' := 192) ea ez ⟨_, rfl⟩ ⟨tw 410 (by decide +kernel) rfl, tw 344 (by decide +kernel) rfl, tw 124 (by decide +kernel) rfl⟩ C hW ⟨Nat.le_of_ble_eq_true rfl, Nat.le_of_ble_eq_true rfl⟩ rfl rfl dX8_init_28 (fun H hW => ?_)
  refine lv_dup hx hb dX8_init_31 rfl ?_
  refine lv_aload_n hx hb dX8_init_32 rfl (lv_at hl 2 rfl) ?_
  obtain ⟨z33_5, hq, h⟩ := ob h
  refine wz_rV (c' := 26) (s' := 220) hW (wz_runI (rest := [.ref (gB G + b28_5), .int (4 : Int32), .ref (gB G + b24_5)]) C hW lIX8_19 (ctX6_init l G b28_5 a1 z28_5 hq) ⟨⟨rfl, rfl⟩, Nat.le_of_ble_eq_true rfl, Nat.le_of_ble_eq_true rfl⟩ rfl hl.1 rfl (Nat.le_of_ble_eq_true rfl) dX8_init_33 ⟨Nat.le_of_ble_eq_true rfl, Nat.le_of_ble_eq_true rfl⟩) rfl rfl (fun H locs hW => ?_)
  obtain ⟨z36_5, hg, h⟩ := ob h
  refine wz_qst (Or.inr (Or.inr (Or.inl rfl))) C hW hg dX8_init_36 (fun H locs hW => ?_)
  refine lv_iinc (v := 5) (lv' := [(2, .int (5 : Int32)), (0, .ref (gB G + a0)), (1, .ref (gB G + a1))]) hx hb dX8_init_37 hl (k := 0) rfl (by decide) (by decide) rfl (fun ls hl => ?_)
  refine lv_goto (tgt := 14) hx hb dX8_init_40 (by decide) ?_
  refine lv_iload_n hx hb dX8_init_14 rfl (lv_at hl 0 rfl) ?_
  refine lv_aload_n hx hb dX8_init_15 rfl (lv_at hl 1 rfl) ?_
  obtain ⟨b16_6, hg, h⟩ := ob h
  refine wz_gN C hW flX8_13 hg dX8_init_16 ?_
  obtain ⟨x19_6, hg, h⟩ := ob h
  refine wz_lenQ (Or.inr (Or.inr (Or.inl rfl))) C hW hg dX8_init_19 ?_
  have hq5 := (ck h).1
  replace h := (ck h).2
  subst hq5
  refine lv_icmp_ge (tgt := 43) hx hb dX8_init_20 (by decide) (fun _ => ?_) (fun q => absurd (by decide) q)
  refine lv_aload_n hx hb dX8_init_43 rfl (lv_at hl 1 rfl) ?_
  obtain ⟨b44, z44, ea, ez, h⟩ := mk_ob h
  refine wz_newK (c' := 27) (s' := 235) ea ez ⟨_, rfl⟩ ⟨tw 410 (by decide +kernel) rfl, tw 344 (by decide +kernel) rfl, tw 124 (by decide +kernel) rfl⟩ C hW ⟨Nat.le_of_ble_eq_true rfl, Nat.le_of_ble_eq_true rfl⟩ rfl rfl dX8_init_44 (fun H hW => ?_)
  refine lv_dup hx hb dX8_init_47 rfl ?_
  refine lv_aload_n hx hb dX8_init_48 rfl (lv_at hl 2 rfl) ?_
  obtain ⟨z49, hq, h⟩ := ob h
  refine wz_rV (c' := 31) (s' := 263) hW (wz_runI (rest := [.ref (gB G + b44), .ref (gB G + a0)]) C hW lIX8_19 (ctX6_init l G b44 a1 z44 hq) ⟨⟨rfl, rfl⟩, Nat.le_of_ble_eq_true rfl, Nat.le_of_ble_eq_true rfl⟩ rfl hl.1 rfl (Nat.le_of_ble_eq_true rfl) dX8_init_49 ⟨Nat.le_of_ble_eq_true rfl, Nat.le_of_ble_eq_true rfl⟩) rfl rfl (fun H locs hW => ?_)
  obtain ⟨z52, hg, h⟩ := ob h
  refine wz_putF (v := (.ref b44)) C hin hW flX8_22 rfl rfl hg dX8_init_52 (fun H locs hW => ?_)
  refine lv_aload_n hx hb dX8_init_55 rfl (lv_at hl 1 rfl) ?_
  refine lv_iconst (v := 4) hx hb dX8_init_56 (by decide) ?_
  obtain ⟨b57, z57, ea, ez, h⟩ := mk_ob h
  refine wz_newIK (N := 4) (c' := 32) (s' := 267) ea ez (tw 247 (by decide +kernel) rfl) C hW (by decide) (by decide +kernel) (Nat.le_of_ble_eq_true rfl) ⟨Nat.le_of_ble_eq_true rfl, Nat.le_of_ble_eq_true rfl⟩ rfl rfl dX8_init_57 (fun H hW => ?_)
  obtain ⟨z59, hg, h⟩ := ob h
  refine wz_putF (v := (.ref b57)) C hin hW flX8_26 rfl rfl hg dX8_init_59 (fun H locs hW => ?_)
  refine lv_aload_n hx hb dX8_init_62 rfl (lv_at hl 1 rfl) ?_
  refine lv_iconst (v := 4) hx hb dX8_init_63 (by decide) ?_
  obtain ⟨b64, z64, ea, ez, h⟩ := mk_ob h
  refine wz_newIK (N := 4) (c' := 33) (s' := 271) ea ez (tw 247 (by decide +kernel) rfl) C hW (by decide) (by decide +kernel) (Nat.le_of_ble_eq_true rfl) ⟨Nat.le_of_ble_eq_true rfl, Nat.le_of_ble_eq_true rfl⟩ rfl rfl dX8_init_64 (fun H hW => ?_)
  obtain ⟨z66, hg, h⟩ := ob h
  refine wz_putF (v := (.ref b64)) C hin hW flX8_30 rfl rfl hg dX8_init_66 (fun H locs hW => ?_)
  refine lv_aload_n hx hb dX8_init_69 rfl (lv_at hl 1 rfl) ?_
  refine lv_null hx hb dX8_init_70 ?_
  obtain ⟨z71, hg, h⟩ := ob h
  refine wz_put (v := .null) C hW flX8_33 rfl rfl hg dX8_init_71 (fun H locs hW => ?_)
  exact wz_vretE C hlk hr (Option.some.inj h) hW dX8_init_74
theorem dX9_init_0 : decode cX9_init 0 = .ok (.aload_n 0, 1) := by decide +kernel
theorem dX9_init_1 : decode cX9_init 1 = .ok (.invokespecial 1, 3) := by decide +kernel
theorem dX9_init_4 : decode cX9_init 4 = .ok (.new 7, 3) := by decide +kernel
theorem dX9_init_7 : decode cX9_init 7 = .ok (.dup, 1) := by decide +kernel
theorem dX9_init_8 : decode cX9_init 8 = .ok (.invokespecial 9, 3) := by decide +kernel
theorem dX9_init_11 : decode cX9_init 11 = .ok (.astore_n 1, 1) := by decide +kernel
theorem dX9_init_12 : decode cX9_init 12 = .ok (.aload_n 0, 1) := by decide +kernel
theorem dX9_init_13 : decode cX9_init 13 = .ok (.new 10, 3) := by decide +kernel
theorem dX9_init_16 : decode cX9_init 16 = .ok (.dup, 1) := by decide +kernel
theorem dX9_init_17 : decode cX9_init 17 = .ok (.invokespecial 12, 3) := by decide +kernel
theorem dX9_init_20 : decode cX9_init 20 = .ok (.putfield 13, 3) := by decide +kernel
theorem dX9_init_23 : decode cX9_init 23 = .ok (.aload_n 0, 1) := by decide +kernel
theorem dX9_init_24 : decode cX9_init 24 = .ok (.iconst 3, 1) := by decide +kernel
theorem dX9_init_25 : decode cX9_init 25 = .ok (.anewarray 10, 3) := by decide +kernel
theorem dX9_init_28 : decode cX9_init 28 = .ok (.putfield 19, 3) := by decide +kernel
theorem dX9_init_31 : decode cX9_init 31 = .ok (.iconst 0, 1) := by decide +kernel
theorem dX9_init_32 : decode cX9_init 32 = .ok (.istore_n 2, 1) := by decide +kernel
theorem dX9_init_33 : decode cX9_init 33 = .ok (.iload_n 2, 1) := by decide +kernel
theorem dX9_init_34 : decode cX9_init 34 = .ok (.iconst 3, 1) := by decide +kernel
theorem dX9_init_35 : decode cX9_init 35 = .ok (.if_icmp .ge 22, 3) := by decide +kernel
theorem dX9_init_38 : decode cX9_init 38 = .ok (.aload_n 0, 1) := by decide +kernel
theorem dX9_init_39 : decode cX9_init 39 = .ok (.getfield 19, 3) := by decide +kernel
theorem dX9_init_42 : decode cX9_init 42 = .ok (.iload_n 2, 1) := by decide +kernel
theorem dX9_init_43 : decode cX9_init 43 = .ok (.new 10, 3) := by decide +kernel
theorem dX9_init_46 : decode cX9_init 46 = .ok (.dup, 1) := by decide +kernel
theorem dX9_init_47 : decode cX9_init 47 = .ok (.invokespecial 12, 3) := by decide +kernel
theorem dX9_init_50 : decode cX9_init 50 = .ok (.aastore, 1) := by decide +kernel
theorem dX9_init_51 : decode cX9_init 51 = .ok (.iinc 2 1, 3) := by decide +kernel
theorem dX9_init_54 : decode cX9_init 54 = .ok (.goto (-21), 3) := by decide +kernel
theorem dX9_init_57 : decode cX9_init 57 = .ok (.aload_n 0, 1) := by decide +kernel
theorem dX9_init_58 : decode cX9_init 58 = .ok (.iconst 3, 1) := by decide +kernel
theorem dX9_init_59 : decode cX9_init 59 = .ok (.newarray .boolean, 2) := by decide +kernel
theorem dX9_init_61 : decode cX9_init 61 = .ok (.putfield 23, 3) := by decide +kernel
theorem dX9_init_64 : decode cX9_init 64 = .ok (.aload_n 0, 1) := by decide +kernel
theorem dX9_init_65 : decode cX9_init 65 = .ok (.new 27, 3) := by decide +kernel
theorem dX9_init_68 : decode cX9_init 68 = .ok (.dup, 1) := by decide +kernel
theorem dX9_init_69 : decode cX9_init 69 = .ok (.invokespecial 29, 3) := by decide +kernel
theorem dX9_init_72 : decode cX9_init 72 = .ok (.putfield 30, 3) := by decide +kernel
theorem dX9_init_75 : decode cX9_init 75 = .ok (.aload_n 0, 1) := by decide +kernel
theorem dX9_init_76 : decode cX9_init 76 = .ok (.new 34, 3) := by decide +kernel
theorem dX9_init_79 : decode cX9_init 79 = .ok (.dup, 1) := by decide +kernel
theorem dX9_init_80 : decode cX9_init 80 = .ok (.aload_n 1, 1) := by decide +kernel
theorem dX9_init_81 : decode cX9_init 81 = .ok (.invokespecial 36, 3) := by decide +kernel
theorem dX9_init_84 : decode cX9_init 84 = .ok (.putfield 39, 3) := by decide +kernel
theorem dX9_init_87 : decode cX9_init 87 = .ok (.aload_n 0, 1) := by decide +kernel
theorem dX9_init_88 : decode cX9_init 88 = .ok (.new 43, 3) := by decide +kernel
theorem dX9_init_91 : decode cX9_init 91 = .ok (.dup, 1) := by decide +kernel
theorem dX9_init_92 : decode cX9_init 92 = .ok (.aload_n 1, 1) := by decide +kernel
theorem dX9_init_93 : decode cX9_init 93 = .ok (.invokespecial 45, 3) := by decide +kernel
theorem dX9_init_96 : decode cX9_init 96 = .ok (.putfield 46, 3) := by decide +kernel
theorem dX9_init_99 : decode cX9_init 99 = .ok (.aload_n 0, 1) := by decide +kernel
theorem dX9_init_100 : decode cX9_init 100 = .ok (.new 50, 3) := by decide +kernel
theorem dX9_init_103 : decode cX9_init 103 = .ok (.dup, 1) := by decide +kernel
theorem dX9_init_104 : decode cX9_init 104 = .ok (.invokespecial 52, 3) := by decide +kernel
theorem dX9_init_107 : decode cX9_init 107 = .ok (.putfield 53, 3) := by decide +kernel
theorem dX9_init_110 : decode cX9_init 110 = .ok (.aload_n 0, 1) := by decide +kernel
theorem dX9_init_111 : decode cX9_init 111 = .ok (.new 57, 3) := by decide +kernel
theorem dX9_init_114 : decode cX9_init 114 = .ok (.dup, 1) := by decide +kernel
theorem dX9_init_115 : decode cX9_init 115 = .ok (.invokespecial 59, 3) := by decide +kernel
theorem dX9_init_118 : decode cX9_init 118 = .ok (.putfield 60, 3) := by decide +kernel
theorem dX9_init_121 : decode cX9_init 121 = .ok (.return_, 1) := by decide +kernel
theorem lIX9_9 : LI RX9 9 yX0_init cX0_init 2 0 := ⟨tw 148 (by decide +kernel) rfl, tw 149 (by decide +kernel) rfl, rfl, tw 121 (by decide +kernel) rfl, cdX0_init, ⟨by decide +kernel, by decide +kernel, by decide +kernel⟩⟩
theorem cdX7_init : Cond.code yX7_init cX7_init 1 none ∈ tz := tc1 133 rfl rfl
theorem lIX9_12 : LI RX9 12 yX7_init cX7_init 1 0 := ⟨tw 250 (by decide +kernel) rfl, tw 251 (by decide +kernel) rfl, rfl, tw 122 (by decide +kernel) rfl, cdX7_init, ⟨by decide +kernel, by decide +kernel, by decide +kernel⟩⟩
theorem cdX4_init : Cond.code yX4_init cX4_init 1 none ∈ tz := tc1 171 rfl rfl
theorem lIX9_29 : LI RX9 29 yX4_init cX4_init 1 0 := ⟨tw 288 (by decide +kernel) rfl, tw 289 (by decide +kernel) rfl, rfl, tw 123 (by decide +kernel) rfl, cdX4_init, ⟨by decide +kernel, by decide +kernel, by decide +kernel⟩⟩
theorem flX9_30 : FL RX9 30 8 3 := ⟨_, rfl, Nat.le_of_ble_eq_true rfl, tw 476 (by decide +kernel) rfl, rfl⟩
theorem lIX9_36 : LI RX9 36 yX6_init cX6_init 2 1 := ⟨tw 345 (by decide +kernel) rfl, tw 346 (by decide +kernel) rfl, rfl, tw 124 (by decide +kernel) rfl, cdX6_init, ⟨by decide +kernel, by decide +kernel, by decide +kernel⟩⟩
theorem cdX8_init : Cond.code yX8_init cX8_init 3 none ∈ tz := tc2 49 rfl rfl
theorem lIX9_45 : LI RX9 45 yX8_init cX8_init 3 1 := ⟨tw 406 (by decide +kernel) rfl, tw 407 (by decide +kernel) rfl, rfl, tw 125 (by decide +kernel) rfl, cdX8_init, ⟨by decide +kernel, by decide +kernel, by decide +kernel⟩⟩
theorem flX9_46 : FL RX9 46 8 5 := ⟨_, rfl, Nat.le_of_ble_eq_true rfl, tw 478 (by decide +kernel) rfl, rfl⟩
theorem cdX1_init : Cond.code yX1_init cX1_init 1 none ∈ tz := tc2 86 rfl rfl
theorem lIX9_52 : LI RX9 52 yX1_init cX1_init 1 0 := ⟨tw 443 (by decide +kernel) rfl, tw 444 (by decide +kernel) rfl, rfl, tw 126 (by decide +kernel) rfl, cdX1_init, ⟨by decide +kernel, by decide +kernel, by decide +kernel⟩⟩
theorem cdX2_init : Cond.code yX2_init cX2_init 1 none ∈ tz := tc2 104 rfl rfl
theorem lIX9_59 : LI RX9 59 yX2_init cX2_init 1 0 := ⟨tw 461 (by decide +kernel) rfl, tw 462 (by decide +kernel) rfl, rfl, tw 127 (by decide +kernel) rfl, cdX2_init, ⟨by decide +kernel, by decide +kernel, by decide +kernel⟩⟩
abbrev rmX9_init : Room := { frames := 3, cells := 88, slots := 4052, locals := 63 }
def fX9_init (a0 : Nat) (z : AH) : Option AH :=
  if isO 8 z a0 = true then
    mk (.inr (.inr (0, newF 0))) z fun b4 z4 =>
    (fX0_init b4 z4).bind fun z8 =>
    mk (.inr (.inr (6, newF 6))) z8 fun b13 z13 =>
    (fX7_init b13 z13).bind fun z17 =>
    (pF 8 0 z17 a0 (.ref b13)).bind fun z20 =>
    mk (.inr (.inl (6, 3, fun _ => none))) z20 fun b25 z25 =>
    (pF 8 1 z25 a0 (.ref b25)).bind fun z28 =>
    (gN 8 1 z28 a0).bind fun b39 =>
    mk (.inr (.inr (6, newF 6))) z28 fun b43 z43 =>
    (fX7_init b43 z43).bind fun z47 =>
    (stQ 6 z47 b39 (0 : Int32) (some b43)).bind fun z50 =>
    (gN 8 1 z50 a0).bind fun b39_2 =>
    mk (.inr (.inr (6, newF 6))) z50 fun b43_2 z43_2 =>
    (fX7_init b43_2 z43_2).bind fun z47_2 =>
    (stQ 6 z47_2 b39_2 (1 : Int32) (some b43_2)).bind fun z50_2 =>
    (gN 8 1 z50_2 a0).bind fun b39_3 =>
    mk (.inr (.inr (6, newF 6))) z50_2 fun b43_3 z43_3 =>
    (fX7_init b43_3 z43_3).bind fun z47_3 =>
    (stQ 6 z47_3 b39_3 (2 : Int32) (some b43_3)).bind fun z50_3 =>
    mk (.inl (2, 3, fun _ => 0)) z50_3 fun b59 z59 =>
    (pF 8 2 z59 a0 (.ref b59)).bind fun z61 =>
    mk (.inr (.inr (3, newF 3))) z61 fun b65 z65 =>
    (fX4_init b65 z65).bind fun z69 =>
    (pF 8 3 z69 a0 (.ref b65)).bind fun z72 =>
    mk (.inr (.inr (5, newF 5))) z72 fun b76 z76 =>
    (fX6_init b76 b4 z76).bind fun z81 =>
    (pF 8 4 z81 a0 (.ref b76)).bind fun z84 =>
    mk (.inr (.inr (7, newF 7))) z84 fun b88 z88 =>
    (fX8_init b88 b4 z88).bind fun z93 =>
    (pF 8 5 z93 a0 (.ref b88)).bind fun z96 =>
    mk (.inr (.inr (1, newF 1))) z96 fun b100 z100 =>
    (fX1_init b100 z100).bind fun z104 =>
    (pF 8 6 z104 a0 (.ref b100)).bind fun z107 =>
    mk (.inr (.inr (2, newF 2))) z107 fun b111 z111 =>
    (fX2_init b111 z111).bind fun z115 =>
    (pF 8 7 z115 a0 (.ref b111)).bind fun z118 =>
    some z118
  else none
set_option maxHeartbeats 4000000 in
set_option maxRecDepth 100000 in
theorem ctX9_init (l : Launch) (G : GW) (a0 : Nat) (z : AH) {z' : AH} (h : fX9_init a0 z = some z') : Met l yX9_init (wy yX9_init cX9_init 3 none) rmX9_init (Pz G [.ref (gB G + a0)] z) (Qv G z') 88 4052 (AA G) := by
  refine wz_ent (own := RX9) (by decide +kernel) rfl (fun p e s m below meth c ls C hlk hr hin hW hl => ?_) (Nat.le_of_ble_eq_true rfl)
  have hl : lv_has ls 3 [(0, .ref (gB G + a0))] := hl
  have hx := C.1
  have hb := C.2.1
  unfold fX9_init at h
  obtain ⟨-, h⟩ := ck h
  refine lv_aload_n hx hb dX9_init_0 rfl (lv_at hl 0 rfl) ?_
  refine wz_obj ⟨tw 143 (by decide +kernel) rfl, tw 144 (by decide +kernel) rfl, tw 145 (by decide +kernel) rfl⟩ C hl.1 dX9_init_1 ⟨Nat.le_of_ble_eq_true rfl, Nat.le_of_ble_eq_true rfl⟩ ?_
  obtain ⟨b4, z4, ea, ez, h⟩ := mk_ob h
  refine wz_newK (c' := 1) (s' := 20) ea ez ⟨_, rfl⟩ ⟨tw 146 (by decide +kernel) rfl, tw 147 (by decide +kernel) rfl, tw 121 (by decide +kernel) rfl⟩ C hW ⟨Nat.le_of_ble_eq_true rfl, Nat.le_of_ble_eq_true rfl⟩ rfl rfl dX9_init_4 (fun H hW => ?_)
  refine lv_dup hx hb dX9_init_7 rfl ?_
  obtain ⟨z8, hq, h⟩ := ob h
  refine wz_rV (c' := 15) (s' := 140) hW (wz_runI (rest := [.ref (gB G + b4)]) C hW lIX9_9 (ctX0_init l G b4 z4 hq) ⟨⟨rfl, rfl⟩, Nat.le_of_ble_eq_true rfl, Nat.le_of_ble_eq_true rfl⟩ rfl hl.1 rfl (Nat.le_of_ble_eq_true rfl) dX9_init_8 ⟨Nat.le_of_ble_eq_true rfl, Nat.le_of_ble_eq_true rfl⟩) rfl rfl (fun H locs hW => ?_)
  refine lv_astore_n (lv' := [(1, .ref (gB G + b4)), (0, .ref (gB G + a0))]) hx hb dX9_init_11 rfl hl (by decide) rfl (fun ls hl => ?_)
  refine lv_aload_n hx hb dX9_init_12 rfl (lv_at hl 1 rfl) ?_
  obtain ⟨b13, z13, ea, ez, h⟩ := mk_ob h
  refine wz_newK (c' := 16) (s' := 147) ea ez ⟨_, rfl⟩ ⟨tw 248 (by decide +kernel) rfl, tw 249 (by decide +kernel) rfl, tw 122 (by decide +kernel) rfl⟩ C hW ⟨Nat.le_of_ble_eq_true rfl, Nat.le_of_ble_eq_true rfl⟩ rfl rfl dX9_init_13 (fun H hW => ?_)
  refine lv_dup hx hb dX9_init_16 rfl ?_
  obtain ⟨z17, hq, h⟩ := ob h
  refine wz_rV (c' := 20) (s' := 761) hW (wz_runI (rest := [.ref (gB G + b13), .ref (gB G + a0)]) C hW lIX9_12 (ctX7_init l G b13 z13 hq) ⟨⟨rfl, rfl⟩, Nat.le_of_ble_eq_true rfl, Nat.le_of_ble_eq_true rfl⟩ rfl hl.1 rfl (Nat.le_of_ble_eq_true rfl) dX9_init_17 ⟨Nat.le_of_ble_eq_true rfl, Nat.le_of_ble_eq_true rfl⟩) rfl rfl (fun H locs hW => ?_)
  obtain ⟨z20, hg, h⟩ := ob h
  refine wz_putF (v := (.ref b13)) C hin hW flX9_13 rfl rfl hg dX9_init_20 (fun H locs hW => ?_)
  refine lv_aload_n hx hb dX9_init_23 rfl (lv_at hl 1 rfl) ?_
  refine lv_iconst (v := 3) hx hb dX9_init_24 (by decide) ?_
  obtain ⟨b25, z25, ea, ez, h⟩ := mk_ob h
  refine wz_newQK (N := 3) (c' := 21) (s' := 764) ea ez (Or.inr (Or.inr (Or.inr rfl))) (tw 248 (by decide +kernel) rfl) C hW (by decide) (by decide +kernel) (Nat.le_of_ble_eq_true rfl) ⟨Nat.le_of_ble_eq_true rfl, Nat.le_of_ble_eq_true rfl⟩ rfl rfl dX9_init_25 (fun H hW => ?_)
  obtain ⟨z28, hg, h⟩ := ob h
  refine wz_putF (v := (.ref b25)) C hin hW flX9_19 rfl rfl hg dX9_init_28 (fun H locs hW => ?_)
  refine lv_iconst (v := 0) hx hb dX9_init_31 (by decide) ?_
  refine lv_istore_n (lv' := [(2, .int (0 : Int32)), (1, .ref (gB G + b4)), (0, .ref (gB G + a0))]) hx hb dX9_init_32 rfl hl (by decide) rfl (fun ls hl => ?_)
  refine lv_iload_n hx hb dX9_init_33 rfl (lv_at hl 0 rfl) ?_
  refine lv_iconst (v := 3) hx hb dX9_init_34 (by decide) ?_
  refine lv_icmp_ge (tgt := 57) hx hb dX9_init_35 (by decide) (fun q => absurd q (by decide)) (fun _ => ?_)
  refine lv_aload_n hx hb dX9_init_38 rfl (lv_at hl 2 rfl) ?_
  obtain ⟨b39, hg, h⟩ := ob h
  refine wz_gN C hW flX9_19 hg dX9_init_39 ?_
  refine lv_iload_n hx hb dX9_init_42 rfl (lv_at hl 0 rfl) ?_
  obtain ⟨b43, z43, ea, ez, h⟩ := mk_ob h
  refine wz_newK (c' := 22) (s' := 771) ea ez ⟨_, rfl⟩ ⟨tw 248 (by decide +kernel) rfl, tw 249 (by decide +kernel) rfl, tw 122 (by decide +kernel) rfl⟩ C hW ⟨Nat.le_of_ble_eq_true rfl, Nat.le_of_ble_eq_true rfl⟩ rfl rfl dX9_init_43 (fun H hW => ?_)
  refine lv_dup hx hb dX9_init_46 rfl ?_
  obtain ⟨z47, hq, h⟩ := ob h
  refine wz_rV (c' := 26) (s' := 1385) hW (wz_runI (rest := [.ref (gB G + b43), .int (0 : Int32), .ref (gB G + b39)]) C hW lIX9_12 (ctX7_init l G b43 z43 hq) ⟨⟨rfl, rfl⟩, Nat.le_of_ble_eq_true rfl, Nat.le_of_ble_eq_true rfl⟩ rfl hl.1 rfl (Nat.le_of_ble_eq_true rfl) dX9_init_47 ⟨Nat.le_of_ble_eq_true rfl, Nat.le_of_ble_eq_true rfl⟩) rfl rfl (fun H locs hW => ?_)
  obtain ⟨z50, hg, h⟩ := ob h
  refine wz_qst (Or.inr (Or.inr (Or.inr rfl))) C hW hg dX9_init_50 (fun H locs hW => ?_)
  refine lv_iinc (v := 1) (lv' := [(2, .int (1 : Int32)), (1, .ref (gB G + b4)), (0, .ref (gB G + a0))]) hx hb dX9_init_51 hl (k := 0) rfl (by decide) (by decide) rfl (fun ls hl => ?_)
  refine lv_goto (tgt := 33) hx hb dX9_init_54 (by decide) ?_
  refine lv_iload_n hx hb dX9_init_33 rfl (lv_at hl 0 rfl) ?_
  refine lv_iconst (v := 3) hx hb dX9_init_34 (by decide) ?_
  refine lv_icmp_ge (tgt := 57) hx hb dX9_init_35 (by decide) (fun q => absurd q (by decide)) (fun _ => ?_)
  refine lv_aload_n hx hb dX9_init_38 rfl (lv_at hl 2 rfl) ?_
  obtain ⟨b39_2, hg, h⟩ := ob h
  refine wz_gN C hW flX9_19 hg dX9_init_39 ?_
  refine lv_iload_n hx hb dX9_init_42 rfl (lv_at hl 0 rfl) ?_
  obtain ⟨b43_2, z43_2, ea, ez, h⟩ := mk_ob h
  refine wz_newK (c' := 27) (s' := 1392) ea ez ⟨_, rfl⟩ ⟨tw 248 (by decide +kernel) rfl, tw 249 (by decide +kernel) rfl, tw 122 (by decide +kernel) rfl⟩ C hW ⟨Nat.le_of_ble_eq_true rfl, Nat.le_of_ble_eq_true rfl⟩ rfl rfl dX9_init_43 (fun H hW => ?_)
  refine lv_dup hx hb dX9_init_46 rfl ?_
  obtain ⟨z47_2, hq, h⟩ := ob h
  refine wz_rV (c' := 31) (s' := 2006) hW (wz_runI (rest := [.ref (gB G + b43_2), .int (1 : Int32), .ref (gB G + b39_2)]) C hW lIX9_12 (ctX7_init l G b43_2 z43_2 hq) ⟨⟨rfl, rfl⟩, Nat.le_of_ble_eq_true rfl, Nat.le_of_ble_eq_true rfl⟩ rfl hl.1 rfl (Nat.le_of_ble_eq_true rfl) dX9_init_47 ⟨Nat.le_of_ble_eq_true rfl, Nat.le_of_ble_eq_true rfl⟩) rfl rfl (fun H locs hW => ?_)
  obtain ⟨z50_2, hg, h⟩ := ob h
  refine wz_qst (Or.inr (Or.inr (Or.inr rfl))) C hW hg dX9_init_50 (fun H locs hW => ?_)
  refine lv_iinc (v := 2) (lv' := [(2, .int (2 : Int32)), (1, .ref (gB G + b4)), (0, .ref (gB G + a0))]) hx hb dX9_init_51 hl (k := 0) rfl (by decide) (by decide) rfl (fun ls hl => ?_)
  refine lv_goto (tgt := 33) hx hb dX9_init_54 (by decide) ?_
  refine lv_iload_n hx hb dX9_init_33 rfl (lv_at hl 0 rfl) ?_
  refine lv_iconst (v := 3) hx hb dX9_init_34 (by decide) ?_
  refine lv_icmp_ge (tgt := 57) hx hb dX9_init_35 (by decide) (fun q => absurd q (by decide)) (fun _ => ?_)
  refine lv_aload_n hx hb dX9_init_38 rfl (lv_at hl 2 rfl) ?_
  obtain ⟨b39_3, hg, h⟩ := ob h
  refine wz_gN C hW flX9_19 hg dX9_init_39 ?_
  refine lv_iload_n hx hb dX9_init_42 rfl (lv_at hl 0 rfl) ?_
  obtain ⟨b43_3, z43_3, ea, ez, h⟩ := mk_ob h
  refine wz_newK (c' := 32) (s' := 2013) ea ez ⟨_, rfl⟩ ⟨tw 248 (by decide +kernel) rfl, tw 249 (by decide +kernel) rfl, tw 122 (by decide +kernel) rfl⟩ C hW ⟨Nat.le_of_ble_eq_true rfl, Nat.le_of_ble_eq_true rfl⟩ rfl rfl dX9_init_43 (fun H hW => ?_)
  refine lv_dup hx hb dX9_init_46 rfl ?_
  obtain ⟨z47_3, hq, h⟩ := ob h
  refine wz_rV (c' := 36) (s' := 2627) hW (wz_runI (rest := [.ref (gB G + b43_3), .int (2 : Int32), .ref (gB G + b39_3)]) C hW lIX9_12 (ctX7_init l G b43_3 z43_3 hq) ⟨⟨rfl, rfl⟩, Nat.le_of_ble_eq_true rfl, Nat.le_of_ble_eq_true rfl⟩ rfl hl.1 rfl (Nat.le_of_ble_eq_true rfl) dX9_init_47 ⟨Nat.le_of_ble_eq_true rfl, Nat.le_of_ble_eq_true rfl⟩) rfl rfl (fun H locs hW => ?_)
  obtain ⟨z50_3, hg, h⟩ := ob h
  refine wz_qst (Or.inr (Or.inr (Or.inr rfl))) C hW hg dX9_init_50 (fun H locs hW => ?_)
  refine lv_iinc (v := 3) (lv' := [(2, .int (3 : Int32)), (1, .ref (gB G + b4)), (0, .ref (gB G + a0))]) hx hb dX9_init_51 hl (k := 0) rfl (by decide) (by decide) rfl (fun ls hl => ?_)
  refine lv_goto (tgt := 33) hx hb dX9_init_54 (by decide) ?_
  refine lv_iload_n hx hb dX9_init_33 rfl (lv_at hl 0 rfl) ?_
  refine lv_iconst (v := 3) hx hb dX9_init_34 (by decide) ?_
  refine lv_icmp_ge (tgt := 57) hx hb dX9_init_35 (by decide) (fun _ => ?_) (fun q => absurd (by decide) q)
  refine lv_aload_n hx hb dX9_init_57 rfl (lv_at hl 2 rfl) ?_
  refine lv_iconst (v := 3) hx hb dX9_init_58 (by decide) ?_
  obtain ⟨b59, z59, ea, ez, h⟩ := mk_ob h
  refine wz_newZK (N := 3) (c' := 37) (s' := 2630) ea ez (tw 342 (by decide +kernel) rfl) C hW (by decide) (by decide +kernel) (Nat.le_of_ble_eq_true rfl) ⟨Nat.le_of_ble_eq_true rfl, Nat.le_of_ble_eq_true rfl⟩ rfl rfl dX9_init_59 (fun H hW => ?_)
  obtain ⟨z61, hg, h⟩ := ob h
  refine wz_putF (v := (.ref b59)) C hin hW flX9_23 rfl rfl hg dX9_init_61 (fun H locs hW => ?_)
  refine lv_aload_n hx hb dX9_init_64 rfl (lv_at hl 2 rfl) ?_
  obtain ⟨b65, z65, ea, ez, h⟩ := mk_ob h
  refine wz_newK (c' := 38) (s' := 2645) ea ez ⟨_, rfl⟩ ⟨tw 286 (by decide +kernel) rfl, tw 287 (by decide +kernel) rfl, tw 123 (by decide +kernel) rfl⟩ C hW ⟨Nat.le_of_ble_eq_true rfl, Nat.le_of_ble_eq_true rfl⟩ rfl rfl dX9_init_65 (fun H hW => ?_)
  refine lv_dup hx hb dX9_init_68 rfl ?_
  obtain ⟨z69, hq, h⟩ := ob h
  refine wz_rV (c' := 43) (s' := 3613) hW (wz_runI (rest := [.ref (gB G + b65), .ref (gB G + a0)]) C hW lIX9_29 (ctX4_init l G b65 z65 hq) ⟨⟨rfl, rfl⟩, Nat.le_of_ble_eq_true rfl, Nat.le_of_ble_eq_true rfl⟩ rfl hl.1 rfl (Nat.le_of_ble_eq_true rfl) dX9_init_69 ⟨Nat.le_of_ble_eq_true rfl, Nat.le_of_ble_eq_true rfl⟩) rfl rfl (fun H locs hW => ?_)
  obtain ⟨z72, hg, h⟩ := ob h
  refine wz_putF (v := (.ref b65)) C hin hW flX9_30 rfl rfl hg dX9_init_72 (fun H locs hW => ?_)
  refine lv_aload_n hx hb dX9_init_75 rfl (lv_at hl 2 rfl) ?_
  obtain ⟨b76, z76, ea, ez, h⟩ := mk_ob h
  refine wz_newK (c' := 44) (s' := 3628) ea ez ⟨_, rfl⟩ ⟨tw 343 (by decide +kernel) rfl, tw 344 (by decide +kernel) rfl, tw 124 (by decide +kernel) rfl⟩ C hW ⟨Nat.le_of_ble_eq_true rfl, Nat.le_of_ble_eq_true rfl⟩ rfl rfl dX9_init_76 (fun H hW => ?_)
  refine lv_dup hx hb dX9_init_79 rfl ?_
  refine lv_aload_n hx hb dX9_init_80 rfl (lv_at hl 1 rfl) ?_
  obtain ⟨z81, hq, h⟩ := ob h
  refine wz_rV (c' := 48) (s' := 3656) hW (wz_runI (rest := [.ref (gB G + b76), .ref (gB G + a0)]) C hW lIX9_36 (ctX6_init l G b76 b4 z76 hq) ⟨⟨rfl, rfl⟩, Nat.le_of_ble_eq_true rfl, Nat.le_of_ble_eq_true rfl⟩ rfl hl.1 rfl (Nat.le_of_ble_eq_true rfl) dX9_init_81 ⟨Nat.le_of_ble_eq_true rfl, Nat.le_of_ble_eq_true rfl⟩) rfl rfl (fun H locs hW => ?_)
  obtain ⟨z84, hg, h⟩ := ob h
  refine wz_putF (v := (.ref b76)) C hin hW flX9_39 rfl rfl hg dX9_init_84 (fun H locs hW => ?_)
  refine lv_aload_n hx hb dX9_init_87 rfl (lv_at hl 2 rfl) ?_
  obtain ⟨b88, z88, ea, ez, h⟩ := mk_ob h
  refine wz_newK (c' := 49) (s' := 3664) ea ez ⟨_, rfl⟩ ⟨tw 404 (by decide +kernel) rfl, tw 405 (by decide +kernel) rfl, tw 125 (by decide +kernel) rfl⟩ C hW ⟨Nat.le_of_ble_eq_true rfl, Nat.le_of_ble_eq_true rfl⟩ rfl rfl dX9_init_88 (fun H hW => ?_)
  refine lv_dup hx hb dX9_init_91 rfl ?_
  refine lv_aload_n hx hb dX9_init_92 rfl (lv_at hl 1 rfl) ?_
  obtain ⟨z93, hq, h⟩ := ob h
  refine wz_rV (c' := 82) (s' := 3935) hW (wz_runI (rest := [.ref (gB G + b88), .ref (gB G + a0)]) C hW lIX9_45 (ctX8_init l G b88 b4 z88 hq) ⟨⟨rfl, rfl⟩, Nat.le_of_ble_eq_true rfl, Nat.le_of_ble_eq_true rfl⟩ rfl hl.1 rfl (Nat.le_of_ble_eq_true rfl) dX9_init_93 ⟨Nat.le_of_ble_eq_true rfl, Nat.le_of_ble_eq_true rfl⟩) rfl rfl (fun H locs hW => ?_)
  obtain ⟨z96, hg, h⟩ := ob h
  refine wz_putF (v := (.ref b88)) C hin hW flX9_46 rfl rfl hg dX9_init_96 (fun H locs hW => ?_)
  refine lv_aload_n hx hb dX9_init_99 rfl (lv_at hl 2 rfl) ?_
  obtain ⟨b100, z100, ea, ez, h⟩ := mk_ob h
  refine wz_newK (c' := 83) (s' := 3938) ea ez ⟨_, rfl⟩ ⟨tw 441 (by decide +kernel) rfl, tw 442 (by decide +kernel) rfl, tw 126 (by decide +kernel) rfl⟩ C hW ⟨Nat.le_of_ble_eq_true rfl, Nat.le_of_ble_eq_true rfl⟩ rfl rfl dX9_init_100 (fun H hW => ?_)
  refine lv_dup hx hb dX9_init_103 rfl ?_
  obtain ⟨z104, hq, h⟩ := ob h
  refine wz_rV (c' := 86) (s' := 3950) hW (wz_runI (rest := [.ref (gB G + b100), .ref (gB G + a0)]) C hW lIX9_52 (ctX1_init l G b100 z100 hq) ⟨⟨rfl, rfl⟩, Nat.le_of_ble_eq_true rfl, Nat.le_of_ble_eq_true rfl⟩ rfl hl.1 rfl (Nat.le_of_ble_eq_true rfl) dX9_init_104 ⟨Nat.le_of_ble_eq_true rfl, Nat.le_of_ble_eq_true rfl⟩) rfl rfl (fun H locs hW => ?_)
  obtain ⟨z107, hg, h⟩ := ob h
  refine wz_putF (v := (.ref b100)) C hin hW flX9_53 rfl rfl hg dX9_init_107 (fun H locs hW => ?_)
  refine lv_aload_n hx hb dX9_init_110 rfl (lv_at hl 2 rfl) ?_
  obtain ⟨b111, z111, ea, ez, h⟩ := mk_ob h
  refine wz_newK (c' := 87) (s' := 3952) ea ez ⟨_, rfl⟩ ⟨tw 459 (by decide +kernel) rfl, tw 460 (by decide +kernel) rfl, tw 127 (by decide +kernel) rfl⟩ C hW ⟨Nat.le_of_ble_eq_true rfl, Nat.le_of_ble_eq_true rfl⟩ rfl rfl dX9_init_111 (fun H hW => ?_)
  refine lv_dup hx hb dX9_init_114 rfl ?_
  obtain ⟨z115, hq, h⟩ := ob h
  refine wz_rV (c' := 88) (s' := 4052) hW (wz_runI (rest := [.ref (gB G + b111), .ref (gB G + a0)]) C hW lIX9_59 (ctX2_init l G b111 z111 hq) ⟨⟨rfl, rfl⟩, Nat.le_of_ble_eq_true rfl, Nat.le_of_ble_eq_true rfl⟩ rfl hl.1 rfl (Nat.le_of_ble_eq_true rfl) dX9_init_115 ⟨Nat.le_of_ble_eq_true rfl, Nat.le_of_ble_eq_true rfl⟩) rfl rfl (fun H locs hW => ?_)
  obtain ⟨z118, hg, h⟩ := ob h
  refine wz_putF (v := (.ref b111)) C hin hW flX9_60 rfl rfl hg dX9_init_118 (fun H locs hW => ?_)
  exact wz_vretE C hlk hr (Option.some.inj h) hW dX9_init_121
theorem dX9_text_0 : decode cX9_text 0 = .ok (.aload_n 0, 1) := by decide +kernel
theorem dX9_text_1 : decode cX9_text 1 = .ok (.getfield 13, 3) := by decide +kernel
theorem dX9_text_4 : decode cX9_text 4 = .ok (.getfield 64, 3) := by decide +kernel
theorem dX9_text_7 : decode cX9_text 7 = .ok (.istore_n 3, 1) := by decide +kernel
theorem dX9_text_8 : decode cX9_text 8 = .ok (.aload_n 0, 1) := by decide +kernel
theorem dX9_text_9 : decode cX9_text 9 = .ok (.getfield 13, 3) := by decide +kernel
theorem dX9_text_12 : decode cX9_text 12 = .ok (.iconst 0, 1) := by decide +kernel
theorem dX9_text_13 : decode cX9_text 13 = .ok (.putfield 64, 3) := by decide +kernel
theorem dX9_text_16 : decode cX9_text 16 = .ok (.aload_n 0, 1) := by decide +kernel
theorem dX9_text_17 : decode cX9_text 17 = .ok (.getfield 13, 3) := by decide +kernel
theorem dX9_text_20 : decode cX9_text 20 = .ok (.iconst 0, 1) := by decide +kernel
theorem dX9_text_21 : decode cX9_text 21 = .ok (.putfield 72, 3) := by decide +kernel
theorem dX9_text_24 : decode cX9_text 24 = .ok (.aload_n 0, 1) := by decide +kernel
theorem dX9_text_25 : decode cX9_text 25 = .ok (.getfield 13, 3) := by decide +kernel
theorem dX9_text_28 : decode cX9_text 28 = .ok (.iconst (-1), 1) := by decide +kernel
theorem dX9_text_29 : decode cX9_text 29 = .ok (.putfield 75, 3) := by decide +kernel
theorem dX9_text_32 : decode cX9_text 32 = .ok (.aload_n 0, 1) := by decide +kernel
theorem dX9_text_33 : decode cX9_text 33 = .ok (.getfield 13, 3) := by decide +kernel
theorem dX9_text_36 : decode cX9_text 36 = .ok (.iload_n 1, 1) := by decide +kernel
theorem dX9_text_37 : decode cX9_text 37 = .ok (.iload_n 2, 1) := by decide +kernel
theorem dX9_text_38 : decode cX9_text 38 = .ok (.invokevirtual 78, 3) := by decide +kernel
theorem dX9_text_41 : decode cX9_text 41 = .ok (.istore 4, 2) := by decide +kernel
theorem dX9_text_43 : decode cX9_text 43 = .ok (.iload 4, 2) := by decide +kernel
theorem dX9_text_45 : decode cX9_text 45 = .ok (.ifCond .ge 6, 3) := by decide +kernel
theorem dX9_text_48 : decode cX9_text 48 = .ok (.bipush (-2), 2) := by decide +kernel
theorem dX9_text_50 : decode cX9_text 50 = .ok (.ireturn, 1) := by decide +kernel
theorem dX9_text_51 : decode cX9_text 51 = .ok (.aload_n 0, 1) := by decide +kernel
theorem dX9_text_52 : decode cX9_text 52 = .ok (.getfield 30, 3) := by decide +kernel
theorem dX9_text_55 : decode cX9_text 55 = .ok (.aload_n 0, 1) := by decide +kernel
theorem dX9_text_56 : decode cX9_text 56 = .ok (.getfield 13, 3) := by decide +kernel
theorem dX9_text_59 : decode cX9_text 59 = .ok (.getfield 82, 3) := by decide +kernel
theorem dX9_text_62 : decode cX9_text 62 = .ok (.iload_n 3, 1) := by decide +kernel
theorem dX9_text_63 : decode cX9_text 63 = .ok (.iload_n 1, 1) := by decide +kernel
theorem dX9_text_64 : decode cX9_text 64 = .ok (.invokevirtual 86, 3) := by decide +kernel
theorem dX9_text_67 : decode cX9_text 67 = .ok (.aload_n 0, 1) := by decide +kernel
theorem dX9_text_68 : decode cX9_text 68 = .ok (.getfield 30, 3) := by decide +kernel
theorem dX9_text_71 : decode cX9_text 71 = .ok (.getfield 90, 3) := by decide +kernel
theorem dX9_text_74 : decode cX9_text 74 = .ok (.ifCond .ne 40, 3) := by decide +kernel
theorem dX9_text_77 : decode cX9_text 77 = .ok (.iload_n 1, 1) := by decide +kernel
theorem dX9_text_78 : decode cX9_text 78 = .ok (.ifCond .ne 36, 3) := by decide +kernel
theorem dX9_text_81 : decode cX9_text 81 = .ok (.aload_n 0, 1) := by decide +kernel
theorem dX9_text_82 : decode cX9_text 82 = .ok (.getfield 30, 3) := by decide +kernel
theorem dX9_text_85 : decode cX9_text 85 = .ok (.invokevirtual 91, 3) := by decide +kernel
theorem dX9_text_88 : decode cX9_text 88 = .ok (.astore 5, 2) := by decide +kernel
theorem dX9_text_90 : decode cX9_text 90 = .ok (.aload_n 0, 1) := by decide +kernel
theorem dX9_text_91 : decode cX9_text 91 = .ok (.getfield 30, 3) := by decide +kernel
theorem dX9_text_94 : decode cX9_text 94 = .ok (.getfield 90, 3) := by decide +kernel
theorem dX9_text_97 : decode cX9_text 97 = .ok (.ifCond .ne 14, 3) := by decide +kernel
theorem dX9_text_100 : decode cX9_text 100 = .ok (.aload_n 0, 1) := by decide +kernel
theorem dX9_text_101 : decode cX9_text 101 = .ok (.getfield 13, 3) := by decide +kernel
theorem dX9_text_104 : decode cX9_text 104 = .ok (.iload 4, 2) := by decide +kernel
theorem dX9_text_106 : decode cX9_text 106 = .ok (.aload 5, 2) := by decide +kernel
theorem dX9_text_108 : decode cX9_text 108 = .ok (.invokevirtual 95, 3) := by decide +kernel
theorem dX9_text_111 : decode cX9_text 111 = .ok (.goto 30, 3) := by decide +kernel
theorem dX9_text_114 : decode cX9_text 114 = .ok (.aload_n 0, 1) := by decide +kernel
theorem dX9_text_115 : decode cX9_text 115 = .ok (.getfield 30, 3) := by decide +kernel
theorem dX9_text_118 : decode cX9_text 118 = .ok (.getfield 90, 3) := by decide +kernel
theorem dX9_text_121 : decode cX9_text 121 = .ok (.ifCond .ne 20, 3) := by decide +kernel
theorem dX9_text_124 : decode cX9_text 124 = .ok (.aload_n 0, 1) := by decide +kernel
theorem dX9_text_125 : decode cX9_text 125 = .ok (.getfield 13, 3) := by decide +kernel
theorem dX9_text_128 : decode cX9_text 128 = .ok (.iload_n 1, 1) := by decide +kernel
theorem dX9_text_129 : decode cX9_text 129 = .ok (.iload 4, 2) := by decide +kernel
theorem dX9_text_131 : decode cX9_text 131 = .ok (.aload_n 0, 1) := by decide +kernel
theorem dX9_text_132 : decode cX9_text 132 = .ok (.getfield 30, 3) := by decide +kernel
theorem dX9_text_135 : decode cX9_text 135 = .ok (.invokevirtual 99, 3) := by decide +kernel
theorem dX9_text_138 : decode cX9_text 138 = .ok (.invokevirtual 103, 3) := by decide +kernel
theorem dX9_text_141 : decode cX9_text 141 = .ok (.aload_n 0, 1) := by decide +kernel
theorem dX9_text_142 : decode cX9_text 142 = .ok (.getfield 13, 3) := by decide +kernel
theorem dX9_text_145 : decode cX9_text 145 = .ok (.aload_n 0, 1) := by decide +kernel
theorem dX9_text_146 : decode cX9_text 146 = .ok (.getfield 30, 3) := by decide +kernel
theorem dX9_text_149 : decode cX9_text 149 = .ok (.getfield 90, 3) := by decide +kernel
theorem dX9_text_152 : decode cX9_text 152 = .ok (.putfield 72, 3) := by decide +kernel
theorem dX9_text_155 : decode cX9_text 155 = .ok (.aload_n 0, 1) := by decide +kernel
theorem dX9_text_156 : decode cX9_text 156 = .ok (.getfield 13, 3) := by decide +kernel
theorem dX9_text_159 : decode cX9_text 159 = .ok (.aload_n 0, 1) := by decide +kernel
theorem dX9_text_160 : decode cX9_text 160 = .ok (.getfield 30, 3) := by decide +kernel
theorem dX9_text_163 : decode cX9_text 163 = .ok (.getfield 107, 3) := by decide +kernel
theorem dX9_text_166 : decode cX9_text 166 = .ok (.putfield 75, 3) := by decide +kernel
theorem dX9_text_169 : decode cX9_text 169 = .ok (.aload_n 0, 1) := by decide +kernel
theorem dX9_text_170 : decode cX9_text 170 = .ok (.getfield 30, 3) := by decide +kernel
theorem dX9_text_173 : decode cX9_text 173 = .ok (.getfield 90, 3) := by decide +kernel
theorem dX9_text_176 : decode cX9_text 176 = .ok (.ifCond .ne 8, 3) := by decide +kernel
theorem dX9_text_179 : decode cX9_text 179 = .ok (.iload 4, 2) := by decide +kernel
theorem dX9_text_181 : decode cX9_text 181 = .ok (.goto 4, 3) := by decide +kernel
theorem dX9_text_184 : decode cX9_text 184 = .ok (.iconst (-1), 1) := by decide +kernel
theorem dX9_text_185 : decode cX9_text 185 = .ok (.ireturn, 1) := by decide +kernel
theorem flX9_90 : FL RX9 90 3 13 := ⟨_, rfl, Nat.le_of_ble_eq_true rfl, tw 308 (by decide +kernel) rfl, rfl⟩
theorem flX9_107 : FL RX9 107 3 14 := ⟨_, rfl, Nat.le_of_ble_eq_true rfl, tw 310 (by decide +kernel) rfl, rfl⟩
theorem cdX4_toRows : Cond.code yX4_toRows cX4_toRows 6 (some (.object "PairedViews$Rows")) ∈ tz := tc3 124 rfl rfl
theorem lVX9_99 : LV RX9 99 yX4_toRows cX4_toRows 6 (some (.object "PairedViews$Rows")) 0 := ⟨tw 720 (by decide +kernel) rfl, tw 721 (by decide +kernel) rfl, tw 722 (by decide +kernel) rfl, tw 123 (by decide +kernel) rfl, cdX4_toRows, ⟨by decide +kernel, by decide +kernel, by decide +kernel⟩⟩
theorem cdX7_putRows : Cond.code yX7_putRows cX7_putRows 4 none ∈ tz := tc3 165 rfl rfl
theorem lVX9_103 : LV RX9 103 yX7_putRows cX7_putRows 4 none 3 := ⟨tw 761 (by decide +kernel) rfl, tw 762 (by decide +kernel) rfl, tw 763 (by decide +kernel) rfl, tw 122 (by decide +kernel) rfl, cdX7_putRows, ⟨by decide +kernel, by decide +kernel, by decide +kernel⟩⟩
theorem cdX7_slotFor : Cond.code yX7_slotFor cX7_slotFor 4 (some .int) ∈ tz := tc2 158 rfl rfl
theorem lVX9_78 : LV RX9 78 yX7_slotFor cX7_slotFor 4 (some .int) 2 := ⟨tw 514 (by decide +kernel) rfl, tw 515 (by decide +kernel) rfl, tw 516 (by decide +kernel) rfl, tw 122 (by decide +kernel) rfl, cdX7_slotFor, ⟨by decide +kernel, by decide +kernel, by decide +kernel⟩⟩
theorem flX9_82 : FL RX9 82 6 0 := ⟨_, rfl, Nat.le_of_ble_eq_true rfl, tw 259 (by decide +kernel) rfl, rfl⟩
theorem cdX4_read : Cond.code yX4_read cX4_read 4 none ∈ tz := tc2 169 rfl rfl
theorem lVX9_86 : LV RX9 86 yX4_read cX4_read 4 none 3 := ⟨tw 525 (by decide +kernel) rfl, tw 526 (by decide +kernel) rfl, tw 527 (by decide +kernel) rfl, tw 123 (by decide +kernel) rfl, cdX4_read, ⟨by decide +kernel, by decide +kernel, by decide +kernel⟩⟩
theorem cdX4_toCountry : Cond.code yX4_toCountry cX4_toCountry 5 (some (.object "PairedViews$Country")) ∈ tz := tc3 55 rfl rfl
theorem lVX9_91 : LV RX9 91 yX4_toCountry cX4_toCountry 5 (some (.object "PairedViews$Country")) 0 := ⟨tw 651 (by decide +kernel) rfl, tw 652 (by decide +kernel) rfl, tw 653 (by decide +kernel) rfl, tw 123 (by decide +kernel) rfl, cdX4_toCountry, ⟨by decide +kernel, by decide +kernel, by decide +kernel⟩⟩
theorem cdX7_putCountry : Cond.code yX7_putCountry cX7_putCountry 3 none ∈ tz := tc3 116 rfl rfl
theorem lVX9_95 : LV RX9 95 yX7_putCountry cX7_putCountry 3 none 2 := ⟨tw 712 (by decide +kernel) rfl, tw 713 (by decide +kernel) rfl, tw 714 (by decide +kernel) rfl, tw 122 (by decide +kernel) rfl, cdX7_putCountry, ⟨by decide +kernel, by decide +kernel, by decide +kernel⟩⟩
abbrev rmX9_text : Room := { frames := 10, cells := 15, slots := 140, locals := 215 }
def bX9_text_141 (a0 : Nat) (l4 : Int32) (z : AH) : Option (Int32 × AH) :=
  (gN 8 0 z a0).bind fun b142 =>
  (gN 8 3 z a0).bind fun b146 =>
  (gI 3 13 z b146).bind fun x149 =>
  (pF 6 2 z b142 (.int x149)).bind fun z152 =>
  (gN 8 0 z152 a0).bind fun b156 =>
  (gN 8 3 z152 a0).bind fun b160 =>
  (gI 3 14 z152 b160).bind fun x163 =>
  (pF 6 3 z152 b156 (.int x163)).bind fun z166 =>
  (gN 8 3 z166 a0).bind fun b170 =>
  (gI 3 13 z166 b170).bind fun x173 =>
  if x173 = (0 : Int32) then (
    some (l4, z166)
  ) else (
    some ((-1 : Int32), z166)
  )
set_option maxHeartbeats 4000000 in
set_option maxRecDepth 100000 in
theorem kbX9_text_141 {p : Program} {l : Launch} {e : Env} {s : State} {m : MethodId} {args : Array Value} {below : List Frame} {meth : Method} {c : Code} {G : GW} {r : Int32} {z' : AH} (C : Cx p m c cX9_text 6 s args RX9 G) (hlk : meth.locks = false) (hr : meth.sig.returnType = (some .int)) (a0 : Nat) (l4 : Int32) {z : AH} {H : Heap} {locs : List Loc} {ls : Array Slot} (h : bX9_text_141 a0 l4 z = some (r, z')) (hW : Wb G z s H locs) (hl : lv_has ls 6 [(0, .ref (gB G + a0)), (4, .int l4)]) : W p l e rmX9_text s m args below meth c H locs 15 140 (MQ below (Qi G r z') args s 15 140 (AA G)) (F0 m 141 ls []) := by
  have hx := C.1
  have hb := C.2.1
  unfold bX9_text_141 at h
  refine lv_aload_n hx hb dX9_text_141 rfl (lv_at hl 0 rfl) ?_
  obtain ⟨b142, hg, h⟩ := ob h
  refine wz_gN C hW flX9_13 hg dX9_text_142 ?_
  refine lv_aload_n hx hb dX9_text_145 rfl (lv_at hl 0 rfl) ?_
  obtain ⟨b146, hg, h⟩ := ob h
  refine wz_gN C hW flX9_30 hg dX9_text_146 ?_
  obtain ⟨x149, hg, h⟩ := ob h
  refine wz_gI C hW flX9_90 hg dX9_text_149 ?_
  obtain ⟨z152, hg, h⟩ := ob h
  refine wz_put (v := (.int x149)) C hW flX9_72 rfl rfl hg dX9_text_152 (fun H locs hW => ?_)
  refine lv_aload_n hx hb dX9_text_155 rfl (lv_at hl 0 rfl) ?_
  obtain ⟨b156, hg, h⟩ := ob h
  refine wz_gN C hW flX9_13 hg dX9_text_156 ?_
  refine lv_aload_n hx hb dX9_text_159 rfl (lv_at hl 0 rfl) ?_
  obtain ⟨b160, hg, h⟩ := ob h
  refine wz_gN C hW flX9_30 hg dX9_text_160 ?_
  obtain ⟨x163, hg, h⟩ := ob h
  refine wz_gI C hW flX9_107 hg dX9_text_163 ?_
  obtain ⟨z166, hg, h⟩ := ob h
  refine wz_put (v := (.int x163)) C hW flX9_75 rfl rfl hg dX9_text_166 (fun H locs hW => ?_)
  refine lv_aload_n hx hb dX9_text_169 rfl (lv_at hl 0 rfl) ?_
  obtain ⟨b170, hg, h⟩ := ob h
  refine wz_gN C hW flX9_30 hg dX9_text_170 ?_
  obtain ⟨x173, hg, h⟩ := ob h
  refine wz_gI C hW flX9_90 hg dX9_text_173 ?_
  refine lv_if_ne (tgt := 184) hx hb dX9_text_176 (by decide) (fun c176 => ?_) (fun c176 => ?_)
  · have h := ite_f c176 h
    refine lv_iconst (v := -1) hx hb dX9_text_184 (by decide) ?_
    exact wz_iretE C hlk hr (so2 h).1 (so2 h).2 hW dX9_text_185
  · have h := ite_t c176 h
    refine lv_iload hx hb dX9_text_179 (lv_at hl 1 rfl) ?_
    refine lv_goto (tgt := 185) hx hb dX9_text_181 (by decide) ?_
    exact wz_iretE C hlk hr (so2 h).1 (so2 h).2 hW dX9_text_185
def bX9_text_114 (a0 : Nat) (l1 : Int32) (l4 : Int32) (z : AH) : Option (Int32 × AH) :=
  (gN 8 3 z a0).bind fun b115 =>
  (gI 3 13 z b115).bind fun x118 =>
  if x118 = (0 : Int32) then (
    (gN 8 0 z a0).bind fun b125 =>
    (gN 8 3 z a0).bind fun b132 =>
    b2 (fX4_toRows b132 z) fun b135 z135 =>
    (fX7_putRows b125 l1 l4 b135 z135).bind fun z138 =>
    bX9_text_141 a0 l4 z138
  ) else (
    bX9_text_141 a0 l4 z
  )
set_option maxHeartbeats 4000000 in
set_option maxRecDepth 100000 in
theorem kbX9_text_114 {p : Program} {l : Launch} {e : Env} {s : State} {m : MethodId} {args : Array Value} {below : List Frame} {meth : Method} {c : Code} {G : GW} {r : Int32} {z' : AH} (C : Cx p m c cX9_text 6 s args RX9 G) (hlk : meth.locks = false) (hr : meth.sig.returnType = (some .int)) (a0 : Nat) (l1 : Int32) (l4 : Int32) {z : AH} {H : Heap} {locs : List Loc} {ls : Array Slot} (h : bX9_text_114 a0 l1 l4 z = some (r, z')) (hW : Wb G z s H locs) (hl : lv_has ls 6 [(0, .ref (gB G + a0)), (1, .int l1), (4, .int l4)]) : W p l e rmX9_text s m args below meth c H locs 0 0 (MQ below (Qi G r z') args s 15 140 (AA G)) (F0 m 114 ls []) := by
  have hx := C.1
  have hb := C.2.1
  unfold bX9_text_114 at h
  refine lv_aload_n hx hb dX9_text_114 rfl (lv_at hl 0 rfl) ?_
  obtain ⟨b115, hg, h⟩ := ob h
  refine wz_gN C hW flX9_30 hg dX9_text_115 ?_
  obtain ⟨x118, hg, h⟩ := ob h
  refine wz_gI C hW flX9_90 hg dX9_text_118 ?_
  refine lv_if_ne (tgt := 141) hx hb dX9_text_121 (by decide) (fun c121 => ?_) (fun c121 => ?_)
  · have h := ite_f c121 h
    refine W.widen (k := 15) (n := 140) (Nat.le_of_ble_eq_true rfl) (Nat.le_of_ble_eq_true rfl) ?_
    exact kbX9_text_141 C hlk hr a0 l4 h hW (lv_sub hl [0, 2] rfl)
  · have h := ite_t c121 h
    refine lv_aload_n hx hb dX9_text_124 rfl (lv_at hl 0 rfl) ?_
    obtain ⟨b125, hg, h⟩ := ob h
    refine wz_gN C hW flX9_13 hg dX9_text_125 ?_
    refine lv_iload_n hx hb dX9_text_128 rfl (lv_at hl 1 rfl) ?_
    refine lv_iload hx hb dX9_text_129 (lv_at hl 2 rfl) ?_
    refine lv_aload_n hx hb dX9_text_131 rfl (lv_at hl 0 rfl) ?_
    obtain ⟨b132, hg, h⟩ := ob h
    refine wz_gN C hW flX9_30 hg dX9_text_132 ?_
    obtain ⟨b135, z135, hq, h⟩ := ob2 h
    refine wz_rN (c' := 4) (s' := 124) hW (wz_runV (rest := [.int l4, .int l1, .ref (gB G + b125)]) C hW lVX9_99 (ck hq).1 rfl (ctX4_toRows l G b132 z hq) ⟨⟨rfl, rfl⟩, Nat.le_of_ble_eq_true rfl, Nat.le_of_ble_eq_true rfl⟩ rfl hl.1 rfl (Nat.le_of_ble_eq_true rfl) dX9_text_135 ⟨Nat.le_of_ble_eq_true rfl, Nat.le_of_ble_eq_true rfl⟩) rfl rfl (fun H locs hW => ?_)
    obtain ⟨z138, hq, h⟩ := ob h
    refine wz_rV (c' := 4) (s' := 124) hW (wz_runV (rest := []) C hW lVX9_103 (ck hq).1 rfl (ctX7_putRows l G b125 l1 l4 b135 z135 hq) ⟨⟨rfl, rfl⟩, Nat.le_of_ble_eq_true rfl, Nat.le_of_ble_eq_true rfl⟩ rfl hl.1 rfl (Nat.le_of_ble_eq_true rfl) dX9_text_138 ⟨Nat.le_of_ble_eq_true rfl, Nat.le_of_ble_eq_true rfl⟩) rfl rfl (fun H locs hW => ?_)
    refine W.widen (k := 15) (n := 140) (Nat.le_of_ble_eq_true rfl) (Nat.le_of_ble_eq_true rfl) ?_
    exact kbX9_text_141 C hlk hr a0 l4 h hW (lv_sub hl [0, 2] rfl)
def bX9_text_111 (a0 : Nat) (l4 : Int32) (z : AH) : Option (Int32 × AH) :=
  bX9_text_141 a0 l4 z
set_option maxHeartbeats 4000000 in
set_option maxRecDepth 100000 in
theorem kbX9_text_111 {p : Program} {l : Launch} {e : Env} {s : State} {m : MethodId} {args : Array Value} {below : List Frame} {meth : Method} {c : Code} {G : GW} {r : Int32} {z' : AH} (C : Cx p m c cX9_text 6 s args RX9 G) (hlk : meth.locks = false) (hr : meth.sig.returnType = (some .int)) (a0 : Nat) (l4 : Int32) {z : AH} {H : Heap} {locs : List Loc} {ls : Array Slot} (h : bX9_text_111 a0 l4 z = some (r, z')) (hW : Wb G z s H locs) (hl : lv_has ls 6 [(0, .ref (gB G + a0)), (4, .int l4)]) : W p l e rmX9_text s m args below meth c H locs 15 140 (MQ below (Qi G r z') args s 15 140 (AA G)) (F0 m 111 ls []) := by
  have hx := C.1
  have hb := C.2.1
  unfold bX9_text_111 at h
  refine lv_goto (tgt := 141) hx hb dX9_text_111 (by decide) ?_
  exact kbX9_text_141 C hlk hr a0 l4 h hW (lv_sub hl [0, 1] rfl)
def fX9_text (a0 : Nat) (l1 : Int32) (l2 : Int32) (z : AH) : Option (Int32 × AH) :=
  if isO 8 z a0 = true then
    (gN 8 0 z a0).bind fun b1 =>
    (gI 6 1 z b1).bind fun x4 =>
    (gN 8 0 z a0).bind fun b9 =>
    (pF 6 1 z b9 (.int (0 : Int32))).bind fun z13 =>
    (gN 8 0 z13 a0).bind fun b17 =>
    (pF 6 2 z13 b17 (.int (0 : Int32))).bind fun z21 =>
    (gN 8 0 z21 a0).bind fun b25 =>
    (pF 6 3 z21 b25 (.int (-1 : Int32))).bind fun z29 =>
    (gN 8 0 z29 a0).bind fun b33 =>
    (fX7_slotFor b33 l1 l2 z29).bind fun x38 =>
    if (0 : Int32) ≤ x38 then (
      (gN 8 3 z29 a0).bind fun b52 =>
      (gN 8 0 z29 a0).bind fun b56 =>
      (gN 6 0 z29 b56).bind fun b59 =>
      (fX4_read b52 b59 x4 l1 z29).bind fun z64 =>
      (gN 8 3 z64 a0).bind fun b68 =>
      (gI 3 13 z64 b68).bind fun x71 =>
      if x71 = (0 : Int32) then (
        if l1 = (0 : Int32) then (
          (gN 8 3 z64 a0).bind fun b82 =>
          b2 (fX4_toCountry b82 z64) fun b85 z85 =>
          (gN 8 3 z85 a0).bind fun b91 =>
          (gI 3 13 z85 b91).bind fun x94 =>
          if x94 = (0 : Int32) then (
            (gN 8 0 z85 a0).bind fun b101 =>
            (fX7_putCountry b101 x38 b85 z85).bind fun z108 =>
            bX9_text_111 a0 x38 z108
          ) else (
            bX9_text_111 a0 x38 z85
          )
        ) else (
          bX9_text_114 a0 l1 x38 z64
        )
      ) else (
        bX9_text_114 a0 l1 x38 z64
      )
    ) else (
      some ((-2 : Int32), z29)
    )
  else none
set_option maxHeartbeats 4000000 in
set_option maxRecDepth 100000 in
theorem ctX9_text (l : Launch) (G : GW) (a0 : Nat) (l1 : Int32) (l2 : Int32) (z : AH) {r : Int32} {z' : AH} (h : fX9_text a0 l1 l2 z = some (r, z')) : Met l yX9_text (wy yX9_text cX9_text 6 (some .int)) rmX9_text (Pz G [.ref (gB G + a0), .int l1, .int l2] z) (Qi G r z') 15 140 (AA G) := by
  refine wz_ent (own := RX9) (by decide +kernel) rfl (fun p e s m below meth c ls C hlk hr hin hW hl => ?_) (Nat.le_of_ble_eq_true rfl)
  have hl : lv_has ls 6 [(0, .ref (gB G + a0)), (1, .int l1), (2, .int l2)] := hl
  have hx := C.1
  have hb := C.2.1
  unfold fX9_text at h
  obtain ⟨-, h⟩ := ck h
  refine lv_aload_n hx hb dX9_text_0 rfl (lv_at hl 0 rfl) ?_
  obtain ⟨b1, hg, h⟩ := ob h
  refine wz_gN C hW flX9_13 hg dX9_text_1 ?_
  obtain ⟨x4, hg, h⟩ := ob h
  refine wz_gI C hW flX9_64 hg dX9_text_4 ?_
  refine lv_istore_n (lv' := [(3, .int x4), (0, .ref (gB G + a0)), (1, .int l1), (2, .int l2)]) hx hb dX9_text_7 rfl hl (by decide) rfl (fun ls hl => ?_)
  refine lv_aload_n hx hb dX9_text_8 rfl (lv_at hl 1 rfl) ?_
  obtain ⟨b9, hg, h⟩ := ob h
  refine wz_gN C hW flX9_13 hg dX9_text_9 ?_
  refine lv_iconst (v := 0) hx hb dX9_text_12 (by decide) ?_
  obtain ⟨z13, hg, h⟩ := ob h
  refine wz_put (v := (.int (0 : Int32))) C hW flX9_64 rfl rfl hg dX9_text_13 (fun H locs hW => ?_)
  refine lv_aload_n hx hb dX9_text_16 rfl (lv_at hl 1 rfl) ?_
  obtain ⟨b17, hg, h⟩ := ob h
  refine wz_gN C hW flX9_13 hg dX9_text_17 ?_
  refine lv_iconst (v := 0) hx hb dX9_text_20 (by decide) ?_
  obtain ⟨z21, hg, h⟩ := ob h
  refine wz_put (v := (.int (0 : Int32))) C hW flX9_72 rfl rfl hg dX9_text_21 (fun H locs hW => ?_)
  refine lv_aload_n hx hb dX9_text_24 rfl (lv_at hl 1 rfl) ?_
  obtain ⟨b25, hg, h⟩ := ob h
  refine wz_gN C hW flX9_13 hg dX9_text_25 ?_
  refine lv_iconst (v := -1) hx hb dX9_text_28 (by decide) ?_
  obtain ⟨z29, hg, h⟩ := ob h
  refine wz_put (v := (.int (-1 : Int32))) C hW flX9_75 rfl rfl hg dX9_text_29 (fun H locs hW => ?_)
  refine lv_aload_n hx hb dX9_text_32 rfl (lv_at hl 1 rfl) ?_
  obtain ⟨b33, hg, h⟩ := ob h
  refine wz_gN C hW flX9_13 hg dX9_text_33 ?_
  refine lv_iload_n hx hb dX9_text_36 rfl (lv_at hl 2 rfl) ?_
  refine lv_iload_n hx hb dX9_text_37 rfl (lv_at hl 3 rfl) ?_
  obtain ⟨x38, hq, h⟩ := ob h
  refine wz_rI (c' := 0) (s' := 0) hW (wz_runV (rest := []) C hW lVX9_78 (ck hq).1 rfl (ctX7_slotFor l G b33 l1 l2 z29 hq) ⟨⟨rfl, rfl⟩, Nat.le_of_ble_eq_true rfl, Nat.le_of_ble_eq_true rfl⟩ rfl hl.1 rfl (Nat.le_of_ble_eq_true rfl) dX9_text_38 ⟨Nat.le_of_ble_eq_true rfl, Nat.le_of_ble_eq_true rfl⟩) rfl rfl (fun H locs hW => ?_)
  refine lv_istore (lv' := [(4, .int x38), (3, .int x4), (0, .ref (gB G + a0)), (1, .int l1), (2, .int l2)]) hx hb dX9_text_41 hl (by decide) rfl (fun ls hl => ?_)
  refine lv_iload hx hb dX9_text_43 (lv_at hl 0 rfl) ?_
  refine lv_if_ge (tgt := 51) hx hb dX9_text_45 (by decide) (fun c45 => ?_) (fun c45 => ?_)
  · have h := ite_t c45 h
    refine lv_aload_n hx hb dX9_text_51 rfl (lv_at hl 2 rfl) ?_
    obtain ⟨b52, hg, h⟩ := ob h
    refine wz_gN C hW flX9_30 hg dX9_text_52 ?_
    refine lv_aload_n hx hb dX9_text_55 rfl (lv_at hl 2 rfl) ?_
    obtain ⟨b56, hg, h⟩ := ob h
    refine wz_gN C hW flX9_13 hg dX9_text_56 ?_
    obtain ⟨b59, hg, h⟩ := ob h
    refine wz_gN C hW flX9_82 hg dX9_text_59 ?_
    refine lv_iload_n hx hb dX9_text_62 rfl (lv_at hl 1 rfl) ?_
    refine lv_iload_n hx hb dX9_text_63 rfl (lv_at hl 3 rfl) ?_
    obtain ⟨z64, hq, h⟩ := ob h
    refine wz_rV (c' := 0) (s' := 0) hW (wz_runV (rest := []) C hW lVX9_86 (ck hq).1 rfl (ctX4_read l G b52 b59 x4 l1 z29 hq) ⟨⟨rfl, rfl⟩, Nat.le_of_ble_eq_true rfl, Nat.le_of_ble_eq_true rfl⟩ rfl hl.1 rfl (Nat.le_of_ble_eq_true rfl) dX9_text_64 ⟨Nat.le_of_ble_eq_true rfl, Nat.le_of_ble_eq_true rfl⟩) rfl rfl (fun H locs hW => ?_)
    refine lv_aload_n hx hb dX9_text_67 rfl (lv_at hl 2 rfl) ?_
    obtain ⟨b68, hg, h⟩ := ob h
    refine wz_gN C hW flX9_30 hg dX9_text_68 ?_
    obtain ⟨x71, hg, h⟩ := ob h
    refine wz_gI C hW flX9_90 hg dX9_text_71 ?_
    refine lv_if_ne (tgt := 114) hx hb dX9_text_74 (by decide) (fun c74 => ?_) (fun c74 => ?_)
    · have h := ite_f c74 h
      exact kbX9_text_114 C hlk hr a0 l1 x38 h hW (lv_sub hl [2, 3, 0] rfl)
    · have h := ite_t c74 h
      refine lv_iload_n hx hb dX9_text_77 rfl (lv_at hl 3 rfl) ?_
      refine lv_if_ne (tgt := 114) hx hb dX9_text_78 (by decide) (fun c78 => ?_) (fun c78 => ?_)
      · have h := ite_f c78 h
        exact kbX9_text_114 C hlk hr a0 l1 x38 h hW (lv_sub hl [2, 3, 0] rfl)
      · have h := ite_t c78 h
        refine lv_aload_n hx hb dX9_text_81 rfl (lv_at hl 2 rfl) ?_
        obtain ⟨b82, hg, h⟩ := ob h
        refine wz_gN C hW flX9_30 hg dX9_text_82 ?_
        obtain ⟨b85, z85, hq, h⟩ := ob2 h
        refine wz_rN (c' := 15) (s' := 140) hW (wz_runV (rest := []) C hW lVX9_91 (ck hq).1 rfl (ctX4_toCountry l G b82 z64 hq) ⟨⟨rfl, rfl⟩, Nat.le_of_ble_eq_true rfl, Nat.le_of_ble_eq_true rfl⟩ rfl hl.1 rfl (Nat.le_of_ble_eq_true rfl) dX9_text_85 ⟨Nat.le_of_ble_eq_true rfl, Nat.le_of_ble_eq_true rfl⟩) rfl rfl (fun H locs hW => ?_)
        refine lv_astore (lv' := [(5, .ref (gB G + b85)), (4, .int x38), (3, .int x4), (0, .ref (gB G + a0)), (1, .int l1), (2, .int l2)]) hx hb dX9_text_88 hl (by decide) rfl (fun ls hl => ?_)
        refine lv_aload_n hx hb dX9_text_90 rfl (lv_at hl 3 rfl) ?_
        obtain ⟨b91, hg, h⟩ := ob h
        refine wz_gN C hW flX9_30 hg dX9_text_91 ?_
        obtain ⟨x94, hg, h⟩ := ob h
        refine wz_gI C hW flX9_90 hg dX9_text_94 ?_
        refine lv_if_ne (tgt := 111) hx hb dX9_text_97 (by decide) (fun c97 => ?_) (fun c97 => ?_)
        · have h := ite_f c97 h
          exact kbX9_text_111 C hlk hr a0 x38 h hW (lv_sub hl [3, 1] rfl)
        · have h := ite_t c97 h
          refine lv_aload_n hx hb dX9_text_100 rfl (lv_at hl 3 rfl) ?_
          obtain ⟨b101, hg, h⟩ := ob h
          refine wz_gN C hW flX9_13 hg dX9_text_101 ?_
          refine lv_iload hx hb dX9_text_104 (lv_at hl 1 rfl) ?_
          refine lv_aload hx hb dX9_text_106 (lv_at hl 0 rfl) ?_
          obtain ⟨z108, hq, h⟩ := ob h
          refine wz_rV (c' := 15) (s' := 140) hW (wz_runV (rest := []) C hW lVX9_95 (ck hq).1 rfl (ctX7_putCountry l G b101 x38 b85 z85 hq) ⟨⟨rfl, rfl⟩, Nat.le_of_ble_eq_true rfl, Nat.le_of_ble_eq_true rfl⟩ rfl hl.1 rfl (Nat.le_of_ble_eq_true rfl) dX9_text_108 ⟨Nat.le_of_ble_eq_true rfl, Nat.le_of_ble_eq_true rfl⟩) rfl rfl (fun H locs hW => ?_)
          exact kbX9_text_111 C hlk hr a0 x38 h hW (lv_sub hl [3, 1] rfl)
  · have h := ite_f c45 h
    refine lv_bipush (v := -2) hx hb dX9_text_48 (by decide) ?_
    refine W.widen (k := 15) (n := 140) (Nat.le_of_ble_eq_true rfl) (Nat.le_of_ble_eq_true rfl) ?_
    exact wz_iretE C hlk hr (so2 h).1 (so2 h).2 hW dX9_text_50
theorem dX9_watch_0 : decode cX9_watch 0 = .ok (.aload_n 0, 1) := by decide +kernel
theorem dX9_watch_1 : decode cX9_watch 1 = .ok (.getfield 13, 3) := by decide +kernel
theorem dX9_watch_4 : decode cX9_watch 4 = .ok (.iload_n 1, 1) := by decide +kernel
theorem dX9_watch_5 : decode cX9_watch 5 = .ok (.invokevirtual 108, 3) := by decide +kernel
theorem dX9_watch_8 : decode cX9_watch 8 = .ok (.astore_n 3, 1) := by decide +kernel
theorem dX9_watch_9 : decode cX9_watch 9 = .ok (.aload_n 3, 1) := by decide +kernel
theorem dX9_watch_10 : decode cX9_watch 10 = .ok (.ifnull 17, 3) := by decide +kernel
theorem dX9_watch_13 : decode cX9_watch 13 = .ok (.iload_n 2, 1) := by decide +kernel
theorem dX9_watch_14 : decode cX9_watch 14 = .ok (.bipush (-2), 2) := by decide +kernel
theorem dX9_watch_16 : decode cX9_watch 16 = .ok (.if_icmp .lt 11, 3) := by decide +kernel
theorem dX9_watch_19 : decode cX9_watch 19 = .ok (.iload_n 2, 1) := by decide +kernel
theorem dX9_watch_20 : decode cX9_watch 20 = .ok (.aload_n 3, 1) := by decide +kernel
theorem dX9_watch_21 : decode cX9_watch 21 = .ok (.getfield 146, 3) := by decide +kernel
theorem dX9_watch_24 : decode cX9_watch 24 = .ok (.if_icmp .lt 5, 3) := by decide +kernel
theorem dX9_watch_27 : decode cX9_watch 27 = .ok (.iconst (-1), 1) := by decide +kernel
theorem dX9_watch_28 : decode cX9_watch 28 = .ok (.ireturn, 1) := by decide +kernel
theorem dX9_watch_29 : decode cX9_watch 29 = .ok (.aload_n 0, 1) := by decide +kernel
theorem dX9_watch_30 : decode cX9_watch 30 = .ok (.getfield 46, 3) := by decide +kernel
theorem dX9_watch_33 : decode cX9_watch 33 = .ok (.aload_n 3, 1) := by decide +kernel
theorem dX9_watch_34 : decode cX9_watch 34 = .ok (.invokevirtual 149, 3) := by decide +kernel
theorem dX9_watch_37 : decode cX9_watch 37 = .ok (.iload_n 2, 1) := by decide +kernel
theorem dX9_watch_38 : decode cX9_watch 38 = .ok (.iconst (-1), 1) := by decide +kernel
theorem dX9_watch_39 : decode cX9_watch 39 = .ok (.if_icmp .ne 11, 3) := by decide +kernel
theorem dX9_watch_42 : decode cX9_watch 42 = .ok (.aload_n 0, 1) := by decide +kernel
theorem dX9_watch_43 : decode cX9_watch 43 = .ok (.getfield 46, 3) := by decide +kernel
theorem dX9_watch_46 : decode cX9_watch 46 = .ok (.getfield 152, 3) := by decide +kernel
theorem dX9_watch_49 : decode cX9_watch 49 = .ok (.ireturn, 1) := by decide +kernel
theorem dX9_watch_50 : decode cX9_watch 50 = .ok (.iload_n 2, 1) := by decide +kernel
theorem dX9_watch_51 : decode cX9_watch 51 = .ok (.bipush (-2), 2) := by decide +kernel
theorem dX9_watch_53 : decode cX9_watch 53 = .ok (.if_icmp .ne 13, 3) := by decide +kernel
theorem dX9_watch_56 : decode cX9_watch 56 = .ok (.aload_n 0, 1) := by decide +kernel
theorem dX9_watch_57 : decode cX9_watch 57 = .ok (.getfield 46, 3) := by decide +kernel
theorem dX9_watch_60 : decode cX9_watch 60 = .ok (.getfield 155, 3) := by decide +kernel
theorem dX9_watch_63 : decode cX9_watch 63 = .ok (.goto 11, 3) := by decide +kernel
theorem dX9_watch_66 : decode cX9_watch 66 = .ok (.aload_n 0, 1) := by decide +kernel
theorem dX9_watch_67 : decode cX9_watch 67 = .ok (.getfield 46, 3) := by decide +kernel
theorem dX9_watch_70 : decode cX9_watch 70 = .ok (.iload_n 2, 1) := by decide +kernel
theorem dX9_watch_71 : decode cX9_watch 71 = .ok (.invokevirtual 158, 3) := by decide +kernel
theorem dX9_watch_74 : decode cX9_watch 74 = .ok (.ireturn, 1) := by decide +kernel
theorem flX9_146 : FL RX9 146 0 14 := ⟨_, rfl, Nat.le_of_ble_eq_true rfl, tw 190 (by decide +kernel) rfl, rfl⟩
theorem cdX8_search : Cond.code yX8_search cX8_search 2 none ∈ tz := tc4 71 rfl rfl
theorem lVX9_149 : LV RX9 149 yX8_search cX8_search 2 none 1 := ⟨tw 907 (by decide +kernel) rfl, tw 908 (by decide +kernel) rfl, tw 909 (by decide +kernel) rfl, tw 125 (by decide +kernel) rfl, cdX8_search, ⟨by decide +kernel, by decide +kernel, by decide +kernel⟩⟩
theorem cdX8_chosen : Cond.code yX8_chosen cX8_chosen 2 (some .int) ∈ tz := tc4 101 rfl rfl
theorem lVX9_158 : LV RX9 158 yX8_chosen cX8_chosen 2 (some .int) 1 := ⟨tw 937 (by decide +kernel) rfl, tw 938 (by decide +kernel) rfl, tw 939 (by decide +kernel) rfl, tw 125 (by decide +kernel) rfl, cdX8_chosen, ⟨by decide +kernel, by decide +kernel, by decide +kernel⟩⟩
theorem flX9_155 : FL RX9 155 7 6 := ⟨_, rfl, Nat.le_of_ble_eq_true rfl, tw 421 (by decide +kernel) rfl, rfl⟩
theorem flX9_152 : FL RX9 152 7 5 := ⟨_, rfl, Nat.le_of_ble_eq_true rfl, tw 419 (by decide +kernel) rfl, rfl⟩
abbrev rmX9_watch : Room := { frames := 10, cells := 0, slots := 0, locals := 272 }
def fX9_watch (a0 : Nat) (l1 : Int32) (l2 : Int32) (z : AH) : Option (Int32 × AH) :=
  if isO 8 z a0 = true then
    (gN 8 0 z a0).bind fun b1 =>
    (fX7_countryAt b1 l1 z).bind fun q5_ =>
    nq q5_ (
      some ((-1 : Int32), z)
    ) fun b8 =>
    if l2 < (-2 : Int32) then (
      some ((-1 : Int32), z)
    ) else (
      (gI 0 14 z b8).bind fun x21 =>
      if l2 < x21 then (
        (gN 8 5 z a0).bind fun b30 =>
        (fX8_search b30 b8 z).bind fun z34 =>
        if l2 = (-1 : Int32) then (
          (gN 8 5 z34 a0).bind fun b43 =>
          (gI 7 5 z34 b43).bind fun x46 =>
          some (x46, z34)
        ) else (
          if l2 = (-2 : Int32) then (
            (gN 8 5 z34 a0).bind fun b57 =>
            (gI 7 6 z34 b57).bind fun x60 =>
            some (x60, z34)
          ) else (
            (gN 8 5 z34 a0).bind fun b67 =>
            (fX8_chosen b67 l2 z34).bind fun x71 =>
            some (x71, z34)
          )
        )
      ) else (
        some ((-1 : Int32), z)
      )
    )
  else none
set_option maxHeartbeats 4000000 in
set_option maxRecDepth 100000 in
theorem ctX9_watch (l : Launch) (G : GW) (a0 : Nat) (l1 : Int32) (l2 : Int32) (z : AH) {r : Int32} {z' : AH} (h : fX9_watch a0 l1 l2 z = some (r, z')) : Met l yX9_watch (wy yX9_watch cX9_watch 4 (some .int)) rmX9_watch (Pz G [.ref (gB G + a0), .int l1, .int l2] z) (Qi G r z') 0 0 (AA G) := by
  refine wz_ent (own := RX9) (by decide +kernel) rfl (fun p e s m below meth c ls C hlk hr hin hW hl => ?_) (Nat.le_of_ble_eq_true rfl)
  have hl : lv_has ls 4 [(0, .ref (gB G + a0)), (1, .int l1), (2, .int l2)] := hl
  have hx := C.1
  have hb := C.2.1
  unfold fX9_watch at h
  obtain ⟨-, h⟩ := ck h
  refine lv_aload_n hx hb dX9_watch_0 rfl (lv_at hl 0 rfl) ?_
  obtain ⟨b1, hg, h⟩ := ob h
  refine wz_gN C hW flX9_13 hg dX9_watch_1 ?_
  refine lv_iload_n hx hb dX9_watch_4 rfl (lv_at hl 1 rfl) ?_
  obtain ⟨q5_, hq, h⟩ := ob h
  refine wz_rQ (c' := 0) (s' := 0) hW (wz_runV (rest := []) C hW lVX9_108 (ck hq).1 rfl (ctX7_countryAt l G b1 l1 z hq) ⟨⟨rfl, rfl⟩, Nat.le_of_ble_eq_true rfl, Nat.le_of_ble_eq_true rfl⟩ rfl hl.1 rfl (Nat.le_of_ble_eq_true rfl) dX9_watch_5 ⟨Nat.le_of_ble_eq_true rfl, Nat.le_of_ble_eq_true rfl⟩) rfl rfl (fun H locs hW => ?_)
  cases q5_ with
  | none =>
    have h := nq_n h
    refine lv_astore_nN (lv' := [(3, .null), (0, .ref (gB G + a0)), (1, .int l1), (2, .int l2)]) hx hb dX9_watch_8 rfl hl (by decide) rfl (fun ls hl => ?_)
    refine lv_aload_nN hx hb dX9_watch_9 rfl (lv_at hl 0 rfl) ?_
    refine lv_ifnullN (tgt := 27) hx hb dX9_watch_10 (by decide) ?_
    refine lv_iconst (v := -1) hx hb dX9_watch_27 (by decide) ?_
    exact wz_iretE C hlk hr (so2 h).1 (so2 h).2 hW dX9_watch_28
  | some b8 =>
    have h := nq_s h
    refine lv_astore_n (lv' := [(3, .ref (gB G + b8)), (0, .ref (gB G + a0)), (1, .int l1), (2, .int l2)]) hx hb dX9_watch_8 rfl hl (by decide) rfl (fun ls hl => ?_)
    refine lv_aload_n hx hb dX9_watch_9 rfl (lv_at hl 0 rfl) ?_
    refine lv_ifnull hx hb dX9_watch_10 ?_
    refine lv_iload_n hx hb dX9_watch_13 rfl (lv_at hl 3 rfl) ?_
    refine lv_bipush (v := -2) hx hb dX9_watch_14 (by decide) ?_
    refine lv_icmp_lt (tgt := 27) hx hb dX9_watch_16 (by decide) (fun c16 => ?_) (fun c16 => ?_)
    · have h := ite_t c16 h
      refine lv_iconst (v := -1) hx hb dX9_watch_27 (by decide) ?_
      exact wz_iretE C hlk hr (so2 h).1 (so2 h).2 hW dX9_watch_28
    · have h := ite_f c16 h
      refine lv_iload_n hx hb dX9_watch_19 rfl (lv_at hl 3 rfl) ?_
      refine lv_aload_n hx hb dX9_watch_20 rfl (lv_at hl 0 rfl) ?_
      obtain ⟨x21, hg, h⟩ := ob h
      refine wz_gI C hW flX9_146 hg dX9_watch_21 ?_
      refine lv_icmp_lt (tgt := 29) hx hb dX9_watch_24 (by decide) (fun c24 => ?_) (fun c24 => ?_)
      · have h := ite_t c24 h
        refine lv_aload_n hx hb dX9_watch_29 rfl (lv_at hl 1 rfl) ?_
        obtain ⟨b30, hg, h⟩ := ob h
        refine wz_gN C hW flX9_46 hg dX9_watch_30 ?_
        refine lv_aload_n hx hb dX9_watch_33 rfl (lv_at hl 0 rfl) ?_
        obtain ⟨z34, hq, h⟩ := ob h
        refine wz_rV (c' := 0) (s' := 0) hW (wz_runV (rest := []) C hW lVX9_149 (ck hq).1 rfl (ctX8_search l G b30 b8 z hq) ⟨⟨rfl, rfl⟩, Nat.le_of_ble_eq_true rfl, Nat.le_of_ble_eq_true rfl⟩ rfl hl.1 rfl (Nat.le_of_ble_eq_true rfl) dX9_watch_34 ⟨Nat.le_of_ble_eq_true rfl, Nat.le_of_ble_eq_true rfl⟩) rfl rfl (fun H locs hW => ?_)
        refine lv_iload_n hx hb dX9_watch_37 rfl (lv_at hl 3 rfl) ?_
        refine lv_iconst (v := -1) hx hb dX9_watch_38 (by decide) ?_
        refine lv_icmp_ne (tgt := 50) hx hb dX9_watch_39 (by decide) (fun c39 => ?_) (fun c39 => ?_)
        · have h := ite_f c39 h
          refine lv_iload_n hx hb dX9_watch_50 rfl (lv_at hl 3 rfl) ?_
          refine lv_bipush (v := -2) hx hb dX9_watch_51 (by decide) ?_
          refine lv_icmp_ne (tgt := 66) hx hb dX9_watch_53 (by decide) (fun c53 => ?_) (fun c53 => ?_)
          · have h := ite_f c53 h
            refine lv_aload_n hx hb dX9_watch_66 rfl (lv_at hl 1 rfl) ?_
            obtain ⟨b67, hg, h⟩ := ob h
            refine wz_gN C hW flX9_46 hg dX9_watch_67 ?_
            refine lv_iload_n hx hb dX9_watch_70 rfl (lv_at hl 3 rfl) ?_
            obtain ⟨x71, hq, h⟩ := ob h
            refine wz_rI (c' := 0) (s' := 0) hW (wz_runV (rest := []) C hW lVX9_158 (ck hq).1 rfl (ctX8_chosen l G b67 l2 z34 hq) ⟨⟨rfl, rfl⟩, Nat.le_of_ble_eq_true rfl, Nat.le_of_ble_eq_true rfl⟩ rfl hl.1 rfl (Nat.le_of_ble_eq_true rfl) dX9_watch_71 ⟨Nat.le_of_ble_eq_true rfl, Nat.le_of_ble_eq_true rfl⟩) rfl rfl (fun H locs hW => ?_)
            exact wz_iretE C hlk hr (so2 h).1 (so2 h).2 hW dX9_watch_74
          · have h := ite_t c53 h
            refine lv_aload_n hx hb dX9_watch_56 rfl (lv_at hl 1 rfl) ?_
            obtain ⟨b57, hg, h⟩ := ob h
            refine wz_gN C hW flX9_46 hg dX9_watch_57 ?_
            obtain ⟨x60, hg, h⟩ := ob h
            refine wz_gI C hW flX9_155 hg dX9_watch_60 ?_
            refine lv_goto (tgt := 74) hx hb dX9_watch_63 (by decide) ?_
            exact wz_iretE C hlk hr (so2 h).1 (so2 h).2 hW dX9_watch_74
        · have h := ite_t c39 h
          refine lv_aload_n hx hb dX9_watch_42 rfl (lv_at hl 1 rfl) ?_
          obtain ⟨b43, hg, h⟩ := ob h
          refine wz_gN C hW flX9_46 hg dX9_watch_43 ?_
          obtain ⟨x46, hg, h⟩ := ob h
          refine wz_gI C hW flX9_152 hg dX9_watch_46 ?_
          exact wz_iretE C hlk hr (so2 h).1 (so2 h).2 hW dX9_watch_49
      · have h := ite_f c24 h
        refine lv_iconst (v := -1) hx hb dX9_watch_27 (by decide) ?_
        exact wz_iretE C hlk hr (so2 h).1 (so2 h).2 hW dX9_watch_28
theorem dX9_height_0 : decode cX9_height 0 = .ok (.aload_n 0, 1) := by decide +kernel
theorem dX9_height_1 : decode cX9_height 1 = .ok (.getfield 13, 3) := by decide +kernel
theorem dX9_height_4 : decode cX9_height 4 = .ok (.iload_n 1, 1) := by decide +kernel
theorem dX9_height_5 : decode cX9_height 5 = .ok (.invokevirtual 108, 3) := by decide +kernel
theorem dX9_height_8 : decode cX9_height 8 = .ok (.astore_n 3, 1) := by decide +kernel
theorem dX9_height_9 : decode cX9_height 9 = .ok (.aload_n 3, 1) := by decide +kernel
theorem dX9_height_10 : decode cX9_height 10 = .ok (.ifnonnull 6, 3) := by decide +kernel
theorem dX9_height_13 : decode cX9_height 13 = .ok (.bipush (-2), 2) := by decide +kernel
theorem dX9_height_15 : decode cX9_height 15 = .ok (.ireturn, 1) := by decide +kernel
theorem dX9_height_16 : decode cX9_height 16 = .ok (.aload_n 0, 1) := by decide +kernel
theorem dX9_height_17 : decode cX9_height 17 = .ok (.getfield 39, 3) := by decide +kernel
theorem dX9_height_20 : decode cX9_height 20 = .ok (.aload_n 3, 1) := by decide +kernel
theorem dX9_height_21 : decode cX9_height 21 = .ok (.invokevirtual 127, 3) := by decide +kernel
theorem dX9_height_24 : decode cX9_height 24 = .ok (.iload_n 2, 1) := by decide +kernel
theorem dX9_height_25 : decode cX9_height 25 = .ok (.tableswitch 80 0 4 #[35, 43, 59, 67, 75], 35) := by decide +kernel
theorem dX9_height_60 : decode cX9_height 60 = .ok (.aload_n 0, 1) := by decide +kernel
theorem dX9_height_61 : decode cX9_height 61 = .ok (.getfield 39, 3) := by decide +kernel
theorem dX9_height_64 : decode cX9_height 64 = .ok (.invokevirtual 252, 3) := by decide +kernel
theorem dX9_height_67 : decode cX9_height 67 = .ok (.ireturn, 1) := by decide +kernel
theorem dX9_height_68 : decode cX9_height 68 = .ok (.aload_n 0, 1) := by decide +kernel
theorem dX9_height_69 : decode cX9_height 69 = .ok (.getfield 46, 3) := by decide +kernel
theorem dX9_height_72 : decode cX9_height 72 = .ok (.aload_n 3, 1) := by decide +kernel
theorem dX9_height_73 : decode cX9_height 73 = .ok (.invokevirtual 149, 3) := by decide +kernel
theorem dX9_height_76 : decode cX9_height 76 = .ok (.aload_n 0, 1) := by decide +kernel
theorem dX9_height_77 : decode cX9_height 77 = .ok (.getfield 46, 3) := by decide +kernel
theorem dX9_height_80 : decode cX9_height 80 = .ok (.getfield 256, 3) := by decide +kernel
theorem dX9_height_83 : decode cX9_height 83 = .ok (.ireturn, 1) := by decide +kernel
theorem dX9_height_84 : decode cX9_height 84 = .ok (.aload_n 0, 1) := by decide +kernel
theorem dX9_height_85 : decode cX9_height 85 = .ok (.getfield 39, 3) := by decide +kernel
theorem dX9_height_88 : decode cX9_height 88 = .ok (.invokevirtual 259, 3) := by decide +kernel
theorem dX9_height_91 : decode cX9_height 91 = .ok (.ireturn, 1) := by decide +kernel
theorem dX9_height_92 : decode cX9_height 92 = .ok (.aload_n 0, 1) := by decide +kernel
theorem dX9_height_93 : decode cX9_height 93 = .ok (.getfield 39, 3) := by decide +kernel
theorem dX9_height_96 : decode cX9_height 96 = .ok (.invokevirtual 262, 3) := by decide +kernel
theorem dX9_height_99 : decode cX9_height 99 = .ok (.ireturn, 1) := by decide +kernel
theorem dX9_height_100 : decode cX9_height 100 = .ok (.aload_n 3, 1) := by decide +kernel
theorem dX9_height_101 : decode cX9_height 101 = .ok (.invokestatic 265, 3) := by decide +kernel
theorem dX9_height_104 : decode cX9_height 104 = .ok (.ireturn, 1) := by decide +kernel
theorem dX9_height_105 : decode cX9_height 105 = .ok (.bipush (-2), 2) := by decide +kernel
theorem dX9_height_107 : decode cX9_height 107 = .ok (.ireturn, 1) := by decide +kernel
theorem cdX6_highest : Cond.code yX6_highest cX6_highest 6 (some .int) ∈ tz := tc5 44 rfl rfl
theorem lVX9_252 : LV RX9 252 yX6_highest cX6_highest 6 (some .int) 0 := ⟨tw 1120 (by decide +kernel) rfl, tw 1121 (by decide +kernel) rfl, tw 1122 (by decide +kernel) rfl, tw 124 (by decide +kernel) rfl, cdX6_highest, ⟨by decide +kernel, by decide +kernel, by decide +kernel⟩⟩
theorem flX9_256 : FL RX9 256 7 7 := ⟨_, rfl, Nat.le_of_ble_eq_true rfl, tw 423 (by decide +kernel) rfl, rfl⟩
theorem cdX6_countParts : Cond.code yX6_countParts cX6_countParts 4 (some .int) ∈ tz := tc5 48 rfl rfl
theorem lVX9_259 : LV RX9 259 yX6_countParts cX6_countParts 4 (some .int) 0 := ⟨tw 1124 (by decide +kernel) rfl, tw 1125 (by decide +kernel) rfl, tw 1126 (by decide +kernel) rfl, tw 124 (by decide +kernel) rfl, cdX6_countParts, ⟨by decide +kernel, by decide +kernel, by decide +kernel⟩⟩
theorem cdX6_largestPart : Cond.code yX6_largestPart cX6_largestPart 3 (some .int) ∈ tz := tc5 56 rfl rfl
theorem lVX9_262 : LV RX9 262 yX6_largestPart cX6_largestPart 3 (some .int) 0 := ⟨tw 1132 (by decide +kernel) rfl, tw 1133 (by decide +kernel) rfl, tw 1134 (by decide +kernel) rfl, tw 124 (by decide +kernel) rfl, cdX6_largestPart, ⟨by decide +kernel, by decide +kernel, by decide +kernel⟩⟩
theorem cdX1_mostPairs : Cond.code yX1_mostPairs cX1_mostPairs 4 (some .int) ∈ tz := tc5 60 rfl rfl
theorem lTX9_265 : LT RX9 265 yX1_mostPairs cX1_mostPairs 4 (some .int) 1 := ⟨tw 1137 (by decide +kernel) rfl, tw 1138 (by decide +kernel) rfl, tw 126 (by decide +kernel) rfl, cdX1_mostPairs, ⟨by decide +kernel, by decide +kernel, by decide +kernel⟩⟩
abbrev rmX9_height : Room := { frames := 10, cells := 0, slots := 0, locals := 272 }
def fX9_height (a0 : Nat) (l1 : Int32) (l2 : Int32) (z : AH) : Option (Int32 × AH) :=
  if isO 8 z a0 = true then
    (gN 8 0 z a0).bind fun b1 =>
    (fX7_countryAt b1 l1 z).bind fun q5_ =>
    nq q5_ (
      some ((-2 : Int32), z)
    ) fun b8 =>
    (gN 8 4 z a0).bind fun b17 =>
    (fX6_begin b17 b8 z).bind fun z21 =>
    if l2 = (0 : Int32) then (
      (gN 8 4 z21 a0).bind fun b61 =>
      (fX6_highest b61 z21).bind fun x64 =>
      some (x64, z21)
    ) else
    if l2 = (1 : Int32) then (
      (gN 8 5 z21 a0).bind fun b69 =>
      (fX8_search b69 b8 z21).bind fun z73 =>
      (gN 8 5 z73 a0).bind fun b77 =>
      (gI 7 7 z73 b77).bind fun x80 =>
      some (x80, z73)
    ) else
    if l2 = (2 : Int32) then (
      (gN 8 4 z21 a0).bind fun b85 =>
      (fX6_countParts b85 z21).bind fun x88 =>
      some (x88, z21)
    ) else
    if l2 = (3 : Int32) then (
      (gN 8 4 z21 a0).bind fun b93 =>
      (fX6_largestPart b93 z21).bind fun x96 =>
      some (x96, z21)
    ) else
    if l2 = (4 : Int32) then (
      (fX1_mostPairs b8 z21).bind fun x101 =>
      some (x101, z21)
    ) else
    some ((-2 : Int32), z21)
  else none
set_option maxHeartbeats 4000000 in
set_option maxRecDepth 100000 in
theorem ctX9_height (l : Launch) (G : GW) (a0 : Nat) (l1 : Int32) (l2 : Int32) (z : AH) {r : Int32} {z' : AH} (h : fX9_height a0 l1 l2 z = some (r, z')) : Met l yX9_height (wy yX9_height cX9_height 4 (some .int)) rmX9_height (Pz G [.ref (gB G + a0), .int l1, .int l2] z) (Qi G r z') 0 0 (AA G) := by
  refine wz_ent (own := RX9) (by decide +kernel) rfl (fun p e s m below meth c ls C hlk hr hin hW hl => ?_) (Nat.le_of_ble_eq_true rfl)
  have hl : lv_has ls 4 [(0, .ref (gB G + a0)), (1, .int l1), (2, .int l2)] := hl
  have hx := C.1
  have hb := C.2.1
  unfold fX9_height at h
  obtain ⟨-, h⟩ := ck h
  refine lv_aload_n hx hb dX9_height_0 rfl (lv_at hl 0 rfl) ?_
  obtain ⟨b1, hg, h⟩ := ob h
  refine wz_gN C hW flX9_13 hg dX9_height_1 ?_
  refine lv_iload_n hx hb dX9_height_4 rfl (lv_at hl 1 rfl) ?_
  obtain ⟨q5_, hq, h⟩ := ob h
  refine wz_rQ (c' := 0) (s' := 0) hW (wz_runV (rest := []) C hW lVX9_108 (ck hq).1 rfl (ctX7_countryAt l G b1 l1 z hq) ⟨⟨rfl, rfl⟩, Nat.le_of_ble_eq_true rfl, Nat.le_of_ble_eq_true rfl⟩ rfl hl.1 rfl (Nat.le_of_ble_eq_true rfl) dX9_height_5 ⟨Nat.le_of_ble_eq_true rfl, Nat.le_of_ble_eq_true rfl⟩) rfl rfl (fun H locs hW => ?_)
  cases q5_ with
  | none =>
    have h := nq_n h
    refine lv_astore_nN (lv' := [(3, .null), (0, .ref (gB G + a0)), (1, .int l1), (2, .int l2)]) hx hb dX9_height_8 rfl hl (by decide) rfl (fun ls hl => ?_)
    refine lv_aload_nN hx hb dX9_height_9 rfl (lv_at hl 0 rfl) ?_
    refine lv_ifnonnullN hx hb dX9_height_10 ?_
    refine lv_bipush (v := -2) hx hb dX9_height_13 (by decide) ?_
    exact wz_iretE C hlk hr (so2 h).1 (so2 h).2 hW dX9_height_15
  | some b8 =>
    have h := nq_s h
    refine lv_astore_n (lv' := [(3, .ref (gB G + b8)), (0, .ref (gB G + a0)), (1, .int l1), (2, .int l2)]) hx hb dX9_height_8 rfl hl (by decide) rfl (fun ls hl => ?_)
    refine lv_aload_n hx hb dX9_height_9 rfl (lv_at hl 0 rfl) ?_
    refine lv_ifnonnull (tgt := 16) hx hb dX9_height_10 (by decide) ?_
    refine lv_aload_n hx hb dX9_height_16 rfl (lv_at hl 1 rfl) ?_
    obtain ⟨b17, hg, h⟩ := ob h
    refine wz_gN C hW flX9_39 hg dX9_height_17 ?_
    refine lv_aload_n hx hb dX9_height_20 rfl (lv_at hl 0 rfl) ?_
    obtain ⟨z21, hq, h⟩ := ob h
    refine wz_rV (c' := 0) (s' := 0) hW (wz_runV (rest := []) C hW lVX9_127 (ck hq).1 rfl (ctX6_begin l G b17 b8 z hq) ⟨⟨rfl, rfl⟩, Nat.le_of_ble_eq_true rfl, Nat.le_of_ble_eq_true rfl⟩ rfl hl.1 rfl (Nat.le_of_ble_eq_true rfl) dX9_height_21 ⟨Nat.le_of_ble_eq_true rfl, Nat.le_of_ble_eq_true rfl⟩) rfl rfl (fun H locs hW => ?_)
    refine lv_iload_n hx hb dX9_height_24 rfl (lv_at hl 3 rfl) ?_
    by_cases c25_0 : l2 = (0 : Int32)
    · have h := ite_t c25_0 h
      refine wz_sw (0 : Int32) (tgt := 60) hx hb dX9_height_25 c25_0 (by decide) rfl (by decide) ?_
      refine lv_aload_n hx hb dX9_height_60 rfl (lv_at hl 1 rfl) ?_
      obtain ⟨b61, hg, h⟩ := ob h
      refine wz_gN C hW flX9_39 hg dX9_height_61 ?_
      obtain ⟨x64, hq, h⟩ := ob h
      refine wz_rI (c' := 0) (s' := 0) hW (wz_runV (rest := []) C hW lVX9_252 (ck hq).1 rfl (ctX6_highest l G b61 z21 hq) ⟨⟨rfl, rfl⟩, Nat.le_of_ble_eq_true rfl, Nat.le_of_ble_eq_true rfl⟩ rfl hl.1 rfl (Nat.le_of_ble_eq_true rfl) dX9_height_64 ⟨Nat.le_of_ble_eq_true rfl, Nat.le_of_ble_eq_true rfl⟩) rfl rfl (fun H locs hW => ?_)
      exact wz_iretE C hlk hr (so2 h).1 (so2 h).2 hW dX9_height_67
    have h := ite_f c25_0 h
    by_cases c25_1 : l2 = (1 : Int32)
    · have h := ite_t c25_1 h
      refine wz_sw (1 : Int32) (tgt := 68) hx hb dX9_height_25 c25_1 (by decide) rfl (by decide) ?_
      refine lv_aload_n hx hb dX9_height_68 rfl (lv_at hl 1 rfl) ?_
      obtain ⟨b69, hg, h⟩ := ob h
      refine wz_gN C hW flX9_46 hg dX9_height_69 ?_
      refine lv_aload_n hx hb dX9_height_72 rfl (lv_at hl 0 rfl) ?_
      obtain ⟨z73, hq, h⟩ := ob h
      refine wz_rV (c' := 0) (s' := 0) hW (wz_runV (rest := []) C hW lVX9_149 (ck hq).1 rfl (ctX8_search l G b69 b8 z21 hq) ⟨⟨rfl, rfl⟩, Nat.le_of_ble_eq_true rfl, Nat.le_of_ble_eq_true rfl⟩ rfl hl.1 rfl (Nat.le_of_ble_eq_true rfl) dX9_height_73 ⟨Nat.le_of_ble_eq_true rfl, Nat.le_of_ble_eq_true rfl⟩) rfl rfl (fun H locs hW => ?_)
      refine lv_aload_n hx hb dX9_height_76 rfl (lv_at hl 1 rfl) ?_
      obtain ⟨b77, hg, h⟩ := ob h
      refine wz_gN C hW flX9_46 hg dX9_height_77 ?_
      obtain ⟨x80, hg, h⟩ := ob h
      refine wz_gI C hW flX9_256 hg dX9_height_80 ?_
      exact wz_iretE C hlk hr (so2 h).1 (so2 h).2 hW dX9_height_83
    have h := ite_f c25_1 h
    by_cases c25_2 : l2 = (2 : Int32)
    · have h := ite_t c25_2 h
      refine wz_sw (2 : Int32) (tgt := 84) hx hb dX9_height_25 c25_2 (by decide) rfl (by decide) ?_
      refine lv_aload_n hx hb dX9_height_84 rfl (lv_at hl 1 rfl) ?_
      obtain ⟨b85, hg, h⟩ := ob h
      refine wz_gN C hW flX9_39 hg dX9_height_85 ?_
      obtain ⟨x88, hq, h⟩ := ob h
      refine wz_rI (c' := 0) (s' := 0) hW (wz_runV (rest := []) C hW lVX9_259 (ck hq).1 rfl (ctX6_countParts l G b85 z21 hq) ⟨⟨rfl, rfl⟩, Nat.le_of_ble_eq_true rfl, Nat.le_of_ble_eq_true rfl⟩ rfl hl.1 rfl (Nat.le_of_ble_eq_true rfl) dX9_height_88 ⟨Nat.le_of_ble_eq_true rfl, Nat.le_of_ble_eq_true rfl⟩) rfl rfl (fun H locs hW => ?_)
      exact wz_iretE C hlk hr (so2 h).1 (so2 h).2 hW dX9_height_91
    have h := ite_f c25_2 h
    by_cases c25_3 : l2 = (3 : Int32)
    · have h := ite_t c25_3 h
      refine wz_sw (3 : Int32) (tgt := 92) hx hb dX9_height_25 c25_3 (by decide) rfl (by decide) ?_
      refine lv_aload_n hx hb dX9_height_92 rfl (lv_at hl 1 rfl) ?_
      obtain ⟨b93, hg, h⟩ := ob h
      refine wz_gN C hW flX9_39 hg dX9_height_93 ?_
      obtain ⟨x96, hq, h⟩ := ob h
      refine wz_rI (c' := 0) (s' := 0) hW (wz_runV (rest := []) C hW lVX9_262 (ck hq).1 rfl (ctX6_largestPart l G b93 z21 hq) ⟨⟨rfl, rfl⟩, Nat.le_of_ble_eq_true rfl, Nat.le_of_ble_eq_true rfl⟩ rfl hl.1 rfl (Nat.le_of_ble_eq_true rfl) dX9_height_96 ⟨Nat.le_of_ble_eq_true rfl, Nat.le_of_ble_eq_true rfl⟩) rfl rfl (fun H locs hW => ?_)
      exact wz_iretE C hlk hr (so2 h).1 (so2 h).2 hW dX9_height_99
    have h := ite_f c25_3 h
    by_cases c25_4 : l2 = (4 : Int32)
    · have h := ite_t c25_4 h
      refine wz_sw (4 : Int32) (tgt := 100) hx hb dX9_height_25 c25_4 (by decide) rfl (by decide) ?_
      refine lv_aload_n hx hb dX9_height_100 rfl (lv_at hl 0 rfl) ?_
      obtain ⟨x101, hq, h⟩ := ob h
      refine wz_rI (c' := 0) (s' := 0) hW (wz_runS (rest := []) C hW lTX9_265 (ctX1_mostPairs l G b8 z21 hq) ⟨⟨rfl, rfl⟩, Nat.le_of_ble_eq_true rfl, Nat.le_of_ble_eq_true rfl⟩ rfl hl.1 rfl (Nat.le_of_ble_eq_true rfl) dX9_height_101 ⟨Nat.le_of_ble_eq_true rfl, Nat.le_of_ble_eq_true rfl⟩) rfl rfl (fun H locs hW => ?_)
      exact wz_iretE C hlk hr (so2 h).1 (so2 h).2 hW dX9_height_104
    have h := ite_f c25_4 h
    refine lv_tableOut (tgt := 105) hx hb dX9_height_25 (by have g0 := i32_ne c25_0 (z := 0) (by decide); have g1 := i32_ne c25_1 (z := 1) (by decide); have g2 := i32_ne c25_2 (z := 2) (by decide); have g3 := i32_ne c25_3 (z := 3) (by decide); have g4 := i32_ne c25_4 (z := 4) (by decide); omega) (by decide) ?_
    refine lv_bipush (v := -2) hx hb dX9_height_105 (by decide) ?_
    exact wz_iretE C hlk hr (so2 h).1 (so2 h).2 hW dX9_height_107
