theorem dX10_falls_62 : decode cX10_falls 62 = .ok (.iload_n 1, 1) := by decide +kernel
theorem dX10_falls_63 : decode cX10_falls 63 = .ok (.iaload, 1) := by decide +kernel
theorem dX10_falls_64 : decode cX10_falls 64 = .ok (.ior, 1) := by decide +kernel
theorem dX10_falls_65 : decode cX10_falls 65 = .ok (.invokevirtual 315, 3) := by decide +kernel
theorem dX10_falls_68 : decode cX10_falls 68 = .ok (.iload_n 2, 1) := by decide +kernel
theorem dX10_falls_69 : decode cX10_falls 69 = .ok (.ifCond .eq 7, 3) := by decide +kernel
theorem dX10_falls_72 : decode cX10_falls 72 = .ok (.iconst 0, 1) := by decide +kernel
theorem dX10_falls_73 : decode cX10_falls 73 = .ok (.goto 6, 3) := by decide +kernel
theorem dX10_falls_76 : decode cX10_falls 76 = .ok (.iload_n 1, 1) := by decide +kernel
theorem dX10_falls_77 : decode cX10_falls 77 = .ok (.iconst 1, 1) := by decide +kernel
theorem dX10_falls_78 : decode cX10_falls 78 = .ok (.iadd, 1) := by decide +kernel
theorem dX10_falls_79 : decode cX10_falls 79 = .ok (.istore_n 1, 1) := by decide +kernel
theorem dX10_falls_80 : decode cX10_falls 80 = .ok (.goto (-78), 3) := by decide +kernel
theorem dX10_falls_83 : decode cX10_falls 83 = .ok (.return_, 1) := by decide +kernel
theorem cdX10_takes : Cond.code yX10_takes cX10_takes 3 none ∈ tz := tc6 227 rfl rfl
theorem lVX10_315 : LV RX10 315 yX10_takes cX10_takes 3 none 1 := ⟨tw 1543 (by decide +kernel) rfl, tw 1545 (by decide +kernel) rfl, tw 67 (by decide +kernel) rfl, tw 128 (by decide +kernel) rfl, cdX10_takes, ⟨by decide +kernel, by decide +kernel, by decide +kernel⟩⟩
theorem cdX10_bears : Cond.code yX10_bears cX10_bears 4 (some .int) ∈ tz := tc6 223 rfl rfl
theorem lVX10_312 : LV RX10 312 yX10_bears cX10_bears 4 (some .int) 1 := ⟨tw 1539 (by decide +kernel) rfl, tw 1541 (by decide +kernel) rfl, tw 66 (by decide +kernel) rfl, tw 128 (by decide +kernel) rfl, cdX10_bears, ⟨by decide +kernel, by decide +kernel, by decide +kernel⟩⟩
abbrev rmX10_falls : Room := { frames := 2, cells := 0, slots := 0, locals := 44 }
def bX10_falls_68 (k2 : Nat → Int32 → AH → Option AH) (a0 : Nat) (l1 : Int32) (l2 : Int32) (z : AH) : Option AH :=
  if l2 = (0 : Int32) then (
    nm (l1 + (1 : Int32)) fun v79 =>
    k2 a0 v79 z
  ) else (
    k2 a0 (0 : Int32) z
  )
set_option maxHeartbeats 4000000 in
set_option maxRecDepth 100000 in
theorem kbX10_falls_68 {p : Program} {l : Launch} {e : Env} {s : State} {m : MethodId} {args : Array Value} {below : List Frame} {meth : Method} {c : Code} {G : GW} {z' : AH} (C : Cx p m c cX10_falls 3 s args RX10 G) (hlk : meth.locks = false) (hr : meth.sig.returnType = none) (k2 : Nat → Int32 → AH → Option AH) (hk2 : ∀ (a0 : Nat) (l1 : Int32) (z : AH) (H : Heap) (locs : List Loc) (ls : Array Slot), k2 a0 l1 z = some z' → Wb G z s H locs → lv_has ls 3 [(0, .ref (gB G + a0)), (1, .int l1)] → W p l e rmX10_falls s m args below meth c H locs 0 0 (MQ below (Qv G z') args s 0 0 (AA G)) (F0 m 2 ls [])) (a0 : Nat) (l1 : Int32) (l2 : Int32) {z : AH} {H : Heap} {locs : List Loc} {ls : Array Slot} (h : bX10_falls_68 k2 a0 l1 l2 z = some z') (hW : Wb G z s H locs) (hl : lv_has ls 3 [(0, .ref (gB G + a0)), (1, .int l1), (2, .int l2)]) : W p l e rmX10_falls s m args below meth c H locs 0 0 (MQ below (Qv G z') args s 0 0 (AA G)) (F0 m 68 ls []) := by
  have hx := C.1
  have hb := C.2.1
  unfold bX10_falls_68 at h
  refine lv_iload_n hx hb dX10_falls_68 rfl (lv_at hl 2 rfl) ?_
  refine lv_if_eq (tgt := 76) hx hb dX10_falls_69 (by decide) (fun c69 => ?_) (fun c69 => ?_)
  · have h := ite_t c69 h
    refine lv_iload_n hx hb dX10_falls_76 rfl (lv_at hl 1 rfl) ?_
    refine lv_iconst (v := 1) hx hb dX10_falls_77 (by decide) ?_
    refine lv_iadd hx hb dX10_falls_78 ?_
    refine lv_topi (fun v79 ev79 => ?_)
    have h := nm_to h ev79
    refine lv_istore_n (lv' := [(1, .int v79), (0, .ref (gB G + a0)), (2, .int l2)]) hx hb dX10_falls_79 rfl hl (by decide) rfl (fun ls hl => ?_)
    refine lv_goto (tgt := 2) hx hb dX10_falls_80 (by decide) ?_
    exact hk2 a0 v79 z _ _ _ h hW (lv_sub hl [1, 0] rfl)
  · have h := ite_f c69 h
    refine lv_iconst (v := 0) hx hb dX10_falls_72 (by decide) ?_
    refine lv_goto (tgt := 79) hx hb dX10_falls_73 (by decide) ?_
    refine lv_istore_n (lv' := [(1, .int (0 : Int32)), (0, .ref (gB G + a0)), (2, .int l2)]) hx hb dX10_falls_79 rfl hl (by decide) rfl (fun ls hl => ?_)
    refine lv_goto (tgt := 2) hx hb dX10_falls_80 (by decide) ?_
    exact hk2 a0 (0 : Int32) z _ _ _ h hW (lv_sub hl [1, 0] rfl)
def bX10_falls_49 (k2 : Nat → Int32 → AH → Option AH) (a0 : Nat) (l1 : Int32) (s0 : Int32) (z : AH) : Option AH :=
  if s0 = (0 : Int32) then (
    bX10_falls_68 k2 a0 l1 s0 z
  ) else (
    (gN 9 30 z a0).bind fun b59 =>
    (ixI 0 z b59 l1).bind fun x63 =>
    (fX10_takes a0 ((shl (1 : Int32) l1) ||| x63) z).bind fun z65 =>
    bX10_falls_68 k2 a0 l1 s0 z65
  )
set_option maxHeartbeats 4000000 in
set_option maxRecDepth 100000 in
theorem kbX10_falls_49 {p : Program} {l : Launch} {e : Env} {s : State} {m : MethodId} {args : Array Value} {below : List Frame} {meth : Method} {c : Code} {G : GW} {z' : AH} (C : Cx p m c cX10_falls 3 s args RX10 G) (hlk : meth.locks = false) (hr : meth.sig.returnType = none) (k2 : Nat → Int32 → AH → Option AH) (hk2 : ∀ (a0 : Nat) (l1 : Int32) (z : AH) (H : Heap) (locs : List Loc) (ls : Array Slot), k2 a0 l1 z = some z' → Wb G z s H locs → lv_has ls 3 [(0, .ref (gB G + a0)), (1, .int l1)] → W p l e rmX10_falls s m args below meth c H locs 0 0 (MQ below (Qv G z') args s 0 0 (AA G)) (F0 m 2 ls [])) (a0 : Nat) (l1 : Int32) (s0 : Int32) {z : AH} {H : Heap} {locs : List Loc} {ls : Array Slot} (h : bX10_falls_49 k2 a0 l1 s0 z = some z') (hW : Wb G z s H locs) (hl : lv_has ls 3 [(0, .ref (gB G + a0)), (1, .int l1)]) : W p l e rmX10_falls s m args below meth c H locs 0 0 (MQ below (Qv G z') args s 0 0 (AA G)) (F0 m 49 ls [.int s0]) := by
  have hx := C.1
  have hb := C.2.1
  unfold bX10_falls_49 at h
  refine lv_istore_n (lv' := [(2, .int s0), (0, .ref (gB G + a0)), (1, .int l1)]) hx hb dX10_falls_49 rfl hl (by decide) rfl (fun ls hl => ?_)
  refine lv_iload_n hx hb dX10_falls_50 rfl (lv_at hl 0 rfl) ?_
  refine lv_if_eq (tgt := 68) hx hb dX10_falls_51 (by decide) (fun c51 => ?_) (fun c51 => ?_)
  · have h := ite_t c51 h
    exact kbX10_falls_68 C hlk hr k2 hk2 a0 l1 s0 h hW (lv_sub hl [1, 2, 0] rfl)
  · have h := ite_f c51 h
    refine lv_aload_n hx hb dX10_falls_54 rfl (lv_at hl 1 rfl) ?_
    refine lv_iconst (v := 1) hx hb dX10_falls_55 (by decide) ?_
    refine lv_iload_n hx hb dX10_falls_56 rfl (lv_at hl 2 rfl) ?_
    refine wz_shl hx hb dX10_falls_57 ?_
    refine lv_aload_n hx hb dX10_falls_58 rfl (lv_at hl 1 rfl) ?_
    obtain ⟨b59, hg, h⟩ := ob h
    refine wz_gN C hW flX10_50 hg dX10_falls_59 ?_
    refine lv_iload_n hx hb dX10_falls_62 rfl (lv_at hl 2 rfl) ?_
    obtain ⟨x63, hg, h⟩ := ob h
    refine wz_ald C hW hg dX10_falls_63 ?_
    refine lv_ior hx hb dX10_falls_64 ?_
    obtain ⟨z65, hq, h⟩ := ob h
    refine wz_rV (c' := 0) (s' := 0) hW (wz_runV (rest := []) C hW lVX10_315 (ck hq).1 rfl (ctX10_takes l G a0 ((shl (1 : Int32) l1) ||| x63) z hq) ⟨⟨rfl, rfl⟩, Nat.le_of_ble_eq_true rfl, Nat.le_of_ble_eq_true rfl⟩ rfl hl.1 rfl (Nat.le_of_ble_eq_true rfl) dX10_falls_65 ⟨Nat.le_of_ble_eq_true rfl, Nat.le_of_ble_eq_true rfl⟩) rfl rfl (fun H locs hW => ?_)
    exact kbX10_falls_68 C hlk hr k2 hk2 a0 l1 s0 h hW (lv_sub hl [1, 2, 0] rfl)
def bX10_falls_48 (k2 : Nat → Int32 → AH → Option AH) (a0 : Nat) (l1 : Int32) (z : AH) : Option AH :=
  bX10_falls_49 k2 a0 l1 (0 : Int32) z
set_option maxHeartbeats 4000000 in
set_option maxRecDepth 100000 in
theorem kbX10_falls_48 {p : Program} {l : Launch} {e : Env} {s : State} {m : MethodId} {args : Array Value} {below : List Frame} {meth : Method} {c : Code} {G : GW} {z' : AH} (C : Cx p m c cX10_falls 3 s args RX10 G) (hlk : meth.locks = false) (hr : meth.sig.returnType = none) (k2 : Nat → Int32 → AH → Option AH) (hk2 : ∀ (a0 : Nat) (l1 : Int32) (z : AH) (H : Heap) (locs : List Loc) (ls : Array Slot), k2 a0 l1 z = some z' → Wb G z s H locs → lv_has ls 3 [(0, .ref (gB G + a0)), (1, .int l1)] → W p l e rmX10_falls s m args below meth c H locs 0 0 (MQ below (Qv G z') args s 0 0 (AA G)) (F0 m 2 ls [])) (a0 : Nat) (l1 : Int32) {z : AH} {H : Heap} {locs : List Loc} {ls : Array Slot} (h : bX10_falls_48 k2 a0 l1 z = some z') (hW : Wb G z s H locs) (hl : lv_has ls 3 [(0, .ref (gB G + a0)), (1, .int l1)]) : W p l e rmX10_falls s m args below meth c H locs 0 0 (MQ below (Qv G z') args s 0 0 (AA G)) (F0 m 48 ls []) := by
  have hx := C.1
  have hb := C.2.1
  unfold bX10_falls_48 at h
  refine lv_iconst (v := 0) hx hb dX10_falls_48 (by decide) ?_
  exact kbX10_falls_49 C hlk hr k2 hk2 a0 l1 (0 : Int32) h hW (lv_sub hl [0, 1] rfl)
def bX10_falls_44 (k2 : Nat → Int32 → AH → Option AH) (a0 : Nat) (l1 : Int32) (z : AH) : Option AH :=
  bX10_falls_49 k2 a0 l1 (1 : Int32) z
set_option maxHeartbeats 4000000 in
set_option maxRecDepth 100000 in
theorem kbX10_falls_44 {p : Program} {l : Launch} {e : Env} {s : State} {m : MethodId} {args : Array Value} {below : List Frame} {meth : Method} {c : Code} {G : GW} {z' : AH} (C : Cx p m c cX10_falls 3 s args RX10 G) (hlk : meth.locks = false) (hr : meth.sig.returnType = none) (k2 : Nat → Int32 → AH → Option AH) (hk2 : ∀ (a0 : Nat) (l1 : Int32) (z : AH) (H : Heap) (locs : List Loc) (ls : Array Slot), k2 a0 l1 z = some z' → Wb G z s H locs → lv_has ls 3 [(0, .ref (gB G + a0)), (1, .int l1)] → W p l e rmX10_falls s m args below meth c H locs 0 0 (MQ below (Qv G z') args s 0 0 (AA G)) (F0 m 2 ls [])) (a0 : Nat) (l1 : Int32) {z : AH} {H : Heap} {locs : List Loc} {ls : Array Slot} (h : bX10_falls_44 k2 a0 l1 z = some z') (hW : Wb G z s H locs) (hl : lv_has ls 3 [(0, .ref (gB G + a0)), (1, .int l1)]) : W p l e rmX10_falls s m args below meth c H locs 0 0 (MQ below (Qv G z') args s 0 0 (AA G)) (F0 m 44 ls []) := by
  have hx := C.1
  have hb := C.2.1
  unfold bX10_falls_44 at h
  refine lv_iconst (v := 1) hx hb dX10_falls_44 (by decide) ?_
  refine lv_goto (tgt := 49) hx hb dX10_falls_45 (by decide) ?_
  exact kbX10_falls_49 C hlk hr k2 hk2 a0 l1 (1 : Int32) h hW (lv_sub hl [0, 1] rfl)
def bX10_falls_2 (k2 : Nat → Int32 → AH → Option AH) (a0 : Nat) (l1 : Int32) (z : AH) : Option AH :=
  (gI 9 26 z a0).bind fun x4 =>
  if x4 ≤ l1 then (
    some z
  ) else (
    (gI 9 31 z a0).bind fun x11 =>
    if (fX10_has x11 l1) = (0 : Int32) then (
      (gN 9 28 z a0).bind fun b22 =>
      (ixI 0 z b22 l1).bind fun x26 =>
      if x26 = (0 : Int32) then (
        bX10_falls_44 k2 a0 l1 z
      ) else (
        (gN 9 28 z a0).bind fun b31 =>
        (ixI 0 z b31 l1).bind fun x35 =>
        (fX10_bears a0 l1 z).bind fun x38 =>
        if x38 ≤ x35 then (
          bX10_falls_48 k2 a0 l1 z
        ) else (
          bX10_falls_44 k2 a0 l1 z
        )
      )
    ) else (
      bX10_falls_48 k2 a0 l1 z
    )
  )
set_option maxHeartbeats 4000000 in
set_option maxRecDepth 100000 in
theorem kbX10_falls_2 {p : Program} {l : Launch} {e : Env} {s : State} {m : MethodId} {args : Array Value} {below : List Frame} {meth : Method} {c : Code} {G : GW} {z' : AH} (C : Cx p m c cX10_falls 3 s args RX10 G) (hlk : meth.locks = false) (hr : meth.sig.returnType = none) (k2 : Nat → Int32 → AH → Option AH) (hk2 : ∀ (a0 : Nat) (l1 : Int32) (z : AH) (H : Heap) (locs : List Loc) (ls : Array Slot), k2 a0 l1 z = some z' → Wb G z s H locs → lv_has ls 3 [(0, .ref (gB G + a0)), (1, .int l1)] → W p l e rmX10_falls s m args below meth c H locs 0 0 (MQ below (Qv G z') args s 0 0 (AA G)) (F0 m 2 ls [])) (a0 : Nat) (l1 : Int32) {z : AH} {H : Heap} {locs : List Loc} {ls : Array Slot} (h : bX10_falls_2 k2 a0 l1 z = some z') (hW : Wb G z s H locs) (hl : lv_has ls 3 [(0, .ref (gB G + a0)), (1, .int l1)]) : W p l e rmX10_falls s m args below meth c H locs 0 0 (MQ below (Qv G z') args s 0 0 (AA G)) (F0 m 2 ls []) := by
  have hx := C.1
  have hb := C.2.1
  unfold bX10_falls_2 at h
  refine lv_iload_n hx hb dX10_falls_2 rfl (lv_at hl 1 rfl) ?_
  refine lv_aload_n hx hb dX10_falls_3 rfl (lv_at hl 0 rfl) ?_
  obtain ⟨x4, hg, h⟩ := ob h
  refine wz_gI C hW flX10_276 hg dX10_falls_4 ?_
  refine lv_icmp_ge (tgt := 83) hx hb dX10_falls_7 (by decide) (fun c7 => ?_) (fun c7 => ?_)
  · have h := ite_t c7 h
    exact wz_vretE C hlk hr (Option.some.inj h) hW dX10_falls_83
  · have h := ite_f c7 h
    refine lv_aload_n hx hb dX10_falls_10 rfl (lv_at hl 0 rfl) ?_
    obtain ⟨x11, hg, h⟩ := ob h
    refine wz_gI C hW flX10_288 hg dX10_falls_11 ?_
    refine lv_iload_n hx hb dX10_falls_14 rfl (lv_at hl 1 rfl) ?_
    refine wz_rI (c' := 0) (s' := 0) hW (wz_runS (rest := []) C hW lTX10_85 (ctX10_has l G x11 l1 z rfl) ⟨⟨rfl, rfl⟩, Nat.le_of_ble_eq_true rfl, Nat.le_of_ble_eq_true rfl⟩ rfl hl.1 rfl (Nat.le_of_ble_eq_true rfl) dX10_falls_15 ⟨Nat.le_of_ble_eq_true rfl, Nat.le_of_ble_eq_true rfl⟩) rfl rfl (fun H locs hW => ?_)
    refine lv_if_ne (tgt := 48) hx hb dX10_falls_18 (by decide) (fun c18 => ?_) (fun c18 => ?_)
    · have h := ite_f c18 h
      exact kbX10_falls_48 C hlk hr k2 hk2 a0 l1 h hW (lv_sub hl [0, 1] rfl)
    · have h := ite_t c18 h
      refine lv_aload_n hx hb dX10_falls_21 rfl (lv_at hl 0 rfl) ?_
      obtain ⟨b22, hg, h⟩ := ob h
      refine wz_gN C hW flX10_44 hg dX10_falls_22 ?_
      refine lv_iload_n hx hb dX10_falls_25 rfl (lv_at hl 1 rfl) ?_
      obtain ⟨x26, hg, h⟩ := ob h
      refine wz_ald C hW hg dX10_falls_26 ?_
      refine lv_if_eq (tgt := 44) hx hb dX10_falls_27 (by decide) (fun c27 => ?_) (fun c27 => ?_)
      · have h := ite_t c27 h
        exact kbX10_falls_44 C hlk hr k2 hk2 a0 l1 h hW (lv_sub hl [0, 1] rfl)
      · have h := ite_f c27 h
        refine lv_aload_n hx hb dX10_falls_30 rfl (lv_at hl 0 rfl) ?_
        obtain ⟨b31, hg, h⟩ := ob h
        refine wz_gN C hW flX10_44 hg dX10_falls_31 ?_
        refine lv_iload_n hx hb dX10_falls_34 rfl (lv_at hl 1 rfl) ?_
        obtain ⟨x35, hg, h⟩ := ob h
        refine wz_ald C hW hg dX10_falls_35 ?_
        refine lv_aload_n hx hb dX10_falls_36 rfl (lv_at hl 0 rfl) ?_
        refine lv_iload_n hx hb dX10_falls_37 rfl (lv_at hl 1 rfl) ?_
        obtain ⟨x38, hq, h⟩ := ob h
        refine wz_rI (c' := 0) (s' := 0) hW (wz_runV (rest := [.int x35]) C hW lVX10_312 (ck hq).1 rfl (ctX10_bears l G a0 l1 z hq) ⟨⟨rfl, rfl⟩, Nat.le_of_ble_eq_true rfl, Nat.le_of_ble_eq_true rfl⟩ rfl hl.1 rfl (Nat.le_of_ble_eq_true rfl) dX10_falls_38 ⟨Nat.le_of_ble_eq_true rfl, Nat.le_of_ble_eq_true rfl⟩) rfl rfl (fun H locs hW => ?_)
        refine lv_icmp_ge (tgt := 48) hx hb dX10_falls_41 (by decide) (fun c41 => ?_) (fun c41 => ?_)
        · have h := ite_t c41 h
          exact kbX10_falls_48 C hlk hr k2 hk2 a0 l1 h hW (lv_sub hl [0, 1] rfl)
        · have h := ite_f c41 h
          exact kbX10_falls_44 C hlk hr k2 hk2 a0 l1 h hW (lv_sub hl [0, 1] rfl)
def fX10_falls_2 : Nat → Nat → Int32 → AH → Option AH
  | 0, _, _, _ => none
  | n + 1, a0, l1, z => bX10_falls_2 (fX10_falls_2 n) a0 l1 z
theorem klX10_falls_2 {p : Program} {l : Launch} {e : Env} {s : State} {m : MethodId} {args : Array Value} {below : List Frame} {meth : Method} {c : Code} {G : GW} {z' : AH} (C : Cx p m c cX10_falls 3 s args RX10 G) (hlk : meth.locks = false) (hr : meth.sig.returnType = none) : ∀ (n : Nat) (a0 : Nat) (l1 : Int32) (z : AH) (H : Heap) (locs : List Loc) (ls : Array Slot), fX10_falls_2 n a0 l1 z = some z' → Wb G z s H locs → lv_has ls 3 [(0, .ref (gB G + a0)), (1, .int l1)] → W p l e rmX10_falls s m args below meth c H locs 0 0 (MQ below (Qv G z') args s 0 0 (AA G)) (F0 m 2 ls []) := by
  intro n
  induction n with
  | zero => intro a0 l1 z H locs ls h; have h : (none : Option AH) = some z' := h; cases h
  | succ n ih => intro a0 l1 z H locs ls h hW hl; exact kbX10_falls_2 C hlk hr (fX10_falls_2 n) (fun a0 l1 z H locs ls h hW hl => ih a0 l1 z H locs ls h hW hl) a0 l1 h hW hl
def fX10_falls (a0 : Nat) (z : AH) : Option AH :=
  if isO 9 z a0 = true then
    fX10_falls_2 FU a0 (0 : Int32) z
  else none
set_option maxHeartbeats 4000000 in
set_option maxRecDepth 100000 in
theorem ctX10_falls (l : Launch) (G : GW) (a0 : Nat) (z : AH) {z' : AH} (h : fX10_falls a0 z = some z') : Met l yX10_falls (wy yX10_falls cX10_falls 3 none) rmX10_falls (Pz G [.ref (gB G + a0)] z) (Qv G z') 0 0 (AA G) := by
  refine wz_ent (own := RX10) (by decide +kernel) rfl (fun p e s m below meth c ls C hlk hr hin hW hl => ?_) (Nat.le_of_ble_eq_true rfl)
  have hl : lv_has ls 3 [(0, .ref (gB G + a0))] := hl
  have hx := C.1
  have hb := C.2.1
  unfold fX10_falls at h
  obtain ⟨-, h⟩ := ck h
  refine lv_iconst (v := 0) hx hb dX10_falls_0 (by decide) ?_
  refine lv_istore_n (lv' := [(1, .int (0 : Int32)), (0, .ref (gB G + a0))]) hx hb dX10_falls_1 rfl hl (by decide) rfl (fun ls hl => ?_)
  exact klX10_falls_2 C hlk hr FU a0 (0 : Int32) z _ _ _ h hW (lv_sub hl [1, 0] rfl)
theorem dX10_hand_0 : decode cX10_hand 0 = .ok (.aload_n 0, 1) := by decide +kernel
theorem dX10_hand_1 : decode cX10_hand 1 = .ok (.iconst 0, 1) := by decide +kernel
theorem dX10_hand_2 : decode cX10_hand 2 = .ok (.iload_n 1, 1) := by decide +kernel
theorem dX10_hand_3 : decode cX10_hand 3 = .ok (.invokevirtual 260, 3) := by decide +kernel
theorem dX10_hand_6 : decode cX10_hand 6 = .ok (.ifCond .ne 5, 3) := by decide +kernel
theorem dX10_hand_9 : decode cX10_hand 9 = .ok (.iconst 0, 1) := by decide +kernel
theorem dX10_hand_10 : decode cX10_hand 10 = .ok (.ireturn, 1) := by decide +kernel
theorem dX10_hand_11 : decode cX10_hand 11 = .ok (.aload_n 0, 1) := by decide +kernel
theorem dX10_hand_12 : decode cX10_hand 12 = .ok (.iload_n 1, 1) := by decide +kernel
theorem dX10_hand_13 : decode cX10_hand 13 = .ok (.putfield 269, 3) := by decide +kernel
theorem dX10_hand_16 : decode cX10_hand 16 = .ok (.aload_n 0, 1) := by decide +kernel
theorem dX10_hand_17 : decode cX10_hand 17 = .ok (.aload_n 0, 1) := by decide +kernel
theorem dX10_hand_18 : decode cX10_hand 18 = .ok (.iconst 0, 1) := by decide +kernel
theorem dX10_hand_19 : decode cX10_hand 19 = .ok (.invokevirtual 272, 3) := by decide +kernel
theorem dX10_hand_22 : decode cX10_hand 22 = .ok (.putfield 276, 3) := by decide +kernel
theorem dX10_hand_25 : decode cX10_hand 25 = .ok (.aload_n 0, 1) := by decide +kernel
theorem dX10_hand_26 : decode cX10_hand 26 = .ok (.aload_n 0, 1) := by decide +kernel
theorem dX10_hand_27 : decode cX10_hand 27 = .ok (.iconst 4, 1) := by decide +kernel
theorem dX10_hand_28 : decode cX10_hand 28 = .ok (.invokevirtual 272, 3) := by decide +kernel
theorem dX10_hand_31 : decode cX10_hand 31 = .ok (.putfield 279, 3) := by decide +kernel
theorem dX10_hand_34 : decode cX10_hand 34 = .ok (.iconst 0, 1) := by decide +kernel
theorem dX10_hand_35 : decode cX10_hand 35 = .ok (.istore_n 2, 1) := by decide +kernel
theorem dX10_hand_36 : decode cX10_hand 36 = .ok (.iload_n 2, 1) := by decide +kernel
theorem dX10_hand_37 : decode cX10_hand 37 = .ok (.bipush 8, 2) := by decide +kernel
theorem dX10_hand_39 : decode cX10_hand 39 = .ok (.if_icmp .ge 16, 3) := by decide +kernel
theorem dX10_hand_42 : decode cX10_hand 42 = .ok (.aload_n 0, 1) := by decide +kernel
theorem dX10_hand_43 : decode cX10_hand 43 = .ok (.getfield 50, 3) := by decide +kernel
theorem dX10_hand_46 : decode cX10_hand 46 = .ok (.iload_n 2, 1) := by decide +kernel
theorem dX10_hand_47 : decode cX10_hand 47 = .ok (.iconst 0, 1) := by decide +kernel
theorem dX10_hand_48 : decode cX10_hand 48 = .ok (.iastore, 1) := by decide +kernel
theorem dX10_hand_49 : decode cX10_hand 49 = .ok (.iinc 2 1, 3) := by decide +kernel
theorem dX10_hand_52 : decode cX10_hand 52 = .ok (.goto (-16), 3) := by decide +kernel
theorem dX10_hand_55 : decode cX10_hand 55 = .ok (.iconst 0, 1) := by decide +kernel
theorem dX10_hand_56 : decode cX10_hand 56 = .ok (.istore_n 2, 1) := by decide +kernel
theorem dX10_hand_57 : decode cX10_hand 57 = .ok (.iload_n 2, 1) := by decide +kernel
theorem dX10_hand_58 : decode cX10_hand 58 = .ok (.aload_n 0, 1) := by decide +kernel
theorem dX10_hand_59 : decode cX10_hand 59 = .ok (.getfield 276, 3) := by decide +kernel
theorem dX10_hand_62 : decode cX10_hand 62 = .ok (.if_icmp .ge 47, 3) := by decide +kernel
theorem dX10_hand_65 : decode cX10_hand 65 = .ok (.aload_n 0, 1) := by decide +kernel
theorem dX10_hand_66 : decode cX10_hand 66 = .ok (.bipush 30, 2) := by decide +kernel
theorem dX10_hand_68 : decode cX10_hand 68 = .ok (.iload_n 2, 1) := by decide +kernel
theorem dX10_hand_69 : decode cX10_hand 69 = .ok (.iadd, 1) := by decide +kernel
theorem dX10_hand_70 : decode cX10_hand 70 = .ok (.invokevirtual 272, 3) := by decide +kernel
theorem dX10_hand_73 : decode cX10_hand 73 = .ok (.istore_n 3, 1) := by decide +kernel
theorem dX10_hand_74 : decode cX10_hand 74 = .ok (.iload_n 3, 1) := by decide +kernel
theorem dX10_hand_75 : decode cX10_hand 75 = .ok (.iconst (-1), 1) := by decide +kernel
theorem dX10_hand_76 : decode cX10_hand 76 = .ok (.if_icmp .eq 27, 3) := by decide +kernel
theorem dX10_hand_79 : decode cX10_hand 79 = .ok (.aload_n 0, 1) := by decide +kernel
theorem dX10_hand_80 : decode cX10_hand 80 = .ok (.getfield 50, 3) := by decide +kernel
theorem dX10_hand_83 : decode cX10_hand 83 = .ok (.iload_n 3, 1) := by decide +kernel
theorem dX10_hand_84 : decode cX10_hand 84 = .ok (.dup2, 1) := by decide +kernel
theorem dX10_hand_85 : decode cX10_hand 85 = .ok (.iaload, 1) := by decide +kernel
theorem dX10_hand_86 : decode cX10_hand 86 = .ok (.iconst 1, 1) := by decide +kernel
theorem dX10_hand_87 : decode cX10_hand 87 = .ok (.iload_n 2, 1) := by decide +kernel
theorem dX10_hand_88 : decode cX10_hand 88 = .ok (.ishl, 1) := by decide +kernel
theorem dX10_hand_89 : decode cX10_hand 89 = .ok (.ior, 1) := by decide +kernel
theorem dX10_hand_90 : decode cX10_hand 90 = .ok (.iastore, 1) := by decide +kernel
theorem dX10_hand_91 : decode cX10_hand 91 = .ok (.aload_n 0, 1) := by decide +kernel
theorem dX10_hand_92 : decode cX10_hand 92 = .ok (.bipush 30, 2) := by decide +kernel
theorem dX10_hand_94 : decode cX10_hand 94 = .ok (.iload_n 3, 1) := by decide +kernel
theorem dX10_hand_95 : decode cX10_hand 95 = .ok (.iadd, 1) := by decide +kernel
theorem dX10_hand_96 : decode cX10_hand 96 = .ok (.invokevirtual 272, 3) := by decide +kernel
theorem dX10_hand_99 : decode cX10_hand 99 = .ok (.istore_n 3, 1) := by decide +kernel
theorem dX10_hand_100 : decode cX10_hand 100 = .ok (.goto (-26), 3) := by decide +kernel
theorem dX10_hand_103 : decode cX10_hand 103 = .ok (.iinc 2 1, 3) := by decide +kernel
theorem dX10_hand_106 : decode cX10_hand 106 = .ok (.goto (-49), 3) := by decide +kernel
theorem dX10_hand_109 : decode cX10_hand 109 = .ok (.aload_n 0, 1) := by decide +kernel
theorem dX10_hand_110 : decode cX10_hand 110 = .ok (.invokevirtual 282, 3) := by decide +kernel
theorem dX10_hand_113 : decode cX10_hand 113 = .ok (.aload_n 0, 1) := by decide +kernel
theorem dX10_hand_114 : decode cX10_hand 114 = .ok (.invokevirtual 285, 3) := by decide +kernel
theorem dX10_hand_117 : decode cX10_hand 117 = .ok (.iconst 1, 1) := by decide +kernel
theorem dX10_hand_118 : decode cX10_hand 118 = .ok (.ireturn, 1) := by decide +kernel
theorem cdX10_begin : Cond.code yX10_begin cX10_begin 2 none ∈ tz := tc6 212 rfl rfl
theorem lVX10_282 : LV RX10 282 yX10_begin cX10_begin 2 none 0 := ⟨tw 1528 (by decide +kernel) rfl, tw 1530 (by decide +kernel) rfl, tw 64 (by decide +kernel) rfl, tw 128 (by decide +kernel) rfl, cdX10_begin, ⟨by decide +kernel, by decide +kernel, by decide +kernel⟩⟩
theorem cdX10_falls : Cond.code yX10_falls cX10_falls 3 none ∈ tz := tc6 216 rfl rfl
theorem lVX10_285 : LV RX10 285 yX10_falls cX10_falls 3 none 0 := ⟨tw 1532 (by decide +kernel) rfl, tw 1534 (by decide +kernel) rfl, tw 65 (by decide +kernel) rfl, tw 128 (by decide +kernel) rfl, cdX10_falls, ⟨by decide +kernel, by decide +kernel, by decide +kernel⟩⟩
theorem flX10_279 : FL RX10 279 9 27 := ⟨_, rfl, Nat.le_of_ble_eq_true rfl, tw 1226 (by decide +kernel) rfl, rfl⟩
abbrev rmX10_hand : Room := { frames := 3, cells := 0, slots := 0, locals := 66 }
def bX10_hand_74 (k57 : Nat → Int32 → AH → Option (Int32 × AH)) (k74 : Nat → Int32 → Int32 → AH → Option (Int32 × AH)) (a0 : Nat) (l2 : Int32) (l3 : Int32) (z : AH) : Option (Int32 × AH) :=
  if l3 = (-1 : Int32) then (
    nm (l2 + (1 : Int32)) fun v103 =>
    k57 a0 v103 z
  ) else (
    (gN 9 30 z a0).bind fun b80 =>
    (ixI 0 z b80 l3).bind fun x85 =>
    (stI 0 z b80 l3 (x85 ||| (shl (1 : Int32) l2))).bind fun z90 =>
    (fX10_of a0 ((30 : Int32) + l3) z90).bind fun x96 =>
    k74 a0 l2 x96 z90
  )
set_option maxHeartbeats 4000000 in
set_option maxRecDepth 100000 in
theorem kbX10_hand_74 {p : Program} {l : Launch} {e : Env} {s : State} {m : MethodId} {args : Array Value} {below : List Frame} {meth : Method} {c : Code} {G : GW} {r : Int32} {z' : AH} (C : Cx p m c cX10_hand 4 s args RX10 G) (hlk : meth.locks = false) (hr : meth.sig.returnType = (some .boolean)) (k57 : Nat → Int32 → AH → Option (Int32 × AH)) (k74 : Nat → Int32 → Int32 → AH → Option (Int32 × AH)) (hk57 : ∀ (a0 : Nat) (l2 : Int32) (z : AH) (H : Heap) (locs : List Loc) (ls : Array Slot), k57 a0 l2 z = some (r, z') → Wb G z s H locs → lv_has ls 4 [(0, .ref (gB G + a0)), (2, .int l2)] → W p l e rmX10_hand s m args below meth c H locs 0 0 (MQ below (Qi G r z') args s 0 0 (AA G)) (F0 m 57 ls [])) (hk74 : ∀ (a0 : Nat) (l2 : Int32) (l3 : Int32) (z : AH) (H : Heap) (locs : List Loc) (ls : Array Slot), k74 a0 l2 l3 z = some (r, z') → Wb G z s H locs → lv_has ls 4 [(0, .ref (gB G + a0)), (2, .int l2), (3, .int l3)] → W p l e rmX10_hand s m args below meth c H locs 0 0 (MQ below (Qi G r z') args s 0 0 (AA G)) (F0 m 74 ls [])) (a0 : Nat) (l2 : Int32) (l3 : Int32) {z : AH} {H : Heap} {locs : List Loc} {ls : Array Slot} (h : bX10_hand_74 k57 k74 a0 l2 l3 z = some (r, z')) (hW : Wb G z s H locs) (hl : lv_has ls 4 [(0, .ref (gB G + a0)), (2, .int l2), (3, .int l3)]) : W p l e rmX10_hand s m args below meth c H locs 0 0 (MQ below (Qi G r z') args s 0 0 (AA G)) (F0 m 74 ls []) := by
  have hx := C.1
  have hb := C.2.1
  unfold bX10_hand_74 at h
  refine lv_iload_n hx hb dX10_hand_74 rfl (lv_at hl 2 rfl) ?_
  refine lv_iconst (v := -1) hx hb dX10_hand_75 (by decide) ?_
  refine lv_icmp_eq (tgt := 103) hx hb dX10_hand_76 (by decide) (fun c76 => ?_) (fun c76 => ?_)
  · have h := ite_t c76 h
    obtain ⟨v103, ev103⟩ : ∃ y : Int32, y = (l2 + (1 : Int32)) := ⟨_, rfl⟩
    have h := nm_to h ev103
    refine lv_iinc (v := v103) (lv' := [(2, .int v103), (0, .ref (gB G + a0)), (3, .int l3)]) hx hb dX10_hand_103 hl (k := 1) rfl (by rw [ev103]; rfl) (by decide) rfl (fun ls hl => ?_)
    refine lv_goto (tgt := 57) hx hb dX10_hand_106 (by decide) ?_
    exact hk57 a0 v103 z _ _ _ h hW (lv_sub hl [1, 0] rfl)
  · have h := ite_f c76 h
    refine lv_aload_n hx hb dX10_hand_79 rfl (lv_at hl 0 rfl) ?_
    obtain ⟨b80, hg, h⟩ := ob h
    refine wz_gN C hW flX10_50 hg dX10_hand_80 ?_
    refine lv_iload_n hx hb dX10_hand_83 rfl (lv_at hl 2 rfl) ?_
    refine lv_dup2_11 hx hb dX10_hand_84 rfl rfl ?_
    obtain ⟨x85, hg, h⟩ := ob h
    refine wz_ald C hW hg dX10_hand_85 ?_
    refine lv_iconst (v := 1) hx hb dX10_hand_86 (by decide) ?_
    refine lv_iload_n hx hb dX10_hand_87 rfl (lv_at hl 1 rfl) ?_
    refine wz_shl hx hb dX10_hand_88 ?_
    refine lv_ior hx hb dX10_hand_89 ?_
    obtain ⟨z90, hg, h⟩ := ob h
    refine wz_ast C hW hg dX10_hand_90 (fun H locs hW => ?_)
    refine lv_aload_n hx hb dX10_hand_91 rfl (lv_at hl 0 rfl) ?_
    refine lv_bipush (v := 30) hx hb dX10_hand_92 (by decide) ?_
    refine lv_iload_n hx hb dX10_hand_94 rfl (lv_at hl 2 rfl) ?_
    refine lv_iadd hx hb dX10_hand_95 ?_
    obtain ⟨x96, hq, h⟩ := ob h
    refine wz_rI (c' := 0) (s' := 0) hW (wz_runV (rest := []) C hW lVX10_272 (ck hq).1 rfl (ctX10_of l G a0 ((30 : Int32) + l3) z90 hq) ⟨⟨rfl, rfl⟩, Nat.le_of_ble_eq_true rfl, Nat.le_of_ble_eq_true rfl⟩ rfl hl.1 rfl (Nat.le_of_ble_eq_true rfl) dX10_hand_96 ⟨Nat.le_of_ble_eq_true rfl, Nat.le_of_ble_eq_true rfl⟩) rfl rfl (fun H locs hW => ?_)
    refine lv_istore_n (lv' := [(3, .int x96), (0, .ref (gB G + a0)), (2, .int l2)]) hx hb dX10_hand_99 rfl hl (by decide) rfl (fun ls hl => ?_)
    refine lv_goto (tgt := 74) hx hb dX10_hand_100 (by decide) ?_
    exact hk74 a0 l2 x96 z90 _ _ _ h hW (lv_sub hl [1, 2, 0] rfl)
def fX10_hand_74 (k57 : Nat → Int32 → AH → Option (Int32 × AH)) : Nat → Nat → Int32 → Int32 → AH → Option (Int32 × AH)
  | 0, _, _, _, _ => none
  | n + 1, a0, l2, l3, z => bX10_hand_74 k57 (fX10_hand_74 k57 n) a0 l2 l3 z
theorem klX10_hand_74 {p : Program} {l : Launch} {e : Env} {s : State} {m : MethodId} {args : Array Value} {below : List Frame} {meth : Method} {c : Code} {G : GW} {r : Int32} {z' : AH} (C : Cx p m c cX10_hand 4 s args RX10 G) (hlk : meth.locks = false) (hr : meth.sig.returnType = (some .boolean)) (k57 : Nat → Int32 → AH → Option (Int32 × AH)) (hk57 : ∀ (a0 : Nat) (l2 : Int32) (z : AH) (H : Heap) (locs : List Loc) (ls : Array Slot), k57 a0 l2 z = some (r, z') → Wb G z s H locs → lv_has ls 4 [(0, .ref (gB G + a0)), (2, .int l2)] → W p l e rmX10_hand s m args below meth c H locs 0 0 (MQ below (Qi G r z') args s 0 0 (AA G)) (F0 m 57 ls [])) : ∀ (n : Nat) (a0 : Nat) (l2 : Int32) (l3 : Int32) (z : AH) (H : Heap) (locs : List Loc) (ls : Array Slot), fX10_hand_74 k57 n a0 l2 l3 z = some (r, z') → Wb G z s H locs → lv_has ls 4 [(0, .ref (gB G + a0)), (2, .int l2), (3, .int l3)] → W p l e rmX10_hand s m args below meth c H locs 0 0 (MQ below (Qi G r z') args s 0 0 (AA G)) (F0 m 74 ls []) := by
  intro n
  induction n with
  | zero => intro a0 l2 l3 z H locs ls h; have h : (none : Option (Int32 × AH)) = some (r, z') := h; cases h
  | succ n ih => intro a0 l2 l3 z H locs ls h hW hl; exact kbX10_hand_74 C hlk hr k57 (fX10_hand_74 k57 n) hk57 (fun a0 l2 l3 z H locs ls h hW hl => ih a0 l2 l3 z H locs ls h hW hl) a0 l2 l3 h hW hl
def bX10_hand_57 (k57 : Nat → Int32 → AH → Option (Int32 × AH)) (a0 : Nat) (l2 : Int32) (z : AH) : Option (Int32 × AH) :=
  (gI 9 26 z a0).bind fun x59 =>
  if x59 ≤ l2 then (
    (fX10_begin a0 z).bind fun z110 =>
    (fX10_falls a0 z110).bind fun z114 =>
    some ((1 : Int32), z114)
  ) else (
    (fX10_of a0 ((30 : Int32) + l2) z).bind fun x70 =>
    fX10_hand_74 k57 FU a0 l2 x70 z
  )
set_option maxHeartbeats 4000000 in
set_option maxRecDepth 100000 in
theorem kbX10_hand_57 {p : Program} {l : Launch} {e : Env} {s : State} {m : MethodId} {args : Array Value} {below : List Frame} {meth : Method} {c : Code} {G : GW} {r : Int32} {z' : AH} (C : Cx p m c cX10_hand 4 s args RX10 G) (hlk : meth.locks = false) (hr : meth.sig.returnType = (some .boolean)) (k57 : Nat → Int32 → AH → Option (Int32 × AH)) (hk57 : ∀ (a0 : Nat) (l2 : Int32) (z : AH) (H : Heap) (locs : List Loc) (ls : Array Slot), k57 a0 l2 z = some (r, z') → Wb G z s H locs → lv_has ls 4 [(0, .ref (gB G + a0)), (2, .int l2)] → W p l e rmX10_hand s m args below meth c H locs 0 0 (MQ below (Qi G r z') args s 0 0 (AA G)) (F0 m 57 ls [])) (a0 : Nat) (l2 : Int32) {z : AH} {H : Heap} {locs : List Loc} {ls : Array Slot} (h : bX10_hand_57 k57 a0 l2 z = some (r, z')) (hW : Wb G z s H locs) (hl : lv_has ls 4 [(0, .ref (gB G + a0)), (2, .int l2)]) : W p l e rmX10_hand s m args below meth c H locs 0 0 (MQ below (Qi G r z') args s 0 0 (AA G)) (F0 m 57 ls []) := by
  have hx := C.1
  have hb := C.2.1
  unfold bX10_hand_57 at h
  refine lv_iload_n hx hb dX10_hand_57 rfl (lv_at hl 1 rfl) ?_
  refine lv_aload_n hx hb dX10_hand_58 rfl (lv_at hl 0 rfl) ?_
  obtain ⟨x59, hg, h⟩ := ob h
  refine wz_gI C hW flX10_276 hg dX10_hand_59 ?_
  refine lv_icmp_ge (tgt := 109) hx hb dX10_hand_62 (by decide) (fun c62 => ?_) (fun c62 => ?_)
  · have h := ite_t c62 h
    refine lv_aload_n hx hb dX10_hand_109 rfl (lv_at hl 0 rfl) ?_
    obtain ⟨z110, hq, h⟩ := ob h
    refine wz_rV (c' := 0) (s' := 0) hW (wz_runV (rest := []) C hW lVX10_282 (ck hq).1 rfl (ctX10_begin l G a0 z hq) ⟨⟨rfl, rfl⟩, Nat.le_of_ble_eq_true rfl, Nat.le_of_ble_eq_true rfl⟩ rfl hl.1 rfl (Nat.le_of_ble_eq_true rfl) dX10_hand_110 ⟨Nat.le_of_ble_eq_true rfl, Nat.le_of_ble_eq_true rfl⟩) rfl rfl (fun H locs hW => ?_)
    refine lv_aload_n hx hb dX10_hand_113 rfl (lv_at hl 0 rfl) ?_
    obtain ⟨z114, hq, h⟩ := ob h
    refine wz_rV (c' := 0) (s' := 0) hW (wz_runV (rest := []) C hW lVX10_285 (ck hq).1 rfl (ctX10_falls l G a0 z110 hq) ⟨⟨rfl, rfl⟩, Nat.le_of_ble_eq_true rfl, Nat.le_of_ble_eq_true rfl⟩ rfl hl.1 rfl (Nat.le_of_ble_eq_true rfl) dX10_hand_114 ⟨Nat.le_of_ble_eq_true rfl, Nat.le_of_ble_eq_true rfl⟩) rfl rfl (fun H locs hW => ?_)
    refine lv_iconst (v := 1) hx hb dX10_hand_117 (by decide) ?_
    exact wz_zretE C hlk hr (Or.inr rfl) (so2 h).1 (so2 h).2 hW dX10_hand_118
  · have h := ite_f c62 h
    refine lv_aload_n hx hb dX10_hand_65 rfl (lv_at hl 0 rfl) ?_
    refine lv_bipush (v := 30) hx hb dX10_hand_66 (by decide) ?_
    refine lv_iload_n hx hb dX10_hand_68 rfl (lv_at hl 1 rfl) ?_
    refine lv_iadd hx hb dX10_hand_69 ?_
    obtain ⟨x70, hq, h⟩ := ob h
    refine wz_rI (c' := 0) (s' := 0) hW (wz_runV (rest := []) C hW lVX10_272 (ck hq).1 rfl (ctX10_of l G a0 ((30 : Int32) + l2) z hq) ⟨⟨rfl, rfl⟩, Nat.le_of_ble_eq_true rfl, Nat.le_of_ble_eq_true rfl⟩ rfl hl.1 rfl (Nat.le_of_ble_eq_true rfl) dX10_hand_70 ⟨Nat.le_of_ble_eq_true rfl, Nat.le_of_ble_eq_true rfl⟩) rfl rfl (fun H locs hW => ?_)
    refine lv_istore_n (lv' := [(3, .int x70), (0, .ref (gB G + a0)), (2, .int l2)]) hx hb dX10_hand_73 rfl hl (by decide) rfl (fun ls hl => ?_)
    exact klX10_hand_74 C hlk hr k57 hk57 FU a0 l2 x70 z _ _ _ h hW (lv_sub hl [1, 2, 0] rfl)
def fX10_hand_57 : Nat → Nat → Int32 → AH → Option (Int32 × AH)
  | 0, _, _, _ => none
  | n + 1, a0, l2, z => bX10_hand_57 (fX10_hand_57 n) a0 l2 z
theorem klX10_hand_57 {p : Program} {l : Launch} {e : Env} {s : State} {m : MethodId} {args : Array Value} {below : List Frame} {meth : Method} {c : Code} {G : GW} {r : Int32} {z' : AH} (C : Cx p m c cX10_hand 4 s args RX10 G) (hlk : meth.locks = false) (hr : meth.sig.returnType = (some .boolean)) : ∀ (n : Nat) (a0 : Nat) (l2 : Int32) (z : AH) (H : Heap) (locs : List Loc) (ls : Array Slot), fX10_hand_57 n a0 l2 z = some (r, z') → Wb G z s H locs → lv_has ls 4 [(0, .ref (gB G + a0)), (2, .int l2)] → W p l e rmX10_hand s m args below meth c H locs 0 0 (MQ below (Qi G r z') args s 0 0 (AA G)) (F0 m 57 ls []) := by
  intro n
  induction n with
  | zero => intro a0 l2 z H locs ls h; have h : (none : Option (Int32 × AH)) = some (r, z') := h; cases h
  | succ n ih => intro a0 l2 z H locs ls h hW hl; exact kbX10_hand_57 C hlk hr (fX10_hand_57 n) (fun a0 l2 z H locs ls h hW hl => ih a0 l2 z H locs ls h hW hl) a0 l2 h hW hl
def bX10_hand_36 (k36 : Nat → Int32 → AH → Option (Int32 × AH)) (a0 : Nat) (l2 : Int32) (z : AH) : Option (Int32 × AH) :=
  if (8 : Int32) ≤ l2 then (
    fX10_hand_57 FU a0 (0 : Int32) z
  ) else (
    (gN 9 30 z a0).bind fun b43 =>
    (stI 0 z b43 l2 (0 : Int32)).bind fun z48 =>
    nm (l2 + (1 : Int32)) fun v49 =>
    k36 a0 v49 z48
  )
set_option maxHeartbeats 4000000 in
set_option maxRecDepth 100000 in
theorem kbX10_hand_36 {p : Program} {l : Launch} {e : Env} {s : State} {m : MethodId} {args : Array Value} {below : List Frame} {meth : Method} {c : Code} {G : GW} {r : Int32} {z' : AH} (C : Cx p m c cX10_hand 4 s args RX10 G) (hlk : meth.locks = false) (hr : meth.sig.returnType = (some .boolean)) (k36 : Nat → Int32 → AH → Option (Int32 × AH)) (hk36 : ∀ (a0 : Nat) (l2 : Int32) (z : AH) (H : Heap) (locs : List Loc) (ls : Array Slot), k36 a0 l2 z = some (r, z') → Wb G z s H locs → lv_has ls 4 [(0, .ref (gB G + a0)), (2, .int l2)] → W p l e rmX10_hand s m args below meth c H locs 0 0 (MQ below (Qi G r z') args s 0 0 (AA G)) (F0 m 36 ls [])) (a0 : Nat) (l2 : Int32) {z : AH} {H : Heap} {locs : List Loc} {ls : Array Slot} (h : bX10_hand_36 k36 a0 l2 z = some (r, z')) (hW : Wb G z s H locs) (hl : lv_has ls 4 [(0, .ref (gB G + a0)), (2, .int l2)]) : W p l e rmX10_hand s m args below meth c H locs 0 0 (MQ below (Qi G r z') args s 0 0 (AA G)) (F0 m 36 ls []) := by
  have hx := C.1
  have hb := C.2.1
  unfold bX10_hand_36 at h
  refine lv_iload_n hx hb dX10_hand_36 rfl (lv_at hl 1 rfl) ?_
  refine lv_bipush (v := 8) hx hb dX10_hand_37 (by decide) ?_
  refine lv_icmp_ge (tgt := 55) hx hb dX10_hand_39 (by decide) (fun c39 => ?_) (fun c39 => ?_)
  · have h := ite_t c39 h
    refine lv_iconst (v := 0) hx hb dX10_hand_55 (by decide) ?_
    refine lv_istore_n (lv' := [(2, .int (0 : Int32)), (0, .ref (gB G + a0))]) hx hb dX10_hand_56 rfl hl (by decide) rfl (fun ls hl => ?_)
    exact klX10_hand_57 C hlk hr FU a0 (0 : Int32) z _ _ _ h hW (lv_sub hl [1, 0] rfl)
  · have h := ite_f c39 h
    refine lv_aload_n hx hb dX10_hand_42 rfl (lv_at hl 0 rfl) ?_
    obtain ⟨b43, hg, h⟩ := ob h
    refine wz_gN C hW flX10_50 hg dX10_hand_43 ?_
    refine lv_iload_n hx hb dX10_hand_46 rfl (lv_at hl 1 rfl) ?_
    refine lv_iconst (v := 0) hx hb dX10_hand_47 (by decide) ?_
    obtain ⟨z48, hg, h⟩ := ob h
    refine wz_ast C hW hg dX10_hand_48 (fun H locs hW => ?_)
    obtain ⟨v49, ev49⟩ : ∃ y : Int32, y = (l2 + (1 : Int32)) := ⟨_, rfl⟩
    have h := nm_to h ev49
    refine lv_iinc (v := v49) (lv' := [(2, .int v49), (0, .ref (gB G + a0))]) hx hb dX10_hand_49 hl (k := 1) rfl (by rw [ev49]; rfl) (by decide) rfl (fun ls hl => ?_)
    refine lv_goto (tgt := 36) hx hb dX10_hand_52 (by decide) ?_
    exact hk36 a0 v49 z48 _ _ _ h hW (lv_sub hl [1, 0] rfl)
def fX10_hand_36 : Nat → Nat → Int32 → AH → Option (Int32 × AH)
  | 0, _, _, _ => none
  | n + 1, a0, l2, z => bX10_hand_36 (fX10_hand_36 n) a0 l2 z
theorem klX10_hand_36 {p : Program} {l : Launch} {e : Env} {s : State} {m : MethodId} {args : Array Value} {below : List Frame} {meth : Method} {c : Code} {G : GW} {r : Int32} {z' : AH} (C : Cx p m c cX10_hand 4 s args RX10 G) (hlk : meth.locks = false) (hr : meth.sig.returnType = (some .boolean)) : ∀ (n : Nat) (a0 : Nat) (l2 : Int32) (z : AH) (H : Heap) (locs : List Loc) (ls : Array Slot), fX10_hand_36 n a0 l2 z = some (r, z') → Wb G z s H locs → lv_has ls 4 [(0, .ref (gB G + a0)), (2, .int l2)] → W p l e rmX10_hand s m args below meth c H locs 0 0 (MQ below (Qi G r z') args s 0 0 (AA G)) (F0 m 36 ls []) := by
  intro n
  induction n with
  | zero => intro a0 l2 z H locs ls h; have h : (none : Option (Int32 × AH)) = some (r, z') := h; cases h
  | succ n ih => intro a0 l2 z H locs ls h hW hl; exact kbX10_hand_36 C hlk hr (fX10_hand_36 n) (fun a0 l2 z H locs ls h hW hl => ih a0 l2 z H locs ls h hW hl) a0 l2 h hW hl
def fX10_hand (a0 : Nat) (l1 : Int32) (z : AH) : Option (Int32 × AH) :=
  if isO 9 z a0 = true then
    (fX10_is a0 (0 : Int32) l1 z).bind fun x3 =>
    if x3 = (0 : Int32) then (
      some ((0 : Int32), z)
    ) else (
      (pF 9 25 z a0 (.int l1)).bind fun z13 =>
      (fX10_of a0 (0 : Int32) z13).bind fun x19 =>
      (pF 9 26 z13 a0 (.int x19)).bind fun z22 =>
      (fX10_of a0 (4 : Int32) z22).bind fun x28 =>
      (pF 9 27 z22 a0 (.int x28)).bind fun z31 =>
      fX10_hand_36 FU a0 (0 : Int32) z31
    )
  else none
set_option maxHeartbeats 4000000 in
set_option maxRecDepth 100000 in
theorem ctX10_hand (l : Launch) (G : GW) (a0 : Nat) (l1 : Int32) (z : AH) {r : Int32} {z' : AH} (h : fX10_hand a0 l1 z = some (r, z')) : Met l yX10_hand (wy yX10_hand cX10_hand 4 (some .boolean)) rmX10_hand (Pz G [.ref (gB G + a0), .int l1] z) (Qi G r z') 0 0 (AA G) := by
  refine wz_ent (own := RX10) (by decide +kernel) rfl (fun p e s m below meth c ls C hlk hr hin hW hl => ?_) (Nat.le_of_ble_eq_true rfl)
  have hl : lv_has ls 4 [(0, .ref (gB G + a0)), (1, .int l1)] := hl
  have hx := C.1
  have hb := C.2.1
  unfold fX10_hand at h
  obtain ⟨-, h⟩ := ck h
  refine lv_aload_n hx hb dX10_hand_0 rfl (lv_at hl 0 rfl) ?_
  refine lv_iconst (v := 0) hx hb dX10_hand_1 (by decide) ?_
  refine lv_iload_n hx hb dX10_hand_2 rfl (lv_at hl 1 rfl) ?_
  obtain ⟨x3, hq, h⟩ := ob h
  refine wz_rI (c' := 0) (s' := 0) hW (wz_runV (rest := []) C hW lVX10_260 (ck hq).1 rfl (ctX10_is l G a0 (0 : Int32) l1 z hq) ⟨⟨rfl, rfl⟩, Nat.le_of_ble_eq_true rfl, Nat.le_of_ble_eq_true rfl⟩ rfl hl.1 rfl (Nat.le_of_ble_eq_true rfl) dX10_hand_3 ⟨Nat.le_of_ble_eq_true rfl, Nat.le_of_ble_eq_true rfl⟩) rfl rfl (fun H locs hW => ?_)
  refine lv_if_ne (tgt := 11) hx hb dX10_hand_6 (by decide) (fun c6 => ?_) (fun c6 => ?_)
  · have h := ite_f c6 h
    refine lv_aload_n hx hb dX10_hand_11 rfl (lv_at hl 0 rfl) ?_
    refine lv_iload_n hx hb dX10_hand_12 rfl (lv_at hl 1 rfl) ?_
    obtain ⟨z13, hg, h⟩ := ob h
    refine wz_put (v := (.int l1)) C hW flX10_269 rfl rfl hg dX10_hand_13 (fun H locs hW => ?_)
    refine lv_aload_n hx hb dX10_hand_16 rfl (lv_at hl 0 rfl) ?_
    refine lv_aload_n hx hb dX10_hand_17 rfl (lv_at hl 0 rfl) ?_
    refine lv_iconst (v := 0) hx hb dX10_hand_18 (by decide) ?_
    obtain ⟨x19, hq, h⟩ := ob h
    refine wz_rI (c' := 0) (s' := 0) hW (wz_runV (rest := [.ref (gB G + a0)]) C hW lVX10_272 (ck hq).1 rfl (ctX10_of l G a0 (0 : Int32) z13 hq) ⟨⟨rfl, rfl⟩, Nat.le_of_ble_eq_true rfl, Nat.le_of_ble_eq_true rfl⟩ rfl hl.1 rfl (Nat.le_of_ble_eq_true rfl) dX10_hand_19 ⟨Nat.le_of_ble_eq_true rfl, Nat.le_of_ble_eq_true rfl⟩) rfl rfl (fun H locs hW => ?_)
    obtain ⟨z22, hg, h⟩ := ob h
    refine wz_put (v := (.int x19)) C hW flX10_276 rfl rfl hg dX10_hand_22 (fun H locs hW => ?_)
    refine lv_aload_n hx hb dX10_hand_25 rfl (lv_at hl 0 rfl) ?_
    refine lv_aload_n hx hb dX10_hand_26 rfl (lv_at hl 0 rfl) ?_
    refine lv_iconst (v := 4) hx hb dX10_hand_27 (by decide) ?_
    obtain ⟨x28, hq, h⟩ := ob h
    refine wz_rI (c' := 0) (s' := 0) hW (wz_runV (rest := [.ref (gB G + a0)]) C hW lVX10_272 (ck hq).1 rfl (ctX10_of l G a0 (4 : Int32) z22 hq) ⟨⟨rfl, rfl⟩, Nat.le_of_ble_eq_true rfl, Nat.le_of_ble_eq_true rfl⟩ rfl hl.1 rfl (Nat.le_of_ble_eq_true rfl) dX10_hand_28 ⟨Nat.le_of_ble_eq_true rfl, Nat.le_of_ble_eq_true rfl⟩) rfl rfl (fun H locs hW => ?_)
    obtain ⟨z31, hg, h⟩ := ob h
    refine wz_put (v := (.int x28)) C hW flX10_279 rfl rfl hg dX10_hand_31 (fun H locs hW => ?_)
    refine lv_iconst (v := 0) hx hb dX10_hand_34 (by decide) ?_
    refine lv_istore_n (lv' := [(2, .int (0 : Int32)), (0, .ref (gB G + a0)), (1, .int l1)]) hx hb dX10_hand_35 rfl hl (by decide) rfl (fun ls hl => ?_)
    exact klX10_hand_36 C hlk hr FU a0 (0 : Int32) z31 _ _ _ h hW (lv_sub hl [1, 0] rfl)
  · have h := ite_t c6 h
    refine lv_iconst (v := 0) hx hb dX10_hand_9 (by decide) ?_
    exact wz_zretE C hlk hr (Or.inl rfl) (so2 h).1 (so2 h).2 hW dX10_hand_10
theorem dX10_isThing_0 : decode cX10_isThing 0 = .ok (.iload_n 1, 1) := by decide +kernel
theorem dX10_isThing_1 : decode cX10_isThing 1 = .ok (.iconst 0, 1) := by decide +kernel
theorem dX10_isThing_2 : decode cX10_isThing 2 = .ok (.aload_n 0, 1) := by decide +kernel
theorem dX10_isThing_3 : decode cX10_isThing 3 = .ok (.getfield 276, 3) := by decide +kernel
theorem dX10_isThing_6 : decode cX10_isThing 6 = .ok (.iconst 1, 1) := by decide +kernel
theorem dX10_isThing_7 : decode cX10_isThing 7 = .ok (.isub, 1) := by decide +kernel
theorem dX10_isThing_8 : decode cX10_isThing 8 = .ok (.invokestatic 93, 3) := by decide +kernel
theorem dX10_isThing_11 : decode cX10_isThing 11 = .ok (.ireturn, 1) := by decide +kernel
abbrev rmX10_isThing : Room := { frames := 1, cells := 0, slots := 0, locals := 22 }
def fX10_isThing (a0 : Nat) (l1 : Int32) (z : AH) : Option (Int32) :=
  if isO 9 z a0 = true then
    (gI 9 26 z a0).bind fun x3 =>
    if (fX10_in l1 (0 : Int32) (x3 - (1 : Int32))) = 0 ∨ (fX10_in l1 (0 : Int32) (x3 - (1 : Int32))) = 1 then some (fX10_in l1 (0 : Int32) (x3 - (1 : Int32))) else none
  else none
set_option maxHeartbeats 4000000 in
set_option maxRecDepth 100000 in
theorem ctX10_isThing (l : Launch) (G : GW) (a0 : Nat) (l1 : Int32) (z : AH) {r : Int32} (h : fX10_isThing a0 l1 z = some r) : Met l yX10_isThing (wy yX10_isThing cX10_isThing 2 (some .boolean)) rmX10_isThing (Pz G [.ref (gB G + a0), .int l1] z) (Qi G r z) 0 0 (AA G) := by
  refine wz_ent (own := RX10) (by decide +kernel) rfl (fun p e s m below meth c ls C hlk hr hin hW hl => ?_) (Nat.le_of_ble_eq_true rfl)
  have hl : lv_has ls 2 [(0, .ref (gB G + a0)), (1, .int l1)] := hl
  have hx := C.1
  have hb := C.2.1
  unfold fX10_isThing at h
  obtain ⟨-, h⟩ := ck h
  refine lv_iload_n hx hb dX10_isThing_0 rfl (lv_at hl 1 rfl) ?_
  refine lv_iconst (v := 0) hx hb dX10_isThing_1 (by decide) ?_
  refine lv_aload_n hx hb dX10_isThing_2 rfl (lv_at hl 0 rfl) ?_
  obtain ⟨x3, hg, h⟩ := ob h
  refine wz_gI C hW flX10_276 hg dX10_isThing_3 ?_
  refine lv_iconst (v := 1) hx hb dX10_isThing_6 (by decide) ?_
  refine lv_isub hx hb dX10_isThing_7 ?_
  refine wz_rI (c' := 0) (s' := 0) hW (wz_runS (rest := []) C hW lTX10_93 (ctX10_in l G l1 (0 : Int32) (x3 - (1 : Int32)) z rfl) ⟨⟨rfl, rfl⟩, Nat.le_of_ble_eq_true rfl, Nat.le_of_ble_eq_true rfl⟩ rfl hl.1 rfl (Nat.le_of_ble_eq_true rfl) dX10_isThing_8 ⟨Nat.le_of_ble_eq_true rfl, Nat.le_of_ble_eq_true rfl⟩) rfl rfl (fun H locs hW => ?_)
  obtain ⟨h01, h⟩ := ck h
  exact wz_zretE C hlk hr h01 (Option.some.inj h) rfl hW dX10_isThing_11
theorem dX10_isCouple_0 : decode cX10_isCouple 0 = .ok (.iload_n 1, 1) := by decide +kernel
theorem dX10_isCouple_1 : decode cX10_isCouple 1 = .ok (.iconst 0, 1) := by decide +kernel
theorem dX10_isCouple_2 : decode cX10_isCouple 2 = .ok (.aload_n 0, 1) := by decide +kernel
theorem dX10_isCouple_3 : decode cX10_isCouple 3 = .ok (.getfield 279, 3) := by decide +kernel
theorem dX10_isCouple_6 : decode cX10_isCouple 6 = .ok (.iconst 1, 1) := by decide +kernel
theorem dX10_isCouple_7 : decode cX10_isCouple 7 = .ok (.isub, 1) := by decide +kernel
theorem dX10_isCouple_8 : decode cX10_isCouple 8 = .ok (.invokestatic 93, 3) := by decide +kernel
theorem dX10_isCouple_11 : decode cX10_isCouple 11 = .ok (.ireturn, 1) := by decide +kernel
abbrev rmX10_isCouple : Room := { frames := 1, cells := 0, slots := 0, locals := 22 }
def fX10_isCouple (a0 : Nat) (l1 : Int32) (z : AH) : Option (Int32) :=
  if isO 9 z a0 = true then
    (gI 9 27 z a0).bind fun x3 =>
    if (fX10_in l1 (0 : Int32) (x3 - (1 : Int32))) = 0 ∨ (fX10_in l1 (0 : Int32) (x3 - (1 : Int32))) = 1 then some (fX10_in l1 (0 : Int32) (x3 - (1 : Int32))) else none
  else none
set_option maxHeartbeats 4000000 in
set_option maxRecDepth 100000 in
theorem ctX10_isCouple (l : Launch) (G : GW) (a0 : Nat) (l1 : Int32) (z : AH) {r : Int32} (h : fX10_isCouple a0 l1 z = some r) : Met l yX10_isCouple (wy yX10_isCouple cX10_isCouple 2 (some .boolean)) rmX10_isCouple (Pz G [.ref (gB G + a0), .int l1] z) (Qi G r z) 0 0 (AA G) := by
  refine wz_ent (own := RX10) (by decide +kernel) rfl (fun p e s m below meth c ls C hlk hr hin hW hl => ?_) (Nat.le_of_ble_eq_true rfl)
  have hl : lv_has ls 2 [(0, .ref (gB G + a0)), (1, .int l1)] := hl
  have hx := C.1
  have hb := C.2.1
  unfold fX10_isCouple at h
  obtain ⟨-, h⟩ := ck h
  refine lv_iload_n hx hb dX10_isCouple_0 rfl (lv_at hl 1 rfl) ?_
  refine lv_iconst (v := 0) hx hb dX10_isCouple_1 (by decide) ?_
  refine lv_aload_n hx hb dX10_isCouple_2 rfl (lv_at hl 0 rfl) ?_
  obtain ⟨x3, hg, h⟩ := ob h
  refine wz_gI C hW flX10_279 hg dX10_isCouple_3 ?_
  refine lv_iconst (v := 1) hx hb dX10_isCouple_6 (by decide) ?_
  refine lv_isub hx hb dX10_isCouple_7 ?_
  refine wz_rI (c' := 0) (s' := 0) hW (wz_runS (rest := []) C hW lTX10_93 (ctX10_in l G l1 (0 : Int32) (x3 - (1 : Int32)) z rfl) ⟨⟨rfl, rfl⟩, Nat.le_of_ble_eq_true rfl, Nat.le_of_ble_eq_true rfl⟩ rfl hl.1 rfl (Nat.le_of_ble_eq_true rfl) dX10_isCouple_8 ⟨Nat.le_of_ble_eq_true rfl, Nat.le_of_ble_eq_true rfl⟩) rfl rfl (fun H locs hW => ?_)
  obtain ⟨h01, h⟩ := ck h
  exact wz_zretE C hlk hr h01 (Option.some.inj h) rfl hW dX10_isCouple_11
theorem dX10_isThere_0 : decode cX10_isThere 0 = .ok (.aload_n 0, 1) := by decide +kernel
theorem dX10_isThere_1 : decode cX10_isThere 1 = .ok (.iload_n 1, 1) := by decide +kernel
theorem dX10_isThere_2 : decode cX10_isThere 2 = .ok (.invokevirtual 309, 3) := by decide +kernel
theorem dX10_isThere_5 : decode cX10_isThere 5 = .ok (.ifCond .eq 18, 3) := by decide +kernel
theorem dX10_isThere_8 : decode cX10_isThere 8 = .ok (.aload_n 0, 1) := by decide +kernel
theorem dX10_isThere_9 : decode cX10_isThere 9 = .ok (.getfield 288, 3) := by decide +kernel
theorem dX10_isThere_12 : decode cX10_isThere 12 = .ok (.iload_n 1, 1) := by decide +kernel
theorem dX10_isThere_13 : decode cX10_isThere 13 = .ok (.invokestatic 85, 3) := by decide +kernel
theorem dX10_isThere_16 : decode cX10_isThere 16 = .ok (.ifCond .ne 7, 3) := by decide +kernel
theorem dX10_isThere_19 : decode cX10_isThere 19 = .ok (.iconst 1, 1) := by decide +kernel
theorem dX10_isThere_20 : decode cX10_isThere 20 = .ok (.goto 4, 3) := by decide +kernel
theorem dX10_isThere_23 : decode cX10_isThere 23 = .ok (.iconst 0, 1) := by decide +kernel
theorem dX10_isThere_24 : decode cX10_isThere 24 = .ok (.ireturn, 1) := by decide +kernel
theorem cdX10_isThing : Cond.code yX10_isThing cX10_isThing 2 (some .boolean) ∈ tz := tc7 39 rfl rfl
theorem lVX10_309 : LV RX10 309 yX10_isThing cX10_isThing 2 (some .boolean) 1 := ⟨tw 1595 (by decide +kernel) rfl, tw 1597 (by decide +kernel) rfl, tw 78 (by decide +kernel) rfl, tw 128 (by decide +kernel) rfl, cdX10_isThing, ⟨by decide +kernel, by decide +kernel, by decide +kernel⟩⟩
abbrev rmX10_isThere : Room := { frames := 2, cells := 0, slots := 0, locals := 43 }
def fX10_isThere (a0 : Nat) (l1 : Int32) (z : AH) : Option (Int32) :=
  if isO 9 z a0 = true then
    (fX10_isThing a0 l1 z).bind fun x2 =>
    if x2 = (0 : Int32) then (
      some (0 : Int32)
    ) else (
      (gI 9 31 z a0).bind fun x9 =>
      if (fX10_has x9 l1) = (0 : Int32) then (
        some (1 : Int32)
      ) else (
        some (0 : Int32)
      )
    )
  else none
set_option maxHeartbeats 4000000 in
set_option maxRecDepth 100000 in
theorem ctX10_isThere (l : Launch) (G : GW) (a0 : Nat) (l1 : Int32) (z : AH) {r : Int32} (h : fX10_isThere a0 l1 z = some r) : Met l yX10_isThere (wy yX10_isThere cX10_isThere 2 (some .boolean)) rmX10_isThere (Pz G [.ref (gB G + a0), .int l1] z) (Qi G r z) 0 0 (AA G) := by
  refine wz_ent (own := RX10) (by decide +kernel) rfl (fun p e s m below meth c ls C hlk hr hin hW hl => ?_) (Nat.le_of_ble_eq_true rfl)
  have hl : lv_has ls 2 [(0, .ref (gB G + a0)), (1, .int l1)] := hl
  have hx := C.1
  have hb := C.2.1
  unfold fX10_isThere at h
  obtain ⟨-, h⟩ := ck h
  refine lv_aload_n hx hb dX10_isThere_0 rfl (lv_at hl 0 rfl) ?_
  refine lv_iload_n hx hb dX10_isThere_1 rfl (lv_at hl 1 rfl) ?_
  obtain ⟨x2, hq, h⟩ := ob h
  refine wz_rI (c' := 0) (s' := 0) hW (wz_runV (rest := []) C hW lVX10_309 (ck hq).1 rfl (ctX10_isThing l G a0 l1 z hq) ⟨⟨rfl, rfl⟩, Nat.le_of_ble_eq_true rfl, Nat.le_of_ble_eq_true rfl⟩ rfl hl.1 rfl (Nat.le_of_ble_eq_true rfl) dX10_isThere_2 ⟨Nat.le_of_ble_eq_true rfl, Nat.le_of_ble_eq_true rfl⟩) rfl rfl (fun H locs hW => ?_)
  refine lv_if_eq (tgt := 23) hx hb dX10_isThere_5 (by decide) (fun c5 => ?_) (fun c5 => ?_)
  · have h := ite_t c5 h
    refine lv_iconst (v := 0) hx hb dX10_isThere_23 (by decide) ?_
    exact wz_zretE C hlk hr (Or.inl rfl) (Option.some.inj h) rfl hW dX10_isThere_24
  · have h := ite_f c5 h
    refine lv_aload_n hx hb dX10_isThere_8 rfl (lv_at hl 0 rfl) ?_
    obtain ⟨x9, hg, h⟩ := ob h
    refine wz_gI C hW flX10_288 hg dX10_isThere_9 ?_
    refine lv_iload_n hx hb dX10_isThere_12 rfl (lv_at hl 1 rfl) ?_
    refine wz_rI (c' := 0) (s' := 0) hW (wz_runS (rest := []) C hW lTX10_85 (ctX10_has l G x9 l1 z rfl) ⟨⟨rfl, rfl⟩, Nat.le_of_ble_eq_true rfl, Nat.le_of_ble_eq_true rfl⟩ rfl hl.1 rfl (Nat.le_of_ble_eq_true rfl) dX10_isThere_13 ⟨Nat.le_of_ble_eq_true rfl, Nat.le_of_ble_eq_true rfl⟩) rfl rfl (fun H locs hW => ?_)
    refine lv_if_ne (tgt := 23) hx hb dX10_isThere_16 (by decide) (fun c16 => ?_) (fun c16 => ?_)
    · have h := ite_f c16 h
      refine lv_iconst (v := 0) hx hb dX10_isThere_23 (by decide) ?_
      exact wz_zretE C hlk hr (Or.inl rfl) (Option.some.inj h) rfl hW dX10_isThere_24
    · have h := ite_t c16 h
      refine lv_iconst (v := 1) hx hb dX10_isThere_19 (by decide) ?_
      refine lv_goto (tgt := 24) hx hb dX10_isThere_20 (by decide) ?_
      exact wz_zretE C hlk hr (Or.inr rfl) (Option.some.inj h) rfl hW dX10_isThere_24
theorem dX10_thereSet_0 : decode cX10_thereSet 0 = .ok (.iconst 1, 1) := by decide +kernel
theorem dX10_thereSet_1 : decode cX10_thereSet 1 = .ok (.aload_n 0, 1) := by decide +kernel
theorem dX10_thereSet_2 : decode cX10_thereSet 2 = .ok (.getfield 276, 3) := by decide +kernel
theorem dX10_thereSet_5 : decode cX10_thereSet 5 = .ok (.ishl, 1) := by decide +kernel
theorem dX10_thereSet_6 : decode cX10_thereSet 6 = .ok (.iconst 1, 1) := by decide +kernel
theorem dX10_thereSet_7 : decode cX10_thereSet 7 = .ok (.isub, 1) := by decide +kernel
theorem dX10_thereSet_8 : decode cX10_thereSet 8 = .ok (.aload_n 0, 1) := by decide +kernel
theorem dX10_thereSet_9 : decode cX10_thereSet 9 = .ok (.getfield 288, 3) := by decide +kernel
theorem dX10_thereSet_12 : decode cX10_thereSet 12 = .ok (.iconst (-1), 1) := by decide +kernel
theorem dX10_thereSet_13 : decode cX10_thereSet 13 = .ok (.ixor, 1) := by decide +kernel
theorem dX10_thereSet_14 : decode cX10_thereSet 14 = .ok (.iand, 1) := by decide +kernel
theorem dX10_thereSet_15 : decode cX10_thereSet 15 = .ok (.ireturn, 1) := by decide +kernel
abbrev rmX10_thereSet : Room := { frames := 0, cells := 0, slots := 0, locals := 0 }
def fX10_thereSet (a0 : Nat) (z : AH) : Option (Int32) :=
  if isO 9 z a0 = true then
    (gI 9 26 z a0).bind fun x2 =>
    (gI 9 31 z a0).bind fun x9 =>
    some (((shl (1 : Int32) x2) - (1 : Int32)) &&& (x9 ^^^ (-1 : Int32)))
  else none
set_option maxHeartbeats 4000000 in
set_option maxRecDepth 100000 in
theorem ctX10_thereSet (l : Launch) (G : GW) (a0 : Nat) (z : AH) {r : Int32} (h : fX10_thereSet a0 z = some r) : Met l yX10_thereSet (wy yX10_thereSet cX10_thereSet 1 (some .int)) rmX10_thereSet (Pz G [.ref (gB G + a0)] z) (Qi G r z) 0 0 (AA G) := by
  refine wz_ent (own := RX10) (by decide +kernel) rfl (fun p e s m below meth c ls C hlk hr hin hW hl => ?_) (Nat.le_of_ble_eq_true rfl)
  have hl : lv_has ls 1 [(0, .ref (gB G + a0))] := hl
  have hx := C.1
  have hb := C.2.1
  unfold fX10_thereSet at h
  obtain ⟨-, h⟩ := ck h
  refine lv_iconst (v := 1) hx hb dX10_thereSet_0 (by decide) ?_
  refine lv_aload_n hx hb dX10_thereSet_1 rfl (lv_at hl 0 rfl) ?_
  obtain ⟨x2, hg, h⟩ := ob h
  refine wz_gI C hW flX10_276 hg dX10_thereSet_2 ?_
  refine wz_shl hx hb dX10_thereSet_5 ?_
  refine lv_iconst (v := 1) hx hb dX10_thereSet_6 (by decide) ?_
  refine lv_isub hx hb dX10_thereSet_7 ?_
  refine lv_aload_n hx hb dX10_thereSet_8 rfl (lv_at hl 0 rfl) ?_
  obtain ⟨x9, hg, h⟩ := ob h
  refine wz_gI C hW flX10_288 hg dX10_thereSet_9 ?_
  refine lv_iconst (v := -1) hx hb dX10_thereSet_12 (by decide) ?_
  refine lv_ixor hx hb dX10_thereSet_13 ?_
  refine lv_iand hx hb dX10_thereSet_14 ?_
  exact wz_iretE C hlk hr (Option.some.inj h) rfl hW dX10_thereSet_15
theorem dX10_apart_0 : decode cX10_apart 0 = .ok (.iload_n 0, 1) := by decide +kernel
theorem dX10_apart_1 : decode cX10_apart 1 = .ok (.iload_n 1, 1) := by decide +kernel
theorem dX10_apart_2 : decode cX10_apart 2 = .ok (.if_icmp .le 9, 3) := by decide +kernel
theorem dX10_apart_5 : decode cX10_apart 5 = .ok (.iload_n 0, 1) := by decide +kernel
theorem dX10_apart_6 : decode cX10_apart 6 = .ok (.iload_n 1, 1) := by decide +kernel
theorem dX10_apart_7 : decode cX10_apart 7 = .ok (.isub, 1) := by decide +kernel
theorem dX10_apart_8 : decode cX10_apart 8 = .ok (.goto 6, 3) := by decide +kernel
theorem dX10_apart_11 : decode cX10_apart 11 = .ok (.iload_n 1, 1) := by decide +kernel
theorem dX10_apart_12 : decode cX10_apart 12 = .ok (.iload_n 0, 1) := by decide +kernel
theorem dX10_apart_13 : decode cX10_apart 13 = .ok (.isub, 1) := by decide +kernel
theorem dX10_apart_14 : decode cX10_apart 14 = .ok (.ireturn, 1) := by decide +kernel
abbrev rmX10_apart : Room := { frames := 0, cells := 0, slots := 0, locals := 0 }
def fX10_apart (l0 : Int32) (l1 : Int32) : Int32 :=
  if l0 ≤ l1 then (
    (l1 - l0)
  ) else (
    (l0 - l1)
  )
set_option maxHeartbeats 4000000 in
set_option maxRecDepth 100000 in
theorem ctX10_apart (l : Launch) (G : GW) (l0 : Int32) (l1 : Int32) (z : AH) {r : Int32} (h : fX10_apart l0 l1 = r) : Met l yX10_apart (wy yX10_apart cX10_apart 2 (some .int)) rmX10_apart (Pz G [.int l0, .int l1] z) (Qi G r z) 0 0 (AA G) := by
  refine wz_ent (own := RX10) (by decide +kernel) rfl (fun p e s m below meth c ls C hlk hr hin hW hl => ?_) (Nat.le_of_ble_eq_true rfl)
  have hl : lv_has ls 2 [(0, .int l0), (1, .int l1)] := hl
  have hx := C.1
  have hb := C.2.1
  unfold fX10_apart at h
  refine lv_iload_n hx hb dX10_apart_0 rfl (lv_at hl 0 rfl) ?_
  refine lv_iload_n hx hb dX10_apart_1 rfl (lv_at hl 1 rfl) ?_
  refine lv_icmp_le (tgt := 11) hx hb dX10_apart_2 (by decide) (fun c2 => ?_) (fun c2 => ?_)
  · have h := ite_t c2 h
    refine lv_iload_n hx hb dX10_apart_11 rfl (lv_at hl 1 rfl) ?_
    refine lv_iload_n hx hb dX10_apart_12 rfl (lv_at hl 0 rfl) ?_
    refine lv_isub hx hb dX10_apart_13 ?_
    exact wz_iretE C hlk hr h rfl hW dX10_apart_14
  · have h := ite_f c2 h
    refine lv_iload_n hx hb dX10_apart_5 rfl (lv_at hl 0 rfl) ?_
    refine lv_iload_n hx hb dX10_apart_6 rfl (lv_at hl 1 rfl) ?_
    refine lv_isub hx hb dX10_apart_7 ?_
    refine lv_goto (tgt := 14) hx hb dX10_apart_8 (by decide) ?_
    exact wz_iretE C hlk hr h rfl hW dX10_apart_14
theorem dX10_sightLeft_0 : decode cX10_sightLeft 0 = .ok (.aload_n 0, 1) := by decide +kernel
theorem dX10_sightLeft_1 : decode cX10_sightLeft 1 = .ok (.bipush 38, 2) := by decide +kernel
theorem dX10_sightLeft_3 : decode cX10_sightLeft 3 = .ok (.aload_n 0, 1) := by decide +kernel
theorem dX10_sightLeft_4 : decode cX10_sightLeft 4 = .ok (.bipush 46, 2) := by decide +kernel
theorem dX10_sightLeft_6 : decode cX10_sightLeft 6 = .ok (.iload_n 1, 1) := by decide +kernel
theorem dX10_sightLeft_7 : decode cX10_sightLeft 7 = .ok (.iadd, 1) := by decide +kernel
theorem dX10_sightLeft_8 : decode cX10_sightLeft 8 = .ok (.invokevirtual 272, 3) := by decide +kernel
theorem dX10_sightLeft_11 : decode cX10_sightLeft 11 = .ok (.iadd, 1) := by decide +kernel
theorem dX10_sightLeft_12 : decode cX10_sightLeft 12 = .ok (.invokevirtual 272, 3) := by decide +kernel
theorem dX10_sightLeft_15 : decode cX10_sightLeft 15 = .ok (.ireturn, 1) := by decide +kernel
abbrev rmX10_sightLeft : Room := { frames := 1, cells := 0, slots := 0, locals := 21 }
def fX10_sightLeft (a0 : Nat) (l1 : Int32) (z : AH) : Option (Int32) :=
  if isO 9 z a0 = true then
    (fX10_of a0 ((46 : Int32) + l1) z).bind fun x8 =>
    (fX10_of a0 ((38 : Int32) + x8) z).bind fun x12 =>
    some x12
  else none
set_option maxHeartbeats 4000000 in
set_option maxRecDepth 100000 in
theorem ctX10_sightLeft (l : Launch) (G : GW) (a0 : Nat) (l1 : Int32) (z : AH) {r : Int32} (h : fX10_sightLeft a0 l1 z = some r) : Met l yX10_sightLeft (wy yX10_sightLeft cX10_sightLeft 2 (some .int)) rmX10_sightLeft (Pz G [.ref (gB G + a0), .int l1] z) (Qi G r z) 0 0 (AA G) := by
  refine wz_ent (own := RX10) (by decide +kernel) rfl (fun p e s m below meth c ls C hlk hr hin hW hl => ?_) (Nat.le_of_ble_eq_true rfl)
  have hl : lv_has ls 2 [(0, .ref (gB G + a0)), (1, .int l1)] := hl
  have hx := C.1
  have hb := C.2.1
  unfold fX10_sightLeft at h
  obtain ⟨-, h⟩ := ck h
  refine lv_aload_n hx hb dX10_sightLeft_0 rfl (lv_at hl 0 rfl) ?_
  refine lv_bipush (v := 38) hx hb dX10_sightLeft_1 (by decide) ?_
  refine lv_aload_n hx hb dX10_sightLeft_3 rfl (lv_at hl 0 rfl) ?_
  refine lv_bipush (v := 46) hx hb dX10_sightLeft_4 (by decide) ?_
  refine lv_iload_n hx hb dX10_sightLeft_6 rfl (lv_at hl 1 rfl) ?_
  refine lv_iadd hx hb dX10_sightLeft_7 ?_
  obtain ⟨x8, hq, h⟩ := ob h
  refine wz_rI (c' := 0) (s' := 0) hW (wz_runV (rest := [.int (38 : Int32), .ref (gB G + a0)]) C hW lVX10_272 (ck hq).1 rfl (ctX10_of l G a0 ((46 : Int32) + l1) z hq) ⟨⟨rfl, rfl⟩, Nat.le_of_ble_eq_true rfl, Nat.le_of_ble_eq_true rfl⟩ rfl hl.1 rfl (Nat.le_of_ble_eq_true rfl) dX10_sightLeft_8 ⟨Nat.le_of_ble_eq_true rfl, Nat.le_of_ble_eq_true rfl⟩) rfl rfl (fun H locs hW => ?_)
  refine lv_iadd hx hb dX10_sightLeft_11 ?_
  obtain ⟨x12, hq, h⟩ := ob h
  refine wz_rI (c' := 0) (s' := 0) hW (wz_runV (rest := []) C hW lVX10_272 (ck hq).1 rfl (ctX10_of l G a0 ((38 : Int32) + x8) z hq) ⟨⟨rfl, rfl⟩, Nat.le_of_ble_eq_true rfl, Nat.le_of_ble_eq_true rfl⟩ rfl hl.1 rfl (Nat.le_of_ble_eq_true rfl) dX10_sightLeft_12 ⟨Nat.le_of_ble_eq_true rfl, Nat.le_of_ble_eq_true rfl⟩) rfl rfl (fun H locs hW => ?_)
  exact wz_iretE C hlk hr (Option.some.inj h) rfl hW dX10_sightLeft_15
theorem dX10_sightRight_0 : decode cX10_sightRight 0 = .ok (.aload_n 0, 1) := by decide +kernel
theorem dX10_sightRight_1 : decode cX10_sightRight 1 = .ok (.bipush 42, 2) := by decide +kernel
theorem dX10_sightRight_3 : decode cX10_sightRight 3 = .ok (.aload_n 0, 1) := by decide +kernel
theorem dX10_sightRight_4 : decode cX10_sightRight 4 = .ok (.bipush 50, 2) := by decide +kernel
theorem dX10_sightRight_6 : decode cX10_sightRight 6 = .ok (.iload_n 1, 1) := by decide +kernel
theorem dX10_sightRight_7 : decode cX10_sightRight 7 = .ok (.iadd, 1) := by decide +kernel
theorem dX10_sightRight_8 : decode cX10_sightRight 8 = .ok (.invokevirtual 272, 3) := by decide +kernel
theorem dX10_sightRight_11 : decode cX10_sightRight 11 = .ok (.iadd, 1) := by decide +kernel
theorem dX10_sightRight_12 : decode cX10_sightRight 12 = .ok (.invokevirtual 272, 3) := by decide +kernel
theorem dX10_sightRight_15 : decode cX10_sightRight 15 = .ok (.ireturn, 1) := by decide +kernel
abbrev rmX10_sightRight : Room := { frames := 1, cells := 0, slots := 0, locals := 21 }
def fX10_sightRight (a0 : Nat) (l1 : Int32) (z : AH) : Option (Int32) :=
  if isO 9 z a0 = true then
    (fX10_of a0 ((50 : Int32) + l1) z).bind fun x8 =>
    (fX10_of a0 ((42 : Int32) + x8) z).bind fun x12 =>
    some x12
  else none
set_option maxHeartbeats 4000000 in
set_option maxRecDepth 100000 in
theorem ctX10_sightRight (l : Launch) (G : GW) (a0 : Nat) (l1 : Int32) (z : AH) {r : Int32} (h : fX10_sightRight a0 l1 z = some r) : Met l yX10_sightRight (wy yX10_sightRight cX10_sightRight 2 (some .int)) rmX10_sightRight (Pz G [.ref (gB G + a0), .int l1] z) (Qi G r z) 0 0 (AA G) := by
  refine wz_ent (own := RX10) (by decide +kernel) rfl (fun p e s m below meth c ls C hlk hr hin hW hl => ?_) (Nat.le_of_ble_eq_true rfl)
  have hl : lv_has ls 2 [(0, .ref (gB G + a0)), (1, .int l1)] := hl
  have hx := C.1
  have hb := C.2.1
  unfold fX10_sightRight at h
  obtain ⟨-, h⟩ := ck h
  refine lv_aload_n hx hb dX10_sightRight_0 rfl (lv_at hl 0 rfl) ?_
  refine lv_bipush (v := 42) hx hb dX10_sightRight_1 (by decide) ?_
  refine lv_aload_n hx hb dX10_sightRight_3 rfl (lv_at hl 0 rfl) ?_
  refine lv_bipush (v := 50) hx hb dX10_sightRight_4 (by decide) ?_
  refine lv_iload_n hx hb dX10_sightRight_6 rfl (lv_at hl 1 rfl) ?_
  refine lv_iadd hx hb dX10_sightRight_7 ?_
  obtain ⟨x8, hq, h⟩ := ob h
  refine wz_rI (c' := 0) (s' := 0) hW (wz_runV (rest := [.int (42 : Int32), .ref (gB G + a0)]) C hW lVX10_272 (ck hq).1 rfl (ctX10_of l G a0 ((50 : Int32) + l1) z hq) ⟨⟨rfl, rfl⟩, Nat.le_of_ble_eq_true rfl, Nat.le_of_ble_eq_true rfl⟩ rfl hl.1 rfl (Nat.le_of_ble_eq_true rfl) dX10_sightRight_8 ⟨Nat.le_of_ble_eq_true rfl, Nat.le_of_ble_eq_true rfl⟩) rfl rfl (fun H locs hW => ?_)
  refine lv_iadd hx hb dX10_sightRight_11 ?_
  obtain ⟨x12, hq, h⟩ := ob h
  refine wz_rI (c' := 0) (s' := 0) hW (wz_runV (rest := []) C hW lVX10_272 (ck hq).1 rfl (ctX10_of l G a0 ((42 : Int32) + x8) z hq) ⟨⟨rfl, rfl⟩, Nat.le_of_ble_eq_true rfl, Nat.le_of_ble_eq_true rfl⟩ rfl hl.1 rfl (Nat.le_of_ble_eq_true rfl) dX10_sightRight_12 ⟨Nat.le_of_ble_eq_true rfl, Nat.le_of_ble_eq_true rfl⟩) rfl rfl (fun H locs hW => ?_)
  exact wz_iretE C hlk hr (Option.some.inj h) rfl hW dX10_sightRight_15
theorem dX10_sees_0 : decode cX10_sees 0 = .ok (.aload_n 0, 1) := by decide +kernel
theorem dX10_sees_1 : decode cX10_sees 1 = .ok (.getfield 44, 3) := by decide +kernel
theorem dX10_sees_4 : decode cX10_sees 4 = .ok (.iload_n 2, 1) := by decide +kernel
theorem dX10_sees_5 : decode cX10_sees 5 = .ok (.bipush 99, 2) := by decide +kernel
theorem dX10_sees_7 : decode cX10_sees 7 = .ok (.aload_n 0, 1) := by decide +kernel
theorem dX10_sees_8 : decode cX10_sees 8 = .ok (.getfield 44, 3) := by decide +kernel
theorem dX10_sees_11 : decode cX10_sees 11 = .ok (.iload_n 2, 1) := by decide +kernel
theorem dX10_sees_12 : decode cX10_sees 12 = .ok (.iaload, 1) := by decide +kernel
theorem dX10_sees_13 : decode cX10_sees 13 = .ok (.aload_n 0, 1) := by decide +kernel
theorem dX10_sees_14 : decode cX10_sees 14 = .ok (.iload_n 1, 1) := by decide +kernel
theorem dX10_sees_15 : decode cX10_sees 15 = .ok (.invokevirtual 318, 3) := by decide +kernel
theorem dX10_sees_18 : decode cX10_sees 18 = .ok (.iadd, 1) := by decide +kernel
theorem dX10_sees_19 : decode cX10_sees 19 = .ok (.aload_n 0, 1) := by decide +kernel
theorem dX10_sees_20 : decode cX10_sees 20 = .ok (.iload_n 1, 1) := by decide +kernel
theorem dX10_sees_21 : decode cX10_sees 21 = .ok (.invokevirtual 321, 3) := by decide +kernel
theorem dX10_sees_24 : decode cX10_sees 24 = .ok (.iadd, 1) := by decide +kernel
theorem dX10_sees_25 : decode cX10_sees 25 = .ok (.invokestatic 324, 3) := by decide +kernel
theorem dX10_sees_28 : decode cX10_sees 28 = .ok (.iastore, 1) := by decide +kernel
theorem dX10_sees_29 : decode cX10_sees 29 = .ok (.aload_n 0, 1) := by decide +kernel
theorem dX10_sees_30 : decode cX10_sees 30 = .ok (.iload_n 1, 1) := by decide +kernel
theorem dX10_sees_31 : decode cX10_sees 31 = .ok (.invokevirtual 318, 3) := by decide +kernel
theorem dX10_sees_34 : decode cX10_sees 34 = .ok (.aload_n 0, 1) := by decide +kernel
theorem dX10_sees_35 : decode cX10_sees 35 = .ok (.iload_n 1, 1) := by decide +kernel
theorem dX10_sees_36 : decode cX10_sees 36 = .ok (.invokevirtual 321, 3) := by decide +kernel
theorem dX10_sees_39 : decode cX10_sees 39 = .ok (.invokestatic 327, 3) := by decide +kernel
theorem dX10_sees_42 : decode cX10_sees 42 = .ok (.aload_n 0, 1) := by decide +kernel
theorem dX10_sees_43 : decode cX10_sees 43 = .ok (.iconst 5, 1) := by decide +kernel
theorem dX10_sees_44 : decode cX10_sees 44 = .ok (.invokevirtual 272, 3) := by decide +kernel
theorem dX10_sees_47 : decode cX10_sees 47 = .ok (.if_icmp .le 34, 3) := by decide +kernel
theorem dX10_sees_50 : decode cX10_sees 50 = .ok (.aload_n 0, 1) := by decide +kernel
theorem dX10_sees_51 : decode cX10_sees 51 = .ok (.getfield 47, 3) := by decide +kernel
theorem dX10_sees_54 : decode cX10_sees 54 = .ok (.iload_n 2, 1) := by decide +kernel
theorem dX10_sees_55 : decode cX10_sees 55 = .ok (.bipush 9, 2) := by decide +kernel
theorem dX10_sees_57 : decode cX10_sees 57 = .ok (.aload_n 0, 1) := by decide +kernel
theorem dX10_sees_58 : decode cX10_sees 58 = .ok (.getfield 47, 3) := by decide +kernel
theorem dX10_sees_61 : decode cX10_sees 61 = .ok (.iload_n 2, 1) := by decide +kernel
theorem dX10_sees_62 : decode cX10_sees 62 = .ok (.iaload, 1) := by decide +kernel
theorem dX10_sees_63 : decode cX10_sees 63 = .ok (.iconst 1, 1) := by decide +kernel
theorem dX10_sees_64 : decode cX10_sees 64 = .ok (.iadd, 1) := by decide +kernel
theorem dX10_sees_65 : decode cX10_sees 65 = .ok (.invokestatic 324, 3) := by decide +kernel
theorem dX10_sees_68 : decode cX10_sees 68 = .ok (.iastore, 1) := by decide +kernel
theorem dX10_sees_69 : decode cX10_sees 69 = .ok (.aload_n 0, 1) := by decide +kernel
theorem dX10_sees_70 : decode cX10_sees 70 = .ok (.dup, 1) := by decide +kernel
theorem dX10_sees_71 : decode cX10_sees 71 = .ok (.getfield 303, 3) := by decide +kernel
theorem dX10_sees_74 : decode cX10_sees 74 = .ok (.iconst 1, 1) := by decide +kernel
theorem dX10_sees_75 : decode cX10_sees 75 = .ok (.iload_n 2, 1) := by decide +kernel
theorem dX10_sees_76 : decode cX10_sees 76 = .ok (.ishl, 1) := by decide +kernel
theorem dX10_sees_77 : decode cX10_sees 77 = .ok (.ior, 1) := by decide +kernel
theorem dX10_sees_78 : decode cX10_sees 78 = .ok (.putfield 303, 3) := by decide +kernel
theorem dX10_sees_81 : decode cX10_sees 81 = .ok (.aload_n 0, 1) := by decide +kernel
theorem dX10_sees_82 : decode cX10_sees 82 = .ok (.dup, 1) := by decide +kernel
theorem dX10_sees_83 : decode cX10_sees 83 = .ok (.getfield 300, 3) := by decide +kernel
theorem dX10_sees_86 : decode cX10_sees 86 = .ok (.iconst 1, 1) := by decide +kernel
theorem dX10_sees_87 : decode cX10_sees 87 = .ok (.iload_n 2, 1) := by decide +kernel
theorem dX10_sees_88 : decode cX10_sees 88 = .ok (.ishl, 1) := by decide +kernel
theorem dX10_sees_89 : decode cX10_sees 89 = .ok (.ior, 1) := by decide +kernel
theorem dX10_sees_90 : decode cX10_sees 90 = .ok (.putfield 300, 3) := by decide +kernel
theorem dX10_sees_93 : decode cX10_sees 93 = .ok (.aload_n 0, 1) := by decide +kernel
theorem dX10_sees_94 : decode cX10_sees 94 = .ok (.dup, 1) := by decide +kernel
theorem dX10_sees_95 : decode cX10_sees 95 = .ok (.getfield 297, 3) := by decide +kernel
theorem dX10_sees_98 : decode cX10_sees 98 = .ok (.iconst 1, 1) := by decide +kernel
theorem dX10_sees_99 : decode cX10_sees 99 = .ok (.iload_n 1, 1) := by decide +kernel
theorem dX10_sees_100 : decode cX10_sees 100 = .ok (.ishl, 1) := by decide +kernel
theorem dX10_sees_101 : decode cX10_sees 101 = .ok (.ior, 1) := by decide +kernel
theorem dX10_sees_102 : decode cX10_sees 102 = .ok (.putfield 297, 3) := by decide +kernel
theorem dX10_sees_105 : decode cX10_sees 105 = .ok (.return_, 1) := by decide +kernel
theorem cdX10_sightLeft : Cond.code yX10_sightLeft cX10_sightLeft 2 (some .int) ∈ tz := tc7 47 rfl rfl
theorem lVX10_318 : LV RX10 318 yX10_sightLeft cX10_sightLeft 2 (some .int) 1 := ⟨tw 1603 (by decide +kernel) rfl, tw 1605 (by decide +kernel) rfl, tw 80 (by decide +kernel) rfl, tw 128 (by decide +kernel) rfl, cdX10_sightLeft, ⟨by decide +kernel, by decide +kernel, by decide +kernel⟩⟩
theorem cdX10_sightRight : Cond.code yX10_sightRight cX10_sightRight 2 (some .int) ∈ tz := tc7 51 rfl rfl
theorem lVX10_321 : LV RX10 321 yX10_sightRight cX10_sightRight 2 (some .int) 1 := ⟨tw 1607 (by decide +kernel) rfl, tw 1609 (by decide +kernel) rfl, tw 81 (by decide +kernel) rfl, tw 128 (by decide +kernel) rfl, cdX10_sightRight, ⟨by decide +kernel, by decide +kernel, by decide +kernel⟩⟩
theorem cdX10_lesser : Cond.code yX10_lesser cX10_lesser 2 (some .int) ∈ tz := tc7 54 rfl rfl
theorem lTX10_324 : LT RX10 324 yX10_lesser cX10_lesser 2 (some .int) 2 := ⟨tw 1611 (by decide +kernel) rfl, tw 1612 (by decide +kernel) rfl, tw 128 (by decide +kernel) rfl, cdX10_lesser, ⟨by decide +kernel, by decide +kernel, by decide +kernel⟩⟩
theorem cdX10_apart : Cond.code yX10_apart cX10_apart 2 (some .int) ∈ tz := tc7 57 rfl rfl
theorem lTX10_327 : LT RX10 327 yX10_apart cX10_apart 2 (some .int) 2 := ⟨tw 1614 (by decide +kernel) rfl, tw 1615 (by decide +kernel) rfl, tw 128 (by decide +kernel) rfl, cdX10_apart, ⟨by decide +kernel, by decide +kernel, by decide +kernel⟩⟩
abbrev rmX10_sees : Room := { frames := 2, cells := 0, slots := 0, locals := 42 }
def bX10_sees_81 (a0 : Nat) (l1 : Int32) (l2 : Int32) (z : AH) : Option AH :=
  (gI 9 35 z a0).bind fun x83 =>
  (pF 9 35 z a0 (.int (x83 ||| (shl (1 : Int32) l2)))).bind fun z90 =>
  (gI 9 34 z90 a0).bind fun x95 =>
  (pF 9 34 z90 a0 (.int (x95 ||| (shl (1 : Int32) l1)))).bind fun z102 =>
  some z102
set_option maxHeartbeats 4000000 in
set_option maxRecDepth 100000 in
theorem kbX10_sees_81 {p : Program} {l : Launch} {e : Env} {s : State} {m : MethodId} {args : Array Value} {below : List Frame} {meth : Method} {c : Code} {G : GW} {z' : AH} (C : Cx p m c cX10_sees 3 s args RX10 G) (hlk : meth.locks = false) (hr : meth.sig.returnType = none) (a0 : Nat) (l1 : Int32) (l2 : Int32) {z : AH} {H : Heap} {locs : List Loc} {ls : Array Slot} (h : bX10_sees_81 a0 l1 l2 z = some z') (hW : Wb G z s H locs) (hl : lv_has ls 3 [(0, .ref (gB G + a0)), (1, .int l1), (2, .int l2)]) : W p l e rmX10_sees s m args below meth c H locs 0 0 (MQ below (Qv G z') args s 0 0 (AA G)) (F0 m 81 ls []) := by
  have hx := C.1
  have hb := C.2.1
  unfold bX10_sees_81 at h
  refine lv_aload_n hx hb dX10_sees_81 rfl (lv_at hl 0 rfl) ?_
  refine lv_dup hx hb dX10_sees_82 rfl ?_
  obtain ⟨x83, hg, h⟩ := ob h
  refine wz_gI C hW flX10_300 hg dX10_sees_83 ?_
  refine lv_iconst (v := 1) hx hb dX10_sees_86 (by decide) ?_
  refine lv_iload_n hx hb dX10_sees_87 rfl (lv_at hl 2 rfl) ?_
  refine wz_shl hx hb dX10_sees_88 ?_
  refine lv_ior hx hb dX10_sees_89 ?_
  obtain ⟨z90, hg, h⟩ := ob h
  refine wz_put (v := (.int (x83 ||| (shl (1 : Int32) l2)))) C hW flX10_300 rfl rfl hg dX10_sees_90 (fun H locs hW => ?_)
  refine lv_aload_n hx hb dX10_sees_93 rfl (lv_at hl 0 rfl) ?_
  refine lv_dup hx hb dX10_sees_94 rfl ?_
  obtain ⟨x95, hg, h⟩ := ob h
  refine wz_gI C hW flX10_297 hg dX10_sees_95 ?_
  refine lv_iconst (v := 1) hx hb dX10_sees_98 (by decide) ?_
  refine lv_iload_n hx hb dX10_sees_99 rfl (lv_at hl 1 rfl) ?_
  refine wz_shl hx hb dX10_sees_100 ?_
  refine lv_ior hx hb dX10_sees_101 ?_
  obtain ⟨z102, hg, h⟩ := ob h
  refine wz_put (v := (.int (x95 ||| (shl (1 : Int32) l1)))) C hW flX10_297 rfl rfl hg dX10_sees_102 (fun H locs hW => ?_)
  exact wz_vretE C hlk hr (Option.some.inj h) hW dX10_sees_105
def fX10_sees (a0 : Nat) (l1 : Int32) (l2 : Int32) (z : AH) : Option AH :=
  if isO 9 z a0 = true then
    (gN 9 28 z a0).bind fun b1 =>
    (gN 9 28 z a0).bind fun b8 =>
    (ixI 0 z b8 l2).bind fun x12 =>
    (fX10_sightLeft a0 l1 z).bind fun x15 =>
    (fX10_sightRight a0 l1 z).bind fun x21 =>
    (stI 0 z b1 l2 (fX10_lesser (99 : Int32) ((x12 + x15) + x21))).bind fun z28 =>
    (fX10_sightLeft a0 l1 z28).bind fun x31 =>
    (fX10_sightRight a0 l1 z28).bind fun x36 =>
    (fX10_of a0 (5 : Int32) z28).bind fun x44 =>
    if (fX10_apart x31 x36) ≤ x44 then (
      bX10_sees_81 a0 l1 l2 z28
    ) else (
      (gN 9 29 z28 a0).bind fun b51 =>
      (gN 9 29 z28 a0).bind fun b58 =>
      (ixI 0 z28 b58 l2).bind fun x62 =>
      (stI 0 z28 b51 l2 (fX10_lesser (9 : Int32) (x62 + (1 : Int32)))).bind fun z68 =>
      (gI 9 36 z68 a0).bind fun x71 =>
      (pF 9 36 z68 a0 (.int (x71 ||| (shl (1 : Int32) l2)))).bind fun z78 =>
      bX10_sees_81 a0 l1 l2 z78
    )
  else none
set_option maxHeartbeats 4000000 in
set_option maxRecDepth 100000 in
theorem ctX10_sees (l : Launch) (G : GW) (a0 : Nat) (l1 : Int32) (l2 : Int32) (z : AH) {z' : AH} (h : fX10_sees a0 l1 l2 z = some z') : Met l yX10_sees (wy yX10_sees cX10_sees 3 none) rmX10_sees (Pz G [.ref (gB G + a0), .int l1, .int l2] z) (Qv G z') 0 0 (AA G) := by
  refine wz_ent (own := RX10) (by decide +kernel) rfl (fun p e s m below meth c ls C hlk hr hin hW hl => ?_) (Nat.le_of_ble_eq_true rfl)
  have hl : lv_has ls 3 [(0, .ref (gB G + a0)), (1, .int l1), (2, .int l2)] := hl
  have hx := C.1
  have hb := C.2.1
  unfold fX10_sees at h
  obtain ⟨-, h⟩ := ck h
  refine lv_aload_n hx hb dX10_sees_0 rfl (lv_at hl 0 rfl) ?_
  obtain ⟨b1, hg, h⟩ := ob h
  refine wz_gN C hW flX10_44 hg dX10_sees_1 ?_
  refine lv_iload_n hx hb dX10_sees_4 rfl (lv_at hl 2 rfl) ?_
  refine lv_bipush (v := 99) hx hb dX10_sees_5 (by decide) ?_
  refine lv_aload_n hx hb dX10_sees_7 rfl (lv_at hl 0 rfl) ?_
  obtain ⟨b8, hg, h⟩ := ob h
  refine wz_gN C hW flX10_44 hg dX10_sees_8 ?_
  refine lv_iload_n hx hb dX10_sees_11 rfl (lv_at hl 2 rfl) ?_
  obtain ⟨x12, hg, h⟩ := ob h
  refine wz_ald C hW hg dX10_sees_12 ?_
  refine lv_aload_n hx hb dX10_sees_13 rfl (lv_at hl 0 rfl) ?_
  refine lv_iload_n hx hb dX10_sees_14 rfl (lv_at hl 1 rfl) ?_
  obtain ⟨x15, hq, h⟩ := ob h
  refine wz_rI (c' := 0) (s' := 0) hW (wz_runV (rest := [.int x12, .int (99 : Int32), .int l2, .ref (gB G + b1)]) C hW lVX10_318 (ck hq).1 rfl (ctX10_sightLeft l G a0 l1 z hq) ⟨⟨rfl, rfl⟩, Nat.le_of_ble_eq_true rfl, Nat.le_of_ble_eq_true rfl⟩ rfl hl.1 rfl (Nat.le_of_ble_eq_true rfl) dX10_sees_15 ⟨Nat.le_of_ble_eq_true rfl, Nat.le_of_ble_eq_true rfl⟩) rfl rfl (fun H locs hW => ?_)
  refine lv_iadd hx hb dX10_sees_18 ?_
  refine lv_aload_n hx hb dX10_sees_19 rfl (lv_at hl 0 rfl) ?_
  refine lv_iload_n hx hb dX10_sees_20 rfl (lv_at hl 1 rfl) ?_
  obtain ⟨x21, hq, h⟩ := ob h
  refine wz_rI (c' := 0) (s' := 0) hW (wz_runV (rest := [.int (x12 + x15), .int (99 : Int32), .int l2, .ref (gB G + b1)]) C hW lVX10_321 (ck hq).1 rfl (ctX10_sightRight l G a0 l1 z hq) ⟨⟨rfl, rfl⟩, Nat.le_of_ble_eq_true rfl, Nat.le_of_ble_eq_true rfl⟩ rfl hl.1 rfl (Nat.le_of_ble_eq_true rfl) dX10_sees_21 ⟨Nat.le_of_ble_eq_true rfl, Nat.le_of_ble_eq_true rfl⟩) rfl rfl (fun H locs hW => ?_)
  refine lv_iadd hx hb dX10_sees_24 ?_
  refine wz_rI (c' := 0) (s' := 0) hW (wz_runS (rest := [.int l2, .ref (gB G + b1)]) C hW lTX10_324 (ctX10_lesser l G (99 : Int32) ((x12 + x15) + x21) z rfl) ⟨⟨rfl, rfl⟩, Nat.le_of_ble_eq_true rfl, Nat.le_of_ble_eq_true rfl⟩ rfl hl.1 rfl (Nat.le_of_ble_eq_true rfl) dX10_sees_25 ⟨Nat.le_of_ble_eq_true rfl, Nat.le_of_ble_eq_true rfl⟩) rfl rfl (fun H locs hW => ?_)
  obtain ⟨z28, hg, h⟩ := ob h
  refine wz_ast C hW hg dX10_sees_28 (fun H locs hW => ?_)
  refine lv_aload_n hx hb dX10_sees_29 rfl (lv_at hl 0 rfl) ?_
  refine lv_iload_n hx hb dX10_sees_30 rfl (lv_at hl 1 rfl) ?_
  obtain ⟨x31, hq, h⟩ := ob h
  refine wz_rI (c' := 0) (s' := 0) hW (wz_runV (rest := []) C hW lVX10_318 (ck hq).1 rfl (ctX10_sightLeft l G a0 l1 z28 hq) ⟨⟨rfl, rfl⟩, Nat.le_of_ble_eq_true rfl, Nat.le_of_ble_eq_true rfl⟩ rfl hl.1 rfl (Nat.le_of_ble_eq_true rfl) dX10_sees_31 ⟨Nat.le_of_ble_eq_true rfl, Nat.le_of_ble_eq_true rfl⟩) rfl rfl (fun H locs hW => ?_)
  refine lv_aload_n hx hb dX10_sees_34 rfl (lv_at hl 0 rfl) ?_
  refine lv_iload_n hx hb dX10_sees_35 rfl (lv_at hl 1 rfl) ?_
  obtain ⟨x36, hq, h⟩ := ob h
  refine wz_rI (c' := 0) (s' := 0) hW (wz_runV (rest := [.int x31]) C hW lVX10_321 (ck hq).1 rfl (ctX10_sightRight l G a0 l1 z28 hq) ⟨⟨rfl, rfl⟩, Nat.le_of_ble_eq_true rfl, Nat.le_of_ble_eq_true rfl⟩ rfl hl.1 rfl (Nat.le_of_ble_eq_true rfl) dX10_sees_36 ⟨Nat.le_of_ble_eq_true rfl, Nat.le_of_ble_eq_true rfl⟩) rfl rfl (fun H locs hW => ?_)
  refine wz_rI (c' := 0) (s' := 0) hW (wz_runS (rest := []) C hW lTX10_327 (ctX10_apart l G x31 x36 z28 rfl) ⟨⟨rfl, rfl⟩, Nat.le_of_ble_eq_true rfl, Nat.le_of_ble_eq_true rfl⟩ rfl hl.1 rfl (Nat.le_of_ble_eq_true rfl) dX10_sees_39 ⟨Nat.le_of_ble_eq_true rfl, Nat.le_of_ble_eq_true rfl⟩) rfl rfl (fun H locs hW => ?_)
  refine lv_aload_n hx hb dX10_sees_42 rfl (lv_at hl 0 rfl) ?_
  refine lv_iconst (v := 5) hx hb dX10_sees_43 (by decide) ?_
  obtain ⟨x44, hq, h⟩ := ob h
  refine wz_rI (c' := 0) (s' := 0) hW (wz_runV (rest := [.int (fX10_apart x31 x36)]) C hW lVX10_272 (ck hq).1 rfl (ctX10_of l G a0 (5 : Int32) z28 hq) ⟨⟨rfl, rfl⟩, Nat.le_of_ble_eq_true rfl, Nat.le_of_ble_eq_true rfl⟩ rfl hl.1 rfl (Nat.le_of_ble_eq_true rfl) dX10_sees_44 ⟨Nat.le_of_ble_eq_true rfl, Nat.le_of_ble_eq_true rfl⟩) rfl rfl (fun H locs hW => ?_)
  refine lv_icmp_le (tgt := 81) hx hb dX10_sees_47 (by decide) (fun c47 => ?_) (fun c47 => ?_)
  · have h := ite_t c47 h
    exact kbX10_sees_81 C hlk hr a0 l1 l2 h hW (lv_sub hl [0, 1, 2] rfl)
  · have h := ite_f c47 h
    refine lv_aload_n hx hb dX10_sees_50 rfl (lv_at hl 0 rfl) ?_
    obtain ⟨b51, hg, h⟩ := ob h
    refine wz_gN C hW flX10_47 hg dX10_sees_51 ?_
    refine lv_iload_n hx hb dX10_sees_54 rfl (lv_at hl 2 rfl) ?_
    refine lv_bipush (v := 9) hx hb dX10_sees_55 (by decide) ?_
    refine lv_aload_n hx hb dX10_sees_57 rfl (lv_at hl 0 rfl) ?_
    obtain ⟨b58, hg, h⟩ := ob h
    refine wz_gN C hW flX10_47 hg dX10_sees_58 ?_
    refine lv_iload_n hx hb dX10_sees_61 rfl (lv_at hl 2 rfl) ?_
    obtain ⟨x62, hg, h⟩ := ob h
    refine wz_ald C hW hg dX10_sees_62 ?_
    refine lv_iconst (v := 1) hx hb dX10_sees_63 (by decide) ?_
    refine lv_iadd hx hb dX10_sees_64 ?_
    refine wz_rI (c' := 0) (s' := 0) hW (wz_runS (rest := [.int l2, .ref (gB G + b51)]) C hW lTX10_324 (ctX10_lesser l G (9 : Int32) (x62 + (1 : Int32)) z28 rfl) ⟨⟨rfl, rfl⟩, Nat.le_of_ble_eq_true rfl, Nat.le_of_ble_eq_true rfl⟩ rfl hl.1 rfl (Nat.le_of_ble_eq_true rfl) dX10_sees_65 ⟨Nat.le_of_ble_eq_true rfl, Nat.le_of_ble_eq_true rfl⟩) rfl rfl (fun H locs hW => ?_)
    obtain ⟨z68, hg, h⟩ := ob h
    refine wz_ast C hW hg dX10_sees_68 (fun H locs hW => ?_)
    refine lv_aload_n hx hb dX10_sees_69 rfl (lv_at hl 0 rfl) ?_
    refine lv_dup hx hb dX10_sees_70 rfl ?_
    obtain ⟨x71, hg, h⟩ := ob h
    refine wz_gI C hW flX10_303 hg dX10_sees_71 ?_
    refine lv_iconst (v := 1) hx hb dX10_sees_74 (by decide) ?_
    refine lv_iload_n hx hb dX10_sees_75 rfl (lv_at hl 2 rfl) ?_
    refine wz_shl hx hb dX10_sees_76 ?_
    refine lv_ior hx hb dX10_sees_77 ?_
    obtain ⟨z78, hg, h⟩ := ob h
    refine wz_put (v := (.int (x71 ||| (shl (1 : Int32) l2)))) C hW flX10_303 rfl rfl hg dX10_sees_78 (fun H locs hW => ?_)
    exact kbX10_sees_81 C hlk hr a0 l1 l2 h hW (lv_sub hl [0, 1, 2] rfl)
theorem dX10_goesOn_0 : decode cX10_goesOn 0 = .ok (.iconst 0, 1) := by decide +kernel
theorem dX10_goesOn_1 : decode cX10_goesOn 1 = .ok (.istore_n 1, 1) := by decide +kernel
theorem dX10_goesOn_2 : decode cX10_goesOn 2 = .ok (.iload_n 1, 1) := by decide +kernel
theorem dX10_goesOn_3 : decode cX10_goesOn 3 = .ok (.aload_n 0, 1) := by decide +kernel
theorem dX10_goesOn_4 : decode cX10_goesOn 4 = .ok (.getfield 276, 3) := by decide +kernel
theorem dX10_goesOn_7 : decode cX10_goesOn 7 = .ok (.if_icmp .ge 59, 3) := by decide +kernel
theorem dX10_goesOn_10 : decode cX10_goesOn 10 = .ok (.aload_n 0, 1) := by decide +kernel
theorem dX10_goesOn_11 : decode cX10_goesOn 11 = .ok (.getfield 44, 3) := by decide +kernel
theorem dX10_goesOn_14 : decode cX10_goesOn 14 = .ok (.iload_n 1, 1) := by decide +kernel
theorem dX10_goesOn_15 : decode cX10_goesOn 15 = .ok (.aload_n 0, 1) := by decide +kernel
theorem dX10_goesOn_16 : decode cX10_goesOn 16 = .ok (.getfield 288, 3) := by decide +kernel
theorem dX10_goesOn_19 : decode cX10_goesOn 19 = .ok (.aload_n 0, 1) := by decide +kernel
theorem dX10_goesOn_20 : decode cX10_goesOn 20 = .ok (.getfield 300, 3) := by decide +kernel
theorem dX10_goesOn_23 : decode cX10_goesOn 23 = .ok (.ior, 1) := by decide +kernel
theorem dX10_goesOn_24 : decode cX10_goesOn 24 = .ok (.iload_n 1, 1) := by decide +kernel
theorem dX10_goesOn_25 : decode cX10_goesOn 25 = .ok (.invokestatic 85, 3) := by decide +kernel
theorem dX10_goesOn_28 : decode cX10_goesOn 28 = .ok (.ifCond .eq 12, 3) := by decide +kernel
theorem dX10_goesOn_31 : decode cX10_goesOn 31 = .ok (.aload_n 0, 1) := by decide +kernel
theorem dX10_goesOn_32 : decode cX10_goesOn 32 = .ok (.getfield 44, 3) := by decide +kernel
theorem dX10_goesOn_35 : decode cX10_goesOn 35 = .ok (.iload_n 1, 1) := by decide +kernel
theorem dX10_goesOn_36 : decode cX10_goesOn 36 = .ok (.iaload, 1) := by decide +kernel
theorem dX10_goesOn_37 : decode cX10_goesOn 37 = .ok (.goto 22, 3) := by decide +kernel
theorem dX10_goesOn_40 : decode cX10_goesOn 40 = .ok (.iconst 0, 1) := by decide +kernel
theorem dX10_goesOn_41 : decode cX10_goesOn 41 = .ok (.aload_n 0, 1) := by decide +kernel
theorem dX10_goesOn_42 : decode cX10_goesOn 42 = .ok (.getfield 44, 3) := by decide +kernel
theorem dX10_goesOn_45 : decode cX10_goesOn 45 = .ok (.iload_n 1, 1) := by decide +kernel
theorem dX10_goesOn_46 : decode cX10_goesOn 46 = .ok (.iaload, 1) := by decide +kernel
theorem dX10_goesOn_47 : decode cX10_goesOn 47 = .ok (.aload_n 0, 1) := by decide +kernel
theorem dX10_goesOn_48 : decode cX10_goesOn 48 = .ok (.bipush 22, 2) := by decide +kernel
theorem dX10_goesOn_50 : decode cX10_goesOn 50 = .ok (.iload_n 1, 1) := by decide +kernel
theorem dX10_goesOn_51 : decode cX10_goesOn 51 = .ok (.iadd, 1) := by decide +kernel
theorem dX10_goesOn_52 : decode cX10_goesOn 52 = .ok (.invokevirtual 272, 3) := by decide +kernel
theorem dX10_goesOn_55 : decode cX10_goesOn 55 = .ok (.isub, 1) := by decide +kernel
theorem dX10_goesOn_56 : decode cX10_goesOn 56 = .ok (.invokestatic 155, 3) := by decide +kernel
theorem dX10_goesOn_59 : decode cX10_goesOn 59 = .ok (.iastore, 1) := by decide +kernel
theorem dX10_goesOn_60 : decode cX10_goesOn 60 = .ok (.iinc 1 1, 3) := by decide +kernel
theorem dX10_goesOn_63 : decode cX10_goesOn 63 = .ok (.goto (-61), 3) := by decide +kernel
theorem dX10_goesOn_66 : decode cX10_goesOn 66 = .ok (.aload_n 0, 1) := by decide +kernel
theorem dX10_goesOn_67 : decode cX10_goesOn 67 = .ok (.iconst 0, 1) := by decide +kernel
theorem dX10_goesOn_68 : decode cX10_goesOn 68 = .ok (.putfield 300, 3) := by decide +kernel
theorem dX10_goesOn_71 : decode cX10_goesOn 71 = .ok (.aload_n 0, 1) := by decide +kernel
theorem dX10_goesOn_72 : decode cX10_goesOn 72 = .ok (.iconst 0, 1) := by decide +kernel
theorem dX10_goesOn_73 : decode cX10_goesOn 73 = .ok (.putfield 297, 3) := by decide +kernel
theorem dX10_goesOn_76 : decode cX10_goesOn 76 = .ok (.aload_n 0, 1) := by decide +kernel
theorem dX10_goesOn_77 : decode cX10_goesOn 77 = .ok (.dup, 1) := by decide +kernel
theorem dX10_goesOn_78 : decode cX10_goesOn 78 = .ok (.getfield 306, 3) := by decide +kernel
theorem dX10_goesOn_81 : decode cX10_goesOn 81 = .ok (.iconst 1, 1) := by decide +kernel
theorem dX10_goesOn_82 : decode cX10_goesOn 82 = .ok (.iadd, 1) := by decide +kernel
theorem dX10_goesOn_83 : decode cX10_goesOn 83 = .ok (.putfield 306, 3) := by decide +kernel
theorem dX10_goesOn_86 : decode cX10_goesOn 86 = .ok (.aload_n 0, 1) := by decide +kernel
theorem dX10_goesOn_87 : decode cX10_goesOn 87 = .ok (.invokevirtual 285, 3) := by decide +kernel
theorem dX10_goesOn_90 : decode cX10_goesOn 90 = .ok (.return_, 1) := by decide +kernel
abbrev rmX10_goesOn : Room := { frames := 3, cells := 0, slots := 0, locals := 66 }
def bX10_goesOn_2 (k2 : Nat → Int32 → AH → Option AH) (a0 : Nat) (l1 : Int32) (z : AH) : Option AH :=
  (gI 9 26 z a0).bind fun x4 =>
  if x4 ≤ l1 then (
    (pF 9 35 z a0 (.int (0 : Int32))).bind fun z68 =>
    (pF 9 34 z68 a0 (.int (0 : Int32))).bind fun z73 =>
    (gI 9 37 z73 a0).bind fun x78 =>
    (pF 9 37 z73 a0 (.int (x78 + (1 : Int32)))).bind fun z83 =>
    (fX10_falls a0 z83).bind fun z87 =>
    some z87
  ) else (
    (gN 9 28 z a0).bind fun b11 =>
    (gI 9 31 z a0).bind fun x16 =>
    (gI 9 35 z a0).bind fun x20 =>
    if (fX10_has (x16 ||| x20) l1) = (0 : Int32) then (
      (gN 9 28 z a0).bind fun b42 =>
      (ixI 0 z b42 l1).bind fun x46 =>
      (fX10_of a0 ((22 : Int32) + l1) z).bind fun x52 =>
      (stI 0 z b11 l1 (fX10_greater (0 : Int32) (x46 - x52))).bind fun z59 =>
      nm (l1 + (1 : Int32)) fun v60 =>
      k2 a0 v60 z59
    ) else (
      (gN 9 28 z a0).bind fun b32 =>
      (ixI 0 z b32 l1).bind fun x36 =>
      (stI 0 z b11 l1 x36).bind fun z59 =>
      nm (l1 + (1 : Int32)) fun v60 =>
      k2 a0 v60 z59
    )
  )
set_option maxHeartbeats 4000000 in
set_option maxRecDepth 100000 in
theorem kbX10_goesOn_2 {p : Program} {l : Launch} {e : Env} {s : State} {m : MethodId} {args : Array Value} {below : List Frame} {meth : Method} {c : Code} {G : GW} {z' : AH} (C : Cx p m c cX10_goesOn 2 s args RX10 G) (hlk : meth.locks = false) (hr : meth.sig.returnType = none) (k2 : Nat → Int32 → AH → Option AH) (hk2 : ∀ (a0 : Nat) (l1 : Int32) (z : AH) (H : Heap) (locs : List Loc) (ls : Array Slot), k2 a0 l1 z = some z' → Wb G z s H locs → lv_has ls 2 [(0, .ref (gB G + a0)), (1, .int l1)] → W p l e rmX10_goesOn s m args below meth c H locs 0 0 (MQ below (Qv G z') args s 0 0 (AA G)) (F0 m 2 ls [])) (a0 : Nat) (l1 : Int32) {z : AH} {H : Heap} {locs : List Loc} {ls : Array Slot} (h : bX10_goesOn_2 k2 a0 l1 z = some z') (hW : Wb G z s H locs) (hl : lv_has ls 2 [(0, .ref (gB G + a0)), (1, .int l1)]) : W p l e rmX10_goesOn s m args below meth c H locs 0 0 (MQ below (Qv G z') args s 0 0 (AA G)) (F0 m 2 ls []) := by
  have hx := C.1
  have hb := C.2.1
  unfold bX10_goesOn_2 at h
  refine lv_iload_n hx hb dX10_goesOn_2 rfl (lv_at hl 1 rfl) ?_
  refine lv_aload_n hx hb dX10_goesOn_3 rfl (lv_at hl 0 rfl) ?_
  obtain ⟨x4, hg, h⟩ := ob h
  refine wz_gI C hW flX10_276 hg dX10_goesOn_4 ?_
  refine lv_icmp_ge (tgt := 66) hx hb dX10_goesOn_7 (by decide) (fun c7 => ?_) (fun c7 => ?_)
  · have h := ite_t c7 h
    refine lv_aload_n hx hb dX10_goesOn_66 rfl (lv_at hl 0 rfl) ?_
    refine lv_iconst (v := 0) hx hb dX10_goesOn_67 (by decide) ?_
    obtain ⟨z68, hg, h⟩ := ob h
    refine wz_put (v := (.int (0 : Int32))) C hW flX10_300 rfl rfl hg dX10_goesOn_68 (fun H locs hW => ?_)
    refine lv_aload_n hx hb dX10_goesOn_71 rfl (lv_at hl 0 rfl) ?_
    refine lv_iconst (v := 0) hx hb dX10_goesOn_72 (by decide) ?_
    obtain ⟨z73, hg, h⟩ := ob h
    refine wz_put (v := (.int (0 : Int32))) C hW flX10_297 rfl rfl hg dX10_goesOn_73 (fun H locs hW => ?_)
    refine lv_aload_n hx hb dX10_goesOn_76 rfl (lv_at hl 0 rfl) ?_
    refine lv_dup hx hb dX10_goesOn_77 rfl ?_
    obtain ⟨x78, hg, h⟩ := ob h
    refine wz_gI C hW flX10_306 hg dX10_goesOn_78 ?_
    refine lv_iconst (v := 1) hx hb dX10_goesOn_81 (by decide) ?_
    refine lv_iadd hx hb dX10_goesOn_82 ?_
    obtain ⟨z83, hg, h⟩ := ob h
    refine wz_put (v := (.int (x78 + (1 : Int32)))) C hW flX10_306 rfl rfl hg dX10_goesOn_83 (fun H locs hW => ?_)
    refine lv_aload_n hx hb dX10_goesOn_86 rfl (lv_at hl 0 rfl) ?_
    obtain ⟨z87, hq, h⟩ := ob h
    refine wz_rV (c' := 0) (s' := 0) hW (wz_runV (rest := []) C hW lVX10_285 (ck hq).1 rfl (ctX10_falls l G a0 z83 hq) ⟨⟨rfl, rfl⟩, Nat.le_of_ble_eq_true rfl, Nat.le_of_ble_eq_true rfl⟩ rfl hl.1 rfl (Nat.le_of_ble_eq_true rfl) dX10_goesOn_87 ⟨Nat.le_of_ble_eq_true rfl, Nat.le_of_ble_eq_true rfl⟩) rfl rfl (fun H locs hW => ?_)
    exact wz_vretE C hlk hr (Option.some.inj h) hW dX10_goesOn_90
  · have h := ite_f c7 h
    refine lv_aload_n hx hb dX10_goesOn_10 rfl (lv_at hl 0 rfl) ?_
    obtain ⟨b11, hg, h⟩ := ob h
    refine wz_gN C hW flX10_44 hg dX10_goesOn_11 ?_
    refine lv_iload_n hx hb dX10_goesOn_14 rfl (lv_at hl 1 rfl) ?_
    refine lv_aload_n hx hb dX10_goesOn_15 rfl (lv_at hl 0 rfl) ?_
    obtain ⟨x16, hg, h⟩ := ob h
    refine wz_gI C hW flX10_288 hg dX10_goesOn_16 ?_
    refine lv_aload_n hx hb dX10_goesOn_19 rfl (lv_at hl 0 rfl) ?_
    obtain ⟨x20, hg, h⟩ := ob h
    refine wz_gI C hW flX10_300 hg dX10_goesOn_20 ?_
    refine lv_ior hx hb dX10_goesOn_23 ?_
    refine lv_iload_n hx hb dX10_goesOn_24 rfl (lv_at hl 1 rfl) ?_
    refine wz_rI (c' := 0) (s' := 0) hW (wz_runS (rest := [.int l1, .ref (gB G + b11)]) C hW lTX10_85 (ctX10_has l G (x16 ||| x20) l1 z rfl) ⟨⟨rfl, rfl⟩, Nat.le_of_ble_eq_true rfl, Nat.le_of_ble_eq_true rfl⟩ rfl hl.1 rfl (Nat.le_of_ble_eq_true rfl) dX10_goesOn_25 ⟨Nat.le_of_ble_eq_true rfl, Nat.le_of_ble_eq_true rfl⟩) rfl rfl (fun H locs hW => ?_)
    refine lv_if_eq (tgt := 40) hx hb dX10_goesOn_28 (by decide) (fun c28 => ?_) (fun c28 => ?_)
    · have h := ite_t c28 h
      refine lv_iconst (v := 0) hx hb dX10_goesOn_40 (by decide) ?_
      refine lv_aload_n hx hb dX10_goesOn_41 rfl (lv_at hl 0 rfl) ?_
      obtain ⟨b42, hg, h⟩ := ob h
      refine wz_gN C hW flX10_44 hg dX10_goesOn_42 ?_
      refine lv_iload_n hx hb dX10_goesOn_45 rfl (lv_at hl 1 rfl) ?_
      obtain ⟨x46, hg, h⟩ := ob h
      refine wz_ald C hW hg dX10_goesOn_46 ?_
      refine lv_aload_n hx hb dX10_goesOn_47 rfl (lv_at hl 0 rfl) ?_
      refine lv_bipush (v := 22) hx hb dX10_goesOn_48 (by decide) ?_
      refine lv_iload_n hx hb dX10_goesOn_50 rfl (lv_at hl 1 rfl) ?_
      refine lv_iadd hx hb dX10_goesOn_51 ?_
      obtain ⟨x52, hq, h⟩ := ob h
      refine wz_rI (c' := 0) (s' := 0) hW (wz_runV (rest := [.int x46, .int (0 : Int32), .int l1, .ref (gB G + b11)]) C hW lVX10_272 (ck hq).1 rfl (ctX10_of l G a0 ((22 : Int32) + l1) z hq) ⟨⟨rfl, rfl⟩, Nat.le_of_ble_eq_true rfl, Nat.le_of_ble_eq_true rfl⟩ rfl hl.1 rfl (Nat.le_of_ble_eq_true rfl) dX10_goesOn_52 ⟨Nat.le_of_ble_eq_true rfl, Nat.le_of_ble_eq_true rfl⟩) rfl rfl (fun H locs hW => ?_)
      refine lv_isub hx hb dX10_goesOn_55 ?_
      refine wz_rI (c' := 0) (s' := 0) hW (wz_runS (rest := [.int l1, .ref (gB G + b11)]) C hW lTX10_155 (ctX10_greater l G (0 : Int32) (x46 - x52) z rfl) ⟨⟨rfl, rfl⟩, Nat.le_of_ble_eq_true rfl, Nat.le_of_ble_eq_true rfl⟩ rfl hl.1 rfl (Nat.le_of_ble_eq_true rfl) dX10_goesOn_56 ⟨Nat.le_of_ble_eq_true rfl, Nat.le_of_ble_eq_true rfl⟩) rfl rfl (fun H locs hW => ?_)
      obtain ⟨z59, hg, h⟩ := ob h
      refine wz_ast C hW hg dX10_goesOn_59 (fun H locs hW => ?_)
      obtain ⟨v60, ev60⟩ : ∃ y : Int32, y = (l1 + (1 : Int32)) := ⟨_, rfl⟩
      have h := nm_to h ev60
      refine lv_iinc (v := v60) (lv' := [(1, .int v60), (0, .ref (gB G + a0))]) hx hb dX10_goesOn_60 hl (k := 1) rfl (by rw [ev60]; rfl) (by decide) rfl (fun ls hl => ?_)
      refine lv_goto (tgt := 2) hx hb dX10_goesOn_63 (by decide) ?_
      exact hk2 a0 v60 z59 _ _ _ h hW (lv_sub hl [1, 0] rfl)
    · have h := ite_f c28 h
      refine lv_aload_n hx hb dX10_goesOn_31 rfl (lv_at hl 0 rfl) ?_
      obtain ⟨b32, hg, h⟩ := ob h
      refine wz_gN C hW flX10_44 hg dX10_goesOn_32 ?_
      refine lv_iload_n hx hb dX10_goesOn_35 rfl (lv_at hl 1 rfl) ?_
      obtain ⟨x36, hg, h⟩ := ob h
      refine wz_ald C hW hg dX10_goesOn_36 ?_
      refine lv_goto (tgt := 59) hx hb dX10_goesOn_37 (by decide) ?_
      obtain ⟨z59, hg, h⟩ := ob h
      refine wz_ast C hW hg dX10_goesOn_59 (fun H locs hW => ?_)
      obtain ⟨v60, ev60⟩ : ∃ y : Int32, y = (l1 + (1 : Int32)) := ⟨_, rfl⟩
      have h := nm_to h ev60
      refine lv_iinc (v := v60) (lv' := [(1, .int v60), (0, .ref (gB G + a0))]) hx hb dX10_goesOn_60 hl (k := 1) rfl (by rw [ev60]; rfl) (by decide) rfl (fun ls hl => ?_)
      refine lv_goto (tgt := 2) hx hb dX10_goesOn_63 (by decide) ?_
      exact hk2 a0 v60 z59 _ _ _ h hW (lv_sub hl [1, 0] rfl)
def fX10_goesOn_2 : Nat → Nat → Int32 → AH → Option AH
  | 0, _, _, _ => none
  | n + 1, a0, l1, z => bX10_goesOn_2 (fX10_goesOn_2 n) a0 l1 z
theorem klX10_goesOn_2 {p : Program} {l : Launch} {e : Env} {s : State} {m : MethodId} {args : Array Value} {below : List Frame} {meth : Method} {c : Code} {G : GW} {z' : AH} (C : Cx p m c cX10_goesOn 2 s args RX10 G) (hlk : meth.locks = false) (hr : meth.sig.returnType = none) : ∀ (n : Nat) (a0 : Nat) (l1 : Int32) (z : AH) (H : Heap) (locs : List Loc) (ls : Array Slot), fX10_goesOn_2 n a0 l1 z = some z' → Wb G z s H locs → lv_has ls 2 [(0, .ref (gB G + a0)), (1, .int l1)] → W p l e rmX10_goesOn s m args below meth c H locs 0 0 (MQ below (Qv G z') args s 0 0 (AA G)) (F0 m 2 ls []) := by
  intro n
  induction n with
  | zero => intro a0 l1 z H locs ls h; have h : (none : Option AH) = some z' := h; cases h
  | succ n ih => intro a0 l1 z H locs ls h hW hl; exact kbX10_goesOn_2 C hlk hr (fX10_goesOn_2 n) (fun a0 l1 z H locs ls h hW hl => ih a0 l1 z H locs ls h hW hl) a0 l1 h hW hl
def fX10_goesOn (a0 : Nat) (z : AH) : Option AH :=
  if isO 9 z a0 = true then
    fX10_goesOn_2 FU a0 (0 : Int32) z
  else none
set_option maxHeartbeats 4000000 in
set_option maxRecDepth 100000 in
theorem ctX10_goesOn (l : Launch) (G : GW) (a0 : Nat) (z : AH) {z' : AH} (h : fX10_goesOn a0 z = some z') : Met l yX10_goesOn (wy yX10_goesOn cX10_goesOn 2 none) rmX10_goesOn (Pz G [.ref (gB G + a0)] z) (Qv G z') 0 0 (AA G) := by
  refine wz_ent (own := RX10) (by decide +kernel) rfl (fun p e s m below meth c ls C hlk hr hin hW hl => ?_) (Nat.le_of_ble_eq_true rfl)
  have hl : lv_has ls 2 [(0, .ref (gB G + a0))] := hl
  have hx := C.1
  have hb := C.2.1
  unfold fX10_goesOn at h
  obtain ⟨-, h⟩ := ck h
  refine lv_iconst (v := 0) hx hb dX10_goesOn_0 (by decide) ?_
  refine lv_istore_n (lv' := [(1, .int (0 : Int32)), (0, .ref (gB G + a0))]) hx hb dX10_goesOn_1 rfl hl (by decide) rfl (fun ls hl => ?_)
  exact klX10_goesOn_2 C hlk hr FU a0 (0 : Int32) z _ _ _ h hW (lv_sub hl [1, 0] rfl)
theorem dX10_country_0 : decode cX10_country 0 = .ok (.aload_n 0, 1) := by decide +kernel
theorem dX10_country_1 : decode cX10_country 1 = .ok (.iconst 0, 1) := by decide +kernel
theorem dX10_country_2 : decode cX10_country 2 = .ok (.putfield 81, 3) := by decide +kernel
theorem dX10_country_5 : decode cX10_country 5 = .ok (.aload_n 0, 1) := by decide +kernel
theorem dX10_country_6 : decode cX10_country 6 = .ok (.iload_n 1, 1) := by decide +kernel
theorem dX10_country_7 : decode cX10_country 7 = .ok (.invokevirtual 330, 3) := by decide +kernel
theorem dX10_country_10 : decode cX10_country 10 = .ok (.ifCond .ne 6, 3) := by decide +kernel
theorem dX10_country_13 : decode cX10_country 13 = .ok (.bipush (-2), 2) := by decide +kernel
theorem dX10_country_15 : decode cX10_country 15 = .ok (.ireturn, 1) := by decide +kernel
theorem dX10_country_16 : decode cX10_country 16 = .ok (.iload_n 2, 1) := by decide +kernel
theorem dX10_country_17 : decode cX10_country 17 = .ok (.bipush 10, 2) := by decide +kernel
theorem dX10_country_19 : decode cX10_country 19 = .ok (.irem, 1) := by decide +kernel
theorem dX10_country_20 : decode cX10_country 20 = .ok (.istore_n 3, 1) := by decide +kernel
theorem dX10_country_21 : decode cX10_country 21 = .ok (.iload_n 2, 1) := by decide +kernel
theorem dX10_country_22 : decode cX10_country 22 = .ok (.bipush 100, 2) := by decide +kernel
theorem dX10_country_24 : decode cX10_country 24 = .ok (.if_icmp .lt 159, 3) := by decide +kernel
theorem dX10_country_27 : decode cX10_country 27 = .ok (.iload_n 2, 1) := by decide +kernel
theorem dX10_country_28 : decode cX10_country 28 = .ok (.bipush 20, 2) := by decide +kernel
theorem dX10_country_30 : decode cX10_country 30 = .ok (.irem, 1) := by decide +kernel
theorem dX10_country_31 : decode cX10_country 31 = .ok (.istore 4, 2) := by decide +kernel
theorem dX10_country_33 : decode cX10_country 33 = .ok (.iload_n 2, 1) := by decide +kernel
theorem dX10_country_34 : decode cX10_country 34 = .ok (.sipush 140, 3) := by decide +kernel
theorem dX10_country_37 : decode cX10_country 37 = .ok (.if_icmp .ge 39, 3) := by decide +kernel
theorem dX10_country_40 : decode cX10_country 40 = .ok (.iload 4, 2) := by decide +kernel
theorem dX10_country_42 : decode cX10_country 42 = .ok (.aload_n 0, 1) := by decide +kernel
theorem dX10_country_43 : decode cX10_country 43 = .ok (.iconst 1, 1) := by decide +kernel
theorem dX10_country_44 : decode cX10_country 44 = .ok (.invokevirtual 272, 3) := by decide +kernel
theorem dX10_country_47 : decode cX10_country 47 = .ok (.if_icmp .ge 26, 3) := by decide +kernel
theorem dX10_country_50 : decode cX10_country 50 = .ok (.aload_n 0, 1) := by decide +kernel
theorem dX10_country_51 : decode cX10_country 51 = .ok (.iload_n 2, 1) := by decide +kernel
theorem dX10_country_52 : decode cX10_country 52 = .ok (.bipush 120, 2) := by decide +kernel
theorem dX10_country_54 : decode cX10_country 54 = .ok (.if_icmp .ge 8, 3) := by decide +kernel
theorem dX10_country_57 : decode cX10_country 57 = .ok (.bipush 54, 2) := by decide +kernel
theorem dX10_country_59 : decode cX10_country 59 = .ok (.goto 5, 3) := by decide +kernel
theorem dX10_country_62 : decode cX10_country 62 = .ok (.bipush 66, 2) := by decide +kernel
theorem dX10_country_64 : decode cX10_country 64 = .ok (.iload 4, 2) := by decide +kernel
theorem dX10_country_66 : decode cX10_country 66 = .ok (.iadd, 1) := by decide +kernel
theorem dX10_country_67 : decode cX10_country 67 = .ok (.invokevirtual 272, 3) := by decide +kernel
theorem dX10_country_70 : decode cX10_country 70 = .ok (.goto 5, 3) := by decide +kernel
theorem dX10_country_73 : decode cX10_country 73 = .ok (.bipush (-2), 2) := by decide +kernel
theorem dX10_country_75 : decode cX10_country 75 = .ok (.ireturn, 1) := by decide +kernel
theorem dX10_country_76 : decode cX10_country 76 = .ok (.iload_n 2, 1) := by decide +kernel
theorem dX10_country_77 : decode cX10_country 77 = .ok (.sipush 160, 3) := by decide +kernel
theorem dX10_country_80 : decode cX10_country 80 = .ok (.if_icmp .ge 7, 3) := by decide +kernel
theorem dX10_country_83 : decode cX10_country 83 = .ok (.iconst 1, 1) := by decide +kernel
theorem dX10_country_84 : decode cX10_country 84 = .ok (.goto 4, 3) := by decide +kernel
theorem dX10_country_87 : decode cX10_country 87 = .ok (.iconst 0, 1) := by decide +kernel
theorem dX10_country_88 : decode cX10_country 88 = .ok (.istore 5, 2) := by decide +kernel
theorem dX10_country_90 : decode cX10_country 90 = .ok (.iload_n 2, 1) := by decide +kernel
theorem dX10_country_91 : decode cX10_country 91 = .ok (.sipush 180, 3) := by decide +kernel
theorem dX10_country_94 : decode cX10_country 94 = .ok (.if_icmp .ge 56, 3) := by decide +kernel
theorem dX10_country_97 : decode cX10_country 97 = .ok (.iload 4, 2) := by decide +kernel
theorem dX10_country_99 : decode cX10_country 99 = .ok (.bipush 16, 2) := by decide +kernel
theorem dX10_country_101 : decode cX10_country 101 = .ok (.if_icmp .ge 49, 3) := by decide +kernel
theorem dX10_country_104 : decode cX10_country 104 = .ok (.iload 4, 2) := by decide +kernel
theorem dX10_country_106 : decode cX10_country 106 = .ok (.iconst 4, 1) := by decide +kernel
theorem dX10_country_107 : decode cX10_country 107 = .ok (.idiv, 1) := by decide +kernel
theorem dX10_country_108 : decode cX10_country 108 = .ok (.aload_n 0, 1) := by decide +kernel
theorem dX10_country_109 : decode cX10_country 109 = .ok (.iload 5, 2) := by decide +kernel
theorem dX10_country_111 : decode cX10_country 111 = .ok (.ifCond .eq 7, 3) := by decide +kernel
theorem dX10_country_114 : decode cX10_country 114 = .ok (.iconst 2, 1) := by decide +kernel
theorem dX10_country_115 : decode cX10_country 115 = .ok (.goto 4, 3) := by decide +kernel
theorem dX10_country_118 : decode cX10_country 118 = .ok (.iconst 3, 1) := by decide +kernel
theorem dX10_country_119 : decode cX10_country 119 = .ok (.invokevirtual 272, 3) := by decide +kernel
theorem dX10_country_122 : decode cX10_country 122 = .ok (.if_icmp .ge 28, 3) := by decide +kernel
theorem dX10_country_125 : decode cX10_country 125 = .ok (.iload 4, 2) := by decide +kernel
theorem dX10_country_127 : decode cX10_country 127 = .ok (.iconst 4, 1) := by decide +kernel
theorem dX10_country_128 : decode cX10_country 128 = .ok (.irem, 1) := by decide +kernel
theorem dX10_country_129 : decode cX10_country 129 = .ok (.aload_n 0, 1) := by decide +kernel
theorem dX10_country_130 : decode cX10_country 130 = .ok (.iload 5, 2) := by decide +kernel
theorem dX10_country_132 : decode cX10_country 132 = .ok (.ifCond .eq 7, 3) := by decide +kernel
theorem dX10_country_135 : decode cX10_country 135 = .ok (.iconst 3, 1) := by decide +kernel
theorem dX10_country_136 : decode cX10_country 136 = .ok (.goto 4, 3) := by decide +kernel
theorem dX10_country_139 : decode cX10_country 139 = .ok (.iconst 2, 1) := by decide +kernel
theorem dX10_country_140 : decode cX10_country 140 = .ok (.invokevirtual 272, 3) := by decide +kernel
theorem dX10_country_143 : decode cX10_country 143 = .ok (.if_icmp .ge 7, 3) := by decide +kernel
theorem dX10_country_146 : decode cX10_country 146 = .ok (.iconst 1, 1) := by decide +kernel
theorem dX10_country_147 : decode cX10_country 147 = .ok (.goto 4, 3) := by decide +kernel
theorem dX10_country_150 : decode cX10_country 150 = .ok (.iconst 0, 1) := by decide +kernel
theorem dX10_country_151 : decode cX10_country 151 = .ok (.istore 6, 2) := by decide +kernel
theorem dX10_country_153 : decode cX10_country 153 = .ok (.iload 6, 2) := by decide +kernel
theorem dX10_country_155 : decode cX10_country 155 = .ok (.ifCond .eq 25, 3) := by decide +kernel
theorem dX10_country_158 : decode cX10_country 158 = .ok (.aload_n 0, 1) := by decide +kernel
theorem dX10_country_159 : decode cX10_country 159 = .ok (.iload 5, 2) := by decide +kernel
theorem dX10_country_161 : decode cX10_country 161 = .ok (.ifCond .eq 8, 3) := by decide +kernel
theorem dX10_country_164 : decode cX10_country 164 = .ok (.bipush 78, 2) := by decide +kernel
theorem dX10_country_166 : decode cX10_country 166 = .ok (.goto 5, 3) := by decide +kernel
theorem dX10_country_169 : decode cX10_country 169 = .ok (.bipush 94, 2) := by decide +kernel
theorem dX10_country_171 : decode cX10_country 171 = .ok (.iload 4, 2) := by decide +kernel
theorem dX10_country_173 : decode cX10_country 173 = .ok (.iadd, 1) := by decide +kernel
theorem dX10_country_174 : decode cX10_country 174 = .ok (.invokevirtual 272, 3) := by decide +kernel
theorem dX10_country_177 : decode cX10_country 177 = .ok (.goto 5, 3) := by decide +kernel
theorem dX10_country_180 : decode cX10_country 180 = .ok (.bipush (-2), 2) := by decide +kernel
theorem dX10_country_182 : decode cX10_country 182 = .ok (.ireturn, 1) := by decide +kernel
theorem dX10_country_183 : decode cX10_country 183 = .ok (.iload_n 2, 1) := by decide +kernel
theorem dX10_country_184 : decode cX10_country 184 = .ok (.bipush 10, 2) := by decide +kernel
theorem dX10_country_186 : decode cX10_country 186 = .ok (.idiv, 1) := by decide +kernel
theorem dX10_country_187 : decode cX10_country 187 = .ok (.tableswitch 178 0 8 #[49, 69, 69, 69, 69, 101, 101, 145, 145], 49) := by decide +kernel
theorem dX10_country_236 : decode cX10_country 236 = .ok (.iload_n 2, 1) := by decide +kernel
theorem dX10_country_237 : decode cX10_country 237 = .ok (.iconst 0, 1) := by decide +kernel
theorem dX10_country_238 : decode cX10_country 238 = .ok (.iconst 5, 1) := by decide +kernel
