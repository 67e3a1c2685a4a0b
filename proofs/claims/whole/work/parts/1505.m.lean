theorem dX10_factLine_50 : decode cX10_factLine 50 = .ok (.aload_n 0, 1) := by decide +kernel
theorem dX10_factLine_51 : decode cX10_factLine 51 = .ok (.iconst 0, 1) := by decide +kernel
theorem dX10_factLine_52 : decode cX10_factLine 52 = .ok (.bipush 16, 2) := by decide +kernel
theorem dX10_factLine_54 : decode cX10_factLine 54 = .ok (.iload_n 3, 1) := by decide +kernel
theorem dX10_factLine_55 : decode cX10_factLine 55 = .ok (.invokevirtual 178, 3) := by decide +kernel
theorem dX10_factLine_58 : decode cX10_factLine 58 = .ok (.aload_n 0, 1) := by decide +kernel
theorem dX10_factLine_59 : decode cX10_factLine 59 = .ok (.invokevirtual 145, 3) := by decide +kernel
theorem dX10_factLine_62 : decode cX10_factLine 62 = .ok (.aload_n 0, 1) := by decide +kernel
theorem dX10_factLine_63 : decode cX10_factLine 63 = .ok (.getfield 41, 3) := by decide +kernel
theorem dX10_factLine_66 : decode cX10_factLine 66 = .ok (.iconst 2, 1) := by decide +kernel
theorem dX10_factLine_67 : decode cX10_factLine 67 = .ok (.iconst (-1), 1) := by decide +kernel
theorem dX10_factLine_68 : decode cX10_factLine 68 = .ok (.iastore, 1) := by decide +kernel
theorem dX10_factLine_69 : decode cX10_factLine 69 = .ok (.iload 4, 2) := by decide +kernel
theorem dX10_factLine_71 : decode cX10_factLine 71 = .ok (.ifCond .ne 13, 3) := by decide +kernel
theorem dX10_factLine_74 : decode cX10_factLine 74 = .ok (.aload_n 0, 1) := by decide +kernel
theorem dX10_factLine_75 : decode cX10_factLine 75 = .ok (.iconst 2, 1) := by decide +kernel
theorem dX10_factLine_76 : decode cX10_factLine 76 = .ok (.iconst 0, 1) := by decide +kernel
theorem dX10_factLine_77 : decode cX10_factLine 77 = .ok (.iconst 3, 1) := by decide +kernel
theorem dX10_factLine_78 : decode cX10_factLine 78 = .ok (.invokevirtual 159, 3) := by decide +kernel
theorem dX10_factLine_81 : decode cX10_factLine 81 = .ok (.ifCond .eq 12, 3) := by decide +kernel
theorem dX10_factLine_84 : decode cX10_factLine 84 = .ok (.aload_n 0, 1) := by decide +kernel
theorem dX10_factLine_85 : decode cX10_factLine 85 = .ok (.iconst 1, 1) := by decide +kernel
theorem dX10_factLine_86 : decode cX10_factLine 86 = .ok (.iconst (-1), 1) := by decide +kernel
theorem dX10_factLine_87 : decode cX10_factLine 87 = .ok (.invokevirtual 185, 3) := by decide +kernel
theorem dX10_factLine_90 : decode cX10_factLine 90 = .ok (.ifCond .ne 5, 3) := by decide +kernel
theorem dX10_factLine_93 : decode cX10_factLine 93 = .ok (.iconst 0, 1) := by decide +kernel
theorem dX10_factLine_94 : decode cX10_factLine 94 = .ok (.ireturn, 1) := by decide +kernel
theorem dX10_factLine_95 : decode cX10_factLine 95 = .ok (.aload_n 0, 1) := by decide +kernel
theorem dX10_factLine_96 : decode cX10_factLine 96 = .ok (.getfield 41, 3) := by decide +kernel
theorem dX10_factLine_99 : decode cX10_factLine 99 = .ok (.iconst 0, 1) := by decide +kernel
theorem dX10_factLine_100 : decode cX10_factLine 100 = .ok (.iload 4, 2) := by decide +kernel
theorem dX10_factLine_102 : decode cX10_factLine 102 = .ok (.iastore, 1) := by decide +kernel
theorem dX10_factLine_103 : decode cX10_factLine 103 = .ok (.aload_n 0, 1) := by decide +kernel
theorem dX10_factLine_104 : decode cX10_factLine 104 = .ok (.iconst 3, 1) := by decide +kernel
theorem dX10_factLine_105 : decode cX10_factLine 105 = .ok (.bipush 16, 2) := by decide +kernel
theorem dX10_factLine_107 : decode cX10_factLine 107 = .ok (.invokevirtual 216, 3) := by decide +kernel
theorem dX10_factLine_110 : decode cX10_factLine 110 = .ok (.iconst 1, 1) := by decide +kernel
theorem dX10_factLine_111 : decode cX10_factLine 111 = .ok (.ireturn, 1) := by decide +kernel
abbrev rmX10_factLine : Room := { frames := 4, cells := 0, slots := 0, locals := 91 }
def bX10_factLine_84 (a0 : Nat) (l4 : Int32) (z : AH) : Option (Int32 × AH) :=
  b2 (fX10_takeThing a0 (1 : Int32) (-1 : Int32) z) fun x87 z87 =>
  if x87 = (0 : Int32) then (
    some ((0 : Int32), z87)
  ) else (
    (gN 9 20 z87 a0).bind fun b96 =>
    (stI 0 z87 b96 (0 : Int32) l4).bind fun z102 =>
    (fX10_keepRow a0 (3 : Int32) (16 : Int32) z102).bind fun z107 =>
    some ((1 : Int32), z107)
  )
set_option maxHeartbeats 4000000 in
set_option maxRecDepth 100000 in
theorem kbX10_factLine_84 {p : Program} {l : Launch} {e : Env} {s : State} {m : MethodId} {args : Array Value} {below : List Frame} {meth : Method} {c : Code} {G : GW} {r : Int32} {z' : AH} (C : Cx p m c cX10_factLine 5 s args RX10 G) (hlk : meth.locks = false) (hr : meth.sig.returnType = (some .boolean)) (a0 : Nat) (l4 : Int32) {z : AH} {H : Heap} {locs : List Loc} {ls : Array Slot} (h : bX10_factLine_84 a0 l4 z = some (r, z')) (hW : Wb G z s H locs) (hl : lv_has ls 5 [(0, .ref (gB G + a0)), (4, .int l4)]) : W p l e rmX10_factLine s m args below meth c H locs 0 0 (MQ below (Qi G r z') args s 0 0 (AA G)) (F0 m 84 ls []) := by
  have hx := C.1
  have hb := C.2.1
  unfold bX10_factLine_84 at h
  refine lv_aload_n hx hb dX10_factLine_84 rfl (lv_at hl 0 rfl) ?_
  refine lv_iconst (v := 1) hx hb dX10_factLine_85 (by decide) ?_
  refine lv_iconst (v := -1) hx hb dX10_factLine_86 (by decide) ?_
  obtain ⟨x87, z87, hq, h⟩ := ob2 h
  refine wz_rI (c' := 0) (s' := 0) hW (wz_runV (rest := []) C hW lVX10_185 (ck hq).1 rfl (ctX10_takeThing l G a0 (1 : Int32) (-1 : Int32) z hq) ⟨⟨rfl, rfl⟩, Nat.le_of_ble_eq_true rfl, Nat.le_of_ble_eq_true rfl⟩ rfl hl.1 rfl (Nat.le_of_ble_eq_true rfl) dX10_factLine_87 ⟨Nat.le_of_ble_eq_true rfl, Nat.le_of_ble_eq_true rfl⟩) rfl rfl (fun H locs hW => ?_)
  refine lv_if_ne (tgt := 95) hx hb dX10_factLine_90 (by decide) (fun c90 => ?_) (fun c90 => ?_)
  · have h := ite_f c90 h
    refine lv_aload_n hx hb dX10_factLine_95 rfl (lv_at hl 0 rfl) ?_
    obtain ⟨b96, hg, h⟩ := ob h
    refine wz_gN C hW flX10_41 hg dX10_factLine_96 ?_
    refine lv_iconst (v := 0) hx hb dX10_factLine_99 (by decide) ?_
    refine lv_iload hx hb dX10_factLine_100 (lv_at hl 1 rfl) ?_
    obtain ⟨z102, hg, h⟩ := ob h
    refine wz_ast C hW hg dX10_factLine_102 (fun H locs hW => ?_)
    refine lv_aload_n hx hb dX10_factLine_103 rfl (lv_at hl 0 rfl) ?_
    refine lv_iconst (v := 3) hx hb dX10_factLine_104 (by decide) ?_
    refine lv_bipush (v := 16) hx hb dX10_factLine_105 (by decide) ?_
    obtain ⟨z107, hq, h⟩ := ob h
    refine wz_rV (c' := 0) (s' := 0) hW (wz_runV (rest := []) C hW lVX10_216 (ck hq).1 rfl (ctX10_keepRow l G a0 (3 : Int32) (16 : Int32) z102 hq) ⟨⟨rfl, rfl⟩, Nat.le_of_ble_eq_true rfl, Nat.le_of_ble_eq_true rfl⟩ rfl hl.1 rfl (Nat.le_of_ble_eq_true rfl) dX10_factLine_107 ⟨Nat.le_of_ble_eq_true rfl, Nat.le_of_ble_eq_true rfl⟩) rfl rfl (fun H locs hW => ?_)
    refine lv_iconst (v := 1) hx hb dX10_factLine_110 (by decide) ?_
    exact wz_zretE C hlk hr (Or.inr rfl) (so2 h).1 (so2 h).2 hW dX10_factLine_111
  · have h := ite_t c90 h
    refine lv_iconst (v := 0) hx hb dX10_factLine_93 (by decide) ?_
    exact wz_zretE C hlk hr (Or.inl rfl) (so2 h).1 (so2 h).2 hW dX10_factLine_94
def bX10_factLine_37 (a0 : Nat) (l3 : Int32) (s0 : Int32) (z : AH) : Option (Int32 × AH) :=
  if s0 = (-1 : Int32) then (
    b2 (fX10_fails a0 z) fun x46 z46 =>
    if x46 = 0 ∨ x46 = 1 then some (x46, z46) else none
  ) else (
    (fX10_full a0 (0 : Int32) (16 : Int32) l3 z).bind fun z55 =>
    (fX10_token a0 z55).bind fun z59 =>
    (gN 9 20 z59 a0).bind fun b63 =>
    (stI 0 z59 b63 (2 : Int32) (-1 : Int32)).bind fun z68 =>
    if s0 = (0 : Int32) then (
      b2 (fX10_take a0 (2 : Int32) (0 : Int32) (3 : Int32) z68) fun x78 z78 =>
      if x78 = (0 : Int32) then (
        some ((0 : Int32), z78)
      ) else (
        bX10_factLine_84 a0 s0 z78
      )
    ) else (
      bX10_factLine_84 a0 s0 z68
    )
  )
set_option maxHeartbeats 4000000 in
set_option maxRecDepth 100000 in
theorem kbX10_factLine_37 {p : Program} {l : Launch} {e : Env} {s : State} {m : MethodId} {args : Array Value} {below : List Frame} {meth : Method} {c : Code} {G : GW} {r : Int32} {z' : AH} (C : Cx p m c cX10_factLine 5 s args RX10 G) (hlk : meth.locks = false) (hr : meth.sig.returnType = (some .boolean)) (a0 : Nat) (l3 : Int32) (s0 : Int32) {z : AH} {H : Heap} {locs : List Loc} {ls : Array Slot} (h : bX10_factLine_37 a0 l3 s0 z = some (r, z')) (hW : Wb G z s H locs) (hl : lv_has ls 5 [(0, .ref (gB G + a0)), (3, .int l3)]) : W p l e rmX10_factLine s m args below meth c H locs 0 0 (MQ below (Qi G r z') args s 0 0 (AA G)) (F0 m 37 ls [.int s0]) := by
  have hx := C.1
  have hb := C.2.1
  unfold bX10_factLine_37 at h
  refine lv_istore (lv' := [(4, .int s0), (0, .ref (gB G + a0)), (3, .int l3)]) hx hb dX10_factLine_37 hl (by decide) rfl (fun ls hl => ?_)
  refine lv_iload hx hb dX10_factLine_39 (lv_at hl 0 rfl) ?_
  refine lv_iconst (v := -1) hx hb dX10_factLine_41 (by decide) ?_
  refine lv_icmp_ne (tgt := 50) hx hb dX10_factLine_42 (by decide) (fun c42 => ?_) (fun c42 => ?_)
  · have h := ite_f c42 h
    refine lv_aload_n hx hb dX10_factLine_50 rfl (lv_at hl 1 rfl) ?_
    refine lv_iconst (v := 0) hx hb dX10_factLine_51 (by decide) ?_
    refine lv_bipush (v := 16) hx hb dX10_factLine_52 (by decide) ?_
    refine lv_iload_n hx hb dX10_factLine_54 rfl (lv_at hl 2 rfl) ?_
    obtain ⟨z55, hq, h⟩ := ob h
    refine wz_rV (c' := 0) (s' := 0) hW (wz_runV (rest := []) C hW lVX10_178 (ck hq).1 rfl (ctX10_full l G a0 (0 : Int32) (16 : Int32) l3 z hq) ⟨⟨rfl, rfl⟩, Nat.le_of_ble_eq_true rfl, Nat.le_of_ble_eq_true rfl⟩ rfl hl.1 rfl (Nat.le_of_ble_eq_true rfl) dX10_factLine_55 ⟨Nat.le_of_ble_eq_true rfl, Nat.le_of_ble_eq_true rfl⟩) rfl rfl (fun H locs hW => ?_)
    refine lv_aload_n hx hb dX10_factLine_58 rfl (lv_at hl 1 rfl) ?_
    obtain ⟨z59, hq, h⟩ := ob h
    refine wz_rV (c' := 0) (s' := 0) hW (wz_runV (rest := []) C hW lVX10_145 (ck hq).1 rfl (ctX10_token l G a0 z55 hq) ⟨⟨rfl, rfl⟩, Nat.le_of_ble_eq_true rfl, Nat.le_of_ble_eq_true rfl⟩ rfl hl.1 rfl (Nat.le_of_ble_eq_true rfl) dX10_factLine_59 ⟨Nat.le_of_ble_eq_true rfl, Nat.le_of_ble_eq_true rfl⟩) rfl rfl (fun H locs hW => ?_)
    refine lv_aload_n hx hb dX10_factLine_62 rfl (lv_at hl 1 rfl) ?_
    obtain ⟨b63, hg, h⟩ := ob h
    refine wz_gN C hW flX10_41 hg dX10_factLine_63 ?_
    refine lv_iconst (v := 2) hx hb dX10_factLine_66 (by decide) ?_
    refine lv_iconst (v := -1) hx hb dX10_factLine_67 (by decide) ?_
    obtain ⟨z68, hg, h⟩ := ob h
    refine wz_ast C hW hg dX10_factLine_68 (fun H locs hW => ?_)
    refine lv_iload hx hb dX10_factLine_69 (lv_at hl 0 rfl) ?_
    refine lv_if_ne (tgt := 84) hx hb dX10_factLine_71 (by decide) (fun c71 => ?_) (fun c71 => ?_)
    · have h := ite_f c71 h
      exact kbX10_factLine_84 C hlk hr a0 s0 h hW (lv_sub hl [1, 0] rfl)
    · have h := ite_t c71 h
      refine lv_aload_n hx hb dX10_factLine_74 rfl (lv_at hl 1 rfl) ?_
      refine lv_iconst (v := 2) hx hb dX10_factLine_75 (by decide) ?_
      refine lv_iconst (v := 0) hx hb dX10_factLine_76 (by decide) ?_
      refine lv_iconst (v := 3) hx hb dX10_factLine_77 (by decide) ?_
      obtain ⟨x78, z78, hq, h⟩ := ob2 h
      refine wz_rI (c' := 0) (s' := 0) hW (wz_runV (rest := []) C hW lVX10_159 (ck hq).1 rfl (ctX10_take l G a0 (2 : Int32) (0 : Int32) (3 : Int32) z68 hq) ⟨⟨rfl, rfl⟩, Nat.le_of_ble_eq_true rfl, Nat.le_of_ble_eq_true rfl⟩ rfl hl.1 rfl (Nat.le_of_ble_eq_true rfl) dX10_factLine_78 ⟨Nat.le_of_ble_eq_true rfl, Nat.le_of_ble_eq_true rfl⟩) rfl rfl (fun H locs hW => ?_)
      refine lv_if_eq (tgt := 93) hx hb dX10_factLine_81 (by decide) (fun c81 => ?_) (fun c81 => ?_)
      · have h := ite_t c81 h
        refine lv_iconst (v := 0) hx hb dX10_factLine_93 (by decide) ?_
        exact wz_zretE C hlk hr (Or.inl rfl) (so2 h).1 (so2 h).2 hW dX10_factLine_94
      · have h := ite_f c81 h
        exact kbX10_factLine_84 C hlk hr a0 s0 h hW (lv_sub hl [1, 0] rfl)
  · have h := ite_t c42 h
    refine lv_aload_n hx hb dX10_factLine_45 rfl (lv_at hl 1 rfl) ?_
    obtain ⟨x46, z46, hq, h⟩ := ob2 h
    refine wz_rI (c' := 0) (s' := 0) hW (wz_runV (rest := []) C hW lVX10_133 (ck hq).1 rfl (ctX10_fails l G a0 z hq) ⟨⟨rfl, rfl⟩, Nat.le_of_ble_eq_true rfl, Nat.le_of_ble_eq_true rfl⟩ rfl hl.1 rfl (Nat.le_of_ble_eq_true rfl) dX10_factLine_46 ⟨Nat.le_of_ble_eq_true rfl, Nat.le_of_ble_eq_true rfl⟩) rfl rfl (fun H locs hW => ?_)
    obtain ⟨h01, h⟩ := ck h
    exact wz_zretE C hlk hr h01 (so2 h).1 (so2 h).2 hW dX10_factLine_49
def fX10_factLine (a0 : Nat) (j1 : Int64) (l3 : Int32) (z : AH) : Option (Int32 × AH) :=
  if isO 9 z a0 = true then
    if j1 = (119225866478948 : Int64) then (
      bX10_factLine_37 a0 l3 (0 : Int32) z
    ) else (
      if j1 = (8316012630647337587 : Int64) then (
        bX10_factLine_37 a0 l3 (1 : Int32) z
      ) else (
        if j1 = (495874305132 : Int64) then (
          bX10_factLine_37 a0 l3 (2 : Int32) z
        ) else (
          bX10_factLine_37 a0 l3 (-1 : Int32) z
        )
      )
    )
  else none
set_option maxHeartbeats 4000000 in
set_option maxRecDepth 100000 in
theorem ctX10_factLine (l : Launch) (G : GW) (a0 : Nat) (j1 : Int64) (l3 : Int32) (z : AH) {r : Int32} {z' : AH} (h : fX10_factLine a0 j1 l3 z = some (r, z')) : Met l yX10_factLine (wy yX10_factLine cX10_factLine 5 (some .boolean)) rmX10_factLine (Pz G [.ref (gB G + a0), .long j1, .int l3] z) (Qi G r z') 0 0 (AA G) := by
  refine wz_ent (own := RX10) (by decide +kernel) rfl (fun p e s m below meth c ls C hlk hr hin hW hl => ?_) (Nat.le_of_ble_eq_true rfl)
  have hl : lv_has ls 5 [(0, .ref (gB G + a0)), (1, .long j1), (3, .int l3)] := hl
  have hx := C.1
  have hb := C.2.1
  unfold fX10_factLine at h
  obtain ⟨-, h⟩ := ck h
  refine lv_lload_n hx hb dX10_factLine_0 rfl (lv_at hl 1 rfl) ?_
  refine lv_ldc2 (v := 119225866478948) hx hb C.2.2.2.1 (C.2.2.2.2.1 _ (tw 1489 (by decide +kernel) rfl)) dX10_factLine_1 ?_
  refine wz_lcne (tgt := 12) hx hb dX10_factLine_4 dX10_factLine_5 (by decide) (fun c4 => ?_) (fun c4 => ?_)
  · have h := ite_f c4 h
    refine lv_lload_n hx hb dX10_factLine_12 rfl (lv_at hl 1 rfl) ?_
    refine lv_ldc2 (v := 8316012630647337587) hx hb C.2.2.2.1 (C.2.2.2.2.1 _ (tw 1490 (by decide +kernel) rfl)) dX10_factLine_13 ?_
    refine wz_lcne (tgt := 24) hx hb dX10_factLine_16 dX10_factLine_17 (by decide) (fun c16 => ?_) (fun c16 => ?_)
    · have h := ite_f c16 h
      refine lv_lload_n hx hb dX10_factLine_24 rfl (lv_at hl 1 rfl) ?_
      refine lv_ldc2 (v := 495874305132) hx hb C.2.2.2.1 (C.2.2.2.2.1 _ (tw 1491 (by decide +kernel) rfl)) dX10_factLine_25 ?_
      refine wz_lcne (tgt := 36) hx hb dX10_factLine_28 dX10_factLine_29 (by decide) (fun c28 => ?_) (fun c28 => ?_)
      · have h := ite_f c28 h
        refine lv_iconst (v := -1) hx hb dX10_factLine_36 (by decide) ?_
        exact kbX10_factLine_37 C hlk hr a0 l3 (-1 : Int32) h hW (lv_sub hl [0, 2] rfl)
      · have h := ite_t c28 h
        refine lv_iconst (v := 2) hx hb dX10_factLine_32 (by decide) ?_
        refine lv_goto (tgt := 37) hx hb dX10_factLine_33 (by decide) ?_
        exact kbX10_factLine_37 C hlk hr a0 l3 (2 : Int32) h hW (lv_sub hl [0, 2] rfl)
    · have h := ite_t c16 h
      refine lv_iconst (v := 1) hx hb dX10_factLine_20 (by decide) ?_
      refine lv_goto (tgt := 37) hx hb dX10_factLine_21 (by decide) ?_
      exact kbX10_factLine_37 C hlk hr a0 l3 (1 : Int32) h hW (lv_sub hl [0, 2] rfl)
  · have h := ite_t c4 h
    refine lv_iconst (v := 0) hx hb dX10_factLine_8 (by decide) ?_
    refine lv_goto (tgt := 37) hx hb dX10_factLine_9 (by decide) ?_
    exact kbX10_factLine_37 C hlk hr a0 l3 (0 : Int32) h hW (lv_sub hl [0, 2] rfl)
theorem dX10_lineOf_0 : decode cX10_lineOf 0 = .ok (.iload_n 1, 1) := by decide +kernel
theorem dX10_lineOf_1 : decode cX10_lineOf 1 = .ok (.tableswitch 51 0 2 #[27, 35, 43], 27) := by decide +kernel
theorem dX10_lineOf_28 : decode cX10_lineOf 28 = .ok (.aload_n 0, 1) := by decide +kernel
theorem dX10_lineOf_29 : decode cX10_lineOf 29 = .ok (.lload_n 2, 1) := by decide +kernel
theorem dX10_lineOf_30 : decode cX10_lineOf 30 = .ok (.iload 4, 2) := by decide +kernel
theorem dX10_lineOf_32 : decode cX10_lineOf 32 = .ok (.invokevirtual 227, 3) := by decide +kernel
theorem dX10_lineOf_35 : decode cX10_lineOf 35 = .ok (.ireturn, 1) := by decide +kernel
theorem dX10_lineOf_36 : decode cX10_lineOf 36 = .ok (.aload_n 0, 1) := by decide +kernel
theorem dX10_lineOf_37 : decode cX10_lineOf 37 = .ok (.lload_n 2, 1) := by decide +kernel
theorem dX10_lineOf_38 : decode cX10_lineOf 38 = .ok (.iload 4, 2) := by decide +kernel
theorem dX10_lineOf_40 : decode cX10_lineOf 40 = .ok (.invokevirtual 231, 3) := by decide +kernel
theorem dX10_lineOf_43 : decode cX10_lineOf 43 = .ok (.ireturn, 1) := by decide +kernel
theorem dX10_lineOf_44 : decode cX10_lineOf 44 = .ok (.aload_n 0, 1) := by decide +kernel
theorem dX10_lineOf_45 : decode cX10_lineOf 45 = .ok (.lload_n 2, 1) := by decide +kernel
theorem dX10_lineOf_46 : decode cX10_lineOf 46 = .ok (.iload 4, 2) := by decide +kernel
theorem dX10_lineOf_48 : decode cX10_lineOf 48 = .ok (.invokevirtual 234, 3) := by decide +kernel
theorem dX10_lineOf_51 : decode cX10_lineOf 51 = .ok (.ireturn, 1) := by decide +kernel
theorem dX10_lineOf_52 : decode cX10_lineOf 52 = .ok (.aload_n 0, 1) := by decide +kernel
theorem dX10_lineOf_53 : decode cX10_lineOf 53 = .ok (.lload_n 2, 1) := by decide +kernel
theorem dX10_lineOf_54 : decode cX10_lineOf 54 = .ok (.iload 4, 2) := by decide +kernel
theorem dX10_lineOf_56 : decode cX10_lineOf 56 = .ok (.invokevirtual 237, 3) := by decide +kernel
theorem dX10_lineOf_59 : decode cX10_lineOf 59 = .ok (.ireturn, 1) := by decide +kernel
theorem cdX10_countryLine : Cond.code yX10_countryLine cX10_countryLine 5 (some .boolean) ∈ tz := tc6 95 rfl rfl
theorem lVX10_227 : LV RX10 227 yX10_countryLine cX10_countryLine 5 (some .boolean) 2 := ⟨tw 1411 (by decide +kernel) rfl, tw 1413 (by decide +kernel) rfl, tw 42 (by decide +kernel) rfl, tw 128 (by decide +kernel) rfl, cdX10_countryLine, ⟨by decide +kernel, by decide +kernel, by decide +kernel⟩⟩
theorem cdX10_yearLine : Cond.code yX10_yearLine cX10_yearLine 6 (some .boolean) ∈ tz := tc6 151 rfl rfl
theorem lVX10_231 : LV RX10 231 yX10_yearLine cX10_yearLine 6 (some .boolean) 2 := ⟨tw 1467 (by decide +kernel) rfl, tw 1469 (by decide +kernel) rfl, tw 53 (by decide +kernel) rfl, tw 128 (by decide +kernel) rfl, cdX10_yearLine, ⟨by decide +kernel, by decide +kernel, by decide +kernel⟩⟩
theorem cdX10_sightLine : Cond.code yX10_sightLine cX10_sightLine 5 (some .boolean) ∈ tz := tc6 164 rfl rfl
theorem lVX10_234 : LV RX10 234 yX10_sightLine cX10_sightLine 5 (some .boolean) 2 := ⟨tw 1480 (by decide +kernel) rfl, tw 1482 (by decide +kernel) rfl, tw 55 (by decide +kernel) rfl, tw 128 (by decide +kernel) rfl, cdX10_sightLine, ⟨by decide +kernel, by decide +kernel, by decide +kernel⟩⟩
theorem cdX10_factLine : Cond.code yX10_factLine cX10_factLine 5 (some .boolean) ∈ tz := tc6 169 rfl rfl
theorem lVX10_237 : LV RX10 237 yX10_factLine cX10_factLine 5 (some .boolean) 2 := ⟨tw 1485 (by decide +kernel) rfl, tw 1487 (by decide +kernel) rfl, tw 56 (by decide +kernel) rfl, tw 128 (by decide +kernel) rfl, cdX10_factLine, ⟨by decide +kernel, by decide +kernel, by decide +kernel⟩⟩
abbrev rmX10_lineOf : Room := { frames := 6, cells := 0, slots := 0, locals := 136 }
def fX10_lineOf (a0 : Nat) (l1 : Int32) (j2 : Int64) (l4 : Int32) (z : AH) : Option (Int32 × AH) :=
  if isO 9 z a0 = true then
    if l1 = (0 : Int32) then (
      b2 (fX10_countryLine a0 j2 l4 z) fun x32 z32 =>
      if x32 = 0 ∨ x32 = 1 then some (x32, z32) else none
    ) else
    if l1 = (1 : Int32) then (
      b2 (fX10_yearLine a0 j2 l4 z) fun x40 z40 =>
      if x40 = 0 ∨ x40 = 1 then some (x40, z40) else none
    ) else
    if l1 = (2 : Int32) then (
      b2 (fX10_sightLine a0 j2 l4 z) fun x48 z48 =>
      if x48 = 0 ∨ x48 = 1 then some (x48, z48) else none
    ) else
    b2 (fX10_factLine a0 j2 l4 z) fun x56 z56 =>
    if x56 = 0 ∨ x56 = 1 then some (x56, z56) else none
  else none
set_option maxHeartbeats 4000000 in
set_option maxRecDepth 100000 in
theorem ctX10_lineOf (l : Launch) (G : GW) (a0 : Nat) (l1 : Int32) (j2 : Int64) (l4 : Int32) (z : AH) {r : Int32} {z' : AH} (h : fX10_lineOf a0 l1 j2 l4 z = some (r, z')) : Met l yX10_lineOf (wy yX10_lineOf cX10_lineOf 5 (some .boolean)) rmX10_lineOf (Pz G [.ref (gB G + a0), .int l1, .long j2, .int l4] z) (Qi G r z') 0 0 (AA G) := by
  refine wz_ent (own := RX10) (by decide +kernel) rfl (fun p e s m below meth c ls C hlk hr hin hW hl => ?_) (Nat.le_of_ble_eq_true rfl)
  have hl : lv_has ls 5 [(0, .ref (gB G + a0)), (1, .int l1), (2, .long j2), (4, .int l4)] := hl
  have hx := C.1
  have hb := C.2.1
  unfold fX10_lineOf at h
  obtain ⟨-, h⟩ := ck h
  refine lv_iload_n hx hb dX10_lineOf_0 rfl (lv_at hl 1 rfl) ?_
  by_cases c1_0 : l1 = (0 : Int32)
  · have h := ite_t c1_0 h
    refine wz_sw (0 : Int32) (tgt := 28) hx hb dX10_lineOf_1 c1_0 (by decide) rfl (by decide) ?_
    refine lv_aload_n hx hb dX10_lineOf_28 rfl (lv_at hl 0 rfl) ?_
    refine lv_lload_n hx hb dX10_lineOf_29 rfl (lv_at hl 2 rfl) ?_
    refine lv_iload hx hb dX10_lineOf_30 (lv_at hl 3 rfl) ?_
    obtain ⟨x32, z32, hq, h⟩ := ob2 h
    refine wz_rI (c' := 0) (s' := 0) hW (wz_runV (rest := []) C hW lVX10_227 (ck hq).1 rfl (ctX10_countryLine l G a0 j2 l4 z hq) ⟨⟨rfl, rfl⟩, Nat.le_of_ble_eq_true rfl, Nat.le_of_ble_eq_true rfl⟩ rfl hl.1 rfl (Nat.le_of_ble_eq_true rfl) dX10_lineOf_32 ⟨Nat.le_of_ble_eq_true rfl, Nat.le_of_ble_eq_true rfl⟩) rfl rfl (fun H locs hW => ?_)
    obtain ⟨h01, h⟩ := ck h
    exact wz_zretE C hlk hr h01 (so2 h).1 (so2 h).2 hW dX10_lineOf_35
  have h := ite_f c1_0 h
  by_cases c1_1 : l1 = (1 : Int32)
  · have h := ite_t c1_1 h
    refine wz_sw (1 : Int32) (tgt := 36) hx hb dX10_lineOf_1 c1_1 (by decide) rfl (by decide) ?_
    refine lv_aload_n hx hb dX10_lineOf_36 rfl (lv_at hl 0 rfl) ?_
    refine lv_lload_n hx hb dX10_lineOf_37 rfl (lv_at hl 2 rfl) ?_
    refine lv_iload hx hb dX10_lineOf_38 (lv_at hl 3 rfl) ?_
    obtain ⟨x40, z40, hq, h⟩ := ob2 h
    refine wz_rI (c' := 0) (s' := 0) hW (wz_runV (rest := []) C hW lVX10_231 (ck hq).1 rfl (ctX10_yearLine l G a0 j2 l4 z hq) ⟨⟨rfl, rfl⟩, Nat.le_of_ble_eq_true rfl, Nat.le_of_ble_eq_true rfl⟩ rfl hl.1 rfl (Nat.le_of_ble_eq_true rfl) dX10_lineOf_40 ⟨Nat.le_of_ble_eq_true rfl, Nat.le_of_ble_eq_true rfl⟩) rfl rfl (fun H locs hW => ?_)
    obtain ⟨h01, h⟩ := ck h
    exact wz_zretE C hlk hr h01 (so2 h).1 (so2 h).2 hW dX10_lineOf_43
  have h := ite_f c1_1 h
  by_cases c1_2 : l1 = (2 : Int32)
  · have h := ite_t c1_2 h
    refine wz_sw (2 : Int32) (tgt := 44) hx hb dX10_lineOf_1 c1_2 (by decide) rfl (by decide) ?_
    refine lv_aload_n hx hb dX10_lineOf_44 rfl (lv_at hl 0 rfl) ?_
    refine lv_lload_n hx hb dX10_lineOf_45 rfl (lv_at hl 2 rfl) ?_
    refine lv_iload hx hb dX10_lineOf_46 (lv_at hl 3 rfl) ?_
    obtain ⟨x48, z48, hq, h⟩ := ob2 h
    refine wz_rI (c' := 0) (s' := 0) hW (wz_runV (rest := []) C hW lVX10_234 (ck hq).1 rfl (ctX10_sightLine l G a0 j2 l4 z hq) ⟨⟨rfl, rfl⟩, Nat.le_of_ble_eq_true rfl, Nat.le_of_ble_eq_true rfl⟩ rfl hl.1 rfl (Nat.le_of_ble_eq_true rfl) dX10_lineOf_48 ⟨Nat.le_of_ble_eq_true rfl, Nat.le_of_ble_eq_true rfl⟩) rfl rfl (fun H locs hW => ?_)
    obtain ⟨h01, h⟩ := ck h
    exact wz_zretE C hlk hr h01 (so2 h).1 (so2 h).2 hW dX10_lineOf_51
  have h := ite_f c1_2 h
  refine lv_tableOut (tgt := 52) hx hb dX10_lineOf_1 (by have g0 := i32_ne c1_0 (z := 0) (by decide); have g1 := i32_ne c1_1 (z := 1) (by decide); have g2 := i32_ne c1_2 (z := 2) (by decide); omega) (by decide) ?_
  refine lv_aload_n hx hb dX10_lineOf_52 rfl (lv_at hl 0 rfl) ?_
  refine lv_lload_n hx hb dX10_lineOf_53 rfl (lv_at hl 2 rfl) ?_
  refine lv_iload hx hb dX10_lineOf_54 (lv_at hl 3 rfl) ?_
  obtain ⟨x56, z56, hq, h⟩ := ob2 h
  refine wz_rI (c' := 0) (s' := 0) hW (wz_runV (rest := []) C hW lVX10_237 (ck hq).1 rfl (ctX10_factLine l G a0 j2 l4 z hq) ⟨⟨rfl, rfl⟩, Nat.le_of_ble_eq_true rfl, Nat.le_of_ble_eq_true rfl⟩ rfl hl.1 rfl (Nat.le_of_ble_eq_true rfl) dX10_lineOf_56 ⟨Nat.le_of_ble_eq_true rfl, Nat.le_of_ble_eq_true rfl⟩) rfl rfl (fun H locs hW => ?_)
  obtain ⟨h01, h⟩ := ck h
  exact wz_zretE C hlk hr h01 (so2 h).1 (so2 h).2 hW dX10_lineOf_59
theorem dX10_lines_0 : decode cX10_lines 0 = .ok (.iconst 1, 1) := by decide +kernel
theorem dX10_lines_1 : decode cX10_lines 1 = .ok (.istore_n 2, 1) := by decide +kernel
theorem dX10_lines_2 : decode cX10_lines 2 = .ok (.iload_n 2, 1) := by decide +kernel
theorem dX10_lines_3 : decode cX10_lines 3 = .ok (.ifCond .eq 71, 3) := by decide +kernel
theorem dX10_lines_6 : decode cX10_lines 6 = .ok (.aload_n 0, 1) := by decide +kernel
theorem dX10_lines_7 : decode cX10_lines 7 = .ok (.getfield 118, 3) := by decide +kernel
theorem dX10_lines_10 : decode cX10_lines 10 = .ok (.ifCond .eq 64, 3) := by decide +kernel
theorem dX10_lines_13 : decode cX10_lines 13 = .ok (.aload_n 0, 1) := by decide +kernel
theorem dX10_lines_14 : decode cX10_lines 14 = .ok (.getfield 111, 3) := by decide +kernel
theorem dX10_lines_17 : decode cX10_lines 17 = .ok (.istore_n 3, 1) := by decide +kernel
theorem dX10_lines_18 : decode cX10_lines 18 = .ok (.aload_n 0, 1) := by decide +kernel
theorem dX10_lines_19 : decode cX10_lines 19 = .ok (.iconst 1, 1) := by decide +kernel
theorem dX10_lines_20 : decode cX10_lines 20 = .ok (.putfield 141, 3) := by decide +kernel
theorem dX10_lines_23 : decode cX10_lines 23 = .ok (.aload_n 0, 1) := by decide +kernel
theorem dX10_lines_24 : decode cX10_lines 24 = .ok (.iload_n 1, 1) := by decide +kernel
theorem dX10_lines_25 : decode cX10_lines 25 = .ok (.aload_n 0, 1) := by decide +kernel
theorem dX10_lines_26 : decode cX10_lines 26 = .ok (.getfield 118, 3) := by decide +kernel
theorem dX10_lines_29 : decode cX10_lines 29 = .ok (.iconst 2, 1) := by decide +kernel
theorem dX10_lines_30 : decode cX10_lines 30 = .ok (.if_icmp .ne 10, 3) := by decide +kernel
theorem dX10_lines_33 : decode cX10_lines 33 = .ok (.aload_n 0, 1) := by decide +kernel
theorem dX10_lines_34 : decode cX10_lines 34 = .ok (.getfield 114, 3) := by decide +kernel
theorem dX10_lines_37 : decode cX10_lines 37 = .ok (.goto 4, 3) := by decide +kernel
theorem dX10_lines_40 : decode cX10_lines 40 = .ok (.lconst 0, 1) := by decide +kernel
theorem dX10_lines_41 : decode cX10_lines 41 = .ok (.iload_n 3, 1) := by decide +kernel
theorem dX10_lines_42 : decode cX10_lines 42 = .ok (.invokevirtual 240, 3) := by decide +kernel
theorem dX10_lines_45 : decode cX10_lines 45 = .ok (.istore_n 2, 1) := by decide +kernel
theorem dX10_lines_46 : decode cX10_lines 46 = .ok (.iload_n 2, 1) := by decide +kernel
theorem dX10_lines_47 : decode cX10_lines 47 = .ok (.ifCond .eq 16, 3) := by decide +kernel
theorem dX10_lines_50 : decode cX10_lines 50 = .ok (.aload_n 0, 1) := by decide +kernel
theorem dX10_lines_51 : decode cX10_lines 51 = .ok (.getfield 118, 3) := by decide +kernel
theorem dX10_lines_54 : decode cX10_lines 54 = .ok (.iconst 4, 1) := by decide +kernel
theorem dX10_lines_55 : decode cX10_lines 55 = .ok (.if_icmp .eq 8, 3) := by decide +kernel
theorem dX10_lines_58 : decode cX10_lines 58 = .ok (.aload_n 0, 1) := by decide +kernel
theorem dX10_lines_59 : decode cX10_lines 59 = .ok (.invokevirtual 133, 3) := by decide +kernel
theorem dX10_lines_62 : decode cX10_lines 62 = .ok (.istore_n 2, 1) := by decide +kernel
theorem dX10_lines_63 : decode cX10_lines 63 = .ok (.iload_n 2, 1) := by decide +kernel
theorem dX10_lines_64 : decode cX10_lines 64 = .ok (.ifCond .eq 7, 3) := by decide +kernel
theorem dX10_lines_67 : decode cX10_lines 67 = .ok (.aload_n 0, 1) := by decide +kernel
theorem dX10_lines_68 : decode cX10_lines 68 = .ok (.invokevirtual 145, 3) := by decide +kernel
theorem dX10_lines_71 : decode cX10_lines 71 = .ok (.goto (-69), 3) := by decide +kernel
theorem dX10_lines_74 : decode cX10_lines 74 = .ok (.iload_n 2, 1) := by decide +kernel
theorem dX10_lines_75 : decode cX10_lines 75 = .ok (.ireturn, 1) := by decide +kernel
theorem cdX10_lineOf : Cond.code yX10_lineOf cX10_lineOf 5 (some .boolean) ∈ tz := tc6 91 rfl rfl
theorem lVX10_240 : LV RX10 240 yX10_lineOf cX10_lineOf 5 (some .boolean) 3 := ⟨tw 1407 (by decide +kernel) rfl, tw 1409 (by decide +kernel) rfl, tw 41 (by decide +kernel) rfl, tw 128 (by decide +kernel) rfl, cdX10_lineOf, ⟨by decide +kernel, by decide +kernel, by decide +kernel⟩⟩
abbrev rmX10_lines : Room := { frames := 7, cells := 0, slots := 0, locals := 160 }
def bX10_lines_71 (k2 : Nat → Int32 → Int32 → AH → Option (Int32 × AH)) (a0 : Nat) (l1 : Int32) (l2 : Int32) (z : AH) : Option (Int32 × AH) :=
  k2 a0 l1 l2 z
set_option maxHeartbeats 4000000 in
set_option maxRecDepth 100000 in
theorem kbX10_lines_71 {p : Program} {l : Launch} {e : Env} {s : State} {m : MethodId} {args : Array Value} {below : List Frame} {meth : Method} {c : Code} {G : GW} {r : Int32} {z' : AH} (C : Cx p m c cX10_lines 4 s args RX10 G) (hlk : meth.locks = false) (hr : meth.sig.returnType = (some .boolean)) (k2 : Nat → Int32 → Int32 → AH → Option (Int32 × AH)) (hk2 : ∀ (a0 : Nat) (l1 : Int32) (l2 : Int32) (z : AH) (H : Heap) (locs : List Loc) (ls : Array Slot), k2 a0 l1 l2 z = some (r, z') → Wb G z s H locs → lv_has ls 4 [(0, .ref (gB G + a0)), (1, .int l1), (2, .int l2)] → W p l e rmX10_lines s m args below meth c H locs 0 0 (MQ below (Qi G r z') args s 0 0 (AA G)) (F0 m 2 ls [])) (a0 : Nat) (l1 : Int32) (l2 : Int32) {z : AH} {H : Heap} {locs : List Loc} {ls : Array Slot} (h : bX10_lines_71 k2 a0 l1 l2 z = some (r, z')) (hW : Wb G z s H locs) (hl : lv_has ls 4 [(0, .ref (gB G + a0)), (1, .int l1), (2, .int l2)]) : W p l e rmX10_lines s m args below meth c H locs 0 0 (MQ below (Qi G r z') args s 0 0 (AA G)) (F0 m 71 ls []) := by
  have hx := C.1
  have hb := C.2.1
  unfold bX10_lines_71 at h
  refine lv_goto (tgt := 2) hx hb dX10_lines_71 (by decide) ?_
  exact hk2 a0 l1 l2 z _ _ _ h hW (lv_sub hl [0, 1, 2] rfl)
def bX10_lines_63 (k2 : Nat → Int32 → Int32 → AH → Option (Int32 × AH)) (a0 : Nat) (l1 : Int32) (l2 : Int32) (z : AH) : Option (Int32 × AH) :=
  if l2 = (0 : Int32) then (
    bX10_lines_71 k2 a0 l1 l2 z
  ) else (
    (fX10_token a0 z).bind fun z68 =>
    bX10_lines_71 k2 a0 l1 l2 z68
  )
set_option maxHeartbeats 4000000 in
set_option maxRecDepth 100000 in
theorem kbX10_lines_63 {p : Program} {l : Launch} {e : Env} {s : State} {m : MethodId} {args : Array Value} {below : List Frame} {meth : Method} {c : Code} {G : GW} {r : Int32} {z' : AH} (C : Cx p m c cX10_lines 4 s args RX10 G) (hlk : meth.locks = false) (hr : meth.sig.returnType = (some .boolean)) (k2 : Nat → Int32 → Int32 → AH → Option (Int32 × AH)) (hk2 : ∀ (a0 : Nat) (l1 : Int32) (l2 : Int32) (z : AH) (H : Heap) (locs : List Loc) (ls : Array Slot), k2 a0 l1 l2 z = some (r, z') → Wb G z s H locs → lv_has ls 4 [(0, .ref (gB G + a0)), (1, .int l1), (2, .int l2)] → W p l e rmX10_lines s m args below meth c H locs 0 0 (MQ below (Qi G r z') args s 0 0 (AA G)) (F0 m 2 ls [])) (a0 : Nat) (l1 : Int32) (l2 : Int32) {z : AH} {H : Heap} {locs : List Loc} {ls : Array Slot} (h : bX10_lines_63 k2 a0 l1 l2 z = some (r, z')) (hW : Wb G z s H locs) (hl : lv_has ls 4 [(0, .ref (gB G + a0)), (1, .int l1), (2, .int l2)]) : W p l e rmX10_lines s m args below meth c H locs 0 0 (MQ below (Qi G r z') args s 0 0 (AA G)) (F0 m 63 ls []) := by
  have hx := C.1
  have hb := C.2.1
  unfold bX10_lines_63 at h
  refine lv_iload_n hx hb dX10_lines_63 rfl (lv_at hl 2 rfl) ?_
  refine lv_if_eq (tgt := 71) hx hb dX10_lines_64 (by decide) (fun c64 => ?_) (fun c64 => ?_)
  · have h := ite_t c64 h
    exact kbX10_lines_71 C hlk hr k2 hk2 a0 l1 l2 h hW (lv_sub hl [0, 1, 2] rfl)
  · have h := ite_f c64 h
    refine lv_aload_n hx hb dX10_lines_67 rfl (lv_at hl 0 rfl) ?_
    obtain ⟨z68, hq, h⟩ := ob h
    refine wz_rV (c' := 0) (s' := 0) hW (wz_runV (rest := []) C hW lVX10_145 (ck hq).1 rfl (ctX10_token l G a0 z hq) ⟨⟨rfl, rfl⟩, Nat.le_of_ble_eq_true rfl, Nat.le_of_ble_eq_true rfl⟩ rfl hl.1 rfl (Nat.le_of_ble_eq_true rfl) dX10_lines_68 ⟨Nat.le_of_ble_eq_true rfl, Nat.le_of_ble_eq_true rfl⟩) rfl rfl (fun H locs hW => ?_)
    exact kbX10_lines_71 C hlk hr k2 hk2 a0 l1 l2 h hW (lv_sub hl [0, 1, 2] rfl)
def bX10_lines_41 (k2 : Nat → Int32 → Int32 → AH → Option (Int32 × AH)) (a0 : Nat) (l1 : Int32) (l3 : Int32) (s0 : Nat) (s1 : Int32) (s2 : Int64) (z : AH) : Option (Int32 × AH) :=
  b2 (fX10_lineOf s0 s1 s2 l3 z) fun x42 z42 =>
  if x42 = (0 : Int32) then (
    bX10_lines_63 k2 a0 l1 x42 z42
  ) else (
    (gI 9 13 z42 a0).bind fun x51 =>
    if x51 = (4 : Int32) then (
      bX10_lines_63 k2 a0 l1 x42 z42
    ) else (
      b2 (fX10_fails a0 z42) fun x59 z59 =>
      bX10_lines_63 k2 a0 l1 x59 z59
    )
  )
set_option maxHeartbeats 4000000 in
set_option maxRecDepth 100000 in
theorem kbX10_lines_41 {p : Program} {l : Launch} {e : Env} {s : State} {m : MethodId} {args : Array Value} {below : List Frame} {meth : Method} {c : Code} {G : GW} {r : Int32} {z' : AH} (C : Cx p m c cX10_lines 4 s args RX10 G) (hlk : meth.locks = false) (hr : meth.sig.returnType = (some .boolean)) (k2 : Nat → Int32 → Int32 → AH → Option (Int32 × AH)) (hk2 : ∀ (a0 : Nat) (l1 : Int32) (l2 : Int32) (z : AH) (H : Heap) (locs : List Loc) (ls : Array Slot), k2 a0 l1 l2 z = some (r, z') → Wb G z s H locs → lv_has ls 4 [(0, .ref (gB G + a0)), (1, .int l1), (2, .int l2)] → W p l e rmX10_lines s m args below meth c H locs 0 0 (MQ below (Qi G r z') args s 0 0 (AA G)) (F0 m 2 ls [])) (a0 : Nat) (l1 : Int32) (l3 : Int32) (s0 : Nat) (s1 : Int32) (s2 : Int64) {z : AH} {H : Heap} {locs : List Loc} {ls : Array Slot} (h : bX10_lines_41 k2 a0 l1 l3 s0 s1 s2 z = some (r, z')) (hW : Wb G z s H locs) (hl : lv_has ls 4 [(0, .ref (gB G + a0)), (1, .int l1), (3, .int l3)]) : W p l e rmX10_lines s m args below meth c H locs 0 0 (MQ below (Qi G r z') args s 0 0 (AA G)) (F0 m 41 ls [.long s2, .int s1, .ref (gB G + s0)]) := by
  have hx := C.1
  have hb := C.2.1
  unfold bX10_lines_41 at h
  refine lv_iload_n hx hb dX10_lines_41 rfl (lv_at hl 2 rfl) ?_
  obtain ⟨x42, z42, hq, h⟩ := ob2 h
  refine wz_rI (c' := 0) (s' := 0) hW (wz_runV (rest := []) C hW lVX10_240 (ck hq).1 rfl (ctX10_lineOf l G s0 s1 s2 l3 z hq) ⟨⟨rfl, rfl⟩, Nat.le_of_ble_eq_true rfl, Nat.le_of_ble_eq_true rfl⟩ rfl hl.1 rfl (Nat.le_of_ble_eq_true rfl) dX10_lines_42 ⟨Nat.le_of_ble_eq_true rfl, Nat.le_of_ble_eq_true rfl⟩) rfl rfl (fun H locs hW => ?_)
  refine lv_istore_n (lv' := [(2, .int x42), (0, .ref (gB G + a0)), (1, .int l1), (3, .int l3)]) hx hb dX10_lines_45 rfl hl (by decide) rfl (fun ls hl => ?_)
  refine lv_iload_n hx hb dX10_lines_46 rfl (lv_at hl 0 rfl) ?_
  refine lv_if_eq (tgt := 63) hx hb dX10_lines_47 (by decide) (fun c47 => ?_) (fun c47 => ?_)
  · have h := ite_t c47 h
    exact kbX10_lines_63 C hlk hr k2 hk2 a0 l1 x42 h hW (lv_sub hl [1, 2, 0] rfl)
  · have h := ite_f c47 h
    refine lv_aload_n hx hb dX10_lines_50 rfl (lv_at hl 1 rfl) ?_
    obtain ⟨x51, hg, h⟩ := ob h
    refine wz_gI C hW flX10_118 hg dX10_lines_51 ?_
    refine lv_iconst (v := 4) hx hb dX10_lines_54 (by decide) ?_
    refine lv_icmp_eq (tgt := 63) hx hb dX10_lines_55 (by decide) (fun c55 => ?_) (fun c55 => ?_)
    · have h := ite_t c55 h
      exact kbX10_lines_63 C hlk hr k2 hk2 a0 l1 x42 h hW (lv_sub hl [1, 2, 0] rfl)
    · have h := ite_f c55 h
      refine lv_aload_n hx hb dX10_lines_58 rfl (lv_at hl 1 rfl) ?_
      obtain ⟨x59, z59, hq, h⟩ := ob2 h
      refine wz_rI (c' := 0) (s' := 0) hW (wz_runV (rest := []) C hW lVX10_133 (ck hq).1 rfl (ctX10_fails l G a0 z42 hq) ⟨⟨rfl, rfl⟩, Nat.le_of_ble_eq_true rfl, Nat.le_of_ble_eq_true rfl⟩ rfl hl.1 rfl (Nat.le_of_ble_eq_true rfl) dX10_lines_59 ⟨Nat.le_of_ble_eq_true rfl, Nat.le_of_ble_eq_true rfl⟩) rfl rfl (fun H locs hW => ?_)
      refine lv_istore_n (lv' := [(2, .int x59), (0, .ref (gB G + a0)), (1, .int l1), (3, .int l3)]) hx hb dX10_lines_62 rfl hl (by decide) rfl (fun ls hl => ?_)
      exact kbX10_lines_63 C hlk hr k2 hk2 a0 l1 x59 h hW (lv_sub hl [1, 2, 0] rfl)
def bX10_lines_2 (k2 : Nat → Int32 → Int32 → AH → Option (Int32 × AH)) (a0 : Nat) (l1 : Int32) (l2 : Int32) (z : AH) : Option (Int32 × AH) :=
  if l2 = (0 : Int32) then (
    if l2 = 0 ∨ l2 = 1 then some (l2, z) else none
  ) else (
    (gI 9 13 z a0).bind fun x7 =>
    if x7 = (0 : Int32) then (
      if l2 = 0 ∨ l2 = 1 then some (l2, z) else none
    ) else (
      (gI 9 12 z a0).bind fun x14 =>
      (pF 9 24 z a0 (.int (1 : Int32))).bind fun z20 =>
      (gI 9 13 z20 a0).bind fun x26 =>
      if x26 = (2 : Int32) then (
        (gJ 9 15 z20 a0).bind fun x34 =>
        bX10_lines_41 k2 a0 l1 x14 a0 l1 x34 z20
      ) else (
        bX10_lines_41 k2 a0 l1 x14 a0 l1 (0 : Int64) z20
      )
    )
  )
set_option maxHeartbeats 4000000 in
set_option maxRecDepth 100000 in
theorem kbX10_lines_2 {p : Program} {l : Launch} {e : Env} {s : State} {m : MethodId} {args : Array Value} {below : List Frame} {meth : Method} {c : Code} {G : GW} {r : Int32} {z' : AH} (C : Cx p m c cX10_lines 4 s args RX10 G) (hlk : meth.locks = false) (hr : meth.sig.returnType = (some .boolean)) (k2 : Nat → Int32 → Int32 → AH → Option (Int32 × AH)) (hk2 : ∀ (a0 : Nat) (l1 : Int32) (l2 : Int32) (z : AH) (H : Heap) (locs : List Loc) (ls : Array Slot), k2 a0 l1 l2 z = some (r, z') → Wb G z s H locs → lv_has ls 4 [(0, .ref (gB G + a0)), (1, .int l1), (2, .int l2)] → W p l e rmX10_lines s m args below meth c H locs 0 0 (MQ below (Qi G r z') args s 0 0 (AA G)) (F0 m 2 ls [])) (a0 : Nat) (l1 : Int32) (l2 : Int32) {z : AH} {H : Heap} {locs : List Loc} {ls : Array Slot} (h : bX10_lines_2 k2 a0 l1 l2 z = some (r, z')) (hW : Wb G z s H locs) (hl : lv_has ls 4 [(0, .ref (gB G + a0)), (1, .int l1), (2, .int l2)]) : W p l e rmX10_lines s m args below meth c H locs 0 0 (MQ below (Qi G r z') args s 0 0 (AA G)) (F0 m 2 ls []) := by
  have hx := C.1
  have hb := C.2.1
  unfold bX10_lines_2 at h
  refine lv_iload_n hx hb dX10_lines_2 rfl (lv_at hl 2 rfl) ?_
  refine lv_if_eq (tgt := 74) hx hb dX10_lines_3 (by decide) (fun c3 => ?_) (fun c3 => ?_)
  · have h := ite_t c3 h
    refine lv_iload_n hx hb dX10_lines_74 rfl (lv_at hl 2 rfl) ?_
    obtain ⟨h01, h⟩ := ck h
    exact wz_zretE C hlk hr h01 (so2 h).1 (so2 h).2 hW dX10_lines_75
  · have h := ite_f c3 h
    refine lv_aload_n hx hb dX10_lines_6 rfl (lv_at hl 0 rfl) ?_
    obtain ⟨x7, hg, h⟩ := ob h
    refine wz_gI C hW flX10_118 hg dX10_lines_7 ?_
    refine lv_if_eq (tgt := 74) hx hb dX10_lines_10 (by decide) (fun c10 => ?_) (fun c10 => ?_)
    · have h := ite_t c10 h
      refine lv_iload_n hx hb dX10_lines_74 rfl (lv_at hl 2 rfl) ?_
      obtain ⟨h01, h⟩ := ck h
      exact wz_zretE C hlk hr h01 (so2 h).1 (so2 h).2 hW dX10_lines_75
    · have h := ite_f c10 h
      refine lv_aload_n hx hb dX10_lines_13 rfl (lv_at hl 0 rfl) ?_
      obtain ⟨x14, hg, h⟩ := ob h
      refine wz_gI C hW flX10_111 hg dX10_lines_14 ?_
      refine lv_istore_n (lv' := [(3, .int x14), (0, .ref (gB G + a0)), (1, .int l1), (2, .int l2)]) hx hb dX10_lines_17 rfl hl (by decide) rfl (fun ls hl => ?_)
      refine lv_aload_n hx hb dX10_lines_18 rfl (lv_at hl 1 rfl) ?_
      refine lv_iconst (v := 1) hx hb dX10_lines_19 (by decide) ?_
      obtain ⟨z20, hg, h⟩ := ob h
      refine wz_put (v := (.int (1 : Int32))) C hW flX10_141 rfl rfl hg dX10_lines_20 (fun H locs hW => ?_)
      refine lv_aload_n hx hb dX10_lines_23 rfl (lv_at hl 1 rfl) ?_
      refine lv_iload_n hx hb dX10_lines_24 rfl (lv_at hl 2 rfl) ?_
      refine lv_aload_n hx hb dX10_lines_25 rfl (lv_at hl 1 rfl) ?_
      obtain ⟨x26, hg, h⟩ := ob h
      refine wz_gI C hW flX10_118 hg dX10_lines_26 ?_
      refine lv_iconst (v := 2) hx hb dX10_lines_29 (by decide) ?_
      refine lv_icmp_ne (tgt := 40) hx hb dX10_lines_30 (by decide) (fun c30 => ?_) (fun c30 => ?_)
      · have h := ite_f c30 h
        refine lv_lconst (v := 0) hx hb dX10_lines_40 (by decide) ?_
        exact kbX10_lines_41 C hlk hr k2 hk2 a0 l1 x14 a0 l1 (0 : Int64) h hW (lv_sub hl [1, 2, 0] rfl)
      · have h := ite_t c30 h
        refine lv_aload_n hx hb dX10_lines_33 rfl (lv_at hl 1 rfl) ?_
        obtain ⟨x34, hg, h⟩ := ob h
        refine wz_gJ C hW flX10_114 hg dX10_lines_34 ?_
        refine lv_goto (tgt := 41) hx hb dX10_lines_37 (by decide) ?_
        exact kbX10_lines_41 C hlk hr k2 hk2 a0 l1 x14 a0 l1 x34 h hW (lv_sub hl [1, 2, 0] rfl)
def fX10_lines_2 : Nat → Nat → Int32 → Int32 → AH → Option (Int32 × AH)
  | 0, _, _, _, _ => none
  | n + 1, a0, l1, l2, z => bX10_lines_2 (fX10_lines_2 n) a0 l1 l2 z
theorem klX10_lines_2 {p : Program} {l : Launch} {e : Env} {s : State} {m : MethodId} {args : Array Value} {below : List Frame} {meth : Method} {c : Code} {G : GW} {r : Int32} {z' : AH} (C : Cx p m c cX10_lines 4 s args RX10 G) (hlk : meth.locks = false) (hr : meth.sig.returnType = (some .boolean)) : ∀ (n : Nat) (a0 : Nat) (l1 : Int32) (l2 : Int32) (z : AH) (H : Heap) (locs : List Loc) (ls : Array Slot), fX10_lines_2 n a0 l1 l2 z = some (r, z') → Wb G z s H locs → lv_has ls 4 [(0, .ref (gB G + a0)), (1, .int l1), (2, .int l2)] → W p l e rmX10_lines s m args below meth c H locs 0 0 (MQ below (Qi G r z') args s 0 0 (AA G)) (F0 m 2 ls []) := by
  intro n
  induction n with
  | zero => intro a0 l1 l2 z H locs ls h; have h : (none : Option (Int32 × AH)) = some (r, z') := h; cases h
  | succ n ih => intro a0 l1 l2 z H locs ls h hW hl; exact kbX10_lines_2 C hlk hr (fX10_lines_2 n) (fun a0 l1 l2 z H locs ls h hW hl => ih a0 l1 l2 z H locs ls h hW hl) a0 l1 l2 h hW hl
def fX10_lines (a0 : Nat) (l1 : Int32) (z : AH) : Option (Int32 × AH) :=
  if isO 9 z a0 = true then
    fX10_lines_2 FU a0 l1 (1 : Int32) z
  else none
set_option maxHeartbeats 4000000 in
set_option maxRecDepth 100000 in
theorem ctX10_lines (l : Launch) (G : GW) (a0 : Nat) (l1 : Int32) (z : AH) {r : Int32} {z' : AH} (h : fX10_lines a0 l1 z = some (r, z')) : Met l yX10_lines (wy yX10_lines cX10_lines 4 (some .boolean)) rmX10_lines (Pz G [.ref (gB G + a0), .int l1] z) (Qi G r z') 0 0 (AA G) := by
  refine wz_ent (own := RX10) (by decide +kernel) rfl (fun p e s m below meth c ls C hlk hr hin hW hl => ?_) (Nat.le_of_ble_eq_true rfl)
  have hl : lv_has ls 4 [(0, .ref (gB G + a0)), (1, .int l1)] := hl
  have hx := C.1
  have hb := C.2.1
  unfold fX10_lines at h
  obtain ⟨-, h⟩ := ck h
  refine lv_iconst (v := 1) hx hb dX10_lines_0 (by decide) ?_
  refine lv_istore_n (lv' := [(2, .int (1 : Int32)), (0, .ref (gB G + a0)), (1, .int l1)]) hx hb dX10_lines_1 rfl hl (by decide) rfl (fun ls hl => ?_)
  exact klX10_lines_2 C hlk hr FU a0 l1 (1 : Int32) z _ _ _ h hW (lv_sub hl [1, 2, 0] rfl)
theorem dX10_isRing_0 : decode cX10_isRing 0 = .ok (.iconst 0, 1) := by decide +kernel
theorem dX10_isRing_1 : decode cX10_isRing 1 = .ok (.istore_n 1, 1) := by decide +kernel
theorem dX10_isRing_2 : decode cX10_isRing 2 = .ok (.iload_n 1, 1) := by decide +kernel
theorem dX10_isRing_3 : decode cX10_isRing 3 = .ok (.aload_n 0, 1) := by decide +kernel
theorem dX10_isRing_4 : decode cX10_isRing 4 = .ok (.getfield 38, 3) := by decide +kernel
theorem dX10_isRing_7 : decode cX10_isRing 7 = .ok (.iconst 0, 1) := by decide +kernel
theorem dX10_isRing_8 : decode cX10_isRing 8 = .ok (.iaload, 1) := by decide +kernel
theorem dX10_isRing_9 : decode cX10_isRing 9 = .ok (.if_icmp .ge 47, 3) := by decide +kernel
theorem dX10_isRing_12 : decode cX10_isRing 12 = .ok (.iload_n 1, 1) := by decide +kernel
theorem dX10_isRing_13 : decode cX10_isRing 13 = .ok (.istore_n 2, 1) := by decide +kernel
theorem dX10_isRing_14 : decode cX10_isRing 14 = .ok (.iconst 0, 1) := by decide +kernel
theorem dX10_isRing_15 : decode cX10_isRing 15 = .ok (.istore_n 3, 1) := by decide +kernel
theorem dX10_isRing_16 : decode cX10_isRing 16 = .ok (.iload_n 3, 1) := by decide +kernel
theorem dX10_isRing_17 : decode cX10_isRing 17 = .ok (.bipush 8, 2) := by decide +kernel
theorem dX10_isRing_19 : decode cX10_isRing 19 = .ok (.if_icmp .ge 24, 3) := by decide +kernel
theorem dX10_isRing_22 : decode cX10_isRing 22 = .ok (.iload_n 2, 1) := by decide +kernel
theorem dX10_isRing_23 : decode cX10_isRing 23 = .ok (.iconst (-1), 1) := by decide +kernel
theorem dX10_isRing_24 : decode cX10_isRing 24 = .ok (.if_icmp .eq 19, 3) := by decide +kernel
theorem dX10_isRing_27 : decode cX10_isRing 27 = .ok (.aload_n 0, 1) := by decide +kernel
theorem dX10_isRing_28 : decode cX10_isRing 28 = .ok (.getfield 38, 3) := by decide +kernel
theorem dX10_isRing_31 : decode cX10_isRing 31 = .ok (.bipush 30, 2) := by decide +kernel
theorem dX10_isRing_33 : decode cX10_isRing 33 = .ok (.iload_n 2, 1) := by decide +kernel
theorem dX10_isRing_34 : decode cX10_isRing 34 = .ok (.iadd, 1) := by decide +kernel
theorem dX10_isRing_35 : decode cX10_isRing 35 = .ok (.iaload, 1) := by decide +kernel
theorem dX10_isRing_36 : decode cX10_isRing 36 = .ok (.istore_n 2, 1) := by decide +kernel
theorem dX10_isRing_37 : decode cX10_isRing 37 = .ok (.iinc 3 1, 3) := by decide +kernel
theorem dX10_isRing_40 : decode cX10_isRing 40 = .ok (.goto (-24), 3) := by decide +kernel
theorem dX10_isRing_43 : decode cX10_isRing 43 = .ok (.iload_n 2, 1) := by decide +kernel
theorem dX10_isRing_44 : decode cX10_isRing 44 = .ok (.iconst (-1), 1) := by decide +kernel
theorem dX10_isRing_45 : decode cX10_isRing 45 = .ok (.if_icmp .eq 5, 3) := by decide +kernel
theorem dX10_isRing_48 : decode cX10_isRing 48 = .ok (.iconst 1, 1) := by decide +kernel
theorem dX10_isRing_49 : decode cX10_isRing 49 = .ok (.ireturn, 1) := by decide +kernel
theorem dX10_isRing_50 : decode cX10_isRing 50 = .ok (.iinc 1 1, 3) := by decide +kernel
theorem dX10_isRing_53 : decode cX10_isRing 53 = .ok (.goto (-51), 3) := by decide +kernel
theorem dX10_isRing_56 : decode cX10_isRing 56 = .ok (.iconst 0, 1) := by decide +kernel
theorem dX10_isRing_57 : decode cX10_isRing 57 = .ok (.ireturn, 1) := by decide +kernel
abbrev rmX10_isRing : Room := { frames := 0, cells := 0, slots := 0, locals := 0 }
def bX10_isRing_43 (k2 : Nat → Int32 → Option (Int32)) (a0 : Nat) (l1 : Int32) (l2 : Int32) (z : AH) : Option (Int32) :=
  if l2 = (-1 : Int32) then (
    nm (l1 + (1 : Int32)) fun v50 =>
    k2 a0 v50
  ) else (
    some (1 : Int32)
  )
set_option maxHeartbeats 4000000 in
set_option maxRecDepth 100000 in
theorem kbX10_isRing_43 {p : Program} {l : Launch} {e : Env} {s : State} {m : MethodId} {args : Array Value} {below : List Frame} {meth : Method} {c : Code} {G : GW} {r : Int32} (C : Cx p m c cX10_isRing 4 s args RX10 G) (hlk : meth.locks = false) (hr : meth.sig.returnType = (some .boolean)) {z : AH} (k2 : Nat → Int32 → Option (Int32)) (hk2 : ∀ (a0 : Nat) (l1 : Int32) (H : Heap) (locs : List Loc) (ls : Array Slot), k2 a0 l1 = some r → Wb G z s H locs → lv_has ls 4 [(0, .ref (gB G + a0)), (1, .int l1)] → W p l e rmX10_isRing s m args below meth c H locs 0 0 (MQ below (Qi G r z) args s 0 0 (AA G)) (F0 m 2 ls [])) (a0 : Nat) (l1 : Int32) (l2 : Int32) {H : Heap} {locs : List Loc} {ls : Array Slot} (h : bX10_isRing_43 k2 a0 l1 l2 z = some r) (hW : Wb G z s H locs) (hl : lv_has ls 4 [(0, .ref (gB G + a0)), (1, .int l1), (2, .int l2)]) : W p l e rmX10_isRing s m args below meth c H locs 0 0 (MQ below (Qi G r z) args s 0 0 (AA G)) (F0 m 43 ls []) := by
  have hx := C.1
  have hb := C.2.1
  unfold bX10_isRing_43 at h
  refine lv_iload_n hx hb dX10_isRing_43 rfl (lv_at hl 2 rfl) ?_
  refine lv_iconst (v := -1) hx hb dX10_isRing_44 (by decide) ?_
  refine lv_icmp_eq (tgt := 50) hx hb dX10_isRing_45 (by decide) (fun c45 => ?_) (fun c45 => ?_)
  · have h := ite_t c45 h
    obtain ⟨v50, ev50⟩ : ∃ y : Int32, y = (l1 + (1 : Int32)) := ⟨_, rfl⟩
    have h := nm_to h ev50
    refine lv_iinc (v := v50) (lv' := [(1, .int v50), (0, .ref (gB G + a0)), (2, .int l2)]) hx hb dX10_isRing_50 hl (k := 1) rfl (by rw [ev50]; rfl) (by decide) rfl (fun ls hl => ?_)
    refine lv_goto (tgt := 2) hx hb dX10_isRing_53 (by decide) ?_
    exact hk2 a0 v50 _ _ _ h hW (lv_sub hl [1, 0] rfl)
  · have h := ite_f c45 h
    refine lv_iconst (v := 1) hx hb dX10_isRing_48 (by decide) ?_
    exact wz_zretE C hlk hr (Or.inr rfl) (Option.some.inj h) rfl hW dX10_isRing_49
def bX10_isRing_16 (k2 : Nat → Int32 → Option (Int32)) (k16 : Nat → Int32 → Int32 → Int32 → Option (Int32)) (a0 : Nat) (l1 : Int32) (l2 : Int32) (l3 : Int32) (z : AH) : Option (Int32) :=
  if (8 : Int32) ≤ l3 then (
    bX10_isRing_43 k2 a0 l1 l2 z
  ) else (
    if l2 = (-1 : Int32) then (
      bX10_isRing_43 k2 a0 l1 l2 z
    ) else (
      (gN 9 19 z a0).bind fun b28 =>
      (ixI 0 z b28 ((30 : Int32) + l2)).bind fun x35 =>
      nm (l3 + (1 : Int32)) fun v37 =>
      k16 a0 l1 x35 v37
    )
  )
set_option maxHeartbeats 4000000 in
set_option maxRecDepth 100000 in
theorem kbX10_isRing_16 {p : Program} {l : Launch} {e : Env} {s : State} {m : MethodId} {args : Array Value} {below : List Frame} {meth : Method} {c : Code} {G : GW} {r : Int32} (C : Cx p m c cX10_isRing 4 s args RX10 G) (hlk : meth.locks = false) (hr : meth.sig.returnType = (some .boolean)) {z : AH} (k2 : Nat → Int32 → Option (Int32)) (k16 : Nat → Int32 → Int32 → Int32 → Option (Int32)) (hk2 : ∀ (a0 : Nat) (l1 : Int32) (H : Heap) (locs : List Loc) (ls : Array Slot), k2 a0 l1 = some r → Wb G z s H locs → lv_has ls 4 [(0, .ref (gB G + a0)), (1, .int l1)] → W p l e rmX10_isRing s m args below meth c H locs 0 0 (MQ below (Qi G r z) args s 0 0 (AA G)) (F0 m 2 ls [])) (hk16 : ∀ (a0 : Nat) (l1 : Int32) (l2 : Int32) (l3 : Int32) (H : Heap) (locs : List Loc) (ls : Array Slot), k16 a0 l1 l2 l3 = some r → Wb G z s H locs → lv_has ls 4 [(0, .ref (gB G + a0)), (1, .int l1), (2, .int l2), (3, .int l3)] → W p l e rmX10_isRing s m args below meth c H locs 0 0 (MQ below (Qi G r z) args s 0 0 (AA G)) (F0 m 16 ls [])) (a0 : Nat) (l1 : Int32) (l2 : Int32) (l3 : Int32) {H : Heap} {locs : List Loc} {ls : Array Slot} (h : bX10_isRing_16 k2 k16 a0 l1 l2 l3 z = some r) (hW : Wb G z s H locs) (hl : lv_has ls 4 [(0, .ref (gB G + a0)), (1, .int l1), (2, .int l2), (3, .int l3)]) : W p l e rmX10_isRing s m args below meth c H locs 0 0 (MQ below (Qi G r z) args s 0 0 (AA G)) (F0 m 16 ls []) := by
  have hx := C.1
  have hb := C.2.1
  unfold bX10_isRing_16 at h
  refine lv_iload_n hx hb dX10_isRing_16 rfl (lv_at hl 3 rfl) ?_
  refine lv_bipush (v := 8) hx hb dX10_isRing_17 (by decide) ?_
  refine lv_icmp_ge (tgt := 43) hx hb dX10_isRing_19 (by decide) (fun c19 => ?_) (fun c19 => ?_)
  · have h := ite_t c19 h
    exact kbX10_isRing_43 C hlk hr k2 hk2 a0 l1 l2 h hW (lv_sub hl [0, 1, 2] rfl)
  · have h := ite_f c19 h
    refine lv_iload_n hx hb dX10_isRing_22 rfl (lv_at hl 2 rfl) ?_
    refine lv_iconst (v := -1) hx hb dX10_isRing_23 (by decide) ?_
    refine lv_icmp_eq (tgt := 43) hx hb dX10_isRing_24 (by decide) (fun c24 => ?_) (fun c24 => ?_)
    · have h := ite_t c24 h
      exact kbX10_isRing_43 C hlk hr k2 hk2 a0 l1 l2 h hW (lv_sub hl [0, 1, 2] rfl)
    · have h := ite_f c24 h
      refine lv_aload_n hx hb dX10_isRing_27 rfl (lv_at hl 0 rfl) ?_
      obtain ⟨b28, hg, h⟩ := ob h
      refine wz_gN C hW flX10_38 hg dX10_isRing_28 ?_
      refine lv_bipush (v := 30) hx hb dX10_isRing_31 (by decide) ?_
      refine lv_iload_n hx hb dX10_isRing_33 rfl (lv_at hl 2 rfl) ?_
      refine lv_iadd hx hb dX10_isRing_34 ?_
      obtain ⟨x35, hg, h⟩ := ob h
      refine wz_ald C hW hg dX10_isRing_35 ?_
      refine lv_istore_n (lv' := [(2, .int x35), (0, .ref (gB G + a0)), (1, .int l1), (3, .int l3)]) hx hb dX10_isRing_36 rfl hl (by decide) rfl (fun ls hl => ?_)
      obtain ⟨v37, ev37⟩ : ∃ y : Int32, y = (l3 + (1 : Int32)) := ⟨_, rfl⟩
      have h := nm_to h ev37
      refine lv_iinc (v := v37) (lv' := [(3, .int v37), (2, .int x35), (0, .ref (gB G + a0)), (1, .int l1)]) hx hb dX10_isRing_37 hl (k := 3) rfl (by rw [ev37]; rfl) (by decide) rfl (fun ls hl => ?_)
      refine lv_goto (tgt := 16) hx hb dX10_isRing_40 (by decide) ?_
      exact hk16 a0 l1 x35 v37 _ _ _ h hW (lv_sub hl [2, 3, 1, 0] rfl)
def fX10_isRing_16 (k2 : Nat → Int32 → Option (Int32)) (z : AH) : Nat → Nat → Int32 → Int32 → Int32 → Option (Int32)
  | 0, _, _, _, _ => none
  | n + 1, a0, l1, l2, l3 => bX10_isRing_16 k2 (fX10_isRing_16 k2 z n) a0 l1 l2 l3 z
theorem klX10_isRing_16 {p : Program} {l : Launch} {e : Env} {s : State} {m : MethodId} {args : Array Value} {below : List Frame} {meth : Method} {c : Code} {G : GW} {r : Int32} (C : Cx p m c cX10_isRing 4 s args RX10 G) (hlk : meth.locks = false) (hr : meth.sig.returnType = (some .boolean)) {z : AH} (k2 : Nat → Int32 → Option (Int32)) (hk2 : ∀ (a0 : Nat) (l1 : Int32) (H : Heap) (locs : List Loc) (ls : Array Slot), k2 a0 l1 = some r → Wb G z s H locs → lv_has ls 4 [(0, .ref (gB G + a0)), (1, .int l1)] → W p l e rmX10_isRing s m args below meth c H locs 0 0 (MQ below (Qi G r z) args s 0 0 (AA G)) (F0 m 2 ls [])) : ∀ (n : Nat) (a0 : Nat) (l1 : Int32) (l2 : Int32) (l3 : Int32) (H : Heap) (locs : List Loc) (ls : Array Slot), fX10_isRing_16 k2 z n a0 l1 l2 l3 = some r → Wb G z s H locs → lv_has ls 4 [(0, .ref (gB G + a0)), (1, .int l1), (2, .int l2), (3, .int l3)] → W p l e rmX10_isRing s m args below meth c H locs 0 0 (MQ below (Qi G r z) args s 0 0 (AA G)) (F0 m 16 ls []) := by
  intro n
  induction n with
  | zero => intro a0 l1 l2 l3 H locs ls h; have h : (none : Option (Int32)) = some r := h; cases h
  | succ n ih => intro a0 l1 l2 l3 H locs ls h hW hl; exact kbX10_isRing_16 C hlk hr k2 (fX10_isRing_16 k2 z n) hk2 (fun a0 l1 l2 l3 H locs ls h hW hl => ih a0 l1 l2 l3 H locs ls h hW hl) a0 l1 l2 l3 h hW hl
def bX10_isRing_2 (k2 : Nat → Int32 → Option (Int32)) (a0 : Nat) (l1 : Int32) (z : AH) : Option (Int32) :=
  (gN 9 19 z a0).bind fun b4 =>
  (ixI 0 z b4 (0 : Int32)).bind fun x8 =>
  if x8 ≤ l1 then (
    some (0 : Int32)
  ) else (
    fX10_isRing_16 k2 z FU a0 l1 l1 (0 : Int32)
  )
set_option maxHeartbeats 4000000 in
set_option maxRecDepth 100000 in
theorem kbX10_isRing_2 {p : Program} {l : Launch} {e : Env} {s : State} {m : MethodId} {args : Array Value} {below : List Frame} {meth : Method} {c : Code} {G : GW} {r : Int32} (C : Cx p m c cX10_isRing 4 s args RX10 G) (hlk : meth.locks = false) (hr : meth.sig.returnType = (some .boolean)) {z : AH} (k2 : Nat → Int32 → Option (Int32)) (hk2 : ∀ (a0 : Nat) (l1 : Int32) (H : Heap) (locs : List Loc) (ls : Array Slot), k2 a0 l1 = some r → Wb G z s H locs → lv_has ls 4 [(0, .ref (gB G + a0)), (1, .int l1)] → W p l e rmX10_isRing s m args below meth c H locs 0 0 (MQ below (Qi G r z) args s 0 0 (AA G)) (F0 m 2 ls [])) (a0 : Nat) (l1 : Int32) {H : Heap} {locs : List Loc} {ls : Array Slot} (h : bX10_isRing_2 k2 a0 l1 z = some r) (hW : Wb G z s H locs) (hl : lv_has ls 4 [(0, .ref (gB G + a0)), (1, .int l1)]) : W p l e rmX10_isRing s m args below meth c H locs 0 0 (MQ below (Qi G r z) args s 0 0 (AA G)) (F0 m 2 ls []) := by
  have hx := C.1
  have hb := C.2.1
  unfold bX10_isRing_2 at h
  refine lv_iload_n hx hb dX10_isRing_2 rfl (lv_at hl 1 rfl) ?_
  refine lv_aload_n hx hb dX10_isRing_3 rfl (lv_at hl 0 rfl) ?_
  obtain ⟨b4, hg, h⟩ := ob h
  refine wz_gN C hW flX10_38 hg dX10_isRing_4 ?_
  refine lv_iconst (v := 0) hx hb dX10_isRing_7 (by decide) ?_
  obtain ⟨x8, hg, h⟩ := ob h
  refine wz_ald C hW hg dX10_isRing_8 ?_
  refine lv_icmp_ge (tgt := 56) hx hb dX10_isRing_9 (by decide) (fun c9 => ?_) (fun c9 => ?_)
  · have h := ite_t c9 h
    refine lv_iconst (v := 0) hx hb dX10_isRing_56 (by decide) ?_
    exact wz_zretE C hlk hr (Or.inl rfl) (Option.some.inj h) rfl hW dX10_isRing_57
  · have h := ite_f c9 h
    refine lv_iload_n hx hb dX10_isRing_12 rfl (lv_at hl 1 rfl) ?_
    refine lv_istore_n (lv' := [(2, .int l1), (0, .ref (gB G + a0)), (1, .int l1)]) hx hb dX10_isRing_13 rfl hl (by decide) rfl (fun ls hl => ?_)
    refine lv_iconst (v := 0) hx hb dX10_isRing_14 (by decide) ?_
    refine lv_istore_n (lv' := [(3, .int (0 : Int32)), (2, .int l1), (0, .ref (gB G + a0)), (1, .int l1)]) hx hb dX10_isRing_15 rfl hl (by decide) rfl (fun ls hl => ?_)
    exact klX10_isRing_16 C hlk hr k2 hk2 FU a0 l1 l1 (0 : Int32) _ _ _ h hW (lv_sub hl [2, 3, 1, 0] rfl)
def fX10_isRing_2 (z : AH) : Nat → Nat → Int32 → Option (Int32)
  | 0, _, _ => none
  | n + 1, a0, l1 => bX10_isRing_2 (fX10_isRing_2 z n) a0 l1 z
theorem klX10_isRing_2 {p : Program} {l : Launch} {e : Env} {s : State} {m : MethodId} {args : Array Value} {below : List Frame} {meth : Method} {c : Code} {G : GW} {r : Int32} (C : Cx p m c cX10_isRing 4 s args RX10 G) (hlk : meth.locks = false) (hr : meth.sig.returnType = (some .boolean)) {z : AH} : ∀ (n : Nat) (a0 : Nat) (l1 : Int32) (H : Heap) (locs : List Loc) (ls : Array Slot), fX10_isRing_2 z n a0 l1 = some r → Wb G z s H locs → lv_has ls 4 [(0, .ref (gB G + a0)), (1, .int l1)] → W p l e rmX10_isRing s m args below meth c H locs 0 0 (MQ below (Qi G r z) args s 0 0 (AA G)) (F0 m 2 ls []) := by
  intro n
  induction n with
  | zero => intro a0 l1 H locs ls h; have h : (none : Option (Int32)) = some r := h; cases h
  | succ n ih => intro a0 l1 H locs ls h hW hl; exact kbX10_isRing_2 C hlk hr (fX10_isRing_2 z n) (fun a0 l1 H locs ls h hW hl => ih a0 l1 H locs ls h hW hl) a0 l1 h hW hl
def fX10_isRing (a0 : Nat) (z : AH) : Option (Int32) :=
  if isO 9 z a0 = true then
    fX10_isRing_2 z FU a0 (0 : Int32)
  else none
set_option maxHeartbeats 4000000 in
set_option maxRecDepth 100000 in
theorem ctX10_isRing (l : Launch) (G : GW) (a0 : Nat) (z : AH) {r : Int32} (h : fX10_isRing a0 z = some r) : Met l yX10_isRing (wy yX10_isRing cX10_isRing 4 (some .boolean)) rmX10_isRing (Pz G [.ref (gB G + a0)] z) (Qi G r z) 0 0 (AA G) := by
  refine wz_ent (own := RX10) (by decide +kernel) rfl (fun p e s m below meth c ls C hlk hr hin hW hl => ?_) (Nat.le_of_ble_eq_true rfl)
  have hl : lv_has ls 4 [(0, .ref (gB G + a0))] := hl
  have hx := C.1
  have hb := C.2.1
  unfold fX10_isRing at h
  obtain ⟨-, h⟩ := ck h
  refine lv_iconst (v := 0) hx hb dX10_isRing_0 (by decide) ?_
  refine lv_istore_n (lv' := [(1, .int (0 : Int32)), (0, .ref (gB G + a0))]) hx hb dX10_isRing_1 rfl hl (by decide) rfl (fun ls hl => ?_)
  exact klX10_isRing_2 C hlk hr FU a0 (0 : Int32) _ _ _ h hW (lv_sub hl [1, 0] rfl)
theorem dX10_isTwice_0 : decode cX10_isTwice 0 = .ok (.iconst 0, 1) := by decide +kernel
theorem dX10_isTwice_1 : decode cX10_isTwice 1 = .ok (.istore_n 1, 1) := by decide +kernel
theorem dX10_isTwice_2 : decode cX10_isTwice 2 = .ok (.iload_n 1, 1) := by decide +kernel
theorem dX10_isTwice_3 : decode cX10_isTwice 3 = .ok (.aload_n 0, 1) := by decide +kernel
theorem dX10_isTwice_4 : decode cX10_isTwice 4 = .ok (.getfield 38, 3) := by decide +kernel
theorem dX10_isTwice_7 : decode cX10_isTwice 7 = .ok (.iconst 4, 1) := by decide +kernel
theorem dX10_isTwice_8 : decode cX10_isTwice 8 = .ok (.iaload, 1) := by decide +kernel
theorem dX10_isTwice_9 : decode cX10_isTwice 9 = .ok (.if_icmp .ge 66, 3) := by decide +kernel
theorem dX10_isTwice_12 : decode cX10_isTwice 12 = .ok (.iconst 0, 1) := by decide +kernel
theorem dX10_isTwice_13 : decode cX10_isTwice 13 = .ok (.istore_n 2, 1) := by decide +kernel
theorem dX10_isTwice_14 : decode cX10_isTwice 14 = .ok (.iload_n 2, 1) := by decide +kernel
theorem dX10_isTwice_15 : decode cX10_isTwice 15 = .ok (.iload_n 1, 1) := by decide +kernel
theorem dX10_isTwice_16 : decode cX10_isTwice 16 = .ok (.if_icmp .ge 53, 3) := by decide +kernel
theorem dX10_isTwice_19 : decode cX10_isTwice 19 = .ok (.aload_n 0, 1) := by decide +kernel
theorem dX10_isTwice_20 : decode cX10_isTwice 20 = .ok (.getfield 38, 3) := by decide +kernel
theorem dX10_isTwice_23 : decode cX10_isTwice 23 = .ok (.bipush 46, 2) := by decide +kernel
theorem dX10_isTwice_25 : decode cX10_isTwice 25 = .ok (.iload_n 1, 1) := by decide +kernel
theorem dX10_isTwice_26 : decode cX10_isTwice 26 = .ok (.iadd, 1) := by decide +kernel
theorem dX10_isTwice_27 : decode cX10_isTwice 27 = .ok (.iaload, 1) := by decide +kernel
theorem dX10_isTwice_28 : decode cX10_isTwice 28 = .ok (.aload_n 0, 1) := by decide +kernel
theorem dX10_isTwice_29 : decode cX10_isTwice 29 = .ok (.getfield 38, 3) := by decide +kernel
theorem dX10_isTwice_32 : decode cX10_isTwice 32 = .ok (.bipush 46, 2) := by decide +kernel
theorem dX10_isTwice_34 : decode cX10_isTwice 34 = .ok (.iload_n 2, 1) := by decide +kernel
theorem dX10_isTwice_35 : decode cX10_isTwice 35 = .ok (.iadd, 1) := by decide +kernel
theorem dX10_isTwice_36 : decode cX10_isTwice 36 = .ok (.iaload, 1) := by decide +kernel
theorem dX10_isTwice_37 : decode cX10_isTwice 37 = .ok (.if_icmp .eq 24, 3) := by decide +kernel
theorem dX10_isTwice_40 : decode cX10_isTwice 40 = .ok (.aload_n 0, 1) := by decide +kernel
theorem dX10_isTwice_41 : decode cX10_isTwice 41 = .ok (.getfield 38, 3) := by decide +kernel
theorem dX10_isTwice_44 : decode cX10_isTwice 44 = .ok (.bipush 50, 2) := by decide +kernel
theorem dX10_isTwice_46 : decode cX10_isTwice 46 = .ok (.iload_n 1, 1) := by decide +kernel
theorem dX10_isTwice_47 : decode cX10_isTwice 47 = .ok (.iadd, 1) := by decide +kernel
theorem dX10_isTwice_48 : decode cX10_isTwice 48 = .ok (.iaload, 1) := by decide +kernel
theorem dX10_isTwice_49 : decode cX10_isTwice 49 = .ok (.aload_n 0, 1) := by decide +kernel
theorem dX10_isTwice_50 : decode cX10_isTwice 50 = .ok (.getfield 38, 3) := by decide +kernel
theorem dX10_isTwice_53 : decode cX10_isTwice 53 = .ok (.bipush 50, 2) := by decide +kernel
theorem dX10_isTwice_55 : decode cX10_isTwice 55 = .ok (.iload_n 2, 1) := by decide +kernel
theorem dX10_isTwice_56 : decode cX10_isTwice 56 = .ok (.iadd, 1) := by decide +kernel
theorem dX10_isTwice_57 : decode cX10_isTwice 57 = .ok (.iaload, 1) := by decide +kernel
theorem dX10_isTwice_58 : decode cX10_isTwice 58 = .ok (.if_icmp .ne 5, 3) := by decide +kernel
theorem dX10_isTwice_61 : decode cX10_isTwice 61 = .ok (.iconst 1, 1) := by decide +kernel
theorem dX10_isTwice_62 : decode cX10_isTwice 62 = .ok (.ireturn, 1) := by decide +kernel
theorem dX10_isTwice_63 : decode cX10_isTwice 63 = .ok (.iinc 2 1, 3) := by decide +kernel
theorem dX10_isTwice_66 : decode cX10_isTwice 66 = .ok (.goto (-52), 3) := by decide +kernel
theorem dX10_isTwice_69 : decode cX10_isTwice 69 = .ok (.iinc 1 1, 3) := by decide +kernel
theorem dX10_isTwice_72 : decode cX10_isTwice 72 = .ok (.goto (-70), 3) := by decide +kernel
theorem dX10_isTwice_75 : decode cX10_isTwice 75 = .ok (.iconst 0, 1) := by decide +kernel
theorem dX10_isTwice_76 : decode cX10_isTwice 76 = .ok (.ireturn, 1) := by decide +kernel
abbrev rmX10_isTwice : Room := { frames := 0, cells := 0, slots := 0, locals := 0 }
def bX10_isTwice_14 (k2 : Nat → Int32 → Option (Int32)) (k14 : Nat → Int32 → Int32 → Option (Int32)) (a0 : Nat) (l1 : Int32) (l2 : Int32) (z : AH) : Option (Int32) :=
  if l1 ≤ l2 then (
    nm (l1 + (1 : Int32)) fun v69 =>
    k2 a0 v69
  ) else (
    (gN 9 19 z a0).bind fun b20 =>
    (ixI 0 z b20 ((46 : Int32) + l1)).bind fun x27 =>
    (gN 9 19 z a0).bind fun b29 =>
    (ixI 0 z b29 ((46 : Int32) + l2)).bind fun x36 =>
    if x27 = x36 then (
      some (1 : Int32)
    ) else (
      (gN 9 19 z a0).bind fun b41 =>
      (ixI 0 z b41 ((50 : Int32) + l1)).bind fun x48 =>
      (gN 9 19 z a0).bind fun b50 =>
      (ixI 0 z b50 ((50 : Int32) + l2)).bind fun x57 =>
      if x48 = x57 then (
        some (1 : Int32)
      ) else (
        nm (l2 + (1 : Int32)) fun v63 =>
        k14 a0 l1 v63
      )
    )
  )
set_option maxHeartbeats 4000000 in
set_option maxRecDepth 100000 in
theorem kbX10_isTwice_14 {p : Program} {l : Launch} {e : Env} {s : State} {m : MethodId} {args : Array Value} {below : List Frame} {meth : Method} {c : Code} {G : GW} {r : Int32} (C : Cx p m c cX10_isTwice 3 s args RX10 G) (hlk : meth.locks = false) (hr : meth.sig.returnType = (some .boolean)) {z : AH} (k2 : Nat → Int32 → Option (Int32)) (k14 : Nat → Int32 → Int32 → Option (Int32)) (hk2 : ∀ (a0 : Nat) (l1 : Int32) (H : Heap) (locs : List Loc) (ls : Array Slot), k2 a0 l1 = some r → Wb G z s H locs → lv_has ls 3 [(0, .ref (gB G + a0)), (1, .int l1)] → W p l e rmX10_isTwice s m args below meth c H locs 0 0 (MQ below (Qi G r z) args s 0 0 (AA G)) (F0 m 2 ls [])) (hk14 : ∀ (a0 : Nat) (l1 : Int32) (l2 : Int32) (H : Heap) (locs : List Loc) (ls : Array Slot), k14 a0 l1 l2 = some r → Wb G z s H locs → lv_has ls 3 [(0, .ref (gB G + a0)), (1, .int l1), (2, .int l2)] → W p l e rmX10_isTwice s m args below meth c H locs 0 0 (MQ below (Qi G r z) args s 0 0 (AA G)) (F0 m 14 ls [])) (a0 : Nat) (l1 : Int32) (l2 : Int32) {H : Heap} {locs : List Loc} {ls : Array Slot} (h : bX10_isTwice_14 k2 k14 a0 l1 l2 z = some r) (hW : Wb G z s H locs) (hl : lv_has ls 3 [(0, .ref (gB G + a0)), (1, .int l1), (2, .int l2)]) : W p l e rmX10_isTwice s m args below meth c H locs 0 0 (MQ below (Qi G r z) args s 0 0 (AA G)) (F0 m 14 ls []) := by
  have hx := C.1
  have hb := C.2.1
  unfold bX10_isTwice_14 at h
  refine lv_iload_n hx hb dX10_isTwice_14 rfl (lv_at hl 2 rfl) ?_
  refine lv_iload_n hx hb dX10_isTwice_15 rfl (lv_at hl 1 rfl) ?_
  refine lv_icmp_ge (tgt := 69) hx hb dX10_isTwice_16 (by decide) (fun c16 => ?_) (fun c16 => ?_)
  · have h := ite_t c16 h
    obtain ⟨v69, ev69⟩ : ∃ y : Int32, y = (l1 + (1 : Int32)) := ⟨_, rfl⟩
    have h := nm_to h ev69
    refine lv_iinc (v := v69) (lv' := [(1, .int v69), (0, .ref (gB G + a0)), (2, .int l2)]) hx hb dX10_isTwice_69 hl (k := 1) rfl (by rw [ev69]; rfl) (by decide) rfl (fun ls hl => ?_)
    refine lv_goto (tgt := 2) hx hb dX10_isTwice_72 (by decide) ?_
    exact hk2 a0 v69 _ _ _ h hW (lv_sub hl [1, 0] rfl)
  · have h := ite_f c16 h
    refine lv_aload_n hx hb dX10_isTwice_19 rfl (lv_at hl 0 rfl) ?_
    obtain ⟨b20, hg, h⟩ := ob h
    refine wz_gN C hW flX10_38 hg dX10_isTwice_20 ?_
    refine lv_bipush (v := 46) hx hb dX10_isTwice_23 (by decide) ?_
    refine lv_iload_n hx hb dX10_isTwice_25 rfl (lv_at hl 1 rfl) ?_
    refine lv_iadd hx hb dX10_isTwice_26 ?_
    obtain ⟨x27, hg, h⟩ := ob h
    refine wz_ald C hW hg dX10_isTwice_27 ?_
    refine lv_aload_n hx hb dX10_isTwice_28 rfl (lv_at hl 0 rfl) ?_
    obtain ⟨b29, hg, h⟩ := ob h
    refine wz_gN C hW flX10_38 hg dX10_isTwice_29 ?_
    refine lv_bipush (v := 46) hx hb dX10_isTwice_32 (by decide) ?_
    refine lv_iload_n hx hb dX10_isTwice_34 rfl (lv_at hl 2 rfl) ?_
    refine lv_iadd hx hb dX10_isTwice_35 ?_
    obtain ⟨x36, hg, h⟩ := ob h
    refine wz_ald C hW hg dX10_isTwice_36 ?_
    refine lv_icmp_eq (tgt := 61) hx hb dX10_isTwice_37 (by decide) (fun c37 => ?_) (fun c37 => ?_)
    · have h := ite_t c37 h
      refine lv_iconst (v := 1) hx hb dX10_isTwice_61 (by decide) ?_
      exact wz_zretE C hlk hr (Or.inr rfl) (Option.some.inj h) rfl hW dX10_isTwice_62
    · have h := ite_f c37 h
      refine lv_aload_n hx hb dX10_isTwice_40 rfl (lv_at hl 0 rfl) ?_
      obtain ⟨b41, hg, h⟩ := ob h
      refine wz_gN C hW flX10_38 hg dX10_isTwice_41 ?_
      refine lv_bipush (v := 50) hx hb dX10_isTwice_44 (by decide) ?_
      refine lv_iload_n hx hb dX10_isTwice_46 rfl (lv_at hl 1 rfl) ?_
      refine lv_iadd hx hb dX10_isTwice_47 ?_
      obtain ⟨x48, hg, h⟩ := ob h
      refine wz_ald C hW hg dX10_isTwice_48 ?_
      refine lv_aload_n hx hb dX10_isTwice_49 rfl (lv_at hl 0 rfl) ?_
      obtain ⟨b50, hg, h⟩ := ob h
      refine wz_gN C hW flX10_38 hg dX10_isTwice_50 ?_
      refine lv_bipush (v := 50) hx hb dX10_isTwice_53 (by decide) ?_
      refine lv_iload_n hx hb dX10_isTwice_55 rfl (lv_at hl 2 rfl) ?_
      refine lv_iadd hx hb dX10_isTwice_56 ?_
      obtain ⟨x57, hg, h⟩ := ob h
      refine wz_ald C hW hg dX10_isTwice_57 ?_
      refine lv_icmp_ne (tgt := 63) hx hb dX10_isTwice_58 (by decide) (fun c58 => ?_) (fun c58 => ?_)
      · have h := ite_f c58 h
        obtain ⟨v63, ev63⟩ : ∃ y : Int32, y = (l2 + (1 : Int32)) := ⟨_, rfl⟩
        have h := nm_to h ev63
        refine lv_iinc (v := v63) (lv' := [(2, .int v63), (0, .ref (gB G + a0)), (1, .int l1)]) hx hb dX10_isTwice_63 hl (k := 2) rfl (by rw [ev63]; rfl) (by decide) rfl (fun ls hl => ?_)
        refine lv_goto (tgt := 14) hx hb dX10_isTwice_66 (by decide) ?_
        exact hk14 a0 l1 v63 _ _ _ h hW (lv_sub hl [1, 2, 0] rfl)
      · have h := ite_t c58 h
        refine lv_iconst (v := 1) hx hb dX10_isTwice_61 (by decide) ?_
        exact wz_zretE C hlk hr (Or.inr rfl) (Option.some.inj h) rfl hW dX10_isTwice_62
def fX10_isTwice_14 (k2 : Nat → Int32 → Option (Int32)) (z : AH) : Nat → Nat → Int32 → Int32 → Option (Int32)
  | 0, _, _, _ => none
  | n + 1, a0, l1, l2 => bX10_isTwice_14 k2 (fX10_isTwice_14 k2 z n) a0 l1 l2 z
theorem klX10_isTwice_14 {p : Program} {l : Launch} {e : Env} {s : State} {m : MethodId} {args : Array Value} {below : List Frame} {meth : Method} {c : Code} {G : GW} {r : Int32} (C : Cx p m c cX10_isTwice 3 s args RX10 G) (hlk : meth.locks = false) (hr : meth.sig.returnType = (some .boolean)) {z : AH} (k2 : Nat → Int32 → Option (Int32)) (hk2 : ∀ (a0 : Nat) (l1 : Int32) (H : Heap) (locs : List Loc) (ls : Array Slot), k2 a0 l1 = some r → Wb G z s H locs → lv_has ls 3 [(0, .ref (gB G + a0)), (1, .int l1)] → W p l e rmX10_isTwice s m args below meth c H locs 0 0 (MQ below (Qi G r z) args s 0 0 (AA G)) (F0 m 2 ls [])) : ∀ (n : Nat) (a0 : Nat) (l1 : Int32) (l2 : Int32) (H : Heap) (locs : List Loc) (ls : Array Slot), fX10_isTwice_14 k2 z n a0 l1 l2 = some r → Wb G z s H locs → lv_has ls 3 [(0, .ref (gB G + a0)), (1, .int l1), (2, .int l2)] → W p l e rmX10_isTwice s m args below meth c H locs 0 0 (MQ below (Qi G r z) args s 0 0 (AA G)) (F0 m 14 ls []) := by
  intro n
  induction n with
  | zero => intro a0 l1 l2 H locs ls h; have h : (none : Option (Int32)) = some r := h; cases h
  | succ n ih => intro a0 l1 l2 H locs ls h hW hl; exact kbX10_isTwice_14 C hlk hr k2 (fX10_isTwice_14 k2 z n) hk2 (fun a0 l1 l2 H locs ls h hW hl => ih a0 l1 l2 H locs ls h hW hl) a0 l1 l2 h hW hl
def bX10_isTwice_2 (k2 : Nat → Int32 → Option (Int32)) (a0 : Nat) (l1 : Int32) (z : AH) : Option (Int32) :=
  (gN 9 19 z a0).bind fun b4 =>
  (ixI 0 z b4 (4 : Int32)).bind fun x8 =>
  if x8 ≤ l1 then (
    some (0 : Int32)
  ) else (
    fX10_isTwice_14 k2 z FU a0 l1 (0 : Int32)
  )
set_option maxHeartbeats 4000000 in
set_option maxRecDepth 100000 in
theorem kbX10_isTwice_2 {p : Program} {l : Launch} {e : Env} {s : State} {m : MethodId} {args : Array Value} {below : List Frame} {meth : Method} {c : Code} {G : GW} {r : Int32} (C : Cx p m c cX10_isTwice 3 s args RX10 G) (hlk : meth.locks = false) (hr : meth.sig.returnType = (some .boolean)) {z : AH} (k2 : Nat → Int32 → Option (Int32)) (hk2 : ∀ (a0 : Nat) (l1 : Int32) (H : Heap) (locs : List Loc) (ls : Array Slot), k2 a0 l1 = some r → Wb G z s H locs → lv_has ls 3 [(0, .ref (gB G + a0)), (1, .int l1)] → W p l e rmX10_isTwice s m args below meth c H locs 0 0 (MQ below (Qi G r z) args s 0 0 (AA G)) (F0 m 2 ls [])) (a0 : Nat) (l1 : Int32) {H : Heap} {locs : List Loc} {ls : Array Slot} (h : bX10_isTwice_2 k2 a0 l1 z = some r) (hW : Wb G z s H locs) (hl : lv_has ls 3 [(0, .ref (gB G + a0)), (1, .int l1)]) : W p l e rmX10_isTwice s m args below meth c H locs 0 0 (MQ below (Qi G r z) args s 0 0 (AA G)) (F0 m 2 ls []) := by
  have hx := C.1
  have hb := C.2.1
  unfold bX10_isTwice_2 at h
  refine lv_iload_n hx hb dX10_isTwice_2 rfl (lv_at hl 1 rfl) ?_
  refine lv_aload_n hx hb dX10_isTwice_3 rfl (lv_at hl 0 rfl) ?_
  obtain ⟨b4, hg, h⟩ := ob h
  refine wz_gN C hW flX10_38 hg dX10_isTwice_4 ?_
  refine lv_iconst (v := 4) hx hb dX10_isTwice_7 (by decide) ?_
  obtain ⟨x8, hg, h⟩ := ob h
  refine wz_ald C hW hg dX10_isTwice_8 ?_
  refine lv_icmp_ge (tgt := 75) hx hb dX10_isTwice_9 (by decide) (fun c9 => ?_) (fun c9 => ?_)
  · have h := ite_t c9 h
    refine lv_iconst (v := 0) hx hb dX10_isTwice_75 (by decide) ?_
    exact wz_zretE C hlk hr (Or.inl rfl) (Option.some.inj h) rfl hW dX10_isTwice_76
  · have h := ite_f c9 h
    refine lv_iconst (v := 0) hx hb dX10_isTwice_12 (by decide) ?_
    refine lv_istore_n (lv' := [(2, .int (0 : Int32)), (0, .ref (gB G + a0)), (1, .int l1)]) hx hb dX10_isTwice_13 rfl hl (by decide) rfl (fun ls hl => ?_)
    exact klX10_isTwice_14 C hlk hr k2 hk2 FU a0 l1 (0 : Int32) _ _ _ h hW (lv_sub hl [1, 2, 0] rfl)
def fX10_isTwice_2 (z : AH) : Nat → Nat → Int32 → Option (Int32)
  | 0, _, _ => none
  | n + 1, a0, l1 => bX10_isTwice_2 (fX10_isTwice_2 z n) a0 l1 z
theorem klX10_isTwice_2 {p : Program} {l : Launch} {e : Env} {s : State} {m : MethodId} {args : Array Value} {below : List Frame} {meth : Method} {c : Code} {G : GW} {r : Int32} (C : Cx p m c cX10_isTwice 3 s args RX10 G) (hlk : meth.locks = false) (hr : meth.sig.returnType = (some .boolean)) {z : AH} : ∀ (n : Nat) (a0 : Nat) (l1 : Int32) (H : Heap) (locs : List Loc) (ls : Array Slot), fX10_isTwice_2 z n a0 l1 = some r → Wb G z s H locs → lv_has ls 3 [(0, .ref (gB G + a0)), (1, .int l1)] → W p l e rmX10_isTwice s m args below meth c H locs 0 0 (MQ below (Qi G r z) args s 0 0 (AA G)) (F0 m 2 ls []) := by
  intro n
  induction n with
  | zero => intro a0 l1 H locs ls h; have h : (none : Option (Int32)) = some r := h; cases h
  | succ n ih => intro a0 l1 H locs ls h hW hl; exact kbX10_isTwice_2 C hlk hr (fX10_isTwice_2 z n) (fun a0 l1 H locs ls h hW hl => ih a0 l1 H locs ls h hW hl) a0 l1 h hW hl
def fX10_isTwice (a0 : Nat) (z : AH) : Option (Int32) :=
  if isO 9 z a0 = true then
    fX10_isTwice_2 z FU a0 (0 : Int32)
  else none
set_option maxHeartbeats 4000000 in
set_option maxRecDepth 100000 in
theorem ctX10_isTwice (l : Launch) (G : GW) (a0 : Nat) (z : AH) {r : Int32} (h : fX10_isTwice a0 z = some r) : Met l yX10_isTwice (wy yX10_isTwice cX10_isTwice 3 (some .boolean)) rmX10_isTwice (Pz G [.ref (gB G + a0)] z) (Qi G r z) 0 0 (AA G) := by
  refine wz_ent (own := RX10) (by decide +kernel) rfl (fun p e s m below meth c ls C hlk hr hin hW hl => ?_) (Nat.le_of_ble_eq_true rfl)
  have hl : lv_has ls 3 [(0, .ref (gB G + a0))] := hl
  have hx := C.1
  have hb := C.2.1
  unfold fX10_isTwice at h
  obtain ⟨-, h⟩ := ck h
  refine lv_iconst (v := 0) hx hb dX10_isTwice_0 (by decide) ?_
  refine lv_istore_n (lv' := [(1, .int (0 : Int32)), (0, .ref (gB G + a0))]) hx hb dX10_isTwice_1 rfl hl (by decide) rfl (fun ls hl => ?_)
  exact klX10_isTwice_2 C hlk hr FU a0 (0 : Int32) _ _ _ h hW (lv_sub hl [1, 0] rfl)
theorem dX10_endFault_0 : decode cX10_endFault 0 = .ok (.aload_n 0, 1) := by decide +kernel
theorem dX10_endFault_1 : decode cX10_endFault 1 = .ok (.getfield 152, 3) := by decide +kernel
theorem dX10_endFault_4 : decode cX10_endFault 4 = .ok (.aload_n 0, 1) := by decide +kernel
theorem dX10_endFault_5 : decode cX10_endFault 5 = .ok (.getfield 38, 3) := by decide +kernel
theorem dX10_endFault_8 : decode cX10_endFault 8 = .ok (.iconst 0, 1) := by decide +kernel
theorem dX10_endFault_9 : decode cX10_endFault 9 = .ok (.iaload, 1) := by decide +kernel
theorem dX10_endFault_10 : decode cX10_endFault 10 = .ok (.if_icmp .ge 29, 3) := by decide +kernel
theorem dX10_endFault_13 : decode cX10_endFault 13 = .ok (.aload_n 0, 1) := by decide +kernel
theorem dX10_endFault_14 : decode cX10_endFault 14 = .ok (.getfield 162, 3) := by decide +kernel
theorem dX10_endFault_17 : decode cX10_endFault 17 = .ok (.aload_n 0, 1) := by decide +kernel
theorem dX10_endFault_18 : decode cX10_endFault 18 = .ok (.getfield 38, 3) := by decide +kernel
theorem dX10_endFault_21 : decode cX10_endFault 21 = .ok (.iconst 2, 1) := by decide +kernel
theorem dX10_endFault_22 : decode cX10_endFault 22 = .ok (.iaload, 1) := by decide +kernel
theorem dX10_endFault_23 : decode cX10_endFault 23 = .ok (.if_icmp .ge 16, 3) := by decide +kernel
theorem dX10_endFault_26 : decode cX10_endFault 26 = .ok (.aload_n 0, 1) := by decide +kernel
theorem dX10_endFault_27 : decode cX10_endFault 27 = .ok (.getfield 165, 3) := by decide +kernel
theorem dX10_endFault_30 : decode cX10_endFault 30 = .ok (.aload_n 0, 1) := by decide +kernel
theorem dX10_endFault_31 : decode cX10_endFault 31 = .ok (.getfield 38, 3) := by decide +kernel
theorem dX10_endFault_34 : decode cX10_endFault 34 = .ok (.iconst 3, 1) := by decide +kernel
theorem dX10_endFault_35 : decode cX10_endFault 35 = .ok (.iaload, 1) := by decide +kernel
theorem dX10_endFault_36 : decode cX10_endFault 36 = .ok (.if_icmp .lt 7, 3) := by decide +kernel
theorem dX10_endFault_39 : decode cX10_endFault 39 = .ok (.iconst 4, 1) := by decide +kernel
theorem dX10_endFault_40 : decode cX10_endFault 40 = .ok (.goto 27, 3) := by decide +kernel
theorem dX10_endFault_43 : decode cX10_endFault 43 = .ok (.aload_n 0, 1) := by decide +kernel
theorem dX10_endFault_44 : decode cX10_endFault 44 = .ok (.invokevirtual 244, 3) := by decide +kernel
theorem dX10_endFault_47 : decode cX10_endFault 47 = .ok (.ifCond .eq 7, 3) := by decide +kernel
theorem dX10_endFault_50 : decode cX10_endFault 50 = .ok (.iconst 5, 1) := by decide +kernel
theorem dX10_endFault_51 : decode cX10_endFault 51 = .ok (.goto 16, 3) := by decide +kernel
theorem dX10_endFault_54 : decode cX10_endFault 54 = .ok (.aload_n 0, 1) := by decide +kernel
theorem dX10_endFault_55 : decode cX10_endFault 55 = .ok (.invokevirtual 247, 3) := by decide +kernel
theorem dX10_endFault_58 : decode cX10_endFault 58 = .ok (.ifCond .eq 8, 3) := by decide +kernel
theorem dX10_endFault_61 : decode cX10_endFault 61 = .ok (.bipush 6, 2) := by decide +kernel
theorem dX10_endFault_63 : decode cX10_endFault 63 = .ok (.goto 4, 3) := by decide +kernel
theorem dX10_endFault_66 : decode cX10_endFault 66 = .ok (.iconst 0, 1) := by decide +kernel
theorem dX10_endFault_67 : decode cX10_endFault 67 = .ok (.ireturn, 1) := by decide +kernel
theorem cdX10_isRing : Cond.code yX10_isRing cX10_isRing 4 (some .boolean) ∈ tz := tc6 180 rfl rfl
theorem lVX10_244 : LV RX10 244 yX10_isRing cX10_isRing 4 (some .boolean) 0 := ⟨tw 1496 (by decide +kernel) rfl, tw 1498 (by decide +kernel) rfl, tw 58 (by decide +kernel) rfl, tw 128 (by decide +kernel) rfl, cdX10_isRing, ⟨by decide +kernel, by decide +kernel, by decide +kernel⟩⟩
theorem cdX10_isTwice : Cond.code yX10_isTwice cX10_isTwice 3 (some .boolean) ∈ tz := tc6 184 rfl rfl
theorem lVX10_247 : LV RX10 247 yX10_isTwice cX10_isTwice 3 (some .boolean) 0 := ⟨tw 1500 (by decide +kernel) rfl, tw 1502 (by decide +kernel) rfl, tw 59 (by decide +kernel) rfl, tw 128 (by decide +kernel) rfl, cdX10_isTwice, ⟨by decide +kernel, by decide +kernel, by decide +kernel⟩⟩
abbrev rmX10_endFault : Room := { frames := 1, cells := 0, slots := 0, locals := 23 }
def fX10_endFault (a0 : Nat) (z : AH) : Option (Int32) :=
  if isO 9 z a0 = true then
    (gI 9 21 z a0).bind fun x1 =>
    (gN 9 19 z a0).bind fun b5 =>
    (ixI 0 z b5 (0 : Int32)).bind fun x9 =>
    if x9 ≤ x1 then (
      some (4 : Int32)
    ) else (
      (gI 9 22 z a0).bind fun x14 =>
      (gN 9 19 z a0).bind fun b18 =>
      (ixI 0 z b18 (2 : Int32)).bind fun x22 =>
      if x22 ≤ x14 then (
        some (4 : Int32)
      ) else (
        (gI 9 23 z a0).bind fun x27 =>
        (gN 9 19 z a0).bind fun b31 =>
        (ixI 0 z b31 (3 : Int32)).bind fun x35 =>
        if x27 < x35 then (
          (fX10_isRing a0 z).bind fun x44 =>
          if x44 = (0 : Int32) then (
            (fX10_isTwice a0 z).bind fun x55 =>
            if x55 = (0 : Int32) then (
              some (0 : Int32)
            ) else (
              some (6 : Int32)
            )
          ) else (
            some (5 : Int32)
          )
        ) else (
          some (4 : Int32)
        )
      )
    )
  else none
set_option maxHeartbeats 4000000 in
set_option maxRecDepth 100000 in
theorem ctX10_endFault (l : Launch) (G : GW) (a0 : Nat) (z : AH) {r : Int32} (h : fX10_endFault a0 z = some r) : Met l yX10_endFault (wy yX10_endFault cX10_endFault 1 (some .int)) rmX10_endFault (Pz G [.ref (gB G + a0)] z) (Qi G r z) 0 0 (AA G) := by
  refine wz_ent (own := RX10) (by decide +kernel) rfl (fun p e s m below meth c ls C hlk hr hin hW hl => ?_) (Nat.le_of_ble_eq_true rfl)
  have hl : lv_has ls 1 [(0, .ref (gB G + a0))] := hl
  have hx := C.1
  have hb := C.2.1
  unfold fX10_endFault at h
  obtain ⟨-, h⟩ := ck h
  refine lv_aload_n hx hb dX10_endFault_0 rfl (lv_at hl 0 rfl) ?_
  obtain ⟨x1, hg, h⟩ := ob h
  refine wz_gI C hW flX10_152 hg dX10_endFault_1 ?_
  refine lv_aload_n hx hb dX10_endFault_4 rfl (lv_at hl 0 rfl) ?_
  obtain ⟨b5, hg, h⟩ := ob h
  refine wz_gN C hW flX10_38 hg dX10_endFault_5 ?_
  refine lv_iconst (v := 0) hx hb dX10_endFault_8 (by decide) ?_
  obtain ⟨x9, hg, h⟩ := ob h
  refine wz_ald C hW hg dX10_endFault_9 ?_
  refine lv_icmp_ge (tgt := 39) hx hb dX10_endFault_10 (by decide) (fun c10 => ?_) (fun c10 => ?_)
  · have h := ite_t c10 h
    refine lv_iconst (v := 4) hx hb dX10_endFault_39 (by decide) ?_
    refine lv_goto (tgt := 67) hx hb dX10_endFault_40 (by decide) ?_
    exact wz_iretE C hlk hr (Option.some.inj h) rfl hW dX10_endFault_67
  · have h := ite_f c10 h
    refine lv_aload_n hx hb dX10_endFault_13 rfl (lv_at hl 0 rfl) ?_
    obtain ⟨x14, hg, h⟩ := ob h
    refine wz_gI C hW flX10_162 hg dX10_endFault_14 ?_
    refine lv_aload_n hx hb dX10_endFault_17 rfl (lv_at hl 0 rfl) ?_
    obtain ⟨b18, hg, h⟩ := ob h
    refine wz_gN C hW flX10_38 hg dX10_endFault_18 ?_
    refine lv_iconst (v := 2) hx hb dX10_endFault_21 (by decide) ?_
    obtain ⟨x22, hg, h⟩ := ob h
    refine wz_ald C hW hg dX10_endFault_22 ?_
    refine lv_icmp_ge (tgt := 39) hx hb dX10_endFault_23 (by decide) (fun c23 => ?_) (fun c23 => ?_)
    · have h := ite_t c23 h
      refine lv_iconst (v := 4) hx hb dX10_endFault_39 (by decide) ?_
      refine lv_goto (tgt := 67) hx hb dX10_endFault_40 (by decide) ?_
      exact wz_iretE C hlk hr (Option.some.inj h) rfl hW dX10_endFault_67
    · have h := ite_f c23 h
      refine lv_aload_n hx hb dX10_endFault_26 rfl (lv_at hl 0 rfl) ?_
      obtain ⟨x27, hg, h⟩ := ob h
      refine wz_gI C hW flX10_165 hg dX10_endFault_27 ?_
      refine lv_aload_n hx hb dX10_endFault_30 rfl (lv_at hl 0 rfl) ?_
      obtain ⟨b31, hg, h⟩ := ob h
      refine wz_gN C hW flX10_38 hg dX10_endFault_31 ?_
      refine lv_iconst (v := 3) hx hb dX10_endFault_34 (by decide) ?_
      obtain ⟨x35, hg, h⟩ := ob h
      refine wz_ald C hW hg dX10_endFault_35 ?_
      refine lv_icmp_lt (tgt := 43) hx hb dX10_endFault_36 (by decide) (fun c36 => ?_) (fun c36 => ?_)
      · have h := ite_t c36 h
        refine lv_aload_n hx hb dX10_endFault_43 rfl (lv_at hl 0 rfl) ?_
        obtain ⟨x44, hq, h⟩ := ob h
        refine wz_rI (c' := 0) (s' := 0) hW (wz_runV (rest := []) C hW lVX10_244 (ck hq).1 rfl (ctX10_isRing l G a0 z hq) ⟨⟨rfl, rfl⟩, Nat.le_of_ble_eq_true rfl, Nat.le_of_ble_eq_true rfl⟩ rfl hl.1 rfl (Nat.le_of_ble_eq_true rfl) dX10_endFault_44 ⟨Nat.le_of_ble_eq_true rfl, Nat.le_of_ble_eq_true rfl⟩) rfl rfl (fun H locs hW => ?_)
        refine lv_if_eq (tgt := 54) hx hb dX10_endFault_47 (by decide) (fun c47 => ?_) (fun c47 => ?_)
        · have h := ite_t c47 h
          refine lv_aload_n hx hb dX10_endFault_54 rfl (lv_at hl 0 rfl) ?_
          obtain ⟨x55, hq, h⟩ := ob h
          refine wz_rI (c' := 0) (s' := 0) hW (wz_runV (rest := []) C hW lVX10_247 (ck hq).1 rfl (ctX10_isTwice l G a0 z hq) ⟨⟨rfl, rfl⟩, Nat.le_of_ble_eq_true rfl, Nat.le_of_ble_eq_true rfl⟩ rfl hl.1 rfl (Nat.le_of_ble_eq_true rfl) dX10_endFault_55 ⟨Nat.le_of_ble_eq_true rfl, Nat.le_of_ble_eq_true rfl⟩) rfl rfl (fun H locs hW => ?_)
          refine lv_if_eq (tgt := 66) hx hb dX10_endFault_58 (by decide) (fun c58 => ?_) (fun c58 => ?_)
          · have h := ite_t c58 h
            refine lv_iconst (v := 0) hx hb dX10_endFault_66 (by decide) ?_
            exact wz_iretE C hlk hr (Option.some.inj h) rfl hW dX10_endFault_67
          · have h := ite_f c58 h
            refine lv_bipush (v := 6) hx hb dX10_endFault_61 (by decide) ?_
            refine lv_goto (tgt := 67) hx hb dX10_endFault_63 (by decide) ?_
            exact wz_iretE C hlk hr (Option.some.inj h) rfl hW dX10_endFault_67
        · have h := ite_f c47 h
          refine lv_iconst (v := 5) hx hb dX10_endFault_50 (by decide) ?_
          refine lv_goto (tgt := 67) hx hb dX10_endFault_51 (by decide) ?_
          exact wz_iretE C hlk hr (Option.some.inj h) rfl hW dX10_endFault_67
      · have h := ite_f c36 h
        refine lv_iconst (v := 4) hx hb dX10_endFault_39 (by decide) ?_
        refine lv_goto (tgt := 67) hx hb dX10_endFault_40 (by decide) ?_
        exact wz_iretE C hlk hr (Option.some.inj h) rfl hW dX10_endFault_67
theorem dX10_readText_0 : decode cX10_readText 0 = .ok (.iconst 0, 1) := by decide +kernel
theorem dX10_readText_1 : decode cX10_readText 1 = .ok (.istore_n 2, 1) := by decide +kernel
theorem dX10_readText_2 : decode cX10_readText 2 = .ok (.iload_n 2, 1) := by decide +kernel
theorem dX10_readText_3 : decode cX10_readText 3 = .ok (.bipush 121, 2) := by decide +kernel
theorem dX10_readText_5 : decode cX10_readText 5 = .ok (.if_icmp .ge 48, 3) := by decide +kernel
theorem dX10_readText_8 : decode cX10_readText 8 = .ok (.aload_n 0, 1) := by decide +kernel
theorem dX10_readText_9 : decode cX10_readText 9 = .ok (.getfield 38, 3) := by decide +kernel
theorem dX10_readText_12 : decode cX10_readText 12 = .ok (.iload_n 2, 1) := by decide +kernel
theorem dX10_readText_13 : decode cX10_readText 13 = .ok (.iload_n 1, 1) := by decide +kernel
theorem dX10_readText_14 : decode cX10_readText 14 = .ok (.ifCond .ne 18, 3) := by decide +kernel
theorem dX10_readText_17 : decode cX10_readText 17 = .ok (.iload_n 2, 1) := by decide +kernel
theorem dX10_readText_18 : decode cX10_readText 18 = .ok (.bipush 30, 2) := by decide +kernel
theorem dX10_readText_20 : decode cX10_readText 20 = .ok (.bipush 37, 2) := by decide +kernel
theorem dX10_readText_22 : decode cX10_readText 22 = .ok (.invokestatic 93, 3) := by decide +kernel
theorem dX10_readText_25 : decode cX10_readText 25 = .ok (.ifCond .eq 7, 3) := by decide +kernel
theorem dX10_readText_28 : decode cX10_readText 28 = .ok (.iconst (-1), 1) := by decide +kernel
theorem dX10_readText_29 : decode cX10_readText 29 = .ok (.goto 17, 3) := by decide +kernel
theorem dX10_readText_32 : decode cX10_readText 32 = .ok (.iload_n 1, 1) := by decide +kernel
theorem dX10_readText_33 : decode cX10_readText 33 = .ok (.ifCond .ne 12, 3) := by decide +kernel
theorem dX10_readText_36 : decode cX10_readText 36 = .ok (.iload_n 2, 1) := by decide +kernel
theorem dX10_readText_37 : decode cX10_readText 37 = .ok (.iconst 5, 1) := by decide +kernel
theorem dX10_readText_38 : decode cX10_readText 38 = .ok (.if_icmp .ne 7, 3) := by decide +kernel
theorem dX10_readText_41 : decode cX10_readText 41 = .ok (.iconst 3, 1) := by decide +kernel
theorem dX10_readText_42 : decode cX10_readText 42 = .ok (.goto 4, 3) := by decide +kernel
theorem dX10_readText_45 : decode cX10_readText 45 = .ok (.iconst 0, 1) := by decide +kernel
theorem dX10_readText_46 : decode cX10_readText 46 = .ok (.iastore, 1) := by decide +kernel
theorem dX10_readText_47 : decode cX10_readText 47 = .ok (.iinc 2 1, 3) := by decide +kernel
theorem dX10_readText_50 : decode cX10_readText 50 = .ok (.goto (-48), 3) := by decide +kernel
theorem dX10_readText_53 : decode cX10_readText 53 = .ok (.aload_n 0, 1) := by decide +kernel
theorem dX10_readText_54 : decode cX10_readText 54 = .ok (.iconst (-1), 1) := by decide +kernel
theorem dX10_readText_55 : decode cX10_readText 55 = .ok (.putfield 152, 3) := by decide +kernel
theorem dX10_readText_58 : decode cX10_readText 58 = .ok (.aload_n 0, 1) := by decide +kernel
theorem dX10_readText_59 : decode cX10_readText 59 = .ok (.iconst (-1), 1) := by decide +kernel
theorem dX10_readText_60 : decode cX10_readText 60 = .ok (.putfield 162, 3) := by decide +kernel
theorem dX10_readText_63 : decode cX10_readText 63 = .ok (.aload_n 0, 1) := by decide +kernel
theorem dX10_readText_64 : decode cX10_readText 64 = .ok (.iconst (-1), 1) := by decide +kernel
theorem dX10_readText_65 : decode cX10_readText 65 = .ok (.putfield 165, 3) := by decide +kernel
theorem dX10_readText_68 : decode cX10_readText 68 = .ok (.aload_n 0, 1) := by decide +kernel
theorem dX10_readText_69 : decode cX10_readText 69 = .ok (.iconst 0, 1) := by decide +kernel
theorem dX10_readText_70 : decode cX10_readText 70 = .ok (.putfield 101, 3) := by decide +kernel
theorem dX10_readText_73 : decode cX10_readText 73 = .ok (.aload_n 0, 1) := by decide +kernel
theorem dX10_readText_74 : decode cX10_readText 74 = .ok (.iconst 0, 1) := by decide +kernel
theorem dX10_readText_75 : decode cX10_readText 75 = .ok (.putfield 127, 3) := by decide +kernel
theorem dX10_readText_78 : decode cX10_readText 78 = .ok (.aload_n 0, 1) := by decide +kernel
theorem dX10_readText_79 : decode cX10_readText 79 = .ok (.invokevirtual 145, 3) := by decide +kernel
theorem dX10_readText_82 : decode cX10_readText 82 = .ok (.aload_n 0, 1) := by decide +kernel
theorem dX10_readText_83 : decode cX10_readText 83 = .ok (.iload_n 1, 1) := by decide +kernel
theorem dX10_readText_84 : decode cX10_readText 84 = .ok (.invokevirtual 250, 3) := by decide +kernel
theorem dX10_readText_87 : decode cX10_readText 87 = .ok (.istore_n 2, 1) := by decide +kernel
theorem dX10_readText_88 : decode cX10_readText 88 = .ok (.iload_n 2, 1) := by decide +kernel
theorem dX10_readText_89 : decode cX10_readText 89 = .ok (.ifCond .eq 33, 3) := by decide +kernel
theorem dX10_readText_92 : decode cX10_readText 92 = .ok (.iload_n 1, 1) := by decide +kernel
theorem dX10_readText_93 : decode cX10_readText 93 = .ok (.ifCond .ne 29, 3) := by decide +kernel
theorem dX10_readText_96 : decode cX10_readText 96 = .ok (.aload_n 0, 1) := by decide +kernel
theorem dX10_readText_97 : decode cX10_readText 97 = .ok (.getfield 127, 3) := by decide +kernel
theorem dX10_readText_100 : decode cX10_readText 100 = .ok (.ifCond .ne 22, 3) := by decide +kernel
theorem dX10_readText_103 : decode cX10_readText 103 = .ok (.aload_n 0, 1) := by decide +kernel
theorem dX10_readText_104 : decode cX10_readText 104 = .ok (.invokevirtual 253, 3) := by decide +kernel
theorem dX10_readText_107 : decode cX10_readText 107 = .ok (.ifCond .le 15, 3) := by decide +kernel
theorem dX10_readText_110 : decode cX10_readText 110 = .ok (.aload_n 0, 1) := by decide +kernel
theorem dX10_readText_111 : decode cX10_readText 111 = .ok (.aload_n 0, 1) := by decide +kernel
theorem dX10_readText_112 : decode cX10_readText 112 = .ok (.invokevirtual 253, 3) := by decide +kernel
theorem dX10_readText_115 : decode cX10_readText 115 = .ok (.aload_n 0, 1) := by decide +kernel
theorem dX10_readText_116 : decode cX10_readText 116 = .ok (.getfield 111, 3) := by decide +kernel
theorem dX10_readText_119 : decode cX10_readText 119 = .ok (.invokevirtual 137, 3) := by decide +kernel
theorem dX10_readText_122 : decode cX10_readText 122 = .ok (.aload_n 0, 1) := by decide +kernel
theorem dX10_readText_123 : decode cX10_readText 123 = .ok (.getfield 17, 3) := by decide +kernel
theorem dX10_readText_126 : decode cX10_readText 126 = .ok (.iconst 0, 1) := by decide +kernel
theorem dX10_readText_127 : decode cX10_readText 127 = .ok (.iload_n 2, 1) := by decide +kernel
theorem dX10_readText_128 : decode cX10_readText 128 = .ok (.ifCond .eq 10, 3) := by decide +kernel
theorem dX10_readText_131 : decode cX10_readText 131 = .ok (.aload_n 0, 1) := by decide +kernel
theorem dX10_readText_132 : decode cX10_readText 132 = .ok (.getfield 127, 3) := by decide +kernel
theorem dX10_readText_135 : decode cX10_readText 135 = .ok (.goto 4, 3) := by decide +kernel
theorem dX10_readText_138 : decode cX10_readText 138 = .ok (.iconst 1, 1) := by decide +kernel
theorem dX10_readText_139 : decode cX10_readText 139 = .ok (.iastore, 1) := by decide +kernel
theorem dX10_readText_140 : decode cX10_readText 140 = .ok (.aload_n 0, 1) := by decide +kernel
theorem dX10_readText_141 : decode cX10_readText 141 = .ok (.getfield 20, 3) := by decide +kernel
theorem dX10_readText_144 : decode cX10_readText 144 = .ok (.iconst 0, 1) := by decide +kernel
theorem dX10_readText_145 : decode cX10_readText 145 = .ok (.iload_n 2, 1) := by decide +kernel
theorem dX10_readText_146 : decode cX10_readText 146 = .ok (.ifCond .ne 10, 3) := by decide +kernel
theorem dX10_readText_149 : decode cX10_readText 149 = .ok (.aload_n 0, 1) := by decide +kernel
theorem dX10_readText_150 : decode cX10_readText 150 = .ok (.getfield 124, 3) := by decide +kernel
theorem dX10_readText_153 : decode cX10_readText 153 = .ok (.goto 18, 3) := by decide +kernel
theorem dX10_readText_156 : decode cX10_readText 156 = .ok (.aload_n 0, 1) := by decide +kernel
theorem dX10_readText_157 : decode cX10_readText 157 = .ok (.getfield 127, 3) := by decide +kernel
theorem dX10_readText_160 : decode cX10_readText 160 = .ok (.ifCond .le 10, 3) := by decide +kernel
theorem dX10_readText_163 : decode cX10_readText 163 = .ok (.aload_n 0, 1) := by decide +kernel
theorem dX10_readText_164 : decode cX10_readText 164 = .ok (.getfield 130, 3) := by decide +kernel
theorem dX10_readText_167 : decode cX10_readText 167 = .ok (.goto 4, 3) := by decide +kernel
theorem dX10_readText_170 : decode cX10_readText 170 = .ok (.iconst (-1), 1) := by decide +kernel
theorem dX10_readText_171 : decode cX10_readText 171 = .ok (.iastore, 1) := by decide +kernel
theorem dX10_readText_172 : decode cX10_readText 172 = .ok (.aload_n 0, 1) := by decide +kernel
theorem dX10_readText_173 : decode cX10_readText 173 = .ok (.getfield 17, 3) := by decide +kernel
theorem dX10_readText_176 : decode cX10_readText 176 = .ok (.iconst 0, 1) := by decide +kernel
theorem dX10_readText_177 : decode cX10_readText 177 = .ok (.iaload, 1) := by decide +kernel
theorem dX10_readText_178 : decode cX10_readText 178 = .ok (.ifCond .ne 7, 3) := by decide +kernel
theorem dX10_readText_181 : decode cX10_readText 181 = .ok (.iconst 1, 1) := by decide +kernel
theorem dX10_readText_182 : decode cX10_readText 182 = .ok (.goto 4, 3) := by decide +kernel
theorem dX10_readText_185 : decode cX10_readText 185 = .ok (.iconst 0, 1) := by decide +kernel
theorem dX10_readText_186 : decode cX10_readText 186 = .ok (.ireturn, 1) := by decide +kernel
theorem cdX10_lines : Cond.code yX10_lines cX10_lines 4 (some .boolean) ∈ tz := tc6 87 rfl rfl
theorem lVX10_250 : LV RX10 250 yX10_lines cX10_lines 4 (some .boolean) 1 := ⟨tw 1403 (by decide +kernel) rfl, tw 1405 (by decide +kernel) rfl, tw 40 (by decide +kernel) rfl, tw 128 (by decide +kernel) rfl, cdX10_lines, ⟨by decide +kernel, by decide +kernel, by decide +kernel⟩⟩
theorem cdX10_endFault : Cond.code yX10_endFault cX10_endFault 1 (some .int) ∈ tz := tc6 176 rfl rfl
theorem lVX10_253 : LV RX10 253 yX10_endFault cX10_endFault 1 (some .int) 0 := ⟨tw 1492 (by decide +kernel) rfl, tw 1494 (by decide +kernel) rfl, tw 57 (by decide +kernel) rfl, tw 128 (by decide +kernel) rfl, cdX10_endFault, ⟨by decide +kernel, by decide +kernel, by decide +kernel⟩⟩
abbrev rmX10_readText : Room := { frames := 8, cells := 0, slots := 0, locals := 183 }
def bX10_readText_171 (a0 : Nat) (s0 : Nat) (s1 : Int32) (s2 : Int32) (z : AH) : Option (Int32 × AH) :=
  (stI 0 z s0 s1 s2).bind fun z171 =>
  (gN 9 3 z171 a0).bind fun b173 =>
  (ixI 0 z171 b173 (0 : Int32)).bind fun x177 =>
  if x177 = (0 : Int32) then (
    some ((1 : Int32), z171)
  ) else (
    some ((0 : Int32), z171)
  )
set_option maxHeartbeats 4000000 in
set_option maxRecDepth 100000 in
theorem kbX10_readText_171 {p : Program} {l : Launch} {e : Env} {s : State} {m : MethodId} {args : Array Value} {below : List Frame} {meth : Method} {c : Code} {G : GW} {r : Int32} {z' : AH} (C : Cx p m c cX10_readText 3 s args RX10 G) (hlk : meth.locks = false) (hr : meth.sig.returnType = (some .boolean)) (a0 : Nat) (s0 : Nat) (s1 : Int32) (s2 : Int32) {z : AH} {H : Heap} {locs : List Loc} {ls : Array Slot} (h : bX10_readText_171 a0 s0 s1 s2 z = some (r, z')) (hW : Wb G z s H locs) (hl : lv_has ls 3 [(0, .ref (gB G + a0))]) : W p l e rmX10_readText s m args below meth c H locs 0 0 (MQ below (Qi G r z') args s 0 0 (AA G)) (F0 m 171 ls [.int s2, .int s1, .ref (gB G + s0)]) := by
  have hx := C.1
  have hb := C.2.1
  unfold bX10_readText_171 at h
  obtain ⟨z171, hg, h⟩ := ob h
  refine wz_ast C hW hg dX10_readText_171 (fun H locs hW => ?_)
  refine lv_aload_n hx hb dX10_readText_172 rfl (lv_at hl 0 rfl) ?_
  obtain ⟨b173, hg, h⟩ := ob h
  refine wz_gN C hW flX10_17 hg dX10_readText_173 ?_
  refine lv_iconst (v := 0) hx hb dX10_readText_176 (by decide) ?_
  obtain ⟨x177, hg, h⟩ := ob h
  refine wz_ald C hW hg dX10_readText_177 ?_
  refine lv_if_ne (tgt := 185) hx hb dX10_readText_178 (by decide) (fun c178 => ?_) (fun c178 => ?_)
  · have h := ite_f c178 h
    refine lv_iconst (v := 0) hx hb dX10_readText_185 (by decide) ?_
    exact wz_zretE C hlk hr (Or.inl rfl) (so2 h).1 (so2 h).2 hW dX10_readText_186
  · have h := ite_t c178 h
    refine lv_iconst (v := 1) hx hb dX10_readText_181 (by decide) ?_
    refine lv_goto (tgt := 186) hx hb dX10_readText_182 (by decide) ?_
    exact wz_zretE C hlk hr (Or.inr rfl) (so2 h).1 (so2 h).2 hW dX10_readText_186
def bX10_readText_139 (a0 : Nat) (l2 : Int32) (s0 : Nat) (s1 : Int32) (s2 : Int32) (z : AH) : Option (Int32 × AH) :=
  (stI 0 z s0 s1 s2).bind fun z139 =>
  (gN 9 4 z139 a0).bind fun b141 =>
  if l2 = (0 : Int32) then (
    (gI 9 16 z139 a0).bind fun x150 =>
    bX10_readText_171 a0 b141 (0 : Int32) x150 z139
  ) else (
    (gI 9 17 z139 a0).bind fun x157 =>
    if x157 ≤ (0 : Int32) then (
      bX10_readText_171 a0 b141 (0 : Int32) (-1 : Int32) z139
    ) else (
      (gI 9 18 z139 a0).bind fun x164 =>
      bX10_readText_171 a0 b141 (0 : Int32) x164 z139
    )
  )
set_option maxHeartbeats 4000000 in
set_option maxRecDepth 100000 in
theorem kbX10_readText_139 {p : Program} {l : Launch} {e : Env} {s : State} {m : MethodId} {args : Array Value} {below : List Frame} {meth : Method} {c : Code} {G : GW} {r : Int32} {z' : AH} (C : Cx p m c cX10_readText 3 s args RX10 G) (hlk : meth.locks = false) (hr : meth.sig.returnType = (some .boolean)) (a0 : Nat) (l2 : Int32) (s0 : Nat) (s1 : Int32) (s2 : Int32) {z : AH} {H : Heap} {locs : List Loc} {ls : Array Slot} (h : bX10_readText_139 a0 l2 s0 s1 s2 z = some (r, z')) (hW : Wb G z s H locs) (hl : lv_has ls 3 [(0, .ref (gB G + a0)), (2, .int l2)]) : W p l e rmX10_readText s m args below meth c H locs 0 0 (MQ below (Qi G r z') args s 0 0 (AA G)) (F0 m 139 ls [.int s2, .int s1, .ref (gB G + s0)]) := by
  have hx := C.1
  have hb := C.2.1
  unfold bX10_readText_139 at h
  obtain ⟨z139, hg, h⟩ := ob h
  refine wz_ast C hW hg dX10_readText_139 (fun H locs hW => ?_)
  refine lv_aload_n hx hb dX10_readText_140 rfl (lv_at hl 0 rfl) ?_
  obtain ⟨b141, hg, h⟩ := ob h
  refine wz_gN C hW flX10_20 hg dX10_readText_141 ?_
  refine lv_iconst (v := 0) hx hb dX10_readText_144 (by decide) ?_
  refine lv_iload_n hx hb dX10_readText_145 rfl (lv_at hl 1 rfl) ?_
  refine lv_if_ne (tgt := 156) hx hb dX10_readText_146 (by decide) (fun c146 => ?_) (fun c146 => ?_)
  · have h := ite_f c146 h
    refine lv_aload_n hx hb dX10_readText_156 rfl (lv_at hl 0 rfl) ?_
    obtain ⟨x157, hg, h⟩ := ob h
    refine wz_gI C hW flX10_127 hg dX10_readText_157 ?_
    refine lv_if_le (tgt := 170) hx hb dX10_readText_160 (by decide) (fun c160 => ?_) (fun c160 => ?_)
    · have h := ite_t c160 h
      refine lv_iconst (v := -1) hx hb dX10_readText_170 (by decide) ?_
      exact kbX10_readText_171 C hlk hr a0 b141 (0 : Int32) (-1 : Int32) h hW (lv_sub hl [0] rfl)
    · have h := ite_f c160 h
      refine lv_aload_n hx hb dX10_readText_163 rfl (lv_at hl 0 rfl) ?_
      obtain ⟨x164, hg, h⟩ := ob h
      refine wz_gI C hW flX10_130 hg dX10_readText_164 ?_
      refine lv_goto (tgt := 171) hx hb dX10_readText_167 (by decide) ?_
      exact kbX10_readText_171 C hlk hr a0 b141 (0 : Int32) x164 h hW (lv_sub hl [0] rfl)
  · have h := ite_t c146 h
    refine lv_aload_n hx hb dX10_readText_149 rfl (lv_at hl 0 rfl) ?_
    obtain ⟨x150, hg, h⟩ := ob h
    refine wz_gI C hW flX10_124 hg dX10_readText_150 ?_
    refine lv_goto (tgt := 171) hx hb dX10_readText_153 (by decide) ?_
    exact kbX10_readText_171 C hlk hr a0 b141 (0 : Int32) x150 h hW (lv_sub hl [0] rfl)
def bX10_readText_122 (a0 : Nat) (l2 : Int32) (z : AH) : Option (Int32 × AH) :=
  (gN 9 3 z a0).bind fun b123 =>
  if l2 = (0 : Int32) then (
    bX10_readText_139 a0 l2 b123 (0 : Int32) (1 : Int32) z
  ) else (
    (gI 9 17 z a0).bind fun x132 =>
    bX10_readText_139 a0 l2 b123 (0 : Int32) x132 z
  )
set_option maxHeartbeats 4000000 in
set_option maxRecDepth 100000 in
theorem kbX10_readText_122 {p : Program} {l : Launch} {e : Env} {s : State} {m : MethodId} {args : Array Value} {below : List Frame} {meth : Method} {c : Code} {G : GW} {r : Int32} {z' : AH} (C : Cx p m c cX10_readText 3 s args RX10 G) (hlk : meth.locks = false) (hr : meth.sig.returnType = (some .boolean)) (a0 : Nat) (l2 : Int32) {z : AH} {H : Heap} {locs : List Loc} {ls : Array Slot} (h : bX10_readText_122 a0 l2 z = some (r, z')) (hW : Wb G z s H locs) (hl : lv_has ls 3 [(0, .ref (gB G + a0)), (2, .int l2)]) : W p l e rmX10_readText s m args below meth c H locs 0 0 (MQ below (Qi G r z') args s 0 0 (AA G)) (F0 m 122 ls []) := by
  have hx := C.1
  have hb := C.2.1
  unfold bX10_readText_122 at h
  refine lv_aload_n hx hb dX10_readText_122 rfl (lv_at hl 0 rfl) ?_
  obtain ⟨b123, hg, h⟩ := ob h
  refine wz_gN C hW flX10_17 hg dX10_readText_123 ?_
  refine lv_iconst (v := 0) hx hb dX10_readText_126 (by decide) ?_
  refine lv_iload_n hx hb dX10_readText_127 rfl (lv_at hl 1 rfl) ?_
  refine lv_if_eq (tgt := 138) hx hb dX10_readText_128 (by decide) (fun c128 => ?_) (fun c128 => ?_)
  · have h := ite_t c128 h
    refine lv_iconst (v := 1) hx hb dX10_readText_138 (by decide) ?_
    exact kbX10_readText_139 C hlk hr a0 l2 b123 (0 : Int32) (1 : Int32) h hW (lv_sub hl [0, 1] rfl)
  · have h := ite_f c128 h
    refine lv_aload_n hx hb dX10_readText_131 rfl (lv_at hl 0 rfl) ?_
    obtain ⟨x132, hg, h⟩ := ob h
    refine wz_gI C hW flX10_127 hg dX10_readText_132 ?_
    refine lv_goto (tgt := 139) hx hb dX10_readText_135 (by decide) ?_
    exact kbX10_readText_139 C hlk hr a0 l2 b123 (0 : Int32) x132 h hW (lv_sub hl [0, 1] rfl)
def bX10_readText_32 (k2 : Nat → Int32 → Int32 → AH → Option (Int32 × AH)) (a0 : Nat) (l1 : Int32) (l2 : Int32) (s0 : Nat) (s1 : Int32) (z : AH) : Option (Int32 × AH) :=
  if l1 = (0 : Int32) then (
    if l2 = (5 : Int32) then (
      (stI 0 z s0 s1 (3 : Int32)).bind fun z46 =>
      nm (l2 + (1 : Int32)) fun v47 =>
      k2 a0 l1 v47 z46
    ) else (
      (stI 0 z s0 s1 (0 : Int32)).bind fun z46 =>
      nm (l2 + (1 : Int32)) fun v47 =>
      k2 a0 l1 v47 z46
    )
  ) else (
    (stI 0 z s0 s1 (0 : Int32)).bind fun z46 =>
    nm (l2 + (1 : Int32)) fun v47 =>
    k2 a0 l1 v47 z46
  )
set_option maxHeartbeats 4000000 in
set_option maxRecDepth 100000 in
theorem kbX10_readText_32 {p : Program} {l : Launch} {e : Env} {s : State} {m : MethodId} {args : Array Value} {below : List Frame} {meth : Method} {c : Code} {G : GW} {r : Int32} {z' : AH} (C : Cx p m c cX10_readText 3 s args RX10 G) (hlk : meth.locks = false) (hr : meth.sig.returnType = (some .boolean)) (k2 : Nat → Int32 → Int32 → AH → Option (Int32 × AH)) (hk2 : ∀ (a0 : Nat) (l1 : Int32) (l2 : Int32) (z : AH) (H : Heap) (locs : List Loc) (ls : Array Slot), k2 a0 l1 l2 z = some (r, z') → Wb G z s H locs → lv_has ls 3 [(0, .ref (gB G + a0)), (1, .int l1), (2, .int l2)] → W p l e rmX10_readText s m args below meth c H locs 0 0 (MQ below (Qi G r z') args s 0 0 (AA G)) (F0 m 2 ls [])) (a0 : Nat) (l1 : Int32) (l2 : Int32) (s0 : Nat) (s1 : Int32) {z : AH} {H : Heap} {locs : List Loc} {ls : Array Slot} (h : bX10_readText_32 k2 a0 l1 l2 s0 s1 z = some (r, z')) (hW : Wb G z s H locs) (hl : lv_has ls 3 [(0, .ref (gB G + a0)), (1, .int l1), (2, .int l2)]) : W p l e rmX10_readText s m args below meth c H locs 0 0 (MQ below (Qi G r z') args s 0 0 (AA G)) (F0 m 32 ls [.int s1, .ref (gB G + s0)]) := by
  have hx := C.1
  have hb := C.2.1
  unfold bX10_readText_32 at h
  refine lv_iload_n hx hb dX10_readText_32 rfl (lv_at hl 1 rfl) ?_
  refine lv_if_ne (tgt := 45) hx hb dX10_readText_33 (by decide) (fun c33 => ?_) (fun c33 => ?_)
  · have h := ite_f c33 h
    refine lv_iconst (v := 0) hx hb dX10_readText_45 (by decide) ?_
    obtain ⟨z46, hg, h⟩ := ob h
    refine wz_ast C hW hg dX10_readText_46 (fun H locs hW => ?_)
    obtain ⟨v47, ev47⟩ : ∃ y : Int32, y = (l2 + (1 : Int32)) := ⟨_, rfl⟩
    have h := nm_to h ev47
    refine lv_iinc (v := v47) (lv' := [(2, .int v47), (0, .ref (gB G + a0)), (1, .int l1)]) hx hb dX10_readText_47 hl (k := 2) rfl (by rw [ev47]; rfl) (by decide) rfl (fun ls hl => ?_)
    refine lv_goto (tgt := 2) hx hb dX10_readText_50 (by decide) ?_
    exact hk2 a0 l1 v47 z46 _ _ _ h hW (lv_sub hl [1, 2, 0] rfl)
  · have h := ite_t c33 h
    refine lv_iload_n hx hb dX10_readText_36 rfl (lv_at hl 2 rfl) ?_
    refine lv_iconst (v := 5) hx hb dX10_readText_37 (by decide) ?_
    refine lv_icmp_ne (tgt := 45) hx hb dX10_readText_38 (by decide) (fun c38 => ?_) (fun c38 => ?_)
    · have h := ite_f c38 h
      refine lv_iconst (v := 0) hx hb dX10_readText_45 (by decide) ?_
      obtain ⟨z46, hg, h⟩ := ob h
      refine wz_ast C hW hg dX10_readText_46 (fun H locs hW => ?_)
      obtain ⟨v47, ev47⟩ : ∃ y : Int32, y = (l2 + (1 : Int32)) := ⟨_, rfl⟩
      have h := nm_to h ev47
      refine lv_iinc (v := v47) (lv' := [(2, .int v47), (0, .ref (gB G + a0)), (1, .int l1)]) hx hb dX10_readText_47 hl (k := 2) rfl (by rw [ev47]; rfl) (by decide) rfl (fun ls hl => ?_)
      refine lv_goto (tgt := 2) hx hb dX10_readText_50 (by decide) ?_
      exact hk2 a0 l1 v47 z46 _ _ _ h hW (lv_sub hl [1, 2, 0] rfl)
    · have h := ite_t c38 h
      refine lv_iconst (v := 3) hx hb dX10_readText_41 (by decide) ?_
      refine lv_goto (tgt := 46) hx hb dX10_readText_42 (by decide) ?_
      obtain ⟨z46, hg, h⟩ := ob h
      refine wz_ast C hW hg dX10_readText_46 (fun H locs hW => ?_)
      obtain ⟨v47, ev47⟩ : ∃ y : Int32, y = (l2 + (1 : Int32)) := ⟨_, rfl⟩
      have h := nm_to h ev47
      refine lv_iinc (v := v47) (lv' := [(2, .int v47), (0, .ref (gB G + a0)), (1, .int l1)]) hx hb dX10_readText_47 hl (k := 2) rfl (by rw [ev47]; rfl) (by decide) rfl (fun ls hl => ?_)
      refine lv_goto (tgt := 2) hx hb dX10_readText_50 (by decide) ?_
      exact hk2 a0 l1 v47 z46 _ _ _ h hW (lv_sub hl [1, 2, 0] rfl)
def bX10_readText_2 (k2 : Nat → Int32 → Int32 → AH → Option (Int32 × AH)) (a0 : Nat) (l1 : Int32) (l2 : Int32) (z : AH) : Option (Int32 × AH) :=
  if (121 : Int32) ≤ l2 then (
    (pF 9 21 z a0 (.int (-1 : Int32))).bind fun z55 =>
    (pF 9 22 z55 a0 (.int (-1 : Int32))).bind fun z60 =>
    (pF 9 23 z60 a0 (.int (-1 : Int32))).bind fun z65 =>
    (pF 9 10 z65 a0 (.int (0 : Int32))).bind fun z70 =>
    (pF 9 17 z70 a0 (.int (0 : Int32))).bind fun z75 =>
    (fX10_token a0 z75).bind fun z79 =>
    b2 (fX10_lines a0 l1 z79) fun x84 z84 =>
    if x84 = (0 : Int32) then (
      bX10_readText_122 a0 x84 z84
    ) else (
      if l1 = (0 : Int32) then (
        (gI 9 17 z84 a0).bind fun x97 =>
        if x97 = (0 : Int32) then (
          (fX10_endFault a0 z84).bind fun x104 =>
          if x104 ≤ (0 : Int32) then (
            bX10_readText_122 a0 x84 z84
          ) else (
            (fX10_endFault a0 z84).bind fun x112 =>
            (gI 9 12 z84 a0).bind fun x116 =>
            (fX10_later a0 x112 x116 z84).bind fun z119 =>
            bX10_readText_122 a0 x84 z119
          )
        ) else (
          bX10_readText_122 a0 x84 z84
        )
      ) else (
        bX10_readText_122 a0 x84 z84
      )
    )
  ) else (
    (gN 9 19 z a0).bind fun b9 =>
    if l1 = (0 : Int32) then (
      if (fX10_in l2 (30 : Int32) (37 : Int32)) = (0 : Int32) then (
        bX10_readText_32 k2 a0 l1 l2 b9 l2 z
      ) else (
        (stI 0 z b9 l2 (-1 : Int32)).bind fun z46 =>
        nm (l2 + (1 : Int32)) fun v47 =>
        k2 a0 l1 v47 z46
      )
    ) else (
      bX10_readText_32 k2 a0 l1 l2 b9 l2 z
    )
  )
set_option maxHeartbeats 4000000 in
set_option maxRecDepth 100000 in
theorem kbX10_readText_2 {p : Program} {l : Launch} {e : Env} {s : State} {m : MethodId} {args : Array Value} {below : List Frame} {meth : Method} {c : Code} {G : GW} {r : Int32} {z' : AH} (C : Cx p m c cX10_readText 3 s args RX10 G) (hlk : meth.locks = false) (hr : meth.sig.returnType = (some .boolean)) (k2 : Nat → Int32 → Int32 → AH → Option (Int32 × AH)) (hk2 : ∀ (a0 : Nat) (l1 : Int32) (l2 : Int32) (z : AH) (H : Heap) (locs : List Loc) (ls : Array Slot), k2 a0 l1 l2 z = some (r, z') → Wb G z s H locs → lv_has ls 3 [(0, .ref (gB G + a0)), (1, .int l1), (2, .int l2)] → W p l e rmX10_readText s m args below meth c H locs 0 0 (MQ below (Qi G r z') args s 0 0 (AA G)) (F0 m 2 ls [])) (a0 : Nat) (l1 : Int32) (l2 : Int32) {z : AH} {H : Heap} {locs : List Loc} {ls : Array Slot} (h : bX10_readText_2 k2 a0 l1 l2 z = some (r, z')) (hW : Wb G z s H locs) (hl : lv_has ls 3 [(0, .ref (gB G + a0)), (1, .int l1), (2, .int l2)]) : W p l e rmX10_readText s m args below meth c H locs 0 0 (MQ below (Qi G r z') args s 0 0 (AA G)) (F0 m 2 ls []) := by
  have hx := C.1
  have hb := C.2.1
  unfold bX10_readText_2 at h
  refine lv_iload_n hx hb dX10_readText_2 rfl (lv_at hl 2 rfl) ?_
  refine lv_bipush (v := 121) hx hb dX10_readText_3 (by decide) ?_
  refine lv_icmp_ge (tgt := 53) hx hb dX10_readText_5 (by decide) (fun c5 => ?_) (fun c5 => ?_)
  · have h := ite_t c5 h
    refine lv_aload_n hx hb dX10_readText_53 rfl (lv_at hl 0 rfl) ?_
    refine lv_iconst (v := -1) hx hb dX10_readText_54 (by decide) ?_
    obtain ⟨z55, hg, h⟩ := ob h
    refine wz_put (v := (.int (-1 : Int32))) C hW flX10_152 rfl rfl hg dX10_readText_55 (fun H locs hW => ?_)
    refine lv_aload_n hx hb dX10_readText_58 rfl (lv_at hl 0 rfl) ?_
    refine lv_iconst (v := -1) hx hb dX10_readText_59 (by decide) ?_
    obtain ⟨z60, hg, h⟩ := ob h
    refine wz_put (v := (.int (-1 : Int32))) C hW flX10_162 rfl rfl hg dX10_readText_60 (fun H locs hW => ?_)
    refine lv_aload_n hx hb dX10_readText_63 rfl (lv_at hl 0 rfl) ?_
    refine lv_iconst (v := -1) hx hb dX10_readText_64 (by decide) ?_
    obtain ⟨z65, hg, h⟩ := ob h
    refine wz_put (v := (.int (-1 : Int32))) C hW flX10_165 rfl rfl hg dX10_readText_65 (fun H locs hW => ?_)
    refine lv_aload_n hx hb dX10_readText_68 rfl (lv_at hl 0 rfl) ?_
    refine lv_iconst (v := 0) hx hb dX10_readText_69 (by decide) ?_
    obtain ⟨z70, hg, h⟩ := ob h
    refine wz_put (v := (.int (0 : Int32))) C hW flX10_101 rfl rfl hg dX10_readText_70 (fun H locs hW => ?_)
    refine lv_aload_n hx hb dX10_readText_73 rfl (lv_at hl 0 rfl) ?_
    refine lv_iconst (v := 0) hx hb dX10_readText_74 (by decide) ?_
    obtain ⟨z75, hg, h⟩ := ob h
    refine wz_put (v := (.int (0 : Int32))) C hW flX10_127 rfl rfl hg dX10_readText_75 (fun H locs hW => ?_)
    refine lv_aload_n hx hb dX10_readText_78 rfl (lv_at hl 0 rfl) ?_
    obtain ⟨z79, hq, h⟩ := ob h
    refine wz_rV (c' := 0) (s' := 0) hW (wz_runV (rest := []) C hW lVX10_145 (ck hq).1 rfl (ctX10_token l G a0 z75 hq) ⟨⟨rfl, rfl⟩, Nat.le_of_ble_eq_true rfl, Nat.le_of_ble_eq_true rfl⟩ rfl hl.1 rfl (Nat.le_of_ble_eq_true rfl) dX10_readText_79 ⟨Nat.le_of_ble_eq_true rfl, Nat.le_of_ble_eq_true rfl⟩) rfl rfl (fun H locs hW => ?_)
    refine lv_aload_n hx hb dX10_readText_82 rfl (lv_at hl 0 rfl) ?_
    refine lv_iload_n hx hb dX10_readText_83 rfl (lv_at hl 1 rfl) ?_
    obtain ⟨x84, z84, hq, h⟩ := ob2 h
    refine wz_rI (c' := 0) (s' := 0) hW (wz_runV (rest := []) C hW lVX10_250 (ck hq).1 rfl (ctX10_lines l G a0 l1 z79 hq) ⟨⟨rfl, rfl⟩, Nat.le_of_ble_eq_true rfl, Nat.le_of_ble_eq_true rfl⟩ rfl hl.1 rfl (Nat.le_of_ble_eq_true rfl) dX10_readText_84 ⟨Nat.le_of_ble_eq_true rfl, Nat.le_of_ble_eq_true rfl⟩) rfl rfl (fun H locs hW => ?_)
    refine lv_istore_n (lv' := [(2, .int x84), (0, .ref (gB G + a0)), (1, .int l1)]) hx hb dX10_readText_87 rfl hl (by decide) rfl (fun ls hl => ?_)
    refine lv_iload_n hx hb dX10_readText_88 rfl (lv_at hl 0 rfl) ?_
    refine lv_if_eq (tgt := 122) hx hb dX10_readText_89 (by decide) (fun c89 => ?_) (fun c89 => ?_)
    · have h := ite_t c89 h
      exact kbX10_readText_122 C hlk hr a0 x84 h hW (lv_sub hl [1, 0] rfl)
    · have h := ite_f c89 h
      refine lv_iload_n hx hb dX10_readText_92 rfl (lv_at hl 2 rfl) ?_
      refine lv_if_ne (tgt := 122) hx hb dX10_readText_93 (by decide) (fun c93 => ?_) (fun c93 => ?_)
      · have h := ite_f c93 h
        exact kbX10_readText_122 C hlk hr a0 x84 h hW (lv_sub hl [1, 0] rfl)
      · have h := ite_t c93 h
        refine lv_aload_n hx hb dX10_readText_96 rfl (lv_at hl 1 rfl) ?_
        obtain ⟨x97, hg, h⟩ := ob h
        refine wz_gI C hW flX10_127 hg dX10_readText_97 ?_
        refine lv_if_ne (tgt := 122) hx hb dX10_readText_100 (by decide) (fun c100 => ?_) (fun c100 => ?_)
        · have h := ite_f c100 h
          exact kbX10_readText_122 C hlk hr a0 x84 h hW (lv_sub hl [1, 0] rfl)
        · have h := ite_t c100 h
          refine lv_aload_n hx hb dX10_readText_103 rfl (lv_at hl 1 rfl) ?_
          obtain ⟨x104, hq, h⟩ := ob h
          refine wz_rI (c' := 0) (s' := 0) hW (wz_runV (rest := []) C hW lVX10_253 (ck hq).1 rfl (ctX10_endFault l G a0 z84 hq) ⟨⟨rfl, rfl⟩, Nat.le_of_ble_eq_true rfl, Nat.le_of_ble_eq_true rfl⟩ rfl hl.1 rfl (Nat.le_of_ble_eq_true rfl) dX10_readText_104 ⟨Nat.le_of_ble_eq_true rfl, Nat.le_of_ble_eq_true rfl⟩) rfl rfl (fun H locs hW => ?_)
          refine lv_if_le (tgt := 122) hx hb dX10_readText_107 (by decide) (fun c107 => ?_) (fun c107 => ?_)
          · have h := ite_t c107 h
            exact kbX10_readText_122 C hlk hr a0 x84 h hW (lv_sub hl [1, 0] rfl)
          · have h := ite_f c107 h
            refine lv_aload_n hx hb dX10_readText_110 rfl (lv_at hl 1 rfl) ?_
            refine lv_aload_n hx hb dX10_readText_111 rfl (lv_at hl 1 rfl) ?_
            obtain ⟨x112, hq, h⟩ := ob h
            refine wz_rI (c' := 0) (s' := 0) hW (wz_runV (rest := [.ref (gB G + a0)]) C hW lVX10_253 (ck hq).1 rfl (ctX10_endFault l G a0 z84 hq) ⟨⟨rfl, rfl⟩, Nat.le_of_ble_eq_true rfl, Nat.le_of_ble_eq_true rfl⟩ rfl hl.1 rfl (Nat.le_of_ble_eq_true rfl) dX10_readText_112 ⟨Nat.le_of_ble_eq_true rfl, Nat.le_of_ble_eq_true rfl⟩) rfl rfl (fun H locs hW => ?_)
            refine lv_aload_n hx hb dX10_readText_115 rfl (lv_at hl 1 rfl) ?_
            obtain ⟨x116, hg, h⟩ := ob h
            refine wz_gI C hW flX10_111 hg dX10_readText_116 ?_
            obtain ⟨z119, hq, h⟩ := ob h
            refine wz_rV (c' := 0) (s' := 0) hW (wz_runV (rest := []) C hW lVX10_137 (ck hq).1 rfl (ctX10_later l G a0 x112 x116 z84 hq) ⟨⟨rfl, rfl⟩, Nat.le_of_ble_eq_true rfl, Nat.le_of_ble_eq_true rfl⟩ rfl hl.1 rfl (Nat.le_of_ble_eq_true rfl) dX10_readText_119 ⟨Nat.le_of_ble_eq_true rfl, Nat.le_of_ble_eq_true rfl⟩) rfl rfl (fun H locs hW => ?_)
            exact kbX10_readText_122 C hlk hr a0 x84 h hW (lv_sub hl [1, 0] rfl)
  · have h := ite_f c5 h
    refine lv_aload_n hx hb dX10_readText_8 rfl (lv_at hl 0 rfl) ?_
    obtain ⟨b9, hg, h⟩ := ob h
    refine wz_gN C hW flX10_38 hg dX10_readText_9 ?_
    refine lv_iload_n hx hb dX10_readText_12 rfl (lv_at hl 2 rfl) ?_
    refine lv_iload_n hx hb dX10_readText_13 rfl (lv_at hl 1 rfl) ?_
    refine lv_if_ne (tgt := 32) hx hb dX10_readText_14 (by decide) (fun c14 => ?_) (fun c14 => ?_)
    · have h := ite_f c14 h
      exact kbX10_readText_32 C hlk hr k2 hk2 a0 l1 l2 b9 l2 h hW (lv_sub hl [0, 1, 2] rfl)
    · have h := ite_t c14 h
      refine lv_iload_n hx hb dX10_readText_17 rfl (lv_at hl 2 rfl) ?_
      refine lv_bipush (v := 30) hx hb dX10_readText_18 (by decide) ?_
      refine lv_bipush (v := 37) hx hb dX10_readText_20 (by decide) ?_
      refine wz_rI (c' := 0) (s' := 0) hW (wz_runS (rest := [.int l2, .ref (gB G + b9)]) C hW lTX10_93 (ctX10_in l G l2 (30 : Int32) (37 : Int32) z rfl) ⟨⟨rfl, rfl⟩, Nat.le_of_ble_eq_true rfl, Nat.le_of_ble_eq_true rfl⟩ rfl hl.1 rfl (Nat.le_of_ble_eq_true rfl) dX10_readText_22 ⟨Nat.le_of_ble_eq_true rfl, Nat.le_of_ble_eq_true rfl⟩) rfl rfl (fun H locs hW => ?_)
      refine lv_if_eq (tgt := 32) hx hb dX10_readText_25 (by decide) (fun c25 => ?_) (fun c25 => ?_)
      · have h := ite_t c25 h
        exact kbX10_readText_32 C hlk hr k2 hk2 a0 l1 l2 b9 l2 h hW (lv_sub hl [0, 1, 2] rfl)
      · have h := ite_f c25 h
        refine lv_iconst (v := -1) hx hb dX10_readText_28 (by decide) ?_
        refine lv_goto (tgt := 46) hx hb dX10_readText_29 (by decide) ?_
        obtain ⟨z46, hg, h⟩ := ob h
        refine wz_ast C hW hg dX10_readText_46 (fun H locs hW => ?_)
        obtain ⟨v47, ev47⟩ : ∃ y : Int32, y = (l2 + (1 : Int32)) := ⟨_, rfl⟩
        have h := nm_to h ev47
        refine lv_iinc (v := v47) (lv' := [(2, .int v47), (0, .ref (gB G + a0)), (1, .int l1)]) hx hb dX10_readText_47 hl (k := 2) rfl (by rw [ev47]; rfl) (by decide) rfl (fun ls hl => ?_)
        refine lv_goto (tgt := 2) hx hb dX10_readText_50 (by decide) ?_
        exact hk2 a0 l1 v47 z46 _ _ _ h hW (lv_sub hl [1, 2, 0] rfl)
def fX10_readText_2 : Nat → Nat → Int32 → Int32 → AH → Option (Int32 × AH)
  | 0, _, _, _, _ => none
  | n + 1, a0, l1, l2, z => bX10_readText_2 (fX10_readText_2 n) a0 l1 l2 z
theorem klX10_readText_2 {p : Program} {l : Launch} {e : Env} {s : State} {m : MethodId} {args : Array Value} {below : List Frame} {meth : Method} {c : Code} {G : GW} {r : Int32} {z' : AH} (C : Cx p m c cX10_readText 3 s args RX10 G) (hlk : meth.locks = false) (hr : meth.sig.returnType = (some .boolean)) : ∀ (n : Nat) (a0 : Nat) (l1 : Int32) (l2 : Int32) (z : AH) (H : Heap) (locs : List Loc) (ls : Array Slot), fX10_readText_2 n a0 l1 l2 z = some (r, z') → Wb G z s H locs → lv_has ls 3 [(0, .ref (gB G + a0)), (1, .int l1), (2, .int l2)] → W p l e rmX10_readText s m args below meth c H locs 0 0 (MQ below (Qi G r z') args s 0 0 (AA G)) (F0 m 2 ls []) := by
  intro n
  induction n with
  | zero => intro a0 l1 l2 z H locs ls h; have h : (none : Option (Int32 × AH)) = some (r, z') := h; cases h
  | succ n ih => intro a0 l1 l2 z H locs ls h hW hl; exact kbX10_readText_2 C hlk hr (fX10_readText_2 n) (fun a0 l1 l2 z H locs ls h hW hl => ih a0 l1 l2 z H locs ls h hW hl) a0 l1 l2 h hW hl
def fX10_readText (a0 : Nat) (l1 : Int32) (z : AH) : Option (Int32 × AH) :=
  if isO 9 z a0 = true then
    fX10_readText_2 FU a0 l1 (0 : Int32) z
  else none
set_option maxHeartbeats 4000000 in
set_option maxRecDepth 100000 in
theorem ctX10_readText (l : Launch) (G : GW) (a0 : Nat) (l1 : Int32) (z : AH) {r : Int32} {z' : AH} (h : fX10_readText a0 l1 z = some (r, z')) : Met l yX10_readText (wy yX10_readText cX10_readText 3 (some .boolean)) rmX10_readText (Pz G [.ref (gB G + a0), .int l1] z) (Qi G r z') 0 0 (AA G) := by
  refine wz_ent (own := RX10) (by decide +kernel) rfl (fun p e s m below meth c ls C hlk hr hin hW hl => ?_) (Nat.le_of_ble_eq_true rfl)
  have hl : lv_has ls 3 [(0, .ref (gB G + a0)), (1, .int l1)] := hl
  have hx := C.1
  have hb := C.2.1
  unfold fX10_readText at h
  obtain ⟨-, h⟩ := ck h
  refine lv_iconst (v := 0) hx hb dX10_readText_0 (by decide) ?_
  refine lv_istore_n (lv' := [(2, .int (0 : Int32)), (0, .ref (gB G + a0)), (1, .int l1)]) hx hb dX10_readText_1 rfl hl (by decide) rfl (fun ls hl => ?_)
  exact klX10_readText_2 C hlk hr FU a0 l1 (0 : Int32) z _ _ _ h hW (lv_sub hl [1, 2, 0] rfl)
theorem dX10_store_0 : decode cX10_store 0 = .ok (.iconst 0, 1) := by decide +kernel
theorem dX10_store_1 : decode cX10_store 1 = .ok (.istore 4, 2) := by decide +kernel
theorem dX10_store_3 : decode cX10_store 3 = .ok (.iload 4, 2) := by decide +kernel
theorem dX10_store_5 : decode cX10_store 5 = .ok (.iload_n 2, 1) := by decide +kernel
theorem dX10_store_6 : decode cX10_store 6 = .ok (.if_icmp .ge 24, 3) := by decide +kernel
theorem dX10_store_9 : decode cX10_store 9 = .ok (.aload_n 1, 1) := by decide +kernel
theorem dX10_store_10 : decode cX10_store 10 = .ok (.iload_n 2, 1) := by decide +kernel
theorem dX10_store_11 : decode cX10_store 11 = .ok (.iload_n 3, 1) := by decide +kernel
theorem dX10_store_12 : decode cX10_store 12 = .ok (.imul, 1) := by decide +kernel
theorem dX10_store_13 : decode cX10_store 13 = .ok (.iload 4, 2) := by decide +kernel
theorem dX10_store_15 : decode cX10_store 15 = .ok (.iadd, 1) := by decide +kernel
theorem dX10_store_16 : decode cX10_store 16 = .ok (.aload_n 0, 1) := by decide +kernel
theorem dX10_store_17 : decode cX10_store 17 = .ok (.getfield 38, 3) := by decide +kernel
theorem dX10_store_20 : decode cX10_store 20 = .ok (.iload 4, 2) := by decide +kernel
theorem dX10_store_22 : decode cX10_store 22 = .ok (.iaload, 1) := by decide +kernel
theorem dX10_store_23 : decode cX10_store 23 = .ok (.iastore, 1) := by decide +kernel
theorem dX10_store_24 : decode cX10_store 24 = .ok (.iinc 4 1, 3) := by decide +kernel
theorem dX10_store_27 : decode cX10_store 27 = .ok (.goto (-24), 3) := by decide +kernel
theorem dX10_store_30 : decode cX10_store 30 = .ok (.return_, 1) := by decide +kernel
abbrev rmX10_store : Room := { frames := 0, cells := 0, slots := 0, locals := 0 }
def bX10_store_3 (k3 : Nat → Nat → Int32 → Int32 → Int32 → AH → Option AH) (a0 : Nat) (a1 : Nat) (l2 : Int32) (l3 : Int32) (l4 : Int32) (z : AH) : Option AH :=
  if l2 ≤ l4 then (
    some z
  ) else (
    (gN 9 19 z a0).bind fun b17 =>
    (ixI 0 z b17 l4).bind fun x22 =>
    (stI 0 z a1 ((l2 * l3) + l4) x22).bind fun z23 =>
    nm (l4 + (1 : Int32)) fun v24 =>
    k3 a0 a1 l2 l3 v24 z23
  )
set_option maxHeartbeats 4000000 in
set_option maxRecDepth 100000 in
theorem kbX10_store_3 {p : Program} {l : Launch} {e : Env} {s : State} {m : MethodId} {args : Array Value} {below : List Frame} {meth : Method} {c : Code} {G : GW} {z' : AH} (C : Cx p m c cX10_store 5 s args RX10 G) (hlk : meth.locks = false) (hr : meth.sig.returnType = none) (k3 : Nat → Nat → Int32 → Int32 → Int32 → AH → Option AH) (hk3 : ∀ (a0 : Nat) (a1 : Nat) (l2 : Int32) (l3 : Int32) (l4 : Int32) (z : AH) (H : Heap) (locs : List Loc) (ls : Array Slot), k3 a0 a1 l2 l3 l4 z = some z' → Wb G z s H locs → lv_has ls 5 [(0, .ref (gB G + a0)), (1, .ref (gB G + a1)), (2, .int l2), (3, .int l3), (4, .int l4)] → W p l e rmX10_store s m args below meth c H locs 0 0 (MQ below (Qv G z') args s 0 0 (AA G)) (F0 m 3 ls [])) (a0 : Nat) (a1 : Nat) (l2 : Int32) (l3 : Int32) (l4 : Int32) {z : AH} {H : Heap} {locs : List Loc} {ls : Array Slot} (h : bX10_store_3 k3 a0 a1 l2 l3 l4 z = some z') (hW : Wb G z s H locs) (hl : lv_has ls 5 [(0, .ref (gB G + a0)), (1, .ref (gB G + a1)), (2, .int l2), (3, .int l3), (4, .int l4)]) : W p l e rmX10_store s m args below meth c H locs 0 0 (MQ below (Qv G z') args s 0 0 (AA G)) (F0 m 3 ls []) := by
  have hx := C.1
  have hb := C.2.1
  unfold bX10_store_3 at h
  refine lv_iload hx hb dX10_store_3 (lv_at hl 4 rfl) ?_
  refine lv_iload_n hx hb dX10_store_5 rfl (lv_at hl 2 rfl) ?_
  refine lv_icmp_ge (tgt := 30) hx hb dX10_store_6 (by decide) (fun c6 => ?_) (fun c6 => ?_)
  · have h := ite_t c6 h
    exact wz_vretE C hlk hr (Option.some.inj h) hW dX10_store_30
  · have h := ite_f c6 h
    refine lv_aload_n hx hb dX10_store_9 rfl (lv_at hl 1 rfl) ?_
    refine lv_iload_n hx hb dX10_store_10 rfl (lv_at hl 2 rfl) ?_
    refine lv_iload_n hx hb dX10_store_11 rfl (lv_at hl 3 rfl) ?_
    refine lv_imul hx hb dX10_store_12 ?_
    refine lv_iload hx hb dX10_store_13 (lv_at hl 4 rfl) ?_
    refine lv_iadd hx hb dX10_store_15 ?_
    refine lv_aload_n hx hb dX10_store_16 rfl (lv_at hl 0 rfl) ?_
    obtain ⟨b17, hg, h⟩ := ob h
    refine wz_gN C hW flX10_38 hg dX10_store_17 ?_
    refine lv_iload hx hb dX10_store_20 (lv_at hl 4 rfl) ?_
    obtain ⟨x22, hg, h⟩ := ob h
    refine wz_ald C hW hg dX10_store_22 ?_
    obtain ⟨z23, hg, h⟩ := ob h
    refine wz_ast C hW hg dX10_store_23 (fun H locs hW => ?_)
    obtain ⟨v24, ev24⟩ : ∃ y : Int32, y = (l4 + (1 : Int32)) := ⟨_, rfl⟩
    have h := nm_to h ev24
    refine lv_iinc (v := v24) (lv' := [(4, .int v24), (0, .ref (gB G + a0)), (1, .ref (gB G + a1)), (2, .int l2), (3, .int l3)]) hx hb dX10_store_24 hl (k := 4) rfl (by rw [ev24]; rfl) (by decide) rfl (fun ls hl => ?_)
    refine lv_goto (tgt := 3) hx hb dX10_store_27 (by decide) ?_
    exact hk3 a0 a1 l2 l3 v24 z23 _ _ _ h hW (lv_sub hl [1, 2, 3, 4, 0] rfl)
def fX10_store_3 : Nat → Nat → Nat → Int32 → Int32 → Int32 → AH → Option AH
  | 0, _, _, _, _, _, _ => none
  | n + 1, a0, a1, l2, l3, l4, z => bX10_store_3 (fX10_store_3 n) a0 a1 l2 l3 l4 z
theorem klX10_store_3 {p : Program} {l : Launch} {e : Env} {s : State} {m : MethodId} {args : Array Value} {below : List Frame} {meth : Method} {c : Code} {G : GW} {z' : AH} (C : Cx p m c cX10_store 5 s args RX10 G) (hlk : meth.locks = false) (hr : meth.sig.returnType = none) : ∀ (n : Nat) (a0 : Nat) (a1 : Nat) (l2 : Int32) (l3 : Int32) (l4 : Int32) (z : AH) (H : Heap) (locs : List Loc) (ls : Array Slot), fX10_store_3 n a0 a1 l2 l3 l4 z = some z' → Wb G z s H locs → lv_has ls 5 [(0, .ref (gB G + a0)), (1, .ref (gB G + a1)), (2, .int l2), (3, .int l3), (4, .int l4)] → W p l e rmX10_store s m args below meth c H locs 0 0 (MQ below (Qv G z') args s 0 0 (AA G)) (F0 m 3 ls []) := by
  intro n
  induction n with
  | zero => intro a0 a1 l2 l3 l4 z H locs ls h; have h : (none : Option AH) = some z' := h; cases h
  | succ n ih => intro a0 a1 l2 l3 l4 z H locs ls h hW hl; exact kbX10_store_3 C hlk hr (fX10_store_3 n) (fun a0 a1 l2 l3 l4 z H locs ls h hW hl => ih a0 a1 l2 l3 l4 z H locs ls h hW hl) a0 a1 l2 l3 l4 h hW hl
def fX10_store (a0 : Nat) (a1 : Nat) (l2 : Int32) (l3 : Int32) (z : AH) : Option AH :=
  if isO 9 z a0 = true then
    fX10_store_3 FU a0 a1 l2 l3 (0 : Int32) z
  else none
set_option maxHeartbeats 4000000 in
set_option maxRecDepth 100000 in
theorem ctX10_store (l : Launch) (G : GW) (a0 : Nat) (a1 : Nat) (l2 : Int32) (l3 : Int32) (z : AH) {z' : AH} (h : fX10_store a0 a1 l2 l3 z = some z') : Met l yX10_store (wy yX10_store cX10_store 5 none) rmX10_store (Pz G [.ref (gB G + a0), .ref (gB G + a1), .int l2, .int l3] z) (Qv G z') 0 0 (AA G) := by
  refine wz_ent (own := RX10) (by decide +kernel) rfl (fun p e s m below meth c ls C hlk hr hin hW hl => ?_) (Nat.le_of_ble_eq_true rfl)
  have hl : lv_has ls 5 [(0, .ref (gB G + a0)), (1, .ref (gB G + a1)), (2, .int l2), (3, .int l3)] := hl
  have hx := C.1
  have hb := C.2.1
  unfold fX10_store at h
  obtain ⟨-, h⟩ := ck h
  refine lv_iconst (v := 0) hx hb dX10_store_0 (by decide) ?_
  refine lv_istore (lv' := [(4, .int (0 : Int32)), (0, .ref (gB G + a0)), (1, .ref (gB G + a1)), (2, .int l2), (3, .int l3)]) hx hb dX10_store_1 hl (by decide) rfl (fun ls hl => ?_)
  exact klX10_store_3 C hlk hr FU a0 a1 l2 l3 (0 : Int32) z _ _ _ h hW (lv_sub hl [1, 2, 3, 4, 0] rfl)
theorem dX10_storeAll_0 : decode cX10_storeAll 0 = .ok (.iload_n 1, 1) := by decide +kernel
theorem dX10_storeAll_1 : decode cX10_storeAll 1 = .ok (.tableswitch 63 0 2 #[27, 39, 51], 27) := by decide +kernel
theorem dX10_storeAll_28 : decode cX10_storeAll 28 = .ok (.aload_n 0, 1) := by decide +kernel
theorem dX10_storeAll_29 : decode cX10_storeAll 29 = .ok (.aload_n 0, 1) := by decide +kernel
theorem dX10_storeAll_30 : decode cX10_storeAll 30 = .ok (.getfield 26, 3) := by decide +kernel
theorem dX10_storeAll_33 : decode cX10_storeAll 33 = .ok (.bipush 110, 2) := by decide +kernel
theorem dX10_storeAll_35 : decode cX10_storeAll 35 = .ok (.iload_n 2, 1) := by decide +kernel
theorem dX10_storeAll_36 : decode cX10_storeAll 36 = .ok (.invokevirtual 256, 3) := by decide +kernel
theorem dX10_storeAll_39 : decode cX10_storeAll 39 = .ok (.return_, 1) := by decide +kernel
theorem dX10_storeAll_40 : decode cX10_storeAll 40 = .ok (.aload_n 0, 1) := by decide +kernel
theorem dX10_storeAll_41 : decode cX10_storeAll 41 = .ok (.aload_n 0, 1) := by decide +kernel
theorem dX10_storeAll_42 : decode cX10_storeAll 42 = .ok (.getfield 29, 3) := by decide +kernel
theorem dX10_storeAll_45 : decode cX10_storeAll 45 = .ok (.bipush 121, 2) := by decide +kernel
theorem dX10_storeAll_47 : decode cX10_storeAll 47 = .ok (.iload_n 2, 1) := by decide +kernel
theorem dX10_storeAll_48 : decode cX10_storeAll 48 = .ok (.invokevirtual 256, 3) := by decide +kernel
theorem dX10_storeAll_51 : decode cX10_storeAll 51 = .ok (.return_, 1) := by decide +kernel
theorem dX10_storeAll_52 : decode cX10_storeAll 52 = .ok (.aload_n 0, 1) := by decide +kernel
theorem dX10_storeAll_53 : decode cX10_storeAll 53 = .ok (.aload_n 0, 1) := by decide +kernel
theorem dX10_storeAll_54 : decode cX10_storeAll 54 = .ok (.getfield 32, 3) := by decide +kernel
theorem dX10_storeAll_57 : decode cX10_storeAll 57 = .ok (.bipush 17, 2) := by decide +kernel
theorem dX10_storeAll_59 : decode cX10_storeAll 59 = .ok (.iload_n 2, 1) := by decide +kernel
theorem dX10_storeAll_60 : decode cX10_storeAll 60 = .ok (.invokevirtual 256, 3) := by decide +kernel
theorem dX10_storeAll_63 : decode cX10_storeAll 63 = .ok (.return_, 1) := by decide +kernel
theorem dX10_storeAll_64 : decode cX10_storeAll 64 = .ok (.aload_n 0, 1) := by decide +kernel
theorem dX10_storeAll_65 : decode cX10_storeAll 65 = .ok (.aload_n 0, 1) := by decide +kernel
theorem dX10_storeAll_66 : decode cX10_storeAll 66 = .ok (.getfield 35, 3) := by decide +kernel
theorem dX10_storeAll_69 : decode cX10_storeAll 69 = .ok (.bipush 49, 2) := by decide +kernel
theorem dX10_storeAll_71 : decode cX10_storeAll 71 = .ok (.iload_n 2, 1) := by decide +kernel
theorem dX10_storeAll_72 : decode cX10_storeAll 72 = .ok (.invokevirtual 256, 3) := by decide +kernel
theorem dX10_storeAll_75 : decode cX10_storeAll 75 = .ok (.return_, 1) := by decide +kernel
theorem cdX10_store : Cond.code yX10_store cX10_store 5 none ∈ tz := tc6 192 rfl rfl
theorem lVX10_256 : LV RX10 256 yX10_store cX10_store 5 none 3 := ⟨tw 1508 (by decide +kernel) rfl, tw 1510 (by decide +kernel) rfl, tw 61 (by decide +kernel) rfl, tw 128 (by decide +kernel) rfl, cdX10_store, ⟨by decide +kernel, by decide +kernel, by decide +kernel⟩⟩
abbrev rmX10_storeAll : Room := { frames := 1, cells := 0, slots := 0, locals := 24 }
def fX10_storeAll (a0 : Nat) (l1 : Int32) (l2 : Int32) (z : AH) : Option AH :=
  if isO 9 z a0 = true then
    if l1 = (0 : Int32) then (
      (gN 9 6 z a0).bind fun b30 =>
      (fX10_store a0 b30 (110 : Int32) l2 z).bind fun z36 =>
      some z36
    ) else
    if l1 = (1 : Int32) then (
      (gN 9 7 z a0).bind fun b42 =>
      (fX10_store a0 b42 (121 : Int32) l2 z).bind fun z48 =>
      some z48
    ) else
    if l1 = (2 : Int32) then (
      (gN 9 8 z a0).bind fun b54 =>
      (fX10_store a0 b54 (17 : Int32) l2 z).bind fun z60 =>
      some z60
    ) else
    (gN 9 9 z a0).bind fun b66 =>
    (fX10_store a0 b66 (49 : Int32) l2 z).bind fun z72 =>
    some z72
  else none
set_option maxHeartbeats 4000000 in
set_option maxRecDepth 100000 in
theorem ctX10_storeAll (l : Launch) (G : GW) (a0 : Nat) (l1 : Int32) (l2 : Int32) (z : AH) {z' : AH} (h : fX10_storeAll a0 l1 l2 z = some z') : Met l yX10_storeAll (wy yX10_storeAll cX10_storeAll 3 none) rmX10_storeAll (Pz G [.ref (gB G + a0), .int l1, .int l2] z) (Qv G z') 0 0 (AA G) := by
  refine wz_ent (own := RX10) (by decide +kernel) rfl (fun p e s m below meth c ls C hlk hr hin hW hl => ?_) (Nat.le_of_ble_eq_true rfl)
  have hl : lv_has ls 3 [(0, .ref (gB G + a0)), (1, .int l1), (2, .int l2)] := hl
  have hx := C.1
  have hb := C.2.1
  unfold fX10_storeAll at h
  obtain ⟨-, h⟩ := ck h
  refine lv_iload_n hx hb dX10_storeAll_0 rfl (lv_at hl 1 rfl) ?_
  by_cases c1_0 : l1 = (0 : Int32)
  · have h := ite_t c1_0 h
    refine wz_sw (0 : Int32) (tgt := 28) hx hb dX10_storeAll_1 c1_0 (by decide) rfl (by decide) ?_
    refine lv_aload_n hx hb dX10_storeAll_28 rfl (lv_at hl 0 rfl) ?_
    refine lv_aload_n hx hb dX10_storeAll_29 rfl (lv_at hl 0 rfl) ?_
    obtain ⟨b30, hg, h⟩ := ob h
    refine wz_gN C hW flX10_26 hg dX10_storeAll_30 ?_
    refine lv_bipush (v := 110) hx hb dX10_storeAll_33 (by decide) ?_
    refine lv_iload_n hx hb dX10_storeAll_35 rfl (lv_at hl 2 rfl) ?_
    obtain ⟨z36, hq, h⟩ := ob h
    refine wz_rV (c' := 0) (s' := 0) hW (wz_runV (rest := []) C hW lVX10_256 (ck hq).1 rfl (ctX10_store l G a0 b30 (110 : Int32) l2 z hq) ⟨⟨rfl, rfl⟩, Nat.le_of_ble_eq_true rfl, Nat.le_of_ble_eq_true rfl⟩ rfl hl.1 rfl (Nat.le_of_ble_eq_true rfl) dX10_storeAll_36 ⟨Nat.le_of_ble_eq_true rfl, Nat.le_of_ble_eq_true rfl⟩) rfl rfl (fun H locs hW => ?_)
    exact wz_vretE C hlk hr (Option.some.inj h) hW dX10_storeAll_39
  have h := ite_f c1_0 h
  by_cases c1_1 : l1 = (1 : Int32)
  · have h := ite_t c1_1 h
    refine wz_sw (1 : Int32) (tgt := 40) hx hb dX10_storeAll_1 c1_1 (by decide) rfl (by decide) ?_
    refine lv_aload_n hx hb dX10_storeAll_40 rfl (lv_at hl 0 rfl) ?_
    refine lv_aload_n hx hb dX10_storeAll_41 rfl (lv_at hl 0 rfl) ?_
    obtain ⟨b42, hg, h⟩ := ob h
    refine wz_gN C hW flX10_29 hg dX10_storeAll_42 ?_
    refine lv_bipush (v := 121) hx hb dX10_storeAll_45 (by decide) ?_
    refine lv_iload_n hx hb dX10_storeAll_47 rfl (lv_at hl 2 rfl) ?_
    obtain ⟨z48, hq, h⟩ := ob h
    refine wz_rV (c' := 0) (s' := 0) hW (wz_runV (rest := []) C hW lVX10_256 (ck hq).1 rfl (ctX10_store l G a0 b42 (121 : Int32) l2 z hq) ⟨⟨rfl, rfl⟩, Nat.le_of_ble_eq_true rfl, Nat.le_of_ble_eq_true rfl⟩ rfl hl.1 rfl (Nat.le_of_ble_eq_true rfl) dX10_storeAll_48 ⟨Nat.le_of_ble_eq_true rfl, Nat.le_of_ble_eq_true rfl⟩) rfl rfl (fun H locs hW => ?_)
    exact wz_vretE C hlk hr (Option.some.inj h) hW dX10_storeAll_51
  have h := ite_f c1_1 h
  by_cases c1_2 : l1 = (2 : Int32)
  · have h := ite_t c1_2 h
    refine wz_sw (2 : Int32) (tgt := 52) hx hb dX10_storeAll_1 c1_2 (by decide) rfl (by decide) ?_
    refine lv_aload_n hx hb dX10_storeAll_52 rfl (lv_at hl 0 rfl) ?_
    refine lv_aload_n hx hb dX10_storeAll_53 rfl (lv_at hl 0 rfl) ?_
    obtain ⟨b54, hg, h⟩ := ob h
    refine wz_gN C hW flX10_32 hg dX10_storeAll_54 ?_
    refine lv_bipush (v := 17) hx hb dX10_storeAll_57 (by decide) ?_
    refine lv_iload_n hx hb dX10_storeAll_59 rfl (lv_at hl 2 rfl) ?_
    obtain ⟨z60, hq, h⟩ := ob h
    refine wz_rV (c' := 0) (s' := 0) hW (wz_runV (rest := []) C hW lVX10_256 (ck hq).1 rfl (ctX10_store l G a0 b54 (17 : Int32) l2 z hq) ⟨⟨rfl, rfl⟩, Nat.le_of_ble_eq_true rfl, Nat.le_of_ble_eq_true rfl⟩ rfl hl.1 rfl (Nat.le_of_ble_eq_true rfl) dX10_storeAll_60 ⟨Nat.le_of_ble_eq_true rfl, Nat.le_of_ble_eq_true rfl⟩) rfl rfl (fun H locs hW => ?_)
    exact wz_vretE C hlk hr (Option.some.inj h) hW dX10_storeAll_63
  have h := ite_f c1_2 h
  refine lv_tableOut (tgt := 64) hx hb dX10_storeAll_1 (by have g0 := i32_ne c1_0 (z := 0) (by decide); have g1 := i32_ne c1_1 (z := 1) (by decide); have g2 := i32_ne c1_2 (z := 2) (by decide); omega) (by decide) ?_
  refine lv_aload_n hx hb dX10_storeAll_64 rfl (lv_at hl 0 rfl) ?_
  refine lv_aload_n hx hb dX10_storeAll_65 rfl (lv_at hl 0 rfl) ?_
  obtain ⟨b66, hg, h⟩ := ob h
  refine wz_gN C hW flX10_35 hg dX10_storeAll_66 ?_
  refine lv_bipush (v := 49) hx hb dX10_storeAll_69 (by decide) ?_
  refine lv_iload_n hx hb dX10_storeAll_71 rfl (lv_at hl 2 rfl) ?_
  obtain ⟨z72, hq, h⟩ := ob h
  refine wz_rV (c' := 0) (s' := 0) hW (wz_runV (rest := []) C hW lVX10_256 (ck hq).1 rfl (ctX10_store l G a0 b66 (49 : Int32) l2 z hq) ⟨⟨rfl, rfl⟩, Nat.le_of_ble_eq_true rfl, Nat.le_of_ble_eq_true rfl⟩ rfl hl.1 rfl (Nat.le_of_ble_eq_true rfl) dX10_storeAll_72 ⟨Nat.le_of_ble_eq_true rfl, Nat.le_of_ble_eq_true rfl⟩) rfl rfl (fun H locs hW => ?_)
  exact wz_vretE C hlk hr (Option.some.inj h) hW dX10_storeAll_75
theorem dX10_text_0 : decode cX10_text 0 = .ok (.aload_n 0, 1) := by decide +kernel
theorem dX10_text_1 : decode cX10_text 1 = .ok (.iconst 0, 1) := by decide +kernel
theorem dX10_text_2 : decode cX10_text 2 = .ok (.putfield 81, 3) := by decide +kernel
theorem dX10_text_5 : decode cX10_text 5 = .ok (.aload_n 0, 1) := by decide +kernel
theorem dX10_text_6 : decode cX10_text 6 = .ok (.aload_n 0, 1) := by decide +kernel
theorem dX10_text_7 : decode cX10_text 7 = .ok (.getfield 13, 3) := by decide +kernel
theorem dX10_text_10 : decode cX10_text 10 = .ok (.iconst 0, 1) := by decide +kernel
theorem dX10_text_11 : decode cX10_text 11 = .ok (.iaload, 1) := by decide +kernel
theorem dX10_text_12 : decode cX10_text 12 = .ok (.putfield 104, 3) := by decide +kernel
theorem dX10_text_15 : decode cX10_text 15 = .ok (.aload_n 0, 1) := by decide +kernel
theorem dX10_text_16 : decode cX10_text 16 = .ok (.getfield 13, 3) := by decide +kernel
theorem dX10_text_19 : decode cX10_text 19 = .ok (.iconst 0, 1) := by decide +kernel
theorem dX10_text_20 : decode cX10_text 20 = .ok (.iconst 0, 1) := by decide +kernel
theorem dX10_text_21 : decode cX10_text 21 = .ok (.iastore, 1) := by decide +kernel
theorem dX10_text_22 : decode cX10_text 22 = .ok (.aload_n 0, 1) := by decide +kernel
theorem dX10_text_23 : decode cX10_text 23 = .ok (.getfield 17, 3) := by decide +kernel
theorem dX10_text_26 : decode cX10_text 26 = .ok (.iconst 0, 1) := by decide +kernel
theorem dX10_text_27 : decode cX10_text 27 = .ok (.iconst 0, 1) := by decide +kernel
theorem dX10_text_28 : decode cX10_text 28 = .ok (.iastore, 1) := by decide +kernel
theorem dX10_text_29 : decode cX10_text 29 = .ok (.aload_n 0, 1) := by decide +kernel
theorem dX10_text_30 : decode cX10_text 30 = .ok (.getfield 20, 3) := by decide +kernel
theorem dX10_text_33 : decode cX10_text 33 = .ok (.iconst 0, 1) := by decide +kernel
theorem dX10_text_34 : decode cX10_text 34 = .ok (.iconst (-1), 1) := by decide +kernel
theorem dX10_text_35 : decode cX10_text 35 = .ok (.iastore, 1) := by decide +kernel
theorem dX10_text_36 : decode cX10_text 36 = .ok (.iload_n 1, 1) := by decide +kernel
theorem dX10_text_37 : decode cX10_text 37 = .ok (.iconst 0, 1) := by decide +kernel
theorem dX10_text_38 : decode cX10_text 38 = .ok (.iconst 3, 1) := by decide +kernel
theorem dX10_text_39 : decode cX10_text 39 = .ok (.invokestatic 93, 3) := by decide +kernel
theorem dX10_text_42 : decode cX10_text 42 = .ok (.ifCond .eq 30, 3) := by decide +kernel
theorem dX10_text_45 : decode cX10_text 45 = .ok (.iload_n 2, 1) := by decide +kernel
theorem dX10_text_46 : decode cX10_text 46 = .ok (.iconst (-1), 1) := by decide +kernel
theorem dX10_text_47 : decode cX10_text 47 = .ok (.if_icmp .ne 16, 3) := by decide +kernel
theorem dX10_text_50 : decode cX10_text 50 = .ok (.aload_n 0, 1) := by decide +kernel
theorem dX10_text_51 : decode cX10_text 51 = .ok (.getfield 23, 3) := by decide +kernel
theorem dX10_text_54 : decode cX10_text 54 = .ok (.iload_n 1, 1) := by decide +kernel
theorem dX10_text_55 : decode cX10_text 55 = .ok (.iaload, 1) := by decide +kernel
theorem dX10_text_56 : decode cX10_text 56 = .ok (.iconst 2, 1) := by decide +kernel
theorem dX10_text_57 : decode cX10_text 57 = .ok (.if_icmp .ne 18, 3) := by decide +kernel
theorem dX10_text_60 : decode cX10_text 60 = .ok (.goto 12, 3) := by decide +kernel
theorem dX10_text_63 : decode cX10_text 63 = .ok (.aload_n 0, 1) := by decide +kernel
theorem dX10_text_64 : decode cX10_text 64 = .ok (.iload_n 1, 1) := by decide +kernel
theorem dX10_text_65 : decode cX10_text 65 = .ok (.iload_n 2, 1) := by decide +kernel
theorem dX10_text_66 : decode cX10_text 66 = .ok (.invokevirtual 260, 3) := by decide +kernel
theorem dX10_text_69 : decode cX10_text 69 = .ok (.ifCond .ne 6, 3) := by decide +kernel
theorem dX10_text_72 : decode cX10_text 72 = .ok (.bipush (-2), 2) := by decide +kernel
theorem dX10_text_74 : decode cX10_text 74 = .ok (.ireturn, 1) := by decide +kernel
theorem dX10_text_75 : decode cX10_text 75 = .ok (.aload_n 0, 1) := by decide +kernel
theorem dX10_text_76 : decode cX10_text 76 = .ok (.iload_n 1, 1) := by decide +kernel
theorem dX10_text_77 : decode cX10_text 77 = .ok (.invokevirtual 263, 3) := by decide +kernel
theorem dX10_text_80 : decode cX10_text 80 = .ok (.ifCond .ne 5, 3) := by decide +kernel
theorem dX10_text_83 : decode cX10_text 83 = .ok (.iconst (-1), 1) := by decide +kernel
theorem dX10_text_84 : decode cX10_text 84 = .ok (.ireturn, 1) := by decide +kernel
theorem dX10_text_85 : decode cX10_text 85 = .ok (.iload_n 2, 1) := by decide +kernel
theorem dX10_text_86 : decode cX10_text 86 = .ok (.iconst (-1), 1) := by decide +kernel
theorem dX10_text_87 : decode cX10_text 87 = .ok (.if_icmp .ne 12, 3) := by decide +kernel
theorem dX10_text_90 : decode cX10_text 90 = .ok (.aload_n 0, 1) := by decide +kernel
theorem dX10_text_91 : decode cX10_text 91 = .ok (.getfield 23, 3) := by decide +kernel
theorem dX10_text_94 : decode cX10_text 94 = .ok (.iload_n 1, 1) := by decide +kernel
theorem dX10_text_95 : decode cX10_text 95 = .ok (.iaload, 1) := by decide +kernel
theorem dX10_text_96 : decode cX10_text 96 = .ok (.goto 4, 3) := by decide +kernel
theorem dX10_text_99 : decode cX10_text 99 = .ok (.iload_n 2, 1) := by decide +kernel
theorem dX10_text_100 : decode cX10_text 100 = .ok (.istore_n 3, 1) := by decide +kernel
theorem dX10_text_101 : decode cX10_text 101 = .ok (.aload_n 0, 1) := by decide +kernel
theorem dX10_text_102 : decode cX10_text 102 = .ok (.getfield 23, 3) := by decide +kernel
theorem dX10_text_105 : decode cX10_text 105 = .ok (.iload_n 1, 1) := by decide +kernel
theorem dX10_text_106 : decode cX10_text 106 = .ok (.dup2, 1) := by decide +kernel
theorem dX10_text_107 : decode cX10_text 107 = .ok (.iaload, 1) := by decide +kernel
theorem dX10_text_108 : decode cX10_text 108 = .ok (.iload_n 2, 1) := by decide +kernel
theorem dX10_text_109 : decode cX10_text 109 = .ok (.iconst (-1), 1) := by decide +kernel
theorem dX10_text_110 : decode cX10_text 110 = .ok (.if_icmp .ne 7, 3) := by decide +kernel
theorem dX10_text_113 : decode cX10_text 113 = .ok (.iconst 1, 1) := by decide +kernel
theorem dX10_text_114 : decode cX10_text 114 = .ok (.goto 4, 3) := by decide +kernel
theorem dX10_text_117 : decode cX10_text 117 = .ok (.iconst 0, 1) := by decide +kernel
theorem dX10_text_118 : decode cX10_text 118 = .ok (.iadd, 1) := by decide +kernel
theorem dX10_text_119 : decode cX10_text 119 = .ok (.iastore, 1) := by decide +kernel
theorem dX10_text_120 : decode cX10_text 120 = .ok (.aload_n 0, 1) := by decide +kernel
theorem dX10_text_121 : decode cX10_text 121 = .ok (.iload_n 1, 1) := by decide +kernel
theorem dX10_text_122 : decode cX10_text 122 = .ok (.iload_n 3, 1) := by decide +kernel
theorem dX10_text_123 : decode cX10_text 123 = .ok (.invokevirtual 266, 3) := by decide +kernel
theorem dX10_text_126 : decode cX10_text 126 = .ok (.iload_n 3, 1) := by decide +kernel
theorem dX10_text_127 : decode cX10_text 127 = .ok (.ireturn, 1) := by decide +kernel
theorem cdX10_storeAll : Cond.code yX10_storeAll cX10_storeAll 3 none ∈ tz := tc6 188 rfl rfl
theorem lVX10_266 : LV RX10 266 yX10_storeAll cX10_storeAll 3 none 2 := ⟨tw 1504 (by decide +kernel) rfl, tw 1506 (by decide +kernel) rfl, tw 60 (by decide +kernel) rfl, tw 128 (by decide +kernel) rfl, cdX10_storeAll, ⟨by decide +kernel, by decide +kernel, by decide +kernel⟩⟩
theorem cdX10_readText : Cond.code yX10_readText cX10_readText 3 (some .boolean) ∈ tz := tc6 75 rfl rfl
theorem lVX10_263 : LV RX10 263 yX10_readText cX10_readText 3 (some .boolean) 1 := ⟨tw 1391 (by decide +kernel) rfl, tw 1393 (by decide +kernel) rfl, tw 37 (by decide +kernel) rfl, tw 128 (by decide +kernel) rfl, cdX10_readText, ⟨by decide +kernel, by decide +kernel, by decide +kernel⟩⟩
theorem cdX10_is : Cond.code yX10_is cX10_is 3 (some .boolean) ∈ tz := tc6 71 rfl rfl
theorem lVX10_260 : LV RX10 260 yX10_is cX10_is 3 (some .boolean) 2 := ⟨tw 1387 (by decide +kernel) rfl, tw 1389 (by decide +kernel) rfl, tw 36 (by decide +kernel) rfl, tw 128 (by decide +kernel) rfl, cdX10_is, ⟨by decide +kernel, by decide +kernel, by decide +kernel⟩⟩
abbrev rmX10_text : Room := { frames := 9, cells := 0, slots := 0, locals := 205 }
def bX10_text_118 (a0 : Nat) (l1 : Int32) (l3 : Int32) (s0 : Nat) (s1 : Int32) (s2 : Int32) (s3 : Int32) (z : AH) : Option (Int32 × AH) :=
  (stI 0 z s0 s1 (s2 + s3)).bind fun z119 =>
  (fX10_storeAll a0 l1 l3 z119).bind fun z123 =>
  some (l3, z123)
set_option maxHeartbeats 4000000 in
set_option maxRecDepth 100000 in
theorem kbX10_text_118 {p : Program} {l : Launch} {e : Env} {s : State} {m : MethodId} {args : Array Value} {below : List Frame} {meth : Method} {c : Code} {G : GW} {r : Int32} {z' : AH} (C : Cx p m c cX10_text 4 s args RX10 G) (hlk : meth.locks = false) (hr : meth.sig.returnType = (some .int)) (a0 : Nat) (l1 : Int32) (l3 : Int32) (s0 : Nat) (s1 : Int32) (s2 : Int32) (s3 : Int32) {z : AH} {H : Heap} {locs : List Loc} {ls : Array Slot} (h : bX10_text_118 a0 l1 l3 s0 s1 s2 s3 z = some (r, z')) (hW : Wb G z s H locs) (hl : lv_has ls 4 [(0, .ref (gB G + a0)), (1, .int l1), (3, .int l3)]) : W p l e rmX10_text s m args below meth c H locs 0 0 (MQ below (Qi G r z') args s 0 0 (AA G)) (F0 m 118 ls [.int s3, .int s2, .int s1, .ref (gB G + s0)]) := by
  have hx := C.1
  have hb := C.2.1
  unfold bX10_text_118 at h
  refine lv_iadd hx hb dX10_text_118 ?_
  obtain ⟨z119, hg, h⟩ := ob h
  refine wz_ast C hW hg dX10_text_119 (fun H locs hW => ?_)
  refine lv_aload_n hx hb dX10_text_120 rfl (lv_at hl 0 rfl) ?_
  refine lv_iload_n hx hb dX10_text_121 rfl (lv_at hl 1 rfl) ?_
  refine lv_iload_n hx hb dX10_text_122 rfl (lv_at hl 2 rfl) ?_
  obtain ⟨z123, hq, h⟩ := ob h
  refine wz_rV (c' := 0) (s' := 0) hW (wz_runV (rest := []) C hW lVX10_266 (ck hq).1 rfl (ctX10_storeAll l G a0 l1 l3 z119 hq) ⟨⟨rfl, rfl⟩, Nat.le_of_ble_eq_true rfl, Nat.le_of_ble_eq_true rfl⟩ rfl hl.1 rfl (Nat.le_of_ble_eq_true rfl) dX10_text_123 ⟨Nat.le_of_ble_eq_true rfl, Nat.le_of_ble_eq_true rfl⟩) rfl rfl (fun H locs hW => ?_)
  refine lv_iload_n hx hb dX10_text_126 rfl (lv_at hl 2 rfl) ?_
  exact wz_iretE C hlk hr (so2 h).1 (so2 h).2 hW dX10_text_127
def bX10_text_100 (a0 : Nat) (l1 : Int32) (l2 : Int32) (s0 : Int32) (z : AH) : Option (Int32 × AH) :=
  (gN 9 5 z a0).bind fun b102 =>
  (ixI 0 z b102 l1).bind fun x107 =>
  if l2 = (-1 : Int32) then (
    bX10_text_118 a0 l1 s0 b102 l1 x107 (1 : Int32) z
  ) else (
    bX10_text_118 a0 l1 s0 b102 l1 x107 (0 : Int32) z
  )
set_option maxHeartbeats 4000000 in
set_option maxRecDepth 100000 in
theorem kbX10_text_100 {p : Program} {l : Launch} {e : Env} {s : State} {m : MethodId} {args : Array Value} {below : List Frame} {meth : Method} {c : Code} {G : GW} {r : Int32} {z' : AH} (C : Cx p m c cX10_text 4 s args RX10 G) (hlk : meth.locks = false) (hr : meth.sig.returnType = (some .int)) (a0 : Nat) (l1 : Int32) (l2 : Int32) (s0 : Int32) {z : AH} {H : Heap} {locs : List Loc} {ls : Array Slot} (h : bX10_text_100 a0 l1 l2 s0 z = some (r, z')) (hW : Wb G z s H locs) (hl : lv_has ls 4 [(0, .ref (gB G + a0)), (1, .int l1), (2, .int l2)]) : W p l e rmX10_text s m args below meth c H locs 0 0 (MQ below (Qi G r z') args s 0 0 (AA G)) (F0 m 100 ls [.int s0]) := by
  have hx := C.1
  have hb := C.2.1
  unfold bX10_text_100 at h
  refine lv_istore_n (lv' := [(3, .int s0), (0, .ref (gB G + a0)), (1, .int l1), (2, .int l2)]) hx hb dX10_text_100 rfl hl (by decide) rfl (fun ls hl => ?_)
  refine lv_aload_n hx hb dX10_text_101 rfl (lv_at hl 1 rfl) ?_
  obtain ⟨b102, hg, h⟩ := ob h
  refine wz_gN C hW flX10_23 hg dX10_text_102 ?_
  refine lv_iload_n hx hb dX10_text_105 rfl (lv_at hl 2 rfl) ?_
  refine lv_dup2_11 hx hb dX10_text_106 rfl rfl ?_
  obtain ⟨x107, hg, h⟩ := ob h
  refine wz_ald C hW hg dX10_text_107 ?_
  refine lv_iload_n hx hb dX10_text_108 rfl (lv_at hl 3 rfl) ?_
  refine lv_iconst (v := -1) hx hb dX10_text_109 (by decide) ?_
  refine lv_icmp_ne (tgt := 117) hx hb dX10_text_110 (by decide) (fun c110 => ?_) (fun c110 => ?_)
  · have h := ite_f c110 h
    refine lv_iconst (v := 0) hx hb dX10_text_117 (by decide) ?_
    exact kbX10_text_118 C hlk hr a0 l1 s0 b102 l1 x107 (0 : Int32) h hW (lv_sub hl [1, 2, 0] rfl)
  · have h := ite_t c110 h
    refine lv_iconst (v := 1) hx hb dX10_text_113 (by decide) ?_
    refine lv_goto (tgt := 118) hx hb dX10_text_114 (by decide) ?_
    exact kbX10_text_118 C hlk hr a0 l1 s0 b102 l1 x107 (1 : Int32) h hW (lv_sub hl [1, 2, 0] rfl)
def bX10_text_75 (a0 : Nat) (l1 : Int32) (l2 : Int32) (z : AH) : Option (Int32 × AH) :=
  b2 (fX10_readText a0 l1 z) fun x77 z77 =>
  if x77 = (0 : Int32) then (
    some ((-1 : Int32), z77)
  ) else (
    if l2 = (-1 : Int32) then (
      (gN 9 5 z77 a0).bind fun b91 =>
      (ixI 0 z77 b91 l1).bind fun x95 =>
      bX10_text_100 a0 l1 l2 x95 z77
    ) else (
      bX10_text_100 a0 l1 l2 l2 z77
    )
  )
set_option maxHeartbeats 4000000 in
set_option maxRecDepth 100000 in
theorem kbX10_text_75 {p : Program} {l : Launch} {e : Env} {s : State} {m : MethodId} {args : Array Value} {below : List Frame} {meth : Method} {c : Code} {G : GW} {r : Int32} {z' : AH} (C : Cx p m c cX10_text 4 s args RX10 G) (hlk : meth.locks = false) (hr : meth.sig.returnType = (some .int)) (a0 : Nat) (l1 : Int32) (l2 : Int32) {z : AH} {H : Heap} {locs : List Loc} {ls : Array Slot} (h : bX10_text_75 a0 l1 l2 z = some (r, z')) (hW : Wb G z s H locs) (hl : lv_has ls 4 [(0, .ref (gB G + a0)), (1, .int l1), (2, .int l2)]) : W p l e rmX10_text s m args below meth c H locs 0 0 (MQ below (Qi G r z') args s 0 0 (AA G)) (F0 m 75 ls []) := by
  have hx := C.1
  have hb := C.2.1
  unfold bX10_text_75 at h
  refine lv_aload_n hx hb dX10_text_75 rfl (lv_at hl 0 rfl) ?_
  refine lv_iload_n hx hb dX10_text_76 rfl (lv_at hl 1 rfl) ?_
  obtain ⟨x77, z77, hq, h⟩ := ob2 h
  refine wz_rI (c' := 0) (s' := 0) hW (wz_runV (rest := []) C hW lVX10_263 (ck hq).1 rfl (ctX10_readText l G a0 l1 z hq) ⟨⟨rfl, rfl⟩, Nat.le_of_ble_eq_true rfl, Nat.le_of_ble_eq_true rfl⟩ rfl hl.1 rfl (Nat.le_of_ble_eq_true rfl) dX10_text_77 ⟨Nat.le_of_ble_eq_true rfl, Nat.le_of_ble_eq_true rfl⟩) rfl rfl (fun H locs hW => ?_)
  refine lv_if_ne (tgt := 85) hx hb dX10_text_80 (by decide) (fun c80 => ?_) (fun c80 => ?_)
  · have h := ite_f c80 h
    refine lv_iload_n hx hb dX10_text_85 rfl (lv_at hl 2 rfl) ?_
    refine lv_iconst (v := -1) hx hb dX10_text_86 (by decide) ?_
    refine lv_icmp_ne (tgt := 99) hx hb dX10_text_87 (by decide) (fun c87 => ?_) (fun c87 => ?_)
    · have h := ite_f c87 h
      refine lv_iload_n hx hb dX10_text_99 rfl (lv_at hl 2 rfl) ?_
      exact kbX10_text_100 C hlk hr a0 l1 l2 l2 h hW (lv_sub hl [0, 1, 2] rfl)
    · have h := ite_t c87 h
      refine lv_aload_n hx hb dX10_text_90 rfl (lv_at hl 0 rfl) ?_
      obtain ⟨b91, hg, h⟩ := ob h
      refine wz_gN C hW flX10_23 hg dX10_text_91 ?_
      refine lv_iload_n hx hb dX10_text_94 rfl (lv_at hl 1 rfl) ?_
      obtain ⟨x95, hg, h⟩ := ob h
      refine wz_ald C hW hg dX10_text_95 ?_
      refine lv_goto (tgt := 100) hx hb dX10_text_96 (by decide) ?_
      exact kbX10_text_100 C hlk hr a0 l1 l2 x95 h hW (lv_sub hl [0, 1, 2] rfl)
  · have h := ite_t c80 h
    refine lv_iconst (v := -1) hx hb dX10_text_83 (by decide) ?_
    exact wz_iretE C hlk hr (so2 h).1 (so2 h).2 hW dX10_text_84
def fX10_text (a0 : Nat) (l1 : Int32) (l2 : Int32) (z : AH) : Option (Int32 × AH) :=
  if isO 9 z a0 = true then
    (pF 9 0 z a0 (.int (0 : Int32))).bind fun z2 =>
    (gN 9 2 z2 a0).bind fun b7 =>
    (ixI 0 z2 b7 (0 : Int32)).bind fun x11 =>
    (pF 9 11 z2 a0 (.int x11)).bind fun z12 =>
    (gN 9 2 z12 a0).bind fun b16 =>
    (stI 0 z12 b16 (0 : Int32) (0 : Int32)).bind fun z21 =>
    (gN 9 3 z21 a0).bind fun b23 =>
    (stI 0 z21 b23 (0 : Int32) (0 : Int32)).bind fun z28 =>
    (gN 9 4 z28 a0).bind fun b30 =>
    (stI 0 z28 b30 (0 : Int32) (-1 : Int32)).bind fun z35 =>
    if (fX10_in l1 (0 : Int32) (3 : Int32)) = (0 : Int32) then (
      some ((-2 : Int32), z35)
    ) else (
      if l2 = (-1 : Int32) then (
        (gN 9 5 z35 a0).bind fun b51 =>
        (ixI 0 z35 b51 l1).bind fun x55 =>
        if x55 = (2 : Int32) then (
          some ((-2 : Int32), z35)
        ) else (
          bX10_text_75 a0 l1 l2 z35
        )
      ) else (
        (fX10_is a0 l1 l2 z35).bind fun x66 =>
        if x66 = (0 : Int32) then (
          some ((-2 : Int32), z35)
        ) else (
          bX10_text_75 a0 l1 l2 z35
        )
      )
    )
  else none
set_option maxHeartbeats 4000000 in
set_option maxRecDepth 100000 in
theorem ctX10_text (l : Launch) (G : GW) (a0 : Nat) (l1 : Int32) (l2 : Int32) (z : AH) {r : Int32} {z' : AH} (h : fX10_text a0 l1 l2 z = some (r, z')) : Met l yX10_text (wy yX10_text cX10_text 4 (some .int)) rmX10_text (Pz G [.ref (gB G + a0), .int l1, .int l2] z) (Qi G r z') 0 0 (AA G) := by
  refine wz_ent (own := RX10) (by decide +kernel) rfl (fun p e s m below meth c ls C hlk hr hin hW hl => ?_) (Nat.le_of_ble_eq_true rfl)
  have hl : lv_has ls 4 [(0, .ref (gB G + a0)), (1, .int l1), (2, .int l2)] := hl
  have hx := C.1
  have hb := C.2.1
  unfold fX10_text at h
  obtain ⟨-, h⟩ := ck h
  refine lv_aload_n hx hb dX10_text_0 rfl (lv_at hl 0 rfl) ?_
  refine lv_iconst (v := 0) hx hb dX10_text_1 (by decide) ?_
  obtain ⟨z2, hg, h⟩ := ob h
  refine wz_put (v := (.int (0 : Int32))) C hW flX10_81 rfl rfl hg dX10_text_2 (fun H locs hW => ?_)
  refine lv_aload_n hx hb dX10_text_5 rfl (lv_at hl 0 rfl) ?_
  refine lv_aload_n hx hb dX10_text_6 rfl (lv_at hl 0 rfl) ?_
  obtain ⟨b7, hg, h⟩ := ob h
  refine wz_gN C hW flX10_13 hg dX10_text_7 ?_
  refine lv_iconst (v := 0) hx hb dX10_text_10 (by decide) ?_
  obtain ⟨x11, hg, h⟩ := ob h
  refine wz_ald C hW hg dX10_text_11 ?_
  obtain ⟨z12, hg, h⟩ := ob h
  refine wz_put (v := (.int x11)) C hW flX10_104 rfl rfl hg dX10_text_12 (fun H locs hW => ?_)
  refine lv_aload_n hx hb dX10_text_15 rfl (lv_at hl 0 rfl) ?_
  obtain ⟨b16, hg, h⟩ := ob h
  refine wz_gN C hW flX10_13 hg dX10_text_16 ?_
  refine lv_iconst (v := 0) hx hb dX10_text_19 (by decide) ?_
  refine lv_iconst (v := 0) hx hb dX10_text_20 (by decide) ?_
  obtain ⟨z21, hg, h⟩ := ob h
  refine wz_ast C hW hg dX10_text_21 (fun H locs hW => ?_)
  refine lv_aload_n hx hb dX10_text_22 rfl (lv_at hl 0 rfl) ?_
  obtain ⟨b23, hg, h⟩ := ob h
  refine wz_gN C hW flX10_17 hg dX10_text_23 ?_
  refine lv_iconst (v := 0) hx hb dX10_text_26 (by decide) ?_
  refine lv_iconst (v := 0) hx hb dX10_text_27 (by decide) ?_
  obtain ⟨z28, hg, h⟩ := ob h
  refine wz_ast C hW hg dX10_text_28 (fun H locs hW => ?_)
  refine lv_aload_n hx hb dX10_text_29 rfl (lv_at hl 0 rfl) ?_
  obtain ⟨b30, hg, h⟩ := ob h
  refine wz_gN C hW flX10_20 hg dX10_text_30 ?_
  refine lv_iconst (v := 0) hx hb dX10_text_33 (by decide) ?_
  refine lv_iconst (v := -1) hx hb dX10_text_34 (by decide) ?_
  obtain ⟨z35, hg, h⟩ := ob h
  refine wz_ast C hW hg dX10_text_35 (fun H locs hW => ?_)
  refine lv_iload_n hx hb dX10_text_36 rfl (lv_at hl 1 rfl) ?_
  refine lv_iconst (v := 0) hx hb dX10_text_37 (by decide) ?_
  refine lv_iconst (v := 3) hx hb dX10_text_38 (by decide) ?_
  refine wz_rI (c' := 0) (s' := 0) hW (wz_runS (rest := []) C hW lTX10_93 (ctX10_in l G l1 (0 : Int32) (3 : Int32) z35 rfl) ⟨⟨rfl, rfl⟩, Nat.le_of_ble_eq_true rfl, Nat.le_of_ble_eq_true rfl⟩ rfl hl.1 rfl (Nat.le_of_ble_eq_true rfl) dX10_text_39 ⟨Nat.le_of_ble_eq_true rfl, Nat.le_of_ble_eq_true rfl⟩) rfl rfl (fun H locs hW => ?_)
  refine lv_if_eq (tgt := 72) hx hb dX10_text_42 (by decide) (fun c42 => ?_) (fun c42 => ?_)
  · have h := ite_t c42 h
    refine lv_bipush (v := -2) hx hb dX10_text_72 (by decide) ?_
    exact wz_iretE C hlk hr (so2 h).1 (so2 h).2 hW dX10_text_74
  · have h := ite_f c42 h
    refine lv_iload_n hx hb dX10_text_45 rfl (lv_at hl 2 rfl) ?_
    refine lv_iconst (v := -1) hx hb dX10_text_46 (by decide) ?_
    refine lv_icmp_ne (tgt := 63) hx hb dX10_text_47 (by decide) (fun c47 => ?_) (fun c47 => ?_)
    · have h := ite_f c47 h
      refine lv_aload_n hx hb dX10_text_63 rfl (lv_at hl 0 rfl) ?_
      refine lv_iload_n hx hb dX10_text_64 rfl (lv_at hl 1 rfl) ?_
      refine lv_iload_n hx hb dX10_text_65 rfl (lv_at hl 2 rfl) ?_
      obtain ⟨x66, hq, h⟩ := ob h
      refine wz_rI (c' := 0) (s' := 0) hW (wz_runV (rest := []) C hW lVX10_260 (ck hq).1 rfl (ctX10_is l G a0 l1 l2 z35 hq) ⟨⟨rfl, rfl⟩, Nat.le_of_ble_eq_true rfl, Nat.le_of_ble_eq_true rfl⟩ rfl hl.1 rfl (Nat.le_of_ble_eq_true rfl) dX10_text_66 ⟨Nat.le_of_ble_eq_true rfl, Nat.le_of_ble_eq_true rfl⟩) rfl rfl (fun H locs hW => ?_)
      refine lv_if_ne (tgt := 75) hx hb dX10_text_69 (by decide) (fun c69 => ?_) (fun c69 => ?_)
      · have h := ite_f c69 h
        exact kbX10_text_75 C hlk hr a0 l1 l2 h hW (lv_sub hl [0, 1, 2] rfl)
      · have h := ite_t c69 h
        refine lv_bipush (v := -2) hx hb dX10_text_72 (by decide) ?_
        exact wz_iretE C hlk hr (so2 h).1 (so2 h).2 hW dX10_text_74
    · have h := ite_t c47 h
      refine lv_aload_n hx hb dX10_text_50 rfl (lv_at hl 0 rfl) ?_
      obtain ⟨b51, hg, h⟩ := ob h
      refine wz_gN C hW flX10_23 hg dX10_text_51 ?_
      refine lv_iload_n hx hb dX10_text_54 rfl (lv_at hl 1 rfl) ?_
      obtain ⟨x55, hg, h⟩ := ob h
      refine wz_ald C hW hg dX10_text_55 ?_
      refine lv_iconst (v := 2) hx hb dX10_text_56 (by decide) ?_
      refine lv_icmp_ne (tgt := 75) hx hb dX10_text_57 (by decide) (fun c57 => ?_) (fun c57 => ?_)
      · have h := ite_f c57 h
        exact kbX10_text_75 C hlk hr a0 l1 l2 h hW (lv_sub hl [0, 1, 2] rfl)
      · have h := ite_t c57 h
        refine lv_goto (tgt := 72) hx hb dX10_text_60 (by decide) ?_
        refine lv_bipush (v := -2) hx hb dX10_text_72 (by decide) ?_
        exact wz_iretE C hlk hr (so2 h).1 (so2 h).2 hW dX10_text_74
theorem dX10_fault_0 : decode cX10_fault 0 = .ok (.aload_n 0, 1) := by decide +kernel
theorem dX10_fault_1 : decode cX10_fault 1 = .ok (.iconst 0, 1) := by decide +kernel
theorem dX10_fault_2 : decode cX10_fault 2 = .ok (.putfield 81, 3) := by decide +kernel
theorem dX10_fault_5 : decode cX10_fault 5 = .ok (.iload_n 1, 1) := by decide +kernel
theorem dX10_fault_6 : decode cX10_fault 6 = .ok (.ifCond .ne 12, 3) := by decide +kernel
theorem dX10_fault_9 : decode cX10_fault 9 = .ok (.aload_n 0, 1) := by decide +kernel
theorem dX10_fault_10 : decode cX10_fault 10 = .ok (.getfield 17, 3) := by decide +kernel
theorem dX10_fault_13 : decode cX10_fault 13 = .ok (.iconst 0, 1) := by decide +kernel
theorem dX10_fault_14 : decode cX10_fault 14 = .ok (.iaload, 1) := by decide +kernel
theorem dX10_fault_15 : decode cX10_fault 15 = .ok (.goto 18, 3) := by decide +kernel
theorem dX10_fault_18 : decode cX10_fault 18 = .ok (.iload_n 1, 1) := by decide +kernel
theorem dX10_fault_19 : decode cX10_fault 19 = .ok (.iconst 1, 1) := by decide +kernel
theorem dX10_fault_20 : decode cX10_fault 20 = .ok (.if_icmp .ne 12, 3) := by decide +kernel
theorem dX10_fault_23 : decode cX10_fault 23 = .ok (.aload_n 0, 1) := by decide +kernel
theorem dX10_fault_24 : decode cX10_fault 24 = .ok (.getfield 20, 3) := by decide +kernel
theorem dX10_fault_27 : decode cX10_fault 27 = .ok (.iconst 0, 1) := by decide +kernel
theorem dX10_fault_28 : decode cX10_fault 28 = .ok (.iaload, 1) := by decide +kernel
theorem dX10_fault_29 : decode cX10_fault 29 = .ok (.goto 4, 3) := by decide +kernel
theorem dX10_fault_32 : decode cX10_fault 32 = .ok (.iconst (-1), 1) := by decide +kernel
theorem dX10_fault_33 : decode cX10_fault 33 = .ok (.ireturn, 1) := by decide +kernel
abbrev rmX10_fault : Room := { frames := 0, cells := 0, slots := 0, locals := 0 }
def fX10_fault (a0 : Nat) (l1 : Int32) (z : AH) : Option (Int32 × AH) :=
  if isO 9 z a0 = true then
    (pF 9 0 z a0 (.int (0 : Int32))).bind fun z2 =>
    if l1 = (0 : Int32) then (
      (gN 9 3 z2 a0).bind fun b10 =>
      (ixI 0 z2 b10 (0 : Int32)).bind fun x14 =>
      some (x14, z2)
    ) else (
      if l1 = (1 : Int32) then (
        (gN 9 4 z2 a0).bind fun b24 =>
        (ixI 0 z2 b24 (0 : Int32)).bind fun x28 =>
        some (x28, z2)
      ) else (
        some ((-1 : Int32), z2)
      )
    )
  else none
set_option maxHeartbeats 4000000 in
set_option maxRecDepth 100000 in
theorem ctX10_fault (l : Launch) (G : GW) (a0 : Nat) (l1 : Int32) (z : AH) {r : Int32} {z' : AH} (h : fX10_fault a0 l1 z = some (r, z')) : Met l yX10_fault (wy yX10_fault cX10_fault 2 (some .int)) rmX10_fault (Pz G [.ref (gB G + a0), .int l1] z) (Qi G r z') 0 0 (AA G) := by
  refine wz_ent (own := RX10) (by decide +kernel) rfl (fun p e s m below meth c ls C hlk hr hin hW hl => ?_) (Nat.le_of_ble_eq_true rfl)
  have hl : lv_has ls 2 [(0, .ref (gB G + a0)), (1, .int l1)] := hl
  have hx := C.1
  have hb := C.2.1
  unfold fX10_fault at h
  obtain ⟨-, h⟩ := ck h
  refine lv_aload_n hx hb dX10_fault_0 rfl (lv_at hl 0 rfl) ?_
  refine lv_iconst (v := 0) hx hb dX10_fault_1 (by decide) ?_
  obtain ⟨z2, hg, h⟩ := ob h
  refine wz_put (v := (.int (0 : Int32))) C hW flX10_81 rfl rfl hg dX10_fault_2 (fun H locs hW => ?_)
  refine lv_iload_n hx hb dX10_fault_5 rfl (lv_at hl 1 rfl) ?_
  refine lv_if_ne (tgt := 18) hx hb dX10_fault_6 (by decide) (fun c6 => ?_) (fun c6 => ?_)
  · have h := ite_f c6 h
    refine lv_iload_n hx hb dX10_fault_18 rfl (lv_at hl 1 rfl) ?_
    refine lv_iconst (v := 1) hx hb dX10_fault_19 (by decide) ?_
    refine lv_icmp_ne (tgt := 32) hx hb dX10_fault_20 (by decide) (fun c20 => ?_) (fun c20 => ?_)
    · have h := ite_f c20 h
      refine lv_iconst (v := -1) hx hb dX10_fault_32 (by decide) ?_
      exact wz_iretE C hlk hr (so2 h).1 (so2 h).2 hW dX10_fault_33
    · have h := ite_t c20 h
      refine lv_aload_n hx hb dX10_fault_23 rfl (lv_at hl 0 rfl) ?_
      obtain ⟨b24, hg, h⟩ := ob h
      refine wz_gN C hW flX10_20 hg dX10_fault_24 ?_
      refine lv_iconst (v := 0) hx hb dX10_fault_27 (by decide) ?_
      obtain ⟨x28, hg, h⟩ := ob h
      refine wz_ald C hW hg dX10_fault_28 ?_
      refine lv_goto (tgt := 33) hx hb dX10_fault_29 (by decide) ?_
      exact wz_iretE C hlk hr (so2 h).1 (so2 h).2 hW dX10_fault_33
  · have h := ite_t c6 h
    refine lv_aload_n hx hb dX10_fault_9 rfl (lv_at hl 0 rfl) ?_
    obtain ⟨b10, hg, h⟩ := ob h
    refine wz_gN C hW flX10_17 hg dX10_fault_10 ?_
    refine lv_iconst (v := 0) hx hb dX10_fault_13 (by decide) ?_
    obtain ⟨x14, hg, h⟩ := ob h
    refine wz_ald C hW hg dX10_fault_14 ?_
    refine lv_goto (tgt := 33) hx hb dX10_fault_15 (by decide) ?_
    exact wz_iretE C hlk hr (so2 h).1 (so2 h).2 hW dX10_fault_33
theorem dX10_of_0 : decode cX10_of 0 = .ok (.aload_n 0, 1) := by decide +kernel
theorem dX10_of_1 : decode cX10_of 1 = .ok (.getfield 26, 3) := by decide +kernel
theorem dX10_of_4 : decode cX10_of 4 = .ok (.bipush 110, 2) := by decide +kernel
theorem dX10_of_6 : decode cX10_of 6 = .ok (.aload_n 0, 1) := by decide +kernel
theorem dX10_of_7 : decode cX10_of 7 = .ok (.getfield 269, 3) := by decide +kernel
theorem dX10_of_10 : decode cX10_of 10 = .ok (.imul, 1) := by decide +kernel
theorem dX10_of_11 : decode cX10_of 11 = .ok (.iload_n 1, 1) := by decide +kernel
theorem dX10_of_12 : decode cX10_of 12 = .ok (.iadd, 1) := by decide +kernel
theorem dX10_of_13 : decode cX10_of 13 = .ok (.iaload, 1) := by decide +kernel
theorem dX10_of_14 : decode cX10_of 14 = .ok (.ireturn, 1) := by decide +kernel
theorem flX10_269 : FL RX10 269 9 25 := ⟨_, rfl, Nat.le_of_ble_eq_true rfl, tw 1224 (by decide +kernel) rfl, rfl⟩
abbrev rmX10_of : Room := { frames := 0, cells := 0, slots := 0, locals := 0 }
def fX10_of (a0 : Nat) (l1 : Int32) (z : AH) : Option (Int32) :=
  if isO 9 z a0 = true then
    (gN 9 6 z a0).bind fun b1 =>
    (gI 9 25 z a0).bind fun x7 =>
    (ixI 0 z b1 (((110 : Int32) * x7) + l1)).bind fun x13 =>
    some x13
  else none
set_option maxHeartbeats 4000000 in
set_option maxRecDepth 100000 in
theorem ctX10_of (l : Launch) (G : GW) (a0 : Nat) (l1 : Int32) (z : AH) {r : Int32} (h : fX10_of a0 l1 z = some r) : Met l yX10_of (wy yX10_of cX10_of 2 (some .int)) rmX10_of (Pz G [.ref (gB G + a0), .int l1] z) (Qi G r z) 0 0 (AA G) := by
  refine wz_ent (own := RX10) (by decide +kernel) rfl (fun p e s m below meth c ls C hlk hr hin hW hl => ?_) (Nat.le_of_ble_eq_true rfl)
  have hl : lv_has ls 2 [(0, .ref (gB G + a0)), (1, .int l1)] := hl
  have hx := C.1
  have hb := C.2.1
  unfold fX10_of at h
  obtain ⟨-, h⟩ := ck h
  refine lv_aload_n hx hb dX10_of_0 rfl (lv_at hl 0 rfl) ?_
  obtain ⟨b1, hg, h⟩ := ob h
  refine wz_gN C hW flX10_26 hg dX10_of_1 ?_
  refine lv_bipush (v := 110) hx hb dX10_of_4 (by decide) ?_
  refine lv_aload_n hx hb dX10_of_6 rfl (lv_at hl 0 rfl) ?_
  obtain ⟨x7, hg, h⟩ := ob h
  refine wz_gI C hW flX10_269 hg dX10_of_7 ?_
  refine lv_imul hx hb dX10_of_10 ?_
  refine lv_iload_n hx hb dX10_of_11 rfl (lv_at hl 1 rfl) ?_
  refine lv_iadd hx hb dX10_of_12 ?_
  obtain ⟨x13, hg, h⟩ := ob h
  refine wz_ald C hW hg dX10_of_13 ?_
  exact wz_iretE C hlk hr (Option.some.inj h) rfl hW dX10_of_14
theorem dX10_begin_0 : decode cX10_begin 0 = .ok (.iconst 0, 1) := by decide +kernel
theorem dX10_begin_1 : decode cX10_begin 1 = .ok (.istore_n 1, 1) := by decide +kernel
theorem dX10_begin_2 : decode cX10_begin 2 = .ok (.iload_n 1, 1) := by decide +kernel
theorem dX10_begin_3 : decode cX10_begin 3 = .ok (.bipush 8, 2) := by decide +kernel
theorem dX10_begin_5 : decode cX10_begin 5 = .ok (.if_icmp .ge 37, 3) := by decide +kernel
theorem dX10_begin_8 : decode cX10_begin 8 = .ok (.aload_n 0, 1) := by decide +kernel
theorem dX10_begin_9 : decode cX10_begin 9 = .ok (.getfield 44, 3) := by decide +kernel
theorem dX10_begin_12 : decode cX10_begin 12 = .ok (.iload_n 1, 1) := by decide +kernel
theorem dX10_begin_13 : decode cX10_begin 13 = .ok (.aload_n 0, 1) := by decide +kernel
theorem dX10_begin_14 : decode cX10_begin 14 = .ok (.bipush 6, 2) := by decide +kernel
theorem dX10_begin_16 : decode cX10_begin 16 = .ok (.iload_n 1, 1) := by decide +kernel
theorem dX10_begin_17 : decode cX10_begin 17 = .ok (.iadd, 1) := by decide +kernel
theorem dX10_begin_18 : decode cX10_begin 18 = .ok (.invokevirtual 272, 3) := by decide +kernel
theorem dX10_begin_21 : decode cX10_begin 21 = .ok (.iastore, 1) := by decide +kernel
theorem dX10_begin_22 : decode cX10_begin 22 = .ok (.aload_n 0, 1) := by decide +kernel
theorem dX10_begin_23 : decode cX10_begin 23 = .ok (.getfield 47, 3) := by decide +kernel
theorem dX10_begin_26 : decode cX10_begin 26 = .ok (.iload_n 1, 1) := by decide +kernel
theorem dX10_begin_27 : decode cX10_begin 27 = .ok (.aload_n 0, 1) := by decide +kernel
theorem dX10_begin_28 : decode cX10_begin 28 = .ok (.bipush 14, 2) := by decide +kernel
theorem dX10_begin_30 : decode cX10_begin 30 = .ok (.iload_n 1, 1) := by decide +kernel
theorem dX10_begin_31 : decode cX10_begin 31 = .ok (.iadd, 1) := by decide +kernel
theorem dX10_begin_32 : decode cX10_begin 32 = .ok (.invokevirtual 272, 3) := by decide +kernel
theorem dX10_begin_35 : decode cX10_begin 35 = .ok (.iastore, 1) := by decide +kernel
theorem dX10_begin_36 : decode cX10_begin 36 = .ok (.iinc 1 1, 3) := by decide +kernel
theorem dX10_begin_39 : decode cX10_begin 39 = .ok (.goto (-37), 3) := by decide +kernel
theorem dX10_begin_42 : decode cX10_begin 42 = .ok (.aload_n 0, 1) := by decide +kernel
theorem dX10_begin_43 : decode cX10_begin 43 = .ok (.iconst 0, 1) := by decide +kernel
theorem dX10_begin_44 : decode cX10_begin 44 = .ok (.putfield 288, 3) := by decide +kernel
theorem dX10_begin_47 : decode cX10_begin 47 = .ok (.aload_n 0, 1) := by decide +kernel
theorem dX10_begin_48 : decode cX10_begin 48 = .ok (.iconst 0, 1) := by decide +kernel
theorem dX10_begin_49 : decode cX10_begin 49 = .ok (.putfield 291, 3) := by decide +kernel
theorem dX10_begin_52 : decode cX10_begin 52 = .ok (.aload_n 0, 1) := by decide +kernel
theorem dX10_begin_53 : decode cX10_begin 53 = .ok (.iconst 0, 1) := by decide +kernel
theorem dX10_begin_54 : decode cX10_begin 54 = .ok (.putfield 294, 3) := by decide +kernel
theorem dX10_begin_57 : decode cX10_begin 57 = .ok (.aload_n 0, 1) := by decide +kernel
theorem dX10_begin_58 : decode cX10_begin 58 = .ok (.iconst 0, 1) := by decide +kernel
theorem dX10_begin_59 : decode cX10_begin 59 = .ok (.putfield 297, 3) := by decide +kernel
theorem dX10_begin_62 : decode cX10_begin 62 = .ok (.aload_n 0, 1) := by decide +kernel
theorem dX10_begin_63 : decode cX10_begin 63 = .ok (.iconst 0, 1) := by decide +kernel
theorem dX10_begin_64 : decode cX10_begin 64 = .ok (.putfield 300, 3) := by decide +kernel
theorem dX10_begin_67 : decode cX10_begin 67 = .ok (.aload_n 0, 1) := by decide +kernel
theorem dX10_begin_68 : decode cX10_begin 68 = .ok (.iconst 0, 1) := by decide +kernel
theorem dX10_begin_69 : decode cX10_begin 69 = .ok (.putfield 303, 3) := by decide +kernel
theorem dX10_begin_72 : decode cX10_begin 72 = .ok (.aload_n 0, 1) := by decide +kernel
theorem dX10_begin_73 : decode cX10_begin 73 = .ok (.iconst 0, 1) := by decide +kernel
theorem dX10_begin_74 : decode cX10_begin 74 = .ok (.putfield 306, 3) := by decide +kernel
theorem dX10_begin_77 : decode cX10_begin 77 = .ok (.return_, 1) := by decide +kernel
theorem flX10_288 : FL RX10 288 9 31 := ⟨_, rfl, Nat.le_of_ble_eq_true rfl, tw 1230 (by decide +kernel) rfl, rfl⟩
theorem flX10_291 : FL RX10 291 9 32 := ⟨_, rfl, Nat.le_of_ble_eq_true rfl, tw 1231 (by decide +kernel) rfl, rfl⟩
theorem flX10_294 : FL RX10 294 9 33 := ⟨_, rfl, Nat.le_of_ble_eq_true rfl, tw 1232 (by decide +kernel) rfl, rfl⟩
theorem flX10_297 : FL RX10 297 9 34 := ⟨_, rfl, Nat.le_of_ble_eq_true rfl, tw 1233 (by decide +kernel) rfl, rfl⟩
theorem flX10_300 : FL RX10 300 9 35 := ⟨_, rfl, Nat.le_of_ble_eq_true rfl, tw 1234 (by decide +kernel) rfl, rfl⟩
theorem flX10_303 : FL RX10 303 9 36 := ⟨_, rfl, Nat.le_of_ble_eq_true rfl, tw 1235 (by decide +kernel) rfl, rfl⟩
theorem flX10_306 : FL RX10 306 9 37 := ⟨_, rfl, Nat.le_of_ble_eq_true rfl, tw 1236 (by decide +kernel) rfl, rfl⟩
theorem cdX10_of : Cond.code yX10_of cX10_of 2 (some .int) ∈ tz := tc6 208 rfl rfl
theorem lVX10_272 : LV RX10 272 yX10_of cX10_of 2 (some .int) 1 := ⟨tw 1524 (by decide +kernel) rfl, tw 1526 (by decide +kernel) rfl, tw 63 (by decide +kernel) rfl, tw 128 (by decide +kernel) rfl, cdX10_of, ⟨by decide +kernel, by decide +kernel, by decide +kernel⟩⟩
abbrev rmX10_begin : Room := { frames := 1, cells := 0, slots := 0, locals := 21 }
def bX10_begin_2 (k2 : Nat → Int32 → AH → Option AH) (a0 : Nat) (l1 : Int32) (z : AH) : Option AH :=
  if (8 : Int32) ≤ l1 then (
    (pF 9 31 z a0 (.int (0 : Int32))).bind fun z44 =>
    (pF 9 32 z44 a0 (.int (0 : Int32))).bind fun z49 =>
    (pF 9 33 z49 a0 (.int (0 : Int32))).bind fun z54 =>
    (pF 9 34 z54 a0 (.int (0 : Int32))).bind fun z59 =>
    (pF 9 35 z59 a0 (.int (0 : Int32))).bind fun z64 =>
    (pF 9 36 z64 a0 (.int (0 : Int32))).bind fun z69 =>
    (pF 9 37 z69 a0 (.int (0 : Int32))).bind fun z74 =>
    some z74
  ) else (
    (gN 9 28 z a0).bind fun b9 =>
    (fX10_of a0 ((6 : Int32) + l1) z).bind fun x18 =>
    (stI 0 z b9 l1 x18).bind fun z21 =>
    (gN 9 29 z21 a0).bind fun b23 =>
    (fX10_of a0 ((14 : Int32) + l1) z21).bind fun x32 =>
    (stI 0 z21 b23 l1 x32).bind fun z35 =>
    nm (l1 + (1 : Int32)) fun v36 =>
    k2 a0 v36 z35
  )
set_option maxHeartbeats 4000000 in
set_option maxRecDepth 100000 in
theorem kbX10_begin_2 {p : Program} {l : Launch} {e : Env} {s : State} {m : MethodId} {args : Array Value} {below : List Frame} {meth : Method} {c : Code} {G : GW} {z' : AH} (C : Cx p m c cX10_begin 2 s args RX10 G) (hlk : meth.locks = false) (hr : meth.sig.returnType = none) (k2 : Nat → Int32 → AH → Option AH) (hk2 : ∀ (a0 : Nat) (l1 : Int32) (z : AH) (H : Heap) (locs : List Loc) (ls : Array Slot), k2 a0 l1 z = some z' → Wb G z s H locs → lv_has ls 2 [(0, .ref (gB G + a0)), (1, .int l1)] → W p l e rmX10_begin s m args below meth c H locs 0 0 (MQ below (Qv G z') args s 0 0 (AA G)) (F0 m 2 ls [])) (a0 : Nat) (l1 : Int32) {z : AH} {H : Heap} {locs : List Loc} {ls : Array Slot} (h : bX10_begin_2 k2 a0 l1 z = some z') (hW : Wb G z s H locs) (hl : lv_has ls 2 [(0, .ref (gB G + a0)), (1, .int l1)]) : W p l e rmX10_begin s m args below meth c H locs 0 0 (MQ below (Qv G z') args s 0 0 (AA G)) (F0 m 2 ls []) := by
  have hx := C.1
  have hb := C.2.1
  unfold bX10_begin_2 at h
  refine lv_iload_n hx hb dX10_begin_2 rfl (lv_at hl 1 rfl) ?_
  refine lv_bipush (v := 8) hx hb dX10_begin_3 (by decide) ?_
  refine lv_icmp_ge (tgt := 42) hx hb dX10_begin_5 (by decide) (fun c5 => ?_) (fun c5 => ?_)
  · have h := ite_t c5 h
    refine lv_aload_n hx hb dX10_begin_42 rfl (lv_at hl 0 rfl) ?_
    refine lv_iconst (v := 0) hx hb dX10_begin_43 (by decide) ?_
    obtain ⟨z44, hg, h⟩ := ob h
    refine wz_put (v := (.int (0 : Int32))) C hW flX10_288 rfl rfl hg dX10_begin_44 (fun H locs hW => ?_)
    refine lv_aload_n hx hb dX10_begin_47 rfl (lv_at hl 0 rfl) ?_
    refine lv_iconst (v := 0) hx hb dX10_begin_48 (by decide) ?_
    obtain ⟨z49, hg, h⟩ := ob h
    refine wz_put (v := (.int (0 : Int32))) C hW flX10_291 rfl rfl hg dX10_begin_49 (fun H locs hW => ?_)
    refine lv_aload_n hx hb dX10_begin_52 rfl (lv_at hl 0 rfl) ?_
    refine lv_iconst (v := 0) hx hb dX10_begin_53 (by decide) ?_
    obtain ⟨z54, hg, h⟩ := ob h
    refine wz_put (v := (.int (0 : Int32))) C hW flX10_294 rfl rfl hg dX10_begin_54 (fun H locs hW => ?_)
    refine lv_aload_n hx hb dX10_begin_57 rfl (lv_at hl 0 rfl) ?_
    refine lv_iconst (v := 0) hx hb dX10_begin_58 (by decide) ?_
    obtain ⟨z59, hg, h⟩ := ob h
    refine wz_put (v := (.int (0 : Int32))) C hW flX10_297 rfl rfl hg dX10_begin_59 (fun H locs hW => ?_)
    refine lv_aload_n hx hb dX10_begin_62 rfl (lv_at hl 0 rfl) ?_
    refine lv_iconst (v := 0) hx hb dX10_begin_63 (by decide) ?_
    obtain ⟨z64, hg, h⟩ := ob h
    refine wz_put (v := (.int (0 : Int32))) C hW flX10_300 rfl rfl hg dX10_begin_64 (fun H locs hW => ?_)
    refine lv_aload_n hx hb dX10_begin_67 rfl (lv_at hl 0 rfl) ?_
    refine lv_iconst (v := 0) hx hb dX10_begin_68 (by decide) ?_
    obtain ⟨z69, hg, h⟩ := ob h
    refine wz_put (v := (.int (0 : Int32))) C hW flX10_303 rfl rfl hg dX10_begin_69 (fun H locs hW => ?_)
    refine lv_aload_n hx hb dX10_begin_72 rfl (lv_at hl 0 rfl) ?_
    refine lv_iconst (v := 0) hx hb dX10_begin_73 (by decide) ?_
    obtain ⟨z74, hg, h⟩ := ob h
    refine wz_put (v := (.int (0 : Int32))) C hW flX10_306 rfl rfl hg dX10_begin_74 (fun H locs hW => ?_)
    exact wz_vretE C hlk hr (Option.some.inj h) hW dX10_begin_77
  · have h := ite_f c5 h
    refine lv_aload_n hx hb dX10_begin_8 rfl (lv_at hl 0 rfl) ?_
    obtain ⟨b9, hg, h⟩ := ob h
    refine wz_gN C hW flX10_44 hg dX10_begin_9 ?_
    refine lv_iload_n hx hb dX10_begin_12 rfl (lv_at hl 1 rfl) ?_
    refine lv_aload_n hx hb dX10_begin_13 rfl (lv_at hl 0 rfl) ?_
    refine lv_bipush (v := 6) hx hb dX10_begin_14 (by decide) ?_
    refine lv_iload_n hx hb dX10_begin_16 rfl (lv_at hl 1 rfl) ?_
    refine lv_iadd hx hb dX10_begin_17 ?_
    obtain ⟨x18, hq, h⟩ := ob h
    refine wz_rI (c' := 0) (s' := 0) hW (wz_runV (rest := [.int l1, .ref (gB G + b9)]) C hW lVX10_272 (ck hq).1 rfl (ctX10_of l G a0 ((6 : Int32) + l1) z hq) ⟨⟨rfl, rfl⟩, Nat.le_of_ble_eq_true rfl, Nat.le_of_ble_eq_true rfl⟩ rfl hl.1 rfl (Nat.le_of_ble_eq_true rfl) dX10_begin_18 ⟨Nat.le_of_ble_eq_true rfl, Nat.le_of_ble_eq_true rfl⟩) rfl rfl (fun H locs hW => ?_)
    obtain ⟨z21, hg, h⟩ := ob h
    refine wz_ast C hW hg dX10_begin_21 (fun H locs hW => ?_)
    refine lv_aload_n hx hb dX10_begin_22 rfl (lv_at hl 0 rfl) ?_
    obtain ⟨b23, hg, h⟩ := ob h
    refine wz_gN C hW flX10_47 hg dX10_begin_23 ?_
    refine lv_iload_n hx hb dX10_begin_26 rfl (lv_at hl 1 rfl) ?_
    refine lv_aload_n hx hb dX10_begin_27 rfl (lv_at hl 0 rfl) ?_
    refine lv_bipush (v := 14) hx hb dX10_begin_28 (by decide) ?_
    refine lv_iload_n hx hb dX10_begin_30 rfl (lv_at hl 1 rfl) ?_
    refine lv_iadd hx hb dX10_begin_31 ?_
    obtain ⟨x32, hq, h⟩ := ob h
    refine wz_rI (c' := 0) (s' := 0) hW (wz_runV (rest := [.int l1, .ref (gB G + b23)]) C hW lVX10_272 (ck hq).1 rfl (ctX10_of l G a0 ((14 : Int32) + l1) z21 hq) ⟨⟨rfl, rfl⟩, Nat.le_of_ble_eq_true rfl, Nat.le_of_ble_eq_true rfl⟩ rfl hl.1 rfl (Nat.le_of_ble_eq_true rfl) dX10_begin_32 ⟨Nat.le_of_ble_eq_true rfl, Nat.le_of_ble_eq_true rfl⟩) rfl rfl (fun H locs hW => ?_)
    obtain ⟨z35, hg, h⟩ := ob h
    refine wz_ast C hW hg dX10_begin_35 (fun H locs hW => ?_)
    obtain ⟨v36, ev36⟩ : ∃ y : Int32, y = (l1 + (1 : Int32)) := ⟨_, rfl⟩
    have h := nm_to h ev36
    refine lv_iinc (v := v36) (lv' := [(1, .int v36), (0, .ref (gB G + a0))]) hx hb dX10_begin_36 hl (k := 1) rfl (by rw [ev36]; rfl) (by decide) rfl (fun ls hl => ?_)
    refine lv_goto (tgt := 2) hx hb dX10_begin_39 (by decide) ?_
    exact hk2 a0 v36 z35 _ _ _ h hW (lv_sub hl [1, 0] rfl)
def fX10_begin_2 : Nat → Nat → Int32 → AH → Option AH
  | 0, _, _, _ => none
  | n + 1, a0, l1, z => bX10_begin_2 (fX10_begin_2 n) a0 l1 z
theorem klX10_begin_2 {p : Program} {l : Launch} {e : Env} {s : State} {m : MethodId} {args : Array Value} {below : List Frame} {meth : Method} {c : Code} {G : GW} {z' : AH} (C : Cx p m c cX10_begin 2 s args RX10 G) (hlk : meth.locks = false) (hr : meth.sig.returnType = none) : ∀ (n : Nat) (a0 : Nat) (l1 : Int32) (z : AH) (H : Heap) (locs : List Loc) (ls : Array Slot), fX10_begin_2 n a0 l1 z = some z' → Wb G z s H locs → lv_has ls 2 [(0, .ref (gB G + a0)), (1, .int l1)] → W p l e rmX10_begin s m args below meth c H locs 0 0 (MQ below (Qv G z') args s 0 0 (AA G)) (F0 m 2 ls []) := by
  intro n
  induction n with
  | zero => intro a0 l1 z H locs ls h; have h : (none : Option AH) = some z' := h; cases h
  | succ n ih => intro a0 l1 z H locs ls h hW hl; exact kbX10_begin_2 C hlk hr (fX10_begin_2 n) (fun a0 l1 z H locs ls h hW hl => ih a0 l1 z H locs ls h hW hl) a0 l1 h hW hl
def fX10_begin (a0 : Nat) (z : AH) : Option AH :=
  if isO 9 z a0 = true then
    fX10_begin_2 FU a0 (0 : Int32) z
  else none
set_option maxHeartbeats 4000000 in
set_option maxRecDepth 100000 in
theorem ctX10_begin (l : Launch) (G : GW) (a0 : Nat) (z : AH) {z' : AH} (h : fX10_begin a0 z = some z') : Met l yX10_begin (wy yX10_begin cX10_begin 2 none) rmX10_begin (Pz G [.ref (gB G + a0)] z) (Qv G z') 0 0 (AA G) := by
  refine wz_ent (own := RX10) (by decide +kernel) rfl (fun p e s m below meth c ls C hlk hr hin hW hl => ?_) (Nat.le_of_ble_eq_true rfl)
  have hl : lv_has ls 2 [(0, .ref (gB G + a0))] := hl
  have hx := C.1
  have hb := C.2.1
  unfold fX10_begin at h
  obtain ⟨-, h⟩ := ck h
  refine lv_iconst (v := 0) hx hb dX10_begin_0 (by decide) ?_
  refine lv_istore_n (lv' := [(1, .int (0 : Int32)), (0, .ref (gB G + a0))]) hx hb dX10_begin_1 rfl hl (by decide) rfl (fun ls hl => ?_)
  exact klX10_begin_2 C hlk hr FU a0 (0 : Int32) z _ _ _ h hW (lv_sub hl [1, 0] rfl)
theorem dX10_bears_0 : decode cX10_bears 0 = .ok (.iconst 0, 1) := by decide +kernel
theorem dX10_bears_1 : decode cX10_bears 1 = .ok (.istore_n 2, 1) := by decide +kernel
theorem dX10_bears_2 : decode cX10_bears 2 = .ok (.iconst 0, 1) := by decide +kernel
theorem dX10_bears_3 : decode cX10_bears 3 = .ok (.istore_n 3, 1) := by decide +kernel
theorem dX10_bears_4 : decode cX10_bears 4 = .ok (.iload_n 3, 1) := by decide +kernel
theorem dX10_bears_5 : decode cX10_bears 5 = .ok (.aload_n 0, 1) := by decide +kernel
theorem dX10_bears_6 : decode cX10_bears 6 = .ok (.getfield 276, 3) := by decide +kernel
theorem dX10_bears_9 : decode cX10_bears 9 = .ok (.if_icmp .ge 42, 3) := by decide +kernel
theorem dX10_bears_12 : decode cX10_bears 12 = .ok (.iload_n 2, 1) := by decide +kernel
theorem dX10_bears_13 : decode cX10_bears 13 = .ok (.aload_n 0, 1) := by decide +kernel
theorem dX10_bears_14 : decode cX10_bears 14 = .ok (.getfield 50, 3) := by decide +kernel
theorem dX10_bears_17 : decode cX10_bears 17 = .ok (.iload_n 1, 1) := by decide +kernel
theorem dX10_bears_18 : decode cX10_bears 18 = .ok (.iaload, 1) := by decide +kernel
theorem dX10_bears_19 : decode cX10_bears 19 = .ok (.aload_n 0, 1) := by decide +kernel
theorem dX10_bears_20 : decode cX10_bears 20 = .ok (.getfield 288, 3) := by decide +kernel
theorem dX10_bears_23 : decode cX10_bears 23 = .ok (.iconst (-1), 1) := by decide +kernel
theorem dX10_bears_24 : decode cX10_bears 24 = .ok (.ixor, 1) := by decide +kernel
theorem dX10_bears_25 : decode cX10_bears 25 = .ok (.iand, 1) := by decide +kernel
theorem dX10_bears_26 : decode cX10_bears 26 = .ok (.iload_n 3, 1) := by decide +kernel
theorem dX10_bears_27 : decode cX10_bears 27 = .ok (.invokestatic 85, 3) := by decide +kernel
theorem dX10_bears_30 : decode cX10_bears 30 = .ok (.ifCond .eq 12, 3) := by decide +kernel
theorem dX10_bears_33 : decode cX10_bears 33 = .ok (.aload_n 0, 1) := by decide +kernel
theorem dX10_bears_34 : decode cX10_bears 34 = .ok (.getfield 47, 3) := by decide +kernel
theorem dX10_bears_37 : decode cX10_bears 37 = .ok (.iload_n 3, 1) := by decide +kernel
theorem dX10_bears_38 : decode cX10_bears 38 = .ok (.iaload, 1) := by decide +kernel
theorem dX10_bears_39 : decode cX10_bears 39 = .ok (.goto 4, 3) := by decide +kernel
theorem dX10_bears_42 : decode cX10_bears 42 = .ok (.iconst 0, 1) := by decide +kernel
theorem dX10_bears_43 : decode cX10_bears 43 = .ok (.iadd, 1) := by decide +kernel
theorem dX10_bears_44 : decode cX10_bears 44 = .ok (.istore_n 2, 1) := by decide +kernel
theorem dX10_bears_45 : decode cX10_bears 45 = .ok (.iinc 3 1, 3) := by decide +kernel
theorem dX10_bears_48 : decode cX10_bears 48 = .ok (.goto (-44), 3) := by decide +kernel
theorem dX10_bears_51 : decode cX10_bears 51 = .ok (.iload_n 2, 1) := by decide +kernel
theorem dX10_bears_52 : decode cX10_bears 52 = .ok (.ireturn, 1) := by decide +kernel
theorem flX10_276 : FL RX10 276 9 26 := ⟨_, rfl, Nat.le_of_ble_eq_true rfl, tw 1225 (by decide +kernel) rfl, rfl⟩
abbrev rmX10_bears : Room := { frames := 1, cells := 0, slots := 0, locals := 21 }
def bX10_bears_4 (k4 : Nat → Int32 → Int32 → Int32 → Option (Int32)) (a0 : Nat) (l1 : Int32) (l2 : Int32) (l3 : Int32) (z : AH) : Option (Int32) :=
  (gI 9 26 z a0).bind fun x6 =>
  if x6 ≤ l3 then (
    some l2
  ) else (
    (gN 9 30 z a0).bind fun b14 =>
    (ixI 0 z b14 l1).bind fun x18 =>
    (gI 9 31 z a0).bind fun x20 =>
    if (fX10_has (x18 &&& (x20 ^^^ (-1 : Int32))) l3) = (0 : Int32) then (
      nm (l2 + (0 : Int32)) fun v44 =>
      nm (l3 + (1 : Int32)) fun v45 =>
      k4 a0 l1 v44 v45
    ) else (
      (gN 9 29 z a0).bind fun b34 =>
      (ixI 0 z b34 l3).bind fun x38 =>
      nm (l2 + x38) fun v44 =>
      nm (l3 + (1 : Int32)) fun v45 =>
      k4 a0 l1 v44 v45
    )
  )
set_option maxHeartbeats 4000000 in
set_option maxRecDepth 100000 in
theorem kbX10_bears_4 {p : Program} {l : Launch} {e : Env} {s : State} {m : MethodId} {args : Array Value} {below : List Frame} {meth : Method} {c : Code} {G : GW} {r : Int32} (C : Cx p m c cX10_bears 4 s args RX10 G) (hlk : meth.locks = false) (hr : meth.sig.returnType = (some .int)) {z : AH} (k4 : Nat → Int32 → Int32 → Int32 → Option (Int32)) (hk4 : ∀ (a0 : Nat) (l1 : Int32) (l2 : Int32) (l3 : Int32) (H : Heap) (locs : List Loc) (ls : Array Slot), k4 a0 l1 l2 l3 = some r → Wb G z s H locs → lv_has ls 4 [(0, .ref (gB G + a0)), (1, .int l1), (2, .int l2), (3, .int l3)] → W p l e rmX10_bears s m args below meth c H locs 0 0 (MQ below (Qi G r z) args s 0 0 (AA G)) (F0 m 4 ls [])) (a0 : Nat) (l1 : Int32) (l2 : Int32) (l3 : Int32) {H : Heap} {locs : List Loc} {ls : Array Slot} (h : bX10_bears_4 k4 a0 l1 l2 l3 z = some r) (hW : Wb G z s H locs) (hl : lv_has ls 4 [(0, .ref (gB G + a0)), (1, .int l1), (2, .int l2), (3, .int l3)]) : W p l e rmX10_bears s m args below meth c H locs 0 0 (MQ below (Qi G r z) args s 0 0 (AA G)) (F0 m 4 ls []) := by
  have hx := C.1
  have hb := C.2.1
  unfold bX10_bears_4 at h
  refine lv_iload_n hx hb dX10_bears_4 rfl (lv_at hl 3 rfl) ?_
  refine lv_aload_n hx hb dX10_bears_5 rfl (lv_at hl 0 rfl) ?_
  obtain ⟨x6, hg, h⟩ := ob h
  refine wz_gI C hW flX10_276 hg dX10_bears_6 ?_
  refine lv_icmp_ge (tgt := 51) hx hb dX10_bears_9 (by decide) (fun c9 => ?_) (fun c9 => ?_)
  · have h := ite_t c9 h
    refine lv_iload_n hx hb dX10_bears_51 rfl (lv_at hl 2 rfl) ?_
    exact wz_iretE C hlk hr (Option.some.inj h) rfl hW dX10_bears_52
  · have h := ite_f c9 h
    refine lv_iload_n hx hb dX10_bears_12 rfl (lv_at hl 2 rfl) ?_
    refine lv_aload_n hx hb dX10_bears_13 rfl (lv_at hl 0 rfl) ?_
    obtain ⟨b14, hg, h⟩ := ob h
    refine wz_gN C hW flX10_50 hg dX10_bears_14 ?_
    refine lv_iload_n hx hb dX10_bears_17 rfl (lv_at hl 1 rfl) ?_
    obtain ⟨x18, hg, h⟩ := ob h
    refine wz_ald C hW hg dX10_bears_18 ?_
    refine lv_aload_n hx hb dX10_bears_19 rfl (lv_at hl 0 rfl) ?_
    obtain ⟨x20, hg, h⟩ := ob h
    refine wz_gI C hW flX10_288 hg dX10_bears_20 ?_
    refine lv_iconst (v := -1) hx hb dX10_bears_23 (by decide) ?_
    refine lv_ixor hx hb dX10_bears_24 ?_
    refine lv_iand hx hb dX10_bears_25 ?_
    refine lv_iload_n hx hb dX10_bears_26 rfl (lv_at hl 3 rfl) ?_
    refine wz_rI (c' := 0) (s' := 0) hW (wz_runS (rest := [.int l2]) C hW lTX10_85 (ctX10_has l G (x18 &&& (x20 ^^^ (-1 : Int32))) l3 z rfl) ⟨⟨rfl, rfl⟩, Nat.le_of_ble_eq_true rfl, Nat.le_of_ble_eq_true rfl⟩ rfl hl.1 rfl (Nat.le_of_ble_eq_true rfl) dX10_bears_27 ⟨Nat.le_of_ble_eq_true rfl, Nat.le_of_ble_eq_true rfl⟩) rfl rfl (fun H locs hW => ?_)
    refine lv_if_eq (tgt := 42) hx hb dX10_bears_30 (by decide) (fun c30 => ?_) (fun c30 => ?_)
    · have h := ite_t c30 h
      refine lv_iconst (v := 0) hx hb dX10_bears_42 (by decide) ?_
      refine lv_iadd hx hb dX10_bears_43 ?_
      refine lv_topi (fun v44 ev44 => ?_)
      have h := nm_to h ev44
      refine lv_istore_n (lv' := [(2, .int v44), (0, .ref (gB G + a0)), (1, .int l1), (3, .int l3)]) hx hb dX10_bears_44 rfl hl (by decide) rfl (fun ls hl => ?_)
      obtain ⟨v45, ev45⟩ : ∃ y : Int32, y = (l3 + (1 : Int32)) := ⟨_, rfl⟩
      have h := nm_to h ev45
      refine lv_iinc (v := v45) (lv' := [(3, .int v45), (2, .int v44), (0, .ref (gB G + a0)), (1, .int l1)]) hx hb dX10_bears_45 hl (k := 3) rfl (by rw [ev45]; rfl) (by decide) rfl (fun ls hl => ?_)
      refine lv_goto (tgt := 4) hx hb dX10_bears_48 (by decide) ?_
      exact hk4 a0 l1 v44 v45 _ _ _ h hW (lv_sub hl [2, 3, 1, 0] rfl)
    · have h := ite_f c30 h
      refine lv_aload_n hx hb dX10_bears_33 rfl (lv_at hl 0 rfl) ?_
      obtain ⟨b34, hg, h⟩ := ob h
      refine wz_gN C hW flX10_47 hg dX10_bears_34 ?_
      refine lv_iload_n hx hb dX10_bears_37 rfl (lv_at hl 3 rfl) ?_
      obtain ⟨x38, hg, h⟩ := ob h
      refine wz_ald C hW hg dX10_bears_38 ?_
      refine lv_goto (tgt := 43) hx hb dX10_bears_39 (by decide) ?_
      refine lv_iadd hx hb dX10_bears_43 ?_
      refine lv_topi (fun v44 ev44 => ?_)
      have h := nm_to h ev44
      refine lv_istore_n (lv' := [(2, .int v44), (0, .ref (gB G + a0)), (1, .int l1), (3, .int l3)]) hx hb dX10_bears_44 rfl hl (by decide) rfl (fun ls hl => ?_)
      obtain ⟨v45, ev45⟩ : ∃ y : Int32, y = (l3 + (1 : Int32)) := ⟨_, rfl⟩
      have h := nm_to h ev45
      refine lv_iinc (v := v45) (lv' := [(3, .int v45), (2, .int v44), (0, .ref (gB G + a0)), (1, .int l1)]) hx hb dX10_bears_45 hl (k := 3) rfl (by rw [ev45]; rfl) (by decide) rfl (fun ls hl => ?_)
      refine lv_goto (tgt := 4) hx hb dX10_bears_48 (by decide) ?_
      exact hk4 a0 l1 v44 v45 _ _ _ h hW (lv_sub hl [2, 3, 1, 0] rfl)
def fX10_bears_4 (z : AH) : Nat → Nat → Int32 → Int32 → Int32 → Option (Int32)
  | 0, _, _, _, _ => none
  | n + 1, a0, l1, l2, l3 => bX10_bears_4 (fX10_bears_4 z n) a0 l1 l2 l3 z
theorem klX10_bears_4 {p : Program} {l : Launch} {e : Env} {s : State} {m : MethodId} {args : Array Value} {below : List Frame} {meth : Method} {c : Code} {G : GW} {r : Int32} (C : Cx p m c cX10_bears 4 s args RX10 G) (hlk : meth.locks = false) (hr : meth.sig.returnType = (some .int)) {z : AH} : ∀ (n : Nat) (a0 : Nat) (l1 : Int32) (l2 : Int32) (l3 : Int32) (H : Heap) (locs : List Loc) (ls : Array Slot), fX10_bears_4 z n a0 l1 l2 l3 = some r → Wb G z s H locs → lv_has ls 4 [(0, .ref (gB G + a0)), (1, .int l1), (2, .int l2), (3, .int l3)] → W p l e rmX10_bears s m args below meth c H locs 0 0 (MQ below (Qi G r z) args s 0 0 (AA G)) (F0 m 4 ls []) := by
  intro n
  induction n with
  | zero => intro a0 l1 l2 l3 H locs ls h; have h : (none : Option (Int32)) = some r := h; cases h
  | succ n ih => intro a0 l1 l2 l3 H locs ls h hW hl; exact kbX10_bears_4 C hlk hr (fX10_bears_4 z n) (fun a0 l1 l2 l3 H locs ls h hW hl => ih a0 l1 l2 l3 H locs ls h hW hl) a0 l1 l2 l3 h hW hl
def fX10_bears (a0 : Nat) (l1 : Int32) (z : AH) : Option (Int32) :=
  if isO 9 z a0 = true then
    fX10_bears_4 z FU a0 l1 (0 : Int32) (0 : Int32)
  else none
set_option maxHeartbeats 4000000 in
set_option maxRecDepth 100000 in
theorem ctX10_bears (l : Launch) (G : GW) (a0 : Nat) (l1 : Int32) (z : AH) {r : Int32} (h : fX10_bears a0 l1 z = some r) : Met l yX10_bears (wy yX10_bears cX10_bears 4 (some .int)) rmX10_bears (Pz G [.ref (gB G + a0), .int l1] z) (Qi G r z) 0 0 (AA G) := by
  refine wz_ent (own := RX10) (by decide +kernel) rfl (fun p e s m below meth c ls C hlk hr hin hW hl => ?_) (Nat.le_of_ble_eq_true rfl)
  have hl : lv_has ls 4 [(0, .ref (gB G + a0)), (1, .int l1)] := hl
  have hx := C.1
  have hb := C.2.1
  unfold fX10_bears at h
  obtain ⟨-, h⟩ := ck h
  refine lv_iconst (v := 0) hx hb dX10_bears_0 (by decide) ?_
  refine lv_istore_n (lv' := [(2, .int (0 : Int32)), (0, .ref (gB G + a0)), (1, .int l1)]) hx hb dX10_bears_1 rfl hl (by decide) rfl (fun ls hl => ?_)
  refine lv_iconst (v := 0) hx hb dX10_bears_2 (by decide) ?_
  refine lv_istore_n (lv' := [(3, .int (0 : Int32)), (2, .int (0 : Int32)), (0, .ref (gB G + a0)), (1, .int l1)]) hx hb dX10_bears_3 rfl hl (by decide) rfl (fun ls hl => ?_)
  exact klX10_bears_4 C hlk hr FU a0 l1 (0 : Int32) (0 : Int32) _ _ _ h hW (lv_sub hl [2, 3, 1, 0] rfl)
theorem dX10_takes_0 : decode cX10_takes 0 = .ok (.iconst 0, 1) := by decide +kernel
theorem dX10_takes_1 : decode cX10_takes 1 = .ok (.istore_n 2, 1) := by decide +kernel
theorem dX10_takes_2 : decode cX10_takes 2 = .ok (.iload_n 2, 1) := by decide +kernel
theorem dX10_takes_3 : decode cX10_takes 3 = .ok (.aload_n 0, 1) := by decide +kernel
theorem dX10_takes_4 : decode cX10_takes 4 = .ok (.getfield 276, 3) := by decide +kernel
theorem dX10_takes_7 : decode cX10_takes 7 = .ok (.if_icmp .ge 38, 3) := by decide +kernel
theorem dX10_takes_10 : decode cX10_takes 10 = .ok (.iload_n 1, 1) := by decide +kernel
theorem dX10_takes_11 : decode cX10_takes 11 = .ok (.aload_n 0, 1) := by decide +kernel
theorem dX10_takes_12 : decode cX10_takes 12 = .ok (.getfield 288, 3) := by decide +kernel
theorem dX10_takes_15 : decode cX10_takes 15 = .ok (.iconst (-1), 1) := by decide +kernel
theorem dX10_takes_16 : decode cX10_takes 16 = .ok (.ixor, 1) := by decide +kernel
theorem dX10_takes_17 : decode cX10_takes 17 = .ok (.iand, 1) := by decide +kernel
theorem dX10_takes_18 : decode cX10_takes 18 = .ok (.iload_n 2, 1) := by decide +kernel
theorem dX10_takes_19 : decode cX10_takes 19 = .ok (.invokestatic 85, 3) := by decide +kernel
theorem dX10_takes_22 : decode cX10_takes 22 = .ok (.ifCond .eq 17, 3) := by decide +kernel
theorem dX10_takes_25 : decode cX10_takes 25 = .ok (.aload_n 0, 1) := by decide +kernel
theorem dX10_takes_26 : decode cX10_takes 26 = .ok (.getfield 44, 3) := by decide +kernel
theorem dX10_takes_29 : decode cX10_takes 29 = .ok (.iload_n 2, 1) := by decide +kernel
theorem dX10_takes_30 : decode cX10_takes 30 = .ok (.iconst 0, 1) := by decide +kernel
theorem dX10_takes_31 : decode cX10_takes 31 = .ok (.iastore, 1) := by decide +kernel
theorem dX10_takes_32 : decode cX10_takes 32 = .ok (.aload_n 0, 1) := by decide +kernel
theorem dX10_takes_33 : decode cX10_takes 33 = .ok (.getfield 47, 3) := by decide +kernel
theorem dX10_takes_36 : decode cX10_takes 36 = .ok (.iload_n 2, 1) := by decide +kernel
theorem dX10_takes_37 : decode cX10_takes 37 = .ok (.iconst 0, 1) := by decide +kernel
theorem dX10_takes_38 : decode cX10_takes 38 = .ok (.iastore, 1) := by decide +kernel
theorem dX10_takes_39 : decode cX10_takes 39 = .ok (.iinc 2 1, 3) := by decide +kernel
theorem dX10_takes_42 : decode cX10_takes 42 = .ok (.goto (-40), 3) := by decide +kernel
theorem dX10_takes_45 : decode cX10_takes 45 = .ok (.aload_n 0, 1) := by decide +kernel
theorem dX10_takes_46 : decode cX10_takes 46 = .ok (.dup, 1) := by decide +kernel
theorem dX10_takes_47 : decode cX10_takes 47 = .ok (.getfield 288, 3) := by decide +kernel
theorem dX10_takes_50 : decode cX10_takes 50 = .ok (.iload_n 1, 1) := by decide +kernel
theorem dX10_takes_51 : decode cX10_takes 51 = .ok (.ior, 1) := by decide +kernel
theorem dX10_takes_52 : decode cX10_takes 52 = .ok (.putfield 288, 3) := by decide +kernel
theorem dX10_takes_55 : decode cX10_takes 55 = .ok (.return_, 1) := by decide +kernel
abbrev rmX10_takes : Room := { frames := 1, cells := 0, slots := 0, locals := 21 }
def bX10_takes_2 (k2 : Nat → Int32 → Int32 → AH → Option AH) (a0 : Nat) (l1 : Int32) (l2 : Int32) (z : AH) : Option AH :=
  (gI 9 26 z a0).bind fun x4 =>
  if x4 ≤ l2 then (
    (gI 9 31 z a0).bind fun x47 =>
    (pF 9 31 z a0 (.int (x47 ||| l1))).bind fun z52 =>
    some z52
  ) else (
    (gI 9 31 z a0).bind fun x12 =>
    if (fX10_has (l1 &&& (x12 ^^^ (-1 : Int32))) l2) = (0 : Int32) then (
      nm (l2 + (1 : Int32)) fun v39 =>
      k2 a0 l1 v39 z
    ) else (
      (gN 9 28 z a0).bind fun b26 =>
      (stI 0 z b26 l2 (0 : Int32)).bind fun z31 =>
      (gN 9 29 z31 a0).bind fun b33 =>
      (stI 0 z31 b33 l2 (0 : Int32)).bind fun z38 =>
      nm (l2 + (1 : Int32)) fun v39 =>
      k2 a0 l1 v39 z38
    )
  )
set_option maxHeartbeats 4000000 in
set_option maxRecDepth 100000 in
theorem kbX10_takes_2 {p : Program} {l : Launch} {e : Env} {s : State} {m : MethodId} {args : Array Value} {below : List Frame} {meth : Method} {c : Code} {G : GW} {z' : AH} (C : Cx p m c cX10_takes 3 s args RX10 G) (hlk : meth.locks = false) (hr : meth.sig.returnType = none) (k2 : Nat → Int32 → Int32 → AH → Option AH) (hk2 : ∀ (a0 : Nat) (l1 : Int32) (l2 : Int32) (z : AH) (H : Heap) (locs : List Loc) (ls : Array Slot), k2 a0 l1 l2 z = some z' → Wb G z s H locs → lv_has ls 3 [(0, .ref (gB G + a0)), (1, .int l1), (2, .int l2)] → W p l e rmX10_takes s m args below meth c H locs 0 0 (MQ below (Qv G z') args s 0 0 (AA G)) (F0 m 2 ls [])) (a0 : Nat) (l1 : Int32) (l2 : Int32) {z : AH} {H : Heap} {locs : List Loc} {ls : Array Slot} (h : bX10_takes_2 k2 a0 l1 l2 z = some z') (hW : Wb G z s H locs) (hl : lv_has ls 3 [(0, .ref (gB G + a0)), (1, .int l1), (2, .int l2)]) : W p l e rmX10_takes s m args below meth c H locs 0 0 (MQ below (Qv G z') args s 0 0 (AA G)) (F0 m 2 ls []) := by
  have hx := C.1
  have hb := C.2.1
  unfold bX10_takes_2 at h
  refine lv_iload_n hx hb dX10_takes_2 rfl (lv_at hl 2 rfl) ?_
  refine lv_aload_n hx hb dX10_takes_3 rfl (lv_at hl 0 rfl) ?_
  obtain ⟨x4, hg, h⟩ := ob h
  refine wz_gI C hW flX10_276 hg dX10_takes_4 ?_
  refine lv_icmp_ge (tgt := 45) hx hb dX10_takes_7 (by decide) (fun c7 => ?_) (fun c7 => ?_)
  · have h := ite_t c7 h
    refine lv_aload_n hx hb dX10_takes_45 rfl (lv_at hl 0 rfl) ?_
    refine lv_dup hx hb dX10_takes_46 rfl ?_
    obtain ⟨x47, hg, h⟩ := ob h
    refine wz_gI C hW flX10_288 hg dX10_takes_47 ?_
    refine lv_iload_n hx hb dX10_takes_50 rfl (lv_at hl 1 rfl) ?_
    refine lv_ior hx hb dX10_takes_51 ?_
    obtain ⟨z52, hg, h⟩ := ob h
    refine wz_put (v := (.int (x47 ||| l1))) C hW flX10_288 rfl rfl hg dX10_takes_52 (fun H locs hW => ?_)
    exact wz_vretE C hlk hr (Option.some.inj h) hW dX10_takes_55
  · have h := ite_f c7 h
    refine lv_iload_n hx hb dX10_takes_10 rfl (lv_at hl 1 rfl) ?_
    refine lv_aload_n hx hb dX10_takes_11 rfl (lv_at hl 0 rfl) ?_
    obtain ⟨x12, hg, h⟩ := ob h
    refine wz_gI C hW flX10_288 hg dX10_takes_12 ?_
    refine lv_iconst (v := -1) hx hb dX10_takes_15 (by decide) ?_
    refine lv_ixor hx hb dX10_takes_16 ?_
    refine lv_iand hx hb dX10_takes_17 ?_
    refine lv_iload_n hx hb dX10_takes_18 rfl (lv_at hl 2 rfl) ?_
    refine wz_rI (c' := 0) (s' := 0) hW (wz_runS (rest := []) C hW lTX10_85 (ctX10_has l G (l1 &&& (x12 ^^^ (-1 : Int32))) l2 z rfl) ⟨⟨rfl, rfl⟩, Nat.le_of_ble_eq_true rfl, Nat.le_of_ble_eq_true rfl⟩ rfl hl.1 rfl (Nat.le_of_ble_eq_true rfl) dX10_takes_19 ⟨Nat.le_of_ble_eq_true rfl, Nat.le_of_ble_eq_true rfl⟩) rfl rfl (fun H locs hW => ?_)
    refine lv_if_eq (tgt := 39) hx hb dX10_takes_22 (by decide) (fun c22 => ?_) (fun c22 => ?_)
    · have h := ite_t c22 h
      obtain ⟨v39, ev39⟩ : ∃ y : Int32, y = (l2 + (1 : Int32)) := ⟨_, rfl⟩
      have h := nm_to h ev39
      refine lv_iinc (v := v39) (lv' := [(2, .int v39), (0, .ref (gB G + a0)), (1, .int l1)]) hx hb dX10_takes_39 hl (k := 2) rfl (by rw [ev39]; rfl) (by decide) rfl (fun ls hl => ?_)
      refine lv_goto (tgt := 2) hx hb dX10_takes_42 (by decide) ?_
      exact hk2 a0 l1 v39 z _ _ _ h hW (lv_sub hl [1, 2, 0] rfl)
    · have h := ite_f c22 h
      refine lv_aload_n hx hb dX10_takes_25 rfl (lv_at hl 0 rfl) ?_
      obtain ⟨b26, hg, h⟩ := ob h
      refine wz_gN C hW flX10_44 hg dX10_takes_26 ?_
      refine lv_iload_n hx hb dX10_takes_29 rfl (lv_at hl 2 rfl) ?_
      refine lv_iconst (v := 0) hx hb dX10_takes_30 (by decide) ?_
      obtain ⟨z31, hg, h⟩ := ob h
      refine wz_ast C hW hg dX10_takes_31 (fun H locs hW => ?_)
      refine lv_aload_n hx hb dX10_takes_32 rfl (lv_at hl 0 rfl) ?_
      obtain ⟨b33, hg, h⟩ := ob h
      refine wz_gN C hW flX10_47 hg dX10_takes_33 ?_
      refine lv_iload_n hx hb dX10_takes_36 rfl (lv_at hl 2 rfl) ?_
      refine lv_iconst (v := 0) hx hb dX10_takes_37 (by decide) ?_
      obtain ⟨z38, hg, h⟩ := ob h
      refine wz_ast C hW hg dX10_takes_38 (fun H locs hW => ?_)
      obtain ⟨v39, ev39⟩ : ∃ y : Int32, y = (l2 + (1 : Int32)) := ⟨_, rfl⟩
      have h := nm_to h ev39
      refine lv_iinc (v := v39) (lv' := [(2, .int v39), (0, .ref (gB G + a0)), (1, .int l1)]) hx hb dX10_takes_39 hl (k := 2) rfl (by rw [ev39]; rfl) (by decide) rfl (fun ls hl => ?_)
      refine lv_goto (tgt := 2) hx hb dX10_takes_42 (by decide) ?_
      exact hk2 a0 l1 v39 z38 _ _ _ h hW (lv_sub hl [1, 2, 0] rfl)
def fX10_takes_2 : Nat → Nat → Int32 → Int32 → AH → Option AH
  | 0, _, _, _, _ => none
  | n + 1, a0, l1, l2, z => bX10_takes_2 (fX10_takes_2 n) a0 l1 l2 z
theorem klX10_takes_2 {p : Program} {l : Launch} {e : Env} {s : State} {m : MethodId} {args : Array Value} {below : List Frame} {meth : Method} {c : Code} {G : GW} {z' : AH} (C : Cx p m c cX10_takes 3 s args RX10 G) (hlk : meth.locks = false) (hr : meth.sig.returnType = none) : ∀ (n : Nat) (a0 : Nat) (l1 : Int32) (l2 : Int32) (z : AH) (H : Heap) (locs : List Loc) (ls : Array Slot), fX10_takes_2 n a0 l1 l2 z = some z' → Wb G z s H locs → lv_has ls 3 [(0, .ref (gB G + a0)), (1, .int l1), (2, .int l2)] → W p l e rmX10_takes s m args below meth c H locs 0 0 (MQ below (Qv G z') args s 0 0 (AA G)) (F0 m 2 ls []) := by
  intro n
  induction n with
  | zero => intro a0 l1 l2 z H locs ls h; have h : (none : Option AH) = some z' := h; cases h
  | succ n ih => intro a0 l1 l2 z H locs ls h hW hl; exact kbX10_takes_2 C hlk hr (fX10_takes_2 n) (fun a0 l1 l2 z H locs ls h hW hl => ih a0 l1 l2 z H locs ls h hW hl) a0 l1 l2 h hW hl
def fX10_takes (a0 : Nat) (l1 : Int32) (z : AH) : Option AH :=
  if isO 9 z a0 = true then
    fX10_takes_2 FU a0 l1 (0 : Int32) z
  else none
set_option maxHeartbeats 4000000 in
set_option maxRecDepth 100000 in
theorem ctX10_takes (l : Launch) (G : GW) (a0 : Nat) (l1 : Int32) (z : AH) {z' : AH} (h : fX10_takes a0 l1 z = some z') : Met l yX10_takes (wy yX10_takes cX10_takes 3 none) rmX10_takes (Pz G [.ref (gB G + a0), .int l1] z) (Qv G z') 0 0 (AA G) := by
  refine wz_ent (own := RX10) (by decide +kernel) rfl (fun p e s m below meth c ls C hlk hr hin hW hl => ?_) (Nat.le_of_ble_eq_true rfl)
  have hl : lv_has ls 3 [(0, .ref (gB G + a0)), (1, .int l1)] := hl
  have hx := C.1
  have hb := C.2.1
  unfold fX10_takes at h
  obtain ⟨-, h⟩ := ck h
  refine lv_iconst (v := 0) hx hb dX10_takes_0 (by decide) ?_
  refine lv_istore_n (lv' := [(2, .int (0 : Int32)), (0, .ref (gB G + a0)), (1, .int l1)]) hx hb dX10_takes_1 rfl hl (by decide) rfl (fun ls hl => ?_)
  exact klX10_takes_2 C hlk hr FU a0 l1 (0 : Int32) z _ _ _ h hW (lv_sub hl [1, 2, 0] rfl)
theorem dX10_falls_0 : decode cX10_falls 0 = .ok (.iconst 0, 1) := by decide +kernel
theorem dX10_falls_1 : decode cX10_falls 1 = .ok (.istore_n 1, 1) := by decide +kernel
theorem dX10_falls_2 : decode cX10_falls 2 = .ok (.iload_n 1, 1) := by decide +kernel
theorem dX10_falls_3 : decode cX10_falls 3 = .ok (.aload_n 0, 1) := by decide +kernel
theorem dX10_falls_4 : decode cX10_falls 4 = .ok (.getfield 276, 3) := by decide +kernel
theorem dX10_falls_7 : decode cX10_falls 7 = .ok (.if_icmp .ge 76, 3) := by decide +kernel
theorem dX10_falls_10 : decode cX10_falls 10 = .ok (.aload_n 0, 1) := by decide +kernel
theorem dX10_falls_11 : decode cX10_falls 11 = .ok (.getfield 288, 3) := by decide +kernel
theorem dX10_falls_14 : decode cX10_falls 14 = .ok (.iload_n 1, 1) := by decide +kernel
theorem dX10_falls_15 : decode cX10_falls 15 = .ok (.invokestatic 85, 3) := by decide +kernel
theorem dX10_falls_18 : decode cX10_falls 18 = .ok (.ifCond .ne 30, 3) := by decide +kernel
theorem dX10_falls_21 : decode cX10_falls 21 = .ok (.aload_n 0, 1) := by decide +kernel
theorem dX10_falls_22 : decode cX10_falls 22 = .ok (.getfield 44, 3) := by decide +kernel
theorem dX10_falls_25 : decode cX10_falls 25 = .ok (.iload_n 1, 1) := by decide +kernel
theorem dX10_falls_26 : decode cX10_falls 26 = .ok (.iaload, 1) := by decide +kernel
theorem dX10_falls_27 : decode cX10_falls 27 = .ok (.ifCond .eq 17, 3) := by decide +kernel
theorem dX10_falls_30 : decode cX10_falls 30 = .ok (.aload_n 0, 1) := by decide +kernel
theorem dX10_falls_31 : decode cX10_falls 31 = .ok (.getfield 44, 3) := by decide +kernel
theorem dX10_falls_34 : decode cX10_falls 34 = .ok (.iload_n 1, 1) := by decide +kernel
theorem dX10_falls_35 : decode cX10_falls 35 = .ok (.iaload, 1) := by decide +kernel
theorem dX10_falls_36 : decode cX10_falls 36 = .ok (.aload_n 0, 1) := by decide +kernel
theorem dX10_falls_37 : decode cX10_falls 37 = .ok (.iload_n 1, 1) := by decide +kernel
theorem dX10_falls_38 : decode cX10_falls 38 = .ok (.invokevirtual 312, 3) := by decide +kernel
theorem dX10_falls_41 : decode cX10_falls 41 = .ok (.if_icmp .ge 7, 3) := by decide +kernel
theorem dX10_falls_44 : decode cX10_falls 44 = .ok (.iconst 1, 1) := by decide +kernel
theorem dX10_falls_45 : decode cX10_falls 45 = .ok (.goto 4, 3) := by decide +kernel
theorem dX10_falls_48 : decode cX10_falls 48 = .ok (.iconst 0, 1) := by decide +kernel
theorem dX10_falls_49 : decode cX10_falls 49 = .ok (.istore_n 2, 1) := by decide +kernel
theorem dX10_falls_50 : decode cX10_falls 50 = .ok (.iload_n 2, 1) := by decide +kernel
theorem dX10_falls_51 : decode cX10_falls 51 = .ok (.ifCond .eq 17, 3) := by decide +kernel
theorem dX10_falls_54 : decode cX10_falls 54 = .ok (.aload_n 0, 1) := by decide +kernel
theorem dX10_falls_55 : decode cX10_falls 55 = .ok (.iconst 1, 1) := by decide +kernel
theorem dX10_falls_56 : decode cX10_falls 56 = .ok (.iload_n 1, 1) := by decide +kernel
theorem dX10_falls_57 : decode cX10_falls 57 = .ok (.ishl, 1) := by decide +kernel
theorem dX10_falls_58 : decode cX10_falls 58 = .ok (.aload_n 0, 1) := by decide +kernel
theorem dX10_falls_59 : decode cX10_falls 59 = .ok (.getfield 50, 3) := by decide +kernel
