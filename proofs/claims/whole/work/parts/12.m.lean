theorem lNX5_31 : LN RX5 31 yX9_pick cX9_pick 3 (some .int) 3 := ⟨by decide +kernel, tw 523 (by decide +kernel) rfl, tw 120 (by decide +kernel) rfl, tw 524 (by decide +kernel) rfl, ⟨by decide +kernel, by decide +kernel, by decide +kernel⟩⟩
theorem dX5_answer_0 : decode cX5_answer 0 = .ok (.iload_n 2, 1) := by decide +kernel
theorem dX5_answer_1 : decode cX5_answer 1 = .ok (.tableswitch 66 0 2 #[27, 40, 53], 27) := by decide +kernel
theorem dX5_answer_28 : decode cX5_answer 28 = .ok (.aload_n 0, 1) := by decide +kernel
theorem dX5_answer_29 : decode cX5_answer 29 = .ok (.getfield 15, 3) := by decide +kernel
theorem dX5_answer_32 : decode cX5_answer 32 = .ok (.aload_n 0, 1) := by decide +kernel
theorem dX5_answer_33 : decode cX5_answer 33 = .ok (.getfield 27, 3) := by decide +kernel
theorem dX5_answer_36 : decode cX5_answer 36 = .ok (.iload_n 1, 1) := by decide +kernel
theorem dX5_answer_37 : decode cX5_answer 37 = .ok (.invokestatic 31, 3) := by decide +kernel
theorem dX5_answer_40 : decode cX5_answer 40 = .ok (.ireturn, 1) := by decide +kernel
theorem dX5_answer_41 : decode cX5_answer 41 = .ok (.aload_n 0, 1) := by decide +kernel
theorem dX5_answer_42 : decode cX5_answer 42 = .ok (.getfield 21, 3) := by decide +kernel
theorem dX5_answer_45 : decode cX5_answer 45 = .ok (.aload_n 0, 1) := by decide +kernel
theorem dX5_answer_46 : decode cX5_answer 46 = .ok (.getfield 27, 3) := by decide +kernel
theorem dX5_answer_49 : decode cX5_answer 49 = .ok (.iload_n 1, 1) := by decide +kernel
theorem dX5_answer_50 : decode cX5_answer 50 = .ok (.invokestatic 31, 3) := by decide +kernel
theorem dX5_answer_53 : decode cX5_answer 53 = .ok (.ireturn, 1) := by decide +kernel
theorem dX5_answer_54 : decode cX5_answer 54 = .ok (.aload_n 0, 1) := by decide +kernel
theorem dX5_answer_55 : decode cX5_answer 55 = .ok (.getfield 24, 3) := by decide +kernel
theorem dX5_answer_58 : decode cX5_answer 58 = .ok (.aload_n 0, 1) := by decide +kernel
theorem dX5_answer_59 : decode cX5_answer 59 = .ok (.getfield 27, 3) := by decide +kernel
theorem dX5_answer_62 : decode cX5_answer 62 = .ok (.iload_n 1, 1) := by decide +kernel
theorem dX5_answer_63 : decode cX5_answer 63 = .ok (.invokestatic 31, 3) := by decide +kernel
theorem dX5_answer_66 : decode cX5_answer 66 = .ok (.ireturn, 1) := by decide +kernel
theorem dX5_answer_67 : decode cX5_answer 67 = .ok (.bipush (-2), 2) := by decide +kernel
theorem dX5_answer_69 : decode cX5_answer 69 = .ok (.ireturn, 1) := by decide +kernel
abbrev rmX5_answer : Room := { frames := 1, cells := 0, slots := 0, locals := 22 }
def fX5_answer (a0 : Nat) (l1 : Int32) (l2 : Int32) (z : AH) : Option (Int32) :=
  if isO 4 z a0 = true then
    if l2 = (0 : Int32) then (
      (gN 4 0 z a0).bind fun b29 =>
      (gI 4 3 z a0).bind fun x33 =>
      (fX9_pick b29 x33 l1 z).bind fun x37 =>
      some x37
    ) else
    if l2 = (1 : Int32) then (
      (gN 4 1 z a0).bind fun b42 =>
      (gI 4 3 z a0).bind fun x46 =>
      (fX9_pick b42 x46 l1 z).bind fun x50 =>
      some x50
    ) else
    if l2 = (2 : Int32) then (
      (gN 4 2 z a0).bind fun b55 =>
      (gI 4 3 z a0).bind fun x59 =>
      (fX9_pick b55 x59 l1 z).bind fun x63 =>
      some x63
    ) else
    some (-2 : Int32)
  else none
set_option maxHeartbeats 4000000 in
set_option maxRecDepth 100000 in
theorem ctX5_answer (l : Launch) (G : GW) (a0 : Nat) (l1 : Int32) (l2 : Int32) (z : AH) {r : Int32} (h : fX5_answer a0 l1 l2 z = some r) : Met l yX5_answer (wy yX5_answer cX5_answer 3 (some .int)) rmX5_answer (Pz G [.ref (gB G + a0), .int l1, .int l2] z) (Qi G r z) 0 0 (AA G) := by
  refine wz_ent (own := RX5) (by decide +kernel) rfl (fun p e s m below meth c ls C hlk hr hin hW hl => ?_) (Nat.le_of_ble_eq_true rfl)
  have hl : lv_has ls 3 [(0, .ref (gB G + a0)), (1, .int l1), (2, .int l2)] := hl
  have hx := C.1
  have hb := C.2.1
  unfold fX5_answer at h
  obtain ⟨-, h⟩ := ck h
  refine lv_iload_n hx hb dX5_answer_0 rfl (lv_at hl 2 rfl) ?_
  by_cases c1_0 : l2 = (0 : Int32)
  · have h := ite_t c1_0 h
    refine wz_sw (0 : Int32) (tgt := 28) hx hb dX5_answer_1 c1_0 (by decide) rfl (by decide) ?_
    refine lv_aload_n hx hb dX5_answer_28 rfl (lv_at hl 0 rfl) ?_
    obtain ⟨b29, hg, h⟩ := ob h
    refine wz_gN C hW flX5_15 hg dX5_answer_29 ?_
    refine lv_aload_n hx hb dX5_answer_32 rfl (lv_at hl 0 rfl) ?_
    obtain ⟨x33, hg, h⟩ := ob h
    refine wz_gI C hW flX5_27 hg dX5_answer_33 ?_
    refine lv_iload_n hx hb dX5_answer_36 rfl (lv_at hl 1 rfl) ?_
    obtain ⟨x37, hq, h⟩ := ob h
    refine wz_rI (c' := 0) (s' := 0) hW (wz_runN (rest := []) C hW lNX5_31 (ctX9_pick l G b29 x33 l1 z hq) ⟨⟨rfl, rfl⟩, Nat.le_of_ble_eq_true rfl, Nat.le_of_ble_eq_true rfl⟩ rfl hl.1 rfl (Nat.le_of_ble_eq_true rfl) dX5_answer_37 ⟨Nat.le_of_ble_eq_true rfl, Nat.le_of_ble_eq_true rfl⟩) rfl rfl (fun H locs hW => ?_)
    exact wz_iretE C hlk hr (Option.some.inj h) rfl hW dX5_answer_40
  have h := ite_f c1_0 h
  by_cases c1_1 : l2 = (1 : Int32)
  · have h := ite_t c1_1 h
    refine wz_sw (1 : Int32) (tgt := 41) hx hb dX5_answer_1 c1_1 (by decide) rfl (by decide) ?_
    refine lv_aload_n hx hb dX5_answer_41 rfl (lv_at hl 0 rfl) ?_
    obtain ⟨b42, hg, h⟩ := ob h
    refine wz_gN C hW flX5_21 hg dX5_answer_42 ?_
    refine lv_aload_n hx hb dX5_answer_45 rfl (lv_at hl 0 rfl) ?_
    obtain ⟨x46, hg, h⟩ := ob h
    refine wz_gI C hW flX5_27 hg dX5_answer_46 ?_
    refine lv_iload_n hx hb dX5_answer_49 rfl (lv_at hl 1 rfl) ?_
    obtain ⟨x50, hq, h⟩ := ob h
    refine wz_rI (c' := 0) (s' := 0) hW (wz_runN (rest := []) C hW lNX5_31 (ctX9_pick l G b42 x46 l1 z hq) ⟨⟨rfl, rfl⟩, Nat.le_of_ble_eq_true rfl, Nat.le_of_ble_eq_true rfl⟩ rfl hl.1 rfl (Nat.le_of_ble_eq_true rfl) dX5_answer_50 ⟨Nat.le_of_ble_eq_true rfl, Nat.le_of_ble_eq_true rfl⟩) rfl rfl (fun H locs hW => ?_)
    exact wz_iretE C hlk hr (Option.some.inj h) rfl hW dX5_answer_53
  have h := ite_f c1_1 h
  by_cases c1_2 : l2 = (2 : Int32)
  · have h := ite_t c1_2 h
    refine wz_sw (2 : Int32) (tgt := 54) hx hb dX5_answer_1 c1_2 (by decide) rfl (by decide) ?_
    refine lv_aload_n hx hb dX5_answer_54 rfl (lv_at hl 0 rfl) ?_
    obtain ⟨b55, hg, h⟩ := ob h
    refine wz_gN C hW flX5_24 hg dX5_answer_55 ?_
    refine lv_aload_n hx hb dX5_answer_58 rfl (lv_at hl 0 rfl) ?_
    obtain ⟨x59, hg, h⟩ := ob h
    refine wz_gI C hW flX5_27 hg dX5_answer_59 ?_
    refine lv_iload_n hx hb dX5_answer_62 rfl (lv_at hl 1 rfl) ?_
    obtain ⟨x63, hq, h⟩ := ob h
    refine wz_rI (c' := 0) (s' := 0) hW (wz_runN (rest := []) C hW lNX5_31 (ctX9_pick l G b55 x59 l1 z hq) ⟨⟨rfl, rfl⟩, Nat.le_of_ble_eq_true rfl, Nat.le_of_ble_eq_true rfl⟩ rfl hl.1 rfl (Nat.le_of_ble_eq_true rfl) dX5_answer_63 ⟨Nat.le_of_ble_eq_true rfl, Nat.le_of_ble_eq_true rfl⟩) rfl rfl (fun H locs hW => ?_)
    exact wz_iretE C hlk hr (Option.some.inj h) rfl hW dX5_answer_66
  have h := ite_f c1_2 h
  refine lv_tableOut (tgt := 67) hx hb dX5_answer_1 (by have g0 := i32_ne c1_0 (z := 0) (by decide); have g1 := i32_ne c1_1 (z := 1) (by decide); have g2 := i32_ne c1_2 (z := 2) (by decide); omega) (by decide) ?_
  refine lv_bipush (v := -2) hx hb dX5_answer_67 (by decide) ?_
  exact wz_iretE C hlk hr (Option.some.inj h) rfl hW dX5_answer_69
theorem flX6_9 : FL RX6 9 5 0 := ⟨_, rfl, Nat.le_of_ble_eq_true rfl, tw 349 (by decide +kernel) rfl, rfl⟩
theorem flX6_17 : FL RX6 17 5 1 := ⟨_, rfl, Nat.le_of_ble_eq_true rfl, tw 351 (by decide +kernel) rfl, rfl⟩
theorem flX6_21 : FL RX6 21 5 2 := ⟨_, rfl, Nat.le_of_ble_eq_true rfl, tw 353 (by decide +kernel) rfl, rfl⟩
theorem flX6_24 : FL RX6 24 5 4 := ⟨_, rfl, Nat.le_of_ble_eq_true rfl, tw 355 (by decide +kernel) rfl, rfl⟩
theorem flX6_27 : FL RX6 27 5 3 := ⟨_, rfl, Nat.le_of_ble_eq_true rfl, tw 354 (by decide +kernel) rfl, rfl⟩
theorem dX6_init_0 : decode cX6_init 0 = .ok (.aload_n 0, 1) := by decide +kernel
theorem dX6_init_1 : decode cX6_init 1 = .ok (.invokespecial 3, 3) := by decide +kernel
theorem dX6_init_4 : decode cX6_init 4 = .ok (.aload_n 0, 1) := by decide +kernel
theorem dX6_init_5 : decode cX6_init 5 = .ok (.aload_n 1, 1) := by decide +kernel
theorem dX6_init_6 : decode cX6_init 6 = .ok (.putfield 9, 3) := by decide +kernel
theorem dX6_init_9 : decode cX6_init 9 = .ok (.aload_n 0, 1) := by decide +kernel
theorem dX6_init_10 : decode cX6_init 10 = .ok (.bipush 8, 2) := by decide +kernel
theorem dX6_init_12 : decode cX6_init 12 = .ok (.newarray .int, 2) := by decide +kernel
theorem dX6_init_14 : decode cX6_init 14 = .ok (.putfield 17, 3) := by decide +kernel
theorem dX6_init_17 : decode cX6_init 17 = .ok (.aload_n 0, 1) := by decide +kernel
theorem dX6_init_18 : decode cX6_init 18 = .ok (.bipush 8, 2) := by decide +kernel
theorem dX6_init_20 : decode cX6_init 20 = .ok (.newarray .int, 2) := by decide +kernel
theorem dX6_init_22 : decode cX6_init 22 = .ok (.putfield 21, 3) := by decide +kernel
theorem dX6_init_25 : decode cX6_init 25 = .ok (.aload_n 0, 1) := by decide +kernel
theorem dX6_init_26 : decode cX6_init 26 = .ok (.bipush 8, 2) := by decide +kernel
theorem dX6_init_28 : decode cX6_init 28 = .ok (.newarray .int, 2) := by decide +kernel
theorem dX6_init_30 : decode cX6_init 30 = .ok (.putfield 24, 3) := by decide +kernel
theorem dX6_init_33 : decode cX6_init 33 = .ok (.aload_n 0, 1) := by decide +kernel
theorem dX6_init_34 : decode cX6_init 34 = .ok (.iconst 4, 1) := by decide +kernel
theorem dX6_init_35 : decode cX6_init 35 = .ok (.newarray .int, 2) := by decide +kernel
theorem dX6_init_37 : decode cX6_init 37 = .ok (.putfield 27, 3) := by decide +kernel
theorem dX6_init_40 : decode cX6_init 40 = .ok (.return_, 1) := by decide +kernel
abbrev rmX6_init : Room := { frames := 1, cells := 4, slots := 28, locals := 20 }
def fX6_init (a0 : Nat) (a1 : Nat) (z : AH) : Option AH :=
  if isO 5 z a0 = true then
    (pF 5 0 z a0 (.ref a1)).bind fun z6 =>
    mk (.inl (0, 8, fun _ => 0)) z6 fun b12 z12 =>
    (pF 5 1 z12 a0 (.ref b12)).bind fun z14 =>
    mk (.inl (0, 8, fun _ => 0)) z14 fun b20 z20 =>
    (pF 5 2 z20 a0 (.ref b20)).bind fun z22 =>
    mk (.inl (0, 8, fun _ => 0)) z22 fun b28 z28 =>
    (pF 5 4 z28 a0 (.ref b28)).bind fun z30 =>
    mk (.inl (0, 4, fun _ => 0)) z30 fun b35 z35 =>
    (pF 5 3 z35 a0 (.ref b35)).bind fun z37 =>
    some z37
  else none
set_option maxHeartbeats 4000000 in
set_option maxRecDepth 100000 in
theorem ctX6_init (l : Launch) (G : GW) (a0 : Nat) (a1 : Nat) (z : AH) {z' : AH} (h : fX6_init a0 a1 z = some z') : Met l yX6_init (wy yX6_init cX6_init 2 none) rmX6_init (Pz G [.ref (gB G + a0), .ref (gB G + a1)] z) (Qv G z') 4 28 (AA G) := by
  refine wz_ent (own := RX6) (by decide +kernel) rfl (fun p e s m below meth c ls C hlk hr hin hW hl => ?_) (Nat.le_of_ble_eq_true rfl)
  have hl : lv_has ls 2 [(0, .ref (gB G + a0)), (1, .ref (gB G + a1))] := hl
  have hx := C.1
  have hb := C.2.1
  unfold fX6_init at h
  obtain ⟨-, h⟩ := ck h
  refine lv_aload_n hx hb dX6_init_0 rfl (lv_at hl 0 rfl) ?_
  refine wz_obj ⟨tw 348 (by decide +kernel) rfl, tw 144 (by decide +kernel) rfl, tw 145 (by decide +kernel) rfl⟩ C hl.1 dX6_init_1 ⟨Nat.le_of_ble_eq_true rfl, Nat.le_of_ble_eq_true rfl⟩ ?_
  refine lv_aload_n hx hb dX6_init_4 rfl (lv_at hl 0 rfl) ?_
  refine lv_aload_n hx hb dX6_init_5 rfl (lv_at hl 1 rfl) ?_
  obtain ⟨z6, hg, h⟩ := ob h
  refine wz_put (v := (.ref a1)) C hW flX6_9 rfl rfl hg dX6_init_6 (fun H locs hW => ?_)
  refine lv_aload_n hx hb dX6_init_9 rfl (lv_at hl 0 rfl) ?_
  refine lv_bipush (v := 8) hx hb dX6_init_10 (by decide) ?_
  obtain ⟨b12, z12, ea, ez, h⟩ := mk_ob h
  refine wz_newIK (N := 8) (c' := 1) (s' := 8) ea ez (tw 247 (by decide +kernel) rfl) C hW (by decide) (by decide +kernel) (Nat.le_of_ble_eq_true rfl) ⟨Nat.le_of_ble_eq_true rfl, Nat.le_of_ble_eq_true rfl⟩ rfl rfl dX6_init_12 (fun H hW => ?_)
  obtain ⟨z14, hg, h⟩ := ob h
  refine wz_putF (v := (.ref b12)) C hin hW flX6_17 rfl rfl hg dX6_init_14 (fun H locs hW => ?_)
  refine lv_aload_n hx hb dX6_init_17 rfl (lv_at hl 0 rfl) ?_
  refine lv_bipush (v := 8) hx hb dX6_init_18 (by decide) ?_
  obtain ⟨b20, z20, ea, ez, h⟩ := mk_ob h
  refine wz_newIK (N := 8) (c' := 2) (s' := 16) ea ez (tw 247 (by decide +kernel) rfl) C hW (by decide) (by decide +kernel) (Nat.le_of_ble_eq_true rfl) ⟨Nat.le_of_ble_eq_true rfl, Nat.le_of_ble_eq_true rfl⟩ rfl rfl dX6_init_20 (fun H hW => ?_)
  obtain ⟨z22, hg, h⟩ := ob h
  refine wz_putF (v := (.ref b20)) C hin hW flX6_21 rfl rfl hg dX6_init_22 (fun H locs hW => ?_)
  refine lv_aload_n hx hb dX6_init_25 rfl (lv_at hl 0 rfl) ?_
  refine lv_bipush (v := 8) hx hb dX6_init_26 (by decide) ?_
  obtain ⟨b28, z28, ea, ez, h⟩ := mk_ob h
  refine wz_newIK (N := 8) (c' := 3) (s' := 24) ea ez (tw 247 (by decide +kernel) rfl) C hW (by decide) (by decide +kernel) (Nat.le_of_ble_eq_true rfl) ⟨Nat.le_of_ble_eq_true rfl, Nat.le_of_ble_eq_true rfl⟩ rfl rfl dX6_init_28 (fun H hW => ?_)
  obtain ⟨z30, hg, h⟩ := ob h
  refine wz_putF (v := (.ref b28)) C hin hW flX6_24 rfl rfl hg dX6_init_30 (fun H locs hW => ?_)
  refine lv_aload_n hx hb dX6_init_33 rfl (lv_at hl 0 rfl) ?_
  refine lv_iconst (v := 4) hx hb dX6_init_34 (by decide) ?_
  obtain ⟨b35, z35, ea, ez, h⟩ := mk_ob h
  refine wz_newIK (N := 4) (c' := 4) (s' := 28) ea ez (tw 247 (by decide +kernel) rfl) C hW (by decide) (by decide +kernel) (Nat.le_of_ble_eq_true rfl) ⟨Nat.le_of_ble_eq_true rfl, Nat.le_of_ble_eq_true rfl⟩ rfl rfl dX6_init_35 (fun H hW => ?_)
  obtain ⟨z37, hg, h⟩ := ob h
  refine wz_putF (v := (.ref b35)) C hin hW flX6_27 rfl rfl hg dX6_init_37 (fun H locs hW => ?_)
  exact wz_vretE C hlk hr (Option.some.inj h) hW dX6_init_40
theorem flX6_52 : FL RX6 52 5 5 := ⟨_, rfl, Nat.le_of_ble_eq_true rfl, tw 356 (by decide +kernel) rfl, rfl⟩
theorem flX6_37 : FL RX6 37 5 6 := ⟨_, rfl, Nat.le_of_ble_eq_true rfl, tw 357 (by decide +kernel) rfl, rfl⟩
theorem flX6_41 : FL RX6 41 5 7 := ⟨_, rfl, Nat.le_of_ble_eq_true rfl, tw 360 (by decide +kernel) rfl, rfl⟩
theorem flX6_55 : FL RX6 55 5 8 := ⟨_, rfl, Nat.le_of_ble_eq_true rfl, tw 362 (by decide +kernel) rfl, rfl⟩
theorem flX6_58 : FL RX6 58 5 9 := ⟨_, rfl, Nat.le_of_ble_eq_true rfl, tw 363 (by decide +kernel) rfl, rfl⟩
theorem flX6_61 : FL RX6 61 5 10 := ⟨_, rfl, Nat.le_of_ble_eq_true rfl, tw 364 (by decide +kernel) rfl, rfl⟩
theorem flX6_64 : FL RX6 64 5 11 := ⟨_, rfl, Nat.le_of_ble_eq_true rfl, tw 365 (by decide +kernel) rfl, rfl⟩
theorem flX6_67 : FL RX6 67 5 12 := ⟨_, rfl, Nat.le_of_ble_eq_true rfl, tw 367 (by decide +kernel) rfl, rfl⟩
theorem flX6_70 : FL RX6 70 5 13 := ⟨_, rfl, Nat.le_of_ble_eq_true rfl, tw 369 (by decide +kernel) rfl, rfl⟩
theorem flX6_44 : FL RX6 44 0 1 := ⟨_, rfl, Nat.le_of_ble_eq_true rfl, tw 158 (by decide +kernel) rfl, rfl⟩
theorem flX6_51 : FL RX6 51 0 2 := ⟨_, rfl, Nat.le_of_ble_eq_true rfl, tw 160 (by decide +kernel) rfl, rfl⟩
theorem dX6_load_0 : decode cX6_load 0 = .ok (.aload_n 0, 1) := by decide +kernel
theorem dX6_load_1 : decode cX6_load 1 = .ok (.aload_n 1, 1) := by decide +kernel
theorem dX6_load_2 : decode cX6_load 2 = .ok (.putfield 9, 3) := by decide +kernel
theorem dX6_load_5 : decode cX6_load 5 = .ok (.aload_n 1, 1) := by decide +kernel
theorem dX6_load_6 : decode cX6_load 6 = .ok (.getfield 44, 3) := by decide +kernel
theorem dX6_load_9 : decode cX6_load 9 = .ok (.iconst 0, 1) := by decide +kernel
theorem dX6_load_10 : decode cX6_load 10 = .ok (.aload_n 0, 1) := by decide +kernel
theorem dX6_load_11 : decode cX6_load 11 = .ok (.getfield 17, 3) := by decide +kernel
theorem dX6_load_14 : decode cX6_load 14 = .ok (.iconst 0, 1) := by decide +kernel
theorem dX6_load_15 : decode cX6_load 15 = .ok (.bipush 8, 2) := by decide +kernel
theorem dX6_load_17 : decode cX6_load 17 = .ok (.invokestatic 45, 3) := by decide +kernel
theorem dX6_load_20 : decode cX6_load 20 = .ok (.aload_n 1, 1) := by decide +kernel
theorem dX6_load_21 : decode cX6_load 21 = .ok (.getfield 51, 3) := by decide +kernel
theorem dX6_load_24 : decode cX6_load 24 = .ok (.iconst 0, 1) := by decide +kernel
theorem dX6_load_25 : decode cX6_load 25 = .ok (.aload_n 0, 1) := by decide +kernel
theorem dX6_load_26 : decode cX6_load 26 = .ok (.getfield 21, 3) := by decide +kernel
theorem dX6_load_29 : decode cX6_load 29 = .ok (.iconst 0, 1) := by decide +kernel
theorem dX6_load_30 : decode cX6_load 30 = .ok (.bipush 8, 2) := by decide +kernel
theorem dX6_load_32 : decode cX6_load 32 = .ok (.invokestatic 45, 3) := by decide +kernel
theorem dX6_load_35 : decode cX6_load 35 = .ok (.iconst 0, 1) := by decide +kernel
theorem dX6_load_36 : decode cX6_load 36 = .ok (.istore_n 2, 1) := by decide +kernel
theorem dX6_load_37 : decode cX6_load 37 = .ok (.iload_n 2, 1) := by decide +kernel
theorem dX6_load_38 : decode cX6_load 38 = .ok (.aload_n 0, 1) := by decide +kernel
theorem dX6_load_39 : decode cX6_load 39 = .ok (.getfield 27, 3) := by decide +kernel
theorem dX6_load_42 : decode cX6_load 42 = .ok (.arraylength, 1) := by decide +kernel
theorem dX6_load_43 : decode cX6_load 43 = .ok (.if_icmp .ge 16, 3) := by decide +kernel
theorem dX6_load_46 : decode cX6_load 46 = .ok (.aload_n 0, 1) := by decide +kernel
theorem dX6_load_47 : decode cX6_load 47 = .ok (.getfield 27, 3) := by decide +kernel
theorem dX6_load_50 : decode cX6_load 50 = .ok (.iload_n 2, 1) := by decide +kernel
theorem dX6_load_51 : decode cX6_load 51 = .ok (.iconst 0, 1) := by decide +kernel
theorem dX6_load_52 : decode cX6_load 52 = .ok (.iastore, 1) := by decide +kernel
theorem dX6_load_53 : decode cX6_load 53 = .ok (.iinc 2 1, 3) := by decide +kernel
theorem dX6_load_56 : decode cX6_load 56 = .ok (.goto (-19), 3) := by decide +kernel
theorem dX6_load_59 : decode cX6_load 59 = .ok (.aload_n 0, 1) := by decide +kernel
theorem dX6_load_60 : decode cX6_load 60 = .ok (.iconst 0, 1) := by decide +kernel
theorem dX6_load_61 : decode cX6_load 61 = .ok (.putfield 52, 3) := by decide +kernel
theorem dX6_load_64 : decode cX6_load 64 = .ok (.aload_n 0, 1) := by decide +kernel
theorem dX6_load_65 : decode cX6_load 65 = .ok (.iconst 0, 1) := by decide +kernel
theorem dX6_load_66 : decode cX6_load 66 = .ok (.putfield 37, 3) := by decide +kernel
theorem dX6_load_69 : decode cX6_load 69 = .ok (.aload_n 0, 1) := by decide +kernel
theorem dX6_load_70 : decode cX6_load 70 = .ok (.iconst 0, 1) := by decide +kernel
theorem dX6_load_71 : decode cX6_load 71 = .ok (.putfield 41, 3) := by decide +kernel
theorem dX6_load_74 : decode cX6_load 74 = .ok (.aload_n 0, 1) := by decide +kernel
theorem dX6_load_75 : decode cX6_load 75 = .ok (.iconst 0, 1) := by decide +kernel
theorem dX6_load_76 : decode cX6_load 76 = .ok (.putfield 55, 3) := by decide +kernel
theorem dX6_load_79 : decode cX6_load 79 = .ok (.aload_n 0, 1) := by decide +kernel
theorem dX6_load_80 : decode cX6_load 80 = .ok (.iconst 0, 1) := by decide +kernel
theorem dX6_load_81 : decode cX6_load 81 = .ok (.putfield 58, 3) := by decide +kernel
theorem dX6_load_84 : decode cX6_load 84 = .ok (.aload_n 0, 1) := by decide +kernel
theorem dX6_load_85 : decode cX6_load 85 = .ok (.iconst 0, 1) := by decide +kernel
theorem dX6_load_86 : decode cX6_load 86 = .ok (.putfield 61, 3) := by decide +kernel
theorem dX6_load_89 : decode cX6_load 89 = .ok (.aload_n 0, 1) := by decide +kernel
theorem dX6_load_90 : decode cX6_load 90 = .ok (.iconst 0, 1) := by decide +kernel
theorem dX6_load_91 : decode cX6_load 91 = .ok (.putfield 64, 3) := by decide +kernel
theorem dX6_load_94 : decode cX6_load 94 = .ok (.aload_n 0, 1) := by decide +kernel
theorem dX6_load_95 : decode cX6_load 95 = .ok (.iconst 0, 1) := by decide +kernel
theorem dX6_load_96 : decode cX6_load 96 = .ok (.putfield 67, 3) := by decide +kernel
theorem dX6_load_99 : decode cX6_load 99 = .ok (.aload_n 0, 1) := by decide +kernel
theorem dX6_load_100 : decode cX6_load 100 = .ok (.iconst (-1), 1) := by decide +kernel
theorem dX6_load_101 : decode cX6_load 101 = .ok (.putfield 70, 3) := by decide +kernel
theorem dX6_load_104 : decode cX6_load 104 = .ok (.return_, 1) := by decide +kernel
abbrev rmX6_load : Room := { frames := 1, cells := 0, slots := 0, locals := 80 }
def bX6_load_37 (k37 : Nat → Int32 → AH → Option AH) (a0 : Nat) (l2 : Int32) (z : AH) : Option AH :=
  (gN 5 3 z a0).bind fun b39 =>
  (lnI 0 z b39).bind fun x42 =>
  if x42 ≤ l2 then (
    (pF 5 5 z a0 (.int (0 : Int32))).bind fun z61 =>
    (pF 5 6 z61 a0 (.int (0 : Int32))).bind fun z66 =>
    (pF 5 7 z66 a0 (.int (0 : Int32))).bind fun z71 =>
    (pF 5 8 z71 a0 (.int (0 : Int32))).bind fun z76 =>
    (pF 5 9 z76 a0 (.int (0 : Int32))).bind fun z81 =>
    (pF 5 10 z81 a0 (.int (0 : Int32))).bind fun z86 =>
    (pF 5 11 z86 a0 (.int (0 : Int32))).bind fun z91 =>
    (pF 5 12 z91 a0 (.int (0 : Int32))).bind fun z96 =>
    (pF 5 13 z96 a0 (.int (-1 : Int32))).bind fun z101 =>
    some z101
  ) else (
    (gN 5 3 z a0).bind fun b47 =>
    (stI 0 z b47 l2 (0 : Int32)).bind fun z52 =>
    nm (l2 + (1 : Int32)) fun v53 =>
    k37 a0 v53 z52
  )
set_option maxHeartbeats 4000000 in
set_option maxRecDepth 100000 in
theorem kbX6_load_37 {p : Program} {l : Launch} {e : Env} {s : State} {m : MethodId} {args : Array Value} {below : List Frame} {meth : Method} {c : Code} {G : GW} {z' : AH} (C : Cx p m c cX6_load 3 s args RX6 G) (hlk : meth.locks = false) (hr : meth.sig.returnType = none) (k37 : Nat → Int32 → AH → Option AH) (hk37 : ∀ (a0 : Nat) (l2 : Int32) (z : AH) (H : Heap) (locs : List Loc) (ls : Array Slot), k37 a0 l2 z = some z' → Wb G z s H locs → lv_has ls 3 [(0, .ref (gB G + a0)), (2, .int l2)] → W p l e rmX6_load s m args below meth c H locs 0 0 (MQ below (Qv G z') args s 0 0 (AA G)) (F0 m 37 ls [])) (a0 : Nat) (l2 : Int32) {z : AH} {H : Heap} {locs : List Loc} {ls : Array Slot} (h : bX6_load_37 k37 a0 l2 z = some z') (hW : Wb G z s H locs) (hl : lv_has ls 3 [(0, .ref (gB G + a0)), (2, .int l2)]) : W p l e rmX6_load s m args below meth c H locs 0 0 (MQ below (Qv G z') args s 0 0 (AA G)) (F0 m 37 ls []) := by
  have hx := C.1
  have hb := C.2.1
  unfold bX6_load_37 at h
  refine lv_iload_n hx hb dX6_load_37 rfl (lv_at hl 1 rfl) ?_
  refine lv_aload_n hx hb dX6_load_38 rfl (lv_at hl 0 rfl) ?_
  obtain ⟨b39, hg, h⟩ := ob h
  refine wz_gN C hW flX6_27 hg dX6_load_39 ?_
  obtain ⟨x42, hg, h⟩ := ob h
  refine wz_len C hW hg dX6_load_42 ?_
  refine lv_icmp_ge (tgt := 59) hx hb dX6_load_43 (by decide) (fun c43 => ?_) (fun c43 => ?_)
  · have h := ite_t c43 h
    refine lv_aload_n hx hb dX6_load_59 rfl (lv_at hl 0 rfl) ?_
    refine lv_iconst (v := 0) hx hb dX6_load_60 (by decide) ?_
    obtain ⟨z61, hg, h⟩ := ob h
    refine wz_put (v := (.int (0 : Int32))) C hW flX6_52 rfl rfl hg dX6_load_61 (fun H locs hW => ?_)
    refine lv_aload_n hx hb dX6_load_64 rfl (lv_at hl 0 rfl) ?_
    refine lv_iconst (v := 0) hx hb dX6_load_65 (by decide) ?_
    obtain ⟨z66, hg, h⟩ := ob h
    refine wz_put (v := (.int (0 : Int32))) C hW flX6_37 rfl rfl hg dX6_load_66 (fun H locs hW => ?_)
    refine lv_aload_n hx hb dX6_load_69 rfl (lv_at hl 0 rfl) ?_
    refine lv_iconst (v := 0) hx hb dX6_load_70 (by decide) ?_
    obtain ⟨z71, hg, h⟩ := ob h
    refine wz_put (v := (.int (0 : Int32))) C hW flX6_41 rfl rfl hg dX6_load_71 (fun H locs hW => ?_)
    refine lv_aload_n hx hb dX6_load_74 rfl (lv_at hl 0 rfl) ?_
    refine lv_iconst (v := 0) hx hb dX6_load_75 (by decide) ?_
    obtain ⟨z76, hg, h⟩ := ob h
    refine wz_put (v := (.int (0 : Int32))) C hW flX6_55 rfl rfl hg dX6_load_76 (fun H locs hW => ?_)
    refine lv_aload_n hx hb dX6_load_79 rfl (lv_at hl 0 rfl) ?_
    refine lv_iconst (v := 0) hx hb dX6_load_80 (by decide) ?_
    obtain ⟨z81, hg, h⟩ := ob h
    refine wz_put (v := (.int (0 : Int32))) C hW flX6_58 rfl rfl hg dX6_load_81 (fun H locs hW => ?_)
    refine lv_aload_n hx hb dX6_load_84 rfl (lv_at hl 0 rfl) ?_
    refine lv_iconst (v := 0) hx hb dX6_load_85 (by decide) ?_
    obtain ⟨z86, hg, h⟩ := ob h
    refine wz_put (v := (.int (0 : Int32))) C hW flX6_61 rfl rfl hg dX6_load_86 (fun H locs hW => ?_)
    refine lv_aload_n hx hb dX6_load_89 rfl (lv_at hl 0 rfl) ?_
    refine lv_iconst (v := 0) hx hb dX6_load_90 (by decide) ?_
    obtain ⟨z91, hg, h⟩ := ob h
    refine wz_put (v := (.int (0 : Int32))) C hW flX6_64 rfl rfl hg dX6_load_91 (fun H locs hW => ?_)
    refine lv_aload_n hx hb dX6_load_94 rfl (lv_at hl 0 rfl) ?_
    refine lv_iconst (v := 0) hx hb dX6_load_95 (by decide) ?_
    obtain ⟨z96, hg, h⟩ := ob h
    refine wz_put (v := (.int (0 : Int32))) C hW flX6_67 rfl rfl hg dX6_load_96 (fun H locs hW => ?_)
    refine lv_aload_n hx hb dX6_load_99 rfl (lv_at hl 0 rfl) ?_
    refine lv_iconst (v := -1) hx hb dX6_load_100 (by decide) ?_
    obtain ⟨z101, hg, h⟩ := ob h
    refine wz_put (v := (.int (-1 : Int32))) C hW flX6_70 rfl rfl hg dX6_load_101 (fun H locs hW => ?_)
    exact wz_vretE C hlk hr (Option.some.inj h) hW dX6_load_104
  · have h := ite_f c43 h
    refine lv_aload_n hx hb dX6_load_46 rfl (lv_at hl 0 rfl) ?_
    obtain ⟨b47, hg, h⟩ := ob h
    refine wz_gN C hW flX6_27 hg dX6_load_47 ?_
    refine lv_iload_n hx hb dX6_load_50 rfl (lv_at hl 1 rfl) ?_
    refine lv_iconst (v := 0) hx hb dX6_load_51 (by decide) ?_
    obtain ⟨z52, hg, h⟩ := ob h
    refine wz_ast C hW hg dX6_load_52 (fun H locs hW => ?_)
    obtain ⟨v53, ev53⟩ : ∃ y : Int32, y = (l2 + (1 : Int32)) := ⟨_, rfl⟩
    have h := nm_to h ev53
    refine lv_iinc (v := v53) (lv' := [(2, .int v53), (0, .ref (gB G + a0))]) hx hb dX6_load_53 hl (k := 1) rfl (by rw [ev53]; rfl) (by decide) rfl (fun ls hl => ?_)
    refine lv_goto (tgt := 37) hx hb dX6_load_56 (by decide) ?_
    exact hk37 a0 v53 z52 _ _ _ h hW (lv_sub hl [1, 0] rfl)
def fX6_load_37 : Nat → Nat → Int32 → AH → Option AH
  | 0, _, _, _ => none
  | n + 1, a0, l2, z => bX6_load_37 (fX6_load_37 n) a0 l2 z
theorem klX6_load_37 {p : Program} {l : Launch} {e : Env} {s : State} {m : MethodId} {args : Array Value} {below : List Frame} {meth : Method} {c : Code} {G : GW} {z' : AH} (C : Cx p m c cX6_load 3 s args RX6 G) (hlk : meth.locks = false) (hr : meth.sig.returnType = none) : ∀ (n : Nat) (a0 : Nat) (l2 : Int32) (z : AH) (H : Heap) (locs : List Loc) (ls : Array Slot), fX6_load_37 n a0 l2 z = some z' → Wb G z s H locs → lv_has ls 3 [(0, .ref (gB G + a0)), (2, .int l2)] → W p l e rmX6_load s m args below meth c H locs 0 0 (MQ below (Qv G z') args s 0 0 (AA G)) (F0 m 37 ls []) := by
  intro n
  induction n with
  | zero => intro a0 l2 z H locs ls h; have h : (none : Option AH) = some z' := h; cases h
  | succ n ih => intro a0 l2 z H locs ls h hW hl; exact kbX6_load_37 C hlk hr (fX6_load_37 n) (fun a0 l2 z H locs ls h hW hl => ih a0 l2 z H locs ls h hW hl) a0 l2 h hW hl
def fX6_load (a0 : Nat) (a1 : Nat) (z : AH) : Option AH :=
  if isO 5 z a0 = true then
    (pF 5 0 z a0 (.ref a1)).bind fun z2 =>
    (gN 0 1 z2 a1).bind fun b6 =>
    (gN 5 1 z2 a0).bind fun b11 =>
    (cpI 0 z2 b6 (0 : Int32) b11 (0 : Int32) (8 : Int32)).bind fun z17 =>
    (gN 0 2 z17 a1).bind fun b21 =>
    (gN 5 2 z17 a0).bind fun b26 =>
    (cpI 0 z17 b21 (0 : Int32) b26 (0 : Int32) (8 : Int32)).bind fun z32 =>
    fX6_load_37 FU a0 (0 : Int32) z32
  else none
set_option maxHeartbeats 4000000 in
set_option maxRecDepth 100000 in
theorem ctX6_load (l : Launch) (G : GW) (a0 : Nat) (a1 : Nat) (z : AH) {z' : AH} (h : fX6_load a0 a1 z = some z') : Met l yX6_load (wy yX6_load cX6_load 3 none) rmX6_load (Pz G [.ref (gB G + a0), .ref (gB G + a1)] z) (Qv G z') 0 0 (AA G) := by
  refine wz_ent (own := RX6) (by decide +kernel) rfl (fun p e s m below meth c ls C hlk hr hin hW hl => ?_) (Nat.le_of_ble_eq_true rfl)
  have hl : lv_has ls 3 [(0, .ref (gB G + a0)), (1, .ref (gB G + a1))] := hl
  have hx := C.1
  have hb := C.2.1
  unfold fX6_load at h
  obtain ⟨-, h⟩ := ck h
  refine lv_aload_n hx hb dX6_load_0 rfl (lv_at hl 0 rfl) ?_
  refine lv_aload_n hx hb dX6_load_1 rfl (lv_at hl 1 rfl) ?_
  obtain ⟨z2, hg, h⟩ := ob h
  refine wz_put (v := (.ref a1)) C hW flX6_9 rfl rfl hg dX6_load_2 (fun H locs hW => ?_)
  refine lv_aload_n hx hb dX6_load_5 rfl (lv_at hl 1 rfl) ?_
  obtain ⟨b6, hg, h⟩ := ob h
  refine wz_gN C hW flX6_44 hg dX6_load_6 ?_
  refine lv_iconst (v := 0) hx hb dX6_load_9 (by decide) ?_
  refine lv_aload_n hx hb dX6_load_10 rfl (lv_at hl 0 rfl) ?_
  obtain ⟨b11, hg, h⟩ := ob h
  refine wz_gN C hW flX6_17 hg dX6_load_11 ?_
  refine lv_iconst (v := 0) hx hb dX6_load_14 (by decide) ?_
  refine lv_bipush (v := 8) hx hb dX6_load_15 (by decide) ?_
  obtain ⟨z17, hg, h⟩ := ob h
  refine wz_cpy (Or.inl rfl) ⟨tw 822 (by decide +kernel) rfl, tw 824 (by decide +kernel) rfl, tw 823 (by decide +kernel) rfl, tw 135 (by decide +kernel) rfl⟩ C hl.1 hW hg ⟨Nat.le_of_ble_eq_true rfl, Nat.le_of_ble_eq_true (by decide +kernel)⟩ dX6_load_17 (fun H locs hW => ?_)
  refine lv_aload_n hx hb dX6_load_20 rfl (lv_at hl 1 rfl) ?_
  obtain ⟨b21, hg, h⟩ := ob h
  refine wz_gN C hW flX6_51 hg dX6_load_21 ?_
  refine lv_iconst (v := 0) hx hb dX6_load_24 (by decide) ?_
  refine lv_aload_n hx hb dX6_load_25 rfl (lv_at hl 0 rfl) ?_
  obtain ⟨b26, hg, h⟩ := ob h
  refine wz_gN C hW flX6_21 hg dX6_load_26 ?_
  refine lv_iconst (v := 0) hx hb dX6_load_29 (by decide) ?_
  refine lv_bipush (v := 8) hx hb dX6_load_30 (by decide) ?_
  obtain ⟨z32, hg, h⟩ := ob h
  refine wz_cpy (Or.inl rfl) ⟨tw 822 (by decide +kernel) rfl, tw 824 (by decide +kernel) rfl, tw 823 (by decide +kernel) rfl, tw 135 (by decide +kernel) rfl⟩ C hl.1 hW hg ⟨Nat.le_of_ble_eq_true rfl, Nat.le_of_ble_eq_true (by decide +kernel)⟩ dX6_load_32 (fun H locs hW => ?_)
  refine lv_iconst (v := 0) hx hb dX6_load_35 (by decide) ?_
  refine lv_istore_n (lv' := [(2, .int (0 : Int32)), (0, .ref (gB G + a0)), (1, .ref (gB G + a1))]) hx hb dX6_load_36 rfl hl (by decide) rfl (fun ls hl => ?_)
  exact klX6_load_37 C hlk hr FU a0 (0 : Int32) z32 _ _ _ h hW (lv_sub hl [1, 0] rfl)
theorem flX6_81 : FL RX6 81 0 0 := ⟨_, rfl, Nat.le_of_ble_eq_true rfl, tw 154 (by decide +kernel) rfl, rfl⟩
theorem flX6_84 : FL RX6 84 0 5 := ⟨_, rfl, Nat.le_of_ble_eq_true rfl, tw 166 (by decide +kernel) rfl, rfl⟩
theorem dX6_bears_0 : decode cX6_bears 0 = .ok (.iload_n 1, 1) := by decide +kernel
theorem dX6_bears_1 : decode cX6_bears 1 = .ok (.ifCond .lt 14, 3) := by decide +kernel
theorem dX6_bears_4 : decode cX6_bears 4 = .ok (.iload_n 1, 1) := by decide +kernel
theorem dX6_bears_5 : decode cX6_bears 5 = .ok (.aload_n 0, 1) := by decide +kernel
theorem dX6_bears_6 : decode cX6_bears 6 = .ok (.getfield 9, 3) := by decide +kernel
theorem dX6_bears_9 : decode cX6_bears 9 = .ok (.getfield 81, 3) := by decide +kernel
theorem dX6_bears_12 : decode cX6_bears 12 = .ok (.if_icmp .lt 5, 3) := by decide +kernel
theorem dX6_bears_15 : decode cX6_bears 15 = .ok (.iconst 0, 1) := by decide +kernel
theorem dX6_bears_16 : decode cX6_bears 16 = .ok (.ireturn, 1) := by decide +kernel
theorem dX6_bears_17 : decode cX6_bears 17 = .ok (.aload_n 0, 1) := by decide +kernel
theorem dX6_bears_18 : decode cX6_bears 18 = .ok (.getfield 9, 3) := by decide +kernel
theorem dX6_bears_21 : decode cX6_bears 21 = .ok (.getfield 84, 3) := by decide +kernel
theorem dX6_bears_24 : decode cX6_bears 24 = .ok (.iload_n 1, 1) := by decide +kernel
theorem dX6_bears_25 : decode cX6_bears 25 = .ok (.iaload, 1) := by decide +kernel
theorem dX6_bears_26 : decode cX6_bears 26 = .ok (.aload_n 0, 1) := by decide +kernel
theorem dX6_bears_27 : decode cX6_bears 27 = .ok (.getfield 37, 3) := by decide +kernel
theorem dX6_bears_30 : decode cX6_bears 30 = .ok (.iconst (-1), 1) := by decide +kernel
theorem dX6_bears_31 : decode cX6_bears 31 = .ok (.ixor, 1) := by decide +kernel
theorem dX6_bears_32 : decode cX6_bears 32 = .ok (.iand, 1) := by decide +kernel
theorem dX6_bears_33 : decode cX6_bears 33 = .ok (.istore_n 2, 1) := by decide +kernel
theorem dX6_bears_34 : decode cX6_bears 34 = .ok (.iconst 0, 1) := by decide +kernel
theorem dX6_bears_35 : decode cX6_bears 35 = .ok (.istore_n 3, 1) := by decide +kernel
theorem dX6_bears_36 : decode cX6_bears 36 = .ok (.iconst 0, 1) := by decide +kernel
theorem dX6_bears_37 : decode cX6_bears 37 = .ok (.istore 4, 2) := by decide +kernel
theorem dX6_bears_39 : decode cX6_bears 39 = .ok (.iload 4, 2) := by decide +kernel
theorem dX6_bears_41 : decode cX6_bears 41 = .ok (.aload_n 0, 1) := by decide +kernel
theorem dX6_bears_42 : decode cX6_bears 42 = .ok (.getfield 9, 3) := by decide +kernel
theorem dX6_bears_45 : decode cX6_bears 45 = .ok (.getfield 81, 3) := by decide +kernel
theorem dX6_bears_48 : decode cX6_bears 48 = .ok (.if_icmp .ge 37, 3) := by decide +kernel
theorem dX6_bears_51 : decode cX6_bears 51 = .ok (.iload_n 2, 1) := by decide +kernel
theorem dX6_bears_52 : decode cX6_bears 52 = .ok (.ifCond .eq 33, 3) := by decide +kernel
theorem dX6_bears_55 : decode cX6_bears 55 = .ok (.iload_n 3, 1) := by decide +kernel
theorem dX6_bears_56 : decode cX6_bears 56 = .ok (.iload_n 2, 1) := by decide +kernel
theorem dX6_bears_57 : decode cX6_bears 57 = .ok (.iconst 1, 1) := by decide +kernel
theorem dX6_bears_58 : decode cX6_bears 58 = .ok (.iand, 1) := by decide +kernel
theorem dX6_bears_59 : decode cX6_bears 59 = .ok (.ifCond .ne 7, 3) := by decide +kernel
theorem dX6_bears_62 : decode cX6_bears 62 = .ok (.iconst 0, 1) := by decide +kernel
theorem dX6_bears_63 : decode cX6_bears 63 = .ok (.goto 10, 3) := by decide +kernel
theorem dX6_bears_66 : decode cX6_bears 66 = .ok (.aload_n 0, 1) := by decide +kernel
theorem dX6_bears_67 : decode cX6_bears 67 = .ok (.getfield 21, 3) := by decide +kernel
theorem dX6_bears_70 : decode cX6_bears 70 = .ok (.iload 4, 2) := by decide +kernel
theorem dX6_bears_72 : decode cX6_bears 72 = .ok (.iaload, 1) := by decide +kernel
theorem dX6_bears_73 : decode cX6_bears 73 = .ok (.iadd, 1) := by decide +kernel
theorem dX6_bears_74 : decode cX6_bears 74 = .ok (.istore_n 3, 1) := by decide +kernel
theorem dX6_bears_75 : decode cX6_bears 75 = .ok (.iload_n 2, 1) := by decide +kernel
theorem dX6_bears_76 : decode cX6_bears 76 = .ok (.iconst 1, 1) := by decide +kernel
theorem dX6_bears_77 : decode cX6_bears 77 = .ok (.iushr, 1) := by decide +kernel
theorem dX6_bears_78 : decode cX6_bears 78 = .ok (.istore_n 2, 1) := by decide +kernel
theorem dX6_bears_79 : decode cX6_bears 79 = .ok (.iinc 4 1, 3) := by decide +kernel
theorem dX6_bears_82 : decode cX6_bears 82 = .ok (.goto (-43), 3) := by decide +kernel
theorem dX6_bears_85 : decode cX6_bears 85 = .ok (.iload_n 3, 1) := by decide +kernel
theorem dX6_bears_86 : decode cX6_bears 86 = .ok (.ireturn, 1) := by decide +kernel
abbrev rmX6_bears : Room := { frames := 0, cells := 0, slots := 0, locals := 0 }
def bX6_bears_73 (k39 : Nat → Int32 → Int32 → Int32 → Option (Int32)) (a0 : Nat) (l2 : Int32) (l4 : Int32) (s0 : Int32) (s1 : Int32) (z : AH) : Option (Int32) :=
  nm (s0 + s1) fun v74 =>
  nm (ush l2 (1 : Int32)) fun v78 =>
  nm (l4 + (1 : Int32)) fun v79 =>
  k39 a0 v78 v74 v79
set_option maxHeartbeats 4000000 in
set_option maxRecDepth 100000 in
theorem kbX6_bears_73 {p : Program} {l : Launch} {e : Env} {s : State} {m : MethodId} {args : Array Value} {below : List Frame} {meth : Method} {c : Code} {G : GW} {r : Int32} (C : Cx p m c cX6_bears 5 s args RX6 G) (hlk : meth.locks = false) (hr : meth.sig.returnType = (some .int)) {z : AH} (k39 : Nat → Int32 → Int32 → Int32 → Option (Int32)) (hk39 : ∀ (a0 : Nat) (l2 : Int32) (l3 : Int32) (l4 : Int32) (H : Heap) (locs : List Loc) (ls : Array Slot), k39 a0 l2 l3 l4 = some r → Wb G z s H locs → lv_has ls 5 [(0, .ref (gB G + a0)), (2, .int l2), (3, .int l3), (4, .int l4)] → W p l e rmX6_bears s m args below meth c H locs 0 0 (MQ below (Qi G r z) args s 0 0 (AA G)) (F0 m 39 ls [])) (a0 : Nat) (l2 : Int32) (l4 : Int32) (s0 : Int32) (s1 : Int32) {H : Heap} {locs : List Loc} {ls : Array Slot} (h : bX6_bears_73 k39 a0 l2 l4 s0 s1 z = some r) (hW : Wb G z s H locs) (hl : lv_has ls 5 [(0, .ref (gB G + a0)), (2, .int l2), (4, .int l4)]) : W p l e rmX6_bears s m args below meth c H locs 0 0 (MQ below (Qi G r z) args s 0 0 (AA G)) (F0 m 73 ls [.int s1, .int s0]) := by
  have hx := C.1
  have hb := C.2.1
  unfold bX6_bears_73 at h
  refine lv_iadd hx hb dX6_bears_73 ?_
  refine lv_topi (fun v74 ev74 => ?_)
  have h := nm_to h ev74
  refine lv_istore_n (lv' := [(3, .int v74), (0, .ref (gB G + a0)), (2, .int l2), (4, .int l4)]) hx hb dX6_bears_74 rfl hl (by decide) rfl (fun ls hl => ?_)
  refine lv_iload_n hx hb dX6_bears_75 rfl (lv_at hl 2 rfl) ?_
  refine lv_iconst (v := 1) hx hb dX6_bears_76 (by decide) ?_
  refine wz_ush hx hb dX6_bears_77 ?_
  refine lv_topi (fun v78 ev78 => ?_)
  have h := nm_to h ev78
  refine lv_istore_n (lv' := [(2, .int v78), (3, .int v74), (0, .ref (gB G + a0)), (4, .int l4)]) hx hb dX6_bears_78 rfl hl (by decide) rfl (fun ls hl => ?_)
  obtain ⟨v79, ev79⟩ : ∃ y : Int32, y = (l4 + (1 : Int32)) := ⟨_, rfl⟩
  have h := nm_to h ev79
  refine lv_iinc (v := v79) (lv' := [(4, .int v79), (2, .int v78), (3, .int v74), (0, .ref (gB G + a0))]) hx hb dX6_bears_79 hl (k := 3) rfl (by rw [ev79]; rfl) (by decide) rfl (fun ls hl => ?_)
  refine lv_goto (tgt := 39) hx hb dX6_bears_82 (by decide) ?_
  exact hk39 a0 v78 v74 v79 _ _ _ h hW (lv_sub hl [3, 1, 2, 0] rfl)
def bX6_bears_39 (k39 : Nat → Int32 → Int32 → Int32 → Option (Int32)) (a0 : Nat) (l2 : Int32) (l3 : Int32) (l4 : Int32) (z : AH) : Option (Int32) :=
  (gN 5 0 z a0).bind fun b42 =>
  (gI 0 0 z b42).bind fun x45 =>
  if x45 ≤ l4 then (
    some l3
  ) else (
    if l2 = (0 : Int32) then (
      some l3
    ) else (
      if (l2 &&& (1 : Int32)) = (0 : Int32) then (
        bX6_bears_73 k39 a0 l2 l4 l3 (0 : Int32) z
      ) else (
        (gN 5 2 z a0).bind fun b67 =>
        (ixI 0 z b67 l4).bind fun x72 =>
        bX6_bears_73 k39 a0 l2 l4 l3 x72 z
      )
    )
  )
set_option maxHeartbeats 4000000 in
set_option maxRecDepth 100000 in
theorem kbX6_bears_39 {p : Program} {l : Launch} {e : Env} {s : State} {m : MethodId} {args : Array Value} {below : List Frame} {meth : Method} {c : Code} {G : GW} {r : Int32} (C : Cx p m c cX6_bears 5 s args RX6 G) (hlk : meth.locks = false) (hr : meth.sig.returnType = (some .int)) {z : AH} (k39 : Nat → Int32 → Int32 → Int32 → Option (Int32)) (hk39 : ∀ (a0 : Nat) (l2 : Int32) (l3 : Int32) (l4 : Int32) (H : Heap) (locs : List Loc) (ls : Array Slot), k39 a0 l2 l3 l4 = some r → Wb G z s H locs → lv_has ls 5 [(0, .ref (gB G + a0)), (2, .int l2), (3, .int l3), (4, .int l4)] → W p l e rmX6_bears s m args below meth c H locs 0 0 (MQ below (Qi G r z) args s 0 0 (AA G)) (F0 m 39 ls [])) (a0 : Nat) (l2 : Int32) (l3 : Int32) (l4 : Int32) {H : Heap} {locs : List Loc} {ls : Array Slot} (h : bX6_bears_39 k39 a0 l2 l3 l4 z = some r) (hW : Wb G z s H locs) (hl : lv_has ls 5 [(0, .ref (gB G + a0)), (2, .int l2), (3, .int l3), (4, .int l4)]) : W p l e rmX6_bears s m args below meth c H locs 0 0 (MQ below (Qi G r z) args s 0 0 (AA G)) (F0 m 39 ls []) := by
  have hx := C.1
  have hb := C.2.1
  unfold bX6_bears_39 at h
  refine lv_iload hx hb dX6_bears_39 (lv_at hl 3 rfl) ?_
  refine lv_aload_n hx hb dX6_bears_41 rfl (lv_at hl 0 rfl) ?_
  obtain ⟨b42, hg, h⟩ := ob h
  refine wz_gN C hW flX6_9 hg dX6_bears_42 ?_
  obtain ⟨x45, hg, h⟩ := ob h
  refine wz_gI C hW flX6_81 hg dX6_bears_45 ?_
  refine lv_icmp_ge (tgt := 85) hx hb dX6_bears_48 (by decide) (fun c48 => ?_) (fun c48 => ?_)
  · have h := ite_t c48 h
    refine lv_iload_n hx hb dX6_bears_85 rfl (lv_at hl 2 rfl) ?_
    exact wz_iretE C hlk hr (Option.some.inj h) rfl hW dX6_bears_86
  · have h := ite_f c48 h
    refine lv_iload_n hx hb dX6_bears_51 rfl (lv_at hl 1 rfl) ?_
    refine lv_if_eq (tgt := 85) hx hb dX6_bears_52 (by decide) (fun c52 => ?_) (fun c52 => ?_)
    · have h := ite_t c52 h
      refine lv_iload_n hx hb dX6_bears_85 rfl (lv_at hl 2 rfl) ?_
      exact wz_iretE C hlk hr (Option.some.inj h) rfl hW dX6_bears_86
    · have h := ite_f c52 h
      refine lv_iload_n hx hb dX6_bears_55 rfl (lv_at hl 2 rfl) ?_
      refine lv_iload_n hx hb dX6_bears_56 rfl (lv_at hl 1 rfl) ?_
      refine lv_iconst (v := 1) hx hb dX6_bears_57 (by decide) ?_
      refine lv_iand hx hb dX6_bears_58 ?_
      refine lv_if_ne (tgt := 66) hx hb dX6_bears_59 (by decide) (fun c59 => ?_) (fun c59 => ?_)
      · have h := ite_f c59 h
        refine lv_aload_n hx hb dX6_bears_66 rfl (lv_at hl 0 rfl) ?_
        obtain ⟨b67, hg, h⟩ := ob h
        refine wz_gN C hW flX6_21 hg dX6_bears_67 ?_
        refine lv_iload hx hb dX6_bears_70 (lv_at hl 3 rfl) ?_
        obtain ⟨x72, hg, h⟩ := ob h
        refine wz_ald C hW hg dX6_bears_72 ?_
        exact kbX6_bears_73 C hlk hr k39 hk39 a0 l2 l4 l3 x72 h hW (lv_sub hl [0, 1, 3] rfl)
      · have h := ite_t c59 h
        refine lv_iconst (v := 0) hx hb dX6_bears_62 (by decide) ?_
        refine lv_goto (tgt := 73) hx hb dX6_bears_63 (by decide) ?_
        exact kbX6_bears_73 C hlk hr k39 hk39 a0 l2 l4 l3 (0 : Int32) h hW (lv_sub hl [0, 1, 3] rfl)
def fX6_bears_39 (z : AH) : Nat → Nat → Int32 → Int32 → Int32 → Option (Int32)
  | 0, _, _, _, _ => none
  | n + 1, a0, l2, l3, l4 => bX6_bears_39 (fX6_bears_39 z n) a0 l2 l3 l4 z
theorem klX6_bears_39 {p : Program} {l : Launch} {e : Env} {s : State} {m : MethodId} {args : Array Value} {below : List Frame} {meth : Method} {c : Code} {G : GW} {r : Int32} (C : Cx p m c cX6_bears 5 s args RX6 G) (hlk : meth.locks = false) (hr : meth.sig.returnType = (some .int)) {z : AH} : ∀ (n : Nat) (a0 : Nat) (l2 : Int32) (l3 : Int32) (l4 : Int32) (H : Heap) (locs : List Loc) (ls : Array Slot), fX6_bears_39 z n a0 l2 l3 l4 = some r → Wb G z s H locs → lv_has ls 5 [(0, .ref (gB G + a0)), (2, .int l2), (3, .int l3), (4, .int l4)] → W p l e rmX6_bears s m args below meth c H locs 0 0 (MQ below (Qi G r z) args s 0 0 (AA G)) (F0 m 39 ls []) := by
  intro n
  induction n with
  | zero => intro a0 l2 l3 l4 H locs ls h; have h : (none : Option (Int32)) = some r := h; cases h
  | succ n ih => intro a0 l2 l3 l4 H locs ls h hW hl; exact kbX6_bears_39 C hlk hr (fX6_bears_39 z n) (fun a0 l2 l3 l4 H locs ls h hW hl => ih a0 l2 l3 l4 H locs ls h hW hl) a0 l2 l3 l4 h hW hl
def fX6_bears (a0 : Nat) (l1 : Int32) (z : AH) : Option (Int32) :=
  if isO 5 z a0 = true then
    if l1 < (0 : Int32) then (
      some (0 : Int32)
    ) else (
      (gN 5 0 z a0).bind fun b6 =>
      (gI 0 0 z b6).bind fun x9 =>
      if l1 < x9 then (
        (gN 5 0 z a0).bind fun b18 =>
        (gN 0 5 z b18).bind fun b21 =>
        (ixI 0 z b21 l1).bind fun x25 =>
        (gI 5 6 z a0).bind fun x27 =>
        nm (x25 &&& (x27 ^^^ (-1 : Int32))) fun v33 =>
        fX6_bears_39 z FU a0 v33 (0 : Int32) (0 : Int32)
      ) else (
        some (0 : Int32)
      )
    )
  else none
set_option maxHeartbeats 4000000 in
set_option maxRecDepth 100000 in
theorem ctX6_bears (l : Launch) (G : GW) (a0 : Nat) (l1 : Int32) (z : AH) {r : Int32} (h : fX6_bears a0 l1 z = some r) : Met l yX6_bears (wy yX6_bears cX6_bears 5 (some .int)) rmX6_bears (Pz G [.ref (gB G + a0), .int l1] z) (Qi G r z) 0 0 (AA G) := by
  refine wz_ent (own := RX6) (by decide +kernel) rfl (fun p e s m below meth c ls C hlk hr hin hW hl => ?_) (Nat.le_of_ble_eq_true rfl)
  have hl : lv_has ls 5 [(0, .ref (gB G + a0)), (1, .int l1)] := hl
  have hx := C.1
  have hb := C.2.1
  unfold fX6_bears at h
  obtain ⟨-, h⟩ := ck h
  refine lv_iload_n hx hb dX6_bears_0 rfl (lv_at hl 1 rfl) ?_
  refine lv_if_lt (tgt := 15) hx hb dX6_bears_1 (by decide) (fun c1 => ?_) (fun c1 => ?_)
  · have h := ite_t c1 h
    refine lv_iconst (v := 0) hx hb dX6_bears_15 (by decide) ?_
    exact wz_iretE C hlk hr (Option.some.inj h) rfl hW dX6_bears_16
  · have h := ite_f c1 h
    refine lv_iload_n hx hb dX6_bears_4 rfl (lv_at hl 1 rfl) ?_
    refine lv_aload_n hx hb dX6_bears_5 rfl (lv_at hl 0 rfl) ?_
    obtain ⟨b6, hg, h⟩ := ob h
    refine wz_gN C hW flX6_9 hg dX6_bears_6 ?_
    obtain ⟨x9, hg, h⟩ := ob h
    refine wz_gI C hW flX6_81 hg dX6_bears_9 ?_
    refine lv_icmp_lt (tgt := 17) hx hb dX6_bears_12 (by decide) (fun c12 => ?_) (fun c12 => ?_)
    · have h := ite_t c12 h
      refine lv_aload_n hx hb dX6_bears_17 rfl (lv_at hl 0 rfl) ?_
      obtain ⟨b18, hg, h⟩ := ob h
      refine wz_gN C hW flX6_9 hg dX6_bears_18 ?_
      obtain ⟨b21, hg, h⟩ := ob h
      refine wz_gN C hW flX6_84 hg dX6_bears_21 ?_
      refine lv_iload_n hx hb dX6_bears_24 rfl (lv_at hl 1 rfl) ?_
      obtain ⟨x25, hg, h⟩ := ob h
      refine wz_ald C hW hg dX6_bears_25 ?_
      refine lv_aload_n hx hb dX6_bears_26 rfl (lv_at hl 0 rfl) ?_
      obtain ⟨x27, hg, h⟩ := ob h
      refine wz_gI C hW flX6_37 hg dX6_bears_27 ?_
      refine lv_iconst (v := -1) hx hb dX6_bears_30 (by decide) ?_
      refine lv_ixor hx hb dX6_bears_31 ?_
      refine lv_iand hx hb dX6_bears_32 ?_
      refine lv_topi (fun v33 ev33 => ?_)
      have h := nm_to h ev33
      refine lv_istore_n (lv' := [(2, .int v33), (0, .ref (gB G + a0)), (1, .int l1)]) hx hb dX6_bears_33 rfl hl (by decide) rfl (fun ls hl => ?_)
      refine lv_iconst (v := 0) hx hb dX6_bears_34 (by decide) ?_
      refine lv_istore_n (lv' := [(3, .int (0 : Int32)), (2, .int v33), (0, .ref (gB G + a0)), (1, .int l1)]) hx hb dX6_bears_35 rfl hl (by decide) rfl (fun ls hl => ?_)
      refine lv_iconst (v := 0) hx hb dX6_bears_36 (by decide) ?_
      refine lv_istore (lv' := [(4, .int (0 : Int32)), (3, .int (0 : Int32)), (2, .int v33), (0, .ref (gB G + a0)), (1, .int l1)]) hx hb dX6_bears_37 hl (by decide) rfl (fun ls hl => ?_)
      exact klX6_bears_39 C hlk hr FU a0 v33 (0 : Int32) (0 : Int32) _ _ _ h hW (lv_sub hl [3, 2, 1, 0] rfl)
    · have h := ite_f c12 h
      refine lv_iconst (v := 0) hx hb dX6_bears_15 (by decide) ?_
      exact wz_iretE C hlk hr (Option.some.inj h) rfl hW dX6_bears_16
theorem lVX6_87 : LV RX6 87 yX6_bears cX6_bears 5 (some .int) 1 := ⟨tw 829 (by decide +kernel) rfl, tw 830 (by decide +kernel) rfl, tw 831 (by decide +kernel) rfl, tw 124 (by decide +kernel) rfl, tw 832 (by decide +kernel) rfl, ⟨by decide +kernel, by decide +kernel, by decide +kernel⟩⟩
theorem dX6_fall_0 : decode cX6_fall 0 = .ok (.iconst 0, 1) := by decide +kernel
theorem dX6_fall_1 : decode cX6_fall 1 = .ok (.istore_n 1, 1) := by decide +kernel
theorem dX6_fall_2 : decode cX6_fall 2 = .ok (.iload_n 1, 1) := by decide +kernel
theorem dX6_fall_3 : decode cX6_fall 3 = .ok (.bipush 8, 2) := by decide +kernel
theorem dX6_fall_5 : decode cX6_fall 5 = .ok (.if_icmp .ge 99, 3) := by decide +kernel
theorem dX6_fall_8 : decode cX6_fall 8 = .ok (.iconst (-1), 1) := by decide +kernel
theorem dX6_fall_9 : decode cX6_fall 9 = .ok (.istore_n 2, 1) := by decide +kernel
theorem dX6_fall_10 : decode cX6_fall 10 = .ok (.iconst 0, 1) := by decide +kernel
theorem dX6_fall_11 : decode cX6_fall 11 = .ok (.istore_n 3, 1) := by decide +kernel
theorem dX6_fall_12 : decode cX6_fall 12 = .ok (.iload_n 3, 1) := by decide +kernel
theorem dX6_fall_13 : decode cX6_fall 13 = .ok (.aload_n 0, 1) := by decide +kernel
theorem dX6_fall_14 : decode cX6_fall 14 = .ok (.getfield 9, 3) := by decide +kernel
theorem dX6_fall_17 : decode cX6_fall 17 = .ok (.getfield 81, 3) := by decide +kernel
theorem dX6_fall_20 : decode cX6_fall 20 = .ok (.if_icmp .ge 50, 3) := by decide +kernel
theorem dX6_fall_23 : decode cX6_fall 23 = .ok (.iload_n 2, 1) := by decide +kernel
theorem dX6_fall_24 : decode cX6_fall 24 = .ok (.iconst (-1), 1) := by decide +kernel
theorem dX6_fall_25 : decode cX6_fall 25 = .ok (.if_icmp .ne 45, 3) := by decide +kernel
theorem dX6_fall_28 : decode cX6_fall 28 = .ok (.aload_n 0, 1) := by decide +kernel
theorem dX6_fall_29 : decode cX6_fall 29 = .ok (.getfield 37, 3) := by decide +kernel
theorem dX6_fall_32 : decode cX6_fall 32 = .ok (.iload_n 3, 1) := by decide +kernel
theorem dX6_fall_33 : decode cX6_fall 33 = .ok (.iushr, 1) := by decide +kernel
theorem dX6_fall_34 : decode cX6_fall 34 = .ok (.iconst 1, 1) := by decide +kernel
theorem dX6_fall_35 : decode cX6_fall 35 = .ok (.iand, 1) := by decide +kernel
theorem dX6_fall_36 : decode cX6_fall 36 = .ok (.ifCond .ne 28, 3) := by decide +kernel
theorem dX6_fall_39 : decode cX6_fall 39 = .ok (.aload_n 0, 1) := by decide +kernel
theorem dX6_fall_40 : decode cX6_fall 40 = .ok (.getfield 17, 3) := by decide +kernel
theorem dX6_fall_43 : decode cX6_fall 43 = .ok (.iload_n 3, 1) := by decide +kernel
theorem dX6_fall_44 : decode cX6_fall 44 = .ok (.iaload, 1) := by decide +kernel
theorem dX6_fall_45 : decode cX6_fall 45 = .ok (.ifCond .le 17, 3) := by decide +kernel
theorem dX6_fall_48 : decode cX6_fall 48 = .ok (.aload_n 0, 1) := by decide +kernel
theorem dX6_fall_49 : decode cX6_fall 49 = .ok (.getfield 17, 3) := by decide +kernel
theorem dX6_fall_52 : decode cX6_fall 52 = .ok (.iload_n 3, 1) := by decide +kernel
theorem dX6_fall_53 : decode cX6_fall 53 = .ok (.iaload, 1) := by decide +kernel
theorem dX6_fall_54 : decode cX6_fall 54 = .ok (.aload_n 0, 1) := by decide +kernel
theorem dX6_fall_55 : decode cX6_fall 55 = .ok (.iload_n 3, 1) := by decide +kernel
theorem dX6_fall_56 : decode cX6_fall 56 = .ok (.invokevirtual 87, 3) := by decide +kernel
theorem dX6_fall_59 : decode cX6_fall 59 = .ok (.if_icmp .ge 5, 3) := by decide +kernel
theorem dX6_fall_62 : decode cX6_fall 62 = .ok (.iload_n 3, 1) := by decide +kernel
theorem dX6_fall_63 : decode cX6_fall 63 = .ok (.istore_n 2, 1) := by decide +kernel
theorem dX6_fall_64 : decode cX6_fall 64 = .ok (.iinc 3 1, 3) := by decide +kernel
theorem dX6_fall_67 : decode cX6_fall 67 = .ok (.goto (-55), 3) := by decide +kernel
theorem dX6_fall_70 : decode cX6_fall 70 = .ok (.iload_n 2, 1) := by decide +kernel
theorem dX6_fall_71 : decode cX6_fall 71 = .ok (.iconst (-1), 1) := by decide +kernel
theorem dX6_fall_72 : decode cX6_fall 72 = .ok (.if_icmp .ne 4, 3) := by decide +kernel
theorem dX6_fall_75 : decode cX6_fall 75 = .ok (.return_, 1) := by decide +kernel
theorem dX6_fall_76 : decode cX6_fall 76 = .ok (.aload_n 0, 1) := by decide +kernel
theorem dX6_fall_77 : decode cX6_fall 77 = .ok (.dup, 1) := by decide +kernel
theorem dX6_fall_78 : decode cX6_fall 78 = .ok (.getfield 37, 3) := by decide +kernel
theorem dX6_fall_81 : decode cX6_fall 81 = .ok (.iconst 1, 1) := by decide +kernel
theorem dX6_fall_82 : decode cX6_fall 82 = .ok (.iload_n 2, 1) := by decide +kernel
theorem dX6_fall_83 : decode cX6_fall 83 = .ok (.ishl, 1) := by decide +kernel
theorem dX6_fall_84 : decode cX6_fall 84 = .ok (.aload_n 0, 1) := by decide +kernel
theorem dX6_fall_85 : decode cX6_fall 85 = .ok (.getfield 9, 3) := by decide +kernel
theorem dX6_fall_88 : decode cX6_fall 88 = .ok (.getfield 84, 3) := by decide +kernel
theorem dX6_fall_91 : decode cX6_fall 91 = .ok (.iload_n 2, 1) := by decide +kernel
theorem dX6_fall_92 : decode cX6_fall 92 = .ok (.iaload, 1) := by decide +kernel
theorem dX6_fall_93 : decode cX6_fall 93 = .ok (.ior, 1) := by decide +kernel
theorem dX6_fall_94 : decode cX6_fall 94 = .ok (.ior, 1) := by decide +kernel
theorem dX6_fall_95 : decode cX6_fall 95 = .ok (.putfield 37, 3) := by decide +kernel
theorem dX6_fall_98 : decode cX6_fall 98 = .ok (.iinc 1 1, 3) := by decide +kernel
theorem dX6_fall_101 : decode cX6_fall 101 = .ok (.goto (-99), 3) := by decide +kernel
theorem dX6_fall_104 : decode cX6_fall 104 = .ok (.return_, 1) := by decide +kernel
abbrev rmX6_fall : Room := { frames := 1, cells := 0, slots := 0, locals := 24 }
def bX6_fall_70 (k2 : Nat → Int32 → AH → Option AH) (a0 : Nat) (l1 : Int32) (l2 : Int32) (z : AH) : Option AH :=
  if l2 = (-1 : Int32) then (
    some z
  ) else (
    (gI 5 6 z a0).bind fun x78 =>
    (gN 5 0 z a0).bind fun b85 =>
    (gN 0 5 z b85).bind fun b88 =>
    (ixI 0 z b88 l2).bind fun x92 =>
    (pF 5 6 z a0 (.int (x78 ||| ((shl (1 : Int32) l2) ||| x92)))).bind fun z95 =>
    nm (l1 + (1 : Int32)) fun v98 =>
    k2 a0 v98 z95
  )
set_option maxHeartbeats 4000000 in
set_option maxRecDepth 100000 in
theorem kbX6_fall_70 {p : Program} {l : Launch} {e : Env} {s : State} {m : MethodId} {args : Array Value} {below : List Frame} {meth : Method} {c : Code} {G : GW} {z' : AH} (C : Cx p m c cX6_fall 4 s args RX6 G) (hlk : meth.locks = false) (hr : meth.sig.returnType = none) (k2 : Nat → Int32 → AH → Option AH) (hk2 : ∀ (a0 : Nat) (l1 : Int32) (z : AH) (H : Heap) (locs : List Loc) (ls : Array Slot), k2 a0 l1 z = some z' → Wb G z s H locs → lv_has ls 4 [(0, .ref (gB G + a0)), (1, .int l1)] → W p l e rmX6_fall s m args below meth c H locs 0 0 (MQ below (Qv G z') args s 0 0 (AA G)) (F0 m 2 ls [])) (a0 : Nat) (l1 : Int32) (l2 : Int32) {z : AH} {H : Heap} {locs : List Loc} {ls : Array Slot} (h : bX6_fall_70 k2 a0 l1 l2 z = some z') (hW : Wb G z s H locs) (hl : lv_has ls 4 [(0, .ref (gB G + a0)), (1, .int l1), (2, .int l2)]) : W p l e rmX6_fall s m args below meth c H locs 0 0 (MQ below (Qv G z') args s 0 0 (AA G)) (F0 m 70 ls []) := by
  have hx := C.1
  have hb := C.2.1
  unfold bX6_fall_70 at h
  refine lv_iload_n hx hb dX6_fall_70 rfl (lv_at hl 2 rfl) ?_
  refine lv_iconst (v := -1) hx hb dX6_fall_71 (by decide) ?_
  refine lv_icmp_ne (tgt := 76) hx hb dX6_fall_72 (by decide) (fun c72 => ?_) (fun c72 => ?_)
  · have h := ite_f c72 h
    refine lv_aload_n hx hb dX6_fall_76 rfl (lv_at hl 0 rfl) ?_
    refine lv_dup hx hb dX6_fall_77 rfl ?_
    obtain ⟨x78, hg, h⟩ := ob h
    refine wz_gI C hW flX6_37 hg dX6_fall_78 ?_
    refine lv_iconst (v := 1) hx hb dX6_fall_81 (by decide) ?_
    refine lv_iload_n hx hb dX6_fall_82 rfl (lv_at hl 2 rfl) ?_
    refine wz_shl hx hb dX6_fall_83 ?_
    refine lv_aload_n hx hb dX6_fall_84 rfl (lv_at hl 0 rfl) ?_
    obtain ⟨b85, hg, h⟩ := ob h
    refine wz_gN C hW flX6_9 hg dX6_fall_85 ?_
    obtain ⟨b88, hg, h⟩ := ob h
    refine wz_gN C hW flX6_84 hg dX6_fall_88 ?_
    refine lv_iload_n hx hb dX6_fall_91 rfl (lv_at hl 2 rfl) ?_
    obtain ⟨x92, hg, h⟩ := ob h
    refine wz_ald C hW hg dX6_fall_92 ?_
    refine lv_ior hx hb dX6_fall_93 ?_
    refine lv_ior hx hb dX6_fall_94 ?_
    obtain ⟨z95, hg, h⟩ := ob h
    refine wz_put (v := (.int (x78 ||| ((shl (1 : Int32) l2) ||| x92)))) C hW flX6_37 rfl rfl hg dX6_fall_95 (fun H locs hW => ?_)
    obtain ⟨v98, ev98⟩ : ∃ y : Int32, y = (l1 + (1 : Int32)) := ⟨_, rfl⟩
    have h := nm_to h ev98
    refine lv_iinc (v := v98) (lv' := [(1, .int v98), (0, .ref (gB G + a0)), (2, .int l2)]) hx hb dX6_fall_98 hl (k := 1) rfl (by rw [ev98]; rfl) (by decide) rfl (fun ls hl => ?_)
    refine lv_goto (tgt := 2) hx hb dX6_fall_101 (by decide) ?_
    exact hk2 a0 v98 z95 _ _ _ h hW (lv_sub hl [1, 0] rfl)
  · have h := ite_t c72 h
    exact wz_vretE C hlk hr (Option.some.inj h) hW dX6_fall_75
def bX6_fall_12 (k2 : Nat → Int32 → AH → Option AH) (k12 : Nat → Int32 → Int32 → Int32 → AH → Option AH) (a0 : Nat) (l1 : Int32) (l2 : Int32) (l3 : Int32) (z : AH) : Option AH :=
  (gN 5 0 z a0).bind fun b14 =>
  (gI 0 0 z b14).bind fun x17 =>
  if x17 ≤ l3 then (
    bX6_fall_70 k2 a0 l1 l2 z
  ) else (
    if l2 = (-1 : Int32) then (
      (gI 5 6 z a0).bind fun x29 =>
      if ((ush x29 l3) &&& (1 : Int32)) = (0 : Int32) then (
        (gN 5 1 z a0).bind fun b40 =>
        (ixI 0 z b40 l3).bind fun x44 =>
        if x44 ≤ (0 : Int32) then (
          nm (l3 + (1 : Int32)) fun v64 =>
          k12 a0 l1 l3 v64 z
        ) else (
          (gN 5 1 z a0).bind fun b49 =>
          (ixI 0 z b49 l3).bind fun x53 =>
          (fX6_bears a0 l3 z).bind fun x56 =>
          if x56 ≤ x53 then (
            nm (l3 + (1 : Int32)) fun v64 =>
            k12 a0 l1 l2 v64 z
          ) else (
            nm (l3 + (1 : Int32)) fun v64 =>
            k12 a0 l1 l3 v64 z
          )
        )
      ) else (
        nm (l3 + (1 : Int32)) fun v64 =>
        k12 a0 l1 l2 v64 z
      )
    ) else (
      bX6_fall_70 k2 a0 l1 l2 z
    )
  )
set_option maxHeartbeats 4000000 in
set_option maxRecDepth 100000 in
theorem kbX6_fall_12 {p : Program} {l : Launch} {e : Env} {s : State} {m : MethodId} {args : Array Value} {below : List Frame} {meth : Method} {c : Code} {G : GW} {z' : AH} (C : Cx p m c cX6_fall 4 s args RX6 G) (hlk : meth.locks = false) (hr : meth.sig.returnType = none) (k2 : Nat → Int32 → AH → Option AH) (k12 : Nat → Int32 → Int32 → Int32 → AH → Option AH) (hk2 : ∀ (a0 : Nat) (l1 : Int32) (z : AH) (H : Heap) (locs : List Loc) (ls : Array Slot), k2 a0 l1 z = some z' → Wb G z s H locs → lv_has ls 4 [(0, .ref (gB G + a0)), (1, .int l1)] → W p l e rmX6_fall s m args below meth c H locs 0 0 (MQ below (Qv G z') args s 0 0 (AA G)) (F0 m 2 ls [])) (hk12 : ∀ (a0 : Nat) (l1 : Int32) (l2 : Int32) (l3 : Int32) (z : AH) (H : Heap) (locs : List Loc) (ls : Array Slot), k12 a0 l1 l2 l3 z = some z' → Wb G z s H locs → lv_has ls 4 [(0, .ref (gB G + a0)), (1, .int l1), (2, .int l2), (3, .int l3)] → W p l e rmX6_fall s m args below meth c H locs 0 0 (MQ below (Qv G z') args s 0 0 (AA G)) (F0 m 12 ls [])) (a0 : Nat) (l1 : Int32) (l2 : Int32) (l3 : Int32) {z : AH} {H : Heap} {locs : List Loc} {ls : Array Slot} (h : bX6_fall_12 k2 k12 a0 l1 l2 l3 z = some z') (hW : Wb G z s H locs) (hl : lv_has ls 4 [(0, .ref (gB G + a0)), (1, .int l1), (2, .int l2), (3, .int l3)]) : W p l e rmX6_fall s m args below meth c H locs 0 0 (MQ below (Qv G z') args s 0 0 (AA G)) (F0 m 12 ls []) := by
  have hx := C.1
  have hb := C.2.1
  unfold bX6_fall_12 at h
  refine lv_iload_n hx hb dX6_fall_12 rfl (lv_at hl 3 rfl) ?_
  refine lv_aload_n hx hb dX6_fall_13 rfl (lv_at hl 0 rfl) ?_
  obtain ⟨b14, hg, h⟩ := ob h
  refine wz_gN C hW flX6_9 hg dX6_fall_14 ?_
  obtain ⟨x17, hg, h⟩ := ob h
  refine wz_gI C hW flX6_81 hg dX6_fall_17 ?_
  refine lv_icmp_ge (tgt := 70) hx hb dX6_fall_20 (by decide) (fun c20 => ?_) (fun c20 => ?_)
  · have h := ite_t c20 h
    exact kbX6_fall_70 C hlk hr k2 hk2 a0 l1 l2 h hW (lv_sub hl [0, 1, 2] rfl)
  · have h := ite_f c20 h
    refine lv_iload_n hx hb dX6_fall_23 rfl (lv_at hl 2 rfl) ?_
    refine lv_iconst (v := -1) hx hb dX6_fall_24 (by decide) ?_
    refine lv_icmp_ne (tgt := 70) hx hb dX6_fall_25 (by decide) (fun c25 => ?_) (fun c25 => ?_)
    · have h := ite_f c25 h
      exact kbX6_fall_70 C hlk hr k2 hk2 a0 l1 l2 h hW (lv_sub hl [0, 1, 2] rfl)
    · have h := ite_t c25 h
      refine lv_aload_n hx hb dX6_fall_28 rfl (lv_at hl 0 rfl) ?_
      obtain ⟨x29, hg, h⟩ := ob h
      refine wz_gI C hW flX6_37 hg dX6_fall_29 ?_
      refine lv_iload_n hx hb dX6_fall_32 rfl (lv_at hl 3 rfl) ?_
      refine wz_ush hx hb dX6_fall_33 ?_
      refine lv_iconst (v := 1) hx hb dX6_fall_34 (by decide) ?_
      refine lv_iand hx hb dX6_fall_35 ?_
      refine lv_if_ne (tgt := 64) hx hb dX6_fall_36 (by decide) (fun c36 => ?_) (fun c36 => ?_)
      · have h := ite_f c36 h
        obtain ⟨v64, ev64⟩ : ∃ y : Int32, y = (l3 + (1 : Int32)) := ⟨_, rfl⟩
        have h := nm_to h ev64
        refine lv_iinc (v := v64) (lv' := [(3, .int v64), (0, .ref (gB G + a0)), (1, .int l1), (2, .int l2)]) hx hb dX6_fall_64 hl (k := 3) rfl (by rw [ev64]; rfl) (by decide) rfl (fun ls hl => ?_)
        refine lv_goto (tgt := 12) hx hb dX6_fall_67 (by decide) ?_
        exact hk12 a0 l1 l2 v64 z _ _ _ h hW (lv_sub hl [1, 2, 3, 0] rfl)
      · have h := ite_t c36 h
        refine lv_aload_n hx hb dX6_fall_39 rfl (lv_at hl 0 rfl) ?_
        obtain ⟨b40, hg, h⟩ := ob h
        refine wz_gN C hW flX6_17 hg dX6_fall_40 ?_
        refine lv_iload_n hx hb dX6_fall_43 rfl (lv_at hl 3 rfl) ?_
        obtain ⟨x44, hg, h⟩ := ob h
        refine wz_ald C hW hg dX6_fall_44 ?_
        refine lv_if_le (tgt := 62) hx hb dX6_fall_45 (by decide) (fun c45 => ?_) (fun c45 => ?_)
        · have h := ite_t c45 h
          refine lv_iload_n hx hb dX6_fall_62 rfl (lv_at hl 3 rfl) ?_
          refine lv_istore_n (lv' := [(2, .int l3), (0, .ref (gB G + a0)), (1, .int l1), (3, .int l3)]) hx hb dX6_fall_63 rfl hl (by decide) rfl (fun ls hl => ?_)
          obtain ⟨v64, ev64⟩ : ∃ y : Int32, y = (l3 + (1 : Int32)) := ⟨_, rfl⟩
          have h := nm_to h ev64
          refine lv_iinc (v := v64) (lv' := [(3, .int v64), (2, .int l3), (0, .ref (gB G + a0)), (1, .int l1)]) hx hb dX6_fall_64 hl (k := 3) rfl (by rw [ev64]; rfl) (by decide) rfl (fun ls hl => ?_)
          refine lv_goto (tgt := 12) hx hb dX6_fall_67 (by decide) ?_
          exact hk12 a0 l1 l3 v64 z _ _ _ h hW (lv_sub hl [2, 3, 1, 0] rfl)
        · have h := ite_f c45 h
          refine lv_aload_n hx hb dX6_fall_48 rfl (lv_at hl 0 rfl) ?_
          obtain ⟨b49, hg, h⟩ := ob h
          refine wz_gN C hW flX6_17 hg dX6_fall_49 ?_
          refine lv_iload_n hx hb dX6_fall_52 rfl (lv_at hl 3 rfl) ?_
          obtain ⟨x53, hg, h⟩ := ob h
          refine wz_ald C hW hg dX6_fall_53 ?_
          refine lv_aload_n hx hb dX6_fall_54 rfl (lv_at hl 0 rfl) ?_
          refine lv_iload_n hx hb dX6_fall_55 rfl (lv_at hl 3 rfl) ?_
          obtain ⟨x56, hq, h⟩ := ob h
          refine wz_rI (c' := 0) (s' := 0) hW (wz_runV (rest := [.int x53]) C hW lVX6_87 (ck hq).1 rfl (ctX6_bears l G a0 l3 z hq) ⟨⟨rfl, rfl⟩, Nat.le_of_ble_eq_true rfl, Nat.le_of_ble_eq_true rfl⟩ rfl hl.1 rfl (Nat.le_of_ble_eq_true rfl) dX6_fall_56 ⟨Nat.le_of_ble_eq_true rfl, Nat.le_of_ble_eq_true rfl⟩) rfl rfl (fun H locs hW => ?_)
          refine lv_icmp_ge (tgt := 64) hx hb dX6_fall_59 (by decide) (fun c59 => ?_) (fun c59 => ?_)
          · have h := ite_t c59 h
            obtain ⟨v64, ev64⟩ : ∃ y : Int32, y = (l3 + (1 : Int32)) := ⟨_, rfl⟩
            have h := nm_to h ev64
            refine lv_iinc (v := v64) (lv' := [(3, .int v64), (0, .ref (gB G + a0)), (1, .int l1), (2, .int l2)]) hx hb dX6_fall_64 hl (k := 3) rfl (by rw [ev64]; rfl) (by decide) rfl (fun ls hl => ?_)
            refine lv_goto (tgt := 12) hx hb dX6_fall_67 (by decide) ?_
            exact hk12 a0 l1 l2 v64 z _ _ _ h hW (lv_sub hl [1, 2, 3, 0] rfl)
          · have h := ite_f c59 h
            refine lv_iload_n hx hb dX6_fall_62 rfl (lv_at hl 3 rfl) ?_
            refine lv_istore_n (lv' := [(2, .int l3), (0, .ref (gB G + a0)), (1, .int l1), (3, .int l3)]) hx hb dX6_fall_63 rfl hl (by decide) rfl (fun ls hl => ?_)
            obtain ⟨v64, ev64⟩ : ∃ y : Int32, y = (l3 + (1 : Int32)) := ⟨_, rfl⟩
            have h := nm_to h ev64
            refine lv_iinc (v := v64) (lv' := [(3, .int v64), (2, .int l3), (0, .ref (gB G + a0)), (1, .int l1)]) hx hb dX6_fall_64 hl (k := 3) rfl (by rw [ev64]; rfl) (by decide) rfl (fun ls hl => ?_)
            refine lv_goto (tgt := 12) hx hb dX6_fall_67 (by decide) ?_
            exact hk12 a0 l1 l3 v64 z _ _ _ h hW (lv_sub hl [2, 3, 1, 0] rfl)
def fX6_fall_12 (k2 : Nat → Int32 → AH → Option AH) : Nat → Nat → Int32 → Int32 → Int32 → AH → Option AH
  | 0, _, _, _, _, _ => none
  | n + 1, a0, l1, l2, l3, z => bX6_fall_12 k2 (fX6_fall_12 k2 n) a0 l1 l2 l3 z
theorem klX6_fall_12 {p : Program} {l : Launch} {e : Env} {s : State} {m : MethodId} {args : Array Value} {below : List Frame} {meth : Method} {c : Code} {G : GW} {z' : AH} (C : Cx p m c cX6_fall 4 s args RX6 G) (hlk : meth.locks = false) (hr : meth.sig.returnType = none) (k2 : Nat → Int32 → AH → Option AH) (hk2 : ∀ (a0 : Nat) (l1 : Int32) (z : AH) (H : Heap) (locs : List Loc) (ls : Array Slot), k2 a0 l1 z = some z' → Wb G z s H locs → lv_has ls 4 [(0, .ref (gB G + a0)), (1, .int l1)] → W p l e rmX6_fall s m args below meth c H locs 0 0 (MQ below (Qv G z') args s 0 0 (AA G)) (F0 m 2 ls [])) : ∀ (n : Nat) (a0 : Nat) (l1 : Int32) (l2 : Int32) (l3 : Int32) (z : AH) (H : Heap) (locs : List Loc) (ls : Array Slot), fX6_fall_12 k2 n a0 l1 l2 l3 z = some z' → Wb G z s H locs → lv_has ls 4 [(0, .ref (gB G + a0)), (1, .int l1), (2, .int l2), (3, .int l3)] → W p l e rmX6_fall s m args below meth c H locs 0 0 (MQ below (Qv G z') args s 0 0 (AA G)) (F0 m 12 ls []) := by
  intro n
  induction n with
  | zero => intro a0 l1 l2 l3 z H locs ls h; have h : (none : Option AH) = some z' := h; cases h
  | succ n ih => intro a0 l1 l2 l3 z H locs ls h hW hl; exact kbX6_fall_12 C hlk hr k2 (fX6_fall_12 k2 n) hk2 (fun a0 l1 l2 l3 z H locs ls h hW hl => ih a0 l1 l2 l3 z H locs ls h hW hl) a0 l1 l2 l3 h hW hl
def bX6_fall_2 (k2 : Nat → Int32 → AH → Option AH) (a0 : Nat) (l1 : Int32) (z : AH) : Option AH :=
  if (8 : Int32) ≤ l1 then (
    some z
  ) else (
    fX6_fall_12 k2 FU a0 l1 (-1 : Int32) (0 : Int32) z
  )
set_option maxHeartbeats 4000000 in
set_option maxRecDepth 100000 in
theorem kbX6_fall_2 {p : Program} {l : Launch} {e : Env} {s : State} {m : MethodId} {args : Array Value} {below : List Frame} {meth : Method} {c : Code} {G : GW} {z' : AH} (C : Cx p m c cX6_fall 4 s args RX6 G) (hlk : meth.locks = false) (hr : meth.sig.returnType = none) (k2 : Nat → Int32 → AH → Option AH) (hk2 : ∀ (a0 : Nat) (l1 : Int32) (z : AH) (H : Heap) (locs : List Loc) (ls : Array Slot), k2 a0 l1 z = some z' → Wb G z s H locs → lv_has ls 4 [(0, .ref (gB G + a0)), (1, .int l1)] → W p l e rmX6_fall s m args below meth c H locs 0 0 (MQ below (Qv G z') args s 0 0 (AA G)) (F0 m 2 ls [])) (a0 : Nat) (l1 : Int32) {z : AH} {H : Heap} {locs : List Loc} {ls : Array Slot} (h : bX6_fall_2 k2 a0 l1 z = some z') (hW : Wb G z s H locs) (hl : lv_has ls 4 [(0, .ref (gB G + a0)), (1, .int l1)]) : W p l e rmX6_fall s m args below meth c H locs 0 0 (MQ below (Qv G z') args s 0 0 (AA G)) (F0 m 2 ls []) := by
  have hx := C.1
  have hb := C.2.1
  unfold bX6_fall_2 at h
  refine lv_iload_n hx hb dX6_fall_2 rfl (lv_at hl 1 rfl) ?_
  refine lv_bipush (v := 8) hx hb dX6_fall_3 (by decide) ?_
  refine lv_icmp_ge (tgt := 104) hx hb dX6_fall_5 (by decide) (fun c5 => ?_) (fun c5 => ?_)
  · have h := ite_t c5 h
    exact wz_vretE C hlk hr (Option.some.inj h) hW dX6_fall_104
  · have h := ite_f c5 h
    refine lv_iconst (v := -1) hx hb dX6_fall_8 (by decide) ?_
    refine lv_istore_n (lv' := [(2, .int (-1 : Int32)), (0, .ref (gB G + a0)), (1, .int l1)]) hx hb dX6_fall_9 rfl hl (by decide) rfl (fun ls hl => ?_)
    refine lv_iconst (v := 0) hx hb dX6_fall_10 (by decide) ?_
    refine lv_istore_n (lv' := [(3, .int (0 : Int32)), (2, .int (-1 : Int32)), (0, .ref (gB G + a0)), (1, .int l1)]) hx hb dX6_fall_11 rfl hl (by decide) rfl (fun ls hl => ?_)
    exact klX6_fall_12 C hlk hr k2 hk2 FU a0 l1 (-1 : Int32) (0 : Int32) z _ _ _ h hW (lv_sub hl [2, 3, 1, 0] rfl)
def fX6_fall_2 : Nat → Nat → Int32 → AH → Option AH
  | 0, _, _, _ => none
  | n + 1, a0, l1, z => bX6_fall_2 (fX6_fall_2 n) a0 l1 z
theorem klX6_fall_2 {p : Program} {l : Launch} {e : Env} {s : State} {m : MethodId} {args : Array Value} {below : List Frame} {meth : Method} {c : Code} {G : GW} {z' : AH} (C : Cx p m c cX6_fall 4 s args RX6 G) (hlk : meth.locks = false) (hr : meth.sig.returnType = none) : ∀ (n : Nat) (a0 : Nat) (l1 : Int32) (z : AH) (H : Heap) (locs : List Loc) (ls : Array Slot), fX6_fall_2 n a0 l1 z = some z' → Wb G z s H locs → lv_has ls 4 [(0, .ref (gB G + a0)), (1, .int l1)] → W p l e rmX6_fall s m args below meth c H locs 0 0 (MQ below (Qv G z') args s 0 0 (AA G)) (F0 m 2 ls []) := by
  intro n
  induction n with
  | zero => intro a0 l1 z H locs ls h; have h : (none : Option AH) = some z' := h; cases h
  | succ n ih => intro a0 l1 z H locs ls h hW hl; exact kbX6_fall_2 C hlk hr (fX6_fall_2 n) (fun a0 l1 z H locs ls h hW hl => ih a0 l1 z H locs ls h hW hl) a0 l1 h hW hl
def fX6_fall (a0 : Nat) (z : AH) : Option AH :=
  if isO 5 z a0 = true then
    fX6_fall_2 FU a0 (0 : Int32) z
  else none
set_option maxHeartbeats 4000000 in
set_option maxRecDepth 100000 in
theorem ctX6_fall (l : Launch) (G : GW) (a0 : Nat) (z : AH) {z' : AH} (h : fX6_fall a0 z = some z') : Met l yX6_fall (wy yX6_fall cX6_fall 4 none) rmX6_fall (Pz G [.ref (gB G + a0)] z) (Qv G z') 0 0 (AA G) := by
  refine wz_ent (own := RX6) (by decide +kernel) rfl (fun p e s m below meth c ls C hlk hr hin hW hl => ?_) (Nat.le_of_ble_eq_true rfl)
  have hl : lv_has ls 4 [(0, .ref (gB G + a0))] := hl
  have hx := C.1
  have hb := C.2.1
  unfold fX6_fall at h
  obtain ⟨-, h⟩ := ck h
  refine lv_iconst (v := 0) hx hb dX6_fall_0 (by decide) ?_
  refine lv_istore_n (lv' := [(1, .int (0 : Int32)), (0, .ref (gB G + a0))]) hx hb dX6_fall_1 rfl hl (by decide) rfl (fun ls hl => ?_)
  exact klX6_fall_2 C hlk hr FU a0 (0 : Int32) z _ _ _ h hW (lv_sub hl [1, 0] rfl)
theorem lVX6_30 : LV RX6 30 yX6_load cX6_load 3 none 1 := ⟨tw 818 (by decide +kernel) rfl, tw 820 (by decide +kernel) rfl, tw 17 (by decide +kernel) rfl, tw 124 (by decide +kernel) rfl, tw 821 (by decide +kernel) rfl, ⟨by decide +kernel, by decide +kernel, by decide +kernel⟩⟩
theorem lVX6_34 : LV RX6 34 yX6_fall cX6_fall 4 none 0 := ⟨tw 825 (by decide +kernel) rfl, tw 827 (by decide +kernel) rfl, tw 18 (by decide +kernel) rfl, tw 124 (by decide +kernel) rfl, tw 828 (by decide +kernel) rfl, ⟨by decide +kernel, by decide +kernel, by decide +kernel⟩⟩
theorem dX6_begin_0 : decode cX6_begin 0 = .ok (.aload_n 0, 1) := by decide +kernel
theorem dX6_begin_1 : decode cX6_begin 1 = .ok (.aload_n 1, 1) := by decide +kernel
theorem dX6_begin_2 : decode cX6_begin 2 = .ok (.invokevirtual 30, 3) := by decide +kernel
theorem dX6_begin_5 : decode cX6_begin 5 = .ok (.aload_n 0, 1) := by decide +kernel
theorem dX6_begin_6 : decode cX6_begin 6 = .ok (.invokevirtual 34, 3) := by decide +kernel
theorem dX6_begin_9 : decode cX6_begin 9 = .ok (.aload_n 0, 1) := by decide +kernel
theorem dX6_begin_10 : decode cX6_begin 10 = .ok (.aload_n 0, 1) := by decide +kernel
theorem dX6_begin_11 : decode cX6_begin 11 = .ok (.getfield 37, 3) := by decide +kernel
theorem dX6_begin_14 : decode cX6_begin 14 = .ok (.putfield 41, 3) := by decide +kernel
theorem dX6_begin_17 : decode cX6_begin 17 = .ok (.return_, 1) := by decide +kernel
abbrev rmX6_begin : Room := { frames := 2, cells := 0, slots := 0, locals := 102 }
def fX6_begin (a0 : Nat) (a1 : Nat) (z : AH) : Option AH :=
  if isO 5 z a0 = true then
    (fX6_load a0 a1 z).bind fun z2 =>
    (fX6_fall a0 z2).bind fun z6 =>
    (gI 5 6 z6 a0).bind fun x11 =>
    (pF 5 7 z6 a0 (.int x11)).bind fun z14 =>
    some z14
  else none
set_option maxHeartbeats 4000000 in
set_option maxRecDepth 100000 in
theorem ctX6_begin (l : Launch) (G : GW) (a0 : Nat) (a1 : Nat) (z : AH) {z' : AH} (h : fX6_begin a0 a1 z = some z') : Met l yX6_begin (wy yX6_begin cX6_begin 2 none) rmX6_begin (Pz G [.ref (gB G + a0), .ref (gB G + a1)] z) (Qv G z') 0 0 (AA G) := by
  refine wz_ent (own := RX6) (by decide +kernel) rfl (fun p e s m below meth c ls C hlk hr hin hW hl => ?_) (Nat.le_of_ble_eq_true rfl)
  have hl : lv_has ls 2 [(0, .ref (gB G + a0)), (1, .ref (gB G + a1))] := hl
  have hx := C.1
  have hb := C.2.1
  unfold fX6_begin at h
  obtain ⟨-, h⟩ := ck h
  refine lv_aload_n hx hb dX6_begin_0 rfl (lv_at hl 0 rfl) ?_
  refine lv_aload_n hx hb dX6_begin_1 rfl (lv_at hl 1 rfl) ?_
  obtain ⟨z2, hq, h⟩ := ob h
  refine wz_rV (c' := 0) (s' := 0) hW (wz_runV (rest := []) C hW lVX6_30 (ck hq).1 rfl (ctX6_load l G a0 a1 z hq) ⟨⟨rfl, rfl⟩, Nat.le_of_ble_eq_true rfl, Nat.le_of_ble_eq_true rfl⟩ rfl hl.1 rfl (Nat.le_of_ble_eq_true rfl) dX6_begin_2 ⟨Nat.le_of_ble_eq_true rfl, Nat.le_of_ble_eq_true rfl⟩) rfl rfl (fun H locs hW => ?_)
  refine lv_aload_n hx hb dX6_begin_5 rfl (lv_at hl 0 rfl) ?_
  obtain ⟨z6, hq, h⟩ := ob h
  refine wz_rV (c' := 0) (s' := 0) hW (wz_runV (rest := []) C hW lVX6_34 (ck hq).1 rfl (ctX6_fall l G a0 z2 hq) ⟨⟨rfl, rfl⟩, Nat.le_of_ble_eq_true rfl, Nat.le_of_ble_eq_true rfl⟩ rfl hl.1 rfl (Nat.le_of_ble_eq_true rfl) dX6_begin_6 ⟨Nat.le_of_ble_eq_true rfl, Nat.le_of_ble_eq_true rfl⟩) rfl rfl (fun H locs hW => ?_)
  refine lv_aload_n hx hb dX6_begin_9 rfl (lv_at hl 0 rfl) ?_
  refine lv_aload_n hx hb dX6_begin_10 rfl (lv_at hl 0 rfl) ?_
  obtain ⟨x11, hg, h⟩ := ob h
  refine wz_gI C hW flX6_37 hg dX6_begin_11 ?_
  obtain ⟨z14, hg, h⟩ := ob h
  refine wz_put (v := (.int x11)) C hW flX6_41 rfl rfl hg dX6_begin_14 (fun H locs hW => ?_)
  exact wz_vretE C hlk hr (Option.some.inj h) hW dX6_begin_17
theorem dX6_copy_0 : decode cX6_copy 0 = .ok (.aload_n 0, 1) := by decide +kernel
theorem dX6_copy_1 : decode cX6_copy 1 = .ok (.aload_n 1, 1) := by decide +kernel
theorem dX6_copy_2 : decode cX6_copy 2 = .ok (.getfield 9, 3) := by decide +kernel
theorem dX6_copy_5 : decode cX6_copy 5 = .ok (.putfield 9, 3) := by decide +kernel
theorem dX6_copy_8 : decode cX6_copy 8 = .ok (.aload_n 1, 1) := by decide +kernel
theorem dX6_copy_9 : decode cX6_copy 9 = .ok (.getfield 17, 3) := by decide +kernel
theorem dX6_copy_12 : decode cX6_copy 12 = .ok (.iconst 0, 1) := by decide +kernel
theorem dX6_copy_13 : decode cX6_copy 13 = .ok (.aload_n 0, 1) := by decide +kernel
theorem dX6_copy_14 : decode cX6_copy 14 = .ok (.getfield 17, 3) := by decide +kernel
theorem dX6_copy_17 : decode cX6_copy 17 = .ok (.iconst 0, 1) := by decide +kernel
theorem dX6_copy_18 : decode cX6_copy 18 = .ok (.bipush 8, 2) := by decide +kernel
theorem dX6_copy_20 : decode cX6_copy 20 = .ok (.invokestatic 45, 3) := by decide +kernel
theorem dX6_copy_23 : decode cX6_copy 23 = .ok (.aload_n 1, 1) := by decide +kernel
theorem dX6_copy_24 : decode cX6_copy 24 = .ok (.getfield 21, 3) := by decide +kernel
theorem dX6_copy_27 : decode cX6_copy 27 = .ok (.iconst 0, 1) := by decide +kernel
theorem dX6_copy_28 : decode cX6_copy 28 = .ok (.aload_n 0, 1) := by decide +kernel
theorem dX6_copy_29 : decode cX6_copy 29 = .ok (.getfield 21, 3) := by decide +kernel
theorem dX6_copy_32 : decode cX6_copy 32 = .ok (.iconst 0, 1) := by decide +kernel
theorem dX6_copy_33 : decode cX6_copy 33 = .ok (.bipush 8, 2) := by decide +kernel
theorem dX6_copy_35 : decode cX6_copy 35 = .ok (.invokestatic 45, 3) := by decide +kernel
theorem dX6_copy_38 : decode cX6_copy 38 = .ok (.aload_n 0, 1) := by decide +kernel
theorem dX6_copy_39 : decode cX6_copy 39 = .ok (.aload_n 1, 1) := by decide +kernel
theorem dX6_copy_40 : decode cX6_copy 40 = .ok (.getfield 52, 3) := by decide +kernel
theorem dX6_copy_43 : decode cX6_copy 43 = .ok (.putfield 52, 3) := by decide +kernel
theorem dX6_copy_46 : decode cX6_copy 46 = .ok (.aload_n 0, 1) := by decide +kernel
theorem dX6_copy_47 : decode cX6_copy 47 = .ok (.aload_n 1, 1) := by decide +kernel
theorem dX6_copy_48 : decode cX6_copy 48 = .ok (.getfield 37, 3) := by decide +kernel
theorem dX6_copy_51 : decode cX6_copy 51 = .ok (.putfield 37, 3) := by decide +kernel
theorem dX6_copy_54 : decode cX6_copy 54 = .ok (.aload_n 0, 1) := by decide +kernel
theorem dX6_copy_55 : decode cX6_copy 55 = .ok (.aload_n 1, 1) := by decide +kernel
theorem dX6_copy_56 : decode cX6_copy 56 = .ok (.getfield 55, 3) := by decide +kernel
theorem dX6_copy_59 : decode cX6_copy 59 = .ok (.putfield 55, 3) := by decide +kernel
theorem dX6_copy_62 : decode cX6_copy 62 = .ok (.aload_n 0, 1) := by decide +kernel
theorem dX6_copy_63 : decode cX6_copy 63 = .ok (.aload_n 1, 1) := by decide +kernel
theorem dX6_copy_64 : decode cX6_copy 64 = .ok (.getfield 61, 3) := by decide +kernel
theorem dX6_copy_67 : decode cX6_copy 67 = .ok (.putfield 61, 3) := by decide +kernel
theorem dX6_copy_70 : decode cX6_copy 70 = .ok (.aload_n 0, 1) := by decide +kernel
theorem dX6_copy_71 : decode cX6_copy 71 = .ok (.aload_n 1, 1) := by decide +kernel
theorem dX6_copy_72 : decode cX6_copy 72 = .ok (.getfield 64, 3) := by decide +kernel
theorem dX6_copy_75 : decode cX6_copy 75 = .ok (.putfield 64, 3) := by decide +kernel
theorem dX6_copy_78 : decode cX6_copy 78 = .ok (.return_, 1) := by decide +kernel
abbrev rmX6_copy : Room := { frames := 1, cells := 0, slots := 0, locals := 80 }
def fX6_copy (a0 : Nat) (a1 : Nat) (z : AH) : Option AH :=
  if isO 5 z a0 = true then
    (gN 5 0 z a1).bind fun b2 =>
    (pF 5 0 z a0 (.ref b2)).bind fun z5 =>
    (gN 5 1 z5 a1).bind fun b9 =>
    (gN 5 1 z5 a0).bind fun b14 =>
    (cpI 0 z5 b9 (0 : Int32) b14 (0 : Int32) (8 : Int32)).bind fun z20 =>
    (gN 5 2 z20 a1).bind fun b24 =>
    (gN 5 2 z20 a0).bind fun b29 =>
    (cpI 0 z20 b24 (0 : Int32) b29 (0 : Int32) (8 : Int32)).bind fun z35 =>
    (gI 5 5 z35 a1).bind fun x40 =>
    (pF 5 5 z35 a0 (.int x40)).bind fun z43 =>
    (gI 5 6 z43 a1).bind fun x48 =>
    (pF 5 6 z43 a0 (.int x48)).bind fun z51 =>
    (gI 5 8 z51 a1).bind fun x56 =>
    (pF 5 8 z51 a0 (.int x56)).bind fun z59 =>
    (gI 5 10 z59 a1).bind fun x64 =>
    (pF 5 10 z59 a0 (.int x64)).bind fun z67 =>
    (gI 5 11 z67 a1).bind fun x72 =>
    (pF 5 11 z67 a0 (.int x72)).bind fun z75 =>
    some z75
  else none
set_option maxHeartbeats 4000000 in
set_option maxRecDepth 100000 in
theorem ctX6_copy (l : Launch) (G : GW) (a0 : Nat) (a1 : Nat) (z : AH) {z' : AH} (h : fX6_copy a0 a1 z = some z') : Met l yX6_copy (wy yX6_copy cX6_copy 2 none) rmX6_copy (Pz G [.ref (gB G + a0), .ref (gB G + a1)] z) (Qv G z') 0 0 (AA G) := by
  refine wz_ent (own := RX6) (by decide +kernel) rfl (fun p e s m below meth c ls C hlk hr hin hW hl => ?_) (Nat.le_of_ble_eq_true rfl)
  have hl : lv_has ls 2 [(0, .ref (gB G + a0)), (1, .ref (gB G + a1))] := hl
  have hx := C.1
  have hb := C.2.1
  unfold fX6_copy at h
  obtain ⟨-, h⟩ := ck h
  refine lv_aload_n hx hb dX6_copy_0 rfl (lv_at hl 0 rfl) ?_
  refine lv_aload_n hx hb dX6_copy_1 rfl (lv_at hl 1 rfl) ?_
  obtain ⟨b2, hg, h⟩ := ob h
  refine wz_gN C hW flX6_9 hg dX6_copy_2 ?_
  obtain ⟨z5, hg, h⟩ := ob h
  refine wz_put (v := (.ref b2)) C hW flX6_9 rfl rfl hg dX6_copy_5 (fun H locs hW => ?_)
  refine lv_aload_n hx hb dX6_copy_8 rfl (lv_at hl 1 rfl) ?_
  obtain ⟨b9, hg, h⟩ := ob h
  refine wz_gN C hW flX6_17 hg dX6_copy_9 ?_
  refine lv_iconst (v := 0) hx hb dX6_copy_12 (by decide) ?_
  refine lv_aload_n hx hb dX6_copy_13 rfl (lv_at hl 0 rfl) ?_
  obtain ⟨b14, hg, h⟩ := ob h
  refine wz_gN C hW flX6_17 hg dX6_copy_14 ?_
  refine lv_iconst (v := 0) hx hb dX6_copy_17 (by decide) ?_
  refine lv_bipush (v := 8) hx hb dX6_copy_18 (by decide) ?_
  obtain ⟨z20, hg, h⟩ := ob h
  refine wz_cpy (Or.inl rfl) ⟨tw 822 (by decide +kernel) rfl, tw 824 (by decide +kernel) rfl, tw 823 (by decide +kernel) rfl, tw 135 (by decide +kernel) rfl⟩ C hl.1 hW hg ⟨Nat.le_of_ble_eq_true rfl, Nat.le_of_ble_eq_true (by decide +kernel)⟩ dX6_copy_20 (fun H locs hW => ?_)
  refine lv_aload_n hx hb dX6_copy_23 rfl (lv_at hl 1 rfl) ?_
  obtain ⟨b24, hg, h⟩ := ob h
  refine wz_gN C hW flX6_21 hg dX6_copy_24 ?_
  refine lv_iconst (v := 0) hx hb dX6_copy_27 (by decide) ?_
  refine lv_aload_n hx hb dX6_copy_28 rfl (lv_at hl 0 rfl) ?_
  obtain ⟨b29, hg, h⟩ := ob h
  refine wz_gN C hW flX6_21 hg dX6_copy_29 ?_
  refine lv_iconst (v := 0) hx hb dX6_copy_32 (by decide) ?_
  refine lv_bipush (v := 8) hx hb dX6_copy_33 (by decide) ?_
  obtain ⟨z35, hg, h⟩ := ob h
  refine wz_cpy (Or.inl rfl) ⟨tw 822 (by decide +kernel) rfl, tw 824 (by decide +kernel) rfl, tw 823 (by decide +kernel) rfl, tw 135 (by decide +kernel) rfl⟩ C hl.1 hW hg ⟨Nat.le_of_ble_eq_true rfl, Nat.le_of_ble_eq_true (by decide +kernel)⟩ dX6_copy_35 (fun H locs hW => ?_)
  refine lv_aload_n hx hb dX6_copy_38 rfl (lv_at hl 0 rfl) ?_
  refine lv_aload_n hx hb dX6_copy_39 rfl (lv_at hl 1 rfl) ?_
  obtain ⟨x40, hg, h⟩ := ob h
  refine wz_gI C hW flX6_52 hg dX6_copy_40 ?_
  obtain ⟨z43, hg, h⟩ := ob h
  refine wz_put (v := (.int x40)) C hW flX6_52 rfl rfl hg dX6_copy_43 (fun H locs hW => ?_)
  refine lv_aload_n hx hb dX6_copy_46 rfl (lv_at hl 0 rfl) ?_
  refine lv_aload_n hx hb dX6_copy_47 rfl (lv_at hl 1 rfl) ?_
  obtain ⟨x48, hg, h⟩ := ob h
  refine wz_gI C hW flX6_37 hg dX6_copy_48 ?_
  obtain ⟨z51, hg, h⟩ := ob h
  refine wz_put (v := (.int x48)) C hW flX6_37 rfl rfl hg dX6_copy_51 (fun H locs hW => ?_)
  refine lv_aload_n hx hb dX6_copy_54 rfl (lv_at hl 0 rfl) ?_
  refine lv_aload_n hx hb dX6_copy_55 rfl (lv_at hl 1 rfl) ?_
  obtain ⟨x56, hg, h⟩ := ob h
  refine wz_gI C hW flX6_55 hg dX6_copy_56 ?_
  obtain ⟨z59, hg, h⟩ := ob h
  refine wz_put (v := (.int x56)) C hW flX6_55 rfl rfl hg dX6_copy_59 (fun H locs hW => ?_)
  refine lv_aload_n hx hb dX6_copy_62 rfl (lv_at hl 0 rfl) ?_
  refine lv_aload_n hx hb dX6_copy_63 rfl (lv_at hl 1 rfl) ?_
  obtain ⟨x64, hg, h⟩ := ob h
  refine wz_gI C hW flX6_61 hg dX6_copy_64 ?_
  obtain ⟨z67, hg, h⟩ := ob h
  refine wz_put (v := (.int x64)) C hW flX6_61 rfl rfl hg dX6_copy_67 (fun H locs hW => ?_)
  refine lv_aload_n hx hb dX6_copy_70 rfl (lv_at hl 0 rfl) ?_
  refine lv_aload_n hx hb dX6_copy_71 rfl (lv_at hl 1 rfl) ?_
  obtain ⟨x72, hg, h⟩ := ob h
  refine wz_gI C hW flX6_64 hg dX6_copy_72 ?_
  obtain ⟨z75, hg, h⟩ := ob h
  refine wz_put (v := (.int x72)) C hW flX6_64 rfl rfl hg dX6_copy_75 (fun H locs hW => ?_)
  exact wz_vretE C hlk hr (Option.some.inj h) hW dX6_copy_78
theorem lVX6_73 : LV RX6 73 yX0_hasThing cX0_hasThing 2 (some .boolean) 1 := ⟨tw 851 (by decide +kernel) rfl, tw 701 (by decide +kernel) rfl, tw 702 (by decide +kernel) rfl, tw 121 (by decide +kernel) rfl, tw 703 (by decide +kernel) rfl, ⟨by decide +kernel, by decide +kernel, by decide +kernel⟩⟩
theorem lNX6_77 : LN RX6 77 yX9_hasBit cX9_hasBit 2 (some .boolean) 2 := ⟨by decide +kernel, tw 853 (by decide +kernel) rfl, tw 120 (by decide +kernel) rfl, tw 854 (by decide +kernel) rfl, ⟨by decide +kernel, by decide +kernel, by decide +kernel⟩⟩
theorem dX6_isThere_0 : decode cX6_isThere 0 = .ok (.aload_n 0, 1) := by decide +kernel
theorem dX6_isThere_1 : decode cX6_isThere 1 = .ok (.getfield 9, 3) := by decide +kernel
theorem dX6_isThere_4 : decode cX6_isThere 4 = .ok (.iload_n 1, 1) := by decide +kernel
theorem dX6_isThere_5 : decode cX6_isThere 5 = .ok (.invokevirtual 73, 3) := by decide +kernel
theorem dX6_isThere_8 : decode cX6_isThere 8 = .ok (.ifCond .eq 18, 3) := by decide +kernel
theorem dX6_isThere_11 : decode cX6_isThere 11 = .ok (.aload_n 0, 1) := by decide +kernel
theorem dX6_isThere_12 : decode cX6_isThere 12 = .ok (.getfield 37, 3) := by decide +kernel
theorem dX6_isThere_15 : decode cX6_isThere 15 = .ok (.iload_n 1, 1) := by decide +kernel
theorem dX6_isThere_16 : decode cX6_isThere 16 = .ok (.invokestatic 77, 3) := by decide +kernel
theorem dX6_isThere_19 : decode cX6_isThere 19 = .ok (.ifCond .ne 7, 3) := by decide +kernel
theorem dX6_isThere_22 : decode cX6_isThere 22 = .ok (.iconst 1, 1) := by decide +kernel
theorem dX6_isThere_23 : decode cX6_isThere 23 = .ok (.goto 4, 3) := by decide +kernel
theorem dX6_isThere_26 : decode cX6_isThere 26 = .ok (.iconst 0, 1) := by decide +kernel
theorem dX6_isThere_27 : decode cX6_isThere 27 = .ok (.ireturn, 1) := by decide +kernel
abbrev rmX6_isThere : Room := { frames := 1, cells := 0, slots := 0, locals := 21 }
def fX6_isThere (a0 : Nat) (l1 : Int32) (z : AH) : Option (Int32) :=
  if isO 5 z a0 = true then
    (gN 5 0 z a0).bind fun b1 =>
    (fX0_hasThing b1 l1 z).bind fun x5 =>
    if x5 = (0 : Int32) then (
      some (0 : Int32)
    ) else (
      (gI 5 6 z a0).bind fun x12 =>
      if (fX9_hasBit x12 l1) = (0 : Int32) then (
        some (1 : Int32)
      ) else (
        some (0 : Int32)
      )
    )
  else none
set_option maxHeartbeats 4000000 in
set_option maxRecDepth 100000 in
theorem ctX6_isThere (l : Launch) (G : GW) (a0 : Nat) (l1 : Int32) (z : AH) {r : Int32} (h : fX6_isThere a0 l1 z = some r) : Met l yX6_isThere (wy yX6_isThere cX6_isThere 2 (some .boolean)) rmX6_isThere (Pz G [.ref (gB G + a0), .int l1] z) (Qi G r z) 0 0 (AA G) := by
  refine wz_ent (own := RX6) (by decide +kernel) rfl (fun p e s m below meth c ls C hlk hr hin hW hl => ?_) (Nat.le_of_ble_eq_true rfl)
  have hl : lv_has ls 2 [(0, .ref (gB G + a0)), (1, .int l1)] := hl
  have hx := C.1
  have hb := C.2.1
  unfold fX6_isThere at h
  obtain ⟨-, h⟩ := ck h
  refine lv_aload_n hx hb dX6_isThere_0 rfl (lv_at hl 0 rfl) ?_
  obtain ⟨b1, hg, h⟩ := ob h
  refine wz_gN C hW flX6_9 hg dX6_isThere_1 ?_
  refine lv_iload_n hx hb dX6_isThere_4 rfl (lv_at hl 1 rfl) ?_
  obtain ⟨x5, hq, h⟩ := ob h
  refine wz_rI (c' := 0) (s' := 0) hW (wz_runV (rest := []) C hW lVX6_73 (ck hq).1 rfl (ctX0_hasThing l G b1 l1 z hq) ⟨⟨rfl, rfl⟩, Nat.le_of_ble_eq_true rfl, Nat.le_of_ble_eq_true rfl⟩ rfl hl.1 rfl (Nat.le_of_ble_eq_true rfl) dX6_isThere_5 ⟨Nat.le_of_ble_eq_true rfl, Nat.le_of_ble_eq_true rfl⟩) rfl rfl (fun H locs hW => ?_)
  refine lv_if_eq (tgt := 26) hx hb dX6_isThere_8 (by decide) (fun c8 => ?_) (fun c8 => ?_)
  · have h := ite_t c8 h
    refine lv_iconst (v := 0) hx hb dX6_isThere_26 (by decide) ?_
    exact wz_zretE C hlk hr (Or.inl rfl) (Option.some.inj h) rfl hW dX6_isThere_27
  · have h := ite_f c8 h
    refine lv_aload_n hx hb dX6_isThere_11 rfl (lv_at hl 0 rfl) ?_
    obtain ⟨x12, hg, h⟩ := ob h
    refine wz_gI C hW flX6_37 hg dX6_isThere_12 ?_
    refine lv_iload_n hx hb dX6_isThere_15 rfl (lv_at hl 1 rfl) ?_
    refine wz_rI (c' := 0) (s' := 0) hW (wz_runN (rest := []) C hW lNX6_77 (ctX9_hasBit l G x12 l1 z rfl) ⟨⟨rfl, rfl⟩, Nat.le_of_ble_eq_true rfl, Nat.le_of_ble_eq_true rfl⟩ rfl hl.1 rfl (Nat.le_of_ble_eq_true rfl) dX6_isThere_16 ⟨Nat.le_of_ble_eq_true rfl, Nat.le_of_ble_eq_true rfl⟩) rfl rfl (fun H locs hW => ?_)
    refine lv_if_ne (tgt := 26) hx hb dX6_isThere_19 (by decide) (fun c19 => ?_) (fun c19 => ?_)
    · have h := ite_f c19 h
      refine lv_iconst (v := 0) hx hb dX6_isThere_26 (by decide) ?_
      exact wz_zretE C hlk hr (Or.inl rfl) (Option.some.inj h) rfl hW dX6_isThere_27
    · have h := ite_t c19 h
      refine lv_iconst (v := 1) hx hb dX6_isThere_22 (by decide) ?_
      refine lv_goto (tgt := 27) hx hb dX6_isThere_23 (by decide) ?_
      exact wz_zretE C hlk hr (Or.inr rfl) (Option.some.inj h) rfl hW dX6_isThere_27
theorem dX6_there_0 : decode cX6_there 0 = .ok (.iconst 1, 1) := by decide +kernel
theorem dX6_there_1 : decode cX6_there 1 = .ok (.aload_n 0, 1) := by decide +kernel
theorem dX6_there_2 : decode cX6_there 2 = .ok (.getfield 9, 3) := by decide +kernel
theorem dX6_there_5 : decode cX6_there 5 = .ok (.getfield 81, 3) := by decide +kernel
theorem dX6_there_8 : decode cX6_there 8 = .ok (.ishl, 1) := by decide +kernel
theorem dX6_there_9 : decode cX6_there 9 = .ok (.iconst 1, 1) := by decide +kernel
theorem dX6_there_10 : decode cX6_there 10 = .ok (.isub, 1) := by decide +kernel
theorem dX6_there_11 : decode cX6_there 11 = .ok (.aload_n 0, 1) := by decide +kernel
theorem dX6_there_12 : decode cX6_there 12 = .ok (.getfield 37, 3) := by decide +kernel
theorem dX6_there_15 : decode cX6_there 15 = .ok (.iconst (-1), 1) := by decide +kernel
theorem dX6_there_16 : decode cX6_there 16 = .ok (.ixor, 1) := by decide +kernel
theorem dX6_there_17 : decode cX6_there 17 = .ok (.iand, 1) := by decide +kernel
theorem dX6_there_18 : decode cX6_there 18 = .ok (.ireturn, 1) := by decide +kernel
abbrev rmX6_there : Room := { frames := 0, cells := 0, slots := 0, locals := 0 }
def fX6_there (a0 : Nat) (z : AH) : Option (Int32) :=
  if isO 5 z a0 = true then
    (gN 5 0 z a0).bind fun b2 =>
    (gI 0 0 z b2).bind fun x5 =>
    (gI 5 6 z a0).bind fun x12 =>
    some (((shl (1 : Int32) x5) - (1 : Int32)) &&& (x12 ^^^ (-1 : Int32)))
  else none
set_option maxHeartbeats 4000000 in
set_option maxRecDepth 100000 in
theorem ctX6_there (l : Launch) (G : GW) (a0 : Nat) (z : AH) {r : Int32} (h : fX6_there a0 z = some r) : Met l yX6_there (wy yX6_there cX6_there 1 (some .int)) rmX6_there (Pz G [.ref (gB G + a0)] z) (Qi G r z) 0 0 (AA G) := by
  refine wz_ent (own := RX6) (by decide +kernel) rfl (fun p e s m below meth c ls C hlk hr hin hW hl => ?_) (Nat.le_of_ble_eq_true rfl)
  have hl : lv_has ls 1 [(0, .ref (gB G + a0))] := hl
  have hx := C.1
  have hb := C.2.1
  unfold fX6_there at h
  obtain ⟨-, h⟩ := ck h
  refine lv_iconst (v := 1) hx hb dX6_there_0 (by decide) ?_
  refine lv_aload_n hx hb dX6_there_1 rfl (lv_at hl 0 rfl) ?_
  obtain ⟨b2, hg, h⟩ := ob h
  refine wz_gN C hW flX6_9 hg dX6_there_2 ?_
  obtain ⟨x5, hg, h⟩ := ob h
  refine wz_gI C hW flX6_81 hg dX6_there_5 ?_
  refine wz_shl hx hb dX6_there_8 ?_
  refine lv_iconst (v := 1) hx hb dX6_there_9 (by decide) ?_
  refine lv_isub hx hb dX6_there_10 ?_
  refine lv_aload_n hx hb dX6_there_11 rfl (lv_at hl 0 rfl) ?_
  obtain ⟨x12, hg, h⟩ := ob h
  refine wz_gI C hW flX6_37 hg dX6_there_12 ?_
  refine lv_iconst (v := -1) hx hb dX6_there_15 (by decide) ?_
  refine lv_ixor hx hb dX6_there_16 ?_
  refine lv_iand hx hb dX6_there_17 ?_
  exact wz_iretE C hlk hr (Option.some.inj h) rfl hW dX6_there_18
theorem dX6_restingOn_0 : decode cX6_restingOn 0 = .ok (.aload_n 0, 1) := by decide +kernel
theorem dX6_restingOn_1 : decode cX6_restingOn 1 = .ok (.getfield 9, 3) := by decide +kernel
theorem dX6_restingOn_4 : decode cX6_restingOn 4 = .ok (.iload_n 1, 1) := by decide +kernel
theorem dX6_restingOn_5 : decode cX6_restingOn 5 = .ok (.invokevirtual 73, 3) := by decide +kernel
theorem dX6_restingOn_8 : decode cX6_restingOn 8 = .ok (.ifCond .eq 22, 3) := by decide +kernel
theorem dX6_restingOn_11 : decode cX6_restingOn 11 = .ok (.aload_n 0, 1) := by decide +kernel
theorem dX6_restingOn_12 : decode cX6_restingOn 12 = .ok (.getfield 9, 3) := by decide +kernel
theorem dX6_restingOn_15 : decode cX6_restingOn 15 = .ok (.getfield 84, 3) := by decide +kernel
theorem dX6_restingOn_18 : decode cX6_restingOn 18 = .ok (.iload_n 1, 1) := by decide +kernel
theorem dX6_restingOn_19 : decode cX6_restingOn 19 = .ok (.iaload, 1) := by decide +kernel
theorem dX6_restingOn_20 : decode cX6_restingOn 20 = .ok (.aload_n 0, 1) := by decide +kernel
theorem dX6_restingOn_21 : decode cX6_restingOn 21 = .ok (.getfield 37, 3) := by decide +kernel
theorem dX6_restingOn_24 : decode cX6_restingOn 24 = .ok (.iconst (-1), 1) := by decide +kernel
theorem dX6_restingOn_25 : decode cX6_restingOn 25 = .ok (.ixor, 1) := by decide +kernel
theorem dX6_restingOn_26 : decode cX6_restingOn 26 = .ok (.iand, 1) := by decide +kernel
theorem dX6_restingOn_27 : decode cX6_restingOn 27 = .ok (.goto 4, 3) := by decide +kernel
theorem dX6_restingOn_30 : decode cX6_restingOn 30 = .ok (.iconst 0, 1) := by decide +kernel
theorem dX6_restingOn_31 : decode cX6_restingOn 31 = .ok (.ireturn, 1) := by decide +kernel
abbrev rmX6_restingOn : Room := { frames := 1, cells := 0, slots := 0, locals := 21 }
def fX6_restingOn (a0 : Nat) (l1 : Int32) (z : AH) : Option (Int32) :=
  if isO 5 z a0 = true then
    (gN 5 0 z a0).bind fun b1 =>
    (fX0_hasThing b1 l1 z).bind fun x5 =>
    if x5 = (0 : Int32) then (
      some (0 : Int32)
    ) else (
      (gN 5 0 z a0).bind fun b12 =>
      (gN 0 5 z b12).bind fun b15 =>
      (ixI 0 z b15 l1).bind fun x19 =>
      (gI 5 6 z a0).bind fun x21 =>
      some (x19 &&& (x21 ^^^ (-1 : Int32)))
    )
  else none
set_option maxHeartbeats 4000000 in
set_option maxRecDepth 100000 in
theorem ctX6_restingOn (l : Launch) (G : GW) (a0 : Nat) (l1 : Int32) (z : AH) {r : Int32} (h : fX6_restingOn a0 l1 z = some r) : Met l yX6_restingOn (wy yX6_restingOn cX6_restingOn 2 (some .int)) rmX6_restingOn (Pz G [.ref (gB G + a0), .int l1] z) (Qi G r z) 0 0 (AA G) := by
  refine wz_ent (own := RX6) (by decide +kernel) rfl (fun p e s m below meth c ls C hlk hr hin hW hl => ?_) (Nat.le_of_ble_eq_true rfl)
  have hl : lv_has ls 2 [(0, .ref (gB G + a0)), (1, .int l1)] := hl
  have hx := C.1
  have hb := C.2.1
  unfold fX6_restingOn at h
  obtain ⟨-, h⟩ := ck h
  refine lv_aload_n hx hb dX6_restingOn_0 rfl (lv_at hl 0 rfl) ?_
  obtain ⟨b1, hg, h⟩ := ob h
  refine wz_gN C hW flX6_9 hg dX6_restingOn_1 ?_
  refine lv_iload_n hx hb dX6_restingOn_4 rfl (lv_at hl 1 rfl) ?_
  obtain ⟨x5, hq, h⟩ := ob h
  refine wz_rI (c' := 0) (s' := 0) hW (wz_runV (rest := []) C hW lVX6_73 (ck hq).1 rfl (ctX0_hasThing l G b1 l1 z hq) ⟨⟨rfl, rfl⟩, Nat.le_of_ble_eq_true rfl, Nat.le_of_ble_eq_true rfl⟩ rfl hl.1 rfl (Nat.le_of_ble_eq_true rfl) dX6_restingOn_5 ⟨Nat.le_of_ble_eq_true rfl, Nat.le_of_ble_eq_true rfl⟩) rfl rfl (fun H locs hW => ?_)
  refine lv_if_eq (tgt := 30) hx hb dX6_restingOn_8 (by decide) (fun c8 => ?_) (fun c8 => ?_)
  · have h := ite_t c8 h
    refine lv_iconst (v := 0) hx hb dX6_restingOn_30 (by decide) ?_
    exact wz_iretE C hlk hr (Option.some.inj h) rfl hW dX6_restingOn_31
  · have h := ite_f c8 h
    refine lv_aload_n hx hb dX6_restingOn_11 rfl (lv_at hl 0 rfl) ?_
    obtain ⟨b12, hg, h⟩ := ob h
    refine wz_gN C hW flX6_9 hg dX6_restingOn_12 ?_
    obtain ⟨b15, hg, h⟩ := ob h
    refine wz_gN C hW flX6_84 hg dX6_restingOn_15 ?_
    refine lv_iload_n hx hb dX6_restingOn_18 rfl (lv_at hl 1 rfl) ?_
    obtain ⟨x19, hg, h⟩ := ob h
    refine wz_ald C hW hg dX6_restingOn_19 ?_
    refine lv_aload_n hx hb dX6_restingOn_20 rfl (lv_at hl 0 rfl) ?_
    obtain ⟨x21, hg, h⟩ := ob h
    refine wz_gI C hW flX6_37 hg dX6_restingOn_21 ?_
    refine lv_iconst (v := -1) hx hb dX6_restingOn_24 (by decide) ?_
    refine lv_ixor hx hb dX6_restingOn_25 ?_
    refine lv_iand hx hb dX6_restingOn_26 ?_
    refine lv_goto (tgt := 31) hx hb dX6_restingOn_27 (by decide) ?_
    exact wz_iretE C hlk hr (Option.some.inj h) rfl hW dX6_restingOn_31
theorem lVX6_131 : LV RX6 131 yX0_sightOfLeft cX0_sightOfLeft 2 (some .int) 1 := ⟨tw 855 (by decide +kernel) rfl, tw 856 (by decide +kernel) rfl, tw 857 (by decide +kernel) rfl, tw 121 (by decide +kernel) rfl, tw 858 (by decide +kernel) rfl, ⟨by decide +kernel, by decide +kernel, by decide +kernel⟩⟩
theorem lVX6_134 : LV RX6 134 yX0_sightOfRight cX0_sightOfRight 2 (some .int) 1 := ⟨tw 860 (by decide +kernel) rfl, tw 861 (by decide +kernel) rfl, tw 862 (by decide +kernel) rfl, tw 121 (by decide +kernel) rfl, tw 863 (by decide +kernel) rfl, ⟨by decide +kernel, by decide +kernel, by decide +kernel⟩⟩
theorem flX6_140 : FL RX6 140 0 19 := ⟨_, rfl, Nat.le_of_ble_eq_true rfl, tw 203 (by decide +kernel) rfl, rfl⟩
theorem flX6_125 : FL RX6 125 0 14 := ⟨_, rfl, Nat.le_of_ble_eq_true rfl, tw 191 (by decide +kernel) rfl, rfl⟩
theorem lVX6_128 : LV RX6 128 yX6_isThere cX6_isThere 2 (some .boolean) 1 := ⟨tw 847 (by decide +kernel) rfl, tw 848 (by decide +kernel) rfl, tw 849 (by decide +kernel) rfl, tw 124 (by decide +kernel) rfl, tw 850 (by decide +kernel) rfl, ⟨by decide +kernel, by decide +kernel, by decide +kernel⟩⟩
theorem dX6_look_0 : decode cX6_look 0 = .ok (.iload_n 1, 1) := by decide +kernel
theorem dX6_look_1 : decode cX6_look 1 = .ok (.ifCond .lt 57, 3) := by decide +kernel
theorem dX6_look_4 : decode cX6_look 4 = .ok (.iload_n 1, 1) := by decide +kernel
theorem dX6_look_5 : decode cX6_look 5 = .ok (.aload_n 0, 1) := by decide +kernel
theorem dX6_look_6 : decode cX6_look 6 = .ok (.getfield 9, 3) := by decide +kernel
theorem dX6_look_9 : decode cX6_look 9 = .ok (.getfield 125, 3) := by decide +kernel
theorem dX6_look_12 : decode cX6_look 12 = .ok (.if_icmp .ge 46, 3) := by decide +kernel
theorem dX6_look_15 : decode cX6_look 15 = .ok (.iload_n 1, 1) := by decide +kernel
theorem dX6_look_16 : decode cX6_look 16 = .ok (.aload_n 0, 1) := by decide +kernel
theorem dX6_look_17 : decode cX6_look 17 = .ok (.getfield 27, 3) := by decide +kernel
theorem dX6_look_20 : decode cX6_look 20 = .ok (.arraylength, 1) := by decide +kernel
theorem dX6_look_21 : decode cX6_look 21 = .ok (.if_icmp .ge 37, 3) := by decide +kernel
theorem dX6_look_24 : decode cX6_look 24 = .ok (.aload_n 0, 1) := by decide +kernel
theorem dX6_look_25 : decode cX6_look 25 = .ok (.iload_n 2, 1) := by decide +kernel
theorem dX6_look_26 : decode cX6_look 26 = .ok (.invokevirtual 128, 3) := by decide +kernel
theorem dX6_look_29 : decode cX6_look 29 = .ok (.ifCond .eq 29, 3) := by decide +kernel
theorem dX6_look_32 : decode cX6_look 32 = .ok (.aload_n 0, 1) := by decide +kernel
theorem dX6_look_33 : decode cX6_look 33 = .ok (.getfield 55, 3) := by decide +kernel
theorem dX6_look_36 : decode cX6_look 36 = .ok (.iload_n 1, 1) := by decide +kernel
theorem dX6_look_37 : decode cX6_look 37 = .ok (.invokestatic 77, 3) := by decide +kernel
theorem dX6_look_40 : decode cX6_look 40 = .ok (.ifCond .ne 18, 3) := by decide +kernel
theorem dX6_look_43 : decode cX6_look 43 = .ok (.aload_n 0, 1) := by decide +kernel
theorem dX6_look_44 : decode cX6_look 44 = .ok (.getfield 61, 3) := by decide +kernel
theorem dX6_look_47 : decode cX6_look 47 = .ok (.iload_n 1, 1) := by decide +kernel
theorem dX6_look_48 : decode cX6_look 48 = .ok (.invokestatic 77, 3) := by decide +kernel
theorem dX6_look_51 : decode cX6_look 51 = .ok (.ifCond .ne 7, 3) := by decide +kernel
theorem dX6_look_54 : decode cX6_look 54 = .ok (.iconst 1, 1) := by decide +kernel
theorem dX6_look_55 : decode cX6_look 55 = .ok (.goto 4, 3) := by decide +kernel
theorem dX6_look_58 : decode cX6_look 58 = .ok (.iconst 0, 1) := by decide +kernel
theorem dX6_look_59 : decode cX6_look 59 = .ok (.istore_n 3, 1) := by decide +kernel
theorem dX6_look_60 : decode cX6_look 60 = .ok (.iload_n 3, 1) := by decide +kernel
theorem dX6_look_61 : decode cX6_look 61 = .ok (.ifCond .ne 5, 3) := by decide +kernel
theorem dX6_look_64 : decode cX6_look 64 = .ok (.iconst 0, 1) := by decide +kernel
theorem dX6_look_65 : decode cX6_look 65 = .ok (.ireturn, 1) := by decide +kernel
theorem dX6_look_66 : decode cX6_look 66 = .ok (.aload_n 0, 1) := by decide +kernel
theorem dX6_look_67 : decode cX6_look 67 = .ok (.getfield 9, 3) := by decide +kernel
theorem dX6_look_70 : decode cX6_look 70 = .ok (.iload_n 1, 1) := by decide +kernel
theorem dX6_look_71 : decode cX6_look 71 = .ok (.invokevirtual 131, 3) := by decide +kernel
theorem dX6_look_74 : decode cX6_look 74 = .ok (.istore 4, 2) := by decide +kernel
theorem dX6_look_76 : decode cX6_look 76 = .ok (.aload_n 0, 1) := by decide +kernel
theorem dX6_look_77 : decode cX6_look 77 = .ok (.getfield 9, 3) := by decide +kernel
theorem dX6_look_80 : decode cX6_look 80 = .ok (.iload_n 1, 1) := by decide +kernel
theorem dX6_look_81 : decode cX6_look 81 = .ok (.invokevirtual 134, 3) := by decide +kernel
theorem dX6_look_84 : decode cX6_look 84 = .ok (.istore 5, 2) := by decide +kernel
theorem dX6_look_86 : decode cX6_look 86 = .ok (.aload_n 0, 1) := by decide +kernel
theorem dX6_look_87 : decode cX6_look 87 = .ok (.getfield 17, 3) := by decide +kernel
theorem dX6_look_90 : decode cX6_look 90 = .ok (.iload_n 2, 1) := by decide +kernel
theorem dX6_look_91 : decode cX6_look 91 = .ok (.bipush 99, 2) := by decide +kernel
theorem dX6_look_93 : decode cX6_look 93 = .ok (.aload_n 0, 1) := by decide +kernel
theorem dX6_look_94 : decode cX6_look 94 = .ok (.getfield 17, 3) := by decide +kernel
theorem dX6_look_97 : decode cX6_look 97 = .ok (.iload_n 2, 1) := by decide +kernel
theorem dX6_look_98 : decode cX6_look 98 = .ok (.iaload, 1) := by decide +kernel
theorem dX6_look_99 : decode cX6_look 99 = .ok (.iload 4, 2) := by decide +kernel
theorem dX6_look_101 : decode cX6_look 101 = .ok (.iadd, 1) := by decide +kernel
theorem dX6_look_102 : decode cX6_look 102 = .ok (.iload 5, 2) := by decide +kernel
theorem dX6_look_104 : decode cX6_look 104 = .ok (.iadd, 1) := by decide +kernel
theorem dX6_look_105 : decode cX6_look 105 = .ok (.invokestatic 96, 3) := by decide +kernel
theorem dX6_look_108 : decode cX6_look 108 = .ok (.iastore, 1) := by decide +kernel
theorem dX6_look_109 : decode cX6_look 109 = .ok (.iload 4, 2) := by decide +kernel
theorem dX6_look_111 : decode cX6_look 111 = .ok (.iload 5, 2) := by decide +kernel
theorem dX6_look_113 : decode cX6_look 113 = .ok (.isub, 1) := by decide +kernel
theorem dX6_look_114 : decode cX6_look 114 = .ok (.invokestatic 137, 3) := by decide +kernel
theorem dX6_look_117 : decode cX6_look 117 = .ok (.aload_n 0, 1) := by decide +kernel
theorem dX6_look_118 : decode cX6_look 118 = .ok (.getfield 9, 3) := by decide +kernel
theorem dX6_look_121 : decode cX6_look 121 = .ok (.getfield 140, 3) := by decide +kernel
theorem dX6_look_124 : decode cX6_look 124 = .ok (.if_icmp .le 34, 3) := by decide +kernel
theorem dX6_look_127 : decode cX6_look 127 = .ok (.aload_n 0, 1) := by decide +kernel
theorem dX6_look_128 : decode cX6_look 128 = .ok (.getfield 21, 3) := by decide +kernel
theorem dX6_look_131 : decode cX6_look 131 = .ok (.iload_n 2, 1) := by decide +kernel
theorem dX6_look_132 : decode cX6_look 132 = .ok (.bipush 9, 2) := by decide +kernel
theorem dX6_look_134 : decode cX6_look 134 = .ok (.aload_n 0, 1) := by decide +kernel
theorem dX6_look_135 : decode cX6_look 135 = .ok (.getfield 21, 3) := by decide +kernel
theorem dX6_look_138 : decode cX6_look 138 = .ok (.iload_n 2, 1) := by decide +kernel
theorem dX6_look_139 : decode cX6_look 139 = .ok (.iaload, 1) := by decide +kernel
theorem dX6_look_140 : decode cX6_look 140 = .ok (.iconst 1, 1) := by decide +kernel
theorem dX6_look_141 : decode cX6_look 141 = .ok (.iadd, 1) := by decide +kernel
theorem dX6_look_142 : decode cX6_look 142 = .ok (.invokestatic 96, 3) := by decide +kernel
theorem dX6_look_145 : decode cX6_look 145 = .ok (.iastore, 1) := by decide +kernel
theorem dX6_look_146 : decode cX6_look 146 = .ok (.aload_n 0, 1) := by decide +kernel
theorem dX6_look_147 : decode cX6_look 147 = .ok (.dup, 1) := by decide +kernel
theorem dX6_look_148 : decode cX6_look 148 = .ok (.getfield 67, 3) := by decide +kernel
theorem dX6_look_151 : decode cX6_look 151 = .ok (.iconst 1, 1) := by decide +kernel
theorem dX6_look_152 : decode cX6_look 152 = .ok (.iload_n 2, 1) := by decide +kernel
theorem dX6_look_153 : decode cX6_look 153 = .ok (.ishl, 1) := by decide +kernel
theorem dX6_look_154 : decode cX6_look 154 = .ok (.ior, 1) := by decide +kernel
theorem dX6_look_155 : decode cX6_look 155 = .ok (.putfield 67, 3) := by decide +kernel
theorem dX6_look_158 : decode cX6_look 158 = .ok (.aload_n 0, 1) := by decide +kernel
theorem dX6_look_159 : decode cX6_look 159 = .ok (.dup, 1) := by decide +kernel
theorem dX6_look_160 : decode cX6_look 160 = .ok (.getfield 61, 3) := by decide +kernel
theorem dX6_look_163 : decode cX6_look 163 = .ok (.iconst 1, 1) := by decide +kernel
theorem dX6_look_164 : decode cX6_look 164 = .ok (.iload_n 1, 1) := by decide +kernel
theorem dX6_look_165 : decode cX6_look 165 = .ok (.ishl, 1) := by decide +kernel
theorem dX6_look_166 : decode cX6_look 166 = .ok (.ior, 1) := by decide +kernel
theorem dX6_look_167 : decode cX6_look 167 = .ok (.putfield 61, 3) := by decide +kernel
theorem dX6_look_170 : decode cX6_look 170 = .ok (.aload_n 0, 1) := by decide +kernel
theorem dX6_look_171 : decode cX6_look 171 = .ok (.dup, 1) := by decide +kernel
theorem dX6_look_172 : decode cX6_look 172 = .ok (.getfield 64, 3) := by decide +kernel
theorem dX6_look_175 : decode cX6_look 175 = .ok (.iconst 1, 1) := by decide +kernel
theorem dX6_look_176 : decode cX6_look 176 = .ok (.iload_n 2, 1) := by decide +kernel
theorem dX6_look_177 : decode cX6_look 177 = .ok (.ishl, 1) := by decide +kernel
theorem dX6_look_178 : decode cX6_look 178 = .ok (.ior, 1) := by decide +kernel
theorem dX6_look_179 : decode cX6_look 179 = .ok (.putfield 64, 3) := by decide +kernel
theorem dX6_look_182 : decode cX6_look 182 = .ok (.aload_n 0, 1) := by decide +kernel
theorem dX6_look_183 : decode cX6_look 183 = .ok (.getfield 27, 3) := by decide +kernel
theorem dX6_look_186 : decode cX6_look 186 = .ok (.iload_n 1, 1) := by decide +kernel
theorem dX6_look_187 : decode cX6_look 187 = .ok (.dup2, 1) := by decide +kernel
theorem dX6_look_188 : decode cX6_look 188 = .ok (.iaload, 1) := by decide +kernel
theorem dX6_look_189 : decode cX6_look 189 = .ok (.iconst 1, 1) := by decide +kernel
theorem dX6_look_190 : decode cX6_look 190 = .ok (.iadd, 1) := by decide +kernel
theorem dX6_look_191 : decode cX6_look 191 = .ok (.iastore, 1) := by decide +kernel
theorem dX6_look_192 : decode cX6_look 192 = .ok (.iconst 1, 1) := by decide +kernel
theorem dX6_look_193 : decode cX6_look 193 = .ok (.ireturn, 1) := by decide +kernel
abbrev rmX6_look : Room := { frames := 2, cells := 0, slots := 0, locals := 45 }
def bX6_look_158 (a0 : Nat) (l1 : Int32) (l2 : Int32) (z : AH) : Option (Int32 × AH) :=
  (gI 5 10 z a0).bind fun x160 =>
  (pF 5 10 z a0 (.int (x160 ||| (shl (1 : Int32) l1)))).bind fun z167 =>
  (gI 5 11 z167 a0).bind fun x172 =>
  (pF 5 11 z167 a0 (.int (x172 ||| (shl (1 : Int32) l2)))).bind fun z179 =>
  (gN 5 3 z179 a0).bind fun b183 =>
  (ixI 0 z179 b183 l1).bind fun x188 =>
  (stI 0 z179 b183 l1 (x188 + (1 : Int32))).bind fun z191 =>
  some ((1 : Int32), z191)
set_option maxHeartbeats 4000000 in
set_option maxRecDepth 100000 in
theorem kbX6_look_158 {p : Program} {l : Launch} {e : Env} {s : State} {m : MethodId} {args : Array Value} {below : List Frame} {meth : Method} {c : Code} {G : GW} {r : Int32} {z' : AH} (C : Cx p m c cX6_look 6 s args RX6 G) (hlk : meth.locks = false) (hr : meth.sig.returnType = (some .boolean)) (a0 : Nat) (l1 : Int32) (l2 : Int32) {z : AH} {H : Heap} {locs : List Loc} {ls : Array Slot} (h : bX6_look_158 a0 l1 l2 z = some (r, z')) (hW : Wb G z s H locs) (hl : lv_has ls 6 [(0, .ref (gB G + a0)), (1, .int l1), (2, .int l2)]) : W p l e rmX6_look s m args below meth c H locs 0 0 (MQ below (Qi G r z') args s 0 0 (AA G)) (F0 m 158 ls []) := by
  have hx := C.1
  have hb := C.2.1
  unfold bX6_look_158 at h
  refine lv_aload_n hx hb dX6_look_158 rfl (lv_at hl 0 rfl) ?_
  refine lv_dup hx hb dX6_look_159 rfl ?_
  obtain ⟨x160, hg, h⟩ := ob h
  refine wz_gI C hW flX6_61 hg dX6_look_160 ?_
  refine lv_iconst (v := 1) hx hb dX6_look_163 (by decide) ?_
  refine lv_iload_n hx hb dX6_look_164 rfl (lv_at hl 1 rfl) ?_
  refine wz_shl hx hb dX6_look_165 ?_
  refine lv_ior hx hb dX6_look_166 ?_
  obtain ⟨z167, hg, h⟩ := ob h
  refine wz_put (v := (.int (x160 ||| (shl (1 : Int32) l1)))) C hW flX6_61 rfl rfl hg dX6_look_167 (fun H locs hW => ?_)
  refine lv_aload_n hx hb dX6_look_170 rfl (lv_at hl 0 rfl) ?_
  refine lv_dup hx hb dX6_look_171 rfl ?_
  obtain ⟨x172, hg, h⟩ := ob h
  refine wz_gI C hW flX6_64 hg dX6_look_172 ?_
  refine lv_iconst (v := 1) hx hb dX6_look_175 (by decide) ?_
  refine lv_iload_n hx hb dX6_look_176 rfl (lv_at hl 2 rfl) ?_
  refine wz_shl hx hb dX6_look_177 ?_
  refine lv_ior hx hb dX6_look_178 ?_
  obtain ⟨z179, hg, h⟩ := ob h
  refine wz_put (v := (.int (x172 ||| (shl (1 : Int32) l2)))) C hW flX6_64 rfl rfl hg dX6_look_179 (fun H locs hW => ?_)
  refine lv_aload_n hx hb dX6_look_182 rfl (lv_at hl 0 rfl) ?_
  obtain ⟨b183, hg, h⟩ := ob h
  refine wz_gN C hW flX6_27 hg dX6_look_183 ?_
  refine lv_iload_n hx hb dX6_look_186 rfl (lv_at hl 1 rfl) ?_
  refine lv_dup2_11 hx hb dX6_look_187 rfl rfl ?_
  obtain ⟨x188, hg, h⟩ := ob h
  refine wz_ald C hW hg dX6_look_188 ?_
  refine lv_iconst (v := 1) hx hb dX6_look_189 (by decide) ?_
  refine lv_iadd hx hb dX6_look_190 ?_
  obtain ⟨z191, hg, h⟩ := ob h
  refine wz_ast C hW hg dX6_look_191 (fun H locs hW => ?_)
  refine lv_iconst (v := 1) hx hb dX6_look_192 (by decide) ?_
  exact wz_zretE C hlk hr (Or.inr rfl) (so2 h).1 (so2 h).2 hW dX6_look_193
def bX6_look_59 (a0 : Nat) (l1 : Int32) (l2 : Int32) (s0 : Int32) (z : AH) : Option (Int32 × AH) :=
  if s0 = (0 : Int32) then (
    some ((0 : Int32), z)
  ) else (
    (gN 5 0 z a0).bind fun b67 =>
    (fX0_sightOfLeft b67 l1 z).bind fun x71 =>
    (gN 5 0 z a0).bind fun b77 =>
    (fX0_sightOfRight b77 l1 z).bind fun x81 =>
    (gN 5 1 z a0).bind fun b87 =>
    (gN 5 1 z a0).bind fun b94 =>
    (ixI 0 z b94 l2).bind fun x98 =>
    (stI 0 z b87 l2 (imin (99 : Int32) ((x98 + x71) + x81))).bind fun z108 =>
    (gN 5 0 z108 a0).bind fun b118 =>
    (gI 0 19 z108 b118).bind fun x121 =>
    if (iabs (x71 - x81)) ≤ x121 then (
      bX6_look_158 a0 l1 l2 z108
    ) else (
      (gN 5 2 z108 a0).bind fun b128 =>
      (gN 5 2 z108 a0).bind fun b135 =>
      (ixI 0 z108 b135 l2).bind fun x139 =>
      (stI 0 z108 b128 l2 (imin (9 : Int32) (x139 + (1 : Int32)))).bind fun z145 =>
      (gI 5 12 z145 a0).bind fun x148 =>
      (pF 5 12 z145 a0 (.int (x148 ||| (shl (1 : Int32) l2)))).bind fun z155 =>
      bX6_look_158 a0 l1 l2 z155
    )
  )
set_option maxHeartbeats 4000000 in
set_option maxRecDepth 100000 in
theorem kbX6_look_59 {p : Program} {l : Launch} {e : Env} {s : State} {m : MethodId} {args : Array Value} {below : List Frame} {meth : Method} {c : Code} {G : GW} {r : Int32} {z' : AH} (C : Cx p m c cX6_look 6 s args RX6 G) (hlk : meth.locks = false) (hr : meth.sig.returnType = (some .boolean)) (a0 : Nat) (l1 : Int32) (l2 : Int32) (s0 : Int32) {z : AH} {H : Heap} {locs : List Loc} {ls : Array Slot} (h : bX6_look_59 a0 l1 l2 s0 z = some (r, z')) (hW : Wb G z s H locs) (hl : lv_has ls 6 [(0, .ref (gB G + a0)), (1, .int l1), (2, .int l2)]) : W p l e rmX6_look s m args below meth c H locs 0 0 (MQ below (Qi G r z') args s 0 0 (AA G)) (F0 m 59 ls [.int s0]) := by
  have hx := C.1
  have hb := C.2.1
  unfold bX6_look_59 at h
  refine lv_istore_n (lv' := [(3, .int s0), (0, .ref (gB G + a0)), (1, .int l1), (2, .int l2)]) hx hb dX6_look_59 rfl hl (by decide) rfl (fun ls hl => ?_)
  refine lv_iload_n hx hb dX6_look_60 rfl (lv_at hl 0 rfl) ?_
  refine lv_if_ne (tgt := 66) hx hb dX6_look_61 (by decide) (fun c61 => ?_) (fun c61 => ?_)
  · have h := ite_f c61 h
    refine lv_aload_n hx hb dX6_look_66 rfl (lv_at hl 1 rfl) ?_
    obtain ⟨b67, hg, h⟩ := ob h
    refine wz_gN C hW flX6_9 hg dX6_look_67 ?_
    refine lv_iload_n hx hb dX6_look_70 rfl (lv_at hl 2 rfl) ?_
    obtain ⟨x71, hq, h⟩ := ob h
    refine wz_rI (c' := 0) (s' := 0) hW (wz_runV (rest := []) C hW lVX6_131 (ck hq).1 rfl (ctX0_sightOfLeft l G b67 l1 z hq) ⟨⟨rfl, rfl⟩, Nat.le_of_ble_eq_true rfl, Nat.le_of_ble_eq_true rfl⟩ rfl hl.1 rfl (Nat.le_of_ble_eq_true rfl) dX6_look_71 ⟨Nat.le_of_ble_eq_true rfl, Nat.le_of_ble_eq_true rfl⟩) rfl rfl (fun H locs hW => ?_)
    refine lv_istore (lv' := [(4, .int x71), (3, .int s0), (0, .ref (gB G + a0)), (1, .int l1), (2, .int l2)]) hx hb dX6_look_74 hl (by decide) rfl (fun ls hl => ?_)
    refine lv_aload_n hx hb dX6_look_76 rfl (lv_at hl 2 rfl) ?_
    obtain ⟨b77, hg, h⟩ := ob h
    refine wz_gN C hW flX6_9 hg dX6_look_77 ?_
    refine lv_iload_n hx hb dX6_look_80 rfl (lv_at hl 3 rfl) ?_
    obtain ⟨x81, hq, h⟩ := ob h
    refine wz_rI (c' := 0) (s' := 0) hW (wz_runV (rest := []) C hW lVX6_134 (ck hq).1 rfl (ctX0_sightOfRight l G b77 l1 z hq) ⟨⟨rfl, rfl⟩, Nat.le_of_ble_eq_true rfl, Nat.le_of_ble_eq_true rfl⟩ rfl hl.1 rfl (Nat.le_of_ble_eq_true rfl) dX6_look_81 ⟨Nat.le_of_ble_eq_true rfl, Nat.le_of_ble_eq_true rfl⟩) rfl rfl (fun H locs hW => ?_)
    refine lv_istore (lv' := [(5, .int x81), (4, .int x71), (3, .int s0), (0, .ref (gB G + a0)), (1, .int l1), (2, .int l2)]) hx hb dX6_look_84 hl (by decide) rfl (fun ls hl => ?_)
    refine lv_aload_n hx hb dX6_look_86 rfl (lv_at hl 3 rfl) ?_
    obtain ⟨b87, hg, h⟩ := ob h
    refine wz_gN C hW flX6_17 hg dX6_look_87 ?_
    refine lv_iload_n hx hb dX6_look_90 rfl (lv_at hl 5 rfl) ?_
    refine lv_bipush (v := 99) hx hb dX6_look_91 (by decide) ?_
    refine lv_aload_n hx hb dX6_look_93 rfl (lv_at hl 3 rfl) ?_
    obtain ⟨b94, hg, h⟩ := ob h
    refine wz_gN C hW flX6_17 hg dX6_look_94 ?_
    refine lv_iload_n hx hb dX6_look_97 rfl (lv_at hl 5 rfl) ?_
    obtain ⟨x98, hg, h⟩ := ob h
    refine wz_ald C hW hg dX6_look_98 ?_
    refine lv_iload hx hb dX6_look_99 (lv_at hl 1 rfl) ?_
    refine lv_iadd hx hb dX6_look_101 ?_
    refine lv_iload hx hb dX6_look_102 (lv_at hl 0 rfl) ?_
    refine lv_iadd hx hb dX6_look_104 ?_
    refine wz_min ⟨tw 837 (by decide +kernel) rfl, tw 530 (by decide +kernel) rfl, tw 129 (by decide +kernel) rfl, tw 531 (by decide +kernel) rfl⟩ C hl.1 ⟨⟨Nat.le_of_ble_eq_true rfl, Nat.le_of_ble_eq_true rfl⟩, Nat.le_of_ble_eq_true rfl, Nat.le_of_ble_eq_true rfl⟩ (Nat.le_of_ble_eq_true rfl) dX6_look_105 ?_
    obtain ⟨z108, hg, h⟩ := ob h
    refine wz_ast C hW hg dX6_look_108 (fun H locs hW => ?_)
    refine lv_iload hx hb dX6_look_109 (lv_at hl 1 rfl) ?_
    refine lv_iload hx hb dX6_look_111 (lv_at hl 0 rfl) ?_
    refine lv_isub hx hb dX6_look_113 ?_
    refine wz_abs ⟨tw 864 (by decide +kernel) rfl, tw 865 (by decide +kernel) rfl, tw 129 (by decide +kernel) rfl, tw 866 (by decide +kernel) rfl⟩ C hl.1 ⟨⟨Nat.le_of_ble_eq_true rfl, Nat.le_of_ble_eq_true rfl⟩, Nat.le_of_ble_eq_true rfl, Nat.le_of_ble_eq_true rfl⟩ (Nat.le_of_ble_eq_true rfl) dX6_look_114 ?_
    refine lv_aload_n hx hb dX6_look_117 rfl (lv_at hl 3 rfl) ?_
    obtain ⟨b118, hg, h⟩ := ob h
    refine wz_gN C hW flX6_9 hg dX6_look_118 ?_
    obtain ⟨x121, hg, h⟩ := ob h
    refine wz_gI C hW flX6_140 hg dX6_look_121 ?_
    refine lv_icmp_le (tgt := 158) hx hb dX6_look_124 (by decide) (fun c124 => ?_) (fun c124 => ?_)
    · have h := ite_t c124 h
      exact kbX6_look_158 C hlk hr a0 l1 l2 h hW (lv_sub hl [3, 4, 5] rfl)
    · have h := ite_f c124 h
      refine lv_aload_n hx hb dX6_look_127 rfl (lv_at hl 3 rfl) ?_
      obtain ⟨b128, hg, h⟩ := ob h
      refine wz_gN C hW flX6_21 hg dX6_look_128 ?_
      refine lv_iload_n hx hb dX6_look_131 rfl (lv_at hl 5 rfl) ?_
      refine lv_bipush (v := 9) hx hb dX6_look_132 (by decide) ?_
      refine lv_aload_n hx hb dX6_look_134 rfl (lv_at hl 3 rfl) ?_
      obtain ⟨b135, hg, h⟩ := ob h
      refine wz_gN C hW flX6_21 hg dX6_look_135 ?_
      refine lv_iload_n hx hb dX6_look_138 rfl (lv_at hl 5 rfl) ?_
      obtain ⟨x139, hg, h⟩ := ob h
      refine wz_ald C hW hg dX6_look_139 ?_
      refine lv_iconst (v := 1) hx hb dX6_look_140 (by decide) ?_
      refine lv_iadd hx hb dX6_look_141 ?_
      refine wz_min ⟨tw 837 (by decide +kernel) rfl, tw 530 (by decide +kernel) rfl, tw 129 (by decide +kernel) rfl, tw 531 (by decide +kernel) rfl⟩ C hl.1 ⟨⟨Nat.le_of_ble_eq_true rfl, Nat.le_of_ble_eq_true rfl⟩, Nat.le_of_ble_eq_true rfl, Nat.le_of_ble_eq_true rfl⟩ (Nat.le_of_ble_eq_true rfl) dX6_look_142 ?_
      obtain ⟨z145, hg, h⟩ := ob h
      refine wz_ast C hW hg dX6_look_145 (fun H locs hW => ?_)
      refine lv_aload_n hx hb dX6_look_146 rfl (lv_at hl 3 rfl) ?_
      refine lv_dup hx hb dX6_look_147 rfl ?_
      obtain ⟨x148, hg, h⟩ := ob h
      refine wz_gI C hW flX6_67 hg dX6_look_148 ?_
      refine lv_iconst (v := 1) hx hb dX6_look_151 (by decide) ?_
      refine lv_iload_n hx hb dX6_look_152 rfl (lv_at hl 5 rfl) ?_
      refine wz_shl hx hb dX6_look_153 ?_
      refine lv_ior hx hb dX6_look_154 ?_
      obtain ⟨z155, hg, h⟩ := ob h
      refine wz_put (v := (.int (x148 ||| (shl (1 : Int32) l2)))) C hW flX6_67 rfl rfl hg dX6_look_155 (fun H locs hW => ?_)
      exact kbX6_look_158 C hlk hr a0 l1 l2 h hW (lv_sub hl [3, 4, 5] rfl)
  · have h := ite_t c61 h
    refine lv_iconst (v := 0) hx hb dX6_look_64 (by decide) ?_
    exact wz_zretE C hlk hr (Or.inl rfl) (so2 h).1 (so2 h).2 hW dX6_look_65
def bX6_look_58 (a0 : Nat) (l1 : Int32) (l2 : Int32) (z : AH) : Option (Int32 × AH) :=
  bX6_look_59 a0 l1 l2 (0 : Int32) z
set_option maxHeartbeats 4000000 in
set_option maxRecDepth 100000 in
theorem kbX6_look_58 {p : Program} {l : Launch} {e : Env} {s : State} {m : MethodId} {args : Array Value} {below : List Frame} {meth : Method} {c : Code} {G : GW} {r : Int32} {z' : AH} (C : Cx p m c cX6_look 6 s args RX6 G) (hlk : meth.locks = false) (hr : meth.sig.returnType = (some .boolean)) (a0 : Nat) (l1 : Int32) (l2 : Int32) {z : AH} {H : Heap} {locs : List Loc} {ls : Array Slot} (h : bX6_look_58 a0 l1 l2 z = some (r, z')) (hW : Wb G z s H locs) (hl : lv_has ls 6 [(0, .ref (gB G + a0)), (1, .int l1), (2, .int l2)]) : W p l e rmX6_look s m args below meth c H locs 0 0 (MQ below (Qi G r z') args s 0 0 (AA G)) (F0 m 58 ls []) := by
  have hx := C.1
  have hb := C.2.1
  unfold bX6_look_58 at h
  refine lv_iconst (v := 0) hx hb dX6_look_58 (by decide) ?_
  exact kbX6_look_59 C hlk hr a0 l1 l2 (0 : Int32) h hW (lv_sub hl [0, 1, 2] rfl)
def fX6_look (a0 : Nat) (l1 : Int32) (l2 : Int32) (z : AH) : Option (Int32 × AH) :=
  if isO 5 z a0 = true then
    if l1 < (0 : Int32) then (
      bX6_look_58 a0 l1 l2 z
    ) else (
      (gN 5 0 z a0).bind fun b6 =>
      (gI 0 14 z b6).bind fun x9 =>
      if x9 ≤ l1 then (
        bX6_look_58 a0 l1 l2 z
      ) else (
        (gN 5 3 z a0).bind fun b17 =>
        (lnI 0 z b17).bind fun x20 =>
        if x20 ≤ l1 then (
          bX6_look_58 a0 l1 l2 z
        ) else (
          (fX6_isThere a0 l2 z).bind fun x26 =>
          if x26 = (0 : Int32) then (
            bX6_look_58 a0 l1 l2 z
          ) else (
            (gI 5 8 z a0).bind fun x33 =>
            if (fX9_hasBit x33 l1) = (0 : Int32) then (
              (gI 5 10 z a0).bind fun x44 =>
              if (fX9_hasBit x44 l1) = (0 : Int32) then (
                bX6_look_59 a0 l1 l2 (1 : Int32) z
              ) else (
                bX6_look_58 a0 l1 l2 z
              )
            ) else (
              bX6_look_58 a0 l1 l2 z
            )
          )
        )
      )
    )
  else none
set_option maxHeartbeats 4000000 in
set_option maxRecDepth 100000 in
theorem ctX6_look (l : Launch) (G : GW) (a0 : Nat) (l1 : Int32) (l2 : Int32) (z : AH) {r : Int32} {z' : AH} (h : fX6_look a0 l1 l2 z = some (r, z')) : Met l yX6_look (wy yX6_look cX6_look 6 (some .boolean)) rmX6_look (Pz G [.ref (gB G + a0), .int l1, .int l2] z) (Qi G r z') 0 0 (AA G) := by
  refine wz_ent (own := RX6) (by decide +kernel) rfl (fun p e s m below meth c ls C hlk hr hin hW hl => ?_) (Nat.le_of_ble_eq_true rfl)
  have hl : lv_has ls 6 [(0, .ref (gB G + a0)), (1, .int l1), (2, .int l2)] := hl
  have hx := C.1
  have hb := C.2.1
  unfold fX6_look at h
  obtain ⟨-, h⟩ := ck h
  refine lv_iload_n hx hb dX6_look_0 rfl (lv_at hl 1 rfl) ?_
  refine lv_if_lt (tgt := 58) hx hb dX6_look_1 (by decide) (fun c1 => ?_) (fun c1 => ?_)
  · have h := ite_t c1 h
    exact kbX6_look_58 C hlk hr a0 l1 l2 h hW (lv_sub hl [0, 1, 2] rfl)
  · have h := ite_f c1 h
    refine lv_iload_n hx hb dX6_look_4 rfl (lv_at hl 1 rfl) ?_
    refine lv_aload_n hx hb dX6_look_5 rfl (lv_at hl 0 rfl) ?_
    obtain ⟨b6, hg, h⟩ := ob h
    refine wz_gN C hW flX6_9 hg dX6_look_6 ?_
    obtain ⟨x9, hg, h⟩ := ob h
    refine wz_gI C hW flX6_125 hg dX6_look_9 ?_
    refine lv_icmp_ge (tgt := 58) hx hb dX6_look_12 (by decide) (fun c12 => ?_) (fun c12 => ?_)
    · have h := ite_t c12 h
      exact kbX6_look_58 C hlk hr a0 l1 l2 h hW (lv_sub hl [0, 1, 2] rfl)
    · have h := ite_f c12 h
      refine lv_iload_n hx hb dX6_look_15 rfl (lv_at hl 1 rfl) ?_
      refine lv_aload_n hx hb dX6_look_16 rfl (lv_at hl 0 rfl) ?_
      obtain ⟨b17, hg, h⟩ := ob h
      refine wz_gN C hW flX6_27 hg dX6_look_17 ?_
      obtain ⟨x20, hg, h⟩ := ob h
      refine wz_len C hW hg dX6_look_20 ?_
      refine lv_icmp_ge (tgt := 58) hx hb dX6_look_21 (by decide) (fun c21 => ?_) (fun c21 => ?_)
      · have h := ite_t c21 h
        exact kbX6_look_58 C hlk hr a0 l1 l2 h hW (lv_sub hl [0, 1, 2] rfl)
      · have h := ite_f c21 h
        refine lv_aload_n hx hb dX6_look_24 rfl (lv_at hl 0 rfl) ?_
        refine lv_iload_n hx hb dX6_look_25 rfl (lv_at hl 2 rfl) ?_
        obtain ⟨x26, hq, h⟩ := ob h
        refine wz_rI (c' := 0) (s' := 0) hW (wz_runV (rest := []) C hW lVX6_128 (ck hq).1 rfl (ctX6_isThere l G a0 l2 z hq) ⟨⟨rfl, rfl⟩, Nat.le_of_ble_eq_true rfl, Nat.le_of_ble_eq_true rfl⟩ rfl hl.1 rfl (Nat.le_of_ble_eq_true rfl) dX6_look_26 ⟨Nat.le_of_ble_eq_true rfl, Nat.le_of_ble_eq_true rfl⟩) rfl rfl (fun H locs hW => ?_)
        refine lv_if_eq (tgt := 58) hx hb dX6_look_29 (by decide) (fun c29 => ?_) (fun c29 => ?_)
        · have h := ite_t c29 h
          exact kbX6_look_58 C hlk hr a0 l1 l2 h hW (lv_sub hl [0, 1, 2] rfl)
        · have h := ite_f c29 h
          refine lv_aload_n hx hb dX6_look_32 rfl (lv_at hl 0 rfl) ?_
          obtain ⟨x33, hg, h⟩ := ob h
          refine wz_gI C hW flX6_55 hg dX6_look_33 ?_
          refine lv_iload_n hx hb dX6_look_36 rfl (lv_at hl 1 rfl) ?_
          refine wz_rI (c' := 0) (s' := 0) hW (wz_runN (rest := []) C hW lNX6_77 (ctX9_hasBit l G x33 l1 z rfl) ⟨⟨rfl, rfl⟩, Nat.le_of_ble_eq_true rfl, Nat.le_of_ble_eq_true rfl⟩ rfl hl.1 rfl (Nat.le_of_ble_eq_true rfl) dX6_look_37 ⟨Nat.le_of_ble_eq_true rfl, Nat.le_of_ble_eq_true rfl⟩) rfl rfl (fun H locs hW => ?_)
          refine lv_if_ne (tgt := 58) hx hb dX6_look_40 (by decide) (fun c40 => ?_) (fun c40 => ?_)
          · have h := ite_f c40 h
            exact kbX6_look_58 C hlk hr a0 l1 l2 h hW (lv_sub hl [0, 1, 2] rfl)
          · have h := ite_t c40 h
            refine lv_aload_n hx hb dX6_look_43 rfl (lv_at hl 0 rfl) ?_
            obtain ⟨x44, hg, h⟩ := ob h
            refine wz_gI C hW flX6_61 hg dX6_look_44 ?_
            refine lv_iload_n hx hb dX6_look_47 rfl (lv_at hl 1 rfl) ?_
            refine wz_rI (c' := 0) (s' := 0) hW (wz_runN (rest := []) C hW lNX6_77 (ctX9_hasBit l G x44 l1 z rfl) ⟨⟨rfl, rfl⟩, Nat.le_of_ble_eq_true rfl, Nat.le_of_ble_eq_true rfl⟩ rfl hl.1 rfl (Nat.le_of_ble_eq_true rfl) dX6_look_48 ⟨Nat.le_of_ble_eq_true rfl, Nat.le_of_ble_eq_true rfl⟩) rfl rfl (fun H locs hW => ?_)
            refine lv_if_ne (tgt := 58) hx hb dX6_look_51 (by decide) (fun c51 => ?_) (fun c51 => ?_)
            · have h := ite_f c51 h
              exact kbX6_look_58 C hlk hr a0 l1 l2 h hW (lv_sub hl [0, 1, 2] rfl)
            · have h := ite_t c51 h
              refine lv_iconst (v := 1) hx hb dX6_look_54 (by decide) ?_
              refine lv_goto (tgt := 59) hx hb dX6_look_55 (by decide) ?_
              exact kbX6_look_59 C hlk hr a0 l1 l2 (1 : Int32) h hW (lv_sub hl [0, 1, 2] rfl)
theorem dX6_quarrel_0 : decode cX6_quarrel 0 = .ok (.iload_n 1, 1) := by decide +kernel
theorem dX6_quarrel_1 : decode cX6_quarrel 1 = .ok (.ifCond .lt 25, 3) := by decide +kernel
theorem dX6_quarrel_4 : decode cX6_quarrel 4 = .ok (.iload_n 1, 1) := by decide +kernel
theorem dX6_quarrel_5 : decode cX6_quarrel 5 = .ok (.aload_n 0, 1) := by decide +kernel
theorem dX6_quarrel_6 : decode cX6_quarrel 6 = .ok (.getfield 9, 3) := by decide +kernel
theorem dX6_quarrel_9 : decode cX6_quarrel 9 = .ok (.getfield 125, 3) := by decide +kernel
theorem dX6_quarrel_12 : decode cX6_quarrel 12 = .ok (.if_icmp .ge 14, 3) := by decide +kernel
theorem dX6_quarrel_15 : decode cX6_quarrel 15 = .ok (.aload_n 0, 1) := by decide +kernel
theorem dX6_quarrel_16 : decode cX6_quarrel 16 = .ok (.getfield 55, 3) := by decide +kernel
theorem dX6_quarrel_19 : decode cX6_quarrel 19 = .ok (.iload_n 1, 1) := by decide +kernel
theorem dX6_quarrel_20 : decode cX6_quarrel 20 = .ok (.invokestatic 77, 3) := by decide +kernel
theorem dX6_quarrel_23 : decode cX6_quarrel 23 = .ok (.ifCond .eq 5, 3) := by decide +kernel
theorem dX6_quarrel_26 : decode cX6_quarrel 26 = .ok (.iconst 0, 1) := by decide +kernel
theorem dX6_quarrel_27 : decode cX6_quarrel 27 = .ok (.ireturn, 1) := by decide +kernel
theorem dX6_quarrel_28 : decode cX6_quarrel 28 = .ok (.aload_n 0, 1) := by decide +kernel
theorem dX6_quarrel_29 : decode cX6_quarrel 29 = .ok (.dup, 1) := by decide +kernel
theorem dX6_quarrel_30 : decode cX6_quarrel 30 = .ok (.getfield 55, 3) := by decide +kernel
theorem dX6_quarrel_33 : decode cX6_quarrel 33 = .ok (.iconst 1, 1) := by decide +kernel
theorem dX6_quarrel_34 : decode cX6_quarrel 34 = .ok (.iload_n 1, 1) := by decide +kernel
theorem dX6_quarrel_35 : decode cX6_quarrel 35 = .ok (.ishl, 1) := by decide +kernel
theorem dX6_quarrel_36 : decode cX6_quarrel 36 = .ok (.ior, 1) := by decide +kernel
theorem dX6_quarrel_37 : decode cX6_quarrel 37 = .ok (.putfield 55, 3) := by decide +kernel
theorem dX6_quarrel_40 : decode cX6_quarrel 40 = .ok (.iconst 1, 1) := by decide +kernel
theorem dX6_quarrel_41 : decode cX6_quarrel 41 = .ok (.ireturn, 1) := by decide +kernel
abbrev rmX6_quarrel : Room := { frames := 1, cells := 0, slots := 0, locals := 21 }
def fX6_quarrel (a0 : Nat) (l1 : Int32) (z : AH) : Option (Int32 × AH) :=
  if isO 5 z a0 = true then
    if l1 < (0 : Int32) then (
      some ((0 : Int32), z)
    ) else (
      (gN 5 0 z a0).bind fun b6 =>
      (gI 0 14 z b6).bind fun x9 =>
      if x9 ≤ l1 then (
        some ((0 : Int32), z)
      ) else (
        (gI 5 8 z a0).bind fun x16 =>
        if (fX9_hasBit x16 l1) = (0 : Int32) then (
          (gI 5 8 z a0).bind fun x30 =>
          (pF 5 8 z a0 (.int (x30 ||| (shl (1 : Int32) l1)))).bind fun z37 =>
          some ((1 : Int32), z37)
        ) else (
          some ((0 : Int32), z)
        )
      )
    )
  else none
set_option maxHeartbeats 4000000 in
set_option maxRecDepth 100000 in
theorem ctX6_quarrel (l : Launch) (G : GW) (a0 : Nat) (l1 : Int32) (z : AH) {r : Int32} {z' : AH} (h : fX6_quarrel a0 l1 z = some (r, z')) : Met l yX6_quarrel (wy yX6_quarrel cX6_quarrel 2 (some .boolean)) rmX6_quarrel (Pz G [.ref (gB G + a0), .int l1] z) (Qi G r z') 0 0 (AA G) := by
  refine wz_ent (own := RX6) (by decide +kernel) rfl (fun p e s m below meth c ls C hlk hr hin hW hl => ?_) (Nat.le_of_ble_eq_true rfl)
  have hl : lv_has ls 2 [(0, .ref (gB G + a0)), (1, .int l1)] := hl
  have hx := C.1
  have hb := C.2.1
  unfold fX6_quarrel at h
  obtain ⟨-, h⟩ := ck h
  refine lv_iload_n hx hb dX6_quarrel_0 rfl (lv_at hl 1 rfl) ?_
  refine lv_if_lt (tgt := 26) hx hb dX6_quarrel_1 (by decide) (fun c1 => ?_) (fun c1 => ?_)
  · have h := ite_t c1 h
    refine lv_iconst (v := 0) hx hb dX6_quarrel_26 (by decide) ?_
    exact wz_zretE C hlk hr (Or.inl rfl) (so2 h).1 (so2 h).2 hW dX6_quarrel_27
  · have h := ite_f c1 h
    refine lv_iload_n hx hb dX6_quarrel_4 rfl (lv_at hl 1 rfl) ?_
    refine lv_aload_n hx hb dX6_quarrel_5 rfl (lv_at hl 0 rfl) ?_
    obtain ⟨b6, hg, h⟩ := ob h
    refine wz_gN C hW flX6_9 hg dX6_quarrel_6 ?_
    obtain ⟨x9, hg, h⟩ := ob h
    refine wz_gI C hW flX6_125 hg dX6_quarrel_9 ?_
    refine lv_icmp_ge (tgt := 26) hx hb dX6_quarrel_12 (by decide) (fun c12 => ?_) (fun c12 => ?_)
    · have h := ite_t c12 h
      refine lv_iconst (v := 0) hx hb dX6_quarrel_26 (by decide) ?_
      exact wz_zretE C hlk hr (Or.inl rfl) (so2 h).1 (so2 h).2 hW dX6_quarrel_27
    · have h := ite_f c12 h
      refine lv_aload_n hx hb dX6_quarrel_15 rfl (lv_at hl 0 rfl) ?_
      obtain ⟨x16, hg, h⟩ := ob h
      refine wz_gI C hW flX6_55 hg dX6_quarrel_16 ?_
      refine lv_iload_n hx hb dX6_quarrel_19 rfl (lv_at hl 1 rfl) ?_
      refine wz_rI (c' := 0) (s' := 0) hW (wz_runN (rest := []) C hW lNX6_77 (ctX9_hasBit l G x16 l1 z rfl) ⟨⟨rfl, rfl⟩, Nat.le_of_ble_eq_true rfl, Nat.le_of_ble_eq_true rfl⟩ rfl hl.1 rfl (Nat.le_of_ble_eq_true rfl) dX6_quarrel_20 ⟨Nat.le_of_ble_eq_true rfl, Nat.le_of_ble_eq_true rfl⟩) rfl rfl (fun H locs hW => ?_)
      refine lv_if_eq (tgt := 28) hx hb dX6_quarrel_23 (by decide) (fun c23 => ?_) (fun c23 => ?_)
      · have h := ite_t c23 h
        refine lv_aload_n hx hb dX6_quarrel_28 rfl (lv_at hl 0 rfl) ?_
        refine lv_dup hx hb dX6_quarrel_29 rfl ?_
        obtain ⟨x30, hg, h⟩ := ob h
        refine wz_gI C hW flX6_55 hg dX6_quarrel_30 ?_
        refine lv_iconst (v := 1) hx hb dX6_quarrel_33 (by decide) ?_
        refine lv_iload_n hx hb dX6_quarrel_34 rfl (lv_at hl 1 rfl) ?_
        refine wz_shl hx hb dX6_quarrel_35 ?_
        refine lv_ior hx hb dX6_quarrel_36 ?_
        obtain ⟨z37, hg, h⟩ := ob h
        refine wz_put (v := (.int (x30 ||| (shl (1 : Int32) l1)))) C hW flX6_55 rfl rfl hg dX6_quarrel_37 (fun H locs hW => ?_)
        refine lv_iconst (v := 1) hx hb dX6_quarrel_40 (by decide) ?_
        exact wz_zretE C hlk hr (Or.inr rfl) (so2 h).1 (so2 h).2 hW dX6_quarrel_41
      · have h := ite_f c23 h
        refine lv_iconst (v := 0) hx hb dX6_quarrel_26 (by decide) ?_
        exact wz_zretE C hlk hr (Or.inl rfl) (so2 h).1 (so2 h).2 hW dX6_quarrel_27
theorem dX6_reconcile_0 : decode cX6_reconcile 0 = .ok (.iload_n 1, 1) := by decide +kernel
theorem dX6_reconcile_1 : decode cX6_reconcile 1 = .ok (.ifCond .lt 25, 3) := by decide +kernel
theorem dX6_reconcile_4 : decode cX6_reconcile 4 = .ok (.iload_n 1, 1) := by decide +kernel
theorem dX6_reconcile_5 : decode cX6_reconcile 5 = .ok (.aload_n 0, 1) := by decide +kernel
theorem dX6_reconcile_6 : decode cX6_reconcile 6 = .ok (.getfield 9, 3) := by decide +kernel
theorem dX6_reconcile_9 : decode cX6_reconcile 9 = .ok (.getfield 125, 3) := by decide +kernel
theorem dX6_reconcile_12 : decode cX6_reconcile 12 = .ok (.if_icmp .ge 14, 3) := by decide +kernel
theorem dX6_reconcile_15 : decode cX6_reconcile 15 = .ok (.aload_n 0, 1) := by decide +kernel
theorem dX6_reconcile_16 : decode cX6_reconcile 16 = .ok (.getfield 55, 3) := by decide +kernel
theorem dX6_reconcile_19 : decode cX6_reconcile 19 = .ok (.iload_n 1, 1) := by decide +kernel
theorem dX6_reconcile_20 : decode cX6_reconcile 20 = .ok (.invokestatic 77, 3) := by decide +kernel
theorem dX6_reconcile_23 : decode cX6_reconcile 23 = .ok (.ifCond .ne 5, 3) := by decide +kernel
theorem dX6_reconcile_26 : decode cX6_reconcile 26 = .ok (.iconst 0, 1) := by decide +kernel
theorem dX6_reconcile_27 : decode cX6_reconcile 27 = .ok (.ireturn, 1) := by decide +kernel
theorem dX6_reconcile_28 : decode cX6_reconcile 28 = .ok (.aload_n 0, 1) := by decide +kernel
theorem dX6_reconcile_29 : decode cX6_reconcile 29 = .ok (.dup, 1) := by decide +kernel
theorem dX6_reconcile_30 : decode cX6_reconcile 30 = .ok (.getfield 55, 3) := by decide +kernel
theorem dX6_reconcile_33 : decode cX6_reconcile 33 = .ok (.iconst 1, 1) := by decide +kernel
theorem dX6_reconcile_34 : decode cX6_reconcile 34 = .ok (.iload_n 1, 1) := by decide +kernel
theorem dX6_reconcile_35 : decode cX6_reconcile 35 = .ok (.ishl, 1) := by decide +kernel
theorem dX6_reconcile_36 : decode cX6_reconcile 36 = .ok (.iconst (-1), 1) := by decide +kernel
theorem dX6_reconcile_37 : decode cX6_reconcile 37 = .ok (.ixor, 1) := by decide +kernel
theorem dX6_reconcile_38 : decode cX6_reconcile 38 = .ok (.iand, 1) := by decide +kernel
theorem dX6_reconcile_39 : decode cX6_reconcile 39 = .ok (.putfield 55, 3) := by decide +kernel
theorem dX6_reconcile_42 : decode cX6_reconcile 42 = .ok (.iconst 1, 1) := by decide +kernel
theorem dX6_reconcile_43 : decode cX6_reconcile 43 = .ok (.ireturn, 1) := by decide +kernel
abbrev rmX6_reconcile : Room := { frames := 1, cells := 0, slots := 0, locals := 21 }
def fX6_reconcile (a0 : Nat) (l1 : Int32) (z : AH) : Option (Int32 × AH) :=
  if isO 5 z a0 = true then
    if l1 < (0 : Int32) then (
      some ((0 : Int32), z)
    ) else (
      (gN 5 0 z a0).bind fun b6 =>
      (gI 0 14 z b6).bind fun x9 =>
      if x9 ≤ l1 then (
        some ((0 : Int32), z)
      ) else (
        (gI 5 8 z a0).bind fun x16 =>
        if (fX9_hasBit x16 l1) = (0 : Int32) then (
          some ((0 : Int32), z)
        ) else (
          (gI 5 8 z a0).bind fun x30 =>
          (pF 5 8 z a0 (.int (x30 &&& ((shl (1 : Int32) l1) ^^^ (-1 : Int32))))).bind fun z39 =>
          some ((1 : Int32), z39)
        )
      )
    )
  else none
set_option maxHeartbeats 4000000 in
set_option maxRecDepth 100000 in
theorem ctX6_reconcile (l : Launch) (G : GW) (a0 : Nat) (l1 : Int32) (z : AH) {r : Int32} {z' : AH} (h : fX6_reconcile a0 l1 z = some (r, z')) : Met l yX6_reconcile (wy yX6_reconcile cX6_reconcile 2 (some .boolean)) rmX6_reconcile (Pz G [.ref (gB G + a0), .int l1] z) (Qi G r z') 0 0 (AA G) := by
  refine wz_ent (own := RX6) (by decide +kernel) rfl (fun p e s m below meth c ls C hlk hr hin hW hl => ?_) (Nat.le_of_ble_eq_true rfl)
  have hl : lv_has ls 2 [(0, .ref (gB G + a0)), (1, .int l1)] := hl
  have hx := C.1
  have hb := C.2.1
  unfold fX6_reconcile at h
  obtain ⟨-, h⟩ := ck h
  refine lv_iload_n hx hb dX6_reconcile_0 rfl (lv_at hl 1 rfl) ?_
  refine lv_if_lt (tgt := 26) hx hb dX6_reconcile_1 (by decide) (fun c1 => ?_) (fun c1 => ?_)
  · have h := ite_t c1 h
    refine lv_iconst (v := 0) hx hb dX6_reconcile_26 (by decide) ?_
    exact wz_zretE C hlk hr (Or.inl rfl) (so2 h).1 (so2 h).2 hW dX6_reconcile_27
  · have h := ite_f c1 h
    refine lv_iload_n hx hb dX6_reconcile_4 rfl (lv_at hl 1 rfl) ?_
    refine lv_aload_n hx hb dX6_reconcile_5 rfl (lv_at hl 0 rfl) ?_
    obtain ⟨b6, hg, h⟩ := ob h
    refine wz_gN C hW flX6_9 hg dX6_reconcile_6 ?_
    obtain ⟨x9, hg, h⟩ := ob h
    refine wz_gI C hW flX6_125 hg dX6_reconcile_9 ?_
    refine lv_icmp_ge (tgt := 26) hx hb dX6_reconcile_12 (by decide) (fun c12 => ?_) (fun c12 => ?_)
    · have h := ite_t c12 h
      refine lv_iconst (v := 0) hx hb dX6_reconcile_26 (by decide) ?_
      exact wz_zretE C hlk hr (Or.inl rfl) (so2 h).1 (so2 h).2 hW dX6_reconcile_27
    · have h := ite_f c12 h
      refine lv_aload_n hx hb dX6_reconcile_15 rfl (lv_at hl 0 rfl) ?_
      obtain ⟨x16, hg, h⟩ := ob h
      refine wz_gI C hW flX6_55 hg dX6_reconcile_16 ?_
      refine lv_iload_n hx hb dX6_reconcile_19 rfl (lv_at hl 1 rfl) ?_
      refine wz_rI (c' := 0) (s' := 0) hW (wz_runN (rest := []) C hW lNX6_77 (ctX9_hasBit l G x16 l1 z rfl) ⟨⟨rfl, rfl⟩, Nat.le_of_ble_eq_true rfl, Nat.le_of_ble_eq_true rfl⟩ rfl hl.1 rfl (Nat.le_of_ble_eq_true rfl) dX6_reconcile_20 ⟨Nat.le_of_ble_eq_true rfl, Nat.le_of_ble_eq_true rfl⟩) rfl rfl (fun H locs hW => ?_)
      refine lv_if_ne (tgt := 28) hx hb dX6_reconcile_23 (by decide) (fun c23 => ?_) (fun c23 => ?_)
      · have h := ite_f c23 h
        refine lv_aload_n hx hb dX6_reconcile_28 rfl (lv_at hl 0 rfl) ?_
        refine lv_dup hx hb dX6_reconcile_29 rfl ?_
        obtain ⟨x30, hg, h⟩ := ob h
        refine wz_gI C hW flX6_55 hg dX6_reconcile_30 ?_
        refine lv_iconst (v := 1) hx hb dX6_reconcile_33 (by decide) ?_
        refine lv_iload_n hx hb dX6_reconcile_34 rfl (lv_at hl 1 rfl) ?_
        refine wz_shl hx hb dX6_reconcile_35 ?_
        refine lv_iconst (v := -1) hx hb dX6_reconcile_36 (by decide) ?_
        refine lv_ixor hx hb dX6_reconcile_37 ?_
        refine lv_iand hx hb dX6_reconcile_38 ?_
        obtain ⟨z39, hg, h⟩ := ob h
        refine wz_put (v := (.int (x30 &&& ((shl (1 : Int32) l1) ^^^ (-1 : Int32))))) C hW flX6_55 rfl rfl hg dX6_reconcile_39 (fun H locs hW => ?_)
        refine lv_iconst (v := 1) hx hb dX6_reconcile_42 (by decide) ?_
        exact wz_zretE C hlk hr (Or.inr rfl) (so2 h).1 (so2 h).2 hW dX6_reconcile_43
      · have h := ite_t c23 h
        refine lv_iconst (v := 0) hx hb dX6_reconcile_26 (by decide) ?_
        exact wz_zretE C hlk hr (Or.inl rfl) (so2 h).1 (so2 h).2 hW dX6_reconcile_27
theorem dX6_forge_0 : decode cX6_forge 0 = .ok (.aload_n 0, 1) := by decide +kernel
theorem dX6_forge_1 : decode cX6_forge 1 = .ok (.iload_n 1, 1) := by decide +kernel
theorem dX6_forge_2 : decode cX6_forge 2 = .ok (.invokevirtual 128, 3) := by decide +kernel
theorem dX6_forge_5 : decode cX6_forge 5 = .ok (.ifCond .ne 5, 3) := by decide +kernel
theorem dX6_forge_8 : decode cX6_forge 8 = .ok (.iconst 0, 1) := by decide +kernel
theorem dX6_forge_9 : decode cX6_forge 9 = .ok (.ireturn, 1) := by decide +kernel
theorem dX6_forge_10 : decode cX6_forge 10 = .ok (.aload_n 0, 1) := by decide +kernel
theorem dX6_forge_11 : decode cX6_forge 11 = .ok (.getfield 17, 3) := by decide +kernel
theorem dX6_forge_14 : decode cX6_forge 14 = .ok (.iload_n 1, 1) := by decide +kernel
theorem dX6_forge_15 : decode cX6_forge 15 = .ok (.bipush 99, 2) := by decide +kernel
theorem dX6_forge_17 : decode cX6_forge 17 = .ok (.iconst 2, 1) := by decide +kernel
theorem dX6_forge_18 : decode cX6_forge 18 = .ok (.aload_n 0, 1) := by decide +kernel
theorem dX6_forge_19 : decode cX6_forge 19 = .ok (.getfield 17, 3) := by decide +kernel
theorem dX6_forge_22 : decode cX6_forge 22 = .ok (.iload_n 1, 1) := by decide +kernel
theorem dX6_forge_23 : decode cX6_forge 23 = .ok (.iaload, 1) := by decide +kernel
theorem dX6_forge_24 : decode cX6_forge 24 = .ok (.imul, 1) := by decide +kernel
theorem dX6_forge_25 : decode cX6_forge 25 = .ok (.invokestatic 96, 3) := by decide +kernel
theorem dX6_forge_28 : decode cX6_forge 28 = .ok (.iastore, 1) := by decide +kernel
theorem dX6_forge_29 : decode cX6_forge 29 = .ok (.aload_n 0, 1) := by decide +kernel
theorem dX6_forge_30 : decode cX6_forge 30 = .ok (.dup, 1) := by decide +kernel
theorem dX6_forge_31 : decode cX6_forge 31 = .ok (.getfield 58, 3) := by decide +kernel
theorem dX6_forge_34 : decode cX6_forge 34 = .ok (.iconst 1, 1) := by decide +kernel
theorem dX6_forge_35 : decode cX6_forge 35 = .ok (.iload_n 1, 1) := by decide +kernel
theorem dX6_forge_36 : decode cX6_forge 36 = .ok (.ishl, 1) := by decide +kernel
theorem dX6_forge_37 : decode cX6_forge 37 = .ok (.ior, 1) := by decide +kernel
theorem dX6_forge_38 : decode cX6_forge 38 = .ok (.putfield 58, 3) := by decide +kernel
theorem dX6_forge_41 : decode cX6_forge 41 = .ok (.iconst 1, 1) := by decide +kernel
theorem dX6_forge_42 : decode cX6_forge 42 = .ok (.ireturn, 1) := by decide +kernel
abbrev rmX6_forge : Room := { frames := 2, cells := 0, slots := 0, locals := 42 }
def fX6_forge (a0 : Nat) (l1 : Int32) (z : AH) : Option (Int32 × AH) :=
  if isO 5 z a0 = true then
    (fX6_isThere a0 l1 z).bind fun x2 =>
    if x2 = (0 : Int32) then (
      some ((0 : Int32), z)
    ) else (
      (gN 5 1 z a0).bind fun b11 =>
      (gN 5 1 z a0).bind fun b19 =>
      (ixI 0 z b19 l1).bind fun x23 =>
      (stI 0 z b11 l1 (imin (99 : Int32) ((2 : Int32) * x23))).bind fun z28 =>
      (gI 5 9 z28 a0).bind fun x31 =>
      (pF 5 9 z28 a0 (.int (x31 ||| (shl (1 : Int32) l1)))).bind fun z38 =>
      some ((1 : Int32), z38)
    )
  else none
set_option maxHeartbeats 4000000 in
set_option maxRecDepth 100000 in
theorem ctX6_forge (l : Launch) (G : GW) (a0 : Nat) (l1 : Int32) (z : AH) {r : Int32} {z' : AH} (h : fX6_forge a0 l1 z = some (r, z')) : Met l yX6_forge (wy yX6_forge cX6_forge 2 (some .boolean)) rmX6_forge (Pz G [.ref (gB G + a0), .int l1] z) (Qi G r z') 0 0 (AA G) := by
  refine wz_ent (own := RX6) (by decide +kernel) rfl (fun p e s m below meth c ls C hlk hr hin hW hl => ?_) (Nat.le_of_ble_eq_true rfl)
  have hl : lv_has ls 2 [(0, .ref (gB G + a0)), (1, .int l1)] := hl
  have hx := C.1
  have hb := C.2.1
  unfold fX6_forge at h
  obtain ⟨-, h⟩ := ck h
  refine lv_aload_n hx hb dX6_forge_0 rfl (lv_at hl 0 rfl) ?_
  refine lv_iload_n hx hb dX6_forge_1 rfl (lv_at hl 1 rfl) ?_
  obtain ⟨x2, hq, h⟩ := ob h
  refine wz_rI (c' := 0) (s' := 0) hW (wz_runV (rest := []) C hW lVX6_128 (ck hq).1 rfl (ctX6_isThere l G a0 l1 z hq) ⟨⟨rfl, rfl⟩, Nat.le_of_ble_eq_true rfl, Nat.le_of_ble_eq_true rfl⟩ rfl hl.1 rfl (Nat.le_of_ble_eq_true rfl) dX6_forge_2 ⟨Nat.le_of_ble_eq_true rfl, Nat.le_of_ble_eq_true rfl⟩) rfl rfl (fun H locs hW => ?_)
  refine lv_if_ne (tgt := 10) hx hb dX6_forge_5 (by decide) (fun c5 => ?_) (fun c5 => ?_)
  · have h := ite_f c5 h
    refine lv_aload_n hx hb dX6_forge_10 rfl (lv_at hl 0 rfl) ?_
    obtain ⟨b11, hg, h⟩ := ob h
    refine wz_gN C hW flX6_17 hg dX6_forge_11 ?_
    refine lv_iload_n hx hb dX6_forge_14 rfl (lv_at hl 1 rfl) ?_
    refine lv_bipush (v := 99) hx hb dX6_forge_15 (by decide) ?_
    refine lv_iconst (v := 2) hx hb dX6_forge_17 (by decide) ?_
    refine lv_aload_n hx hb dX6_forge_18 rfl (lv_at hl 0 rfl) ?_
    obtain ⟨b19, hg, h⟩ := ob h
    refine wz_gN C hW flX6_17 hg dX6_forge_19 ?_
    refine lv_iload_n hx hb dX6_forge_22 rfl (lv_at hl 1 rfl) ?_
    obtain ⟨x23, hg, h⟩ := ob h
    refine wz_ald C hW hg dX6_forge_23 ?_
    refine lv_imul hx hb dX6_forge_24 ?_
    refine wz_min ⟨tw 837 (by decide +kernel) rfl, tw 530 (by decide +kernel) rfl, tw 129 (by decide +kernel) rfl, tw 531 (by decide +kernel) rfl⟩ C hl.1 ⟨⟨Nat.le_of_ble_eq_true rfl, Nat.le_of_ble_eq_true rfl⟩, Nat.le_of_ble_eq_true rfl, Nat.le_of_ble_eq_true rfl⟩ (Nat.le_of_ble_eq_true rfl) dX6_forge_25 ?_
    obtain ⟨z28, hg, h⟩ := ob h
    refine wz_ast C hW hg dX6_forge_28 (fun H locs hW => ?_)
    refine lv_aload_n hx hb dX6_forge_29 rfl (lv_at hl 0 rfl) ?_
    refine lv_dup hx hb dX6_forge_30 rfl ?_
    obtain ⟨x31, hg, h⟩ := ob h
    refine wz_gI C hW flX6_58 hg dX6_forge_31 ?_
    refine lv_iconst (v := 1) hx hb dX6_forge_34 (by decide) ?_
    refine lv_iload_n hx hb dX6_forge_35 rfl (lv_at hl 1 rfl) ?_
    refine wz_shl hx hb dX6_forge_36 ?_
    refine lv_ior hx hb dX6_forge_37 ?_
    obtain ⟨z38, hg, h⟩ := ob h
    refine wz_put (v := (.int (x31 ||| (shl (1 : Int32) l1)))) C hW flX6_58 rfl rfl hg dX6_forge_38 (fun H locs hW => ?_)
    refine lv_iconst (v := 1) hx hb dX6_forge_41 (by decide) ?_
    exact wz_zretE C hlk hr (Or.inr rfl) (so2 h).1 (so2 h).2 hW dX6_forge_42
  · have h := ite_t c5 h
    refine lv_iconst (v := 0) hx hb dX6_forge_8 (by decide) ?_
    exact wz_zretE C hlk hr (Or.inl rfl) (so2 h).1 (so2 h).2 hW dX6_forge_9
theorem flX6_143 : FL RX6 143 0 3 := ⟨_, rfl, Nat.le_of_ble_eq_true rfl, tw 162 (by decide +kernel) rfl, rfl⟩
theorem dX6_passHour_0 : decode cX6_passHour 0 = .ok (.iconst 0, 1) := by decide +kernel
theorem dX6_passHour_1 : decode cX6_passHour 1 = .ok (.istore_n 1, 1) := by decide +kernel
theorem dX6_passHour_2 : decode cX6_passHour 2 = .ok (.iload_n 1, 1) := by decide +kernel
theorem dX6_passHour_3 : decode cX6_passHour 3 = .ok (.aload_n 0, 1) := by decide +kernel
theorem dX6_passHour_4 : decode cX6_passHour 4 = .ok (.getfield 9, 3) := by decide +kernel
theorem dX6_passHour_7 : decode cX6_passHour 7 = .ok (.getfield 81, 3) := by decide +kernel
theorem dX6_passHour_10 : decode cX6_passHour 10 = .ok (.if_icmp .ge 51, 3) := by decide +kernel
theorem dX6_passHour_13 : decode cX6_passHour 13 = .ok (.aload_n 0, 1) := by decide +kernel
theorem dX6_passHour_14 : decode cX6_passHour 14 = .ok (.getfield 37, 3) := by decide +kernel
theorem dX6_passHour_17 : decode cX6_passHour 17 = .ok (.aload_n 0, 1) := by decide +kernel
theorem dX6_passHour_18 : decode cX6_passHour 18 = .ok (.getfield 64, 3) := by decide +kernel
theorem dX6_passHour_21 : decode cX6_passHour 21 = .ok (.ior, 1) := by decide +kernel
theorem dX6_passHour_22 : decode cX6_passHour 22 = .ok (.iload_n 1, 1) := by decide +kernel
theorem dX6_passHour_23 : decode cX6_passHour 23 = .ok (.invokestatic 77, 3) := by decide +kernel
theorem dX6_passHour_26 : decode cX6_passHour 26 = .ok (.ifCond .ne 29, 3) := by decide +kernel
theorem dX6_passHour_29 : decode cX6_passHour 29 = .ok (.aload_n 0, 1) := by decide +kernel
theorem dX6_passHour_30 : decode cX6_passHour 30 = .ok (.getfield 17, 3) := by decide +kernel
theorem dX6_passHour_33 : decode cX6_passHour 33 = .ok (.iload_n 1, 1) := by decide +kernel
theorem dX6_passHour_34 : decode cX6_passHour 34 = .ok (.iconst 0, 1) := by decide +kernel
theorem dX6_passHour_35 : decode cX6_passHour 35 = .ok (.aload_n 0, 1) := by decide +kernel
theorem dX6_passHour_36 : decode cX6_passHour 36 = .ok (.getfield 17, 3) := by decide +kernel
theorem dX6_passHour_39 : decode cX6_passHour 39 = .ok (.iload_n 1, 1) := by decide +kernel
theorem dX6_passHour_40 : decode cX6_passHour 40 = .ok (.iaload, 1) := by decide +kernel
theorem dX6_passHour_41 : decode cX6_passHour 41 = .ok (.aload_n 0, 1) := by decide +kernel
theorem dX6_passHour_42 : decode cX6_passHour 42 = .ok (.getfield 9, 3) := by decide +kernel
theorem dX6_passHour_45 : decode cX6_passHour 45 = .ok (.getfield 143, 3) := by decide +kernel
theorem dX6_passHour_48 : decode cX6_passHour 48 = .ok (.iload_n 1, 1) := by decide +kernel
theorem dX6_passHour_49 : decode cX6_passHour 49 = .ok (.iaload, 1) := by decide +kernel
theorem dX6_passHour_50 : decode cX6_passHour 50 = .ok (.isub, 1) := by decide +kernel
theorem dX6_passHour_51 : decode cX6_passHour 51 = .ok (.invokestatic 146, 3) := by decide +kernel
theorem dX6_passHour_54 : decode cX6_passHour 54 = .ok (.iastore, 1) := by decide +kernel
theorem dX6_passHour_55 : decode cX6_passHour 55 = .ok (.iinc 1 1, 3) := by decide +kernel
theorem dX6_passHour_58 : decode cX6_passHour 58 = .ok (.goto (-56), 3) := by decide +kernel
theorem dX6_passHour_61 : decode cX6_passHour 61 = .ok (.aload_n 0, 1) := by decide +kernel
theorem dX6_passHour_62 : decode cX6_passHour 62 = .ok (.invokevirtual 34, 3) := by decide +kernel
theorem dX6_passHour_65 : decode cX6_passHour 65 = .ok (.aload_n 0, 1) := by decide +kernel
theorem dX6_passHour_66 : decode cX6_passHour 66 = .ok (.iconst 0, 1) := by decide +kernel
theorem dX6_passHour_67 : decode cX6_passHour 67 = .ok (.putfield 61, 3) := by decide +kernel
theorem dX6_passHour_70 : decode cX6_passHour 70 = .ok (.aload_n 0, 1) := by decide +kernel
theorem dX6_passHour_71 : decode cX6_passHour 71 = .ok (.iconst 0, 1) := by decide +kernel
theorem dX6_passHour_72 : decode cX6_passHour 72 = .ok (.putfield 64, 3) := by decide +kernel
theorem dX6_passHour_75 : decode cX6_passHour 75 = .ok (.aload_n 0, 1) := by decide +kernel
theorem dX6_passHour_76 : decode cX6_passHour 76 = .ok (.dup, 1) := by decide +kernel
theorem dX6_passHour_77 : decode cX6_passHour 77 = .ok (.getfield 52, 3) := by decide +kernel
theorem dX6_passHour_80 : decode cX6_passHour 80 = .ok (.iconst 1, 1) := by decide +kernel
theorem dX6_passHour_81 : decode cX6_passHour 81 = .ok (.iadd, 1) := by decide +kernel
theorem dX6_passHour_82 : decode cX6_passHour 82 = .ok (.putfield 52, 3) := by decide +kernel
theorem dX6_passHour_85 : decode cX6_passHour 85 = .ok (.iconst 1, 1) := by decide +kernel
theorem dX6_passHour_86 : decode cX6_passHour 86 = .ok (.ireturn, 1) := by decide +kernel
abbrev rmX6_passHour : Room := { frames := 2, cells := 0, slots := 0, locals := 47 }
def bX6_passHour_2 (k2 : Nat → Int32 → AH → Option (Int32 × AH)) (a0 : Nat) (l1 : Int32) (z : AH) : Option (Int32 × AH) :=
  (gN 5 0 z a0).bind fun b4 =>
  (gI 0 0 z b4).bind fun x7 =>
  if x7 ≤ l1 then (
    (fX6_fall a0 z).bind fun z62 =>
    (pF 5 10 z62 a0 (.int (0 : Int32))).bind fun z67 =>
    (pF 5 11 z67 a0 (.int (0 : Int32))).bind fun z72 =>
    (gI 5 5 z72 a0).bind fun x77 =>
    (pF 5 5 z72 a0 (.int (x77 + (1 : Int32)))).bind fun z82 =>
    some ((1 : Int32), z82)
  ) else (
    (gI 5 6 z a0).bind fun x14 =>
    (gI 5 11 z a0).bind fun x18 =>
    if (fX9_hasBit (x14 ||| x18) l1) = (0 : Int32) then (
      (gN 5 1 z a0).bind fun b30 =>
      (gN 5 1 z a0).bind fun b36 =>
      (ixI 0 z b36 l1).bind fun x40 =>
      (gN 5 0 z a0).bind fun b42 =>
      (gN 0 3 z b42).bind fun b45 =>
      (ixI 0 z b45 l1).bind fun x49 =>
      (stI 0 z b30 l1 (imax (0 : Int32) (x40 - x49))).bind fun z54 =>
      nm (l1 + (1 : Int32)) fun v55 =>
      k2 a0 v55 z54
    ) else (
      nm (l1 + (1 : Int32)) fun v55 =>
      k2 a0 v55 z
    )
  )
set_option maxHeartbeats 4000000 in
set_option maxRecDepth 100000 in
theorem kbX6_passHour_2 {p : Program} {l : Launch} {e : Env} {s : State} {m : MethodId} {args : Array Value} {below : List Frame} {meth : Method} {c : Code} {G : GW} {r : Int32} {z' : AH} (C : Cx p m c cX6_passHour 2 s args RX6 G) (hlk : meth.locks = false) (hr : meth.sig.returnType = (some .boolean)) (k2 : Nat → Int32 → AH → Option (Int32 × AH)) (hk2 : ∀ (a0 : Nat) (l1 : Int32) (z : AH) (H : Heap) (locs : List Loc) (ls : Array Slot), k2 a0 l1 z = some (r, z') → Wb G z s H locs → lv_has ls 2 [(0, .ref (gB G + a0)), (1, .int l1)] → W p l e rmX6_passHour s m args below meth c H locs 0 0 (MQ below (Qi G r z') args s 0 0 (AA G)) (F0 m 2 ls [])) (a0 : Nat) (l1 : Int32) {z : AH} {H : Heap} {locs : List Loc} {ls : Array Slot} (h : bX6_passHour_2 k2 a0 l1 z = some (r, z')) (hW : Wb G z s H locs) (hl : lv_has ls 2 [(0, .ref (gB G + a0)), (1, .int l1)]) : W p l e rmX6_passHour s m args below meth c H locs 0 0 (MQ below (Qi G r z') args s 0 0 (AA G)) (F0 m 2 ls []) := by
  have hx := C.1
  have hb := C.2.1
  unfold bX6_passHour_2 at h
  refine lv_iload_n hx hb dX6_passHour_2 rfl (lv_at hl 1 rfl) ?_
  refine lv_aload_n hx hb dX6_passHour_3 rfl (lv_at hl 0 rfl) ?_
  obtain ⟨b4, hg, h⟩ := ob h
  refine wz_gN C hW flX6_9 hg dX6_passHour_4 ?_
  obtain ⟨x7, hg, h⟩ := ob h
  refine wz_gI C hW flX6_81 hg dX6_passHour_7 ?_
  refine lv_icmp_ge (tgt := 61) hx hb dX6_passHour_10 (by decide) (fun c10 => ?_) (fun c10 => ?_)
  · have h := ite_t c10 h
    refine lv_aload_n hx hb dX6_passHour_61 rfl (lv_at hl 0 rfl) ?_
    obtain ⟨z62, hq, h⟩ := ob h
    refine wz_rV (c' := 0) (s' := 0) hW (wz_runV (rest := []) C hW lVX6_34 (ck hq).1 rfl (ctX6_fall l G a0 z hq) ⟨⟨rfl, rfl⟩, Nat.le_of_ble_eq_true rfl, Nat.le_of_ble_eq_true rfl⟩ rfl hl.1 rfl (Nat.le_of_ble_eq_true rfl) dX6_passHour_62 ⟨Nat.le_of_ble_eq_true rfl, Nat.le_of_ble_eq_true rfl⟩) rfl rfl (fun H locs hW => ?_)
    refine lv_aload_n hx hb dX6_passHour_65 rfl (lv_at hl 0 rfl) ?_
    refine lv_iconst (v := 0) hx hb dX6_passHour_66 (by decide) ?_
    obtain ⟨z67, hg, h⟩ := ob h
    refine wz_put (v := (.int (0 : Int32))) C hW flX6_61 rfl rfl hg dX6_passHour_67 (fun H locs hW => ?_)
    refine lv_aload_n hx hb dX6_passHour_70 rfl (lv_at hl 0 rfl) ?_
    refine lv_iconst (v := 0) hx hb dX6_passHour_71 (by decide) ?_
    obtain ⟨z72, hg, h⟩ := ob h
    refine wz_put (v := (.int (0 : Int32))) C hW flX6_64 rfl rfl hg dX6_passHour_72 (fun H locs hW => ?_)
    refine lv_aload_n hx hb dX6_passHour_75 rfl (lv_at hl 0 rfl) ?_
    refine lv_dup hx hb dX6_passHour_76 rfl ?_
    obtain ⟨x77, hg, h⟩ := ob h
    refine wz_gI C hW flX6_52 hg dX6_passHour_77 ?_
    refine lv_iconst (v := 1) hx hb dX6_passHour_80 (by decide) ?_
    refine lv_iadd hx hb dX6_passHour_81 ?_
    obtain ⟨z82, hg, h⟩ := ob h
    refine wz_put (v := (.int (x77 + (1 : Int32)))) C hW flX6_52 rfl rfl hg dX6_passHour_82 (fun H locs hW => ?_)
    refine lv_iconst (v := 1) hx hb dX6_passHour_85 (by decide) ?_
    exact wz_zretE C hlk hr (Or.inr rfl) (so2 h).1 (so2 h).2 hW dX6_passHour_86
  · have h := ite_f c10 h
    refine lv_aload_n hx hb dX6_passHour_13 rfl (lv_at hl 0 rfl) ?_
    obtain ⟨x14, hg, h⟩ := ob h
    refine wz_gI C hW flX6_37 hg dX6_passHour_14 ?_
    refine lv_aload_n hx hb dX6_passHour_17 rfl (lv_at hl 0 rfl) ?_
    obtain ⟨x18, hg, h⟩ := ob h
    refine wz_gI C hW flX6_64 hg dX6_passHour_18 ?_
    refine lv_ior hx hb dX6_passHour_21 ?_
    refine lv_iload_n hx hb dX6_passHour_22 rfl (lv_at hl 1 rfl) ?_
    refine wz_rI (c' := 0) (s' := 0) hW (wz_runN (rest := []) C hW lNX6_77 (ctX9_hasBit l G (x14 ||| x18) l1 z rfl) ⟨⟨rfl, rfl⟩, Nat.le_of_ble_eq_true rfl, Nat.le_of_ble_eq_true rfl⟩ rfl hl.1 rfl (Nat.le_of_ble_eq_true rfl) dX6_passHour_23 ⟨Nat.le_of_ble_eq_true rfl, Nat.le_of_ble_eq_true rfl⟩) rfl rfl (fun H locs hW => ?_)
    refine lv_if_ne (tgt := 55) hx hb dX6_passHour_26 (by decide) (fun c26 => ?_) (fun c26 => ?_)
    · have h := ite_f c26 h
      obtain ⟨v55, ev55⟩ : ∃ y : Int32, y = (l1 + (1 : Int32)) := ⟨_, rfl⟩
      have h := nm_to h ev55
      refine lv_iinc (v := v55) (lv' := [(1, .int v55), (0, .ref (gB G + a0))]) hx hb dX6_passHour_55 hl (k := 1) rfl (by rw [ev55]; rfl) (by decide) rfl (fun ls hl => ?_)
      refine lv_goto (tgt := 2) hx hb dX6_passHour_58 (by decide) ?_
      exact hk2 a0 v55 z _ _ _ h hW (lv_sub hl [1, 0] rfl)
    · have h := ite_t c26 h
      refine lv_aload_n hx hb dX6_passHour_29 rfl (lv_at hl 0 rfl) ?_
      obtain ⟨b30, hg, h⟩ := ob h
      refine wz_gN C hW flX6_17 hg dX6_passHour_30 ?_
      refine lv_iload_n hx hb dX6_passHour_33 rfl (lv_at hl 1 rfl) ?_
      refine lv_iconst (v := 0) hx hb dX6_passHour_34 (by decide) ?_
      refine lv_aload_n hx hb dX6_passHour_35 rfl (lv_at hl 0 rfl) ?_
      obtain ⟨b36, hg, h⟩ := ob h
      refine wz_gN C hW flX6_17 hg dX6_passHour_36 ?_
      refine lv_iload_n hx hb dX6_passHour_39 rfl (lv_at hl 1 rfl) ?_
      obtain ⟨x40, hg, h⟩ := ob h
      refine wz_ald C hW hg dX6_passHour_40 ?_
      refine lv_aload_n hx hb dX6_passHour_41 rfl (lv_at hl 0 rfl) ?_
      obtain ⟨b42, hg, h⟩ := ob h
      refine wz_gN C hW flX6_9 hg dX6_passHour_42 ?_
      obtain ⟨b45, hg, h⟩ := ob h
      refine wz_gN C hW flX6_143 hg dX6_passHour_45 ?_
      refine lv_iload_n hx hb dX6_passHour_48 rfl (lv_at hl 1 rfl) ?_
      obtain ⟨x49, hg, h⟩ := ob h
      refine wz_ald C hW hg dX6_passHour_49 ?_
      refine lv_isub hx hb dX6_passHour_50 ?_
      refine wz_max ⟨tw 883 (by decide +kernel) rfl, tw 733 (by decide +kernel) rfl, tw 129 (by decide +kernel) rfl, tw 734 (by decide +kernel) rfl⟩ C hl.1 ⟨⟨Nat.le_of_ble_eq_true rfl, Nat.le_of_ble_eq_true rfl⟩, Nat.le_of_ble_eq_true rfl, Nat.le_of_ble_eq_true rfl⟩ (Nat.le_of_ble_eq_true rfl) dX6_passHour_51 ?_
      obtain ⟨z54, hg, h⟩ := ob h
      refine wz_ast C hW hg dX6_passHour_54 (fun H locs hW => ?_)
      obtain ⟨v55, ev55⟩ : ∃ y : Int32, y = (l1 + (1 : Int32)) := ⟨_, rfl⟩
      have h := nm_to h ev55
      refine lv_iinc (v := v55) (lv' := [(1, .int v55), (0, .ref (gB G + a0))]) hx hb dX6_passHour_55 hl (k := 1) rfl (by rw [ev55]; rfl) (by decide) rfl (fun ls hl => ?_)
      refine lv_goto (tgt := 2) hx hb dX6_passHour_58 (by decide) ?_
      exact hk2 a0 v55 z54 _ _ _ h hW (lv_sub hl [1, 0] rfl)
def fX6_passHour_2 : Nat → Nat → Int32 → AH → Option (Int32 × AH)
  | 0, _, _, _ => none
  | n + 1, a0, l1, z => bX6_passHour_2 (fX6_passHour_2 n) a0 l1 z
theorem klX6_passHour_2 {p : Program} {l : Launch} {e : Env} {s : State} {m : MethodId} {args : Array Value} {below : List Frame} {meth : Method} {c : Code} {G : GW} {r : Int32} {z' : AH} (C : Cx p m c cX6_passHour 2 s args RX6 G) (hlk : meth.locks = false) (hr : meth.sig.returnType = (some .boolean)) : ∀ (n : Nat) (a0 : Nat) (l1 : Int32) (z : AH) (H : Heap) (locs : List Loc) (ls : Array Slot), fX6_passHour_2 n a0 l1 z = some (r, z') → Wb G z s H locs → lv_has ls 2 [(0, .ref (gB G + a0)), (1, .int l1)] → W p l e rmX6_passHour s m args below meth c H locs 0 0 (MQ below (Qi G r z') args s 0 0 (AA G)) (F0 m 2 ls []) := by
  intro n
  induction n with
  | zero => intro a0 l1 z H locs ls h; have h : (none : Option (Int32 × AH)) = some (r, z') := h; cases h
  | succ n ih => intro a0 l1 z H locs ls h hW hl; exact kbX6_passHour_2 C hlk hr (fX6_passHour_2 n) (fun a0 l1 z H locs ls h hW hl => ih a0 l1 z H locs ls h hW hl) a0 l1 h hW hl
def fX6_passHour (a0 : Nat) (z : AH) : Option (Int32 × AH) :=
  if isO 5 z a0 = true then
    fX6_passHour_2 FU a0 (0 : Int32) z
  else none
set_option maxHeartbeats 4000000 in
set_option maxRecDepth 100000 in
theorem ctX6_passHour (l : Launch) (G : GW) (a0 : Nat) (z : AH) {r : Int32} {z' : AH} (h : fX6_passHour a0 z = some (r, z')) : Met l yX6_passHour (wy yX6_passHour cX6_passHour 2 (some .boolean)) rmX6_passHour (Pz G [.ref (gB G + a0)] z) (Qi G r z') 0 0 (AA G) := by
  refine wz_ent (own := RX6) (by decide +kernel) rfl (fun p e s m below meth c ls C hlk hr hin hW hl => ?_) (Nat.le_of_ble_eq_true rfl)
  have hl : lv_has ls 2 [(0, .ref (gB G + a0))] := hl
  have hx := C.1
  have hb := C.2.1
  unfold fX6_passHour at h
  obtain ⟨-, h⟩ := ck h
  refine lv_iconst (v := 0) hx hb dX6_passHour_0 (by decide) ?_
  refine lv_istore_n (lv' := [(1, .int (0 : Int32)), (0, .ref (gB G + a0))]) hx hb dX6_passHour_1 rfl hl (by decide) rfl (fun ls hl => ?_)
  exact klX6_passHour_2 C hlk hr FU a0 (0 : Int32) z _ _ _ h hW (lv_sub hl [1, 0] rfl)
theorem lVX6_109 : LV RX6 109 yX6_look cX6_look 6 (some .boolean) 2 := ⟨tw 843 (by decide +kernel) rfl, tw 844 (by decide +kernel) rfl, tw 845 (by decide +kernel) rfl, tw 124 (by decide +kernel) rfl, tw 846 (by decide +kernel) rfl, ⟨by decide +kernel, by decide +kernel, by decide +kernel⟩⟩
theorem lVX6_112 : LV RX6 112 yX6_quarrel cX6_quarrel 2 (some .boolean) 1 := ⟨tw 867 (by decide +kernel) rfl, tw 869 (by decide +kernel) rfl, tw 19 (by decide +kernel) rfl, tw 124 (by decide +kernel) rfl, tw 870 (by decide +kernel) rfl, ⟨by decide +kernel, by decide +kernel, by decide +kernel⟩⟩
theorem lVX6_115 : LV RX6 115 yX6_reconcile cX6_reconcile 2 (some .boolean) 1 := ⟨tw 871 (by decide +kernel) rfl, tw 873 (by decide +kernel) rfl, tw 20 (by decide +kernel) rfl, tw 124 (by decide +kernel) rfl, tw 874 (by decide +kernel) rfl, ⟨by decide +kernel, by decide +kernel, by decide +kernel⟩⟩
theorem lVX6_118 : LV RX6 118 yX6_forge cX6_forge 2 (some .boolean) 1 := ⟨tw 875 (by decide +kernel) rfl, tw 877 (by decide +kernel) rfl, tw 21 (by decide +kernel) rfl, tw 124 (by decide +kernel) rfl, tw 878 (by decide +kernel) rfl, ⟨by decide +kernel, by decide +kernel, by decide +kernel⟩⟩
theorem lVX6_121 : LV RX6 121 yX6_passHour cX6_passHour 2 (some .boolean) 0 := ⟨tw 879 (by decide +kernel) rfl, tw 880 (by decide +kernel) rfl, tw 881 (by decide +kernel) rfl, tw 124 (by decide +kernel) rfl, tw 882 (by decide +kernel) rfl, ⟨by decide +kernel, by decide +kernel, by decide +kernel⟩⟩
theorem dX6_act_0 : decode cX6_act 0 = .ok (.iload_n 1, 1) := by decide +kernel
theorem dX6_act_1 : decode cX6_act 1 = .ok (.tableswitch 56 0 3 #[31, 38, 44, 50], 31) := by decide +kernel
theorem dX6_act_32 : decode cX6_act 32 = .ok (.aload_n 0, 1) := by decide +kernel
theorem dX6_act_33 : decode cX6_act 33 = .ok (.iload_n 2, 1) := by decide +kernel
theorem dX6_act_34 : decode cX6_act 34 = .ok (.iload_n 3, 1) := by decide +kernel
theorem dX6_act_35 : decode cX6_act 35 = .ok (.invokevirtual 109, 3) := by decide +kernel
theorem dX6_act_38 : decode cX6_act 38 = .ok (.ireturn, 1) := by decide +kernel
theorem dX6_act_39 : decode cX6_act 39 = .ok (.aload_n 0, 1) := by decide +kernel
theorem dX6_act_40 : decode cX6_act 40 = .ok (.iload_n 2, 1) := by decide +kernel
theorem dX6_act_41 : decode cX6_act 41 = .ok (.invokevirtual 112, 3) := by decide +kernel
theorem dX6_act_44 : decode cX6_act 44 = .ok (.ireturn, 1) := by decide +kernel
theorem dX6_act_45 : decode cX6_act 45 = .ok (.aload_n 0, 1) := by decide +kernel
theorem dX6_act_46 : decode cX6_act 46 = .ok (.iload_n 2, 1) := by decide +kernel
theorem dX6_act_47 : decode cX6_act 47 = .ok (.invokevirtual 115, 3) := by decide +kernel
theorem dX6_act_50 : decode cX6_act 50 = .ok (.ireturn, 1) := by decide +kernel
theorem dX6_act_51 : decode cX6_act 51 = .ok (.aload_n 0, 1) := by decide +kernel
theorem dX6_act_52 : decode cX6_act 52 = .ok (.iload_n 2, 1) := by decide +kernel
theorem dX6_act_53 : decode cX6_act 53 = .ok (.invokevirtual 118, 3) := by decide +kernel
theorem dX6_act_56 : decode cX6_act 56 = .ok (.ireturn, 1) := by decide +kernel
theorem dX6_act_57 : decode cX6_act 57 = .ok (.aload_n 0, 1) := by decide +kernel
theorem dX6_act_58 : decode cX6_act 58 = .ok (.getfield 52, 3) := by decide +kernel
theorem dX6_act_61 : decode cX6_act 61 = .ok (.bipush 99, 2) := by decide +kernel
theorem dX6_act_63 : decode cX6_act 63 = .ok (.if_icmp .ge 14, 3) := by decide +kernel
theorem dX6_act_66 : decode cX6_act 66 = .ok (.aload_n 0, 1) := by decide +kernel
theorem dX6_act_67 : decode cX6_act 67 = .ok (.invokevirtual 121, 3) := by decide +kernel
theorem dX6_act_70 : decode cX6_act 70 = .ok (.ifCond .eq 7, 3) := by decide +kernel
theorem dX6_act_73 : decode cX6_act 73 = .ok (.iconst 1, 1) := by decide +kernel
theorem dX6_act_74 : decode cX6_act 74 = .ok (.goto 4, 3) := by decide +kernel
theorem dX6_act_77 : decode cX6_act 77 = .ok (.iconst 0, 1) := by decide +kernel
theorem dX6_act_78 : decode cX6_act 78 = .ok (.ireturn, 1) := by decide +kernel
abbrev rmX6_act : Room := { frames := 3, cells := 0, slots := 0, locals := 70 }
def fX6_act (a0 : Nat) (l1 : Int32) (l2 : Int32) (l3 : Int32) (z : AH) : Option (Int32 × AH) :=
  if isO 5 z a0 = true then
    if l1 = (0 : Int32) then (
      b2 (fX6_look a0 l2 l3 z) fun x35 z35 =>
      if x35 = 0 ∨ x35 = 1 then some (x35, z35) else none
    ) else
    if l1 = (1 : Int32) then (
      b2 (fX6_quarrel a0 l2 z) fun x41 z41 =>
      if x41 = 0 ∨ x41 = 1 then some (x41, z41) else none
    ) else
    if l1 = (2 : Int32) then (
      b2 (fX6_reconcile a0 l2 z) fun x47 z47 =>
      if x47 = 0 ∨ x47 = 1 then some (x47, z47) else none
    ) else
    if l1 = (3 : Int32) then (
      b2 (fX6_forge a0 l2 z) fun x53 z53 =>
      if x53 = 0 ∨ x53 = 1 then some (x53, z53) else none
    ) else
    (gI 5 5 z a0).bind fun x58 =>
    if (99 : Int32) ≤ x58 then (
      some ((0 : Int32), z)
    ) else (
      b2 (fX6_passHour a0 z) fun x67 z67 =>
      if x67 = (0 : Int32) then (
        some ((0 : Int32), z67)
      ) else (
        some ((1 : Int32), z67)
      )
    )
  else none
set_option maxHeartbeats 4000000 in
set_option maxRecDepth 100000 in
theorem ctX6_act (l : Launch) (G : GW) (a0 : Nat) (l1 : Int32) (l2 : Int32) (l3 : Int32) (z : AH) {r : Int32} {z' : AH} (h : fX6_act a0 l1 l2 l3 z = some (r, z')) : Met l yX6_act (wy yX6_act cX6_act 4 (some .boolean)) rmX6_act (Pz G [.ref (gB G + a0), .int l1, .int l2, .int l3] z) (Qi G r z') 0 0 (AA G) := by
  refine wz_ent (own := RX6) (by decide +kernel) rfl (fun p e s m below meth c ls C hlk hr hin hW hl => ?_) (Nat.le_of_ble_eq_true rfl)
  have hl : lv_has ls 4 [(0, .ref (gB G + a0)), (1, .int l1), (2, .int l2), (3, .int l3)] := hl
  have hx := C.1
  have hb := C.2.1
  unfold fX6_act at h
  obtain ⟨-, h⟩ := ck h
  refine lv_iload_n hx hb dX6_act_0 rfl (lv_at hl 1 rfl) ?_
  by_cases c1_0 : l1 = (0 : Int32)
  · have h := ite_t c1_0 h
    refine wz_sw (0 : Int32) (tgt := 32) hx hb dX6_act_1 c1_0 (by decide) rfl (by decide) ?_
    refine lv_aload_n hx hb dX6_act_32 rfl (lv_at hl 0 rfl) ?_
    refine lv_iload_n hx hb dX6_act_33 rfl (lv_at hl 2 rfl) ?_
    refine lv_iload_n hx hb dX6_act_34 rfl (lv_at hl 3 rfl) ?_
    obtain ⟨x35, z35, hq, h⟩ := ob2 h
    refine wz_rI (c' := 0) (s' := 0) hW (wz_runV (rest := []) C hW lVX6_109 (ck hq).1 rfl (ctX6_look l G a0 l2 l3 z hq) ⟨⟨rfl, rfl⟩, Nat.le_of_ble_eq_true rfl, Nat.le_of_ble_eq_true rfl⟩ rfl hl.1 rfl (Nat.le_of_ble_eq_true rfl) dX6_act_35 ⟨Nat.le_of_ble_eq_true rfl, Nat.le_of_ble_eq_true rfl⟩) rfl rfl (fun H locs hW => ?_)
    obtain ⟨h01, h⟩ := ck h
    exact wz_zretE C hlk hr h01 (so2 h).1 (so2 h).2 hW dX6_act_38
  have h := ite_f c1_0 h
  by_cases c1_1 : l1 = (1 : Int32)
  · have h := ite_t c1_1 h
    refine wz_sw (1 : Int32) (tgt := 39) hx hb dX6_act_1 c1_1 (by decide) rfl (by decide) ?_
    refine lv_aload_n hx hb dX6_act_39 rfl (lv_at hl 0 rfl) ?_
    refine lv_iload_n hx hb dX6_act_40 rfl (lv_at hl 2 rfl) ?_
    obtain ⟨x41, z41, hq, h⟩ := ob2 h
    refine wz_rI (c' := 0) (s' := 0) hW (wz_runV (rest := []) C hW lVX6_112 (ck hq).1 rfl (ctX6_quarrel l G a0 l2 z hq) ⟨⟨rfl, rfl⟩, Nat.le_of_ble_eq_true rfl, Nat.le_of_ble_eq_true rfl⟩ rfl hl.1 rfl (Nat.le_of_ble_eq_true rfl) dX6_act_41 ⟨Nat.le_of_ble_eq_true rfl, Nat.le_of_ble_eq_true rfl⟩) rfl rfl (fun H locs hW => ?_)
    obtain ⟨h01, h⟩ := ck h
    exact wz_zretE C hlk hr h01 (so2 h).1 (so2 h).2 hW dX6_act_44
  have h := ite_f c1_1 h
  by_cases c1_2 : l1 = (2 : Int32)
  · have h := ite_t c1_2 h
    refine wz_sw (2 : Int32) (tgt := 45) hx hb dX6_act_1 c1_2 (by decide) rfl (by decide) ?_
    refine lv_aload_n hx hb dX6_act_45 rfl (lv_at hl 0 rfl) ?_
    refine lv_iload_n hx hb dX6_act_46 rfl (lv_at hl 2 rfl) ?_
    obtain ⟨x47, z47, hq, h⟩ := ob2 h
    refine wz_rI (c' := 0) (s' := 0) hW (wz_runV (rest := []) C hW lVX6_115 (ck hq).1 rfl (ctX6_reconcile l G a0 l2 z hq) ⟨⟨rfl, rfl⟩, Nat.le_of_ble_eq_true rfl, Nat.le_of_ble_eq_true rfl⟩ rfl hl.1 rfl (Nat.le_of_ble_eq_true rfl) dX6_act_47 ⟨Nat.le_of_ble_eq_true rfl, Nat.le_of_ble_eq_true rfl⟩) rfl rfl (fun H locs hW => ?_)
    obtain ⟨h01, h⟩ := ck h
    exact wz_zretE C hlk hr h01 (so2 h).1 (so2 h).2 hW dX6_act_50
  have h := ite_f c1_2 h
  by_cases c1_3 : l1 = (3 : Int32)
  · have h := ite_t c1_3 h
    refine wz_sw (3 : Int32) (tgt := 51) hx hb dX6_act_1 c1_3 (by decide) rfl (by decide) ?_
    refine lv_aload_n hx hb dX6_act_51 rfl (lv_at hl 0 rfl) ?_
    refine lv_iload_n hx hb dX6_act_52 rfl (lv_at hl 2 rfl) ?_
    obtain ⟨x53, z53, hq, h⟩ := ob2 h
    refine wz_rI (c' := 0) (s' := 0) hW (wz_runV (rest := []) C hW lVX6_118 (ck hq).1 rfl (ctX6_forge l G a0 l2 z hq) ⟨⟨rfl, rfl⟩, Nat.le_of_ble_eq_true rfl, Nat.le_of_ble_eq_true rfl⟩ rfl hl.1 rfl (Nat.le_of_ble_eq_true rfl) dX6_act_53 ⟨Nat.le_of_ble_eq_true rfl, Nat.le_of_ble_eq_true rfl⟩) rfl rfl (fun H locs hW => ?_)
    obtain ⟨h01, h⟩ := ck h
    exact wz_zretE C hlk hr h01 (so2 h).1 (so2 h).2 hW dX6_act_56
  have h := ite_f c1_3 h
  refine lv_tableOut (tgt := 57) hx hb dX6_act_1 (by have g0 := i32_ne c1_0 (z := 0) (by decide); have g1 := i32_ne c1_1 (z := 1) (by decide); have g2 := i32_ne c1_2 (z := 2) (by decide); have g3 := i32_ne c1_3 (z := 3) (by decide); omega) (by decide) ?_
  refine lv_aload_n hx hb dX6_act_57 rfl (lv_at hl 0 rfl) ?_
  obtain ⟨x58, hg, h⟩ := ob h
  refine wz_gI C hW flX6_52 hg dX6_act_58 ?_
  refine lv_bipush (v := 99) hx hb dX6_act_61 (by decide) ?_
  refine lv_icmp_ge (tgt := 77) hx hb dX6_act_63 (by decide) (fun c63 => ?_) (fun c63 => ?_)
  · have h := ite_t c63 h
    refine lv_iconst (v := 0) hx hb dX6_act_77 (by decide) ?_
    exact wz_zretE C hlk hr (Or.inl rfl) (so2 h).1 (so2 h).2 hW dX6_act_78
  · have h := ite_f c63 h
    refine lv_aload_n hx hb dX6_act_66 rfl (lv_at hl 0 rfl) ?_
    obtain ⟨x67, z67, hq, h⟩ := ob2 h
    refine wz_rI (c' := 0) (s' := 0) hW (wz_runV (rest := []) C hW lVX6_121 (ck hq).1 rfl (ctX6_passHour l G a0 z hq) ⟨⟨rfl, rfl⟩, Nat.le_of_ble_eq_true rfl, Nat.le_of_ble_eq_true rfl⟩ rfl hl.1 rfl (Nat.le_of_ble_eq_true rfl) dX6_act_67 ⟨Nat.le_of_ble_eq_true rfl, Nat.le_of_ble_eq_true rfl⟩) rfl rfl (fun H locs hW => ?_)
    refine lv_if_eq (tgt := 77) hx hb dX6_act_70 (by decide) (fun c70 => ?_) (fun c70 => ?_)
    · have h := ite_t c70 h
      refine lv_iconst (v := 0) hx hb dX6_act_77 (by decide) ?_
      exact wz_zretE C hlk hr (Or.inl rfl) (so2 h).1 (so2 h).2 hW dX6_act_78
    · have h := ite_f c70 h
      refine lv_iconst (v := 1) hx hb dX6_act_73 (by decide) ?_
      refine lv_goto (tgt := 78) hx hb dX6_act_74 (by decide) ?_
      exact wz_zretE C hlk hr (Or.inr rfl) (so2 h).1 (so2 h).2 hW dX6_act_78
theorem lVX6_102 : LV RX6 102 yX5_answer cX5_answer 3 (some .int) 2 := ⟨tw 838 (by decide +kernel) rfl, tw 806 (by decide +kernel) rfl, tw 807 (by decide +kernel) rfl, tw 134 (by decide +kernel) rfl, tw 808 (by decide +kernel) rfl, ⟨by decide +kernel, by decide +kernel, by decide +kernel⟩⟩
theorem lVX6_105 : LV RX6 105 yX6_act cX6_act 4 (some .boolean) 3 := ⟨tw 839 (by decide +kernel) rfl, tw 840 (by decide +kernel) rfl, tw 841 (by decide +kernel) rfl, tw 124 (by decide +kernel) rfl, tw 842 (by decide +kernel) rfl, ⟨by decide +kernel, by decide +kernel, by decide +kernel⟩⟩
theorem flX6_91 : FL RX6 91 4 3 := ⟨_, rfl, Nat.le_of_ble_eq_true rfl, tw 747 (by decide +kernel) rfl, rfl⟩
theorem dX6_live_0 : decode cX6_live 0 = .ok (.iload_n 2, 1) := by decide +kernel
theorem dX6_live_1 : decode cX6_live 1 = .ok (.aload_n 1, 1) := by decide +kernel
theorem dX6_live_2 : decode cX6_live 2 = .ok (.getfield 91, 3) := by decide +kernel
theorem dX6_live_5 : decode cX6_live 5 = .ok (.invokestatic 96, 3) := by decide +kernel
theorem dX6_live_8 : decode cX6_live 8 = .ok (.istore_n 3, 1) := by decide +kernel
theorem dX6_live_9 : decode cX6_live 9 = .ok (.iconst 0, 1) := by decide +kernel
theorem dX6_live_10 : decode cX6_live 10 = .ok (.istore 4, 2) := by decide +kernel
theorem dX6_live_12 : decode cX6_live 12 = .ok (.iload 4, 2) := by decide +kernel
theorem dX6_live_14 : decode cX6_live 14 = .ok (.iload_n 3, 1) := by decide +kernel
theorem dX6_live_15 : decode cX6_live 15 = .ok (.if_icmp .ge 69, 3) := by decide +kernel
theorem dX6_live_18 : decode cX6_live 18 = .ok (.aload_n 0, 1) := by decide +kernel
theorem dX6_live_19 : decode cX6_live 19 = .ok (.getfield 37, 3) := by decide +kernel
theorem dX6_live_22 : decode cX6_live 22 = .ok (.istore 5, 2) := by decide +kernel
theorem dX6_live_24 : decode cX6_live 24 = .ok (.aload_n 0, 1) := by decide +kernel
theorem dX6_live_25 : decode cX6_live 25 = .ok (.aload_n 1, 1) := by decide +kernel
theorem dX6_live_26 : decode cX6_live 26 = .ok (.iload 4, 2) := by decide +kernel
theorem dX6_live_28 : decode cX6_live 28 = .ok (.iconst 0, 1) := by decide +kernel
theorem dX6_live_29 : decode cX6_live 29 = .ok (.invokevirtual 102, 3) := by decide +kernel
theorem dX6_live_32 : decode cX6_live 32 = .ok (.aload_n 1, 1) := by decide +kernel
theorem dX6_live_33 : decode cX6_live 33 = .ok (.iload 4, 2) := by decide +kernel
theorem dX6_live_35 : decode cX6_live 35 = .ok (.iconst 1, 1) := by decide +kernel
theorem dX6_live_36 : decode cX6_live 36 = .ok (.invokevirtual 102, 3) := by decide +kernel
theorem dX6_live_39 : decode cX6_live 39 = .ok (.aload_n 1, 1) := by decide +kernel
theorem dX6_live_40 : decode cX6_live 40 = .ok (.iload 4, 2) := by decide +kernel
theorem dX6_live_42 : decode cX6_live 42 = .ok (.iconst 2, 1) := by decide +kernel
theorem dX6_live_43 : decode cX6_live 43 = .ok (.invokevirtual 102, 3) := by decide +kernel
theorem dX6_live_46 : decode cX6_live 46 = .ok (.invokevirtual 105, 3) := by decide +kernel
theorem dX6_live_49 : decode cX6_live 49 = .ok (.ifCond .ne 6, 3) := by decide +kernel
theorem dX6_live_52 : decode cX6_live 52 = .ok (.iload 4, 2) := by decide +kernel
theorem dX6_live_54 : decode cX6_live 54 = .ok (.ireturn, 1) := by decide +kernel
theorem dX6_live_55 : decode cX6_live 55 = .ok (.aload_n 0, 1) := by decide +kernel
theorem dX6_live_56 : decode cX6_live 56 = .ok (.getfield 37, 3) := by decide +kernel
theorem dX6_live_59 : decode cX6_live 59 = .ok (.iload 5, 2) := by decide +kernel
theorem dX6_live_61 : decode cX6_live 61 = .ok (.if_icmp .eq 17, 3) := by decide +kernel
theorem dX6_live_64 : decode cX6_live 64 = .ok (.aload_n 0, 1) := by decide +kernel
theorem dX6_live_65 : decode cX6_live 65 = .ok (.getfield 70, 3) := by decide +kernel
theorem dX6_live_68 : decode cX6_live 68 = .ok (.iconst (-1), 1) := by decide +kernel
theorem dX6_live_69 : decode cX6_live 69 = .ok (.if_icmp .ne 9, 3) := by decide +kernel
theorem dX6_live_72 : decode cX6_live 72 = .ok (.aload_n 0, 1) := by decide +kernel
theorem dX6_live_73 : decode cX6_live 73 = .ok (.iload 4, 2) := by decide +kernel
theorem dX6_live_75 : decode cX6_live 75 = .ok (.putfield 70, 3) := by decide +kernel
theorem dX6_live_78 : decode cX6_live 78 = .ok (.iinc 4 1, 3) := by decide +kernel
theorem dX6_live_81 : decode cX6_live 81 = .ok (.goto (-69), 3) := by decide +kernel
theorem dX6_live_84 : decode cX6_live 84 = .ok (.iload_n 3, 1) := by decide +kernel
theorem dX6_live_85 : decode cX6_live 85 = .ok (.ireturn, 1) := by decide +kernel
abbrev rmX6_live : Room := { frames := 4, cells := 0, slots := 0, locals := 93 }
def bX6_live_12 (k12 : Nat → Nat → Int32 → Int32 → AH → Option (Int32 × AH)) (a0 : Nat) (a1 : Nat) (l3 : Int32) (l4 : Int32) (z : AH) : Option (Int32 × AH) :=
  if l3 ≤ l4 then (
    some (l3, z)
  ) else (
    (gI 5 6 z a0).bind fun x19 =>
    (fX5_answer a1 l4 (0 : Int32) z).bind fun x29 =>
    (fX5_answer a1 l4 (1 : Int32) z).bind fun x36 =>
    (fX5_answer a1 l4 (2 : Int32) z).bind fun x43 =>
    b2 (fX6_act a0 x29 x36 x43 z) fun x46 z46 =>
    if x46 = (0 : Int32) then (
      some (l4, z46)
    ) else (
      (gI 5 6 z46 a0).bind fun x56 =>
      if x56 = x19 then (
        nm (l4 + (1 : Int32)) fun v78 =>
        k12 a0 a1 l3 v78 z46
      ) else (
        (gI 5 13 z46 a0).bind fun x65 =>
        if x65 = (-1 : Int32) then (
          (pF 5 13 z46 a0 (.int l4)).bind fun z75 =>
          nm (l4 + (1 : Int32)) fun v78 =>
          k12 a0 a1 l3 v78 z75
        ) else (
          nm (l4 + (1 : Int32)) fun v78 =>
          k12 a0 a1 l3 v78 z46
        )
      )
    )
  )
set_option maxHeartbeats 4000000 in
set_option maxRecDepth 100000 in
theorem kbX6_live_12 {p : Program} {l : Launch} {e : Env} {s : State} {m : MethodId} {args : Array Value} {below : List Frame} {meth : Method} {c : Code} {G : GW} {r : Int32} {z' : AH} (C : Cx p m c cX6_live 6 s args RX6 G) (hlk : meth.locks = false) (hr : meth.sig.returnType = (some .int)) (k12 : Nat → Nat → Int32 → Int32 → AH → Option (Int32 × AH)) (hk12 : ∀ (a0 : Nat) (a1 : Nat) (l3 : Int32) (l4 : Int32) (z : AH) (H : Heap) (locs : List Loc) (ls : Array Slot), k12 a0 a1 l3 l4 z = some (r, z') → Wb G z s H locs → lv_has ls 6 [(0, .ref (gB G + a0)), (1, .ref (gB G + a1)), (3, .int l3), (4, .int l4)] → W p l e rmX6_live s m args below meth c H locs 0 0 (MQ below (Qi G r z') args s 0 0 (AA G)) (F0 m 12 ls [])) (a0 : Nat) (a1 : Nat) (l3 : Int32) (l4 : Int32) {z : AH} {H : Heap} {locs : List Loc} {ls : Array Slot} (h : bX6_live_12 k12 a0 a1 l3 l4 z = some (r, z')) (hW : Wb G z s H locs) (hl : lv_has ls 6 [(0, .ref (gB G + a0)), (1, .ref (gB G + a1)), (3, .int l3), (4, .int l4)]) : W p l e rmX6_live s m args below meth c H locs 0 0 (MQ below (Qi G r z') args s 0 0 (AA G)) (F0 m 12 ls []) := by
  have hx := C.1
  have hb := C.2.1
  unfold bX6_live_12 at h
  refine lv_iload hx hb dX6_live_12 (lv_at hl 3 rfl) ?_
  refine lv_iload_n hx hb dX6_live_14 rfl (lv_at hl 2 rfl) ?_
  refine lv_icmp_ge (tgt := 84) hx hb dX6_live_15 (by decide) (fun c15 => ?_) (fun c15 => ?_)
  · have h := ite_t c15 h
    refine lv_iload_n hx hb dX6_live_84 rfl (lv_at hl 2 rfl) ?_
    exact wz_iretE C hlk hr (so2 h).1 (so2 h).2 hW dX6_live_85
  · have h := ite_f c15 h
    refine lv_aload_n hx hb dX6_live_18 rfl (lv_at hl 0 rfl) ?_
    obtain ⟨x19, hg, h⟩ := ob h
    refine wz_gI C hW flX6_37 hg dX6_live_19 ?_
    refine lv_istore (lv' := [(5, .int x19), (0, .ref (gB G + a0)), (1, .ref (gB G + a1)), (3, .int l3), (4, .int l4)]) hx hb dX6_live_22 hl (by decide) rfl (fun ls hl => ?_)
    refine lv_aload_n hx hb dX6_live_24 rfl (lv_at hl 1 rfl) ?_
    refine lv_aload_n hx hb dX6_live_25 rfl (lv_at hl 2 rfl) ?_
    refine lv_iload hx hb dX6_live_26 (lv_at hl 4 rfl) ?_
    refine lv_iconst (v := 0) hx hb dX6_live_28 (by decide) ?_
    obtain ⟨x29, hq, h⟩ := ob h
    refine wz_rI (c' := 0) (s' := 0) hW (wz_runV (rest := [.ref (gB G + a0)]) C hW lVX6_102 (ck hq).1 rfl (ctX5_answer l G a1 l4 (0 : Int32) z hq) ⟨⟨rfl, rfl⟩, Nat.le_of_ble_eq_true rfl, Nat.le_of_ble_eq_true rfl⟩ rfl hl.1 rfl (Nat.le_of_ble_eq_true rfl) dX6_live_29 ⟨Nat.le_of_ble_eq_true rfl, Nat.le_of_ble_eq_true rfl⟩) rfl rfl (fun H locs hW => ?_)
    refine lv_aload_n hx hb dX6_live_32 rfl (lv_at hl 2 rfl) ?_
    refine lv_iload hx hb dX6_live_33 (lv_at hl 4 rfl) ?_
    refine lv_iconst (v := 1) hx hb dX6_live_35 (by decide) ?_
    obtain ⟨x36, hq, h⟩ := ob h
    refine wz_rI (c' := 0) (s' := 0) hW (wz_runV (rest := [.int x29, .ref (gB G + a0)]) C hW lVX6_102 (ck hq).1 rfl (ctX5_answer l G a1 l4 (1 : Int32) z hq) ⟨⟨rfl, rfl⟩, Nat.le_of_ble_eq_true rfl, Nat.le_of_ble_eq_true rfl⟩ rfl hl.1 rfl (Nat.le_of_ble_eq_true rfl) dX6_live_36 ⟨Nat.le_of_ble_eq_true rfl, Nat.le_of_ble_eq_true rfl⟩) rfl rfl (fun H locs hW => ?_)
    refine lv_aload_n hx hb dX6_live_39 rfl (lv_at hl 2 rfl) ?_
    refine lv_iload hx hb dX6_live_40 (lv_at hl 4 rfl) ?_
    refine lv_iconst (v := 2) hx hb dX6_live_42 (by decide) ?_
    obtain ⟨x43, hq, h⟩ := ob h
    refine wz_rI (c' := 0) (s' := 0) hW (wz_runV (rest := [.int x36, .int x29, .ref (gB G + a0)]) C hW lVX6_102 (ck hq).1 rfl (ctX5_answer l G a1 l4 (2 : Int32) z hq) ⟨⟨rfl, rfl⟩, Nat.le_of_ble_eq_true rfl, Nat.le_of_ble_eq_true rfl⟩ rfl hl.1 rfl (Nat.le_of_ble_eq_true rfl) dX6_live_43 ⟨Nat.le_of_ble_eq_true rfl, Nat.le_of_ble_eq_true rfl⟩) rfl rfl (fun H locs hW => ?_)
    obtain ⟨x46, z46, hq, h⟩ := ob2 h
    refine wz_rI (c' := 0) (s' := 0) hW (wz_runV (rest := []) C hW lVX6_105 (ck hq).1 rfl (ctX6_act l G a0 x29 x36 x43 z hq) ⟨⟨rfl, rfl⟩, Nat.le_of_ble_eq_true rfl, Nat.le_of_ble_eq_true rfl⟩ rfl hl.1 rfl (Nat.le_of_ble_eq_true rfl) dX6_live_46 ⟨Nat.le_of_ble_eq_true rfl, Nat.le_of_ble_eq_true rfl⟩) rfl rfl (fun H locs hW => ?_)
    refine lv_if_ne (tgt := 55) hx hb dX6_live_49 (by decide) (fun c49 => ?_) (fun c49 => ?_)
    · have h := ite_f c49 h
      refine lv_aload_n hx hb dX6_live_55 rfl (lv_at hl 1 rfl) ?_
      obtain ⟨x56, hg, h⟩ := ob h
      refine wz_gI C hW flX6_37 hg dX6_live_56 ?_
      refine lv_iload hx hb dX6_live_59 (lv_at hl 0 rfl) ?_
      refine lv_icmp_eq (tgt := 78) hx hb dX6_live_61 (by decide) (fun c61 => ?_) (fun c61 => ?_)
      · have h := ite_t c61 h
        obtain ⟨v78, ev78⟩ : ∃ y : Int32, y = (l4 + (1 : Int32)) := ⟨_, rfl⟩
        have h := nm_to h ev78
        refine lv_iinc (v := v78) (lv' := [(4, .int v78), (5, .int x19), (0, .ref (gB G + a0)), (1, .ref (gB G + a1)), (3, .int l3)]) hx hb dX6_live_78 hl (k := 4) rfl (by rw [ev78]; rfl) (by decide) rfl (fun ls hl => ?_)
        refine lv_goto (tgt := 12) hx hb dX6_live_81 (by decide) ?_
        exact hk12 a0 a1 l3 v78 z46 _ _ _ h hW (lv_sub hl [2, 3, 4, 0] rfl)
      · have h := ite_f c61 h
        refine lv_aload_n hx hb dX6_live_64 rfl (lv_at hl 1 rfl) ?_
        obtain ⟨x65, hg, h⟩ := ob h
        refine wz_gI C hW flX6_70 hg dX6_live_65 ?_
        refine lv_iconst (v := -1) hx hb dX6_live_68 (by decide) ?_
        refine lv_icmp_ne (tgt := 78) hx hb dX6_live_69 (by decide) (fun c69 => ?_) (fun c69 => ?_)
        · have h := ite_f c69 h
          obtain ⟨v78, ev78⟩ : ∃ y : Int32, y = (l4 + (1 : Int32)) := ⟨_, rfl⟩
          have h := nm_to h ev78
          refine lv_iinc (v := v78) (lv' := [(4, .int v78), (5, .int x19), (0, .ref (gB G + a0)), (1, .ref (gB G + a1)), (3, .int l3)]) hx hb dX6_live_78 hl (k := 4) rfl (by rw [ev78]; rfl) (by decide) rfl (fun ls hl => ?_)
          refine lv_goto (tgt := 12) hx hb dX6_live_81 (by decide) ?_
          exact hk12 a0 a1 l3 v78 z46 _ _ _ h hW (lv_sub hl [2, 3, 4, 0] rfl)
        · have h := ite_t c69 h
          refine lv_aload_n hx hb dX6_live_72 rfl (lv_at hl 1 rfl) ?_
          refine lv_iload hx hb dX6_live_73 (lv_at hl 4 rfl) ?_
          obtain ⟨z75, hg, h⟩ := ob h
          refine wz_put (v := (.int l4)) C hW flX6_70 rfl rfl hg dX6_live_75 (fun H locs hW => ?_)
          obtain ⟨v78, ev78⟩ : ∃ y : Int32, y = (l4 + (1 : Int32)) := ⟨_, rfl⟩
          have h := nm_to h ev78
          refine lv_iinc (v := v78) (lv' := [(4, .int v78), (5, .int x19), (0, .ref (gB G + a0)), (1, .ref (gB G + a1)), (3, .int l3)]) hx hb dX6_live_78 hl (k := 4) rfl (by rw [ev78]; rfl) (by decide) rfl (fun ls hl => ?_)
          refine lv_goto (tgt := 12) hx hb dX6_live_81 (by decide) ?_
          exact hk12 a0 a1 l3 v78 z75 _ _ _ h hW (lv_sub hl [2, 3, 4, 0] rfl)
    · have h := ite_t c49 h
      refine lv_iload hx hb dX6_live_52 (lv_at hl 4 rfl) ?_
      exact wz_iretE C hlk hr (so2 h).1 (so2 h).2 hW dX6_live_54
def fX6_live_12 : Nat → Nat → Nat → Int32 → Int32 → AH → Option (Int32 × AH)
  | 0, _, _, _, _, _ => none
  | n + 1, a0, a1, l3, l4, z => bX6_live_12 (fX6_live_12 n) a0 a1 l3 l4 z
theorem klX6_live_12 {p : Program} {l : Launch} {e : Env} {s : State} {m : MethodId} {args : Array Value} {below : List Frame} {meth : Method} {c : Code} {G : GW} {r : Int32} {z' : AH} (C : Cx p m c cX6_live 6 s args RX6 G) (hlk : meth.locks = false) (hr : meth.sig.returnType = (some .int)) : ∀ (n : Nat) (a0 : Nat) (a1 : Nat) (l3 : Int32) (l4 : Int32) (z : AH) (H : Heap) (locs : List Loc) (ls : Array Slot), fX6_live_12 n a0 a1 l3 l4 z = some (r, z') → Wb G z s H locs → lv_has ls 6 [(0, .ref (gB G + a0)), (1, .ref (gB G + a1)), (3, .int l3), (4, .int l4)] → W p l e rmX6_live s m args below meth c H locs 0 0 (MQ below (Qi G r z') args s 0 0 (AA G)) (F0 m 12 ls []) := by
  intro n
  induction n with
  | zero => intro a0 a1 l3 l4 z H locs ls h; have h : (none : Option (Int32 × AH)) = some (r, z') := h; cases h
  | succ n ih => intro a0 a1 l3 l4 z H locs ls h hW hl; exact kbX6_live_12 C hlk hr (fX6_live_12 n) (fun a0 a1 l3 l4 z H locs ls h hW hl => ih a0 a1 l3 l4 z H locs ls h hW hl) a0 a1 l3 l4 h hW hl
def fX6_live (a0 : Nat) (a1 : Nat) (l2 : Int32) (z : AH) : Option (Int32 × AH) :=
  if isO 5 z a0 = true then
    (gI 4 3 z a1).bind fun x2 =>
    nm (imin l2 x2) fun v8 =>
    fX6_live_12 FU a0 a1 v8 (0 : Int32) z
  else none
set_option maxHeartbeats 4000000 in
set_option maxRecDepth 100000 in
theorem ctX6_live (l : Launch) (G : GW) (a0 : Nat) (a1 : Nat) (l2 : Int32) (z : AH) {r : Int32} {z' : AH} (h : fX6_live a0 a1 l2 z = some (r, z')) : Met l yX6_live (wy yX6_live cX6_live 6 (some .int)) rmX6_live (Pz G [.ref (gB G + a0), .ref (gB G + a1), .int l2] z) (Qi G r z') 0 0 (AA G) := by
  refine wz_ent (own := RX6) (by decide +kernel) rfl (fun p e s m below meth c ls C hlk hr hin hW hl => ?_) (Nat.le_of_ble_eq_true rfl)
  have hl : lv_has ls 6 [(0, .ref (gB G + a0)), (1, .ref (gB G + a1)), (2, .int l2)] := hl
  have hx := C.1
  have hb := C.2.1
  unfold fX6_live at h
  obtain ⟨-, h⟩ := ck h
  refine lv_iload_n hx hb dX6_live_0 rfl (lv_at hl 2 rfl) ?_
  refine lv_aload_n hx hb dX6_live_1 rfl (lv_at hl 1 rfl) ?_
  obtain ⟨x2, hg, h⟩ := ob h
  refine wz_gI C hW flX6_91 hg dX6_live_2 ?_
  refine wz_min ⟨tw 837 (by decide +kernel) rfl, tw 530 (by decide +kernel) rfl, tw 129 (by decide +kernel) rfl, tw 531 (by decide +kernel) rfl⟩ C hl.1 ⟨⟨Nat.le_of_ble_eq_true rfl, Nat.le_of_ble_eq_true rfl⟩, Nat.le_of_ble_eq_true rfl, Nat.le_of_ble_eq_true rfl⟩ (Nat.le_of_ble_eq_true rfl) dX6_live_5 ?_
  refine lv_topi (fun v8 ev8 => ?_)
  have h := nm_to h ev8
  refine lv_istore_n (lv' := [(3, .int v8), (0, .ref (gB G + a0)), (1, .ref (gB G + a1)), (2, .int l2)]) hx hb dX6_live_8 rfl hl (by decide) rfl (fun ls hl => ?_)
  refine lv_iconst (v := 0) hx hb dX6_live_9 (by decide) ?_
  refine lv_istore (lv' := [(4, .int (0 : Int32)), (3, .int v8), (0, .ref (gB G + a0)), (1, .ref (gB G + a1)), (2, .int l2)]) hx hb dX6_live_10 hl (by decide) rfl (fun ls hl => ?_)
  exact klX6_live_12 C hlk hr FU a0 a1 v8 (0 : Int32) z _ _ _ h hW (lv_sub hl [2, 3, 1, 0] rfl)
theorem dX6_ofThing_0 : decode cX6_ofThing 0 = .ok (.iload_n 1, 1) := by decide +kernel
theorem dX6_ofThing_1 : decode cX6_ofThing 1 = .ok (.iconst 3, 1) := by decide +kernel
theorem dX6_ofThing_2 : decode cX6_ofThing 2 = .ok (.if_icmp .gt 14, 3) := by decide +kernel
theorem dX6_ofThing_5 : decode cX6_ofThing 5 = .ok (.aload_n 0, 1) := by decide +kernel
theorem dX6_ofThing_6 : decode cX6_ofThing 6 = .ok (.getfield 9, 3) := by decide +kernel
theorem dX6_ofThing_9 : decode cX6_ofThing 9 = .ok (.iload_n 2, 1) := by decide +kernel
theorem dX6_ofThing_10 : decode cX6_ofThing 10 = .ok (.invokevirtual 73, 3) := by decide +kernel
theorem dX6_ofThing_13 : decode cX6_ofThing 13 = .ok (.ifCond .ne 6, 3) := by decide +kernel
theorem dX6_ofThing_16 : decode cX6_ofThing 16 = .ok (.bipush (-2), 2) := by decide +kernel
theorem dX6_ofThing_18 : decode cX6_ofThing 18 = .ok (.ireturn, 1) := by decide +kernel
theorem dX6_ofThing_19 : decode cX6_ofThing 19 = .ok (.aload_n 0, 1) := by decide +kernel
theorem dX6_ofThing_20 : decode cX6_ofThing 20 = .ok (.iload_n 2, 1) := by decide +kernel
theorem dX6_ofThing_21 : decode cX6_ofThing 21 = .ok (.invokevirtual 128, 3) := by decide +kernel
theorem dX6_ofThing_24 : decode cX6_ofThing 24 = .ok (.ifCond .ne 5, 3) := by decide +kernel
theorem dX6_ofThing_27 : decode cX6_ofThing 27 = .ok (.iconst 0, 1) := by decide +kernel
theorem dX6_ofThing_28 : decode cX6_ofThing 28 = .ok (.ireturn, 1) := by decide +kernel
theorem dX6_ofThing_29 : decode cX6_ofThing 29 = .ok (.iload_n 1, 1) := by decide +kernel
theorem dX6_ofThing_30 : decode cX6_ofThing 30 = .ok (.iconst 3, 1) := by decide +kernel
theorem dX6_ofThing_31 : decode cX6_ofThing 31 = .ok (.if_icmp .ne 9, 3) := by decide +kernel
theorem dX6_ofThing_34 : decode cX6_ofThing 34 = .ok (.aload_n 0, 1) := by decide +kernel
theorem dX6_ofThing_35 : decode cX6_ofThing 35 = .ok (.iload_n 2, 1) := by decide +kernel
theorem dX6_ofThing_36 : decode cX6_ofThing 36 = .ok (.invokevirtual 87, 3) := by decide +kernel
theorem dX6_ofThing_39 : decode cX6_ofThing 39 = .ok (.ireturn, 1) := by decide +kernel
theorem dX6_ofThing_40 : decode cX6_ofThing 40 = .ok (.iload_n 1, 1) := by decide +kernel
theorem dX6_ofThing_41 : decode cX6_ofThing 41 = .ok (.iconst 1, 1) := by decide +kernel
theorem dX6_ofThing_42 : decode cX6_ofThing 42 = .ok (.if_icmp .ne 12, 3) := by decide +kernel
theorem dX6_ofThing_45 : decode cX6_ofThing 45 = .ok (.aload_n 0, 1) := by decide +kernel
theorem dX6_ofThing_46 : decode cX6_ofThing 46 = .ok (.getfield 17, 3) := by decide +kernel
theorem dX6_ofThing_49 : decode cX6_ofThing 49 = .ok (.iload_n 2, 1) := by decide +kernel
theorem dX6_ofThing_50 : decode cX6_ofThing 50 = .ok (.iaload, 1) := by decide +kernel
theorem dX6_ofThing_51 : decode cX6_ofThing 51 = .ok (.goto 9, 3) := by decide +kernel
theorem dX6_ofThing_54 : decode cX6_ofThing 54 = .ok (.aload_n 0, 1) := by decide +kernel
theorem dX6_ofThing_55 : decode cX6_ofThing 55 = .ok (.getfield 21, 3) := by decide +kernel
theorem dX6_ofThing_58 : decode cX6_ofThing 58 = .ok (.iload_n 2, 1) := by decide +kernel
theorem dX6_ofThing_59 : decode cX6_ofThing 59 = .ok (.iaload, 1) := by decide +kernel
theorem dX6_ofThing_60 : decode cX6_ofThing 60 = .ok (.ireturn, 1) := by decide +kernel
abbrev rmX6_ofThing : Room := { frames := 2, cells := 0, slots := 0, locals := 42 }
def fX6_ofThing (a0 : Nat) (l1 : Int32) (l2 : Int32) (z : AH) : Option (Int32) :=
  if isO 5 z a0 = true then
    if (3 : Int32) < l1 then (
      some (-2 : Int32)
    ) else (
      (gN 5 0 z a0).bind fun b6 =>
      (fX0_hasThing b6 l2 z).bind fun x10 =>
      if x10 = (0 : Int32) then (
        some (-2 : Int32)
      ) else (
        (fX6_isThere a0 l2 z).bind fun x21 =>
        if x21 = (0 : Int32) then (
          some (0 : Int32)
        ) else (
          if l1 = (3 : Int32) then (
            (fX6_bears a0 l2 z).bind fun x36 =>
            some x36
          ) else (
            if l1 = (1 : Int32) then (
              (gN 5 1 z a0).bind fun b46 =>
              (ixI 0 z b46 l2).bind fun x50 =>
              some x50
            ) else (
              (gN 5 2 z a0).bind fun b55 =>
              (ixI 0 z b55 l2).bind fun x59 =>
              some x59
            )
          )
        )
      )
    )
  else none
set_option maxHeartbeats 4000000 in
set_option maxRecDepth 100000 in
theorem ctX6_ofThing (l : Launch) (G : GW) (a0 : Nat) (l1 : Int32) (l2 : Int32) (z : AH) {r : Int32} (h : fX6_ofThing a0 l1 l2 z = some r) : Met l yX6_ofThing (wy yX6_ofThing cX6_ofThing 3 (some .int)) rmX6_ofThing (Pz G [.ref (gB G + a0), .int l1, .int l2] z) (Qi G r z) 0 0 (AA G) := by
  refine wz_ent (own := RX6) (by decide +kernel) rfl (fun p e s m below meth c ls C hlk hr hin hW hl => ?_) (Nat.le_of_ble_eq_true rfl)
  have hl : lv_has ls 3 [(0, .ref (gB G + a0)), (1, .int l1), (2, .int l2)] := hl
  have hx := C.1
  have hb := C.2.1
  unfold fX6_ofThing at h
  obtain ⟨-, h⟩ := ck h
  refine lv_iload_n hx hb dX6_ofThing_0 rfl (lv_at hl 1 rfl) ?_
  refine lv_iconst (v := 3) hx hb dX6_ofThing_1 (by decide) ?_
  refine lv_icmp_gt (tgt := 16) hx hb dX6_ofThing_2 (by decide) (fun c2 => ?_) (fun c2 => ?_)
  · have h := ite_t c2 h
    refine lv_bipush (v := -2) hx hb dX6_ofThing_16 (by decide) ?_
    exact wz_iretE C hlk hr (Option.some.inj h) rfl hW dX6_ofThing_18
  · have h := ite_f c2 h
    refine lv_aload_n hx hb dX6_ofThing_5 rfl (lv_at hl 0 rfl) ?_
    obtain ⟨b6, hg, h⟩ := ob h
    refine wz_gN C hW flX6_9 hg dX6_ofThing_6 ?_
    refine lv_iload_n hx hb dX6_ofThing_9 rfl (lv_at hl 2 rfl) ?_
    obtain ⟨x10, hq, h⟩ := ob h
    refine wz_rI (c' := 0) (s' := 0) hW (wz_runV (rest := []) C hW lVX6_73 (ck hq).1 rfl (ctX0_hasThing l G b6 l2 z hq) ⟨⟨rfl, rfl⟩, Nat.le_of_ble_eq_true rfl, Nat.le_of_ble_eq_true rfl⟩ rfl hl.1 rfl (Nat.le_of_ble_eq_true rfl) dX6_ofThing_10 ⟨Nat.le_of_ble_eq_true rfl, Nat.le_of_ble_eq_true rfl⟩) rfl rfl (fun H locs hW => ?_)
    refine lv_if_ne (tgt := 19) hx hb dX6_ofThing_13 (by decide) (fun c13 => ?_) (fun c13 => ?_)
    · have h := ite_f c13 h
      refine lv_aload_n hx hb dX6_ofThing_19 rfl (lv_at hl 0 rfl) ?_
      refine lv_iload_n hx hb dX6_ofThing_20 rfl (lv_at hl 2 rfl) ?_
      obtain ⟨x21, hq, h⟩ := ob h
      refine wz_rI (c' := 0) (s' := 0) hW (wz_runV (rest := []) C hW lVX6_128 (ck hq).1 rfl (ctX6_isThere l G a0 l2 z hq) ⟨⟨rfl, rfl⟩, Nat.le_of_ble_eq_true rfl, Nat.le_of_ble_eq_true rfl⟩ rfl hl.1 rfl (Nat.le_of_ble_eq_true rfl) dX6_ofThing_21 ⟨Nat.le_of_ble_eq_true rfl, Nat.le_of_ble_eq_true rfl⟩) rfl rfl (fun H locs hW => ?_)
      refine lv_if_ne (tgt := 29) hx hb dX6_ofThing_24 (by decide) (fun c24 => ?_) (fun c24 => ?_)
      · have h := ite_f c24 h
        refine lv_iload_n hx hb dX6_ofThing_29 rfl (lv_at hl 1 rfl) ?_
        refine lv_iconst (v := 3) hx hb dX6_ofThing_30 (by decide) ?_
        refine lv_icmp_ne (tgt := 40) hx hb dX6_ofThing_31 (by decide) (fun c31 => ?_) (fun c31 => ?_)
        · have h := ite_f c31 h
          refine lv_iload_n hx hb dX6_ofThing_40 rfl (lv_at hl 1 rfl) ?_
          refine lv_iconst (v := 1) hx hb dX6_ofThing_41 (by decide) ?_
          refine lv_icmp_ne (tgt := 54) hx hb dX6_ofThing_42 (by decide) (fun c42 => ?_) (fun c42 => ?_)
          · have h := ite_f c42 h
            refine lv_aload_n hx hb dX6_ofThing_54 rfl (lv_at hl 0 rfl) ?_
            obtain ⟨b55, hg, h⟩ := ob h
            refine wz_gN C hW flX6_21 hg dX6_ofThing_55 ?_
            refine lv_iload_n hx hb dX6_ofThing_58 rfl (lv_at hl 2 rfl) ?_
            obtain ⟨x59, hg, h⟩ := ob h
            refine wz_ald C hW hg dX6_ofThing_59 ?_
            exact wz_iretE C hlk hr (Option.some.inj h) rfl hW dX6_ofThing_60
          · have h := ite_t c42 h
            refine lv_aload_n hx hb dX6_ofThing_45 rfl (lv_at hl 0 rfl) ?_
            obtain ⟨b46, hg, h⟩ := ob h
            refine wz_gN C hW flX6_17 hg dX6_ofThing_46 ?_
            refine lv_iload_n hx hb dX6_ofThing_49 rfl (lv_at hl 2 rfl) ?_
            obtain ⟨x50, hg, h⟩ := ob h
            refine wz_ald C hW hg dX6_ofThing_50 ?_
            refine lv_goto (tgt := 60) hx hb dX6_ofThing_51 (by decide) ?_
            exact wz_iretE C hlk hr (Option.some.inj h) rfl hW dX6_ofThing_60
        · have h := ite_t c31 h
          refine lv_aload_n hx hb dX6_ofThing_34 rfl (lv_at hl 0 rfl) ?_
          refine lv_iload_n hx hb dX6_ofThing_35 rfl (lv_at hl 2 rfl) ?_
          obtain ⟨x36, hq, h⟩ := ob h
          refine wz_rI (c' := 0) (s' := 0) hW (wz_runV (rest := []) C hW lVX6_87 (ck hq).1 rfl (ctX6_bears l G a0 l2 z hq) ⟨⟨rfl, rfl⟩, Nat.le_of_ble_eq_true rfl, Nat.le_of_ble_eq_true rfl⟩ rfl hl.1 rfl (Nat.le_of_ble_eq_true rfl) dX6_ofThing_36 ⟨Nat.le_of_ble_eq_true rfl, Nat.le_of_ble_eq_true rfl⟩) rfl rfl (fun H locs hW => ?_)
          exact wz_iretE C hlk hr (Option.some.inj h) rfl hW dX6_ofThing_39
      · have h := ite_t c24 h
        refine lv_iconst (v := 0) hx hb dX6_ofThing_27 (by decide) ?_
        exact wz_iretE C hlk hr (Option.some.inj h) rfl hW dX6_ofThing_28
    · have h := ite_t c13 h
      refine lv_bipush (v := -2) hx hb dX6_ofThing_16 (by decide) ?_
      exact wz_iretE C hlk hr (Option.some.inj h) rfl hW dX6_ofThing_18
theorem lVX6_149 : LV RX6 149 yX6_ofThing cX6_ofThing 3 (some .int) 2 := ⟨tw 892 (by decide +kernel) rfl, tw 894 (by decide +kernel) rfl, tw 22 (by decide +kernel) rfl, tw 124 (by decide +kernel) rfl, tw 895 (by decide +kernel) rfl, ⟨by decide +kernel, by decide +kernel, by decide +kernel⟩⟩
theorem dX6_answer_0 : decode cX6_answer 0 = .ok (.iload_n 1, 1) := by decide +kernel
theorem dX6_answer_1 : decode cX6_answer 1 = .ok (.tableswitch 60 0 4 #[35, 40, 45, 50, 55], 35) := by decide +kernel
theorem dX6_answer_36 : decode cX6_answer 36 = .ok (.aload_n 0, 1) := by decide +kernel
theorem dX6_answer_37 : decode cX6_answer 37 = .ok (.getfield 52, 3) := by decide +kernel
theorem dX6_answer_40 : decode cX6_answer 40 = .ok (.ireturn, 1) := by decide +kernel
theorem dX6_answer_41 : decode cX6_answer 41 = .ok (.aload_n 0, 1) := by decide +kernel
theorem dX6_answer_42 : decode cX6_answer 42 = .ok (.getfield 37, 3) := by decide +kernel
theorem dX6_answer_45 : decode cX6_answer 45 = .ok (.ireturn, 1) := by decide +kernel
theorem dX6_answer_46 : decode cX6_answer 46 = .ok (.aload_n 0, 1) := by decide +kernel
theorem dX6_answer_47 : decode cX6_answer 47 = .ok (.getfield 55, 3) := by decide +kernel
theorem dX6_answer_50 : decode cX6_answer 50 = .ok (.ireturn, 1) := by decide +kernel
theorem dX6_answer_51 : decode cX6_answer 51 = .ok (.aload_n 0, 1) := by decide +kernel
theorem dX6_answer_52 : decode cX6_answer 52 = .ok (.getfield 58, 3) := by decide +kernel
theorem dX6_answer_55 : decode cX6_answer 55 = .ok (.ireturn, 1) := by decide +kernel
theorem dX6_answer_56 : decode cX6_answer 56 = .ok (.aload_n 0, 1) := by decide +kernel
theorem dX6_answer_57 : decode cX6_answer 57 = .ok (.getfield 61, 3) := by decide +kernel
theorem dX6_answer_60 : decode cX6_answer 60 = .ok (.ireturn, 1) := by decide +kernel
theorem dX6_answer_61 : decode cX6_answer 61 = .ok (.iload_n 1, 1) := by decide +kernel
theorem dX6_answer_62 : decode cX6_answer 62 = .ok (.bipush 10, 2) := by decide +kernel
theorem dX6_answer_64 : decode cX6_answer 64 = .ok (.if_icmp .ge 8, 3) := by decide +kernel
theorem dX6_answer_67 : decode cX6_answer 67 = .ok (.bipush (-2), 2) := by decide +kernel
theorem dX6_answer_69 : decode cX6_answer 69 = .ok (.goto 15, 3) := by decide +kernel
theorem dX6_answer_72 : decode cX6_answer 72 = .ok (.aload_n 0, 1) := by decide +kernel
theorem dX6_answer_73 : decode cX6_answer 73 = .ok (.iload_n 1, 1) := by decide +kernel
theorem dX6_answer_74 : decode cX6_answer 74 = .ok (.bipush 10, 2) := by decide +kernel
theorem dX6_answer_76 : decode cX6_answer 76 = .ok (.idiv, 1) := by decide +kernel
theorem dX6_answer_77 : decode cX6_answer 77 = .ok (.iload_n 1, 1) := by decide +kernel
theorem dX6_answer_78 : decode cX6_answer 78 = .ok (.bipush 10, 2) := by decide +kernel
theorem dX6_answer_80 : decode cX6_answer 80 = .ok (.irem, 1) := by decide +kernel
theorem dX6_answer_81 : decode cX6_answer 81 = .ok (.invokevirtual 149, 3) := by decide +kernel
theorem dX6_answer_84 : decode cX6_answer 84 = .ok (.ireturn, 1) := by decide +kernel
abbrev rmX6_answer : Room := { frames := 3, cells := 0, slots := 0, locals := 64 }
def fX6_answer (a0 : Nat) (l1 : Int32) (z : AH) : Option (Int32) :=
  if isO 5 z a0 = true then
    if l1 = (0 : Int32) then (
      (gI 5 5 z a0).bind fun x37 =>
      some x37
    ) else
    if l1 = (1 : Int32) then (
      (gI 5 6 z a0).bind fun x42 =>
      some x42
    ) else
    if l1 = (2 : Int32) then (
      (gI 5 8 z a0).bind fun x47 =>
      some x47
    ) else
    if l1 = (3 : Int32) then (
      (gI 5 9 z a0).bind fun x52 =>
      some x52
    ) else
    if l1 = (4 : Int32) then (
      (gI 5 10 z a0).bind fun x57 =>
      some x57
    ) else
    if (10 : Int32) ≤ l1 then (
      (fX6_ofThing a0 (l1 / (10 : Int32)) (irem l1 (10 : Int32)) z).bind fun x81 =>
      some x81
    ) else (
      some (-2 : Int32)
    )
  else none
set_option maxHeartbeats 4000000 in
set_option maxRecDepth 100000 in
theorem ctX6_answer (l : Launch) (G : GW) (a0 : Nat) (l1 : Int32) (z : AH) {r : Int32} (h : fX6_answer a0 l1 z = some r) : Met l yX6_answer (wy yX6_answer cX6_answer 2 (some .int)) rmX6_answer (Pz G [.ref (gB G + a0), .int l1] z) (Qi G r z) 0 0 (AA G) := by
  refine wz_ent (own := RX6) (by decide +kernel) rfl (fun p e s m below meth c ls C hlk hr hin hW hl => ?_) (Nat.le_of_ble_eq_true rfl)
  have hl : lv_has ls 2 [(0, .ref (gB G + a0)), (1, .int l1)] := hl
  have hx := C.1
  have hb := C.2.1
  unfold fX6_answer at h
  obtain ⟨-, h⟩ := ck h
  refine lv_iload_n hx hb dX6_answer_0 rfl (lv_at hl 1 rfl) ?_
  by_cases c1_0 : l1 = (0 : Int32)
  · have h := ite_t c1_0 h
    refine wz_sw (0 : Int32) (tgt := 36) hx hb dX6_answer_1 c1_0 (by decide) rfl (by decide) ?_
    refine lv_aload_n hx hb dX6_answer_36 rfl (lv_at hl 0 rfl) ?_
    obtain ⟨x37, hg, h⟩ := ob h
    refine wz_gI C hW flX6_52 hg dX6_answer_37 ?_
    exact wz_iretE C hlk hr (Option.some.inj h) rfl hW dX6_answer_40
  have h := ite_f c1_0 h
  by_cases c1_1 : l1 = (1 : Int32)
  · have h := ite_t c1_1 h
    refine wz_sw (1 : Int32) (tgt := 41) hx hb dX6_answer_1 c1_1 (by decide) rfl (by decide) ?_
    refine lv_aload_n hx hb dX6_answer_41 rfl (lv_at hl 0 rfl) ?_
    obtain ⟨x42, hg, h⟩ := ob h
    refine wz_gI C hW flX6_37 hg dX6_answer_42 ?_
    exact wz_iretE C hlk hr (Option.some.inj h) rfl hW dX6_answer_45
  have h := ite_f c1_1 h
  by_cases c1_2 : l1 = (2 : Int32)
  · have h := ite_t c1_2 h
    refine wz_sw (2 : Int32) (tgt := 46) hx hb dX6_answer_1 c1_2 (by decide) rfl (by decide) ?_
    refine lv_aload_n hx hb dX6_answer_46 rfl (lv_at hl 0 rfl) ?_
    obtain ⟨x47, hg, h⟩ := ob h
    refine wz_gI C hW flX6_55 hg dX6_answer_47 ?_
    exact wz_iretE C hlk hr (Option.some.inj h) rfl hW dX6_answer_50
  have h := ite_f c1_2 h
  by_cases c1_3 : l1 = (3 : Int32)
  · have h := ite_t c1_3 h
    refine wz_sw (3 : Int32) (tgt := 51) hx hb dX6_answer_1 c1_3 (by decide) rfl (by decide) ?_
    refine lv_aload_n hx hb dX6_answer_51 rfl (lv_at hl 0 rfl) ?_
    obtain ⟨x52, hg, h⟩ := ob h
    refine wz_gI C hW flX6_58 hg dX6_answer_52 ?_
    exact wz_iretE C hlk hr (Option.some.inj h) rfl hW dX6_answer_55
  have h := ite_f c1_3 h
  by_cases c1_4 : l1 = (4 : Int32)
  · have h := ite_t c1_4 h
    refine wz_sw (4 : Int32) (tgt := 56) hx hb dX6_answer_1 c1_4 (by decide) rfl (by decide) ?_
    refine lv_aload_n hx hb dX6_answer_56 rfl (lv_at hl 0 rfl) ?_
    obtain ⟨x57, hg, h⟩ := ob h
    refine wz_gI C hW flX6_61 hg dX6_answer_57 ?_
    exact wz_iretE C hlk hr (Option.some.inj h) rfl hW dX6_answer_60
  have h := ite_f c1_4 h
  refine lv_tableOut (tgt := 61) hx hb dX6_answer_1 (by have g0 := i32_ne c1_0 (z := 0) (by decide); have g1 := i32_ne c1_1 (z := 1) (by decide); have g2 := i32_ne c1_2 (z := 2) (by decide); have g3 := i32_ne c1_3 (z := 3) (by decide); have g4 := i32_ne c1_4 (z := 4) (by decide); omega) (by decide) ?_
  refine lv_iload_n hx hb dX6_answer_61 rfl (lv_at hl 1 rfl) ?_
  refine lv_bipush (v := 10) hx hb dX6_answer_62 (by decide) ?_
  refine lv_icmp_ge (tgt := 72) hx hb dX6_answer_64 (by decide) (fun c64 => ?_) (fun c64 => ?_)
  · have h := ite_t c64 h
    refine lv_aload_n hx hb dX6_answer_72 rfl (lv_at hl 0 rfl) ?_
    refine lv_iload_n hx hb dX6_answer_73 rfl (lv_at hl 1 rfl) ?_
    refine lv_bipush (v := 10) hx hb dX6_answer_74 (by decide) ?_
    refine lv_idiv hx hb dX6_answer_76 (by decide) ?_
    refine lv_iload_n hx hb dX6_answer_77 rfl (lv_at hl 1 rfl) ?_
    refine lv_bipush (v := 10) hx hb dX6_answer_78 (by decide) ?_
    refine wz_irem hx hb dX6_answer_80 (by decide) ?_
    obtain ⟨x81, hq, h⟩ := ob h
    refine wz_rI (c' := 0) (s' := 0) hW (wz_runV (rest := []) C hW lVX6_149 (ck hq).1 rfl (ctX6_ofThing l G a0 (l1 / (10 : Int32)) (irem l1 (10 : Int32)) z hq) ⟨⟨rfl, rfl⟩, Nat.le_of_ble_eq_true rfl, Nat.le_of_ble_eq_true rfl⟩ rfl hl.1 rfl (Nat.le_of_ble_eq_true rfl) dX6_answer_81 ⟨Nat.le_of_ble_eq_true rfl, Nat.le_of_ble_eq_true rfl⟩) rfl rfl (fun H locs hW => ?_)
    exact wz_iretE C hlk hr (Option.some.inj h) rfl hW dX6_answer_84
  · have h := ite_f c64 h
    refine lv_bipush (v := -2) hx hb dX6_answer_67 (by decide) ?_
    refine lv_goto (tgt := 84) hx hb dX6_answer_69 (by decide) ?_
    exact wz_iretE C hlk hr (Option.some.inj h) rfl hW dX6_answer_84
theorem dX6_busiest_0 : decode cX6_busiest 0 = .ok (.iconst (-1), 1) := by decide +kernel
theorem dX6_busiest_1 : decode cX6_busiest 1 = .ok (.istore_n 1, 1) := by decide +kernel
theorem dX6_busiest_2 : decode cX6_busiest 2 = .ok (.iconst 0, 1) := by decide +kernel
theorem dX6_busiest_3 : decode cX6_busiest 3 = .ok (.istore_n 2, 1) := by decide +kernel
theorem dX6_busiest_4 : decode cX6_busiest 4 = .ok (.iconst 0, 1) := by decide +kernel
theorem dX6_busiest_5 : decode cX6_busiest 5 = .ok (.istore_n 3, 1) := by decide +kernel
theorem dX6_busiest_6 : decode cX6_busiest 6 = .ok (.iload_n 3, 1) := by decide +kernel
theorem dX6_busiest_7 : decode cX6_busiest 7 = .ok (.aload_n 0, 1) := by decide +kernel
theorem dX6_busiest_8 : decode cX6_busiest 8 = .ok (.getfield 27, 3) := by decide +kernel
theorem dX6_busiest_11 : decode cX6_busiest 11 = .ok (.arraylength, 1) := by decide +kernel
theorem dX6_busiest_12 : decode cX6_busiest 12 = .ok (.if_icmp .ge 28, 3) := by decide +kernel
theorem dX6_busiest_15 : decode cX6_busiest 15 = .ok (.aload_n 0, 1) := by decide +kernel
theorem dX6_busiest_16 : decode cX6_busiest 16 = .ok (.getfield 27, 3) := by decide +kernel
theorem dX6_busiest_19 : decode cX6_busiest 19 = .ok (.iload_n 3, 1) := by decide +kernel
theorem dX6_busiest_20 : decode cX6_busiest 20 = .ok (.iaload, 1) := by decide +kernel
theorem dX6_busiest_21 : decode cX6_busiest 21 = .ok (.iload_n 2, 1) := by decide +kernel
theorem dX6_busiest_22 : decode cX6_busiest 22 = .ok (.if_icmp .le 12, 3) := by decide +kernel
theorem dX6_busiest_25 : decode cX6_busiest 25 = .ok (.iload_n 3, 1) := by decide +kernel
theorem dX6_busiest_26 : decode cX6_busiest 26 = .ok (.istore_n 1, 1) := by decide +kernel
theorem dX6_busiest_27 : decode cX6_busiest 27 = .ok (.aload_n 0, 1) := by decide +kernel
theorem dX6_busiest_28 : decode cX6_busiest 28 = .ok (.getfield 27, 3) := by decide +kernel
theorem dX6_busiest_31 : decode cX6_busiest 31 = .ok (.iload_n 3, 1) := by decide +kernel
theorem dX6_busiest_32 : decode cX6_busiest 32 = .ok (.iaload, 1) := by decide +kernel
theorem dX6_busiest_33 : decode cX6_busiest 33 = .ok (.istore_n 2, 1) := by decide +kernel
theorem dX6_busiest_34 : decode cX6_busiest 34 = .ok (.iinc 3 1, 3) := by decide +kernel
theorem dX6_busiest_37 : decode cX6_busiest 37 = .ok (.goto (-31), 3) := by decide +kernel
theorem dX6_busiest_40 : decode cX6_busiest 40 = .ok (.iload_n 1, 1) := by decide +kernel
theorem dX6_busiest_41 : decode cX6_busiest 41 = .ok (.ireturn, 1) := by decide +kernel
abbrev rmX6_busiest : Room := { frames := 0, cells := 0, slots := 0, locals := 0 }
def bX6_busiest_6 (k6 : Nat → Int32 → Int32 → Int32 → Option (Int32)) (a0 : Nat) (l1 : Int32) (l2 : Int32) (l3 : Int32) (z : AH) : Option (Int32) :=
  (gN 5 3 z a0).bind fun b8 =>
  (lnI 0 z b8).bind fun x11 =>
  if x11 ≤ l3 then (
    some l1
  ) else (
    (gN 5 3 z a0).bind fun b16 =>
    (ixI 0 z b16 l3).bind fun x20 =>
    if x20 ≤ l2 then (
      nm (l3 + (1 : Int32)) fun v34 =>
      k6 a0 l1 l2 v34
    ) else (
      (gN 5 3 z a0).bind fun b28 =>
      (ixI 0 z b28 l3).bind fun x32 =>
      nm (l3 + (1 : Int32)) fun v34 =>
      k6 a0 l3 x32 v34
    )
  )
set_option maxHeartbeats 4000000 in
set_option maxRecDepth 100000 in
theorem kbX6_busiest_6 {p : Program} {l : Launch} {e : Env} {s : State} {m : MethodId} {args : Array Value} {below : List Frame} {meth : Method} {c : Code} {G : GW} {r : Int32} (C : Cx p m c cX6_busiest 4 s args RX6 G) (hlk : meth.locks = false) (hr : meth.sig.returnType = (some .int)) {z : AH} (k6 : Nat → Int32 → Int32 → Int32 → Option (Int32)) (hk6 : ∀ (a0 : Nat) (l1 : Int32) (l2 : Int32) (l3 : Int32) (H : Heap) (locs : List Loc) (ls : Array Slot), k6 a0 l1 l2 l3 = some r → Wb G z s H locs → lv_has ls 4 [(0, .ref (gB G + a0)), (1, .int l1), (2, .int l2), (3, .int l3)] → W p l e rmX6_busiest s m args below meth c H locs 0 0 (MQ below (Qi G r z) args s 0 0 (AA G)) (F0 m 6 ls [])) (a0 : Nat) (l1 : Int32) (l2 : Int32) (l3 : Int32) {H : Heap} {locs : List Loc} {ls : Array Slot} (h : bX6_busiest_6 k6 a0 l1 l2 l3 z = some r) (hW : Wb G z s H locs) (hl : lv_has ls 4 [(0, .ref (gB G + a0)), (1, .int l1), (2, .int l2), (3, .int l3)]) : W p l e rmX6_busiest s m args below meth c H locs 0 0 (MQ below (Qi G r z) args s 0 0 (AA G)) (F0 m 6 ls []) := by
  have hx := C.1
  have hb := C.2.1
  unfold bX6_busiest_6 at h
  refine lv_iload_n hx hb dX6_busiest_6 rfl (lv_at hl 3 rfl) ?_
  refine lv_aload_n hx hb dX6_busiest_7 rfl (lv_at hl 0 rfl) ?_
  obtain ⟨b8, hg, h⟩ := ob h
  refine wz_gN C hW flX6_27 hg dX6_busiest_8 ?_
  obtain ⟨x11, hg, h⟩ := ob h
  refine wz_len C hW hg dX6_busiest_11 ?_
  refine lv_icmp_ge (tgt := 40) hx hb dX6_busiest_12 (by decide) (fun c12 => ?_) (fun c12 => ?_)
  · have h := ite_t c12 h
    refine lv_iload_n hx hb dX6_busiest_40 rfl (lv_at hl 1 rfl) ?_
    exact wz_iretE C hlk hr (Option.some.inj h) rfl hW dX6_busiest_41
  · have h := ite_f c12 h
    refine lv_aload_n hx hb dX6_busiest_15 rfl (lv_at hl 0 rfl) ?_
    obtain ⟨b16, hg, h⟩ := ob h
    refine wz_gN C hW flX6_27 hg dX6_busiest_16 ?_
    refine lv_iload_n hx hb dX6_busiest_19 rfl (lv_at hl 3 rfl) ?_
    obtain ⟨x20, hg, h⟩ := ob h
    refine wz_ald C hW hg dX6_busiest_20 ?_
    refine lv_iload_n hx hb dX6_busiest_21 rfl (lv_at hl 2 rfl) ?_
    refine lv_icmp_le (tgt := 34) hx hb dX6_busiest_22 (by decide) (fun c22 => ?_) (fun c22 => ?_)
    · have h := ite_t c22 h
      obtain ⟨v34, ev34⟩ : ∃ y : Int32, y = (l3 + (1 : Int32)) := ⟨_, rfl⟩
      have h := nm_to h ev34
      refine lv_iinc (v := v34) (lv' := [(3, .int v34), (0, .ref (gB G + a0)), (1, .int l1), (2, .int l2)]) hx hb dX6_busiest_34 hl (k := 3) rfl (by rw [ev34]; rfl) (by decide) rfl (fun ls hl => ?_)
      refine lv_goto (tgt := 6) hx hb dX6_busiest_37 (by decide) ?_
      exact hk6 a0 l1 l2 v34 _ _ _ h hW (lv_sub hl [1, 2, 3, 0] rfl)
    · have h := ite_f c22 h
      refine lv_iload_n hx hb dX6_busiest_25 rfl (lv_at hl 3 rfl) ?_
      refine lv_istore_n (lv' := [(1, .int l3), (0, .ref (gB G + a0)), (2, .int l2), (3, .int l3)]) hx hb dX6_busiest_26 rfl hl (by decide) rfl (fun ls hl => ?_)
      refine lv_aload_n hx hb dX6_busiest_27 rfl (lv_at hl 1 rfl) ?_
      obtain ⟨b28, hg, h⟩ := ob h
      refine wz_gN C hW flX6_27 hg dX6_busiest_28 ?_
      refine lv_iload_n hx hb dX6_busiest_31 rfl (lv_at hl 3 rfl) ?_
      obtain ⟨x32, hg, h⟩ := ob h
      refine wz_ald C hW hg dX6_busiest_32 ?_
      refine lv_istore_n (lv' := [(2, .int x32), (1, .int l3), (0, .ref (gB G + a0)), (3, .int l3)]) hx hb dX6_busiest_33 rfl hl (by decide) rfl (fun ls hl => ?_)
      obtain ⟨v34, ev34⟩ : ∃ y : Int32, y = (l3 + (1 : Int32)) := ⟨_, rfl⟩
      have h := nm_to h ev34
      refine lv_iinc (v := v34) (lv' := [(3, .int v34), (2, .int x32), (1, .int l3), (0, .ref (gB G + a0))]) hx hb dX6_busiest_34 hl (k := 3) rfl (by rw [ev34]; rfl) (by decide) rfl (fun ls hl => ?_)
      refine lv_goto (tgt := 6) hx hb dX6_busiest_37 (by decide) ?_
      exact hk6 a0 l3 x32 v34 _ _ _ h hW (lv_sub hl [3, 2, 1, 0] rfl)
def fX6_busiest_6 (z : AH) : Nat → Nat → Int32 → Int32 → Int32 → Option (Int32)
  | 0, _, _, _, _ => none
  | n + 1, a0, l1, l2, l3 => bX6_busiest_6 (fX6_busiest_6 z n) a0 l1 l2 l3 z
theorem klX6_busiest_6 {p : Program} {l : Launch} {e : Env} {s : State} {m : MethodId} {args : Array Value} {below : List Frame} {meth : Method} {c : Code} {G : GW} {r : Int32} (C : Cx p m c cX6_busiest 4 s args RX6 G) (hlk : meth.locks = false) (hr : meth.sig.returnType = (some .int)) {z : AH} : ∀ (n : Nat) (a0 : Nat) (l1 : Int32) (l2 : Int32) (l3 : Int32) (H : Heap) (locs : List Loc) (ls : Array Slot), fX6_busiest_6 z n a0 l1 l2 l3 = some r → Wb G z s H locs → lv_has ls 4 [(0, .ref (gB G + a0)), (1, .int l1), (2, .int l2), (3, .int l3)] → W p l e rmX6_busiest s m args below meth c H locs 0 0 (MQ below (Qi G r z) args s 0 0 (AA G)) (F0 m 6 ls []) := by
  intro n
  induction n with
  | zero => intro a0 l1 l2 l3 H locs ls h; have h : (none : Option (Int32)) = some r := h; cases h
  | succ n ih => intro a0 l1 l2 l3 H locs ls h hW hl; exact kbX6_busiest_6 C hlk hr (fX6_busiest_6 z n) (fun a0 l1 l2 l3 H locs ls h hW hl => ih a0 l1 l2 l3 H locs ls h hW hl) a0 l1 l2 l3 h hW hl
def fX6_busiest (a0 : Nat) (z : AH) : Option (Int32) :=
  if isO 5 z a0 = true then
    fX6_busiest_6 z FU a0 (-1 : Int32) (0 : Int32) (0 : Int32)
  else none
set_option maxHeartbeats 4000000 in
set_option maxRecDepth 100000 in
theorem ctX6_busiest (l : Launch) (G : GW) (a0 : Nat) (z : AH) {r : Int32} (h : fX6_busiest a0 z = some r) : Met l yX6_busiest (wy yX6_busiest cX6_busiest 4 (some .int)) rmX6_busiest (Pz G [.ref (gB G + a0)] z) (Qi G r z) 0 0 (AA G) := by
  refine wz_ent (own := RX6) (by decide +kernel) rfl (fun p e s m below meth c ls C hlk hr hin hW hl => ?_) (Nat.le_of_ble_eq_true rfl)
  have hl : lv_has ls 4 [(0, .ref (gB G + a0))] := hl
  have hx := C.1
  have hb := C.2.1
  unfold fX6_busiest at h
  obtain ⟨-, h⟩ := ck h
  refine lv_iconst (v := -1) hx hb dX6_busiest_0 (by decide) ?_
  refine lv_istore_n (lv' := [(1, .int (-1 : Int32)), (0, .ref (gB G + a0))]) hx hb dX6_busiest_1 rfl hl (by decide) rfl (fun ls hl => ?_)
  refine lv_iconst (v := 0) hx hb dX6_busiest_2 (by decide) ?_
  refine lv_istore_n (lv' := [(2, .int (0 : Int32)), (1, .int (-1 : Int32)), (0, .ref (gB G + a0))]) hx hb dX6_busiest_3 rfl hl (by decide) rfl (fun ls hl => ?_)
  refine lv_iconst (v := 0) hx hb dX6_busiest_4 (by decide) ?_
  refine lv_istore_n (lv' := [(3, .int (0 : Int32)), (2, .int (0 : Int32)), (1, .int (-1 : Int32)), (0, .ref (gB G + a0))]) hx hb dX6_busiest_5 rfl hl (by decide) rfl (fun ls hl => ?_)
  exact klX6_busiest_6 C hlk hr FU a0 (-1 : Int32) (0 : Int32) (0 : Int32) _ _ _ h hW (lv_sub hl [3, 2, 1, 0] rfl)
theorem flX6_152 : FL RX6 152 5 14 := ⟨_, rfl, Nat.le_of_ble_eq_true rfl, tw 371 (by decide +kernel) rfl, rfl⟩
theorem dX6_below_0 : decode cX6_below 0 = .ok (.aload_n 0, 1) := by decide +kernel
theorem dX6_below_1 : decode cX6_below 1 = .ok (.aload_n 0, 1) := by decide +kernel
theorem dX6_below_2 : decode cX6_below 2 = .ok (.getfield 152, 3) := by decide +kernel
theorem dX6_below_5 : decode cX6_below 5 = .ok (.ldc 155, 2) := by decide +kernel
theorem dX6_below_7 : decode cX6_below 7 = .ok (.imul, 1) := by decide +kernel
theorem dX6_below_8 : decode cX6_below 8 = .ok (.sipush 12345, 3) := by decide +kernel
theorem dX6_below_11 : decode cX6_below 11 = .ok (.iadd, 1) := by decide +kernel
theorem dX6_below_12 : decode cX6_below 12 = .ok (.putfield 152, 3) := by decide +kernel
theorem dX6_below_15 : decode cX6_below 15 = .ok (.iload_n 1, 1) := by decide +kernel
theorem dX6_below_16 : decode cX6_below 16 = .ok (.ifCond .le 15, 3) := by decide +kernel
theorem dX6_below_19 : decode cX6_below 19 = .ok (.aload_n 0, 1) := by decide +kernel
theorem dX6_below_20 : decode cX6_below 20 = .ok (.getfield 152, 3) := by decide +kernel
theorem dX6_below_23 : decode cX6_below 23 = .ok (.bipush 16, 2) := by decide +kernel
theorem dX6_below_25 : decode cX6_below 25 = .ok (.iushr, 1) := by decide +kernel
theorem dX6_below_26 : decode cX6_below 26 = .ok (.iload_n 1, 1) := by decide +kernel
theorem dX6_below_27 : decode cX6_below 27 = .ok (.irem, 1) := by decide +kernel
theorem dX6_below_28 : decode cX6_below 28 = .ok (.goto 4, 3) := by decide +kernel
theorem dX6_below_31 : decode cX6_below 31 = .ok (.iconst 0, 1) := by decide +kernel
theorem dX6_below_32 : decode cX6_below 32 = .ok (.ireturn, 1) := by decide +kernel
abbrev rmX6_below : Room := { frames := 0, cells := 0, slots := 0, locals := 0 }
def fX6_below (a0 : Nat) (l1 : Int32) (z : AH) : Option (Int32 × AH) :=
  if isO 5 z a0 = true then
    (gI 5 14 z a0).bind fun x2 =>
    (pF 5 14 z a0 (.int ((x2 * (1103515245 : Int32)) + (12345 : Int32)))).bind fun z12 =>
    if l1 ≤ (0 : Int32) then (
      some ((0 : Int32), z12)
    ) else (
      (gI 5 14 z12 a0).bind fun x20 =>
      if ¬ l1 = 0 then (
      some ((irem (ush x20 (16 : Int32)) l1), z12)
      ) else none
    )
  else none
set_option maxHeartbeats 4000000 in
set_option maxRecDepth 100000 in
theorem ctX6_below (l : Launch) (G : GW) (a0 : Nat) (l1 : Int32) (z : AH) {r : Int32} {z' : AH} (h : fX6_below a0 l1 z = some (r, z')) : Met l yX6_below (wy yX6_below cX6_below 2 (some .int)) rmX6_below (Pz G [.ref (gB G + a0), .int l1] z) (Qi G r z') 0 0 (AA G) := by
  refine wz_ent (own := RX6) (by decide +kernel) rfl (fun p e s m below meth c ls C hlk hr hin hW hl => ?_) (Nat.le_of_ble_eq_true rfl)
  have hl : lv_has ls 2 [(0, .ref (gB G + a0)), (1, .int l1)] := hl
  have hx := C.1
  have hb := C.2.1
  unfold fX6_below at h
  obtain ⟨-, h⟩ := ck h
  refine lv_aload_n hx hb dX6_below_0 rfl (lv_at hl 0 rfl) ?_
  refine lv_aload_n hx hb dX6_below_1 rfl (lv_at hl 0 rfl) ?_
  obtain ⟨x2, hg, h⟩ := ob h
  refine wz_gI C hW flX6_152 hg dX6_below_2 ?_
  refine lv_ldc (v := 1103515245) hx hb C.2.2.2.1 (C.2.2.2.2.1 _ (tw 1099 (by decide +kernel) rfl)) dX6_below_5 ?_
  refine lv_imul hx hb dX6_below_7 ?_
  refine lv_sipush (v := 12345) hx hb dX6_below_8 (by decide) ?_
  refine lv_iadd hx hb dX6_below_11 ?_
  obtain ⟨z12, hg, h⟩ := ob h
  refine wz_put (v := (.int ((x2 * (1103515245 : Int32)) + (12345 : Int32)))) C hW flX6_152 rfl rfl hg dX6_below_12 (fun H locs hW => ?_)
  refine lv_iload_n hx hb dX6_below_15 rfl (lv_at hl 1 rfl) ?_
  refine lv_if_le (tgt := 31) hx hb dX6_below_16 (by decide) (fun c16 => ?_) (fun c16 => ?_)
  · have h := ite_t c16 h
    refine lv_iconst (v := 0) hx hb dX6_below_31 (by decide) ?_
    exact wz_iretE C hlk hr (so2 h).1 (so2 h).2 hW dX6_below_32
  · have h := ite_f c16 h
    refine lv_aload_n hx hb dX6_below_19 rfl (lv_at hl 0 rfl) ?_
    obtain ⟨x20, hg, h⟩ := ob h
    refine wz_gI C hW flX6_152 hg dX6_below_20 ?_
    refine lv_bipush (v := 16) hx hb dX6_below_23 (by decide) ?_
    refine wz_ush hx hb dX6_below_25 ?_
    refine lv_iload_n hx hb dX6_below_26 rfl (lv_at hl 1 rfl) ?_
    obtain ⟨hne27, h⟩ := ck h
    refine wz_irem hx hb dX6_below_27 hne27 ?_
    refine lv_goto (tgt := 32) hx hb dX6_below_28 (by decide) ?_
    exact wz_iretE C hlk hr (so2 h).1 (so2 h).2 hW dX6_below_32
theorem lVX6_156 : LV RX6 156 yX6_below cX6_below 2 (some .int) 1 := ⟨tw 1095 (by decide +kernel) rfl, tw 1097 (by decide +kernel) rfl, tw 33 (by decide +kernel) rfl, tw 124 (by decide +kernel) rfl, tw 1098 (by decide +kernel) rfl, ⟨by decide +kernel, by decide +kernel, by decide +kernel⟩⟩
theorem dX6_drawDeed_0 : decode cX6_drawDeed 0 = .ok (.aload_n 0, 1) := by decide +kernel
theorem dX6_drawDeed_1 : decode cX6_drawDeed 1 = .ok (.bipush 8, 2) := by decide +kernel
theorem dX6_drawDeed_3 : decode cX6_drawDeed 3 = .ok (.invokevirtual 156, 3) := by decide +kernel
theorem dX6_drawDeed_6 : decode cX6_drawDeed 6 = .ok (.istore_n 1, 1) := by decide +kernel
theorem dX6_drawDeed_7 : decode cX6_drawDeed 7 = .ok (.iload_n 1, 1) := by decide +kernel
theorem dX6_drawDeed_8 : decode cX6_drawDeed 8 = .ok (.iconst 4, 1) := by decide +kernel
theorem dX6_drawDeed_9 : decode cX6_drawDeed 9 = .ok (.if_icmp .gt 7, 3) := by decide +kernel
theorem dX6_drawDeed_12 : decode cX6_drawDeed 12 = .ok (.iconst 1, 1) := by decide +kernel
theorem dX6_drawDeed_13 : decode cX6_drawDeed 13 = .ok (.goto 4, 3) := by decide +kernel
theorem dX6_drawDeed_16 : decode cX6_drawDeed 16 = .ok (.iconst 0, 1) := by decide +kernel
theorem dX6_drawDeed_17 : decode cX6_drawDeed 17 = .ok (.istore_n 2, 1) := by decide +kernel
theorem dX6_drawDeed_18 : decode cX6_drawDeed 18 = .ok (.iload_n 1, 1) := by decide +kernel
theorem dX6_drawDeed_19 : decode cX6_drawDeed 19 = .ok (.iconst 2, 1) := by decide +kernel
theorem dX6_drawDeed_20 : decode cX6_drawDeed 20 = .ok (.if_icmp .le 8, 3) := by decide +kernel
theorem dX6_drawDeed_23 : decode cX6_drawDeed 23 = .ok (.iload_n 1, 1) := by decide +kernel
theorem dX6_drawDeed_24 : decode cX6_drawDeed 24 = .ok (.iconst 5, 1) := by decide +kernel
theorem dX6_drawDeed_25 : decode cX6_drawDeed 25 = .ok (.if_icmp .ne 7, 3) := by decide +kernel
theorem dX6_drawDeed_28 : decode cX6_drawDeed 28 = .ok (.iconst 1, 1) := by decide +kernel
theorem dX6_drawDeed_29 : decode cX6_drawDeed 29 = .ok (.goto 4, 3) := by decide +kernel
theorem dX6_drawDeed_32 : decode cX6_drawDeed 32 = .ok (.iconst 0, 1) := by decide +kernel
theorem dX6_drawDeed_33 : decode cX6_drawDeed 33 = .ok (.istore_n 3, 1) := by decide +kernel
theorem dX6_drawDeed_34 : decode cX6_drawDeed 34 = .ok (.iload_n 2, 1) := by decide +kernel
theorem dX6_drawDeed_35 : decode cX6_drawDeed 35 = .ok (.ifCond .eq 13, 3) := by decide +kernel
theorem dX6_drawDeed_38 : decode cX6_drawDeed 38 = .ok (.aload_n 0, 1) := by decide +kernel
theorem dX6_drawDeed_39 : decode cX6_drawDeed 39 = .ok (.getfield 9, 3) := by decide +kernel
theorem dX6_drawDeed_42 : decode cX6_drawDeed 42 = .ok (.getfield 125, 3) := by decide +kernel
theorem dX6_drawDeed_45 : decode cX6_drawDeed 45 = .ok (.ifCond .eq 17, 3) := by decide +kernel
theorem dX6_drawDeed_48 : decode cX6_drawDeed 48 = .ok (.iload_n 3, 1) := by decide +kernel
theorem dX6_drawDeed_49 : decode cX6_drawDeed 49 = .ok (.ifCond .eq 14, 3) := by decide +kernel
theorem dX6_drawDeed_52 : decode cX6_drawDeed 52 = .ok (.aload_n 0, 1) := by decide +kernel
theorem dX6_drawDeed_53 : decode cX6_drawDeed 53 = .ok (.getfield 9, 3) := by decide +kernel
theorem dX6_drawDeed_56 : decode cX6_drawDeed 56 = .ok (.getfield 81, 3) := by decide +kernel
theorem dX6_drawDeed_59 : decode cX6_drawDeed 59 = .ok (.ifCond .ne 4, 3) := by decide +kernel
theorem dX6_drawDeed_62 : decode cX6_drawDeed 62 = .ok (.return_, 1) := by decide +kernel
theorem dX6_drawDeed_63 : decode cX6_drawDeed 63 = .ok (.iload_n 2, 1) := by decide +kernel
theorem dX6_drawDeed_64 : decode cX6_drawDeed 64 = .ok (.ifCond .eq 17, 3) := by decide +kernel
theorem dX6_drawDeed_67 : decode cX6_drawDeed 67 = .ok (.aload_n 0, 1) := by decide +kernel
theorem dX6_drawDeed_68 : decode cX6_drawDeed 68 = .ok (.aload_n 0, 1) := by decide +kernel
theorem dX6_drawDeed_69 : decode cX6_drawDeed 69 = .ok (.getfield 9, 3) := by decide +kernel
theorem dX6_drawDeed_72 : decode cX6_drawDeed 72 = .ok (.getfield 125, 3) := by decide +kernel
theorem dX6_drawDeed_75 : decode cX6_drawDeed 75 = .ok (.invokevirtual 156, 3) := by decide +kernel
theorem dX6_drawDeed_78 : decode cX6_drawDeed 78 = .ok (.goto 4, 3) := by decide +kernel
theorem dX6_drawDeed_81 : decode cX6_drawDeed 81 = .ok (.iconst (-1), 1) := by decide +kernel
theorem dX6_drawDeed_82 : decode cX6_drawDeed 82 = .ok (.istore 4, 2) := by decide +kernel
theorem dX6_drawDeed_84 : decode cX6_drawDeed 84 = .ok (.iload_n 3, 1) := by decide +kernel
theorem dX6_drawDeed_85 : decode cX6_drawDeed 85 = .ok (.ifCond .eq 17, 3) := by decide +kernel
theorem dX6_drawDeed_88 : decode cX6_drawDeed 88 = .ok (.aload_n 0, 1) := by decide +kernel
theorem dX6_drawDeed_89 : decode cX6_drawDeed 89 = .ok (.aload_n 0, 1) := by decide +kernel
theorem dX6_drawDeed_90 : decode cX6_drawDeed 90 = .ok (.getfield 9, 3) := by decide +kernel
theorem dX6_drawDeed_93 : decode cX6_drawDeed 93 = .ok (.getfield 81, 3) := by decide +kernel
theorem dX6_drawDeed_96 : decode cX6_drawDeed 96 = .ok (.invokevirtual 156, 3) := by decide +kernel
theorem dX6_drawDeed_99 : decode cX6_drawDeed 99 = .ok (.goto 4, 3) := by decide +kernel
theorem dX6_drawDeed_102 : decode cX6_drawDeed 102 = .ok (.iconst (-1), 1) := by decide +kernel
theorem dX6_drawDeed_103 : decode cX6_drawDeed 103 = .ok (.istore 5, 2) := by decide +kernel
theorem dX6_drawDeed_105 : decode cX6_drawDeed 105 = .ok (.iload_n 1, 1) := by decide +kernel
theorem dX6_drawDeed_106 : decode cX6_drawDeed 106 = .ok (.iconst 2, 1) := by decide +kernel
theorem dX6_drawDeed_107 : decode cX6_drawDeed 107 = .ok (.if_icmp .gt 16, 3) := by decide +kernel
theorem dX6_drawDeed_110 : decode cX6_drawDeed 110 = .ok (.aload_n 0, 1) := by decide +kernel
theorem dX6_drawDeed_111 : decode cX6_drawDeed 111 = .ok (.iconst 0, 1) := by decide +kernel
theorem dX6_drawDeed_112 : decode cX6_drawDeed 112 = .ok (.iload 4, 2) := by decide +kernel
theorem dX6_drawDeed_114 : decode cX6_drawDeed 114 = .ok (.iload 5, 2) := by decide +kernel
theorem dX6_drawDeed_116 : decode cX6_drawDeed 116 = .ok (.invokevirtual 105, 3) := by decide +kernel
theorem dX6_drawDeed_119 : decode cX6_drawDeed 119 = .ok (.pop, 1) := by decide +kernel
theorem dX6_drawDeed_120 : decode cX6_drawDeed 120 = .ok (.goto 28, 3) := by decide +kernel
theorem dX6_drawDeed_123 : decode cX6_drawDeed 123 = .ok (.aload_n 0, 1) := by decide +kernel
theorem dX6_drawDeed_124 : decode cX6_drawDeed 124 = .ok (.iload_n 1, 1) := by decide +kernel
theorem dX6_drawDeed_125 : decode cX6_drawDeed 125 = .ok (.bipush 6, 2) := by decide +kernel
theorem dX6_drawDeed_127 : decode cX6_drawDeed 127 = .ok (.invokestatic 96, 3) := by decide +kernel
theorem dX6_drawDeed_130 : decode cX6_drawDeed 130 = .ok (.iconst 2, 1) := by decide +kernel
theorem dX6_drawDeed_131 : decode cX6_drawDeed 131 = .ok (.isub, 1) := by decide +kernel
theorem dX6_drawDeed_132 : decode cX6_drawDeed 132 = .ok (.iload_n 2, 1) := by decide +kernel
theorem dX6_drawDeed_133 : decode cX6_drawDeed 133 = .ok (.ifCond .eq 8, 3) := by decide +kernel
theorem dX6_drawDeed_136 : decode cX6_drawDeed 136 = .ok (.iload 4, 2) := by decide +kernel
theorem dX6_drawDeed_138 : decode cX6_drawDeed 138 = .ok (.goto 5, 3) := by decide +kernel
theorem dX6_drawDeed_141 : decode cX6_drawDeed 141 = .ok (.iload 5, 2) := by decide +kernel
theorem dX6_drawDeed_143 : decode cX6_drawDeed 143 = .ok (.iconst (-1), 1) := by decide +kernel
theorem dX6_drawDeed_144 : decode cX6_drawDeed 144 = .ok (.invokevirtual 105, 3) := by decide +kernel
theorem dX6_drawDeed_147 : decode cX6_drawDeed 147 = .ok (.pop, 1) := by decide +kernel
theorem dX6_drawDeed_148 : decode cX6_drawDeed 148 = .ok (.return_, 1) := by decide +kernel
abbrev rmX6_drawDeed : Room := { frames := 4, cells := 0, slots := 0, locals := 93 }
def bX6_drawDeed_143 (s0 : Nat) (s1 : Int32) (s2 : Int32) (z : AH) : Option AH :=
  b2 (fX6_act s0 s1 s2 (-1 : Int32) z) fun x144 z144 =>
  some z144
set_option maxHeartbeats 4000000 in
set_option maxRecDepth 100000 in
theorem kbX6_drawDeed_143 {p : Program} {l : Launch} {e : Env} {s : State} {m : MethodId} {args : Array Value} {below : List Frame} {meth : Method} {c : Code} {G : GW} {z' : AH} (C : Cx p m c cX6_drawDeed 6 s args RX6 G) (hlk : meth.locks = false) (hr : meth.sig.returnType = none) (s0 : Nat) (s1 : Int32) (s2 : Int32) {z : AH} {H : Heap} {locs : List Loc} {ls : Array Slot} (h : bX6_drawDeed_143 s0 s1 s2 z = some z') (hW : Wb G z s H locs) (hl : lv_has ls 6 []) : W p l e rmX6_drawDeed s m args below meth c H locs 0 0 (MQ below (Qv G z') args s 0 0 (AA G)) (F0 m 143 ls [.int s2, .int s1, .ref (gB G + s0)]) := by
  have hx := C.1
  have hb := C.2.1
  unfold bX6_drawDeed_143 at h
  refine lv_iconst (v := -1) hx hb dX6_drawDeed_143 (by decide) ?_
  obtain ⟨x144, z144, hq, h⟩ := ob2 h
  refine wz_rI (c' := 0) (s' := 0) hW (wz_runV (rest := []) C hW lVX6_105 (ck hq).1 rfl (ctX6_act l G s0 s1 s2 (-1 : Int32) z hq) ⟨⟨rfl, rfl⟩, Nat.le_of_ble_eq_true rfl, Nat.le_of_ble_eq_true rfl⟩ rfl hl.1 rfl (Nat.le_of_ble_eq_true rfl) dX6_drawDeed_144 ⟨Nat.le_of_ble_eq_true rfl, Nat.le_of_ble_eq_true rfl⟩) rfl rfl (fun H locs hW => ?_)
  refine lv_pop hx hb dX6_drawDeed_147 rfl ?_
  exact wz_vretE C hlk hr (Option.some.inj h) hW dX6_drawDeed_148
def bX6_drawDeed_103 (a0 : Nat) (l1 : Int32) (l2 : Int32) (l4 : Int32) (s0 : Int32) (z : AH) : Option AH :=
  if (2 : Int32) < l1 then (
    if l2 = (0 : Int32) then (
      bX6_drawDeed_143 a0 ((imin l1 (6 : Int32)) - (2 : Int32)) s0 z
    ) else (
      bX6_drawDeed_143 a0 ((imin l1 (6 : Int32)) - (2 : Int32)) l4 z
    )
  ) else (
    b2 (fX6_act a0 (0 : Int32) l4 s0 z) fun x116 z116 =>
    some z116
  )
set_option maxHeartbeats 4000000 in
set_option maxRecDepth 100000 in
theorem kbX6_drawDeed_103 {p : Program} {l : Launch} {e : Env} {s : State} {m : MethodId} {args : Array Value} {below : List Frame} {meth : Method} {c : Code} {G : GW} {z' : AH} (C : Cx p m c cX6_drawDeed 6 s args RX6 G) (hlk : meth.locks = false) (hr : meth.sig.returnType = none) (a0 : Nat) (l1 : Int32) (l2 : Int32) (l4 : Int32) (s0 : Int32) {z : AH} {H : Heap} {locs : List Loc} {ls : Array Slot} (h : bX6_drawDeed_103 a0 l1 l2 l4 s0 z = some z') (hW : Wb G z s H locs) (hl : lv_has ls 6 [(0, .ref (gB G + a0)), (1, .int l1), (2, .int l2), (4, .int l4)]) : W p l e rmX6_drawDeed s m args below meth c H locs 0 0 (MQ below (Qv G z') args s 0 0 (AA G)) (F0 m 103 ls [.int s0]) := by
  have hx := C.1
  have hb := C.2.1
  unfold bX6_drawDeed_103 at h
  refine lv_istore (lv' := [(5, .int s0), (0, .ref (gB G + a0)), (1, .int l1), (2, .int l2), (4, .int l4)]) hx hb dX6_drawDeed_103 hl (by decide) rfl (fun ls hl => ?_)
  refine lv_iload_n hx hb dX6_drawDeed_105 rfl (lv_at hl 2 rfl) ?_
  refine lv_iconst (v := 2) hx hb dX6_drawDeed_106 (by decide) ?_
  refine lv_icmp_gt (tgt := 123) hx hb dX6_drawDeed_107 (by decide) (fun c107 => ?_) (fun c107 => ?_)
  · have h := ite_t c107 h
    refine lv_aload_n hx hb dX6_drawDeed_123 rfl (lv_at hl 1 rfl) ?_
    refine lv_iload_n hx hb dX6_drawDeed_124 rfl (lv_at hl 2 rfl) ?_
    refine lv_bipush (v := 6) hx hb dX6_drawDeed_125 (by decide) ?_
    refine wz_min ⟨tw 837 (by decide +kernel) rfl, tw 530 (by decide +kernel) rfl, tw 129 (by decide +kernel) rfl, tw 531 (by decide +kernel) rfl⟩ C hl.1 ⟨⟨Nat.le_of_ble_eq_true rfl, Nat.le_of_ble_eq_true rfl⟩, Nat.le_of_ble_eq_true rfl, Nat.le_of_ble_eq_true rfl⟩ (Nat.le_of_ble_eq_true rfl) dX6_drawDeed_127 ?_
    refine lv_iconst (v := 2) hx hb dX6_drawDeed_130 (by decide) ?_
    refine lv_isub hx hb dX6_drawDeed_131 ?_
    refine lv_iload_n hx hb dX6_drawDeed_132 rfl (lv_at hl 3 rfl) ?_
    refine lv_if_eq (tgt := 141) hx hb dX6_drawDeed_133 (by decide) (fun c133 => ?_) (fun c133 => ?_)
    · have h := ite_t c133 h
      refine lv_iload hx hb dX6_drawDeed_141 (lv_at hl 0 rfl) ?_
      exact kbX6_drawDeed_143 C hlk hr a0 ((imin l1 (6 : Int32)) - (2 : Int32)) s0 h hW (lv_sub hl [] rfl)
    · have h := ite_f c133 h
      refine lv_iload hx hb dX6_drawDeed_136 (lv_at hl 4 rfl) ?_
      refine lv_goto (tgt := 143) hx hb dX6_drawDeed_138 (by decide) ?_
      exact kbX6_drawDeed_143 C hlk hr a0 ((imin l1 (6 : Int32)) - (2 : Int32)) l4 h hW (lv_sub hl [] rfl)
  · have h := ite_f c107 h
    refine lv_aload_n hx hb dX6_drawDeed_110 rfl (lv_at hl 1 rfl) ?_
    refine lv_iconst (v := 0) hx hb dX6_drawDeed_111 (by decide) ?_
    refine lv_iload hx hb dX6_drawDeed_112 (lv_at hl 4 rfl) ?_
    refine lv_iload hx hb dX6_drawDeed_114 (lv_at hl 0 rfl) ?_
    obtain ⟨x116, z116, hq, h⟩ := ob2 h
    refine wz_rI (c' := 0) (s' := 0) hW (wz_runV (rest := []) C hW lVX6_105 (ck hq).1 rfl (ctX6_act l G a0 (0 : Int32) l4 s0 z hq) ⟨⟨rfl, rfl⟩, Nat.le_of_ble_eq_true rfl, Nat.le_of_ble_eq_true rfl⟩ rfl hl.1 rfl (Nat.le_of_ble_eq_true rfl) dX6_drawDeed_116 ⟨Nat.le_of_ble_eq_true rfl, Nat.le_of_ble_eq_true rfl⟩) rfl rfl (fun H locs hW => ?_)
    refine lv_pop hx hb dX6_drawDeed_119 rfl ?_
    refine lv_goto (tgt := 148) hx hb dX6_drawDeed_120 (by decide) ?_
    exact wz_vretE C hlk hr (Option.some.inj h) hW dX6_drawDeed_148
def bX6_drawDeed_82 (a0 : Nat) (l1 : Int32) (l2 : Int32) (l3 : Int32) (s0 : Int32) (z : AH) : Option AH :=
  if l3 = (0 : Int32) then (
    bX6_drawDeed_103 a0 l1 l2 s0 (-1 : Int32) z
  ) else (
    (gN 5 0 z a0).bind fun b90 =>
    (gI 0 0 z b90).bind fun x93 =>
    b2 (fX6_below a0 x93 z) fun x96 z96 =>
    bX6_drawDeed_103 a0 l1 l2 s0 x96 z96
  )
set_option maxHeartbeats 4000000 in
set_option maxRecDepth 100000 in
theorem kbX6_drawDeed_82 {p : Program} {l : Launch} {e : Env} {s : State} {m : MethodId} {args : Array Value} {below : List Frame} {meth : Method} {c : Code} {G : GW} {z' : AH} (C : Cx p m c cX6_drawDeed 6 s args RX6 G) (hlk : meth.locks = false) (hr : meth.sig.returnType = none) (a0 : Nat) (l1 : Int32) (l2 : Int32) (l3 : Int32) (s0 : Int32) {z : AH} {H : Heap} {locs : List Loc} {ls : Array Slot} (h : bX6_drawDeed_82 a0 l1 l2 l3 s0 z = some z') (hW : Wb G z s H locs) (hl : lv_has ls 6 [(0, .ref (gB G + a0)), (1, .int l1), (2, .int l2), (3, .int l3)]) : W p l e rmX6_drawDeed s m args below meth c H locs 0 0 (MQ below (Qv G z') args s 0 0 (AA G)) (F0 m 82 ls [.int s0]) := by
  have hx := C.1
  have hb := C.2.1
  unfold bX6_drawDeed_82 at h
  refine lv_istore (lv' := [(4, .int s0), (0, .ref (gB G + a0)), (1, .int l1), (2, .int l2), (3, .int l3)]) hx hb dX6_drawDeed_82 hl (by decide) rfl (fun ls hl => ?_)
  refine lv_iload_n hx hb dX6_drawDeed_84 rfl (lv_at hl 4 rfl) ?_
  refine lv_if_eq (tgt := 102) hx hb dX6_drawDeed_85 (by decide) (fun c85 => ?_) (fun c85 => ?_)
  · have h := ite_t c85 h
    refine lv_iconst (v := -1) hx hb dX6_drawDeed_102 (by decide) ?_
    exact kbX6_drawDeed_103 C hlk hr a0 l1 l2 s0 (-1 : Int32) h hW (lv_sub hl [1, 2, 3, 0] rfl)
  · have h := ite_f c85 h
    refine lv_aload_n hx hb dX6_drawDeed_88 rfl (lv_at hl 1 rfl) ?_
    refine lv_aload_n hx hb dX6_drawDeed_89 rfl (lv_at hl 1 rfl) ?_
    obtain ⟨b90, hg, h⟩ := ob h
    refine wz_gN C hW flX6_9 hg dX6_drawDeed_90 ?_
    obtain ⟨x93, hg, h⟩ := ob h
    refine wz_gI C hW flX6_81 hg dX6_drawDeed_93 ?_
    obtain ⟨x96, z96, hq, h⟩ := ob2 h
    refine wz_rI (c' := 0) (s' := 0) hW (wz_runV (rest := []) C hW lVX6_156 (ck hq).1 rfl (ctX6_below l G a0 x93 z hq) ⟨⟨rfl, rfl⟩, Nat.le_of_ble_eq_true rfl, Nat.le_of_ble_eq_true rfl⟩ rfl hl.1 rfl (Nat.le_of_ble_eq_true rfl) dX6_drawDeed_96 ⟨Nat.le_of_ble_eq_true rfl, Nat.le_of_ble_eq_true rfl⟩) rfl rfl (fun H locs hW => ?_)
    refine lv_goto (tgt := 103) hx hb dX6_drawDeed_99 (by decide) ?_
    exact kbX6_drawDeed_103 C hlk hr a0 l1 l2 s0 x96 h hW (lv_sub hl [1, 2, 3, 0] rfl)
def bX6_drawDeed_63 (a0 : Nat) (l1 : Int32) (l2 : Int32) (l3 : Int32) (z : AH) : Option AH :=
  if l2 = (0 : Int32) then (
    bX6_drawDeed_82 a0 l1 l2 l3 (-1 : Int32) z
  ) else (
    (gN 5 0 z a0).bind fun b69 =>
    (gI 0 14 z b69).bind fun x72 =>
    b2 (fX6_below a0 x72 z) fun x75 z75 =>
    bX6_drawDeed_82 a0 l1 l2 l3 x75 z75
  )
set_option maxHeartbeats 4000000 in
set_option maxRecDepth 100000 in
theorem kbX6_drawDeed_63 {p : Program} {l : Launch} {e : Env} {s : State} {m : MethodId} {args : Array Value} {below : List Frame} {meth : Method} {c : Code} {G : GW} {z' : AH} (C : Cx p m c cX6_drawDeed 6 s args RX6 G) (hlk : meth.locks = false) (hr : meth.sig.returnType = none) (a0 : Nat) (l1 : Int32) (l2 : Int32) (l3 : Int32) {z : AH} {H : Heap} {locs : List Loc} {ls : Array Slot} (h : bX6_drawDeed_63 a0 l1 l2 l3 z = some z') (hW : Wb G z s H locs) (hl : lv_has ls 6 [(0, .ref (gB G + a0)), (1, .int l1), (2, .int l2), (3, .int l3)]) : W p l e rmX6_drawDeed s m args below meth c H locs 0 0 (MQ below (Qv G z') args s 0 0 (AA G)) (F0 m 63 ls []) := by
  have hx := C.1
  have hb := C.2.1
  unfold bX6_drawDeed_63 at h
  refine lv_iload_n hx hb dX6_drawDeed_63 rfl (lv_at hl 2 rfl) ?_
  refine lv_if_eq (tgt := 81) hx hb dX6_drawDeed_64 (by decide) (fun c64 => ?_) (fun c64 => ?_)
  · have h := ite_t c64 h
    refine lv_iconst (v := -1) hx hb dX6_drawDeed_81 (by decide) ?_
    exact kbX6_drawDeed_82 C hlk hr a0 l1 l2 l3 (-1 : Int32) h hW (lv_sub hl [0, 1, 2, 3] rfl)
  · have h := ite_f c64 h
    refine lv_aload_n hx hb dX6_drawDeed_67 rfl (lv_at hl 0 rfl) ?_
    refine lv_aload_n hx hb dX6_drawDeed_68 rfl (lv_at hl 0 rfl) ?_
    obtain ⟨b69, hg, h⟩ := ob h
    refine wz_gN C hW flX6_9 hg dX6_drawDeed_69 ?_
    obtain ⟨x72, hg, h⟩ := ob h
    refine wz_gI C hW flX6_125 hg dX6_drawDeed_72 ?_
    obtain ⟨x75, z75, hq, h⟩ := ob2 h
    refine wz_rI (c' := 0) (s' := 0) hW (wz_runV (rest := []) C hW lVX6_156 (ck hq).1 rfl (ctX6_below l G a0 x72 z hq) ⟨⟨rfl, rfl⟩, Nat.le_of_ble_eq_true rfl, Nat.le_of_ble_eq_true rfl⟩ rfl hl.1 rfl (Nat.le_of_ble_eq_true rfl) dX6_drawDeed_75 ⟨Nat.le_of_ble_eq_true rfl, Nat.le_of_ble_eq_true rfl⟩) rfl rfl (fun H locs hW => ?_)
    refine lv_goto (tgt := 82) hx hb dX6_drawDeed_78 (by decide) ?_
    exact kbX6_drawDeed_82 C hlk hr a0 l1 l2 l3 x75 h hW (lv_sub hl [0, 1, 2, 3] rfl)
def bX6_drawDeed_48 (a0 : Nat) (l1 : Int32) (l2 : Int32) (l3 : Int32) (z : AH) : Option AH :=
  if l3 = (0 : Int32) then (
    bX6_drawDeed_63 a0 l1 l2 l3 z
  ) else (
    (gN 5 0 z a0).bind fun b53 =>
    (gI 0 0 z b53).bind fun x56 =>
    if x56 = (0 : Int32) then (
      some z
    ) else (
      bX6_drawDeed_63 a0 l1 l2 l3 z
    )
  )
set_option maxHeartbeats 4000000 in
set_option maxRecDepth 100000 in
theorem kbX6_drawDeed_48 {p : Program} {l : Launch} {e : Env} {s : State} {m : MethodId} {args : Array Value} {below : List Frame} {meth : Method} {c : Code} {G : GW} {z' : AH} (C : Cx p m c cX6_drawDeed 6 s args RX6 G) (hlk : meth.locks = false) (hr : meth.sig.returnType = none) (a0 : Nat) (l1 : Int32) (l2 : Int32) (l3 : Int32) {z : AH} {H : Heap} {locs : List Loc} {ls : Array Slot} (h : bX6_drawDeed_48 a0 l1 l2 l3 z = some z') (hW : Wb G z s H locs) (hl : lv_has ls 6 [(0, .ref (gB G + a0)), (1, .int l1), (2, .int l2), (3, .int l3)]) : W p l e rmX6_drawDeed s m args below meth c H locs 0 0 (MQ below (Qv G z') args s 0 0 (AA G)) (F0 m 48 ls []) := by
  have hx := C.1
  have hb := C.2.1
  unfold bX6_drawDeed_48 at h
  refine lv_iload_n hx hb dX6_drawDeed_48 rfl (lv_at hl 3 rfl) ?_
  refine lv_if_eq (tgt := 63) hx hb dX6_drawDeed_49 (by decide) (fun c49 => ?_) (fun c49 => ?_)
  · have h := ite_t c49 h
    exact kbX6_drawDeed_63 C hlk hr a0 l1 l2 l3 h hW (lv_sub hl [0, 1, 2, 3] rfl)
  · have h := ite_f c49 h
    refine lv_aload_n hx hb dX6_drawDeed_52 rfl (lv_at hl 0 rfl) ?_
    obtain ⟨b53, hg, h⟩ := ob h
    refine wz_gN C hW flX6_9 hg dX6_drawDeed_53 ?_
    obtain ⟨x56, hg, h⟩ := ob h
    refine wz_gI C hW flX6_81 hg dX6_drawDeed_56 ?_
    refine lv_if_ne (tgt := 63) hx hb dX6_drawDeed_59 (by decide) (fun c59 => ?_) (fun c59 => ?_)
    · have h := ite_f c59 h
      exact kbX6_drawDeed_63 C hlk hr a0 l1 l2 l3 h hW (lv_sub hl [0, 1, 2, 3] rfl)
    · have h := ite_t c59 h
      exact wz_vretE C hlk hr (Option.some.inj h) hW dX6_drawDeed_62
def bX6_drawDeed_33 (a0 : Nat) (l1 : Int32) (l2 : Int32) (s0 : Int32) (z : AH) : Option AH :=
  if l2 = (0 : Int32) then (
    bX6_drawDeed_48 a0 l1 l2 s0 z
  ) else (
    (gN 5 0 z a0).bind fun b39 =>
    (gI 0 14 z b39).bind fun x42 =>
    if x42 = (0 : Int32) then (
      some z
    ) else (
      bX6_drawDeed_48 a0 l1 l2 s0 z
    )
  )
set_option maxHeartbeats 4000000 in
set_option maxRecDepth 100000 in
theorem kbX6_drawDeed_33 {p : Program} {l : Launch} {e : Env} {s : State} {m : MethodId} {args : Array Value} {below : List Frame} {meth : Method} {c : Code} {G : GW} {z' : AH} (C : Cx p m c cX6_drawDeed 6 s args RX6 G) (hlk : meth.locks = false) (hr : meth.sig.returnType = none) (a0 : Nat) (l1 : Int32) (l2 : Int32) (s0 : Int32) {z : AH} {H : Heap} {locs : List Loc} {ls : Array Slot} (h : bX6_drawDeed_33 a0 l1 l2 s0 z = some z') (hW : Wb G z s H locs) (hl : lv_has ls 6 [(0, .ref (gB G + a0)), (1, .int l1), (2, .int l2)]) : W p l e rmX6_drawDeed s m args below meth c H locs 0 0 (MQ below (Qv G z') args s 0 0 (AA G)) (F0 m 33 ls [.int s0]) := by
  have hx := C.1
  have hb := C.2.1
  unfold bX6_drawDeed_33 at h
  refine lv_istore_n (lv' := [(3, .int s0), (0, .ref (gB G + a0)), (1, .int l1), (2, .int l2)]) hx hb dX6_drawDeed_33 rfl hl (by decide) rfl (fun ls hl => ?_)
  refine lv_iload_n hx hb dX6_drawDeed_34 rfl (lv_at hl 3 rfl) ?_
  refine lv_if_eq (tgt := 48) hx hb dX6_drawDeed_35 (by decide) (fun c35 => ?_) (fun c35 => ?_)
  · have h := ite_t c35 h
    exact kbX6_drawDeed_48 C hlk hr a0 l1 l2 s0 h hW (lv_sub hl [1, 2, 3, 0] rfl)
  · have h := ite_f c35 h
    refine lv_aload_n hx hb dX6_drawDeed_38 rfl (lv_at hl 1 rfl) ?_
    obtain ⟨b39, hg, h⟩ := ob h
    refine wz_gN C hW flX6_9 hg dX6_drawDeed_39 ?_
    obtain ⟨x42, hg, h⟩ := ob h
    refine wz_gI C hW flX6_125 hg dX6_drawDeed_42 ?_
    refine lv_if_eq (tgt := 62) hx hb dX6_drawDeed_45 (by decide) (fun c45 => ?_) (fun c45 => ?_)
    · have h := ite_t c45 h
      exact wz_vretE C hlk hr (Option.some.inj h) hW dX6_drawDeed_62
    · have h := ite_f c45 h
      exact kbX6_drawDeed_48 C hlk hr a0 l1 l2 s0 h hW (lv_sub hl [1, 2, 3, 0] rfl)
def bX6_drawDeed_28 (a0 : Nat) (l1 : Int32) (l2 : Int32) (z : AH) : Option AH :=
  bX6_drawDeed_33 a0 l1 l2 (1 : Int32) z
set_option maxHeartbeats 4000000 in
set_option maxRecDepth 100000 in
theorem kbX6_drawDeed_28 {p : Program} {l : Launch} {e : Env} {s : State} {m : MethodId} {args : Array Value} {below : List Frame} {meth : Method} {c : Code} {G : GW} {z' : AH} (C : Cx p m c cX6_drawDeed 6 s args RX6 G) (hlk : meth.locks = false) (hr : meth.sig.returnType = none) (a0 : Nat) (l1 : Int32) (l2 : Int32) {z : AH} {H : Heap} {locs : List Loc} {ls : Array Slot} (h : bX6_drawDeed_28 a0 l1 l2 z = some z') (hW : Wb G z s H locs) (hl : lv_has ls 6 [(0, .ref (gB G + a0)), (1, .int l1), (2, .int l2)]) : W p l e rmX6_drawDeed s m args below meth c H locs 0 0 (MQ below (Qv G z') args s 0 0 (AA G)) (F0 m 28 ls []) := by
  have hx := C.1
  have hb := C.2.1
  unfold bX6_drawDeed_28 at h
  refine lv_iconst (v := 1) hx hb dX6_drawDeed_28 (by decide) ?_
  refine lv_goto (tgt := 33) hx hb dX6_drawDeed_29 (by decide) ?_
  exact kbX6_drawDeed_33 C hlk hr a0 l1 l2 (1 : Int32) h hW (lv_sub hl [0, 1, 2] rfl)
def bX6_drawDeed_17 (a0 : Nat) (l1 : Int32) (s0 : Int32) (z : AH) : Option AH :=
  if l1 ≤ (2 : Int32) then (
    bX6_drawDeed_28 a0 l1 s0 z
  ) else (
    if l1 = (5 : Int32) then (
      bX6_drawDeed_28 a0 l1 s0 z
    ) else (
      bX6_drawDeed_33 a0 l1 s0 (0 : Int32) z
    )
  )
set_option maxHeartbeats 4000000 in
set_option maxRecDepth 100000 in
theorem kbX6_drawDeed_17 {p : Program} {l : Launch} {e : Env} {s : State} {m : MethodId} {args : Array Value} {below : List Frame} {meth : Method} {c : Code} {G : GW} {z' : AH} (C : Cx p m c cX6_drawDeed 6 s args RX6 G) (hlk : meth.locks = false) (hr : meth.sig.returnType = none) (a0 : Nat) (l1 : Int32) (s0 : Int32) {z : AH} {H : Heap} {locs : List Loc} {ls : Array Slot} (h : bX6_drawDeed_17 a0 l1 s0 z = some z') (hW : Wb G z s H locs) (hl : lv_has ls 6 [(0, .ref (gB G + a0)), (1, .int l1)]) : W p l e rmX6_drawDeed s m args below meth c H locs 0 0 (MQ below (Qv G z') args s 0 0 (AA G)) (F0 m 17 ls [.int s0]) := by
  have hx := C.1
  have hb := C.2.1
  unfold bX6_drawDeed_17 at h
  refine lv_istore_n (lv' := [(2, .int s0), (0, .ref (gB G + a0)), (1, .int l1)]) hx hb dX6_drawDeed_17 rfl hl (by decide) rfl (fun ls hl => ?_)
  refine lv_iload_n hx hb dX6_drawDeed_18 rfl (lv_at hl 2 rfl) ?_
  refine lv_iconst (v := 2) hx hb dX6_drawDeed_19 (by decide) ?_
  refine lv_icmp_le (tgt := 28) hx hb dX6_drawDeed_20 (by decide) (fun c20 => ?_) (fun c20 => ?_)
  · have h := ite_t c20 h
    exact kbX6_drawDeed_28 C hlk hr a0 l1 s0 h hW (lv_sub hl [1, 2, 0] rfl)
  · have h := ite_f c20 h
    refine lv_iload_n hx hb dX6_drawDeed_23 rfl (lv_at hl 2 rfl) ?_
    refine lv_iconst (v := 5) hx hb dX6_drawDeed_24 (by decide) ?_
    refine lv_icmp_ne (tgt := 32) hx hb dX6_drawDeed_25 (by decide) (fun c25 => ?_) (fun c25 => ?_)
    · have h := ite_f c25 h
      refine lv_iconst (v := 0) hx hb dX6_drawDeed_32 (by decide) ?_
      exact kbX6_drawDeed_33 C hlk hr a0 l1 s0 (0 : Int32) h hW (lv_sub hl [1, 2, 0] rfl)
    · have h := ite_t c25 h
      exact kbX6_drawDeed_28 C hlk hr a0 l1 s0 h hW (lv_sub hl [1, 2, 0] rfl)
def fX6_drawDeed (a0 : Nat) (z : AH) : Option AH :=
  if isO 5 z a0 = true then
    b2 (fX6_below a0 (8 : Int32) z) fun x3 z3 =>
    if (4 : Int32) < x3 then (
      bX6_drawDeed_17 a0 x3 (0 : Int32) z3
    ) else (
      bX6_drawDeed_17 a0 x3 (1 : Int32) z3
    )
  else none
set_option maxHeartbeats 4000000 in
set_option maxRecDepth 100000 in
theorem ctX6_drawDeed (l : Launch) (G : GW) (a0 : Nat) (z : AH) {z' : AH} (h : fX6_drawDeed a0 z = some z') : Met l yX6_drawDeed (wy yX6_drawDeed cX6_drawDeed 6 none) rmX6_drawDeed (Pz G [.ref (gB G + a0)] z) (Qv G z') 0 0 (AA G) := by
  refine wz_ent (own := RX6) (by decide +kernel) rfl (fun p e s m below meth c ls C hlk hr hin hW hl => ?_) (Nat.le_of_ble_eq_true rfl)
  have hl : lv_has ls 6 [(0, .ref (gB G + a0))] := hl
  have hx := C.1
  have hb := C.2.1
  unfold fX6_drawDeed at h
  obtain ⟨-, h⟩ := ck h
  refine lv_aload_n hx hb dX6_drawDeed_0 rfl (lv_at hl 0 rfl) ?_
  refine lv_bipush (v := 8) hx hb dX6_drawDeed_1 (by decide) ?_
  obtain ⟨x3, z3, hq, h⟩ := ob2 h
  refine wz_rI (c' := 0) (s' := 0) hW (wz_runV (rest := []) C hW lVX6_156 (ck hq).1 rfl (ctX6_below l G a0 (8 : Int32) z hq) ⟨⟨rfl, rfl⟩, Nat.le_of_ble_eq_true rfl, Nat.le_of_ble_eq_true rfl⟩ rfl hl.1 rfl (Nat.le_of_ble_eq_true rfl) dX6_drawDeed_3 ⟨Nat.le_of_ble_eq_true rfl, Nat.le_of_ble_eq_true rfl⟩) rfl rfl (fun H locs hW => ?_)
  refine lv_istore_n (lv' := [(1, .int x3), (0, .ref (gB G + a0))]) hx hb dX6_drawDeed_6 rfl hl (by decide) rfl (fun ls hl => ?_)
  refine lv_iload_n hx hb dX6_drawDeed_7 rfl (lv_at hl 0 rfl) ?_
  refine lv_iconst (v := 4) hx hb dX6_drawDeed_8 (by decide) ?_
  refine lv_icmp_gt (tgt := 16) hx hb dX6_drawDeed_9 (by decide) (fun c9 => ?_) (fun c9 => ?_)
  · have h := ite_t c9 h
    refine lv_iconst (v := 0) hx hb dX6_drawDeed_16 (by decide) ?_
    exact kbX6_drawDeed_17 C hlk hr a0 x3 (0 : Int32) h hW (lv_sub hl [1, 0] rfl)
  · have h := ite_f c9 h
    refine lv_iconst (v := 1) hx hb dX6_drawDeed_12 (by decide) ?_
    refine lv_goto (tgt := 17) hx hb dX6_drawDeed_13 (by decide) ?_
    exact kbX6_drawDeed_17 C hlk hr a0 x3 (1 : Int32) h hW (lv_sub hl [1, 0] rfl)
theorem dX6_staysWith_0 : decode cX6_staysWith 0 = .ok (.aload_n 0, 1) := by decide +kernel
theorem dX6_staysWith_1 : decode cX6_staysWith 1 = .ok (.aload_n 1, 1) := by decide +kernel
theorem dX6_staysWith_2 : decode cX6_staysWith 2 = .ok (.invokevirtual 30, 3) := by decide +kernel
theorem dX6_staysWith_5 : decode cX6_staysWith 5 = .ok (.aload_n 0, 1) := by decide +kernel
theorem dX6_staysWith_6 : decode cX6_staysWith 6 = .ok (.getfield 9, 3) := by decide +kernel
theorem dX6_staysWith_9 : decode cX6_staysWith 9 = .ok (.iload_n 2, 1) := by decide +kernel
theorem dX6_staysWith_10 : decode cX6_staysWith 10 = .ok (.invokevirtual 73, 3) := by decide +kernel
theorem dX6_staysWith_13 : decode cX6_staysWith 13 = .ok (.ifCond .ne 5, 3) := by decide +kernel
theorem dX6_staysWith_16 : decode cX6_staysWith 16 = .ok (.iconst 0, 1) := by decide +kernel
theorem dX6_staysWith_17 : decode cX6_staysWith 17 = .ok (.ireturn, 1) := by decide +kernel
theorem dX6_staysWith_18 : decode cX6_staysWith 18 = .ok (.aload_n 0, 1) := by decide +kernel
theorem dX6_staysWith_19 : decode cX6_staysWith 19 = .ok (.getfield 17, 3) := by decide +kernel
theorem dX6_staysWith_22 : decode cX6_staysWith 22 = .ok (.iload_n 2, 1) := by decide +kernel
theorem dX6_staysWith_23 : decode cX6_staysWith 23 = .ok (.iload_n 3, 1) := by decide +kernel
theorem dX6_staysWith_24 : decode cX6_staysWith 24 = .ok (.iastore, 1) := by decide +kernel
theorem dX6_staysWith_25 : decode cX6_staysWith 25 = .ok (.aload_n 0, 1) := by decide +kernel
theorem dX6_staysWith_26 : decode cX6_staysWith 26 = .ok (.invokevirtual 34, 3) := by decide +kernel
theorem dX6_staysWith_29 : decode cX6_staysWith 29 = .ok (.iconst 0, 1) := by decide +kernel
theorem dX6_staysWith_30 : decode cX6_staysWith 30 = .ok (.istore 5, 2) := by decide +kernel
theorem dX6_staysWith_32 : decode cX6_staysWith 32 = .ok (.iload 5, 2) := by decide +kernel
theorem dX6_staysWith_34 : decode cX6_staysWith 34 = .ok (.iload 4, 2) := by decide +kernel
theorem dX6_staysWith_36 : decode cX6_staysWith 36 = .ok (.if_icmp .ge 22, 3) := by decide +kernel
theorem dX6_staysWith_39 : decode cX6_staysWith 39 = .ok (.aload_n 0, 1) := by decide +kernel
theorem dX6_staysWith_40 : decode cX6_staysWith 40 = .ok (.iload_n 2, 1) := by decide +kernel
theorem dX6_staysWith_41 : decode cX6_staysWith 41 = .ok (.invokevirtual 128, 3) := by decide +kernel
theorem dX6_staysWith_44 : decode cX6_staysWith 44 = .ok (.ifCond .eq 14, 3) := by decide +kernel
theorem dX6_staysWith_47 : decode cX6_staysWith 47 = .ok (.aload_n 0, 1) := by decide +kernel
theorem dX6_staysWith_48 : decode cX6_staysWith 48 = .ok (.invokevirtual 121, 3) := by decide +kernel
theorem dX6_staysWith_51 : decode cX6_staysWith 51 = .ok (.pop, 1) := by decide +kernel
theorem dX6_staysWith_52 : decode cX6_staysWith 52 = .ok (.iinc 5 1, 3) := by decide +kernel
theorem dX6_staysWith_55 : decode cX6_staysWith 55 = .ok (.goto (-23), 3) := by decide +kernel
theorem dX6_staysWith_58 : decode cX6_staysWith 58 = .ok (.aload_n 0, 1) := by decide +kernel
theorem dX6_staysWith_59 : decode cX6_staysWith 59 = .ok (.iload_n 2, 1) := by decide +kernel
theorem dX6_staysWith_60 : decode cX6_staysWith 60 = .ok (.invokevirtual 128, 3) := by decide +kernel
theorem dX6_staysWith_63 : decode cX6_staysWith 63 = .ok (.ireturn, 1) := by decide +kernel
abbrev rmX6_staysWith : Room := { frames := 3, cells := 0, slots := 0, locals := 102 }
def bX6_staysWith_58 (a0 : Nat) (l2 : Int32) (z : AH) : Option (Int32 × AH) :=
  (fX6_isThere a0 l2 z).bind fun x60 =>
  if x60 = 0 ∨ x60 = 1 then some (x60, z) else none
set_option maxHeartbeats 4000000 in
set_option maxRecDepth 100000 in
theorem kbX6_staysWith_58 {p : Program} {l : Launch} {e : Env} {s : State} {m : MethodId} {args : Array Value} {below : List Frame} {meth : Method} {c : Code} {G : GW} {r : Int32} {z' : AH} (C : Cx p m c cX6_staysWith 6 s args RX6 G) (hlk : meth.locks = false) (hr : meth.sig.returnType = (some .boolean)) (a0 : Nat) (l2 : Int32) {z : AH} {H : Heap} {locs : List Loc} {ls : Array Slot} (h : bX6_staysWith_58 a0 l2 z = some (r, z')) (hW : Wb G z s H locs) (hl : lv_has ls 6 [(0, .ref (gB G + a0)), (2, .int l2)]) : W p l e rmX6_staysWith s m args below meth c H locs 0 0 (MQ below (Qi G r z') args s 0 0 (AA G)) (F0 m 58 ls []) := by
  have hx := C.1
  have hb := C.2.1
  unfold bX6_staysWith_58 at h
  refine lv_aload_n hx hb dX6_staysWith_58 rfl (lv_at hl 0 rfl) ?_
  refine lv_iload_n hx hb dX6_staysWith_59 rfl (lv_at hl 1 rfl) ?_
  obtain ⟨x60, hq, h⟩ := ob h
  refine wz_rI (c' := 0) (s' := 0) hW (wz_runV (rest := []) C hW lVX6_128 (ck hq).1 rfl (ctX6_isThere l G a0 l2 z hq) ⟨⟨rfl, rfl⟩, Nat.le_of_ble_eq_true rfl, Nat.le_of_ble_eq_true rfl⟩ rfl hl.1 rfl (Nat.le_of_ble_eq_true rfl) dX6_staysWith_60 ⟨Nat.le_of_ble_eq_true rfl, Nat.le_of_ble_eq_true rfl⟩) rfl rfl (fun H locs hW => ?_)
  obtain ⟨h01, h⟩ := ck h
  exact wz_zretE C hlk hr h01 (so2 h).1 (so2 h).2 hW dX6_staysWith_63
def bX6_staysWith_32 (k32 : Nat → Int32 → Int32 → Int32 → AH → Option (Int32 × AH)) (a0 : Nat) (l2 : Int32) (l4 : Int32) (l5 : Int32) (z : AH) : Option (Int32 × AH) :=
  if l4 ≤ l5 then (
    bX6_staysWith_58 a0 l2 z
  ) else (
    (fX6_isThere a0 l2 z).bind fun x41 =>
    if x41 = (0 : Int32) then (
      bX6_staysWith_58 a0 l2 z
    ) else (
      b2 (fX6_passHour a0 z) fun x48 z48 =>
      nm (l5 + (1 : Int32)) fun v52 =>
      k32 a0 l2 l4 v52 z48
    )
  )
set_option maxHeartbeats 4000000 in
set_option maxRecDepth 100000 in
theorem kbX6_staysWith_32 {p : Program} {l : Launch} {e : Env} {s : State} {m : MethodId} {args : Array Value} {below : List Frame} {meth : Method} {c : Code} {G : GW} {r : Int32} {z' : AH} (C : Cx p m c cX6_staysWith 6 s args RX6 G) (hlk : meth.locks = false) (hr : meth.sig.returnType = (some .boolean)) (k32 : Nat → Int32 → Int32 → Int32 → AH → Option (Int32 × AH)) (hk32 : ∀ (a0 : Nat) (l2 : Int32) (l4 : Int32) (l5 : Int32) (z : AH) (H : Heap) (locs : List Loc) (ls : Array Slot), k32 a0 l2 l4 l5 z = some (r, z') → Wb G z s H locs → lv_has ls 6 [(0, .ref (gB G + a0)), (2, .int l2), (4, .int l4), (5, .int l5)] → W p l e rmX6_staysWith s m args below meth c H locs 0 0 (MQ below (Qi G r z') args s 0 0 (AA G)) (F0 m 32 ls [])) (a0 : Nat) (l2 : Int32) (l4 : Int32) (l5 : Int32) {z : AH} {H : Heap} {locs : List Loc} {ls : Array Slot} (h : bX6_staysWith_32 k32 a0 l2 l4 l5 z = some (r, z')) (hW : Wb G z s H locs) (hl : lv_has ls 6 [(0, .ref (gB G + a0)), (2, .int l2), (4, .int l4), (5, .int l5)]) : W p l e rmX6_staysWith s m args below meth c H locs 0 0 (MQ below (Qi G r z') args s 0 0 (AA G)) (F0 m 32 ls []) := by
  have hx := C.1
  have hb := C.2.1
  unfold bX6_staysWith_32 at h
  refine lv_iload hx hb dX6_staysWith_32 (lv_at hl 3 rfl) ?_
  refine lv_iload hx hb dX6_staysWith_34 (lv_at hl 2 rfl) ?_
  refine lv_icmp_ge (tgt := 58) hx hb dX6_staysWith_36 (by decide) (fun c36 => ?_) (fun c36 => ?_)
  · have h := ite_t c36 h
    exact kbX6_staysWith_58 C hlk hr a0 l2 h hW (lv_sub hl [0, 1] rfl)
  · have h := ite_f c36 h
    refine lv_aload_n hx hb dX6_staysWith_39 rfl (lv_at hl 0 rfl) ?_
    refine lv_iload_n hx hb dX6_staysWith_40 rfl (lv_at hl 1 rfl) ?_
    obtain ⟨x41, hq, h⟩ := ob h
    refine wz_rI (c' := 0) (s' := 0) hW (wz_runV (rest := []) C hW lVX6_128 (ck hq).1 rfl (ctX6_isThere l G a0 l2 z hq) ⟨⟨rfl, rfl⟩, Nat.le_of_ble_eq_true rfl, Nat.le_of_ble_eq_true rfl⟩ rfl hl.1 rfl (Nat.le_of_ble_eq_true rfl) dX6_staysWith_41 ⟨Nat.le_of_ble_eq_true rfl, Nat.le_of_ble_eq_true rfl⟩) rfl rfl (fun H locs hW => ?_)
    refine lv_if_eq (tgt := 58) hx hb dX6_staysWith_44 (by decide) (fun c44 => ?_) (fun c44 => ?_)
    · have h := ite_t c44 h
      exact kbX6_staysWith_58 C hlk hr a0 l2 h hW (lv_sub hl [0, 1] rfl)
    · have h := ite_f c44 h
      refine lv_aload_n hx hb dX6_staysWith_47 rfl (lv_at hl 0 rfl) ?_
      obtain ⟨x48, z48, hq, h⟩ := ob2 h
      refine wz_rI (c' := 0) (s' := 0) hW (wz_runV (rest := []) C hW lVX6_121 (ck hq).1 rfl (ctX6_passHour l G a0 z hq) ⟨⟨rfl, rfl⟩, Nat.le_of_ble_eq_true rfl, Nat.le_of_ble_eq_true rfl⟩ rfl hl.1 rfl (Nat.le_of_ble_eq_true rfl) dX6_staysWith_48 ⟨Nat.le_of_ble_eq_true rfl, Nat.le_of_ble_eq_true rfl⟩) rfl rfl (fun H locs hW => ?_)
      refine lv_pop hx hb dX6_staysWith_51 rfl ?_
      obtain ⟨v52, ev52⟩ : ∃ y : Int32, y = (l5 + (1 : Int32)) := ⟨_, rfl⟩
      have h := nm_to h ev52
      refine lv_iinc (v := v52) (lv' := [(5, .int v52), (0, .ref (gB G + a0)), (2, .int l2), (4, .int l4)]) hx hb dX6_staysWith_52 hl (k := 3) rfl (by rw [ev52]; rfl) (by decide) rfl (fun ls hl => ?_)
      refine lv_goto (tgt := 32) hx hb dX6_staysWith_55 (by decide) ?_
      exact hk32 a0 l2 l4 v52 z48 _ _ _ h hW (lv_sub hl [1, 2, 3, 0] rfl)
def fX6_staysWith_32 : Nat → Nat → Int32 → Int32 → Int32 → AH → Option (Int32 × AH)
  | 0, _, _, _, _, _ => none
  | n + 1, a0, l2, l4, l5, z => bX6_staysWith_32 (fX6_staysWith_32 n) a0 l2 l4 l5 z
theorem klX6_staysWith_32 {p : Program} {l : Launch} {e : Env} {s : State} {m : MethodId} {args : Array Value} {below : List Frame} {meth : Method} {c : Code} {G : GW} {r : Int32} {z' : AH} (C : Cx p m c cX6_staysWith 6 s args RX6 G) (hlk : meth.locks = false) (hr : meth.sig.returnType = (some .boolean)) : ∀ (n : Nat) (a0 : Nat) (l2 : Int32) (l4 : Int32) (l5 : Int32) (z : AH) (H : Heap) (locs : List Loc) (ls : Array Slot), fX6_staysWith_32 n a0 l2 l4 l5 z = some (r, z') → Wb G z s H locs → lv_has ls 6 [(0, .ref (gB G + a0)), (2, .int l2), (4, .int l4), (5, .int l5)] → W p l e rmX6_staysWith s m args below meth c H locs 0 0 (MQ below (Qi G r z') args s 0 0 (AA G)) (F0 m 32 ls []) := by
  intro n
  induction n with
  | zero => intro a0 l2 l4 l5 z H locs ls h; have h : (none : Option (Int32 × AH)) = some (r, z') := h; cases h
  | succ n ih => intro a0 l2 l4 l5 z H locs ls h hW hl; exact kbX6_staysWith_32 C hlk hr (fX6_staysWith_32 n) (fun a0 l2 l4 l5 z H locs ls h hW hl => ih a0 l2 l4 l5 z H locs ls h hW hl) a0 l2 l4 l5 h hW hl
def fX6_staysWith (a0 : Nat) (a1 : Nat) (l2 : Int32) (l3 : Int32) (l4 : Int32) (z : AH) : Option (Int32 × AH) :=
  if isO 5 z a0 = true then
    (fX6_load a0 a1 z).bind fun z2 =>
    (gN 5 0 z2 a0).bind fun b6 =>
    (fX0_hasThing b6 l2 z2).bind fun x10 =>
    if x10 = (0 : Int32) then (
      some ((0 : Int32), z2)
    ) else (
      (gN 5 1 z2 a0).bind fun b19 =>
      (stI 0 z2 b19 l2 l3).bind fun z24 =>
      (fX6_fall a0 z24).bind fun z26 =>
      fX6_staysWith_32 FU a0 l2 l4 (0 : Int32) z26
    )
  else none
set_option maxHeartbeats 4000000 in
set_option maxRecDepth 100000 in
theorem ctX6_staysWith (l : Launch) (G : GW) (a0 : Nat) (a1 : Nat) (l2 : Int32) (l3 : Int32) (l4 : Int32) (z : AH) {r : Int32} {z' : AH} (h : fX6_staysWith a0 a1 l2 l3 l4 z = some (r, z')) : Met l yX6_staysWith (wy yX6_staysWith cX6_staysWith 6 (some .boolean)) rmX6_staysWith (Pz G [.ref (gB G + a0), .ref (gB G + a1), .int l2, .int l3, .int l4] z) (Qi G r z') 0 0 (AA G) := by
  refine wz_ent (own := RX6) (by decide +kernel) rfl (fun p e s m below meth c ls C hlk hr hin hW hl => ?_) (Nat.le_of_ble_eq_true rfl)
  have hl : lv_has ls 6 [(0, .ref (gB G + a0)), (1, .ref (gB G + a1)), (2, .int l2), (3, .int l3), (4, .int l4)] := hl
  have hx := C.1
  have hb := C.2.1
  unfold fX6_staysWith at h
  obtain ⟨-, h⟩ := ck h
  refine lv_aload_n hx hb dX6_staysWith_0 rfl (lv_at hl 0 rfl) ?_
  refine lv_aload_n hx hb dX6_staysWith_1 rfl (lv_at hl 1 rfl) ?_
  obtain ⟨z2, hq, h⟩ := ob h
  refine wz_rV (c' := 0) (s' := 0) hW (wz_runV (rest := []) C hW lVX6_30 (ck hq).1 rfl (ctX6_load l G a0 a1 z hq) ⟨⟨rfl, rfl⟩, Nat.le_of_ble_eq_true rfl, Nat.le_of_ble_eq_true rfl⟩ rfl hl.1 rfl (Nat.le_of_ble_eq_true rfl) dX6_staysWith_2 ⟨Nat.le_of_ble_eq_true rfl, Nat.le_of_ble_eq_true rfl⟩) rfl rfl (fun H locs hW => ?_)
  refine lv_aload_n hx hb dX6_staysWith_5 rfl (lv_at hl 0 rfl) ?_
  obtain ⟨b6, hg, h⟩ := ob h
  refine wz_gN C hW flX6_9 hg dX6_staysWith_6 ?_
  refine lv_iload_n hx hb dX6_staysWith_9 rfl (lv_at hl 2 rfl) ?_
  obtain ⟨x10, hq, h⟩ := ob h
  refine wz_rI (c' := 0) (s' := 0) hW (wz_runV (rest := []) C hW lVX6_73 (ck hq).1 rfl (ctX0_hasThing l G b6 l2 z2 hq) ⟨⟨rfl, rfl⟩, Nat.le_of_ble_eq_true rfl, Nat.le_of_ble_eq_true rfl⟩ rfl hl.1 rfl (Nat.le_of_ble_eq_true rfl) dX6_staysWith_10 ⟨Nat.le_of_ble_eq_true rfl, Nat.le_of_ble_eq_true rfl⟩) rfl rfl (fun H locs hW => ?_)
  refine lv_if_ne (tgt := 18) hx hb dX6_staysWith_13 (by decide) (fun c13 => ?_) (fun c13 => ?_)
  · have h := ite_f c13 h
    refine lv_aload_n hx hb dX6_staysWith_18 rfl (lv_at hl 0 rfl) ?_
    obtain ⟨b19, hg, h⟩ := ob h
    refine wz_gN C hW flX6_17 hg dX6_staysWith_19 ?_
    refine lv_iload_n hx hb dX6_staysWith_22 rfl (lv_at hl 2 rfl) ?_
    refine lv_iload_n hx hb dX6_staysWith_23 rfl (lv_at hl 3 rfl) ?_
    obtain ⟨z24, hg, h⟩ := ob h
    refine wz_ast C hW hg dX6_staysWith_24 (fun H locs hW => ?_)
    refine lv_aload_n hx hb dX6_staysWith_25 rfl (lv_at hl 0 rfl) ?_
    obtain ⟨z26, hq, h⟩ := ob h
    refine wz_rV (c' := 0) (s' := 0) hW (wz_runV (rest := []) C hW lVX6_34 (ck hq).1 rfl (ctX6_fall l G a0 z24 hq) ⟨⟨rfl, rfl⟩, Nat.le_of_ble_eq_true rfl, Nat.le_of_ble_eq_true rfl⟩ rfl hl.1 rfl (Nat.le_of_ble_eq_true rfl) dX6_staysWith_26 ⟨Nat.le_of_ble_eq_true rfl, Nat.le_of_ble_eq_true rfl⟩) rfl rfl (fun H locs hW => ?_)
    refine lv_iconst (v := 0) hx hb dX6_staysWith_29 (by decide) ?_
    refine lv_istore (lv' := [(5, .int (0 : Int32)), (0, .ref (gB G + a0)), (1, .ref (gB G + a1)), (2, .int l2), (3, .int l3), (4, .int l4)]) hx hb dX6_staysWith_30 hl (by decide) rfl (fun ls hl => ?_)
    exact klX6_staysWith_32 C hlk hr FU a0 l2 l4 (0 : Int32) z26 _ _ _ h hW (lv_sub hl [1, 3, 5, 0] rfl)
  · have h := ite_t c13 h
    refine lv_iconst (v := 0) hx hb dX6_staysWith_16 (by decide) ?_
    exact wz_zretE C hlk hr (Or.inl rfl) (so2 h).1 (so2 h).2 hW dX6_staysWith_17
theorem flX6_159 : FL RX6 159 0 6 := ⟨_, rfl, Nat.le_of_ble_eq_true rfl, tw 168 (by decide +kernel) rfl, rfl⟩
theorem dX6_spread_0 : decode cX6_spread 0 = .ok (.iload_n 1, 1) := by decide +kernel
theorem dX6_spread_1 : decode cX6_spread 1 = .ok (.istore_n 2, 1) := by decide +kernel
theorem dX6_spread_2 : decode cX6_spread 2 = .ok (.iconst 0, 1) := by decide +kernel
theorem dX6_spread_3 : decode cX6_spread 3 = .ok (.istore_n 3, 1) := by decide +kernel
theorem dX6_spread_4 : decode cX6_spread 4 = .ok (.iload_n 3, 1) := by decide +kernel
theorem dX6_spread_5 : decode cX6_spread 5 = .ok (.aload_n 0, 1) := by decide +kernel
theorem dX6_spread_6 : decode cX6_spread 6 = .ok (.getfield 9, 3) := by decide +kernel
theorem dX6_spread_9 : decode cX6_spread 9 = .ok (.getfield 81, 3) := by decide +kernel
theorem dX6_spread_12 : decode cX6_spread 12 = .ok (.if_icmp .ge 29, 3) := by decide +kernel
theorem dX6_spread_15 : decode cX6_spread 15 = .ok (.iload_n 1, 1) := by decide +kernel
theorem dX6_spread_16 : decode cX6_spread 16 = .ok (.iload_n 3, 1) := by decide +kernel
theorem dX6_spread_17 : decode cX6_spread 17 = .ok (.invokestatic 77, 3) := by decide +kernel
theorem dX6_spread_20 : decode cX6_spread 20 = .ok (.ifCond .eq 15, 3) := by decide +kernel
theorem dX6_spread_23 : decode cX6_spread 23 = .ok (.iload_n 2, 1) := by decide +kernel
theorem dX6_spread_24 : decode cX6_spread 24 = .ok (.aload_n 0, 1) := by decide +kernel
theorem dX6_spread_25 : decode cX6_spread 25 = .ok (.getfield 9, 3) := by decide +kernel
theorem dX6_spread_28 : decode cX6_spread 28 = .ok (.getfield 159, 3) := by decide +kernel
theorem dX6_spread_31 : decode cX6_spread 31 = .ok (.iload_n 3, 1) := by decide +kernel
theorem dX6_spread_32 : decode cX6_spread 32 = .ok (.iaload, 1) := by decide +kernel
theorem dX6_spread_33 : decode cX6_spread 33 = .ok (.ior, 1) := by decide +kernel
theorem dX6_spread_34 : decode cX6_spread 34 = .ok (.istore_n 2, 1) := by decide +kernel
theorem dX6_spread_35 : decode cX6_spread 35 = .ok (.iinc 3 1, 3) := by decide +kernel
theorem dX6_spread_38 : decode cX6_spread 38 = .ok (.goto (-34), 3) := by decide +kernel
theorem dX6_spread_41 : decode cX6_spread 41 = .ok (.iload_n 2, 1) := by decide +kernel
theorem dX6_spread_42 : decode cX6_spread 42 = .ok (.ireturn, 1) := by decide +kernel
abbrev rmX6_spread : Room := { frames := 1, cells := 0, slots := 0, locals := 21 }
def bX6_spread_4 (k4 : Nat → Int32 → Int32 → Int32 → Option (Int32)) (a0 : Nat) (l1 : Int32) (l2 : Int32) (l3 : Int32) (z : AH) : Option (Int32) :=
  (gN 5 0 z a0).bind fun b6 =>
  (gI 0 0 z b6).bind fun x9 =>
  if x9 ≤ l3 then (
    some l2
  ) else (
    if (fX9_hasBit l1 l3) = (0 : Int32) then (
      nm (l3 + (1 : Int32)) fun v35 =>
      k4 a0 l1 l2 v35
    ) else (
      (gN 5 0 z a0).bind fun b25 =>
      (gN 0 6 z b25).bind fun b28 =>
      (ixI 0 z b28 l3).bind fun x32 =>
      nm (l2 ||| x32) fun v34 =>
      nm (l3 + (1 : Int32)) fun v35 =>
      k4 a0 l1 v34 v35
    )
  )
set_option maxHeartbeats 4000000 in
set_option maxRecDepth 100000 in
theorem kbX6_spread_4 {p : Program} {l : Launch} {e : Env} {s : State} {m : MethodId} {args : Array Value} {below : List Frame} {meth : Method} {c : Code} {G : GW} {r : Int32} (C : Cx p m c cX6_spread 4 s args RX6 G) (hlk : meth.locks = false) (hr : meth.sig.returnType = (some .int)) {z : AH} (k4 : Nat → Int32 → Int32 → Int32 → Option (Int32)) (hk4 : ∀ (a0 : Nat) (l1 : Int32) (l2 : Int32) (l3 : Int32) (H : Heap) (locs : List Loc) (ls : Array Slot), k4 a0 l1 l2 l3 = some r → Wb G z s H locs → lv_has ls 4 [(0, .ref (gB G + a0)), (1, .int l1), (2, .int l2), (3, .int l3)] → W p l e rmX6_spread s m args below meth c H locs 0 0 (MQ below (Qi G r z) args s 0 0 (AA G)) (F0 m 4 ls [])) (a0 : Nat) (l1 : Int32) (l2 : Int32) (l3 : Int32) {H : Heap} {locs : List Loc} {ls : Array Slot} (h : bX6_spread_4 k4 a0 l1 l2 l3 z = some r) (hW : Wb G z s H locs) (hl : lv_has ls 4 [(0, .ref (gB G + a0)), (1, .int l1), (2, .int l2), (3, .int l3)]) : W p l e rmX6_spread s m args below meth c H locs 0 0 (MQ below (Qi G r z) args s 0 0 (AA G)) (F0 m 4 ls []) := by
  have hx := C.1
  have hb := C.2.1
  unfold bX6_spread_4 at h
  refine lv_iload_n hx hb dX6_spread_4 rfl (lv_at hl 3 rfl) ?_
  refine lv_aload_n hx hb dX6_spread_5 rfl (lv_at hl 0 rfl) ?_
  obtain ⟨b6, hg, h⟩ := ob h
  refine wz_gN C hW flX6_9 hg dX6_spread_6 ?_
  obtain ⟨x9, hg, h⟩ := ob h
  refine wz_gI C hW flX6_81 hg dX6_spread_9 ?_
  refine lv_icmp_ge (tgt := 41) hx hb dX6_spread_12 (by decide) (fun c12 => ?_) (fun c12 => ?_)
  · have h := ite_t c12 h
    refine lv_iload_n hx hb dX6_spread_41 rfl (lv_at hl 2 rfl) ?_
    exact wz_iretE C hlk hr (Option.some.inj h) rfl hW dX6_spread_42
  · have h := ite_f c12 h
    refine lv_iload_n hx hb dX6_spread_15 rfl (lv_at hl 1 rfl) ?_
    refine lv_iload_n hx hb dX6_spread_16 rfl (lv_at hl 3 rfl) ?_
    refine wz_rI (c' := 0) (s' := 0) hW (wz_runN (rest := []) C hW lNX6_77 (ctX9_hasBit l G l1 l3 z rfl) ⟨⟨rfl, rfl⟩, Nat.le_of_ble_eq_true rfl, Nat.le_of_ble_eq_true rfl⟩ rfl hl.1 rfl (Nat.le_of_ble_eq_true rfl) dX6_spread_17 ⟨Nat.le_of_ble_eq_true rfl, Nat.le_of_ble_eq_true rfl⟩) rfl rfl (fun H locs hW => ?_)
    refine lv_if_eq (tgt := 35) hx hb dX6_spread_20 (by decide) (fun c20 => ?_) (fun c20 => ?_)
    · have h := ite_t c20 h
      obtain ⟨v35, ev35⟩ : ∃ y : Int32, y = (l3 + (1 : Int32)) := ⟨_, rfl⟩
      have h := nm_to h ev35
      refine lv_iinc (v := v35) (lv' := [(3, .int v35), (0, .ref (gB G + a0)), (1, .int l1), (2, .int l2)]) hx hb dX6_spread_35 hl (k := 3) rfl (by rw [ev35]; rfl) (by decide) rfl (fun ls hl => ?_)
      refine lv_goto (tgt := 4) hx hb dX6_spread_38 (by decide) ?_
      exact hk4 a0 l1 l2 v35 _ _ _ h hW (lv_sub hl [1, 2, 3, 0] rfl)
    · have h := ite_f c20 h
      refine lv_iload_n hx hb dX6_spread_23 rfl (lv_at hl 2 rfl) ?_
      refine lv_aload_n hx hb dX6_spread_24 rfl (lv_at hl 0 rfl) ?_
      obtain ⟨b25, hg, h⟩ := ob h
      refine wz_gN C hW flX6_9 hg dX6_spread_25 ?_
      obtain ⟨b28, hg, h⟩ := ob h
      refine wz_gN C hW flX6_159 hg dX6_spread_28 ?_
      refine lv_iload_n hx hb dX6_spread_31 rfl (lv_at hl 3 rfl) ?_
      obtain ⟨x32, hg, h⟩ := ob h
      refine wz_ald C hW hg dX6_spread_32 ?_
      refine lv_ior hx hb dX6_spread_33 ?_
      refine lv_topi (fun v34 ev34 => ?_)
      have h := nm_to h ev34
      refine lv_istore_n (lv' := [(2, .int v34), (0, .ref (gB G + a0)), (1, .int l1), (3, .int l3)]) hx hb dX6_spread_34 rfl hl (by decide) rfl (fun ls hl => ?_)
      obtain ⟨v35, ev35⟩ : ∃ y : Int32, y = (l3 + (1 : Int32)) := ⟨_, rfl⟩
      have h := nm_to h ev35
      refine lv_iinc (v := v35) (lv' := [(3, .int v35), (2, .int v34), (0, .ref (gB G + a0)), (1, .int l1)]) hx hb dX6_spread_35 hl (k := 3) rfl (by rw [ev35]; rfl) (by decide) rfl (fun ls hl => ?_)
      refine lv_goto (tgt := 4) hx hb dX6_spread_38 (by decide) ?_
      exact hk4 a0 l1 v34 v35 _ _ _ h hW (lv_sub hl [2, 3, 1, 0] rfl)
def fX6_spread_4 (z : AH) : Nat → Nat → Int32 → Int32 → Int32 → Option (Int32)
  | 0, _, _, _, _ => none
  | n + 1, a0, l1, l2, l3 => bX6_spread_4 (fX6_spread_4 z n) a0 l1 l2 l3 z
theorem klX6_spread_4 {p : Program} {l : Launch} {e : Env} {s : State} {m : MethodId} {args : Array Value} {below : List Frame} {meth : Method} {c : Code} {G : GW} {r : Int32} (C : Cx p m c cX6_spread 4 s args RX6 G) (hlk : meth.locks = false) (hr : meth.sig.returnType = (some .int)) {z : AH} : ∀ (n : Nat) (a0 : Nat) (l1 : Int32) (l2 : Int32) (l3 : Int32) (H : Heap) (locs : List Loc) (ls : Array Slot), fX6_spread_4 z n a0 l1 l2 l3 = some r → Wb G z s H locs → lv_has ls 4 [(0, .ref (gB G + a0)), (1, .int l1), (2, .int l2), (3, .int l3)] → W p l e rmX6_spread s m args below meth c H locs 0 0 (MQ below (Qi G r z) args s 0 0 (AA G)) (F0 m 4 ls []) := by
  intro n
  induction n with
  | zero => intro a0 l1 l2 l3 H locs ls h; have h : (none : Option (Int32)) = some r := h; cases h
  | succ n ih => intro a0 l1 l2 l3 H locs ls h hW hl; exact kbX6_spread_4 C hlk hr (fX6_spread_4 z n) (fun a0 l1 l2 l3 H locs ls h hW hl => ih a0 l1 l2 l3 H locs ls h hW hl) a0 l1 l2 l3 h hW hl
def fX6_spread (a0 : Nat) (l1 : Int32) (z : AH) : Option (Int32) :=
  if isO 5 z a0 = true then
    fX6_spread_4 z FU a0 l1 l1 (0 : Int32)
  else none
set_option maxHeartbeats 4000000 in
set_option maxRecDepth 100000 in
theorem ctX6_spread (l : Launch) (G : GW) (a0 : Nat) (l1 : Int32) (z : AH) {r : Int32} (h : fX6_spread a0 l1 z = some r) : Met l yX6_spread (wy yX6_spread cX6_spread 4 (some .int)) rmX6_spread (Pz G [.ref (gB G + a0), .int l1] z) (Qi G r z) 0 0 (AA G) := by
  refine wz_ent (own := RX6) (by decide +kernel) rfl (fun p e s m below meth c ls C hlk hr hin hW hl => ?_) (Nat.le_of_ble_eq_true rfl)
  have hl : lv_has ls 4 [(0, .ref (gB G + a0)), (1, .int l1)] := hl
  have hx := C.1
  have hb := C.2.1
  unfold fX6_spread at h
  obtain ⟨-, h⟩ := ck h
  refine lv_iload_n hx hb dX6_spread_0 rfl (lv_at hl 1 rfl) ?_
  refine lv_istore_n (lv' := [(2, .int l1), (0, .ref (gB G + a0)), (1, .int l1)]) hx hb dX6_spread_1 rfl hl (by decide) rfl (fun ls hl => ?_)
  refine lv_iconst (v := 0) hx hb dX6_spread_2 (by decide) ?_
  refine lv_istore_n (lv' := [(3, .int (0 : Int32)), (2, .int l1), (0, .ref (gB G + a0)), (1, .int l1)]) hx hb dX6_spread_3 rfl hl (by decide) rfl (fun ls hl => ?_)
  exact klX6_spread_4 C hlk hr FU a0 l1 l1 (0 : Int32) _ _ _ h hW (lv_sub hl [2, 3, 1, 0] rfl)
theorem lVX6_166 : LV RX6 166 yX6_spread cX6_spread 4 (some .int) 1 := ⟨tw 959 (by decide +kernel) rfl, tw 961 (by decide +kernel) rfl, tw 25 (by decide +kernel) rfl, tw 124 (by decide +kernel) rfl, tw 962 (by decide +kernel) rfl, ⟨by decide +kernel, by decide +kernel, by decide +kernel⟩⟩
theorem lVX6_162 : LV RX6 162 yX6_there cX6_there 1 (some .int) 0 := ⟨tw 958 (by decide +kernel) rfl, tw 925 (by decide +kernel) rfl, tw 926 (by decide +kernel) rfl, tw 124 (by decide +kernel) rfl, tw 927 (by decide +kernel) rfl, ⟨by decide +kernel, by decide +kernel, by decide +kernel⟩⟩
theorem dX6_fewestHours_0 : decode cX6_fewestHours 0 = .ok (.iconst 1, 1) := by decide +kernel
theorem dX6_fewestHours_1 : decode cX6_fewestHours 1 = .ok (.iload_n 1, 1) := by decide +kernel
theorem dX6_fewestHours_2 : decode cX6_fewestHours 2 = .ok (.ishl, 1) := by decide +kernel
theorem dX6_fewestHours_3 : decode cX6_fewestHours 3 = .ok (.aload_n 0, 1) := by decide +kernel
theorem dX6_fewestHours_4 : decode cX6_fewestHours 4 = .ok (.invokevirtual 162, 3) := by decide +kernel
theorem dX6_fewestHours_7 : decode cX6_fewestHours 7 = .ok (.iand, 1) := by decide +kernel
theorem dX6_fewestHours_8 : decode cX6_fewestHours 8 = .ok (.istore_n 3, 1) := by decide +kernel
theorem dX6_fewestHours_9 : decode cX6_fewestHours 9 = .ok (.iconst 0, 1) := by decide +kernel
theorem dX6_fewestHours_10 : decode cX6_fewestHours 10 = .ok (.istore 4, 2) := by decide +kernel
theorem dX6_fewestHours_12 : decode cX6_fewestHours 12 = .ok (.iload 4, 2) := by decide +kernel
theorem dX6_fewestHours_14 : decode cX6_fewestHours 14 = .ok (.bipush 99, 2) := by decide +kernel
theorem dX6_fewestHours_16 : decode cX6_fewestHours 16 = .ok (.if_icmp .gt 42, 3) := by decide +kernel
theorem dX6_fewestHours_19 : decode cX6_fewestHours 19 = .ok (.iload_n 3, 1) := by decide +kernel
theorem dX6_fewestHours_20 : decode cX6_fewestHours 20 = .ok (.ifCond .eq 38, 3) := by decide +kernel
theorem dX6_fewestHours_23 : decode cX6_fewestHours 23 = .ok (.iload_n 3, 1) := by decide +kernel
theorem dX6_fewestHours_24 : decode cX6_fewestHours 24 = .ok (.iload_n 2, 1) := by decide +kernel
theorem dX6_fewestHours_25 : decode cX6_fewestHours 25 = .ok (.invokestatic 77, 3) := by decide +kernel
theorem dX6_fewestHours_28 : decode cX6_fewestHours 28 = .ok (.ifCond .eq 6, 3) := by decide +kernel
theorem dX6_fewestHours_31 : decode cX6_fewestHours 31 = .ok (.iload 4, 2) := by decide +kernel
theorem dX6_fewestHours_33 : decode cX6_fewestHours 33 = .ok (.ireturn, 1) := by decide +kernel
theorem dX6_fewestHours_34 : decode cX6_fewestHours 34 = .ok (.aload_n 0, 1) := by decide +kernel
theorem dX6_fewestHours_35 : decode cX6_fewestHours 35 = .ok (.iload_n 3, 1) := by decide +kernel
theorem dX6_fewestHours_36 : decode cX6_fewestHours 36 = .ok (.invokevirtual 166, 3) := by decide +kernel
theorem dX6_fewestHours_39 : decode cX6_fewestHours 39 = .ok (.istore_n 3, 1) := by decide +kernel
theorem dX6_fewestHours_40 : decode cX6_fewestHours 40 = .ok (.aload_n 0, 1) := by decide +kernel
theorem dX6_fewestHours_41 : decode cX6_fewestHours 41 = .ok (.invokevirtual 121, 3) := by decide +kernel
theorem dX6_fewestHours_44 : decode cX6_fewestHours 44 = .ok (.pop, 1) := by decide +kernel
theorem dX6_fewestHours_45 : decode cX6_fewestHours 45 = .ok (.iload_n 3, 1) := by decide +kernel
theorem dX6_fewestHours_46 : decode cX6_fewestHours 46 = .ok (.aload_n 0, 1) := by decide +kernel
theorem dX6_fewestHours_47 : decode cX6_fewestHours 47 = .ok (.invokevirtual 162, 3) := by decide +kernel
theorem dX6_fewestHours_50 : decode cX6_fewestHours 50 = .ok (.iand, 1) := by decide +kernel
theorem dX6_fewestHours_51 : decode cX6_fewestHours 51 = .ok (.istore_n 3, 1) := by decide +kernel
theorem dX6_fewestHours_52 : decode cX6_fewestHours 52 = .ok (.iinc 4 1, 3) := by decide +kernel
theorem dX6_fewestHours_55 : decode cX6_fewestHours 55 = .ok (.goto (-43), 3) := by decide +kernel
theorem dX6_fewestHours_58 : decode cX6_fewestHours 58 = .ok (.iconst (-1), 1) := by decide +kernel
theorem dX6_fewestHours_59 : decode cX6_fewestHours 59 = .ok (.ireturn, 1) := by decide +kernel
abbrev rmX6_fewestHours : Room := { frames := 3, cells := 0, slots := 0, locals := 68 }
def bX6_fewestHours_12 (k12 : Nat → Int32 → Int32 → Int32 → AH → Option (Int32 × AH)) (a0 : Nat) (l2 : Int32) (l3 : Int32) (l4 : Int32) (z : AH) : Option (Int32 × AH) :=
  if (99 : Int32) < l4 then (
    some ((-1 : Int32), z)
  ) else (
    if l3 = (0 : Int32) then (
      some ((-1 : Int32), z)
    ) else (
      if (fX9_hasBit l3 l2) = (0 : Int32) then (
        (fX6_spread a0 l3 z).bind fun x36 =>
        b2 (fX6_passHour a0 z) fun x41 z41 =>
        (fX6_there a0 z41).bind fun x47 =>
        nm (x36 &&& x47) fun v51 =>
        nm (l4 + (1 : Int32)) fun v52 =>
        k12 a0 l2 v51 v52 z41
      ) else (
        some (l4, z)
      )
    )
  )
set_option maxHeartbeats 4000000 in
set_option maxRecDepth 100000 in
theorem kbX6_fewestHours_12 {p : Program} {l : Launch} {e : Env} {s : State} {m : MethodId} {args : Array Value} {below : List Frame} {meth : Method} {c : Code} {G : GW} {r : Int32} {z' : AH} (C : Cx p m c cX6_fewestHours 5 s args RX6 G) (hlk : meth.locks = false) (hr : meth.sig.returnType = (some .int)) (k12 : Nat → Int32 → Int32 → Int32 → AH → Option (Int32 × AH)) (hk12 : ∀ (a0 : Nat) (l2 : Int32) (l3 : Int32) (l4 : Int32) (z : AH) (H : Heap) (locs : List Loc) (ls : Array Slot), k12 a0 l2 l3 l4 z = some (r, z') → Wb G z s H locs → lv_has ls 5 [(0, .ref (gB G + a0)), (2, .int l2), (3, .int l3), (4, .int l4)] → W p l e rmX6_fewestHours s m args below meth c H locs 0 0 (MQ below (Qi G r z') args s 0 0 (AA G)) (F0 m 12 ls [])) (a0 : Nat) (l2 : Int32) (l3 : Int32) (l4 : Int32) {z : AH} {H : Heap} {locs : List Loc} {ls : Array Slot} (h : bX6_fewestHours_12 k12 a0 l2 l3 l4 z = some (r, z')) (hW : Wb G z s H locs) (hl : lv_has ls 5 [(0, .ref (gB G + a0)), (2, .int l2), (3, .int l3), (4, .int l4)]) : W p l e rmX6_fewestHours s m args below meth c H locs 0 0 (MQ below (Qi G r z') args s 0 0 (AA G)) (F0 m 12 ls []) := by
  have hx := C.1
  have hb := C.2.1
  unfold bX6_fewestHours_12 at h
  refine lv_iload hx hb dX6_fewestHours_12 (lv_at hl 3 rfl) ?_
  refine lv_bipush (v := 99) hx hb dX6_fewestHours_14 (by decide) ?_
  refine lv_icmp_gt (tgt := 58) hx hb dX6_fewestHours_16 (by decide) (fun c16 => ?_) (fun c16 => ?_)
  · have h := ite_t c16 h
    refine lv_iconst (v := -1) hx hb dX6_fewestHours_58 (by decide) ?_
    exact wz_iretE C hlk hr (so2 h).1 (so2 h).2 hW dX6_fewestHours_59
  · have h := ite_f c16 h
    refine lv_iload_n hx hb dX6_fewestHours_19 rfl (lv_at hl 2 rfl) ?_
    refine lv_if_eq (tgt := 58) hx hb dX6_fewestHours_20 (by decide) (fun c20 => ?_) (fun c20 => ?_)
    · have h := ite_t c20 h
      refine lv_iconst (v := -1) hx hb dX6_fewestHours_58 (by decide) ?_
      exact wz_iretE C hlk hr (so2 h).1 (so2 h).2 hW dX6_fewestHours_59
    · have h := ite_f c20 h
      refine lv_iload_n hx hb dX6_fewestHours_23 rfl (lv_at hl 2 rfl) ?_
      refine lv_iload_n hx hb dX6_fewestHours_24 rfl (lv_at hl 1 rfl) ?_
      refine wz_rI (c' := 0) (s' := 0) hW (wz_runN (rest := []) C hW lNX6_77 (ctX9_hasBit l G l3 l2 z rfl) ⟨⟨rfl, rfl⟩, Nat.le_of_ble_eq_true rfl, Nat.le_of_ble_eq_true rfl⟩ rfl hl.1 rfl (Nat.le_of_ble_eq_true rfl) dX6_fewestHours_25 ⟨Nat.le_of_ble_eq_true rfl, Nat.le_of_ble_eq_true rfl⟩) rfl rfl (fun H locs hW => ?_)
      refine lv_if_eq (tgt := 34) hx hb dX6_fewestHours_28 (by decide) (fun c28 => ?_) (fun c28 => ?_)
      · have h := ite_t c28 h
        refine lv_aload_n hx hb dX6_fewestHours_34 rfl (lv_at hl 0 rfl) ?_
        refine lv_iload_n hx hb dX6_fewestHours_35 rfl (lv_at hl 2 rfl) ?_
        obtain ⟨x36, hq, h⟩ := ob h
        refine wz_rI (c' := 0) (s' := 0) hW (wz_runV (rest := []) C hW lVX6_166 (ck hq).1 rfl (ctX6_spread l G a0 l3 z hq) ⟨⟨rfl, rfl⟩, Nat.le_of_ble_eq_true rfl, Nat.le_of_ble_eq_true rfl⟩ rfl hl.1 rfl (Nat.le_of_ble_eq_true rfl) dX6_fewestHours_36 ⟨Nat.le_of_ble_eq_true rfl, Nat.le_of_ble_eq_true rfl⟩) rfl rfl (fun H locs hW => ?_)
        refine lv_istore_n (lv' := [(3, .int x36), (0, .ref (gB G + a0)), (2, .int l2), (4, .int l4)]) hx hb dX6_fewestHours_39 rfl hl (by decide) rfl (fun ls hl => ?_)
        refine lv_aload_n hx hb dX6_fewestHours_40 rfl (lv_at hl 1 rfl) ?_
        obtain ⟨x41, z41, hq, h⟩ := ob2 h
        refine wz_rI (c' := 0) (s' := 0) hW (wz_runV (rest := []) C hW lVX6_121 (ck hq).1 rfl (ctX6_passHour l G a0 z hq) ⟨⟨rfl, rfl⟩, Nat.le_of_ble_eq_true rfl, Nat.le_of_ble_eq_true rfl⟩ rfl hl.1 rfl (Nat.le_of_ble_eq_true rfl) dX6_fewestHours_41 ⟨Nat.le_of_ble_eq_true rfl, Nat.le_of_ble_eq_true rfl⟩) rfl rfl (fun H locs hW => ?_)
        refine lv_pop hx hb dX6_fewestHours_44 rfl ?_
        refine lv_iload_n hx hb dX6_fewestHours_45 rfl (lv_at hl 0 rfl) ?_
        refine lv_aload_n hx hb dX6_fewestHours_46 rfl (lv_at hl 1 rfl) ?_
        obtain ⟨x47, hq, h⟩ := ob h
        refine wz_rI (c' := 0) (s' := 0) hW (wz_runV (rest := [.int x36]) C hW lVX6_162 (ck hq).1 rfl (ctX6_there l G a0 z41 hq) ⟨⟨rfl, rfl⟩, Nat.le_of_ble_eq_true rfl, Nat.le_of_ble_eq_true rfl⟩ rfl hl.1 rfl (Nat.le_of_ble_eq_true rfl) dX6_fewestHours_47 ⟨Nat.le_of_ble_eq_true rfl, Nat.le_of_ble_eq_true rfl⟩) rfl rfl (fun H locs hW => ?_)
        refine lv_iand hx hb dX6_fewestHours_50 ?_
        refine lv_topi (fun v51 ev51 => ?_)
        have h := nm_to h ev51
        refine lv_istore_n (lv' := [(3, .int v51), (0, .ref (gB G + a0)), (2, .int l2), (4, .int l4)]) hx hb dX6_fewestHours_51 rfl hl (by decide) rfl (fun ls hl => ?_)
        obtain ⟨v52, ev52⟩ : ∃ y : Int32, y = (l4 + (1 : Int32)) := ⟨_, rfl⟩
        have h := nm_to h ev52
        refine lv_iinc (v := v52) (lv' := [(4, .int v52), (3, .int v51), (0, .ref (gB G + a0)), (2, .int l2)]) hx hb dX6_fewestHours_52 hl (k := 3) rfl (by rw [ev52]; rfl) (by decide) rfl (fun ls hl => ?_)
        refine lv_goto (tgt := 12) hx hb dX6_fewestHours_55 (by decide) ?_
        exact hk12 a0 l2 v51 v52 z41 _ _ _ h hW (lv_sub hl [2, 3, 1, 0] rfl)
      · have h := ite_f c28 h
        refine lv_iload hx hb dX6_fewestHours_31 (lv_at hl 3 rfl) ?_
        exact wz_iretE C hlk hr (so2 h).1 (so2 h).2 hW dX6_fewestHours_33
def fX6_fewestHours_12 : Nat → Nat → Int32 → Int32 → Int32 → AH → Option (Int32 × AH)
  | 0, _, _, _, _, _ => none
  | n + 1, a0, l2, l3, l4, z => bX6_fewestHours_12 (fX6_fewestHours_12 n) a0 l2 l3 l4 z
theorem klX6_fewestHours_12 {p : Program} {l : Launch} {e : Env} {s : State} {m : MethodId} {args : Array Value} {below : List Frame} {meth : Method} {c : Code} {G : GW} {r : Int32} {z' : AH} (C : Cx p m c cX6_fewestHours 5 s args RX6 G) (hlk : meth.locks = false) (hr : meth.sig.returnType = (some .int)) : ∀ (n : Nat) (a0 : Nat) (l2 : Int32) (l3 : Int32) (l4 : Int32) (z : AH) (H : Heap) (locs : List Loc) (ls : Array Slot), fX6_fewestHours_12 n a0 l2 l3 l4 z = some (r, z') → Wb G z s H locs → lv_has ls 5 [(0, .ref (gB G + a0)), (2, .int l2), (3, .int l3), (4, .int l4)] → W p l e rmX6_fewestHours s m args below meth c H locs 0 0 (MQ below (Qi G r z') args s 0 0 (AA G)) (F0 m 12 ls []) := by
  intro n
  induction n with
  | zero => intro a0 l2 l3 l4 z H locs ls h; have h : (none : Option (Int32 × AH)) = some (r, z') := h; cases h
  | succ n ih => intro a0 l2 l3 l4 z H locs ls h hW hl; exact kbX6_fewestHours_12 C hlk hr (fX6_fewestHours_12 n) (fun a0 l2 l3 l4 z H locs ls h hW hl => ih a0 l2 l3 l4 z H locs ls h hW hl) a0 l2 l3 l4 h hW hl
def fX6_fewestHours (a0 : Nat) (l1 : Int32) (l2 : Int32) (z : AH) : Option (Int32 × AH) :=
  if isO 5 z a0 = true then
    (fX6_there a0 z).bind fun x4 =>
    nm ((shl (1 : Int32) l1) &&& x4) fun v8 =>
    fX6_fewestHours_12 FU a0 l2 v8 (0 : Int32) z
  else none
set_option maxHeartbeats 4000000 in
set_option maxRecDepth 100000 in
theorem ctX6_fewestHours (l : Launch) (G : GW) (a0 : Nat) (l1 : Int32) (l2 : Int32) (z : AH) {r : Int32} {z' : AH} (h : fX6_fewestHours a0 l1 l2 z = some (r, z')) : Met l yX6_fewestHours (wy yX6_fewestHours cX6_fewestHours 5 (some .int)) rmX6_fewestHours (Pz G [.ref (gB G + a0), .int l1, .int l2] z) (Qi G r z') 0 0 (AA G) := by
  refine wz_ent (own := RX6) (by decide +kernel) rfl (fun p e s m below meth c ls C hlk hr hin hW hl => ?_) (Nat.le_of_ble_eq_true rfl)
  have hl : lv_has ls 5 [(0, .ref (gB G + a0)), (1, .int l1), (2, .int l2)] := hl
  have hx := C.1
  have hb := C.2.1
  unfold fX6_fewestHours at h
  obtain ⟨-, h⟩ := ck h
  refine lv_iconst (v := 1) hx hb dX6_fewestHours_0 (by decide) ?_
  refine lv_iload_n hx hb dX6_fewestHours_1 rfl (lv_at hl 1 rfl) ?_
  refine wz_shl hx hb dX6_fewestHours_2 ?_
  refine lv_aload_n hx hb dX6_fewestHours_3 rfl (lv_at hl 0 rfl) ?_
  obtain ⟨x4, hq, h⟩ := ob h
  refine wz_rI (c' := 0) (s' := 0) hW (wz_runV (rest := [.int (shl (1 : Int32) l1)]) C hW lVX6_162 (ck hq).1 rfl (ctX6_there l G a0 z hq) ⟨⟨rfl, rfl⟩, Nat.le_of_ble_eq_true rfl, Nat.le_of_ble_eq_true rfl⟩ rfl hl.1 rfl (Nat.le_of_ble_eq_true rfl) dX6_fewestHours_4 ⟨Nat.le_of_ble_eq_true rfl, Nat.le_of_ble_eq_true rfl⟩) rfl rfl (fun H locs hW => ?_)
  refine lv_iand hx hb dX6_fewestHours_7 ?_
  refine lv_topi (fun v8 ev8 => ?_)
  have h := nm_to h ev8
  refine lv_istore_n (lv' := [(3, .int v8), (0, .ref (gB G + a0)), (1, .int l1), (2, .int l2)]) hx hb dX6_fewestHours_8 rfl hl (by decide) rfl (fun ls hl => ?_)
  refine lv_iconst (v := 0) hx hb dX6_fewestHours_9 (by decide) ?_
  refine lv_istore (lv' := [(4, .int (0 : Int32)), (3, .int v8), (0, .ref (gB G + a0)), (1, .int l1), (2, .int l2)]) hx hb dX6_fewestHours_10 hl (by decide) rfl (fun ls hl => ?_)
  exact klX6_fewestHours_12 C hlk hr FU a0 l2 v8 (0 : Int32) z _ _ _ h hW (lv_sub hl [2, 4, 1, 0] rfl)
theorem dX6_fewestHoursToMeet_0 : decode cX6_fewestHoursToMeet 0 = .ok (.iconst 1, 1) := by decide +kernel
theorem dX6_fewestHoursToMeet_1 : decode cX6_fewestHoursToMeet 1 = .ok (.iload_n 1, 1) := by decide +kernel
theorem dX6_fewestHoursToMeet_2 : decode cX6_fewestHoursToMeet 2 = .ok (.ishl, 1) := by decide +kernel
theorem dX6_fewestHoursToMeet_3 : decode cX6_fewestHoursToMeet 3 = .ok (.aload_n 0, 1) := by decide +kernel
theorem dX6_fewestHoursToMeet_4 : decode cX6_fewestHoursToMeet 4 = .ok (.invokevirtual 162, 3) := by decide +kernel
theorem dX6_fewestHoursToMeet_7 : decode cX6_fewestHoursToMeet 7 = .ok (.iand, 1) := by decide +kernel
theorem dX6_fewestHoursToMeet_8 : decode cX6_fewestHoursToMeet 8 = .ok (.istore_n 3, 1) := by decide +kernel
theorem dX6_fewestHoursToMeet_9 : decode cX6_fewestHoursToMeet 9 = .ok (.iconst 1, 1) := by decide +kernel
theorem dX6_fewestHoursToMeet_10 : decode cX6_fewestHoursToMeet 10 = .ok (.iload_n 2, 1) := by decide +kernel
theorem dX6_fewestHoursToMeet_11 : decode cX6_fewestHoursToMeet 11 = .ok (.ishl, 1) := by decide +kernel
theorem dX6_fewestHoursToMeet_12 : decode cX6_fewestHoursToMeet 12 = .ok (.aload_n 0, 1) := by decide +kernel
theorem dX6_fewestHoursToMeet_13 : decode cX6_fewestHoursToMeet 13 = .ok (.invokevirtual 162, 3) := by decide +kernel
theorem dX6_fewestHoursToMeet_16 : decode cX6_fewestHoursToMeet 16 = .ok (.iand, 1) := by decide +kernel
theorem dX6_fewestHoursToMeet_17 : decode cX6_fewestHoursToMeet 17 = .ok (.istore 4, 2) := by decide +kernel
theorem dX6_fewestHoursToMeet_19 : decode cX6_fewestHoursToMeet 19 = .ok (.iconst 0, 1) := by decide +kernel
theorem dX6_fewestHoursToMeet_20 : decode cX6_fewestHoursToMeet 20 = .ok (.istore 5, 2) := by decide +kernel
theorem dX6_fewestHoursToMeet_22 : decode cX6_fewestHoursToMeet 22 = .ok (.iload 5, 2) := by decide +kernel
theorem dX6_fewestHoursToMeet_24 : decode cX6_fewestHoursToMeet 24 = .ok (.bipush 99, 2) := by decide +kernel
theorem dX6_fewestHoursToMeet_26 : decode cX6_fewestHoursToMeet 26 = .ok (.if_icmp .gt 63, 3) := by decide +kernel
theorem dX6_fewestHoursToMeet_29 : decode cX6_fewestHoursToMeet 29 = .ok (.iload_n 3, 1) := by decide +kernel
theorem dX6_fewestHoursToMeet_30 : decode cX6_fewestHoursToMeet 30 = .ok (.ifCond .eq 59, 3) := by decide +kernel
theorem dX6_fewestHoursToMeet_33 : decode cX6_fewestHoursToMeet 33 = .ok (.iload 4, 2) := by decide +kernel
theorem dX6_fewestHoursToMeet_35 : decode cX6_fewestHoursToMeet 35 = .ok (.ifCond .eq 54, 3) := by decide +kernel
theorem dX6_fewestHoursToMeet_38 : decode cX6_fewestHoursToMeet 38 = .ok (.iload_n 3, 1) := by decide +kernel
theorem dX6_fewestHoursToMeet_39 : decode cX6_fewestHoursToMeet 39 = .ok (.iload 4, 2) := by decide +kernel
theorem dX6_fewestHoursToMeet_41 : decode cX6_fewestHoursToMeet 41 = .ok (.iand, 1) := by decide +kernel
theorem dX6_fewestHoursToMeet_42 : decode cX6_fewestHoursToMeet 42 = .ok (.ifCond .eq 6, 3) := by decide +kernel
theorem dX6_fewestHoursToMeet_45 : decode cX6_fewestHoursToMeet 45 = .ok (.iload 5, 2) := by decide +kernel
theorem dX6_fewestHoursToMeet_47 : decode cX6_fewestHoursToMeet 47 = .ok (.ireturn, 1) := by decide +kernel
theorem dX6_fewestHoursToMeet_48 : decode cX6_fewestHoursToMeet 48 = .ok (.aload_n 0, 1) := by decide +kernel
theorem dX6_fewestHoursToMeet_49 : decode cX6_fewestHoursToMeet 49 = .ok (.iload_n 3, 1) := by decide +kernel
theorem dX6_fewestHoursToMeet_50 : decode cX6_fewestHoursToMeet 50 = .ok (.invokevirtual 166, 3) := by decide +kernel
theorem dX6_fewestHoursToMeet_53 : decode cX6_fewestHoursToMeet 53 = .ok (.istore_n 3, 1) := by decide +kernel
theorem dX6_fewestHoursToMeet_54 : decode cX6_fewestHoursToMeet 54 = .ok (.aload_n 0, 1) := by decide +kernel
theorem dX6_fewestHoursToMeet_55 : decode cX6_fewestHoursToMeet 55 = .ok (.iload 4, 2) := by decide +kernel
theorem dX6_fewestHoursToMeet_57 : decode cX6_fewestHoursToMeet 57 = .ok (.invokevirtual 166, 3) := by decide +kernel
theorem dX6_fewestHoursToMeet_60 : decode cX6_fewestHoursToMeet 60 = .ok (.istore 4, 2) := by decide +kernel
theorem dX6_fewestHoursToMeet_62 : decode cX6_fewestHoursToMeet 62 = .ok (.aload_n 0, 1) := by decide +kernel
theorem dX6_fewestHoursToMeet_63 : decode cX6_fewestHoursToMeet 63 = .ok (.invokevirtual 121, 3) := by decide +kernel
theorem dX6_fewestHoursToMeet_66 : decode cX6_fewestHoursToMeet 66 = .ok (.pop, 1) := by decide +kernel
theorem dX6_fewestHoursToMeet_67 : decode cX6_fewestHoursToMeet 67 = .ok (.iload_n 3, 1) := by decide +kernel
theorem dX6_fewestHoursToMeet_68 : decode cX6_fewestHoursToMeet 68 = .ok (.aload_n 0, 1) := by decide +kernel
theorem dX6_fewestHoursToMeet_69 : decode cX6_fewestHoursToMeet 69 = .ok (.invokevirtual 162, 3) := by decide +kernel
theorem dX6_fewestHoursToMeet_72 : decode cX6_fewestHoursToMeet 72 = .ok (.iand, 1) := by decide +kernel
theorem dX6_fewestHoursToMeet_73 : decode cX6_fewestHoursToMeet 73 = .ok (.istore_n 3, 1) := by decide +kernel
theorem dX6_fewestHoursToMeet_74 : decode cX6_fewestHoursToMeet 74 = .ok (.iload 4, 2) := by decide +kernel
theorem dX6_fewestHoursToMeet_76 : decode cX6_fewestHoursToMeet 76 = .ok (.aload_n 0, 1) := by decide +kernel
theorem dX6_fewestHoursToMeet_77 : decode cX6_fewestHoursToMeet 77 = .ok (.invokevirtual 162, 3) := by decide +kernel
theorem dX6_fewestHoursToMeet_80 : decode cX6_fewestHoursToMeet 80 = .ok (.iand, 1) := by decide +kernel
theorem dX6_fewestHoursToMeet_81 : decode cX6_fewestHoursToMeet 81 = .ok (.istore 4, 2) := by decide +kernel
theorem dX6_fewestHoursToMeet_83 : decode cX6_fewestHoursToMeet 83 = .ok (.iinc 5 1, 3) := by decide +kernel
theorem dX6_fewestHoursToMeet_86 : decode cX6_fewestHoursToMeet 86 = .ok (.goto (-64), 3) := by decide +kernel
theorem dX6_fewestHoursToMeet_89 : decode cX6_fewestHoursToMeet 89 = .ok (.iconst (-1), 1) := by decide +kernel
theorem dX6_fewestHoursToMeet_90 : decode cX6_fewestHoursToMeet 90 = .ok (.ireturn, 1) := by decide +kernel
abbrev rmX6_fewestHoursToMeet : Room := { frames := 3, cells := 0, slots := 0, locals := 68 }
def bX6_fewestHoursToMeet_22 (k22 : Nat → Int32 → Int32 → Int32 → AH → Option (Int32 × AH)) (a0 : Nat) (l3 : Int32) (l4 : Int32) (l5 : Int32) (z : AH) : Option (Int32 × AH) :=
  if (99 : Int32) < l5 then (
    some ((-1 : Int32), z)
  ) else (
    if l3 = (0 : Int32) then (
      some ((-1 : Int32), z)
    ) else (
      if l4 = (0 : Int32) then (
        some ((-1 : Int32), z)
      ) else (
        if (l3 &&& l4) = (0 : Int32) then (
          (fX6_spread a0 l3 z).bind fun x50 =>
          (fX6_spread a0 l4 z).bind fun x57 =>
          b2 (fX6_passHour a0 z) fun x63 z63 =>
          (fX6_there a0 z63).bind fun x69 =>
          nm (x50 &&& x69) fun v73 =>
          (fX6_there a0 z63).bind fun x77 =>
          nm (x57 &&& x77) fun v81 =>
          nm (l5 + (1 : Int32)) fun v83 =>
          k22 a0 v73 v81 v83 z63
        ) else (
          some (l5, z)
        )
      )
    )
  )
set_option maxHeartbeats 4000000 in
set_option maxRecDepth 100000 in
theorem kbX6_fewestHoursToMeet_22 {p : Program} {l : Launch} {e : Env} {s : State} {m : MethodId} {args : Array Value} {below : List Frame} {meth : Method} {c : Code} {G : GW} {r : Int32} {z' : AH} (C : Cx p m c cX6_fewestHoursToMeet 6 s args RX6 G) (hlk : meth.locks = false) (hr : meth.sig.returnType = (some .int)) (k22 : Nat → Int32 → Int32 → Int32 → AH → Option (Int32 × AH)) (hk22 : ∀ (a0 : Nat) (l3 : Int32) (l4 : Int32) (l5 : Int32) (z : AH) (H : Heap) (locs : List Loc) (ls : Array Slot), k22 a0 l3 l4 l5 z = some (r, z') → Wb G z s H locs → lv_has ls 6 [(0, .ref (gB G + a0)), (3, .int l3), (4, .int l4), (5, .int l5)] → W p l e rmX6_fewestHoursToMeet s m args below meth c H locs 0 0 (MQ below (Qi G r z') args s 0 0 (AA G)) (F0 m 22 ls [])) (a0 : Nat) (l3 : Int32) (l4 : Int32) (l5 : Int32) {z : AH} {H : Heap} {locs : List Loc} {ls : Array Slot} (h : bX6_fewestHoursToMeet_22 k22 a0 l3 l4 l5 z = some (r, z')) (hW : Wb G z s H locs) (hl : lv_has ls 6 [(0, .ref (gB G + a0)), (3, .int l3), (4, .int l4), (5, .int l5)]) : W p l e rmX6_fewestHoursToMeet s m args below meth c H locs 0 0 (MQ below (Qi G r z') args s 0 0 (AA G)) (F0 m 22 ls []) := by
  have hx := C.1
  have hb := C.2.1
  unfold bX6_fewestHoursToMeet_22 at h
  refine lv_iload hx hb dX6_fewestHoursToMeet_22 (lv_at hl 3 rfl) ?_
  refine lv_bipush (v := 99) hx hb dX6_fewestHoursToMeet_24 (by decide) ?_
  refine lv_icmp_gt (tgt := 89) hx hb dX6_fewestHoursToMeet_26 (by decide) (fun c26 => ?_) (fun c26 => ?_)
  · have h := ite_t c26 h
    refine lv_iconst (v := -1) hx hb dX6_fewestHoursToMeet_89 (by decide) ?_
    exact wz_iretE C hlk hr (so2 h).1 (so2 h).2 hW dX6_fewestHoursToMeet_90
  · have h := ite_f c26 h
    refine lv_iload_n hx hb dX6_fewestHoursToMeet_29 rfl (lv_at hl 1 rfl) ?_
    refine lv_if_eq (tgt := 89) hx hb dX6_fewestHoursToMeet_30 (by decide) (fun c30 => ?_) (fun c30 => ?_)
    · have h := ite_t c30 h
      refine lv_iconst (v := -1) hx hb dX6_fewestHoursToMeet_89 (by decide) ?_
      exact wz_iretE C hlk hr (so2 h).1 (so2 h).2 hW dX6_fewestHoursToMeet_90
    · have h := ite_f c30 h
      refine lv_iload hx hb dX6_fewestHoursToMeet_33 (lv_at hl 2 rfl) ?_
      refine lv_if_eq (tgt := 89) hx hb dX6_fewestHoursToMeet_35 (by decide) (fun c35 => ?_) (fun c35 => ?_)
      · have h := ite_t c35 h
        refine lv_iconst (v := -1) hx hb dX6_fewestHoursToMeet_89 (by decide) ?_
        exact wz_iretE C hlk hr (so2 h).1 (so2 h).2 hW dX6_fewestHoursToMeet_90
      · have h := ite_f c35 h
        refine lv_iload_n hx hb dX6_fewestHoursToMeet_38 rfl (lv_at hl 1 rfl) ?_
        refine lv_iload hx hb dX6_fewestHoursToMeet_39 (lv_at hl 2 rfl) ?_
        refine lv_iand hx hb dX6_fewestHoursToMeet_41 ?_
        refine lv_if_eq (tgt := 48) hx hb dX6_fewestHoursToMeet_42 (by decide) (fun c42 => ?_) (fun c42 => ?_)
        · have h := ite_t c42 h
          refine lv_aload_n hx hb dX6_fewestHoursToMeet_48 rfl (lv_at hl 0 rfl) ?_
          refine lv_iload_n hx hb dX6_fewestHoursToMeet_49 rfl (lv_at hl 1 rfl) ?_
          obtain ⟨x50, hq, h⟩ := ob h
          refine wz_rI (c' := 0) (s' := 0) hW (wz_runV (rest := []) C hW lVX6_166 (ck hq).1 rfl (ctX6_spread l G a0 l3 z hq) ⟨⟨rfl, rfl⟩, Nat.le_of_ble_eq_true rfl, Nat.le_of_ble_eq_true rfl⟩ rfl hl.1 rfl (Nat.le_of_ble_eq_true rfl) dX6_fewestHoursToMeet_50 ⟨Nat.le_of_ble_eq_true rfl, Nat.le_of_ble_eq_true rfl⟩) rfl rfl (fun H locs hW => ?_)
          refine lv_istore_n (lv' := [(3, .int x50), (0, .ref (gB G + a0)), (4, .int l4), (5, .int l5)]) hx hb dX6_fewestHoursToMeet_53 rfl hl (by decide) rfl (fun ls hl => ?_)
          refine lv_aload_n hx hb dX6_fewestHoursToMeet_54 rfl (lv_at hl 1 rfl) ?_
          refine lv_iload hx hb dX6_fewestHoursToMeet_55 (lv_at hl 2 rfl) ?_
          obtain ⟨x57, hq, h⟩ := ob h
          refine wz_rI (c' := 0) (s' := 0) hW (wz_runV (rest := []) C hW lVX6_166 (ck hq).1 rfl (ctX6_spread l G a0 l4 z hq) ⟨⟨rfl, rfl⟩, Nat.le_of_ble_eq_true rfl, Nat.le_of_ble_eq_true rfl⟩ rfl hl.1 rfl (Nat.le_of_ble_eq_true rfl) dX6_fewestHoursToMeet_57 ⟨Nat.le_of_ble_eq_true rfl, Nat.le_of_ble_eq_true rfl⟩) rfl rfl (fun H locs hW => ?_)
          refine lv_istore (lv' := [(4, .int x57), (3, .int x50), (0, .ref (gB G + a0)), (5, .int l5)]) hx hb dX6_fewestHoursToMeet_60 hl (by decide) rfl (fun ls hl => ?_)
          refine lv_aload_n hx hb dX6_fewestHoursToMeet_62 rfl (lv_at hl 2 rfl) ?_
          obtain ⟨x63, z63, hq, h⟩ := ob2 h
          refine wz_rI (c' := 0) (s' := 0) hW (wz_runV (rest := []) C hW lVX6_121 (ck hq).1 rfl (ctX6_passHour l G a0 z hq) ⟨⟨rfl, rfl⟩, Nat.le_of_ble_eq_true rfl, Nat.le_of_ble_eq_true rfl⟩ rfl hl.1 rfl (Nat.le_of_ble_eq_true rfl) dX6_fewestHoursToMeet_63 ⟨Nat.le_of_ble_eq_true rfl, Nat.le_of_ble_eq_true rfl⟩) rfl rfl (fun H locs hW => ?_)
          refine lv_pop hx hb dX6_fewestHoursToMeet_66 rfl ?_
          refine lv_iload_n hx hb dX6_fewestHoursToMeet_67 rfl (lv_at hl 1 rfl) ?_
          refine lv_aload_n hx hb dX6_fewestHoursToMeet_68 rfl (lv_at hl 2 rfl) ?_
          obtain ⟨x69, hq, h⟩ := ob h
          refine wz_rI (c' := 0) (s' := 0) hW (wz_runV (rest := [.int x50]) C hW lVX6_162 (ck hq).1 rfl (ctX6_there l G a0 z63 hq) ⟨⟨rfl, rfl⟩, Nat.le_of_ble_eq_true rfl, Nat.le_of_ble_eq_true rfl⟩ rfl hl.1 rfl (Nat.le_of_ble_eq_true rfl) dX6_fewestHoursToMeet_69 ⟨Nat.le_of_ble_eq_true rfl, Nat.le_of_ble_eq_true rfl⟩) rfl rfl (fun H locs hW => ?_)
          refine lv_iand hx hb dX6_fewestHoursToMeet_72 ?_
          refine lv_topi (fun v73 ev73 => ?_)
          have h := nm_to h ev73
          refine lv_istore_n (lv' := [(3, .int v73), (4, .int x57), (0, .ref (gB G + a0)), (5, .int l5)]) hx hb dX6_fewestHoursToMeet_73 rfl hl (by decide) rfl (fun ls hl => ?_)
          refine lv_iload hx hb dX6_fewestHoursToMeet_74 (lv_at hl 1 rfl) ?_
          refine lv_aload_n hx hb dX6_fewestHoursToMeet_76 rfl (lv_at hl 2 rfl) ?_
          obtain ⟨x77, hq, h⟩ := ob h
          refine wz_rI (c' := 0) (s' := 0) hW (wz_runV (rest := [.int x57]) C hW lVX6_162 (ck hq).1 rfl (ctX6_there l G a0 z63 hq) ⟨⟨rfl, rfl⟩, Nat.le_of_ble_eq_true rfl, Nat.le_of_ble_eq_true rfl⟩ rfl hl.1 rfl (Nat.le_of_ble_eq_true rfl) dX6_fewestHoursToMeet_77 ⟨Nat.le_of_ble_eq_true rfl, Nat.le_of_ble_eq_true rfl⟩) rfl rfl (fun H locs hW => ?_)
          refine lv_iand hx hb dX6_fewestHoursToMeet_80 ?_
          refine lv_topi (fun v81 ev81 => ?_)
          have h := nm_to h ev81
          refine lv_istore (lv' := [(4, .int v81), (3, .int v73), (0, .ref (gB G + a0)), (5, .int l5)]) hx hb dX6_fewestHoursToMeet_81 hl (by decide) rfl (fun ls hl => ?_)
          obtain ⟨v83, ev83⟩ : ∃ y : Int32, y = (l5 + (1 : Int32)) := ⟨_, rfl⟩
          have h := nm_to h ev83
          refine lv_iinc (v := v83) (lv' := [(5, .int v83), (4, .int v81), (3, .int v73), (0, .ref (gB G + a0))]) hx hb dX6_fewestHoursToMeet_83 hl (k := 3) rfl (by rw [ev83]; rfl) (by decide) rfl (fun ls hl => ?_)
          refine lv_goto (tgt := 22) hx hb dX6_fewestHoursToMeet_86 (by decide) ?_
          exact hk22 a0 v73 v81 v83 z63 _ _ _ h hW (lv_sub hl [3, 2, 1, 0] rfl)
        · have h := ite_f c42 h
          refine lv_iload hx hb dX6_fewestHoursToMeet_45 (lv_at hl 3 rfl) ?_
          exact wz_iretE C hlk hr (so2 h).1 (so2 h).2 hW dX6_fewestHoursToMeet_47
def fX6_fewestHoursToMeet_22 : Nat → Nat → Int32 → Int32 → Int32 → AH → Option (Int32 × AH)
  | 0, _, _, _, _, _ => none
  | n + 1, a0, l3, l4, l5, z => bX6_fewestHoursToMeet_22 (fX6_fewestHoursToMeet_22 n) a0 l3 l4 l5 z
theorem klX6_fewestHoursToMeet_22 {p : Program} {l : Launch} {e : Env} {s : State} {m : MethodId} {args : Array Value} {below : List Frame} {meth : Method} {c : Code} {G : GW} {r : Int32} {z' : AH} (C : Cx p m c cX6_fewestHoursToMeet 6 s args RX6 G) (hlk : meth.locks = false) (hr : meth.sig.returnType = (some .int)) : ∀ (n : Nat) (a0 : Nat) (l3 : Int32) (l4 : Int32) (l5 : Int32) (z : AH) (H : Heap) (locs : List Loc) (ls : Array Slot), fX6_fewestHoursToMeet_22 n a0 l3 l4 l5 z = some (r, z') → Wb G z s H locs → lv_has ls 6 [(0, .ref (gB G + a0)), (3, .int l3), (4, .int l4), (5, .int l5)] → W p l e rmX6_fewestHoursToMeet s m args below meth c H locs 0 0 (MQ below (Qi G r z') args s 0 0 (AA G)) (F0 m 22 ls []) := by
  intro n
  induction n with
  | zero => intro a0 l3 l4 l5 z H locs ls h; have h : (none : Option (Int32 × AH)) = some (r, z') := h; cases h
  | succ n ih => intro a0 l3 l4 l5 z H locs ls h hW hl; exact kbX6_fewestHoursToMeet_22 C hlk hr (fX6_fewestHoursToMeet_22 n) (fun a0 l3 l4 l5 z H locs ls h hW hl => ih a0 l3 l4 l5 z H locs ls h hW hl) a0 l3 l4 l5 h hW hl
def fX6_fewestHoursToMeet (a0 : Nat) (l1 : Int32) (l2 : Int32) (z : AH) : Option (Int32 × AH) :=
  if isO 5 z a0 = true then
    (fX6_there a0 z).bind fun x4 =>
    nm ((shl (1 : Int32) l1) &&& x4) fun v8 =>
    (fX6_there a0 z).bind fun x13 =>
    nm ((shl (1 : Int32) l2) &&& x13) fun v17 =>
    fX6_fewestHoursToMeet_22 FU a0 v8 v17 (0 : Int32) z
  else none
set_option maxHeartbeats 4000000 in
set_option maxRecDepth 100000 in
theorem ctX6_fewestHoursToMeet (l : Launch) (G : GW) (a0 : Nat) (l1 : Int32) (l2 : Int32) (z : AH) {r : Int32} {z' : AH} (h : fX6_fewestHoursToMeet a0 l1 l2 z = some (r, z')) : Met l yX6_fewestHoursToMeet (wy yX6_fewestHoursToMeet cX6_fewestHoursToMeet 6 (some .int)) rmX6_fewestHoursToMeet (Pz G [.ref (gB G + a0), .int l1, .int l2] z) (Qi G r z') 0 0 (AA G) := by
  refine wz_ent (own := RX6) (by decide +kernel) rfl (fun p e s m below meth c ls C hlk hr hin hW hl => ?_) (Nat.le_of_ble_eq_true rfl)
  have hl : lv_has ls 6 [(0, .ref (gB G + a0)), (1, .int l1), (2, .int l2)] := hl
  have hx := C.1
  have hb := C.2.1
  unfold fX6_fewestHoursToMeet at h
  obtain ⟨-, h⟩ := ck h
  refine lv_iconst (v := 1) hx hb dX6_fewestHoursToMeet_0 (by decide) ?_
  refine lv_iload_n hx hb dX6_fewestHoursToMeet_1 rfl (lv_at hl 1 rfl) ?_
  refine wz_shl hx hb dX6_fewestHoursToMeet_2 ?_
  refine lv_aload_n hx hb dX6_fewestHoursToMeet_3 rfl (lv_at hl 0 rfl) ?_
  obtain ⟨x4, hq, h⟩ := ob h
  refine wz_rI (c' := 0) (s' := 0) hW (wz_runV (rest := [.int (shl (1 : Int32) l1)]) C hW lVX6_162 (ck hq).1 rfl (ctX6_there l G a0 z hq) ⟨⟨rfl, rfl⟩, Nat.le_of_ble_eq_true rfl, Nat.le_of_ble_eq_true rfl⟩ rfl hl.1 rfl (Nat.le_of_ble_eq_true rfl) dX6_fewestHoursToMeet_4 ⟨Nat.le_of_ble_eq_true rfl, Nat.le_of_ble_eq_true rfl⟩) rfl rfl (fun H locs hW => ?_)
  refine lv_iand hx hb dX6_fewestHoursToMeet_7 ?_
  refine lv_topi (fun v8 ev8 => ?_)
  have h := nm_to h ev8
  refine lv_istore_n (lv' := [(3, .int v8), (0, .ref (gB G + a0)), (1, .int l1), (2, .int l2)]) hx hb dX6_fewestHoursToMeet_8 rfl hl (by decide) rfl (fun ls hl => ?_)
  refine lv_iconst (v := 1) hx hb dX6_fewestHoursToMeet_9 (by decide) ?_
  refine lv_iload_n hx hb dX6_fewestHoursToMeet_10 rfl (lv_at hl 3 rfl) ?_
  refine wz_shl hx hb dX6_fewestHoursToMeet_11 ?_
  refine lv_aload_n hx hb dX6_fewestHoursToMeet_12 rfl (lv_at hl 1 rfl) ?_
  obtain ⟨x13, hq, h⟩ := ob h
  refine wz_rI (c' := 0) (s' := 0) hW (wz_runV (rest := [.int (shl (1 : Int32) l2)]) C hW lVX6_162 (ck hq).1 rfl (ctX6_there l G a0 z hq) ⟨⟨rfl, rfl⟩, Nat.le_of_ble_eq_true rfl, Nat.le_of_ble_eq_true rfl⟩ rfl hl.1 rfl (Nat.le_of_ble_eq_true rfl) dX6_fewestHoursToMeet_13 ⟨Nat.le_of_ble_eq_true rfl, Nat.le_of_ble_eq_true rfl⟩) rfl rfl (fun H locs hW => ?_)
  refine lv_iand hx hb dX6_fewestHoursToMeet_16 ?_
  refine lv_topi (fun v17 ev17 => ?_)
  have h := nm_to h ev17
  refine lv_istore (lv' := [(4, .int v17), (3, .int v8), (0, .ref (gB G + a0)), (1, .int l1), (2, .int l2)]) hx hb dX6_fewestHoursToMeet_17 hl (by decide) rfl (fun ls hl => ?_)
  refine lv_iconst (v := 0) hx hb dX6_fewestHoursToMeet_19 (by decide) ?_
  refine lv_istore (lv' := [(5, .int (0 : Int32)), (4, .int v17), (3, .int v8), (0, .ref (gB G + a0)), (1, .int l1), (2, .int l2)]) hx hb dX6_fewestHoursToMeet_20 hl (by decide) rfl (fun ls hl => ?_)
  exact klX6_fewestHoursToMeet_22 C hlk hr FU a0 v8 v17 (0 : Int32) z _ _ _ h hW (lv_sub hl [3, 2, 1, 0] rfl)
theorem dX6_widen_0 : decode cX6_widen 0 = .ok (.aload_n 0, 1) := by decide +kernel
theorem dX6_widen_1 : decode cX6_widen 1 = .ok (.iload_n 1, 1) := by decide +kernel
theorem dX6_widen_2 : decode cX6_widen 2 = .ok (.invokevirtual 128, 3) := by decide +kernel
theorem dX6_widen_5 : decode cX6_widen 5 = .ok (.ifCond .eq 41, 3) := by decide +kernel
theorem dX6_widen_8 : decode cX6_widen 8 = .ok (.aload_n 0, 1) := by decide +kernel
theorem dX6_widen_9 : decode cX6_widen 9 = .ok (.iload_n 2, 1) := by decide +kernel
theorem dX6_widen_10 : decode cX6_widen 10 = .ok (.invokevirtual 128, 3) := by decide +kernel
theorem dX6_widen_13 : decode cX6_widen 13 = .ok (.ifCond .eq 33, 3) := by decide +kernel
theorem dX6_widen_16 : decode cX6_widen 16 = .ok (.aload_n 0, 1) := by decide +kernel
theorem dX6_widen_17 : decode cX6_widen 17 = .ok (.getfield 24, 3) := by decide +kernel
theorem dX6_widen_20 : decode cX6_widen 20 = .ok (.iload_n 2, 1) := by decide +kernel
theorem dX6_widen_21 : decode cX6_widen 21 = .ok (.aload_n 0, 1) := by decide +kernel
theorem dX6_widen_22 : decode cX6_widen 22 = .ok (.getfield 24, 3) := by decide +kernel
theorem dX6_widen_25 : decode cX6_widen 25 = .ok (.iload_n 2, 1) := by decide +kernel
theorem dX6_widen_26 : decode cX6_widen 26 = .ok (.iaload, 1) := by decide +kernel
theorem dX6_widen_27 : decode cX6_widen 27 = .ok (.aload_n 0, 1) := by decide +kernel
theorem dX6_widen_28 : decode cX6_widen 28 = .ok (.getfield 24, 3) := by decide +kernel
theorem dX6_widen_31 : decode cX6_widen 31 = .ok (.iload_n 1, 1) := by decide +kernel
theorem dX6_widen_32 : decode cX6_widen 32 = .ok (.iaload, 1) := by decide +kernel
theorem dX6_widen_33 : decode cX6_widen 33 = .ok (.aload_n 0, 1) := by decide +kernel
theorem dX6_widen_34 : decode cX6_widen 34 = .ok (.getfield 17, 3) := by decide +kernel
theorem dX6_widen_37 : decode cX6_widen 37 = .ok (.iload_n 2, 1) := by decide +kernel
theorem dX6_widen_38 : decode cX6_widen 38 = .ok (.iaload, 1) := by decide +kernel
theorem dX6_widen_39 : decode cX6_widen 39 = .ok (.invokestatic 96, 3) := by decide +kernel
theorem dX6_widen_42 : decode cX6_widen 42 = .ok (.invokestatic 146, 3) := by decide +kernel
theorem dX6_widen_45 : decode cX6_widen 45 = .ok (.iastore, 1) := by decide +kernel
theorem dX6_widen_46 : decode cX6_widen 46 = .ok (.return_, 1) := by decide +kernel
abbrev rmX6_widen : Room := { frames := 2, cells := 0, slots := 0, locals := 42 }
def fX6_widen (a0 : Nat) (l1 : Int32) (l2 : Int32) (z : AH) : Option AH :=
  if isO 5 z a0 = true then
    (fX6_isThere a0 l1 z).bind fun x2 =>
    if x2 = (0 : Int32) then (
      some z
    ) else (
      (fX6_isThere a0 l2 z).bind fun x10 =>
      if x10 = (0 : Int32) then (
        some z
      ) else (
        (gN 5 4 z a0).bind fun b17 =>
        (gN 5 4 z a0).bind fun b22 =>
        (ixI 0 z b22 l2).bind fun x26 =>
        (gN 5 4 z a0).bind fun b28 =>
        (ixI 0 z b28 l1).bind fun x32 =>
        (gN 5 1 z a0).bind fun b34 =>
        (ixI 0 z b34 l2).bind fun x38 =>
        (stI 0 z b17 l2 (imax x26 (imin x32 x38))).bind fun z45 =>
        some z45
      )
    )
  else none
set_option maxHeartbeats 4000000 in
set_option maxRecDepth 100000 in
theorem ctX6_widen (l : Launch) (G : GW) (a0 : Nat) (l1 : Int32) (l2 : Int32) (z : AH) {z' : AH} (h : fX6_widen a0 l1 l2 z = some z') : Met l yX6_widen (wy yX6_widen cX6_widen 3 none) rmX6_widen (Pz G [.ref (gB G + a0), .int l1, .int l2] z) (Qv G z') 0 0 (AA G) := by
  refine wz_ent (own := RX6) (by decide +kernel) rfl (fun p e s m below meth c ls C hlk hr hin hW hl => ?_) (Nat.le_of_ble_eq_true rfl)
  have hl : lv_has ls 3 [(0, .ref (gB G + a0)), (1, .int l1), (2, .int l2)] := hl
  have hx := C.1
  have hb := C.2.1
  unfold fX6_widen at h
  obtain ⟨-, h⟩ := ck h
  refine lv_aload_n hx hb dX6_widen_0 rfl (lv_at hl 0 rfl) ?_
  refine lv_iload_n hx hb dX6_widen_1 rfl (lv_at hl 1 rfl) ?_
  obtain ⟨x2, hq, h⟩ := ob h
  refine wz_rI (c' := 0) (s' := 0) hW (wz_runV (rest := []) C hW lVX6_128 (ck hq).1 rfl (ctX6_isThere l G a0 l1 z hq) ⟨⟨rfl, rfl⟩, Nat.le_of_ble_eq_true rfl, Nat.le_of_ble_eq_true rfl⟩ rfl hl.1 rfl (Nat.le_of_ble_eq_true rfl) dX6_widen_2 ⟨Nat.le_of_ble_eq_true rfl, Nat.le_of_ble_eq_true rfl⟩) rfl rfl (fun H locs hW => ?_)
  refine lv_if_eq (tgt := 46) hx hb dX6_widen_5 (by decide) (fun c5 => ?_) (fun c5 => ?_)
  · have h := ite_t c5 h
    exact wz_vretE C hlk hr (Option.some.inj h) hW dX6_widen_46
  · have h := ite_f c5 h
    refine lv_aload_n hx hb dX6_widen_8 rfl (lv_at hl 0 rfl) ?_
    refine lv_iload_n hx hb dX6_widen_9 rfl (lv_at hl 2 rfl) ?_
    obtain ⟨x10, hq, h⟩ := ob h
    refine wz_rI (c' := 0) (s' := 0) hW (wz_runV (rest := []) C hW lVX6_128 (ck hq).1 rfl (ctX6_isThere l G a0 l2 z hq) ⟨⟨rfl, rfl⟩, Nat.le_of_ble_eq_true rfl, Nat.le_of_ble_eq_true rfl⟩ rfl hl.1 rfl (Nat.le_of_ble_eq_true rfl) dX6_widen_10 ⟨Nat.le_of_ble_eq_true rfl, Nat.le_of_ble_eq_true rfl⟩) rfl rfl (fun H locs hW => ?_)
    refine lv_if_eq (tgt := 46) hx hb dX6_widen_13 (by decide) (fun c13 => ?_) (fun c13 => ?_)
    · have h := ite_t c13 h
      exact wz_vretE C hlk hr (Option.some.inj h) hW dX6_widen_46
    · have h := ite_f c13 h
      refine lv_aload_n hx hb dX6_widen_16 rfl (lv_at hl 0 rfl) ?_
      obtain ⟨b17, hg, h⟩ := ob h
      refine wz_gN C hW flX6_24 hg dX6_widen_17 ?_
      refine lv_iload_n hx hb dX6_widen_20 rfl (lv_at hl 2 rfl) ?_
      refine lv_aload_n hx hb dX6_widen_21 rfl (lv_at hl 0 rfl) ?_
      obtain ⟨b22, hg, h⟩ := ob h
      refine wz_gN C hW flX6_24 hg dX6_widen_22 ?_
      refine lv_iload_n hx hb dX6_widen_25 rfl (lv_at hl 2 rfl) ?_
      obtain ⟨x26, hg, h⟩ := ob h
      refine wz_ald C hW hg dX6_widen_26 ?_
      refine lv_aload_n hx hb dX6_widen_27 rfl (lv_at hl 0 rfl) ?_
      obtain ⟨b28, hg, h⟩ := ob h
      refine wz_gN C hW flX6_24 hg dX6_widen_28 ?_
      refine lv_iload_n hx hb dX6_widen_31 rfl (lv_at hl 1 rfl) ?_
      obtain ⟨x32, hg, h⟩ := ob h
      refine wz_ald C hW hg dX6_widen_32 ?_
      refine lv_aload_n hx hb dX6_widen_33 rfl (lv_at hl 0 rfl) ?_
      obtain ⟨b34, hg, h⟩ := ob h
      refine wz_gN C hW flX6_17 hg dX6_widen_34 ?_
      refine lv_iload_n hx hb dX6_widen_37 rfl (lv_at hl 2 rfl) ?_
      obtain ⟨x38, hg, h⟩ := ob h
      refine wz_ald C hW hg dX6_widen_38 ?_
      refine wz_min ⟨tw 837 (by decide +kernel) rfl, tw 530 (by decide +kernel) rfl, tw 129 (by decide +kernel) rfl, tw 531 (by decide +kernel) rfl⟩ C hl.1 ⟨⟨Nat.le_of_ble_eq_true rfl, Nat.le_of_ble_eq_true rfl⟩, Nat.le_of_ble_eq_true rfl, Nat.le_of_ble_eq_true rfl⟩ (Nat.le_of_ble_eq_true rfl) dX6_widen_39 ?_
      refine wz_max ⟨tw 883 (by decide +kernel) rfl, tw 733 (by decide +kernel) rfl, tw 129 (by decide +kernel) rfl, tw 734 (by decide +kernel) rfl⟩ C hl.1 ⟨⟨Nat.le_of_ble_eq_true rfl, Nat.le_of_ble_eq_true rfl⟩, Nat.le_of_ble_eq_true rfl, Nat.le_of_ble_eq_true rfl⟩ (Nat.le_of_ble_eq_true rfl) dX6_widen_42 ?_
      obtain ⟨z45, hg, h⟩ := ob h
      refine wz_ast C hW hg dX6_widen_45 (fun H locs hW => ?_)
      exact wz_vretE C hlk hr (Option.some.inj h) hW dX6_widen_46
theorem flX6_169 : FL RX6 169 0 7 := ⟨_, rfl, Nat.le_of_ble_eq_true rfl, tw 170 (by decide +kernel) rfl, rfl⟩
theorem flX6_172 : FL RX6 172 0 8 := ⟨_, rfl, Nat.le_of_ble_eq_true rfl, tw 172 (by decide +kernel) rfl, rfl⟩
theorem flX6_175 : FL RX6 175 0 9 := ⟨_, rfl, Nat.le_of_ble_eq_true rfl, tw 174 (by decide +kernel) rfl, rfl⟩
theorem lVX6_178 : LV RX6 178 yX6_widen cX6_widen 3 none 2 := ⟨tw 950 (by decide +kernel) rfl, tw 952 (by decide +kernel) rfl, tw 24 (by decide +kernel) rfl, tw 124 (by decide +kernel) rfl, tw 953 (by decide +kernel) rfl, ⟨by decide +kernel, by decide +kernel, by decide +kernel⟩⟩
theorem dX6_surest_0 : decode cX6_surest 0 = .ok (.aload_n 0, 1) := by decide +kernel
theorem dX6_surest_1 : decode cX6_surest 1 = .ok (.iload_n 1, 1) := by decide +kernel
theorem dX6_surest_2 : decode cX6_surest 2 = .ok (.invokevirtual 128, 3) := by decide +kernel
theorem dX6_surest_5 : decode cX6_surest 5 = .ok (.ifCond .eq 11, 3) := by decide +kernel
theorem dX6_surest_8 : decode cX6_surest 8 = .ok (.aload_n 0, 1) := by decide +kernel
theorem dX6_surest_9 : decode cX6_surest 9 = .ok (.iload_n 2, 1) := by decide +kernel
theorem dX6_surest_10 : decode cX6_surest 10 = .ok (.invokevirtual 128, 3) := by decide +kernel
theorem dX6_surest_13 : decode cX6_surest 13 = .ok (.ifCond .ne 5, 3) := by decide +kernel
theorem dX6_surest_16 : decode cX6_surest 16 = .ok (.iconst (-1), 1) := by decide +kernel
theorem dX6_surest_17 : decode cX6_surest 17 = .ok (.ireturn, 1) := by decide +kernel
theorem dX6_surest_18 : decode cX6_surest 18 = .ok (.iconst 0, 1) := by decide +kernel
theorem dX6_surest_19 : decode cX6_surest 19 = .ok (.istore_n 3, 1) := by decide +kernel
theorem dX6_surest_20 : decode cX6_surest 20 = .ok (.iload_n 3, 1) := by decide +kernel
theorem dX6_surest_21 : decode cX6_surest 21 = .ok (.aload_n 0, 1) := by decide +kernel
theorem dX6_surest_22 : decode cX6_surest 22 = .ok (.getfield 24, 3) := by decide +kernel
theorem dX6_surest_25 : decode cX6_surest 25 = .ok (.arraylength, 1) := by decide +kernel
theorem dX6_surest_26 : decode cX6_surest 26 = .ok (.if_icmp .ge 30, 3) := by decide +kernel
theorem dX6_surest_29 : decode cX6_surest 29 = .ok (.aload_n 0, 1) := by decide +kernel
theorem dX6_surest_30 : decode cX6_surest 30 = .ok (.getfield 24, 3) := by decide +kernel
theorem dX6_surest_33 : decode cX6_surest 33 = .ok (.iload_n 3, 1) := by decide +kernel
theorem dX6_surest_34 : decode cX6_surest 34 = .ok (.iload_n 3, 1) := by decide +kernel
theorem dX6_surest_35 : decode cX6_surest 35 = .ok (.iload_n 1, 1) := by decide +kernel
theorem dX6_surest_36 : decode cX6_surest 36 = .ok (.if_icmp .ne 12, 3) := by decide +kernel
theorem dX6_surest_39 : decode cX6_surest 39 = .ok (.aload_n 0, 1) := by decide +kernel
theorem dX6_surest_40 : decode cX6_surest 40 = .ok (.getfield 17, 3) := by decide +kernel
theorem dX6_surest_43 : decode cX6_surest 43 = .ok (.iload_n 3, 1) := by decide +kernel
theorem dX6_surest_44 : decode cX6_surest 44 = .ok (.iaload, 1) := by decide +kernel
theorem dX6_surest_45 : decode cX6_surest 45 = .ok (.goto 4, 3) := by decide +kernel
theorem dX6_surest_48 : decode cX6_surest 48 = .ok (.iconst 0, 1) := by decide +kernel
theorem dX6_surest_49 : decode cX6_surest 49 = .ok (.iastore, 1) := by decide +kernel
theorem dX6_surest_50 : decode cX6_surest 50 = .ok (.iinc 3 1, 3) := by decide +kernel
theorem dX6_surest_53 : decode cX6_surest 53 = .ok (.goto (-33), 3) := by decide +kernel
theorem dX6_surest_56 : decode cX6_surest 56 = .ok (.iconst 0, 1) := by decide +kernel
theorem dX6_surest_57 : decode cX6_surest 57 = .ok (.istore_n 3, 1) := by decide +kernel
theorem dX6_surest_58 : decode cX6_surest 58 = .ok (.iload_n 3, 1) := by decide +kernel
theorem dX6_surest_59 : decode cX6_surest 59 = .ok (.bipush 8, 2) := by decide +kernel
theorem dX6_surest_61 : decode cX6_surest 61 = .ok (.if_icmp .ge 78, 3) := by decide +kernel
theorem dX6_surest_64 : decode cX6_surest 64 = .ok (.iconst 0, 1) := by decide +kernel
theorem dX6_surest_65 : decode cX6_surest 65 = .ok (.istore 4, 2) := by decide +kernel
theorem dX6_surest_67 : decode cX6_surest 67 = .ok (.iload 4, 2) := by decide +kernel
theorem dX6_surest_69 : decode cX6_surest 69 = .ok (.aload_n 0, 1) := by decide +kernel
theorem dX6_surest_70 : decode cX6_surest 70 = .ok (.getfield 9, 3) := by decide +kernel
theorem dX6_surest_73 : decode cX6_surest 73 = .ok (.getfield 169, 3) := by decide +kernel
theorem dX6_surest_76 : decode cX6_surest 76 = .ok (.if_icmp .ge 57, 3) := by decide +kernel
theorem dX6_surest_79 : decode cX6_surest 79 = .ok (.aload_n 0, 1) := by decide +kernel
theorem dX6_surest_80 : decode cX6_surest 80 = .ok (.aload_n 0, 1) := by decide +kernel
theorem dX6_surest_81 : decode cX6_surest 81 = .ok (.getfield 9, 3) := by decide +kernel
theorem dX6_surest_84 : decode cX6_surest 84 = .ok (.getfield 172, 3) := by decide +kernel
theorem dX6_surest_87 : decode cX6_surest 87 = .ok (.iload 4, 2) := by decide +kernel
theorem dX6_surest_89 : decode cX6_surest 89 = .ok (.iaload, 1) := by decide +kernel
theorem dX6_surest_90 : decode cX6_surest 90 = .ok (.aload_n 0, 1) := by decide +kernel
theorem dX6_surest_91 : decode cX6_surest 91 = .ok (.getfield 9, 3) := by decide +kernel
theorem dX6_surest_94 : decode cX6_surest 94 = .ok (.getfield 175, 3) := by decide +kernel
theorem dX6_surest_97 : decode cX6_surest 97 = .ok (.iload 4, 2) := by decide +kernel
theorem dX6_surest_99 : decode cX6_surest 99 = .ok (.iaload, 1) := by decide +kernel
theorem dX6_surest_100 : decode cX6_surest 100 = .ok (.invokevirtual 178, 3) := by decide +kernel
theorem dX6_surest_103 : decode cX6_surest 103 = .ok (.aload_n 0, 1) := by decide +kernel
theorem dX6_surest_104 : decode cX6_surest 104 = .ok (.aload_n 0, 1) := by decide +kernel
theorem dX6_surest_105 : decode cX6_surest 105 = .ok (.getfield 9, 3) := by decide +kernel
theorem dX6_surest_108 : decode cX6_surest 108 = .ok (.getfield 175, 3) := by decide +kernel
theorem dX6_surest_111 : decode cX6_surest 111 = .ok (.iload 4, 2) := by decide +kernel
theorem dX6_surest_113 : decode cX6_surest 113 = .ok (.iaload, 1) := by decide +kernel
theorem dX6_surest_114 : decode cX6_surest 114 = .ok (.aload_n 0, 1) := by decide +kernel
theorem dX6_surest_115 : decode cX6_surest 115 = .ok (.getfield 9, 3) := by decide +kernel
theorem dX6_surest_118 : decode cX6_surest 118 = .ok (.getfield 172, 3) := by decide +kernel
theorem dX6_surest_121 : decode cX6_surest 121 = .ok (.iload 4, 2) := by decide +kernel
theorem dX6_surest_123 : decode cX6_surest 123 = .ok (.iaload, 1) := by decide +kernel
theorem dX6_surest_124 : decode cX6_surest 124 = .ok (.invokevirtual 178, 3) := by decide +kernel
theorem dX6_surest_127 : decode cX6_surest 127 = .ok (.iinc 4 1, 3) := by decide +kernel
theorem dX6_surest_130 : decode cX6_surest 130 = .ok (.goto (-63), 3) := by decide +kernel
theorem dX6_surest_133 : decode cX6_surest 133 = .ok (.iinc 3 1, 3) := by decide +kernel
theorem dX6_surest_136 : decode cX6_surest 136 = .ok (.goto (-78), 3) := by decide +kernel
theorem dX6_surest_139 : decode cX6_surest 139 = .ok (.aload_n 0, 1) := by decide +kernel
theorem dX6_surest_140 : decode cX6_surest 140 = .ok (.getfield 24, 3) := by decide +kernel
theorem dX6_surest_143 : decode cX6_surest 143 = .ok (.iload_n 2, 1) := by decide +kernel
theorem dX6_surest_144 : decode cX6_surest 144 = .ok (.iaload, 1) := by decide +kernel
theorem dX6_surest_145 : decode cX6_surest 145 = .ok (.ifCond .le 12, 3) := by decide +kernel
theorem dX6_surest_148 : decode cX6_surest 148 = .ok (.aload_n 0, 1) := by decide +kernel
theorem dX6_surest_149 : decode cX6_surest 149 = .ok (.getfield 24, 3) := by decide +kernel
theorem dX6_surest_152 : decode cX6_surest 152 = .ok (.iload_n 2, 1) := by decide +kernel
theorem dX6_surest_153 : decode cX6_surest 153 = .ok (.iaload, 1) := by decide +kernel
theorem dX6_surest_154 : decode cX6_surest 154 = .ok (.goto 4, 3) := by decide +kernel
theorem dX6_surest_157 : decode cX6_surest 157 = .ok (.iconst (-1), 1) := by decide +kernel
theorem dX6_surest_158 : decode cX6_surest 158 = .ok (.ireturn, 1) := by decide +kernel
abbrev rmX6_surest : Room := { frames := 3, cells := 0, slots := 0, locals := 64 }
def bX6_surest_67 (k58 : Nat → Int32 → Int32 → AH → Option (Int32 × AH)) (k67 : Nat → Int32 → Int32 → Int32 → AH → Option (Int32 × AH)) (a0 : Nat) (l2 : Int32) (l3 : Int32) (l4 : Int32) (z : AH) : Option (Int32 × AH) :=
  (gN 5 0 z a0).bind fun b70 =>
  (gI 0 7 z b70).bind fun x73 =>
  if x73 ≤ l4 then (
    nm (l3 + (1 : Int32)) fun v133 =>
    k58 a0 l2 v133 z
  ) else (
    (gN 5 0 z a0).bind fun b81 =>
    (gN 0 8 z b81).bind fun b84 =>
    (ixI 0 z b84 l4).bind fun x89 =>
    (gN 5 0 z a0).bind fun b91 =>
    (gN 0 9 z b91).bind fun b94 =>
    (ixI 0 z b94 l4).bind fun x99 =>
    (fX6_widen a0 x89 x99 z).bind fun z100 =>
    (gN 5 0 z100 a0).bind fun b105 =>
    (gN 0 9 z100 b105).bind fun b108 =>
    (ixI 0 z100 b108 l4).bind fun x113 =>
    (gN 5 0 z100 a0).bind fun b115 =>
    (gN 0 8 z100 b115).bind fun b118 =>
    (ixI 0 z100 b118 l4).bind fun x123 =>
    (fX6_widen a0 x113 x123 z100).bind fun z124 =>
    nm (l4 + (1 : Int32)) fun v127 =>
    k67 a0 l2 l3 v127 z124
  )
set_option maxHeartbeats 4000000 in
set_option maxRecDepth 100000 in
theorem kbX6_surest_67 {p : Program} {l : Launch} {e : Env} {s : State} {m : MethodId} {args : Array Value} {below : List Frame} {meth : Method} {c : Code} {G : GW} {r : Int32} {z' : AH} (C : Cx p m c cX6_surest 5 s args RX6 G) (hlk : meth.locks = false) (hr : meth.sig.returnType = (some .int)) (k58 : Nat → Int32 → Int32 → AH → Option (Int32 × AH)) (k67 : Nat → Int32 → Int32 → Int32 → AH → Option (Int32 × AH)) (hk58 : ∀ (a0 : Nat) (l2 : Int32) (l3 : Int32) (z : AH) (H : Heap) (locs : List Loc) (ls : Array Slot), k58 a0 l2 l3 z = some (r, z') → Wb G z s H locs → lv_has ls 5 [(0, .ref (gB G + a0)), (2, .int l2), (3, .int l3)] → W p l e rmX6_surest s m args below meth c H locs 0 0 (MQ below (Qi G r z') args s 0 0 (AA G)) (F0 m 58 ls [])) (hk67 : ∀ (a0 : Nat) (l2 : Int32) (l3 : Int32) (l4 : Int32) (z : AH) (H : Heap) (locs : List Loc) (ls : Array Slot), k67 a0 l2 l3 l4 z = some (r, z') → Wb G z s H locs → lv_has ls 5 [(0, .ref (gB G + a0)), (2, .int l2), (3, .int l3), (4, .int l4)] → W p l e rmX6_surest s m args below meth c H locs 0 0 (MQ below (Qi G r z') args s 0 0 (AA G)) (F0 m 67 ls [])) (a0 : Nat) (l2 : Int32) (l3 : Int32) (l4 : Int32) {z : AH} {H : Heap} {locs : List Loc} {ls : Array Slot} (h : bX6_surest_67 k58 k67 a0 l2 l3 l4 z = some (r, z')) (hW : Wb G z s H locs) (hl : lv_has ls 5 [(0, .ref (gB G + a0)), (2, .int l2), (3, .int l3), (4, .int l4)]) : W p l e rmX6_surest s m args below meth c H locs 0 0 (MQ below (Qi G r z') args s 0 0 (AA G)) (F0 m 67 ls []) := by
  have hx := C.1
  have hb := C.2.1
  unfold bX6_surest_67 at h
  refine lv_iload hx hb dX6_surest_67 (lv_at hl 3 rfl) ?_
  refine lv_aload_n hx hb dX6_surest_69 rfl (lv_at hl 0 rfl) ?_
  obtain ⟨b70, hg, h⟩ := ob h
  refine wz_gN C hW flX6_9 hg dX6_surest_70 ?_
  obtain ⟨x73, hg, h⟩ := ob h
  refine wz_gI C hW flX6_169 hg dX6_surest_73 ?_
  refine lv_icmp_ge (tgt := 133) hx hb dX6_surest_76 (by decide) (fun c76 => ?_) (fun c76 => ?_)
  · have h := ite_t c76 h
    obtain ⟨v133, ev133⟩ : ∃ y : Int32, y = (l3 + (1 : Int32)) := ⟨_, rfl⟩
    have h := nm_to h ev133
    refine lv_iinc (v := v133) (lv' := [(3, .int v133), (0, .ref (gB G + a0)), (2, .int l2), (4, .int l4)]) hx hb dX6_surest_133 hl (k := 2) rfl (by rw [ev133]; rfl) (by decide) rfl (fun ls hl => ?_)
    refine lv_goto (tgt := 58) hx hb dX6_surest_136 (by decide) ?_
    exact hk58 a0 l2 v133 z _ _ _ h hW (lv_sub hl [1, 2, 0] rfl)
  · have h := ite_f c76 h
    refine lv_aload_n hx hb dX6_surest_79 rfl (lv_at hl 0 rfl) ?_
    refine lv_aload_n hx hb dX6_surest_80 rfl (lv_at hl 0 rfl) ?_
    obtain ⟨b81, hg, h⟩ := ob h
    refine wz_gN C hW flX6_9 hg dX6_surest_81 ?_
    obtain ⟨b84, hg, h⟩ := ob h
    refine wz_gN C hW flX6_172 hg dX6_surest_84 ?_
    refine lv_iload hx hb dX6_surest_87 (lv_at hl 3 rfl) ?_
    obtain ⟨x89, hg, h⟩ := ob h
    refine wz_ald C hW hg dX6_surest_89 ?_
    refine lv_aload_n hx hb dX6_surest_90 rfl (lv_at hl 0 rfl) ?_
    obtain ⟨b91, hg, h⟩ := ob h
    refine wz_gN C hW flX6_9 hg dX6_surest_91 ?_
    obtain ⟨b94, hg, h⟩ := ob h
    refine wz_gN C hW flX6_175 hg dX6_surest_94 ?_
    refine lv_iload hx hb dX6_surest_97 (lv_at hl 3 rfl) ?_
    obtain ⟨x99, hg, h⟩ := ob h
    refine wz_ald C hW hg dX6_surest_99 ?_
    obtain ⟨z100, hq, h⟩ := ob h
    refine wz_rV (c' := 0) (s' := 0) hW (wz_runV (rest := []) C hW lVX6_178 (ck hq).1 rfl (ctX6_widen l G a0 x89 x99 z hq) ⟨⟨rfl, rfl⟩, Nat.le_of_ble_eq_true rfl, Nat.le_of_ble_eq_true rfl⟩ rfl hl.1 rfl (Nat.le_of_ble_eq_true rfl) dX6_surest_100 ⟨Nat.le_of_ble_eq_true rfl, Nat.le_of_ble_eq_true rfl⟩) rfl rfl (fun H locs hW => ?_)
    refine lv_aload_n hx hb dX6_surest_103 rfl (lv_at hl 0 rfl) ?_
    refine lv_aload_n hx hb dX6_surest_104 rfl (lv_at hl 0 rfl) ?_
    obtain ⟨b105, hg, h⟩ := ob h
    refine wz_gN C hW flX6_9 hg dX6_surest_105 ?_
    obtain ⟨b108, hg, h⟩ := ob h
    refine wz_gN C hW flX6_175 hg dX6_surest_108 ?_
    refine lv_iload hx hb dX6_surest_111 (lv_at hl 3 rfl) ?_
    obtain ⟨x113, hg, h⟩ := ob h
    refine wz_ald C hW hg dX6_surest_113 ?_
    refine lv_aload_n hx hb dX6_surest_114 rfl (lv_at hl 0 rfl) ?_
    obtain ⟨b115, hg, h⟩ := ob h
    refine wz_gN C hW flX6_9 hg dX6_surest_115 ?_
    obtain ⟨b118, hg, h⟩ := ob h
    refine wz_gN C hW flX6_172 hg dX6_surest_118 ?_
    refine lv_iload hx hb dX6_surest_121 (lv_at hl 3 rfl) ?_
    obtain ⟨x123, hg, h⟩ := ob h
    refine wz_ald C hW hg dX6_surest_123 ?_
    obtain ⟨z124, hq, h⟩ := ob h
    refine wz_rV (c' := 0) (s' := 0) hW (wz_runV (rest := []) C hW lVX6_178 (ck hq).1 rfl (ctX6_widen l G a0 x113 x123 z100 hq) ⟨⟨rfl, rfl⟩, Nat.le_of_ble_eq_true rfl, Nat.le_of_ble_eq_true rfl⟩ rfl hl.1 rfl (Nat.le_of_ble_eq_true rfl) dX6_surest_124 ⟨Nat.le_of_ble_eq_true rfl, Nat.le_of_ble_eq_true rfl⟩) rfl rfl (fun H locs hW => ?_)
    obtain ⟨v127, ev127⟩ : ∃ y : Int32, y = (l4 + (1 : Int32)) := ⟨_, rfl⟩
    have h := nm_to h ev127
    refine lv_iinc (v := v127) (lv' := [(4, .int v127), (0, .ref (gB G + a0)), (2, .int l2), (3, .int l3)]) hx hb dX6_surest_127 hl (k := 3) rfl (by rw [ev127]; rfl) (by decide) rfl (fun ls hl => ?_)
    refine lv_goto (tgt := 67) hx hb dX6_surest_130 (by decide) ?_
    exact hk67 a0 l2 l3 v127 z124 _ _ _ h hW (lv_sub hl [1, 2, 3, 0] rfl)
def fX6_surest_67 (k58 : Nat → Int32 → Int32 → AH → Option (Int32 × AH)) : Nat → Nat → Int32 → Int32 → Int32 → AH → Option (Int32 × AH)
  | 0, _, _, _, _, _ => none
  | n + 1, a0, l2, l3, l4, z => bX6_surest_67 k58 (fX6_surest_67 k58 n) a0 l2 l3 l4 z
theorem klX6_surest_67 {p : Program} {l : Launch} {e : Env} {s : State} {m : MethodId} {args : Array Value} {below : List Frame} {meth : Method} {c : Code} {G : GW} {r : Int32} {z' : AH} (C : Cx p m c cX6_surest 5 s args RX6 G) (hlk : meth.locks = false) (hr : meth.sig.returnType = (some .int)) (k58 : Nat → Int32 → Int32 → AH → Option (Int32 × AH)) (hk58 : ∀ (a0 : Nat) (l2 : Int32) (l3 : Int32) (z : AH) (H : Heap) (locs : List Loc) (ls : Array Slot), k58 a0 l2 l3 z = some (r, z') → Wb G z s H locs → lv_has ls 5 [(0, .ref (gB G + a0)), (2, .int l2), (3, .int l3)] → W p l e rmX6_surest s m args below meth c H locs 0 0 (MQ below (Qi G r z') args s 0 0 (AA G)) (F0 m 58 ls [])) : ∀ (n : Nat) (a0 : Nat) (l2 : Int32) (l3 : Int32) (l4 : Int32) (z : AH) (H : Heap) (locs : List Loc) (ls : Array Slot), fX6_surest_67 k58 n a0 l2 l3 l4 z = some (r, z') → Wb G z s H locs → lv_has ls 5 [(0, .ref (gB G + a0)), (2, .int l2), (3, .int l3), (4, .int l4)] → W p l e rmX6_surest s m args below meth c H locs 0 0 (MQ below (Qi G r z') args s 0 0 (AA G)) (F0 m 67 ls []) := by
  intro n
  induction n with
  | zero => intro a0 l2 l3 l4 z H locs ls h; have h : (none : Option (Int32 × AH)) = some (r, z') := h; cases h
  | succ n ih => intro a0 l2 l3 l4 z H locs ls h hW hl; exact kbX6_surest_67 C hlk hr k58 (fX6_surest_67 k58 n) hk58 (fun a0 l2 l3 l4 z H locs ls h hW hl => ih a0 l2 l3 l4 z H locs ls h hW hl) a0 l2 l3 l4 h hW hl
def bX6_surest_58 (k58 : Nat → Int32 → Int32 → AH → Option (Int32 × AH)) (a0 : Nat) (l2 : Int32) (l3 : Int32) (z : AH) : Option (Int32 × AH) :=
  if (8 : Int32) ≤ l3 then (
    (gN 5 4 z a0).bind fun b140 =>
    (ixI 0 z b140 l2).bind fun x144 =>
    if x144 ≤ (0 : Int32) then (
      some ((-1 : Int32), z)
    ) else (
      (gN 5 4 z a0).bind fun b149 =>
      (ixI 0 z b149 l2).bind fun x153 =>
      some (x153, z)
    )
  ) else (
    fX6_surest_67 k58 FU a0 l2 l3 (0 : Int32) z
  )
set_option maxHeartbeats 4000000 in
set_option maxRecDepth 100000 in
theorem kbX6_surest_58 {p : Program} {l : Launch} {e : Env} {s : State} {m : MethodId} {args : Array Value} {below : List Frame} {meth : Method} {c : Code} {G : GW} {r : Int32} {z' : AH} (C : Cx p m c cX6_surest 5 s args RX6 G) (hlk : meth.locks = false) (hr : meth.sig.returnType = (some .int)) (k58 : Nat → Int32 → Int32 → AH → Option (Int32 × AH)) (hk58 : ∀ (a0 : Nat) (l2 : Int32) (l3 : Int32) (z : AH) (H : Heap) (locs : List Loc) (ls : Array Slot), k58 a0 l2 l3 z = some (r, z') → Wb G z s H locs → lv_has ls 5 [(0, .ref (gB G + a0)), (2, .int l2), (3, .int l3)] → W p l e rmX6_surest s m args below meth c H locs 0 0 (MQ below (Qi G r z') args s 0 0 (AA G)) (F0 m 58 ls [])) (a0 : Nat) (l2 : Int32) (l3 : Int32) {z : AH} {H : Heap} {locs : List Loc} {ls : Array Slot} (h : bX6_surest_58 k58 a0 l2 l3 z = some (r, z')) (hW : Wb G z s H locs) (hl : lv_has ls 5 [(0, .ref (gB G + a0)), (2, .int l2), (3, .int l3)]) : W p l e rmX6_surest s m args below meth c H locs 0 0 (MQ below (Qi G r z') args s 0 0 (AA G)) (F0 m 58 ls []) := by
  have hx := C.1
  have hb := C.2.1
  unfold bX6_surest_58 at h
  refine lv_iload_n hx hb dX6_surest_58 rfl (lv_at hl 2 rfl) ?_
  refine lv_bipush (v := 8) hx hb dX6_surest_59 (by decide) ?_
  refine lv_icmp_ge (tgt := 139) hx hb dX6_surest_61 (by decide) (fun c61 => ?_) (fun c61 => ?_)
  · have h := ite_t c61 h
    refine lv_aload_n hx hb dX6_surest_139 rfl (lv_at hl 0 rfl) ?_
    obtain ⟨b140, hg, h⟩ := ob h
    refine wz_gN C hW flX6_24 hg dX6_surest_140 ?_
    refine lv_iload_n hx hb dX6_surest_143 rfl (lv_at hl 1 rfl) ?_
    obtain ⟨x144, hg, h⟩ := ob h
    refine wz_ald C hW hg dX6_surest_144 ?_
    refine lv_if_le (tgt := 157) hx hb dX6_surest_145 (by decide) (fun c145 => ?_) (fun c145 => ?_)
    · have h := ite_t c145 h
      refine lv_iconst (v := -1) hx hb dX6_surest_157 (by decide) ?_
      exact wz_iretE C hlk hr (so2 h).1 (so2 h).2 hW dX6_surest_158
    · have h := ite_f c145 h
      refine lv_aload_n hx hb dX6_surest_148 rfl (lv_at hl 0 rfl) ?_
      obtain ⟨b149, hg, h⟩ := ob h
      refine wz_gN C hW flX6_24 hg dX6_surest_149 ?_
      refine lv_iload_n hx hb dX6_surest_152 rfl (lv_at hl 1 rfl) ?_
      obtain ⟨x153, hg, h⟩ := ob h
      refine wz_ald C hW hg dX6_surest_153 ?_
      refine lv_goto (tgt := 158) hx hb dX6_surest_154 (by decide) ?_
      exact wz_iretE C hlk hr (so2 h).1 (so2 h).2 hW dX6_surest_158
  · have h := ite_f c61 h
    refine lv_iconst (v := 0) hx hb dX6_surest_64 (by decide) ?_
    refine lv_istore (lv' := [(4, .int (0 : Int32)), (0, .ref (gB G + a0)), (2, .int l2), (3, .int l3)]) hx hb dX6_surest_65 hl (by decide) rfl (fun ls hl => ?_)
    exact klX6_surest_67 C hlk hr k58 hk58 FU a0 l2 l3 (0 : Int32) z _ _ _ h hW (lv_sub hl [1, 2, 3, 0] rfl)
def fX6_surest_58 : Nat → Nat → Int32 → Int32 → AH → Option (Int32 × AH)
  | 0, _, _, _, _ => none
  | n + 1, a0, l2, l3, z => bX6_surest_58 (fX6_surest_58 n) a0 l2 l3 z
theorem klX6_surest_58 {p : Program} {l : Launch} {e : Env} {s : State} {m : MethodId} {args : Array Value} {below : List Frame} {meth : Method} {c : Code} {G : GW} {r : Int32} {z' : AH} (C : Cx p m c cX6_surest 5 s args RX6 G) (hlk : meth.locks = false) (hr : meth.sig.returnType = (some .int)) : ∀ (n : Nat) (a0 : Nat) (l2 : Int32) (l3 : Int32) (z : AH) (H : Heap) (locs : List Loc) (ls : Array Slot), fX6_surest_58 n a0 l2 l3 z = some (r, z') → Wb G z s H locs → lv_has ls 5 [(0, .ref (gB G + a0)), (2, .int l2), (3, .int l3)] → W p l e rmX6_surest s m args below meth c H locs 0 0 (MQ below (Qi G r z') args s 0 0 (AA G)) (F0 m 58 ls []) := by
  intro n
  induction n with
  | zero => intro a0 l2 l3 z H locs ls h; have h : (none : Option (Int32 × AH)) = some (r, z') := h; cases h
  | succ n ih => intro a0 l2 l3 z H locs ls h hW hl; exact kbX6_surest_58 C hlk hr (fX6_surest_58 n) (fun a0 l2 l3 z H locs ls h hW hl => ih a0 l2 l3 z H locs ls h hW hl) a0 l2 l3 h hW hl
def bX6_surest_20 (k20 : Nat → Int32 → Int32 → Int32 → AH → Option (Int32 × AH)) (a0 : Nat) (l1 : Int32) (l2 : Int32) (l3 : Int32) (z : AH) : Option (Int32 × AH) :=
  (gN 5 4 z a0).bind fun b22 =>
  (lnI 0 z b22).bind fun x25 =>
  if x25 ≤ l3 then (
    fX6_surest_58 FU a0 l2 (0 : Int32) z
  ) else (
    (gN 5 4 z a0).bind fun b30 =>
    if l3 = l1 then (
      (gN 5 1 z a0).bind fun b40 =>
      (ixI 0 z b40 l3).bind fun x44 =>
      (stI 0 z b30 l3 x44).bind fun z49 =>
      nm (l3 + (1 : Int32)) fun v50 =>
      k20 a0 l1 l2 v50 z49
    ) else (
      (stI 0 z b30 l3 (0 : Int32)).bind fun z49 =>
      nm (l3 + (1 : Int32)) fun v50 =>
      k20 a0 l1 l2 v50 z49
    )
  )
set_option maxHeartbeats 4000000 in
set_option maxRecDepth 100000 in
theorem kbX6_surest_20 {p : Program} {l : Launch} {e : Env} {s : State} {m : MethodId} {args : Array Value} {below : List Frame} {meth : Method} {c : Code} {G : GW} {r : Int32} {z' : AH} (C : Cx p m c cX6_surest 5 s args RX6 G) (hlk : meth.locks = false) (hr : meth.sig.returnType = (some .int)) (k20 : Nat → Int32 → Int32 → Int32 → AH → Option (Int32 × AH)) (hk20 : ∀ (a0 : Nat) (l1 : Int32) (l2 : Int32) (l3 : Int32) (z : AH) (H : Heap) (locs : List Loc) (ls : Array Slot), k20 a0 l1 l2 l3 z = some (r, z') → Wb G z s H locs → lv_has ls 5 [(0, .ref (gB G + a0)), (1, .int l1), (2, .int l2), (3, .int l3)] → W p l e rmX6_surest s m args below meth c H locs 0 0 (MQ below (Qi G r z') args s 0 0 (AA G)) (F0 m 20 ls [])) (a0 : Nat) (l1 : Int32) (l2 : Int32) (l3 : Int32) {z : AH} {H : Heap} {locs : List Loc} {ls : Array Slot} (h : bX6_surest_20 k20 a0 l1 l2 l3 z = some (r, z')) (hW : Wb G z s H locs) (hl : lv_has ls 5 [(0, .ref (gB G + a0)), (1, .int l1), (2, .int l2), (3, .int l3)]) : W p l e rmX6_surest s m args below meth c H locs 0 0 (MQ below (Qi G r z') args s 0 0 (AA G)) (F0 m 20 ls []) := by
  have hx := C.1
  have hb := C.2.1
  unfold bX6_surest_20 at h
  refine lv_iload_n hx hb dX6_surest_20 rfl (lv_at hl 3 rfl) ?_
  refine lv_aload_n hx hb dX6_surest_21 rfl (lv_at hl 0 rfl) ?_
  obtain ⟨b22, hg, h⟩ := ob h
  refine wz_gN C hW flX6_24 hg dX6_surest_22 ?_
  obtain ⟨x25, hg, h⟩ := ob h
  refine wz_len C hW hg dX6_surest_25 ?_
  refine lv_icmp_ge (tgt := 56) hx hb dX6_surest_26 (by decide) (fun c26 => ?_) (fun c26 => ?_)
  · have h := ite_t c26 h
    refine lv_iconst (v := 0) hx hb dX6_surest_56 (by decide) ?_
    refine lv_istore_n (lv' := [(3, .int (0 : Int32)), (0, .ref (gB G + a0)), (1, .int l1), (2, .int l2)]) hx hb dX6_surest_57 rfl hl (by decide) rfl (fun ls hl => ?_)
    exact klX6_surest_58 C hlk hr FU a0 l2 (0 : Int32) z _ _ _ h hW (lv_sub hl [1, 3, 0] rfl)
  · have h := ite_f c26 h
    refine lv_aload_n hx hb dX6_surest_29 rfl (lv_at hl 0 rfl) ?_
    obtain ⟨b30, hg, h⟩ := ob h
    refine wz_gN C hW flX6_24 hg dX6_surest_30 ?_
    refine lv_iload_n hx hb dX6_surest_33 rfl (lv_at hl 3 rfl) ?_
    refine lv_iload_n hx hb dX6_surest_34 rfl (lv_at hl 3 rfl) ?_
    refine lv_iload_n hx hb dX6_surest_35 rfl (lv_at hl 1 rfl) ?_
    refine lv_icmp_ne (tgt := 48) hx hb dX6_surest_36 (by decide) (fun c36 => ?_) (fun c36 => ?_)
    · have h := ite_f c36 h
      refine lv_iconst (v := 0) hx hb dX6_surest_48 (by decide) ?_
      obtain ⟨z49, hg, h⟩ := ob h
      refine wz_ast C hW hg dX6_surest_49 (fun H locs hW => ?_)
      obtain ⟨v50, ev50⟩ : ∃ y : Int32, y = (l3 + (1 : Int32)) := ⟨_, rfl⟩
      have h := nm_to h ev50
      refine lv_iinc (v := v50) (lv' := [(3, .int v50), (0, .ref (gB G + a0)), (1, .int l1), (2, .int l2)]) hx hb dX6_surest_50 hl (k := 3) rfl (by rw [ev50]; rfl) (by decide) rfl (fun ls hl => ?_)
      refine lv_goto (tgt := 20) hx hb dX6_surest_53 (by decide) ?_
      exact hk20 a0 l1 l2 v50 z49 _ _ _ h hW (lv_sub hl [1, 2, 3, 0] rfl)
    · have h := ite_t c36 h
      refine lv_aload_n hx hb dX6_surest_39 rfl (lv_at hl 0 rfl) ?_
      obtain ⟨b40, hg, h⟩ := ob h
      refine wz_gN C hW flX6_17 hg dX6_surest_40 ?_
      refine lv_iload_n hx hb dX6_surest_43 rfl (lv_at hl 3 rfl) ?_
      obtain ⟨x44, hg, h⟩ := ob h
      refine wz_ald C hW hg dX6_surest_44 ?_
      refine lv_goto (tgt := 49) hx hb dX6_surest_45 (by decide) ?_
      obtain ⟨z49, hg, h⟩ := ob h
      refine wz_ast C hW hg dX6_surest_49 (fun H locs hW => ?_)
      obtain ⟨v50, ev50⟩ : ∃ y : Int32, y = (l3 + (1 : Int32)) := ⟨_, rfl⟩
      have h := nm_to h ev50
      refine lv_iinc (v := v50) (lv' := [(3, .int v50), (0, .ref (gB G + a0)), (1, .int l1), (2, .int l2)]) hx hb dX6_surest_50 hl (k := 3) rfl (by rw [ev50]; rfl) (by decide) rfl (fun ls hl => ?_)
      refine lv_goto (tgt := 20) hx hb dX6_surest_53 (by decide) ?_
      exact hk20 a0 l1 l2 v50 z49 _ _ _ h hW (lv_sub hl [1, 2, 3, 0] rfl)
def fX6_surest_20 : Nat → Nat → Int32 → Int32 → Int32 → AH → Option (Int32 × AH)
  | 0, _, _, _, _, _ => none
  | n + 1, a0, l1, l2, l3, z => bX6_surest_20 (fX6_surest_20 n) a0 l1 l2 l3 z
theorem klX6_surest_20 {p : Program} {l : Launch} {e : Env} {s : State} {m : MethodId} {args : Array Value} {below : List Frame} {meth : Method} {c : Code} {G : GW} {r : Int32} {z' : AH} (C : Cx p m c cX6_surest 5 s args RX6 G) (hlk : meth.locks = false) (hr : meth.sig.returnType = (some .int)) : ∀ (n : Nat) (a0 : Nat) (l1 : Int32) (l2 : Int32) (l3 : Int32) (z : AH) (H : Heap) (locs : List Loc) (ls : Array Slot), fX6_surest_20 n a0 l1 l2 l3 z = some (r, z') → Wb G z s H locs → lv_has ls 5 [(0, .ref (gB G + a0)), (1, .int l1), (2, .int l2), (3, .int l3)] → W p l e rmX6_surest s m args below meth c H locs 0 0 (MQ below (Qi G r z') args s 0 0 (AA G)) (F0 m 20 ls []) := by
  intro n
  induction n with
  | zero => intro a0 l1 l2 l3 z H locs ls h; have h : (none : Option (Int32 × AH)) = some (r, z') := h; cases h
  | succ n ih => intro a0 l1 l2 l3 z H locs ls h hW hl; exact kbX6_surest_20 C hlk hr (fX6_surest_20 n) (fun a0 l1 l2 l3 z H locs ls h hW hl => ih a0 l1 l2 l3 z H locs ls h hW hl) a0 l1 l2 l3 h hW hl
def fX6_surest (a0 : Nat) (l1 : Int32) (l2 : Int32) (z : AH) : Option (Int32 × AH) :=
  if isO 5 z a0 = true then
    (fX6_isThere a0 l1 z).bind fun x2 =>
    if x2 = (0 : Int32) then (
      some ((-1 : Int32), z)
    ) else (
      (fX6_isThere a0 l2 z).bind fun x10 =>
      if x10 = (0 : Int32) then (
        some ((-1 : Int32), z)
      ) else (
        fX6_surest_20 FU a0 l1 l2 (0 : Int32) z
      )
    )
  else none
set_option maxHeartbeats 4000000 in
set_option maxRecDepth 100000 in
theorem ctX6_surest (l : Launch) (G : GW) (a0 : Nat) (l1 : Int32) (l2 : Int32) (z : AH) {r : Int32} {z' : AH} (h : fX6_surest a0 l1 l2 z = some (r, z')) : Met l yX6_surest (wy yX6_surest cX6_surest 5 (some .int)) rmX6_surest (Pz G [.ref (gB G + a0), .int l1, .int l2] z) (Qi G r z') 0 0 (AA G) := by
  refine wz_ent (own := RX6) (by decide +kernel) rfl (fun p e s m below meth c ls C hlk hr hin hW hl => ?_) (Nat.le_of_ble_eq_true rfl)
  have hl : lv_has ls 5 [(0, .ref (gB G + a0)), (1, .int l1), (2, .int l2)] := hl
  have hx := C.1
  have hb := C.2.1
  unfold fX6_surest at h
  obtain ⟨-, h⟩ := ck h
  refine lv_aload_n hx hb dX6_surest_0 rfl (lv_at hl 0 rfl) ?_
  refine lv_iload_n hx hb dX6_surest_1 rfl (lv_at hl 1 rfl) ?_
  obtain ⟨x2, hq, h⟩ := ob h
  refine wz_rI (c' := 0) (s' := 0) hW (wz_runV (rest := []) C hW lVX6_128 (ck hq).1 rfl (ctX6_isThere l G a0 l1 z hq) ⟨⟨rfl, rfl⟩, Nat.le_of_ble_eq_true rfl, Nat.le_of_ble_eq_true rfl⟩ rfl hl.1 rfl (Nat.le_of_ble_eq_true rfl) dX6_surest_2 ⟨Nat.le_of_ble_eq_true rfl, Nat.le_of_ble_eq_true rfl⟩) rfl rfl (fun H locs hW => ?_)
  refine lv_if_eq (tgt := 16) hx hb dX6_surest_5 (by decide) (fun c5 => ?_) (fun c5 => ?_)
  · have h := ite_t c5 h
    refine lv_iconst (v := -1) hx hb dX6_surest_16 (by decide) ?_
    exact wz_iretE C hlk hr (so2 h).1 (so2 h).2 hW dX6_surest_17
  · have h := ite_f c5 h
    refine lv_aload_n hx hb dX6_surest_8 rfl (lv_at hl 0 rfl) ?_
    refine lv_iload_n hx hb dX6_surest_9 rfl (lv_at hl 2 rfl) ?_
    obtain ⟨x10, hq, h⟩ := ob h
    refine wz_rI (c' := 0) (s' := 0) hW (wz_runV (rest := []) C hW lVX6_128 (ck hq).1 rfl (ctX6_isThere l G a0 l2 z hq) ⟨⟨rfl, rfl⟩, Nat.le_of_ble_eq_true rfl, Nat.le_of_ble_eq_true rfl⟩ rfl hl.1 rfl (Nat.le_of_ble_eq_true rfl) dX6_surest_10 ⟨Nat.le_of_ble_eq_true rfl, Nat.le_of_ble_eq_true rfl⟩) rfl rfl (fun H locs hW => ?_)
    refine lv_if_ne (tgt := 18) hx hb dX6_surest_13 (by decide) (fun c13 => ?_) (fun c13 => ?_)
    · have h := ite_f c13 h
      refine lv_iconst (v := 0) hx hb dX6_surest_18 (by decide) ?_
      refine lv_istore_n (lv' := [(3, .int (0 : Int32)), (0, .ref (gB G + a0)), (1, .int l1), (2, .int l2)]) hx hb dX6_surest_19 rfl hl (by decide) rfl (fun ls hl => ?_)
      exact klX6_surest_20 C hlk hr FU a0 l1 l2 (0 : Int32) z _ _ _ h hW (lv_sub hl [1, 2, 3, 0] rfl)
    · have h := ite_t c13 h
      refine lv_iconst (v := -1) hx hb dX6_surest_16 (by decide) ?_
      exact wz_iretE C hlk hr (so2 h).1 (so2 h).2 hW dX6_surest_17
