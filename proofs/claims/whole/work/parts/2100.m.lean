abbrev rmX9_pick_T2 : Room := { frames := 0, cells := 0, slots := 0, locals := 0 }
def fX9_pick_T2 (l1 : Int32) (l2 : Int32) : Option (Int32) :=
  if l2 < (0 : Int32) then (
    some (-2 : Int32)
  ) else (
    if l1 ≤ l2 then (
      some (-2 : Int32)
    ) else (
      if (Int32.ofNat (sLen 2)) ≤ l2 then (
        some (-2 : Int32)
      ) else (
        (sIx 2 l2).bind fun x17 =>
        some x17
      )
    )
  )
set_option maxHeartbeats 4000000 in
set_option maxRecDepth 100000 in
theorem ctX9_pick_T2 (l : Launch) (G : GW) (l1 : Int32) (l2 : Int32) (z : AH) {r : Int32} (h : fX9_pick_T2 l1 l2 = some r) : Met l yX9_pick (wy yX9_pick cX9_pick 3 (some .int)) rmX9_pick_T2 (Pz G [.ref (G.2.2.2.2.1 2), .int l1, .int l2] z) (Qi G r z) 0 0 (AA G) := by
  refine wz_ent (own := RX9) (by decide +kernel) rfl (fun p e s m below meth c ls C hlk hr hin hW hl => ?_) (Nat.le_of_ble_eq_true rfl)
  have hl : lv_has ls 3 [(0, .ref (G.2.2.2.2.1 2)), (1, .int l1), (2, .int l2)] := hl
  have hx := C.1
  have hb := C.2.1
  unfold fX9_pick_T2 at h
  refine lv_iload_n hx hb dX9_pick_0 rfl (lv_at hl 2 rfl) ?_
  refine lv_if_lt (tgt := 21) hx hb dX9_pick_1 (by decide) (fun c1 => ?_) (fun c1 => ?_)
  · have h := ite_t c1 h
    refine lv_bipush (v := -2) hx hb dX9_pick_21 (by decide) ?_
    exact wz_iretE C hlk hr (Option.some.inj h) rfl hW dX9_pick_23
  · have h := ite_f c1 h
    refine lv_iload_n hx hb dX9_pick_4 rfl (lv_at hl 2 rfl) ?_
    refine lv_iload_n hx hb dX9_pick_5 rfl (lv_at hl 1 rfl) ?_
    refine lv_icmp_ge (tgt := 21) hx hb dX9_pick_6 (by decide) (fun c6 => ?_) (fun c6 => ?_)
    · have h := ite_t c6 h
      refine lv_bipush (v := -2) hx hb dX9_pick_21 (by decide) ?_
      exact wz_iretE C hlk hr (Option.some.inj h) rfl hW dX9_pick_23
    · have h := ite_f c6 h
      refine lv_iload_n hx hb dX9_pick_9 rfl (lv_at hl 2 rfl) ?_
      refine lv_aload_n hx hb dX9_pick_10 rfl (lv_at hl 0 rfl) ?_
      refine wz_slen (i := 2) (by decide) C hW dX9_pick_11 ?_
      refine lv_icmp_ge (tgt := 21) hx hb dX9_pick_12 (by decide) (fun c12 => ?_) (fun c12 => ?_)
      · have h := ite_t c12 h
        refine lv_bipush (v := -2) hx hb dX9_pick_21 (by decide) ?_
        exact wz_iretE C hlk hr (Option.some.inj h) rfl hW dX9_pick_23
      · have h := ite_f c12 h
        refine lv_aload_n hx hb dX9_pick_15 rfl (lv_at hl 0 rfl) ?_
        refine lv_iload_n hx hb dX9_pick_16 rfl (lv_at hl 2 rfl) ?_
        obtain ⟨x17, hg, h⟩ := ob h
        refine wz_sld (i := 2) (by decide) C hW hg dX9_pick_17 ?_
        refine lv_goto (tgt := 23) hx hb dX9_pick_18 (by decide) ?_
        exact wz_iretE C hlk hr (Option.some.inj h) rfl hW dX9_pick_23
abbrev rmX9_pick_T3 : Room := { frames := 0, cells := 0, slots := 0, locals := 0 }
def fX9_pick_T3 (l1 : Int32) (l2 : Int32) : Option (Int32) :=
  if l2 < (0 : Int32) then (
    some (-2 : Int32)
  ) else (
    if l1 ≤ l2 then (
      some (-2 : Int32)
    ) else (
      if (Int32.ofNat (sLen 3)) ≤ l2 then (
        some (-2 : Int32)
      ) else (
        (sIx 3 l2).bind fun x17 =>
        some x17
      )
    )
  )
set_option maxHeartbeats 4000000 in
set_option maxRecDepth 100000 in
theorem ctX9_pick_T3 (l : Launch) (G : GW) (l1 : Int32) (l2 : Int32) (z : AH) {r : Int32} (h : fX9_pick_T3 l1 l2 = some r) : Met l yX9_pick (wy yX9_pick cX9_pick 3 (some .int)) rmX9_pick_T3 (Pz G [.ref (G.2.2.2.2.1 3), .int l1, .int l2] z) (Qi G r z) 0 0 (AA G) := by
  refine wz_ent (own := RX9) (by decide +kernel) rfl (fun p e s m below meth c ls C hlk hr hin hW hl => ?_) (Nat.le_of_ble_eq_true rfl)
  have hl : lv_has ls 3 [(0, .ref (G.2.2.2.2.1 3)), (1, .int l1), (2, .int l2)] := hl
  have hx := C.1
  have hb := C.2.1
  unfold fX9_pick_T3 at h
  refine lv_iload_n hx hb dX9_pick_0 rfl (lv_at hl 2 rfl) ?_
  refine lv_if_lt (tgt := 21) hx hb dX9_pick_1 (by decide) (fun c1 => ?_) (fun c1 => ?_)
  · have h := ite_t c1 h
    refine lv_bipush (v := -2) hx hb dX9_pick_21 (by decide) ?_
    exact wz_iretE C hlk hr (Option.some.inj h) rfl hW dX9_pick_23
  · have h := ite_f c1 h
    refine lv_iload_n hx hb dX9_pick_4 rfl (lv_at hl 2 rfl) ?_
    refine lv_iload_n hx hb dX9_pick_5 rfl (lv_at hl 1 rfl) ?_
    refine lv_icmp_ge (tgt := 21) hx hb dX9_pick_6 (by decide) (fun c6 => ?_) (fun c6 => ?_)
    · have h := ite_t c6 h
      refine lv_bipush (v := -2) hx hb dX9_pick_21 (by decide) ?_
      exact wz_iretE C hlk hr (Option.some.inj h) rfl hW dX9_pick_23
    · have h := ite_f c6 h
      refine lv_iload_n hx hb dX9_pick_9 rfl (lv_at hl 2 rfl) ?_
      refine lv_aload_n hx hb dX9_pick_10 rfl (lv_at hl 0 rfl) ?_
      refine wz_slen (i := 3) (by decide) C hW dX9_pick_11 ?_
      refine lv_icmp_ge (tgt := 21) hx hb dX9_pick_12 (by decide) (fun c12 => ?_) (fun c12 => ?_)
      · have h := ite_t c12 h
        refine lv_bipush (v := -2) hx hb dX9_pick_21 (by decide) ?_
        exact wz_iretE C hlk hr (Option.some.inj h) rfl hW dX9_pick_23
      · have h := ite_f c12 h
        refine lv_aload_n hx hb dX9_pick_15 rfl (lv_at hl 0 rfl) ?_
        refine lv_iload_n hx hb dX9_pick_16 rfl (lv_at hl 2 rfl) ?_
        obtain ⟨x17, hg, h⟩ := ob h
        refine wz_sld (i := 3) (by decide) C hW hg dX9_pick_17 ?_
        refine lv_goto (tgt := 23) hx hb dX9_pick_18 (by decide) ?_
        exact wz_iretE C hlk hr (Option.some.inj h) rfl hW dX9_pick_23
theorem dX4_wordsOf_0 : decode cX4_wordsOf 0 = .ok (.iload_n 0, 1) := by decide +kernel
theorem dX4_wordsOf_1 : decode cX4_wordsOf 1 = .ok (.tableswitch 36 0 2 #[27, 30, 33], 27) := by decide +kernel
theorem dX4_wordsOf_28 : decode cX4_wordsOf 28 = .ok (.ldc 115, 2) := by decide +kernel
theorem dX4_wordsOf_30 : decode cX4_wordsOf 30 = .ok (.areturn, 1) := by decide +kernel
theorem dX4_wordsOf_31 : decode cX4_wordsOf 31 = .ok (.ldc 117, 2) := by decide +kernel
theorem dX4_wordsOf_33 : decode cX4_wordsOf 33 = .ok (.areturn, 1) := by decide +kernel
theorem dX4_wordsOf_34 : decode cX4_wordsOf 34 = .ok (.ldc 119, 2) := by decide +kernel
theorem dX4_wordsOf_36 : decode cX4_wordsOf 36 = .ok (.areturn, 1) := by decide +kernel
theorem dX4_wordsOf_37 : decode cX4_wordsOf 37 = .ok (.ldc 121, 2) := by decide +kernel
theorem dX4_wordsOf_39 : decode cX4_wordsOf 39 = .ok (.areturn, 1) := by decide +kernel
abbrev rmX4_wordsOf : Room := { frames := 0, cells := 0, slots := 0, locals := 0 }
def fX4_wordsOf (l0 : Int32) : Nat :=
  if l0 = (0 : Int32) then (
    0
  ) else
  if l0 = (1 : Int32) then (
    1
  ) else
  if l0 = (2 : Int32) then (
    2
  ) else
  3
set_option maxHeartbeats 4000000 in
set_option maxRecDepth 100000 in
theorem ctX4_wordsOf (l : Launch) (G : GW) (l0 : Int32) (z : AH) {r : Nat} (h : fX4_wordsOf l0 = r) : Met l yX4_wordsOf (wy yX4_wordsOf cX4_wordsOf 1 (some (.object "java/lang/String"))) rmX4_wordsOf (Pz G [.int l0] z) (Qs G r z) 0 0 (AA G) := by
  refine wz_ent (own := RX4) (by decide +kernel) rfl (fun p e s m below meth c ls C hlk hr hin hW hl => ?_) (Nat.le_of_ble_eq_true rfl)
  have hl : lv_has ls 1 [(0, .int l0)] := hl
  have hx := C.1
  have hb := C.2.1
  unfold fX4_wordsOf at h
  refine lv_iload_n hx hb dX4_wordsOf_0 rfl (lv_at hl 0 rfl) ?_
  by_cases c1_0 : l0 = (0 : Int32)
  · have h := ite_t c1_0 h
    refine wz_sw (0 : Int32) (tgt := 28) hx hb dX4_wordsOf_1 c1_0 (by decide) rfl (by decide) ?_
    refine wz_ldcS (t := 0) (by decide) rfl rfl C dX4_wordsOf_28 ?_
    exact wz_sretE C hlk hr h rfl hW dX4_wordsOf_30
  have h := ite_f c1_0 h
  by_cases c1_1 : l0 = (1 : Int32)
  · have h := ite_t c1_1 h
    refine wz_sw (1 : Int32) (tgt := 31) hx hb dX4_wordsOf_1 c1_1 (by decide) rfl (by decide) ?_
    refine wz_ldcS (t := 1) (by decide) rfl rfl C dX4_wordsOf_31 ?_
    exact wz_sretE C hlk hr h rfl hW dX4_wordsOf_33
  have h := ite_f c1_1 h
  by_cases c1_2 : l0 = (2 : Int32)
  · have h := ite_t c1_2 h
    refine wz_sw (2 : Int32) (tgt := 34) hx hb dX4_wordsOf_1 c1_2 (by decide) rfl (by decide) ?_
    refine wz_ldcS (t := 2) (by decide) rfl rfl C dX4_wordsOf_34 ?_
    exact wz_sretE C hlk hr h rfl hW dX4_wordsOf_36
  have h := ite_f c1_2 h
  refine lv_tableOut (tgt := 37) hx hb dX4_wordsOf_1 (by have g0 := i32_ne c1_0 (z := 0) (by decide); have g1 := i32_ne c1_1 (z := 1) (by decide); have g2 := i32_ne c1_2 (z := 2) (by decide); omega) (by decide) ?_
  refine wz_ldcS (t := 3) (by decide) rfl rfl C dX4_wordsOf_37 ?_
  exact wz_sretE C hlk hr h rfl hW dX4_wordsOf_39
theorem dX4_isToken_0 : decode cX4_isToken 0 = .ok (.iload_n 3, 1) := by decide +kernel
theorem dX4_isToken_1 : decode cX4_isToken 1 = .ok (.iload_n 2, 1) := by decide +kernel
theorem dX4_isToken_2 : decode cX4_isToken 2 = .ok (.isub, 1) := by decide +kernel
theorem dX4_isToken_3 : decode cX4_isToken 3 = .ok (.aload_n 0, 1) := by decide +kernel
theorem dX4_isToken_4 : decode cX4_isToken 4 = .ok (.getfield 50, 3) := by decide +kernel
theorem dX4_isToken_7 : decode cX4_isToken 7 = .ok (.aload_n 0, 1) := by decide +kernel
theorem dX4_isToken_8 : decode cX4_isToken 8 = .ok (.getfield 72, 3) := by decide +kernel
theorem dX4_isToken_11 : decode cX4_isToken 11 = .ok (.isub, 1) := by decide +kernel
theorem dX4_isToken_12 : decode cX4_isToken 12 = .ok (.if_icmp .eq 5, 3) := by decide +kernel
theorem dX4_isToken_15 : decode cX4_isToken 15 = .ok (.iconst 0, 1) := by decide +kernel
theorem dX4_isToken_16 : decode cX4_isToken 16 = .ok (.ireturn, 1) := by decide +kernel
theorem dX4_isToken_17 : decode cX4_isToken 17 = .ok (.iload_n 2, 1) := by decide +kernel
theorem dX4_isToken_18 : decode cX4_isToken 18 = .ok (.istore 4, 2) := by decide +kernel
theorem dX4_isToken_20 : decode cX4_isToken 20 = .ok (.iload 4, 2) := by decide +kernel
theorem dX4_isToken_22 : decode cX4_isToken 22 = .ok (.iload_n 3, 1) := by decide +kernel
theorem dX4_isToken_23 : decode cX4_isToken 23 = .ok (.if_icmp .ge 33, 3) := by decide +kernel
theorem dX4_isToken_26 : decode cX4_isToken 26 = .ok (.aload_n 1, 1) := by decide +kernel
theorem dX4_isToken_27 : decode cX4_isToken 27 = .ok (.iload 4, 2) := by decide +kernel
theorem dX4_isToken_29 : decode cX4_isToken 29 = .ok (.invokevirtual 131, 3) := by decide +kernel
theorem dX4_isToken_32 : decode cX4_isToken 32 = .ok (.aload_n 0, 1) := by decide +kernel
theorem dX4_isToken_33 : decode cX4_isToken 33 = .ok (.aload_n 0, 1) := by decide +kernel
theorem dX4_isToken_34 : decode cX4_isToken 34 = .ok (.getfield 72, 3) := by decide +kernel
theorem dX4_isToken_37 : decode cX4_isToken 37 = .ok (.iload 4, 2) := by decide +kernel
theorem dX4_isToken_39 : decode cX4_isToken 39 = .ok (.iadd, 1) := by decide +kernel
theorem dX4_isToken_40 : decode cX4_isToken 40 = .ok (.iload_n 2, 1) := by decide +kernel
theorem dX4_isToken_41 : decode cX4_isToken 41 = .ok (.isub, 1) := by decide +kernel
theorem dX4_isToken_42 : decode cX4_isToken 42 = .ok (.invokevirtual 68, 3) := by decide +kernel
theorem dX4_isToken_45 : decode cX4_isToken 45 = .ok (.if_icmp .eq 5, 3) := by decide +kernel
theorem dX4_isToken_48 : decode cX4_isToken 48 = .ok (.iconst 0, 1) := by decide +kernel
theorem dX4_isToken_49 : decode cX4_isToken 49 = .ok (.ireturn, 1) := by decide +kernel
theorem dX4_isToken_50 : decode cX4_isToken 50 = .ok (.iinc 4 1, 3) := by decide +kernel
theorem dX4_isToken_53 : decode cX4_isToken 53 = .ok (.goto (-33), 3) := by decide +kernel
theorem dX4_isToken_56 : decode cX4_isToken 56 = .ok (.iconst 1, 1) := by decide +kernel
theorem dX4_isToken_57 : decode cX4_isToken 57 = .ok (.ireturn, 1) := by decide +kernel
abbrev rmX4_isToken : Room := { frames := 5, cells := 0, slots := 0, locals := 100 }
def bX4_isToken_20 (k20 : Nat → Nat → Int32 → Int32 → Int32 → Option (Int32)) (a0 : Nat) (t1 : Nat) (l2 : Int32) (l3 : Int32) (l4 : Int32) (z : AH) : Option (Int32) :=
  if l3 ≤ l4 then (
    some (1 : Int32)
  ) else (
    (sCh t1 l4).bind fun x29 =>
    (gI 3 11 z a0).bind fun x34 =>
    (fX4_byteAt a0 ((x34 + l4) - l2) z).bind fun x42 =>
    if x29 = x42 then (
      nm (l4 + (1 : Int32)) fun v50 =>
      k20 a0 t1 l2 l3 v50
    ) else (
      some (0 : Int32)
    )
  )
set_option maxHeartbeats 4000000 in
set_option maxRecDepth 100000 in
theorem kbX4_isToken_20 {p : Program} {l : Launch} {e : Env} {s : State} {m : MethodId} {args : Array Value} {below : List Frame} {meth : Method} {c : Code} {G : GW} {r : Int32} (C : Cx p m c cX4_isToken 5 s args RX4 G) (hlk : meth.locks = false) (hr : meth.sig.returnType = (some .boolean)) {z : AH} (k20 : Nat → Nat → Int32 → Int32 → Int32 → Option (Int32)) (hk20 : ∀ (a0 : Nat) (t1 : Nat) (l2 : Int32) (l3 : Int32) (l4 : Int32) (H : Heap) (locs : List Loc) (ls : Array Slot), k20 a0 t1 l2 l3 l4 = some r → Wb G z s H locs → lv_has ls 5 [(0, .ref (gB G + a0)), (1, .ref (G.2.2.2.2.2.1 t1)), (2, .int l2), (3, .int l3), (4, .int l4)] → W p l e rmX4_isToken s m args below meth c H locs 0 0 (MQ below (Qi G r z) args s 0 0 (AA G)) (F0 m 20 ls [])) (a0 : Nat) (t1 : Nat) (l2 : Int32) (l3 : Int32) (l4 : Int32) {H : Heap} {locs : List Loc} {ls : Array Slot} (h : bX4_isToken_20 k20 a0 t1 l2 l3 l4 z = some r) (hW : Wb G z s H locs) (hl : lv_has ls 5 [(0, .ref (gB G + a0)), (1, .ref (G.2.2.2.2.2.1 t1)), (2, .int l2), (3, .int l3), (4, .int l4)]) : W p l e rmX4_isToken s m args below meth c H locs 0 0 (MQ below (Qi G r z) args s 0 0 (AA G)) (F0 m 20 ls []) := by
  have hx := C.1
  have hb := C.2.1
  unfold bX4_isToken_20 at h
  refine lv_iload hx hb dX4_isToken_20 (lv_at hl 4 rfl) ?_
  refine lv_iload_n hx hb dX4_isToken_22 rfl (lv_at hl 3 rfl) ?_
  refine lv_icmp_ge (tgt := 56) hx hb dX4_isToken_23 (by decide) (fun c23 => ?_) (fun c23 => ?_)
  · have h := ite_t c23 h
    refine lv_iconst (v := 1) hx hb dX4_isToken_56 (by decide) ?_
    exact wz_zretE C hlk hr (Or.inr rfl) (Option.some.inj h) rfl hW dX4_isToken_57
  · have h := ite_f c23 h
    refine lv_aload_n hx hb dX4_isToken_26 rfl (lv_at hl 1 rfl) ?_
    refine lv_iload hx hb dX4_isToken_27 (lv_at hl 4 rfl) ?_
    obtain ⟨x29, hq, h⟩ := ob h
    refine wz_rI (c' := 0) (s' := 0) hW (wz_runVT (rest := []) (ck hq).1.1 C hW lVX4_131 rfl (ctJ0_charAt l G t1 l4 z hq) ⟨⟨rfl, rfl⟩, Nat.le_of_ble_eq_true rfl, Nat.le_of_ble_eq_true rfl⟩ rfl hl.1 rfl (Nat.le_of_ble_eq_true rfl) dX4_isToken_29 ⟨Nat.le_of_ble_eq_true rfl, Nat.le_of_ble_eq_true rfl⟩) rfl rfl (fun H locs hW => ?_)
    refine lv_aload_n hx hb dX4_isToken_32 rfl (lv_at hl 0 rfl) ?_
    refine lv_aload_n hx hb dX4_isToken_33 rfl (lv_at hl 0 rfl) ?_
    obtain ⟨x34, hg, h⟩ := ob h
    refine wz_gI C hW flX4_72 hg dX4_isToken_34 ?_
    refine lv_iload hx hb dX4_isToken_37 (lv_at hl 4 rfl) ?_
    refine lv_iadd hx hb dX4_isToken_39 ?_
    refine lv_iload_n hx hb dX4_isToken_40 rfl (lv_at hl 2 rfl) ?_
    refine lv_isub hx hb dX4_isToken_41 ?_
    obtain ⟨x42, hq, h⟩ := ob h
    refine wz_rI (c' := 0) (s' := 0) hW (wz_runV (rest := [.int x29]) C hW lVX4_68 (ck hq).1 rfl (ctX4_byteAt l G a0 ((x34 + l4) - l2) z hq) ⟨⟨rfl, rfl⟩, Nat.le_of_ble_eq_true rfl, Nat.le_of_ble_eq_true rfl⟩ rfl hl.1 rfl (Nat.le_of_ble_eq_true rfl) dX4_isToken_42 ⟨Nat.le_of_ble_eq_true rfl, Nat.le_of_ble_eq_true rfl⟩) rfl rfl (fun H locs hW => ?_)
    refine lv_icmp_eq (tgt := 50) hx hb dX4_isToken_45 (by decide) (fun c45 => ?_) (fun c45 => ?_)
    · have h := ite_t c45 h
      obtain ⟨v50, ev50⟩ : ∃ y : Int32, y = (l4 + (1 : Int32)) := ⟨_, rfl⟩
      have h := nm_to h ev50
      refine lv_iinc (v := v50) (lv' := [(4, .int v50), (0, .ref (gB G + a0)), (1, .ref (G.2.2.2.2.2.1 t1)), (2, .int l2), (3, .int l3)]) hx hb dX4_isToken_50 hl (k := 4) rfl (by rw [ev50]; rfl) (by decide) rfl (fun ls hl => ?_)
      refine lv_goto (tgt := 20) hx hb dX4_isToken_53 (by decide) ?_
      exact hk20 a0 t1 l2 l3 v50 _ _ _ h hW (lv_sub hl [1, 2, 3, 4, 0] rfl)
    · have h := ite_f c45 h
      refine lv_iconst (v := 0) hx hb dX4_isToken_48 (by decide) ?_
      exact wz_zretE C hlk hr (Or.inl rfl) (Option.some.inj h) rfl hW dX4_isToken_49
def fX4_isToken_20 (z : AH) : Nat → Nat → Nat → Int32 → Int32 → Int32 → Option (Int32)
  | 0, _, _, _, _, _ => none
  | n + 1, a0, t1, l2, l3, l4 => bX4_isToken_20 (fX4_isToken_20 z n) a0 t1 l2 l3 l4 z
theorem klX4_isToken_20 {p : Program} {l : Launch} {e : Env} {s : State} {m : MethodId} {args : Array Value} {below : List Frame} {meth : Method} {c : Code} {G : GW} {r : Int32} (C : Cx p m c cX4_isToken 5 s args RX4 G) (hlk : meth.locks = false) (hr : meth.sig.returnType = (some .boolean)) {z : AH} : ∀ (n : Nat) (a0 : Nat) (t1 : Nat) (l2 : Int32) (l3 : Int32) (l4 : Int32) (H : Heap) (locs : List Loc) (ls : Array Slot), fX4_isToken_20 z n a0 t1 l2 l3 l4 = some r → Wb G z s H locs → lv_has ls 5 [(0, .ref (gB G + a0)), (1, .ref (G.2.2.2.2.2.1 t1)), (2, .int l2), (3, .int l3), (4, .int l4)] → W p l e rmX4_isToken s m args below meth c H locs 0 0 (MQ below (Qi G r z) args s 0 0 (AA G)) (F0 m 20 ls []) := by
  intro n
  induction n with
  | zero => intro a0 t1 l2 l3 l4 H locs ls h; have h : (none : Option (Int32)) = some r := h; cases h
  | succ n ih => intro a0 t1 l2 l3 l4 H locs ls h hW hl; exact kbX4_isToken_20 C hlk hr (fX4_isToken_20 z n) (fun a0 t1 l2 l3 l4 H locs ls h hW hl => ih a0 t1 l2 l3 l4 H locs ls h hW hl) a0 t1 l2 l3 l4 h hW hl
def fX4_isToken (a0 : Nat) (t1 : Nat) (l2 : Int32) (l3 : Int32) (z : AH) : Option (Int32) :=
  if isO 3 z a0 = true then
    (gI 3 9 z a0).bind fun x4 =>
    (gI 3 11 z a0).bind fun x8 =>
    if (l3 - l2) = (x4 - x8) then (
      fX4_isToken_20 z FU a0 t1 l2 l3 l2
    ) else (
      some (0 : Int32)
    )
  else none
set_option maxHeartbeats 4000000 in
set_option maxRecDepth 100000 in
theorem ctX4_isToken (l : Launch) (G : GW) (a0 : Nat) (t1 : Nat) (l2 : Int32) (l3 : Int32) (z : AH) {r : Int32} (h : fX4_isToken a0 t1 l2 l3 z = some r) : Met l yX4_isToken (wy yX4_isToken cX4_isToken 5 (some .boolean)) rmX4_isToken (Pz G [.ref (gB G + a0), .ref (G.2.2.2.2.2.1 t1), .int l2, .int l3] z) (Qi G r z) 0 0 (AA G) := by
  refine wz_ent (own := RX4) (by decide +kernel) rfl (fun p e s m below meth c ls C hlk hr hin hW hl => ?_) (Nat.le_of_ble_eq_true rfl)
  have hl : lv_has ls 5 [(0, .ref (gB G + a0)), (1, .ref (G.2.2.2.2.2.1 t1)), (2, .int l2), (3, .int l3)] := hl
  have hx := C.1
  have hb := C.2.1
  unfold fX4_isToken at h
  obtain ⟨-, h⟩ := ck h
  refine lv_iload_n hx hb dX4_isToken_0 rfl (lv_at hl 3 rfl) ?_
  refine lv_iload_n hx hb dX4_isToken_1 rfl (lv_at hl 2 rfl) ?_
  refine lv_isub hx hb dX4_isToken_2 ?_
  refine lv_aload_n hx hb dX4_isToken_3 rfl (lv_at hl 0 rfl) ?_
  obtain ⟨x4, hg, h⟩ := ob h
  refine wz_gI C hW flX4_50 hg dX4_isToken_4 ?_
  refine lv_aload_n hx hb dX4_isToken_7 rfl (lv_at hl 0 rfl) ?_
  obtain ⟨x8, hg, h⟩ := ob h
  refine wz_gI C hW flX4_72 hg dX4_isToken_8 ?_
  refine lv_isub hx hb dX4_isToken_11 ?_
  refine lv_icmp_eq (tgt := 17) hx hb dX4_isToken_12 (by decide) (fun c12 => ?_) (fun c12 => ?_)
  · have h := ite_t c12 h
    refine lv_iload_n hx hb dX4_isToken_17 rfl (lv_at hl 2 rfl) ?_
    refine lv_istore (lv' := [(4, .int l2), (0, .ref (gB G + a0)), (1, .ref (G.2.2.2.2.2.1 t1)), (2, .int l2), (3, .int l3)]) hx hb dX4_isToken_18 hl (by decide) rfl (fun ls hl => ?_)
    exact klX4_isToken_20 C hlk hr FU a0 t1 l2 l3 l2 _ _ _ h hW (lv_sub hl [1, 2, 3, 4, 0] rfl)
  · have h := ite_f c12 h
    refine lv_iconst (v := 0) hx hb dX4_isToken_15 (by decide) ?_
    exact wz_zretE C hlk hr (Or.inl rfl) (Option.some.inj h) rfl hW dX4_isToken_16
theorem dX4_kindOfWord_0 : decode cX4_kindOfWord 0 = .ok (.aload_n 0, 1) := by decide +kernel
theorem dX4_kindOfWord_1 : decode cX4_kindOfWord 1 = .ok (.getfield 47, 3) := by decide +kernel
theorem dX4_kindOfWord_4 : decode cX4_kindOfWord 4 = .ok (.invokestatic 123, 3) := by decide +kernel
theorem dX4_kindOfWord_7 : decode cX4_kindOfWord 7 = .ok (.astore_n 1, 1) := by decide +kernel
theorem dX4_kindOfWord_8 : decode cX4_kindOfWord 8 = .ok (.getstatic 44, 3) := by decide +kernel
theorem dX4_kindOfWord_11 : decode cX4_kindOfWord 11 = .ok (.aload_n 0, 1) := by decide +kernel
theorem dX4_kindOfWord_12 : decode cX4_kindOfWord 12 = .ok (.getfield 47, 3) := by decide +kernel
theorem dX4_kindOfWord_15 : decode cX4_kindOfWord 15 = .ok (.iaload, 1) := by decide +kernel
theorem dX4_kindOfWord_16 : decode cX4_kindOfWord 16 = .ok (.istore_n 2, 1) := by decide +kernel
theorem dX4_kindOfWord_17 : decode cX4_kindOfWord 17 = .ok (.iconst 0, 1) := by decide +kernel
theorem dX4_kindOfWord_18 : decode cX4_kindOfWord 18 = .ok (.istore_n 3, 1) := by decide +kernel
theorem dX4_kindOfWord_19 : decode cX4_kindOfWord 19 = .ok (.iconst 0, 1) := by decide +kernel
theorem dX4_kindOfWord_20 : decode cX4_kindOfWord 20 = .ok (.istore 4, 2) := by decide +kernel
theorem dX4_kindOfWord_22 : decode cX4_kindOfWord 22 = .ok (.iload 4, 2) := by decide +kernel
theorem dX4_kindOfWord_24 : decode cX4_kindOfWord 24 = .ok (.aload_n 1, 1) := by decide +kernel
theorem dX4_kindOfWord_25 : decode cX4_kindOfWord 25 = .ok (.invokevirtual 127, 3) := by decide +kernel
theorem dX4_kindOfWord_28 : decode cX4_kindOfWord 28 = .ok (.if_icmp .ge 41, 3) := by decide +kernel
theorem dX4_kindOfWord_31 : decode cX4_kindOfWord 31 = .ok (.aload_n 1, 1) := by decide +kernel
theorem dX4_kindOfWord_32 : decode cX4_kindOfWord 32 = .ok (.iload 4, 2) := by decide +kernel
theorem dX4_kindOfWord_34 : decode cX4_kindOfWord 34 = .ok (.invokevirtual 131, 3) := by decide +kernel
theorem dX4_kindOfWord_37 : decode cX4_kindOfWord 37 = .ok (.bipush 32, 2) := by decide +kernel
theorem dX4_kindOfWord_39 : decode cX4_kindOfWord 39 = .ok (.if_icmp .ne 24, 3) := by decide +kernel
theorem dX4_kindOfWord_42 : decode cX4_kindOfWord 42 = .ok (.aload_n 0, 1) := by decide +kernel
theorem dX4_kindOfWord_43 : decode cX4_kindOfWord 43 = .ok (.aload_n 1, 1) := by decide +kernel
theorem dX4_kindOfWord_44 : decode cX4_kindOfWord 44 = .ok (.iload_n 3, 1) := by decide +kernel
theorem dX4_kindOfWord_45 : decode cX4_kindOfWord 45 = .ok (.iload 4, 2) := by decide +kernel
theorem dX4_kindOfWord_47 : decode cX4_kindOfWord 47 = .ok (.invokevirtual 135, 3) := by decide +kernel
theorem dX4_kindOfWord_50 : decode cX4_kindOfWord 50 = .ok (.ifCond .eq 5, 3) := by decide +kernel
theorem dX4_kindOfWord_53 : decode cX4_kindOfWord 53 = .ok (.iload_n 2, 1) := by decide +kernel
theorem dX4_kindOfWord_54 : decode cX4_kindOfWord 54 = .ok (.ireturn, 1) := by decide +kernel
theorem dX4_kindOfWord_55 : decode cX4_kindOfWord 55 = .ok (.iinc 2 1, 3) := by decide +kernel
theorem dX4_kindOfWord_58 : decode cX4_kindOfWord 58 = .ok (.iload 4, 2) := by decide +kernel
theorem dX4_kindOfWord_60 : decode cX4_kindOfWord 60 = .ok (.iconst 1, 1) := by decide +kernel
theorem dX4_kindOfWord_61 : decode cX4_kindOfWord 61 = .ok (.iadd, 1) := by decide +kernel
theorem dX4_kindOfWord_62 : decode cX4_kindOfWord 62 = .ok (.istore_n 3, 1) := by decide +kernel
theorem dX4_kindOfWord_63 : decode cX4_kindOfWord 63 = .ok (.iinc 4 1, 3) := by decide +kernel
theorem dX4_kindOfWord_66 : decode cX4_kindOfWord 66 = .ok (.goto (-44), 3) := by decide +kernel
theorem dX4_kindOfWord_69 : decode cX4_kindOfWord 69 = .ok (.iconst (-1), 1) := by decide +kernel
theorem dX4_kindOfWord_70 : decode cX4_kindOfWord 70 = .ok (.ireturn, 1) := by decide +kernel
theorem cdX4_isToken : Cond.code yX4_isToken cX4_isToken 5 (some .boolean) ∈ tz := tc3 27 rfl rfl
theorem lVX4_135 : LV RX4 135 yX4_isToken cX4_isToken 5 (some .boolean) 3 := ⟨tw 623 (by decide +kernel) rfl, tw 625 (by decide +kernel) rfl, tw 7 (by decide +kernel) rfl, tw 123 (by decide +kernel) rfl, cdX4_isToken, ⟨by decide +kernel, by decide +kernel, by decide +kernel⟩⟩
theorem cdX4_wordsOf : Cond.code yX4_wordsOf cX4_wordsOf 1 (some (.object "java/lang/String")) ∈ tz := tc2 211 rfl rfl
theorem lTX4_123 : LT RX4 123 yX4_wordsOf cX4_wordsOf 1 (some (.object "java/lang/String")) 1 := ⟨tw 568 (by decide +kernel) rfl, tw 569 (by decide +kernel) rfl, tw 123 (by decide +kernel) rfl, cdX4_wordsOf, ⟨by decide +kernel, by decide +kernel, by decide +kernel⟩⟩
abbrev rmX4_kindOfWord : Room := { frames := 6, cells := 0, slots := 0, locals := 124 }
def bX4_kindOfWord_22 (k22 : Nat → Nat → Int32 → Int32 → Int32 → Option (Int32)) (a0 : Nat) (t1 : Nat) (l2 : Int32) (l3 : Int32) (l4 : Int32) (z : AH) : Option (Int32) :=
  (sLn t1).bind fun x25 =>
  if x25 ≤ l4 then (
    some (-1 : Int32)
  ) else (
    (sCh t1 l4).bind fun x34 =>
    if x34 = (32 : Int32) then (
      (fX4_isToken a0 t1 l3 l4 z).bind fun x47 =>
      if x47 = (0 : Int32) then (
        nm (l2 + (1 : Int32)) fun v55 =>
        nm (l4 + (1 : Int32)) fun v62 =>
        nm (l4 + (1 : Int32)) fun v63 =>
        k22 a0 t1 v55 v62 v63
      ) else (
        some l2
      )
    ) else (
      nm (l4 + (1 : Int32)) fun v63 =>
      k22 a0 t1 l2 l3 v63
    )
  )
set_option maxHeartbeats 4000000 in
set_option maxRecDepth 100000 in
theorem kbX4_kindOfWord_22 {p : Program} {l : Launch} {e : Env} {s : State} {m : MethodId} {args : Array Value} {below : List Frame} {meth : Method} {c : Code} {G : GW} {r : Int32} (C : Cx p m c cX4_kindOfWord 5 s args RX4 G) (hlk : meth.locks = false) (hr : meth.sig.returnType = (some .int)) {z : AH} (k22 : Nat → Nat → Int32 → Int32 → Int32 → Option (Int32)) (hk22 : ∀ (a0 : Nat) (t1 : Nat) (l2 : Int32) (l3 : Int32) (l4 : Int32) (H : Heap) (locs : List Loc) (ls : Array Slot), k22 a0 t1 l2 l3 l4 = some r → Wb G z s H locs → lv_has ls 5 [(0, .ref (gB G + a0)), (1, .ref (G.2.2.2.2.2.1 t1)), (2, .int l2), (3, .int l3), (4, .int l4)] → W p l e rmX4_kindOfWord s m args below meth c H locs 0 0 (MQ below (Qi G r z) args s 0 0 (AA G)) (F0 m 22 ls [])) (a0 : Nat) (t1 : Nat) (l2 : Int32) (l3 : Int32) (l4 : Int32) {H : Heap} {locs : List Loc} {ls : Array Slot} (h : bX4_kindOfWord_22 k22 a0 t1 l2 l3 l4 z = some r) (hW : Wb G z s H locs) (hl : lv_has ls 5 [(0, .ref (gB G + a0)), (1, .ref (G.2.2.2.2.2.1 t1)), (2, .int l2), (3, .int l3), (4, .int l4)]) : W p l e rmX4_kindOfWord s m args below meth c H locs 0 0 (MQ below (Qi G r z) args s 0 0 (AA G)) (F0 m 22 ls []) := by
  have hx := C.1
  have hb := C.2.1
  unfold bX4_kindOfWord_22 at h
  refine lv_iload hx hb dX4_kindOfWord_22 (lv_at hl 4 rfl) ?_
  refine lv_aload_n hx hb dX4_kindOfWord_24 rfl (lv_at hl 1 rfl) ?_
  obtain ⟨x25, hq, h⟩ := ob h
  refine wz_rI (c' := 0) (s' := 0) hW (wz_runVT (rest := [.int l4]) (ck hq).1 C hW lVX4_127 rfl (ctJ0_length l G t1 z hq) ⟨⟨rfl, rfl⟩, Nat.le_of_ble_eq_true rfl, Nat.le_of_ble_eq_true rfl⟩ rfl hl.1 rfl (Nat.le_of_ble_eq_true rfl) dX4_kindOfWord_25 ⟨Nat.le_of_ble_eq_true rfl, Nat.le_of_ble_eq_true rfl⟩) rfl rfl (fun H locs hW => ?_)
  refine lv_icmp_ge (tgt := 69) hx hb dX4_kindOfWord_28 (by decide) (fun c28 => ?_) (fun c28 => ?_)
  · have h := ite_t c28 h
    refine lv_iconst (v := -1) hx hb dX4_kindOfWord_69 (by decide) ?_
    exact wz_iretE C hlk hr (Option.some.inj h) rfl hW dX4_kindOfWord_70
  · have h := ite_f c28 h
    refine lv_aload_n hx hb dX4_kindOfWord_31 rfl (lv_at hl 1 rfl) ?_
    refine lv_iload hx hb dX4_kindOfWord_32 (lv_at hl 4 rfl) ?_
    obtain ⟨x34, hq, h⟩ := ob h
    refine wz_rI (c' := 0) (s' := 0) hW (wz_runVT (rest := []) (ck hq).1.1 C hW lVX4_131 rfl (ctJ0_charAt l G t1 l4 z hq) ⟨⟨rfl, rfl⟩, Nat.le_of_ble_eq_true rfl, Nat.le_of_ble_eq_true rfl⟩ rfl hl.1 rfl (Nat.le_of_ble_eq_true rfl) dX4_kindOfWord_34 ⟨Nat.le_of_ble_eq_true rfl, Nat.le_of_ble_eq_true rfl⟩) rfl rfl (fun H locs hW => ?_)
    refine lv_bipush (v := 32) hx hb dX4_kindOfWord_37 (by decide) ?_
    refine lv_icmp_ne (tgt := 63) hx hb dX4_kindOfWord_39 (by decide) (fun c39 => ?_) (fun c39 => ?_)
    · have h := ite_f c39 h
      obtain ⟨v63, ev63⟩ : ∃ y : Int32, y = (l4 + (1 : Int32)) := ⟨_, rfl⟩
      have h := nm_to h ev63
      refine lv_iinc (v := v63) (lv' := [(4, .int v63), (0, .ref (gB G + a0)), (1, .ref (G.2.2.2.2.2.1 t1)), (2, .int l2), (3, .int l3)]) hx hb dX4_kindOfWord_63 hl (k := 4) rfl (by rw [ev63]; rfl) (by decide) rfl (fun ls hl => ?_)
      refine lv_goto (tgt := 22) hx hb dX4_kindOfWord_66 (by decide) ?_
      exact hk22 a0 t1 l2 l3 v63 _ _ _ h hW (lv_sub hl [1, 2, 3, 4, 0] rfl)
    · have h := ite_t c39 h
      refine lv_aload_n hx hb dX4_kindOfWord_42 rfl (lv_at hl 0 rfl) ?_
      refine lv_aload_n hx hb dX4_kindOfWord_43 rfl (lv_at hl 1 rfl) ?_
      refine lv_iload_n hx hb dX4_kindOfWord_44 rfl (lv_at hl 3 rfl) ?_
      refine lv_iload hx hb dX4_kindOfWord_45 (lv_at hl 4 rfl) ?_
      obtain ⟨x47, hq, h⟩ := ob h
      refine wz_rI (c' := 0) (s' := 0) hW (wz_runV (rest := []) C hW lVX4_135 (ck hq).1 rfl (ctX4_isToken l G a0 t1 l3 l4 z hq) ⟨⟨rfl, rfl⟩, Nat.le_of_ble_eq_true rfl, Nat.le_of_ble_eq_true rfl⟩ rfl hl.1 rfl (Nat.le_of_ble_eq_true rfl) dX4_kindOfWord_47 ⟨Nat.le_of_ble_eq_true rfl, Nat.le_of_ble_eq_true rfl⟩) rfl rfl (fun H locs hW => ?_)
      refine lv_if_eq (tgt := 55) hx hb dX4_kindOfWord_50 (by decide) (fun c50 => ?_) (fun c50 => ?_)
      · have h := ite_t c50 h
        obtain ⟨v55, ev55⟩ : ∃ y : Int32, y = (l2 + (1 : Int32)) := ⟨_, rfl⟩
        have h := nm_to h ev55
        refine lv_iinc (v := v55) (lv' := [(2, .int v55), (0, .ref (gB G + a0)), (1, .ref (G.2.2.2.2.2.1 t1)), (3, .int l3), (4, .int l4)]) hx hb dX4_kindOfWord_55 hl (k := 2) rfl (by rw [ev55]; rfl) (by decide) rfl (fun ls hl => ?_)
        refine lv_iload hx hb dX4_kindOfWord_58 (lv_at hl 4 rfl) ?_
        refine lv_iconst (v := 1) hx hb dX4_kindOfWord_60 (by decide) ?_
        refine lv_iadd hx hb dX4_kindOfWord_61 ?_
        refine lv_topi (fun v62 ev62 => ?_)
        have h := nm_to h ev62
        refine lv_istore_n (lv' := [(3, .int v62), (2, .int v55), (0, .ref (gB G + a0)), (1, .ref (G.2.2.2.2.2.1 t1)), (4, .int l4)]) hx hb dX4_kindOfWord_62 rfl hl (by decide) rfl (fun ls hl => ?_)
        obtain ⟨v63, ev63⟩ : ∃ y : Int32, y = (l4 + (1 : Int32)) := ⟨_, rfl⟩
        have h := nm_to h ev63
        refine lv_iinc (v := v63) (lv' := [(4, .int v63), (3, .int v62), (2, .int v55), (0, .ref (gB G + a0)), (1, .ref (G.2.2.2.2.2.1 t1))]) hx hb dX4_kindOfWord_63 hl (k := 4) rfl (by rw [ev63]; rfl) (by decide) rfl (fun ls hl => ?_)
        refine lv_goto (tgt := 22) hx hb dX4_kindOfWord_66 (by decide) ?_
        exact hk22 a0 t1 v55 v62 v63 _ _ _ h hW (lv_sub hl [3, 4, 2, 1, 0] rfl)
      · have h := ite_f c50 h
        refine lv_iload_n hx hb dX4_kindOfWord_53 rfl (lv_at hl 2 rfl) ?_
        exact wz_iretE C hlk hr (Option.some.inj h) rfl hW dX4_kindOfWord_54
def fX4_kindOfWord_22 (z : AH) : Nat → Nat → Nat → Int32 → Int32 → Int32 → Option (Int32)
  | 0, _, _, _, _, _ => none
  | n + 1, a0, t1, l2, l3, l4 => bX4_kindOfWord_22 (fX4_kindOfWord_22 z n) a0 t1 l2 l3 l4 z
theorem klX4_kindOfWord_22 {p : Program} {l : Launch} {e : Env} {s : State} {m : MethodId} {args : Array Value} {below : List Frame} {meth : Method} {c : Code} {G : GW} {r : Int32} (C : Cx p m c cX4_kindOfWord 5 s args RX4 G) (hlk : meth.locks = false) (hr : meth.sig.returnType = (some .int)) {z : AH} : ∀ (n : Nat) (a0 : Nat) (t1 : Nat) (l2 : Int32) (l3 : Int32) (l4 : Int32) (H : Heap) (locs : List Loc) (ls : Array Slot), fX4_kindOfWord_22 z n a0 t1 l2 l3 l4 = some r → Wb G z s H locs → lv_has ls 5 [(0, .ref (gB G + a0)), (1, .ref (G.2.2.2.2.2.1 t1)), (2, .int l2), (3, .int l3), (4, .int l4)] → W p l e rmX4_kindOfWord s m args below meth c H locs 0 0 (MQ below (Qi G r z) args s 0 0 (AA G)) (F0 m 22 ls []) := by
  intro n
  induction n with
  | zero => intro a0 t1 l2 l3 l4 H locs ls h; have h : (none : Option (Int32)) = some r := h; cases h
  | succ n ih => intro a0 t1 l2 l3 l4 H locs ls h hW hl; exact kbX4_kindOfWord_22 C hlk hr (fX4_kindOfWord_22 z n) (fun a0 t1 l2 l3 l4 H locs ls h hW hl => ih a0 t1 l2 l3 l4 H locs ls h hW hl) a0 t1 l2 l3 l4 h hW hl
def fX4_kindOfWord (a0 : Nat) (z : AH) : Option (Int32) :=
  if isO 3 z a0 = true then
    (gI 3 6 z a0).bind fun x1 =>
    (gI 3 6 z a0).bind fun x12 =>
    (sIx 0 x12).bind fun x15 =>
    fX4_kindOfWord_22 z FU a0 (fX4_wordsOf x1) x15 (0 : Int32) (0 : Int32)
  else none
set_option maxHeartbeats 4000000 in
set_option maxRecDepth 100000 in
theorem ctX4_kindOfWord (l : Launch) (G : GW) (a0 : Nat) (z : AH) {r : Int32} (h : fX4_kindOfWord a0 z = some r) : Met l yX4_kindOfWord (wy yX4_kindOfWord cX4_kindOfWord 5 (some .int)) rmX4_kindOfWord (Pz G [.ref (gB G + a0)] z) (Qi G r z) 0 0 (AA G) := by
  refine wz_ent (own := RX4) (by decide +kernel) rfl (fun p e s m below meth c ls C hlk hr hin hW hl => ?_) (Nat.le_of_ble_eq_true rfl)
  have hl : lv_has ls 5 [(0, .ref (gB G + a0))] := hl
  have hx := C.1
  have hb := C.2.1
  unfold fX4_kindOfWord at h
  obtain ⟨-, h⟩ := ck h
  refine lv_aload_n hx hb dX4_kindOfWord_0 rfl (lv_at hl 0 rfl) ?_
  obtain ⟨x1, hg, h⟩ := ob h
  refine wz_gI C hW flX4_47 hg dX4_kindOfWord_1 ?_
  refine wz_rS (c' := 0) (s' := 0) hW (wz_runS (rest := []) C hW lTX4_123 (ctX4_wordsOf l G x1 z rfl) ⟨⟨rfl, rfl⟩, Nat.le_of_ble_eq_true rfl, Nat.le_of_ble_eq_true rfl⟩ rfl hl.1 rfl (Nat.le_of_ble_eq_true rfl) dX4_kindOfWord_4 ⟨Nat.le_of_ble_eq_true rfl, Nat.le_of_ble_eq_true rfl⟩) rfl rfl (fun H locs hW => ?_)
  refine lv_astore_n (lv' := [(1, .ref (G.2.2.2.2.2.1 (fX4_wordsOf x1))), (0, .ref (gB G + a0))]) hx hb dX4_kindOfWord_7 rfl hl (by decide) rfl (fun ls hl => ?_)
  refine wz_gets (i := 0) (by decide) rfl (tw 532 (by decide +kernel) rfl) C hW dX4_kindOfWord_8 ?_
  refine lv_aload_n hx hb dX4_kindOfWord_11 rfl (lv_at hl 1 rfl) ?_
  obtain ⟨x12, hg, h⟩ := ob h
  refine wz_gI C hW flX4_47 hg dX4_kindOfWord_12 ?_
  obtain ⟨x15, hg, h⟩ := ob h
  refine wz_sld (i := 0) (by decide) C hW hg dX4_kindOfWord_15 ?_
  refine lv_istore_n (lv' := [(2, .int x15), (1, .ref (G.2.2.2.2.2.1 (fX4_wordsOf x1))), (0, .ref (gB G + a0))]) hx hb dX4_kindOfWord_16 rfl hl (by decide) rfl (fun ls hl => ?_)
  refine lv_iconst (v := 0) hx hb dX4_kindOfWord_17 (by decide) ?_
  refine lv_istore_n (lv' := [(3, .int (0 : Int32)), (2, .int x15), (1, .ref (G.2.2.2.2.2.1 (fX4_wordsOf x1))), (0, .ref (gB G + a0))]) hx hb dX4_kindOfWord_18 rfl hl (by decide) rfl (fun ls hl => ?_)
  refine lv_iconst (v := 0) hx hb dX4_kindOfWord_19 (by decide) ?_
  refine lv_istore (lv' := [(4, .int (0 : Int32)), (3, .int (0 : Int32)), (2, .int x15), (1, .ref (G.2.2.2.2.2.1 (fX4_wordsOf x1))), (0, .ref (gB G + a0))]) hx hb dX4_kindOfWord_20 hl (by decide) rfl (fun ls hl => ?_)
  exact klX4_kindOfWord_22 C hlk hr FU a0 (fX4_wordsOf x1) x15 (0 : Int32) (0 : Int32) _ _ _ h hW (lv_sub hl [4, 3, 2, 1, 0] rfl)
theorem dX4_readLine_0 : decode cX4_readLine 0 = .ok (.aload_n 0, 1) := by decide +kernel
theorem dX4_readLine_1 : decode cX4_readLine 1 = .ok (.getfield 75, 3) := by decide +kernel
theorem dX4_readLine_4 : decode cX4_readLine 4 = .ok (.iconst 1, 1) := by decide +kernel
theorem dX4_readLine_5 : decode cX4_readLine 5 = .ok (.if_icmp .ne 10, 3) := by decide +kernel
theorem dX4_readLine_8 : decode cX4_readLine 8 = .ok (.aload_n 0, 1) := by decide +kernel
theorem dX4_readLine_9 : decode cX4_readLine 9 = .ok (.invokevirtual 101, 3) := by decide +kernel
theorem dX4_readLine_12 : decode cX4_readLine 12 = .ok (.goto 4, 3) := by decide +kernel
theorem dX4_readLine_15 : decode cX4_readLine 15 = .ok (.iconst (-1), 1) := by decide +kernel
theorem dX4_readLine_16 : decode cX4_readLine 16 = .ok (.istore_n 2, 1) := by decide +kernel
theorem dX4_readLine_17 : decode cX4_readLine 17 = .ok (.iload_n 2, 1) := by decide +kernel
theorem dX4_readLine_18 : decode cX4_readLine 18 = .ok (.iconst (-1), 1) := by decide +kernel
theorem dX4_readLine_19 : decode cX4_readLine 19 = .ok (.if_icmp .ne 13, 3) := by decide +kernel
theorem dX4_readLine_22 : decode cX4_readLine 22 = .ok (.aload_n 0, 1) := by decide +kernel
theorem dX4_readLine_23 : decode cX4_readLine 23 = .ok (.iconst 1, 1) := by decide +kernel
theorem dX4_readLine_24 : decode cX4_readLine 24 = .ok (.aload_n 0, 1) := by decide +kernel
theorem dX4_readLine_25 : decode cX4_readLine 25 = .ok (.getfield 72, 3) := by decide +kernel
theorem dX4_readLine_28 : decode cX4_readLine 28 = .ok (.invokevirtual 105, 3) := by decide +kernel
theorem dX4_readLine_31 : decode cX4_readLine 31 = .ok (.return_, 1) := by decide +kernel
theorem dX4_readLine_32 : decode cX4_readLine 32 = .ok (.aload_n 0, 1) := by decide +kernel
theorem dX4_readLine_33 : decode cX4_readLine 33 = .ok (.getfield 11, 3) := by decide +kernel
theorem dX4_readLine_36 : decode cX4_readLine 36 = .ok (.iload_n 1, 1) := by decide +kernel
theorem dX4_readLine_37 : decode cX4_readLine 37 = .ok (.iload_n 2, 1) := by decide +kernel
theorem dX4_readLine_38 : decode cX4_readLine 38 = .ok (.iastore, 1) := by decide +kernel
theorem dX4_readLine_39 : decode cX4_readLine 39 = .ok (.aload_n 0, 1) := by decide +kernel
theorem dX4_readLine_40 : decode cX4_readLine 40 = .ok (.getfield 15, 3) := by decide +kernel
theorem dX4_readLine_43 : decode cX4_readLine 43 = .ok (.iload_n 1, 1) := by decide +kernel
theorem dX4_readLine_44 : decode cX4_readLine 44 = .ok (.aload_n 0, 1) := by decide +kernel
theorem dX4_readLine_45 : decode cX4_readLine 45 = .ok (.getfield 72, 3) := by decide +kernel
theorem dX4_readLine_48 : decode cX4_readLine 48 = .ok (.iastore, 1) := by decide +kernel
theorem dX4_readLine_49 : decode cX4_readLine 49 = .ok (.aload_n 0, 1) := by decide +kernel
theorem dX4_readLine_50 : decode cX4_readLine 50 = .ok (.invokevirtual 94, 3) := by decide +kernel
theorem dX4_readLine_53 : decode cX4_readLine 53 = .ok (.iconst 0, 1) := by decide +kernel
theorem dX4_readLine_54 : decode cX4_readLine 54 = .ok (.istore_n 3, 1) := by decide +kernel
theorem dX4_readLine_55 : decode cX4_readLine 55 = .ok (.iload_n 3, 1) := by decide +kernel
theorem dX4_readLine_56 : decode cX4_readLine 56 = .ok (.iconst 3, 1) := by decide +kernel
theorem dX4_readLine_57 : decode cX4_readLine 57 = .ok (.if_icmp .ge 68, 3) := by decide +kernel
theorem dX4_readLine_60 : decode cX4_readLine 60 = .ok (.iload_n 2, 1) := by decide +kernel
theorem dX4_readLine_61 : decode cX4_readLine 61 = .ok (.iload_n 3, 1) := by decide +kernel
theorem dX4_readLine_62 : decode cX4_readLine 62 = .ok (.invokestatic 109, 3) := by decide +kernel
theorem dX4_readLine_65 : decode cX4_readLine 65 = .ok (.iconst (-1), 1) := by decide +kernel
theorem dX4_readLine_66 : decode cX4_readLine 66 = .ok (.if_icmp .eq 59, 3) := by decide +kernel
theorem dX4_readLine_69 : decode cX4_readLine 69 = .ok (.aload_n 0, 1) := by decide +kernel
theorem dX4_readLine_70 : decode cX4_readLine 70 = .ok (.getfield 75, 3) := by decide +kernel
theorem dX4_readLine_73 : decode cX4_readLine 73 = .ok (.iconst 2, 1) := by decide +kernel
theorem dX4_readLine_74 : decode cX4_readLine 74 = .ok (.if_icmp .eq 13, 3) := by decide +kernel
theorem dX4_readLine_77 : decode cX4_readLine 77 = .ok (.aload_n 0, 1) := by decide +kernel
theorem dX4_readLine_78 : decode cX4_readLine 78 = .ok (.iconst 1, 1) := by decide +kernel
theorem dX4_readLine_79 : decode cX4_readLine 79 = .ok (.aload_n 0, 1) := by decide +kernel
theorem dX4_readLine_80 : decode cX4_readLine 80 = .ok (.getfield 72, 3) := by decide +kernel
theorem dX4_readLine_83 : decode cX4_readLine 83 = .ok (.invokevirtual 105, 3) := by decide +kernel
theorem dX4_readLine_86 : decode cX4_readLine 86 = .ok (.return_, 1) := by decide +kernel
theorem dX4_readLine_87 : decode cX4_readLine 87 = .ok (.aload_n 0, 1) := by decide +kernel
theorem dX4_readLine_88 : decode cX4_readLine 88 = .ok (.getfield 18, 3) := by decide +kernel
theorem dX4_readLine_91 : decode cX4_readLine 91 = .ok (.iconst 3, 1) := by decide +kernel
theorem dX4_readLine_92 : decode cX4_readLine 92 = .ok (.iload_n 1, 1) := by decide +kernel
theorem dX4_readLine_93 : decode cX4_readLine 93 = .ok (.imul, 1) := by decide +kernel
theorem dX4_readLine_94 : decode cX4_readLine 94 = .ok (.iload_n 3, 1) := by decide +kernel
theorem dX4_readLine_95 : decode cX4_readLine 95 = .ok (.iadd, 1) := by decide +kernel
theorem dX4_readLine_96 : decode cX4_readLine 96 = .ok (.aload_n 0, 1) := by decide +kernel
theorem dX4_readLine_97 : decode cX4_readLine 97 = .ok (.getfield 91, 3) := by decide +kernel
theorem dX4_readLine_100 : decode cX4_readLine 100 = .ok (.iastore, 1) := by decide +kernel
theorem dX4_readLine_101 : decode cX4_readLine 101 = .ok (.aload_n 0, 1) := by decide +kernel
theorem dX4_readLine_102 : decode cX4_readLine 102 = .ok (.getfield 21, 3) := by decide +kernel
theorem dX4_readLine_105 : decode cX4_readLine 105 = .ok (.iconst 3, 1) := by decide +kernel
theorem dX4_readLine_106 : decode cX4_readLine 106 = .ok (.iload_n 1, 1) := by decide +kernel
theorem dX4_readLine_107 : decode cX4_readLine 107 = .ok (.imul, 1) := by decide +kernel
theorem dX4_readLine_108 : decode cX4_readLine 108 = .ok (.iload_n 3, 1) := by decide +kernel
theorem dX4_readLine_109 : decode cX4_readLine 109 = .ok (.iadd, 1) := by decide +kernel
theorem dX4_readLine_110 : decode cX4_readLine 110 = .ok (.aload_n 0, 1) := by decide +kernel
theorem dX4_readLine_111 : decode cX4_readLine 111 = .ok (.getfield 72, 3) := by decide +kernel
theorem dX4_readLine_114 : decode cX4_readLine 114 = .ok (.iastore, 1) := by decide +kernel
theorem dX4_readLine_115 : decode cX4_readLine 115 = .ok (.aload_n 0, 1) := by decide +kernel
theorem dX4_readLine_116 : decode cX4_readLine 116 = .ok (.invokevirtual 94, 3) := by decide +kernel
theorem dX4_readLine_119 : decode cX4_readLine 119 = .ok (.iinc 3 1, 3) := by decide +kernel
theorem dX4_readLine_122 : decode cX4_readLine 122 = .ok (.goto (-67), 3) := by decide +kernel
theorem dX4_readLine_125 : decode cX4_readLine 125 = .ok (.aload_n 0, 1) := by decide +kernel
theorem dX4_readLine_126 : decode cX4_readLine 126 = .ok (.getfield 75, 3) := by decide +kernel
theorem dX4_readLine_129 : decode cX4_readLine 129 = .ok (.iconst 3, 1) := by decide +kernel
theorem dX4_readLine_130 : decode cX4_readLine 130 = .ok (.if_icmp .eq 13, 3) := by decide +kernel
theorem dX4_readLine_133 : decode cX4_readLine 133 = .ok (.aload_n 0, 1) := by decide +kernel
theorem dX4_readLine_134 : decode cX4_readLine 134 = .ok (.iconst 1, 1) := by decide +kernel
theorem dX4_readLine_135 : decode cX4_readLine 135 = .ok (.aload_n 0, 1) := by decide +kernel
theorem dX4_readLine_136 : decode cX4_readLine 136 = .ok (.getfield 72, 3) := by decide +kernel
theorem dX4_readLine_139 : decode cX4_readLine 139 = .ok (.invokevirtual 105, 3) := by decide +kernel
theorem dX4_readLine_142 : decode cX4_readLine 142 = .ok (.return_, 1) := by decide +kernel
theorem dX4_readLine_143 : decode cX4_readLine 143 = .ok (.aload_n 0, 1) := by decide +kernel
theorem dX4_readLine_144 : decode cX4_readLine 144 = .ok (.iload_n 1, 1) := by decide +kernel
theorem dX4_readLine_145 : decode cX4_readLine 145 = .ok (.iconst 1, 1) := by decide +kernel
theorem dX4_readLine_146 : decode cX4_readLine 146 = .ok (.iadd, 1) := by decide +kernel
theorem dX4_readLine_147 : decode cX4_readLine 147 = .ok (.putfield 53, 3) := by decide +kernel
theorem dX4_readLine_150 : decode cX4_readLine 150 = .ok (.aload_n 0, 1) := by decide +kernel
theorem dX4_readLine_151 : decode cX4_readLine 151 = .ok (.invokevirtual 94, 3) := by decide +kernel
theorem dX4_readLine_154 : decode cX4_readLine 154 = .ok (.return_, 1) := by decide +kernel
theorem cdX4_nextToken : Cond.code yX4_nextToken cX4_nextToken 2 none ∈ tz := tc2 182 rfl rfl
theorem lVX4_94 : LV RX4 94 yX4_nextToken cX4_nextToken 2 none 0 := ⟨tw 538 (by decide +kernel) rfl, tw 540 (by decide +kernel) rfl, tw 1 (by decide +kernel) rfl, tw 123 (by decide +kernel) rfl, cdX4_nextToken, ⟨by decide +kernel, by decide +kernel, by decide +kernel⟩⟩
theorem cdX4_find : Cond.code yX4_find cX4_find 3 none ∈ tz := tc3 31 rfl rfl
theorem lVX4_105 : LV RX4 105 yX4_find cX4_find 3 none 2 := ⟨tw 627 (by decide +kernel) rfl, tw 629 (by decide +kernel) rfl, tw 8 (by decide +kernel) rfl, tw 123 (by decide +kernel) rfl, cdX4_find, ⟨by decide +kernel, by decide +kernel, by decide +kernel⟩⟩
theorem cdX4_kindOfWord : Cond.code yX4_kindOfWord cX4_kindOfWord 5 (some .int) ∈ tz := tc2 208 rfl rfl
theorem lVX4_101 : LV RX4 101 yX4_kindOfWord cX4_kindOfWord 5 (some .int) 0 := ⟨tw 564 (by decide +kernel) rfl, tw 566 (by decide +kernel) rfl, tw 6 (by decide +kernel) rfl, tw 123 (by decide +kernel) rfl, cdX4_kindOfWord, ⟨by decide +kernel, by decide +kernel, by decide +kernel⟩⟩
abbrev rmX4_readLine : Room := { frames := 7, cells := 0, slots := 0, locals := 148 }
def bX4_readLine_125 (a0 : Nat) (l1 : Int32) (z : AH) : Option AH :=
  (gI 3 10 z a0).bind fun x126 =>
  if x126 = (3 : Int32) then (
    (pF 3 5 z a0 (.int (l1 + (1 : Int32)))).bind fun z147 =>
    (fX4_nextToken a0 z147).bind fun z151 =>
    some z151
  ) else (
    (gI 3 11 z a0).bind fun x136 =>
    (fX4_find a0 (1 : Int32) x136 z).bind fun z139 =>
    some z139
  )
set_option maxHeartbeats 4000000 in
set_option maxRecDepth 100000 in
theorem kbX4_readLine_125 {p : Program} {l : Launch} {e : Env} {s : State} {m : MethodId} {args : Array Value} {below : List Frame} {meth : Method} {c : Code} {G : GW} {z' : AH} (C : Cx p m c cX4_readLine 4 s args RX4 G) (hlk : meth.locks = false) (hr : meth.sig.returnType = none) (a0 : Nat) (l1 : Int32) {z : AH} {H : Heap} {locs : List Loc} {ls : Array Slot} (h : bX4_readLine_125 a0 l1 z = some z') (hW : Wb G z s H locs) (hl : lv_has ls 4 [(0, .ref (gB G + a0)), (1, .int l1)]) : W p l e rmX4_readLine s m args below meth c H locs 0 0 (MQ below (Qv G z') args s 0 0 (AA G)) (F0 m 125 ls []) := by
  have hx := C.1
  have hb := C.2.1
  unfold bX4_readLine_125 at h
  refine lv_aload_n hx hb dX4_readLine_125 rfl (lv_at hl 0 rfl) ?_
  obtain ⟨x126, hg, h⟩ := ob h
  refine wz_gI C hW flX4_75 hg dX4_readLine_126 ?_
  refine lv_iconst (v := 3) hx hb dX4_readLine_129 (by decide) ?_
  refine lv_icmp_eq (tgt := 143) hx hb dX4_readLine_130 (by decide) (fun c130 => ?_) (fun c130 => ?_)
  · have h := ite_t c130 h
    refine lv_aload_n hx hb dX4_readLine_143 rfl (lv_at hl 0 rfl) ?_
    refine lv_iload_n hx hb dX4_readLine_144 rfl (lv_at hl 1 rfl) ?_
    refine lv_iconst (v := 1) hx hb dX4_readLine_145 (by decide) ?_
    refine lv_iadd hx hb dX4_readLine_146 ?_
    obtain ⟨z147, hg, h⟩ := ob h
    refine wz_put (v := (.int (l1 + (1 : Int32)))) C hW flX4_53 rfl rfl hg dX4_readLine_147 (fun H locs hW => ?_)
    refine lv_aload_n hx hb dX4_readLine_150 rfl (lv_at hl 0 rfl) ?_
    obtain ⟨z151, hq, h⟩ := ob h
    refine wz_rV (c' := 0) (s' := 0) hW (wz_runV (rest := []) C hW lVX4_94 (ck hq).1 rfl (ctX4_nextToken l G a0 z147 hq) ⟨⟨rfl, rfl⟩, Nat.le_of_ble_eq_true rfl, Nat.le_of_ble_eq_true rfl⟩ rfl hl.1 rfl (Nat.le_of_ble_eq_true rfl) dX4_readLine_151 ⟨Nat.le_of_ble_eq_true rfl, Nat.le_of_ble_eq_true rfl⟩) rfl rfl (fun H locs hW => ?_)
    exact wz_vretE C hlk hr (Option.some.inj h) hW dX4_readLine_154
  · have h := ite_f c130 h
    refine lv_aload_n hx hb dX4_readLine_133 rfl (lv_at hl 0 rfl) ?_
    refine lv_iconst (v := 1) hx hb dX4_readLine_134 (by decide) ?_
    refine lv_aload_n hx hb dX4_readLine_135 rfl (lv_at hl 0 rfl) ?_
    obtain ⟨x136, hg, h⟩ := ob h
    refine wz_gI C hW flX4_72 hg dX4_readLine_136 ?_
    obtain ⟨z139, hq, h⟩ := ob h
    refine wz_rV (c' := 0) (s' := 0) hW (wz_runV (rest := []) C hW lVX4_105 (ck hq).1 rfl (ctX4_find l G a0 (1 : Int32) x136 z hq) ⟨⟨rfl, rfl⟩, Nat.le_of_ble_eq_true rfl, Nat.le_of_ble_eq_true rfl⟩ rfl hl.1 rfl (Nat.le_of_ble_eq_true rfl) dX4_readLine_139 ⟨Nat.le_of_ble_eq_true rfl, Nat.le_of_ble_eq_true rfl⟩) rfl rfl (fun H locs hW => ?_)
    exact wz_vretE C hlk hr (Option.some.inj h) hW dX4_readLine_142
def bX4_readLine_55 (k55 : Nat → Int32 → Int32 → Int32 → AH → Option AH) (a0 : Nat) (l1 : Int32) (l2 : Int32) (l3 : Int32) (z : AH) : Option AH :=
  if (3 : Int32) ≤ l3 then (
    bX4_readLine_125 a0 l1 z
  ) else (
    (fX4_top l2 l3).bind fun x62 =>
    if x62 = (-1 : Int32) then (
      bX4_readLine_125 a0 l1 z
    ) else (
      (gI 3 10 z a0).bind fun x70 =>
      if x70 = (2 : Int32) then (
        (gN 3 2 z a0).bind fun b88 =>
        (gI 3 12 z a0).bind fun x97 =>
        (stI 0 z b88 (((3 : Int32) * l1) + l3) x97).bind fun z100 =>
        (gN 3 3 z100 a0).bind fun b102 =>
        (gI 3 11 z100 a0).bind fun x111 =>
        (stI 0 z100 b102 (((3 : Int32) * l1) + l3) x111).bind fun z114 =>
        (fX4_nextToken a0 z114).bind fun z116 =>
        nm (l3 + (1 : Int32)) fun v119 =>
        k55 a0 l1 l2 v119 z116
      ) else (
        (gI 3 11 z a0).bind fun x80 =>
        (fX4_find a0 (1 : Int32) x80 z).bind fun z83 =>
        some z83
      )
    )
  )
set_option maxHeartbeats 4000000 in
set_option maxRecDepth 100000 in
theorem kbX4_readLine_55 {p : Program} {l : Launch} {e : Env} {s : State} {m : MethodId} {args : Array Value} {below : List Frame} {meth : Method} {c : Code} {G : GW} {z' : AH} (C : Cx p m c cX4_readLine 4 s args RX4 G) (hlk : meth.locks = false) (hr : meth.sig.returnType = none) (k55 : Nat → Int32 → Int32 → Int32 → AH → Option AH) (hk55 : ∀ (a0 : Nat) (l1 : Int32) (l2 : Int32) (l3 : Int32) (z : AH) (H : Heap) (locs : List Loc) (ls : Array Slot), k55 a0 l1 l2 l3 z = some z' → Wb G z s H locs → lv_has ls 4 [(0, .ref (gB G + a0)), (1, .int l1), (2, .int l2), (3, .int l3)] → W p l e rmX4_readLine s m args below meth c H locs 0 0 (MQ below (Qv G z') args s 0 0 (AA G)) (F0 m 55 ls [])) (a0 : Nat) (l1 : Int32) (l2 : Int32) (l3 : Int32) {z : AH} {H : Heap} {locs : List Loc} {ls : Array Slot} (h : bX4_readLine_55 k55 a0 l1 l2 l3 z = some z') (hW : Wb G z s H locs) (hl : lv_has ls 4 [(0, .ref (gB G + a0)), (1, .int l1), (2, .int l2), (3, .int l3)]) : W p l e rmX4_readLine s m args below meth c H locs 0 0 (MQ below (Qv G z') args s 0 0 (AA G)) (F0 m 55 ls []) := by
  have hx := C.1
  have hb := C.2.1
  unfold bX4_readLine_55 at h
  refine lv_iload_n hx hb dX4_readLine_55 rfl (lv_at hl 3 rfl) ?_
  refine lv_iconst (v := 3) hx hb dX4_readLine_56 (by decide) ?_
  refine lv_icmp_ge (tgt := 125) hx hb dX4_readLine_57 (by decide) (fun c57 => ?_) (fun c57 => ?_)
  · have h := ite_t c57 h
    exact kbX4_readLine_125 C hlk hr a0 l1 h hW (lv_sub hl [0, 1] rfl)
  · have h := ite_f c57 h
    refine lv_iload_n hx hb dX4_readLine_60 rfl (lv_at hl 2 rfl) ?_
    refine lv_iload_n hx hb dX4_readLine_61 rfl (lv_at hl 3 rfl) ?_
    obtain ⟨x62, hq, h⟩ := ob h
    refine wz_rI (c' := 0) (s' := 0) hW (wz_runS (rest := []) C hW lTX4_109 (ctX4_top l G l2 l3 z hq) ⟨⟨rfl, rfl⟩, Nat.le_of_ble_eq_true rfl, Nat.le_of_ble_eq_true rfl⟩ rfl hl.1 rfl (Nat.le_of_ble_eq_true rfl) dX4_readLine_62 ⟨Nat.le_of_ble_eq_true rfl, Nat.le_of_ble_eq_true rfl⟩) rfl rfl (fun H locs hW => ?_)
    refine lv_iconst (v := -1) hx hb dX4_readLine_65 (by decide) ?_
    refine lv_icmp_eq (tgt := 125) hx hb dX4_readLine_66 (by decide) (fun c66 => ?_) (fun c66 => ?_)
    · have h := ite_t c66 h
      exact kbX4_readLine_125 C hlk hr a0 l1 h hW (lv_sub hl [0, 1] rfl)
    · have h := ite_f c66 h
      refine lv_aload_n hx hb dX4_readLine_69 rfl (lv_at hl 0 rfl) ?_
      obtain ⟨x70, hg, h⟩ := ob h
      refine wz_gI C hW flX4_75 hg dX4_readLine_70 ?_
      refine lv_iconst (v := 2) hx hb dX4_readLine_73 (by decide) ?_
      refine lv_icmp_eq (tgt := 87) hx hb dX4_readLine_74 (by decide) (fun c74 => ?_) (fun c74 => ?_)
      · have h := ite_t c74 h
        refine lv_aload_n hx hb dX4_readLine_87 rfl (lv_at hl 0 rfl) ?_
        obtain ⟨b88, hg, h⟩ := ob h
        refine wz_gN C hW flX4_18 hg dX4_readLine_88 ?_
        refine lv_iconst (v := 3) hx hb dX4_readLine_91 (by decide) ?_
        refine lv_iload_n hx hb dX4_readLine_92 rfl (lv_at hl 1 rfl) ?_
        refine lv_imul hx hb dX4_readLine_93 ?_
        refine lv_iload_n hx hb dX4_readLine_94 rfl (lv_at hl 3 rfl) ?_
        refine lv_iadd hx hb dX4_readLine_95 ?_
        refine lv_aload_n hx hb dX4_readLine_96 rfl (lv_at hl 0 rfl) ?_
        obtain ⟨x97, hg, h⟩ := ob h
        refine wz_gI C hW flX4_91 hg dX4_readLine_97 ?_
        obtain ⟨z100, hg, h⟩ := ob h
        refine wz_ast C hW hg dX4_readLine_100 (fun H locs hW => ?_)
        refine lv_aload_n hx hb dX4_readLine_101 rfl (lv_at hl 0 rfl) ?_
        obtain ⟨b102, hg, h⟩ := ob h
        refine wz_gN C hW flX4_21 hg dX4_readLine_102 ?_
        refine lv_iconst (v := 3) hx hb dX4_readLine_105 (by decide) ?_
        refine lv_iload_n hx hb dX4_readLine_106 rfl (lv_at hl 1 rfl) ?_
        refine lv_imul hx hb dX4_readLine_107 ?_
        refine lv_iload_n hx hb dX4_readLine_108 rfl (lv_at hl 3 rfl) ?_
        refine lv_iadd hx hb dX4_readLine_109 ?_
        refine lv_aload_n hx hb dX4_readLine_110 rfl (lv_at hl 0 rfl) ?_
        obtain ⟨x111, hg, h⟩ := ob h
        refine wz_gI C hW flX4_72 hg dX4_readLine_111 ?_
        obtain ⟨z114, hg, h⟩ := ob h
        refine wz_ast C hW hg dX4_readLine_114 (fun H locs hW => ?_)
        refine lv_aload_n hx hb dX4_readLine_115 rfl (lv_at hl 0 rfl) ?_
        obtain ⟨z116, hq, h⟩ := ob h
        refine wz_rV (c' := 0) (s' := 0) hW (wz_runV (rest := []) C hW lVX4_94 (ck hq).1 rfl (ctX4_nextToken l G a0 z114 hq) ⟨⟨rfl, rfl⟩, Nat.le_of_ble_eq_true rfl, Nat.le_of_ble_eq_true rfl⟩ rfl hl.1 rfl (Nat.le_of_ble_eq_true rfl) dX4_readLine_116 ⟨Nat.le_of_ble_eq_true rfl, Nat.le_of_ble_eq_true rfl⟩) rfl rfl (fun H locs hW => ?_)
        obtain ⟨v119, ev119⟩ : ∃ y : Int32, y = (l3 + (1 : Int32)) := ⟨_, rfl⟩
        have h := nm_to h ev119
        refine lv_iinc (v := v119) (lv' := [(3, .int v119), (0, .ref (gB G + a0)), (1, .int l1), (2, .int l2)]) hx hb dX4_readLine_119 hl (k := 3) rfl (by rw [ev119]; rfl) (by decide) rfl (fun ls hl => ?_)
        refine lv_goto (tgt := 55) hx hb dX4_readLine_122 (by decide) ?_
        exact hk55 a0 l1 l2 v119 z116 _ _ _ h hW (lv_sub hl [1, 2, 3, 0] rfl)
      · have h := ite_f c74 h
        refine lv_aload_n hx hb dX4_readLine_77 rfl (lv_at hl 0 rfl) ?_
        refine lv_iconst (v := 1) hx hb dX4_readLine_78 (by decide) ?_
        refine lv_aload_n hx hb dX4_readLine_79 rfl (lv_at hl 0 rfl) ?_
        obtain ⟨x80, hg, h⟩ := ob h
        refine wz_gI C hW flX4_72 hg dX4_readLine_80 ?_
        obtain ⟨z83, hq, h⟩ := ob h
        refine wz_rV (c' := 0) (s' := 0) hW (wz_runV (rest := []) C hW lVX4_105 (ck hq).1 rfl (ctX4_find l G a0 (1 : Int32) x80 z hq) ⟨⟨rfl, rfl⟩, Nat.le_of_ble_eq_true rfl, Nat.le_of_ble_eq_true rfl⟩ rfl hl.1 rfl (Nat.le_of_ble_eq_true rfl) dX4_readLine_83 ⟨Nat.le_of_ble_eq_true rfl, Nat.le_of_ble_eq_true rfl⟩) rfl rfl (fun H locs hW => ?_)
        exact wz_vretE C hlk hr (Option.some.inj h) hW dX4_readLine_86
def fX4_readLine_55 : Nat → Nat → Int32 → Int32 → Int32 → AH → Option AH
  | 0, _, _, _, _, _ => none
  | n + 1, a0, l1, l2, l3, z => bX4_readLine_55 (fX4_readLine_55 n) a0 l1 l2 l3 z
theorem klX4_readLine_55 {p : Program} {l : Launch} {e : Env} {s : State} {m : MethodId} {args : Array Value} {below : List Frame} {meth : Method} {c : Code} {G : GW} {z' : AH} (C : Cx p m c cX4_readLine 4 s args RX4 G) (hlk : meth.locks = false) (hr : meth.sig.returnType = none) : ∀ (n : Nat) (a0 : Nat) (l1 : Int32) (l2 : Int32) (l3 : Int32) (z : AH) (H : Heap) (locs : List Loc) (ls : Array Slot), fX4_readLine_55 n a0 l1 l2 l3 z = some z' → Wb G z s H locs → lv_has ls 4 [(0, .ref (gB G + a0)), (1, .int l1), (2, .int l2), (3, .int l3)] → W p l e rmX4_readLine s m args below meth c H locs 0 0 (MQ below (Qv G z') args s 0 0 (AA G)) (F0 m 55 ls []) := by
  intro n
  induction n with
  | zero => intro a0 l1 l2 l3 z H locs ls h; have h : (none : Option AH) = some z' := h; cases h
  | succ n ih => intro a0 l1 l2 l3 z H locs ls h hW hl; exact kbX4_readLine_55 C hlk hr (fX4_readLine_55 n) (fun a0 l1 l2 l3 z H locs ls h hW hl => ih a0 l1 l2 l3 z H locs ls h hW hl) a0 l1 l2 l3 h hW hl
def bX4_readLine_16 (a0 : Nat) (l1 : Int32) (s0 : Int32) (z : AH) : Option AH :=
  if s0 = (-1 : Int32) then (
    (gI 3 11 z a0).bind fun x25 =>
    (fX4_find a0 (1 : Int32) x25 z).bind fun z28 =>
    some z28
  ) else (
    (gN 3 0 z a0).bind fun b33 =>
    (stI 0 z b33 l1 s0).bind fun z38 =>
    (gN 3 1 z38 a0).bind fun b40 =>
    (gI 3 11 z38 a0).bind fun x45 =>
    (stI 0 z38 b40 l1 x45).bind fun z48 =>
    (fX4_nextToken a0 z48).bind fun z50 =>
    fX4_readLine_55 FU a0 l1 s0 (0 : Int32) z50
  )
set_option maxHeartbeats 4000000 in
set_option maxRecDepth 100000 in
theorem kbX4_readLine_16 {p : Program} {l : Launch} {e : Env} {s : State} {m : MethodId} {args : Array Value} {below : List Frame} {meth : Method} {c : Code} {G : GW} {z' : AH} (C : Cx p m c cX4_readLine 4 s args RX4 G) (hlk : meth.locks = false) (hr : meth.sig.returnType = none) (a0 : Nat) (l1 : Int32) (s0 : Int32) {z : AH} {H : Heap} {locs : List Loc} {ls : Array Slot} (h : bX4_readLine_16 a0 l1 s0 z = some z') (hW : Wb G z s H locs) (hl : lv_has ls 4 [(0, .ref (gB G + a0)), (1, .int l1)]) : W p l e rmX4_readLine s m args below meth c H locs 0 0 (MQ below (Qv G z') args s 0 0 (AA G)) (F0 m 16 ls [.int s0]) := by
  have hx := C.1
  have hb := C.2.1
  unfold bX4_readLine_16 at h
  refine lv_istore_n (lv' := [(2, .int s0), (0, .ref (gB G + a0)), (1, .int l1)]) hx hb dX4_readLine_16 rfl hl (by decide) rfl (fun ls hl => ?_)
  refine lv_iload_n hx hb dX4_readLine_17 rfl (lv_at hl 0 rfl) ?_
  refine lv_iconst (v := -1) hx hb dX4_readLine_18 (by decide) ?_
  refine lv_icmp_ne (tgt := 32) hx hb dX4_readLine_19 (by decide) (fun c19 => ?_) (fun c19 => ?_)
  · have h := ite_f c19 h
    refine lv_aload_n hx hb dX4_readLine_32 rfl (lv_at hl 1 rfl) ?_
    obtain ⟨b33, hg, h⟩ := ob h
    refine wz_gN C hW flX4_11 hg dX4_readLine_33 ?_
    refine lv_iload_n hx hb dX4_readLine_36 rfl (lv_at hl 2 rfl) ?_
    refine lv_iload_n hx hb dX4_readLine_37 rfl (lv_at hl 0 rfl) ?_
    obtain ⟨z38, hg, h⟩ := ob h
    refine wz_ast C hW hg dX4_readLine_38 (fun H locs hW => ?_)
    refine lv_aload_n hx hb dX4_readLine_39 rfl (lv_at hl 1 rfl) ?_
    obtain ⟨b40, hg, h⟩ := ob h
    refine wz_gN C hW flX4_15 hg dX4_readLine_40 ?_
    refine lv_iload_n hx hb dX4_readLine_43 rfl (lv_at hl 2 rfl) ?_
    refine lv_aload_n hx hb dX4_readLine_44 rfl (lv_at hl 1 rfl) ?_
    obtain ⟨x45, hg, h⟩ := ob h
    refine wz_gI C hW flX4_72 hg dX4_readLine_45 ?_
    obtain ⟨z48, hg, h⟩ := ob h
    refine wz_ast C hW hg dX4_readLine_48 (fun H locs hW => ?_)
    refine lv_aload_n hx hb dX4_readLine_49 rfl (lv_at hl 1 rfl) ?_
    obtain ⟨z50, hq, h⟩ := ob h
    refine wz_rV (c' := 0) (s' := 0) hW (wz_runV (rest := []) C hW lVX4_94 (ck hq).1 rfl (ctX4_nextToken l G a0 z48 hq) ⟨⟨rfl, rfl⟩, Nat.le_of_ble_eq_true rfl, Nat.le_of_ble_eq_true rfl⟩ rfl hl.1 rfl (Nat.le_of_ble_eq_true rfl) dX4_readLine_50 ⟨Nat.le_of_ble_eq_true rfl, Nat.le_of_ble_eq_true rfl⟩) rfl rfl (fun H locs hW => ?_)
    refine lv_iconst (v := 0) hx hb dX4_readLine_53 (by decide) ?_
    refine lv_istore_n (lv' := [(3, .int (0 : Int32)), (2, .int s0), (0, .ref (gB G + a0)), (1, .int l1)]) hx hb dX4_readLine_54 rfl hl (by decide) rfl (fun ls hl => ?_)
    exact klX4_readLine_55 C hlk hr FU a0 l1 s0 (0 : Int32) z50 _ _ _ h hW (lv_sub hl [2, 3, 1, 0] rfl)
  · have h := ite_t c19 h
    refine lv_aload_n hx hb dX4_readLine_22 rfl (lv_at hl 1 rfl) ?_
    refine lv_iconst (v := 1) hx hb dX4_readLine_23 (by decide) ?_
    refine lv_aload_n hx hb dX4_readLine_24 rfl (lv_at hl 1 rfl) ?_
    obtain ⟨x25, hg, h⟩ := ob h
    refine wz_gI C hW flX4_72 hg dX4_readLine_25 ?_
    obtain ⟨z28, hq, h⟩ := ob h
    refine wz_rV (c' := 0) (s' := 0) hW (wz_runV (rest := []) C hW lVX4_105 (ck hq).1 rfl (ctX4_find l G a0 (1 : Int32) x25 z hq) ⟨⟨rfl, rfl⟩, Nat.le_of_ble_eq_true rfl, Nat.le_of_ble_eq_true rfl⟩ rfl hl.1 rfl (Nat.le_of_ble_eq_true rfl) dX4_readLine_28 ⟨Nat.le_of_ble_eq_true rfl, Nat.le_of_ble_eq_true rfl⟩) rfl rfl (fun H locs hW => ?_)
    exact wz_vretE C hlk hr (Option.some.inj h) hW dX4_readLine_31
def fX4_readLine (a0 : Nat) (l1 : Int32) (z : AH) : Option AH :=
  if isO 3 z a0 = true then
    (gI 3 10 z a0).bind fun x1 =>
    if x1 = (1 : Int32) then (
      (fX4_kindOfWord a0 z).bind fun x9 =>
      bX4_readLine_16 a0 l1 x9 z
    ) else (
      bX4_readLine_16 a0 l1 (-1 : Int32) z
    )
  else none
set_option maxHeartbeats 4000000 in
set_option maxRecDepth 100000 in
theorem ctX4_readLine (l : Launch) (G : GW) (a0 : Nat) (l1 : Int32) (z : AH) {z' : AH} (h : fX4_readLine a0 l1 z = some z') : Met l yX4_readLine (wy yX4_readLine cX4_readLine 4 none) rmX4_readLine (Pz G [.ref (gB G + a0), .int l1] z) (Qv G z') 0 0 (AA G) := by
  refine wz_ent (own := RX4) (by decide +kernel) rfl (fun p e s m below meth c ls C hlk hr hin hW hl => ?_) (Nat.le_of_ble_eq_true rfl)
  have hl : lv_has ls 4 [(0, .ref (gB G + a0)), (1, .int l1)] := hl
  have hx := C.1
  have hb := C.2.1
  unfold fX4_readLine at h
  obtain ⟨-, h⟩ := ck h
  refine lv_aload_n hx hb dX4_readLine_0 rfl (lv_at hl 0 rfl) ?_
  obtain ⟨x1, hg, h⟩ := ob h
  refine wz_gI C hW flX4_75 hg dX4_readLine_1 ?_
  refine lv_iconst (v := 1) hx hb dX4_readLine_4 (by decide) ?_
  refine lv_icmp_ne (tgt := 15) hx hb dX4_readLine_5 (by decide) (fun c5 => ?_) (fun c5 => ?_)
  · have h := ite_f c5 h
    refine lv_iconst (v := -1) hx hb dX4_readLine_15 (by decide) ?_
    exact kbX4_readLine_16 C hlk hr a0 l1 (-1 : Int32) h hW (lv_sub hl [0, 1] rfl)
  · have h := ite_t c5 h
    refine lv_aload_n hx hb dX4_readLine_8 rfl (lv_at hl 0 rfl) ?_
    obtain ⟨x9, hq, h⟩ := ob h
    refine wz_rI (c' := 0) (s' := 0) hW (wz_runV (rest := []) C hW lVX4_101 (ck hq).1 rfl (ctX4_kindOfWord l G a0 z hq) ⟨⟨rfl, rfl⟩, Nat.le_of_ble_eq_true rfl, Nat.le_of_ble_eq_true rfl⟩ rfl hl.1 rfl (Nat.le_of_ble_eq_true rfl) dX4_readLine_9 ⟨Nat.le_of_ble_eq_true rfl, Nat.le_of_ble_eq_true rfl⟩) rfl rfl (fun H locs hW => ?_)
    refine lv_goto (tgt := 16) hx hb dX4_readLine_12 (by decide) ?_
    exact kbX4_readLine_16 C hlk hr a0 l1 x9 h hW (lv_sub hl [0, 1] rfl)
theorem dX4_readLines_0 : decode cX4_readLines 0 = .ok (.aload_n 0, 1) := by decide +kernel
theorem dX4_readLines_1 : decode cX4_readLines 1 = .ok (.invokevirtual 94, 3) := by decide +kernel
theorem dX4_readLines_4 : decode cX4_readLines 4 = .ok (.iconst 0, 1) := by decide +kernel
theorem dX4_readLines_5 : decode cX4_readLines 5 = .ok (.istore_n 1, 1) := by decide +kernel
theorem dX4_readLines_6 : decode cX4_readLines 6 = .ok (.iload_n 1, 1) := by decide +kernel
theorem dX4_readLines_7 : decode cX4_readLines 7 = .ok (.bipush 120, 2) := by decide +kernel
theorem dX4_readLines_9 : decode cX4_readLines 9 = .ok (.if_icmp .ge 28, 3) := by decide +kernel
theorem dX4_readLines_12 : decode cX4_readLines 12 = .ok (.aload_n 0, 1) := by decide +kernel
theorem dX4_readLines_13 : decode cX4_readLines 13 = .ok (.getfield 75, 3) := by decide +kernel
theorem dX4_readLines_16 : decode cX4_readLines 16 = .ok (.ifCond .eq 21, 3) := by decide +kernel
theorem dX4_readLines_19 : decode cX4_readLines 19 = .ok (.aload_n 0, 1) := by decide +kernel
theorem dX4_readLines_20 : decode cX4_readLines 20 = .ok (.getfield 56, 3) := by decide +kernel
theorem dX4_readLines_23 : decode cX4_readLines 23 = .ok (.ifCond .ne 14, 3) := by decide +kernel
theorem dX4_readLines_26 : decode cX4_readLines 26 = .ok (.aload_n 0, 1) := by decide +kernel
theorem dX4_readLines_27 : decode cX4_readLines 27 = .ok (.iload_n 1, 1) := by decide +kernel
theorem dX4_readLines_28 : decode cX4_readLines 28 = .ok (.invokevirtual 97, 3) := by decide +kernel
theorem dX4_readLines_31 : decode cX4_readLines 31 = .ok (.iinc 1 1, 3) := by decide +kernel
theorem dX4_readLines_34 : decode cX4_readLines 34 = .ok (.goto (-28), 3) := by decide +kernel
theorem dX4_readLines_37 : decode cX4_readLines 37 = .ok (.return_, 1) := by decide +kernel
theorem cdX4_readLine : Cond.code yX4_readLine cX4_readLine 4 none ∈ tz := tc2 204 rfl rfl
theorem lVX4_97 : LV RX4 97 yX4_readLine cX4_readLine 4 none 1 := ⟨tw 560 (by decide +kernel) rfl, tw 562 (by decide +kernel) rfl, tw 5 (by decide +kernel) rfl, tw 123 (by decide +kernel) rfl, cdX4_readLine, ⟨by decide +kernel, by decide +kernel, by decide +kernel⟩⟩
abbrev rmX4_readLines : Room := { frames := 8, cells := 0, slots := 0, locals := 171 }
def bX4_readLines_6 (k6 : Nat → Int32 → AH → Option AH) (a0 : Nat) (l1 : Int32) (z : AH) : Option AH :=
  if (120 : Int32) ≤ l1 then (
    some z
  ) else (
    (gI 3 10 z a0).bind fun x13 =>
    if x13 = (0 : Int32) then (
      some z
    ) else (
      (gI 3 13 z a0).bind fun x20 =>
      if x20 = (0 : Int32) then (
        (fX4_readLine a0 l1 z).bind fun z28 =>
        nm (l1 + (1 : Int32)) fun v31 =>
        k6 a0 v31 z28
      ) else (
        some z
      )
    )
  )
set_option maxHeartbeats 4000000 in
set_option maxRecDepth 100000 in
theorem kbX4_readLines_6 {p : Program} {l : Launch} {e : Env} {s : State} {m : MethodId} {args : Array Value} {below : List Frame} {meth : Method} {c : Code} {G : GW} {z' : AH} (C : Cx p m c cX4_readLines 2 s args RX4 G) (hlk : meth.locks = false) (hr : meth.sig.returnType = none) (k6 : Nat → Int32 → AH → Option AH) (hk6 : ∀ (a0 : Nat) (l1 : Int32) (z : AH) (H : Heap) (locs : List Loc) (ls : Array Slot), k6 a0 l1 z = some z' → Wb G z s H locs → lv_has ls 2 [(0, .ref (gB G + a0)), (1, .int l1)] → W p l e rmX4_readLines s m args below meth c H locs 0 0 (MQ below (Qv G z') args s 0 0 (AA G)) (F0 m 6 ls [])) (a0 : Nat) (l1 : Int32) {z : AH} {H : Heap} {locs : List Loc} {ls : Array Slot} (h : bX4_readLines_6 k6 a0 l1 z = some z') (hW : Wb G z s H locs) (hl : lv_has ls 2 [(0, .ref (gB G + a0)), (1, .int l1)]) : W p l e rmX4_readLines s m args below meth c H locs 0 0 (MQ below (Qv G z') args s 0 0 (AA G)) (F0 m 6 ls []) := by
  have hx := C.1
  have hb := C.2.1
  unfold bX4_readLines_6 at h
  refine lv_iload_n hx hb dX4_readLines_6 rfl (lv_at hl 1 rfl) ?_
  refine lv_bipush (v := 120) hx hb dX4_readLines_7 (by decide) ?_
  refine lv_icmp_ge (tgt := 37) hx hb dX4_readLines_9 (by decide) (fun c9 => ?_) (fun c9 => ?_)
  · have h := ite_t c9 h
    exact wz_vretE C hlk hr (Option.some.inj h) hW dX4_readLines_37
  · have h := ite_f c9 h
    refine lv_aload_n hx hb dX4_readLines_12 rfl (lv_at hl 0 rfl) ?_
    obtain ⟨x13, hg, h⟩ := ob h
    refine wz_gI C hW flX4_75 hg dX4_readLines_13 ?_
    refine lv_if_eq (tgt := 37) hx hb dX4_readLines_16 (by decide) (fun c16 => ?_) (fun c16 => ?_)
    · have h := ite_t c16 h
      exact wz_vretE C hlk hr (Option.some.inj h) hW dX4_readLines_37
    · have h := ite_f c16 h
      refine lv_aload_n hx hb dX4_readLines_19 rfl (lv_at hl 0 rfl) ?_
      obtain ⟨x20, hg, h⟩ := ob h
      refine wz_gI C hW flX4_56 hg dX4_readLines_20 ?_
      refine lv_if_ne (tgt := 37) hx hb dX4_readLines_23 (by decide) (fun c23 => ?_) (fun c23 => ?_)
      · have h := ite_f c23 h
        exact wz_vretE C hlk hr (Option.some.inj h) hW dX4_readLines_37
      · have h := ite_t c23 h
        refine lv_aload_n hx hb dX4_readLines_26 rfl (lv_at hl 0 rfl) ?_
        refine lv_iload_n hx hb dX4_readLines_27 rfl (lv_at hl 1 rfl) ?_
        obtain ⟨z28, hq, h⟩ := ob h
        refine wz_rV (c' := 0) (s' := 0) hW (wz_runV (rest := []) C hW lVX4_97 (ck hq).1 rfl (ctX4_readLine l G a0 l1 z hq) ⟨⟨rfl, rfl⟩, Nat.le_of_ble_eq_true rfl, Nat.le_of_ble_eq_true rfl⟩ rfl hl.1 rfl (Nat.le_of_ble_eq_true rfl) dX4_readLines_28 ⟨Nat.le_of_ble_eq_true rfl, Nat.le_of_ble_eq_true rfl⟩) rfl rfl (fun H locs hW => ?_)
        obtain ⟨v31, ev31⟩ : ∃ y : Int32, y = (l1 + (1 : Int32)) := ⟨_, rfl⟩
        have h := nm_to h ev31
        refine lv_iinc (v := v31) (lv' := [(1, .int v31), (0, .ref (gB G + a0))]) hx hb dX4_readLines_31 hl (k := 1) rfl (by rw [ev31]; rfl) (by decide) rfl (fun ls hl => ?_)
        refine lv_goto (tgt := 6) hx hb dX4_readLines_34 (by decide) ?_
        exact hk6 a0 v31 z28 _ _ _ h hW (lv_sub hl [1, 0] rfl)
def fX4_readLines_6 : Nat → Nat → Int32 → AH → Option AH
  | 0, _, _, _ => none
  | n + 1, a0, l1, z => bX4_readLines_6 (fX4_readLines_6 n) a0 l1 z
theorem klX4_readLines_6 {p : Program} {l : Launch} {e : Env} {s : State} {m : MethodId} {args : Array Value} {below : List Frame} {meth : Method} {c : Code} {G : GW} {z' : AH} (C : Cx p m c cX4_readLines 2 s args RX4 G) (hlk : meth.locks = false) (hr : meth.sig.returnType = none) : ∀ (n : Nat) (a0 : Nat) (l1 : Int32) (z : AH) (H : Heap) (locs : List Loc) (ls : Array Slot), fX4_readLines_6 n a0 l1 z = some z' → Wb G z s H locs → lv_has ls 2 [(0, .ref (gB G + a0)), (1, .int l1)] → W p l e rmX4_readLines s m args below meth c H locs 0 0 (MQ below (Qv G z') args s 0 0 (AA G)) (F0 m 6 ls []) := by
  intro n
  induction n with
  | zero => intro a0 l1 z H locs ls h; have h : (none : Option AH) = some z' := h; cases h
  | succ n ih => intro a0 l1 z H locs ls h hW hl; exact kbX4_readLines_6 C hlk hr (fX4_readLines_6 n) (fun a0 l1 z H locs ls h hW hl => ih a0 l1 z H locs ls h hW hl) a0 l1 h hW hl
def fX4_readLines (a0 : Nat) (z : AH) : Option AH :=
  if isO 3 z a0 = true then
    (fX4_nextToken a0 z).bind fun z1 =>
    fX4_readLines_6 FU a0 (0 : Int32) z1
  else none
set_option maxHeartbeats 4000000 in
set_option maxRecDepth 100000 in
theorem ctX4_readLines (l : Launch) (G : GW) (a0 : Nat) (z : AH) {z' : AH} (h : fX4_readLines a0 z = some z') : Met l yX4_readLines (wy yX4_readLines cX4_readLines 2 none) rmX4_readLines (Pz G [.ref (gB G + a0)] z) (Qv G z') 0 0 (AA G) := by
  refine wz_ent (own := RX4) (by decide +kernel) rfl (fun p e s m below meth c ls C hlk hr hin hW hl => ?_) (Nat.le_of_ble_eq_true rfl)
  have hl : lv_has ls 2 [(0, .ref (gB G + a0))] := hl
  have hx := C.1
  have hb := C.2.1
  unfold fX4_readLines at h
  obtain ⟨-, h⟩ := ck h
  refine lv_aload_n hx hb dX4_readLines_0 rfl (lv_at hl 0 rfl) ?_
  obtain ⟨z1, hq, h⟩ := ob h
  refine wz_rV (c' := 0) (s' := 0) hW (wz_runV (rest := []) C hW lVX4_94 (ck hq).1 rfl (ctX4_nextToken l G a0 z hq) ⟨⟨rfl, rfl⟩, Nat.le_of_ble_eq_true rfl, Nat.le_of_ble_eq_true rfl⟩ rfl hl.1 rfl (Nat.le_of_ble_eq_true rfl) dX4_readLines_1 ⟨Nat.le_of_ble_eq_true rfl, Nat.le_of_ble_eq_true rfl⟩) rfl rfl (fun H locs hW => ?_)
  refine lv_iconst (v := 0) hx hb dX4_readLines_4 (by decide) ?_
  refine lv_istore_n (lv' := [(1, .int (0 : Int32)), (0, .ref (gB G + a0))]) hx hb dX4_readLines_5 rfl hl (by decide) rfl (fun ls hl => ?_)
  exact klX4_readLines_6 C hlk hr FU a0 (0 : Int32) z1 _ _ _ h hW (lv_sub hl [1, 0] rfl)
theorem dX4_checkRoom_0 : decode cX4_checkRoom 0 = .ok (.getstatic 146, 3) := by decide +kernel
theorem dX4_checkRoom_3 : decode cX4_checkRoom 3 = .ok (.bipush 20, 2) := by decide +kernel
theorem dX4_checkRoom_5 : decode cX4_checkRoom 5 = .ok (.aload_n 0, 1) := by decide +kernel
theorem dX4_checkRoom_6 : decode cX4_checkRoom 6 = .ok (.getfield 11, 3) := by decide +kernel
theorem dX4_checkRoom_9 : decode cX4_checkRoom 9 = .ok (.iload_n 1, 1) := by decide +kernel
theorem dX4_checkRoom_10 : decode cX4_checkRoom 10 = .ok (.iaload, 1) := by decide +kernel
theorem dX4_checkRoom_11 : decode cX4_checkRoom 11 = .ok (.invokestatic 149, 3) := by decide +kernel
theorem dX4_checkRoom_14 : decode cX4_checkRoom 14 = .ok (.istore_n 2, 1) := by decide +kernel
theorem dX4_checkRoom_15 : decode cX4_checkRoom 15 = .ok (.iload_n 2, 1) := by decide +kernel
theorem dX4_checkRoom_16 : decode cX4_checkRoom 16 = .ok (.ifCond .lt 12, 3) := by decide +kernel
theorem dX4_checkRoom_19 : decode cX4_checkRoom 19 = .ok (.iload_n 2, 1) := by decide +kernel
theorem dX4_checkRoom_20 : decode cX4_checkRoom 20 = .ok (.aload_n 0, 1) := by decide +kernel
theorem dX4_checkRoom_21 : decode cX4_checkRoom 21 = .ok (.getfield 27, 3) := by decide +kernel
theorem dX4_checkRoom_24 : decode cX4_checkRoom 24 = .ok (.arraylength, 1) := by decide +kernel
theorem dX4_checkRoom_25 : decode cX4_checkRoom 25 = .ok (.if_icmp .lt 4, 3) := by decide +kernel
theorem dX4_checkRoom_28 : decode cX4_checkRoom 28 = .ok (.return_, 1) := by decide +kernel
theorem dX4_checkRoom_29 : decode cX4_checkRoom 29 = .ok (.aload_n 0, 1) := by decide +kernel
theorem dX4_checkRoom_30 : decode cX4_checkRoom 30 = .ok (.getfield 27, 3) := by decide +kernel
theorem dX4_checkRoom_33 : decode cX4_checkRoom 33 = .ok (.iload_n 2, 1) := by decide +kernel
theorem dX4_checkRoom_34 : decode cX4_checkRoom 34 = .ok (.dup2, 1) := by decide +kernel
theorem dX4_checkRoom_35 : decode cX4_checkRoom 35 = .ok (.iaload, 1) := by decide +kernel
theorem dX4_checkRoom_36 : decode cX4_checkRoom 36 = .ok (.iconst 1, 1) := by decide +kernel
theorem dX4_checkRoom_37 : decode cX4_checkRoom 37 = .ok (.iadd, 1) := by decide +kernel
theorem dX4_checkRoom_38 : decode cX4_checkRoom 38 = .ok (.iastore, 1) := by decide +kernel
theorem dX4_checkRoom_39 : decode cX4_checkRoom 39 = .ok (.aload_n 0, 1) := by decide +kernel
theorem dX4_checkRoom_40 : decode cX4_checkRoom 40 = .ok (.getfield 27, 3) := by decide +kernel
theorem dX4_checkRoom_43 : decode cX4_checkRoom 43 = .ok (.iload_n 2, 1) := by decide +kernel
theorem dX4_checkRoom_44 : decode cX4_checkRoom 44 = .ok (.iaload, 1) := by decide +kernel
theorem dX4_checkRoom_45 : decode cX4_checkRoom 45 = .ok (.getstatic 24, 3) := by decide +kernel
theorem dX4_checkRoom_48 : decode cX4_checkRoom 48 = .ok (.iload_n 2, 1) := by decide +kernel
theorem dX4_checkRoom_49 : decode cX4_checkRoom 49 = .ok (.iaload, 1) := by decide +kernel
theorem dX4_checkRoom_50 : decode cX4_checkRoom 50 = .ok (.if_icmp .le 14, 3) := by decide +kernel
theorem dX4_checkRoom_53 : decode cX4_checkRoom 53 = .ok (.aload_n 0, 1) := by decide +kernel
theorem dX4_checkRoom_54 : decode cX4_checkRoom 54 = .ok (.iconst 3, 1) := by decide +kernel
theorem dX4_checkRoom_55 : decode cX4_checkRoom 55 = .ok (.aload_n 0, 1) := by decide +kernel
theorem dX4_checkRoom_56 : decode cX4_checkRoom 56 = .ok (.getfield 15, 3) := by decide +kernel
theorem dX4_checkRoom_59 : decode cX4_checkRoom 59 = .ok (.iload_n 1, 1) := by decide +kernel
theorem dX4_checkRoom_60 : decode cX4_checkRoom 60 = .ok (.iaload, 1) := by decide +kernel
theorem dX4_checkRoom_61 : decode cX4_checkRoom 61 = .ok (.invokevirtual 105, 3) := by decide +kernel
theorem dX4_checkRoom_64 : decode cX4_checkRoom 64 = .ok (.return_, 1) := by decide +kernel
theorem cdX9_pick : Cond.code yX9_pick cX9_pick 3 (some .int) ∈ tz := tc2 165 rfl rfl
theorem lNX4_149 : LN RX4 149 yX9_pick cX9_pick 3 (some .int) 3 := ⟨by decide +kernel, tw 523 (by decide +kernel) rfl, tw 120 (by decide +kernel) rfl, cdX9_pick, ⟨by decide +kernel, by decide +kernel, by decide +kernel⟩⟩
abbrev rmX4_checkRoom : Room := { frames := 1, cells := 0, slots := 0, locals := 22 }
def fX4_checkRoom (a0 : Nat) (l1 : Int32) (z : AH) : Option AH :=
  if isO 3 z a0 = true then
    (gN 3 0 z a0).bind fun b6 =>
    (ixI 0 z b6 l1).bind fun x10 =>
    (fX9_pick_T3 (20 : Int32) x10).bind fun x11 =>
    if x11 < (0 : Int32) then (
      some z
    ) else (
      (gN 3 4 z a0).bind fun b21 =>
      (lnI 0 z b21).bind fun x24 =>
      if x11 < x24 then (
        (gN 3 4 z a0).bind fun b30 =>
        (ixI 0 z b30 x11).bind fun x35 =>
        (stI 0 z b30 x11 (x35 + (1 : Int32))).bind fun z38 =>
        (gN 3 4 z38 a0).bind fun b40 =>
        (ixI 0 z38 b40 x11).bind fun x44 =>
        (sIx 4 x11).bind fun x49 =>
        if x44 ≤ x49 then (
          some z38
        ) else (
          (gN 3 1 z38 a0).bind fun b56 =>
          (ixI 0 z38 b56 l1).bind fun x60 =>
          (fX4_find a0 (3 : Int32) x60 z38).bind fun z61 =>
          some z61
        )
      ) else (
        some z
      )
    )
  else none
set_option maxHeartbeats 4000000 in
set_option maxRecDepth 100000 in
theorem ctX4_checkRoom (l : Launch) (G : GW) (a0 : Nat) (l1 : Int32) (z : AH) {z' : AH} (h : fX4_checkRoom a0 l1 z = some z') : Met l yX4_checkRoom (wy yX4_checkRoom cX4_checkRoom 3 none) rmX4_checkRoom (Pz G [.ref (gB G + a0), .int l1] z) (Qv G z') 0 0 (AA G) := by
  refine wz_ent (own := RX4) (by decide +kernel) rfl (fun p e s m below meth c ls C hlk hr hin hW hl => ?_) (Nat.le_of_ble_eq_true rfl)
  have hl : lv_has ls 3 [(0, .ref (gB G + a0)), (1, .int l1)] := hl
  have hx := C.1
  have hb := C.2.1
  unfold fX4_checkRoom at h
  obtain ⟨-, h⟩ := ck h
  refine wz_gets (i := 3) (by decide) rfl (tw 644 (by decide +kernel) rfl) C hW dX4_checkRoom_0 ?_
  refine lv_bipush (v := 20) hx hb dX4_checkRoom_3 (by decide) ?_
  refine lv_aload_n hx hb dX4_checkRoom_5 rfl (lv_at hl 0 rfl) ?_
  obtain ⟨b6, hg, h⟩ := ob h
  refine wz_gN C hW flX4_11 hg dX4_checkRoom_6 ?_
  refine lv_iload_n hx hb dX4_checkRoom_9 rfl (lv_at hl 1 rfl) ?_
  obtain ⟨x10, hg, h⟩ := ob h
  refine wz_ald C hW hg dX4_checkRoom_10 ?_
  obtain ⟨x11, hq, h⟩ := ob h
  refine wz_rI (c' := 0) (s' := 0) hW (wz_runN (rest := []) C hW lNX4_149 (ctX9_pick_T3 l G (20 : Int32) x10 z hq) ⟨⟨rfl, rfl⟩, Nat.le_of_ble_eq_true rfl, Nat.le_of_ble_eq_true rfl⟩ rfl hl.1 rfl (Nat.le_of_ble_eq_true rfl) dX4_checkRoom_11 ⟨Nat.le_of_ble_eq_true rfl, Nat.le_of_ble_eq_true rfl⟩) rfl rfl (fun H locs hW => ?_)
  refine lv_istore_n (lv' := [(2, .int x11), (0, .ref (gB G + a0)), (1, .int l1)]) hx hb dX4_checkRoom_14 rfl hl (by decide) rfl (fun ls hl => ?_)
  refine lv_iload_n hx hb dX4_checkRoom_15 rfl (lv_at hl 0 rfl) ?_
  refine lv_if_lt (tgt := 28) hx hb dX4_checkRoom_16 (by decide) (fun c16 => ?_) (fun c16 => ?_)
  · have h := ite_t c16 h
    exact wz_vretE C hlk hr (Option.some.inj h) hW dX4_checkRoom_28
  · have h := ite_f c16 h
    refine lv_iload_n hx hb dX4_checkRoom_19 rfl (lv_at hl 0 rfl) ?_
    refine lv_aload_n hx hb dX4_checkRoom_20 rfl (lv_at hl 1 rfl) ?_
    obtain ⟨b21, hg, h⟩ := ob h
    refine wz_gN C hW flX4_27 hg dX4_checkRoom_21 ?_
    obtain ⟨x24, hg, h⟩ := ob h
    refine wz_len C hW hg dX4_checkRoom_24 ?_
    refine lv_icmp_lt (tgt := 29) hx hb dX4_checkRoom_25 (by decide) (fun c25 => ?_) (fun c25 => ?_)
    · have h := ite_t c25 h
      refine lv_aload_n hx hb dX4_checkRoom_29 rfl (lv_at hl 1 rfl) ?_
      obtain ⟨b30, hg, h⟩ := ob h
      refine wz_gN C hW flX4_27 hg dX4_checkRoom_30 ?_
      refine lv_iload_n hx hb dX4_checkRoom_33 rfl (lv_at hl 0 rfl) ?_
      refine lv_dup2_11 hx hb dX4_checkRoom_34 rfl rfl ?_
      obtain ⟨x35, hg, h⟩ := ob h
      refine wz_ald C hW hg dX4_checkRoom_35 ?_
      refine lv_iconst (v := 1) hx hb dX4_checkRoom_36 (by decide) ?_
      refine lv_iadd hx hb dX4_checkRoom_37 ?_
      obtain ⟨z38, hg, h⟩ := ob h
      refine wz_ast C hW hg dX4_checkRoom_38 (fun H locs hW => ?_)
      refine lv_aload_n hx hb dX4_checkRoom_39 rfl (lv_at hl 1 rfl) ?_
      obtain ⟨b40, hg, h⟩ := ob h
      refine wz_gN C hW flX4_27 hg dX4_checkRoom_40 ?_
      refine lv_iload_n hx hb dX4_checkRoom_43 rfl (lv_at hl 0 rfl) ?_
      obtain ⟨x44, hg, h⟩ := ob h
      refine wz_ald C hW hg dX4_checkRoom_44 ?_
      refine wz_gets (i := 4) (by decide) rfl (tw 292 (by decide +kernel) rfl) C hW dX4_checkRoom_45 ?_
      refine lv_iload_n hx hb dX4_checkRoom_48 rfl (lv_at hl 0 rfl) ?_
      obtain ⟨x49, hg, h⟩ := ob h
      refine wz_sld (i := 4) (by decide) C hW hg dX4_checkRoom_49 ?_
      refine lv_icmp_le (tgt := 64) hx hb dX4_checkRoom_50 (by decide) (fun c50 => ?_) (fun c50 => ?_)
      · have h := ite_t c50 h
        exact wz_vretE C hlk hr (Option.some.inj h) hW dX4_checkRoom_64
      · have h := ite_f c50 h
        refine lv_aload_n hx hb dX4_checkRoom_53 rfl (lv_at hl 1 rfl) ?_
        refine lv_iconst (v := 3) hx hb dX4_checkRoom_54 (by decide) ?_
        refine lv_aload_n hx hb dX4_checkRoom_55 rfl (lv_at hl 1 rfl) ?_
        obtain ⟨b56, hg, h⟩ := ob h
        refine wz_gN C hW flX4_15 hg dX4_checkRoom_56 ?_
        refine lv_iload_n hx hb dX4_checkRoom_59 rfl (lv_at hl 2 rfl) ?_
        obtain ⟨x60, hg, h⟩ := ob h
        refine wz_ald C hW hg dX4_checkRoom_60 ?_
        obtain ⟨z61, hq, h⟩ := ob h
        refine wz_rV (c' := 0) (s' := 0) hW (wz_runV (rest := []) C hW lVX4_105 (ck hq).1 rfl (ctX4_find l G a0 (3 : Int32) x60 z38 hq) ⟨⟨rfl, rfl⟩, Nat.le_of_ble_eq_true rfl, Nat.le_of_ble_eq_true rfl⟩ rfl hl.1 rfl (Nat.le_of_ble_eq_true rfl) dX4_checkRoom_61 ⟨Nat.le_of_ble_eq_true rfl, Nat.le_of_ble_eq_true rfl⟩) rfl rfl (fun H locs hW => ?_)
        exact wz_vretE C hlk hr (Option.some.inj h) hW dX4_checkRoom_64
    · have h := ite_f c25 h
      exact wz_vretE C hlk hr (Option.some.inj h) hW dX4_checkRoom_28
theorem dX4_checkLines_0 : decode cX4_checkLines 0 = .ok (.iconst 0, 1) := by decide +kernel
theorem dX4_checkLines_1 : decode cX4_checkLines 1 = .ok (.istore_n 1, 1) := by decide +kernel
theorem dX4_checkLines_2 : decode cX4_checkLines 2 = .ok (.iload_n 1, 1) := by decide +kernel
theorem dX4_checkLines_3 : decode cX4_checkLines 3 = .ok (.aload_n 0, 1) := by decide +kernel
theorem dX4_checkLines_4 : decode cX4_checkLines 4 = .ok (.getfield 27, 3) := by decide +kernel
theorem dX4_checkLines_7 : decode cX4_checkLines 7 = .ok (.arraylength, 1) := by decide +kernel
theorem dX4_checkLines_8 : decode cX4_checkLines 8 = .ok (.if_icmp .ge 16, 3) := by decide +kernel
theorem dX4_checkLines_11 : decode cX4_checkLines 11 = .ok (.aload_n 0, 1) := by decide +kernel
theorem dX4_checkLines_12 : decode cX4_checkLines 12 = .ok (.getfield 27, 3) := by decide +kernel
theorem dX4_checkLines_15 : decode cX4_checkLines 15 = .ok (.iload_n 1, 1) := by decide +kernel
theorem dX4_checkLines_16 : decode cX4_checkLines 16 = .ok (.iconst 0, 1) := by decide +kernel
theorem dX4_checkLines_17 : decode cX4_checkLines 17 = .ok (.iastore, 1) := by decide +kernel
theorem dX4_checkLines_18 : decode cX4_checkLines 18 = .ok (.iinc 1 1, 3) := by decide +kernel
theorem dX4_checkLines_21 : decode cX4_checkLines 21 = .ok (.goto (-19), 3) := by decide +kernel
theorem dX4_checkLines_24 : decode cX4_checkLines 24 = .ok (.iconst 0, 1) := by decide +kernel
theorem dX4_checkLines_25 : decode cX4_checkLines 25 = .ok (.istore_n 1, 1) := by decide +kernel
theorem dX4_checkLines_26 : decode cX4_checkLines 26 = .ok (.iload_n 1, 1) := by decide +kernel
theorem dX4_checkLines_27 : decode cX4_checkLines 27 = .ok (.aload_n 0, 1) := by decide +kernel
theorem dX4_checkLines_28 : decode cX4_checkLines 28 = .ok (.getfield 53, 3) := by decide +kernel
theorem dX4_checkLines_31 : decode cX4_checkLines 31 = .ok (.if_icmp .ge 71, 3) := by decide +kernel
theorem dX4_checkLines_34 : decode cX4_checkLines 34 = .ok (.iload_n 1, 1) := by decide +kernel
theorem dX4_checkLines_35 : decode cX4_checkLines 35 = .ok (.bipush 120, 2) := by decide +kernel
theorem dX4_checkLines_37 : decode cX4_checkLines 37 = .ok (.if_icmp .ge 65, 3) := by decide +kernel
theorem dX4_checkLines_40 : decode cX4_checkLines 40 = .ok (.aload_n 0, 1) := by decide +kernel
theorem dX4_checkLines_41 : decode cX4_checkLines 41 = .ok (.getfield 56, 3) := by decide +kernel
theorem dX4_checkLines_44 : decode cX4_checkLines 44 = .ok (.ifCond .ne 58, 3) := by decide +kernel
theorem dX4_checkLines_47 : decode cX4_checkLines 47 = .ok (.aload_n 0, 1) := by decide +kernel
theorem dX4_checkLines_48 : decode cX4_checkLines 48 = .ok (.iload_n 1, 1) := by decide +kernel
theorem dX4_checkLines_49 : decode cX4_checkLines 49 = .ok (.invokevirtual 139, 3) := by decide +kernel
theorem dX4_checkLines_52 : decode cX4_checkLines 52 = .ok (.iconst 0, 1) := by decide +kernel
theorem dX4_checkLines_53 : decode cX4_checkLines 53 = .ok (.istore_n 2, 1) := by decide +kernel
theorem dX4_checkLines_54 : decode cX4_checkLines 54 = .ok (.iload_n 2, 1) := by decide +kernel
theorem dX4_checkLines_55 : decode cX4_checkLines 55 = .ok (.iconst 3, 1) := by decide +kernel
theorem dX4_checkLines_56 : decode cX4_checkLines 56 = .ok (.if_icmp .ge 40, 3) := by decide +kernel
theorem dX4_checkLines_59 : decode cX4_checkLines 59 = .ok (.aload_n 0, 1) := by decide +kernel
theorem dX4_checkLines_60 : decode cX4_checkLines 60 = .ok (.getfield 56, 3) := by decide +kernel
theorem dX4_checkLines_63 : decode cX4_checkLines 63 = .ok (.ifCond .ne 33, 3) := by decide +kernel
theorem dX4_checkLines_66 : decode cX4_checkLines 66 = .ok (.aload_n 0, 1) := by decide +kernel
theorem dX4_checkLines_67 : decode cX4_checkLines 67 = .ok (.iload_n 1, 1) := by decide +kernel
theorem dX4_checkLines_68 : decode cX4_checkLines 68 = .ok (.iload_n 2, 1) := by decide +kernel
theorem dX4_checkLines_69 : decode cX4_checkLines 69 = .ok (.invokevirtual 142, 3) := by decide +kernel
theorem dX4_checkLines_72 : decode cX4_checkLines 72 = .ok (.ifCond .ne 18, 3) := by decide +kernel
theorem dX4_checkLines_75 : decode cX4_checkLines 75 = .ok (.aload_n 0, 1) := by decide +kernel
theorem dX4_checkLines_76 : decode cX4_checkLines 76 = .ok (.iconst 2, 1) := by decide +kernel
theorem dX4_checkLines_77 : decode cX4_checkLines 77 = .ok (.aload_n 0, 1) := by decide +kernel
theorem dX4_checkLines_78 : decode cX4_checkLines 78 = .ok (.getfield 21, 3) := by decide +kernel
theorem dX4_checkLines_81 : decode cX4_checkLines 81 = .ok (.iconst 3, 1) := by decide +kernel
theorem dX4_checkLines_82 : decode cX4_checkLines 82 = .ok (.iload_n 1, 1) := by decide +kernel
theorem dX4_checkLines_83 : decode cX4_checkLines 83 = .ok (.imul, 1) := by decide +kernel
theorem dX4_checkLines_84 : decode cX4_checkLines 84 = .ok (.iload_n 2, 1) := by decide +kernel
theorem dX4_checkLines_85 : decode cX4_checkLines 85 = .ok (.iadd, 1) := by decide +kernel
theorem dX4_checkLines_86 : decode cX4_checkLines 86 = .ok (.iaload, 1) := by decide +kernel
theorem dX4_checkLines_87 : decode cX4_checkLines 87 = .ok (.invokevirtual 105, 3) := by decide +kernel
theorem dX4_checkLines_90 : decode cX4_checkLines 90 = .ok (.iinc 2 1, 3) := by decide +kernel
theorem dX4_checkLines_93 : decode cX4_checkLines 93 = .ok (.goto (-39), 3) := by decide +kernel
theorem dX4_checkLines_96 : decode cX4_checkLines 96 = .ok (.iinc 1 1, 3) := by decide +kernel
theorem dX4_checkLines_99 : decode cX4_checkLines 99 = .ok (.goto (-73), 3) := by decide +kernel
theorem dX4_checkLines_102 : decode cX4_checkLines 102 = .ok (.return_, 1) := by decide +kernel
theorem cdX4_canBe : Cond.code yX4_canBe cX4_canBe 8 (some .boolean) ∈ tz := tc3 51 rfl rfl
theorem lVX4_142 : LV RX4 142 yX4_canBe cX4_canBe 8 (some .boolean) 2 := ⟨tw 647 (by decide +kernel) rfl, tw 649 (by decide +kernel) rfl, tw 11 (by decide +kernel) rfl, tw 123 (by decide +kernel) rfl, cdX4_canBe, ⟨by decide +kernel, by decide +kernel, by decide +kernel⟩⟩
theorem cdX4_checkRoom : Cond.code yX4_checkRoom cX4_checkRoom 3 none ∈ tz := tc3 44 rfl rfl
theorem lVX4_139 : LV RX4 139 yX4_checkRoom cX4_checkRoom 3 none 1 := ⟨tw 640 (by decide +kernel) rfl, tw 642 (by decide +kernel) rfl, tw 10 (by decide +kernel) rfl, tw 123 (by decide +kernel) rfl, cdX4_checkRoom, ⟨by decide +kernel, by decide +kernel, by decide +kernel⟩⟩
abbrev rmX4_checkLines : Room := { frames := 2, cells := 0, slots := 0, locals := 48 }
def bX4_checkLines_54 (k26 : Nat → Int32 → AH → Option AH) (k54 : Nat → Int32 → Int32 → AH → Option AH) (a0 : Nat) (l1 : Int32) (l2 : Int32) (z : AH) : Option AH :=
  if (3 : Int32) ≤ l2 then (
    nm (l1 + (1 : Int32)) fun v96 =>
    k26 a0 v96 z
  ) else (
    (gI 3 13 z a0).bind fun x60 =>
    if x60 = (0 : Int32) then (
      (fX4_canBe a0 l1 l2 z).bind fun x69 =>
      if x69 = (0 : Int32) then (
        (gN 3 3 z a0).bind fun b78 =>
        (ixI 0 z b78 (((3 : Int32) * l1) + l2)).bind fun x86 =>
        (fX4_find a0 (2 : Int32) x86 z).bind fun z87 =>
        nm (l2 + (1 : Int32)) fun v90 =>
        k54 a0 l1 v90 z87
      ) else (
        nm (l2 + (1 : Int32)) fun v90 =>
        k54 a0 l1 v90 z
      )
    ) else (
      nm (l1 + (1 : Int32)) fun v96 =>
      k26 a0 v96 z
    )
  )
set_option maxHeartbeats 4000000 in
set_option maxRecDepth 100000 in
theorem kbX4_checkLines_54 {p : Program} {l : Launch} {e : Env} {s : State} {m : MethodId} {args : Array Value} {below : List Frame} {meth : Method} {c : Code} {G : GW} {z' : AH} (C : Cx p m c cX4_checkLines 3 s args RX4 G) (hlk : meth.locks = false) (hr : meth.sig.returnType = none) (k26 : Nat → Int32 → AH → Option AH) (k54 : Nat → Int32 → Int32 → AH → Option AH) (hk26 : ∀ (a0 : Nat) (l1 : Int32) (z : AH) (H : Heap) (locs : List Loc) (ls : Array Slot), k26 a0 l1 z = some z' → Wb G z s H locs → lv_has ls 3 [(0, .ref (gB G + a0)), (1, .int l1)] → W p l e rmX4_checkLines s m args below meth c H locs 0 0 (MQ below (Qv G z') args s 0 0 (AA G)) (F0 m 26 ls [])) (hk54 : ∀ (a0 : Nat) (l1 : Int32) (l2 : Int32) (z : AH) (H : Heap) (locs : List Loc) (ls : Array Slot), k54 a0 l1 l2 z = some z' → Wb G z s H locs → lv_has ls 3 [(0, .ref (gB G + a0)), (1, .int l1), (2, .int l2)] → W p l e rmX4_checkLines s m args below meth c H locs 0 0 (MQ below (Qv G z') args s 0 0 (AA G)) (F0 m 54 ls [])) (a0 : Nat) (l1 : Int32) (l2 : Int32) {z : AH} {H : Heap} {locs : List Loc} {ls : Array Slot} (h : bX4_checkLines_54 k26 k54 a0 l1 l2 z = some z') (hW : Wb G z s H locs) (hl : lv_has ls 3 [(0, .ref (gB G + a0)), (1, .int l1), (2, .int l2)]) : W p l e rmX4_checkLines s m args below meth c H locs 0 0 (MQ below (Qv G z') args s 0 0 (AA G)) (F0 m 54 ls []) := by
  have hx := C.1
  have hb := C.2.1
  unfold bX4_checkLines_54 at h
  refine lv_iload_n hx hb dX4_checkLines_54 rfl (lv_at hl 2 rfl) ?_
  refine lv_iconst (v := 3) hx hb dX4_checkLines_55 (by decide) ?_
  refine lv_icmp_ge (tgt := 96) hx hb dX4_checkLines_56 (by decide) (fun c56 => ?_) (fun c56 => ?_)
  · have h := ite_t c56 h
    obtain ⟨v96, ev96⟩ : ∃ y : Int32, y = (l1 + (1 : Int32)) := ⟨_, rfl⟩
    have h := nm_to h ev96
    refine lv_iinc (v := v96) (lv' := [(1, .int v96), (0, .ref (gB G + a0)), (2, .int l2)]) hx hb dX4_checkLines_96 hl (k := 1) rfl (by rw [ev96]; rfl) (by decide) rfl (fun ls hl => ?_)
    refine lv_goto (tgt := 26) hx hb dX4_checkLines_99 (by decide) ?_
    exact hk26 a0 v96 z _ _ _ h hW (lv_sub hl [1, 0] rfl)
  · have h := ite_f c56 h
    refine lv_aload_n hx hb dX4_checkLines_59 rfl (lv_at hl 0 rfl) ?_
    obtain ⟨x60, hg, h⟩ := ob h
    refine wz_gI C hW flX4_56 hg dX4_checkLines_60 ?_
    refine lv_if_ne (tgt := 96) hx hb dX4_checkLines_63 (by decide) (fun c63 => ?_) (fun c63 => ?_)
    · have h := ite_f c63 h
      obtain ⟨v96, ev96⟩ : ∃ y : Int32, y = (l1 + (1 : Int32)) := ⟨_, rfl⟩
      have h := nm_to h ev96
      refine lv_iinc (v := v96) (lv' := [(1, .int v96), (0, .ref (gB G + a0)), (2, .int l2)]) hx hb dX4_checkLines_96 hl (k := 1) rfl (by rw [ev96]; rfl) (by decide) rfl (fun ls hl => ?_)
      refine lv_goto (tgt := 26) hx hb dX4_checkLines_99 (by decide) ?_
      exact hk26 a0 v96 z _ _ _ h hW (lv_sub hl [1, 0] rfl)
    · have h := ite_t c63 h
      refine lv_aload_n hx hb dX4_checkLines_66 rfl (lv_at hl 0 rfl) ?_
      refine lv_iload_n hx hb dX4_checkLines_67 rfl (lv_at hl 1 rfl) ?_
      refine lv_iload_n hx hb dX4_checkLines_68 rfl (lv_at hl 2 rfl) ?_
      obtain ⟨x69, hq, h⟩ := ob h
      refine wz_rI (c' := 0) (s' := 0) hW (wz_runV (rest := []) C hW lVX4_142 (ck hq).1 rfl (ctX4_canBe l G a0 l1 l2 z hq) ⟨⟨rfl, rfl⟩, Nat.le_of_ble_eq_true rfl, Nat.le_of_ble_eq_true rfl⟩ rfl hl.1 rfl (Nat.le_of_ble_eq_true rfl) dX4_checkLines_69 ⟨Nat.le_of_ble_eq_true rfl, Nat.le_of_ble_eq_true rfl⟩) rfl rfl (fun H locs hW => ?_)
      refine lv_if_ne (tgt := 90) hx hb dX4_checkLines_72 (by decide) (fun c72 => ?_) (fun c72 => ?_)
      · have h := ite_f c72 h
        obtain ⟨v90, ev90⟩ : ∃ y : Int32, y = (l2 + (1 : Int32)) := ⟨_, rfl⟩
        have h := nm_to h ev90
        refine lv_iinc (v := v90) (lv' := [(2, .int v90), (0, .ref (gB G + a0)), (1, .int l1)]) hx hb dX4_checkLines_90 hl (k := 2) rfl (by rw [ev90]; rfl) (by decide) rfl (fun ls hl => ?_)
        refine lv_goto (tgt := 54) hx hb dX4_checkLines_93 (by decide) ?_
        exact hk54 a0 l1 v90 z _ _ _ h hW (lv_sub hl [1, 2, 0] rfl)
      · have h := ite_t c72 h
        refine lv_aload_n hx hb dX4_checkLines_75 rfl (lv_at hl 0 rfl) ?_
        refine lv_iconst (v := 2) hx hb dX4_checkLines_76 (by decide) ?_
        refine lv_aload_n hx hb dX4_checkLines_77 rfl (lv_at hl 0 rfl) ?_
        obtain ⟨b78, hg, h⟩ := ob h
        refine wz_gN C hW flX4_21 hg dX4_checkLines_78 ?_
        refine lv_iconst (v := 3) hx hb dX4_checkLines_81 (by decide) ?_
        refine lv_iload_n hx hb dX4_checkLines_82 rfl (lv_at hl 1 rfl) ?_
        refine lv_imul hx hb dX4_checkLines_83 ?_
        refine lv_iload_n hx hb dX4_checkLines_84 rfl (lv_at hl 2 rfl) ?_
        refine lv_iadd hx hb dX4_checkLines_85 ?_
        obtain ⟨x86, hg, h⟩ := ob h
        refine wz_ald C hW hg dX4_checkLines_86 ?_
        obtain ⟨z87, hq, h⟩ := ob h
        refine wz_rV (c' := 0) (s' := 0) hW (wz_runV (rest := []) C hW lVX4_105 (ck hq).1 rfl (ctX4_find l G a0 (2 : Int32) x86 z hq) ⟨⟨rfl, rfl⟩, Nat.le_of_ble_eq_true rfl, Nat.le_of_ble_eq_true rfl⟩ rfl hl.1 rfl (Nat.le_of_ble_eq_true rfl) dX4_checkLines_87 ⟨Nat.le_of_ble_eq_true rfl, Nat.le_of_ble_eq_true rfl⟩) rfl rfl (fun H locs hW => ?_)
        obtain ⟨v90, ev90⟩ : ∃ y : Int32, y = (l2 + (1 : Int32)) := ⟨_, rfl⟩
        have h := nm_to h ev90
        refine lv_iinc (v := v90) (lv' := [(2, .int v90), (0, .ref (gB G + a0)), (1, .int l1)]) hx hb dX4_checkLines_90 hl (k := 2) rfl (by rw [ev90]; rfl) (by decide) rfl (fun ls hl => ?_)
        refine lv_goto (tgt := 54) hx hb dX4_checkLines_93 (by decide) ?_
        exact hk54 a0 l1 v90 z87 _ _ _ h hW (lv_sub hl [1, 2, 0] rfl)
def fX4_checkLines_54 (k26 : Nat → Int32 → AH → Option AH) : Nat → Nat → Int32 → Int32 → AH → Option AH
  | 0, _, _, _, _ => none
  | n + 1, a0, l1, l2, z => bX4_checkLines_54 k26 (fX4_checkLines_54 k26 n) a0 l1 l2 z
theorem klX4_checkLines_54 {p : Program} {l : Launch} {e : Env} {s : State} {m : MethodId} {args : Array Value} {below : List Frame} {meth : Method} {c : Code} {G : GW} {z' : AH} (C : Cx p m c cX4_checkLines 3 s args RX4 G) (hlk : meth.locks = false) (hr : meth.sig.returnType = none) (k26 : Nat → Int32 → AH → Option AH) (hk26 : ∀ (a0 : Nat) (l1 : Int32) (z : AH) (H : Heap) (locs : List Loc) (ls : Array Slot), k26 a0 l1 z = some z' → Wb G z s H locs → lv_has ls 3 [(0, .ref (gB G + a0)), (1, .int l1)] → W p l e rmX4_checkLines s m args below meth c H locs 0 0 (MQ below (Qv G z') args s 0 0 (AA G)) (F0 m 26 ls [])) : ∀ (n : Nat) (a0 : Nat) (l1 : Int32) (l2 : Int32) (z : AH) (H : Heap) (locs : List Loc) (ls : Array Slot), fX4_checkLines_54 k26 n a0 l1 l2 z = some z' → Wb G z s H locs → lv_has ls 3 [(0, .ref (gB G + a0)), (1, .int l1), (2, .int l2)] → W p l e rmX4_checkLines s m args below meth c H locs 0 0 (MQ below (Qv G z') args s 0 0 (AA G)) (F0 m 54 ls []) := by
  intro n
  induction n with
  | zero => intro a0 l1 l2 z H locs ls h; have h : (none : Option AH) = some z' := h; cases h
  | succ n ih => intro a0 l1 l2 z H locs ls h hW hl; exact kbX4_checkLines_54 C hlk hr k26 (fX4_checkLines_54 k26 n) hk26 (fun a0 l1 l2 z H locs ls h hW hl => ih a0 l1 l2 z H locs ls h hW hl) a0 l1 l2 h hW hl
def bX4_checkLines_26 (k26 : Nat → Int32 → AH → Option AH) (a0 : Nat) (l1 : Int32) (z : AH) : Option AH :=
  (gI 3 5 z a0).bind fun x28 =>
  if x28 ≤ l1 then (
    some z
  ) else (
    if (120 : Int32) ≤ l1 then (
      some z
    ) else (
      (gI 3 13 z a0).bind fun x41 =>
      if x41 = (0 : Int32) then (
        (fX4_checkRoom a0 l1 z).bind fun z49 =>
        fX4_checkLines_54 k26 FU a0 l1 (0 : Int32) z49
      ) else (
        some z
      )
    )
  )
set_option maxHeartbeats 4000000 in
set_option maxRecDepth 100000 in
theorem kbX4_checkLines_26 {p : Program} {l : Launch} {e : Env} {s : State} {m : MethodId} {args : Array Value} {below : List Frame} {meth : Method} {c : Code} {G : GW} {z' : AH} (C : Cx p m c cX4_checkLines 3 s args RX4 G) (hlk : meth.locks = false) (hr : meth.sig.returnType = none) (k26 : Nat → Int32 → AH → Option AH) (hk26 : ∀ (a0 : Nat) (l1 : Int32) (z : AH) (H : Heap) (locs : List Loc) (ls : Array Slot), k26 a0 l1 z = some z' → Wb G z s H locs → lv_has ls 3 [(0, .ref (gB G + a0)), (1, .int l1)] → W p l e rmX4_checkLines s m args below meth c H locs 0 0 (MQ below (Qv G z') args s 0 0 (AA G)) (F0 m 26 ls [])) (a0 : Nat) (l1 : Int32) {z : AH} {H : Heap} {locs : List Loc} {ls : Array Slot} (h : bX4_checkLines_26 k26 a0 l1 z = some z') (hW : Wb G z s H locs) (hl : lv_has ls 3 [(0, .ref (gB G + a0)), (1, .int l1)]) : W p l e rmX4_checkLines s m args below meth c H locs 0 0 (MQ below (Qv G z') args s 0 0 (AA G)) (F0 m 26 ls []) := by
  have hx := C.1
  have hb := C.2.1
  unfold bX4_checkLines_26 at h
  refine lv_iload_n hx hb dX4_checkLines_26 rfl (lv_at hl 1 rfl) ?_
  refine lv_aload_n hx hb dX4_checkLines_27 rfl (lv_at hl 0 rfl) ?_
  obtain ⟨x28, hg, h⟩ := ob h
  refine wz_gI C hW flX4_53 hg dX4_checkLines_28 ?_
  refine lv_icmp_ge (tgt := 102) hx hb dX4_checkLines_31 (by decide) (fun c31 => ?_) (fun c31 => ?_)
  · have h := ite_t c31 h
    exact wz_vretE C hlk hr (Option.some.inj h) hW dX4_checkLines_102
  · have h := ite_f c31 h
    refine lv_iload_n hx hb dX4_checkLines_34 rfl (lv_at hl 1 rfl) ?_
    refine lv_bipush (v := 120) hx hb dX4_checkLines_35 (by decide) ?_
    refine lv_icmp_ge (tgt := 102) hx hb dX4_checkLines_37 (by decide) (fun c37 => ?_) (fun c37 => ?_)
    · have h := ite_t c37 h
      exact wz_vretE C hlk hr (Option.some.inj h) hW dX4_checkLines_102
    · have h := ite_f c37 h
      refine lv_aload_n hx hb dX4_checkLines_40 rfl (lv_at hl 0 rfl) ?_
      obtain ⟨x41, hg, h⟩ := ob h
      refine wz_gI C hW flX4_56 hg dX4_checkLines_41 ?_
      refine lv_if_ne (tgt := 102) hx hb dX4_checkLines_44 (by decide) (fun c44 => ?_) (fun c44 => ?_)
      · have h := ite_f c44 h
        exact wz_vretE C hlk hr (Option.some.inj h) hW dX4_checkLines_102
      · have h := ite_t c44 h
        refine lv_aload_n hx hb dX4_checkLines_47 rfl (lv_at hl 0 rfl) ?_
        refine lv_iload_n hx hb dX4_checkLines_48 rfl (lv_at hl 1 rfl) ?_
        obtain ⟨z49, hq, h⟩ := ob h
        refine wz_rV (c' := 0) (s' := 0) hW (wz_runV (rest := []) C hW lVX4_139 (ck hq).1 rfl (ctX4_checkRoom l G a0 l1 z hq) ⟨⟨rfl, rfl⟩, Nat.le_of_ble_eq_true rfl, Nat.le_of_ble_eq_true rfl⟩ rfl hl.1 rfl (Nat.le_of_ble_eq_true rfl) dX4_checkLines_49 ⟨Nat.le_of_ble_eq_true rfl, Nat.le_of_ble_eq_true rfl⟩) rfl rfl (fun H locs hW => ?_)
        refine lv_iconst (v := 0) hx hb dX4_checkLines_52 (by decide) ?_
        refine lv_istore_n (lv' := [(2, .int (0 : Int32)), (0, .ref (gB G + a0)), (1, .int l1)]) hx hb dX4_checkLines_53 rfl hl (by decide) rfl (fun ls hl => ?_)
        exact klX4_checkLines_54 C hlk hr k26 hk26 FU a0 l1 (0 : Int32) z49 _ _ _ h hW (lv_sub hl [1, 2, 0] rfl)
def fX4_checkLines_26 : Nat → Nat → Int32 → AH → Option AH
  | 0, _, _, _ => none
  | n + 1, a0, l1, z => bX4_checkLines_26 (fX4_checkLines_26 n) a0 l1 z
theorem klX4_checkLines_26 {p : Program} {l : Launch} {e : Env} {s : State} {m : MethodId} {args : Array Value} {below : List Frame} {meth : Method} {c : Code} {G : GW} {z' : AH} (C : Cx p m c cX4_checkLines 3 s args RX4 G) (hlk : meth.locks = false) (hr : meth.sig.returnType = none) : ∀ (n : Nat) (a0 : Nat) (l1 : Int32) (z : AH) (H : Heap) (locs : List Loc) (ls : Array Slot), fX4_checkLines_26 n a0 l1 z = some z' → Wb G z s H locs → lv_has ls 3 [(0, .ref (gB G + a0)), (1, .int l1)] → W p l e rmX4_checkLines s m args below meth c H locs 0 0 (MQ below (Qv G z') args s 0 0 (AA G)) (F0 m 26 ls []) := by
  intro n
  induction n with
  | zero => intro a0 l1 z H locs ls h; have h : (none : Option AH) = some z' := h; cases h
  | succ n ih => intro a0 l1 z H locs ls h hW hl; exact kbX4_checkLines_26 C hlk hr (fX4_checkLines_26 n) (fun a0 l1 z H locs ls h hW hl => ih a0 l1 z H locs ls h hW hl) a0 l1 h hW hl
def bX4_checkLines_2 (k2 : Nat → Int32 → AH → Option AH) (a0 : Nat) (l1 : Int32) (z : AH) : Option AH :=
  (gN 3 4 z a0).bind fun b4 =>
  (lnI 0 z b4).bind fun x7 =>
  if x7 ≤ l1 then (
    fX4_checkLines_26 FU a0 (0 : Int32) z
  ) else (
    (gN 3 4 z a0).bind fun b12 =>
    (stI 0 z b12 l1 (0 : Int32)).bind fun z17 =>
    nm (l1 + (1 : Int32)) fun v18 =>
    k2 a0 v18 z17
  )
set_option maxHeartbeats 4000000 in
set_option maxRecDepth 100000 in
theorem kbX4_checkLines_2 {p : Program} {l : Launch} {e : Env} {s : State} {m : MethodId} {args : Array Value} {below : List Frame} {meth : Method} {c : Code} {G : GW} {z' : AH} (C : Cx p m c cX4_checkLines 3 s args RX4 G) (hlk : meth.locks = false) (hr : meth.sig.returnType = none) (k2 : Nat → Int32 → AH → Option AH) (hk2 : ∀ (a0 : Nat) (l1 : Int32) (z : AH) (H : Heap) (locs : List Loc) (ls : Array Slot), k2 a0 l1 z = some z' → Wb G z s H locs → lv_has ls 3 [(0, .ref (gB G + a0)), (1, .int l1)] → W p l e rmX4_checkLines s m args below meth c H locs 0 0 (MQ below (Qv G z') args s 0 0 (AA G)) (F0 m 2 ls [])) (a0 : Nat) (l1 : Int32) {z : AH} {H : Heap} {locs : List Loc} {ls : Array Slot} (h : bX4_checkLines_2 k2 a0 l1 z = some z') (hW : Wb G z s H locs) (hl : lv_has ls 3 [(0, .ref (gB G + a0)), (1, .int l1)]) : W p l e rmX4_checkLines s m args below meth c H locs 0 0 (MQ below (Qv G z') args s 0 0 (AA G)) (F0 m 2 ls []) := by
  have hx := C.1
  have hb := C.2.1
  unfold bX4_checkLines_2 at h
  refine lv_iload_n hx hb dX4_checkLines_2 rfl (lv_at hl 1 rfl) ?_
  refine lv_aload_n hx hb dX4_checkLines_3 rfl (lv_at hl 0 rfl) ?_
  obtain ⟨b4, hg, h⟩ := ob h
  refine wz_gN C hW flX4_27 hg dX4_checkLines_4 ?_
  obtain ⟨x7, hg, h⟩ := ob h
  refine wz_len C hW hg dX4_checkLines_7 ?_
  refine lv_icmp_ge (tgt := 24) hx hb dX4_checkLines_8 (by decide) (fun c8 => ?_) (fun c8 => ?_)
  · have h := ite_t c8 h
    refine lv_iconst (v := 0) hx hb dX4_checkLines_24 (by decide) ?_
    refine lv_istore_n (lv' := [(1, .int (0 : Int32)), (0, .ref (gB G + a0))]) hx hb dX4_checkLines_25 rfl hl (by decide) rfl (fun ls hl => ?_)
    exact klX4_checkLines_26 C hlk hr FU a0 (0 : Int32) z _ _ _ h hW (lv_sub hl [1, 0] rfl)
  · have h := ite_f c8 h
    refine lv_aload_n hx hb dX4_checkLines_11 rfl (lv_at hl 0 rfl) ?_
    obtain ⟨b12, hg, h⟩ := ob h
    refine wz_gN C hW flX4_27 hg dX4_checkLines_12 ?_
    refine lv_iload_n hx hb dX4_checkLines_15 rfl (lv_at hl 1 rfl) ?_
    refine lv_iconst (v := 0) hx hb dX4_checkLines_16 (by decide) ?_
    obtain ⟨z17, hg, h⟩ := ob h
    refine wz_ast C hW hg dX4_checkLines_17 (fun H locs hW => ?_)
    obtain ⟨v18, ev18⟩ : ∃ y : Int32, y = (l1 + (1 : Int32)) := ⟨_, rfl⟩
    have h := nm_to h ev18
    refine lv_iinc (v := v18) (lv' := [(1, .int v18), (0, .ref (gB G + a0))]) hx hb dX4_checkLines_18 hl (k := 1) rfl (by rw [ev18]; rfl) (by decide) rfl (fun ls hl => ?_)
    refine lv_goto (tgt := 2) hx hb dX4_checkLines_21 (by decide) ?_
    exact hk2 a0 v18 z17 _ _ _ h hW (lv_sub hl [1, 0] rfl)
def fX4_checkLines_2 : Nat → Nat → Int32 → AH → Option AH
  | 0, _, _, _ => none
  | n + 1, a0, l1, z => bX4_checkLines_2 (fX4_checkLines_2 n) a0 l1 z
theorem klX4_checkLines_2 {p : Program} {l : Launch} {e : Env} {s : State} {m : MethodId} {args : Array Value} {below : List Frame} {meth : Method} {c : Code} {G : GW} {z' : AH} (C : Cx p m c cX4_checkLines 3 s args RX4 G) (hlk : meth.locks = false) (hr : meth.sig.returnType = none) : ∀ (n : Nat) (a0 : Nat) (l1 : Int32) (z : AH) (H : Heap) (locs : List Loc) (ls : Array Slot), fX4_checkLines_2 n a0 l1 z = some z' → Wb G z s H locs → lv_has ls 3 [(0, .ref (gB G + a0)), (1, .int l1)] → W p l e rmX4_checkLines s m args below meth c H locs 0 0 (MQ below (Qv G z') args s 0 0 (AA G)) (F0 m 2 ls []) := by
  intro n
  induction n with
  | zero => intro a0 l1 z H locs ls h; have h : (none : Option AH) = some z' := h; cases h
  | succ n ih => intro a0 l1 z H locs ls h hW hl; exact kbX4_checkLines_2 C hlk hr (fX4_checkLines_2 n) (fun a0 l1 z H locs ls h hW hl => ih a0 l1 z H locs ls h hW hl) a0 l1 h hW hl
def fX4_checkLines (a0 : Nat) (z : AH) : Option AH :=
  if isO 3 z a0 = true then
    fX4_checkLines_2 FU a0 (0 : Int32) z
  else none
set_option maxHeartbeats 4000000 in
set_option maxRecDepth 100000 in
theorem ctX4_checkLines (l : Launch) (G : GW) (a0 : Nat) (z : AH) {z' : AH} (h : fX4_checkLines a0 z = some z') : Met l yX4_checkLines (wy yX4_checkLines cX4_checkLines 3 none) rmX4_checkLines (Pz G [.ref (gB G + a0)] z) (Qv G z') 0 0 (AA G) := by
  refine wz_ent (own := RX4) (by decide +kernel) rfl (fun p e s m below meth c ls C hlk hr hin hW hl => ?_) (Nat.le_of_ble_eq_true rfl)
  have hl : lv_has ls 3 [(0, .ref (gB G + a0))] := hl
  have hx := C.1
  have hb := C.2.1
  unfold fX4_checkLines at h
  obtain ⟨-, h⟩ := ck h
  refine lv_iconst (v := 0) hx hb dX4_checkLines_0 (by decide) ?_
  refine lv_istore_n (lv' := [(1, .int (0 : Int32)), (0, .ref (gB G + a0))]) hx hb dX4_checkLines_1 rfl hl (by decide) rfl (fun ls hl => ?_)
  exact klX4_checkLines_2 C hlk hr FU a0 (0 : Int32) z _ _ _ h hW (lv_sub hl [1, 0] rfl)
theorem dX4_read_0 : decode cX4_read 0 = .ok (.aload_n 0, 1) := by decide +kernel
theorem dX4_read_1 : decode cX4_read 1 = .ok (.aload_n 1, 1) := by decide +kernel
theorem dX4_read_2 : decode cX4_read 2 = .ok (.putfield 30, 3) := by decide +kernel
theorem dX4_read_5 : decode cX4_read 5 = .ok (.aload_n 0, 1) := by decide +kernel
theorem dX4_read_6 : decode cX4_read 6 = .ok (.aload_n 1, 1) := by decide +kernel
theorem dX4_read_7 : decode cX4_read 7 = .ok (.ifnonnull 7, 3) := by decide +kernel
theorem dX4_read_10 : decode cX4_read 10 = .ok (.iconst 0, 1) := by decide +kernel
theorem dX4_read_11 : decode cX4_read 11 = .ok (.goto 9, 3) := by decide +kernel
theorem dX4_read_14 : decode cX4_read 14 = .ok (.iload_n 2, 1) := by decide +kernel
theorem dX4_read_15 : decode cX4_read 15 = .ok (.aload_n 1, 1) := by decide +kernel
theorem dX4_read_16 : decode cX4_read 16 = .ok (.arraylength, 1) := by decide +kernel
theorem dX4_read_17 : decode cX4_read 17 = .ok (.invokestatic 34, 3) := by decide +kernel
theorem dX4_read_20 : decode cX4_read 20 = .ok (.putfield 40, 3) := by decide +kernel
theorem dX4_read_23 : decode cX4_read 23 = .ok (.aload_n 0, 1) := by decide +kernel
theorem dX4_read_24 : decode cX4_read 24 = .ok (.iload_n 3, 1) := by decide +kernel
theorem dX4_read_25 : decode cX4_read 25 = .ok (.ifCond .lt 15, 3) := by decide +kernel
theorem dX4_read_28 : decode cX4_read 28 = .ok (.iload_n 3, 1) := by decide +kernel
theorem dX4_read_29 : decode cX4_read 29 = .ok (.getstatic 44, 3) := by decide +kernel
theorem dX4_read_32 : decode cX4_read 32 = .ok (.arraylength, 1) := by decide +kernel
theorem dX4_read_33 : decode cX4_read 33 = .ok (.if_icmp .ge 7, 3) := by decide +kernel
theorem dX4_read_36 : decode cX4_read 36 = .ok (.iload_n 3, 1) := by decide +kernel
theorem dX4_read_37 : decode cX4_read 37 = .ok (.goto 4, 3) := by decide +kernel
theorem dX4_read_40 : decode cX4_read 40 = .ok (.iconst 0, 1) := by decide +kernel
theorem dX4_read_41 : decode cX4_read 41 = .ok (.putfield 47, 3) := by decide +kernel
theorem dX4_read_44 : decode cX4_read 44 = .ok (.aload_n 0, 1) := by decide +kernel
theorem dX4_read_45 : decode cX4_read 45 = .ok (.iconst 0, 1) := by decide +kernel
theorem dX4_read_46 : decode cX4_read 46 = .ok (.putfield 50, 3) := by decide +kernel
theorem dX4_read_49 : decode cX4_read 49 = .ok (.aload_n 0, 1) := by decide +kernel
theorem dX4_read_50 : decode cX4_read 50 = .ok (.iconst 0, 1) := by decide +kernel
theorem dX4_read_51 : decode cX4_read 51 = .ok (.putfield 53, 3) := by decide +kernel
theorem dX4_read_54 : decode cX4_read 54 = .ok (.aload_n 0, 1) := by decide +kernel
theorem dX4_read_55 : decode cX4_read 55 = .ok (.iconst 0, 1) := by decide +kernel
theorem dX4_read_56 : decode cX4_read 56 = .ok (.putfield 56, 3) := by decide +kernel
theorem dX4_read_59 : decode cX4_read 59 = .ok (.aload_n 0, 1) := by decide +kernel
theorem dX4_read_60 : decode cX4_read 60 = .ok (.iconst (-1), 1) := by decide +kernel
theorem dX4_read_61 : decode cX4_read 61 = .ok (.putfield 59, 3) := by decide +kernel
theorem dX4_read_64 : decode cX4_read 64 = .ok (.aload_n 0, 1) := by decide +kernel
theorem dX4_read_65 : decode cX4_read 65 = .ok (.invokevirtual 62, 3) := by decide +kernel
theorem dX4_read_68 : decode cX4_read 68 = .ok (.aload_n 0, 1) := by decide +kernel
theorem dX4_read_69 : decode cX4_read 69 = .ok (.getfield 56, 3) := by decide +kernel
theorem dX4_read_72 : decode cX4_read 72 = .ok (.ifCond .ne 7, 3) := by decide +kernel
theorem dX4_read_75 : decode cX4_read 75 = .ok (.aload_n 0, 1) := by decide +kernel
theorem dX4_read_76 : decode cX4_read 76 = .ok (.invokevirtual 65, 3) := by decide +kernel
theorem dX4_read_79 : decode cX4_read 79 = .ok (.return_, 1) := by decide +kernel
theorem cdX4_readLines : Cond.code yX4_readLines cX4_readLines 2 none ∈ tz := tc2 178 rfl rfl
theorem lVX4_62 : LV RX4 62 yX4_readLines cX4_readLines 2 none 0 := ⟨tw 534 (by decide +kernel) rfl, tw 536 (by decide +kernel) rfl, tw 0 (by decide +kernel) rfl, tw 123 (by decide +kernel) rfl, cdX4_readLines, ⟨by decide +kernel, by decide +kernel, by decide +kernel⟩⟩
theorem cdX4_checkLines : Cond.code yX4_checkLines cX4_checkLines 3 none ∈ tz := tc3 40 rfl rfl
theorem lVX4_65 : LV RX4 65 yX4_checkLines cX4_checkLines 3 none 0 := ⟨tw 636 (by decide +kernel) rfl, tw 638 (by decide +kernel) rfl, tw 9 (by decide +kernel) rfl, tw 123 (by decide +kernel) rfl, cdX4_checkLines, ⟨by decide +kernel, by decide +kernel, by decide +kernel⟩⟩
abbrev rmX4_read : Room := { frames := 9, cells := 0, slots := 0, locals := 192 }
def bX4_read_41 (a0 : Nat) (s0 : Nat) (s1 : Int32) (z : AH) : Option AH :=
  (pF 3 6 z s0 (.int s1)).bind fun z41 =>
  (pF 3 9 z41 a0 (.int (0 : Int32))).bind fun z46 =>
  (pF 3 5 z46 a0 (.int (0 : Int32))).bind fun z51 =>
  (pF 3 13 z51 a0 (.int (0 : Int32))).bind fun z56 =>
  (pF 3 14 z56 a0 (.int (-1 : Int32))).bind fun z61 =>
  (fX4_readLines a0 z61).bind fun z65 =>
  (gI 3 13 z65 a0).bind fun x69 =>
  if x69 = (0 : Int32) then (
    (fX4_checkLines a0 z65).bind fun z76 =>
    some z76
  ) else (
    some z65
  )
set_option maxHeartbeats 4000000 in
set_option maxRecDepth 100000 in
theorem kbX4_read_41 {p : Program} {l : Launch} {e : Env} {s : State} {m : MethodId} {args : Array Value} {below : List Frame} {meth : Method} {c : Code} {G : GW} {z' : AH} (C : Cx p m c cX4_read 4 s args RX4 G) (hlk : meth.locks = false) (hr : meth.sig.returnType = none) (a0 : Nat) (s0 : Nat) (s1 : Int32) {z : AH} {H : Heap} {locs : List Loc} {ls : Array Slot} (h : bX4_read_41 a0 s0 s1 z = some z') (hW : Wb G z s H locs) (hl : lv_has ls 4 [(0, .ref (gB G + a0))]) : W p l e rmX4_read s m args below meth c H locs 0 0 (MQ below (Qv G z') args s 0 0 (AA G)) (F0 m 41 ls [.int s1, .ref (gB G + s0)]) := by
  have hx := C.1
  have hb := C.2.1
  unfold bX4_read_41 at h
  obtain ⟨z41, hg, h⟩ := ob h
  refine wz_put (v := (.int s1)) C hW flX4_47 rfl rfl hg dX4_read_41 (fun H locs hW => ?_)
  refine lv_aload_n hx hb dX4_read_44 rfl (lv_at hl 0 rfl) ?_
  refine lv_iconst (v := 0) hx hb dX4_read_45 (by decide) ?_
  obtain ⟨z46, hg, h⟩ := ob h
  refine wz_put (v := (.int (0 : Int32))) C hW flX4_50 rfl rfl hg dX4_read_46 (fun H locs hW => ?_)
  refine lv_aload_n hx hb dX4_read_49 rfl (lv_at hl 0 rfl) ?_
  refine lv_iconst (v := 0) hx hb dX4_read_50 (by decide) ?_
  obtain ⟨z51, hg, h⟩ := ob h
  refine wz_put (v := (.int (0 : Int32))) C hW flX4_53 rfl rfl hg dX4_read_51 (fun H locs hW => ?_)
  refine lv_aload_n hx hb dX4_read_54 rfl (lv_at hl 0 rfl) ?_
  refine lv_iconst (v := 0) hx hb dX4_read_55 (by decide) ?_
  obtain ⟨z56, hg, h⟩ := ob h
  refine wz_put (v := (.int (0 : Int32))) C hW flX4_56 rfl rfl hg dX4_read_56 (fun H locs hW => ?_)
  refine lv_aload_n hx hb dX4_read_59 rfl (lv_at hl 0 rfl) ?_
  refine lv_iconst (v := -1) hx hb dX4_read_60 (by decide) ?_
  obtain ⟨z61, hg, h⟩ := ob h
  refine wz_put (v := (.int (-1 : Int32))) C hW flX4_59 rfl rfl hg dX4_read_61 (fun H locs hW => ?_)
  refine lv_aload_n hx hb dX4_read_64 rfl (lv_at hl 0 rfl) ?_
  obtain ⟨z65, hq, h⟩ := ob h
  refine wz_rV (c' := 0) (s' := 0) hW (wz_runV (rest := []) C hW lVX4_62 (ck hq).1 rfl (ctX4_readLines l G a0 z61 hq) ⟨⟨rfl, rfl⟩, Nat.le_of_ble_eq_true rfl, Nat.le_of_ble_eq_true rfl⟩ rfl hl.1 rfl (Nat.le_of_ble_eq_true rfl) dX4_read_65 ⟨Nat.le_of_ble_eq_true rfl, Nat.le_of_ble_eq_true rfl⟩) rfl rfl (fun H locs hW => ?_)
  refine lv_aload_n hx hb dX4_read_68 rfl (lv_at hl 0 rfl) ?_
  obtain ⟨x69, hg, h⟩ := ob h
  refine wz_gI C hW flX4_56 hg dX4_read_69 ?_
  refine lv_if_ne (tgt := 79) hx hb dX4_read_72 (by decide) (fun c72 => ?_) (fun c72 => ?_)
  · have h := ite_f c72 h
    exact wz_vretE C hlk hr (Option.some.inj h) hW dX4_read_79
  · have h := ite_t c72 h
    refine lv_aload_n hx hb dX4_read_75 rfl (lv_at hl 0 rfl) ?_
    obtain ⟨z76, hq, h⟩ := ob h
    refine wz_rV (c' := 0) (s' := 0) hW (wz_runV (rest := []) C hW lVX4_65 (ck hq).1 rfl (ctX4_checkLines l G a0 z65 hq) ⟨⟨rfl, rfl⟩, Nat.le_of_ble_eq_true rfl, Nat.le_of_ble_eq_true rfl⟩ rfl hl.1 rfl (Nat.le_of_ble_eq_true rfl) dX4_read_76 ⟨Nat.le_of_ble_eq_true rfl, Nat.le_of_ble_eq_true rfl⟩) rfl rfl (fun H locs hW => ?_)
    exact wz_vretE C hlk hr (Option.some.inj h) hW dX4_read_79
def bX4_read_40 (a0 : Nat) (s0 : Nat) (z : AH) : Option AH :=
  bX4_read_41 a0 s0 (0 : Int32) z
set_option maxHeartbeats 4000000 in
set_option maxRecDepth 100000 in
theorem kbX4_read_40 {p : Program} {l : Launch} {e : Env} {s : State} {m : MethodId} {args : Array Value} {below : List Frame} {meth : Method} {c : Code} {G : GW} {z' : AH} (C : Cx p m c cX4_read 4 s args RX4 G) (hlk : meth.locks = false) (hr : meth.sig.returnType = none) (a0 : Nat) (s0 : Nat) {z : AH} {H : Heap} {locs : List Loc} {ls : Array Slot} (h : bX4_read_40 a0 s0 z = some z') (hW : Wb G z s H locs) (hl : lv_has ls 4 [(0, .ref (gB G + a0))]) : W p l e rmX4_read s m args below meth c H locs 0 0 (MQ below (Qv G z') args s 0 0 (AA G)) (F0 m 40 ls [.ref (gB G + s0)]) := by
  have hx := C.1
  have hb := C.2.1
  unfold bX4_read_40 at h
  refine lv_iconst (v := 0) hx hb dX4_read_40 (by decide) ?_
  exact kbX4_read_41 C hlk hr a0 s0 (0 : Int32) h hW (lv_sub hl [0] rfl)
def bX4_read_20 (a0 : Nat) (l3 : Int32) (s0 : Nat) (s1 : Int32) (z : AH) : Option AH :=
  (pF 3 8 z s0 (.int s1)).bind fun z20 =>
  if l3 < (0 : Int32) then (
    bX4_read_40 a0 a0 z20
  ) else (
    if (Int32.ofNat (sLen 0)) ≤ l3 then (
      bX4_read_40 a0 a0 z20
    ) else (
      bX4_read_41 a0 a0 l3 z20
    )
  )
set_option maxHeartbeats 4000000 in
set_option maxRecDepth 100000 in
theorem kbX4_read_20 {p : Program} {l : Launch} {e : Env} {s : State} {m : MethodId} {args : Array Value} {below : List Frame} {meth : Method} {c : Code} {G : GW} {z' : AH} (C : Cx p m c cX4_read 4 s args RX4 G) (hlk : meth.locks = false) (hr : meth.sig.returnType = none) (a0 : Nat) (l3 : Int32) (s0 : Nat) (s1 : Int32) {z : AH} {H : Heap} {locs : List Loc} {ls : Array Slot} (h : bX4_read_20 a0 l3 s0 s1 z = some z') (hW : Wb G z s H locs) (hl : lv_has ls 4 [(0, .ref (gB G + a0)), (3, .int l3)]) : W p l e rmX4_read s m args below meth c H locs 0 0 (MQ below (Qv G z') args s 0 0 (AA G)) (F0 m 20 ls [.int s1, .ref (gB G + s0)]) := by
  have hx := C.1
  have hb := C.2.1
  unfold bX4_read_20 at h
  obtain ⟨z20, hg, h⟩ := ob h
  refine wz_put (v := (.int s1)) C hW flX4_40 rfl rfl hg dX4_read_20 (fun H locs hW => ?_)
  refine lv_aload_n hx hb dX4_read_23 rfl (lv_at hl 0 rfl) ?_
  refine lv_iload_n hx hb dX4_read_24 rfl (lv_at hl 1 rfl) ?_
  refine lv_if_lt (tgt := 40) hx hb dX4_read_25 (by decide) (fun c25 => ?_) (fun c25 => ?_)
  · have h := ite_t c25 h
    exact kbX4_read_40 C hlk hr a0 a0 h hW (lv_sub hl [0] rfl)
  · have h := ite_f c25 h
    refine lv_iload_n hx hb dX4_read_28 rfl (lv_at hl 1 rfl) ?_
    refine wz_gets (i := 0) (by decide) rfl (tw 532 (by decide +kernel) rfl) C hW dX4_read_29 ?_
    refine wz_slen (i := 0) (by decide) C hW dX4_read_32 ?_
    refine lv_icmp_ge (tgt := 40) hx hb dX4_read_33 (by decide) (fun c33 => ?_) (fun c33 => ?_)
    · have h := ite_t c33 h
      exact kbX4_read_40 C hlk hr a0 a0 h hW (lv_sub hl [0] rfl)
    · have h := ite_f c33 h
      refine lv_iload_n hx hb dX4_read_36 rfl (lv_at hl 1 rfl) ?_
      refine lv_goto (tgt := 41) hx hb dX4_read_37 (by decide) ?_
      exact kbX4_read_41 C hlk hr a0 a0 l3 h hW (lv_sub hl [0] rfl)
def fX4_read (a0 : Nat) (a1 : Nat) (l2 : Int32) (l3 : Int32) (z : AH) : Option AH :=
  if isO 3 z a0 = true then
    (pF 3 7 z a0 (.ref a1)).bind fun z2 =>
    (lnI 1 z2 a1).bind fun x16 =>
    bX4_read_20 a0 l3 a0 (imin l2 x16) z2
  else none
set_option maxHeartbeats 4000000 in
set_option maxRecDepth 100000 in
theorem ctX4_read (l : Launch) (G : GW) (a0 : Nat) (a1 : Nat) (l2 : Int32) (l3 : Int32) (z : AH) {z' : AH} (h : fX4_read a0 a1 l2 l3 z = some z') : Met l yX4_read (wy yX4_read cX4_read 4 none) rmX4_read (Pz G [.ref (gB G + a0), .ref (gB G + a1), .int l2, .int l3] z) (Qv G z') 0 0 (AA G) := by
  refine wz_ent (own := RX4) (by decide +kernel) rfl (fun p e s m below meth c ls C hlk hr hin hW hl => ?_) (Nat.le_of_ble_eq_true rfl)
  have hl : lv_has ls 4 [(0, .ref (gB G + a0)), (1, .ref (gB G + a1)), (2, .int l2), (3, .int l3)] := hl
  have hx := C.1
  have hb := C.2.1
  unfold fX4_read at h
  obtain ⟨-, h⟩ := ck h
  refine lv_aload_n hx hb dX4_read_0 rfl (lv_at hl 0 rfl) ?_
  refine lv_aload_n hx hb dX4_read_1 rfl (lv_at hl 1 rfl) ?_
  obtain ⟨z2, hg, h⟩ := ob h
  refine wz_put (v := (.ref a1)) C hW flX4_30 rfl rfl hg dX4_read_2 (fun H locs hW => ?_)
  refine lv_aload_n hx hb dX4_read_5 rfl (lv_at hl 0 rfl) ?_
  refine lv_aload_n hx hb dX4_read_6 rfl (lv_at hl 1 rfl) ?_
  refine lv_ifnonnull (tgt := 14) hx hb dX4_read_7 (by decide) ?_
  refine lv_iload_n hx hb dX4_read_14 rfl (lv_at hl 2 rfl) ?_
  refine lv_aload_n hx hb dX4_read_15 rfl (lv_at hl 1 rfl) ?_
  obtain ⟨x16, hg, h⟩ := ob h
  refine wz_lenB C hW hg dX4_read_16 ?_
  refine wz_min ⟨tw 529 (by decide +kernel) rfl, tw 530 (by decide +kernel) rfl, tw 129 (by decide +kernel) rfl, tw 531 (by decide +kernel) rfl⟩ C hl.1 ⟨⟨Nat.le_of_ble_eq_true rfl, Nat.le_of_ble_eq_true rfl⟩, Nat.le_of_ble_eq_true rfl, Nat.le_of_ble_eq_true rfl⟩ (Nat.le_of_ble_eq_true rfl) dX4_read_17 ?_
  exact kbX4_read_20 C hlk hr a0 l3 a0 (imin l2 x16) h hW (lv_sub hl [0, 3] rfl)
theorem dX4_tellsOfNobody_0 : decode cX4_tellsOfNobody 0 = .ok (.iconst 0, 1) := by decide +kernel
theorem dX4_tellsOfNobody_1 : decode cX4_tellsOfNobody 1 = .ok (.istore_n 2, 1) := by decide +kernel
theorem dX4_tellsOfNobody_2 : decode cX4_tellsOfNobody 2 = .ok (.iload_n 2, 1) := by decide +kernel
theorem dX4_tellsOfNobody_3 : decode cX4_tellsOfNobody 3 = .ok (.aload_n 0, 1) := by decide +kernel
theorem dX4_tellsOfNobody_4 : decode cX4_tellsOfNobody 4 = .ok (.getfield 53, 3) := by decide +kernel
theorem dX4_tellsOfNobody_7 : decode cX4_tellsOfNobody 7 = .ok (.if_icmp .ge 121, 3) := by decide +kernel
theorem dX4_tellsOfNobody_10 : decode cX4_tellsOfNobody 10 = .ok (.iload_n 2, 1) := by decide +kernel
theorem dX4_tellsOfNobody_11 : decode cX4_tellsOfNobody 11 = .ok (.bipush 120, 2) := by decide +kernel
theorem dX4_tellsOfNobody_13 : decode cX4_tellsOfNobody 13 = .ok (.if_icmp .ge 115, 3) := by decide +kernel
theorem dX4_tellsOfNobody_16 : decode cX4_tellsOfNobody 16 = .ok (.iconst 0, 1) := by decide +kernel
theorem dX4_tellsOfNobody_17 : decode cX4_tellsOfNobody 17 = .ok (.istore_n 3, 1) := by decide +kernel
theorem dX4_tellsOfNobody_18 : decode cX4_tellsOfNobody 18 = .ok (.iload_n 3, 1) := by decide +kernel
theorem dX4_tellsOfNobody_19 : decode cX4_tellsOfNobody 19 = .ok (.iconst 3, 1) := by decide +kernel
theorem dX4_tellsOfNobody_20 : decode cX4_tellsOfNobody 20 = .ok (.if_icmp .ge 102, 3) := by decide +kernel
theorem dX4_tellsOfNobody_23 : decode cX4_tellsOfNobody 23 = .ok (.getstatic 206, 3) := by decide +kernel
theorem dX4_tellsOfNobody_26 : decode cX4_tellsOfNobody 26 = .ok (.getstatic 206, 3) := by decide +kernel
theorem dX4_tellsOfNobody_29 : decode cX4_tellsOfNobody 29 = .ok (.arraylength, 1) := by decide +kernel
theorem dX4_tellsOfNobody_30 : decode cX4_tellsOfNobody 30 = .ok (.iconst 3, 1) := by decide +kernel
theorem dX4_tellsOfNobody_31 : decode cX4_tellsOfNobody 31 = .ok (.aload_n 0, 1) := by decide +kernel
theorem dX4_tellsOfNobody_32 : decode cX4_tellsOfNobody 32 = .ok (.getfield 11, 3) := by decide +kernel
theorem dX4_tellsOfNobody_35 : decode cX4_tellsOfNobody 35 = .ok (.iload_n 2, 1) := by decide +kernel
theorem dX4_tellsOfNobody_36 : decode cX4_tellsOfNobody 36 = .ok (.iaload, 1) := by decide +kernel
theorem dX4_tellsOfNobody_37 : decode cX4_tellsOfNobody 37 = .ok (.imul, 1) := by decide +kernel
theorem dX4_tellsOfNobody_38 : decode cX4_tellsOfNobody 38 = .ok (.iload_n 3, 1) := by decide +kernel
theorem dX4_tellsOfNobody_39 : decode cX4_tellsOfNobody 39 = .ok (.iadd, 1) := by decide +kernel
theorem dX4_tellsOfNobody_40 : decode cX4_tellsOfNobody 40 = .ok (.invokestatic 149, 3) := by decide +kernel
theorem dX4_tellsOfNobody_43 : decode cX4_tellsOfNobody 43 = .ok (.istore 4, 2) := by decide +kernel
theorem dX4_tellsOfNobody_45 : decode cX4_tellsOfNobody 45 = .ok (.aload_n 0, 1) := by decide +kernel
theorem dX4_tellsOfNobody_46 : decode cX4_tellsOfNobody 46 = .ok (.getfield 18, 3) := by decide +kernel
theorem dX4_tellsOfNobody_49 : decode cX4_tellsOfNobody 49 = .ok (.iconst 3, 1) := by decide +kernel
theorem dX4_tellsOfNobody_50 : decode cX4_tellsOfNobody 50 = .ok (.iload_n 2, 1) := by decide +kernel
theorem dX4_tellsOfNobody_51 : decode cX4_tellsOfNobody 51 = .ok (.imul, 1) := by decide +kernel
theorem dX4_tellsOfNobody_52 : decode cX4_tellsOfNobody 52 = .ok (.iload_n 3, 1) := by decide +kernel
theorem dX4_tellsOfNobody_53 : decode cX4_tellsOfNobody 53 = .ok (.iadd, 1) := by decide +kernel
theorem dX4_tellsOfNobody_54 : decode cX4_tellsOfNobody 54 = .ok (.iaload, 1) := by decide +kernel
theorem dX4_tellsOfNobody_55 : decode cX4_tellsOfNobody 55 = .ok (.istore 5, 2) := by decide +kernel
theorem dX4_tellsOfNobody_57 : decode cX4_tellsOfNobody 57 = .ok (.iload 4, 2) := by decide +kernel
theorem dX4_tellsOfNobody_59 : decode cX4_tellsOfNobody 59 = .ok (.iconst 1, 1) := by decide +kernel
theorem dX4_tellsOfNobody_60 : decode cX4_tellsOfNobody 60 = .ok (.if_icmp .ne 12, 3) := by decide +kernel
theorem dX4_tellsOfNobody_63 : decode cX4_tellsOfNobody 63 = .ok (.iload 5, 2) := by decide +kernel
theorem dX4_tellsOfNobody_65 : decode cX4_tellsOfNobody 65 = .ok (.aload_n 1, 1) := by decide +kernel
theorem dX4_tellsOfNobody_66 : decode cX4_tellsOfNobody 66 = .ok (.getfield 209, 3) := by decide +kernel
theorem dX4_tellsOfNobody_69 : decode cX4_tellsOfNobody 69 = .ok (.if_icmp .ge 33, 3) := by decide +kernel
theorem dX4_tellsOfNobody_72 : decode cX4_tellsOfNobody 72 = .ok (.iload 4, 2) := by decide +kernel
theorem dX4_tellsOfNobody_74 : decode cX4_tellsOfNobody 74 = .ok (.iconst 2, 1) := by decide +kernel
theorem dX4_tellsOfNobody_75 : decode cX4_tellsOfNobody 75 = .ok (.if_icmp .ne 12, 3) := by decide +kernel
theorem dX4_tellsOfNobody_78 : decode cX4_tellsOfNobody 78 = .ok (.iload 5, 2) := by decide +kernel
theorem dX4_tellsOfNobody_80 : decode cX4_tellsOfNobody 80 = .ok (.aload_n 1, 1) := by decide +kernel
theorem dX4_tellsOfNobody_81 : decode cX4_tellsOfNobody 81 = .ok (.getfield 212, 3) := by decide +kernel
theorem dX4_tellsOfNobody_84 : decode cX4_tellsOfNobody 84 = .ok (.if_icmp .ge 18, 3) := by decide +kernel
theorem dX4_tellsOfNobody_87 : decode cX4_tellsOfNobody 87 = .ok (.iload 4, 2) := by decide +kernel
theorem dX4_tellsOfNobody_89 : decode cX4_tellsOfNobody 89 = .ok (.iconst 3, 1) := by decide +kernel
theorem dX4_tellsOfNobody_90 : decode cX4_tellsOfNobody 90 = .ok (.if_icmp .ne 16, 3) := by decide +kernel
theorem dX4_tellsOfNobody_93 : decode cX4_tellsOfNobody 93 = .ok (.iload 5, 2) := by decide +kernel
theorem dX4_tellsOfNobody_95 : decode cX4_tellsOfNobody 95 = .ok (.aload_n 1, 1) := by decide +kernel
theorem dX4_tellsOfNobody_96 : decode cX4_tellsOfNobody 96 = .ok (.getfield 215, 3) := by decide +kernel
theorem dX4_tellsOfNobody_99 : decode cX4_tellsOfNobody 99 = .ok (.if_icmp .lt 7, 3) := by decide +kernel
theorem dX4_tellsOfNobody_102 : decode cX4_tellsOfNobody 102 = .ok (.iconst 1, 1) := by decide +kernel
theorem dX4_tellsOfNobody_103 : decode cX4_tellsOfNobody 103 = .ok (.goto 4, 3) := by decide +kernel
theorem dX4_tellsOfNobody_106 : decode cX4_tellsOfNobody 106 = .ok (.iconst 0, 1) := by decide +kernel
theorem dX4_tellsOfNobody_107 : decode cX4_tellsOfNobody 107 = .ok (.istore 6, 2) := by decide +kernel
theorem dX4_tellsOfNobody_109 : decode cX4_tellsOfNobody 109 = .ok (.iload 6, 2) := by decide +kernel
theorem dX4_tellsOfNobody_111 : decode cX4_tellsOfNobody 111 = .ok (.ifCond .eq 5, 3) := by decide +kernel
theorem dX4_tellsOfNobody_114 : decode cX4_tellsOfNobody 114 = .ok (.iconst 1, 1) := by decide +kernel
theorem dX4_tellsOfNobody_115 : decode cX4_tellsOfNobody 115 = .ok (.ireturn, 1) := by decide +kernel
theorem dX4_tellsOfNobody_116 : decode cX4_tellsOfNobody 116 = .ok (.iinc 3 1, 3) := by decide +kernel
theorem dX4_tellsOfNobody_119 : decode cX4_tellsOfNobody 119 = .ok (.goto (-101), 3) := by decide +kernel
theorem dX4_tellsOfNobody_122 : decode cX4_tellsOfNobody 122 = .ok (.iinc 2 1, 3) := by decide +kernel
theorem dX4_tellsOfNobody_125 : decode cX4_tellsOfNobody 125 = .ok (.goto (-123), 3) := by decide +kernel
theorem dX4_tellsOfNobody_128 : decode cX4_tellsOfNobody 128 = .ok (.iconst 0, 1) := by decide +kernel
theorem dX4_tellsOfNobody_129 : decode cX4_tellsOfNobody 129 = .ok (.ireturn, 1) := by decide +kernel
theorem flX4_215 : FL RX4 215 0 11 := ⟨_, rfl, Nat.le_of_ble_eq_true rfl, tw 182 (by decide +kernel) rfl, rfl⟩
theorem flX4_212 : FL RX4 212 0 10 := ⟨_, rfl, Nat.le_of_ble_eq_true rfl, tw 178 (by decide +kernel) rfl, rfl⟩
theorem flX4_209 : FL RX4 209 0 0 := ⟨_, rfl, Nat.le_of_ble_eq_true rfl, tw 155 (by decide +kernel) rfl, rfl⟩
abbrev rmX4_tellsOfNobody : Room := { frames := 1, cells := 0, slots := 0, locals := 22 }
def bX4_tellsOfNobody_107 (k2 : Nat → Nat → Int32 → Option (Int32)) (k18 : Nat → Nat → Int32 → Int32 → Option (Int32)) (a0 : Nat) (a1 : Nat) (l2 : Int32) (l3 : Int32) (s0 : Int32) (z : AH) : Option (Int32) :=
  if s0 = (0 : Int32) then (
    nm (l3 + (1 : Int32)) fun v116 =>
    k18 a0 a1 l2 v116
  ) else (
    some (1 : Int32)
  )
set_option maxHeartbeats 4000000 in
set_option maxRecDepth 100000 in
theorem kbX4_tellsOfNobody_107 {p : Program} {l : Launch} {e : Env} {s : State} {m : MethodId} {args : Array Value} {below : List Frame} {meth : Method} {c : Code} {G : GW} {r : Int32} (C : Cx p m c cX4_tellsOfNobody 7 s args RX4 G) (hlk : meth.locks = false) (hr : meth.sig.returnType = (some .boolean)) {z : AH} (k2 : Nat → Nat → Int32 → Option (Int32)) (k18 : Nat → Nat → Int32 → Int32 → Option (Int32)) (hk2 : ∀ (a0 : Nat) (a1 : Nat) (l2 : Int32) (H : Heap) (locs : List Loc) (ls : Array Slot), k2 a0 a1 l2 = some r → Wb G z s H locs → lv_has ls 7 [(0, .ref (gB G + a0)), (1, .ref (gB G + a1)), (2, .int l2)] → W p l e rmX4_tellsOfNobody s m args below meth c H locs 0 0 (MQ below (Qi G r z) args s 0 0 (AA G)) (F0 m 2 ls [])) (hk18 : ∀ (a0 : Nat) (a1 : Nat) (l2 : Int32) (l3 : Int32) (H : Heap) (locs : List Loc) (ls : Array Slot), k18 a0 a1 l2 l3 = some r → Wb G z s H locs → lv_has ls 7 [(0, .ref (gB G + a0)), (1, .ref (gB G + a1)), (2, .int l2), (3, .int l3)] → W p l e rmX4_tellsOfNobody s m args below meth c H locs 0 0 (MQ below (Qi G r z) args s 0 0 (AA G)) (F0 m 18 ls [])) (a0 : Nat) (a1 : Nat) (l2 : Int32) (l3 : Int32) (s0 : Int32) {H : Heap} {locs : List Loc} {ls : Array Slot} (h : bX4_tellsOfNobody_107 k2 k18 a0 a1 l2 l3 s0 z = some r) (hW : Wb G z s H locs) (hl : lv_has ls 7 [(0, .ref (gB G + a0)), (1, .ref (gB G + a1)), (2, .int l2), (3, .int l3)]) : W p l e rmX4_tellsOfNobody s m args below meth c H locs 0 0 (MQ below (Qi G r z) args s 0 0 (AA G)) (F0 m 107 ls [.int s0]) := by
  have hx := C.1
  have hb := C.2.1
  unfold bX4_tellsOfNobody_107 at h
  refine lv_istore (lv' := [(6, .int s0), (0, .ref (gB G + a0)), (1, .ref (gB G + a1)), (2, .int l2), (3, .int l3)]) hx hb dX4_tellsOfNobody_107 hl (by decide) rfl (fun ls hl => ?_)
  refine lv_iload hx hb dX4_tellsOfNobody_109 (lv_at hl 0 rfl) ?_
  refine lv_if_eq (tgt := 116) hx hb dX4_tellsOfNobody_111 (by decide) (fun c111 => ?_) (fun c111 => ?_)
  · have h := ite_t c111 h
    obtain ⟨v116, ev116⟩ : ∃ y : Int32, y = (l3 + (1 : Int32)) := ⟨_, rfl⟩
    have h := nm_to h ev116
    refine lv_iinc (v := v116) (lv' := [(3, .int v116), (6, .int s0), (0, .ref (gB G + a0)), (1, .ref (gB G + a1)), (2, .int l2)]) hx hb dX4_tellsOfNobody_116 hl (k := 4) rfl (by rw [ev116]; rfl) (by decide) rfl (fun ls hl => ?_)
    refine lv_goto (tgt := 18) hx hb dX4_tellsOfNobody_119 (by decide) ?_
    exact hk18 a0 a1 l2 v116 _ _ _ h hW (lv_sub hl [2, 3, 4, 0] rfl)
  · have h := ite_f c111 h
    refine lv_iconst (v := 1) hx hb dX4_tellsOfNobody_114 (by decide) ?_
    exact wz_zretE C hlk hr (Or.inr rfl) (Option.some.inj h) rfl hW dX4_tellsOfNobody_115
def bX4_tellsOfNobody_106 (k2 : Nat → Nat → Int32 → Option (Int32)) (k18 : Nat → Nat → Int32 → Int32 → Option (Int32)) (a0 : Nat) (a1 : Nat) (l2 : Int32) (l3 : Int32) (z : AH) : Option (Int32) :=
  bX4_tellsOfNobody_107 k2 k18 a0 a1 l2 l3 (0 : Int32) z
set_option maxHeartbeats 4000000 in
set_option maxRecDepth 100000 in
theorem kbX4_tellsOfNobody_106 {p : Program} {l : Launch} {e : Env} {s : State} {m : MethodId} {args : Array Value} {below : List Frame} {meth : Method} {c : Code} {G : GW} {r : Int32} (C : Cx p m c cX4_tellsOfNobody 7 s args RX4 G) (hlk : meth.locks = false) (hr : meth.sig.returnType = (some .boolean)) {z : AH} (k2 : Nat → Nat → Int32 → Option (Int32)) (k18 : Nat → Nat → Int32 → Int32 → Option (Int32)) (hk2 : ∀ (a0 : Nat) (a1 : Nat) (l2 : Int32) (H : Heap) (locs : List Loc) (ls : Array Slot), k2 a0 a1 l2 = some r → Wb G z s H locs → lv_has ls 7 [(0, .ref (gB G + a0)), (1, .ref (gB G + a1)), (2, .int l2)] → W p l e rmX4_tellsOfNobody s m args below meth c H locs 0 0 (MQ below (Qi G r z) args s 0 0 (AA G)) (F0 m 2 ls [])) (hk18 : ∀ (a0 : Nat) (a1 : Nat) (l2 : Int32) (l3 : Int32) (H : Heap) (locs : List Loc) (ls : Array Slot), k18 a0 a1 l2 l3 = some r → Wb G z s H locs → lv_has ls 7 [(0, .ref (gB G + a0)), (1, .ref (gB G + a1)), (2, .int l2), (3, .int l3)] → W p l e rmX4_tellsOfNobody s m args below meth c H locs 0 0 (MQ below (Qi G r z) args s 0 0 (AA G)) (F0 m 18 ls [])) (a0 : Nat) (a1 : Nat) (l2 : Int32) (l3 : Int32) {H : Heap} {locs : List Loc} {ls : Array Slot} (h : bX4_tellsOfNobody_106 k2 k18 a0 a1 l2 l3 z = some r) (hW : Wb G z s H locs) (hl : lv_has ls 7 [(0, .ref (gB G + a0)), (1, .ref (gB G + a1)), (2, .int l2), (3, .int l3)]) : W p l e rmX4_tellsOfNobody s m args below meth c H locs 0 0 (MQ below (Qi G r z) args s 0 0 (AA G)) (F0 m 106 ls []) := by
  have hx := C.1
  have hb := C.2.1
  unfold bX4_tellsOfNobody_106 at h
  refine lv_iconst (v := 0) hx hb dX4_tellsOfNobody_106 (by decide) ?_
  exact kbX4_tellsOfNobody_107 C hlk hr k2 k18 hk2 hk18 a0 a1 l2 l3 (0 : Int32) h hW (lv_sub hl [0, 1, 2, 3] rfl)
def bX4_tellsOfNobody_102 (k2 : Nat → Nat → Int32 → Option (Int32)) (k18 : Nat → Nat → Int32 → Int32 → Option (Int32)) (a0 : Nat) (a1 : Nat) (l2 : Int32) (l3 : Int32) (z : AH) : Option (Int32) :=
  bX4_tellsOfNobody_107 k2 k18 a0 a1 l2 l3 (1 : Int32) z
set_option maxHeartbeats 4000000 in
set_option maxRecDepth 100000 in
theorem kbX4_tellsOfNobody_102 {p : Program} {l : Launch} {e : Env} {s : State} {m : MethodId} {args : Array Value} {below : List Frame} {meth : Method} {c : Code} {G : GW} {r : Int32} (C : Cx p m c cX4_tellsOfNobody 7 s args RX4 G) (hlk : meth.locks = false) (hr : meth.sig.returnType = (some .boolean)) {z : AH} (k2 : Nat → Nat → Int32 → Option (Int32)) (k18 : Nat → Nat → Int32 → Int32 → Option (Int32)) (hk2 : ∀ (a0 : Nat) (a1 : Nat) (l2 : Int32) (H : Heap) (locs : List Loc) (ls : Array Slot), k2 a0 a1 l2 = some r → Wb G z s H locs → lv_has ls 7 [(0, .ref (gB G + a0)), (1, .ref (gB G + a1)), (2, .int l2)] → W p l e rmX4_tellsOfNobody s m args below meth c H locs 0 0 (MQ below (Qi G r z) args s 0 0 (AA G)) (F0 m 2 ls [])) (hk18 : ∀ (a0 : Nat) (a1 : Nat) (l2 : Int32) (l3 : Int32) (H : Heap) (locs : List Loc) (ls : Array Slot), k18 a0 a1 l2 l3 = some r → Wb G z s H locs → lv_has ls 7 [(0, .ref (gB G + a0)), (1, .ref (gB G + a1)), (2, .int l2), (3, .int l3)] → W p l e rmX4_tellsOfNobody s m args below meth c H locs 0 0 (MQ below (Qi G r z) args s 0 0 (AA G)) (F0 m 18 ls [])) (a0 : Nat) (a1 : Nat) (l2 : Int32) (l3 : Int32) {H : Heap} {locs : List Loc} {ls : Array Slot} (h : bX4_tellsOfNobody_102 k2 k18 a0 a1 l2 l3 z = some r) (hW : Wb G z s H locs) (hl : lv_has ls 7 [(0, .ref (gB G + a0)), (1, .ref (gB G + a1)), (2, .int l2), (3, .int l3)]) : W p l e rmX4_tellsOfNobody s m args below meth c H locs 0 0 (MQ below (Qi G r z) args s 0 0 (AA G)) (F0 m 102 ls []) := by
  have hx := C.1
  have hb := C.2.1
  unfold bX4_tellsOfNobody_102 at h
  refine lv_iconst (v := 1) hx hb dX4_tellsOfNobody_102 (by decide) ?_
  refine lv_goto (tgt := 107) hx hb dX4_tellsOfNobody_103 (by decide) ?_
  exact kbX4_tellsOfNobody_107 C hlk hr k2 k18 hk2 hk18 a0 a1 l2 l3 (1 : Int32) h hW (lv_sub hl [0, 1, 2, 3] rfl)
def bX4_tellsOfNobody_87 (k2 : Nat → Nat → Int32 → Option (Int32)) (k18 : Nat → Nat → Int32 → Int32 → Option (Int32)) (a0 : Nat) (a1 : Nat) (l2 : Int32) (l3 : Int32) (l4 : Int32) (l5 : Int32) (z : AH) : Option (Int32) :=
  if l4 = (3 : Int32) then (
    (gI 0 11 z a1).bind fun x96 =>
    if l5 < x96 then (
      bX4_tellsOfNobody_106 k2 k18 a0 a1 l2 l3 z
    ) else (
      bX4_tellsOfNobody_102 k2 k18 a0 a1 l2 l3 z
    )
  ) else (
    bX4_tellsOfNobody_106 k2 k18 a0 a1 l2 l3 z
  )
set_option maxHeartbeats 4000000 in
set_option maxRecDepth 100000 in
theorem kbX4_tellsOfNobody_87 {p : Program} {l : Launch} {e : Env} {s : State} {m : MethodId} {args : Array Value} {below : List Frame} {meth : Method} {c : Code} {G : GW} {r : Int32} (C : Cx p m c cX4_tellsOfNobody 7 s args RX4 G) (hlk : meth.locks = false) (hr : meth.sig.returnType = (some .boolean)) {z : AH} (k2 : Nat → Nat → Int32 → Option (Int32)) (k18 : Nat → Nat → Int32 → Int32 → Option (Int32)) (hk2 : ∀ (a0 : Nat) (a1 : Nat) (l2 : Int32) (H : Heap) (locs : List Loc) (ls : Array Slot), k2 a0 a1 l2 = some r → Wb G z s H locs → lv_has ls 7 [(0, .ref (gB G + a0)), (1, .ref (gB G + a1)), (2, .int l2)] → W p l e rmX4_tellsOfNobody s m args below meth c H locs 0 0 (MQ below (Qi G r z) args s 0 0 (AA G)) (F0 m 2 ls [])) (hk18 : ∀ (a0 : Nat) (a1 : Nat) (l2 : Int32) (l3 : Int32) (H : Heap) (locs : List Loc) (ls : Array Slot), k18 a0 a1 l2 l3 = some r → Wb G z s H locs → lv_has ls 7 [(0, .ref (gB G + a0)), (1, .ref (gB G + a1)), (2, .int l2), (3, .int l3)] → W p l e rmX4_tellsOfNobody s m args below meth c H locs 0 0 (MQ below (Qi G r z) args s 0 0 (AA G)) (F0 m 18 ls [])) (a0 : Nat) (a1 : Nat) (l2 : Int32) (l3 : Int32) (l4 : Int32) (l5 : Int32) {H : Heap} {locs : List Loc} {ls : Array Slot} (h : bX4_tellsOfNobody_87 k2 k18 a0 a1 l2 l3 l4 l5 z = some r) (hW : Wb G z s H locs) (hl : lv_has ls 7 [(0, .ref (gB G + a0)), (1, .ref (gB G + a1)), (2, .int l2), (3, .int l3), (4, .int l4), (5, .int l5)]) : W p l e rmX4_tellsOfNobody s m args below meth c H locs 0 0 (MQ below (Qi G r z) args s 0 0 (AA G)) (F0 m 87 ls []) := by
  have hx := C.1
  have hb := C.2.1
  unfold bX4_tellsOfNobody_87 at h
  refine lv_iload hx hb dX4_tellsOfNobody_87 (lv_at hl 4 rfl) ?_
  refine lv_iconst (v := 3) hx hb dX4_tellsOfNobody_89 (by decide) ?_
  refine lv_icmp_ne (tgt := 106) hx hb dX4_tellsOfNobody_90 (by decide) (fun c90 => ?_) (fun c90 => ?_)
  · have h := ite_f c90 h
    exact kbX4_tellsOfNobody_106 C hlk hr k2 k18 hk2 hk18 a0 a1 l2 l3 h hW (lv_sub hl [0, 1, 2, 3] rfl)
  · have h := ite_t c90 h
    refine lv_iload hx hb dX4_tellsOfNobody_93 (lv_at hl 5 rfl) ?_
    refine lv_aload_n hx hb dX4_tellsOfNobody_95 rfl (lv_at hl 1 rfl) ?_
    obtain ⟨x96, hg, h⟩ := ob h
    refine wz_gI C hW flX4_215 hg dX4_tellsOfNobody_96 ?_
    refine lv_icmp_lt (tgt := 106) hx hb dX4_tellsOfNobody_99 (by decide) (fun c99 => ?_) (fun c99 => ?_)
    · have h := ite_t c99 h
      exact kbX4_tellsOfNobody_106 C hlk hr k2 k18 hk2 hk18 a0 a1 l2 l3 h hW (lv_sub hl [0, 1, 2, 3] rfl)
    · have h := ite_f c99 h
      exact kbX4_tellsOfNobody_102 C hlk hr k2 k18 hk2 hk18 a0 a1 l2 l3 h hW (lv_sub hl [0, 1, 2, 3] rfl)
def bX4_tellsOfNobody_72 (k2 : Nat → Nat → Int32 → Option (Int32)) (k18 : Nat → Nat → Int32 → Int32 → Option (Int32)) (a0 : Nat) (a1 : Nat) (l2 : Int32) (l3 : Int32) (l4 : Int32) (l5 : Int32) (z : AH) : Option (Int32) :=
  if l4 = (2 : Int32) then (
    (gI 0 10 z a1).bind fun x81 =>
    if x81 ≤ l5 then (
      bX4_tellsOfNobody_102 k2 k18 a0 a1 l2 l3 z
    ) else (
      bX4_tellsOfNobody_87 k2 k18 a0 a1 l2 l3 l4 l5 z
    )
  ) else (
    bX4_tellsOfNobody_87 k2 k18 a0 a1 l2 l3 l4 l5 z
  )
set_option maxHeartbeats 4000000 in
set_option maxRecDepth 100000 in
theorem kbX4_tellsOfNobody_72 {p : Program} {l : Launch} {e : Env} {s : State} {m : MethodId} {args : Array Value} {below : List Frame} {meth : Method} {c : Code} {G : GW} {r : Int32} (C : Cx p m c cX4_tellsOfNobody 7 s args RX4 G) (hlk : meth.locks = false) (hr : meth.sig.returnType = (some .boolean)) {z : AH} (k2 : Nat → Nat → Int32 → Option (Int32)) (k18 : Nat → Nat → Int32 → Int32 → Option (Int32)) (hk2 : ∀ (a0 : Nat) (a1 : Nat) (l2 : Int32) (H : Heap) (locs : List Loc) (ls : Array Slot), k2 a0 a1 l2 = some r → Wb G z s H locs → lv_has ls 7 [(0, .ref (gB G + a0)), (1, .ref (gB G + a1)), (2, .int l2)] → W p l e rmX4_tellsOfNobody s m args below meth c H locs 0 0 (MQ below (Qi G r z) args s 0 0 (AA G)) (F0 m 2 ls [])) (hk18 : ∀ (a0 : Nat) (a1 : Nat) (l2 : Int32) (l3 : Int32) (H : Heap) (locs : List Loc) (ls : Array Slot), k18 a0 a1 l2 l3 = some r → Wb G z s H locs → lv_has ls 7 [(0, .ref (gB G + a0)), (1, .ref (gB G + a1)), (2, .int l2), (3, .int l3)] → W p l e rmX4_tellsOfNobody s m args below meth c H locs 0 0 (MQ below (Qi G r z) args s 0 0 (AA G)) (F0 m 18 ls [])) (a0 : Nat) (a1 : Nat) (l2 : Int32) (l3 : Int32) (l4 : Int32) (l5 : Int32) {H : Heap} {locs : List Loc} {ls : Array Slot} (h : bX4_tellsOfNobody_72 k2 k18 a0 a1 l2 l3 l4 l5 z = some r) (hW : Wb G z s H locs) (hl : lv_has ls 7 [(0, .ref (gB G + a0)), (1, .ref (gB G + a1)), (2, .int l2), (3, .int l3), (4, .int l4), (5, .int l5)]) : W p l e rmX4_tellsOfNobody s m args below meth c H locs 0 0 (MQ below (Qi G r z) args s 0 0 (AA G)) (F0 m 72 ls []) := by
  have hx := C.1
  have hb := C.2.1
  unfold bX4_tellsOfNobody_72 at h
  refine lv_iload hx hb dX4_tellsOfNobody_72 (lv_at hl 4 rfl) ?_
  refine lv_iconst (v := 2) hx hb dX4_tellsOfNobody_74 (by decide) ?_
  refine lv_icmp_ne (tgt := 87) hx hb dX4_tellsOfNobody_75 (by decide) (fun c75 => ?_) (fun c75 => ?_)
  · have h := ite_f c75 h
    exact kbX4_tellsOfNobody_87 C hlk hr k2 k18 hk2 hk18 a0 a1 l2 l3 l4 l5 h hW (lv_sub hl [0, 1, 2, 3, 4, 5] rfl)
  · have h := ite_t c75 h
    refine lv_iload hx hb dX4_tellsOfNobody_78 (lv_at hl 5 rfl) ?_
    refine lv_aload_n hx hb dX4_tellsOfNobody_80 rfl (lv_at hl 1 rfl) ?_
    obtain ⟨x81, hg, h⟩ := ob h
    refine wz_gI C hW flX4_212 hg dX4_tellsOfNobody_81 ?_
    refine lv_icmp_ge (tgt := 102) hx hb dX4_tellsOfNobody_84 (by decide) (fun c84 => ?_) (fun c84 => ?_)
    · have h := ite_t c84 h
      exact kbX4_tellsOfNobody_102 C hlk hr k2 k18 hk2 hk18 a0 a1 l2 l3 h hW (lv_sub hl [0, 1, 2, 3] rfl)
    · have h := ite_f c84 h
      exact kbX4_tellsOfNobody_87 C hlk hr k2 k18 hk2 hk18 a0 a1 l2 l3 l4 l5 h hW (lv_sub hl [0, 1, 2, 3, 4, 5] rfl)
def bX4_tellsOfNobody_18 (k2 : Nat → Nat → Int32 → Option (Int32)) (k18 : Nat → Nat → Int32 → Int32 → Option (Int32)) (a0 : Nat) (a1 : Nat) (l2 : Int32) (l3 : Int32) (z : AH) : Option (Int32) :=
  if (3 : Int32) ≤ l3 then (
    nm (l2 + (1 : Int32)) fun v122 =>
    k2 a0 a1 v122
  ) else (
    (gN 3 0 z a0).bind fun b32 =>
    (ixI 0 z b32 l2).bind fun x36 =>
    (fX9_pick_T2 (Int32.ofNat (sLen 2)) (((3 : Int32) * x36) + l3)).bind fun x40 =>
    (gN 3 2 z a0).bind fun b46 =>
    (ixI 0 z b46 (((3 : Int32) * l2) + l3)).bind fun x54 =>
    if x40 = (1 : Int32) then (
      (gI 0 0 z a1).bind fun x66 =>
      if x66 ≤ x54 then (
        bX4_tellsOfNobody_102 k2 k18 a0 a1 l2 l3 z
      ) else (
        bX4_tellsOfNobody_72 k2 k18 a0 a1 l2 l3 x40 x54 z
      )
    ) else (
      bX4_tellsOfNobody_72 k2 k18 a0 a1 l2 l3 x40 x54 z
    )
  )
set_option maxHeartbeats 4000000 in
set_option maxRecDepth 100000 in
theorem kbX4_tellsOfNobody_18 {p : Program} {l : Launch} {e : Env} {s : State} {m : MethodId} {args : Array Value} {below : List Frame} {meth : Method} {c : Code} {G : GW} {r : Int32} (C : Cx p m c cX4_tellsOfNobody 7 s args RX4 G) (hlk : meth.locks = false) (hr : meth.sig.returnType = (some .boolean)) {z : AH} (k2 : Nat → Nat → Int32 → Option (Int32)) (k18 : Nat → Nat → Int32 → Int32 → Option (Int32)) (hk2 : ∀ (a0 : Nat) (a1 : Nat) (l2 : Int32) (H : Heap) (locs : List Loc) (ls : Array Slot), k2 a0 a1 l2 = some r → Wb G z s H locs → lv_has ls 7 [(0, .ref (gB G + a0)), (1, .ref (gB G + a1)), (2, .int l2)] → W p l e rmX4_tellsOfNobody s m args below meth c H locs 0 0 (MQ below (Qi G r z) args s 0 0 (AA G)) (F0 m 2 ls [])) (hk18 : ∀ (a0 : Nat) (a1 : Nat) (l2 : Int32) (l3 : Int32) (H : Heap) (locs : List Loc) (ls : Array Slot), k18 a0 a1 l2 l3 = some r → Wb G z s H locs → lv_has ls 7 [(0, .ref (gB G + a0)), (1, .ref (gB G + a1)), (2, .int l2), (3, .int l3)] → W p l e rmX4_tellsOfNobody s m args below meth c H locs 0 0 (MQ below (Qi G r z) args s 0 0 (AA G)) (F0 m 18 ls [])) (a0 : Nat) (a1 : Nat) (l2 : Int32) (l3 : Int32) {H : Heap} {locs : List Loc} {ls : Array Slot} (h : bX4_tellsOfNobody_18 k2 k18 a0 a1 l2 l3 z = some r) (hW : Wb G z s H locs) (hl : lv_has ls 7 [(0, .ref (gB G + a0)), (1, .ref (gB G + a1)), (2, .int l2), (3, .int l3)]) : W p l e rmX4_tellsOfNobody s m args below meth c H locs 0 0 (MQ below (Qi G r z) args s 0 0 (AA G)) (F0 m 18 ls []) := by
  have hx := C.1
  have hb := C.2.1
  unfold bX4_tellsOfNobody_18 at h
  refine lv_iload_n hx hb dX4_tellsOfNobody_18 rfl (lv_at hl 3 rfl) ?_
  refine lv_iconst (v := 3) hx hb dX4_tellsOfNobody_19 (by decide) ?_
  refine lv_icmp_ge (tgt := 122) hx hb dX4_tellsOfNobody_20 (by decide) (fun c20 => ?_) (fun c20 => ?_)
  · have h := ite_t c20 h
    obtain ⟨v122, ev122⟩ : ∃ y : Int32, y = (l2 + (1 : Int32)) := ⟨_, rfl⟩
    have h := nm_to h ev122
    refine lv_iinc (v := v122) (lv' := [(2, .int v122), (0, .ref (gB G + a0)), (1, .ref (gB G + a1)), (3, .int l3)]) hx hb dX4_tellsOfNobody_122 hl (k := 2) rfl (by rw [ev122]; rfl) (by decide) rfl (fun ls hl => ?_)
    refine lv_goto (tgt := 2) hx hb dX4_tellsOfNobody_125 (by decide) ?_
    exact hk2 a0 a1 v122 _ _ _ h hW (lv_sub hl [1, 2, 0] rfl)
  · have h := ite_f c20 h
    refine wz_gets (i := 2) (by decide) rfl (tw 694 (by decide +kernel) rfl) C hW dX4_tellsOfNobody_23 ?_
    refine wz_gets (i := 2) (by decide) rfl (tw 694 (by decide +kernel) rfl) C hW dX4_tellsOfNobody_26 ?_
    refine wz_slen (i := 2) (by decide) C hW dX4_tellsOfNobody_29 ?_
    refine lv_iconst (v := 3) hx hb dX4_tellsOfNobody_30 (by decide) ?_
    refine lv_aload_n hx hb dX4_tellsOfNobody_31 rfl (lv_at hl 0 rfl) ?_
    obtain ⟨b32, hg, h⟩ := ob h
    refine wz_gN C hW flX4_11 hg dX4_tellsOfNobody_32 ?_
    refine lv_iload_n hx hb dX4_tellsOfNobody_35 rfl (lv_at hl 2 rfl) ?_
    obtain ⟨x36, hg, h⟩ := ob h
    refine wz_ald C hW hg dX4_tellsOfNobody_36 ?_
    refine lv_imul hx hb dX4_tellsOfNobody_37 ?_
    refine lv_iload_n hx hb dX4_tellsOfNobody_38 rfl (lv_at hl 3 rfl) ?_
    refine lv_iadd hx hb dX4_tellsOfNobody_39 ?_
    obtain ⟨x40, hq, h⟩ := ob h
    refine wz_rI (c' := 0) (s' := 0) hW (wz_runN (rest := []) C hW lNX4_149 (ctX9_pick_T2 l G (Int32.ofNat (sLen 2)) (((3 : Int32) * x36) + l3) z hq) ⟨⟨rfl, rfl⟩, Nat.le_of_ble_eq_true rfl, Nat.le_of_ble_eq_true rfl⟩ rfl hl.1 rfl (Nat.le_of_ble_eq_true rfl) dX4_tellsOfNobody_40 ⟨Nat.le_of_ble_eq_true rfl, Nat.le_of_ble_eq_true rfl⟩) rfl rfl (fun H locs hW => ?_)
    refine lv_istore (lv' := [(4, .int x40), (0, .ref (gB G + a0)), (1, .ref (gB G + a1)), (2, .int l2), (3, .int l3)]) hx hb dX4_tellsOfNobody_43 hl (by decide) rfl (fun ls hl => ?_)
    refine lv_aload_n hx hb dX4_tellsOfNobody_45 rfl (lv_at hl 1 rfl) ?_
    obtain ⟨b46, hg, h⟩ := ob h
    refine wz_gN C hW flX4_18 hg dX4_tellsOfNobody_46 ?_
    refine lv_iconst (v := 3) hx hb dX4_tellsOfNobody_49 (by decide) ?_
    refine lv_iload_n hx hb dX4_tellsOfNobody_50 rfl (lv_at hl 3 rfl) ?_
    refine lv_imul hx hb dX4_tellsOfNobody_51 ?_
    refine lv_iload_n hx hb dX4_tellsOfNobody_52 rfl (lv_at hl 4 rfl) ?_
    refine lv_iadd hx hb dX4_tellsOfNobody_53 ?_
    obtain ⟨x54, hg, h⟩ := ob h
    refine wz_ald C hW hg dX4_tellsOfNobody_54 ?_
    refine lv_istore (lv' := [(5, .int x54), (4, .int x40), (0, .ref (gB G + a0)), (1, .ref (gB G + a1)), (2, .int l2), (3, .int l3)]) hx hb dX4_tellsOfNobody_55 hl (by decide) rfl (fun ls hl => ?_)
    refine lv_iload hx hb dX4_tellsOfNobody_57 (lv_at hl 1 rfl) ?_
    refine lv_iconst (v := 1) hx hb dX4_tellsOfNobody_59 (by decide) ?_
    refine lv_icmp_ne (tgt := 72) hx hb dX4_tellsOfNobody_60 (by decide) (fun c60 => ?_) (fun c60 => ?_)
    · have h := ite_f c60 h
      exact kbX4_tellsOfNobody_72 C hlk hr k2 k18 hk2 hk18 a0 a1 l2 l3 x40 x54 h hW (lv_sub hl [2, 3, 4, 5, 1, 0] rfl)
    · have h := ite_t c60 h
      refine lv_iload hx hb dX4_tellsOfNobody_63 (lv_at hl 0 rfl) ?_
      refine lv_aload_n hx hb dX4_tellsOfNobody_65 rfl (lv_at hl 3 rfl) ?_
      obtain ⟨x66, hg, h⟩ := ob h
      refine wz_gI C hW flX4_209 hg dX4_tellsOfNobody_66 ?_
      refine lv_icmp_ge (tgt := 102) hx hb dX4_tellsOfNobody_69 (by decide) (fun c69 => ?_) (fun c69 => ?_)
      · have h := ite_t c69 h
        exact kbX4_tellsOfNobody_102 C hlk hr k2 k18 hk2 hk18 a0 a1 l2 l3 h hW (lv_sub hl [2, 3, 4, 5] rfl)
      · have h := ite_f c69 h
        exact kbX4_tellsOfNobody_72 C hlk hr k2 k18 hk2 hk18 a0 a1 l2 l3 x40 x54 h hW (lv_sub hl [2, 3, 4, 5, 1, 0] rfl)
def fX4_tellsOfNobody_18 (k2 : Nat → Nat → Int32 → Option (Int32)) (z : AH) : Nat → Nat → Nat → Int32 → Int32 → Option (Int32)
  | 0, _, _, _, _ => none
  | n + 1, a0, a1, l2, l3 => bX4_tellsOfNobody_18 k2 (fX4_tellsOfNobody_18 k2 z n) a0 a1 l2 l3 z
theorem klX4_tellsOfNobody_18 {p : Program} {l : Launch} {e : Env} {s : State} {m : MethodId} {args : Array Value} {below : List Frame} {meth : Method} {c : Code} {G : GW} {r : Int32} (C : Cx p m c cX4_tellsOfNobody 7 s args RX4 G) (hlk : meth.locks = false) (hr : meth.sig.returnType = (some .boolean)) {z : AH} (k2 : Nat → Nat → Int32 → Option (Int32)) (hk2 : ∀ (a0 : Nat) (a1 : Nat) (l2 : Int32) (H : Heap) (locs : List Loc) (ls : Array Slot), k2 a0 a1 l2 = some r → Wb G z s H locs → lv_has ls 7 [(0, .ref (gB G + a0)), (1, .ref (gB G + a1)), (2, .int l2)] → W p l e rmX4_tellsOfNobody s m args below meth c H locs 0 0 (MQ below (Qi G r z) args s 0 0 (AA G)) (F0 m 2 ls [])) : ∀ (n : Nat) (a0 : Nat) (a1 : Nat) (l2 : Int32) (l3 : Int32) (H : Heap) (locs : List Loc) (ls : Array Slot), fX4_tellsOfNobody_18 k2 z n a0 a1 l2 l3 = some r → Wb G z s H locs → lv_has ls 7 [(0, .ref (gB G + a0)), (1, .ref (gB G + a1)), (2, .int l2), (3, .int l3)] → W p l e rmX4_tellsOfNobody s m args below meth c H locs 0 0 (MQ below (Qi G r z) args s 0 0 (AA G)) (F0 m 18 ls []) := by
  intro n
  induction n with
  | zero => intro a0 a1 l2 l3 H locs ls h; have h : (none : Option (Int32)) = some r := h; cases h
  | succ n ih => intro a0 a1 l2 l3 H locs ls h hW hl; exact kbX4_tellsOfNobody_18 C hlk hr k2 (fX4_tellsOfNobody_18 k2 z n) hk2 (fun a0 a1 l2 l3 H locs ls h hW hl => ih a0 a1 l2 l3 H locs ls h hW hl) a0 a1 l2 l3 h hW hl
def bX4_tellsOfNobody_2 (k2 : Nat → Nat → Int32 → Option (Int32)) (a0 : Nat) (a1 : Nat) (l2 : Int32) (z : AH) : Option (Int32) :=
  (gI 3 5 z a0).bind fun x4 =>
  if x4 ≤ l2 then (
    some (0 : Int32)
  ) else (
    if (120 : Int32) ≤ l2 then (
      some (0 : Int32)
    ) else (
      fX4_tellsOfNobody_18 k2 z FU a0 a1 l2 (0 : Int32)
    )
  )
set_option maxHeartbeats 4000000 in
set_option maxRecDepth 100000 in
theorem kbX4_tellsOfNobody_2 {p : Program} {l : Launch} {e : Env} {s : State} {m : MethodId} {args : Array Value} {below : List Frame} {meth : Method} {c : Code} {G : GW} {r : Int32} (C : Cx p m c cX4_tellsOfNobody 7 s args RX4 G) (hlk : meth.locks = false) (hr : meth.sig.returnType = (some .boolean)) {z : AH} (k2 : Nat → Nat → Int32 → Option (Int32)) (hk2 : ∀ (a0 : Nat) (a1 : Nat) (l2 : Int32) (H : Heap) (locs : List Loc) (ls : Array Slot), k2 a0 a1 l2 = some r → Wb G z s H locs → lv_has ls 7 [(0, .ref (gB G + a0)), (1, .ref (gB G + a1)), (2, .int l2)] → W p l e rmX4_tellsOfNobody s m args below meth c H locs 0 0 (MQ below (Qi G r z) args s 0 0 (AA G)) (F0 m 2 ls [])) (a0 : Nat) (a1 : Nat) (l2 : Int32) {H : Heap} {locs : List Loc} {ls : Array Slot} (h : bX4_tellsOfNobody_2 k2 a0 a1 l2 z = some r) (hW : Wb G z s H locs) (hl : lv_has ls 7 [(0, .ref (gB G + a0)), (1, .ref (gB G + a1)), (2, .int l2)]) : W p l e rmX4_tellsOfNobody s m args below meth c H locs 0 0 (MQ below (Qi G r z) args s 0 0 (AA G)) (F0 m 2 ls []) := by
  have hx := C.1
  have hb := C.2.1
  unfold bX4_tellsOfNobody_2 at h
  refine lv_iload_n hx hb dX4_tellsOfNobody_2 rfl (lv_at hl 2 rfl) ?_
  refine lv_aload_n hx hb dX4_tellsOfNobody_3 rfl (lv_at hl 0 rfl) ?_
  obtain ⟨x4, hg, h⟩ := ob h
  refine wz_gI C hW flX4_53 hg dX4_tellsOfNobody_4 ?_
  refine lv_icmp_ge (tgt := 128) hx hb dX4_tellsOfNobody_7 (by decide) (fun c7 => ?_) (fun c7 => ?_)
  · have h := ite_t c7 h
    refine lv_iconst (v := 0) hx hb dX4_tellsOfNobody_128 (by decide) ?_
    exact wz_zretE C hlk hr (Or.inl rfl) (Option.some.inj h) rfl hW dX4_tellsOfNobody_129
  · have h := ite_f c7 h
    refine lv_iload_n hx hb dX4_tellsOfNobody_10 rfl (lv_at hl 2 rfl) ?_
    refine lv_bipush (v := 120) hx hb dX4_tellsOfNobody_11 (by decide) ?_
    refine lv_icmp_ge (tgt := 128) hx hb dX4_tellsOfNobody_13 (by decide) (fun c13 => ?_) (fun c13 => ?_)
    · have h := ite_t c13 h
      refine lv_iconst (v := 0) hx hb dX4_tellsOfNobody_128 (by decide) ?_
      exact wz_zretE C hlk hr (Or.inl rfl) (Option.some.inj h) rfl hW dX4_tellsOfNobody_129
    · have h := ite_f c13 h
      refine lv_iconst (v := 0) hx hb dX4_tellsOfNobody_16 (by decide) ?_
      refine lv_istore_n (lv' := [(3, .int (0 : Int32)), (0, .ref (gB G + a0)), (1, .ref (gB G + a1)), (2, .int l2)]) hx hb dX4_tellsOfNobody_17 rfl hl (by decide) rfl (fun ls hl => ?_)
      exact klX4_tellsOfNobody_18 C hlk hr k2 hk2 FU a0 a1 l2 (0 : Int32) _ _ _ h hW (lv_sub hl [1, 2, 3, 0] rfl)
def fX4_tellsOfNobody_2 (z : AH) : Nat → Nat → Nat → Int32 → Option (Int32)
  | 0, _, _, _ => none
  | n + 1, a0, a1, l2 => bX4_tellsOfNobody_2 (fX4_tellsOfNobody_2 z n) a0 a1 l2 z
theorem klX4_tellsOfNobody_2 {p : Program} {l : Launch} {e : Env} {s : State} {m : MethodId} {args : Array Value} {below : List Frame} {meth : Method} {c : Code} {G : GW} {r : Int32} (C : Cx p m c cX4_tellsOfNobody 7 s args RX4 G) (hlk : meth.locks = false) (hr : meth.sig.returnType = (some .boolean)) {z : AH} : ∀ (n : Nat) (a0 : Nat) (a1 : Nat) (l2 : Int32) (H : Heap) (locs : List Loc) (ls : Array Slot), fX4_tellsOfNobody_2 z n a0 a1 l2 = some r → Wb G z s H locs → lv_has ls 7 [(0, .ref (gB G + a0)), (1, .ref (gB G + a1)), (2, .int l2)] → W p l e rmX4_tellsOfNobody s m args below meth c H locs 0 0 (MQ below (Qi G r z) args s 0 0 (AA G)) (F0 m 2 ls []) := by
  intro n
  induction n with
  | zero => intro a0 a1 l2 H locs ls h; have h : (none : Option (Int32)) = some r := h; cases h
  | succ n ih => intro a0 a1 l2 H locs ls h hW hl; exact kbX4_tellsOfNobody_2 C hlk hr (fX4_tellsOfNobody_2 z n) (fun a0 a1 l2 H locs ls h hW hl => ih a0 a1 l2 H locs ls h hW hl) a0 a1 l2 h hW hl
def fX4_tellsOfNobody (a0 : Nat) (a1 : Nat) (z : AH) : Option (Int32) :=
  if isO 3 z a0 = true then
    fX4_tellsOfNobody_2 z FU a0 a1 (0 : Int32)
  else none
set_option maxHeartbeats 4000000 in
set_option maxRecDepth 100000 in
theorem ctX4_tellsOfNobody (l : Launch) (G : GW) (a0 : Nat) (a1 : Nat) (z : AH) {r : Int32} (h : fX4_tellsOfNobody a0 a1 z = some r) : Met l yX4_tellsOfNobody (wy yX4_tellsOfNobody cX4_tellsOfNobody 7 (some .boolean)) rmX4_tellsOfNobody (Pz G [.ref (gB G + a0), .ref (gB G + a1)] z) (Qi G r z) 0 0 (AA G) := by
  refine wz_ent (own := RX4) (by decide +kernel) rfl (fun p e s m below meth c ls C hlk hr hin hW hl => ?_) (Nat.le_of_ble_eq_true rfl)
  have hl : lv_has ls 7 [(0, .ref (gB G + a0)), (1, .ref (gB G + a1))] := hl
  have hx := C.1
  have hb := C.2.1
  unfold fX4_tellsOfNobody at h
  obtain ⟨-, h⟩ := ck h
  refine lv_iconst (v := 0) hx hb dX4_tellsOfNobody_0 (by decide) ?_
  refine lv_istore_n (lv' := [(2, .int (0 : Int32)), (0, .ref (gB G + a0)), (1, .ref (gB G + a1))]) hx hb dX4_tellsOfNobody_1 rfl hl (by decide) rfl (fun ls hl => ?_)
  exact klX4_tellsOfNobody_2 C hlk hr FU a0 a1 (0 : Int32) _ _ _ h hW (lv_sub hl [1, 2, 0] rfl)
theorem dX4_toCountry_0 : decode cX4_toCountry 0 = .ok (.new 153, 3) := by decide +kernel
theorem dX4_toCountry_3 : decode cX4_toCountry 3 = .ok (.dup, 1) := by decide +kernel
theorem dX4_toCountry_4 : decode cX4_toCountry 4 = .ok (.invokespecial 155, 3) := by decide +kernel
theorem dX4_toCountry_7 : decode cX4_toCountry 7 = .ok (.astore_n 1, 1) := by decide +kernel
theorem dX4_toCountry_8 : decode cX4_toCountry 8 = .ok (.iconst 0, 1) := by decide +kernel
theorem dX4_toCountry_9 : decode cX4_toCountry 9 = .ok (.istore_n 2, 1) := by decide +kernel
theorem dX4_toCountry_10 : decode cX4_toCountry 10 = .ok (.iload_n 2, 1) := by decide +kernel
theorem dX4_toCountry_11 : decode cX4_toCountry 11 = .ok (.aload_n 0, 1) := by decide +kernel
theorem dX4_toCountry_12 : decode cX4_toCountry 12 = .ok (.getfield 53, 3) := by decide +kernel
theorem dX4_toCountry_15 : decode cX4_toCountry 15 = .ok (.if_icmp .ge 59, 3) := by decide +kernel
theorem dX4_toCountry_18 : decode cX4_toCountry 18 = .ok (.iload_n 2, 1) := by decide +kernel
theorem dX4_toCountry_19 : decode cX4_toCountry 19 = .ok (.bipush 120, 2) := by decide +kernel
theorem dX4_toCountry_21 : decode cX4_toCountry 21 = .ok (.if_icmp .ge 53, 3) := by decide +kernel
theorem dX4_toCountry_24 : decode cX4_toCountry 24 = .ok (.aload_n 0, 1) := by decide +kernel
theorem dX4_toCountry_25 : decode cX4_toCountry 25 = .ok (.getfield 18, 3) := by decide +kernel
theorem dX4_toCountry_28 : decode cX4_toCountry 28 = .ok (.iconst 3, 1) := by decide +kernel
theorem dX4_toCountry_29 : decode cX4_toCountry 29 = .ok (.iload_n 2, 1) := by decide +kernel
theorem dX4_toCountry_30 : decode cX4_toCountry 30 = .ok (.imul, 1) := by decide +kernel
theorem dX4_toCountry_31 : decode cX4_toCountry 31 = .ok (.iaload, 1) := by decide +kernel
theorem dX4_toCountry_32 : decode cX4_toCountry 32 = .ok (.istore_n 3, 1) := by decide +kernel
theorem dX4_toCountry_33 : decode cX4_toCountry 33 = .ok (.aload_n 0, 1) := by decide +kernel
theorem dX4_toCountry_34 : decode cX4_toCountry 34 = .ok (.getfield 18, 3) := by decide +kernel
theorem dX4_toCountry_37 : decode cX4_toCountry 37 = .ok (.iconst 3, 1) := by decide +kernel
theorem dX4_toCountry_38 : decode cX4_toCountry 38 = .ok (.iload_n 2, 1) := by decide +kernel
theorem dX4_toCountry_39 : decode cX4_toCountry 39 = .ok (.imul, 1) := by decide +kernel
theorem dX4_toCountry_40 : decode cX4_toCountry 40 = .ok (.iconst 1, 1) := by decide +kernel
theorem dX4_toCountry_41 : decode cX4_toCountry 41 = .ok (.iadd, 1) := by decide +kernel
theorem dX4_toCountry_42 : decode cX4_toCountry 42 = .ok (.iaload, 1) := by decide +kernel
theorem dX4_toCountry_43 : decode cX4_toCountry 43 = .ok (.istore 4, 2) := by decide +kernel
theorem dX4_toCountry_45 : decode cX4_toCountry 45 = .ok (.aload_n 1, 1) := by decide +kernel
theorem dX4_toCountry_46 : decode cX4_toCountry 46 = .ok (.aload_n 0, 1) := by decide +kernel
theorem dX4_toCountry_47 : decode cX4_toCountry 47 = .ok (.getfield 11, 3) := by decide +kernel
theorem dX4_toCountry_50 : decode cX4_toCountry 50 = .ok (.iload_n 2, 1) := by decide +kernel
theorem dX4_toCountry_51 : decode cX4_toCountry 51 = .ok (.iaload, 1) := by decide +kernel
theorem dX4_toCountry_52 : decode cX4_toCountry 52 = .ok (.iload_n 3, 1) := by decide +kernel
theorem dX4_toCountry_53 : decode cX4_toCountry 53 = .ok (.iload 4, 2) := by decide +kernel
theorem dX4_toCountry_55 : decode cX4_toCountry 55 = .ok (.aload_n 0, 1) := by decide +kernel
theorem dX4_toCountry_56 : decode cX4_toCountry 56 = .ok (.getfield 18, 3) := by decide +kernel
theorem dX4_toCountry_59 : decode cX4_toCountry 59 = .ok (.iconst 3, 1) := by decide +kernel
theorem dX4_toCountry_60 : decode cX4_toCountry 60 = .ok (.iload_n 2, 1) := by decide +kernel
theorem dX4_toCountry_61 : decode cX4_toCountry 61 = .ok (.imul, 1) := by decide +kernel
theorem dX4_toCountry_62 : decode cX4_toCountry 62 = .ok (.iconst 2, 1) := by decide +kernel
theorem dX4_toCountry_63 : decode cX4_toCountry 63 = .ok (.iadd, 1) := by decide +kernel
theorem dX4_toCountry_64 : decode cX4_toCountry 64 = .ok (.iaload, 1) := by decide +kernel
theorem dX4_toCountry_65 : decode cX4_toCountry 65 = .ok (.invokestatic 156, 3) := by decide +kernel
theorem dX4_toCountry_68 : decode cX4_toCountry 68 = .ok (.iinc 2 1, 3) := by decide +kernel
theorem dX4_toCountry_71 : decode cX4_toCountry 71 = .ok (.goto (-61), 3) := by decide +kernel
theorem dX4_toCountry_74 : decode cX4_toCountry 74 = .ok (.aload_n 0, 1) := by decide +kernel
theorem dX4_toCountry_75 : decode cX4_toCountry 75 = .ok (.aload_n 1, 1) := by decide +kernel
theorem dX4_toCountry_76 : decode cX4_toCountry 76 = .ok (.invokevirtual 160, 3) := by decide +kernel
theorem dX4_toCountry_79 : decode cX4_toCountry 79 = .ok (.ifCond .eq 15, 3) := by decide +kernel
theorem dX4_toCountry_82 : decode cX4_toCountry 82 = .ok (.aload_n 0, 1) := by decide +kernel
theorem dX4_toCountry_83 : decode cX4_toCountry 83 = .ok (.iconst 4, 1) := by decide +kernel
theorem dX4_toCountry_84 : decode cX4_toCountry 84 = .ok (.aload_n 0, 1) := by decide +kernel
theorem dX4_toCountry_85 : decode cX4_toCountry 85 = .ok (.getfield 40, 3) := by decide +kernel
theorem dX4_toCountry_88 : decode cX4_toCountry 88 = .ok (.invokevirtual 105, 3) := by decide +kernel
theorem dX4_toCountry_91 : decode cX4_toCountry 91 = .ok (.goto 46, 3) := by decide +kernel
theorem dX4_toCountry_94 : decode cX4_toCountry 94 = .ok (.aload_n 1, 1) := by decide +kernel
theorem dX4_toCountry_95 : decode cX4_toCountry 95 = .ok (.invokevirtual 164, 3) := by decide +kernel
theorem dX4_toCountry_98 : decode cX4_toCountry 98 = .ok (.ifCond .eq 15, 3) := by decide +kernel
theorem dX4_toCountry_101 : decode cX4_toCountry 101 = .ok (.aload_n 0, 1) := by decide +kernel
theorem dX4_toCountry_102 : decode cX4_toCountry 102 = .ok (.iconst 5, 1) := by decide +kernel
theorem dX4_toCountry_103 : decode cX4_toCountry 103 = .ok (.aload_n 0, 1) := by decide +kernel
theorem dX4_toCountry_104 : decode cX4_toCountry 104 = .ok (.getfield 40, 3) := by decide +kernel
theorem dX4_toCountry_107 : decode cX4_toCountry 107 = .ok (.invokevirtual 105, 3) := by decide +kernel
theorem dX4_toCountry_110 : decode cX4_toCountry 110 = .ok (.goto 27, 3) := by decide +kernel
theorem dX4_toCountry_113 : decode cX4_toCountry 113 = .ok (.aload_n 1, 1) := by decide +kernel
theorem dX4_toCountry_114 : decode cX4_toCountry 114 = .ok (.invokevirtual 168, 3) := by decide +kernel
theorem dX4_toCountry_117 : decode cX4_toCountry 117 = .ok (.ifCond .eq 16, 3) := by decide +kernel
theorem dX4_toCountry_120 : decode cX4_toCountry 120 = .ok (.aload_n 0, 1) := by decide +kernel
theorem dX4_toCountry_121 : decode cX4_toCountry 121 = .ok (.bipush 6, 2) := by decide +kernel
theorem dX4_toCountry_123 : decode cX4_toCountry 123 = .ok (.aload_n 0, 1) := by decide +kernel
theorem dX4_toCountry_124 : decode cX4_toCountry 124 = .ok (.getfield 40, 3) := by decide +kernel
theorem dX4_toCountry_127 : decode cX4_toCountry 127 = .ok (.invokevirtual 105, 3) := by decide +kernel
theorem dX4_toCountry_130 : decode cX4_toCountry 130 = .ok (.goto 7, 3) := by decide +kernel
theorem dX4_toCountry_133 : decode cX4_toCountry 133 = .ok (.aload_n 1, 1) := by decide +kernel
theorem dX4_toCountry_134 : decode cX4_toCountry 134 = .ok (.invokevirtual 171, 3) := by decide +kernel
theorem dX4_toCountry_137 : decode cX4_toCountry 137 = .ok (.aload_n 1, 1) := by decide +kernel
theorem dX4_toCountry_138 : decode cX4_toCountry 138 = .ok (.areturn, 1) := by decide +kernel
theorem cdX4_tellsOfNobody : Cond.code yX4_tellsOfNobody cX4_tellsOfNobody 7 (some .boolean) ∈ tz := tc3 94 rfl rfl
theorem lVX4_160 : LV RX4 160 yX4_tellsOfNobody cX4_tellsOfNobody 7 (some .boolean) 1 := ⟨tw 690 (by decide +kernel) rfl, tw 692 (by decide +kernel) rfl, tw 12 (by decide +kernel) rfl, tw 123 (by decide +kernel) rfl, cdX4_tellsOfNobody, ⟨by decide +kernel, by decide +kernel, by decide +kernel⟩⟩
theorem cdX0_hasRing : Cond.code yX0_hasRing cX0_hasRing 4 (some .boolean) ∈ tz := tc3 100 rfl rfl
theorem lVX4_164 : LV RX4 164 yX0_hasRing cX0_hasRing 4 (some .boolean) 0 := ⟨tw 696 (by decide +kernel) rfl, tw 697 (by decide +kernel) rfl, tw 698 (by decide +kernel) rfl, tw 121 (by decide +kernel) rfl, cdX0_hasRing, ⟨by decide +kernel, by decide +kernel, by decide +kernel⟩⟩
theorem cdX0_sharesEye : Cond.code yX0_sharesEye cX0_sharesEye 3 (some .boolean) ∈ tz := tc3 108 rfl rfl
theorem lVX4_168 : LV RX4 168 yX0_sharesEye cX0_sharesEye 3 (some .boolean) 0 := ⟨tw 704 (by decide +kernel) rfl, tw 705 (by decide +kernel) rfl, tw 706 (by decide +kernel) rfl, tw 121 (by decide +kernel) rfl, cdX0_sharesEye, ⟨by decide +kernel, by decide +kernel, by decide +kernel⟩⟩
theorem cdX0_findAbove : Cond.code yX0_findAbove cX0_findAbove 4 none ∈ tz := tc3 112 rfl rfl
theorem lVX4_171 : LV RX4 171 yX0_findAbove cX0_findAbove 4 none 0 := ⟨tw 708 (by decide +kernel) rfl, tw 709 (by decide +kernel) rfl, tw 710 (by decide +kernel) rfl, tw 121 (by decide +kernel) rfl, cdX0_findAbove, ⟨by decide +kernel, by decide +kernel, by decide +kernel⟩⟩
theorem cdX4_tellLine : Cond.code yX4_tellLine cX4_tellLine 5 none ∈ tz := tc3 60 rfl rfl
theorem lTX4_156 : LT RX4 156 yX4_tellLine cX4_tellLine 5 none 5 := ⟨tw 657 (by decide +kernel) rfl, tw 658 (by decide +kernel) rfl, tw 123 (by decide +kernel) rfl, cdX4_tellLine, ⟨by decide +kernel, by decide +kernel, by decide +kernel⟩⟩
theorem cdX0_init : Cond.code yX0_init cX0_init 2 none ∈ tz := tc1 31 rfl rfl
theorem lIX4_155 : LI RX4 155 yX0_init cX0_init 2 0 := ⟨tw 656 (by decide +kernel) rfl, tw 149 (by decide +kernel) rfl, rfl, tw 121 (by decide +kernel) rfl, cdX0_init, ⟨by decide +kernel, by decide +kernel, by decide +kernel⟩⟩
abbrev rmX4_toCountry : Room := { frames := 3, cells := 15, slots := 140, locals := 66 }
def bX4_toCountry_74 (a0 : Nat) (a1 : Nat) (z : AH) : Option (Nat × AH) :=
  (fX4_tellsOfNobody a0 a1 z).bind fun x76 =>
  if x76 = (0 : Int32) then (
    (fX0_hasRing a1 z).bind fun x95 =>
    if x95 = (0 : Int32) then (
      (fX0_sharesEye a1 z).bind fun x114 =>
      if x114 = (0 : Int32) then (
        (fX0_findAbove a1 z).bind fun z134 =>
        some (a1, z134)
      ) else (
        (gI 3 8 z a0).bind fun x124 =>
        (fX4_find a0 (6 : Int32) x124 z).bind fun z127 =>
        some (a1, z127)
      )
    ) else (
      (gI 3 8 z a0).bind fun x104 =>
      (fX4_find a0 (5 : Int32) x104 z).bind fun z107 =>
      some (a1, z107)
    )
  ) else (
    (gI 3 8 z a0).bind fun x85 =>
    (fX4_find a0 (4 : Int32) x85 z).bind fun z88 =>
    some (a1, z88)
  )
set_option maxHeartbeats 4000000 in
set_option maxRecDepth 100000 in
theorem kbX4_toCountry_74 {p : Program} {l : Launch} {e : Env} {s : State} {m : MethodId} {args : Array Value} {below : List Frame} {meth : Method} {c : Code} {G : GW} {r : Nat} {z' : AH} (C : Cx p m c cX4_toCountry 5 s args RX4 G) (hlk : meth.locks = false) (hr : meth.sig.returnType = (some (.object "PairedViews$Country"))) (a0 : Nat) (a1 : Nat) {z : AH} {H : Heap} {locs : List Loc} {ls : Array Slot} (h : bX4_toCountry_74 a0 a1 z = some (r, z')) (hW : Wb G z s H locs) (hl : lv_has ls 5 [(0, .ref (gB G + a0)), (1, .ref (gB G + a1))]) : W p l e rmX4_toCountry s m args below meth c H locs 15 140 (MQ below (Qq G (some r) z') args s 15 140 (AA G)) (F0 m 74 ls []) := by
  have hx := C.1
  have hb := C.2.1
  unfold bX4_toCountry_74 at h
  refine lv_aload_n hx hb dX4_toCountry_74 rfl (lv_at hl 0 rfl) ?_
  refine lv_aload_n hx hb dX4_toCountry_75 rfl (lv_at hl 1 rfl) ?_
  obtain ⟨x76, hq, h⟩ := ob h
  refine wz_rI (c' := 15) (s' := 140) hW (wz_runV (rest := []) C hW lVX4_160 (ck hq).1 rfl (ctX4_tellsOfNobody l G a0 a1 z hq) ⟨⟨rfl, rfl⟩, Nat.le_of_ble_eq_true rfl, Nat.le_of_ble_eq_true rfl⟩ rfl hl.1 rfl (Nat.le_of_ble_eq_true rfl) dX4_toCountry_76 ⟨Nat.le_of_ble_eq_true rfl, Nat.le_of_ble_eq_true rfl⟩) rfl rfl (fun H locs hW => ?_)
  refine lv_if_eq (tgt := 94) hx hb dX4_toCountry_79 (by decide) (fun c79 => ?_) (fun c79 => ?_)
  · have h := ite_t c79 h
    refine lv_aload_n hx hb dX4_toCountry_94 rfl (lv_at hl 1 rfl) ?_
    obtain ⟨x95, hq, h⟩ := ob h
    refine wz_rI (c' := 15) (s' := 140) hW (wz_runV (rest := []) C hW lVX4_164 (ck hq).1 rfl (ctX0_hasRing l G a1 z hq) ⟨⟨rfl, rfl⟩, Nat.le_of_ble_eq_true rfl, Nat.le_of_ble_eq_true rfl⟩ rfl hl.1 rfl (Nat.le_of_ble_eq_true rfl) dX4_toCountry_95 ⟨Nat.le_of_ble_eq_true rfl, Nat.le_of_ble_eq_true rfl⟩) rfl rfl (fun H locs hW => ?_)
    refine lv_if_eq (tgt := 113) hx hb dX4_toCountry_98 (by decide) (fun c98 => ?_) (fun c98 => ?_)
    · have h := ite_t c98 h
      refine lv_aload_n hx hb dX4_toCountry_113 rfl (lv_at hl 1 rfl) ?_
      obtain ⟨x114, hq, h⟩ := ob h
      refine wz_rI (c' := 15) (s' := 140) hW (wz_runV (rest := []) C hW lVX4_168 (ck hq).1 rfl (ctX0_sharesEye l G a1 z hq) ⟨⟨rfl, rfl⟩, Nat.le_of_ble_eq_true rfl, Nat.le_of_ble_eq_true rfl⟩ rfl hl.1 rfl (Nat.le_of_ble_eq_true rfl) dX4_toCountry_114 ⟨Nat.le_of_ble_eq_true rfl, Nat.le_of_ble_eq_true rfl⟩) rfl rfl (fun H locs hW => ?_)
      refine lv_if_eq (tgt := 133) hx hb dX4_toCountry_117 (by decide) (fun c117 => ?_) (fun c117 => ?_)
      · have h := ite_t c117 h
        refine lv_aload_n hx hb dX4_toCountry_133 rfl (lv_at hl 1 rfl) ?_
        obtain ⟨z134, hq, h⟩ := ob h
        refine wz_rV (c' := 15) (s' := 140) hW (wz_runV (rest := []) C hW lVX4_171 (ck hq).1 rfl (ctX0_findAbove l G a1 z hq) ⟨⟨rfl, rfl⟩, Nat.le_of_ble_eq_true rfl, Nat.le_of_ble_eq_true rfl⟩ rfl hl.1 rfl (Nat.le_of_ble_eq_true rfl) dX4_toCountry_134 ⟨Nat.le_of_ble_eq_true rfl, Nat.le_of_ble_eq_true rfl⟩) rfl rfl (fun H locs hW => ?_)
        refine lv_aload_n hx hb dX4_toCountry_137 rfl (lv_at hl 1 rfl) ?_
        exact wz_nretE C hlk hr (so2 h).1 (so2 h).2 hW dX4_toCountry_138
      · have h := ite_f c117 h
        refine lv_aload_n hx hb dX4_toCountry_120 rfl (lv_at hl 0 rfl) ?_
        refine lv_bipush (v := 6) hx hb dX4_toCountry_121 (by decide) ?_
        refine lv_aload_n hx hb dX4_toCountry_123 rfl (lv_at hl 0 rfl) ?_
        obtain ⟨x124, hg, h⟩ := ob h
        refine wz_gI C hW flX4_40 hg dX4_toCountry_124 ?_
        obtain ⟨z127, hq, h⟩ := ob h
        refine wz_rV (c' := 15) (s' := 140) hW (wz_runV (rest := []) C hW lVX4_105 (ck hq).1 rfl (ctX4_find l G a0 (6 : Int32) x124 z hq) ⟨⟨rfl, rfl⟩, Nat.le_of_ble_eq_true rfl, Nat.le_of_ble_eq_true rfl⟩ rfl hl.1 rfl (Nat.le_of_ble_eq_true rfl) dX4_toCountry_127 ⟨Nat.le_of_ble_eq_true rfl, Nat.le_of_ble_eq_true rfl⟩) rfl rfl (fun H locs hW => ?_)
        refine lv_goto (tgt := 137) hx hb dX4_toCountry_130 (by decide) ?_
        refine lv_aload_n hx hb dX4_toCountry_137 rfl (lv_at hl 1 rfl) ?_
        exact wz_nretE C hlk hr (so2 h).1 (so2 h).2 hW dX4_toCountry_138
    · have h := ite_f c98 h
      refine lv_aload_n hx hb dX4_toCountry_101 rfl (lv_at hl 0 rfl) ?_
      refine lv_iconst (v := 5) hx hb dX4_toCountry_102 (by decide) ?_
      refine lv_aload_n hx hb dX4_toCountry_103 rfl (lv_at hl 0 rfl) ?_
      obtain ⟨x104, hg, h⟩ := ob h
      refine wz_gI C hW flX4_40 hg dX4_toCountry_104 ?_
      obtain ⟨z107, hq, h⟩ := ob h
      refine wz_rV (c' := 15) (s' := 140) hW (wz_runV (rest := []) C hW lVX4_105 (ck hq).1 rfl (ctX4_find l G a0 (5 : Int32) x104 z hq) ⟨⟨rfl, rfl⟩, Nat.le_of_ble_eq_true rfl, Nat.le_of_ble_eq_true rfl⟩ rfl hl.1 rfl (Nat.le_of_ble_eq_true rfl) dX4_toCountry_107 ⟨Nat.le_of_ble_eq_true rfl, Nat.le_of_ble_eq_true rfl⟩) rfl rfl (fun H locs hW => ?_)
      refine lv_goto (tgt := 137) hx hb dX4_toCountry_110 (by decide) ?_
      refine lv_aload_n hx hb dX4_toCountry_137 rfl (lv_at hl 1 rfl) ?_
      exact wz_nretE C hlk hr (so2 h).1 (so2 h).2 hW dX4_toCountry_138
  · have h := ite_f c79 h
    refine lv_aload_n hx hb dX4_toCountry_82 rfl (lv_at hl 0 rfl) ?_
    refine lv_iconst (v := 4) hx hb dX4_toCountry_83 (by decide) ?_
    refine lv_aload_n hx hb dX4_toCountry_84 rfl (lv_at hl 0 rfl) ?_
    obtain ⟨x85, hg, h⟩ := ob h
    refine wz_gI C hW flX4_40 hg dX4_toCountry_85 ?_
    obtain ⟨z88, hq, h⟩ := ob h
    refine wz_rV (c' := 15) (s' := 140) hW (wz_runV (rest := []) C hW lVX4_105 (ck hq).1 rfl (ctX4_find l G a0 (4 : Int32) x85 z hq) ⟨⟨rfl, rfl⟩, Nat.le_of_ble_eq_true rfl, Nat.le_of_ble_eq_true rfl⟩ rfl hl.1 rfl (Nat.le_of_ble_eq_true rfl) dX4_toCountry_88 ⟨Nat.le_of_ble_eq_true rfl, Nat.le_of_ble_eq_true rfl⟩) rfl rfl (fun H locs hW => ?_)
    refine lv_goto (tgt := 137) hx hb dX4_toCountry_91 (by decide) ?_
    refine lv_aload_n hx hb dX4_toCountry_137 rfl (lv_at hl 1 rfl) ?_
    exact wz_nretE C hlk hr (so2 h).1 (so2 h).2 hW dX4_toCountry_138
def bX4_toCountry_10 (k10 : Nat → Nat → Int32 → AH → Option (Nat × AH)) (a0 : Nat) (a1 : Nat) (l2 : Int32) (z : AH) : Option (Nat × AH) :=
  (gI 3 5 z a0).bind fun x12 =>
  if x12 ≤ l2 then (
    bX4_toCountry_74 a0 a1 z
  ) else (
    if (120 : Int32) ≤ l2 then (
      bX4_toCountry_74 a0 a1 z
    ) else (
      (gN 3 2 z a0).bind fun b25 =>
      (ixI 0 z b25 ((3 : Int32) * l2)).bind fun x31 =>
      (gN 3 2 z a0).bind fun b34 =>
      (ixI 0 z b34 (((3 : Int32) * l2) + (1 : Int32))).bind fun x42 =>
      (gN 3 0 z a0).bind fun b47 =>
      (ixI 0 z b47 l2).bind fun x51 =>
      (gN 3 2 z a0).bind fun b56 =>
      (ixI 0 z b56 (((3 : Int32) * l2) + (2 : Int32))).bind fun x64 =>
      (fX4_tellLine a1 x51 x31 x42 x64 z).bind fun z65 =>
      nm (l2 + (1 : Int32)) fun v68 =>
      k10 a0 a1 v68 z65
    )
  )
set_option maxHeartbeats 4000000 in
set_option maxRecDepth 100000 in
theorem kbX4_toCountry_10 {p : Program} {l : Launch} {e : Env} {s : State} {m : MethodId} {args : Array Value} {below : List Frame} {meth : Method} {c : Code} {G : GW} {r : Nat} {z' : AH} (C : Cx p m c cX4_toCountry 5 s args RX4 G) (hlk : meth.locks = false) (hr : meth.sig.returnType = (some (.object "PairedViews$Country"))) (k10 : Nat → Nat → Int32 → AH → Option (Nat × AH)) (hk10 : ∀ (a0 : Nat) (a1 : Nat) (l2 : Int32) (z : AH) (H : Heap) (locs : List Loc) (ls : Array Slot), k10 a0 a1 l2 z = some (r, z') → Wb G z s H locs → lv_has ls 5 [(0, .ref (gB G + a0)), (1, .ref (gB G + a1)), (2, .int l2)] → W p l e rmX4_toCountry s m args below meth c H locs 15 140 (MQ below (Qq G (some r) z') args s 15 140 (AA G)) (F0 m 10 ls [])) (a0 : Nat) (a1 : Nat) (l2 : Int32) {z : AH} {H : Heap} {locs : List Loc} {ls : Array Slot} (h : bX4_toCountry_10 k10 a0 a1 l2 z = some (r, z')) (hW : Wb G z s H locs) (hl : lv_has ls 5 [(0, .ref (gB G + a0)), (1, .ref (gB G + a1)), (2, .int l2)]) : W p l e rmX4_toCountry s m args below meth c H locs 15 140 (MQ below (Qq G (some r) z') args s 15 140 (AA G)) (F0 m 10 ls []) := by
  have hx := C.1
  have hb := C.2.1
  unfold bX4_toCountry_10 at h
  refine lv_iload_n hx hb dX4_toCountry_10 rfl (lv_at hl 2 rfl) ?_
  refine lv_aload_n hx hb dX4_toCountry_11 rfl (lv_at hl 0 rfl) ?_
  obtain ⟨x12, hg, h⟩ := ob h
  refine wz_gI C hW flX4_53 hg dX4_toCountry_12 ?_
  refine lv_icmp_ge (tgt := 74) hx hb dX4_toCountry_15 (by decide) (fun c15 => ?_) (fun c15 => ?_)
  · have h := ite_t c15 h
    exact kbX4_toCountry_74 C hlk hr a0 a1 h hW (lv_sub hl [0, 1] rfl)
  · have h := ite_f c15 h
    refine lv_iload_n hx hb dX4_toCountry_18 rfl (lv_at hl 2 rfl) ?_
    refine lv_bipush (v := 120) hx hb dX4_toCountry_19 (by decide) ?_
    refine lv_icmp_ge (tgt := 74) hx hb dX4_toCountry_21 (by decide) (fun c21 => ?_) (fun c21 => ?_)
    · have h := ite_t c21 h
      exact kbX4_toCountry_74 C hlk hr a0 a1 h hW (lv_sub hl [0, 1] rfl)
    · have h := ite_f c21 h
      refine lv_aload_n hx hb dX4_toCountry_24 rfl (lv_at hl 0 rfl) ?_
      obtain ⟨b25, hg, h⟩ := ob h
      refine wz_gN C hW flX4_18 hg dX4_toCountry_25 ?_
      refine lv_iconst (v := 3) hx hb dX4_toCountry_28 (by decide) ?_
      refine lv_iload_n hx hb dX4_toCountry_29 rfl (lv_at hl 2 rfl) ?_
      refine lv_imul hx hb dX4_toCountry_30 ?_
      obtain ⟨x31, hg, h⟩ := ob h
      refine wz_ald C hW hg dX4_toCountry_31 ?_
      refine lv_istore_n (lv' := [(3, .int x31), (0, .ref (gB G + a0)), (1, .ref (gB G + a1)), (2, .int l2)]) hx hb dX4_toCountry_32 rfl hl (by decide) rfl (fun ls hl => ?_)
      refine lv_aload_n hx hb dX4_toCountry_33 rfl (lv_at hl 1 rfl) ?_
      obtain ⟨b34, hg, h⟩ := ob h
      refine wz_gN C hW flX4_18 hg dX4_toCountry_34 ?_
      refine lv_iconst (v := 3) hx hb dX4_toCountry_37 (by decide) ?_
      refine lv_iload_n hx hb dX4_toCountry_38 rfl (lv_at hl 3 rfl) ?_
      refine lv_imul hx hb dX4_toCountry_39 ?_
      refine lv_iconst (v := 1) hx hb dX4_toCountry_40 (by decide) ?_
      refine lv_iadd hx hb dX4_toCountry_41 ?_
      obtain ⟨x42, hg, h⟩ := ob h
      refine wz_ald C hW hg dX4_toCountry_42 ?_
      refine lv_istore (lv' := [(4, .int x42), (3, .int x31), (0, .ref (gB G + a0)), (1, .ref (gB G + a1)), (2, .int l2)]) hx hb dX4_toCountry_43 hl (by decide) rfl (fun ls hl => ?_)
      refine lv_aload_n hx hb dX4_toCountry_45 rfl (lv_at hl 3 rfl) ?_
      refine lv_aload_n hx hb dX4_toCountry_46 rfl (lv_at hl 2 rfl) ?_
      obtain ⟨b47, hg, h⟩ := ob h
      refine wz_gN C hW flX4_11 hg dX4_toCountry_47 ?_
      refine lv_iload_n hx hb dX4_toCountry_50 rfl (lv_at hl 4 rfl) ?_
      obtain ⟨x51, hg, h⟩ := ob h
      refine wz_ald C hW hg dX4_toCountry_51 ?_
      refine lv_iload_n hx hb dX4_toCountry_52 rfl (lv_at hl 1 rfl) ?_
      refine lv_iload hx hb dX4_toCountry_53 (lv_at hl 0 rfl) ?_
      refine lv_aload_n hx hb dX4_toCountry_55 rfl (lv_at hl 2 rfl) ?_
      obtain ⟨b56, hg, h⟩ := ob h
      refine wz_gN C hW flX4_18 hg dX4_toCountry_56 ?_
      refine lv_iconst (v := 3) hx hb dX4_toCountry_59 (by decide) ?_
      refine lv_iload_n hx hb dX4_toCountry_60 rfl (lv_at hl 4 rfl) ?_
      refine lv_imul hx hb dX4_toCountry_61 ?_
      refine lv_iconst (v := 2) hx hb dX4_toCountry_62 (by decide) ?_
      refine lv_iadd hx hb dX4_toCountry_63 ?_
      obtain ⟨x64, hg, h⟩ := ob h
      refine wz_ald C hW hg dX4_toCountry_64 ?_
      obtain ⟨z65, hq, h⟩ := ob h
      refine wz_rV (c' := 15) (s' := 140) hW (wz_runS (rest := []) C hW lTX4_156 (ctX4_tellLine l G a1 x51 x31 x42 x64 z hq) ⟨⟨rfl, rfl⟩, Nat.le_of_ble_eq_true rfl, Nat.le_of_ble_eq_true rfl⟩ rfl hl.1 rfl (Nat.le_of_ble_eq_true rfl) dX4_toCountry_65 ⟨Nat.le_of_ble_eq_true rfl, Nat.le_of_ble_eq_true rfl⟩) rfl rfl (fun H locs hW => ?_)
      obtain ⟨v68, ev68⟩ : ∃ y : Int32, y = (l2 + (1 : Int32)) := ⟨_, rfl⟩
      have h := nm_to h ev68
      refine lv_iinc (v := v68) (lv' := [(2, .int v68), (4, .int x42), (3, .int x31), (0, .ref (gB G + a0)), (1, .ref (gB G + a1))]) hx hb dX4_toCountry_68 hl (k := 4) rfl (by rw [ev68]; rfl) (by decide) rfl (fun ls hl => ?_)
      refine lv_goto (tgt := 10) hx hb dX4_toCountry_71 (by decide) ?_
      exact hk10 a0 a1 v68 z65 _ _ _ h hW (lv_sub hl [3, 4, 0] rfl)
def fX4_toCountry_10 : Nat → Nat → Nat → Int32 → AH → Option (Nat × AH)
  | 0, _, _, _, _ => none
  | n + 1, a0, a1, l2, z => bX4_toCountry_10 (fX4_toCountry_10 n) a0 a1 l2 z
theorem klX4_toCountry_10 {p : Program} {l : Launch} {e : Env} {s : State} {m : MethodId} {args : Array Value} {below : List Frame} {meth : Method} {c : Code} {G : GW} {r : Nat} {z' : AH} (C : Cx p m c cX4_toCountry 5 s args RX4 G) (hlk : meth.locks = false) (hr : meth.sig.returnType = (some (.object "PairedViews$Country"))) : ∀ (n : Nat) (a0 : Nat) (a1 : Nat) (l2 : Int32) (z : AH) (H : Heap) (locs : List Loc) (ls : Array Slot), fX4_toCountry_10 n a0 a1 l2 z = some (r, z') → Wb G z s H locs → lv_has ls 5 [(0, .ref (gB G + a0)), (1, .ref (gB G + a1)), (2, .int l2)] → W p l e rmX4_toCountry s m args below meth c H locs 15 140 (MQ below (Qq G (some r) z') args s 15 140 (AA G)) (F0 m 10 ls []) := by
  intro n
  induction n with
  | zero => intro a0 a1 l2 z H locs ls h; have h : (none : Option (Nat × AH)) = some (r, z') := h; cases h
  | succ n ih => intro a0 a1 l2 z H locs ls h hW hl; exact kbX4_toCountry_10 C hlk hr (fX4_toCountry_10 n) (fun a0 a1 l2 z H locs ls h hW hl => ih a0 a1 l2 z H locs ls h hW hl) a0 a1 l2 h hW hl
def fX4_toCountry (a0 : Nat) (z : AH) : Option (Nat × AH) :=
  if isO 3 z a0 = true then
    mk (.inr (.inr (0, newF 0))) z fun b0 z0 =>
    (fX0_init b0 z0).bind fun z4 =>
    fX4_toCountry_10 FU a0 b0 (0 : Int32) z4
  else none
set_option maxHeartbeats 4000000 in
set_option maxRecDepth 100000 in
theorem ctX4_toCountry (l : Launch) (G : GW) (a0 : Nat) (z : AH) {r : Nat} {z' : AH} (h : fX4_toCountry a0 z = some (r, z')) : Met l yX4_toCountry (wy yX4_toCountry cX4_toCountry 5 (some (.object "PairedViews$Country"))) rmX4_toCountry (Pz G [.ref (gB G + a0)] z) (Qq G (some r) z') 15 140 (AA G) := by
  refine wz_ent (own := RX4) (by decide +kernel) rfl (fun p e s m below meth c ls C hlk hr hin hW hl => ?_) (Nat.le_of_ble_eq_true rfl)
  have hl : lv_has ls 5 [(0, .ref (gB G + a0))] := hl
  have hx := C.1
  have hb := C.2.1
  unfold fX4_toCountry at h
  obtain ⟨-, h⟩ := ck h
  obtain ⟨b0, z0, ea, ez, h⟩ := mk_ob h
  refine wz_newK (c' := 1) (s' := 20) ea ez ⟨_, rfl⟩ ⟨tw 655 (by decide +kernel) rfl, tw 147 (by decide +kernel) rfl, tw 121 (by decide +kernel) rfl⟩ C hW ⟨Nat.le_of_ble_eq_true rfl, Nat.le_of_ble_eq_true rfl⟩ rfl rfl dX4_toCountry_0 (fun H hW => ?_)
  refine lv_dup hx hb dX4_toCountry_3 rfl ?_
  obtain ⟨z4, hq, h⟩ := ob h
  refine wz_rV (c' := 15) (s' := 140) hW (wz_runI (rest := [.ref (gB G + b0)]) C hW lIX4_155 (ctX0_init l G b0 z0 hq) ⟨⟨rfl, rfl⟩, Nat.le_of_ble_eq_true rfl, Nat.le_of_ble_eq_true rfl⟩ rfl hl.1 rfl (Nat.le_of_ble_eq_true rfl) dX4_toCountry_4 ⟨Nat.le_of_ble_eq_true rfl, Nat.le_of_ble_eq_true rfl⟩) rfl rfl (fun H locs hW => ?_)
  refine lv_astore_n (lv' := [(1, .ref (gB G + b0)), (0, .ref (gB G + a0))]) hx hb dX4_toCountry_7 rfl hl (by decide) rfl (fun ls hl => ?_)
  refine lv_iconst (v := 0) hx hb dX4_toCountry_8 (by decide) ?_
  refine lv_istore_n (lv' := [(2, .int (0 : Int32)), (1, .ref (gB G + b0)), (0, .ref (gB G + a0))]) hx hb dX4_toCountry_9 rfl hl (by decide) rfl (fun ls hl => ?_)
  exact klX4_toCountry_10 C hlk hr FU a0 b0 (0 : Int32) z4 _ _ _ h hW (lv_sub hl [2, 1, 0] rfl)
theorem dX8_tryFrom_0 : decode cX8_tryFrom 0 = .ok (.aload_n 0, 1) := by decide +kernel
theorem dX8_tryFrom_1 : decode cX8_tryFrom 1 = .ok (.getfield 13, 3) := by decide +kernel
theorem dX8_tryFrom_4 : decode cX8_tryFrom 4 = .ok (.iload_n 1, 1) := by decide +kernel
theorem dX8_tryFrom_5 : decode cX8_tryFrom 5 = .ok (.aaload, 1) := by decide +kernel
theorem dX8_tryFrom_6 : decode cX8_tryFrom 6 = .ok (.astore_n 3, 1) := by decide +kernel
theorem dX8_tryFrom_7 : decode cX8_tryFrom 7 = .ok (.iload_n 1, 1) := by decide +kernel
theorem dX8_tryFrom_8 : decode cX8_tryFrom 8 = .ok (.aload_n 3, 1) := by decide +kernel
theorem dX8_tryFrom_9 : decode cX8_tryFrom 9 = .ok (.getfield 58, 3) := by decide +kernel
theorem dX8_tryFrom_12 : decode cX8_tryFrom 12 = .ok (.getfield 61, 3) := by decide +kernel
theorem dX8_tryFrom_15 : decode cX8_tryFrom 15 = .ok (.if_icmp .ge 8, 3) := by decide +kernel
theorem dX8_tryFrom_18 : decode cX8_tryFrom 18 = .ok (.iload_n 1, 1) := by decide +kernel
theorem dX8_tryFrom_19 : decode cX8_tryFrom 19 = .ok (.iconst 4, 1) := by decide +kernel
theorem dX8_tryFrom_20 : decode cX8_tryFrom 20 = .ok (.if_icmp .lt 10, 3) := by decide +kernel
theorem dX8_tryFrom_23 : decode cX8_tryFrom 23 = .ok (.aload_n 0, 1) := by decide +kernel
theorem dX8_tryFrom_24 : decode cX8_tryFrom 24 = .ok (.aload_n 3, 1) := by decide +kernel
theorem dX8_tryFrom_25 : decode cX8_tryFrom 25 = .ok (.iload_n 2, 1) := by decide +kernel
theorem dX8_tryFrom_26 : decode cX8_tryFrom 26 = .ok (.invokevirtual 64, 3) := by decide +kernel
theorem dX8_tryFrom_29 : decode cX8_tryFrom 29 = .ok (.return_, 1) := by decide +kernel
theorem dX8_tryFrom_30 : decode cX8_tryFrom 30 = .ok (.aload_n 0, 1) := by decide +kernel
theorem dX8_tryFrom_31 : decode cX8_tryFrom 31 = .ok (.getfield 13, 3) := by decide +kernel
theorem dX8_tryFrom_34 : decode cX8_tryFrom 34 = .ok (.iload_n 1, 1) := by decide +kernel
theorem dX8_tryFrom_35 : decode cX8_tryFrom 35 = .ok (.iconst 1, 1) := by decide +kernel
theorem dX8_tryFrom_36 : decode cX8_tryFrom 36 = .ok (.iadd, 1) := by decide +kernel
theorem dX8_tryFrom_37 : decode cX8_tryFrom 37 = .ok (.aaload, 1) := by decide +kernel
theorem dX8_tryFrom_38 : decode cX8_tryFrom 38 = .ok (.astore 4, 2) := by decide +kernel
theorem dX8_tryFrom_40 : decode cX8_tryFrom 40 = .ok (.iconst 0, 1) := by decide +kernel
theorem dX8_tryFrom_41 : decode cX8_tryFrom 41 = .ok (.istore 5, 2) := by decide +kernel
theorem dX8_tryFrom_43 : decode cX8_tryFrom 43 = .ok (.iload 5, 2) := by decide +kernel
theorem dX8_tryFrom_45 : decode cX8_tryFrom 45 = .ok (.aload_n 3, 1) := by decide +kernel
theorem dX8_tryFrom_46 : decode cX8_tryFrom 46 = .ok (.getfield 58, 3) := by decide +kernel
theorem dX8_tryFrom_49 : decode cX8_tryFrom 49 = .ok (.getfield 68, 3) := by decide +kernel
theorem dX8_tryFrom_52 : decode cX8_tryFrom 52 = .ok (.if_icmp .ge 59, 3) := by decide +kernel
theorem dX8_tryFrom_55 : decode cX8_tryFrom 55 = .ok (.aload_n 3, 1) := by decide +kernel
theorem dX8_tryFrom_56 : decode cX8_tryFrom 56 = .ok (.getfield 71, 3) := by decide +kernel
theorem dX8_tryFrom_59 : decode cX8_tryFrom 59 = .ok (.aload_n 3, 1) := by decide +kernel
theorem dX8_tryFrom_60 : decode cX8_tryFrom 60 = .ok (.getfield 74, 3) := by decide +kernel
theorem dX8_tryFrom_63 : decode cX8_tryFrom 63 = .ok (.ior, 1) := by decide +kernel
theorem dX8_tryFrom_64 : decode cX8_tryFrom 64 = .ok (.iload 5, 2) := by decide +kernel
theorem dX8_tryFrom_66 : decode cX8_tryFrom 66 = .ok (.invokestatic 77, 3) := by decide +kernel
theorem dX8_tryFrom_69 : decode cX8_tryFrom 69 = .ok (.ifCond .ne 36, 3) := by decide +kernel
theorem dX8_tryFrom_72 : decode cX8_tryFrom 72 = .ok (.aload 4, 2) := by decide +kernel
theorem dX8_tryFrom_74 : decode cX8_tryFrom 74 = .ok (.aload_n 3, 1) := by decide +kernel
theorem dX8_tryFrom_75 : decode cX8_tryFrom 75 = .ok (.invokevirtual 81, 3) := by decide +kernel
theorem dX8_tryFrom_78 : decode cX8_tryFrom 78 = .ok (.aload 4, 2) := by decide +kernel
theorem dX8_tryFrom_80 : decode cX8_tryFrom 80 = .ok (.iload_n 1, 1) := by decide +kernel
theorem dX8_tryFrom_81 : decode cX8_tryFrom 81 = .ok (.iload 5, 2) := by decide +kernel
theorem dX8_tryFrom_83 : decode cX8_tryFrom 83 = .ok (.invokevirtual 85, 3) := by decide +kernel
theorem dX8_tryFrom_86 : decode cX8_tryFrom 86 = .ok (.pop, 1) := by decide +kernel
theorem dX8_tryFrom_87 : decode cX8_tryFrom 87 = .ok (.aload_n 0, 1) := by decide +kernel
theorem dX8_tryFrom_88 : decode cX8_tryFrom 88 = .ok (.getfield 26, 3) := by decide +kernel
theorem dX8_tryFrom_91 : decode cX8_tryFrom 91 = .ok (.iload_n 1, 1) := by decide +kernel
theorem dX8_tryFrom_92 : decode cX8_tryFrom 92 = .ok (.iload 5, 2) := by decide +kernel
theorem dX8_tryFrom_94 : decode cX8_tryFrom 94 = .ok (.iastore, 1) := by decide +kernel
theorem dX8_tryFrom_95 : decode cX8_tryFrom 95 = .ok (.aload_n 0, 1) := by decide +kernel
theorem dX8_tryFrom_96 : decode cX8_tryFrom 96 = .ok (.iload_n 1, 1) := by decide +kernel
