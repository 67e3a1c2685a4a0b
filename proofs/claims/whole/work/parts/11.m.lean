theorem dJ6_bitCount_0f7a4_0 : decode cJ6_bitCount_0f7a4 0 = .ok (.iload_n 0, 1) := by decide +kernel
theorem dJ6_bitCount_0f7a4_1 : decode cJ6_bitCount_0f7a4 1 = .ok (.iload_n 0, 1) := by decide +kernel
theorem dJ6_bitCount_0f7a4_2 : decode cJ6_bitCount_0f7a4 2 = .ok (.iconst 1, 1) := by decide +kernel
theorem dJ6_bitCount_0f7a4_3 : decode cJ6_bitCount_0f7a4 3 = .ok (.iushr, 1) := by decide +kernel
theorem dJ6_bitCount_0f7a4_4 : decode cJ6_bitCount_0f7a4 4 = .ok (.ldc_w 265, 3) := by decide +kernel
theorem dJ6_bitCount_0f7a4_7 : decode cJ6_bitCount_0f7a4 7 = .ok (.iand, 1) := by decide +kernel
theorem dJ6_bitCount_0f7a4_8 : decode cJ6_bitCount_0f7a4 8 = .ok (.isub, 1) := by decide +kernel
theorem dJ6_bitCount_0f7a4_9 : decode cJ6_bitCount_0f7a4 9 = .ok (.istore_n 0, 1) := by decide +kernel
theorem dJ6_bitCount_0f7a4_10 : decode cJ6_bitCount_0f7a4 10 = .ok (.iload_n 0, 1) := by decide +kernel
theorem dJ6_bitCount_0f7a4_11 : decode cJ6_bitCount_0f7a4 11 = .ok (.ldc_w 266, 3) := by decide +kernel
theorem dJ6_bitCount_0f7a4_14 : decode cJ6_bitCount_0f7a4 14 = .ok (.iand, 1) := by decide +kernel
theorem dJ6_bitCount_0f7a4_15 : decode cJ6_bitCount_0f7a4 15 = .ok (.iload_n 0, 1) := by decide +kernel
theorem dJ6_bitCount_0f7a4_16 : decode cJ6_bitCount_0f7a4 16 = .ok (.iconst 2, 1) := by decide +kernel
theorem dJ6_bitCount_0f7a4_17 : decode cJ6_bitCount_0f7a4 17 = .ok (.iushr, 1) := by decide +kernel
theorem dJ6_bitCount_0f7a4_18 : decode cJ6_bitCount_0f7a4 18 = .ok (.ldc_w 266, 3) := by decide +kernel
theorem dJ6_bitCount_0f7a4_21 : decode cJ6_bitCount_0f7a4 21 = .ok (.iand, 1) := by decide +kernel
theorem dJ6_bitCount_0f7a4_22 : decode cJ6_bitCount_0f7a4 22 = .ok (.iadd, 1) := by decide +kernel
theorem dJ6_bitCount_0f7a4_23 : decode cJ6_bitCount_0f7a4 23 = .ok (.istore_n 0, 1) := by decide +kernel
theorem dJ6_bitCount_0f7a4_24 : decode cJ6_bitCount_0f7a4 24 = .ok (.iload_n 0, 1) := by decide +kernel
theorem dJ6_bitCount_0f7a4_25 : decode cJ6_bitCount_0f7a4 25 = .ok (.iload_n 0, 1) := by decide +kernel
theorem dJ6_bitCount_0f7a4_26 : decode cJ6_bitCount_0f7a4 26 = .ok (.iconst 4, 1) := by decide +kernel
theorem dJ6_bitCount_0f7a4_27 : decode cJ6_bitCount_0f7a4 27 = .ok (.iushr, 1) := by decide +kernel
theorem dJ6_bitCount_0f7a4_28 : decode cJ6_bitCount_0f7a4 28 = .ok (.iadd, 1) := by decide +kernel
theorem dJ6_bitCount_0f7a4_29 : decode cJ6_bitCount_0f7a4 29 = .ok (.ldc_w 267, 3) := by decide +kernel
theorem dJ6_bitCount_0f7a4_32 : decode cJ6_bitCount_0f7a4 32 = .ok (.iand, 1) := by decide +kernel
theorem dJ6_bitCount_0f7a4_33 : decode cJ6_bitCount_0f7a4 33 = .ok (.istore_n 0, 1) := by decide +kernel
theorem dJ6_bitCount_0f7a4_34 : decode cJ6_bitCount_0f7a4 34 = .ok (.iload_n 0, 1) := by decide +kernel
theorem dJ6_bitCount_0f7a4_35 : decode cJ6_bitCount_0f7a4 35 = .ok (.iload_n 0, 1) := by decide +kernel
theorem dJ6_bitCount_0f7a4_36 : decode cJ6_bitCount_0f7a4 36 = .ok (.bipush 8, 2) := by decide +kernel
theorem dJ6_bitCount_0f7a4_38 : decode cJ6_bitCount_0f7a4 38 = .ok (.iushr, 1) := by decide +kernel
theorem dJ6_bitCount_0f7a4_39 : decode cJ6_bitCount_0f7a4 39 = .ok (.iadd, 1) := by decide +kernel
theorem dJ6_bitCount_0f7a4_40 : decode cJ6_bitCount_0f7a4 40 = .ok (.istore_n 0, 1) := by decide +kernel
theorem dJ6_bitCount_0f7a4_41 : decode cJ6_bitCount_0f7a4 41 = .ok (.iload_n 0, 1) := by decide +kernel
theorem dJ6_bitCount_0f7a4_42 : decode cJ6_bitCount_0f7a4 42 = .ok (.iload_n 0, 1) := by decide +kernel
theorem dJ6_bitCount_0f7a4_43 : decode cJ6_bitCount_0f7a4 43 = .ok (.bipush 16, 2) := by decide +kernel
theorem dJ6_bitCount_0f7a4_45 : decode cJ6_bitCount_0f7a4 45 = .ok (.iushr, 1) := by decide +kernel
theorem dJ6_bitCount_0f7a4_46 : decode cJ6_bitCount_0f7a4 46 = .ok (.iadd, 1) := by decide +kernel
theorem dJ6_bitCount_0f7a4_47 : decode cJ6_bitCount_0f7a4 47 = .ok (.istore_n 0, 1) := by decide +kernel
theorem dJ6_bitCount_0f7a4_48 : decode cJ6_bitCount_0f7a4 48 = .ok (.iload_n 0, 1) := by decide +kernel
theorem dJ6_bitCount_0f7a4_49 : decode cJ6_bitCount_0f7a4 49 = .ok (.bipush 63, 2) := by decide +kernel
theorem dJ6_bitCount_0f7a4_51 : decode cJ6_bitCount_0f7a4 51 = .ok (.iand, 1) := by decide +kernel
theorem dJ6_bitCount_0f7a4_52 : decode cJ6_bitCount_0f7a4 52 = .ok (.ireturn, 1) := by decide +kernel
abbrev rmJ6_bitCount_0f7a4 : Room := { frames := 0, cells := 0, slots := 0, locals := 0 }
def fJ6_bitCount_0f7a4 (l0 : Int32) : Int32 :=
  nm (l0 - ((ush l0 (1 : Int32)) &&& (1431655765 : Int32))) fun v9 =>
  nm ((v9 &&& (858993459 : Int32)) + ((ush v9 (2 : Int32)) &&& (858993459 : Int32))) fun v23 =>
  nm ((v23 + (ush v23 (4 : Int32))) &&& (252645135 : Int32)) fun v33 =>
  nm (v33 + (ush v33 (8 : Int32))) fun v40 =>
  nm (v40 + (ush v40 (16 : Int32))) fun v47 =>
  (v47 &&& (63 : Int32))
set_option maxHeartbeats 4000000 in
set_option maxRecDepth 100000 in
theorem ctJ6_bitCount_0f7a4 (l : Launch) (G : GW) (l0 : Int32) (z : AH) {r : Int32} (h : fJ6_bitCount_0f7a4 l0 = r) : Met l yJ6_bitCount_0f7a4 (wy yJ6_bitCount_0f7a4 cJ6_bitCount_0f7a4 1 (some .int)) rmJ6_bitCount_0f7a4 (Pz G [.int l0] z) (Qi G r z) 0 0 (AA G) := by
  refine wz_ent (own := RJ6) (by decide +kernel) rfl (fun p e s m below meth c ls C hlk hr hin hW hl => ?_) (Nat.le_of_ble_eq_true rfl)
  have hl : lv_has ls 1 [(0, .int l0)] := hl
  have hx := C.1
  have hb := C.2.1
  unfold fJ6_bitCount_0f7a4 at h
  refine lv_iload_n hx hb dJ6_bitCount_0f7a4_0 rfl (lv_at hl 0 rfl) ?_
  refine lv_iload_n hx hb dJ6_bitCount_0f7a4_1 rfl (lv_at hl 0 rfl) ?_
  refine lv_iconst (v := 1) hx hb dJ6_bitCount_0f7a4_2 (by decide) ?_
  refine wz_ush hx hb dJ6_bitCount_0f7a4_3 ?_
  refine lv_ldcw (v := 1431655765) hx hb C.2.2.2.1 (C.2.2.2.2.1 _ (tw 931 (by decide +kernel) rfl)) dJ6_bitCount_0f7a4_4 ?_
  refine lv_iand hx hb dJ6_bitCount_0f7a4_7 ?_
  refine lv_isub hx hb dJ6_bitCount_0f7a4_8 ?_
  refine lv_topi (fun v9 ev9 => ?_)
  have h := nm_to h ev9
  refine lv_istore_n (lv' := [(0, .int v9)]) hx hb dJ6_bitCount_0f7a4_9 rfl hl (by decide) rfl (fun ls hl => ?_)
  refine lv_iload_n hx hb dJ6_bitCount_0f7a4_10 rfl (lv_at hl 0 rfl) ?_
  refine lv_ldcw (v := 858993459) hx hb C.2.2.2.1 (C.2.2.2.2.1 _ (tw 932 (by decide +kernel) rfl)) dJ6_bitCount_0f7a4_11 ?_
  refine lv_iand hx hb dJ6_bitCount_0f7a4_14 ?_
  refine lv_iload_n hx hb dJ6_bitCount_0f7a4_15 rfl (lv_at hl 0 rfl) ?_
  refine lv_iconst (v := 2) hx hb dJ6_bitCount_0f7a4_16 (by decide) ?_
  refine wz_ush hx hb dJ6_bitCount_0f7a4_17 ?_
  refine lv_ldcw (v := 858993459) hx hb C.2.2.2.1 (C.2.2.2.2.1 _ (tw 932 (by decide +kernel) rfl)) dJ6_bitCount_0f7a4_18 ?_
  refine lv_iand hx hb dJ6_bitCount_0f7a4_21 ?_
  refine lv_iadd hx hb dJ6_bitCount_0f7a4_22 ?_
  refine lv_topi (fun v23 ev23 => ?_)
  have h := nm_to h ev23
  refine lv_istore_n (lv' := [(0, .int v23)]) hx hb dJ6_bitCount_0f7a4_23 rfl hl (by decide) rfl (fun ls hl => ?_)
  refine lv_iload_n hx hb dJ6_bitCount_0f7a4_24 rfl (lv_at hl 0 rfl) ?_
  refine lv_iload_n hx hb dJ6_bitCount_0f7a4_25 rfl (lv_at hl 0 rfl) ?_
  refine lv_iconst (v := 4) hx hb dJ6_bitCount_0f7a4_26 (by decide) ?_
  refine wz_ush hx hb dJ6_bitCount_0f7a4_27 ?_
  refine lv_iadd hx hb dJ6_bitCount_0f7a4_28 ?_
  refine lv_ldcw (v := 252645135) hx hb C.2.2.2.1 (C.2.2.2.2.1 _ (tw 933 (by decide +kernel) rfl)) dJ6_bitCount_0f7a4_29 ?_
  refine lv_iand hx hb dJ6_bitCount_0f7a4_32 ?_
  refine lv_topi (fun v33 ev33 => ?_)
  have h := nm_to h ev33
  refine lv_istore_n (lv' := [(0, .int v33)]) hx hb dJ6_bitCount_0f7a4_33 rfl hl (by decide) rfl (fun ls hl => ?_)
  refine lv_iload_n hx hb dJ6_bitCount_0f7a4_34 rfl (lv_at hl 0 rfl) ?_
  refine lv_iload_n hx hb dJ6_bitCount_0f7a4_35 rfl (lv_at hl 0 rfl) ?_
  refine lv_bipush (v := 8) hx hb dJ6_bitCount_0f7a4_36 (by decide) ?_
  refine wz_ush hx hb dJ6_bitCount_0f7a4_38 ?_
  refine lv_iadd hx hb dJ6_bitCount_0f7a4_39 ?_
  refine lv_topi (fun v40 ev40 => ?_)
  have h := nm_to h ev40
  refine lv_istore_n (lv' := [(0, .int v40)]) hx hb dJ6_bitCount_0f7a4_40 rfl hl (by decide) rfl (fun ls hl => ?_)
  refine lv_iload_n hx hb dJ6_bitCount_0f7a4_41 rfl (lv_at hl 0 rfl) ?_
  refine lv_iload_n hx hb dJ6_bitCount_0f7a4_42 rfl (lv_at hl 0 rfl) ?_
  refine lv_bipush (v := 16) hx hb dJ6_bitCount_0f7a4_43 (by decide) ?_
  refine wz_ush hx hb dJ6_bitCount_0f7a4_45 ?_
  refine lv_iadd hx hb dJ6_bitCount_0f7a4_46 ?_
  refine lv_topi (fun v47 ev47 => ?_)
  have h := nm_to h ev47
  refine lv_istore_n (lv' := [(0, .int v47)]) hx hb dJ6_bitCount_0f7a4_47 rfl hl (by decide) rfl (fun ls hl => ?_)
  refine lv_iload_n hx hb dJ6_bitCount_0f7a4_48 rfl (lv_at hl 0 rfl) ?_
  refine lv_bipush (v := 63) hx hb dJ6_bitCount_0f7a4_49 (by decide) ?_
  refine lv_iand hx hb dJ6_bitCount_0f7a4_51 ?_
  exact wz_iretE C hlk hr h rfl hW dJ6_bitCount_0f7a4_52
theorem lTX1_89 : LT RX1 89 yJ6_bitCount_0f7a4 cJ6_bitCount_0f7a4 1 (some .int) 1 := ⟨tw 1144 (by decide +kernel) rfl, tw 929 (by decide +kernel) rfl, tw 136 (by decide +kernel) rfl, tw 930 (by decide +kernel) rfl, ⟨by decide +kernel, by decide +kernel, by decide +kernel⟩⟩
theorem lTX1_86 : LT RX1 86 yX1_withOneMore cX1_withOneMore 6 (some .int) 3 := ⟨tw 1140 (by decide +kernel) rfl, tw 1141 (by decide +kernel) rfl, tw 126 (by decide +kernel) rfl, tw 1142 (by decide +kernel) rfl, ⟨by decide +kernel, by decide +kernel, by decide +kernel⟩⟩
theorem dX1_mostPairs_0 : decode cX1_mostPairs 0 = .ok (.iconst 1, 1) := by decide +kernel
theorem dX1_mostPairs_1 : decode cX1_mostPairs 1 = .ok (.istore_n 1, 1) := by decide +kernel
theorem dX1_mostPairs_2 : decode cX1_mostPairs 2 = .ok (.iconst 0, 1) := by decide +kernel
theorem dX1_mostPairs_3 : decode cX1_mostPairs 3 = .ok (.istore_n 2, 1) := by decide +kernel
theorem dX1_mostPairs_4 : decode cX1_mostPairs 4 = .ok (.iload_n 2, 1) := by decide +kernel
theorem dX1_mostPairs_5 : decode cX1_mostPairs 5 = .ok (.aload_n 0, 1) := by decide +kernel
theorem dX1_mostPairs_6 : decode cX1_mostPairs 6 = .ok (.getfield 38, 3) := by decide +kernel
theorem dX1_mostPairs_9 : decode cX1_mostPairs 9 = .ok (.if_icmp .ge 16, 3) := by decide +kernel
theorem dX1_mostPairs_12 : decode cX1_mostPairs 12 = .ok (.aload_n 0, 1) := by decide +kernel
theorem dX1_mostPairs_13 : decode cX1_mostPairs 13 = .ok (.iload_n 2, 1) := by decide +kernel
theorem dX1_mostPairs_14 : decode cX1_mostPairs 14 = .ok (.iload_n 1, 1) := by decide +kernel
theorem dX1_mostPairs_15 : decode cX1_mostPairs 15 = .ok (.invokestatic 86, 3) := by decide +kernel
theorem dX1_mostPairs_18 : decode cX1_mostPairs 18 = .ok (.istore_n 1, 1) := by decide +kernel
theorem dX1_mostPairs_19 : decode cX1_mostPairs 19 = .ok (.iinc 2 1, 3) := by decide +kernel
theorem dX1_mostPairs_22 : decode cX1_mostPairs 22 = .ok (.goto (-18), 3) := by decide +kernel
theorem dX1_mostPairs_25 : decode cX1_mostPairs 25 = .ok (.iconst 0, 1) := by decide +kernel
theorem dX1_mostPairs_26 : decode cX1_mostPairs 26 = .ok (.istore_n 2, 1) := by decide +kernel
theorem dX1_mostPairs_27 : decode cX1_mostPairs 27 = .ok (.iconst 0, 1) := by decide +kernel
theorem dX1_mostPairs_28 : decode cX1_mostPairs 28 = .ok (.istore_n 3, 1) := by decide +kernel
theorem dX1_mostPairs_29 : decode cX1_mostPairs 29 = .ok (.iload_n 3, 1) := by decide +kernel
theorem dX1_mostPairs_30 : decode cX1_mostPairs 30 = .ok (.bipush 16, 2) := by decide +kernel
theorem dX1_mostPairs_32 : decode cX1_mostPairs 32 = .ok (.if_icmp .ge 26, 3) := by decide +kernel
theorem dX1_mostPairs_35 : decode cX1_mostPairs 35 = .ok (.iload_n 1, 1) := by decide +kernel
theorem dX1_mostPairs_36 : decode cX1_mostPairs 36 = .ok (.iload_n 3, 1) := by decide +kernel
theorem dX1_mostPairs_37 : decode cX1_mostPairs 37 = .ok (.invokestatic 49, 3) := by decide +kernel
theorem dX1_mostPairs_40 : decode cX1_mostPairs 40 = .ok (.ifCond .eq 12, 3) := by decide +kernel
theorem dX1_mostPairs_43 : decode cX1_mostPairs 43 = .ok (.iload_n 2, 1) := by decide +kernel
theorem dX1_mostPairs_44 : decode cX1_mostPairs 44 = .ok (.iload_n 3, 1) := by decide +kernel
theorem dX1_mostPairs_45 : decode cX1_mostPairs 45 = .ok (.invokestatic 89, 3) := by decide +kernel
theorem dX1_mostPairs_48 : decode cX1_mostPairs 48 = .ok (.invokestatic 95, 3) := by decide +kernel
theorem dX1_mostPairs_51 : decode cX1_mostPairs 51 = .ok (.istore_n 2, 1) := by decide +kernel
theorem dX1_mostPairs_52 : decode cX1_mostPairs 52 = .ok (.iinc 3 1, 3) := by decide +kernel
theorem dX1_mostPairs_55 : decode cX1_mostPairs 55 = .ok (.goto (-26), 3) := by decide +kernel
theorem dX1_mostPairs_58 : decode cX1_mostPairs 58 = .ok (.iload_n 2, 1) := by decide +kernel
theorem dX1_mostPairs_59 : decode cX1_mostPairs 59 = .ok (.ireturn, 1) := by decide +kernel
abbrev rmX1_mostPairs : Room := { frames := 2, cells := 0, slots := 0, locals := 49 }
def bX1_mostPairs_29 (k29 : Int32 → Int32 → Int32 → Option (Int32)) (l1 : Int32) (l2 : Int32) (l3 : Int32) (z : AH) : Option (Int32) :=
  if (16 : Int32) ≤ l3 then (
    some l2
  ) else (
    if (fX9_hasBit l1 l3) = (0 : Int32) then (
      nm (l3 + (1 : Int32)) fun v52 =>
      k29 l1 l2 v52
    ) else (
      nm (imax l2 (fJ6_bitCount_0f7a4 l3)) fun v51 =>
      nm (l3 + (1 : Int32)) fun v52 =>
      k29 l1 v51 v52
    )
  )
set_option maxHeartbeats 4000000 in
set_option maxRecDepth 100000 in
theorem kbX1_mostPairs_29 {p : Program} {l : Launch} {e : Env} {s : State} {m : MethodId} {args : Array Value} {below : List Frame} {meth : Method} {c : Code} {G : GW} {r : Int32} (C : Cx p m c cX1_mostPairs 4 s args RX1 G) (hlk : meth.locks = false) (hr : meth.sig.returnType = (some .int)) {z : AH} (k29 : Int32 → Int32 → Int32 → Option (Int32)) (hk29 : ∀ (l1 : Int32) (l2 : Int32) (l3 : Int32) (H : Heap) (locs : List Loc) (ls : Array Slot), k29 l1 l2 l3 = some r → Wb G z s H locs → lv_has ls 4 [(1, .int l1), (2, .int l2), (3, .int l3)] → W p l e rmX1_mostPairs s m args below meth c H locs 0 0 (MQ below (Qi G r z) args s 0 0 (AA G)) (F0 m 29 ls [])) (l1 : Int32) (l2 : Int32) (l3 : Int32) {H : Heap} {locs : List Loc} {ls : Array Slot} (h : bX1_mostPairs_29 k29 l1 l2 l3 z = some r) (hW : Wb G z s H locs) (hl : lv_has ls 4 [(1, .int l1), (2, .int l2), (3, .int l3)]) : W p l e rmX1_mostPairs s m args below meth c H locs 0 0 (MQ below (Qi G r z) args s 0 0 (AA G)) (F0 m 29 ls []) := by
  have hx := C.1
  have hb := C.2.1
  unfold bX1_mostPairs_29 at h
  refine lv_iload_n hx hb dX1_mostPairs_29 rfl (lv_at hl 2 rfl) ?_
  refine lv_bipush (v := 16) hx hb dX1_mostPairs_30 (by decide) ?_
  refine lv_icmp_ge (tgt := 58) hx hb dX1_mostPairs_32 (by decide) (fun c32 => ?_) (fun c32 => ?_)
  · have h := ite_t c32 h
    refine lv_iload_n hx hb dX1_mostPairs_58 rfl (lv_at hl 1 rfl) ?_
    exact wz_iretE C hlk hr (Option.some.inj h) rfl hW dX1_mostPairs_59
  · have h := ite_f c32 h
    refine lv_iload_n hx hb dX1_mostPairs_35 rfl (lv_at hl 0 rfl) ?_
    refine lv_iload_n hx hb dX1_mostPairs_36 rfl (lv_at hl 2 rfl) ?_
    refine wz_rI (c' := 0) (s' := 0) hW (wz_runN (rest := []) C hW lNX1_49 (ctX9_hasBit l G l1 l3 z rfl) ⟨⟨rfl, rfl⟩, Nat.le_of_ble_eq_true rfl, Nat.le_of_ble_eq_true rfl⟩ rfl hl.1 rfl (Nat.le_of_ble_eq_true rfl) dX1_mostPairs_37 ⟨Nat.le_of_ble_eq_true rfl, Nat.le_of_ble_eq_true rfl⟩) rfl rfl (fun H locs hW => ?_)
    refine lv_if_eq (tgt := 52) hx hb dX1_mostPairs_40 (by decide) (fun c40 => ?_) (fun c40 => ?_)
    · have h := ite_t c40 h
      obtain ⟨v52, ev52⟩ : ∃ y : Int32, y = (l3 + (1 : Int32)) := ⟨_, rfl⟩
      have h := nm_to h ev52
      refine lv_iinc (v := v52) (lv' := [(3, .int v52), (1, .int l1), (2, .int l2)]) hx hb dX1_mostPairs_52 hl (k := 2) rfl (by rw [ev52]; rfl) (by decide) rfl (fun ls hl => ?_)
      refine lv_goto (tgt := 29) hx hb dX1_mostPairs_55 (by decide) ?_
      exact hk29 l1 l2 v52 _ _ _ h hW (lv_sub hl [1, 2, 0] rfl)
    · have h := ite_f c40 h
      refine lv_iload_n hx hb dX1_mostPairs_43 rfl (lv_at hl 1 rfl) ?_
      refine lv_iload_n hx hb dX1_mostPairs_44 rfl (lv_at hl 2 rfl) ?_
      refine wz_rI (c' := 0) (s' := 0) hW (wz_runS (rest := [.int l2]) C hW lTX1_89 (ctJ6_bitCount_0f7a4 l G l3 z rfl) ⟨⟨rfl, rfl⟩, Nat.le_of_ble_eq_true rfl, Nat.le_of_ble_eq_true rfl⟩ rfl hl.1 rfl (Nat.le_of_ble_eq_true rfl) dX1_mostPairs_45 ⟨Nat.le_of_ble_eq_true rfl, Nat.le_of_ble_eq_true rfl⟩) rfl rfl (fun H locs hW => ?_)
      refine wz_max ⟨tw 1145 (by decide +kernel) rfl, tw 733 (by decide +kernel) rfl, tw 129 (by decide +kernel) rfl, tw 734 (by decide +kernel) rfl⟩ C hl.1 ⟨⟨Nat.le_of_ble_eq_true rfl, Nat.le_of_ble_eq_true rfl⟩, Nat.le_of_ble_eq_true rfl, Nat.le_of_ble_eq_true rfl⟩ (Nat.le_of_ble_eq_true rfl) dX1_mostPairs_48 ?_
      refine lv_topi (fun v51 ev51 => ?_)
      have h := nm_to h ev51
      refine lv_istore_n (lv' := [(2, .int v51), (1, .int l1), (3, .int l3)]) hx hb dX1_mostPairs_51 rfl hl (by decide) rfl (fun ls hl => ?_)
      obtain ⟨v52, ev52⟩ : ∃ y : Int32, y = (l3 + (1 : Int32)) := ⟨_, rfl⟩
      have h := nm_to h ev52
      refine lv_iinc (v := v52) (lv' := [(3, .int v52), (2, .int v51), (1, .int l1)]) hx hb dX1_mostPairs_52 hl (k := 2) rfl (by rw [ev52]; rfl) (by decide) rfl (fun ls hl => ?_)
      refine lv_goto (tgt := 29) hx hb dX1_mostPairs_55 (by decide) ?_
      exact hk29 l1 v51 v52 _ _ _ h hW (lv_sub hl [2, 1, 0] rfl)
def fX1_mostPairs_29 (z : AH) : Nat → Int32 → Int32 → Int32 → Option (Int32)
  | 0, _, _, _ => none
  | n + 1, l1, l2, l3 => bX1_mostPairs_29 (fX1_mostPairs_29 z n) l1 l2 l3 z
theorem klX1_mostPairs_29 {p : Program} {l : Launch} {e : Env} {s : State} {m : MethodId} {args : Array Value} {below : List Frame} {meth : Method} {c : Code} {G : GW} {r : Int32} (C : Cx p m c cX1_mostPairs 4 s args RX1 G) (hlk : meth.locks = false) (hr : meth.sig.returnType = (some .int)) {z : AH} : ∀ (n : Nat) (l1 : Int32) (l2 : Int32) (l3 : Int32) (H : Heap) (locs : List Loc) (ls : Array Slot), fX1_mostPairs_29 z n l1 l2 l3 = some r → Wb G z s H locs → lv_has ls 4 [(1, .int l1), (2, .int l2), (3, .int l3)] → W p l e rmX1_mostPairs s m args below meth c H locs 0 0 (MQ below (Qi G r z) args s 0 0 (AA G)) (F0 m 29 ls []) := by
  intro n
  induction n with
  | zero => intro l1 l2 l3 H locs ls h; have h : (none : Option (Int32)) = some r := h; cases h
  | succ n ih => intro l1 l2 l3 H locs ls h hW hl; exact kbX1_mostPairs_29 C hlk hr (fX1_mostPairs_29 z n) (fun l1 l2 l3 H locs ls h hW hl => ih l1 l2 l3 H locs ls h hW hl) l1 l2 l3 h hW hl
def bX1_mostPairs_4 (k4 : Nat → Int32 → Int32 → Option (Int32)) (a0 : Nat) (l1 : Int32) (l2 : Int32) (z : AH) : Option (Int32) :=
  (gI 0 10 z a0).bind fun x6 =>
  if x6 ≤ l2 then (
    fX1_mostPairs_29 z FU l1 (0 : Int32) (0 : Int32)
  ) else (
    (fX1_withOneMore a0 l2 l1 z).bind fun x15 =>
    nm (l2 + (1 : Int32)) fun v19 =>
    k4 a0 x15 v19
  )
set_option maxHeartbeats 4000000 in
set_option maxRecDepth 100000 in
theorem kbX1_mostPairs_4 {p : Program} {l : Launch} {e : Env} {s : State} {m : MethodId} {args : Array Value} {below : List Frame} {meth : Method} {c : Code} {G : GW} {r : Int32} (C : Cx p m c cX1_mostPairs 4 s args RX1 G) (hlk : meth.locks = false) (hr : meth.sig.returnType = (some .int)) {z : AH} (k4 : Nat → Int32 → Int32 → Option (Int32)) (hk4 : ∀ (a0 : Nat) (l1 : Int32) (l2 : Int32) (H : Heap) (locs : List Loc) (ls : Array Slot), k4 a0 l1 l2 = some r → Wb G z s H locs → lv_has ls 4 [(0, .ref (gB G + a0)), (1, .int l1), (2, .int l2)] → W p l e rmX1_mostPairs s m args below meth c H locs 0 0 (MQ below (Qi G r z) args s 0 0 (AA G)) (F0 m 4 ls [])) (a0 : Nat) (l1 : Int32) (l2 : Int32) {H : Heap} {locs : List Loc} {ls : Array Slot} (h : bX1_mostPairs_4 k4 a0 l1 l2 z = some r) (hW : Wb G z s H locs) (hl : lv_has ls 4 [(0, .ref (gB G + a0)), (1, .int l1), (2, .int l2)]) : W p l e rmX1_mostPairs s m args below meth c H locs 0 0 (MQ below (Qi G r z) args s 0 0 (AA G)) (F0 m 4 ls []) := by
  have hx := C.1
  have hb := C.2.1
  unfold bX1_mostPairs_4 at h
  refine lv_iload_n hx hb dX1_mostPairs_4 rfl (lv_at hl 2 rfl) ?_
  refine lv_aload_n hx hb dX1_mostPairs_5 rfl (lv_at hl 0 rfl) ?_
  obtain ⟨x6, hg, h⟩ := ob h
  refine wz_gI C hW flX1_38 hg dX1_mostPairs_6 ?_
  refine lv_icmp_ge (tgt := 25) hx hb dX1_mostPairs_9 (by decide) (fun c9 => ?_) (fun c9 => ?_)
  · have h := ite_t c9 h
    refine lv_iconst (v := 0) hx hb dX1_mostPairs_25 (by decide) ?_
    refine lv_istore_n (lv' := [(2, .int (0 : Int32)), (0, .ref (gB G + a0)), (1, .int l1)]) hx hb dX1_mostPairs_26 rfl hl (by decide) rfl (fun ls hl => ?_)
    refine lv_iconst (v := 0) hx hb dX1_mostPairs_27 (by decide) ?_
    refine lv_istore_n (lv' := [(3, .int (0 : Int32)), (2, .int (0 : Int32)), (0, .ref (gB G + a0)), (1, .int l1)]) hx hb dX1_mostPairs_28 rfl hl (by decide) rfl (fun ls hl => ?_)
    exact klX1_mostPairs_29 C hlk hr FU l1 (0 : Int32) (0 : Int32) _ _ _ h hW (lv_sub hl [3, 1, 0] rfl)
  · have h := ite_f c9 h
    refine lv_aload_n hx hb dX1_mostPairs_12 rfl (lv_at hl 0 rfl) ?_
    refine lv_iload_n hx hb dX1_mostPairs_13 rfl (lv_at hl 2 rfl) ?_
    refine lv_iload_n hx hb dX1_mostPairs_14 rfl (lv_at hl 1 rfl) ?_
    obtain ⟨x15, hq, h⟩ := ob h
    refine wz_rI (c' := 0) (s' := 0) hW (wz_runS (rest := []) C hW lTX1_86 (ctX1_withOneMore l G a0 l2 l1 z hq) ⟨⟨rfl, rfl⟩, Nat.le_of_ble_eq_true rfl, Nat.le_of_ble_eq_true rfl⟩ rfl hl.1 rfl (Nat.le_of_ble_eq_true rfl) dX1_mostPairs_15 ⟨Nat.le_of_ble_eq_true rfl, Nat.le_of_ble_eq_true rfl⟩) rfl rfl (fun H locs hW => ?_)
    refine lv_istore_n (lv' := [(1, .int x15), (0, .ref (gB G + a0)), (2, .int l2)]) hx hb dX1_mostPairs_18 rfl hl (by decide) rfl (fun ls hl => ?_)
    obtain ⟨v19, ev19⟩ : ∃ y : Int32, y = (l2 + (1 : Int32)) := ⟨_, rfl⟩
    have h := nm_to h ev19
    refine lv_iinc (v := v19) (lv' := [(2, .int v19), (1, .int x15), (0, .ref (gB G + a0))]) hx hb dX1_mostPairs_19 hl (k := 2) rfl (by rw [ev19]; rfl) (by decide) rfl (fun ls hl => ?_)
    refine lv_goto (tgt := 4) hx hb dX1_mostPairs_22 (by decide) ?_
    exact hk4 a0 x15 v19 _ _ _ h hW (lv_sub hl [2, 1, 0] rfl)
def fX1_mostPairs_4 (z : AH) : Nat → Nat → Int32 → Int32 → Option (Int32)
  | 0, _, _, _ => none
  | n + 1, a0, l1, l2 => bX1_mostPairs_4 (fX1_mostPairs_4 z n) a0 l1 l2 z
theorem klX1_mostPairs_4 {p : Program} {l : Launch} {e : Env} {s : State} {m : MethodId} {args : Array Value} {below : List Frame} {meth : Method} {c : Code} {G : GW} {r : Int32} (C : Cx p m c cX1_mostPairs 4 s args RX1 G) (hlk : meth.locks = false) (hr : meth.sig.returnType = (some .int)) {z : AH} : ∀ (n : Nat) (a0 : Nat) (l1 : Int32) (l2 : Int32) (H : Heap) (locs : List Loc) (ls : Array Slot), fX1_mostPairs_4 z n a0 l1 l2 = some r → Wb G z s H locs → lv_has ls 4 [(0, .ref (gB G + a0)), (1, .int l1), (2, .int l2)] → W p l e rmX1_mostPairs s m args below meth c H locs 0 0 (MQ below (Qi G r z) args s 0 0 (AA G)) (F0 m 4 ls []) := by
  intro n
  induction n with
  | zero => intro a0 l1 l2 H locs ls h; have h : (none : Option (Int32)) = some r := h; cases h
  | succ n ih => intro a0 l1 l2 H locs ls h hW hl; exact kbX1_mostPairs_4 C hlk hr (fX1_mostPairs_4 z n) (fun a0 l1 l2 H locs ls h hW hl => ih a0 l1 l2 H locs ls h hW hl) a0 l1 l2 h hW hl
def fX1_mostPairs (a0 : Nat) (z : AH) : Option (Int32) :=
  fX1_mostPairs_4 z FU a0 (1 : Int32) (0 : Int32)
set_option maxHeartbeats 4000000 in
set_option maxRecDepth 100000 in
theorem ctX1_mostPairs (l : Launch) (G : GW) (a0 : Nat) (z : AH) {r : Int32} (h : fX1_mostPairs a0 z = some r) : Met l yX1_mostPairs (wy yX1_mostPairs cX1_mostPairs 4 (some .int)) rmX1_mostPairs (Pz G [.ref (gB G + a0)] z) (Qi G r z) 0 0 (AA G) := by
  refine wz_ent (own := RX1) (by decide +kernel) rfl (fun p e s m below meth c ls C hlk hr hin hW hl => ?_) (Nat.le_of_ble_eq_true rfl)
  have hl : lv_has ls 4 [(0, .ref (gB G + a0))] := hl
  have hx := C.1
  have hb := C.2.1
  unfold fX1_mostPairs at h
  refine lv_iconst (v := 1) hx hb dX1_mostPairs_0 (by decide) ?_
  refine lv_istore_n (lv' := [(1, .int (1 : Int32)), (0, .ref (gB G + a0))]) hx hb dX1_mostPairs_1 rfl hl (by decide) rfl (fun ls hl => ?_)
  refine lv_iconst (v := 0) hx hb dX1_mostPairs_2 (by decide) ?_
  refine lv_istore_n (lv' := [(2, .int (0 : Int32)), (1, .int (1 : Int32)), (0, .ref (gB G + a0))]) hx hb dX1_mostPairs_3 rfl hl (by decide) rfl (fun ls hl => ?_)
  exact klX1_mostPairs_4 C hlk hr FU a0 (1 : Int32) (0 : Int32) _ _ _ h hW (lv_sub hl [2, 1, 0] rfl)
theorem flX2_11 : FL RX2 11 2 0 := ⟨_, rfl, Nat.le_of_ble_eq_true rfl, tw 465 (by decide +kernel) rfl, rfl⟩
theorem flX2_15 : FL RX2 15 2 1 := ⟨_, rfl, Nat.le_of_ble_eq_true rfl, tw 466 (by decide +kernel) rfl, rfl⟩
theorem dX2_init_0 : decode cX2_init 0 = .ok (.aload_n 0, 1) := by decide +kernel
theorem dX2_init_1 : decode cX2_init 1 = .ok (.invokespecial 3, 3) := by decide +kernel
theorem dX2_init_4 : decode cX2_init 4 = .ok (.aload_n 0, 1) := by decide +kernel
theorem dX2_init_5 : decode cX2_init 5 = .ok (.bipush 100, 2) := by decide +kernel
theorem dX2_init_7 : decode cX2_init 7 = .ok (.newarray .int, 2) := by decide +kernel
theorem dX2_init_9 : decode cX2_init 9 = .ok (.putfield 11, 3) := by decide +kernel
theorem dX2_init_12 : decode cX2_init 12 = .ok (.aload_n 0, 1) := by decide +kernel
theorem dX2_init_13 : decode cX2_init 13 = .ok (.iconst 0, 1) := by decide +kernel
theorem dX2_init_14 : decode cX2_init 14 = .ok (.putfield 15, 3) := by decide +kernel
theorem dX2_init_17 : decode cX2_init 17 = .ok (.return_, 1) := by decide +kernel
abbrev rmX2_init : Room := { frames := 1, cells := 1, slots := 100, locals := 20 }
def fX2_init (a0 : Nat) (z : AH) : Option AH :=
  if isO 2 z a0 = true then
    mk (.inl (0, 100, fun _ => 0)) z fun b7 z7 =>
    (pF 2 0 z7 a0 (.ref b7)).bind fun z9 =>
    (pF 2 1 z9 a0 (.int (0 : Int32))).bind fun z14 =>
    some z14
  else none
set_option maxHeartbeats 4000000 in
set_option maxRecDepth 100000 in
theorem ctX2_init (l : Launch) (G : GW) (a0 : Nat) (z : AH) {z' : AH} (h : fX2_init a0 z = some z') : Met l yX2_init (wy yX2_init cX2_init 1 none) rmX2_init (Pz G [.ref (gB G + a0)] z) (Qv G z') 1 100 (AA G) := by
  refine wz_ent (own := RX2) (by decide +kernel) rfl (fun p e s m below meth c ls C hlk hr hin hW hl => ?_) (Nat.le_of_ble_eq_true rfl)
  have hl : lv_has ls 1 [(0, .ref (gB G + a0))] := hl
  have hx := C.1
  have hb := C.2.1
  unfold fX2_init at h
  obtain ⟨-, h⟩ := ck h
  refine lv_aload_n hx hb dX2_init_0 rfl (lv_at hl 0 rfl) ?_
  refine wz_obj ⟨tw 464 (by decide +kernel) rfl, tw 144 (by decide +kernel) rfl, tw 145 (by decide +kernel) rfl⟩ C hl.1 dX2_init_1 ⟨Nat.le_of_ble_eq_true rfl, Nat.le_of_ble_eq_true rfl⟩ ?_
  refine lv_aload_n hx hb dX2_init_4 rfl (lv_at hl 0 rfl) ?_
  refine lv_bipush (v := 100) hx hb dX2_init_5 (by decide) ?_
  obtain ⟨b7, z7, ea, ez, h⟩ := mk_ob h
  refine wz_newIK (N := 100) (c' := 1) (s' := 100) ea ez (tw 247 (by decide +kernel) rfl) C hW (by decide) (by decide +kernel) (Nat.le_of_ble_eq_true rfl) ⟨Nat.le_of_ble_eq_true rfl, Nat.le_of_ble_eq_true rfl⟩ rfl rfl dX2_init_7 (fun H hW => ?_)
  obtain ⟨z9, hg, h⟩ := ob h
  refine wz_putF (v := (.ref b7)) C hin hW flX2_11 rfl rfl hg dX2_init_9 (fun H locs hW => ?_)
  refine lv_aload_n hx hb dX2_init_12 rfl (lv_at hl 0 rfl) ?_
  refine lv_iconst (v := 0) hx hb dX2_init_13 (by decide) ?_
  obtain ⟨z14, hg, h⟩ := ob h
  refine wz_put (v := (.int (0 : Int32))) C hW flX2_15 rfl rfl hg dX2_init_14 (fun H locs hW => ?_)
  exact wz_vretE C hlk hr (Option.some.inj h) hW dX2_init_17
theorem dX2_isError_0 : decode cX2_isError 0 = .ok (.iload_n 0, 1) := by decide +kernel
theorem dX2_isError_1 : decode cX2_isError 1 = .ok (.ifCond .lt 12, 3) := by decide +kernel
theorem dX2_isError_4 : decode cX2_isError 4 = .ok (.iload_n 0, 1) := by decide +kernel
theorem dX2_isError_5 : decode cX2_isError 5 = .ok (.iconst 3, 1) := by decide +kernel
theorem dX2_isError_6 : decode cX2_isError 6 = .ok (.if_icmp .gt 7, 3) := by decide +kernel
theorem dX2_isError_9 : decode cX2_isError 9 = .ok (.iconst 1, 1) := by decide +kernel
theorem dX2_isError_10 : decode cX2_isError 10 = .ok (.goto 4, 3) := by decide +kernel
theorem dX2_isError_13 : decode cX2_isError 13 = .ok (.iconst 0, 1) := by decide +kernel
theorem dX2_isError_14 : decode cX2_isError 14 = .ok (.ireturn, 1) := by decide +kernel
abbrev rmX2_isError : Room := { frames := 0, cells := 0, slots := 0, locals := 0 }
def fX2_isError (l0 : Int32) : Int32 :=
  if l0 < (0 : Int32) then (
    (0 : Int32)
  ) else (
    if (3 : Int32) < l0 then (
      (0 : Int32)
    ) else (
      (1 : Int32)
    )
  )
set_option maxHeartbeats 4000000 in
set_option maxRecDepth 100000 in
theorem ctX2_isError (l : Launch) (G : GW) (l0 : Int32) (z : AH) {r : Int32} (h : fX2_isError l0 = r) : Met l yX2_isError (wy yX2_isError cX2_isError 1 (some .boolean)) rmX2_isError (Pz G [.int l0] z) (Qi G r z) 0 0 (AA G) := by
  refine wz_ent (own := RX2) (by decide +kernel) rfl (fun p e s m below meth c ls C hlk hr hin hW hl => ?_) (Nat.le_of_ble_eq_true rfl)
  have hl : lv_has ls 1 [(0, .int l0)] := hl
  have hx := C.1
  have hb := C.2.1
  unfold fX2_isError at h
  refine lv_iload_n hx hb dX2_isError_0 rfl (lv_at hl 0 rfl) ?_
  refine lv_if_lt (tgt := 13) hx hb dX2_isError_1 (by decide) (fun c1 => ?_) (fun c1 => ?_)
  · have h := ite_t c1 h
    refine lv_iconst (v := 0) hx hb dX2_isError_13 (by decide) ?_
    exact wz_zretE C hlk hr (Or.inl rfl) h rfl hW dX2_isError_14
  · have h := ite_f c1 h
    refine lv_iload_n hx hb dX2_isError_4 rfl (lv_at hl 0 rfl) ?_
    refine lv_iconst (v := 3) hx hb dX2_isError_5 (by decide) ?_
    refine lv_icmp_gt (tgt := 13) hx hb dX2_isError_6 (by decide) (fun c6 => ?_) (fun c6 => ?_)
    · have h := ite_t c6 h
      refine lv_iconst (v := 0) hx hb dX2_isError_13 (by decide) ?_
      exact wz_zretE C hlk hr (Or.inl rfl) h rfl hW dX2_isError_14
    · have h := ite_f c6 h
      refine lv_iconst (v := 1) hx hb dX2_isError_9 (by decide) ?_
      refine lv_goto (tgt := 14) hx hb dX2_isError_10 (by decide) ?_
      exact wz_zretE C hlk hr (Or.inr rfl) h rfl hW dX2_isError_14
theorem lNX2_19 : LN RX2 19 yX9_pick cX9_pick 3 (some .int) 3 := ⟨by decide +kernel, tw 523 (by decide +kernel) rfl, tw 120 (by decide +kernel) rfl, tw 524 (by decide +kernel) rfl, ⟨by decide +kernel, by decide +kernel, by decide +kernel⟩⟩
theorem dX2_cellAt_0 : decode cX2_cellAt 0 = .ok (.aload_n 0, 1) := by decide +kernel
theorem dX2_cellAt_1 : decode cX2_cellAt 1 = .ok (.getfield 11, 3) := by decide +kernel
theorem dX2_cellAt_4 : decode cX2_cellAt 4 = .ok (.aload_n 0, 1) := by decide +kernel
theorem dX2_cellAt_5 : decode cX2_cellAt 5 = .ok (.getfield 15, 3) := by decide +kernel
theorem dX2_cellAt_8 : decode cX2_cellAt 8 = .ok (.iload_n 1, 1) := by decide +kernel
theorem dX2_cellAt_9 : decode cX2_cellAt 9 = .ok (.invokestatic 19, 3) := by decide +kernel
theorem dX2_cellAt_12 : decode cX2_cellAt 12 = .ok (.ireturn, 1) := by decide +kernel
abbrev rmX2_cellAt : Room := { frames := 1, cells := 0, slots := 0, locals := 22 }
def fX2_cellAt (a0 : Nat) (l1 : Int32) (z : AH) : Option (Int32) :=
  if isO 2 z a0 = true then
    (gN 2 0 z a0).bind fun b1 =>
    (gI 2 1 z a0).bind fun x5 =>
    (fX9_pick b1 x5 l1 z).bind fun x9 =>
    some x9
  else none
set_option maxHeartbeats 4000000 in
set_option maxRecDepth 100000 in
theorem ctX2_cellAt (l : Launch) (G : GW) (a0 : Nat) (l1 : Int32) (z : AH) {r : Int32} (h : fX2_cellAt a0 l1 z = some r) : Met l yX2_cellAt (wy yX2_cellAt cX2_cellAt 2 (some .int)) rmX2_cellAt (Pz G [.ref (gB G + a0), .int l1] z) (Qi G r z) 0 0 (AA G) := by
  refine wz_ent (own := RX2) (by decide +kernel) rfl (fun p e s m below meth c ls C hlk hr hin hW hl => ?_) (Nat.le_of_ble_eq_true rfl)
  have hl : lv_has ls 2 [(0, .ref (gB G + a0)), (1, .int l1)] := hl
  have hx := C.1
  have hb := C.2.1
  unfold fX2_cellAt at h
  obtain ⟨-, h⟩ := ck h
  refine lv_aload_n hx hb dX2_cellAt_0 rfl (lv_at hl 0 rfl) ?_
  obtain ⟨b1, hg, h⟩ := ob h
  refine wz_gN C hW flX2_11 hg dX2_cellAt_1 ?_
  refine lv_aload_n hx hb dX2_cellAt_4 rfl (lv_at hl 0 rfl) ?_
  obtain ⟨x5, hg, h⟩ := ob h
  refine wz_gI C hW flX2_15 hg dX2_cellAt_5 ?_
  refine lv_iload_n hx hb dX2_cellAt_8 rfl (lv_at hl 1 rfl) ?_
  obtain ⟨x9, hq, h⟩ := ob h
  refine wz_rI (c' := 0) (s' := 0) hW (wz_runN (rest := []) C hW lNX2_19 (ctX9_pick l G b1 x5 l1 z hq) ⟨⟨rfl, rfl⟩, Nat.le_of_ble_eq_true rfl, Nat.le_of_ble_eq_true rfl⟩ rfl hl.1 rfl (Nat.le_of_ble_eq_true rfl) dX2_cellAt_9 ⟨Nat.le_of_ble_eq_true rfl, Nat.le_of_ble_eq_true rfl⟩) rfl rfl (fun H locs hW => ?_)
  exact wz_iretE C hlk hr (Option.some.inj h) rfl hW dX2_cellAt_12
theorem dX2_crosses_0 : decode cX2_crosses 0 = .ok (.iload_n 3, 1) := by decide +kernel
theorem dX2_crosses_1 : decode cX2_crosses 1 = .ok (.bipush 10, 2) := by decide +kernel
theorem dX2_crosses_3 : decode cX2_crosses 3 = .ok (.idiv, 1) := by decide +kernel
theorem dX2_crosses_4 : decode cX2_crosses 4 = .ok (.iconst 1, 1) := by decide +kernel
theorem dX2_crosses_5 : decode cX2_crosses 5 = .ok (.iadd, 1) := by decide +kernel
theorem dX2_crosses_6 : decode cX2_crosses 6 = .ok (.istore 4, 2) := by decide +kernel
theorem dX2_crosses_8 : decode cX2_crosses 8 = .ok (.iload_n 1, 1) := by decide +kernel
theorem dX2_crosses_9 : decode cX2_crosses 9 = .ok (.istore 5, 2) := by decide +kernel
theorem dX2_crosses_11 : decode cX2_crosses 11 = .ok (.iload_n 0, 1) := by decide +kernel
theorem dX2_crosses_12 : decode cX2_crosses 12 = .ok (.ifCond .eq 21, 3) := by decide +kernel
theorem dX2_crosses_15 : decode cX2_crosses 15 = .ok (.iload 5, 2) := by decide +kernel
theorem dX2_crosses_17 : decode cX2_crosses 17 = .ok (.iload_n 0, 1) := by decide +kernel
theorem dX2_crosses_18 : decode cX2_crosses 18 = .ok (.iconst 1, 1) := by decide +kernel
theorem dX2_crosses_19 : decode cX2_crosses 19 = .ok (.if_icmp .ne 8, 3) := by decide +kernel
theorem dX2_crosses_22 : decode cX2_crosses 22 = .ok (.iload 4, 2) := by decide +kernel
theorem dX2_crosses_24 : decode cX2_crosses 24 = .ok (.goto 6, 3) := by decide +kernel
theorem dX2_crosses_27 : decode cX2_crosses 27 = .ok (.iload 4, 2) := by decide +kernel
theorem dX2_crosses_29 : decode cX2_crosses 29 = .ok (.ineg, 1) := by decide +kernel
theorem dX2_crosses_30 : decode cX2_crosses 30 = .ok (.iadd, 1) := by decide +kernel
theorem dX2_crosses_31 : decode cX2_crosses 31 = .ok (.istore 5, 2) := by decide +kernel
theorem dX2_crosses_33 : decode cX2_crosses 33 = .ok (.iload_n 3, 1) := by decide +kernel
theorem dX2_crosses_34 : decode cX2_crosses 34 = .ok (.bipush 10, 2) := by decide +kernel
theorem dX2_crosses_36 : decode cX2_crosses 36 = .ok (.irem, 1) := by decide +kernel
theorem dX2_crosses_37 : decode cX2_crosses 37 = .ok (.iload 5, 2) := by decide +kernel
theorem dX2_crosses_39 : decode cX2_crosses 39 = .ok (.isub, 1) := by decide +kernel
theorem dX2_crosses_40 : decode cX2_crosses 40 = .ok (.invokestatic 40, 3) := by decide +kernel
theorem dX2_crosses_43 : decode cX2_crosses 43 = .ok (.iload_n 2, 1) := by decide +kernel
theorem dX2_crosses_44 : decode cX2_crosses 44 = .ok (.if_icmp .gt 7, 3) := by decide +kernel
theorem dX2_crosses_47 : decode cX2_crosses 47 = .ok (.iconst 1, 1) := by decide +kernel
theorem dX2_crosses_48 : decode cX2_crosses 48 = .ok (.goto 4, 3) := by decide +kernel
theorem dX2_crosses_51 : decode cX2_crosses 51 = .ok (.iconst 0, 1) := by decide +kernel
theorem dX2_crosses_52 : decode cX2_crosses 52 = .ok (.ireturn, 1) := by decide +kernel
abbrev rmX2_crosses : Room := { frames := 1, cells := 0, slots := 0, locals := 24 }
def bX2_crosses_33 (l2 : Int32) (l3 : Int32) (l5 : Int32) : Int32 :=
  if l2 < (iabs ((irem l3 (10 : Int32)) - l5)) then (
    (0 : Int32)
  ) else (
    (1 : Int32)
  )
set_option maxHeartbeats 4000000 in
set_option maxRecDepth 100000 in
theorem kbX2_crosses_33 {p : Program} {l : Launch} {e : Env} {s : State} {m : MethodId} {args : Array Value} {below : List Frame} {meth : Method} {c : Code} {G : GW} {r : Int32} (C : Cx p m c cX2_crosses 6 s args RX2 G) (hlk : meth.locks = false) (hr : meth.sig.returnType = (some .boolean)) {z : AH} (l2 : Int32) (l3 : Int32) (l5 : Int32) {H : Heap} {locs : List Loc} {ls : Array Slot} (h : bX2_crosses_33 l2 l3 l5 = r) (hW : Wb G z s H locs) (hl : lv_has ls 6 [(2, .int l2), (3, .int l3), (5, .int l5)]) : W p l e rmX2_crosses s m args below meth c H locs 0 0 (MQ below (Qi G r z) args s 0 0 (AA G)) (F0 m 33 ls []) := by
  have hx := C.1
  have hb := C.2.1
  unfold bX2_crosses_33 at h
  refine lv_iload_n hx hb dX2_crosses_33 rfl (lv_at hl 1 rfl) ?_
  refine lv_bipush (v := 10) hx hb dX2_crosses_34 (by decide) ?_
  refine wz_irem hx hb dX2_crosses_36 (by decide) ?_
  refine lv_iload hx hb dX2_crosses_37 (lv_at hl 2 rfl) ?_
  refine lv_isub hx hb dX2_crosses_39 ?_
  refine wz_abs ⟨tw 1046 (by decide +kernel) rfl, tw 865 (by decide +kernel) rfl, tw 129 (by decide +kernel) rfl, tw 866 (by decide +kernel) rfl⟩ C hl.1 ⟨⟨Nat.le_of_ble_eq_true rfl, Nat.le_of_ble_eq_true rfl⟩, Nat.le_of_ble_eq_true rfl, Nat.le_of_ble_eq_true rfl⟩ (Nat.le_of_ble_eq_true rfl) dX2_crosses_40 ?_
  refine lv_iload_n hx hb dX2_crosses_43 rfl (lv_at hl 0 rfl) ?_
  refine lv_icmp_gt (tgt := 51) hx hb dX2_crosses_44 (by decide) (fun c44 => ?_) (fun c44 => ?_)
  · have h := ite_t c44 h
    refine lv_iconst (v := 0) hx hb dX2_crosses_51 (by decide) ?_
    exact wz_zretE C hlk hr (Or.inl rfl) h rfl hW dX2_crosses_52
  · have h := ite_f c44 h
    refine lv_iconst (v := 1) hx hb dX2_crosses_47 (by decide) ?_
    refine lv_goto (tgt := 52) hx hb dX2_crosses_48 (by decide) ?_
    exact wz_zretE C hlk hr (Or.inr rfl) h rfl hW dX2_crosses_52
def bX2_crosses_30 (l2 : Int32) (l3 : Int32) (s0 : Int32) (s1 : Int32) : Int32 :=
  nm (s0 + s1) fun v31 =>
  bX2_crosses_33 l2 l3 v31
set_option maxHeartbeats 4000000 in
set_option maxRecDepth 100000 in
theorem kbX2_crosses_30 {p : Program} {l : Launch} {e : Env} {s : State} {m : MethodId} {args : Array Value} {below : List Frame} {meth : Method} {c : Code} {G : GW} {r : Int32} (C : Cx p m c cX2_crosses 6 s args RX2 G) (hlk : meth.locks = false) (hr : meth.sig.returnType = (some .boolean)) {z : AH} (l2 : Int32) (l3 : Int32) (s0 : Int32) (s1 : Int32) {H : Heap} {locs : List Loc} {ls : Array Slot} (h : bX2_crosses_30 l2 l3 s0 s1 = r) (hW : Wb G z s H locs) (hl : lv_has ls 6 [(2, .int l2), (3, .int l3)]) : W p l e rmX2_crosses s m args below meth c H locs 0 0 (MQ below (Qi G r z) args s 0 0 (AA G)) (F0 m 30 ls [.int s1, .int s0]) := by
  have hx := C.1
  have hb := C.2.1
  unfold bX2_crosses_30 at h
  refine lv_iadd hx hb dX2_crosses_30 ?_
  refine lv_topi (fun v31 ev31 => ?_)
  have h := nm_to h ev31
  refine lv_istore (lv' := [(5, .int v31), (2, .int l2), (3, .int l3)]) hx hb dX2_crosses_31 hl (by decide) rfl (fun ls hl => ?_)
  exact kbX2_crosses_33 C hlk hr l2 l3 v31 h hW (lv_sub hl [1, 2, 0] rfl)
def fX2_crosses (l0 : Int32) (l1 : Int32) (l2 : Int32) (l3 : Int32) : Int32 :=
  nm ((l3 / (10 : Int32)) + (1 : Int32)) fun v6 =>
  if l0 = (0 : Int32) then (
    bX2_crosses_33 l2 l3 l1
  ) else (
    if l0 = (1 : Int32) then (
      bX2_crosses_30 l2 l3 l1 v6
    ) else (
      bX2_crosses_30 l2 l3 l1 (-v6)
    )
  )
set_option maxHeartbeats 4000000 in
set_option maxRecDepth 100000 in
theorem ctX2_crosses (l : Launch) (G : GW) (l0 : Int32) (l1 : Int32) (l2 : Int32) (l3 : Int32) (z : AH) {r : Int32} (h : fX2_crosses l0 l1 l2 l3 = r) : Met l yX2_crosses (wy yX2_crosses cX2_crosses 6 (some .boolean)) rmX2_crosses (Pz G [.int l0, .int l1, .int l2, .int l3] z) (Qi G r z) 0 0 (AA G) := by
  refine wz_ent (own := RX2) (by decide +kernel) rfl (fun p e s m below meth c ls C hlk hr hin hW hl => ?_) (Nat.le_of_ble_eq_true rfl)
  have hl : lv_has ls 6 [(0, .int l0), (1, .int l1), (2, .int l2), (3, .int l3)] := hl
  have hx := C.1
  have hb := C.2.1
  unfold fX2_crosses at h
  refine lv_iload_n hx hb dX2_crosses_0 rfl (lv_at hl 3 rfl) ?_
  refine lv_bipush (v := 10) hx hb dX2_crosses_1 (by decide) ?_
  refine lv_idiv hx hb dX2_crosses_3 (by decide) ?_
  refine lv_iconst (v := 1) hx hb dX2_crosses_4 (by decide) ?_
  refine lv_iadd hx hb dX2_crosses_5 ?_
  refine lv_topi (fun v6 ev6 => ?_)
  have h := nm_to h ev6
  refine lv_istore (lv' := [(4, .int v6), (0, .int l0), (1, .int l1), (2, .int l2), (3, .int l3)]) hx hb dX2_crosses_6 hl (by decide) rfl (fun ls hl => ?_)
  refine lv_iload_n hx hb dX2_crosses_8 rfl (lv_at hl 2 rfl) ?_
  refine lv_istore (lv' := [(5, .int l1), (4, .int v6), (0, .int l0), (1, .int l1), (2, .int l2), (3, .int l3)]) hx hb dX2_crosses_9 hl (by decide) rfl (fun ls hl => ?_)
  refine lv_iload_n hx hb dX2_crosses_11 rfl (lv_at hl 2 rfl) ?_
  refine lv_if_eq (tgt := 33) hx hb dX2_crosses_12 (by decide) (fun c12 => ?_) (fun c12 => ?_)
  · have h := ite_t c12 h
    exact kbX2_crosses_33 C hlk hr l2 l3 l1 h hW (lv_sub hl [4, 5, 0] rfl)
  · have h := ite_f c12 h
    refine lv_iload hx hb dX2_crosses_15 (lv_at hl 0 rfl) ?_
    refine lv_iload_n hx hb dX2_crosses_17 rfl (lv_at hl 2 rfl) ?_
    refine lv_iconst (v := 1) hx hb dX2_crosses_18 (by decide) ?_
    refine lv_icmp_ne (tgt := 27) hx hb dX2_crosses_19 (by decide) (fun c19 => ?_) (fun c19 => ?_)
    · have h := ite_f c19 h
      refine lv_iload hx hb dX2_crosses_27 (lv_at hl 1 rfl) ?_
      refine lv_ineg hx hb dX2_crosses_29 ?_
      exact kbX2_crosses_30 C hlk hr l2 l3 l1 (-v6) h hW (lv_sub hl [4, 5] rfl)
    · have h := ite_t c19 h
      refine lv_iload hx hb dX2_crosses_22 (lv_at hl 1 rfl) ?_
      refine lv_goto (tgt := 30) hx hb dX2_crosses_24 (by decide) ?_
      exact kbX2_crosses_30 C hlk hr l2 l3 l1 v6 h hW (lv_sub hl [4, 5] rfl)
theorem flX2_27 : FL RX2 27 4 3 := ⟨_, rfl, Nat.le_of_ble_eq_true rfl, tw 745 (by decide +kernel) rfl, rfl⟩
theorem flX2_30 : FL RX2 30 4 0 := ⟨_, rfl, Nat.le_of_ble_eq_true rfl, tw 737 (by decide +kernel) rfl, rfl⟩
theorem flX2_33 : FL RX2 33 4 1 := ⟨_, rfl, Nat.le_of_ble_eq_true rfl, tw 740 (by decide +kernel) rfl, rfl⟩
theorem lTX2_36 : LT RX2 36 yX2_crosses cX2_crosses 6 (some .boolean) 4 := ⟨tw 1043 (by decide +kernel) rfl, tw 1044 (by decide +kernel) rfl, tw 127 (by decide +kernel) rfl, tw 1045 (by decide +kernel) rfl, ⟨by decide +kernel, by decide +kernel, by decide +kernel⟩⟩
theorem dX2_fitsAll_0 : decode cX2_fitsAll 0 = .ok (.iconst 0, 1) := by decide +kernel
theorem dX2_fitsAll_1 : decode cX2_fitsAll 1 = .ok (.istore 4, 2) := by decide +kernel
theorem dX2_fitsAll_3 : decode cX2_fitsAll 3 = .ok (.iload 4, 2) := by decide +kernel
theorem dX2_fitsAll_5 : decode cX2_fitsAll 5 = .ok (.aload_n 0, 1) := by decide +kernel
theorem dX2_fitsAll_6 : decode cX2_fitsAll 6 = .ok (.getfield 27, 3) := by decide +kernel
theorem dX2_fitsAll_9 : decode cX2_fitsAll 9 = .ok (.if_icmp .ge 39, 3) := by decide +kernel
theorem dX2_fitsAll_12 : decode cX2_fitsAll 12 = .ok (.iload 4, 2) := by decide +kernel
theorem dX2_fitsAll_14 : decode cX2_fitsAll 14 = .ok (.iload_n 2, 1) := by decide +kernel
theorem dX2_fitsAll_15 : decode cX2_fitsAll 15 = .ok (.if_icmp .eq 27, 3) := by decide +kernel
theorem dX2_fitsAll_18 : decode cX2_fitsAll 18 = .ok (.aload_n 0, 1) := by decide +kernel
theorem dX2_fitsAll_19 : decode cX2_fitsAll 19 = .ok (.getfield 30, 3) := by decide +kernel
theorem dX2_fitsAll_22 : decode cX2_fitsAll 22 = .ok (.iload 4, 2) := by decide +kernel
theorem dX2_fitsAll_24 : decode cX2_fitsAll 24 = .ok (.iaload, 1) := by decide +kernel
theorem dX2_fitsAll_25 : decode cX2_fitsAll 25 = .ok (.aload_n 0, 1) := by decide +kernel
theorem dX2_fitsAll_26 : decode cX2_fitsAll 26 = .ok (.getfield 33, 3) := by decide +kernel
theorem dX2_fitsAll_29 : decode cX2_fitsAll 29 = .ok (.iload 4, 2) := by decide +kernel
theorem dX2_fitsAll_31 : decode cX2_fitsAll 31 = .ok (.iaload, 1) := by decide +kernel
theorem dX2_fitsAll_32 : decode cX2_fitsAll 32 = .ok (.iload_n 1, 1) := by decide +kernel
theorem dX2_fitsAll_33 : decode cX2_fitsAll 33 = .ok (.iload_n 3, 1) := by decide +kernel
theorem dX2_fitsAll_34 : decode cX2_fitsAll 34 = .ok (.invokestatic 36, 3) := by decide +kernel
theorem dX2_fitsAll_37 : decode cX2_fitsAll 37 = .ok (.ifCond .ne 5, 3) := by decide +kernel
theorem dX2_fitsAll_40 : decode cX2_fitsAll 40 = .ok (.iconst 0, 1) := by decide +kernel
theorem dX2_fitsAll_41 : decode cX2_fitsAll 41 = .ok (.ireturn, 1) := by decide +kernel
theorem dX2_fitsAll_42 : decode cX2_fitsAll 42 = .ok (.iinc 4 1, 3) := by decide +kernel
theorem dX2_fitsAll_45 : decode cX2_fitsAll 45 = .ok (.goto (-42), 3) := by decide +kernel
theorem dX2_fitsAll_48 : decode cX2_fitsAll 48 = .ok (.iconst 1, 1) := by decide +kernel
theorem dX2_fitsAll_49 : decode cX2_fitsAll 49 = .ok (.ireturn, 1) := by decide +kernel
abbrev rmX2_fitsAll : Room := { frames := 2, cells := 0, slots := 0, locals := 49 }
def bX2_fitsAll_3 (k3 : Nat → Int32 → Int32 → Int32 → Int32 → Option (Int32)) (a0 : Nat) (l1 : Int32) (l2 : Int32) (l3 : Int32) (l4 : Int32) (z : AH) : Option (Int32) :=
  (gI 4 3 z a0).bind fun x6 =>
  if x6 ≤ l4 then (
    some (1 : Int32)
  ) else (
    if l4 = l2 then (
      nm (l4 + (1 : Int32)) fun v42 =>
      k3 a0 l1 l2 l3 v42
    ) else (
      (gN 4 0 z a0).bind fun b19 =>
      (ixI 0 z b19 l4).bind fun x24 =>
      (gN 4 1 z a0).bind fun b26 =>
      (ixI 0 z b26 l4).bind fun x31 =>
      if (fX2_crosses x24 x31 l1 l3) = (0 : Int32) then (
        some (0 : Int32)
      ) else (
        nm (l4 + (1 : Int32)) fun v42 =>
        k3 a0 l1 l2 l3 v42
      )
    )
  )
set_option maxHeartbeats 4000000 in
set_option maxRecDepth 100000 in
theorem kbX2_fitsAll_3 {p : Program} {l : Launch} {e : Env} {s : State} {m : MethodId} {args : Array Value} {below : List Frame} {meth : Method} {c : Code} {G : GW} {r : Int32} (C : Cx p m c cX2_fitsAll 5 s args RX2 G) (hlk : meth.locks = false) (hr : meth.sig.returnType = (some .boolean)) {z : AH} (k3 : Nat → Int32 → Int32 → Int32 → Int32 → Option (Int32)) (hk3 : ∀ (a0 : Nat) (l1 : Int32) (l2 : Int32) (l3 : Int32) (l4 : Int32) (H : Heap) (locs : List Loc) (ls : Array Slot), k3 a0 l1 l2 l3 l4 = some r → Wb G z s H locs → lv_has ls 5 [(0, .ref (gB G + a0)), (1, .int l1), (2, .int l2), (3, .int l3), (4, .int l4)] → W p l e rmX2_fitsAll s m args below meth c H locs 0 0 (MQ below (Qi G r z) args s 0 0 (AA G)) (F0 m 3 ls [])) (a0 : Nat) (l1 : Int32) (l2 : Int32) (l3 : Int32) (l4 : Int32) {H : Heap} {locs : List Loc} {ls : Array Slot} (h : bX2_fitsAll_3 k3 a0 l1 l2 l3 l4 z = some r) (hW : Wb G z s H locs) (hl : lv_has ls 5 [(0, .ref (gB G + a0)), (1, .int l1), (2, .int l2), (3, .int l3), (4, .int l4)]) : W p l e rmX2_fitsAll s m args below meth c H locs 0 0 (MQ below (Qi G r z) args s 0 0 (AA G)) (F0 m 3 ls []) := by
  have hx := C.1
  have hb := C.2.1
  unfold bX2_fitsAll_3 at h
  refine lv_iload hx hb dX2_fitsAll_3 (lv_at hl 4 rfl) ?_
  refine lv_aload_n hx hb dX2_fitsAll_5 rfl (lv_at hl 0 rfl) ?_
  obtain ⟨x6, hg, h⟩ := ob h
  refine wz_gI C hW flX2_27 hg dX2_fitsAll_6 ?_
  refine lv_icmp_ge (tgt := 48) hx hb dX2_fitsAll_9 (by decide) (fun c9 => ?_) (fun c9 => ?_)
  · have h := ite_t c9 h
    refine lv_iconst (v := 1) hx hb dX2_fitsAll_48 (by decide) ?_
    exact wz_zretE C hlk hr (Or.inr rfl) (Option.some.inj h) rfl hW dX2_fitsAll_49
  · have h := ite_f c9 h
    refine lv_iload hx hb dX2_fitsAll_12 (lv_at hl 4 rfl) ?_
    refine lv_iload_n hx hb dX2_fitsAll_14 rfl (lv_at hl 2 rfl) ?_
    refine lv_icmp_eq (tgt := 42) hx hb dX2_fitsAll_15 (by decide) (fun c15 => ?_) (fun c15 => ?_)
    · have h := ite_t c15 h
      obtain ⟨v42, ev42⟩ : ∃ y : Int32, y = (l4 + (1 : Int32)) := ⟨_, rfl⟩
      have h := nm_to h ev42
      refine lv_iinc (v := v42) (lv' := [(4, .int v42), (0, .ref (gB G + a0)), (1, .int l1), (2, .int l2), (3, .int l3)]) hx hb dX2_fitsAll_42 hl (k := 4) rfl (by rw [ev42]; rfl) (by decide) rfl (fun ls hl => ?_)
      refine lv_goto (tgt := 3) hx hb dX2_fitsAll_45 (by decide) ?_
      exact hk3 a0 l1 l2 l3 v42 _ _ _ h hW (lv_sub hl [1, 2, 3, 4, 0] rfl)
    · have h := ite_f c15 h
      refine lv_aload_n hx hb dX2_fitsAll_18 rfl (lv_at hl 0 rfl) ?_
      obtain ⟨b19, hg, h⟩ := ob h
      refine wz_gN C hW flX2_30 hg dX2_fitsAll_19 ?_
      refine lv_iload hx hb dX2_fitsAll_22 (lv_at hl 4 rfl) ?_
      obtain ⟨x24, hg, h⟩ := ob h
      refine wz_ald C hW hg dX2_fitsAll_24 ?_
      refine lv_aload_n hx hb dX2_fitsAll_25 rfl (lv_at hl 0 rfl) ?_
      obtain ⟨b26, hg, h⟩ := ob h
      refine wz_gN C hW flX2_33 hg dX2_fitsAll_26 ?_
      refine lv_iload hx hb dX2_fitsAll_29 (lv_at hl 4 rfl) ?_
      obtain ⟨x31, hg, h⟩ := ob h
      refine wz_ald C hW hg dX2_fitsAll_31 ?_
      refine lv_iload_n hx hb dX2_fitsAll_32 rfl (lv_at hl 1 rfl) ?_
      refine lv_iload_n hx hb dX2_fitsAll_33 rfl (lv_at hl 3 rfl) ?_
      refine wz_rI (c' := 0) (s' := 0) hW (wz_runS (rest := []) C hW lTX2_36 (ctX2_crosses l G x24 x31 l1 l3 z rfl) ⟨⟨rfl, rfl⟩, Nat.le_of_ble_eq_true rfl, Nat.le_of_ble_eq_true rfl⟩ rfl hl.1 rfl (Nat.le_of_ble_eq_true rfl) dX2_fitsAll_34 ⟨Nat.le_of_ble_eq_true rfl, Nat.le_of_ble_eq_true rfl⟩) rfl rfl (fun H locs hW => ?_)
      refine lv_if_ne (tgt := 42) hx hb dX2_fitsAll_37 (by decide) (fun c37 => ?_) (fun c37 => ?_)
      · have h := ite_f c37 h
        obtain ⟨v42, ev42⟩ : ∃ y : Int32, y = (l4 + (1 : Int32)) := ⟨_, rfl⟩
        have h := nm_to h ev42
        refine lv_iinc (v := v42) (lv' := [(4, .int v42), (0, .ref (gB G + a0)), (1, .int l1), (2, .int l2), (3, .int l3)]) hx hb dX2_fitsAll_42 hl (k := 4) rfl (by rw [ev42]; rfl) (by decide) rfl (fun ls hl => ?_)
        refine lv_goto (tgt := 3) hx hb dX2_fitsAll_45 (by decide) ?_
        exact hk3 a0 l1 l2 l3 v42 _ _ _ h hW (lv_sub hl [1, 2, 3, 4, 0] rfl)
      · have h := ite_t c37 h
        refine lv_iconst (v := 0) hx hb dX2_fitsAll_40 (by decide) ?_
        exact wz_zretE C hlk hr (Or.inl rfl) (Option.some.inj h) rfl hW dX2_fitsAll_41
def fX2_fitsAll_3 (z : AH) : Nat → Nat → Int32 → Int32 → Int32 → Int32 → Option (Int32)
  | 0, _, _, _, _, _ => none
  | n + 1, a0, l1, l2, l3, l4 => bX2_fitsAll_3 (fX2_fitsAll_3 z n) a0 l1 l2 l3 l4 z
theorem klX2_fitsAll_3 {p : Program} {l : Launch} {e : Env} {s : State} {m : MethodId} {args : Array Value} {below : List Frame} {meth : Method} {c : Code} {G : GW} {r : Int32} (C : Cx p m c cX2_fitsAll 5 s args RX2 G) (hlk : meth.locks = false) (hr : meth.sig.returnType = (some .boolean)) {z : AH} : ∀ (n : Nat) (a0 : Nat) (l1 : Int32) (l2 : Int32) (l3 : Int32) (l4 : Int32) (H : Heap) (locs : List Loc) (ls : Array Slot), fX2_fitsAll_3 z n a0 l1 l2 l3 l4 = some r → Wb G z s H locs → lv_has ls 5 [(0, .ref (gB G + a0)), (1, .int l1), (2, .int l2), (3, .int l3), (4, .int l4)] → W p l e rmX2_fitsAll s m args below meth c H locs 0 0 (MQ below (Qi G r z) args s 0 0 (AA G)) (F0 m 3 ls []) := by
  intro n
  induction n with
  | zero => intro a0 l1 l2 l3 l4 H locs ls h; have h : (none : Option (Int32)) = some r := h; cases h
  | succ n ih => intro a0 l1 l2 l3 l4 H locs ls h hW hl; exact kbX2_fitsAll_3 C hlk hr (fX2_fitsAll_3 z n) (fun a0 l1 l2 l3 l4 H locs ls h hW hl => ih a0 l1 l2 l3 l4 H locs ls h hW hl) a0 l1 l2 l3 l4 h hW hl
def fX2_fitsAll (a0 : Nat) (l1 : Int32) (l2 : Int32) (l3 : Int32) (z : AH) : Option (Int32) :=
  fX2_fitsAll_3 z FU a0 l1 l2 l3 (0 : Int32)
set_option maxHeartbeats 4000000 in
set_option maxRecDepth 100000 in
theorem ctX2_fitsAll (l : Launch) (G : GW) (a0 : Nat) (l1 : Int32) (l2 : Int32) (l3 : Int32) (z : AH) {r : Int32} (h : fX2_fitsAll a0 l1 l2 l3 z = some r) : Met l yX2_fitsAll (wy yX2_fitsAll cX2_fitsAll 5 (some .boolean)) rmX2_fitsAll (Pz G [.ref (gB G + a0), .int l1, .int l2, .int l3] z) (Qi G r z) 0 0 (AA G) := by
  refine wz_ent (own := RX2) (by decide +kernel) rfl (fun p e s m below meth c ls C hlk hr hin hW hl => ?_) (Nat.le_of_ble_eq_true rfl)
  have hl : lv_has ls 5 [(0, .ref (gB G + a0)), (1, .int l1), (2, .int l2), (3, .int l3)] := hl
  have hx := C.1
  have hb := C.2.1
  unfold fX2_fitsAll at h
  refine lv_iconst (v := 0) hx hb dX2_fitsAll_0 (by decide) ?_
  refine lv_istore (lv' := [(4, .int (0 : Int32)), (0, .ref (gB G + a0)), (1, .int l1), (2, .int l2), (3, .int l3)]) hx hb dX2_fitsAll_1 hl (by decide) rfl (fun ls hl => ?_)
  exact klX2_fitsAll_3 C hlk hr FU a0 l1 l2 l3 (0 : Int32) _ _ _ h hW (lv_sub hl [1, 2, 3, 4, 0] rfl)
theorem lTX2_23 : LT RX2 23 yX2_fitsAll cX2_fitsAll 5 (some .boolean) 4 := ⟨tw 1040 (by decide +kernel) rfl, tw 1041 (by decide +kernel) rfl, tw 127 (by decide +kernel) rfl, tw 1042 (by decide +kernel) rfl, ⟨by decide +kernel, by decide +kernel, by decide +kernel⟩⟩
theorem dX2_gather_0 : decode cX2_gather 0 = .ok (.aload_n 0, 1) := by decide +kernel
theorem dX2_gather_1 : decode cX2_gather 1 = .ok (.iconst 0, 1) := by decide +kernel
theorem dX2_gather_2 : decode cX2_gather 2 = .ok (.putfield 15, 3) := by decide +kernel
theorem dX2_gather_5 : decode cX2_gather 5 = .ok (.iconst 0, 1) := by decide +kernel
theorem dX2_gather_6 : decode cX2_gather 6 = .ok (.istore 4, 2) := by decide +kernel
theorem dX2_gather_8 : decode cX2_gather 8 = .ok (.iload 4, 2) := by decide +kernel
theorem dX2_gather_10 : decode cX2_gather 10 = .ok (.bipush 100, 2) := by decide +kernel
theorem dX2_gather_12 : decode cX2_gather 12 = .ok (.if_icmp .ge 41, 3) := by decide +kernel
theorem dX2_gather_15 : decode cX2_gather 15 = .ok (.aload_n 1, 1) := by decide +kernel
theorem dX2_gather_16 : decode cX2_gather 16 = .ok (.iload_n 2, 1) := by decide +kernel
theorem dX2_gather_17 : decode cX2_gather 17 = .ok (.iload_n 3, 1) := by decide +kernel
theorem dX2_gather_18 : decode cX2_gather 18 = .ok (.iload 4, 2) := by decide +kernel
theorem dX2_gather_20 : decode cX2_gather 20 = .ok (.invokestatic 23, 3) := by decide +kernel
theorem dX2_gather_23 : decode cX2_gather 23 = .ok (.ifCond .eq 24, 3) := by decide +kernel
theorem dX2_gather_26 : decode cX2_gather 26 = .ok (.aload_n 0, 1) := by decide +kernel
theorem dX2_gather_27 : decode cX2_gather 27 = .ok (.getfield 11, 3) := by decide +kernel
theorem dX2_gather_30 : decode cX2_gather 30 = .ok (.aload_n 0, 1) := by decide +kernel
theorem dX2_gather_31 : decode cX2_gather 31 = .ok (.getfield 15, 3) := by decide +kernel
theorem dX2_gather_34 : decode cX2_gather 34 = .ok (.iload 4, 2) := by decide +kernel
theorem dX2_gather_36 : decode cX2_gather 36 = .ok (.iastore, 1) := by decide +kernel
theorem dX2_gather_37 : decode cX2_gather 37 = .ok (.aload_n 0, 1) := by decide +kernel
theorem dX2_gather_38 : decode cX2_gather 38 = .ok (.dup, 1) := by decide +kernel
theorem dX2_gather_39 : decode cX2_gather 39 = .ok (.getfield 15, 3) := by decide +kernel
theorem dX2_gather_42 : decode cX2_gather 42 = .ok (.iconst 1, 1) := by decide +kernel
theorem dX2_gather_43 : decode cX2_gather 43 = .ok (.iadd, 1) := by decide +kernel
theorem dX2_gather_44 : decode cX2_gather 44 = .ok (.putfield 15, 3) := by decide +kernel
theorem dX2_gather_47 : decode cX2_gather 47 = .ok (.iinc 4 1, 3) := by decide +kernel
theorem dX2_gather_50 : decode cX2_gather 50 = .ok (.goto (-42), 3) := by decide +kernel
theorem dX2_gather_53 : decode cX2_gather 53 = .ok (.return_, 1) := by decide +kernel
abbrev rmX2_gather : Room := { frames := 3, cells := 0, slots := 0, locals := 73 }
def bX2_gather_8 (k8 : Nat → Nat → Int32 → Int32 → Int32 → AH → Option AH) (a0 : Nat) (a1 : Nat) (l2 : Int32) (l3 : Int32) (l4 : Int32) (z : AH) : Option AH :=
  if (100 : Int32) ≤ l4 then (
    some z
  ) else (
    (fX2_fitsAll a1 l2 l3 l4 z).bind fun x20 =>
    if x20 = (0 : Int32) then (
      nm (l4 + (1 : Int32)) fun v47 =>
      k8 a0 a1 l2 l3 v47 z
    ) else (
      (gN 2 0 z a0).bind fun b27 =>
      (gI 2 1 z a0).bind fun x31 =>
      (stI 0 z b27 x31 l4).bind fun z36 =>
      (gI 2 1 z36 a0).bind fun x39 =>
      (pF 2 1 z36 a0 (.int (x39 + (1 : Int32)))).bind fun z44 =>
      nm (l4 + (1 : Int32)) fun v47 =>
      k8 a0 a1 l2 l3 v47 z44
    )
  )
set_option maxHeartbeats 4000000 in
set_option maxRecDepth 100000 in
theorem kbX2_gather_8 {p : Program} {l : Launch} {e : Env} {s : State} {m : MethodId} {args : Array Value} {below : List Frame} {meth : Method} {c : Code} {G : GW} {z' : AH} (C : Cx p m c cX2_gather 5 s args RX2 G) (hlk : meth.locks = false) (hr : meth.sig.returnType = none) (k8 : Nat → Nat → Int32 → Int32 → Int32 → AH → Option AH) (hk8 : ∀ (a0 : Nat) (a1 : Nat) (l2 : Int32) (l3 : Int32) (l4 : Int32) (z : AH) (H : Heap) (locs : List Loc) (ls : Array Slot), k8 a0 a1 l2 l3 l4 z = some z' → Wb G z s H locs → lv_has ls 5 [(0, .ref (gB G + a0)), (1, .ref (gB G + a1)), (2, .int l2), (3, .int l3), (4, .int l4)] → W p l e rmX2_gather s m args below meth c H locs 0 0 (MQ below (Qv G z') args s 0 0 (AA G)) (F0 m 8 ls [])) (a0 : Nat) (a1 : Nat) (l2 : Int32) (l3 : Int32) (l4 : Int32) {z : AH} {H : Heap} {locs : List Loc} {ls : Array Slot} (h : bX2_gather_8 k8 a0 a1 l2 l3 l4 z = some z') (hW : Wb G z s H locs) (hl : lv_has ls 5 [(0, .ref (gB G + a0)), (1, .ref (gB G + a1)), (2, .int l2), (3, .int l3), (4, .int l4)]) : W p l e rmX2_gather s m args below meth c H locs 0 0 (MQ below (Qv G z') args s 0 0 (AA G)) (F0 m 8 ls []) := by
  have hx := C.1
  have hb := C.2.1
  unfold bX2_gather_8 at h
  refine lv_iload hx hb dX2_gather_8 (lv_at hl 4 rfl) ?_
  refine lv_bipush (v := 100) hx hb dX2_gather_10 (by decide) ?_
  refine lv_icmp_ge (tgt := 53) hx hb dX2_gather_12 (by decide) (fun c12 => ?_) (fun c12 => ?_)
  · have h := ite_t c12 h
    exact wz_vretE C hlk hr (Option.some.inj h) hW dX2_gather_53
  · have h := ite_f c12 h
    refine lv_aload_n hx hb dX2_gather_15 rfl (lv_at hl 1 rfl) ?_
    refine lv_iload_n hx hb dX2_gather_16 rfl (lv_at hl 2 rfl) ?_
    refine lv_iload_n hx hb dX2_gather_17 rfl (lv_at hl 3 rfl) ?_
    refine lv_iload hx hb dX2_gather_18 (lv_at hl 4 rfl) ?_
    obtain ⟨x20, hq, h⟩ := ob h
    refine wz_rI (c' := 0) (s' := 0) hW (wz_runS (rest := []) C hW lTX2_23 (ctX2_fitsAll l G a1 l2 l3 l4 z hq) ⟨⟨rfl, rfl⟩, Nat.le_of_ble_eq_true rfl, Nat.le_of_ble_eq_true rfl⟩ rfl hl.1 rfl (Nat.le_of_ble_eq_true rfl) dX2_gather_20 ⟨Nat.le_of_ble_eq_true rfl, Nat.le_of_ble_eq_true rfl⟩) rfl rfl (fun H locs hW => ?_)
    refine lv_if_eq (tgt := 47) hx hb dX2_gather_23 (by decide) (fun c23 => ?_) (fun c23 => ?_)
    · have h := ite_t c23 h
      obtain ⟨v47, ev47⟩ : ∃ y : Int32, y = (l4 + (1 : Int32)) := ⟨_, rfl⟩
      have h := nm_to h ev47
      refine lv_iinc (v := v47) (lv' := [(4, .int v47), (0, .ref (gB G + a0)), (1, .ref (gB G + a1)), (2, .int l2), (3, .int l3)]) hx hb dX2_gather_47 hl (k := 4) rfl (by rw [ev47]; rfl) (by decide) rfl (fun ls hl => ?_)
      refine lv_goto (tgt := 8) hx hb dX2_gather_50 (by decide) ?_
      exact hk8 a0 a1 l2 l3 v47 z _ _ _ h hW (lv_sub hl [1, 2, 3, 4, 0] rfl)
    · have h := ite_f c23 h
      refine lv_aload_n hx hb dX2_gather_26 rfl (lv_at hl 0 rfl) ?_
      obtain ⟨b27, hg, h⟩ := ob h
      refine wz_gN C hW flX2_11 hg dX2_gather_27 ?_
      refine lv_aload_n hx hb dX2_gather_30 rfl (lv_at hl 0 rfl) ?_
      obtain ⟨x31, hg, h⟩ := ob h
      refine wz_gI C hW flX2_15 hg dX2_gather_31 ?_
      refine lv_iload hx hb dX2_gather_34 (lv_at hl 4 rfl) ?_
      obtain ⟨z36, hg, h⟩ := ob h
      refine wz_ast C hW hg dX2_gather_36 (fun H locs hW => ?_)
      refine lv_aload_n hx hb dX2_gather_37 rfl (lv_at hl 0 rfl) ?_
      refine lv_dup hx hb dX2_gather_38 rfl ?_
      obtain ⟨x39, hg, h⟩ := ob h
      refine wz_gI C hW flX2_15 hg dX2_gather_39 ?_
      refine lv_iconst (v := 1) hx hb dX2_gather_42 (by decide) ?_
      refine lv_iadd hx hb dX2_gather_43 ?_
      obtain ⟨z44, hg, h⟩ := ob h
      refine wz_put (v := (.int (x39 + (1 : Int32)))) C hW flX2_15 rfl rfl hg dX2_gather_44 (fun H locs hW => ?_)
      obtain ⟨v47, ev47⟩ : ∃ y : Int32, y = (l4 + (1 : Int32)) := ⟨_, rfl⟩
      have h := nm_to h ev47
      refine lv_iinc (v := v47) (lv' := [(4, .int v47), (0, .ref (gB G + a0)), (1, .ref (gB G + a1)), (2, .int l2), (3, .int l3)]) hx hb dX2_gather_47 hl (k := 4) rfl (by rw [ev47]; rfl) (by decide) rfl (fun ls hl => ?_)
      refine lv_goto (tgt := 8) hx hb dX2_gather_50 (by decide) ?_
      exact hk8 a0 a1 l2 l3 v47 z44 _ _ _ h hW (lv_sub hl [1, 2, 3, 4, 0] rfl)
def fX2_gather_8 : Nat → Nat → Nat → Int32 → Int32 → Int32 → AH → Option AH
  | 0, _, _, _, _, _, _ => none
  | n + 1, a0, a1, l2, l3, l4, z => bX2_gather_8 (fX2_gather_8 n) a0 a1 l2 l3 l4 z
theorem klX2_gather_8 {p : Program} {l : Launch} {e : Env} {s : State} {m : MethodId} {args : Array Value} {below : List Frame} {meth : Method} {c : Code} {G : GW} {z' : AH} (C : Cx p m c cX2_gather 5 s args RX2 G) (hlk : meth.locks = false) (hr : meth.sig.returnType = none) : ∀ (n : Nat) (a0 : Nat) (a1 : Nat) (l2 : Int32) (l3 : Int32) (l4 : Int32) (z : AH) (H : Heap) (locs : List Loc) (ls : Array Slot), fX2_gather_8 n a0 a1 l2 l3 l4 z = some z' → Wb G z s H locs → lv_has ls 5 [(0, .ref (gB G + a0)), (1, .ref (gB G + a1)), (2, .int l2), (3, .int l3), (4, .int l4)] → W p l e rmX2_gather s m args below meth c H locs 0 0 (MQ below (Qv G z') args s 0 0 (AA G)) (F0 m 8 ls []) := by
  intro n
  induction n with
  | zero => intro a0 a1 l2 l3 l4 z H locs ls h; have h : (none : Option AH) = some z' := h; cases h
  | succ n ih => intro a0 a1 l2 l3 l4 z H locs ls h hW hl; exact kbX2_gather_8 C hlk hr (fX2_gather_8 n) (fun a0 a1 l2 l3 l4 z H locs ls h hW hl => ih a0 a1 l2 l3 l4 z H locs ls h hW hl) a0 a1 l2 l3 l4 h hW hl
def fX2_gather (a0 : Nat) (a1 : Nat) (l2 : Int32) (l3 : Int32) (z : AH) : Option AH :=
  if isO 2 z a0 = true then
    (pF 2 1 z a0 (.int (0 : Int32))).bind fun z2 =>
    fX2_gather_8 FU a0 a1 l2 l3 (0 : Int32) z2
  else none
set_option maxHeartbeats 4000000 in
set_option maxRecDepth 100000 in
theorem ctX2_gather (l : Launch) (G : GW) (a0 : Nat) (a1 : Nat) (l2 : Int32) (l3 : Int32) (z : AH) {z' : AH} (h : fX2_gather a0 a1 l2 l3 z = some z') : Met l yX2_gather (wy yX2_gather cX2_gather 5 none) rmX2_gather (Pz G [.ref (gB G + a0), .ref (gB G + a1), .int l2, .int l3] z) (Qv G z') 0 0 (AA G) := by
  refine wz_ent (own := RX2) (by decide +kernel) rfl (fun p e s m below meth c ls C hlk hr hin hW hl => ?_) (Nat.le_of_ble_eq_true rfl)
  have hl : lv_has ls 5 [(0, .ref (gB G + a0)), (1, .ref (gB G + a1)), (2, .int l2), (3, .int l3)] := hl
  have hx := C.1
  have hb := C.2.1
  unfold fX2_gather at h
  obtain ⟨-, h⟩ := ck h
  refine lv_aload_n hx hb dX2_gather_0 rfl (lv_at hl 0 rfl) ?_
  refine lv_iconst (v := 0) hx hb dX2_gather_1 (by decide) ?_
  obtain ⟨z2, hg, h⟩ := ob h
  refine wz_put (v := (.int (0 : Int32))) C hW flX2_15 rfl rfl hg dX2_gather_2 (fun H locs hW => ?_)
  refine lv_iconst (v := 0) hx hb dX2_gather_5 (by decide) ?_
  refine lv_istore (lv' := [(4, .int (0 : Int32)), (0, .ref (gB G + a0)), (1, .ref (gB G + a1)), (2, .int l2), (3, .int l3)]) hx hb dX2_gather_6 hl (by decide) rfl (fun ls hl => ?_)
  exact klX2_gather_8 C hlk hr FU a0 a1 l2 l3 (0 : Int32) z2 _ _ _ h hW (lv_sub hl [1, 2, 3, 4, 0] rfl)
theorem dX2_nextView_0 : decode cX2_nextView 0 = .ok (.iconst (-1), 1) := by decide +kernel
theorem dX2_nextView_1 : decode cX2_nextView 1 = .ok (.istore_n 2, 1) := by decide +kernel
theorem dX2_nextView_2 : decode cX2_nextView 2 = .ok (.bipush 101, 2) := by decide +kernel
theorem dX2_nextView_4 : decode cX2_nextView 4 = .ok (.istore_n 3, 1) := by decide +kernel
theorem dX2_nextView_5 : decode cX2_nextView 5 = .ok (.iconst 0, 1) := by decide +kernel
theorem dX2_nextView_6 : decode cX2_nextView 6 = .ok (.istore 4, 2) := by decide +kernel
theorem dX2_nextView_8 : decode cX2_nextView 8 = .ok (.iload 4, 2) := by decide +kernel
theorem dX2_nextView_10 : decode cX2_nextView 10 = .ok (.bipush 30, 2) := by decide +kernel
theorem dX2_nextView_12 : decode cX2_nextView 12 = .ok (.if_icmp .ge 97, 3) := by decide +kernel
theorem dX2_nextView_15 : decode cX2_nextView 15 = .ok (.aload_n 0, 1) := by decide +kernel
theorem dX2_nextView_16 : decode cX2_nextView 16 = .ok (.getfield 15, 3) := by decide +kernel
theorem dX2_nextView_19 : decode cX2_nextView 19 = .ok (.ifCond .le 90, 3) := by decide +kernel
theorem dX2_nextView_22 : decode cX2_nextView 22 = .ok (.iconst 0, 1) := by decide +kernel
theorem dX2_nextView_23 : decode cX2_nextView 23 = .ok (.istore 5, 2) := by decide +kernel
theorem dX2_nextView_25 : decode cX2_nextView 25 = .ok (.iconst 0, 1) := by decide +kernel
theorem dX2_nextView_26 : decode cX2_nextView 26 = .ok (.istore 6, 2) := by decide +kernel
theorem dX2_nextView_28 : decode cX2_nextView 28 = .ok (.iload 6, 2) := by decide +kernel
theorem dX2_nextView_30 : decode cX2_nextView 30 = .ok (.aload_n 0, 1) := by decide +kernel
theorem dX2_nextView_31 : decode cX2_nextView 31 = .ok (.getfield 15, 3) := by decide +kernel
theorem dX2_nextView_34 : decode cX2_nextView 34 = .ok (.if_icmp .ge 43, 3) := by decide +kernel
theorem dX2_nextView_37 : decode cX2_nextView 37 = .ok (.iload 5, 2) := by decide +kernel
theorem dX2_nextView_39 : decode cX2_nextView 39 = .ok (.iload 4, 2) := by decide +kernel
theorem dX2_nextView_41 : decode cX2_nextView 41 = .ok (.bipush 10, 2) := by decide +kernel
theorem dX2_nextView_43 : decode cX2_nextView 43 = .ok (.idiv, 1) := by decide +kernel
theorem dX2_nextView_44 : decode cX2_nextView 44 = .ok (.iload 4, 2) := by decide +kernel
theorem dX2_nextView_46 : decode cX2_nextView 46 = .ok (.bipush 10, 2) := by decide +kernel
theorem dX2_nextView_48 : decode cX2_nextView 48 = .ok (.irem, 1) := by decide +kernel
theorem dX2_nextView_49 : decode cX2_nextView 49 = .ok (.iload_n 1, 1) := by decide +kernel
theorem dX2_nextView_50 : decode cX2_nextView 50 = .ok (.aload_n 0, 1) := by decide +kernel
theorem dX2_nextView_51 : decode cX2_nextView 51 = .ok (.getfield 11, 3) := by decide +kernel
theorem dX2_nextView_54 : decode cX2_nextView 54 = .ok (.iload 6, 2) := by decide +kernel
theorem dX2_nextView_56 : decode cX2_nextView 56 = .ok (.iaload, 1) := by decide +kernel
theorem dX2_nextView_57 : decode cX2_nextView 57 = .ok (.invokestatic 36, 3) := by decide +kernel
theorem dX2_nextView_60 : decode cX2_nextView 60 = .ok (.ifCond .eq 7, 3) := by decide +kernel
theorem dX2_nextView_63 : decode cX2_nextView 63 = .ok (.iconst 1, 1) := by decide +kernel
theorem dX2_nextView_64 : decode cX2_nextView 64 = .ok (.goto 4, 3) := by decide +kernel
theorem dX2_nextView_67 : decode cX2_nextView 67 = .ok (.iconst 0, 1) := by decide +kernel
theorem dX2_nextView_68 : decode cX2_nextView 68 = .ok (.iadd, 1) := by decide +kernel
theorem dX2_nextView_69 : decode cX2_nextView 69 = .ok (.istore 5, 2) := by decide +kernel
theorem dX2_nextView_71 : decode cX2_nextView 71 = .ok (.iinc 6 1, 3) := by decide +kernel
theorem dX2_nextView_74 : decode cX2_nextView 74 = .ok (.goto (-46), 3) := by decide +kernel
theorem dX2_nextView_77 : decode cX2_nextView 77 = .ok (.iload 5, 2) := by decide +kernel
theorem dX2_nextView_79 : decode cX2_nextView 79 = .ok (.aload_n 0, 1) := by decide +kernel
theorem dX2_nextView_80 : decode cX2_nextView 80 = .ok (.getfield 15, 3) := by decide +kernel
theorem dX2_nextView_83 : decode cX2_nextView 83 = .ok (.iload 5, 2) := by decide +kernel
theorem dX2_nextView_85 : decode cX2_nextView 85 = .ok (.isub, 1) := by decide +kernel
theorem dX2_nextView_86 : decode cX2_nextView 86 = .ok (.invokestatic 46, 3) := by decide +kernel
theorem dX2_nextView_89 : decode cX2_nextView 89 = .ok (.istore 6, 2) := by decide +kernel
theorem dX2_nextView_91 : decode cX2_nextView 91 = .ok (.iload 6, 2) := by decide +kernel
theorem dX2_nextView_93 : decode cX2_nextView 93 = .ok (.iload_n 3, 1) := by decide +kernel
theorem dX2_nextView_94 : decode cX2_nextView 94 = .ok (.if_icmp .ge 9, 3) := by decide +kernel
theorem dX2_nextView_97 : decode cX2_nextView 97 = .ok (.iload 4, 2) := by decide +kernel
theorem dX2_nextView_99 : decode cX2_nextView 99 = .ok (.istore_n 2, 1) := by decide +kernel
theorem dX2_nextView_100 : decode cX2_nextView 100 = .ok (.iload 6, 2) := by decide +kernel
theorem dX2_nextView_102 : decode cX2_nextView 102 = .ok (.istore_n 3, 1) := by decide +kernel
theorem dX2_nextView_103 : decode cX2_nextView 103 = .ok (.iinc 4 1, 3) := by decide +kernel
theorem dX2_nextView_106 : decode cX2_nextView 106 = .ok (.goto (-98), 3) := by decide +kernel
theorem dX2_nextView_109 : decode cX2_nextView 109 = .ok (.iload_n 2, 1) := by decide +kernel
theorem dX2_nextView_110 : decode cX2_nextView 110 = .ok (.ireturn, 1) := by decide +kernel
abbrev rmX2_nextView : Room := { frames := 2, cells := 0, slots := 0, locals := 49 }
def bX2_nextView_28 (k8 : Nat → Int32 → Int32 → Int32 → Int32 → Option (Int32)) (k28 : Nat → Int32 → Int32 → Int32 → Int32 → Int32 → Int32 → Option (Int32)) (a0 : Nat) (l1 : Int32) (l2 : Int32) (l3 : Int32) (l4 : Int32) (l5 : Int32) (l6 : Int32) (z : AH) : Option (Int32) :=
  (gI 2 1 z a0).bind fun x31 =>
  if x31 ≤ l6 then (
    (gI 2 1 z a0).bind fun x80 =>
    nm (imax l5 (x80 - l5)) fun v89 =>
    if l3 ≤ v89 then (
      nm (l4 + (1 : Int32)) fun v103 =>
      k8 a0 l1 l2 l3 v103
    ) else (
      nm (l4 + (1 : Int32)) fun v103 =>
      k8 a0 l1 l4 v89 v103
    )
  ) else (
    (gN 2 0 z a0).bind fun b51 =>
    (ixI 0 z b51 l6).bind fun x56 =>
    if (fX2_crosses (l4 / (10 : Int32)) (irem l4 (10 : Int32)) l1 x56) = (0 : Int32) then (
      nm (l5 + (0 : Int32)) fun v69 =>
      nm (l6 + (1 : Int32)) fun v71 =>
      k28 a0 l1 l2 l3 l4 v69 v71
    ) else (
      nm (l5 + (1 : Int32)) fun v69 =>
      nm (l6 + (1 : Int32)) fun v71 =>
      k28 a0 l1 l2 l3 l4 v69 v71
    )
  )
set_option maxHeartbeats 4000000 in
set_option maxRecDepth 100000 in
theorem kbX2_nextView_28 {p : Program} {l : Launch} {e : Env} {s : State} {m : MethodId} {args : Array Value} {below : List Frame} {meth : Method} {c : Code} {G : GW} {r : Int32} (C : Cx p m c cX2_nextView 7 s args RX2 G) (hlk : meth.locks = false) (hr : meth.sig.returnType = (some .int)) {z : AH} (k8 : Nat → Int32 → Int32 → Int32 → Int32 → Option (Int32)) (k28 : Nat → Int32 → Int32 → Int32 → Int32 → Int32 → Int32 → Option (Int32)) (hk8 : ∀ (a0 : Nat) (l1 : Int32) (l2 : Int32) (l3 : Int32) (l4 : Int32) (H : Heap) (locs : List Loc) (ls : Array Slot), k8 a0 l1 l2 l3 l4 = some r → Wb G z s H locs → lv_has ls 7 [(0, .ref (gB G + a0)), (1, .int l1), (2, .int l2), (3, .int l3), (4, .int l4)] → W p l e rmX2_nextView s m args below meth c H locs 0 0 (MQ below (Qi G r z) args s 0 0 (AA G)) (F0 m 8 ls [])) (hk28 : ∀ (a0 : Nat) (l1 : Int32) (l2 : Int32) (l3 : Int32) (l4 : Int32) (l5 : Int32) (l6 : Int32) (H : Heap) (locs : List Loc) (ls : Array Slot), k28 a0 l1 l2 l3 l4 l5 l6 = some r → Wb G z s H locs → lv_has ls 7 [(0, .ref (gB G + a0)), (1, .int l1), (2, .int l2), (3, .int l3), (4, .int l4), (5, .int l5), (6, .int l6)] → W p l e rmX2_nextView s m args below meth c H locs 0 0 (MQ below (Qi G r z) args s 0 0 (AA G)) (F0 m 28 ls [])) (a0 : Nat) (l1 : Int32) (l2 : Int32) (l3 : Int32) (l4 : Int32) (l5 : Int32) (l6 : Int32) {H : Heap} {locs : List Loc} {ls : Array Slot} (h : bX2_nextView_28 k8 k28 a0 l1 l2 l3 l4 l5 l6 z = some r) (hW : Wb G z s H locs) (hl : lv_has ls 7 [(0, .ref (gB G + a0)), (1, .int l1), (2, .int l2), (3, .int l3), (4, .int l4), (5, .int l5), (6, .int l6)]) : W p l e rmX2_nextView s m args below meth c H locs 0 0 (MQ below (Qi G r z) args s 0 0 (AA G)) (F0 m 28 ls []) := by
  have hx := C.1
  have hb := C.2.1
  unfold bX2_nextView_28 at h
  refine lv_iload hx hb dX2_nextView_28 (lv_at hl 6 rfl) ?_
  refine lv_aload_n hx hb dX2_nextView_30 rfl (lv_at hl 0 rfl) ?_
  obtain ⟨x31, hg, h⟩ := ob h
  refine wz_gI C hW flX2_15 hg dX2_nextView_31 ?_
  refine lv_icmp_ge (tgt := 77) hx hb dX2_nextView_34 (by decide) (fun c34 => ?_) (fun c34 => ?_)
  · have h := ite_t c34 h
    refine lv_iload hx hb dX2_nextView_77 (lv_at hl 5 rfl) ?_
    refine lv_aload_n hx hb dX2_nextView_79 rfl (lv_at hl 0 rfl) ?_
    obtain ⟨x80, hg, h⟩ := ob h
    refine wz_gI C hW flX2_15 hg dX2_nextView_80 ?_
    refine lv_iload hx hb dX2_nextView_83 (lv_at hl 5 rfl) ?_
    refine lv_isub hx hb dX2_nextView_85 ?_
    refine wz_max ⟨tw 1056 (by decide +kernel) rfl, tw 733 (by decide +kernel) rfl, tw 129 (by decide +kernel) rfl, tw 734 (by decide +kernel) rfl⟩ C hl.1 ⟨⟨Nat.le_of_ble_eq_true rfl, Nat.le_of_ble_eq_true rfl⟩, Nat.le_of_ble_eq_true rfl, Nat.le_of_ble_eq_true rfl⟩ (Nat.le_of_ble_eq_true rfl) dX2_nextView_86 ?_
    refine lv_topi (fun v89 ev89 => ?_)
    have h := nm_to h ev89
    refine lv_istore (lv' := [(6, .int v89), (0, .ref (gB G + a0)), (1, .int l1), (2, .int l2), (3, .int l3), (4, .int l4), (5, .int l5)]) hx hb dX2_nextView_89 hl (by decide) rfl (fun ls hl => ?_)
    refine lv_iload hx hb dX2_nextView_91 (lv_at hl 0 rfl) ?_
    refine lv_iload_n hx hb dX2_nextView_93 rfl (lv_at hl 4 rfl) ?_
    refine lv_icmp_ge (tgt := 103) hx hb dX2_nextView_94 (by decide) (fun c94 => ?_) (fun c94 => ?_)
    · have h := ite_t c94 h
      obtain ⟨v103, ev103⟩ : ∃ y : Int32, y = (l4 + (1 : Int32)) := ⟨_, rfl⟩
      have h := nm_to h ev103
      refine lv_iinc (v := v103) (lv' := [(4, .int v103), (6, .int v89), (0, .ref (gB G + a0)), (1, .int l1), (2, .int l2), (3, .int l3), (5, .int l5)]) hx hb dX2_nextView_103 hl (k := 5) rfl (by rw [ev103]; rfl) (by decide) rfl (fun ls hl => ?_)
      refine lv_goto (tgt := 8) hx hb dX2_nextView_106 (by decide) ?_
      exact hk8 a0 l1 l2 l3 v103 _ _ _ h hW (lv_sub hl [2, 3, 4, 5, 0] rfl)
    · have h := ite_f c94 h
      refine lv_iload hx hb dX2_nextView_97 (lv_at hl 5 rfl) ?_
      refine lv_istore_n (lv' := [(2, .int l4), (6, .int v89), (0, .ref (gB G + a0)), (1, .int l1), (3, .int l3), (4, .int l4), (5, .int l5)]) hx hb dX2_nextView_99 rfl hl (by decide) rfl (fun ls hl => ?_)
      refine lv_iload hx hb dX2_nextView_100 (lv_at hl 1 rfl) ?_
      refine lv_istore_n (lv' := [(3, .int v89), (2, .int l4), (6, .int v89), (0, .ref (gB G + a0)), (1, .int l1), (4, .int l4), (5, .int l5)]) hx hb dX2_nextView_102 rfl hl (by decide) rfl (fun ls hl => ?_)
      obtain ⟨v103, ev103⟩ : ∃ y : Int32, y = (l4 + (1 : Int32)) := ⟨_, rfl⟩
      have h := nm_to h ev103
      refine lv_iinc (v := v103) (lv' := [(4, .int v103), (3, .int v89), (2, .int l4), (6, .int v89), (0, .ref (gB G + a0)), (1, .int l1), (5, .int l5)]) hx hb dX2_nextView_103 hl (k := 5) rfl (by rw [ev103]; rfl) (by decide) rfl (fun ls hl => ?_)
      refine lv_goto (tgt := 8) hx hb dX2_nextView_106 (by decide) ?_
      exact hk8 a0 l1 l4 v89 v103 _ _ _ h hW (lv_sub hl [4, 5, 2, 1, 0] rfl)
  · have h := ite_f c34 h
    refine lv_iload hx hb dX2_nextView_37 (lv_at hl 5 rfl) ?_
    refine lv_iload hx hb dX2_nextView_39 (lv_at hl 4 rfl) ?_
    refine lv_bipush (v := 10) hx hb dX2_nextView_41 (by decide) ?_
    refine lv_idiv hx hb dX2_nextView_43 (by decide) ?_
    refine lv_iload hx hb dX2_nextView_44 (lv_at hl 4 rfl) ?_
    refine lv_bipush (v := 10) hx hb dX2_nextView_46 (by decide) ?_
    refine wz_irem hx hb dX2_nextView_48 (by decide) ?_
    refine lv_iload_n hx hb dX2_nextView_49 rfl (lv_at hl 1 rfl) ?_
    refine lv_aload_n hx hb dX2_nextView_50 rfl (lv_at hl 0 rfl) ?_
    obtain ⟨b51, hg, h⟩ := ob h
    refine wz_gN C hW flX2_11 hg dX2_nextView_51 ?_
    refine lv_iload hx hb dX2_nextView_54 (lv_at hl 6 rfl) ?_
    obtain ⟨x56, hg, h⟩ := ob h
    refine wz_ald C hW hg dX2_nextView_56 ?_
    refine wz_rI (c' := 0) (s' := 0) hW (wz_runS (rest := [.int l5]) C hW lTX2_36 (ctX2_crosses l G (l4 / (10 : Int32)) (irem l4 (10 : Int32)) l1 x56 z rfl) ⟨⟨rfl, rfl⟩, Nat.le_of_ble_eq_true rfl, Nat.le_of_ble_eq_true rfl⟩ rfl hl.1 rfl (Nat.le_of_ble_eq_true rfl) dX2_nextView_57 ⟨Nat.le_of_ble_eq_true rfl, Nat.le_of_ble_eq_true rfl⟩) rfl rfl (fun H locs hW => ?_)
    refine lv_if_eq (tgt := 67) hx hb dX2_nextView_60 (by decide) (fun c60 => ?_) (fun c60 => ?_)
    · have h := ite_t c60 h
      refine lv_iconst (v := 0) hx hb dX2_nextView_67 (by decide) ?_
      refine lv_iadd hx hb dX2_nextView_68 ?_
      refine lv_topi (fun v69 ev69 => ?_)
      have h := nm_to h ev69
      refine lv_istore (lv' := [(5, .int v69), (0, .ref (gB G + a0)), (1, .int l1), (2, .int l2), (3, .int l3), (4, .int l4), (6, .int l6)]) hx hb dX2_nextView_69 hl (by decide) rfl (fun ls hl => ?_)
      obtain ⟨v71, ev71⟩ : ∃ y : Int32, y = (l6 + (1 : Int32)) := ⟨_, rfl⟩
      have h := nm_to h ev71
      refine lv_iinc (v := v71) (lv' := [(6, .int v71), (5, .int v69), (0, .ref (gB G + a0)), (1, .int l1), (2, .int l2), (3, .int l3), (4, .int l4)]) hx hb dX2_nextView_71 hl (k := 6) rfl (by rw [ev71]; rfl) (by decide) rfl (fun ls hl => ?_)
      refine lv_goto (tgt := 28) hx hb dX2_nextView_74 (by decide) ?_
      exact hk28 a0 l1 l2 l3 l4 v69 v71 _ _ _ h hW (lv_sub hl [2, 3, 4, 5, 6, 1, 0] rfl)
    · have h := ite_f c60 h
      refine lv_iconst (v := 1) hx hb dX2_nextView_63 (by decide) ?_
      refine lv_goto (tgt := 68) hx hb dX2_nextView_64 (by decide) ?_
      refine lv_iadd hx hb dX2_nextView_68 ?_
      refine lv_topi (fun v69 ev69 => ?_)
      have h := nm_to h ev69
      refine lv_istore (lv' := [(5, .int v69), (0, .ref (gB G + a0)), (1, .int l1), (2, .int l2), (3, .int l3), (4, .int l4), (6, .int l6)]) hx hb dX2_nextView_69 hl (by decide) rfl (fun ls hl => ?_)
      obtain ⟨v71, ev71⟩ : ∃ y : Int32, y = (l6 + (1 : Int32)) := ⟨_, rfl⟩
      have h := nm_to h ev71
      refine lv_iinc (v := v71) (lv' := [(6, .int v71), (5, .int v69), (0, .ref (gB G + a0)), (1, .int l1), (2, .int l2), (3, .int l3), (4, .int l4)]) hx hb dX2_nextView_71 hl (k := 6) rfl (by rw [ev71]; rfl) (by decide) rfl (fun ls hl => ?_)
      refine lv_goto (tgt := 28) hx hb dX2_nextView_74 (by decide) ?_
      exact hk28 a0 l1 l2 l3 l4 v69 v71 _ _ _ h hW (lv_sub hl [2, 3, 4, 5, 6, 1, 0] rfl)
def fX2_nextView_28 (k8 : Nat → Int32 → Int32 → Int32 → Int32 → Option (Int32)) (z : AH) : Nat → Nat → Int32 → Int32 → Int32 → Int32 → Int32 → Int32 → Option (Int32)
  | 0, _, _, _, _, _, _, _ => none
  | n + 1, a0, l1, l2, l3, l4, l5, l6 => bX2_nextView_28 k8 (fX2_nextView_28 k8 z n) a0 l1 l2 l3 l4 l5 l6 z
theorem klX2_nextView_28 {p : Program} {l : Launch} {e : Env} {s : State} {m : MethodId} {args : Array Value} {below : List Frame} {meth : Method} {c : Code} {G : GW} {r : Int32} (C : Cx p m c cX2_nextView 7 s args RX2 G) (hlk : meth.locks = false) (hr : meth.sig.returnType = (some .int)) {z : AH} (k8 : Nat → Int32 → Int32 → Int32 → Int32 → Option (Int32)) (hk8 : ∀ (a0 : Nat) (l1 : Int32) (l2 : Int32) (l3 : Int32) (l4 : Int32) (H : Heap) (locs : List Loc) (ls : Array Slot), k8 a0 l1 l2 l3 l4 = some r → Wb G z s H locs → lv_has ls 7 [(0, .ref (gB G + a0)), (1, .int l1), (2, .int l2), (3, .int l3), (4, .int l4)] → W p l e rmX2_nextView s m args below meth c H locs 0 0 (MQ below (Qi G r z) args s 0 0 (AA G)) (F0 m 8 ls [])) : ∀ (n : Nat) (a0 : Nat) (l1 : Int32) (l2 : Int32) (l3 : Int32) (l4 : Int32) (l5 : Int32) (l6 : Int32) (H : Heap) (locs : List Loc) (ls : Array Slot), fX2_nextView_28 k8 z n a0 l1 l2 l3 l4 l5 l6 = some r → Wb G z s H locs → lv_has ls 7 [(0, .ref (gB G + a0)), (1, .int l1), (2, .int l2), (3, .int l3), (4, .int l4), (5, .int l5), (6, .int l6)] → W p l e rmX2_nextView s m args below meth c H locs 0 0 (MQ below (Qi G r z) args s 0 0 (AA G)) (F0 m 28 ls []) := by
  intro n
  induction n with
  | zero => intro a0 l1 l2 l3 l4 l5 l6 H locs ls h; have h : (none : Option (Int32)) = some r := h; cases h
  | succ n ih => intro a0 l1 l2 l3 l4 l5 l6 H locs ls h hW hl; exact kbX2_nextView_28 C hlk hr k8 (fX2_nextView_28 k8 z n) hk8 (fun a0 l1 l2 l3 l4 l5 l6 H locs ls h hW hl => ih a0 l1 l2 l3 l4 l5 l6 H locs ls h hW hl) a0 l1 l2 l3 l4 l5 l6 h hW hl
def bX2_nextView_8 (k8 : Nat → Int32 → Int32 → Int32 → Int32 → Option (Int32)) (a0 : Nat) (l1 : Int32) (l2 : Int32) (l3 : Int32) (l4 : Int32) (z : AH) : Option (Int32) :=
  if (30 : Int32) ≤ l4 then (
    some l2
  ) else (
    (gI 2 1 z a0).bind fun x16 =>
    if x16 ≤ (0 : Int32) then (
      some l2
    ) else (
      fX2_nextView_28 k8 z FU a0 l1 l2 l3 l4 (0 : Int32) (0 : Int32)
    )
  )
set_option maxHeartbeats 4000000 in
set_option maxRecDepth 100000 in
theorem kbX2_nextView_8 {p : Program} {l : Launch} {e : Env} {s : State} {m : MethodId} {args : Array Value} {below : List Frame} {meth : Method} {c : Code} {G : GW} {r : Int32} (C : Cx p m c cX2_nextView 7 s args RX2 G) (hlk : meth.locks = false) (hr : meth.sig.returnType = (some .int)) {z : AH} (k8 : Nat → Int32 → Int32 → Int32 → Int32 → Option (Int32)) (hk8 : ∀ (a0 : Nat) (l1 : Int32) (l2 : Int32) (l3 : Int32) (l4 : Int32) (H : Heap) (locs : List Loc) (ls : Array Slot), k8 a0 l1 l2 l3 l4 = some r → Wb G z s H locs → lv_has ls 7 [(0, .ref (gB G + a0)), (1, .int l1), (2, .int l2), (3, .int l3), (4, .int l4)] → W p l e rmX2_nextView s m args below meth c H locs 0 0 (MQ below (Qi G r z) args s 0 0 (AA G)) (F0 m 8 ls [])) (a0 : Nat) (l1 : Int32) (l2 : Int32) (l3 : Int32) (l4 : Int32) {H : Heap} {locs : List Loc} {ls : Array Slot} (h : bX2_nextView_8 k8 a0 l1 l2 l3 l4 z = some r) (hW : Wb G z s H locs) (hl : lv_has ls 7 [(0, .ref (gB G + a0)), (1, .int l1), (2, .int l2), (3, .int l3), (4, .int l4)]) : W p l e rmX2_nextView s m args below meth c H locs 0 0 (MQ below (Qi G r z) args s 0 0 (AA G)) (F0 m 8 ls []) := by
  have hx := C.1
  have hb := C.2.1
  unfold bX2_nextView_8 at h
  refine lv_iload hx hb dX2_nextView_8 (lv_at hl 4 rfl) ?_
  refine lv_bipush (v := 30) hx hb dX2_nextView_10 (by decide) ?_
  refine lv_icmp_ge (tgt := 109) hx hb dX2_nextView_12 (by decide) (fun c12 => ?_) (fun c12 => ?_)
  · have h := ite_t c12 h
    refine lv_iload_n hx hb dX2_nextView_109 rfl (lv_at hl 2 rfl) ?_
    exact wz_iretE C hlk hr (Option.some.inj h) rfl hW dX2_nextView_110
  · have h := ite_f c12 h
    refine lv_aload_n hx hb dX2_nextView_15 rfl (lv_at hl 0 rfl) ?_
    obtain ⟨x16, hg, h⟩ := ob h
    refine wz_gI C hW flX2_15 hg dX2_nextView_16 ?_
    refine lv_if_le (tgt := 109) hx hb dX2_nextView_19 (by decide) (fun c19 => ?_) (fun c19 => ?_)
    · have h := ite_t c19 h
      refine lv_iload_n hx hb dX2_nextView_109 rfl (lv_at hl 2 rfl) ?_
      exact wz_iretE C hlk hr (Option.some.inj h) rfl hW dX2_nextView_110
    · have h := ite_f c19 h
      refine lv_iconst (v := 0) hx hb dX2_nextView_22 (by decide) ?_
      refine lv_istore (lv' := [(5, .int (0 : Int32)), (0, .ref (gB G + a0)), (1, .int l1), (2, .int l2), (3, .int l3), (4, .int l4)]) hx hb dX2_nextView_23 hl (by decide) rfl (fun ls hl => ?_)
      refine lv_iconst (v := 0) hx hb dX2_nextView_25 (by decide) ?_
      refine lv_istore (lv' := [(6, .int (0 : Int32)), (5, .int (0 : Int32)), (0, .ref (gB G + a0)), (1, .int l1), (2, .int l2), (3, .int l3), (4, .int l4)]) hx hb dX2_nextView_26 hl (by decide) rfl (fun ls hl => ?_)
      exact klX2_nextView_28 C hlk hr k8 hk8 FU a0 l1 l2 l3 l4 (0 : Int32) (0 : Int32) _ _ _ h hW (lv_sub hl [2, 3, 4, 5, 6, 1, 0] rfl)
def fX2_nextView_8 (z : AH) : Nat → Nat → Int32 → Int32 → Int32 → Int32 → Option (Int32)
  | 0, _, _, _, _, _ => none
  | n + 1, a0, l1, l2, l3, l4 => bX2_nextView_8 (fX2_nextView_8 z n) a0 l1 l2 l3 l4 z
theorem klX2_nextView_8 {p : Program} {l : Launch} {e : Env} {s : State} {m : MethodId} {args : Array Value} {below : List Frame} {meth : Method} {c : Code} {G : GW} {r : Int32} (C : Cx p m c cX2_nextView 7 s args RX2 G) (hlk : meth.locks = false) (hr : meth.sig.returnType = (some .int)) {z : AH} : ∀ (n : Nat) (a0 : Nat) (l1 : Int32) (l2 : Int32) (l3 : Int32) (l4 : Int32) (H : Heap) (locs : List Loc) (ls : Array Slot), fX2_nextView_8 z n a0 l1 l2 l3 l4 = some r → Wb G z s H locs → lv_has ls 7 [(0, .ref (gB G + a0)), (1, .int l1), (2, .int l2), (3, .int l3), (4, .int l4)] → W p l e rmX2_nextView s m args below meth c H locs 0 0 (MQ below (Qi G r z) args s 0 0 (AA G)) (F0 m 8 ls []) := by
  intro n
  induction n with
  | zero => intro a0 l1 l2 l3 l4 H locs ls h; have h : (none : Option (Int32)) = some r := h; cases h
  | succ n ih => intro a0 l1 l2 l3 l4 H locs ls h hW hl; exact kbX2_nextView_8 C hlk hr (fX2_nextView_8 z n) (fun a0 l1 l2 l3 l4 H locs ls h hW hl => ih a0 l1 l2 l3 l4 H locs ls h hW hl) a0 l1 l2 l3 l4 h hW hl
def fX2_nextView (a0 : Nat) (l1 : Int32) (z : AH) : Option (Int32) :=
  if isO 2 z a0 = true then
    fX2_nextView_8 z FU a0 l1 (-1 : Int32) (101 : Int32) (0 : Int32)
  else none
set_option maxHeartbeats 4000000 in
set_option maxRecDepth 100000 in
theorem ctX2_nextView (l : Launch) (G : GW) (a0 : Nat) (l1 : Int32) (z : AH) {r : Int32} (h : fX2_nextView a0 l1 z = some r) : Met l yX2_nextView (wy yX2_nextView cX2_nextView 7 (some .int)) rmX2_nextView (Pz G [.ref (gB G + a0), .int l1] z) (Qi G r z) 0 0 (AA G) := by
  refine wz_ent (own := RX2) (by decide +kernel) rfl (fun p e s m below meth c ls C hlk hr hin hW hl => ?_) (Nat.le_of_ble_eq_true rfl)
  have hl : lv_has ls 7 [(0, .ref (gB G + a0)), (1, .int l1)] := hl
  have hx := C.1
  have hb := C.2.1
  unfold fX2_nextView at h
  obtain ⟨-, h⟩ := ck h
  refine lv_iconst (v := -1) hx hb dX2_nextView_0 (by decide) ?_
  refine lv_istore_n (lv' := [(2, .int (-1 : Int32)), (0, .ref (gB G + a0)), (1, .int l1)]) hx hb dX2_nextView_1 rfl hl (by decide) rfl (fun ls hl => ?_)
  refine lv_bipush (v := 101) hx hb dX2_nextView_2 (by decide) ?_
  refine lv_istore_n (lv' := [(3, .int (101 : Int32)), (2, .int (-1 : Int32)), (0, .ref (gB G + a0)), (1, .int l1)]) hx hb dX2_nextView_4 rfl hl (by decide) rfl (fun ls hl => ?_)
  refine lv_iconst (v := 0) hx hb dX2_nextView_5 (by decide) ?_
  refine lv_istore (lv' := [(4, .int (0 : Int32)), (3, .int (101 : Int32)), (2, .int (-1 : Int32)), (0, .ref (gB G + a0)), (1, .int l1)]) hx hb dX2_nextView_6 hl (by decide) rfl (fun ls hl => ?_)
  exact klX2_nextView_8 C hlk hr FU a0 l1 (-1 : Int32) (101 : Int32) (0 : Int32) _ _ _ h hW (lv_sub hl [3, 4, 2, 1, 0] rfl)
theorem flX3_9 : FL RX3 9 4 3 := ⟨_, rfl, Nat.le_of_ble_eq_true rfl, tw 744 (by decide +kernel) rfl, rfl⟩
theorem flX3_15 : FL RX3 15 4 0 := ⟨_, rfl, Nat.le_of_ble_eq_true rfl, tw 736 (by decide +kernel) rfl, rfl⟩
theorem flX3_19 : FL RX3 19 4 2 := ⟨_, rfl, Nat.le_of_ble_eq_true rfl, tw 742 (by decide +kernel) rfl, rfl⟩
theorem flX3_22 : FL RX3 22 4 1 := ⟨_, rfl, Nat.le_of_ble_eq_true rfl, tw 739 (by decide +kernel) rfl, rfl⟩
theorem dX3_lookersAt_0 : decode cX3_lookersAt 0 = .ok (.iconst 0, 1) := by decide +kernel
theorem dX3_lookersAt_1 : decode cX3_lookersAt 1 = .ok (.istore_n 2, 1) := by decide +kernel
theorem dX3_lookersAt_2 : decode cX3_lookersAt 2 = .ok (.iconst 0, 1) := by decide +kernel
theorem dX3_lookersAt_3 : decode cX3_lookersAt 3 = .ok (.istore_n 3, 1) := by decide +kernel
theorem dX3_lookersAt_4 : decode cX3_lookersAt 4 = .ok (.iload_n 3, 1) := by decide +kernel
theorem dX3_lookersAt_5 : decode cX3_lookersAt 5 = .ok (.aload_n 0, 1) := by decide +kernel
theorem dX3_lookersAt_6 : decode cX3_lookersAt 6 = .ok (.getfield 9, 3) := by decide +kernel
theorem dX3_lookersAt_9 : decode cX3_lookersAt 9 = .ok (.if_icmp .ge 39, 3) := by decide +kernel
theorem dX3_lookersAt_12 : decode cX3_lookersAt 12 = .ok (.aload_n 0, 1) := by decide +kernel
theorem dX3_lookersAt_13 : decode cX3_lookersAt 13 = .ok (.getfield 15, 3) := by decide +kernel
theorem dX3_lookersAt_16 : decode cX3_lookersAt 16 = .ok (.iload_n 3, 1) := by decide +kernel
theorem dX3_lookersAt_17 : decode cX3_lookersAt 17 = .ok (.iaload, 1) := by decide +kernel
theorem dX3_lookersAt_18 : decode cX3_lookersAt 18 = .ok (.ifCond .ne 24, 3) := by decide +kernel
theorem dX3_lookersAt_21 : decode cX3_lookersAt 21 = .ok (.aload_n 0, 1) := by decide +kernel
theorem dX3_lookersAt_22 : decode cX3_lookersAt 22 = .ok (.getfield 19, 3) := by decide +kernel
theorem dX3_lookersAt_25 : decode cX3_lookersAt 25 = .ok (.iload_n 3, 1) := by decide +kernel
theorem dX3_lookersAt_26 : decode cX3_lookersAt 26 = .ok (.iaload, 1) := by decide +kernel
theorem dX3_lookersAt_27 : decode cX3_lookersAt 27 = .ok (.iload_n 1, 1) := by decide +kernel
theorem dX3_lookersAt_28 : decode cX3_lookersAt 28 = .ok (.if_icmp .ne 14, 3) := by decide +kernel
theorem dX3_lookersAt_31 : decode cX3_lookersAt 31 = .ok (.iload_n 2, 1) := by decide +kernel
theorem dX3_lookersAt_32 : decode cX3_lookersAt 32 = .ok (.iconst 1, 1) := by decide +kernel
theorem dX3_lookersAt_33 : decode cX3_lookersAt 33 = .ok (.aload_n 0, 1) := by decide +kernel
theorem dX3_lookersAt_34 : decode cX3_lookersAt 34 = .ok (.getfield 22, 3) := by decide +kernel
theorem dX3_lookersAt_37 : decode cX3_lookersAt 37 = .ok (.iload_n 3, 1) := by decide +kernel
theorem dX3_lookersAt_38 : decode cX3_lookersAt 38 = .ok (.iaload, 1) := by decide +kernel
theorem dX3_lookersAt_39 : decode cX3_lookersAt 39 = .ok (.ishl, 1) := by decide +kernel
theorem dX3_lookersAt_40 : decode cX3_lookersAt 40 = .ok (.ior, 1) := by decide +kernel
theorem dX3_lookersAt_41 : decode cX3_lookersAt 41 = .ok (.istore_n 2, 1) := by decide +kernel
theorem dX3_lookersAt_42 : decode cX3_lookersAt 42 = .ok (.iinc 3 1, 3) := by decide +kernel
theorem dX3_lookersAt_45 : decode cX3_lookersAt 45 = .ok (.goto (-41), 3) := by decide +kernel
theorem dX3_lookersAt_48 : decode cX3_lookersAt 48 = .ok (.iload_n 2, 1) := by decide +kernel
theorem dX3_lookersAt_49 : decode cX3_lookersAt 49 = .ok (.ireturn, 1) := by decide +kernel
abbrev rmX3_lookersAt : Room := { frames := 0, cells := 0, slots := 0, locals := 0 }
def bX3_lookersAt_4 (k4 : Nat → Int32 → Int32 → Int32 → Option (Int32)) (a0 : Nat) (l1 : Int32) (l2 : Int32) (l3 : Int32) (z : AH) : Option (Int32) :=
  (gI 4 3 z a0).bind fun x6 =>
  if x6 ≤ l3 then (
    some l2
  ) else (
    (gN 4 0 z a0).bind fun b13 =>
    (ixI 0 z b13 l3).bind fun x17 =>
    if x17 = (0 : Int32) then (
      (gN 4 2 z a0).bind fun b22 =>
      (ixI 0 z b22 l3).bind fun x26 =>
      if x26 = l1 then (
        (gN 4 1 z a0).bind fun b34 =>
        (ixI 0 z b34 l3).bind fun x38 =>
        nm (l2 ||| (shl (1 : Int32) x38)) fun v41 =>
        nm (l3 + (1 : Int32)) fun v42 =>
        k4 a0 l1 v41 v42
      ) else (
        nm (l3 + (1 : Int32)) fun v42 =>
        k4 a0 l1 l2 v42
      )
    ) else (
      nm (l3 + (1 : Int32)) fun v42 =>
      k4 a0 l1 l2 v42
    )
  )
set_option maxHeartbeats 4000000 in
set_option maxRecDepth 100000 in
theorem kbX3_lookersAt_4 {p : Program} {l : Launch} {e : Env} {s : State} {m : MethodId} {args : Array Value} {below : List Frame} {meth : Method} {c : Code} {G : GW} {r : Int32} (C : Cx p m c cX3_lookersAt 4 s args RX3 G) (hlk : meth.locks = false) (hr : meth.sig.returnType = (some .int)) {z : AH} (k4 : Nat → Int32 → Int32 → Int32 → Option (Int32)) (hk4 : ∀ (a0 : Nat) (l1 : Int32) (l2 : Int32) (l3 : Int32) (H : Heap) (locs : List Loc) (ls : Array Slot), k4 a0 l1 l2 l3 = some r → Wb G z s H locs → lv_has ls 4 [(0, .ref (gB G + a0)), (1, .int l1), (2, .int l2), (3, .int l3)] → W p l e rmX3_lookersAt s m args below meth c H locs 0 0 (MQ below (Qi G r z) args s 0 0 (AA G)) (F0 m 4 ls [])) (a0 : Nat) (l1 : Int32) (l2 : Int32) (l3 : Int32) {H : Heap} {locs : List Loc} {ls : Array Slot} (h : bX3_lookersAt_4 k4 a0 l1 l2 l3 z = some r) (hW : Wb G z s H locs) (hl : lv_has ls 4 [(0, .ref (gB G + a0)), (1, .int l1), (2, .int l2), (3, .int l3)]) : W p l e rmX3_lookersAt s m args below meth c H locs 0 0 (MQ below (Qi G r z) args s 0 0 (AA G)) (F0 m 4 ls []) := by
  have hx := C.1
  have hb := C.2.1
  unfold bX3_lookersAt_4 at h
  refine lv_iload_n hx hb dX3_lookersAt_4 rfl (lv_at hl 3 rfl) ?_
  refine lv_aload_n hx hb dX3_lookersAt_5 rfl (lv_at hl 0 rfl) ?_
  obtain ⟨x6, hg, h⟩ := ob h
  refine wz_gI C hW flX3_9 hg dX3_lookersAt_6 ?_
  refine lv_icmp_ge (tgt := 48) hx hb dX3_lookersAt_9 (by decide) (fun c9 => ?_) (fun c9 => ?_)
  · have h := ite_t c9 h
    refine lv_iload_n hx hb dX3_lookersAt_48 rfl (lv_at hl 2 rfl) ?_
    exact wz_iretE C hlk hr (Option.some.inj h) rfl hW dX3_lookersAt_49
  · have h := ite_f c9 h
    refine lv_aload_n hx hb dX3_lookersAt_12 rfl (lv_at hl 0 rfl) ?_
    obtain ⟨b13, hg, h⟩ := ob h
    refine wz_gN C hW flX3_15 hg dX3_lookersAt_13 ?_
    refine lv_iload_n hx hb dX3_lookersAt_16 rfl (lv_at hl 3 rfl) ?_
    obtain ⟨x17, hg, h⟩ := ob h
    refine wz_ald C hW hg dX3_lookersAt_17 ?_
    refine lv_if_ne (tgt := 42) hx hb dX3_lookersAt_18 (by decide) (fun c18 => ?_) (fun c18 => ?_)
    · have h := ite_f c18 h
      obtain ⟨v42, ev42⟩ : ∃ y : Int32, y = (l3 + (1 : Int32)) := ⟨_, rfl⟩
      have h := nm_to h ev42
      refine lv_iinc (v := v42) (lv' := [(3, .int v42), (0, .ref (gB G + a0)), (1, .int l1), (2, .int l2)]) hx hb dX3_lookersAt_42 hl (k := 3) rfl (by rw [ev42]; rfl) (by decide) rfl (fun ls hl => ?_)
      refine lv_goto (tgt := 4) hx hb dX3_lookersAt_45 (by decide) ?_
      exact hk4 a0 l1 l2 v42 _ _ _ h hW (lv_sub hl [1, 2, 3, 0] rfl)
    · have h := ite_t c18 h
      refine lv_aload_n hx hb dX3_lookersAt_21 rfl (lv_at hl 0 rfl) ?_
      obtain ⟨b22, hg, h⟩ := ob h
      refine wz_gN C hW flX3_19 hg dX3_lookersAt_22 ?_
      refine lv_iload_n hx hb dX3_lookersAt_25 rfl (lv_at hl 3 rfl) ?_
      obtain ⟨x26, hg, h⟩ := ob h
      refine wz_ald C hW hg dX3_lookersAt_26 ?_
      refine lv_iload_n hx hb dX3_lookersAt_27 rfl (lv_at hl 1 rfl) ?_
      refine lv_icmp_ne (tgt := 42) hx hb dX3_lookersAt_28 (by decide) (fun c28 => ?_) (fun c28 => ?_)
      · have h := ite_f c28 h
        obtain ⟨v42, ev42⟩ : ∃ y : Int32, y = (l3 + (1 : Int32)) := ⟨_, rfl⟩
        have h := nm_to h ev42
        refine lv_iinc (v := v42) (lv' := [(3, .int v42), (0, .ref (gB G + a0)), (1, .int l1), (2, .int l2)]) hx hb dX3_lookersAt_42 hl (k := 3) rfl (by rw [ev42]; rfl) (by decide) rfl (fun ls hl => ?_)
        refine lv_goto (tgt := 4) hx hb dX3_lookersAt_45 (by decide) ?_
        exact hk4 a0 l1 l2 v42 _ _ _ h hW (lv_sub hl [1, 2, 3, 0] rfl)
      · have h := ite_t c28 h
        refine lv_iload_n hx hb dX3_lookersAt_31 rfl (lv_at hl 2 rfl) ?_
        refine lv_iconst (v := 1) hx hb dX3_lookersAt_32 (by decide) ?_
        refine lv_aload_n hx hb dX3_lookersAt_33 rfl (lv_at hl 0 rfl) ?_
        obtain ⟨b34, hg, h⟩ := ob h
        refine wz_gN C hW flX3_22 hg dX3_lookersAt_34 ?_
        refine lv_iload_n hx hb dX3_lookersAt_37 rfl (lv_at hl 3 rfl) ?_
        obtain ⟨x38, hg, h⟩ := ob h
        refine wz_ald C hW hg dX3_lookersAt_38 ?_
        refine wz_shl hx hb dX3_lookersAt_39 ?_
        refine lv_ior hx hb dX3_lookersAt_40 ?_
        refine lv_topi (fun v41 ev41 => ?_)
        have h := nm_to h ev41
        refine lv_istore_n (lv' := [(2, .int v41), (0, .ref (gB G + a0)), (1, .int l1), (3, .int l3)]) hx hb dX3_lookersAt_41 rfl hl (by decide) rfl (fun ls hl => ?_)
        obtain ⟨v42, ev42⟩ : ∃ y : Int32, y = (l3 + (1 : Int32)) := ⟨_, rfl⟩
        have h := nm_to h ev42
        refine lv_iinc (v := v42) (lv' := [(3, .int v42), (2, .int v41), (0, .ref (gB G + a0)), (1, .int l1)]) hx hb dX3_lookersAt_42 hl (k := 3) rfl (by rw [ev42]; rfl) (by decide) rfl (fun ls hl => ?_)
        refine lv_goto (tgt := 4) hx hb dX3_lookersAt_45 (by decide) ?_
        exact hk4 a0 l1 v41 v42 _ _ _ h hW (lv_sub hl [2, 3, 1, 0] rfl)
def fX3_lookersAt_4 (z : AH) : Nat → Nat → Int32 → Int32 → Int32 → Option (Int32)
  | 0, _, _, _, _ => none
  | n + 1, a0, l1, l2, l3 => bX3_lookersAt_4 (fX3_lookersAt_4 z n) a0 l1 l2 l3 z
theorem klX3_lookersAt_4 {p : Program} {l : Launch} {e : Env} {s : State} {m : MethodId} {args : Array Value} {below : List Frame} {meth : Method} {c : Code} {G : GW} {r : Int32} (C : Cx p m c cX3_lookersAt 4 s args RX3 G) (hlk : meth.locks = false) (hr : meth.sig.returnType = (some .int)) {z : AH} : ∀ (n : Nat) (a0 : Nat) (l1 : Int32) (l2 : Int32) (l3 : Int32) (H : Heap) (locs : List Loc) (ls : Array Slot), fX3_lookersAt_4 z n a0 l1 l2 l3 = some r → Wb G z s H locs → lv_has ls 4 [(0, .ref (gB G + a0)), (1, .int l1), (2, .int l2), (3, .int l3)] → W p l e rmX3_lookersAt s m args below meth c H locs 0 0 (MQ below (Qi G r z) args s 0 0 (AA G)) (F0 m 4 ls []) := by
  intro n
  induction n with
  | zero => intro a0 l1 l2 l3 H locs ls h; have h : (none : Option (Int32)) = some r := h; cases h
  | succ n ih => intro a0 l1 l2 l3 H locs ls h hW hl; exact kbX3_lookersAt_4 C hlk hr (fX3_lookersAt_4 z n) (fun a0 l1 l2 l3 H locs ls h hW hl => ih a0 l1 l2 l3 H locs ls h hW hl) a0 l1 l2 l3 h hW hl
def fX3_lookersAt (a0 : Nat) (l1 : Int32) (z : AH) : Option (Int32) :=
  fX3_lookersAt_4 z FU a0 l1 (0 : Int32) (0 : Int32)
set_option maxHeartbeats 4000000 in
set_option maxRecDepth 100000 in
theorem ctX3_lookersAt (l : Launch) (G : GW) (a0 : Nat) (l1 : Int32) (z : AH) {r : Int32} (h : fX3_lookersAt a0 l1 z = some r) : Met l yX3_lookersAt (wy yX3_lookersAt cX3_lookersAt 4 (some .int)) rmX3_lookersAt (Pz G [.ref (gB G + a0), .int l1] z) (Qi G r z) 0 0 (AA G) := by
  refine wz_ent (own := RX3) (by decide +kernel) rfl (fun p e s m below meth c ls C hlk hr hin hW hl => ?_) (Nat.le_of_ble_eq_true rfl)
  have hl : lv_has ls 4 [(0, .ref (gB G + a0)), (1, .int l1)] := hl
  have hx := C.1
  have hb := C.2.1
  unfold fX3_lookersAt at h
  refine lv_iconst (v := 0) hx hb dX3_lookersAt_0 (by decide) ?_
  refine lv_istore_n (lv' := [(2, .int (0 : Int32)), (0, .ref (gB G + a0)), (1, .int l1)]) hx hb dX3_lookersAt_1 rfl hl (by decide) rfl (fun ls hl => ?_)
  refine lv_iconst (v := 0) hx hb dX3_lookersAt_2 (by decide) ?_
  refine lv_istore_n (lv' := [(3, .int (0 : Int32)), (2, .int (0 : Int32)), (0, .ref (gB G + a0)), (1, .int l1)]) hx hb dX3_lookersAt_3 rfl hl (by decide) rfl (fun ls hl => ?_)
  exact klX3_lookersAt_4 C hlk hr FU a0 l1 (0 : Int32) (0 : Int32) _ _ _ h hW (lv_sub hl [2, 3, 1, 0] rfl)
theorem dX3_shimmering_0 : decode cX3_shimmering 0 = .ok (.iconst 0, 1) := by decide +kernel
theorem dX3_shimmering_1 : decode cX3_shimmering 1 = .ok (.istore_n 1, 1) := by decide +kernel
theorem dX3_shimmering_2 : decode cX3_shimmering 2 = .ok (.iconst 0, 1) := by decide +kernel
theorem dX3_shimmering_3 : decode cX3_shimmering 3 = .ok (.istore_n 2, 1) := by decide +kernel
theorem dX3_shimmering_4 : decode cX3_shimmering 4 = .ok (.iload_n 2, 1) := by decide +kernel
theorem dX3_shimmering_5 : decode cX3_shimmering 5 = .ok (.bipush 16, 2) := by decide +kernel
theorem dX3_shimmering_7 : decode cX3_shimmering 7 = .ok (.if_icmp .ge 21, 3) := by decide +kernel
theorem dX3_shimmering_10 : decode cX3_shimmering 10 = .ok (.iload_n 2, 1) := by decide +kernel
theorem dX3_shimmering_11 : decode cX3_shimmering 11 = .ok (.iload_n 0, 1) := by decide +kernel
theorem dX3_shimmering_12 : decode cX3_shimmering 12 = .ok (.iand, 1) := by decide +kernel
theorem dX3_shimmering_13 : decode cX3_shimmering 13 = .ok (.ifCond .eq 9, 3) := by decide +kernel
theorem dX3_shimmering_16 : decode cX3_shimmering 16 = .ok (.iload_n 1, 1) := by decide +kernel
theorem dX3_shimmering_17 : decode cX3_shimmering 17 = .ok (.iconst 1, 1) := by decide +kernel
theorem dX3_shimmering_18 : decode cX3_shimmering 18 = .ok (.iload_n 2, 1) := by decide +kernel
theorem dX3_shimmering_19 : decode cX3_shimmering 19 = .ok (.ishl, 1) := by decide +kernel
theorem dX3_shimmering_20 : decode cX3_shimmering 20 = .ok (.ior, 1) := by decide +kernel
theorem dX3_shimmering_21 : decode cX3_shimmering 21 = .ok (.istore_n 1, 1) := by decide +kernel
theorem dX3_shimmering_22 : decode cX3_shimmering 22 = .ok (.iinc 2 1, 3) := by decide +kernel
theorem dX3_shimmering_25 : decode cX3_shimmering 25 = .ok (.goto (-21), 3) := by decide +kernel
theorem dX3_shimmering_28 : decode cX3_shimmering 28 = .ok (.iload_n 1, 1) := by decide +kernel
theorem dX3_shimmering_29 : decode cX3_shimmering 29 = .ok (.ireturn, 1) := by decide +kernel
abbrev rmX3_shimmering : Room := { frames := 0, cells := 0, slots := 0, locals := 0 }
def bX3_shimmering_4 (k4 : Int32 → Int32 → Int32 → Option (Int32)) (l0 : Int32) (l1 : Int32) (l2 : Int32) : Option (Int32) :=
  if (16 : Int32) ≤ l2 then (
    some l1
  ) else (
    if (l2 &&& l0) = (0 : Int32) then (
      nm (l2 + (1 : Int32)) fun v22 =>
      k4 l0 l1 v22
    ) else (
      nm (l1 ||| (shl (1 : Int32) l2)) fun v21 =>
      nm (l2 + (1 : Int32)) fun v22 =>
      k4 l0 v21 v22
    )
  )
set_option maxHeartbeats 4000000 in
set_option maxRecDepth 100000 in
theorem kbX3_shimmering_4 {p : Program} {l : Launch} {e : Env} {s : State} {m : MethodId} {args : Array Value} {below : List Frame} {meth : Method} {c : Code} {G : GW} {r : Int32} (C : Cx p m c cX3_shimmering 3 s args RX3 G) (hlk : meth.locks = false) (hr : meth.sig.returnType = (some .int)) {z : AH} (k4 : Int32 → Int32 → Int32 → Option (Int32)) (hk4 : ∀ (l0 : Int32) (l1 : Int32) (l2 : Int32) (H : Heap) (locs : List Loc) (ls : Array Slot), k4 l0 l1 l2 = some r → Wb G z s H locs → lv_has ls 3 [(0, .int l0), (1, .int l1), (2, .int l2)] → W p l e rmX3_shimmering s m args below meth c H locs 0 0 (MQ below (Qi G r z) args s 0 0 (AA G)) (F0 m 4 ls [])) (l0 : Int32) (l1 : Int32) (l2 : Int32) {H : Heap} {locs : List Loc} {ls : Array Slot} (h : bX3_shimmering_4 k4 l0 l1 l2 = some r) (hW : Wb G z s H locs) (hl : lv_has ls 3 [(0, .int l0), (1, .int l1), (2, .int l2)]) : W p l e rmX3_shimmering s m args below meth c H locs 0 0 (MQ below (Qi G r z) args s 0 0 (AA G)) (F0 m 4 ls []) := by
  have hx := C.1
  have hb := C.2.1
  unfold bX3_shimmering_4 at h
  refine lv_iload_n hx hb dX3_shimmering_4 rfl (lv_at hl 2 rfl) ?_
  refine lv_bipush (v := 16) hx hb dX3_shimmering_5 (by decide) ?_
  refine lv_icmp_ge (tgt := 28) hx hb dX3_shimmering_7 (by decide) (fun c7 => ?_) (fun c7 => ?_)
  · have h := ite_t c7 h
    refine lv_iload_n hx hb dX3_shimmering_28 rfl (lv_at hl 1 rfl) ?_
    exact wz_iretE C hlk hr (Option.some.inj h) rfl hW dX3_shimmering_29
  · have h := ite_f c7 h
    refine lv_iload_n hx hb dX3_shimmering_10 rfl (lv_at hl 2 rfl) ?_
    refine lv_iload_n hx hb dX3_shimmering_11 rfl (lv_at hl 0 rfl) ?_
    refine lv_iand hx hb dX3_shimmering_12 ?_
    refine lv_if_eq (tgt := 22) hx hb dX3_shimmering_13 (by decide) (fun c13 => ?_) (fun c13 => ?_)
    · have h := ite_t c13 h
      obtain ⟨v22, ev22⟩ : ∃ y : Int32, y = (l2 + (1 : Int32)) := ⟨_, rfl⟩
      have h := nm_to h ev22
      refine lv_iinc (v := v22) (lv' := [(2, .int v22), (0, .int l0), (1, .int l1)]) hx hb dX3_shimmering_22 hl (k := 2) rfl (by rw [ev22]; rfl) (by decide) rfl (fun ls hl => ?_)
      refine lv_goto (tgt := 4) hx hb dX3_shimmering_25 (by decide) ?_
      exact hk4 l0 l1 v22 _ _ _ h hW (lv_sub hl [1, 2, 0] rfl)
    · have h := ite_f c13 h
      refine lv_iload_n hx hb dX3_shimmering_16 rfl (lv_at hl 1 rfl) ?_
      refine lv_iconst (v := 1) hx hb dX3_shimmering_17 (by decide) ?_
      refine lv_iload_n hx hb dX3_shimmering_18 rfl (lv_at hl 2 rfl) ?_
      refine wz_shl hx hb dX3_shimmering_19 ?_
      refine lv_ior hx hb dX3_shimmering_20 ?_
      refine lv_topi (fun v21 ev21 => ?_)
      have h := nm_to h ev21
      refine lv_istore_n (lv' := [(1, .int v21), (0, .int l0), (2, .int l2)]) hx hb dX3_shimmering_21 rfl hl (by decide) rfl (fun ls hl => ?_)
      obtain ⟨v22, ev22⟩ : ∃ y : Int32, y = (l2 + (1 : Int32)) := ⟨_, rfl⟩
      have h := nm_to h ev22
      refine lv_iinc (v := v22) (lv' := [(2, .int v22), (1, .int v21), (0, .int l0)]) hx hb dX3_shimmering_22 hl (k := 2) rfl (by rw [ev22]; rfl) (by decide) rfl (fun ls hl => ?_)
      refine lv_goto (tgt := 4) hx hb dX3_shimmering_25 (by decide) ?_
      exact hk4 l0 v21 v22 _ _ _ h hW (lv_sub hl [2, 1, 0] rfl)
def fX3_shimmering_4 : Nat → Int32 → Int32 → Int32 → Option (Int32)
  | 0, _, _, _ => none
  | n + 1, l0, l1, l2 => bX3_shimmering_4 (fX3_shimmering_4 n) l0 l1 l2
theorem klX3_shimmering_4 {p : Program} {l : Launch} {e : Env} {s : State} {m : MethodId} {args : Array Value} {below : List Frame} {meth : Method} {c : Code} {G : GW} {r : Int32} (C : Cx p m c cX3_shimmering 3 s args RX3 G) (hlk : meth.locks = false) (hr : meth.sig.returnType = (some .int)) {z : AH} : ∀ (n : Nat) (l0 : Int32) (l1 : Int32) (l2 : Int32) (H : Heap) (locs : List Loc) (ls : Array Slot), fX3_shimmering_4 n l0 l1 l2 = some r → Wb G z s H locs → lv_has ls 3 [(0, .int l0), (1, .int l1), (2, .int l2)] → W p l e rmX3_shimmering s m args below meth c H locs 0 0 (MQ below (Qi G r z) args s 0 0 (AA G)) (F0 m 4 ls []) := by
  intro n
  induction n with
  | zero => intro l0 l1 l2 H locs ls h; have h : (none : Option (Int32)) = some r := h; cases h
  | succ n ih => intro l0 l1 l2 H locs ls h hW hl; exact kbX3_shimmering_4 C hlk hr (fX3_shimmering_4 n) (fun l0 l1 l2 H locs ls h hW hl => ih l0 l1 l2 H locs ls h hW hl) l0 l1 l2 h hW hl
def fX3_shimmering (l0 : Int32) : Option (Int32) :=
  fX3_shimmering_4 FU l0 (0 : Int32) (0 : Int32)
set_option maxHeartbeats 4000000 in
set_option maxRecDepth 100000 in
theorem ctX3_shimmering (l : Launch) (G : GW) (l0 : Int32) (z : AH) {r : Int32} (h : fX3_shimmering l0 = some r) : Met l yX3_shimmering (wy yX3_shimmering cX3_shimmering 3 (some .int)) rmX3_shimmering (Pz G [.int l0] z) (Qi G r z) 0 0 (AA G) := by
  refine wz_ent (own := RX3) (by decide +kernel) rfl (fun p e s m below meth c ls C hlk hr hin hW hl => ?_) (Nat.le_of_ble_eq_true rfl)
  have hl : lv_has ls 3 [(0, .int l0)] := hl
  have hx := C.1
  have hb := C.2.1
  unfold fX3_shimmering at h
  refine lv_iconst (v := 0) hx hb dX3_shimmering_0 (by decide) ?_
  refine lv_istore_n (lv' := [(1, .int (0 : Int32)), (0, .int l0)]) hx hb dX3_shimmering_1 rfl hl (by decide) rfl (fun ls hl => ?_)
  refine lv_iconst (v := 0) hx hb dX3_shimmering_2 (by decide) ?_
  refine lv_istore_n (lv' := [(2, .int (0 : Int32)), (1, .int (0 : Int32)), (0, .int l0)]) hx hb dX3_shimmering_3 rfl hl (by decide) rfl (fun ls hl => ?_)
  exact klX3_shimmering_4 C hlk hr FU l0 (0 : Int32) (0 : Int32) _ _ _ h hW (lv_sub hl [2, 1, 0] rfl)
theorem lTX3_28 : LT RX3 28 yX3_lookersAt cX3_lookersAt 4 (some .int) 2 := ⟨tw 1069 (by decide +kernel) rfl, tw 1070 (by decide +kernel) rfl, tw 137 (by decide +kernel) rfl, tw 1071 (by decide +kernel) rfl, ⟨by decide +kernel, by decide +kernel, by decide +kernel⟩⟩
theorem lTX3_32 : LT RX3 32 yX3_shimmering cX3_shimmering 3 (some .int) 1 := ⟨tw 1072 (by decide +kernel) rfl, tw 1073 (by decide +kernel) rfl, tw 137 (by decide +kernel) rfl, tw 1074 (by decide +kernel) rfl, ⟨by decide +kernel, by decide +kernel, by decide +kernel⟩⟩
theorem dX3_fitting_0 : decode cX3_fitting 0 = .ok (.ldc 27, 2) := by decide +kernel
theorem dX3_fitting_2 : decode cX3_fitting 2 = .ok (.istore_n 1, 1) := by decide +kernel
theorem dX3_fitting_3 : decode cX3_fitting 3 = .ok (.iconst 0, 1) := by decide +kernel
theorem dX3_fitting_4 : decode cX3_fitting 4 = .ok (.istore_n 2, 1) := by decide +kernel
theorem dX3_fitting_5 : decode cX3_fitting 5 = .ok (.iload_n 2, 1) := by decide +kernel
theorem dX3_fitting_6 : decode cX3_fitting 6 = .ok (.aload_n 0, 1) := by decide +kernel
theorem dX3_fitting_7 : decode cX3_fitting 7 = .ok (.getfield 9, 3) := by decide +kernel
theorem dX3_fitting_10 : decode cX3_fitting 10 = .ok (.if_icmp .ge 52, 3) := by decide +kernel
theorem dX3_fitting_13 : decode cX3_fitting 13 = .ok (.aload_n 0, 1) := by decide +kernel
theorem dX3_fitting_14 : decode cX3_fitting 14 = .ok (.getfield 15, 3) := by decide +kernel
theorem dX3_fitting_17 : decode cX3_fitting 17 = .ok (.iload_n 2, 1) := by decide +kernel
theorem dX3_fitting_18 : decode cX3_fitting 18 = .ok (.iaload, 1) := by decide +kernel
theorem dX3_fitting_19 : decode cX3_fitting 19 = .ok (.ifCond .eq 37, 3) := by decide +kernel
theorem dX3_fitting_22 : decode cX3_fitting 22 = .ok (.aload_n 0, 1) := by decide +kernel
theorem dX3_fitting_23 : decode cX3_fitting 23 = .ok (.aload_n 0, 1) := by decide +kernel
theorem dX3_fitting_24 : decode cX3_fitting 24 = .ok (.getfield 22, 3) := by decide +kernel
theorem dX3_fitting_27 : decode cX3_fitting 27 = .ok (.iload_n 2, 1) := by decide +kernel
theorem dX3_fitting_28 : decode cX3_fitting 28 = .ok (.iaload, 1) := by decide +kernel
theorem dX3_fitting_29 : decode cX3_fitting 29 = .ok (.invokestatic 28, 3) := by decide +kernel
theorem dX3_fitting_32 : decode cX3_fitting 32 = .ok (.invokestatic 32, 3) := by decide +kernel
theorem dX3_fitting_35 : decode cX3_fitting 35 = .ok (.istore_n 3, 1) := by decide +kernel
theorem dX3_fitting_36 : decode cX3_fitting 36 = .ok (.iload_n 1, 1) := by decide +kernel
theorem dX3_fitting_37 : decode cX3_fitting 37 = .ok (.aload_n 0, 1) := by decide +kernel
theorem dX3_fitting_38 : decode cX3_fitting 38 = .ok (.getfield 15, 3) := by decide +kernel
theorem dX3_fitting_41 : decode cX3_fitting 41 = .ok (.iload_n 2, 1) := by decide +kernel
theorem dX3_fitting_42 : decode cX3_fitting 42 = .ok (.iaload, 1) := by decide +kernel
theorem dX3_fitting_43 : decode cX3_fitting 43 = .ok (.iconst 1, 1) := by decide +kernel
theorem dX3_fitting_44 : decode cX3_fitting 44 = .ok (.if_icmp .ne 7, 3) := by decide +kernel
theorem dX3_fitting_47 : decode cX3_fitting 47 = .ok (.iload_n 3, 1) := by decide +kernel
theorem dX3_fitting_48 : decode cX3_fitting 48 = .ok (.goto 6, 3) := by decide +kernel
theorem dX3_fitting_51 : decode cX3_fitting 51 = .ok (.iload_n 3, 1) := by decide +kernel
theorem dX3_fitting_52 : decode cX3_fitting 52 = .ok (.iconst (-1), 1) := by decide +kernel
theorem dX3_fitting_53 : decode cX3_fitting 53 = .ok (.ixor, 1) := by decide +kernel
theorem dX3_fitting_54 : decode cX3_fitting 54 = .ok (.iand, 1) := by decide +kernel
theorem dX3_fitting_55 : decode cX3_fitting 55 = .ok (.istore_n 1, 1) := by decide +kernel
theorem dX3_fitting_56 : decode cX3_fitting 56 = .ok (.iinc 2 1, 3) := by decide +kernel
theorem dX3_fitting_59 : decode cX3_fitting 59 = .ok (.goto (-54), 3) := by decide +kernel
theorem dX3_fitting_62 : decode cX3_fitting 62 = .ok (.iload_n 1, 1) := by decide +kernel
theorem dX3_fitting_63 : decode cX3_fitting 63 = .ok (.ireturn, 1) := by decide +kernel
abbrev rmX3_fitting : Room := { frames := 1, cells := 0, slots := 0, locals := 23 }
def bX3_fitting_5 (k5 : Nat → Int32 → Int32 → Option (Int32)) (a0 : Nat) (l1 : Int32) (l2 : Int32) (z : AH) : Option (Int32) :=
  (gI 4 3 z a0).bind fun x7 =>
  if x7 ≤ l2 then (
    some l1
  ) else (
    (gN 4 0 z a0).bind fun b14 =>
    (ixI 0 z b14 l2).bind fun x18 =>
    if x18 = (0 : Int32) then (
      nm (l2 + (1 : Int32)) fun v56 =>
      k5 a0 l1 v56
    ) else (
      (gN 4 1 z a0).bind fun b24 =>
      (ixI 0 z b24 l2).bind fun x28 =>
      (fX3_lookersAt a0 x28 z).bind fun x29 =>
      (fX3_shimmering x29).bind fun x32 =>
      (gN 4 0 z a0).bind fun b38 =>
      (ixI 0 z b38 l2).bind fun x42 =>
      if x42 = (1 : Int32) then (
        nm (l1 &&& x32) fun v55 =>
        nm (l2 + (1 : Int32)) fun v56 =>
        k5 a0 v55 v56
      ) else (
        nm (l1 &&& (x32 ^^^ (-1 : Int32))) fun v55 =>
        nm (l2 + (1 : Int32)) fun v56 =>
        k5 a0 v55 v56
      )
    )
  )
set_option maxHeartbeats 4000000 in
set_option maxRecDepth 100000 in
theorem kbX3_fitting_5 {p : Program} {l : Launch} {e : Env} {s : State} {m : MethodId} {args : Array Value} {below : List Frame} {meth : Method} {c : Code} {G : GW} {r : Int32} (C : Cx p m c cX3_fitting 4 s args RX3 G) (hlk : meth.locks = false) (hr : meth.sig.returnType = (some .int)) {z : AH} (k5 : Nat → Int32 → Int32 → Option (Int32)) (hk5 : ∀ (a0 : Nat) (l1 : Int32) (l2 : Int32) (H : Heap) (locs : List Loc) (ls : Array Slot), k5 a0 l1 l2 = some r → Wb G z s H locs → lv_has ls 4 [(0, .ref (gB G + a0)), (1, .int l1), (2, .int l2)] → W p l e rmX3_fitting s m args below meth c H locs 0 0 (MQ below (Qi G r z) args s 0 0 (AA G)) (F0 m 5 ls [])) (a0 : Nat) (l1 : Int32) (l2 : Int32) {H : Heap} {locs : List Loc} {ls : Array Slot} (h : bX3_fitting_5 k5 a0 l1 l2 z = some r) (hW : Wb G z s H locs) (hl : lv_has ls 4 [(0, .ref (gB G + a0)), (1, .int l1), (2, .int l2)]) : W p l e rmX3_fitting s m args below meth c H locs 0 0 (MQ below (Qi G r z) args s 0 0 (AA G)) (F0 m 5 ls []) := by
  have hx := C.1
  have hb := C.2.1
  unfold bX3_fitting_5 at h
  refine lv_iload_n hx hb dX3_fitting_5 rfl (lv_at hl 2 rfl) ?_
  refine lv_aload_n hx hb dX3_fitting_6 rfl (lv_at hl 0 rfl) ?_
  obtain ⟨x7, hg, h⟩ := ob h
  refine wz_gI C hW flX3_9 hg dX3_fitting_7 ?_
  refine lv_icmp_ge (tgt := 62) hx hb dX3_fitting_10 (by decide) (fun c10 => ?_) (fun c10 => ?_)
  · have h := ite_t c10 h
    refine lv_iload_n hx hb dX3_fitting_62 rfl (lv_at hl 1 rfl) ?_
    exact wz_iretE C hlk hr (Option.some.inj h) rfl hW dX3_fitting_63
  · have h := ite_f c10 h
    refine lv_aload_n hx hb dX3_fitting_13 rfl (lv_at hl 0 rfl) ?_
    obtain ⟨b14, hg, h⟩ := ob h
    refine wz_gN C hW flX3_15 hg dX3_fitting_14 ?_
    refine lv_iload_n hx hb dX3_fitting_17 rfl (lv_at hl 2 rfl) ?_
    obtain ⟨x18, hg, h⟩ := ob h
    refine wz_ald C hW hg dX3_fitting_18 ?_
    refine lv_if_eq (tgt := 56) hx hb dX3_fitting_19 (by decide) (fun c19 => ?_) (fun c19 => ?_)
    · have h := ite_t c19 h
      obtain ⟨v56, ev56⟩ : ∃ y : Int32, y = (l2 + (1 : Int32)) := ⟨_, rfl⟩
      have h := nm_to h ev56
      refine lv_iinc (v := v56) (lv' := [(2, .int v56), (0, .ref (gB G + a0)), (1, .int l1)]) hx hb dX3_fitting_56 hl (k := 2) rfl (by rw [ev56]; rfl) (by decide) rfl (fun ls hl => ?_)
      refine lv_goto (tgt := 5) hx hb dX3_fitting_59 (by decide) ?_
      exact hk5 a0 l1 v56 _ _ _ h hW (lv_sub hl [1, 2, 0] rfl)
    · have h := ite_f c19 h
      refine lv_aload_n hx hb dX3_fitting_22 rfl (lv_at hl 0 rfl) ?_
      refine lv_aload_n hx hb dX3_fitting_23 rfl (lv_at hl 0 rfl) ?_
      obtain ⟨b24, hg, h⟩ := ob h
      refine wz_gN C hW flX3_22 hg dX3_fitting_24 ?_
      refine lv_iload_n hx hb dX3_fitting_27 rfl (lv_at hl 2 rfl) ?_
      obtain ⟨x28, hg, h⟩ := ob h
      refine wz_ald C hW hg dX3_fitting_28 ?_
      obtain ⟨x29, hq, h⟩ := ob h
      refine wz_rI (c' := 0) (s' := 0) hW (wz_runS (rest := []) C hW lTX3_28 (ctX3_lookersAt l G a0 x28 z hq) ⟨⟨rfl, rfl⟩, Nat.le_of_ble_eq_true rfl, Nat.le_of_ble_eq_true rfl⟩ rfl hl.1 rfl (Nat.le_of_ble_eq_true rfl) dX3_fitting_29 ⟨Nat.le_of_ble_eq_true rfl, Nat.le_of_ble_eq_true rfl⟩) rfl rfl (fun H locs hW => ?_)
      obtain ⟨x32, hq, h⟩ := ob h
      refine wz_rI (c' := 0) (s' := 0) hW (wz_runS (rest := []) C hW lTX3_32 (ctX3_shimmering l G x29 z hq) ⟨⟨rfl, rfl⟩, Nat.le_of_ble_eq_true rfl, Nat.le_of_ble_eq_true rfl⟩ rfl hl.1 rfl (Nat.le_of_ble_eq_true rfl) dX3_fitting_32 ⟨Nat.le_of_ble_eq_true rfl, Nat.le_of_ble_eq_true rfl⟩) rfl rfl (fun H locs hW => ?_)
      refine lv_istore_n (lv' := [(3, .int x32), (0, .ref (gB G + a0)), (1, .int l1), (2, .int l2)]) hx hb dX3_fitting_35 rfl hl (by decide) rfl (fun ls hl => ?_)
      refine lv_iload_n hx hb dX3_fitting_36 rfl (lv_at hl 2 rfl) ?_
      refine lv_aload_n hx hb dX3_fitting_37 rfl (lv_at hl 1 rfl) ?_
      obtain ⟨b38, hg, h⟩ := ob h
      refine wz_gN C hW flX3_15 hg dX3_fitting_38 ?_
      refine lv_iload_n hx hb dX3_fitting_41 rfl (lv_at hl 3 rfl) ?_
      obtain ⟨x42, hg, h⟩ := ob h
      refine wz_ald C hW hg dX3_fitting_42 ?_
      refine lv_iconst (v := 1) hx hb dX3_fitting_43 (by decide) ?_
      refine lv_icmp_ne (tgt := 51) hx hb dX3_fitting_44 (by decide) (fun c44 => ?_) (fun c44 => ?_)
      · have h := ite_f c44 h
        refine lv_iload_n hx hb dX3_fitting_51 rfl (lv_at hl 0 rfl) ?_
        refine lv_iconst (v := -1) hx hb dX3_fitting_52 (by decide) ?_
        refine lv_ixor hx hb dX3_fitting_53 ?_
        refine lv_iand hx hb dX3_fitting_54 ?_
        refine lv_topi (fun v55 ev55 => ?_)
        have h := nm_to h ev55
        refine lv_istore_n (lv' := [(1, .int v55), (3, .int x32), (0, .ref (gB G + a0)), (2, .int l2)]) hx hb dX3_fitting_55 rfl hl (by decide) rfl (fun ls hl => ?_)
        obtain ⟨v56, ev56⟩ : ∃ y : Int32, y = (l2 + (1 : Int32)) := ⟨_, rfl⟩
        have h := nm_to h ev56
        refine lv_iinc (v := v56) (lv' := [(2, .int v56), (1, .int v55), (3, .int x32), (0, .ref (gB G + a0))]) hx hb dX3_fitting_56 hl (k := 3) rfl (by rw [ev56]; rfl) (by decide) rfl (fun ls hl => ?_)
        refine lv_goto (tgt := 5) hx hb dX3_fitting_59 (by decide) ?_
        exact hk5 a0 v55 v56 _ _ _ h hW (lv_sub hl [3, 1, 0] rfl)
      · have h := ite_t c44 h
        refine lv_iload_n hx hb dX3_fitting_47 rfl (lv_at hl 0 rfl) ?_
        refine lv_goto (tgt := 54) hx hb dX3_fitting_48 (by decide) ?_
        refine lv_iand hx hb dX3_fitting_54 ?_
        refine lv_topi (fun v55 ev55 => ?_)
        have h := nm_to h ev55
        refine lv_istore_n (lv' := [(1, .int v55), (3, .int x32), (0, .ref (gB G + a0)), (2, .int l2)]) hx hb dX3_fitting_55 rfl hl (by decide) rfl (fun ls hl => ?_)
        obtain ⟨v56, ev56⟩ : ∃ y : Int32, y = (l2 + (1 : Int32)) := ⟨_, rfl⟩
        have h := nm_to h ev56
        refine lv_iinc (v := v56) (lv' := [(2, .int v56), (1, .int v55), (3, .int x32), (0, .ref (gB G + a0))]) hx hb dX3_fitting_56 hl (k := 3) rfl (by rw [ev56]; rfl) (by decide) rfl (fun ls hl => ?_)
        refine lv_goto (tgt := 5) hx hb dX3_fitting_59 (by decide) ?_
        exact hk5 a0 v55 v56 _ _ _ h hW (lv_sub hl [3, 1, 0] rfl)
def fX3_fitting_5 (z : AH) : Nat → Nat → Int32 → Int32 → Option (Int32)
  | 0, _, _, _ => none
  | n + 1, a0, l1, l2 => bX3_fitting_5 (fX3_fitting_5 z n) a0 l1 l2 z
theorem klX3_fitting_5 {p : Program} {l : Launch} {e : Env} {s : State} {m : MethodId} {args : Array Value} {below : List Frame} {meth : Method} {c : Code} {G : GW} {r : Int32} (C : Cx p m c cX3_fitting 4 s args RX3 G) (hlk : meth.locks = false) (hr : meth.sig.returnType = (some .int)) {z : AH} : ∀ (n : Nat) (a0 : Nat) (l1 : Int32) (l2 : Int32) (H : Heap) (locs : List Loc) (ls : Array Slot), fX3_fitting_5 z n a0 l1 l2 = some r → Wb G z s H locs → lv_has ls 4 [(0, .ref (gB G + a0)), (1, .int l1), (2, .int l2)] → W p l e rmX3_fitting s m args below meth c H locs 0 0 (MQ below (Qi G r z) args s 0 0 (AA G)) (F0 m 5 ls []) := by
  intro n
  induction n with
  | zero => intro a0 l1 l2 H locs ls h; have h : (none : Option (Int32)) = some r := h; cases h
  | succ n ih => intro a0 l1 l2 H locs ls h hW hl; exact kbX3_fitting_5 C hlk hr (fX3_fitting_5 z n) (fun a0 l1 l2 H locs ls h hW hl => ih a0 l1 l2 H locs ls h hW hl) a0 l1 l2 h hW hl
def fX3_fitting (a0 : Nat) (z : AH) : Option (Int32) :=
  fX3_fitting_5 z FU a0 (65535 : Int32) (0 : Int32)
set_option maxHeartbeats 4000000 in
set_option maxRecDepth 100000 in
theorem ctX3_fitting (l : Launch) (G : GW) (a0 : Nat) (z : AH) {r : Int32} (h : fX3_fitting a0 z = some r) : Met l yX3_fitting (wy yX3_fitting cX3_fitting 4 (some .int)) rmX3_fitting (Pz G [.ref (gB G + a0)] z) (Qi G r z) 0 0 (AA G) := by
  refine wz_ent (own := RX3) (by decide +kernel) rfl (fun p e s m below meth c ls C hlk hr hin hW hl => ?_) (Nat.le_of_ble_eq_true rfl)
  have hl : lv_has ls 4 [(0, .ref (gB G + a0))] := hl
  have hx := C.1
  have hb := C.2.1
  unfold fX3_fitting at h
  refine lv_ldc (v := 65535) hx hb C.2.2.2.1 (C.2.2.2.2.1 _ (tw 1068 (by decide +kernel) rfl)) dX3_fitting_0 ?_
  refine lv_istore_n (lv' := [(1, .int (65535 : Int32)), (0, .ref (gB G + a0))]) hx hb dX3_fitting_2 rfl hl (by decide) rfl (fun ls hl => ?_)
  refine lv_iconst (v := 0) hx hb dX3_fitting_3 (by decide) ?_
  refine lv_istore_n (lv' := [(2, .int (0 : Int32)), (1, .int (65535 : Int32)), (0, .ref (gB G + a0))]) hx hb dX3_fitting_4 rfl hl (by decide) rfl (fun ls hl => ?_)
  exact klX3_fitting_5 C hlk hr FU a0 (65535 : Int32) (0 : Int32) _ _ _ h hW (lv_sub hl [2, 1, 0] rfl)
theorem lNX3_36 : LN RX3 36 yX9_hasBit cX9_hasBit 2 (some .boolean) 2 := ⟨by decide +kernel, tw 853 (by decide +kernel) rfl, tw 120 (by decide +kernel) rfl, tw 854 (by decide +kernel) rfl, ⟨by decide +kernel, by decide +kernel, by decide +kernel⟩⟩
theorem dX3_inAll_0 : decode cX3_inAll 0 = .ok (.iload_n 0, 1) := by decide +kernel
theorem dX3_inAll_1 : decode cX3_inAll 1 = .ok (.ifCond .ne 7, 3) := by decide +kernel
theorem dX3_inAll_4 : decode cX3_inAll 4 = .ok (.iconst (-1), 1) := by decide +kernel
theorem dX3_inAll_5 : decode cX3_inAll 5 = .ok (.goto 5, 3) := by decide +kernel
theorem dX3_inAll_8 : decode cX3_inAll 8 = .ok (.bipush 15, 2) := by decide +kernel
theorem dX3_inAll_10 : decode cX3_inAll 10 = .ok (.istore_n 1, 1) := by decide +kernel
theorem dX3_inAll_11 : decode cX3_inAll 11 = .ok (.iconst 0, 1) := by decide +kernel
theorem dX3_inAll_12 : decode cX3_inAll 12 = .ok (.istore_n 2, 1) := by decide +kernel
theorem dX3_inAll_13 : decode cX3_inAll 13 = .ok (.iload_n 2, 1) := by decide +kernel
theorem dX3_inAll_14 : decode cX3_inAll 14 = .ok (.bipush 16, 2) := by decide +kernel
theorem dX3_inAll_16 : decode cX3_inAll 16 = .ok (.if_icmp .ge 21, 3) := by decide +kernel
theorem dX3_inAll_19 : decode cX3_inAll 19 = .ok (.iload_n 0, 1) := by decide +kernel
theorem dX3_inAll_20 : decode cX3_inAll 20 = .ok (.iload_n 2, 1) := by decide +kernel
theorem dX3_inAll_21 : decode cX3_inAll 21 = .ok (.invokestatic 36, 3) := by decide +kernel
theorem dX3_inAll_24 : decode cX3_inAll 24 = .ok (.ifCond .eq 7, 3) := by decide +kernel
theorem dX3_inAll_27 : decode cX3_inAll 27 = .ok (.iload_n 1, 1) := by decide +kernel
theorem dX3_inAll_28 : decode cX3_inAll 28 = .ok (.iload_n 2, 1) := by decide +kernel
theorem dX3_inAll_29 : decode cX3_inAll 29 = .ok (.iand, 1) := by decide +kernel
theorem dX3_inAll_30 : decode cX3_inAll 30 = .ok (.istore_n 1, 1) := by decide +kernel
theorem dX3_inAll_31 : decode cX3_inAll 31 = .ok (.iinc 2 1, 3) := by decide +kernel
theorem dX3_inAll_34 : decode cX3_inAll 34 = .ok (.goto (-21), 3) := by decide +kernel
theorem dX3_inAll_37 : decode cX3_inAll 37 = .ok (.iload_n 1, 1) := by decide +kernel
theorem dX3_inAll_38 : decode cX3_inAll 38 = .ok (.ireturn, 1) := by decide +kernel
abbrev rmX3_inAll : Room := { frames := 1, cells := 0, slots := 0, locals := 21 }
def bX3_inAll_13 (k13 : Int32 → Int32 → Int32 → Option (Int32)) (l0 : Int32) (l1 : Int32) (l2 : Int32) : Option (Int32) :=
  if (16 : Int32) ≤ l2 then (
    some l1
  ) else (
    if (fX9_hasBit l0 l2) = (0 : Int32) then (
      nm (l2 + (1 : Int32)) fun v31 =>
      k13 l0 l1 v31
    ) else (
      nm (l1 &&& l2) fun v30 =>
      nm (l2 + (1 : Int32)) fun v31 =>
      k13 l0 v30 v31
    )
  )
set_option maxHeartbeats 4000000 in
set_option maxRecDepth 100000 in
theorem kbX3_inAll_13 {p : Program} {l : Launch} {e : Env} {s : State} {m : MethodId} {args : Array Value} {below : List Frame} {meth : Method} {c : Code} {G : GW} {r : Int32} (C : Cx p m c cX3_inAll 3 s args RX3 G) (hlk : meth.locks = false) (hr : meth.sig.returnType = (some .int)) {z : AH} (k13 : Int32 → Int32 → Int32 → Option (Int32)) (hk13 : ∀ (l0 : Int32) (l1 : Int32) (l2 : Int32) (H : Heap) (locs : List Loc) (ls : Array Slot), k13 l0 l1 l2 = some r → Wb G z s H locs → lv_has ls 3 [(0, .int l0), (1, .int l1), (2, .int l2)] → W p l e rmX3_inAll s m args below meth c H locs 0 0 (MQ below (Qi G r z) args s 0 0 (AA G)) (F0 m 13 ls [])) (l0 : Int32) (l1 : Int32) (l2 : Int32) {H : Heap} {locs : List Loc} {ls : Array Slot} (h : bX3_inAll_13 k13 l0 l1 l2 = some r) (hW : Wb G z s H locs) (hl : lv_has ls 3 [(0, .int l0), (1, .int l1), (2, .int l2)]) : W p l e rmX3_inAll s m args below meth c H locs 0 0 (MQ below (Qi G r z) args s 0 0 (AA G)) (F0 m 13 ls []) := by
  have hx := C.1
  have hb := C.2.1
  unfold bX3_inAll_13 at h
  refine lv_iload_n hx hb dX3_inAll_13 rfl (lv_at hl 2 rfl) ?_
  refine lv_bipush (v := 16) hx hb dX3_inAll_14 (by decide) ?_
  refine lv_icmp_ge (tgt := 37) hx hb dX3_inAll_16 (by decide) (fun c16 => ?_) (fun c16 => ?_)
  · have h := ite_t c16 h
    refine lv_iload_n hx hb dX3_inAll_37 rfl (lv_at hl 1 rfl) ?_
    exact wz_iretE C hlk hr (Option.some.inj h) rfl hW dX3_inAll_38
  · have h := ite_f c16 h
    refine lv_iload_n hx hb dX3_inAll_19 rfl (lv_at hl 0 rfl) ?_
    refine lv_iload_n hx hb dX3_inAll_20 rfl (lv_at hl 2 rfl) ?_
    refine wz_rI (c' := 0) (s' := 0) hW (wz_runN (rest := []) C hW lNX3_36 (ctX9_hasBit l G l0 l2 z rfl) ⟨⟨rfl, rfl⟩, Nat.le_of_ble_eq_true rfl, Nat.le_of_ble_eq_true rfl⟩ rfl hl.1 rfl (Nat.le_of_ble_eq_true rfl) dX3_inAll_21 ⟨Nat.le_of_ble_eq_true rfl, Nat.le_of_ble_eq_true rfl⟩) rfl rfl (fun H locs hW => ?_)
    refine lv_if_eq (tgt := 31) hx hb dX3_inAll_24 (by decide) (fun c24 => ?_) (fun c24 => ?_)
    · have h := ite_t c24 h
      obtain ⟨v31, ev31⟩ : ∃ y : Int32, y = (l2 + (1 : Int32)) := ⟨_, rfl⟩
      have h := nm_to h ev31
      refine lv_iinc (v := v31) (lv' := [(2, .int v31), (0, .int l0), (1, .int l1)]) hx hb dX3_inAll_31 hl (k := 2) rfl (by rw [ev31]; rfl) (by decide) rfl (fun ls hl => ?_)
      refine lv_goto (tgt := 13) hx hb dX3_inAll_34 (by decide) ?_
      exact hk13 l0 l1 v31 _ _ _ h hW (lv_sub hl [1, 2, 0] rfl)
    · have h := ite_f c24 h
      refine lv_iload_n hx hb dX3_inAll_27 rfl (lv_at hl 1 rfl) ?_
      refine lv_iload_n hx hb dX3_inAll_28 rfl (lv_at hl 2 rfl) ?_
      refine lv_iand hx hb dX3_inAll_29 ?_
      refine lv_topi (fun v30 ev30 => ?_)
      have h := nm_to h ev30
      refine lv_istore_n (lv' := [(1, .int v30), (0, .int l0), (2, .int l2)]) hx hb dX3_inAll_30 rfl hl (by decide) rfl (fun ls hl => ?_)
      obtain ⟨v31, ev31⟩ : ∃ y : Int32, y = (l2 + (1 : Int32)) := ⟨_, rfl⟩
      have h := nm_to h ev31
      refine lv_iinc (v := v31) (lv' := [(2, .int v31), (1, .int v30), (0, .int l0)]) hx hb dX3_inAll_31 hl (k := 2) rfl (by rw [ev31]; rfl) (by decide) rfl (fun ls hl => ?_)
      refine lv_goto (tgt := 13) hx hb dX3_inAll_34 (by decide) ?_
      exact hk13 l0 v30 v31 _ _ _ h hW (lv_sub hl [2, 1, 0] rfl)
def fX3_inAll_13 : Nat → Int32 → Int32 → Int32 → Option (Int32)
  | 0, _, _, _ => none
  | n + 1, l0, l1, l2 => bX3_inAll_13 (fX3_inAll_13 n) l0 l1 l2
theorem klX3_inAll_13 {p : Program} {l : Launch} {e : Env} {s : State} {m : MethodId} {args : Array Value} {below : List Frame} {meth : Method} {c : Code} {G : GW} {r : Int32} (C : Cx p m c cX3_inAll 3 s args RX3 G) (hlk : meth.locks = false) (hr : meth.sig.returnType = (some .int)) {z : AH} : ∀ (n : Nat) (l0 : Int32) (l1 : Int32) (l2 : Int32) (H : Heap) (locs : List Loc) (ls : Array Slot), fX3_inAll_13 n l0 l1 l2 = some r → Wb G z s H locs → lv_has ls 3 [(0, .int l0), (1, .int l1), (2, .int l2)] → W p l e rmX3_inAll s m args below meth c H locs 0 0 (MQ below (Qi G r z) args s 0 0 (AA G)) (F0 m 13 ls []) := by
  intro n
  induction n with
  | zero => intro l0 l1 l2 H locs ls h; have h : (none : Option (Int32)) = some r := h; cases h
  | succ n ih => intro l0 l1 l2 H locs ls h hW hl; exact kbX3_inAll_13 C hlk hr (fX3_inAll_13 n) (fun l0 l1 l2 H locs ls h hW hl => ih l0 l1 l2 H locs ls h hW hl) l0 l1 l2 h hW hl
def fX3_inAll (l0 : Int32) : Option (Int32) :=
  if l0 = (0 : Int32) then (
    fX3_inAll_13 FU l0 (-1 : Int32) (0 : Int32)
  ) else (
    fX3_inAll_13 FU l0 (15 : Int32) (0 : Int32)
  )
set_option maxHeartbeats 4000000 in
set_option maxRecDepth 100000 in
theorem ctX3_inAll (l : Launch) (G : GW) (l0 : Int32) (z : AH) {r : Int32} (h : fX3_inAll l0 = some r) : Met l yX3_inAll (wy yX3_inAll cX3_inAll 3 (some .int)) rmX3_inAll (Pz G [.int l0] z) (Qi G r z) 0 0 (AA G) := by
  refine wz_ent (own := RX3) (by decide +kernel) rfl (fun p e s m below meth c ls C hlk hr hin hW hl => ?_) (Nat.le_of_ble_eq_true rfl)
  have hl : lv_has ls 3 [(0, .int l0)] := hl
  have hx := C.1
  have hb := C.2.1
  unfold fX3_inAll at h
  refine lv_iload_n hx hb dX3_inAll_0 rfl (lv_at hl 0 rfl) ?_
  refine lv_if_ne (tgt := 8) hx hb dX3_inAll_1 (by decide) (fun c1 => ?_) (fun c1 => ?_)
  · have h := ite_f c1 h
    refine lv_bipush (v := 15) hx hb dX3_inAll_8 (by decide) ?_
    refine lv_istore_n (lv' := [(1, .int (15 : Int32)), (0, .int l0)]) hx hb dX3_inAll_10 rfl hl (by decide) rfl (fun ls hl => ?_)
    refine lv_iconst (v := 0) hx hb dX3_inAll_11 (by decide) ?_
    refine lv_istore_n (lv' := [(2, .int (0 : Int32)), (1, .int (15 : Int32)), (0, .int l0)]) hx hb dX3_inAll_12 rfl hl (by decide) rfl (fun ls hl => ?_)
    exact klX3_inAll_13 C hlk hr FU l0 (15 : Int32) (0 : Int32) _ _ _ h hW (lv_sub hl [2, 1, 0] rfl)
  · have h := ite_t c1 h
    refine lv_iconst (v := -1) hx hb dX3_inAll_4 (by decide) ?_
    refine lv_goto (tgt := 10) hx hb dX3_inAll_5 (by decide) ?_
    refine lv_istore_n (lv' := [(1, .int (-1 : Int32)), (0, .int l0)]) hx hb dX3_inAll_10 rfl hl (by decide) rfl (fun ls hl => ?_)
    refine lv_iconst (v := 0) hx hb dX3_inAll_11 (by decide) ?_
    refine lv_istore_n (lv' := [(2, .int (0 : Int32)), (1, .int (-1 : Int32)), (0, .int l0)]) hx hb dX3_inAll_12 rfl hl (by decide) rfl (fun ls hl => ?_)
    exact klX3_inAll_13 C hlk hr FU l0 (-1 : Int32) (0 : Int32) _ _ _ h hW (lv_sub hl [2, 1, 0] rfl)
theorem lTX3_40 : LT RX3 40 yJ6_bitCount_0f7a4 cJ6_bitCount_0f7a4 1 (some .int) 1 := ⟨tw 1083 (by decide +kernel) rfl, tw 929 (by decide +kernel) rfl, tw 136 (by decide +kernel) rfl, tw 930 (by decide +kernel) rfl, ⟨by decide +kernel, by decide +kernel, by decide +kernel⟩⟩
theorem dX3_fewest_0 : decode cX3_fewest 0 = .ok (.iconst (-1), 1) := by decide +kernel
theorem dX3_fewest_1 : decode cX3_fewest 1 = .ok (.istore_n 1, 1) := by decide +kernel
theorem dX3_fewest_2 : decode cX3_fewest 2 = .ok (.iconst 0, 1) := by decide +kernel
theorem dX3_fewest_3 : decode cX3_fewest 3 = .ok (.istore_n 2, 1) := by decide +kernel
theorem dX3_fewest_4 : decode cX3_fewest 4 = .ok (.iload_n 2, 1) := by decide +kernel
theorem dX3_fewest_5 : decode cX3_fewest 5 = .ok (.bipush 16, 2) := by decide +kernel
theorem dX3_fewest_7 : decode cX3_fewest 7 = .ok (.if_icmp .ge 35, 3) := by decide +kernel
theorem dX3_fewest_10 : decode cX3_fewest 10 = .ok (.iload_n 0, 1) := by decide +kernel
theorem dX3_fewest_11 : decode cX3_fewest 11 = .ok (.iload_n 2, 1) := by decide +kernel
theorem dX3_fewest_12 : decode cX3_fewest 12 = .ok (.invokestatic 36, 3) := by decide +kernel
theorem dX3_fewest_15 : decode cX3_fewest 15 = .ok (.ifCond .eq 21, 3) := by decide +kernel
theorem dX3_fewest_18 : decode cX3_fewest 18 = .ok (.iload_n 1, 1) := by decide +kernel
theorem dX3_fewest_19 : decode cX3_fewest 19 = .ok (.iconst (-1), 1) := by decide +kernel
theorem dX3_fewest_20 : decode cX3_fewest 20 = .ok (.if_icmp .eq 11, 3) := by decide +kernel
theorem dX3_fewest_23 : decode cX3_fewest 23 = .ok (.iload_n 2, 1) := by decide +kernel
theorem dX3_fewest_24 : decode cX3_fewest 24 = .ok (.invokestatic 40, 3) := by decide +kernel
theorem dX3_fewest_27 : decode cX3_fewest 27 = .ok (.iload_n 1, 1) := by decide +kernel
theorem dX3_fewest_28 : decode cX3_fewest 28 = .ok (.if_icmp .ge 8, 3) := by decide +kernel
theorem dX3_fewest_31 : decode cX3_fewest 31 = .ok (.iload_n 2, 1) := by decide +kernel
theorem dX3_fewest_32 : decode cX3_fewest 32 = .ok (.invokestatic 40, 3) := by decide +kernel
theorem dX3_fewest_35 : decode cX3_fewest 35 = .ok (.istore_n 1, 1) := by decide +kernel
theorem dX3_fewest_36 : decode cX3_fewest 36 = .ok (.iinc 2 1, 3) := by decide +kernel
theorem dX3_fewest_39 : decode cX3_fewest 39 = .ok (.goto (-35), 3) := by decide +kernel
theorem dX3_fewest_42 : decode cX3_fewest 42 = .ok (.iload_n 1, 1) := by decide +kernel
theorem dX3_fewest_43 : decode cX3_fewest 43 = .ok (.ireturn, 1) := by decide +kernel
abbrev rmX3_fewest : Room := { frames := 1, cells := 0, slots := 0, locals := 21 }
def bX3_fewest_31 (k4 : Int32 → Int32 → Int32 → Option (Int32)) (l0 : Int32) (l2 : Int32) : Option (Int32) :=
  nm (fJ6_bitCount_0f7a4 l2) fun v35 =>
  nm (l2 + (1 : Int32)) fun v36 =>
  k4 l0 v35 v36
set_option maxHeartbeats 4000000 in
set_option maxRecDepth 100000 in
theorem kbX3_fewest_31 {p : Program} {l : Launch} {e : Env} {s : State} {m : MethodId} {args : Array Value} {below : List Frame} {meth : Method} {c : Code} {G : GW} {r : Int32} (C : Cx p m c cX3_fewest 3 s args RX3 G) (hlk : meth.locks = false) (hr : meth.sig.returnType = (some .int)) {z : AH} (k4 : Int32 → Int32 → Int32 → Option (Int32)) (hk4 : ∀ (l0 : Int32) (l1 : Int32) (l2 : Int32) (H : Heap) (locs : List Loc) (ls : Array Slot), k4 l0 l1 l2 = some r → Wb G z s H locs → lv_has ls 3 [(0, .int l0), (1, .int l1), (2, .int l2)] → W p l e rmX3_fewest s m args below meth c H locs 0 0 (MQ below (Qi G r z) args s 0 0 (AA G)) (F0 m 4 ls [])) (l0 : Int32) (l2 : Int32) {H : Heap} {locs : List Loc} {ls : Array Slot} (h : bX3_fewest_31 k4 l0 l2 = some r) (hW : Wb G z s H locs) (hl : lv_has ls 3 [(0, .int l0), (2, .int l2)]) : W p l e rmX3_fewest s m args below meth c H locs 0 0 (MQ below (Qi G r z) args s 0 0 (AA G)) (F0 m 31 ls []) := by
  have hx := C.1
  have hb := C.2.1
  unfold bX3_fewest_31 at h
  refine lv_iload_n hx hb dX3_fewest_31 rfl (lv_at hl 1 rfl) ?_
  refine wz_rI (c' := 0) (s' := 0) hW (wz_runS (rest := []) C hW lTX3_40 (ctJ6_bitCount_0f7a4 l G l2 z rfl) ⟨⟨rfl, rfl⟩, Nat.le_of_ble_eq_true rfl, Nat.le_of_ble_eq_true rfl⟩ rfl hl.1 rfl (Nat.le_of_ble_eq_true rfl) dX3_fewest_32 ⟨Nat.le_of_ble_eq_true rfl, Nat.le_of_ble_eq_true rfl⟩) rfl rfl (fun H locs hW => ?_)
  refine lv_topi (fun v35 ev35 => ?_)
  have h := nm_to h ev35
  refine lv_istore_n (lv' := [(1, .int v35), (0, .int l0), (2, .int l2)]) hx hb dX3_fewest_35 rfl hl (by decide) rfl (fun ls hl => ?_)
  obtain ⟨v36, ev36⟩ : ∃ y : Int32, y = (l2 + (1 : Int32)) := ⟨_, rfl⟩
  have h := nm_to h ev36
  refine lv_iinc (v := v36) (lv' := [(2, .int v36), (1, .int v35), (0, .int l0)]) hx hb dX3_fewest_36 hl (k := 2) rfl (by rw [ev36]; rfl) (by decide) rfl (fun ls hl => ?_)
  refine lv_goto (tgt := 4) hx hb dX3_fewest_39 (by decide) ?_
  exact hk4 l0 v35 v36 _ _ _ h hW (lv_sub hl [2, 1, 0] rfl)
def bX3_fewest_4 (k4 : Int32 → Int32 → Int32 → Option (Int32)) (l0 : Int32) (l1 : Int32) (l2 : Int32) : Option (Int32) :=
  if (16 : Int32) ≤ l2 then (
    some l1
  ) else (
    if (fX9_hasBit l0 l2) = (0 : Int32) then (
      nm (l2 + (1 : Int32)) fun v36 =>
      k4 l0 l1 v36
    ) else (
      if l1 = (-1 : Int32) then (
        bX3_fewest_31 k4 l0 l2
      ) else (
        if l1 ≤ (fJ6_bitCount_0f7a4 l2) then (
          nm (l2 + (1 : Int32)) fun v36 =>
          k4 l0 l1 v36
        ) else (
          bX3_fewest_31 k4 l0 l2
        )
      )
    )
  )
set_option maxHeartbeats 4000000 in
set_option maxRecDepth 100000 in
theorem kbX3_fewest_4 {p : Program} {l : Launch} {e : Env} {s : State} {m : MethodId} {args : Array Value} {below : List Frame} {meth : Method} {c : Code} {G : GW} {r : Int32} (C : Cx p m c cX3_fewest 3 s args RX3 G) (hlk : meth.locks = false) (hr : meth.sig.returnType = (some .int)) {z : AH} (k4 : Int32 → Int32 → Int32 → Option (Int32)) (hk4 : ∀ (l0 : Int32) (l1 : Int32) (l2 : Int32) (H : Heap) (locs : List Loc) (ls : Array Slot), k4 l0 l1 l2 = some r → Wb G z s H locs → lv_has ls 3 [(0, .int l0), (1, .int l1), (2, .int l2)] → W p l e rmX3_fewest s m args below meth c H locs 0 0 (MQ below (Qi G r z) args s 0 0 (AA G)) (F0 m 4 ls [])) (l0 : Int32) (l1 : Int32) (l2 : Int32) {H : Heap} {locs : List Loc} {ls : Array Slot} (h : bX3_fewest_4 k4 l0 l1 l2 = some r) (hW : Wb G z s H locs) (hl : lv_has ls 3 [(0, .int l0), (1, .int l1), (2, .int l2)]) : W p l e rmX3_fewest s m args below meth c H locs 0 0 (MQ below (Qi G r z) args s 0 0 (AA G)) (F0 m 4 ls []) := by
  have hx := C.1
  have hb := C.2.1
  unfold bX3_fewest_4 at h
  refine lv_iload_n hx hb dX3_fewest_4 rfl (lv_at hl 2 rfl) ?_
  refine lv_bipush (v := 16) hx hb dX3_fewest_5 (by decide) ?_
  refine lv_icmp_ge (tgt := 42) hx hb dX3_fewest_7 (by decide) (fun c7 => ?_) (fun c7 => ?_)
  · have h := ite_t c7 h
    refine lv_iload_n hx hb dX3_fewest_42 rfl (lv_at hl 1 rfl) ?_
    exact wz_iretE C hlk hr (Option.some.inj h) rfl hW dX3_fewest_43
  · have h := ite_f c7 h
    refine lv_iload_n hx hb dX3_fewest_10 rfl (lv_at hl 0 rfl) ?_
    refine lv_iload_n hx hb dX3_fewest_11 rfl (lv_at hl 2 rfl) ?_
    refine wz_rI (c' := 0) (s' := 0) hW (wz_runN (rest := []) C hW lNX3_36 (ctX9_hasBit l G l0 l2 z rfl) ⟨⟨rfl, rfl⟩, Nat.le_of_ble_eq_true rfl, Nat.le_of_ble_eq_true rfl⟩ rfl hl.1 rfl (Nat.le_of_ble_eq_true rfl) dX3_fewest_12 ⟨Nat.le_of_ble_eq_true rfl, Nat.le_of_ble_eq_true rfl⟩) rfl rfl (fun H locs hW => ?_)
    refine lv_if_eq (tgt := 36) hx hb dX3_fewest_15 (by decide) (fun c15 => ?_) (fun c15 => ?_)
    · have h := ite_t c15 h
      obtain ⟨v36, ev36⟩ : ∃ y : Int32, y = (l2 + (1 : Int32)) := ⟨_, rfl⟩
      have h := nm_to h ev36
      refine lv_iinc (v := v36) (lv' := [(2, .int v36), (0, .int l0), (1, .int l1)]) hx hb dX3_fewest_36 hl (k := 2) rfl (by rw [ev36]; rfl) (by decide) rfl (fun ls hl => ?_)
      refine lv_goto (tgt := 4) hx hb dX3_fewest_39 (by decide) ?_
      exact hk4 l0 l1 v36 _ _ _ h hW (lv_sub hl [1, 2, 0] rfl)
    · have h := ite_f c15 h
      refine lv_iload_n hx hb dX3_fewest_18 rfl (lv_at hl 1 rfl) ?_
      refine lv_iconst (v := -1) hx hb dX3_fewest_19 (by decide) ?_
      refine lv_icmp_eq (tgt := 31) hx hb dX3_fewest_20 (by decide) (fun c20 => ?_) (fun c20 => ?_)
      · have h := ite_t c20 h
        exact kbX3_fewest_31 C hlk hr k4 hk4 l0 l2 h hW (lv_sub hl [0, 2] rfl)
      · have h := ite_f c20 h
        refine lv_iload_n hx hb dX3_fewest_23 rfl (lv_at hl 2 rfl) ?_
        refine wz_rI (c' := 0) (s' := 0) hW (wz_runS (rest := []) C hW lTX3_40 (ctJ6_bitCount_0f7a4 l G l2 z rfl) ⟨⟨rfl, rfl⟩, Nat.le_of_ble_eq_true rfl, Nat.le_of_ble_eq_true rfl⟩ rfl hl.1 rfl (Nat.le_of_ble_eq_true rfl) dX3_fewest_24 ⟨Nat.le_of_ble_eq_true rfl, Nat.le_of_ble_eq_true rfl⟩) rfl rfl (fun H locs hW => ?_)
        refine lv_iload_n hx hb dX3_fewest_27 rfl (lv_at hl 1 rfl) ?_
        refine lv_icmp_ge (tgt := 36) hx hb dX3_fewest_28 (by decide) (fun c28 => ?_) (fun c28 => ?_)
        · have h := ite_t c28 h
          obtain ⟨v36, ev36⟩ : ∃ y : Int32, y = (l2 + (1 : Int32)) := ⟨_, rfl⟩
          have h := nm_to h ev36
          refine lv_iinc (v := v36) (lv' := [(2, .int v36), (0, .int l0), (1, .int l1)]) hx hb dX3_fewest_36 hl (k := 2) rfl (by rw [ev36]; rfl) (by decide) rfl (fun ls hl => ?_)
          refine lv_goto (tgt := 4) hx hb dX3_fewest_39 (by decide) ?_
          exact hk4 l0 l1 v36 _ _ _ h hW (lv_sub hl [1, 2, 0] rfl)
        · have h := ite_f c28 h
          exact kbX3_fewest_31 C hlk hr k4 hk4 l0 l2 h hW (lv_sub hl [0, 2] rfl)
def fX3_fewest_4 : Nat → Int32 → Int32 → Int32 → Option (Int32)
  | 0, _, _, _ => none
  | n + 1, l0, l1, l2 => bX3_fewest_4 (fX3_fewest_4 n) l0 l1 l2
theorem klX3_fewest_4 {p : Program} {l : Launch} {e : Env} {s : State} {m : MethodId} {args : Array Value} {below : List Frame} {meth : Method} {c : Code} {G : GW} {r : Int32} (C : Cx p m c cX3_fewest 3 s args RX3 G) (hlk : meth.locks = false) (hr : meth.sig.returnType = (some .int)) {z : AH} : ∀ (n : Nat) (l0 : Int32) (l1 : Int32) (l2 : Int32) (H : Heap) (locs : List Loc) (ls : Array Slot), fX3_fewest_4 n l0 l1 l2 = some r → Wb G z s H locs → lv_has ls 3 [(0, .int l0), (1, .int l1), (2, .int l2)] → W p l e rmX3_fewest s m args below meth c H locs 0 0 (MQ below (Qi G r z) args s 0 0 (AA G)) (F0 m 4 ls []) := by
  intro n
  induction n with
  | zero => intro l0 l1 l2 H locs ls h; have h : (none : Option (Int32)) = some r := h; cases h
  | succ n ih => intro l0 l1 l2 H locs ls h hW hl; exact kbX3_fewest_4 C hlk hr (fX3_fewest_4 n) (fun l0 l1 l2 H locs ls h hW hl => ih l0 l1 l2 H locs ls h hW hl) l0 l1 l2 h hW hl
def fX3_fewest (l0 : Int32) : Option (Int32) :=
  fX3_fewest_4 FU l0 (-1 : Int32) (0 : Int32)
set_option maxHeartbeats 4000000 in
set_option maxRecDepth 100000 in
theorem ctX3_fewest (l : Launch) (G : GW) (l0 : Int32) (z : AH) {r : Int32} (h : fX3_fewest l0 = some r) : Met l yX3_fewest (wy yX3_fewest cX3_fewest 3 (some .int)) rmX3_fewest (Pz G [.int l0] z) (Qi G r z) 0 0 (AA G) := by
  refine wz_ent (own := RX3) (by decide +kernel) rfl (fun p e s m below meth c ls C hlk hr hin hW hl => ?_) (Nat.le_of_ble_eq_true rfl)
  have hl : lv_has ls 3 [(0, .int l0)] := hl
  have hx := C.1
  have hb := C.2.1
  unfold fX3_fewest at h
  refine lv_iconst (v := -1) hx hb dX3_fewest_0 (by decide) ?_
  refine lv_istore_n (lv' := [(1, .int (-1 : Int32)), (0, .int l0)]) hx hb dX3_fewest_1 rfl hl (by decide) rfl (fun ls hl => ?_)
  refine lv_iconst (v := 0) hx hb dX3_fewest_2 (by decide) ?_
  refine lv_istore_n (lv' := [(2, .int (0 : Int32)), (1, .int (-1 : Int32)), (0, .int l0)]) hx hb dX3_fewest_3 rfl hl (by decide) rfl (fun ls hl => ?_)
  exact klX3_fewest_4 C hlk hr FU l0 (-1 : Int32) (0 : Int32) _ _ _ h hW (lv_sub hl [2, 1, 0] rfl)
theorem dX3_setAt_0 : decode cX3_setAt 0 = .ok (.iload_n 1, 1) := by decide +kernel
theorem dX3_setAt_1 : decode cX3_setAt 1 = .ok (.istore_n 2, 1) := by decide +kernel
theorem dX3_setAt_2 : decode cX3_setAt 2 = .ok (.iconst 0, 1) := by decide +kernel
theorem dX3_setAt_3 : decode cX3_setAt 3 = .ok (.istore_n 3, 1) := by decide +kernel
theorem dX3_setAt_4 : decode cX3_setAt 4 = .ok (.iload_n 3, 1) := by decide +kernel
theorem dX3_setAt_5 : decode cX3_setAt 5 = .ok (.bipush 16, 2) := by decide +kernel
theorem dX3_setAt_7 : decode cX3_setAt 7 = .ok (.if_icmp .ge 26, 3) := by decide +kernel
theorem dX3_setAt_10 : decode cX3_setAt 10 = .ok (.iload_n 0, 1) := by decide +kernel
theorem dX3_setAt_11 : decode cX3_setAt 11 = .ok (.iload_n 3, 1) := by decide +kernel
theorem dX3_setAt_12 : decode cX3_setAt 12 = .ok (.invokestatic 36, 3) := by decide +kernel
theorem dX3_setAt_15 : decode cX3_setAt 15 = .ok (.ifCond .eq 12, 3) := by decide +kernel
theorem dX3_setAt_18 : decode cX3_setAt 18 = .ok (.iload_n 2, 1) := by decide +kernel
theorem dX3_setAt_19 : decode cX3_setAt 19 = .ok (.ifCond .ne 5, 3) := by decide +kernel
theorem dX3_setAt_22 : decode cX3_setAt 22 = .ok (.iload_n 3, 1) := by decide +kernel
theorem dX3_setAt_23 : decode cX3_setAt 23 = .ok (.ireturn, 1) := by decide +kernel
theorem dX3_setAt_24 : decode cX3_setAt 24 = .ok (.iinc 2 (-1), 3) := by decide +kernel
theorem dX3_setAt_27 : decode cX3_setAt 27 = .ok (.iinc 3 1, 3) := by decide +kernel
theorem dX3_setAt_30 : decode cX3_setAt 30 = .ok (.goto (-26), 3) := by decide +kernel
theorem dX3_setAt_33 : decode cX3_setAt 33 = .ok (.bipush (-2), 2) := by decide +kernel
theorem dX3_setAt_35 : decode cX3_setAt 35 = .ok (.ireturn, 1) := by decide +kernel
abbrev rmX3_setAt : Room := { frames := 1, cells := 0, slots := 0, locals := 21 }
def bX3_setAt_4 (k4 : Int32 → Int32 → Int32 → Option (Int32)) (l0 : Int32) (l2 : Int32) (l3 : Int32) : Option (Int32) :=
  if (16 : Int32) ≤ l3 then (
    some (-2 : Int32)
  ) else (
    if (fX9_hasBit l0 l3) = (0 : Int32) then (
      nm (l3 + (1 : Int32)) fun v27 =>
      k4 l0 l2 v27
    ) else (
      if l2 = (0 : Int32) then (
        some l3
      ) else (
        nm (l2 + (-1 : Int32)) fun v24 =>
        nm (l3 + (1 : Int32)) fun v27 =>
        k4 l0 v24 v27
      )
    )
  )
set_option maxHeartbeats 4000000 in
set_option maxRecDepth 100000 in
theorem kbX3_setAt_4 {p : Program} {l : Launch} {e : Env} {s : State} {m : MethodId} {args : Array Value} {below : List Frame} {meth : Method} {c : Code} {G : GW} {r : Int32} (C : Cx p m c cX3_setAt 4 s args RX3 G) (hlk : meth.locks = false) (hr : meth.sig.returnType = (some .int)) {z : AH} (k4 : Int32 → Int32 → Int32 → Option (Int32)) (hk4 : ∀ (l0 : Int32) (l2 : Int32) (l3 : Int32) (H : Heap) (locs : List Loc) (ls : Array Slot), k4 l0 l2 l3 = some r → Wb G z s H locs → lv_has ls 4 [(0, .int l0), (2, .int l2), (3, .int l3)] → W p l e rmX3_setAt s m args below meth c H locs 0 0 (MQ below (Qi G r z) args s 0 0 (AA G)) (F0 m 4 ls [])) (l0 : Int32) (l2 : Int32) (l3 : Int32) {H : Heap} {locs : List Loc} {ls : Array Slot} (h : bX3_setAt_4 k4 l0 l2 l3 = some r) (hW : Wb G z s H locs) (hl : lv_has ls 4 [(0, .int l0), (2, .int l2), (3, .int l3)]) : W p l e rmX3_setAt s m args below meth c H locs 0 0 (MQ below (Qi G r z) args s 0 0 (AA G)) (F0 m 4 ls []) := by
  have hx := C.1
  have hb := C.2.1
  unfold bX3_setAt_4 at h
  refine lv_iload_n hx hb dX3_setAt_4 rfl (lv_at hl 2 rfl) ?_
  refine lv_bipush (v := 16) hx hb dX3_setAt_5 (by decide) ?_
  refine lv_icmp_ge (tgt := 33) hx hb dX3_setAt_7 (by decide) (fun c7 => ?_) (fun c7 => ?_)
  · have h := ite_t c7 h
    refine lv_bipush (v := -2) hx hb dX3_setAt_33 (by decide) ?_
    exact wz_iretE C hlk hr (Option.some.inj h) rfl hW dX3_setAt_35
  · have h := ite_f c7 h
    refine lv_iload_n hx hb dX3_setAt_10 rfl (lv_at hl 0 rfl) ?_
    refine lv_iload_n hx hb dX3_setAt_11 rfl (lv_at hl 2 rfl) ?_
    refine wz_rI (c' := 0) (s' := 0) hW (wz_runN (rest := []) C hW lNX3_36 (ctX9_hasBit l G l0 l3 z rfl) ⟨⟨rfl, rfl⟩, Nat.le_of_ble_eq_true rfl, Nat.le_of_ble_eq_true rfl⟩ rfl hl.1 rfl (Nat.le_of_ble_eq_true rfl) dX3_setAt_12 ⟨Nat.le_of_ble_eq_true rfl, Nat.le_of_ble_eq_true rfl⟩) rfl rfl (fun H locs hW => ?_)
    refine lv_if_eq (tgt := 27) hx hb dX3_setAt_15 (by decide) (fun c15 => ?_) (fun c15 => ?_)
    · have h := ite_t c15 h
      obtain ⟨v27, ev27⟩ : ∃ y : Int32, y = (l3 + (1 : Int32)) := ⟨_, rfl⟩
      have h := nm_to h ev27
      refine lv_iinc (v := v27) (lv' := [(3, .int v27), (0, .int l0), (2, .int l2)]) hx hb dX3_setAt_27 hl (k := 2) rfl (by rw [ev27]; rfl) (by decide) rfl (fun ls hl => ?_)
      refine lv_goto (tgt := 4) hx hb dX3_setAt_30 (by decide) ?_
      exact hk4 l0 l2 v27 _ _ _ h hW (lv_sub hl [1, 2, 0] rfl)
    · have h := ite_f c15 h
      refine lv_iload_n hx hb dX3_setAt_18 rfl (lv_at hl 1 rfl) ?_
      refine lv_if_ne (tgt := 24) hx hb dX3_setAt_19 (by decide) (fun c19 => ?_) (fun c19 => ?_)
      · have h := ite_f c19 h
        obtain ⟨v24, ev24⟩ : ∃ y : Int32, y = (l2 + (-1 : Int32)) := ⟨_, rfl⟩
        have h := nm_to h ev24
        refine lv_iinc (v := v24) (lv' := [(2, .int v24), (0, .int l0), (3, .int l3)]) hx hb dX3_setAt_24 hl (k := 1) rfl (by rw [ev24]; rfl) (by decide) rfl (fun ls hl => ?_)
        obtain ⟨v27, ev27⟩ : ∃ y : Int32, y = (l3 + (1 : Int32)) := ⟨_, rfl⟩
        have h := nm_to h ev27
        refine lv_iinc (v := v27) (lv' := [(3, .int v27), (2, .int v24), (0, .int l0)]) hx hb dX3_setAt_27 hl (k := 2) rfl (by rw [ev27]; rfl) (by decide) rfl (fun ls hl => ?_)
        refine lv_goto (tgt := 4) hx hb dX3_setAt_30 (by decide) ?_
        exact hk4 l0 v24 v27 _ _ _ h hW (lv_sub hl [2, 1, 0] rfl)
      · have h := ite_t c19 h
        refine lv_iload_n hx hb dX3_setAt_22 rfl (lv_at hl 2 rfl) ?_
        exact wz_iretE C hlk hr (Option.some.inj h) rfl hW dX3_setAt_23
def fX3_setAt_4 : Nat → Int32 → Int32 → Int32 → Option (Int32)
  | 0, _, _, _ => none
  | n + 1, l0, l2, l3 => bX3_setAt_4 (fX3_setAt_4 n) l0 l2 l3
theorem klX3_setAt_4 {p : Program} {l : Launch} {e : Env} {s : State} {m : MethodId} {args : Array Value} {below : List Frame} {meth : Method} {c : Code} {G : GW} {r : Int32} (C : Cx p m c cX3_setAt 4 s args RX3 G) (hlk : meth.locks = false) (hr : meth.sig.returnType = (some .int)) {z : AH} : ∀ (n : Nat) (l0 : Int32) (l2 : Int32) (l3 : Int32) (H : Heap) (locs : List Loc) (ls : Array Slot), fX3_setAt_4 n l0 l2 l3 = some r → Wb G z s H locs → lv_has ls 4 [(0, .int l0), (2, .int l2), (3, .int l3)] → W p l e rmX3_setAt s m args below meth c H locs 0 0 (MQ below (Qi G r z) args s 0 0 (AA G)) (F0 m 4 ls []) := by
  intro n
  induction n with
  | zero => intro l0 l2 l3 H locs ls h; have h : (none : Option (Int32)) = some r := h; cases h
  | succ n ih => intro l0 l2 l3 H locs ls h hW hl; exact kbX3_setAt_4 C hlk hr (fX3_setAt_4 n) (fun l0 l2 l3 H locs ls h hW hl => ih l0 l2 l3 H locs ls h hW hl) l0 l2 l3 h hW hl
def fX3_setAt (l0 : Int32) (l1 : Int32) : Option (Int32) :=
  fX3_setAt_4 FU l0 l1 (0 : Int32)
set_option maxHeartbeats 4000000 in
set_option maxRecDepth 100000 in
theorem ctX3_setAt (l : Launch) (G : GW) (l0 : Int32) (l1 : Int32) (z : AH) {r : Int32} (h : fX3_setAt l0 l1 = some r) : Met l yX3_setAt (wy yX3_setAt cX3_setAt 4 (some .int)) rmX3_setAt (Pz G [.int l0, .int l1] z) (Qi G r z) 0 0 (AA G) := by
  refine wz_ent (own := RX3) (by decide +kernel) rfl (fun p e s m below meth c ls C hlk hr hin hW hl => ?_) (Nat.le_of_ble_eq_true rfl)
  have hl : lv_has ls 4 [(0, .int l0), (1, .int l1)] := hl
  have hx := C.1
  have hb := C.2.1
  unfold fX3_setAt at h
  refine lv_iload_n hx hb dX3_setAt_0 rfl (lv_at hl 1 rfl) ?_
  refine lv_istore_n (lv' := [(2, .int l1), (0, .int l0), (1, .int l1)]) hx hb dX3_setAt_1 rfl hl (by decide) rfl (fun ls hl => ?_)
  refine lv_iconst (v := 0) hx hb dX3_setAt_2 (by decide) ?_
  refine lv_istore_n (lv' := [(3, .int (0 : Int32)), (2, .int l1), (0, .int l0), (1, .int l1)]) hx hb dX3_setAt_3 rfl hl (by decide) rfl (fun ls hl => ?_)
  exact klX3_setAt_4 C hlk hr FU l0 l1 (0 : Int32) _ _ _ h hW (lv_sub hl [2, 1, 0] rfl)
theorem lTX3_45 : LT RX3 45 yX3_fitting cX3_fitting 4 (some .int) 1 := ⟨tw 1173 (by decide +kernel) rfl, tw 1066 (by decide +kernel) rfl, tw 137 (by decide +kernel) rfl, tw 1067 (by decide +kernel) rfl, ⟨by decide +kernel, by decide +kernel, by decide +kernel⟩⟩
theorem dX3_telling_0 : decode cX3_telling 0 = .ok (.aload_n 0, 1) := by decide +kernel
theorem dX3_telling_1 : decode cX3_telling 1 = .ok (.invokestatic 45, 3) := by decide +kernel
theorem dX3_telling_4 : decode cX3_telling 4 = .ok (.istore_n 1, 1) := by decide +kernel
theorem dX3_telling_5 : decode cX3_telling 5 = .ok (.iconst (-1), 1) := by decide +kernel
theorem dX3_telling_6 : decode cX3_telling 6 = .ok (.istore_n 2, 1) := by decide +kernel
theorem dX3_telling_7 : decode cX3_telling 7 = .ok (.bipush 17, 2) := by decide +kernel
theorem dX3_telling_9 : decode cX3_telling 9 = .ok (.istore_n 3, 1) := by decide +kernel
theorem dX3_telling_10 : decode cX3_telling 10 = .ok (.iconst 0, 1) := by decide +kernel
theorem dX3_telling_11 : decode cX3_telling 11 = .ok (.istore 4, 2) := by decide +kernel
theorem dX3_telling_13 : decode cX3_telling 13 = .ok (.iload 4, 2) := by decide +kernel
theorem dX3_telling_15 : decode cX3_telling 15 = .ok (.bipush 8, 2) := by decide +kernel
theorem dX3_telling_17 : decode cX3_telling 17 = .ok (.if_icmp .ge 64, 3) := by decide +kernel
theorem dX3_telling_20 : decode cX3_telling 20 = .ok (.iload_n 1, 1) := by decide +kernel
theorem dX3_telling_21 : decode cX3_telling 21 = .ok (.ifCond .eq 60, 3) := by decide +kernel
theorem dX3_telling_24 : decode cX3_telling 24 = .ok (.aload_n 0, 1) := by decide +kernel
theorem dX3_telling_25 : decode cX3_telling 25 = .ok (.iload 4, 2) := by decide +kernel
theorem dX3_telling_27 : decode cX3_telling 27 = .ok (.invokestatic 28, 3) := by decide +kernel
theorem dX3_telling_30 : decode cX3_telling 30 = .ok (.istore 5, 2) := by decide +kernel
theorem dX3_telling_32 : decode cX3_telling 32 = .ok (.iload_n 1, 1) := by decide +kernel
theorem dX3_telling_33 : decode cX3_telling 33 = .ok (.iload 5, 2) := by decide +kernel
theorem dX3_telling_35 : decode cX3_telling 35 = .ok (.invokestatic 32, 3) := by decide +kernel
theorem dX3_telling_38 : decode cX3_telling 38 = .ok (.iand, 1) := by decide +kernel
theorem dX3_telling_39 : decode cX3_telling 39 = .ok (.invokestatic 40, 3) := by decide +kernel
theorem dX3_telling_42 : decode cX3_telling 42 = .ok (.istore 6, 2) := by decide +kernel
theorem dX3_telling_44 : decode cX3_telling 44 = .ok (.iload 6, 2) := by decide +kernel
theorem dX3_telling_46 : decode cX3_telling 46 = .ok (.iload_n 1, 1) := by decide +kernel
theorem dX3_telling_47 : decode cX3_telling 47 = .ok (.invokestatic 40, 3) := by decide +kernel
theorem dX3_telling_50 : decode cX3_telling 50 = .ok (.iload 6, 2) := by decide +kernel
theorem dX3_telling_52 : decode cX3_telling 52 = .ok (.isub, 1) := by decide +kernel
theorem dX3_telling_53 : decode cX3_telling 53 = .ok (.invokestatic 51, 3) := by decide +kernel
theorem dX3_telling_56 : decode cX3_telling 56 = .ok (.istore 7, 2) := by decide +kernel
theorem dX3_telling_58 : decode cX3_telling 58 = .ok (.iload 5, 2) := by decide +kernel
theorem dX3_telling_60 : decode cX3_telling 60 = .ok (.ifCond .eq 15, 3) := by decide +kernel
theorem dX3_telling_63 : decode cX3_telling 63 = .ok (.iload 7, 2) := by decide +kernel
theorem dX3_telling_65 : decode cX3_telling 65 = .ok (.iload_n 3, 1) := by decide +kernel
theorem dX3_telling_66 : decode cX3_telling 66 = .ok (.if_icmp .ge 9, 3) := by decide +kernel
theorem dX3_telling_69 : decode cX3_telling 69 = .ok (.iload 4, 2) := by decide +kernel
theorem dX3_telling_71 : decode cX3_telling 71 = .ok (.istore_n 2, 1) := by decide +kernel
theorem dX3_telling_72 : decode cX3_telling 72 = .ok (.iload 7, 2) := by decide +kernel
theorem dX3_telling_74 : decode cX3_telling 74 = .ok (.istore_n 3, 1) := by decide +kernel
theorem dX3_telling_75 : decode cX3_telling 75 = .ok (.iinc 4 1, 3) := by decide +kernel
theorem dX3_telling_78 : decode cX3_telling 78 = .ok (.goto (-65), 3) := by decide +kernel
theorem dX3_telling_81 : decode cX3_telling 81 = .ok (.iload_n 2, 1) := by decide +kernel
theorem dX3_telling_82 : decode cX3_telling 82 = .ok (.ireturn, 1) := by decide +kernel
abbrev rmX3_telling : Room := { frames := 2, cells := 0, slots := 0, locals := 46 }
def bX3_telling_13 (k13 : Nat → Int32 → Int32 → Int32 → Int32 → Option (Int32)) (a0 : Nat) (l1 : Int32) (l2 : Int32) (l3 : Int32) (l4 : Int32) (z : AH) : Option (Int32) :=
  if (8 : Int32) ≤ l4 then (
    some l2
  ) else (
    if l1 = (0 : Int32) then (
      some l2
    ) else (
      (fX3_lookersAt a0 l4 z).bind fun x27 =>
      (fX3_shimmering x27).bind fun x35 =>
      nm (fJ6_bitCount_0f7a4 (l1 &&& x35)) fun v42 =>
      nm (imax v42 ((fJ6_bitCount_0f7a4 l1) - v42)) fun v56 =>
      if x27 = (0 : Int32) then (
        nm (l4 + (1 : Int32)) fun v75 =>
        k13 a0 l1 l2 l3 v75
      ) else (
        if l3 ≤ v56 then (
          nm (l4 + (1 : Int32)) fun v75 =>
          k13 a0 l1 l2 l3 v75
        ) else (
          nm (l4 + (1 : Int32)) fun v75 =>
          k13 a0 l1 l4 v56 v75
        )
      )
    )
  )
set_option maxHeartbeats 4000000 in
set_option maxRecDepth 100000 in
theorem kbX3_telling_13 {p : Program} {l : Launch} {e : Env} {s : State} {m : MethodId} {args : Array Value} {below : List Frame} {meth : Method} {c : Code} {G : GW} {r : Int32} (C : Cx p m c cX3_telling 8 s args RX3 G) (hlk : meth.locks = false) (hr : meth.sig.returnType = (some .int)) {z : AH} (k13 : Nat → Int32 → Int32 → Int32 → Int32 → Option (Int32)) (hk13 : ∀ (a0 : Nat) (l1 : Int32) (l2 : Int32) (l3 : Int32) (l4 : Int32) (H : Heap) (locs : List Loc) (ls : Array Slot), k13 a0 l1 l2 l3 l4 = some r → Wb G z s H locs → lv_has ls 8 [(0, .ref (gB G + a0)), (1, .int l1), (2, .int l2), (3, .int l3), (4, .int l4)] → W p l e rmX3_telling s m args below meth c H locs 0 0 (MQ below (Qi G r z) args s 0 0 (AA G)) (F0 m 13 ls [])) (a0 : Nat) (l1 : Int32) (l2 : Int32) (l3 : Int32) (l4 : Int32) {H : Heap} {locs : List Loc} {ls : Array Slot} (h : bX3_telling_13 k13 a0 l1 l2 l3 l4 z = some r) (hW : Wb G z s H locs) (hl : lv_has ls 8 [(0, .ref (gB G + a0)), (1, .int l1), (2, .int l2), (3, .int l3), (4, .int l4)]) : W p l e rmX3_telling s m args below meth c H locs 0 0 (MQ below (Qi G r z) args s 0 0 (AA G)) (F0 m 13 ls []) := by
  have hx := C.1
  have hb := C.2.1
  unfold bX3_telling_13 at h
  refine lv_iload hx hb dX3_telling_13 (lv_at hl 4 rfl) ?_
  refine lv_bipush (v := 8) hx hb dX3_telling_15 (by decide) ?_
  refine lv_icmp_ge (tgt := 81) hx hb dX3_telling_17 (by decide) (fun c17 => ?_) (fun c17 => ?_)
  · have h := ite_t c17 h
    refine lv_iload_n hx hb dX3_telling_81 rfl (lv_at hl 2 rfl) ?_
    exact wz_iretE C hlk hr (Option.some.inj h) rfl hW dX3_telling_82
  · have h := ite_f c17 h
    refine lv_iload_n hx hb dX3_telling_20 rfl (lv_at hl 1 rfl) ?_
    refine lv_if_eq (tgt := 81) hx hb dX3_telling_21 (by decide) (fun c21 => ?_) (fun c21 => ?_)
    · have h := ite_t c21 h
      refine lv_iload_n hx hb dX3_telling_81 rfl (lv_at hl 2 rfl) ?_
      exact wz_iretE C hlk hr (Option.some.inj h) rfl hW dX3_telling_82
    · have h := ite_f c21 h
      refine lv_aload_n hx hb dX3_telling_24 rfl (lv_at hl 0 rfl) ?_
      refine lv_iload hx hb dX3_telling_25 (lv_at hl 4 rfl) ?_
      obtain ⟨x27, hq, h⟩ := ob h
      refine wz_rI (c' := 0) (s' := 0) hW (wz_runS (rest := []) C hW lTX3_28 (ctX3_lookersAt l G a0 l4 z hq) ⟨⟨rfl, rfl⟩, Nat.le_of_ble_eq_true rfl, Nat.le_of_ble_eq_true rfl⟩ rfl hl.1 rfl (Nat.le_of_ble_eq_true rfl) dX3_telling_27 ⟨Nat.le_of_ble_eq_true rfl, Nat.le_of_ble_eq_true rfl⟩) rfl rfl (fun H locs hW => ?_)
      refine lv_istore (lv' := [(5, .int x27), (0, .ref (gB G + a0)), (1, .int l1), (2, .int l2), (3, .int l3), (4, .int l4)]) hx hb dX3_telling_30 hl (by decide) rfl (fun ls hl => ?_)
      refine lv_iload_n hx hb dX3_telling_32 rfl (lv_at hl 2 rfl) ?_
      refine lv_iload hx hb dX3_telling_33 (lv_at hl 0 rfl) ?_
      obtain ⟨x35, hq, h⟩ := ob h
      refine wz_rI (c' := 0) (s' := 0) hW (wz_runS (rest := [.int l1]) C hW lTX3_32 (ctX3_shimmering l G x27 z hq) ⟨⟨rfl, rfl⟩, Nat.le_of_ble_eq_true rfl, Nat.le_of_ble_eq_true rfl⟩ rfl hl.1 rfl (Nat.le_of_ble_eq_true rfl) dX3_telling_35 ⟨Nat.le_of_ble_eq_true rfl, Nat.le_of_ble_eq_true rfl⟩) rfl rfl (fun H locs hW => ?_)
      refine lv_iand hx hb dX3_telling_38 ?_
      refine wz_rI (c' := 0) (s' := 0) hW (wz_runS (rest := []) C hW lTX3_40 (ctJ6_bitCount_0f7a4 l G (l1 &&& x35) z rfl) ⟨⟨rfl, rfl⟩, Nat.le_of_ble_eq_true rfl, Nat.le_of_ble_eq_true rfl⟩ rfl hl.1 rfl (Nat.le_of_ble_eq_true rfl) dX3_telling_39 ⟨Nat.le_of_ble_eq_true rfl, Nat.le_of_ble_eq_true rfl⟩) rfl rfl (fun H locs hW => ?_)
      refine lv_topi (fun v42 ev42 => ?_)
      have h := nm_to h ev42
      refine lv_istore (lv' := [(6, .int v42), (5, .int x27), (0, .ref (gB G + a0)), (1, .int l1), (2, .int l2), (3, .int l3), (4, .int l4)]) hx hb dX3_telling_42 hl (by decide) rfl (fun ls hl => ?_)
      refine lv_iload hx hb dX3_telling_44 (lv_at hl 0 rfl) ?_
      refine lv_iload_n hx hb dX3_telling_46 rfl (lv_at hl 3 rfl) ?_
      refine wz_rI (c' := 0) (s' := 0) hW (wz_runS (rest := [.int v42]) C hW lTX3_40 (ctJ6_bitCount_0f7a4 l G l1 z rfl) ⟨⟨rfl, rfl⟩, Nat.le_of_ble_eq_true rfl, Nat.le_of_ble_eq_true rfl⟩ rfl hl.1 rfl (Nat.le_of_ble_eq_true rfl) dX3_telling_47 ⟨Nat.le_of_ble_eq_true rfl, Nat.le_of_ble_eq_true rfl⟩) rfl rfl (fun H locs hW => ?_)
      refine lv_iload hx hb dX3_telling_50 (lv_at hl 0 rfl) ?_
      refine lv_isub hx hb dX3_telling_52 ?_
      refine wz_max ⟨tw 1174 (by decide +kernel) rfl, tw 733 (by decide +kernel) rfl, tw 129 (by decide +kernel) rfl, tw 734 (by decide +kernel) rfl⟩ C hl.1 ⟨⟨Nat.le_of_ble_eq_true rfl, Nat.le_of_ble_eq_true rfl⟩, Nat.le_of_ble_eq_true rfl, Nat.le_of_ble_eq_true rfl⟩ (Nat.le_of_ble_eq_true rfl) dX3_telling_53 ?_
      refine lv_topi (fun v56 ev56 => ?_)
      have h := nm_to h ev56
      refine lv_istore (lv' := [(7, .int v56), (6, .int v42), (5, .int x27), (0, .ref (gB G + a0)), (1, .int l1), (2, .int l2), (3, .int l3), (4, .int l4)]) hx hb dX3_telling_56 hl (by decide) rfl (fun ls hl => ?_)
      refine lv_iload hx hb dX3_telling_58 (lv_at hl 2 rfl) ?_
      refine lv_if_eq (tgt := 75) hx hb dX3_telling_60 (by decide) (fun c60 => ?_) (fun c60 => ?_)
      · have h := ite_t c60 h
        obtain ⟨v75, ev75⟩ : ∃ y : Int32, y = (l4 + (1 : Int32)) := ⟨_, rfl⟩
        have h := nm_to h ev75
        refine lv_iinc (v := v75) (lv' := [(4, .int v75), (7, .int v56), (6, .int v42), (5, .int x27), (0, .ref (gB G + a0)), (1, .int l1), (2, .int l2), (3, .int l3)]) hx hb dX3_telling_75 hl (k := 7) rfl (by rw [ev75]; rfl) (by decide) rfl (fun ls hl => ?_)
        refine lv_goto (tgt := 13) hx hb dX3_telling_78 (by decide) ?_
        exact hk13 a0 l1 l2 l3 v75 _ _ _ h hW (lv_sub hl [4, 5, 6, 7, 0] rfl)
      · have h := ite_f c60 h
        refine lv_iload hx hb dX3_telling_63 (lv_at hl 0 rfl) ?_
        refine lv_iload_n hx hb dX3_telling_65 rfl (lv_at hl 6 rfl) ?_
        refine lv_icmp_ge (tgt := 75) hx hb dX3_telling_66 (by decide) (fun c66 => ?_) (fun c66 => ?_)
        · have h := ite_t c66 h
          obtain ⟨v75, ev75⟩ : ∃ y : Int32, y = (l4 + (1 : Int32)) := ⟨_, rfl⟩
          have h := nm_to h ev75
          refine lv_iinc (v := v75) (lv' := [(4, .int v75), (7, .int v56), (6, .int v42), (5, .int x27), (0, .ref (gB G + a0)), (1, .int l1), (2, .int l2), (3, .int l3)]) hx hb dX3_telling_75 hl (k := 7) rfl (by rw [ev75]; rfl) (by decide) rfl (fun ls hl => ?_)
          refine lv_goto (tgt := 13) hx hb dX3_telling_78 (by decide) ?_
          exact hk13 a0 l1 l2 l3 v75 _ _ _ h hW (lv_sub hl [4, 5, 6, 7, 0] rfl)
        · have h := ite_f c66 h
          refine lv_iload hx hb dX3_telling_69 (lv_at hl 7 rfl) ?_
          refine lv_istore_n (lv' := [(2, .int l4), (7, .int v56), (6, .int v42), (5, .int x27), (0, .ref (gB G + a0)), (1, .int l1), (3, .int l3), (4, .int l4)]) hx hb dX3_telling_71 rfl hl (by decide) rfl (fun ls hl => ?_)
          refine lv_iload hx hb dX3_telling_72 (lv_at hl 1 rfl) ?_
          refine lv_istore_n (lv' := [(3, .int v56), (2, .int l4), (7, .int v56), (6, .int v42), (5, .int x27), (0, .ref (gB G + a0)), (1, .int l1), (4, .int l4)]) hx hb dX3_telling_74 rfl hl (by decide) rfl (fun ls hl => ?_)
          obtain ⟨v75, ev75⟩ : ∃ y : Int32, y = (l4 + (1 : Int32)) := ⟨_, rfl⟩
          have h := nm_to h ev75
          refine lv_iinc (v := v75) (lv' := [(4, .int v75), (3, .int v56), (2, .int l4), (7, .int v56), (6, .int v42), (5, .int x27), (0, .ref (gB G + a0)), (1, .int l1)]) hx hb dX3_telling_75 hl (k := 7) rfl (by rw [ev75]; rfl) (by decide) rfl (fun ls hl => ?_)
          refine lv_goto (tgt := 13) hx hb dX3_telling_78 (by decide) ?_
          exact hk13 a0 l1 l4 v56 v75 _ _ _ h hW (lv_sub hl [6, 7, 2, 1, 0] rfl)
def fX3_telling_13 (z : AH) : Nat → Nat → Int32 → Int32 → Int32 → Int32 → Option (Int32)
  | 0, _, _, _, _, _ => none
  | n + 1, a0, l1, l2, l3, l4 => bX3_telling_13 (fX3_telling_13 z n) a0 l1 l2 l3 l4 z
theorem klX3_telling_13 {p : Program} {l : Launch} {e : Env} {s : State} {m : MethodId} {args : Array Value} {below : List Frame} {meth : Method} {c : Code} {G : GW} {r : Int32} (C : Cx p m c cX3_telling 8 s args RX3 G) (hlk : meth.locks = false) (hr : meth.sig.returnType = (some .int)) {z : AH} : ∀ (n : Nat) (a0 : Nat) (l1 : Int32) (l2 : Int32) (l3 : Int32) (l4 : Int32) (H : Heap) (locs : List Loc) (ls : Array Slot), fX3_telling_13 z n a0 l1 l2 l3 l4 = some r → Wb G z s H locs → lv_has ls 8 [(0, .ref (gB G + a0)), (1, .int l1), (2, .int l2), (3, .int l3), (4, .int l4)] → W p l e rmX3_telling s m args below meth c H locs 0 0 (MQ below (Qi G r z) args s 0 0 (AA G)) (F0 m 13 ls []) := by
  intro n
  induction n with
  | zero => intro a0 l1 l2 l3 l4 H locs ls h; have h : (none : Option (Int32)) = some r := h; cases h
  | succ n ih => intro a0 l1 l2 l3 l4 H locs ls h hW hl; exact kbX3_telling_13 C hlk hr (fX3_telling_13 z n) (fun a0 l1 l2 l3 l4 H locs ls h hW hl => ih a0 l1 l2 l3 l4 H locs ls h hW hl) a0 l1 l2 l3 l4 h hW hl
def fX3_telling (a0 : Nat) (z : AH) : Option (Int32) :=
  (fX3_fitting a0 z).bind fun x1 =>
  fX3_telling_13 z FU a0 x1 (-1 : Int32) (17 : Int32) (0 : Int32)
set_option maxHeartbeats 4000000 in
set_option maxRecDepth 100000 in
theorem ctX3_telling (l : Launch) (G : GW) (a0 : Nat) (z : AH) {r : Int32} (h : fX3_telling a0 z = some r) : Met l yX3_telling (wy yX3_telling cX3_telling 8 (some .int)) rmX3_telling (Pz G [.ref (gB G + a0)] z) (Qi G r z) 0 0 (AA G) := by
  refine wz_ent (own := RX3) (by decide +kernel) rfl (fun p e s m below meth c ls C hlk hr hin hW hl => ?_) (Nat.le_of_ble_eq_true rfl)
  have hl : lv_has ls 8 [(0, .ref (gB G + a0))] := hl
  have hx := C.1
  have hb := C.2.1
  unfold fX3_telling at h
  refine lv_aload_n hx hb dX3_telling_0 rfl (lv_at hl 0 rfl) ?_
  obtain ⟨x1, hq, h⟩ := ob h
  refine wz_rI (c' := 0) (s' := 0) hW (wz_runS (rest := []) C hW lTX3_45 (ctX3_fitting l G a0 z hq) ⟨⟨rfl, rfl⟩, Nat.le_of_ble_eq_true rfl, Nat.le_of_ble_eq_true rfl⟩ rfl hl.1 rfl (Nat.le_of_ble_eq_true rfl) dX3_telling_1 ⟨Nat.le_of_ble_eq_true rfl, Nat.le_of_ble_eq_true rfl⟩) rfl rfl (fun H locs hW => ?_)
  refine lv_istore_n (lv' := [(1, .int x1), (0, .ref (gB G + a0))]) hx hb dX3_telling_4 rfl hl (by decide) rfl (fun ls hl => ?_)
  refine lv_iconst (v := -1) hx hb dX3_telling_5 (by decide) ?_
  refine lv_istore_n (lv' := [(2, .int (-1 : Int32)), (1, .int x1), (0, .ref (gB G + a0))]) hx hb dX3_telling_6 rfl hl (by decide) rfl (fun ls hl => ?_)
  refine lv_bipush (v := 17) hx hb dX3_telling_7 (by decide) ?_
  refine lv_istore_n (lv' := [(3, .int (17 : Int32)), (2, .int (-1 : Int32)), (1, .int x1), (0, .ref (gB G + a0))]) hx hb dX3_telling_9 rfl hl (by decide) rfl (fun ls hl => ?_)
  refine lv_iconst (v := 0) hx hb dX3_telling_10 (by decide) ?_
  refine lv_istore (lv' := [(4, .int (0 : Int32)), (3, .int (17 : Int32)), (2, .int (-1 : Int32)), (1, .int x1), (0, .ref (gB G + a0))]) hx hb dX3_telling_11 hl (by decide) rfl (fun ls hl => ?_)
  exact klX3_telling_13 C hlk hr FU a0 x1 (-1 : Int32) (17 : Int32) (0 : Int32) _ _ _ h hW (lv_sub hl [4, 3, 2, 1, 0] rfl)
theorem flX4_11 : FL RX4 11 3 0 := ⟨_, rfl, Nat.le_of_ble_eq_true rfl, tw 294 (by decide +kernel) rfl, rfl⟩
theorem flX4_15 : FL RX4 15 3 1 := ⟨_, rfl, Nat.le_of_ble_eq_true rfl, tw 295 (by decide +kernel) rfl, rfl⟩
theorem flX4_18 : FL RX4 18 3 2 := ⟨_, rfl, Nat.le_of_ble_eq_true rfl, tw 296 (by decide +kernel) rfl, rfl⟩
theorem flX4_21 : FL RX4 21 3 3 := ⟨_, rfl, Nat.le_of_ble_eq_true rfl, tw 297 (by decide +kernel) rfl, rfl⟩
theorem flX4_27 : FL RX4 27 3 4 := ⟨_, rfl, Nat.le_of_ble_eq_true rfl, tw 298 (by decide +kernel) rfl, rfl⟩
theorem flX4_30 : FL RX4 30 3 7 := ⟨_, rfl, Nat.le_of_ble_eq_true rfl, tw 301 (by decide +kernel) rfl, rfl⟩
theorem dX4_init_0 : decode cX4_init 0 = .ok (.aload_n 0, 1) := by decide +kernel
theorem dX4_init_1 : decode cX4_init 1 = .ok (.invokespecial 3, 3) := by decide +kernel
theorem dX4_init_4 : decode cX4_init 4 = .ok (.aload_n 0, 1) := by decide +kernel
theorem dX4_init_5 : decode cX4_init 5 = .ok (.bipush 120, 2) := by decide +kernel
theorem dX4_init_7 : decode cX4_init 7 = .ok (.newarray .int, 2) := by decide +kernel
theorem dX4_init_9 : decode cX4_init 9 = .ok (.putfield 11, 3) := by decide +kernel
theorem dX4_init_12 : decode cX4_init 12 = .ok (.aload_n 0, 1) := by decide +kernel
theorem dX4_init_13 : decode cX4_init 13 = .ok (.bipush 120, 2) := by decide +kernel
theorem dX4_init_15 : decode cX4_init 15 = .ok (.newarray .int, 2) := by decide +kernel
theorem dX4_init_17 : decode cX4_init 17 = .ok (.putfield 15, 3) := by decide +kernel
theorem dX4_init_20 : decode cX4_init 20 = .ok (.aload_n 0, 1) := by decide +kernel
theorem dX4_init_21 : decode cX4_init 21 = .ok (.sipush 360, 3) := by decide +kernel
theorem dX4_init_24 : decode cX4_init 24 = .ok (.newarray .int, 2) := by decide +kernel
theorem dX4_init_26 : decode cX4_init 26 = .ok (.putfield 18, 3) := by decide +kernel
theorem dX4_init_29 : decode cX4_init 29 = .ok (.aload_n 0, 1) := by decide +kernel
theorem dX4_init_30 : decode cX4_init 30 = .ok (.sipush 360, 3) := by decide +kernel
theorem dX4_init_33 : decode cX4_init 33 = .ok (.newarray .int, 2) := by decide +kernel
theorem dX4_init_35 : decode cX4_init 35 = .ok (.putfield 21, 3) := by decide +kernel
theorem dX4_init_38 : decode cX4_init 38 = .ok (.aload_n 0, 1) := by decide +kernel
theorem dX4_init_39 : decode cX4_init 39 = .ok (.getstatic 24, 3) := by decide +kernel
theorem dX4_init_42 : decode cX4_init 42 = .ok (.arraylength, 1) := by decide +kernel
theorem dX4_init_43 : decode cX4_init 43 = .ok (.newarray .int, 2) := by decide +kernel
theorem dX4_init_45 : decode cX4_init 45 = .ok (.putfield 27, 3) := by decide +kernel
theorem dX4_init_48 : decode cX4_init 48 = .ok (.aload_n 0, 1) := by decide +kernel
theorem dX4_init_49 : decode cX4_init 49 = .ok (.aconst_null, 1) := by decide +kernel
theorem dX4_init_50 : decode cX4_init 50 = .ok (.putfield 30, 3) := by decide +kernel
theorem dX4_init_53 : decode cX4_init 53 = .ok (.return_, 1) := by decide +kernel
abbrev rmX4_init : Room := { frames := 1, cells := 5, slots := 968, locals := 20 }
def fX4_init (a0 : Nat) (z : AH) : Option AH :=
  if isO 3 z a0 = true then
    mk (.inl (0, 120, fun _ => 0)) z fun b7 z7 =>
    (pF 3 0 z7 a0 (.ref b7)).bind fun z9 =>
    mk (.inl (0, 120, fun _ => 0)) z9 fun b15 z15 =>
    (pF 3 1 z15 a0 (.ref b15)).bind fun z17 =>
    mk (.inl (0, 360, fun _ => 0)) z17 fun b24 z24 =>
    (pF 3 2 z24 a0 (.ref b24)).bind fun z26 =>
    mk (.inl (0, 360, fun _ => 0)) z26 fun b33 z33 =>
    (pF 3 3 z33 a0 (.ref b33)).bind fun z35 =>
    mk (.inl (0, 8, fun _ => 0)) z35 fun b43 z43 =>
    (pF 3 4 z43 a0 (.ref b43)).bind fun z45 =>
    (pF 3 7 z45 a0 .null).bind fun z50 =>
    some z50
  else none
set_option maxHeartbeats 4000000 in
set_option maxRecDepth 100000 in
theorem ctX4_init (l : Launch) (G : GW) (a0 : Nat) (z : AH) {z' : AH} (h : fX4_init a0 z = some z') : Met l yX4_init (wy yX4_init cX4_init 1 none) rmX4_init (Pz G [.ref (gB G + a0)] z) (Qv G z') 5 968 (AA G) := by
  refine wz_ent (own := RX4) (by decide +kernel) rfl (fun p e s m below meth c ls C hlk hr hin hW hl => ?_) (Nat.le_of_ble_eq_true rfl)
  have hl : lv_has ls 1 [(0, .ref (gB G + a0))] := hl
  have hx := C.1
  have hb := C.2.1
  unfold fX4_init at h
  obtain ⟨-, h⟩ := ck h
  refine lv_aload_n hx hb dX4_init_0 rfl (lv_at hl 0 rfl) ?_
  refine wz_obj ⟨tw 291 (by decide +kernel) rfl, tw 144 (by decide +kernel) rfl, tw 145 (by decide +kernel) rfl⟩ C hl.1 dX4_init_1 ⟨Nat.le_of_ble_eq_true rfl, Nat.le_of_ble_eq_true rfl⟩ ?_
  refine lv_aload_n hx hb dX4_init_4 rfl (lv_at hl 0 rfl) ?_
  refine lv_bipush (v := 120) hx hb dX4_init_5 (by decide) ?_
  obtain ⟨b7, z7, ea, ez, h⟩ := mk_ob h
  refine wz_newIK (N := 120) (c' := 1) (s' := 120) ea ez (tw 247 (by decide +kernel) rfl) C hW (by decide) (by decide +kernel) (Nat.le_of_ble_eq_true rfl) ⟨Nat.le_of_ble_eq_true rfl, Nat.le_of_ble_eq_true rfl⟩ rfl rfl dX4_init_7 (fun H hW => ?_)
  obtain ⟨z9, hg, h⟩ := ob h
  refine wz_putF (v := (.ref b7)) C hin hW flX4_11 rfl rfl hg dX4_init_9 (fun H locs hW => ?_)
  refine lv_aload_n hx hb dX4_init_12 rfl (lv_at hl 0 rfl) ?_
  refine lv_bipush (v := 120) hx hb dX4_init_13 (by decide) ?_
  obtain ⟨b15, z15, ea, ez, h⟩ := mk_ob h
  refine wz_newIK (N := 120) (c' := 2) (s' := 240) ea ez (tw 247 (by decide +kernel) rfl) C hW (by decide) (by decide +kernel) (Nat.le_of_ble_eq_true rfl) ⟨Nat.le_of_ble_eq_true rfl, Nat.le_of_ble_eq_true rfl⟩ rfl rfl dX4_init_15 (fun H hW => ?_)
  obtain ⟨z17, hg, h⟩ := ob h
  refine wz_putF (v := (.ref b15)) C hin hW flX4_15 rfl rfl hg dX4_init_17 (fun H locs hW => ?_)
  refine lv_aload_n hx hb dX4_init_20 rfl (lv_at hl 0 rfl) ?_
  refine lv_sipush (v := 360) hx hb dX4_init_21 (by decide) ?_
  obtain ⟨b24, z24, ea, ez, h⟩ := mk_ob h
  refine wz_newIK (N := 360) (c' := 3) (s' := 600) ea ez (tw 247 (by decide +kernel) rfl) C hW (by decide) (by decide +kernel) (Nat.le_of_ble_eq_true rfl) ⟨Nat.le_of_ble_eq_true rfl, Nat.le_of_ble_eq_true rfl⟩ rfl rfl dX4_init_24 (fun H hW => ?_)
  obtain ⟨z26, hg, h⟩ := ob h
  refine wz_putF (v := (.ref b24)) C hin hW flX4_18 rfl rfl hg dX4_init_26 (fun H locs hW => ?_)
  refine lv_aload_n hx hb dX4_init_29 rfl (lv_at hl 0 rfl) ?_
  refine lv_sipush (v := 360) hx hb dX4_init_30 (by decide) ?_
  obtain ⟨b33, z33, ea, ez, h⟩ := mk_ob h
  refine wz_newIK (N := 360) (c' := 4) (s' := 960) ea ez (tw 247 (by decide +kernel) rfl) C hW (by decide) (by decide +kernel) (Nat.le_of_ble_eq_true rfl) ⟨Nat.le_of_ble_eq_true rfl, Nat.le_of_ble_eq_true rfl⟩ rfl rfl dX4_init_33 (fun H hW => ?_)
  obtain ⟨z35, hg, h⟩ := ob h
  refine wz_putF (v := (.ref b33)) C hin hW flX4_21 rfl rfl hg dX4_init_35 (fun H locs hW => ?_)
  refine lv_aload_n hx hb dX4_init_38 rfl (lv_at hl 0 rfl) ?_
  refine wz_gets (i := 4) (by decide) rfl (tw 292 (by decide +kernel) rfl) C hW dX4_init_39 ?_
  refine wz_slen (i := 4) (by decide) C hW dX4_init_42 ?_
  obtain ⟨b43, z43, ea, ez, h⟩ := mk_ob h
  refine wz_newIK (N := 8) (c' := 5) (s' := 968) ea ez (tw 247 (by decide +kernel) rfl) C hW (by decide) (by decide +kernel) (Nat.le_of_ble_eq_true rfl) ⟨Nat.le_of_ble_eq_true rfl, Nat.le_of_ble_eq_true rfl⟩ rfl rfl dX4_init_43 (fun H hW => ?_)
  obtain ⟨z45, hg, h⟩ := ob h
  refine wz_putF (v := (.ref b43)) C hin hW flX4_27 rfl rfl hg dX4_init_45 (fun H locs hW => ?_)
  refine lv_aload_n hx hb dX4_init_48 rfl (lv_at hl 0 rfl) ?_
  refine lv_null hx hb dX4_init_49 ?_
  obtain ⟨z50, hg, h⟩ := ob h
  refine wz_put (v := .null) C hW flX4_30 rfl rfl hg dX4_init_50 (fun H locs hW => ?_)
  exact wz_vretE C hlk hr (Option.some.inj h) hW dX4_init_53
theorem flX4_40 : FL RX4 40 3 8 := ⟨_, rfl, Nat.le_of_ble_eq_true rfl, tw 302 (by decide +kernel) rfl, rfl⟩
theorem dX4_byteAt_0 : decode cX4_byteAt 0 = .ok (.aload_n 0, 1) := by decide +kernel
theorem dX4_byteAt_1 : decode cX4_byteAt 1 = .ok (.getfield 30, 3) := by decide +kernel
theorem dX4_byteAt_4 : decode cX4_byteAt 4 = .ok (.ifnull 37, 3) := by decide +kernel
theorem dX4_byteAt_7 : decode cX4_byteAt 7 = .ok (.iload_n 1, 1) := by decide +kernel
theorem dX4_byteAt_8 : decode cX4_byteAt 8 = .ok (.ifCond .lt 33, 3) := by decide +kernel
theorem dX4_byteAt_11 : decode cX4_byteAt 11 = .ok (.iload_n 1, 1) := by decide +kernel
theorem dX4_byteAt_12 : decode cX4_byteAt 12 = .ok (.aload_n 0, 1) := by decide +kernel
theorem dX4_byteAt_13 : decode cX4_byteAt 13 = .ok (.getfield 40, 3) := by decide +kernel
theorem dX4_byteAt_16 : decode cX4_byteAt 16 = .ok (.if_icmp .ge 25, 3) := by decide +kernel
theorem dX4_byteAt_19 : decode cX4_byteAt 19 = .ok (.iload_n 1, 1) := by decide +kernel
theorem dX4_byteAt_20 : decode cX4_byteAt 20 = .ok (.aload_n 0, 1) := by decide +kernel
theorem dX4_byteAt_21 : decode cX4_byteAt 21 = .ok (.getfield 30, 3) := by decide +kernel
theorem dX4_byteAt_24 : decode cX4_byteAt 24 = .ok (.arraylength, 1) := by decide +kernel
theorem dX4_byteAt_25 : decode cX4_byteAt 25 = .ok (.if_icmp .ge 16, 3) := by decide +kernel
theorem dX4_byteAt_28 : decode cX4_byteAt 28 = .ok (.aload_n 0, 1) := by decide +kernel
theorem dX4_byteAt_29 : decode cX4_byteAt 29 = .ok (.getfield 30, 3) := by decide +kernel
theorem dX4_byteAt_32 : decode cX4_byteAt 32 = .ok (.iload_n 1, 1) := by decide +kernel
theorem dX4_byteAt_33 : decode cX4_byteAt 33 = .ok (.baload, 1) := by decide +kernel
theorem dX4_byteAt_34 : decode cX4_byteAt 34 = .ok (.sipush 255, 3) := by decide +kernel
theorem dX4_byteAt_37 : decode cX4_byteAt 37 = .ok (.iand, 1) := by decide +kernel
theorem dX4_byteAt_38 : decode cX4_byteAt 38 = .ok (.goto 4, 3) := by decide +kernel
theorem dX4_byteAt_41 : decode cX4_byteAt 41 = .ok (.iconst (-1), 1) := by decide +kernel
theorem dX4_byteAt_42 : decode cX4_byteAt 42 = .ok (.ireturn, 1) := by decide +kernel
abbrev rmX4_byteAt : Room := { frames := 0, cells := 0, slots := 0, locals := 0 }
def fX4_byteAt (a0 : Nat) (l1 : Int32) (z : AH) : Option (Int32) :=
  if isO 3 z a0 = true then
    (gQ 3 7 z a0).bind fun q1_ =>
    nq q1_ (
      some (-1 : Int32)
    ) fun b4 =>
    if l1 < (0 : Int32) then (
      some (-1 : Int32)
    ) else (
      (gI 3 8 z a0).bind fun x13 =>
      if x13 ≤ l1 then (
        some (-1 : Int32)
      ) else (
        (gN 3 7 z a0).bind fun b21 =>
        (lnI 1 z b21).bind fun x24 =>
        if x24 ≤ l1 then (
          some (-1 : Int32)
        ) else (
          (gN 3 7 z a0).bind fun b29 =>
          (ixI 1 z b29 l1).bind fun x33 =>
          some (x33 &&& (255 : Int32))
        )
      )
    )
  else none
set_option maxHeartbeats 4000000 in
set_option maxRecDepth 100000 in
theorem ctX4_byteAt (l : Launch) (G : GW) (a0 : Nat) (l1 : Int32) (z : AH) {r : Int32} (h : fX4_byteAt a0 l1 z = some r) : Met l yX4_byteAt (wy yX4_byteAt cX4_byteAt 2 (some .int)) rmX4_byteAt (Pz G [.ref (gB G + a0), .int l1] z) (Qi G r z) 0 0 (AA G) := by
  refine wz_ent (own := RX4) (by decide +kernel) rfl (fun p e s m below meth c ls C hlk hr hin hW hl => ?_) (Nat.le_of_ble_eq_true rfl)
  have hl : lv_has ls 2 [(0, .ref (gB G + a0)), (1, .int l1)] := hl
  have hx := C.1
  have hb := C.2.1
  unfold fX4_byteAt at h
  obtain ⟨-, h⟩ := ck h
  refine lv_aload_n hx hb dX4_byteAt_0 rfl (lv_at hl 0 rfl) ?_
  obtain ⟨q1_, hg, h⟩ := ob h
  refine wz_gQ C hW flX4_30 hg dX4_byteAt_1 ?_
  cases q1_ with
  | none =>
    have h := nq_n h
    refine lv_ifnullN (tgt := 41) hx hb dX4_byteAt_4 (by decide) ?_
    refine lv_iconst (v := -1) hx hb dX4_byteAt_41 (by decide) ?_
    exact wz_iretE C hlk hr (Option.some.inj h) rfl hW dX4_byteAt_42
  | some b4 =>
    have h := nq_s h
    refine lv_ifnull hx hb dX4_byteAt_4 ?_
    refine lv_iload_n hx hb dX4_byteAt_7 rfl (lv_at hl 1 rfl) ?_
    refine lv_if_lt (tgt := 41) hx hb dX4_byteAt_8 (by decide) (fun c8 => ?_) (fun c8 => ?_)
    · have h := ite_t c8 h
      refine lv_iconst (v := -1) hx hb dX4_byteAt_41 (by decide) ?_
      exact wz_iretE C hlk hr (Option.some.inj h) rfl hW dX4_byteAt_42
    · have h := ite_f c8 h
      refine lv_iload_n hx hb dX4_byteAt_11 rfl (lv_at hl 1 rfl) ?_
      refine lv_aload_n hx hb dX4_byteAt_12 rfl (lv_at hl 0 rfl) ?_
      obtain ⟨x13, hg, h⟩ := ob h
      refine wz_gI C hW flX4_40 hg dX4_byteAt_13 ?_
      refine lv_icmp_ge (tgt := 41) hx hb dX4_byteAt_16 (by decide) (fun c16 => ?_) (fun c16 => ?_)
      · have h := ite_t c16 h
        refine lv_iconst (v := -1) hx hb dX4_byteAt_41 (by decide) ?_
        exact wz_iretE C hlk hr (Option.some.inj h) rfl hW dX4_byteAt_42
      · have h := ite_f c16 h
        refine lv_iload_n hx hb dX4_byteAt_19 rfl (lv_at hl 1 rfl) ?_
        refine lv_aload_n hx hb dX4_byteAt_20 rfl (lv_at hl 0 rfl) ?_
        obtain ⟨b21, hg, h⟩ := ob h
        refine wz_gN C hW flX4_30 hg dX4_byteAt_21 ?_
        obtain ⟨x24, hg, h⟩ := ob h
        refine wz_lenB C hW hg dX4_byteAt_24 ?_
        refine lv_icmp_ge (tgt := 41) hx hb dX4_byteAt_25 (by decide) (fun c25 => ?_) (fun c25 => ?_)
        · have h := ite_t c25 h
          refine lv_iconst (v := -1) hx hb dX4_byteAt_41 (by decide) ?_
          exact wz_iretE C hlk hr (Option.some.inj h) rfl hW dX4_byteAt_42
        · have h := ite_f c25 h
          refine lv_aload_n hx hb dX4_byteAt_28 rfl (lv_at hl 0 rfl) ?_
          obtain ⟨b29, hg, h⟩ := ob h
          refine wz_gN C hW flX4_30 hg dX4_byteAt_29 ?_
          refine lv_iload_n hx hb dX4_byteAt_32 rfl (lv_at hl 1 rfl) ?_
          obtain ⟨x33, hg, h⟩ := ob h
          refine wz_bld C hW hg dX4_byteAt_33 ?_
          refine lv_sipush (v := 255) hx hb dX4_byteAt_34 (by decide) ?_
          refine lv_iand hx hb dX4_byteAt_37 ?_
          refine lv_goto (tgt := 42) hx hb dX4_byteAt_38 (by decide) ?_
          exact wz_iretE C hlk hr (Option.some.inj h) rfl hW dX4_byteAt_42
theorem dX4_isLetter_0 : decode cX4_isLetter 0 = .ok (.iload_n 0, 1) := by decide +kernel
theorem dX4_isLetter_1 : decode cX4_isLetter 1 = .ok (.bipush 97, 2) := by decide +kernel
theorem dX4_isLetter_3 : decode cX4_isLetter 3 = .ok (.if_icmp .lt 13, 3) := by decide +kernel
theorem dX4_isLetter_6 : decode cX4_isLetter 6 = .ok (.iload_n 0, 1) := by decide +kernel
theorem dX4_isLetter_7 : decode cX4_isLetter 7 = .ok (.bipush 122, 2) := by decide +kernel
theorem dX4_isLetter_9 : decode cX4_isLetter 9 = .ok (.if_icmp .gt 7, 3) := by decide +kernel
theorem dX4_isLetter_12 : decode cX4_isLetter 12 = .ok (.iconst 1, 1) := by decide +kernel
theorem dX4_isLetter_13 : decode cX4_isLetter 13 = .ok (.goto 4, 3) := by decide +kernel
theorem dX4_isLetter_16 : decode cX4_isLetter 16 = .ok (.iconst 0, 1) := by decide +kernel
theorem dX4_isLetter_17 : decode cX4_isLetter 17 = .ok (.ireturn, 1) := by decide +kernel
abbrev rmX4_isLetter : Room := { frames := 0, cells := 0, slots := 0, locals := 0 }
def fX4_isLetter (l0 : Int32) : Int32 :=
  if l0 < (97 : Int32) then (
    (0 : Int32)
  ) else (
    if (122 : Int32) < l0 then (
      (0 : Int32)
    ) else (
      (1 : Int32)
    )
  )
set_option maxHeartbeats 4000000 in
set_option maxRecDepth 100000 in
theorem ctX4_isLetter (l : Launch) (G : GW) (l0 : Int32) (z : AH) {r : Int32} (h : fX4_isLetter l0 = r) : Met l yX4_isLetter (wy yX4_isLetter cX4_isLetter 1 (some .boolean)) rmX4_isLetter (Pz G [.int l0] z) (Qi G r z) 0 0 (AA G) := by
  refine wz_ent (own := RX4) (by decide +kernel) rfl (fun p e s m below meth c ls C hlk hr hin hW hl => ?_) (Nat.le_of_ble_eq_true rfl)
  have hl : lv_has ls 1 [(0, .int l0)] := hl
  have hx := C.1
  have hb := C.2.1
  unfold fX4_isLetter at h
  refine lv_iload_n hx hb dX4_isLetter_0 rfl (lv_at hl 0 rfl) ?_
  refine lv_bipush (v := 97) hx hb dX4_isLetter_1 (by decide) ?_
  refine lv_icmp_lt (tgt := 16) hx hb dX4_isLetter_3 (by decide) (fun c3 => ?_) (fun c3 => ?_)
  · have h := ite_t c3 h
    refine lv_iconst (v := 0) hx hb dX4_isLetter_16 (by decide) ?_
    exact wz_zretE C hlk hr (Or.inl rfl) h rfl hW dX4_isLetter_17
  · have h := ite_f c3 h
    refine lv_iload_n hx hb dX4_isLetter_6 rfl (lv_at hl 0 rfl) ?_
    refine lv_bipush (v := 122) hx hb dX4_isLetter_7 (by decide) ?_
    refine lv_icmp_gt (tgt := 16) hx hb dX4_isLetter_9 (by decide) (fun c9 => ?_) (fun c9 => ?_)
    · have h := ite_t c9 h
      refine lv_iconst (v := 0) hx hb dX4_isLetter_16 (by decide) ?_
      exact wz_zretE C hlk hr (Or.inl rfl) h rfl hW dX4_isLetter_17
    · have h := ite_f c9 h
      refine lv_iconst (v := 1) hx hb dX4_isLetter_12 (by decide) ?_
      refine lv_goto (tgt := 17) hx hb dX4_isLetter_13 (by decide) ?_
      exact wz_zretE C hlk hr (Or.inr rfl) h rfl hW dX4_isLetter_17
theorem flX4_50 : FL RX4 50 3 9 := ⟨_, rfl, Nat.le_of_ble_eq_true rfl, tw 303 (by decide +kernel) rfl, rfl⟩
theorem flX4_75 : FL RX4 75 3 10 := ⟨_, rfl, Nat.le_of_ble_eq_true rfl, tw 304 (by decide +kernel) rfl, rfl⟩
theorem lVX4_68 : LV RX4 68 yX4_byteAt cX4_byteAt 2 (some .int) 1 := ⟨tw 542 (by decide +kernel) rfl, tw 544 (by decide +kernel) rfl, tw 2 (by decide +kernel) rfl, tw 123 (by decide +kernel) rfl, tw 545 (by decide +kernel) rfl, ⟨by decide +kernel, by decide +kernel, by decide +kernel⟩⟩
theorem lTX4_78 : LT RX4 78 yX4_isLetter cX4_isLetter 1 (some .boolean) 1 := ⟨tw 546 (by decide +kernel) rfl, tw 547 (by decide +kernel) rfl, tw 123 (by decide +kernel) rfl, tw 548 (by decide +kernel) rfl, ⟨by decide +kernel, by decide +kernel, by decide +kernel⟩⟩
theorem dX4_readWord_0 : decode cX4_readWord 0 = .ok (.aload_n 0, 1) := by decide +kernel
theorem dX4_readWord_1 : decode cX4_readWord 1 = .ok (.getfield 50, 3) := by decide +kernel
theorem dX4_readWord_4 : decode cX4_readWord 4 = .ok (.aload_n 0, 1) := by decide +kernel
theorem dX4_readWord_5 : decode cX4_readWord 5 = .ok (.getfield 40, 3) := by decide +kernel
theorem dX4_readWord_8 : decode cX4_readWord 8 = .ok (.if_icmp .ge 30, 3) := by decide +kernel
theorem dX4_readWord_11 : decode cX4_readWord 11 = .ok (.aload_n 0, 1) := by decide +kernel
theorem dX4_readWord_12 : decode cX4_readWord 12 = .ok (.aload_n 0, 1) := by decide +kernel
theorem dX4_readWord_13 : decode cX4_readWord 13 = .ok (.getfield 50, 3) := by decide +kernel
theorem dX4_readWord_16 : decode cX4_readWord 16 = .ok (.invokevirtual 68, 3) := by decide +kernel
theorem dX4_readWord_19 : decode cX4_readWord 19 = .ok (.invokestatic 78, 3) := by decide +kernel
theorem dX4_readWord_22 : decode cX4_readWord 22 = .ok (.ifCond .eq 16, 3) := by decide +kernel
theorem dX4_readWord_25 : decode cX4_readWord 25 = .ok (.aload_n 0, 1) := by decide +kernel
theorem dX4_readWord_26 : decode cX4_readWord 26 = .ok (.dup, 1) := by decide +kernel
theorem dX4_readWord_27 : decode cX4_readWord 27 = .ok (.getfield 50, 3) := by decide +kernel
theorem dX4_readWord_30 : decode cX4_readWord 30 = .ok (.iconst 1, 1) := by decide +kernel
theorem dX4_readWord_31 : decode cX4_readWord 31 = .ok (.iadd, 1) := by decide +kernel
theorem dX4_readWord_32 : decode cX4_readWord 32 = .ok (.putfield 50, 3) := by decide +kernel
theorem dX4_readWord_35 : decode cX4_readWord 35 = .ok (.goto (-35), 3) := by decide +kernel
theorem dX4_readWord_38 : decode cX4_readWord 38 = .ok (.aload_n 0, 1) := by decide +kernel
theorem dX4_readWord_39 : decode cX4_readWord 39 = .ok (.iconst 1, 1) := by decide +kernel
theorem dX4_readWord_40 : decode cX4_readWord 40 = .ok (.putfield 75, 3) := by decide +kernel
theorem dX4_readWord_43 : decode cX4_readWord 43 = .ok (.return_, 1) := by decide +kernel
abbrev rmX4_readWord : Room := { frames := 1, cells := 0, slots := 0, locals := 21 }
def bX4_readWord_0 (k0 : Nat → AH → Option AH) (a0 : Nat) (z : AH) : Option AH :=
  (gI 3 9 z a0).bind fun x1 =>
  (gI 3 8 z a0).bind fun x5 =>
  if x5 ≤ x1 then (
    (pF 3 10 z a0 (.int (1 : Int32))).bind fun z40 =>
    some z40
  ) else (
    (gI 3 9 z a0).bind fun x13 =>
    (fX4_byteAt a0 x13 z).bind fun x16 =>
    if (fX4_isLetter x16) = (0 : Int32) then (
      (pF 3 10 z a0 (.int (1 : Int32))).bind fun z40 =>
      some z40
    ) else (
      (gI 3 9 z a0).bind fun x27 =>
      (pF 3 9 z a0 (.int (x27 + (1 : Int32)))).bind fun z32 =>
      k0 a0 z32
    )
  )
set_option maxHeartbeats 4000000 in
set_option maxRecDepth 100000 in
theorem kbX4_readWord_0 {p : Program} {l : Launch} {e : Env} {s : State} {m : MethodId} {args : Array Value} {below : List Frame} {meth : Method} {c : Code} {G : GW} {z' : AH} (C : Cx p m c cX4_readWord 1 s args RX4 G) (hlk : meth.locks = false) (hr : meth.sig.returnType = none) (k0 : Nat → AH → Option AH) (hk0 : ∀ (a0 : Nat) (z : AH) (H : Heap) (locs : List Loc) (ls : Array Slot), k0 a0 z = some z' → Wb G z s H locs → lv_has ls 1 [(0, .ref (gB G + a0))] → W p l e rmX4_readWord s m args below meth c H locs 0 0 (MQ below (Qv G z') args s 0 0 (AA G)) (F0 m 0 ls [])) (a0 : Nat) {z : AH} {H : Heap} {locs : List Loc} {ls : Array Slot} (h : bX4_readWord_0 k0 a0 z = some z') (hW : Wb G z s H locs) (hl : lv_has ls 1 [(0, .ref (gB G + a0))]) : W p l e rmX4_readWord s m args below meth c H locs 0 0 (MQ below (Qv G z') args s 0 0 (AA G)) (F0 m 0 ls []) := by
  have hx := C.1
  have hb := C.2.1
  unfold bX4_readWord_0 at h
  refine lv_aload_n hx hb dX4_readWord_0 rfl (lv_at hl 0 rfl) ?_
  obtain ⟨x1, hg, h⟩ := ob h
  refine wz_gI C hW flX4_50 hg dX4_readWord_1 ?_
  refine lv_aload_n hx hb dX4_readWord_4 rfl (lv_at hl 0 rfl) ?_
  obtain ⟨x5, hg, h⟩ := ob h
  refine wz_gI C hW flX4_40 hg dX4_readWord_5 ?_
  refine lv_icmp_ge (tgt := 38) hx hb dX4_readWord_8 (by decide) (fun c8 => ?_) (fun c8 => ?_)
  · have h := ite_t c8 h
    refine lv_aload_n hx hb dX4_readWord_38 rfl (lv_at hl 0 rfl) ?_
    refine lv_iconst (v := 1) hx hb dX4_readWord_39 (by decide) ?_
    obtain ⟨z40, hg, h⟩ := ob h
    refine wz_put (v := (.int (1 : Int32))) C hW flX4_75 rfl rfl hg dX4_readWord_40 (fun H locs hW => ?_)
    exact wz_vretE C hlk hr (Option.some.inj h) hW dX4_readWord_43
  · have h := ite_f c8 h
    refine lv_aload_n hx hb dX4_readWord_11 rfl (lv_at hl 0 rfl) ?_
    refine lv_aload_n hx hb dX4_readWord_12 rfl (lv_at hl 0 rfl) ?_
    obtain ⟨x13, hg, h⟩ := ob h
    refine wz_gI C hW flX4_50 hg dX4_readWord_13 ?_
    obtain ⟨x16, hq, h⟩ := ob h
    refine wz_rI (c' := 0) (s' := 0) hW (wz_runV (rest := []) C hW lVX4_68 (ck hq).1 rfl (ctX4_byteAt l G a0 x13 z hq) ⟨⟨rfl, rfl⟩, Nat.le_of_ble_eq_true rfl, Nat.le_of_ble_eq_true rfl⟩ rfl hl.1 rfl (Nat.le_of_ble_eq_true rfl) dX4_readWord_16 ⟨Nat.le_of_ble_eq_true rfl, Nat.le_of_ble_eq_true rfl⟩) rfl rfl (fun H locs hW => ?_)
    refine wz_rI (c' := 0) (s' := 0) hW (wz_runS (rest := []) C hW lTX4_78 (ctX4_isLetter l G x16 z rfl) ⟨⟨rfl, rfl⟩, Nat.le_of_ble_eq_true rfl, Nat.le_of_ble_eq_true rfl⟩ rfl hl.1 rfl (Nat.le_of_ble_eq_true rfl) dX4_readWord_19 ⟨Nat.le_of_ble_eq_true rfl, Nat.le_of_ble_eq_true rfl⟩) rfl rfl (fun H locs hW => ?_)
    refine lv_if_eq (tgt := 38) hx hb dX4_readWord_22 (by decide) (fun c22 => ?_) (fun c22 => ?_)
    · have h := ite_t c22 h
      refine lv_aload_n hx hb dX4_readWord_38 rfl (lv_at hl 0 rfl) ?_
      refine lv_iconst (v := 1) hx hb dX4_readWord_39 (by decide) ?_
      obtain ⟨z40, hg, h⟩ := ob h
      refine wz_put (v := (.int (1 : Int32))) C hW flX4_75 rfl rfl hg dX4_readWord_40 (fun H locs hW => ?_)
      exact wz_vretE C hlk hr (Option.some.inj h) hW dX4_readWord_43
    · have h := ite_f c22 h
      refine lv_aload_n hx hb dX4_readWord_25 rfl (lv_at hl 0 rfl) ?_
      refine lv_dup hx hb dX4_readWord_26 rfl ?_
      obtain ⟨x27, hg, h⟩ := ob h
      refine wz_gI C hW flX4_50 hg dX4_readWord_27 ?_
      refine lv_iconst (v := 1) hx hb dX4_readWord_30 (by decide) ?_
      refine lv_iadd hx hb dX4_readWord_31 ?_
      obtain ⟨z32, hg, h⟩ := ob h
      refine wz_put (v := (.int (x27 + (1 : Int32)))) C hW flX4_50 rfl rfl hg dX4_readWord_32 (fun H locs hW => ?_)
      refine lv_goto (tgt := 0) hx hb dX4_readWord_35 (by decide) ?_
      exact hk0 a0 z32 _ _ _ h hW (lv_sub hl [0] rfl)
def fX4_readWord_0 : Nat → Nat → AH → Option AH
  | 0, _, _ => none
  | n + 1, a0, z => bX4_readWord_0 (fX4_readWord_0 n) a0 z
theorem klX4_readWord_0 {p : Program} {l : Launch} {e : Env} {s : State} {m : MethodId} {args : Array Value} {below : List Frame} {meth : Method} {c : Code} {G : GW} {z' : AH} (C : Cx p m c cX4_readWord 1 s args RX4 G) (hlk : meth.locks = false) (hr : meth.sig.returnType = none) : ∀ (n : Nat) (a0 : Nat) (z : AH) (H : Heap) (locs : List Loc) (ls : Array Slot), fX4_readWord_0 n a0 z = some z' → Wb G z s H locs → lv_has ls 1 [(0, .ref (gB G + a0))] → W p l e rmX4_readWord s m args below meth c H locs 0 0 (MQ below (Qv G z') args s 0 0 (AA G)) (F0 m 0 ls []) := by
  intro n
  induction n with
  | zero => intro a0 z H locs ls h; have h : (none : Option AH) = some z' := h; cases h
  | succ n ih => intro a0 z H locs ls h hW hl; exact kbX4_readWord_0 C hlk hr (fX4_readWord_0 n) (fun a0 z H locs ls h hW hl => ih a0 z H locs ls h hW hl) a0 h hW hl
def fX4_readWord (a0 : Nat) (z : AH) : Option AH :=
  if isO 3 z a0 = true then
    fX4_readWord_0 FU a0 z
  else none
set_option maxHeartbeats 4000000 in
set_option maxRecDepth 100000 in
theorem ctX4_readWord (l : Launch) (G : GW) (a0 : Nat) (z : AH) {z' : AH} (h : fX4_readWord a0 z = some z') : Met l yX4_readWord (wy yX4_readWord cX4_readWord 1 none) rmX4_readWord (Pz G [.ref (gB G + a0)] z) (Qv G z') 0 0 (AA G) := by
  refine wz_ent (own := RX4) (by decide +kernel) rfl (fun p e s m below meth c ls C hlk hr hin hW hl => ?_) (Nat.le_of_ble_eq_true rfl)
  have hl : lv_has ls 1 [(0, .ref (gB G + a0))] := hl
  have hx := C.1
  have hb := C.2.1
  unfold fX4_readWord at h
  obtain ⟨-, h⟩ := ck h
  exact klX4_readWord_0 C hlk hr FU a0 z _ _ _ h hW (lv_sub hl [0] rfl)
theorem dX4_isDigit_0 : decode cX4_isDigit 0 = .ok (.iload_n 0, 1) := by decide +kernel
theorem dX4_isDigit_1 : decode cX4_isDigit 1 = .ok (.bipush 48, 2) := by decide +kernel
theorem dX4_isDigit_3 : decode cX4_isDigit 3 = .ok (.if_icmp .lt 13, 3) := by decide +kernel
theorem dX4_isDigit_6 : decode cX4_isDigit 6 = .ok (.iload_n 0, 1) := by decide +kernel
theorem dX4_isDigit_7 : decode cX4_isDigit 7 = .ok (.bipush 57, 2) := by decide +kernel
theorem dX4_isDigit_9 : decode cX4_isDigit 9 = .ok (.if_icmp .gt 7, 3) := by decide +kernel
theorem dX4_isDigit_12 : decode cX4_isDigit 12 = .ok (.iconst 1, 1) := by decide +kernel
theorem dX4_isDigit_13 : decode cX4_isDigit 13 = .ok (.goto 4, 3) := by decide +kernel
theorem dX4_isDigit_16 : decode cX4_isDigit 16 = .ok (.iconst 0, 1) := by decide +kernel
theorem dX4_isDigit_17 : decode cX4_isDigit 17 = .ok (.ireturn, 1) := by decide +kernel
abbrev rmX4_isDigit : Room := { frames := 0, cells := 0, slots := 0, locals := 0 }
def fX4_isDigit (l0 : Int32) : Int32 :=
  if l0 < (48 : Int32) then (
    (0 : Int32)
  ) else (
    if (57 : Int32) < l0 then (
      (0 : Int32)
    ) else (
      (1 : Int32)
    )
  )
set_option maxHeartbeats 4000000 in
set_option maxRecDepth 100000 in
theorem ctX4_isDigit (l : Launch) (G : GW) (l0 : Int32) (z : AH) {r : Int32} (h : fX4_isDigit l0 = r) : Met l yX4_isDigit (wy yX4_isDigit cX4_isDigit 1 (some .boolean)) rmX4_isDigit (Pz G [.int l0] z) (Qi G r z) 0 0 (AA G) := by
  refine wz_ent (own := RX4) (by decide +kernel) rfl (fun p e s m below meth c ls C hlk hr hin hW hl => ?_) (Nat.le_of_ble_eq_true rfl)
  have hl : lv_has ls 1 [(0, .int l0)] := hl
  have hx := C.1
  have hb := C.2.1
  unfold fX4_isDigit at h
  refine lv_iload_n hx hb dX4_isDigit_0 rfl (lv_at hl 0 rfl) ?_
  refine lv_bipush (v := 48) hx hb dX4_isDigit_1 (by decide) ?_
  refine lv_icmp_lt (tgt := 16) hx hb dX4_isDigit_3 (by decide) (fun c3 => ?_) (fun c3 => ?_)
  · have h := ite_t c3 h
    refine lv_iconst (v := 0) hx hb dX4_isDigit_16 (by decide) ?_
    exact wz_zretE C hlk hr (Or.inl rfl) h rfl hW dX4_isDigit_17
  · have h := ite_f c3 h
    refine lv_iload_n hx hb dX4_isDigit_6 rfl (lv_at hl 0 rfl) ?_
    refine lv_bipush (v := 57) hx hb dX4_isDigit_7 (by decide) ?_
    refine lv_icmp_gt (tgt := 16) hx hb dX4_isDigit_9 (by decide) (fun c9 => ?_) (fun c9 => ?_)
    · have h := ite_t c9 h
      refine lv_iconst (v := 0) hx hb dX4_isDigit_16 (by decide) ?_
      exact wz_zretE C hlk hr (Or.inl rfl) h rfl hW dX4_isDigit_17
    · have h := ite_f c9 h
      refine lv_iconst (v := 1) hx hb dX4_isDigit_12 (by decide) ?_
      refine lv_goto (tgt := 17) hx hb dX4_isDigit_13 (by decide) ?_
      exact wz_zretE C hlk hr (Or.inr rfl) h rfl hW dX4_isDigit_17
theorem flX4_72 : FL RX4 72 3 11 := ⟨_, rfl, Nat.le_of_ble_eq_true rfl, tw 305 (by decide +kernel) rfl, rfl⟩
theorem lTX4_85 : LT RX4 85 yX4_isDigit cX4_isDigit 1 (some .boolean) 1 := ⟨tw 553 (by decide +kernel) rfl, tw 554 (by decide +kernel) rfl, tw 123 (by decide +kernel) rfl, tw 555 (by decide +kernel) rfl, ⟨by decide +kernel, by decide +kernel, by decide +kernel⟩⟩
theorem flX4_91 : FL RX4 91 3 12 := ⟨_, rfl, Nat.le_of_ble_eq_true rfl, tw 306 (by decide +kernel) rfl, rfl⟩
theorem dX4_readNumber_0 : decode cX4_readNumber 0 = .ok (.aload_n 0, 1) := by decide +kernel
theorem dX4_readNumber_1 : decode cX4_readNumber 1 = .ok (.iconst 0, 1) := by decide +kernel
theorem dX4_readNumber_2 : decode cX4_readNumber 2 = .ok (.putfield 91, 3) := by decide +kernel
theorem dX4_readNumber_5 : decode cX4_readNumber 5 = .ok (.aload_n 0, 1) := by decide +kernel
theorem dX4_readNumber_6 : decode cX4_readNumber 6 = .ok (.getfield 50, 3) := by decide +kernel
theorem dX4_readNumber_9 : decode cX4_readNumber 9 = .ok (.aload_n 0, 1) := by decide +kernel
theorem dX4_readNumber_10 : decode cX4_readNumber 10 = .ok (.getfield 40, 3) := by decide +kernel
theorem dX4_readNumber_13 : decode cX4_readNumber 13 = .ok (.if_icmp .ge 53, 3) := by decide +kernel
theorem dX4_readNumber_16 : decode cX4_readNumber 16 = .ok (.aload_n 0, 1) := by decide +kernel
theorem dX4_readNumber_17 : decode cX4_readNumber 17 = .ok (.aload_n 0, 1) := by decide +kernel
theorem dX4_readNumber_18 : decode cX4_readNumber 18 = .ok (.getfield 50, 3) := by decide +kernel
theorem dX4_readNumber_21 : decode cX4_readNumber 21 = .ok (.invokevirtual 68, 3) := by decide +kernel
theorem dX4_readNumber_24 : decode cX4_readNumber 24 = .ok (.invokestatic 85, 3) := by decide +kernel
theorem dX4_readNumber_27 : decode cX4_readNumber 27 = .ok (.ifCond .eq 39, 3) := by decide +kernel
theorem dX4_readNumber_30 : decode cX4_readNumber 30 = .ok (.aload_n 0, 1) := by decide +kernel
theorem dX4_readNumber_31 : decode cX4_readNumber 31 = .ok (.bipush 10, 2) := by decide +kernel
theorem dX4_readNumber_33 : decode cX4_readNumber 33 = .ok (.aload_n 0, 1) := by decide +kernel
theorem dX4_readNumber_34 : decode cX4_readNumber 34 = .ok (.getfield 91, 3) := by decide +kernel
theorem dX4_readNumber_37 : decode cX4_readNumber 37 = .ok (.imul, 1) := by decide +kernel
theorem dX4_readNumber_38 : decode cX4_readNumber 38 = .ok (.aload_n 0, 1) := by decide +kernel
theorem dX4_readNumber_39 : decode cX4_readNumber 39 = .ok (.aload_n 0, 1) := by decide +kernel
theorem dX4_readNumber_40 : decode cX4_readNumber 40 = .ok (.getfield 50, 3) := by decide +kernel
theorem dX4_readNumber_43 : decode cX4_readNumber 43 = .ok (.invokevirtual 68, 3) := by decide +kernel
theorem dX4_readNumber_46 : decode cX4_readNumber 46 = .ok (.iadd, 1) := by decide +kernel
theorem dX4_readNumber_47 : decode cX4_readNumber 47 = .ok (.bipush 48, 2) := by decide +kernel
theorem dX4_readNumber_49 : decode cX4_readNumber 49 = .ok (.isub, 1) := by decide +kernel
theorem dX4_readNumber_50 : decode cX4_readNumber 50 = .ok (.putfield 91, 3) := by decide +kernel
theorem dX4_readNumber_53 : decode cX4_readNumber 53 = .ok (.aload_n 0, 1) := by decide +kernel
theorem dX4_readNumber_54 : decode cX4_readNumber 54 = .ok (.dup, 1) := by decide +kernel
theorem dX4_readNumber_55 : decode cX4_readNumber 55 = .ok (.getfield 50, 3) := by decide +kernel
theorem dX4_readNumber_58 : decode cX4_readNumber 58 = .ok (.iconst 1, 1) := by decide +kernel
theorem dX4_readNumber_59 : decode cX4_readNumber 59 = .ok (.iadd, 1) := by decide +kernel
theorem dX4_readNumber_60 : decode cX4_readNumber 60 = .ok (.putfield 50, 3) := by decide +kernel
theorem dX4_readNumber_63 : decode cX4_readNumber 63 = .ok (.goto (-58), 3) := by decide +kernel
theorem dX4_readNumber_66 : decode cX4_readNumber 66 = .ok (.aload_n 0, 1) := by decide +kernel
theorem dX4_readNumber_67 : decode cX4_readNumber 67 = .ok (.aload_n 0, 1) := by decide +kernel
theorem dX4_readNumber_68 : decode cX4_readNumber 68 = .ok (.getfield 50, 3) := by decide +kernel
theorem dX4_readNumber_71 : decode cX4_readNumber 71 = .ok (.aload_n 0, 1) := by decide +kernel
theorem dX4_readNumber_72 : decode cX4_readNumber 72 = .ok (.getfield 72, 3) := by decide +kernel
theorem dX4_readNumber_75 : decode cX4_readNumber 75 = .ok (.isub, 1) := by decide +kernel
theorem dX4_readNumber_76 : decode cX4_readNumber 76 = .ok (.iconst 2, 1) := by decide +kernel
theorem dX4_readNumber_77 : decode cX4_readNumber 77 = .ok (.if_icmp .gt 7, 3) := by decide +kernel
theorem dX4_readNumber_80 : decode cX4_readNumber 80 = .ok (.iconst 2, 1) := by decide +kernel
theorem dX4_readNumber_81 : decode cX4_readNumber 81 = .ok (.goto 4, 3) := by decide +kernel
theorem dX4_readNumber_84 : decode cX4_readNumber 84 = .ok (.iconst 4, 1) := by decide +kernel
theorem dX4_readNumber_85 : decode cX4_readNumber 85 = .ok (.putfield 75, 3) := by decide +kernel
theorem dX4_readNumber_88 : decode cX4_readNumber 88 = .ok (.return_, 1) := by decide +kernel
abbrev rmX4_readNumber : Room := { frames := 1, cells := 0, slots := 0, locals := 21 }
def bX4_readNumber_66 (a0 : Nat) (z : AH) : Option AH :=
  (gI 3 9 z a0).bind fun x68 =>
  (gI 3 11 z a0).bind fun x72 =>
  if (2 : Int32) < (x68 - x72) then (
    (pF 3 10 z a0 (.int (4 : Int32))).bind fun z85 =>
    some z85
  ) else (
    (pF 3 10 z a0 (.int (2 : Int32))).bind fun z85 =>
    some z85
  )
set_option maxHeartbeats 4000000 in
set_option maxRecDepth 100000 in
theorem kbX4_readNumber_66 {p : Program} {l : Launch} {e : Env} {s : State} {m : MethodId} {args : Array Value} {below : List Frame} {meth : Method} {c : Code} {G : GW} {z' : AH} (C : Cx p m c cX4_readNumber 1 s args RX4 G) (hlk : meth.locks = false) (hr : meth.sig.returnType = none) (a0 : Nat) {z : AH} {H : Heap} {locs : List Loc} {ls : Array Slot} (h : bX4_readNumber_66 a0 z = some z') (hW : Wb G z s H locs) (hl : lv_has ls 1 [(0, .ref (gB G + a0))]) : W p l e rmX4_readNumber s m args below meth c H locs 0 0 (MQ below (Qv G z') args s 0 0 (AA G)) (F0 m 66 ls []) := by
  have hx := C.1
  have hb := C.2.1
  unfold bX4_readNumber_66 at h
  refine lv_aload_n hx hb dX4_readNumber_66 rfl (lv_at hl 0 rfl) ?_
  refine lv_aload_n hx hb dX4_readNumber_67 rfl (lv_at hl 0 rfl) ?_
  obtain ⟨x68, hg, h⟩ := ob h
  refine wz_gI C hW flX4_50 hg dX4_readNumber_68 ?_
  refine lv_aload_n hx hb dX4_readNumber_71 rfl (lv_at hl 0 rfl) ?_
  obtain ⟨x72, hg, h⟩ := ob h
  refine wz_gI C hW flX4_72 hg dX4_readNumber_72 ?_
  refine lv_isub hx hb dX4_readNumber_75 ?_
  refine lv_iconst (v := 2) hx hb dX4_readNumber_76 (by decide) ?_
  refine lv_icmp_gt (tgt := 84) hx hb dX4_readNumber_77 (by decide) (fun c77 => ?_) (fun c77 => ?_)
  · have h := ite_t c77 h
    refine lv_iconst (v := 4) hx hb dX4_readNumber_84 (by decide) ?_
    obtain ⟨z85, hg, h⟩ := ob h
    refine wz_put (v := (.int (4 : Int32))) C hW flX4_75 rfl rfl hg dX4_readNumber_85 (fun H locs hW => ?_)
    exact wz_vretE C hlk hr (Option.some.inj h) hW dX4_readNumber_88
  · have h := ite_f c77 h
    refine lv_iconst (v := 2) hx hb dX4_readNumber_80 (by decide) ?_
    refine lv_goto (tgt := 85) hx hb dX4_readNumber_81 (by decide) ?_
    obtain ⟨z85, hg, h⟩ := ob h
    refine wz_put (v := (.int (2 : Int32))) C hW flX4_75 rfl rfl hg dX4_readNumber_85 (fun H locs hW => ?_)
    exact wz_vretE C hlk hr (Option.some.inj h) hW dX4_readNumber_88
def bX4_readNumber_5 (k5 : Nat → AH → Option AH) (a0 : Nat) (z : AH) : Option AH :=
  (gI 3 9 z a0).bind fun x6 =>
  (gI 3 8 z a0).bind fun x10 =>
  if x10 ≤ x6 then (
    bX4_readNumber_66 a0 z
  ) else (
    (gI 3 9 z a0).bind fun x18 =>
    (fX4_byteAt a0 x18 z).bind fun x21 =>
    if (fX4_isDigit x21) = (0 : Int32) then (
      bX4_readNumber_66 a0 z
    ) else (
      (gI 3 12 z a0).bind fun x34 =>
      (gI 3 9 z a0).bind fun x40 =>
      (fX4_byteAt a0 x40 z).bind fun x43 =>
      (pF 3 12 z a0 (.int ((((10 : Int32) * x34) + x43) - (48 : Int32)))).bind fun z50 =>
      (gI 3 9 z50 a0).bind fun x55 =>
      (pF 3 9 z50 a0 (.int (x55 + (1 : Int32)))).bind fun z60 =>
      k5 a0 z60
    )
  )
set_option maxHeartbeats 4000000 in
set_option maxRecDepth 100000 in
theorem kbX4_readNumber_5 {p : Program} {l : Launch} {e : Env} {s : State} {m : MethodId} {args : Array Value} {below : List Frame} {meth : Method} {c : Code} {G : GW} {z' : AH} (C : Cx p m c cX4_readNumber 1 s args RX4 G) (hlk : meth.locks = false) (hr : meth.sig.returnType = none) (k5 : Nat → AH → Option AH) (hk5 : ∀ (a0 : Nat) (z : AH) (H : Heap) (locs : List Loc) (ls : Array Slot), k5 a0 z = some z' → Wb G z s H locs → lv_has ls 1 [(0, .ref (gB G + a0))] → W p l e rmX4_readNumber s m args below meth c H locs 0 0 (MQ below (Qv G z') args s 0 0 (AA G)) (F0 m 5 ls [])) (a0 : Nat) {z : AH} {H : Heap} {locs : List Loc} {ls : Array Slot} (h : bX4_readNumber_5 k5 a0 z = some z') (hW : Wb G z s H locs) (hl : lv_has ls 1 [(0, .ref (gB G + a0))]) : W p l e rmX4_readNumber s m args below meth c H locs 0 0 (MQ below (Qv G z') args s 0 0 (AA G)) (F0 m 5 ls []) := by
  have hx := C.1
  have hb := C.2.1
  unfold bX4_readNumber_5 at h
  refine lv_aload_n hx hb dX4_readNumber_5 rfl (lv_at hl 0 rfl) ?_
  obtain ⟨x6, hg, h⟩ := ob h
  refine wz_gI C hW flX4_50 hg dX4_readNumber_6 ?_
  refine lv_aload_n hx hb dX4_readNumber_9 rfl (lv_at hl 0 rfl) ?_
  obtain ⟨x10, hg, h⟩ := ob h
  refine wz_gI C hW flX4_40 hg dX4_readNumber_10 ?_
  refine lv_icmp_ge (tgt := 66) hx hb dX4_readNumber_13 (by decide) (fun c13 => ?_) (fun c13 => ?_)
  · have h := ite_t c13 h
    exact kbX4_readNumber_66 C hlk hr a0 h hW (lv_sub hl [0] rfl)
  · have h := ite_f c13 h
    refine lv_aload_n hx hb dX4_readNumber_16 rfl (lv_at hl 0 rfl) ?_
    refine lv_aload_n hx hb dX4_readNumber_17 rfl (lv_at hl 0 rfl) ?_
    obtain ⟨x18, hg, h⟩ := ob h
    refine wz_gI C hW flX4_50 hg dX4_readNumber_18 ?_
    obtain ⟨x21, hq, h⟩ := ob h
    refine wz_rI (c' := 0) (s' := 0) hW (wz_runV (rest := []) C hW lVX4_68 (ck hq).1 rfl (ctX4_byteAt l G a0 x18 z hq) ⟨⟨rfl, rfl⟩, Nat.le_of_ble_eq_true rfl, Nat.le_of_ble_eq_true rfl⟩ rfl hl.1 rfl (Nat.le_of_ble_eq_true rfl) dX4_readNumber_21 ⟨Nat.le_of_ble_eq_true rfl, Nat.le_of_ble_eq_true rfl⟩) rfl rfl (fun H locs hW => ?_)
    refine wz_rI (c' := 0) (s' := 0) hW (wz_runS (rest := []) C hW lTX4_85 (ctX4_isDigit l G x21 z rfl) ⟨⟨rfl, rfl⟩, Nat.le_of_ble_eq_true rfl, Nat.le_of_ble_eq_true rfl⟩ rfl hl.1 rfl (Nat.le_of_ble_eq_true rfl) dX4_readNumber_24 ⟨Nat.le_of_ble_eq_true rfl, Nat.le_of_ble_eq_true rfl⟩) rfl rfl (fun H locs hW => ?_)
    refine lv_if_eq (tgt := 66) hx hb dX4_readNumber_27 (by decide) (fun c27 => ?_) (fun c27 => ?_)
    · have h := ite_t c27 h
      exact kbX4_readNumber_66 C hlk hr a0 h hW (lv_sub hl [0] rfl)
    · have h := ite_f c27 h
      refine lv_aload_n hx hb dX4_readNumber_30 rfl (lv_at hl 0 rfl) ?_
      refine lv_bipush (v := 10) hx hb dX4_readNumber_31 (by decide) ?_
      refine lv_aload_n hx hb dX4_readNumber_33 rfl (lv_at hl 0 rfl) ?_
      obtain ⟨x34, hg, h⟩ := ob h
      refine wz_gI C hW flX4_91 hg dX4_readNumber_34 ?_
      refine lv_imul hx hb dX4_readNumber_37 ?_
      refine lv_aload_n hx hb dX4_readNumber_38 rfl (lv_at hl 0 rfl) ?_
      refine lv_aload_n hx hb dX4_readNumber_39 rfl (lv_at hl 0 rfl) ?_
      obtain ⟨x40, hg, h⟩ := ob h
      refine wz_gI C hW flX4_50 hg dX4_readNumber_40 ?_
      obtain ⟨x43, hq, h⟩ := ob h
      refine wz_rI (c' := 0) (s' := 0) hW (wz_runV (rest := [.int ((10 : Int32) * x34), .ref (gB G + a0)]) C hW lVX4_68 (ck hq).1 rfl (ctX4_byteAt l G a0 x40 z hq) ⟨⟨rfl, rfl⟩, Nat.le_of_ble_eq_true rfl, Nat.le_of_ble_eq_true rfl⟩ rfl hl.1 rfl (Nat.le_of_ble_eq_true rfl) dX4_readNumber_43 ⟨Nat.le_of_ble_eq_true rfl, Nat.le_of_ble_eq_true rfl⟩) rfl rfl (fun H locs hW => ?_)
      refine lv_iadd hx hb dX4_readNumber_46 ?_
      refine lv_bipush (v := 48) hx hb dX4_readNumber_47 (by decide) ?_
      refine lv_isub hx hb dX4_readNumber_49 ?_
      obtain ⟨z50, hg, h⟩ := ob h
      refine wz_put (v := (.int ((((10 : Int32) * x34) + x43) - (48 : Int32)))) C hW flX4_91 rfl rfl hg dX4_readNumber_50 (fun H locs hW => ?_)
      refine lv_aload_n hx hb dX4_readNumber_53 rfl (lv_at hl 0 rfl) ?_
      refine lv_dup hx hb dX4_readNumber_54 rfl ?_
      obtain ⟨x55, hg, h⟩ := ob h
      refine wz_gI C hW flX4_50 hg dX4_readNumber_55 ?_
      refine lv_iconst (v := 1) hx hb dX4_readNumber_58 (by decide) ?_
      refine lv_iadd hx hb dX4_readNumber_59 ?_
      obtain ⟨z60, hg, h⟩ := ob h
      refine wz_put (v := (.int (x55 + (1 : Int32)))) C hW flX4_50 rfl rfl hg dX4_readNumber_60 (fun H locs hW => ?_)
      refine lv_goto (tgt := 5) hx hb dX4_readNumber_63 (by decide) ?_
      exact hk5 a0 z60 _ _ _ h hW (lv_sub hl [0] rfl)
def fX4_readNumber_5 : Nat → Nat → AH → Option AH
  | 0, _, _ => none
  | n + 1, a0, z => bX4_readNumber_5 (fX4_readNumber_5 n) a0 z
theorem klX4_readNumber_5 {p : Program} {l : Launch} {e : Env} {s : State} {m : MethodId} {args : Array Value} {below : List Frame} {meth : Method} {c : Code} {G : GW} {z' : AH} (C : Cx p m c cX4_readNumber 1 s args RX4 G) (hlk : meth.locks = false) (hr : meth.sig.returnType = none) : ∀ (n : Nat) (a0 : Nat) (z : AH) (H : Heap) (locs : List Loc) (ls : Array Slot), fX4_readNumber_5 n a0 z = some z' → Wb G z s H locs → lv_has ls 1 [(0, .ref (gB G + a0))] → W p l e rmX4_readNumber s m args below meth c H locs 0 0 (MQ below (Qv G z') args s 0 0 (AA G)) (F0 m 5 ls []) := by
  intro n
  induction n with
  | zero => intro a0 z H locs ls h; have h : (none : Option AH) = some z' := h; cases h
  | succ n ih => intro a0 z H locs ls h hW hl; exact kbX4_readNumber_5 C hlk hr (fX4_readNumber_5 n) (fun a0 z H locs ls h hW hl => ih a0 z H locs ls h hW hl) a0 h hW hl
def fX4_readNumber (a0 : Nat) (z : AH) : Option AH :=
  if isO 3 z a0 = true then
    (pF 3 12 z a0 (.int (0 : Int32))).bind fun z2 =>
    fX4_readNumber_5 FU a0 z2
  else none
set_option maxHeartbeats 4000000 in
set_option maxRecDepth 100000 in
theorem ctX4_readNumber (l : Launch) (G : GW) (a0 : Nat) (z : AH) {z' : AH} (h : fX4_readNumber a0 z = some z') : Met l yX4_readNumber (wy yX4_readNumber cX4_readNumber 1 none) rmX4_readNumber (Pz G [.ref (gB G + a0)] z) (Qv G z') 0 0 (AA G) := by
  refine wz_ent (own := RX4) (by decide +kernel) rfl (fun p e s m below meth c ls C hlk hr hin hW hl => ?_) (Nat.le_of_ble_eq_true rfl)
  have hl : lv_has ls 1 [(0, .ref (gB G + a0))] := hl
  have hx := C.1
  have hb := C.2.1
  unfold fX4_readNumber at h
  obtain ⟨-, h⟩ := ck h
  refine lv_aload_n hx hb dX4_readNumber_0 rfl (lv_at hl 0 rfl) ?_
  refine lv_iconst (v := 0) hx hb dX4_readNumber_1 (by decide) ?_
  obtain ⟨z2, hg, h⟩ := ob h
  refine wz_put (v := (.int (0 : Int32))) C hW flX4_91 rfl rfl hg dX4_readNumber_2 (fun H locs hW => ?_)
  exact klX4_readNumber_5 C hlk hr FU a0 z2 _ _ _ h hW (lv_sub hl [0] rfl)
theorem lVX4_88 : LV RX4 88 yX4_readNumber cX4_readNumber 1 none 0 := ⟨tw 556 (by decide +kernel) rfl, tw 558 (by decide +kernel) rfl, tw 4 (by decide +kernel) rfl, tw 123 (by decide +kernel) rfl, tw 559 (by decide +kernel) rfl, ⟨by decide +kernel, by decide +kernel, by decide +kernel⟩⟩
theorem lVX4_82 : LV RX4 82 yX4_readWord cX4_readWord 1 none 0 := ⟨tw 549 (by decide +kernel) rfl, tw 551 (by decide +kernel) rfl, tw 3 (by decide +kernel) rfl, tw 123 (by decide +kernel) rfl, tw 552 (by decide +kernel) rfl, ⟨by decide +kernel, by decide +kernel, by decide +kernel⟩⟩
theorem dX4_nextToken_0 : decode cX4_nextToken 0 = .ok (.aload_n 0, 1) := by decide +kernel
theorem dX4_nextToken_1 : decode cX4_nextToken 1 = .ok (.getfield 50, 3) := by decide +kernel
theorem dX4_nextToken_4 : decode cX4_nextToken 4 = .ok (.aload_n 0, 1) := by decide +kernel
theorem dX4_nextToken_5 : decode cX4_nextToken 5 = .ok (.getfield 40, 3) := by decide +kernel
theorem dX4_nextToken_8 : decode cX4_nextToken 8 = .ok (.if_icmp .ge 42, 3) := by decide +kernel
theorem dX4_nextToken_11 : decode cX4_nextToken 11 = .ok (.aload_n 0, 1) := by decide +kernel
theorem dX4_nextToken_12 : decode cX4_nextToken 12 = .ok (.aload_n 0, 1) := by decide +kernel
theorem dX4_nextToken_13 : decode cX4_nextToken 13 = .ok (.getfield 50, 3) := by decide +kernel
theorem dX4_nextToken_16 : decode cX4_nextToken 16 = .ok (.invokevirtual 68, 3) := by decide +kernel
theorem dX4_nextToken_19 : decode cX4_nextToken 19 = .ok (.bipush 10, 2) := by decide +kernel
theorem dX4_nextToken_21 : decode cX4_nextToken 21 = .ok (.if_icmp .eq 16, 3) := by decide +kernel
theorem dX4_nextToken_24 : decode cX4_nextToken 24 = .ok (.aload_n 0, 1) := by decide +kernel
theorem dX4_nextToken_25 : decode cX4_nextToken 25 = .ok (.aload_n 0, 1) := by decide +kernel
theorem dX4_nextToken_26 : decode cX4_nextToken 26 = .ok (.getfield 50, 3) := by decide +kernel
theorem dX4_nextToken_29 : decode cX4_nextToken 29 = .ok (.invokevirtual 68, 3) := by decide +kernel
theorem dX4_nextToken_32 : decode cX4_nextToken 32 = .ok (.bipush 32, 2) := by decide +kernel
theorem dX4_nextToken_34 : decode cX4_nextToken 34 = .ok (.if_icmp .ne 16, 3) := by decide +kernel
theorem dX4_nextToken_37 : decode cX4_nextToken 37 = .ok (.aload_n 0, 1) := by decide +kernel
theorem dX4_nextToken_38 : decode cX4_nextToken 38 = .ok (.dup, 1) := by decide +kernel
theorem dX4_nextToken_39 : decode cX4_nextToken 39 = .ok (.getfield 50, 3) := by decide +kernel
theorem dX4_nextToken_42 : decode cX4_nextToken 42 = .ok (.iconst 1, 1) := by decide +kernel
theorem dX4_nextToken_43 : decode cX4_nextToken 43 = .ok (.iadd, 1) := by decide +kernel
theorem dX4_nextToken_44 : decode cX4_nextToken 44 = .ok (.putfield 50, 3) := by decide +kernel
theorem dX4_nextToken_47 : decode cX4_nextToken 47 = .ok (.goto (-47), 3) := by decide +kernel
theorem dX4_nextToken_50 : decode cX4_nextToken 50 = .ok (.aload_n 0, 1) := by decide +kernel
theorem dX4_nextToken_51 : decode cX4_nextToken 51 = .ok (.aload_n 0, 1) := by decide +kernel
theorem dX4_nextToken_52 : decode cX4_nextToken 52 = .ok (.getfield 50, 3) := by decide +kernel
theorem dX4_nextToken_55 : decode cX4_nextToken 55 = .ok (.putfield 72, 3) := by decide +kernel
theorem dX4_nextToken_58 : decode cX4_nextToken 58 = .ok (.aload_n 0, 1) := by decide +kernel
theorem dX4_nextToken_59 : decode cX4_nextToken 59 = .ok (.aload_n 0, 1) := by decide +kernel
theorem dX4_nextToken_60 : decode cX4_nextToken 60 = .ok (.getfield 50, 3) := by decide +kernel
theorem dX4_nextToken_63 : decode cX4_nextToken 63 = .ok (.invokevirtual 68, 3) := by decide +kernel
theorem dX4_nextToken_66 : decode cX4_nextToken 66 = .ok (.istore_n 1, 1) := by decide +kernel
theorem dX4_nextToken_67 : decode cX4_nextToken 67 = .ok (.iload_n 1, 1) := by decide +kernel
theorem dX4_nextToken_68 : decode cX4_nextToken 68 = .ok (.iconst (-1), 1) := by decide +kernel
theorem dX4_nextToken_69 : decode cX4_nextToken 69 = .ok (.if_icmp .ne 11, 3) := by decide +kernel
theorem dX4_nextToken_72 : decode cX4_nextToken 72 = .ok (.aload_n 0, 1) := by decide +kernel
theorem dX4_nextToken_73 : decode cX4_nextToken 73 = .ok (.iconst 0, 1) := by decide +kernel
theorem dX4_nextToken_74 : decode cX4_nextToken 74 = .ok (.putfield 75, 3) := by decide +kernel
theorem dX4_nextToken_77 : decode cX4_nextToken 77 = .ok (.goto 56, 3) := by decide +kernel
theorem dX4_nextToken_80 : decode cX4_nextToken 80 = .ok (.iload_n 1, 1) := by decide +kernel
theorem dX4_nextToken_81 : decode cX4_nextToken 81 = .ok (.invokestatic 78, 3) := by decide +kernel
theorem dX4_nextToken_84 : decode cX4_nextToken 84 = .ok (.ifCond .eq 10, 3) := by decide +kernel
theorem dX4_nextToken_87 : decode cX4_nextToken 87 = .ok (.aload_n 0, 1) := by decide +kernel
theorem dX4_nextToken_88 : decode cX4_nextToken 88 = .ok (.invokevirtual 82, 3) := by decide +kernel
theorem dX4_nextToken_91 : decode cX4_nextToken 91 = .ok (.goto 42, 3) := by decide +kernel
theorem dX4_nextToken_94 : decode cX4_nextToken 94 = .ok (.iload_n 1, 1) := by decide +kernel
theorem dX4_nextToken_95 : decode cX4_nextToken 95 = .ok (.invokestatic 85, 3) := by decide +kernel
theorem dX4_nextToken_98 : decode cX4_nextToken 98 = .ok (.ifCond .eq 10, 3) := by decide +kernel
theorem dX4_nextToken_101 : decode cX4_nextToken 101 = .ok (.aload_n 0, 1) := by decide +kernel
theorem dX4_nextToken_102 : decode cX4_nextToken 102 = .ok (.invokevirtual 88, 3) := by decide +kernel
theorem dX4_nextToken_105 : decode cX4_nextToken 105 = .ok (.goto 28, 3) := by decide +kernel
theorem dX4_nextToken_108 : decode cX4_nextToken 108 = .ok (.aload_n 0, 1) := by decide +kernel
theorem dX4_nextToken_109 : decode cX4_nextToken 109 = .ok (.iload_n 1, 1) := by decide +kernel
theorem dX4_nextToken_110 : decode cX4_nextToken 110 = .ok (.bipush 59, 2) := by decide +kernel
theorem dX4_nextToken_112 : decode cX4_nextToken 112 = .ok (.if_icmp .ne 7, 3) := by decide +kernel
theorem dX4_nextToken_115 : decode cX4_nextToken 115 = .ok (.iconst 3, 1) := by decide +kernel
theorem dX4_nextToken_116 : decode cX4_nextToken 116 = .ok (.goto 4, 3) := by decide +kernel
theorem dX4_nextToken_119 : decode cX4_nextToken 119 = .ok (.iconst 4, 1) := by decide +kernel
theorem dX4_nextToken_120 : decode cX4_nextToken 120 = .ok (.putfield 75, 3) := by decide +kernel
theorem dX4_nextToken_123 : decode cX4_nextToken 123 = .ok (.aload_n 0, 1) := by decide +kernel
theorem dX4_nextToken_124 : decode cX4_nextToken 124 = .ok (.dup, 1) := by decide +kernel
theorem dX4_nextToken_125 : decode cX4_nextToken 125 = .ok (.getfield 50, 3) := by decide +kernel
theorem dX4_nextToken_128 : decode cX4_nextToken 128 = .ok (.iconst 1, 1) := by decide +kernel
theorem dX4_nextToken_129 : decode cX4_nextToken 129 = .ok (.iadd, 1) := by decide +kernel
theorem dX4_nextToken_130 : decode cX4_nextToken 130 = .ok (.putfield 50, 3) := by decide +kernel
theorem dX4_nextToken_133 : decode cX4_nextToken 133 = .ok (.return_, 1) := by decide +kernel
abbrev rmX4_nextToken : Room := { frames := 2, cells := 0, slots := 0, locals := 41 }
def bX4_nextToken_120 (a0 : Nat) (s0 : Nat) (s1 : Int32) (z : AH) : Option AH :=
  (pF 3 10 z s0 (.int s1)).bind fun z120 =>
  (gI 3 9 z120 a0).bind fun x125 =>
  (pF 3 9 z120 a0 (.int (x125 + (1 : Int32)))).bind fun z130 =>
  some z130
set_option maxHeartbeats 4000000 in
set_option maxRecDepth 100000 in
theorem kbX4_nextToken_120 {p : Program} {l : Launch} {e : Env} {s : State} {m : MethodId} {args : Array Value} {below : List Frame} {meth : Method} {c : Code} {G : GW} {z' : AH} (C : Cx p m c cX4_nextToken 2 s args RX4 G) (hlk : meth.locks = false) (hr : meth.sig.returnType = none) (a0 : Nat) (s0 : Nat) (s1 : Int32) {z : AH} {H : Heap} {locs : List Loc} {ls : Array Slot} (h : bX4_nextToken_120 a0 s0 s1 z = some z') (hW : Wb G z s H locs) (hl : lv_has ls 2 [(0, .ref (gB G + a0))]) : W p l e rmX4_nextToken s m args below meth c H locs 0 0 (MQ below (Qv G z') args s 0 0 (AA G)) (F0 m 120 ls [.int s1, .ref (gB G + s0)]) := by
  have hx := C.1
  have hb := C.2.1
  unfold bX4_nextToken_120 at h
  obtain ⟨z120, hg, h⟩ := ob h
  refine wz_put (v := (.int s1)) C hW flX4_75 rfl rfl hg dX4_nextToken_120 (fun H locs hW => ?_)
  refine lv_aload_n hx hb dX4_nextToken_123 rfl (lv_at hl 0 rfl) ?_
  refine lv_dup hx hb dX4_nextToken_124 rfl ?_
  obtain ⟨x125, hg, h⟩ := ob h
  refine wz_gI C hW flX4_50 hg dX4_nextToken_125 ?_
  refine lv_iconst (v := 1) hx hb dX4_nextToken_128 (by decide) ?_
  refine lv_iadd hx hb dX4_nextToken_129 ?_
  obtain ⟨z130, hg, h⟩ := ob h
  refine wz_put (v := (.int (x125 + (1 : Int32)))) C hW flX4_50 rfl rfl hg dX4_nextToken_130 (fun H locs hW => ?_)
  exact wz_vretE C hlk hr (Option.some.inj h) hW dX4_nextToken_133
def bX4_nextToken_50 (a0 : Nat) (z : AH) : Option AH :=
  (gI 3 9 z a0).bind fun x52 =>
  (pF 3 11 z a0 (.int x52)).bind fun z55 =>
  (gI 3 9 z55 a0).bind fun x60 =>
  (fX4_byteAt a0 x60 z55).bind fun x63 =>
  if x63 = (-1 : Int32) then (
    (pF 3 10 z55 a0 (.int (0 : Int32))).bind fun z74 =>
    some z74
  ) else (
    if (fX4_isLetter x63) = (0 : Int32) then (
      if (fX4_isDigit x63) = (0 : Int32) then (
        if x63 = (59 : Int32) then (
          bX4_nextToken_120 a0 a0 (3 : Int32) z55
        ) else (
          bX4_nextToken_120 a0 a0 (4 : Int32) z55
        )
      ) else (
        (fX4_readNumber a0 z55).bind fun z102 =>
        some z102
      )
    ) else (
      (fX4_readWord a0 z55).bind fun z88 =>
      some z88
    )
  )
set_option maxHeartbeats 4000000 in
set_option maxRecDepth 100000 in
theorem kbX4_nextToken_50 {p : Program} {l : Launch} {e : Env} {s : State} {m : MethodId} {args : Array Value} {below : List Frame} {meth : Method} {c : Code} {G : GW} {z' : AH} (C : Cx p m c cX4_nextToken 2 s args RX4 G) (hlk : meth.locks = false) (hr : meth.sig.returnType = none) (a0 : Nat) {z : AH} {H : Heap} {locs : List Loc} {ls : Array Slot} (h : bX4_nextToken_50 a0 z = some z') (hW : Wb G z s H locs) (hl : lv_has ls 2 [(0, .ref (gB G + a0))]) : W p l e rmX4_nextToken s m args below meth c H locs 0 0 (MQ below (Qv G z') args s 0 0 (AA G)) (F0 m 50 ls []) := by
  have hx := C.1
  have hb := C.2.1
  unfold bX4_nextToken_50 at h
  refine lv_aload_n hx hb dX4_nextToken_50 rfl (lv_at hl 0 rfl) ?_
  refine lv_aload_n hx hb dX4_nextToken_51 rfl (lv_at hl 0 rfl) ?_
  obtain ⟨x52, hg, h⟩ := ob h
  refine wz_gI C hW flX4_50 hg dX4_nextToken_52 ?_
  obtain ⟨z55, hg, h⟩ := ob h
  refine wz_put (v := (.int x52)) C hW flX4_72 rfl rfl hg dX4_nextToken_55 (fun H locs hW => ?_)
  refine lv_aload_n hx hb dX4_nextToken_58 rfl (lv_at hl 0 rfl) ?_
  refine lv_aload_n hx hb dX4_nextToken_59 rfl (lv_at hl 0 rfl) ?_
  obtain ⟨x60, hg, h⟩ := ob h
  refine wz_gI C hW flX4_50 hg dX4_nextToken_60 ?_
  obtain ⟨x63, hq, h⟩ := ob h
  refine wz_rI (c' := 0) (s' := 0) hW (wz_runV (rest := []) C hW lVX4_68 (ck hq).1 rfl (ctX4_byteAt l G a0 x60 z55 hq) ⟨⟨rfl, rfl⟩, Nat.le_of_ble_eq_true rfl, Nat.le_of_ble_eq_true rfl⟩ rfl hl.1 rfl (Nat.le_of_ble_eq_true rfl) dX4_nextToken_63 ⟨Nat.le_of_ble_eq_true rfl, Nat.le_of_ble_eq_true rfl⟩) rfl rfl (fun H locs hW => ?_)
  refine lv_istore_n (lv' := [(1, .int x63), (0, .ref (gB G + a0))]) hx hb dX4_nextToken_66 rfl hl (by decide) rfl (fun ls hl => ?_)
  refine lv_iload_n hx hb dX4_nextToken_67 rfl (lv_at hl 0 rfl) ?_
  refine lv_iconst (v := -1) hx hb dX4_nextToken_68 (by decide) ?_
  refine lv_icmp_ne (tgt := 80) hx hb dX4_nextToken_69 (by decide) (fun c69 => ?_) (fun c69 => ?_)
  · have h := ite_f c69 h
    refine lv_iload_n hx hb dX4_nextToken_80 rfl (lv_at hl 0 rfl) ?_
    refine wz_rI (c' := 0) (s' := 0) hW (wz_runS (rest := []) C hW lTX4_78 (ctX4_isLetter l G x63 z55 rfl) ⟨⟨rfl, rfl⟩, Nat.le_of_ble_eq_true rfl, Nat.le_of_ble_eq_true rfl⟩ rfl hl.1 rfl (Nat.le_of_ble_eq_true rfl) dX4_nextToken_81 ⟨Nat.le_of_ble_eq_true rfl, Nat.le_of_ble_eq_true rfl⟩) rfl rfl (fun H locs hW => ?_)
    refine lv_if_eq (tgt := 94) hx hb dX4_nextToken_84 (by decide) (fun c84 => ?_) (fun c84 => ?_)
    · have h := ite_t c84 h
      refine lv_iload_n hx hb dX4_nextToken_94 rfl (lv_at hl 0 rfl) ?_
      refine wz_rI (c' := 0) (s' := 0) hW (wz_runS (rest := []) C hW lTX4_85 (ctX4_isDigit l G x63 z55 rfl) ⟨⟨rfl, rfl⟩, Nat.le_of_ble_eq_true rfl, Nat.le_of_ble_eq_true rfl⟩ rfl hl.1 rfl (Nat.le_of_ble_eq_true rfl) dX4_nextToken_95 ⟨Nat.le_of_ble_eq_true rfl, Nat.le_of_ble_eq_true rfl⟩) rfl rfl (fun H locs hW => ?_)
      refine lv_if_eq (tgt := 108) hx hb dX4_nextToken_98 (by decide) (fun c98 => ?_) (fun c98 => ?_)
      · have h := ite_t c98 h
        refine lv_aload_n hx hb dX4_nextToken_108 rfl (lv_at hl 1 rfl) ?_
        refine lv_iload_n hx hb dX4_nextToken_109 rfl (lv_at hl 0 rfl) ?_
        refine lv_bipush (v := 59) hx hb dX4_nextToken_110 (by decide) ?_
        refine lv_icmp_ne (tgt := 119) hx hb dX4_nextToken_112 (by decide) (fun c112 => ?_) (fun c112 => ?_)
        · have h := ite_f c112 h
          refine lv_iconst (v := 4) hx hb dX4_nextToken_119 (by decide) ?_
          exact kbX4_nextToken_120 C hlk hr a0 a0 (4 : Int32) h hW (lv_sub hl [1] rfl)
        · have h := ite_t c112 h
          refine lv_iconst (v := 3) hx hb dX4_nextToken_115 (by decide) ?_
          refine lv_goto (tgt := 120) hx hb dX4_nextToken_116 (by decide) ?_
          exact kbX4_nextToken_120 C hlk hr a0 a0 (3 : Int32) h hW (lv_sub hl [1] rfl)
      · have h := ite_f c98 h
        refine lv_aload_n hx hb dX4_nextToken_101 rfl (lv_at hl 1 rfl) ?_
        obtain ⟨z102, hq, h⟩ := ob h
        refine wz_rV (c' := 0) (s' := 0) hW (wz_runV (rest := []) C hW lVX4_88 (ck hq).1 rfl (ctX4_readNumber l G a0 z55 hq) ⟨⟨rfl, rfl⟩, Nat.le_of_ble_eq_true rfl, Nat.le_of_ble_eq_true rfl⟩ rfl hl.1 rfl (Nat.le_of_ble_eq_true rfl) dX4_nextToken_102 ⟨Nat.le_of_ble_eq_true rfl, Nat.le_of_ble_eq_true rfl⟩) rfl rfl (fun H locs hW => ?_)
        refine lv_goto (tgt := 133) hx hb dX4_nextToken_105 (by decide) ?_
        exact wz_vretE C hlk hr (Option.some.inj h) hW dX4_nextToken_133
    · have h := ite_f c84 h
      refine lv_aload_n hx hb dX4_nextToken_87 rfl (lv_at hl 1 rfl) ?_
      obtain ⟨z88, hq, h⟩ := ob h
      refine wz_rV (c' := 0) (s' := 0) hW (wz_runV (rest := []) C hW lVX4_82 (ck hq).1 rfl (ctX4_readWord l G a0 z55 hq) ⟨⟨rfl, rfl⟩, Nat.le_of_ble_eq_true rfl, Nat.le_of_ble_eq_true rfl⟩ rfl hl.1 rfl (Nat.le_of_ble_eq_true rfl) dX4_nextToken_88 ⟨Nat.le_of_ble_eq_true rfl, Nat.le_of_ble_eq_true rfl⟩) rfl rfl (fun H locs hW => ?_)
      refine lv_goto (tgt := 133) hx hb dX4_nextToken_91 (by decide) ?_
      exact wz_vretE C hlk hr (Option.some.inj h) hW dX4_nextToken_133
  · have h := ite_t c69 h
    refine lv_aload_n hx hb dX4_nextToken_72 rfl (lv_at hl 1 rfl) ?_
    refine lv_iconst (v := 0) hx hb dX4_nextToken_73 (by decide) ?_
    obtain ⟨z74, hg, h⟩ := ob h
    refine wz_put (v := (.int (0 : Int32))) C hW flX4_75 rfl rfl hg dX4_nextToken_74 (fun H locs hW => ?_)
    refine lv_goto (tgt := 133) hx hb dX4_nextToken_77 (by decide) ?_
    exact wz_vretE C hlk hr (Option.some.inj h) hW dX4_nextToken_133
def bX4_nextToken_0 (k0 : Nat → AH → Option AH) (a0 : Nat) (z : AH) : Option AH :=
  (gI 3 9 z a0).bind fun x1 =>
  (gI 3 8 z a0).bind fun x5 =>
  if x5 ≤ x1 then (
    bX4_nextToken_50 a0 z
  ) else (
    (gI 3 9 z a0).bind fun x13 =>
    (fX4_byteAt a0 x13 z).bind fun x16 =>
    if x16 = (10 : Int32) then (
      (gI 3 9 z a0).bind fun x39 =>
      (pF 3 9 z a0 (.int (x39 + (1 : Int32)))).bind fun z44 =>
      k0 a0 z44
    ) else (
      (gI 3 9 z a0).bind fun x26 =>
      (fX4_byteAt a0 x26 z).bind fun x29 =>
      if x29 = (32 : Int32) then (
        (gI 3 9 z a0).bind fun x39 =>
        (pF 3 9 z a0 (.int (x39 + (1 : Int32)))).bind fun z44 =>
        k0 a0 z44
      ) else (
        bX4_nextToken_50 a0 z
      )
    )
  )
set_option maxHeartbeats 4000000 in
set_option maxRecDepth 100000 in
theorem kbX4_nextToken_0 {p : Program} {l : Launch} {e : Env} {s : State} {m : MethodId} {args : Array Value} {below : List Frame} {meth : Method} {c : Code} {G : GW} {z' : AH} (C : Cx p m c cX4_nextToken 2 s args RX4 G) (hlk : meth.locks = false) (hr : meth.sig.returnType = none) (k0 : Nat → AH → Option AH) (hk0 : ∀ (a0 : Nat) (z : AH) (H : Heap) (locs : List Loc) (ls : Array Slot), k0 a0 z = some z' → Wb G z s H locs → lv_has ls 2 [(0, .ref (gB G + a0))] → W p l e rmX4_nextToken s m args below meth c H locs 0 0 (MQ below (Qv G z') args s 0 0 (AA G)) (F0 m 0 ls [])) (a0 : Nat) {z : AH} {H : Heap} {locs : List Loc} {ls : Array Slot} (h : bX4_nextToken_0 k0 a0 z = some z') (hW : Wb G z s H locs) (hl : lv_has ls 2 [(0, .ref (gB G + a0))]) : W p l e rmX4_nextToken s m args below meth c H locs 0 0 (MQ below (Qv G z') args s 0 0 (AA G)) (F0 m 0 ls []) := by
  have hx := C.1
  have hb := C.2.1
  unfold bX4_nextToken_0 at h
  refine lv_aload_n hx hb dX4_nextToken_0 rfl (lv_at hl 0 rfl) ?_
  obtain ⟨x1, hg, h⟩ := ob h
  refine wz_gI C hW flX4_50 hg dX4_nextToken_1 ?_
  refine lv_aload_n hx hb dX4_nextToken_4 rfl (lv_at hl 0 rfl) ?_
  obtain ⟨x5, hg, h⟩ := ob h
  refine wz_gI C hW flX4_40 hg dX4_nextToken_5 ?_
  refine lv_icmp_ge (tgt := 50) hx hb dX4_nextToken_8 (by decide) (fun c8 => ?_) (fun c8 => ?_)
  · have h := ite_t c8 h
    exact kbX4_nextToken_50 C hlk hr a0 h hW (lv_sub hl [0] rfl)
  · have h := ite_f c8 h
    refine lv_aload_n hx hb dX4_nextToken_11 rfl (lv_at hl 0 rfl) ?_
    refine lv_aload_n hx hb dX4_nextToken_12 rfl (lv_at hl 0 rfl) ?_
    obtain ⟨x13, hg, h⟩ := ob h
    refine wz_gI C hW flX4_50 hg dX4_nextToken_13 ?_
    obtain ⟨x16, hq, h⟩ := ob h
    refine wz_rI (c' := 0) (s' := 0) hW (wz_runV (rest := []) C hW lVX4_68 (ck hq).1 rfl (ctX4_byteAt l G a0 x13 z hq) ⟨⟨rfl, rfl⟩, Nat.le_of_ble_eq_true rfl, Nat.le_of_ble_eq_true rfl⟩ rfl hl.1 rfl (Nat.le_of_ble_eq_true rfl) dX4_nextToken_16 ⟨Nat.le_of_ble_eq_true rfl, Nat.le_of_ble_eq_true rfl⟩) rfl rfl (fun H locs hW => ?_)
    refine lv_bipush (v := 10) hx hb dX4_nextToken_19 (by decide) ?_
    refine lv_icmp_eq (tgt := 37) hx hb dX4_nextToken_21 (by decide) (fun c21 => ?_) (fun c21 => ?_)
    · have h := ite_t c21 h
      refine lv_aload_n hx hb dX4_nextToken_37 rfl (lv_at hl 0 rfl) ?_
      refine lv_dup hx hb dX4_nextToken_38 rfl ?_
      obtain ⟨x39, hg, h⟩ := ob h
      refine wz_gI C hW flX4_50 hg dX4_nextToken_39 ?_
      refine lv_iconst (v := 1) hx hb dX4_nextToken_42 (by decide) ?_
      refine lv_iadd hx hb dX4_nextToken_43 ?_
      obtain ⟨z44, hg, h⟩ := ob h
      refine wz_put (v := (.int (x39 + (1 : Int32)))) C hW flX4_50 rfl rfl hg dX4_nextToken_44 (fun H locs hW => ?_)
      refine lv_goto (tgt := 0) hx hb dX4_nextToken_47 (by decide) ?_
      exact hk0 a0 z44 _ _ _ h hW (lv_sub hl [0] rfl)
    · have h := ite_f c21 h
      refine lv_aload_n hx hb dX4_nextToken_24 rfl (lv_at hl 0 rfl) ?_
      refine lv_aload_n hx hb dX4_nextToken_25 rfl (lv_at hl 0 rfl) ?_
      obtain ⟨x26, hg, h⟩ := ob h
      refine wz_gI C hW flX4_50 hg dX4_nextToken_26 ?_
      obtain ⟨x29, hq, h⟩ := ob h
      refine wz_rI (c' := 0) (s' := 0) hW (wz_runV (rest := []) C hW lVX4_68 (ck hq).1 rfl (ctX4_byteAt l G a0 x26 z hq) ⟨⟨rfl, rfl⟩, Nat.le_of_ble_eq_true rfl, Nat.le_of_ble_eq_true rfl⟩ rfl hl.1 rfl (Nat.le_of_ble_eq_true rfl) dX4_nextToken_29 ⟨Nat.le_of_ble_eq_true rfl, Nat.le_of_ble_eq_true rfl⟩) rfl rfl (fun H locs hW => ?_)
      refine lv_bipush (v := 32) hx hb dX4_nextToken_32 (by decide) ?_
      refine lv_icmp_ne (tgt := 50) hx hb dX4_nextToken_34 (by decide) (fun c34 => ?_) (fun c34 => ?_)
      · have h := ite_f c34 h
        exact kbX4_nextToken_50 C hlk hr a0 h hW (lv_sub hl [0] rfl)
      · have h := ite_t c34 h
        refine lv_aload_n hx hb dX4_nextToken_37 rfl (lv_at hl 0 rfl) ?_
        refine lv_dup hx hb dX4_nextToken_38 rfl ?_
        obtain ⟨x39, hg, h⟩ := ob h
        refine wz_gI C hW flX4_50 hg dX4_nextToken_39 ?_
        refine lv_iconst (v := 1) hx hb dX4_nextToken_42 (by decide) ?_
        refine lv_iadd hx hb dX4_nextToken_43 ?_
        obtain ⟨z44, hg, h⟩ := ob h
        refine wz_put (v := (.int (x39 + (1 : Int32)))) C hW flX4_50 rfl rfl hg dX4_nextToken_44 (fun H locs hW => ?_)
        refine lv_goto (tgt := 0) hx hb dX4_nextToken_47 (by decide) ?_
        exact hk0 a0 z44 _ _ _ h hW (lv_sub hl [0] rfl)
def fX4_nextToken_0 : Nat → Nat → AH → Option AH
  | 0, _, _ => none
  | n + 1, a0, z => bX4_nextToken_0 (fX4_nextToken_0 n) a0 z
theorem klX4_nextToken_0 {p : Program} {l : Launch} {e : Env} {s : State} {m : MethodId} {args : Array Value} {below : List Frame} {meth : Method} {c : Code} {G : GW} {z' : AH} (C : Cx p m c cX4_nextToken 2 s args RX4 G) (hlk : meth.locks = false) (hr : meth.sig.returnType = none) : ∀ (n : Nat) (a0 : Nat) (z : AH) (H : Heap) (locs : List Loc) (ls : Array Slot), fX4_nextToken_0 n a0 z = some z' → Wb G z s H locs → lv_has ls 2 [(0, .ref (gB G + a0))] → W p l e rmX4_nextToken s m args below meth c H locs 0 0 (MQ below (Qv G z') args s 0 0 (AA G)) (F0 m 0 ls []) := by
  intro n
  induction n with
  | zero => intro a0 z H locs ls h; have h : (none : Option AH) = some z' := h; cases h
  | succ n ih => intro a0 z H locs ls h hW hl; exact kbX4_nextToken_0 C hlk hr (fX4_nextToken_0 n) (fun a0 z H locs ls h hW hl => ih a0 z H locs ls h hW hl) a0 h hW hl
def fX4_nextToken (a0 : Nat) (z : AH) : Option AH :=
  if isO 3 z a0 = true then
    fX4_nextToken_0 FU a0 z
  else none
set_option maxHeartbeats 4000000 in
set_option maxRecDepth 100000 in
theorem ctX4_nextToken (l : Launch) (G : GW) (a0 : Nat) (z : AH) {z' : AH} (h : fX4_nextToken a0 z = some z') : Met l yX4_nextToken (wy yX4_nextToken cX4_nextToken 2 none) rmX4_nextToken (Pz G [.ref (gB G + a0)] z) (Qv G z') 0 0 (AA G) := by
  refine wz_ent (own := RX4) (by decide +kernel) rfl (fun p e s m below meth c ls C hlk hr hin hW hl => ?_) (Nat.le_of_ble_eq_true rfl)
  have hl : lv_has ls 2 [(0, .ref (gB G + a0))] := hl
  have hx := C.1
  have hb := C.2.1
  unfold fX4_nextToken at h
  obtain ⟨-, h⟩ := ck h
  exact klX4_nextToken_0 C hlk hr FU a0 z _ _ _ h hW (lv_sub hl [0] rfl)
theorem flX4_56 : FL RX4 56 3 13 := ⟨_, rfl, Nat.le_of_ble_eq_true rfl, tw 307 (by decide +kernel) rfl, rfl⟩
theorem flX4_59 : FL RX4 59 3 14 := ⟨_, rfl, Nat.le_of_ble_eq_true rfl, tw 309 (by decide +kernel) rfl, rfl⟩
theorem dX4_find_0 : decode cX4_find 0 = .ok (.aload_n 0, 1) := by decide +kernel
theorem dX4_find_1 : decode cX4_find 1 = .ok (.iload_n 1, 1) := by decide +kernel
theorem dX4_find_2 : decode cX4_find 2 = .ok (.putfield 56, 3) := by decide +kernel
theorem dX4_find_5 : decode cX4_find 5 = .ok (.aload_n 0, 1) := by decide +kernel
theorem dX4_find_6 : decode cX4_find 6 = .ok (.iload_n 2, 1) := by decide +kernel
theorem dX4_find_7 : decode cX4_find 7 = .ok (.putfield 59, 3) := by decide +kernel
theorem dX4_find_10 : decode cX4_find 10 = .ok (.return_, 1) := by decide +kernel
abbrev rmX4_find : Room := { frames := 0, cells := 0, slots := 0, locals := 0 }
def fX4_find (a0 : Nat) (l1 : Int32) (l2 : Int32) (z : AH) : Option AH :=
  if isO 3 z a0 = true then
    (pF 3 13 z a0 (.int l1)).bind fun z2 =>
    (pF 3 14 z2 a0 (.int l2)).bind fun z7 =>
    some z7
  else none
set_option maxHeartbeats 4000000 in
set_option maxRecDepth 100000 in
theorem ctX4_find (l : Launch) (G : GW) (a0 : Nat) (l1 : Int32) (l2 : Int32) (z : AH) {z' : AH} (h : fX4_find a0 l1 l2 z = some z') : Met l yX4_find (wy yX4_find cX4_find 3 none) rmX4_find (Pz G [.ref (gB G + a0), .int l1, .int l2] z) (Qv G z') 0 0 (AA G) := by
  refine wz_ent (own := RX4) (by decide +kernel) rfl (fun p e s m below meth c ls C hlk hr hin hW hl => ?_) (Nat.le_of_ble_eq_true rfl)
  have hl : lv_has ls 3 [(0, .ref (gB G + a0)), (1, .int l1), (2, .int l2)] := hl
  have hx := C.1
  have hb := C.2.1
  unfold fX4_find at h
  obtain ⟨-, h⟩ := ck h
  refine lv_aload_n hx hb dX4_find_0 rfl (lv_at hl 0 rfl) ?_
  refine lv_iload_n hx hb dX4_find_1 rfl (lv_at hl 1 rfl) ?_
  obtain ⟨z2, hg, h⟩ := ob h
  refine wz_put (v := (.int l1)) C hW flX4_56 rfl rfl hg dX4_find_2 (fun H locs hW => ?_)
  refine lv_aload_n hx hb dX4_find_5 rfl (lv_at hl 0 rfl) ?_
  refine lv_iload_n hx hb dX4_find_6 rfl (lv_at hl 2 rfl) ?_
  obtain ⟨z7, hg, h⟩ := ob h
  refine wz_put (v := (.int l2)) C hW flX4_59 rfl rfl hg dX4_find_7 (fun H locs hW => ?_)
  exact wz_vretE C hlk hr (Option.some.inj h) hW dX4_find_10
theorem dX4_top_0 : decode cX4_top 0 = .ok (.iload_n 0, 1) := by decide +kernel
theorem dX4_top_1 : decode cX4_top 1 = .ok (.ifCond .lt 30, 3) := by decide +kernel
theorem dX4_top_4 : decode cX4_top 4 = .ok (.iload_n 0, 1) := by decide +kernel
theorem dX4_top_5 : decode cX4_top 5 = .ok (.bipush 20, 2) := by decide +kernel
theorem dX4_top_7 : decode cX4_top 7 = .ok (.if_icmp .ge 24, 3) := by decide +kernel
theorem dX4_top_10 : decode cX4_top 10 = .ok (.iload_n 1, 1) := by decide +kernel
theorem dX4_top_11 : decode cX4_top 11 = .ok (.ifCond .lt 20, 3) := by decide +kernel
theorem dX4_top_14 : decode cX4_top 14 = .ok (.iload_n 1, 1) := by decide +kernel
theorem dX4_top_15 : decode cX4_top 15 = .ok (.iconst 3, 1) := by decide +kernel
theorem dX4_top_16 : decode cX4_top 16 = .ok (.if_icmp .ge 15, 3) := by decide +kernel
theorem dX4_top_19 : decode cX4_top 19 = .ok (.getstatic 112, 3) := by decide +kernel
theorem dX4_top_22 : decode cX4_top 22 = .ok (.iconst 3, 1) := by decide +kernel
theorem dX4_top_23 : decode cX4_top 23 = .ok (.iload_n 0, 1) := by decide +kernel
theorem dX4_top_24 : decode cX4_top 24 = .ok (.imul, 1) := by decide +kernel
theorem dX4_top_25 : decode cX4_top 25 = .ok (.iload_n 1, 1) := by decide +kernel
theorem dX4_top_26 : decode cX4_top 26 = .ok (.iadd, 1) := by decide +kernel
theorem dX4_top_27 : decode cX4_top 27 = .ok (.iaload, 1) := by decide +kernel
theorem dX4_top_28 : decode cX4_top 28 = .ok (.goto 4, 3) := by decide +kernel
theorem dX4_top_31 : decode cX4_top 31 = .ok (.iconst (-1), 1) := by decide +kernel
theorem dX4_top_32 : decode cX4_top 32 = .ok (.ireturn, 1) := by decide +kernel
abbrev rmX4_top : Room := { frames := 0, cells := 0, slots := 0, locals := 0 }
def fX4_top (l0 : Int32) (l1 : Int32) : Option (Int32) :=
  if l0 < (0 : Int32) then (
    some (-1 : Int32)
  ) else (
    if (20 : Int32) ≤ l0 then (
      some (-1 : Int32)
    ) else (
      if l1 < (0 : Int32) then (
        some (-1 : Int32)
      ) else (
        if (3 : Int32) ≤ l1 then (
          some (-1 : Int32)
        ) else (
          (sIx 1 (((3 : Int32) * l0) + l1)).bind fun x27 =>
          some x27
        )
      )
    )
  )
set_option maxHeartbeats 4000000 in
set_option maxRecDepth 100000 in
theorem ctX4_top (l : Launch) (G : GW) (l0 : Int32) (l1 : Int32) (z : AH) {r : Int32} (h : fX4_top l0 l1 = some r) : Met l yX4_top (wy yX4_top cX4_top 2 (some .int)) rmX4_top (Pz G [.int l0, .int l1] z) (Qi G r z) 0 0 (AA G) := by
  refine wz_ent (own := RX4) (by decide +kernel) rfl (fun p e s m below meth c ls C hlk hr hin hW hl => ?_) (Nat.le_of_ble_eq_true rfl)
  have hl : lv_has ls 2 [(0, .int l0), (1, .int l1)] := hl
  have hx := C.1
  have hb := C.2.1
  unfold fX4_top at h
  refine lv_iload_n hx hb dX4_top_0 rfl (lv_at hl 0 rfl) ?_
  refine lv_if_lt (tgt := 31) hx hb dX4_top_1 (by decide) (fun c1 => ?_) (fun c1 => ?_)
  · have h := ite_t c1 h
    refine lv_iconst (v := -1) hx hb dX4_top_31 (by decide) ?_
    exact wz_iretE C hlk hr (Option.some.inj h) rfl hW dX4_top_32
  · have h := ite_f c1 h
    refine lv_iload_n hx hb dX4_top_4 rfl (lv_at hl 0 rfl) ?_
    refine lv_bipush (v := 20) hx hb dX4_top_5 (by decide) ?_
    refine lv_icmp_ge (tgt := 31) hx hb dX4_top_7 (by decide) (fun c7 => ?_) (fun c7 => ?_)
    · have h := ite_t c7 h
      refine lv_iconst (v := -1) hx hb dX4_top_31 (by decide) ?_
      exact wz_iretE C hlk hr (Option.some.inj h) rfl hW dX4_top_32
    · have h := ite_f c7 h
      refine lv_iload_n hx hb dX4_top_10 rfl (lv_at hl 1 rfl) ?_
      refine lv_if_lt (tgt := 31) hx hb dX4_top_11 (by decide) (fun c11 => ?_) (fun c11 => ?_)
      · have h := ite_t c11 h
        refine lv_iconst (v := -1) hx hb dX4_top_31 (by decide) ?_
        exact wz_iretE C hlk hr (Option.some.inj h) rfl hW dX4_top_32
      · have h := ite_f c11 h
        refine lv_iload_n hx hb dX4_top_14 rfl (lv_at hl 1 rfl) ?_
        refine lv_iconst (v := 3) hx hb dX4_top_15 (by decide) ?_
        refine lv_icmp_ge (tgt := 31) hx hb dX4_top_16 (by decide) (fun c16 => ?_) (fun c16 => ?_)
        · have h := ite_t c16 h
          refine lv_iconst (v := -1) hx hb dX4_top_31 (by decide) ?_
          exact wz_iretE C hlk hr (Option.some.inj h) rfl hW dX4_top_32
        · have h := ite_f c16 h
          refine wz_gets (i := 1) (by decide) rfl (tw 634 (by decide +kernel) rfl) C hW dX4_top_19 ?_
          refine lv_iconst (v := 3) hx hb dX4_top_22 (by decide) ?_
          refine lv_iload_n hx hb dX4_top_23 rfl (lv_at hl 0 rfl) ?_
          refine lv_imul hx hb dX4_top_24 ?_
          refine lv_iload_n hx hb dX4_top_25 rfl (lv_at hl 1 rfl) ?_
          refine lv_iadd hx hb dX4_top_26 ?_
          obtain ⟨x27, hg, h⟩ := ob h
          refine wz_sld (i := 1) (by decide) C hW hg dX4_top_27 ?_
          refine lv_goto (tgt := 32) hx hb dX4_top_28 (by decide) ?_
          exact wz_iretE C hlk hr (Option.some.inj h) rfl hW dX4_top_32
theorem lTX4_109 : LT RX4 109 yX4_top cX4_top 2 (some .int) 2 := ⟨tw 631 (by decide +kernel) rfl, tw 632 (by decide +kernel) rfl, tw 123 (by decide +kernel) rfl, tw 633 (by decide +kernel) rfl, ⟨by decide +kernel, by decide +kernel, by decide +kernel⟩⟩
theorem dX4_canBe_0 : decode cX4_canBe 0 = .ok (.aload_n 0, 1) := by decide +kernel
theorem dX4_canBe_1 : decode cX4_canBe 1 = .ok (.getfield 11, 3) := by decide +kernel
theorem dX4_canBe_4 : decode cX4_canBe 4 = .ok (.iload_n 1, 1) := by decide +kernel
theorem dX4_canBe_5 : decode cX4_canBe 5 = .ok (.iaload, 1) := by decide +kernel
theorem dX4_canBe_6 : decode cX4_canBe 6 = .ok (.istore_n 3, 1) := by decide +kernel
theorem dX4_canBe_7 : decode cX4_canBe 7 = .ok (.iload_n 3, 1) := by decide +kernel
theorem dX4_canBe_8 : decode cX4_canBe 8 = .ok (.iload_n 2, 1) := by decide +kernel
theorem dX4_canBe_9 : decode cX4_canBe 9 = .ok (.invokestatic 109, 3) := by decide +kernel
theorem dX4_canBe_12 : decode cX4_canBe 12 = .ok (.istore 4, 2) := by decide +kernel
theorem dX4_canBe_14 : decode cX4_canBe 14 = .ok (.iload 4, 2) := by decide +kernel
theorem dX4_canBe_16 : decode cX4_canBe 16 = .ok (.iconst (-1), 1) := by decide +kernel
theorem dX4_canBe_17 : decode cX4_canBe 17 = .ok (.if_icmp .ne 5, 3) := by decide +kernel
theorem dX4_canBe_20 : decode cX4_canBe 20 = .ok (.iconst 1, 1) := by decide +kernel
theorem dX4_canBe_21 : decode cX4_canBe 21 = .ok (.ireturn, 1) := by decide +kernel
theorem dX4_canBe_22 : decode cX4_canBe 22 = .ok (.aload_n 0, 1) := by decide +kernel
theorem dX4_canBe_23 : decode cX4_canBe 23 = .ok (.getfield 18, 3) := by decide +kernel
theorem dX4_canBe_26 : decode cX4_canBe 26 = .ok (.iconst 3, 1) := by decide +kernel
theorem dX4_canBe_27 : decode cX4_canBe 27 = .ok (.iload_n 1, 1) := by decide +kernel
theorem dX4_canBe_28 : decode cX4_canBe 28 = .ok (.imul, 1) := by decide +kernel
theorem dX4_canBe_29 : decode cX4_canBe 29 = .ok (.iload_n 2, 1) := by decide +kernel
theorem dX4_canBe_30 : decode cX4_canBe 30 = .ok (.iadd, 1) := by decide +kernel
theorem dX4_canBe_31 : decode cX4_canBe 31 = .ok (.iaload, 1) := by decide +kernel
theorem dX4_canBe_32 : decode cX4_canBe 32 = .ok (.istore 5, 2) := by decide +kernel
theorem dX4_canBe_34 : decode cX4_canBe 34 = .ok (.iload_n 3, 1) := by decide +kernel
theorem dX4_canBe_35 : decode cX4_canBe 35 = .ok (.iconst 4, 1) := by decide +kernel
theorem dX4_canBe_36 : decode cX4_canBe 36 = .ok (.if_icmp .eq 8, 3) := by decide +kernel
theorem dX4_canBe_39 : decode cX4_canBe 39 = .ok (.iload_n 3, 1) := by decide +kernel
theorem dX4_canBe_40 : decode cX4_canBe 40 = .ok (.iconst 5, 1) := by decide +kernel
theorem dX4_canBe_41 : decode cX4_canBe 41 = .ok (.if_icmp .ne 7, 3) := by decide +kernel
theorem dX4_canBe_44 : decode cX4_canBe 44 = .ok (.iconst 1, 1) := by decide +kernel
theorem dX4_canBe_45 : decode cX4_canBe 45 = .ok (.goto 4, 3) := by decide +kernel
theorem dX4_canBe_48 : decode cX4_canBe 48 = .ok (.iconst 0, 1) := by decide +kernel
theorem dX4_canBe_49 : decode cX4_canBe 49 = .ok (.istore 6, 2) := by decide +kernel
theorem dX4_canBe_51 : decode cX4_canBe 51 = .ok (.iload_n 3, 1) := by decide +kernel
theorem dX4_canBe_52 : decode cX4_canBe 52 = .ok (.iconst 1, 1) := by decide +kernel
theorem dX4_canBe_53 : decode cX4_canBe 53 = .ok (.if_icmp .eq 8, 3) := by decide +kernel
theorem dX4_canBe_56 : decode cX4_canBe 56 = .ok (.iload_n 3, 1) := by decide +kernel
theorem dX4_canBe_57 : decode cX4_canBe 57 = .ok (.iconst 2, 1) := by decide +kernel
theorem dX4_canBe_58 : decode cX4_canBe 58 = .ok (.if_icmp .ne 25, 3) := by decide +kernel
theorem dX4_canBe_61 : decode cX4_canBe 61 = .ok (.iload_n 2, 1) := by decide +kernel
theorem dX4_canBe_62 : decode cX4_canBe 62 = .ok (.iconst 1, 1) := by decide +kernel
theorem dX4_canBe_63 : decode cX4_canBe 63 = .ok (.if_icmp .ne 20, 3) := by decide +kernel
theorem dX4_canBe_66 : decode cX4_canBe 66 = .ok (.iload 5, 2) := by decide +kernel
theorem dX4_canBe_68 : decode cX4_canBe 68 = .ok (.aload_n 0, 1) := by decide +kernel
theorem dX4_canBe_69 : decode cX4_canBe 69 = .ok (.getfield 18, 3) := by decide +kernel
theorem dX4_canBe_72 : decode cX4_canBe 72 = .ok (.iconst 3, 1) := by decide +kernel
theorem dX4_canBe_73 : decode cX4_canBe 73 = .ok (.iload_n 1, 1) := by decide +kernel
theorem dX4_canBe_74 : decode cX4_canBe 74 = .ok (.imul, 1) := by decide +kernel
theorem dX4_canBe_75 : decode cX4_canBe 75 = .ok (.iaload, 1) := by decide +kernel
theorem dX4_canBe_76 : decode cX4_canBe 76 = .ok (.if_icmp .ne 7, 3) := by decide +kernel
theorem dX4_canBe_79 : decode cX4_canBe 79 = .ok (.iconst 1, 1) := by decide +kernel
theorem dX4_canBe_80 : decode cX4_canBe 80 = .ok (.goto 4, 3) := by decide +kernel
theorem dX4_canBe_83 : decode cX4_canBe 83 = .ok (.iconst 0, 1) := by decide +kernel
theorem dX4_canBe_84 : decode cX4_canBe 84 = .ok (.istore 7, 2) := by decide +kernel
theorem dX4_canBe_86 : decode cX4_canBe 86 = .ok (.iload 5, 2) := by decide +kernel
theorem dX4_canBe_88 : decode cX4_canBe 88 = .ok (.iload 6, 2) := by decide +kernel
theorem dX4_canBe_90 : decode cX4_canBe 90 = .ok (.if_icmp .lt 19, 3) := by decide +kernel
theorem dX4_canBe_93 : decode cX4_canBe 93 = .ok (.iload 5, 2) := by decide +kernel
theorem dX4_canBe_95 : decode cX4_canBe 95 = .ok (.iload 4, 2) := by decide +kernel
theorem dX4_canBe_97 : decode cX4_canBe 97 = .ok (.if_icmp .gt 12, 3) := by decide +kernel
theorem dX4_canBe_100 : decode cX4_canBe 100 = .ok (.iload 7, 2) := by decide +kernel
theorem dX4_canBe_102 : decode cX4_canBe 102 = .ok (.ifCond .ne 7, 3) := by decide +kernel
theorem dX4_canBe_105 : decode cX4_canBe 105 = .ok (.iconst 1, 1) := by decide +kernel
theorem dX4_canBe_106 : decode cX4_canBe 106 = .ok (.goto 4, 3) := by decide +kernel
theorem dX4_canBe_109 : decode cX4_canBe 109 = .ok (.iconst 0, 1) := by decide +kernel
theorem dX4_canBe_110 : decode cX4_canBe 110 = .ok (.ireturn, 1) := by decide +kernel
abbrev rmX4_canBe : Room := { frames := 1, cells := 0, slots := 0, locals := 21 }
def bX4_canBe_84 (l4 : Int32) (l5 : Int32) (l6 : Int32) (s0 : Int32) (z : AH) : Option (Int32) :=
  if l5 < l6 then (
    some (0 : Int32)
  ) else (
    if l4 < l5 then (
      some (0 : Int32)
    ) else (
      if s0 = (0 : Int32) then (
        some (1 : Int32)
      ) else (
        some (0 : Int32)
      )
    )
  )
set_option maxHeartbeats 4000000 in
set_option maxRecDepth 100000 in
theorem kbX4_canBe_84 {p : Program} {l : Launch} {e : Env} {s : State} {m : MethodId} {args : Array Value} {below : List Frame} {meth : Method} {c : Code} {G : GW} {r : Int32} (C : Cx p m c cX4_canBe 8 s args RX4 G) (hlk : meth.locks = false) (hr : meth.sig.returnType = (some .boolean)) {z : AH} (l4 : Int32) (l5 : Int32) (l6 : Int32) (s0 : Int32) {H : Heap} {locs : List Loc} {ls : Array Slot} (h : bX4_canBe_84 l4 l5 l6 s0 z = some r) (hW : Wb G z s H locs) (hl : lv_has ls 8 [(4, .int l4), (5, .int l5), (6, .int l6)]) : W p l e rmX4_canBe s m args below meth c H locs 0 0 (MQ below (Qi G r z) args s 0 0 (AA G)) (F0 m 84 ls [.int s0]) := by
  have hx := C.1
  have hb := C.2.1
  unfold bX4_canBe_84 at h
  refine lv_istore (lv' := [(7, .int s0), (4, .int l4), (5, .int l5), (6, .int l6)]) hx hb dX4_canBe_84 hl (by decide) rfl (fun ls hl => ?_)
  refine lv_iload hx hb dX4_canBe_86 (lv_at hl 2 rfl) ?_
  refine lv_iload hx hb dX4_canBe_88 (lv_at hl 3 rfl) ?_
  refine lv_icmp_lt (tgt := 109) hx hb dX4_canBe_90 (by decide) (fun c90 => ?_) (fun c90 => ?_)
  · have h := ite_t c90 h
    refine lv_iconst (v := 0) hx hb dX4_canBe_109 (by decide) ?_
    exact wz_zretE C hlk hr (Or.inl rfl) (Option.some.inj h) rfl hW dX4_canBe_110
  · have h := ite_f c90 h
    refine lv_iload hx hb dX4_canBe_93 (lv_at hl 2 rfl) ?_
    refine lv_iload hx hb dX4_canBe_95 (lv_at hl 1 rfl) ?_
    refine lv_icmp_gt (tgt := 109) hx hb dX4_canBe_97 (by decide) (fun c97 => ?_) (fun c97 => ?_)
    · have h := ite_t c97 h
      refine lv_iconst (v := 0) hx hb dX4_canBe_109 (by decide) ?_
      exact wz_zretE C hlk hr (Or.inl rfl) (Option.some.inj h) rfl hW dX4_canBe_110
    · have h := ite_f c97 h
      refine lv_iload hx hb dX4_canBe_100 (lv_at hl 0 rfl) ?_
      refine lv_if_ne (tgt := 109) hx hb dX4_canBe_102 (by decide) (fun c102 => ?_) (fun c102 => ?_)
      · have h := ite_f c102 h
        refine lv_iconst (v := 0) hx hb dX4_canBe_109 (by decide) ?_
        exact wz_zretE C hlk hr (Or.inl rfl) (Option.some.inj h) rfl hW dX4_canBe_110
      · have h := ite_t c102 h
        refine lv_iconst (v := 1) hx hb dX4_canBe_105 (by decide) ?_
        refine lv_goto (tgt := 110) hx hb dX4_canBe_106 (by decide) ?_
        exact wz_zretE C hlk hr (Or.inr rfl) (Option.some.inj h) rfl hW dX4_canBe_110
def bX4_canBe_83 (l4 : Int32) (l5 : Int32) (l6 : Int32) (z : AH) : Option (Int32) :=
  bX4_canBe_84 l4 l5 l6 (0 : Int32) z
set_option maxHeartbeats 4000000 in
set_option maxRecDepth 100000 in
theorem kbX4_canBe_83 {p : Program} {l : Launch} {e : Env} {s : State} {m : MethodId} {args : Array Value} {below : List Frame} {meth : Method} {c : Code} {G : GW} {r : Int32} (C : Cx p m c cX4_canBe 8 s args RX4 G) (hlk : meth.locks = false) (hr : meth.sig.returnType = (some .boolean)) {z : AH} (l4 : Int32) (l5 : Int32) (l6 : Int32) {H : Heap} {locs : List Loc} {ls : Array Slot} (h : bX4_canBe_83 l4 l5 l6 z = some r) (hW : Wb G z s H locs) (hl : lv_has ls 8 [(4, .int l4), (5, .int l5), (6, .int l6)]) : W p l e rmX4_canBe s m args below meth c H locs 0 0 (MQ below (Qi G r z) args s 0 0 (AA G)) (F0 m 83 ls []) := by
  have hx := C.1
  have hb := C.2.1
  unfold bX4_canBe_83 at h
  refine lv_iconst (v := 0) hx hb dX4_canBe_83 (by decide) ?_
  exact kbX4_canBe_84 C hlk hr l4 l5 l6 (0 : Int32) h hW (lv_sub hl [0, 1, 2] rfl)
def bX4_canBe_61 (a0 : Nat) (l1 : Int32) (l2 : Int32) (l4 : Int32) (l5 : Int32) (l6 : Int32) (z : AH) : Option (Int32) :=
  if l2 = (1 : Int32) then (
    (gN 3 2 z a0).bind fun b69 =>
    (ixI 0 z b69 ((3 : Int32) * l1)).bind fun x75 =>
    if l5 = x75 then (
      bX4_canBe_84 l4 l5 l6 (1 : Int32) z
    ) else (
      bX4_canBe_83 l4 l5 l6 z
    )
  ) else (
    bX4_canBe_83 l4 l5 l6 z
  )
set_option maxHeartbeats 4000000 in
set_option maxRecDepth 100000 in
theorem kbX4_canBe_61 {p : Program} {l : Launch} {e : Env} {s : State} {m : MethodId} {args : Array Value} {below : List Frame} {meth : Method} {c : Code} {G : GW} {r : Int32} (C : Cx p m c cX4_canBe 8 s args RX4 G) (hlk : meth.locks = false) (hr : meth.sig.returnType = (some .boolean)) {z : AH} (a0 : Nat) (l1 : Int32) (l2 : Int32) (l4 : Int32) (l5 : Int32) (l6 : Int32) {H : Heap} {locs : List Loc} {ls : Array Slot} (h : bX4_canBe_61 a0 l1 l2 l4 l5 l6 z = some r) (hW : Wb G z s H locs) (hl : lv_has ls 8 [(0, .ref (gB G + a0)), (1, .int l1), (2, .int l2), (4, .int l4), (5, .int l5), (6, .int l6)]) : W p l e rmX4_canBe s m args below meth c H locs 0 0 (MQ below (Qi G r z) args s 0 0 (AA G)) (F0 m 61 ls []) := by
  have hx := C.1
  have hb := C.2.1
  unfold bX4_canBe_61 at h
  refine lv_iload_n hx hb dX4_canBe_61 rfl (lv_at hl 2 rfl) ?_
  refine lv_iconst (v := 1) hx hb dX4_canBe_62 (by decide) ?_
  refine lv_icmp_ne (tgt := 83) hx hb dX4_canBe_63 (by decide) (fun c63 => ?_) (fun c63 => ?_)
  · have h := ite_f c63 h
    exact kbX4_canBe_83 C hlk hr l4 l5 l6 h hW (lv_sub hl [3, 4, 5] rfl)
  · have h := ite_t c63 h
    refine lv_iload hx hb dX4_canBe_66 (lv_at hl 4 rfl) ?_
    refine lv_aload_n hx hb dX4_canBe_68 rfl (lv_at hl 0 rfl) ?_
    obtain ⟨b69, hg, h⟩ := ob h
    refine wz_gN C hW flX4_18 hg dX4_canBe_69 ?_
    refine lv_iconst (v := 3) hx hb dX4_canBe_72 (by decide) ?_
    refine lv_iload_n hx hb dX4_canBe_73 rfl (lv_at hl 1 rfl) ?_
    refine lv_imul hx hb dX4_canBe_74 ?_
    obtain ⟨x75, hg, h⟩ := ob h
    refine wz_ald C hW hg dX4_canBe_75 ?_
    refine lv_icmp_ne (tgt := 83) hx hb dX4_canBe_76 (by decide) (fun c76 => ?_) (fun c76 => ?_)
    · have h := ite_f c76 h
      exact kbX4_canBe_83 C hlk hr l4 l5 l6 h hW (lv_sub hl [3, 4, 5] rfl)
    · have h := ite_t c76 h
      refine lv_iconst (v := 1) hx hb dX4_canBe_79 (by decide) ?_
      refine lv_goto (tgt := 84) hx hb dX4_canBe_80 (by decide) ?_
      exact kbX4_canBe_84 C hlk hr l4 l5 l6 (1 : Int32) h hW (lv_sub hl [3, 4, 5] rfl)
def bX4_canBe_49 (a0 : Nat) (l1 : Int32) (l2 : Int32) (l3 : Int32) (l4 : Int32) (l5 : Int32) (s0 : Int32) (z : AH) : Option (Int32) :=
  if l3 = (1 : Int32) then (
    bX4_canBe_61 a0 l1 l2 l4 l5 s0 z
  ) else (
    if l3 = (2 : Int32) then (
      bX4_canBe_61 a0 l1 l2 l4 l5 s0 z
    ) else (
      bX4_canBe_83 l4 l5 s0 z
    )
  )
set_option maxHeartbeats 4000000 in
set_option maxRecDepth 100000 in
theorem kbX4_canBe_49 {p : Program} {l : Launch} {e : Env} {s : State} {m : MethodId} {args : Array Value} {below : List Frame} {meth : Method} {c : Code} {G : GW} {r : Int32} (C : Cx p m c cX4_canBe 8 s args RX4 G) (hlk : meth.locks = false) (hr : meth.sig.returnType = (some .boolean)) {z : AH} (a0 : Nat) (l1 : Int32) (l2 : Int32) (l3 : Int32) (l4 : Int32) (l5 : Int32) (s0 : Int32) {H : Heap} {locs : List Loc} {ls : Array Slot} (h : bX4_canBe_49 a0 l1 l2 l3 l4 l5 s0 z = some r) (hW : Wb G z s H locs) (hl : lv_has ls 8 [(0, .ref (gB G + a0)), (1, .int l1), (2, .int l2), (3, .int l3), (4, .int l4), (5, .int l5)]) : W p l e rmX4_canBe s m args below meth c H locs 0 0 (MQ below (Qi G r z) args s 0 0 (AA G)) (F0 m 49 ls [.int s0]) := by
  have hx := C.1
  have hb := C.2.1
  unfold bX4_canBe_49 at h
  refine lv_istore (lv' := [(6, .int s0), (0, .ref (gB G + a0)), (1, .int l1), (2, .int l2), (3, .int l3), (4, .int l4), (5, .int l5)]) hx hb dX4_canBe_49 hl (by decide) rfl (fun ls hl => ?_)
  refine lv_iload_n hx hb dX4_canBe_51 rfl (lv_at hl 4 rfl) ?_
  refine lv_iconst (v := 1) hx hb dX4_canBe_52 (by decide) ?_
  refine lv_icmp_eq (tgt := 61) hx hb dX4_canBe_53 (by decide) (fun c53 => ?_) (fun c53 => ?_)
  · have h := ite_t c53 h
    exact kbX4_canBe_61 C hlk hr a0 l1 l2 l4 l5 s0 h hW (lv_sub hl [1, 2, 3, 5, 6, 0] rfl)
  · have h := ite_f c53 h
    refine lv_iload_n hx hb dX4_canBe_56 rfl (lv_at hl 4 rfl) ?_
    refine lv_iconst (v := 2) hx hb dX4_canBe_57 (by decide) ?_
    refine lv_icmp_ne (tgt := 83) hx hb dX4_canBe_58 (by decide) (fun c58 => ?_) (fun c58 => ?_)
    · have h := ite_f c58 h
      exact kbX4_canBe_83 C hlk hr l4 l5 s0 h hW (lv_sub hl [5, 6, 0] rfl)
    · have h := ite_t c58 h
      exact kbX4_canBe_61 C hlk hr a0 l1 l2 l4 l5 s0 h hW (lv_sub hl [1, 2, 3, 5, 6, 0] rfl)
def bX4_canBe_44 (a0 : Nat) (l1 : Int32) (l2 : Int32) (l3 : Int32) (l4 : Int32) (l5 : Int32) (z : AH) : Option (Int32) :=
  bX4_canBe_49 a0 l1 l2 l3 l4 l5 (1 : Int32) z
set_option maxHeartbeats 4000000 in
set_option maxRecDepth 100000 in
theorem kbX4_canBe_44 {p : Program} {l : Launch} {e : Env} {s : State} {m : MethodId} {args : Array Value} {below : List Frame} {meth : Method} {c : Code} {G : GW} {r : Int32} (C : Cx p m c cX4_canBe 8 s args RX4 G) (hlk : meth.locks = false) (hr : meth.sig.returnType = (some .boolean)) {z : AH} (a0 : Nat) (l1 : Int32) (l2 : Int32) (l3 : Int32) (l4 : Int32) (l5 : Int32) {H : Heap} {locs : List Loc} {ls : Array Slot} (h : bX4_canBe_44 a0 l1 l2 l3 l4 l5 z = some r) (hW : Wb G z s H locs) (hl : lv_has ls 8 [(0, .ref (gB G + a0)), (1, .int l1), (2, .int l2), (3, .int l3), (4, .int l4), (5, .int l5)]) : W p l e rmX4_canBe s m args below meth c H locs 0 0 (MQ below (Qi G r z) args s 0 0 (AA G)) (F0 m 44 ls []) := by
  have hx := C.1
  have hb := C.2.1
  unfold bX4_canBe_44 at h
  refine lv_iconst (v := 1) hx hb dX4_canBe_44 (by decide) ?_
  refine lv_goto (tgt := 49) hx hb dX4_canBe_45 (by decide) ?_
  exact kbX4_canBe_49 C hlk hr a0 l1 l2 l3 l4 l5 (1 : Int32) h hW (lv_sub hl [0, 1, 2, 3, 4, 5] rfl)
def fX4_canBe (a0 : Nat) (l1 : Int32) (l2 : Int32) (z : AH) : Option (Int32) :=
  if isO 3 z a0 = true then
    (gN 3 0 z a0).bind fun b1 =>
    (ixI 0 z b1 l1).bind fun x5 =>
    (fX4_top x5 l2).bind fun x9 =>
    if x9 = (-1 : Int32) then (
      some (1 : Int32)
    ) else (
      (gN 3 2 z a0).bind fun b23 =>
      (ixI 0 z b23 (((3 : Int32) * l1) + l2)).bind fun x31 =>
      if x5 = (4 : Int32) then (
        bX4_canBe_44 a0 l1 l2 x5 x9 x31 z
      ) else (
        if x5 = (5 : Int32) then (
          bX4_canBe_44 a0 l1 l2 x5 x9 x31 z
        ) else (
          bX4_canBe_49 a0 l1 l2 x5 x9 x31 (0 : Int32) z
        )
      )
    )
  else none
set_option maxHeartbeats 4000000 in
set_option maxRecDepth 100000 in
theorem ctX4_canBe (l : Launch) (G : GW) (a0 : Nat) (l1 : Int32) (l2 : Int32) (z : AH) {r : Int32} (h : fX4_canBe a0 l1 l2 z = some r) : Met l yX4_canBe (wy yX4_canBe cX4_canBe 8 (some .boolean)) rmX4_canBe (Pz G [.ref (gB G + a0), .int l1, .int l2] z) (Qi G r z) 0 0 (AA G) := by
  refine wz_ent (own := RX4) (by decide +kernel) rfl (fun p e s m below meth c ls C hlk hr hin hW hl => ?_) (Nat.le_of_ble_eq_true rfl)
  have hl : lv_has ls 8 [(0, .ref (gB G + a0)), (1, .int l1), (2, .int l2)] := hl
  have hx := C.1
  have hb := C.2.1
  unfold fX4_canBe at h
  obtain ⟨-, h⟩ := ck h
  refine lv_aload_n hx hb dX4_canBe_0 rfl (lv_at hl 0 rfl) ?_
  obtain ⟨b1, hg, h⟩ := ob h
  refine wz_gN C hW flX4_11 hg dX4_canBe_1 ?_
  refine lv_iload_n hx hb dX4_canBe_4 rfl (lv_at hl 1 rfl) ?_
  obtain ⟨x5, hg, h⟩ := ob h
  refine wz_ald C hW hg dX4_canBe_5 ?_
  refine lv_istore_n (lv' := [(3, .int x5), (0, .ref (gB G + a0)), (1, .int l1), (2, .int l2)]) hx hb dX4_canBe_6 rfl hl (by decide) rfl (fun ls hl => ?_)
  refine lv_iload_n hx hb dX4_canBe_7 rfl (lv_at hl 0 rfl) ?_
  refine lv_iload_n hx hb dX4_canBe_8 rfl (lv_at hl 3 rfl) ?_
  obtain ⟨x9, hq, h⟩ := ob h
  refine wz_rI (c' := 0) (s' := 0) hW (wz_runS (rest := []) C hW lTX4_109 (ctX4_top l G x5 l2 z hq) ⟨⟨rfl, rfl⟩, Nat.le_of_ble_eq_true rfl, Nat.le_of_ble_eq_true rfl⟩ rfl hl.1 rfl (Nat.le_of_ble_eq_true rfl) dX4_canBe_9 ⟨Nat.le_of_ble_eq_true rfl, Nat.le_of_ble_eq_true rfl⟩) rfl rfl (fun H locs hW => ?_)
  refine lv_istore (lv' := [(4, .int x9), (3, .int x5), (0, .ref (gB G + a0)), (1, .int l1), (2, .int l2)]) hx hb dX4_canBe_12 hl (by decide) rfl (fun ls hl => ?_)
  refine lv_iload hx hb dX4_canBe_14 (lv_at hl 0 rfl) ?_
  refine lv_iconst (v := -1) hx hb dX4_canBe_16 (by decide) ?_
  refine lv_icmp_ne (tgt := 22) hx hb dX4_canBe_17 (by decide) (fun c17 => ?_) (fun c17 => ?_)
  · have h := ite_f c17 h
    refine lv_aload_n hx hb dX4_canBe_22 rfl (lv_at hl 2 rfl) ?_
    obtain ⟨b23, hg, h⟩ := ob h
    refine wz_gN C hW flX4_18 hg dX4_canBe_23 ?_
    refine lv_iconst (v := 3) hx hb dX4_canBe_26 (by decide) ?_
    refine lv_iload_n hx hb dX4_canBe_27 rfl (lv_at hl 3 rfl) ?_
    refine lv_imul hx hb dX4_canBe_28 ?_
    refine lv_iload_n hx hb dX4_canBe_29 rfl (lv_at hl 4 rfl) ?_
    refine lv_iadd hx hb dX4_canBe_30 ?_
    obtain ⟨x31, hg, h⟩ := ob h
    refine wz_ald C hW hg dX4_canBe_31 ?_
    refine lv_istore (lv' := [(5, .int x31), (4, .int x9), (3, .int x5), (0, .ref (gB G + a0)), (1, .int l1), (2, .int l2)]) hx hb dX4_canBe_32 hl (by decide) rfl (fun ls hl => ?_)
    refine lv_iload_n hx hb dX4_canBe_34 rfl (lv_at hl 2 rfl) ?_
    refine lv_iconst (v := 4) hx hb dX4_canBe_35 (by decide) ?_
    refine lv_icmp_eq (tgt := 44) hx hb dX4_canBe_36 (by decide) (fun c36 => ?_) (fun c36 => ?_)
    · have h := ite_t c36 h
      exact kbX4_canBe_44 C hlk hr a0 l1 l2 x5 x9 x31 h hW (lv_sub hl [3, 4, 5, 2, 1, 0] rfl)
    · have h := ite_f c36 h
      refine lv_iload_n hx hb dX4_canBe_39 rfl (lv_at hl 2 rfl) ?_
      refine lv_iconst (v := 5) hx hb dX4_canBe_40 (by decide) ?_
      refine lv_icmp_ne (tgt := 48) hx hb dX4_canBe_41 (by decide) (fun c41 => ?_) (fun c41 => ?_)
      · have h := ite_f c41 h
        refine lv_iconst (v := 0) hx hb dX4_canBe_48 (by decide) ?_
        exact kbX4_canBe_49 C hlk hr a0 l1 l2 x5 x9 x31 (0 : Int32) h hW (lv_sub hl [3, 4, 5, 2, 1, 0] rfl)
      · have h := ite_t c41 h
        exact kbX4_canBe_44 C hlk hr a0 l1 l2 x5 x9 x31 h hW (lv_sub hl [3, 4, 5, 2, 1, 0] rfl)
  · have h := ite_t c17 h
    refine lv_iconst (v := 1) hx hb dX4_canBe_20 (by decide) ?_
    exact wz_zretE C hlk hr (Or.inr rfl) (Option.some.inj h) rfl hW dX4_canBe_21
theorem lVX4_174 : LV RX4 174 yX0_addThing cX0_addThing 4 none 3 := ⟨tw 660 (by decide +kernel) rfl, tw 661 (by decide +kernel) rfl, tw 662 (by decide +kernel) rfl, tw 121 (by decide +kernel) rfl, tw 663 (by decide +kernel) rfl, ⟨by decide +kernel, by decide +kernel, by decide +kernel⟩⟩
theorem lVX4_178 : LV RX4 178 yX0_restOn cX0_restOn 3 none 2 := ⟨tw 664 (by decide +kernel) rfl, tw 665 (by decide +kernel) rfl, tw 666 (by decide +kernel) rfl, tw 121 (by decide +kernel) rfl, tw 667 (by decide +kernel) rfl, ⟨by decide +kernel, by decide +kernel, by decide +kernel⟩⟩
theorem lVX4_181 : LV RX4 181 yX0_addPath cX0_addPath 3 none 2 := ⟨tw 668 (by decide +kernel) rfl, tw 669 (by decide +kernel) rfl, tw 670 (by decide +kernel) rfl, tw 121 (by decide +kernel) rfl, tw 671 (by decide +kernel) rfl, ⟨by decide +kernel, by decide +kernel, by decide +kernel⟩⟩
theorem lVX4_184 : LV RX4 184 yX0_addCouple cX0_addCouple 3 none 2 := ⟨tw 675 (by decide +kernel) rfl, tw 676 (by decide +kernel) rfl, tw 677 (by decide +kernel) rfl, tw 121 (by decide +kernel) rfl, tw 678 (by decide +kernel) rfl, ⟨by decide +kernel, by decide +kernel, by decide +kernel⟩⟩
theorem lVX4_187 : LV RX4 187 yX0_addLeft cX0_addLeft 2 none 1 := ⟨tw 679 (by decide +kernel) rfl, tw 680 (by decide +kernel) rfl, tw 681 (by decide +kernel) rfl, tw 121 (by decide +kernel) rfl, tw 682 (by decide +kernel) rfl, ⟨by decide +kernel, by decide +kernel, by decide +kernel⟩⟩
theorem lVX4_190 : LV RX4 190 yX0_addRight cX0_addRight 2 none 1 := ⟨tw 683 (by decide +kernel) rfl, tw 684 (by decide +kernel) rfl, tw 685 (by decide +kernel) rfl, tw 121 (by decide +kernel) rfl, tw 686 (by decide +kernel) rfl, ⟨by decide +kernel, by decide +kernel, by decide +kernel⟩⟩
theorem flX4_193 : FL RX4 193 0 19 := ⟨_, rfl, Nat.le_of_ble_eq_true rfl, tw 205 (by decide +kernel) rfl, rfl⟩
theorem flX4_196 : FL RX4 196 0 17 := ⟨_, rfl, Nat.le_of_ble_eq_true rfl, tw 198 (by decide +kernel) rfl, rfl⟩
theorem lTX4_199 : LT RX4 199 yX0_like cX0_like 4 none 4 := ⟨tw 687 (by decide +kernel) rfl, tw 688 (by decide +kernel) rfl, tw 121 (by decide +kernel) rfl, tw 689 (by decide +kernel) rfl, ⟨by decide +kernel, by decide +kernel, by decide +kernel⟩⟩
theorem flX4_203 : FL RX4 203 0 18 := ⟨_, rfl, Nat.le_of_ble_eq_true rfl, tw 201 (by decide +kernel) rfl, rfl⟩
theorem dX4_tellLine_0 : decode cX4_tellLine 0 = .ok (.iload_n 1, 1) := by decide +kernel
theorem dX4_tellLine_1 : decode cX4_tellLine 1 = .ok (.tableswitch 141 0 8 #[51, 62, 71, 80, 89, 97, 105, 113, 127], 51) := by decide +kernel
theorem dX4_tellLine_52 : decode cX4_tellLine 52 = .ok (.aload_n 0, 1) := by decide +kernel
theorem dX4_tellLine_53 : decode cX4_tellLine 53 = .ok (.iload_n 2, 1) := by decide +kernel
theorem dX4_tellLine_54 : decode cX4_tellLine 54 = .ok (.iload_n 3, 1) := by decide +kernel
theorem dX4_tellLine_55 : decode cX4_tellLine 55 = .ok (.iload 4, 2) := by decide +kernel
theorem dX4_tellLine_57 : decode cX4_tellLine 57 = .ok (.invokevirtual 174, 3) := by decide +kernel
theorem dX4_tellLine_60 : decode cX4_tellLine 60 = .ok (.goto 82, 3) := by decide +kernel
theorem dX4_tellLine_63 : decode cX4_tellLine 63 = .ok (.aload_n 0, 1) := by decide +kernel
theorem dX4_tellLine_64 : decode cX4_tellLine 64 = .ok (.iload_n 2, 1) := by decide +kernel
theorem dX4_tellLine_65 : decode cX4_tellLine 65 = .ok (.iload_n 3, 1) := by decide +kernel
theorem dX4_tellLine_66 : decode cX4_tellLine 66 = .ok (.invokevirtual 178, 3) := by decide +kernel
theorem dX4_tellLine_69 : decode cX4_tellLine 69 = .ok (.goto 73, 3) := by decide +kernel
theorem dX4_tellLine_72 : decode cX4_tellLine 72 = .ok (.aload_n 0, 1) := by decide +kernel
theorem dX4_tellLine_73 : decode cX4_tellLine 73 = .ok (.iload_n 2, 1) := by decide +kernel
theorem dX4_tellLine_74 : decode cX4_tellLine 74 = .ok (.iload_n 3, 1) := by decide +kernel
theorem dX4_tellLine_75 : decode cX4_tellLine 75 = .ok (.invokevirtual 181, 3) := by decide +kernel
theorem dX4_tellLine_78 : decode cX4_tellLine 78 = .ok (.goto 64, 3) := by decide +kernel
theorem dX4_tellLine_81 : decode cX4_tellLine 81 = .ok (.aload_n 0, 1) := by decide +kernel
theorem dX4_tellLine_82 : decode cX4_tellLine 82 = .ok (.iload_n 2, 1) := by decide +kernel
theorem dX4_tellLine_83 : decode cX4_tellLine 83 = .ok (.iload_n 3, 1) := by decide +kernel
theorem dX4_tellLine_84 : decode cX4_tellLine 84 = .ok (.invokevirtual 184, 3) := by decide +kernel
theorem dX4_tellLine_87 : decode cX4_tellLine 87 = .ok (.goto 55, 3) := by decide +kernel
theorem dX4_tellLine_90 : decode cX4_tellLine 90 = .ok (.aload_n 0, 1) := by decide +kernel
theorem dX4_tellLine_91 : decode cX4_tellLine 91 = .ok (.iload_n 2, 1) := by decide +kernel
theorem dX4_tellLine_92 : decode cX4_tellLine 92 = .ok (.invokevirtual 187, 3) := by decide +kernel
theorem dX4_tellLine_95 : decode cX4_tellLine 95 = .ok (.goto 47, 3) := by decide +kernel
theorem dX4_tellLine_98 : decode cX4_tellLine 98 = .ok (.aload_n 0, 1) := by decide +kernel
theorem dX4_tellLine_99 : decode cX4_tellLine 99 = .ok (.iload_n 2, 1) := by decide +kernel
theorem dX4_tellLine_100 : decode cX4_tellLine 100 = .ok (.invokevirtual 190, 3) := by decide +kernel
theorem dX4_tellLine_103 : decode cX4_tellLine 103 = .ok (.goto 39, 3) := by decide +kernel
theorem dX4_tellLine_106 : decode cX4_tellLine 106 = .ok (.aload_n 0, 1) := by decide +kernel
theorem dX4_tellLine_107 : decode cX4_tellLine 107 = .ok (.iload_n 2, 1) := by decide +kernel
theorem dX4_tellLine_108 : decode cX4_tellLine 108 = .ok (.putfield 193, 3) := by decide +kernel
theorem dX4_tellLine_111 : decode cX4_tellLine 111 = .ok (.goto 31, 3) := by decide +kernel
theorem dX4_tellLine_114 : decode cX4_tellLine 114 = .ok (.aload_n 0, 1) := by decide +kernel
theorem dX4_tellLine_115 : decode cX4_tellLine 115 = .ok (.getfield 196, 3) := by decide +kernel
theorem dX4_tellLine_118 : decode cX4_tellLine 118 = .ok (.iload_n 2, 1) := by decide +kernel
theorem dX4_tellLine_119 : decode cX4_tellLine 119 = .ok (.iload_n 3, 1) := by decide +kernel
theorem dX4_tellLine_120 : decode cX4_tellLine 120 = .ok (.iload 4, 2) := by decide +kernel
theorem dX4_tellLine_122 : decode cX4_tellLine 122 = .ok (.invokestatic 199, 3) := by decide +kernel
theorem dX4_tellLine_125 : decode cX4_tellLine 125 = .ok (.goto 17, 3) := by decide +kernel
theorem dX4_tellLine_128 : decode cX4_tellLine 128 = .ok (.aload_n 0, 1) := by decide +kernel
theorem dX4_tellLine_129 : decode cX4_tellLine 129 = .ok (.getfield 203, 3) := by decide +kernel
theorem dX4_tellLine_132 : decode cX4_tellLine 132 = .ok (.iload_n 2, 1) := by decide +kernel
theorem dX4_tellLine_133 : decode cX4_tellLine 133 = .ok (.iload_n 3, 1) := by decide +kernel
theorem dX4_tellLine_134 : decode cX4_tellLine 134 = .ok (.iload 4, 2) := by decide +kernel
theorem dX4_tellLine_136 : decode cX4_tellLine 136 = .ok (.invokestatic 199, 3) := by decide +kernel
theorem dX4_tellLine_139 : decode cX4_tellLine 139 = .ok (.goto 3, 3) := by decide +kernel
theorem dX4_tellLine_142 : decode cX4_tellLine 142 = .ok (.return_, 1) := by decide +kernel
abbrev rmX4_tellLine : Room := { frames := 2, cells := 0, slots := 0, locals := 42 }
def fX4_tellLine (a0 : Nat) (l1 : Int32) (l2 : Int32) (l3 : Int32) (l4 : Int32) (z : AH) : Option AH :=
  if l1 = (0 : Int32) then (
    (fX0_addThing a0 l2 l3 l4 z).bind fun z57 =>
    some z57
  ) else
  if l1 = (1 : Int32) then (
    (fX0_restOn a0 l2 l3 z).bind fun z66 =>
    some z66
  ) else
  if l1 = (2 : Int32) then (
    (fX0_addPath a0 l2 l3 z).bind fun z75 =>
    some z75
  ) else
  if l1 = (3 : Int32) then (
    (fX0_addCouple a0 l2 l3 z).bind fun z84 =>
    some z84
  ) else
  if l1 = (4 : Int32) then (
    (fX0_addLeft a0 l2 z).bind fun z92 =>
    some z92
  ) else
  if l1 = (5 : Int32) then (
    (fX0_addRight a0 l2 z).bind fun z100 =>
    some z100
  ) else
  if l1 = (6 : Int32) then (
    (pF 0 19 z a0 (.int l2)).bind fun z108 =>
    some z108
  ) else
  if l1 = (7 : Int32) then (
    (gN 0 17 z a0).bind fun b115 =>
    (fX0_like b115 l2 l3 l4 z).bind fun z122 =>
    some z122
  ) else
  if l1 = (8 : Int32) then (
    (gN 0 18 z a0).bind fun b129 =>
    (fX0_like b129 l2 l3 l4 z).bind fun z136 =>
    some z136
  ) else
  some z
set_option maxHeartbeats 4000000 in
set_option maxRecDepth 100000 in
theorem ctX4_tellLine (l : Launch) (G : GW) (a0 : Nat) (l1 : Int32) (l2 : Int32) (l3 : Int32) (l4 : Int32) (z : AH) {z' : AH} (h : fX4_tellLine a0 l1 l2 l3 l4 z = some z') : Met l yX4_tellLine (wy yX4_tellLine cX4_tellLine 5 none) rmX4_tellLine (Pz G [.ref (gB G + a0), .int l1, .int l2, .int l3, .int l4] z) (Qv G z') 0 0 (AA G) := by
  refine wz_ent (own := RX4) (by decide +kernel) rfl (fun p e s m below meth c ls C hlk hr hin hW hl => ?_) (Nat.le_of_ble_eq_true rfl)
  have hl : lv_has ls 5 [(0, .ref (gB G + a0)), (1, .int l1), (2, .int l2), (3, .int l3), (4, .int l4)] := hl
  have hx := C.1
  have hb := C.2.1
  unfold fX4_tellLine at h
  refine lv_iload_n hx hb dX4_tellLine_0 rfl (lv_at hl 1 rfl) ?_
  by_cases c1_0 : l1 = (0 : Int32)
  · have h := ite_t c1_0 h
    refine wz_sw (0 : Int32) (tgt := 52) hx hb dX4_tellLine_1 c1_0 (by decide) rfl (by decide) ?_
    refine lv_aload_n hx hb dX4_tellLine_52 rfl (lv_at hl 0 rfl) ?_
    refine lv_iload_n hx hb dX4_tellLine_53 rfl (lv_at hl 2 rfl) ?_
    refine lv_iload_n hx hb dX4_tellLine_54 rfl (lv_at hl 3 rfl) ?_
    refine lv_iload hx hb dX4_tellLine_55 (lv_at hl 4 rfl) ?_
    obtain ⟨z57, hq, h⟩ := ob h
    refine wz_rV (c' := 0) (s' := 0) hW (wz_runV (rest := []) C hW lVX4_174 (ck hq).1 rfl (ctX0_addThing l G a0 l2 l3 l4 z hq) ⟨⟨rfl, rfl⟩, Nat.le_of_ble_eq_true rfl, Nat.le_of_ble_eq_true rfl⟩ rfl hl.1 rfl (Nat.le_of_ble_eq_true rfl) dX4_tellLine_57 ⟨Nat.le_of_ble_eq_true rfl, Nat.le_of_ble_eq_true rfl⟩) rfl rfl (fun H locs hW => ?_)
    refine lv_goto (tgt := 142) hx hb dX4_tellLine_60 (by decide) ?_
    exact wz_vretE C hlk hr (Option.some.inj h) hW dX4_tellLine_142
  have h := ite_f c1_0 h
  by_cases c1_1 : l1 = (1 : Int32)
  · have h := ite_t c1_1 h
    refine wz_sw (1 : Int32) (tgt := 63) hx hb dX4_tellLine_1 c1_1 (by decide) rfl (by decide) ?_
    refine lv_aload_n hx hb dX4_tellLine_63 rfl (lv_at hl 0 rfl) ?_
    refine lv_iload_n hx hb dX4_tellLine_64 rfl (lv_at hl 2 rfl) ?_
    refine lv_iload_n hx hb dX4_tellLine_65 rfl (lv_at hl 3 rfl) ?_
    obtain ⟨z66, hq, h⟩ := ob h
    refine wz_rV (c' := 0) (s' := 0) hW (wz_runV (rest := []) C hW lVX4_178 (ck hq).1 rfl (ctX0_restOn l G a0 l2 l3 z hq) ⟨⟨rfl, rfl⟩, Nat.le_of_ble_eq_true rfl, Nat.le_of_ble_eq_true rfl⟩ rfl hl.1 rfl (Nat.le_of_ble_eq_true rfl) dX4_tellLine_66 ⟨Nat.le_of_ble_eq_true rfl, Nat.le_of_ble_eq_true rfl⟩) rfl rfl (fun H locs hW => ?_)
    refine lv_goto (tgt := 142) hx hb dX4_tellLine_69 (by decide) ?_
    exact wz_vretE C hlk hr (Option.some.inj h) hW dX4_tellLine_142
  have h := ite_f c1_1 h
  by_cases c1_2 : l1 = (2 : Int32)
  · have h := ite_t c1_2 h
    refine wz_sw (2 : Int32) (tgt := 72) hx hb dX4_tellLine_1 c1_2 (by decide) rfl (by decide) ?_
    refine lv_aload_n hx hb dX4_tellLine_72 rfl (lv_at hl 0 rfl) ?_
    refine lv_iload_n hx hb dX4_tellLine_73 rfl (lv_at hl 2 rfl) ?_
    refine lv_iload_n hx hb dX4_tellLine_74 rfl (lv_at hl 3 rfl) ?_
    obtain ⟨z75, hq, h⟩ := ob h
    refine wz_rV (c' := 0) (s' := 0) hW (wz_runV (rest := []) C hW lVX4_181 (ck hq).1 rfl (ctX0_addPath l G a0 l2 l3 z hq) ⟨⟨rfl, rfl⟩, Nat.le_of_ble_eq_true rfl, Nat.le_of_ble_eq_true rfl⟩ rfl hl.1 rfl (Nat.le_of_ble_eq_true rfl) dX4_tellLine_75 ⟨Nat.le_of_ble_eq_true rfl, Nat.le_of_ble_eq_true rfl⟩) rfl rfl (fun H locs hW => ?_)
    refine lv_goto (tgt := 142) hx hb dX4_tellLine_78 (by decide) ?_
    exact wz_vretE C hlk hr (Option.some.inj h) hW dX4_tellLine_142
  have h := ite_f c1_2 h
  by_cases c1_3 : l1 = (3 : Int32)
  · have h := ite_t c1_3 h
    refine wz_sw (3 : Int32) (tgt := 81) hx hb dX4_tellLine_1 c1_3 (by decide) rfl (by decide) ?_
    refine lv_aload_n hx hb dX4_tellLine_81 rfl (lv_at hl 0 rfl) ?_
    refine lv_iload_n hx hb dX4_tellLine_82 rfl (lv_at hl 2 rfl) ?_
    refine lv_iload_n hx hb dX4_tellLine_83 rfl (lv_at hl 3 rfl) ?_
    obtain ⟨z84, hq, h⟩ := ob h
    refine wz_rV (c' := 0) (s' := 0) hW (wz_runV (rest := []) C hW lVX4_184 (ck hq).1 rfl (ctX0_addCouple l G a0 l2 l3 z hq) ⟨⟨rfl, rfl⟩, Nat.le_of_ble_eq_true rfl, Nat.le_of_ble_eq_true rfl⟩ rfl hl.1 rfl (Nat.le_of_ble_eq_true rfl) dX4_tellLine_84 ⟨Nat.le_of_ble_eq_true rfl, Nat.le_of_ble_eq_true rfl⟩) rfl rfl (fun H locs hW => ?_)
    refine lv_goto (tgt := 142) hx hb dX4_tellLine_87 (by decide) ?_
    exact wz_vretE C hlk hr (Option.some.inj h) hW dX4_tellLine_142
  have h := ite_f c1_3 h
  by_cases c1_4 : l1 = (4 : Int32)
  · have h := ite_t c1_4 h
    refine wz_sw (4 : Int32) (tgt := 90) hx hb dX4_tellLine_1 c1_4 (by decide) rfl (by decide) ?_
    refine lv_aload_n hx hb dX4_tellLine_90 rfl (lv_at hl 0 rfl) ?_
    refine lv_iload_n hx hb dX4_tellLine_91 rfl (lv_at hl 2 rfl) ?_
    obtain ⟨z92, hq, h⟩ := ob h
    refine wz_rV (c' := 0) (s' := 0) hW (wz_runV (rest := []) C hW lVX4_187 (ck hq).1 rfl (ctX0_addLeft l G a0 l2 z hq) ⟨⟨rfl, rfl⟩, Nat.le_of_ble_eq_true rfl, Nat.le_of_ble_eq_true rfl⟩ rfl hl.1 rfl (Nat.le_of_ble_eq_true rfl) dX4_tellLine_92 ⟨Nat.le_of_ble_eq_true rfl, Nat.le_of_ble_eq_true rfl⟩) rfl rfl (fun H locs hW => ?_)
    refine lv_goto (tgt := 142) hx hb dX4_tellLine_95 (by decide) ?_
    exact wz_vretE C hlk hr (Option.some.inj h) hW dX4_tellLine_142
  have h := ite_f c1_4 h
  by_cases c1_5 : l1 = (5 : Int32)
  · have h := ite_t c1_5 h
    refine wz_sw (5 : Int32) (tgt := 98) hx hb dX4_tellLine_1 c1_5 (by decide) rfl (by decide) ?_
    refine lv_aload_n hx hb dX4_tellLine_98 rfl (lv_at hl 0 rfl) ?_
    refine lv_iload_n hx hb dX4_tellLine_99 rfl (lv_at hl 2 rfl) ?_
    obtain ⟨z100, hq, h⟩ := ob h
    refine wz_rV (c' := 0) (s' := 0) hW (wz_runV (rest := []) C hW lVX4_190 (ck hq).1 rfl (ctX0_addRight l G a0 l2 z hq) ⟨⟨rfl, rfl⟩, Nat.le_of_ble_eq_true rfl, Nat.le_of_ble_eq_true rfl⟩ rfl hl.1 rfl (Nat.le_of_ble_eq_true rfl) dX4_tellLine_100 ⟨Nat.le_of_ble_eq_true rfl, Nat.le_of_ble_eq_true rfl⟩) rfl rfl (fun H locs hW => ?_)
    refine lv_goto (tgt := 142) hx hb dX4_tellLine_103 (by decide) ?_
    exact wz_vretE C hlk hr (Option.some.inj h) hW dX4_tellLine_142
  have h := ite_f c1_5 h
  by_cases c1_6 : l1 = (6 : Int32)
  · have h := ite_t c1_6 h
    refine wz_sw (6 : Int32) (tgt := 106) hx hb dX4_tellLine_1 c1_6 (by decide) rfl (by decide) ?_
    refine lv_aload_n hx hb dX4_tellLine_106 rfl (lv_at hl 0 rfl) ?_
    refine lv_iload_n hx hb dX4_tellLine_107 rfl (lv_at hl 2 rfl) ?_
    obtain ⟨z108, hg, h⟩ := ob h
    refine wz_put (v := (.int l2)) C hW flX4_193 rfl rfl hg dX4_tellLine_108 (fun H locs hW => ?_)
    refine lv_goto (tgt := 142) hx hb dX4_tellLine_111 (by decide) ?_
    exact wz_vretE C hlk hr (Option.some.inj h) hW dX4_tellLine_142
  have h := ite_f c1_6 h
  by_cases c1_7 : l1 = (7 : Int32)
  · have h := ite_t c1_7 h
    refine wz_sw (7 : Int32) (tgt := 114) hx hb dX4_tellLine_1 c1_7 (by decide) rfl (by decide) ?_
    refine lv_aload_n hx hb dX4_tellLine_114 rfl (lv_at hl 0 rfl) ?_
    obtain ⟨b115, hg, h⟩ := ob h
    refine wz_gN C hW flX4_196 hg dX4_tellLine_115 ?_
    refine lv_iload_n hx hb dX4_tellLine_118 rfl (lv_at hl 2 rfl) ?_
    refine lv_iload_n hx hb dX4_tellLine_119 rfl (lv_at hl 3 rfl) ?_
    refine lv_iload hx hb dX4_tellLine_120 (lv_at hl 4 rfl) ?_
    obtain ⟨z122, hq, h⟩ := ob h
    refine wz_rV (c' := 0) (s' := 0) hW (wz_runS (rest := []) C hW lTX4_199 (ctX0_like l G b115 l2 l3 l4 z hq) ⟨⟨rfl, rfl⟩, Nat.le_of_ble_eq_true rfl, Nat.le_of_ble_eq_true rfl⟩ rfl hl.1 rfl (Nat.le_of_ble_eq_true rfl) dX4_tellLine_122 ⟨Nat.le_of_ble_eq_true rfl, Nat.le_of_ble_eq_true rfl⟩) rfl rfl (fun H locs hW => ?_)
    refine lv_goto (tgt := 142) hx hb dX4_tellLine_125 (by decide) ?_
    exact wz_vretE C hlk hr (Option.some.inj h) hW dX4_tellLine_142
  have h := ite_f c1_7 h
  by_cases c1_8 : l1 = (8 : Int32)
  · have h := ite_t c1_8 h
    refine wz_sw (8 : Int32) (tgt := 128) hx hb dX4_tellLine_1 c1_8 (by decide) rfl (by decide) ?_
    refine lv_aload_n hx hb dX4_tellLine_128 rfl (lv_at hl 0 rfl) ?_
    obtain ⟨b129, hg, h⟩ := ob h
    refine wz_gN C hW flX4_203 hg dX4_tellLine_129 ?_
    refine lv_iload_n hx hb dX4_tellLine_132 rfl (lv_at hl 2 rfl) ?_
    refine lv_iload_n hx hb dX4_tellLine_133 rfl (lv_at hl 3 rfl) ?_
    refine lv_iload hx hb dX4_tellLine_134 (lv_at hl 4 rfl) ?_
    obtain ⟨z136, hq, h⟩ := ob h
    refine wz_rV (c' := 0) (s' := 0) hW (wz_runS (rest := []) C hW lTX4_199 (ctX0_like l G b129 l2 l3 l4 z hq) ⟨⟨rfl, rfl⟩, Nat.le_of_ble_eq_true rfl, Nat.le_of_ble_eq_true rfl⟩ rfl hl.1 rfl (Nat.le_of_ble_eq_true rfl) dX4_tellLine_136 ⟨Nat.le_of_ble_eq_true rfl, Nat.le_of_ble_eq_true rfl⟩) rfl rfl (fun H locs hW => ?_)
    refine lv_goto (tgt := 142) hx hb dX4_tellLine_139 (by decide) ?_
    exact wz_vretE C hlk hr (Option.some.inj h) hW dX4_tellLine_142
  have h := ite_f c1_8 h
  refine lv_tableOut (tgt := 142) hx hb dX4_tellLine_1 (by have g0 := i32_ne c1_0 (z := 0) (by decide); have g1 := i32_ne c1_1 (z := 1) (by decide); have g2 := i32_ne c1_2 (z := 2) (by decide); have g3 := i32_ne c1_3 (z := 3) (by decide); have g4 := i32_ne c1_4 (z := 4) (by decide); have g5 := i32_ne c1_5 (z := 5) (by decide); have g6 := i32_ne c1_6 (z := 6) (by decide); have g7 := i32_ne c1_7 (z := 7) (by decide); have g8 := i32_ne c1_8 (z := 8) (by decide); omega) (by decide) ?_
  exact wz_vretE C hlk hr (Option.some.inj h) hW dX4_tellLine_142
theorem flX5_15 : FL RX5 15 4 0 := ⟨_, rfl, Nat.le_of_ble_eq_true rfl, tw 735 (by decide +kernel) rfl, rfl⟩
theorem flX5_21 : FL RX5 21 4 1 := ⟨_, rfl, Nat.le_of_ble_eq_true rfl, tw 738 (by decide +kernel) rfl, rfl⟩
theorem flX5_24 : FL RX5 24 4 2 := ⟨_, rfl, Nat.le_of_ble_eq_true rfl, tw 741 (by decide +kernel) rfl, rfl⟩
theorem flX5_27 : FL RX5 27 4 3 := ⟨_, rfl, Nat.le_of_ble_eq_true rfl, tw 743 (by decide +kernel) rfl, rfl⟩
theorem dX5_init_0 : decode cX5_init 0 = .ok (.aload_n 0, 1) := by decide +kernel
theorem dX5_init_1 : decode cX5_init 1 = .ok (.invokespecial 3, 3) := by decide +kernel
theorem dX5_init_4 : decode cX5_init 4 = .ok (.iconst 0, 1) := by decide +kernel
theorem dX5_init_5 : decode cX5_init 5 = .ok (.iload_n 1, 1) := by decide +kernel
theorem dX5_init_6 : decode cX5_init 6 = .ok (.invokestatic 9, 3) := by decide +kernel
theorem dX5_init_9 : decode cX5_init 9 = .ok (.istore_n 2, 1) := by decide +kernel
theorem dX5_init_10 : decode cX5_init 10 = .ok (.aload_n 0, 1) := by decide +kernel
theorem dX5_init_11 : decode cX5_init 11 = .ok (.iload_n 2, 1) := by decide +kernel
theorem dX5_init_12 : decode cX5_init 12 = .ok (.newarray .int, 2) := by decide +kernel
theorem dX5_init_14 : decode cX5_init 14 = .ok (.putfield 15, 3) := by decide +kernel
theorem dX5_init_17 : decode cX5_init 17 = .ok (.aload_n 0, 1) := by decide +kernel
theorem dX5_init_18 : decode cX5_init 18 = .ok (.iload_n 2, 1) := by decide +kernel
theorem dX5_init_19 : decode cX5_init 19 = .ok (.newarray .int, 2) := by decide +kernel
theorem dX5_init_21 : decode cX5_init 21 = .ok (.putfield 21, 3) := by decide +kernel
theorem dX5_init_24 : decode cX5_init 24 = .ok (.aload_n 0, 1) := by decide +kernel
theorem dX5_init_25 : decode cX5_init 25 = .ok (.iload_n 2, 1) := by decide +kernel
theorem dX5_init_26 : decode cX5_init 26 = .ok (.newarray .int, 2) := by decide +kernel
theorem dX5_init_28 : decode cX5_init 28 = .ok (.putfield 24, 3) := by decide +kernel
theorem dX5_init_31 : decode cX5_init 31 = .ok (.aload_n 0, 1) := by decide +kernel
theorem dX5_init_32 : decode cX5_init 32 = .ok (.iconst 0, 1) := by decide +kernel
theorem dX5_init_33 : decode cX5_init 33 = .ok (.putfield 27, 3) := by decide +kernel
theorem dX5_init_36 : decode cX5_init 36 = .ok (.return_, 1) := by decide +kernel
abbrev rmX5_init : Room := { frames := 1, cells := 3, slots := 120, locals := 24 }
def fX5_init (a0 : Nat) (l1 : Int32) (z : AH) : Option AH :=
  if isO 4 z a0 = true then
    nm (imax (0 : Int32) l1) fun v9 =>
    if ¬ v9 < 0 ∧ (Int32.toNatClampNeg v9) ≤ 40 then (
    mk (.inl (0, (Int32.toNatClampNeg v9), fun _ => 0)) z fun b12 z12 =>
    (pF 4 0 z12 a0 (.ref b12)).bind fun z14 =>
    if ¬ v9 < 0 ∧ (Int32.toNatClampNeg v9) ≤ 40 then (
    mk (.inl (0, (Int32.toNatClampNeg v9), fun _ => 0)) z14 fun b19 z19 =>
    (pF 4 1 z19 a0 (.ref b19)).bind fun z21 =>
    if ¬ v9 < 0 ∧ (Int32.toNatClampNeg v9) ≤ 40 then (
    mk (.inl (0, (Int32.toNatClampNeg v9), fun _ => 0)) z21 fun b26 z26 =>
    (pF 4 2 z26 a0 (.ref b26)).bind fun z28 =>
    (pF 4 3 z28 a0 (.int (0 : Int32))).bind fun z33 =>
    some z33
    ) else none
    ) else none
    ) else none
  else none
set_option maxHeartbeats 4000000 in
set_option maxRecDepth 100000 in
theorem ctX5_init (l : Launch) (G : GW) (a0 : Nat) (l1 : Int32) (z : AH) {z' : AH} (h : fX5_init a0 l1 z = some z') : Met l yX5_init (wy yX5_init cX5_init 3 none) rmX5_init (Pz G [.ref (gB G + a0), .int l1] z) (Qv G z') 3 120 (AA G) := by
  refine wz_ent (own := RX5) (by decide +kernel) rfl (fun p e s m below meth c ls C hlk hr hin hW hl => ?_) (Nat.le_of_ble_eq_true rfl)
  have hl : lv_has ls 3 [(0, .ref (gB G + a0)), (1, .int l1)] := hl
  have hx := C.1
  have hb := C.2.1
  unfold fX5_init at h
  obtain ⟨-, h⟩ := ck h
  refine lv_aload_n hx hb dX5_init_0 rfl (lv_at hl 0 rfl) ?_
  refine wz_obj ⟨tw 731 (by decide +kernel) rfl, tw 144 (by decide +kernel) rfl, tw 145 (by decide +kernel) rfl⟩ C hl.1 dX5_init_1 ⟨Nat.le_of_ble_eq_true rfl, Nat.le_of_ble_eq_true rfl⟩ ?_
  refine lv_iconst (v := 0) hx hb dX5_init_4 (by decide) ?_
  refine lv_iload_n hx hb dX5_init_5 rfl (lv_at hl 1 rfl) ?_
  refine wz_max ⟨tw 732 (by decide +kernel) rfl, tw 733 (by decide +kernel) rfl, tw 129 (by decide +kernel) rfl, tw 734 (by decide +kernel) rfl⟩ C hl.1 ⟨⟨Nat.le_of_ble_eq_true rfl, Nat.le_of_ble_eq_true rfl⟩, Nat.le_of_ble_eq_true rfl, Nat.le_of_ble_eq_true rfl⟩ (Nat.le_of_ble_eq_true rfl) dX5_init_6 ?_
  refine lv_topi (fun v9 ev9 => ?_)
  have h := nm_to h ev9
  refine lv_istore_n (lv' := [(2, .int v9), (0, .ref (gB G + a0)), (1, .int l1)]) hx hb dX5_init_9 rfl hl (by decide) rfl (fun ls hl => ?_)
  refine lv_aload_n hx hb dX5_init_10 rfl (lv_at hl 1 rfl) ?_
  refine lv_iload_n hx hb dX5_init_11 rfl (lv_at hl 0 rfl) ?_
  obtain ⟨⟨hn0, hn1⟩, h⟩ := ck h
  obtain ⟨b12, z12, ea, ez, h⟩ := mk_ob h
  refine wz_newIK ea ez (tw 247 (by decide +kernel) rfl) C hW hn0 rfl (Nat.le_trans hn1 (by decide)) ⟨Nat.le_of_ble_eq_true rfl, Nat.le_trans (Nat.add_le_add_left hn1 _) (Nat.le_of_ble_eq_true rfl)⟩ rfl rfl dX5_init_12 (fun H hW => ?_)
  refine W.widen (k := 1) (n := 40) (Nat.le_of_ble_eq_true rfl) (Nat.add_le_add_left hn1 _) ?_
  obtain ⟨z14, hg, h⟩ := ob h
  refine wz_putF (v := (.ref b12)) C hin hW flX5_15 rfl rfl hg dX5_init_14 (fun H locs hW => ?_)
  refine lv_aload_n hx hb dX5_init_17 rfl (lv_at hl 1 rfl) ?_
  refine lv_iload_n hx hb dX5_init_18 rfl (lv_at hl 0 rfl) ?_
  obtain ⟨⟨hn0, hn1⟩, h⟩ := ck h
  obtain ⟨b19, z19, ea, ez, h⟩ := mk_ob h
  refine wz_newIK ea ez (tw 247 (by decide +kernel) rfl) C hW hn0 rfl (Nat.le_trans hn1 (by decide)) ⟨Nat.le_of_ble_eq_true rfl, Nat.le_trans (Nat.add_le_add_left hn1 _) (Nat.le_of_ble_eq_true rfl)⟩ rfl rfl dX5_init_19 (fun H hW => ?_)
  refine W.widen (k := 2) (n := 80) (Nat.le_of_ble_eq_true rfl) (Nat.add_le_add_left hn1 _) ?_
  obtain ⟨z21, hg, h⟩ := ob h
  refine wz_putF (v := (.ref b19)) C hin hW flX5_21 rfl rfl hg dX5_init_21 (fun H locs hW => ?_)
  refine lv_aload_n hx hb dX5_init_24 rfl (lv_at hl 1 rfl) ?_
  refine lv_iload_n hx hb dX5_init_25 rfl (lv_at hl 0 rfl) ?_
  obtain ⟨⟨hn0, hn1⟩, h⟩ := ck h
  obtain ⟨b26, z26, ea, ez, h⟩ := mk_ob h
  refine wz_newIK ea ez (tw 247 (by decide +kernel) rfl) C hW hn0 rfl (Nat.le_trans hn1 (by decide)) ⟨Nat.le_of_ble_eq_true rfl, Nat.le_trans (Nat.add_le_add_left hn1 _) (Nat.le_of_ble_eq_true rfl)⟩ rfl rfl dX5_init_26 (fun H hW => ?_)
  refine W.widen (k := 3) (n := 120) (Nat.le_of_ble_eq_true rfl) (Nat.add_le_add_left hn1 _) ?_
  obtain ⟨z28, hg, h⟩ := ob h
  refine wz_putF (v := (.ref b26)) C hin hW flX5_24 rfl rfl hg dX5_init_28 (fun H locs hW => ?_)
  refine lv_aload_n hx hb dX5_init_31 rfl (lv_at hl 1 rfl) ?_
  refine lv_iconst (v := 0) hx hb dX5_init_32 (by decide) ?_
  obtain ⟨z33, hg, h⟩ := ob h
  refine wz_put (v := (.int (0 : Int32))) C hW flX5_27 rfl rfl hg dX5_init_33 (fun H locs hW => ?_)
  exact wz_vretE C hlk hr (Option.some.inj h) hW dX5_init_36
theorem dX5_add_0 : decode cX5_add 0 = .ok (.aload_n 0, 1) := by decide +kernel
theorem dX5_add_1 : decode cX5_add 1 = .ok (.getfield 27, 3) := by decide +kernel
theorem dX5_add_4 : decode cX5_add 4 = .ok (.ifCond .lt 55, 3) := by decide +kernel
theorem dX5_add_7 : decode cX5_add 7 = .ok (.aload_n 0, 1) := by decide +kernel
theorem dX5_add_8 : decode cX5_add 8 = .ok (.getfield 27, 3) := by decide +kernel
theorem dX5_add_11 : decode cX5_add 11 = .ok (.aload_n 0, 1) := by decide +kernel
theorem dX5_add_12 : decode cX5_add 12 = .ok (.getfield 15, 3) := by decide +kernel
theorem dX5_add_15 : decode cX5_add 15 = .ok (.arraylength, 1) := by decide +kernel
theorem dX5_add_16 : decode cX5_add 16 = .ok (.if_icmp .ge 43, 3) := by decide +kernel
theorem dX5_add_19 : decode cX5_add 19 = .ok (.aload_n 0, 1) := by decide +kernel
theorem dX5_add_20 : decode cX5_add 20 = .ok (.getfield 15, 3) := by decide +kernel
theorem dX5_add_23 : decode cX5_add 23 = .ok (.aload_n 0, 1) := by decide +kernel
theorem dX5_add_24 : decode cX5_add 24 = .ok (.getfield 27, 3) := by decide +kernel
theorem dX5_add_27 : decode cX5_add 27 = .ok (.iload_n 1, 1) := by decide +kernel
theorem dX5_add_28 : decode cX5_add 28 = .ok (.iastore, 1) := by decide +kernel
theorem dX5_add_29 : decode cX5_add 29 = .ok (.aload_n 0, 1) := by decide +kernel
theorem dX5_add_30 : decode cX5_add 30 = .ok (.getfield 21, 3) := by decide +kernel
theorem dX5_add_33 : decode cX5_add 33 = .ok (.aload_n 0, 1) := by decide +kernel
theorem dX5_add_34 : decode cX5_add 34 = .ok (.getfield 27, 3) := by decide +kernel
theorem dX5_add_37 : decode cX5_add 37 = .ok (.iload_n 2, 1) := by decide +kernel
theorem dX5_add_38 : decode cX5_add 38 = .ok (.iastore, 1) := by decide +kernel
theorem dX5_add_39 : decode cX5_add 39 = .ok (.aload_n 0, 1) := by decide +kernel
theorem dX5_add_40 : decode cX5_add 40 = .ok (.getfield 24, 3) := by decide +kernel
theorem dX5_add_43 : decode cX5_add 43 = .ok (.aload_n 0, 1) := by decide +kernel
theorem dX5_add_44 : decode cX5_add 44 = .ok (.getfield 27, 3) := by decide +kernel
theorem dX5_add_47 : decode cX5_add 47 = .ok (.iload_n 3, 1) := by decide +kernel
theorem dX5_add_48 : decode cX5_add 48 = .ok (.iastore, 1) := by decide +kernel
theorem dX5_add_49 : decode cX5_add 49 = .ok (.aload_n 0, 1) := by decide +kernel
theorem dX5_add_50 : decode cX5_add 50 = .ok (.dup, 1) := by decide +kernel
theorem dX5_add_51 : decode cX5_add 51 = .ok (.getfield 27, 3) := by decide +kernel
theorem dX5_add_54 : decode cX5_add 54 = .ok (.iconst 1, 1) := by decide +kernel
theorem dX5_add_55 : decode cX5_add 55 = .ok (.iadd, 1) := by decide +kernel
theorem dX5_add_56 : decode cX5_add 56 = .ok (.putfield 27, 3) := by decide +kernel
theorem dX5_add_59 : decode cX5_add 59 = .ok (.return_, 1) := by decide +kernel
abbrev rmX5_add : Room := { frames := 0, cells := 0, slots := 0, locals := 0 }
def fX5_add (a0 : Nat) (l1 : Int32) (l2 : Int32) (l3 : Int32) (z : AH) : Option AH :=
  if isO 4 z a0 = true then
    (gI 4 3 z a0).bind fun x1 =>
    if x1 < (0 : Int32) then (
      some z
    ) else (
      (gI 4 3 z a0).bind fun x8 =>
      (gN 4 0 z a0).bind fun b12 =>
      (lnI 0 z b12).bind fun x15 =>
      if x15 ≤ x8 then (
        some z
      ) else (
        (gN 4 0 z a0).bind fun b20 =>
        (gI 4 3 z a0).bind fun x24 =>
        (stI 0 z b20 x24 l1).bind fun z28 =>
        (gN 4 1 z28 a0).bind fun b30 =>
        (gI 4 3 z28 a0).bind fun x34 =>
        (stI 0 z28 b30 x34 l2).bind fun z38 =>
        (gN 4 2 z38 a0).bind fun b40 =>
        (gI 4 3 z38 a0).bind fun x44 =>
        (stI 0 z38 b40 x44 l3).bind fun z48 =>
        (gI 4 3 z48 a0).bind fun x51 =>
        (pF 4 3 z48 a0 (.int (x51 + (1 : Int32)))).bind fun z56 =>
        some z56
      )
    )
  else none
set_option maxHeartbeats 4000000 in
set_option maxRecDepth 100000 in
theorem ctX5_add (l : Launch) (G : GW) (a0 : Nat) (l1 : Int32) (l2 : Int32) (l3 : Int32) (z : AH) {z' : AH} (h : fX5_add a0 l1 l2 l3 z = some z') : Met l yX5_add (wy yX5_add cX5_add 4 none) rmX5_add (Pz G [.ref (gB G + a0), .int l1, .int l2, .int l3] z) (Qv G z') 0 0 (AA G) := by
  refine wz_ent (own := RX5) (by decide +kernel) rfl (fun p e s m below meth c ls C hlk hr hin hW hl => ?_) (Nat.le_of_ble_eq_true rfl)
  have hl : lv_has ls 4 [(0, .ref (gB G + a0)), (1, .int l1), (2, .int l2), (3, .int l3)] := hl
  have hx := C.1
  have hb := C.2.1
  unfold fX5_add at h
  obtain ⟨-, h⟩ := ck h
  refine lv_aload_n hx hb dX5_add_0 rfl (lv_at hl 0 rfl) ?_
  obtain ⟨x1, hg, h⟩ := ob h
  refine wz_gI C hW flX5_27 hg dX5_add_1 ?_
  refine lv_if_lt (tgt := 59) hx hb dX5_add_4 (by decide) (fun c4 => ?_) (fun c4 => ?_)
  · have h := ite_t c4 h
    exact wz_vretE C hlk hr (Option.some.inj h) hW dX5_add_59
  · have h := ite_f c4 h
    refine lv_aload_n hx hb dX5_add_7 rfl (lv_at hl 0 rfl) ?_
    obtain ⟨x8, hg, h⟩ := ob h
    refine wz_gI C hW flX5_27 hg dX5_add_8 ?_
    refine lv_aload_n hx hb dX5_add_11 rfl (lv_at hl 0 rfl) ?_
    obtain ⟨b12, hg, h⟩ := ob h
    refine wz_gN C hW flX5_15 hg dX5_add_12 ?_
    obtain ⟨x15, hg, h⟩ := ob h
    refine wz_len C hW hg dX5_add_15 ?_
    refine lv_icmp_ge (tgt := 59) hx hb dX5_add_16 (by decide) (fun c16 => ?_) (fun c16 => ?_)
    · have h := ite_t c16 h
      exact wz_vretE C hlk hr (Option.some.inj h) hW dX5_add_59
    · have h := ite_f c16 h
      refine lv_aload_n hx hb dX5_add_19 rfl (lv_at hl 0 rfl) ?_
      obtain ⟨b20, hg, h⟩ := ob h
      refine wz_gN C hW flX5_15 hg dX5_add_20 ?_
      refine lv_aload_n hx hb dX5_add_23 rfl (lv_at hl 0 rfl) ?_
      obtain ⟨x24, hg, h⟩ := ob h
      refine wz_gI C hW flX5_27 hg dX5_add_24 ?_
      refine lv_iload_n hx hb dX5_add_27 rfl (lv_at hl 1 rfl) ?_
      obtain ⟨z28, hg, h⟩ := ob h
      refine wz_ast C hW hg dX5_add_28 (fun H locs hW => ?_)
      refine lv_aload_n hx hb dX5_add_29 rfl (lv_at hl 0 rfl) ?_
      obtain ⟨b30, hg, h⟩ := ob h
      refine wz_gN C hW flX5_21 hg dX5_add_30 ?_
      refine lv_aload_n hx hb dX5_add_33 rfl (lv_at hl 0 rfl) ?_
      obtain ⟨x34, hg, h⟩ := ob h
      refine wz_gI C hW flX5_27 hg dX5_add_34 ?_
      refine lv_iload_n hx hb dX5_add_37 rfl (lv_at hl 2 rfl) ?_
      obtain ⟨z38, hg, h⟩ := ob h
      refine wz_ast C hW hg dX5_add_38 (fun H locs hW => ?_)
      refine lv_aload_n hx hb dX5_add_39 rfl (lv_at hl 0 rfl) ?_
      obtain ⟨b40, hg, h⟩ := ob h
      refine wz_gN C hW flX5_24 hg dX5_add_40 ?_
      refine lv_aload_n hx hb dX5_add_43 rfl (lv_at hl 0 rfl) ?_
      obtain ⟨x44, hg, h⟩ := ob h
      refine wz_gI C hW flX5_27 hg dX5_add_44 ?_
      refine lv_iload_n hx hb dX5_add_47 rfl (lv_at hl 3 rfl) ?_
      obtain ⟨z48, hg, h⟩ := ob h
      refine wz_ast C hW hg dX5_add_48 (fun H locs hW => ?_)
      refine lv_aload_n hx hb dX5_add_49 rfl (lv_at hl 0 rfl) ?_
      refine lv_dup hx hb dX5_add_50 rfl ?_
      obtain ⟨x51, hg, h⟩ := ob h
      refine wz_gI C hW flX5_27 hg dX5_add_51 ?_
      refine lv_iconst (v := 1) hx hb dX5_add_54 (by decide) ?_
      refine lv_iadd hx hb dX5_add_55 ?_
      obtain ⟨z56, hg, h⟩ := ob h
      refine wz_put (v := (.int (x51 + (1 : Int32)))) C hW flX5_27 rfl rfl hg dX5_add_56 (fun H locs hW => ?_)
      exact wz_vretE C hlk hr (Option.some.inj h) hW dX5_add_59
theorem flX4_47 : FL RX4 47 3 6 := ⟨_, rfl, Nat.le_of_ble_eq_true rfl, tw 300 (by decide +kernel) rfl, rfl⟩
theorem lVX4_225 : LV RX4 225 yX5_add cX5_add 4 none 3 := ⟨tw 757 (by decide +kernel) rfl, tw 758 (by decide +kernel) rfl, tw 759 (by decide +kernel) rfl, tw 134 (by decide +kernel) rfl, tw 760 (by decide +kernel) rfl, ⟨by decide +kernel, by decide +kernel, by decide +kernel⟩⟩
theorem flX4_53 : FL RX4 53 3 5 := ⟨_, rfl, Nat.le_of_ble_eq_true rfl, tw 299 (by decide +kernel) rfl, rfl⟩
theorem lIX4_223 : LI RX4 223 yX5_init cX5_init 3 1 := ⟨tw 728 (by decide +kernel) rfl, tw 729 (by decide +kernel) rfl, rfl, tw 134 (by decide +kernel) rfl, tw 730 (by decide +kernel) rfl, ⟨by decide +kernel, by decide +kernel, by decide +kernel⟩⟩
theorem dX4_toRows_0 : decode cX4_toRows 0 = .ok (.new 218, 3) := by decide +kernel
theorem dX4_toRows_3 : decode cX4_toRows 3 = .ok (.dup, 1) := by decide +kernel
theorem dX4_toRows_4 : decode cX4_toRows 4 = .ok (.getstatic 220, 3) := by decide +kernel
theorem dX4_toRows_7 : decode cX4_toRows 7 = .ok (.aload_n 0, 1) := by decide +kernel
theorem dX4_toRows_8 : decode cX4_toRows 8 = .ok (.getfield 47, 3) := by decide +kernel
theorem dX4_toRows_11 : decode cX4_toRows 11 = .ok (.iaload, 1) := by decide +kernel
theorem dX4_toRows_12 : decode cX4_toRows 12 = .ok (.invokespecial 223, 3) := by decide +kernel
theorem dX4_toRows_15 : decode cX4_toRows 15 = .ok (.astore_n 1, 1) := by decide +kernel
theorem dX4_toRows_16 : decode cX4_toRows 16 = .ok (.iconst 0, 1) := by decide +kernel
theorem dX4_toRows_17 : decode cX4_toRows 17 = .ok (.istore_n 2, 1) := by decide +kernel
theorem dX4_toRows_18 : decode cX4_toRows 18 = .ok (.iload_n 2, 1) := by decide +kernel
theorem dX4_toRows_19 : decode cX4_toRows 19 = .ok (.aload_n 0, 1) := by decide +kernel
theorem dX4_toRows_20 : decode cX4_toRows 20 = .ok (.getfield 53, 3) := by decide +kernel
theorem dX4_toRows_23 : decode cX4_toRows 23 = .ok (.if_icmp .ge 88, 3) := by decide +kernel
theorem dX4_toRows_26 : decode cX4_toRows 26 = .ok (.iload_n 2, 1) := by decide +kernel
theorem dX4_toRows_27 : decode cX4_toRows 27 = .ok (.bipush 120, 2) := by decide +kernel
theorem dX4_toRows_29 : decode cX4_toRows 29 = .ok (.if_icmp .ge 82, 3) := by decide +kernel
theorem dX4_toRows_32 : decode cX4_toRows 32 = .ok (.aload_n 0, 1) := by decide +kernel
theorem dX4_toRows_33 : decode cX4_toRows 33 = .ok (.getfield 11, 3) := by decide +kernel
theorem dX4_toRows_36 : decode cX4_toRows 36 = .ok (.iload_n 2, 1) := by decide +kernel
theorem dX4_toRows_37 : decode cX4_toRows 37 = .ok (.iaload, 1) := by decide +kernel
theorem dX4_toRows_38 : decode cX4_toRows 38 = .ok (.istore_n 3, 1) := by decide +kernel
theorem dX4_toRows_39 : decode cX4_toRows 39 = .ok (.iload_n 3, 1) := by decide +kernel
theorem dX4_toRows_40 : decode cX4_toRows 40 = .ok (.iconst 0, 1) := by decide +kernel
theorem dX4_toRows_41 : decode cX4_toRows 41 = .ok (.invokestatic 109, 3) := by decide +kernel
theorem dX4_toRows_44 : decode cX4_toRows 44 = .ok (.iconst (-1), 1) := by decide +kernel
theorem dX4_toRows_45 : decode cX4_toRows 45 = .ok (.if_icmp .ne 7, 3) := by decide +kernel
theorem dX4_toRows_48 : decode cX4_toRows 48 = .ok (.iconst (-1), 1) := by decide +kernel
theorem dX4_toRows_49 : decode cX4_toRows 49 = .ok (.goto 11, 3) := by decide +kernel
theorem dX4_toRows_52 : decode cX4_toRows 52 = .ok (.aload_n 0, 1) := by decide +kernel
theorem dX4_toRows_53 : decode cX4_toRows 53 = .ok (.getfield 18, 3) := by decide +kernel
theorem dX4_toRows_56 : decode cX4_toRows 56 = .ok (.iconst 3, 1) := by decide +kernel
theorem dX4_toRows_57 : decode cX4_toRows 57 = .ok (.iload_n 2, 1) := by decide +kernel
theorem dX4_toRows_58 : decode cX4_toRows 58 = .ok (.imul, 1) := by decide +kernel
theorem dX4_toRows_59 : decode cX4_toRows 59 = .ok (.iaload, 1) := by decide +kernel
theorem dX4_toRows_60 : decode cX4_toRows 60 = .ok (.istore 4, 2) := by decide +kernel
theorem dX4_toRows_62 : decode cX4_toRows 62 = .ok (.iload_n 3, 1) := by decide +kernel
theorem dX4_toRows_63 : decode cX4_toRows 63 = .ok (.iconst 1, 1) := by decide +kernel
theorem dX4_toRows_64 : decode cX4_toRows 64 = .ok (.invokestatic 109, 3) := by decide +kernel
theorem dX4_toRows_67 : decode cX4_toRows 67 = .ok (.iconst (-1), 1) := by decide +kernel
theorem dX4_toRows_68 : decode cX4_toRows 68 = .ok (.if_icmp .ne 7, 3) := by decide +kernel
theorem dX4_toRows_71 : decode cX4_toRows 71 = .ok (.iconst (-1), 1) := by decide +kernel
theorem dX4_toRows_72 : decode cX4_toRows 72 = .ok (.goto 13, 3) := by decide +kernel
theorem dX4_toRows_75 : decode cX4_toRows 75 = .ok (.aload_n 0, 1) := by decide +kernel
theorem dX4_toRows_76 : decode cX4_toRows 76 = .ok (.getfield 18, 3) := by decide +kernel
theorem dX4_toRows_79 : decode cX4_toRows 79 = .ok (.iconst 3, 1) := by decide +kernel
theorem dX4_toRows_80 : decode cX4_toRows 80 = .ok (.iload_n 2, 1) := by decide +kernel
theorem dX4_toRows_81 : decode cX4_toRows 81 = .ok (.imul, 1) := by decide +kernel
theorem dX4_toRows_82 : decode cX4_toRows 82 = .ok (.iconst 1, 1) := by decide +kernel
theorem dX4_toRows_83 : decode cX4_toRows 83 = .ok (.iadd, 1) := by decide +kernel
theorem dX4_toRows_84 : decode cX4_toRows 84 = .ok (.iaload, 1) := by decide +kernel
theorem dX4_toRows_85 : decode cX4_toRows 85 = .ok (.istore 5, 2) := by decide +kernel
theorem dX4_toRows_87 : decode cX4_toRows 87 = .ok (.aload_n 1, 1) := by decide +kernel
theorem dX4_toRows_88 : decode cX4_toRows 88 = .ok (.iload_n 3, 1) := by decide +kernel
theorem dX4_toRows_89 : decode cX4_toRows 89 = .ok (.getstatic 44, 3) := by decide +kernel
theorem dX4_toRows_92 : decode cX4_toRows 92 = .ok (.aload_n 0, 1) := by decide +kernel
theorem dX4_toRows_93 : decode cX4_toRows 93 = .ok (.getfield 47, 3) := by decide +kernel
theorem dX4_toRows_96 : decode cX4_toRows 96 = .ok (.iaload, 1) := by decide +kernel
theorem dX4_toRows_97 : decode cX4_toRows 97 = .ok (.isub, 1) := by decide +kernel
theorem dX4_toRows_98 : decode cX4_toRows 98 = .ok (.iload 4, 2) := by decide +kernel
theorem dX4_toRows_100 : decode cX4_toRows 100 = .ok (.iload 5, 2) := by decide +kernel
theorem dX4_toRows_102 : decode cX4_toRows 102 = .ok (.invokevirtual 225, 3) := by decide +kernel
theorem dX4_toRows_105 : decode cX4_toRows 105 = .ok (.iinc 2 1, 3) := by decide +kernel
theorem dX4_toRows_108 : decode cX4_toRows 108 = .ok (.goto (-90), 3) := by decide +kernel
theorem dX4_toRows_111 : decode cX4_toRows 111 = .ok (.aload_n 1, 1) := by decide +kernel
theorem dX4_toRows_112 : decode cX4_toRows 112 = .ok (.areturn, 1) := by decide +kernel
abbrev rmX4_toRows : Room := { frames := 2, cells := 4, slots := 124, locals := 46 }
def bX4_toRows_85 (k18 : Nat → Nat → Int32 → AH → Option (Nat × AH)) (a0 : Nat) (a1 : Nat) (l2 : Int32) (l3 : Int32) (l4 : Int32) (s0 : Int32) (z : AH) : Option (Nat × AH) :=
  (gI 3 6 z a0).bind fun x93 =>
  (sIx 0 x93).bind fun x96 =>
  (fX5_add a1 (l3 - x96) l4 s0 z).bind fun z102 =>
  nm (l2 + (1 : Int32)) fun v105 =>
  k18 a0 a1 v105 z102
set_option maxHeartbeats 4000000 in
set_option maxRecDepth 100000 in
theorem kbX4_toRows_85 {p : Program} {l : Launch} {e : Env} {s : State} {m : MethodId} {args : Array Value} {below : List Frame} {meth : Method} {c : Code} {G : GW} {r : Nat} {z' : AH} (C : Cx p m c cX4_toRows 6 s args RX4 G) (hlk : meth.locks = false) (hr : meth.sig.returnType = (some (.object "PairedViews$Rows"))) (k18 : Nat → Nat → Int32 → AH → Option (Nat × AH)) (hk18 : ∀ (a0 : Nat) (a1 : Nat) (l2 : Int32) (z : AH) (H : Heap) (locs : List Loc) (ls : Array Slot), k18 a0 a1 l2 z = some (r, z') → Wb G z s H locs → lv_has ls 6 [(0, .ref (gB G + a0)), (1, .ref (gB G + a1)), (2, .int l2)] → W p l e rmX4_toRows s m args below meth c H locs 4 124 (MQ below (Qq G (some r) z') args s 4 124 (AA G)) (F0 m 18 ls [])) (a0 : Nat) (a1 : Nat) (l2 : Int32) (l3 : Int32) (l4 : Int32) (s0 : Int32) {z : AH} {H : Heap} {locs : List Loc} {ls : Array Slot} (h : bX4_toRows_85 k18 a0 a1 l2 l3 l4 s0 z = some (r, z')) (hW : Wb G z s H locs) (hl : lv_has ls 6 [(0, .ref (gB G + a0)), (1, .ref (gB G + a1)), (2, .int l2), (3, .int l3), (4, .int l4)]) : W p l e rmX4_toRows s m args below meth c H locs 4 124 (MQ below (Qq G (some r) z') args s 4 124 (AA G)) (F0 m 85 ls [.int s0]) := by
  have hx := C.1
  have hb := C.2.1
  unfold bX4_toRows_85 at h
  refine lv_istore (lv' := [(5, .int s0), (0, .ref (gB G + a0)), (1, .ref (gB G + a1)), (2, .int l2), (3, .int l3), (4, .int l4)]) hx hb dX4_toRows_85 hl (by decide) rfl (fun ls hl => ?_)
  refine lv_aload_n hx hb dX4_toRows_87 rfl (lv_at hl 2 rfl) ?_
  refine lv_iload_n hx hb dX4_toRows_88 rfl (lv_at hl 4 rfl) ?_
  refine wz_gets (i := 0) (by decide) rfl (tw 532 (by decide +kernel) rfl) C hW dX4_toRows_89 ?_
  refine lv_aload_n hx hb dX4_toRows_92 rfl (lv_at hl 1 rfl) ?_
  obtain ⟨x93, hg, h⟩ := ob h
  refine wz_gI C hW flX4_47 hg dX4_toRows_93 ?_
  obtain ⟨x96, hg, h⟩ := ob h
  refine wz_sld (i := 0) (by decide) C hW hg dX4_toRows_96 ?_
  refine lv_isub hx hb dX4_toRows_97 ?_
  refine lv_iload hx hb dX4_toRows_98 (lv_at hl 5 rfl) ?_
  refine lv_iload hx hb dX4_toRows_100 (lv_at hl 0 rfl) ?_
  obtain ⟨z102, hq, h⟩ := ob h
  refine wz_rV (c' := 4) (s' := 124) hW (wz_runV (rest := []) C hW lVX4_225 (ck hq).1 rfl (ctX5_add l G a1 (l3 - x96) l4 s0 z hq) ⟨⟨rfl, rfl⟩, Nat.le_of_ble_eq_true rfl, Nat.le_of_ble_eq_true rfl⟩ rfl hl.1 rfl (Nat.le_of_ble_eq_true rfl) dX4_toRows_102 ⟨Nat.le_of_ble_eq_true rfl, Nat.le_of_ble_eq_true rfl⟩) rfl rfl (fun H locs hW => ?_)
  obtain ⟨v105, ev105⟩ : ∃ y : Int32, y = (l2 + (1 : Int32)) := ⟨_, rfl⟩
  have h := nm_to h ev105
  refine lv_iinc (v := v105) (lv' := [(2, .int v105), (5, .int s0), (0, .ref (gB G + a0)), (1, .ref (gB G + a1)), (3, .int l3), (4, .int l4)]) hx hb dX4_toRows_105 hl (k := 3) rfl (by rw [ev105]; rfl) (by decide) rfl (fun ls hl => ?_)
  refine lv_goto (tgt := 18) hx hb dX4_toRows_108 (by decide) ?_
  exact hk18 a0 a1 v105 z102 _ _ _ h hW (lv_sub hl [2, 3, 0] rfl)
def bX4_toRows_60 (k18 : Nat → Nat → Int32 → AH → Option (Nat × AH)) (a0 : Nat) (a1 : Nat) (l2 : Int32) (l3 : Int32) (s0 : Int32) (z : AH) : Option (Nat × AH) :=
  (fX4_top l3 (1 : Int32)).bind fun x64 =>
  if x64 = (-1 : Int32) then (
    bX4_toRows_85 k18 a0 a1 l2 l3 s0 (-1 : Int32) z
  ) else (
    (gN 3 2 z a0).bind fun b76 =>
    (ixI 0 z b76 (((3 : Int32) * l2) + (1 : Int32))).bind fun x84 =>
    bX4_toRows_85 k18 a0 a1 l2 l3 s0 x84 z
  )
set_option maxHeartbeats 4000000 in
set_option maxRecDepth 100000 in
theorem kbX4_toRows_60 {p : Program} {l : Launch} {e : Env} {s : State} {m : MethodId} {args : Array Value} {below : List Frame} {meth : Method} {c : Code} {G : GW} {r : Nat} {z' : AH} (C : Cx p m c cX4_toRows 6 s args RX4 G) (hlk : meth.locks = false) (hr : meth.sig.returnType = (some (.object "PairedViews$Rows"))) (k18 : Nat → Nat → Int32 → AH → Option (Nat × AH)) (hk18 : ∀ (a0 : Nat) (a1 : Nat) (l2 : Int32) (z : AH) (H : Heap) (locs : List Loc) (ls : Array Slot), k18 a0 a1 l2 z = some (r, z') → Wb G z s H locs → lv_has ls 6 [(0, .ref (gB G + a0)), (1, .ref (gB G + a1)), (2, .int l2)] → W p l e rmX4_toRows s m args below meth c H locs 4 124 (MQ below (Qq G (some r) z') args s 4 124 (AA G)) (F0 m 18 ls [])) (a0 : Nat) (a1 : Nat) (l2 : Int32) (l3 : Int32) (s0 : Int32) {z : AH} {H : Heap} {locs : List Loc} {ls : Array Slot} (h : bX4_toRows_60 k18 a0 a1 l2 l3 s0 z = some (r, z')) (hW : Wb G z s H locs) (hl : lv_has ls 6 [(0, .ref (gB G + a0)), (1, .ref (gB G + a1)), (2, .int l2), (3, .int l3)]) : W p l e rmX4_toRows s m args below meth c H locs 4 124 (MQ below (Qq G (some r) z') args s 4 124 (AA G)) (F0 m 60 ls [.int s0]) := by
  have hx := C.1
  have hb := C.2.1
  unfold bX4_toRows_60 at h
  refine lv_istore (lv' := [(4, .int s0), (0, .ref (gB G + a0)), (1, .ref (gB G + a1)), (2, .int l2), (3, .int l3)]) hx hb dX4_toRows_60 hl (by decide) rfl (fun ls hl => ?_)
  refine lv_iload_n hx hb dX4_toRows_62 rfl (lv_at hl 4 rfl) ?_
  refine lv_iconst (v := 1) hx hb dX4_toRows_63 (by decide) ?_
  obtain ⟨x64, hq, h⟩ := ob h
  refine wz_rI (c' := 4) (s' := 124) hW (wz_runS (rest := []) C hW lTX4_109 (ctX4_top l G l3 (1 : Int32) z hq) ⟨⟨rfl, rfl⟩, Nat.le_of_ble_eq_true rfl, Nat.le_of_ble_eq_true rfl⟩ rfl hl.1 rfl (Nat.le_of_ble_eq_true rfl) dX4_toRows_64 ⟨Nat.le_of_ble_eq_true rfl, Nat.le_of_ble_eq_true rfl⟩) rfl rfl (fun H locs hW => ?_)
  refine lv_iconst (v := -1) hx hb dX4_toRows_67 (by decide) ?_
  refine lv_icmp_ne (tgt := 75) hx hb dX4_toRows_68 (by decide) (fun c68 => ?_) (fun c68 => ?_)
  · have h := ite_f c68 h
    refine lv_aload_n hx hb dX4_toRows_75 rfl (lv_at hl 1 rfl) ?_
    obtain ⟨b76, hg, h⟩ := ob h
    refine wz_gN C hW flX4_18 hg dX4_toRows_76 ?_
    refine lv_iconst (v := 3) hx hb dX4_toRows_79 (by decide) ?_
    refine lv_iload_n hx hb dX4_toRows_80 rfl (lv_at hl 3 rfl) ?_
    refine lv_imul hx hb dX4_toRows_81 ?_
    refine lv_iconst (v := 1) hx hb dX4_toRows_82 (by decide) ?_
    refine lv_iadd hx hb dX4_toRows_83 ?_
    obtain ⟨x84, hg, h⟩ := ob h
    refine wz_ald C hW hg dX4_toRows_84 ?_
    exact kbX4_toRows_85 C hlk hr k18 hk18 a0 a1 l2 l3 s0 x84 h hW (lv_sub hl [1, 2, 3, 4, 0] rfl)
  · have h := ite_t c68 h
    refine lv_iconst (v := -1) hx hb dX4_toRows_71 (by decide) ?_
    refine lv_goto (tgt := 85) hx hb dX4_toRows_72 (by decide) ?_
    exact kbX4_toRows_85 C hlk hr k18 hk18 a0 a1 l2 l3 s0 (-1 : Int32) h hW (lv_sub hl [1, 2, 3, 4, 0] rfl)
def bX4_toRows_18 (k18 : Nat → Nat → Int32 → AH → Option (Nat × AH)) (a0 : Nat) (a1 : Nat) (l2 : Int32) (z : AH) : Option (Nat × AH) :=
  (gI 3 5 z a0).bind fun x20 =>
  if x20 ≤ l2 then (
    some (a1, z)
  ) else (
    if (120 : Int32) ≤ l2 then (
      some (a1, z)
    ) else (
      (gN 3 0 z a0).bind fun b33 =>
      (ixI 0 z b33 l2).bind fun x37 =>
      (fX4_top x37 (0 : Int32)).bind fun x41 =>
      if x41 = (-1 : Int32) then (
        bX4_toRows_60 k18 a0 a1 l2 x37 (-1 : Int32) z
      ) else (
        (gN 3 2 z a0).bind fun b53 =>
        (ixI 0 z b53 ((3 : Int32) * l2)).bind fun x59 =>
        bX4_toRows_60 k18 a0 a1 l2 x37 x59 z
      )
    )
  )
set_option maxHeartbeats 4000000 in
set_option maxRecDepth 100000 in
theorem kbX4_toRows_18 {p : Program} {l : Launch} {e : Env} {s : State} {m : MethodId} {args : Array Value} {below : List Frame} {meth : Method} {c : Code} {G : GW} {r : Nat} {z' : AH} (C : Cx p m c cX4_toRows 6 s args RX4 G) (hlk : meth.locks = false) (hr : meth.sig.returnType = (some (.object "PairedViews$Rows"))) (k18 : Nat → Nat → Int32 → AH → Option (Nat × AH)) (hk18 : ∀ (a0 : Nat) (a1 : Nat) (l2 : Int32) (z : AH) (H : Heap) (locs : List Loc) (ls : Array Slot), k18 a0 a1 l2 z = some (r, z') → Wb G z s H locs → lv_has ls 6 [(0, .ref (gB G + a0)), (1, .ref (gB G + a1)), (2, .int l2)] → W p l e rmX4_toRows s m args below meth c H locs 4 124 (MQ below (Qq G (some r) z') args s 4 124 (AA G)) (F0 m 18 ls [])) (a0 : Nat) (a1 : Nat) (l2 : Int32) {z : AH} {H : Heap} {locs : List Loc} {ls : Array Slot} (h : bX4_toRows_18 k18 a0 a1 l2 z = some (r, z')) (hW : Wb G z s H locs) (hl : lv_has ls 6 [(0, .ref (gB G + a0)), (1, .ref (gB G + a1)), (2, .int l2)]) : W p l e rmX4_toRows s m args below meth c H locs 4 124 (MQ below (Qq G (some r) z') args s 4 124 (AA G)) (F0 m 18 ls []) := by
  have hx := C.1
  have hb := C.2.1
  unfold bX4_toRows_18 at h
  refine lv_iload_n hx hb dX4_toRows_18 rfl (lv_at hl 2 rfl) ?_
  refine lv_aload_n hx hb dX4_toRows_19 rfl (lv_at hl 0 rfl) ?_
  obtain ⟨x20, hg, h⟩ := ob h
  refine wz_gI C hW flX4_53 hg dX4_toRows_20 ?_
  refine lv_icmp_ge (tgt := 111) hx hb dX4_toRows_23 (by decide) (fun c23 => ?_) (fun c23 => ?_)
  · have h := ite_t c23 h
    refine lv_aload_n hx hb dX4_toRows_111 rfl (lv_at hl 1 rfl) ?_
    exact wz_nretE C hlk hr (so2 h).1 (so2 h).2 hW dX4_toRows_112
  · have h := ite_f c23 h
    refine lv_iload_n hx hb dX4_toRows_26 rfl (lv_at hl 2 rfl) ?_
    refine lv_bipush (v := 120) hx hb dX4_toRows_27 (by decide) ?_
    refine lv_icmp_ge (tgt := 111) hx hb dX4_toRows_29 (by decide) (fun c29 => ?_) (fun c29 => ?_)
    · have h := ite_t c29 h
      refine lv_aload_n hx hb dX4_toRows_111 rfl (lv_at hl 1 rfl) ?_
      exact wz_nretE C hlk hr (so2 h).1 (so2 h).2 hW dX4_toRows_112
    · have h := ite_f c29 h
      refine lv_aload_n hx hb dX4_toRows_32 rfl (lv_at hl 0 rfl) ?_
      obtain ⟨b33, hg, h⟩ := ob h
      refine wz_gN C hW flX4_11 hg dX4_toRows_33 ?_
      refine lv_iload_n hx hb dX4_toRows_36 rfl (lv_at hl 2 rfl) ?_
      obtain ⟨x37, hg, h⟩ := ob h
      refine wz_ald C hW hg dX4_toRows_37 ?_
      refine lv_istore_n (lv' := [(3, .int x37), (0, .ref (gB G + a0)), (1, .ref (gB G + a1)), (2, .int l2)]) hx hb dX4_toRows_38 rfl hl (by decide) rfl (fun ls hl => ?_)
      refine lv_iload_n hx hb dX4_toRows_39 rfl (lv_at hl 0 rfl) ?_
      refine lv_iconst (v := 0) hx hb dX4_toRows_40 (by decide) ?_
      obtain ⟨x41, hq, h⟩ := ob h
      refine wz_rI (c' := 4) (s' := 124) hW (wz_runS (rest := []) C hW lTX4_109 (ctX4_top l G x37 (0 : Int32) z hq) ⟨⟨rfl, rfl⟩, Nat.le_of_ble_eq_true rfl, Nat.le_of_ble_eq_true rfl⟩ rfl hl.1 rfl (Nat.le_of_ble_eq_true rfl) dX4_toRows_41 ⟨Nat.le_of_ble_eq_true rfl, Nat.le_of_ble_eq_true rfl⟩) rfl rfl (fun H locs hW => ?_)
      refine lv_iconst (v := -1) hx hb dX4_toRows_44 (by decide) ?_
      refine lv_icmp_ne (tgt := 52) hx hb dX4_toRows_45 (by decide) (fun c45 => ?_) (fun c45 => ?_)
      · have h := ite_f c45 h
        refine lv_aload_n hx hb dX4_toRows_52 rfl (lv_at hl 1 rfl) ?_
        obtain ⟨b53, hg, h⟩ := ob h
        refine wz_gN C hW flX4_18 hg dX4_toRows_53 ?_
        refine lv_iconst (v := 3) hx hb dX4_toRows_56 (by decide) ?_
        refine lv_iload_n hx hb dX4_toRows_57 rfl (lv_at hl 3 rfl) ?_
        refine lv_imul hx hb dX4_toRows_58 ?_
        obtain ⟨x59, hg, h⟩ := ob h
        refine wz_ald C hW hg dX4_toRows_59 ?_
        exact kbX4_toRows_60 C hlk hr k18 hk18 a0 a1 l2 x37 x59 h hW (lv_sub hl [1, 2, 3, 0] rfl)
      · have h := ite_t c45 h
        refine lv_iconst (v := -1) hx hb dX4_toRows_48 (by decide) ?_
        refine lv_goto (tgt := 60) hx hb dX4_toRows_49 (by decide) ?_
        exact kbX4_toRows_60 C hlk hr k18 hk18 a0 a1 l2 x37 (-1 : Int32) h hW (lv_sub hl [1, 2, 3, 0] rfl)
def fX4_toRows_18 : Nat → Nat → Nat → Int32 → AH → Option (Nat × AH)
  | 0, _, _, _, _ => none
  | n + 1, a0, a1, l2, z => bX4_toRows_18 (fX4_toRows_18 n) a0 a1 l2 z
theorem klX4_toRows_18 {p : Program} {l : Launch} {e : Env} {s : State} {m : MethodId} {args : Array Value} {below : List Frame} {meth : Method} {c : Code} {G : GW} {r : Nat} {z' : AH} (C : Cx p m c cX4_toRows 6 s args RX4 G) (hlk : meth.locks = false) (hr : meth.sig.returnType = (some (.object "PairedViews$Rows"))) : ∀ (n : Nat) (a0 : Nat) (a1 : Nat) (l2 : Int32) (z : AH) (H : Heap) (locs : List Loc) (ls : Array Slot), fX4_toRows_18 n a0 a1 l2 z = some (r, z') → Wb G z s H locs → lv_has ls 6 [(0, .ref (gB G + a0)), (1, .ref (gB G + a1)), (2, .int l2)] → W p l e rmX4_toRows s m args below meth c H locs 4 124 (MQ below (Qq G (some r) z') args s 4 124 (AA G)) (F0 m 18 ls []) := by
  intro n
  induction n with
  | zero => intro a0 a1 l2 z H locs ls h; have h : (none : Option (Nat × AH)) = some (r, z') := h; cases h
  | succ n ih => intro a0 a1 l2 z H locs ls h hW hl; exact kbX4_toRows_18 C hlk hr (fX4_toRows_18 n) (fun a0 a1 l2 z H locs ls h hW hl => ih a0 a1 l2 z H locs ls h hW hl) a0 a1 l2 h hW hl
def fX4_toRows (a0 : Nat) (z : AH) : Option (Nat × AH) :=
  if isO 3 z a0 = true then
    mk (.inr (.inr (4, newF 4))) z fun b0 z0 =>
    (gI 3 6 z0 a0).bind fun x8 =>
    (sIx 5 x8).bind fun x11 =>
    (fX5_init b0 x11 z0).bind fun z12 =>
    fX4_toRows_18 FU a0 b0 (0 : Int32) z12
  else none
set_option maxHeartbeats 4000000 in
set_option maxRecDepth 100000 in
theorem ctX4_toRows (l : Launch) (G : GW) (a0 : Nat) (z : AH) {r : Nat} {z' : AH} (h : fX4_toRows a0 z = some (r, z')) : Met l yX4_toRows (wy yX4_toRows cX4_toRows 6 (some (.object "PairedViews$Rows"))) rmX4_toRows (Pz G [.ref (gB G + a0)] z) (Qq G (some r) z') 4 124 (AA G) := by
  refine wz_ent (own := RX4) (by decide +kernel) rfl (fun p e s m below meth c ls C hlk hr hin hW hl => ?_) (Nat.le_of_ble_eq_true rfl)
  have hl : lv_has ls 6 [(0, .ref (gB G + a0))] := hl
  have hx := C.1
  have hb := C.2.1
  unfold fX4_toRows at h
  obtain ⟨-, h⟩ := ck h
  obtain ⟨b0, z0, ea, ez, h⟩ := mk_ob h
  refine wz_newK (c' := 1) (s' := 4) ea ez ⟨_, rfl⟩ ⟨tw 724 (by decide +kernel) rfl, tw 725 (by decide +kernel) rfl, tw 134 (by decide +kernel) rfl⟩ C hW ⟨Nat.le_of_ble_eq_true rfl, Nat.le_of_ble_eq_true rfl⟩ rfl rfl dX4_toRows_0 (fun H hW => ?_)
  refine lv_dup hx hb dX4_toRows_3 rfl ?_
  refine wz_gets (i := 5) (by decide) rfl (tw 726 (by decide +kernel) rfl) C hW dX4_toRows_4 ?_
  refine lv_aload_n hx hb dX4_toRows_7 rfl (lv_at hl 0 rfl) ?_
  obtain ⟨x8, hg, h⟩ := ob h
  refine wz_gI C hW flX4_47 hg dX4_toRows_8 ?_
  obtain ⟨x11, hg, h⟩ := ob h
  refine wz_sld (i := 5) (by decide) C hW hg dX4_toRows_11 ?_
  obtain ⟨z12, hq, h⟩ := ob h
  refine wz_rV (c' := 4) (s' := 124) hW (wz_runI (rest := [.ref (gB G + b0)]) C hW lIX4_223 (ctX5_init l G b0 x11 z0 hq) ⟨⟨rfl, rfl⟩, Nat.le_of_ble_eq_true rfl, Nat.le_of_ble_eq_true rfl⟩ rfl hl.1 rfl (Nat.le_of_ble_eq_true rfl) dX4_toRows_12 ⟨Nat.le_of_ble_eq_true rfl, Nat.le_of_ble_eq_true rfl⟩) rfl rfl (fun H locs hW => ?_)
  refine lv_astore_n (lv' := [(1, .ref (gB G + b0)), (0, .ref (gB G + a0))]) hx hb dX4_toRows_15 rfl hl (by decide) rfl (fun ls hl => ?_)
  refine lv_iconst (v := 0) hx hb dX4_toRows_16 (by decide) ?_
  refine lv_istore_n (lv' := [(2, .int (0 : Int32)), (1, .ref (gB G + b0)), (0, .ref (gB G + a0))]) hx hb dX4_toRows_17 rfl hl (by decide) rfl (fun ls hl => ?_)
  exact klX4_toRows_18 C hlk hr FU a0 b0 (0 : Int32) z12 _ _ _ h hW (lv_sub hl [2, 1, 0] rfl)
