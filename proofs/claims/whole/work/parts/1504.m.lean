theorem dX10_countryLine_542 : decode cX10_countryLine 542 = .ok (.aload_n 0, 1) := by decide +kernel
theorem dX10_countryLine_543 : decode cX10_countryLine 543 = .ok (.getfield 41, 3) := by decide +kernel
theorem dX10_countryLine_546 : decode cX10_countryLine 546 = .ok (.iconst 2, 1) := by decide +kernel
theorem dX10_countryLine_547 : decode cX10_countryLine 547 = .ok (.iaload, 1) := by decide +kernel
theorem dX10_countryLine_548 : decode cX10_countryLine 548 = .ok (.invokevirtual 203, 3) := by decide +kernel
theorem dX10_countryLine_551 : decode cX10_countryLine 551 = .ok (.ifCond .eq 7, 3) := by decide +kernel
theorem dX10_countryLine_554 : decode cX10_countryLine 554 = .ok (.iconst 1, 1) := by decide +kernel
theorem dX10_countryLine_555 : decode cX10_countryLine 555 = .ok (.goto 4, 3) := by decide +kernel
theorem dX10_countryLine_558 : decode cX10_countryLine 558 = .ok (.iconst 0, 1) := by decide +kernel
theorem dX10_countryLine_559 : decode cX10_countryLine 559 = .ok (.ireturn, 1) := by decide +kernel
theorem dX10_countryLine_560 : decode cX10_countryLine 560 = .ok (.aload_n 0, 1) := by decide +kernel
theorem dX10_countryLine_561 : decode cX10_countryLine 561 = .ok (.iconst 0, 1) := by decide +kernel
theorem dX10_countryLine_562 : decode cX10_countryLine 562 = .ok (.invokevirtual 192, 3) := by decide +kernel
theorem dX10_countryLine_565 : decode cX10_countryLine 565 = .ok (.ifCond .eq 61, 3) := by decide +kernel
theorem dX10_countryLine_568 : decode cX10_countryLine 568 = .ok (.aload_n 0, 1) := by decide +kernel
theorem dX10_countryLine_569 : decode cX10_countryLine 569 = .ok (.iconst 1, 1) := by decide +kernel
theorem dX10_countryLine_570 : decode cX10_countryLine 570 = .ok (.invokevirtual 188, 3) := by decide +kernel
theorem dX10_countryLine_573 : decode cX10_countryLine 573 = .ok (.ifCond .eq 53, 3) := by decide +kernel
theorem dX10_countryLine_576 : decode cX10_countryLine 576 = .ok (.aload_n 0, 1) := by decide +kernel
theorem dX10_countryLine_577 : decode cX10_countryLine 577 = .ok (.iconst 2, 1) := by decide +kernel
theorem dX10_countryLine_578 : decode cX10_countryLine 578 = .ok (.iconst 0, 1) := by decide +kernel
theorem dX10_countryLine_579 : decode cX10_countryLine 579 = .ok (.bipush 9, 2) := by decide +kernel
theorem dX10_countryLine_581 : decode cX10_countryLine 581 = .ok (.invokevirtual 159, 3) := by decide +kernel
theorem dX10_countryLine_584 : decode cX10_countryLine 584 = .ok (.ifCond .eq 42, 3) := by decide +kernel
theorem dX10_countryLine_587 : decode cX10_countryLine 587 = .ok (.aload_n 0, 1) := by decide +kernel
theorem dX10_countryLine_588 : decode cX10_countryLine 588 = .ok (.bipush 94, 2) := by decide +kernel
theorem dX10_countryLine_590 : decode cX10_countryLine 590 = .ok (.iconst 4, 1) := by decide +kernel
theorem dX10_countryLine_591 : decode cX10_countryLine 591 = .ok (.aload_n 0, 1) := by decide +kernel
theorem dX10_countryLine_592 : decode cX10_countryLine 592 = .ok (.getfield 41, 3) := by decide +kernel
theorem dX10_countryLine_595 : decode cX10_countryLine 595 = .ok (.iconst 0, 1) := by decide +kernel
theorem dX10_countryLine_596 : decode cX10_countryLine 596 = .ok (.iaload, 1) := by decide +kernel
theorem dX10_countryLine_597 : decode cX10_countryLine 597 = .ok (.iconst 3, 1) := by decide +kernel
theorem dX10_countryLine_598 : decode cX10_countryLine 598 = .ok (.iand, 1) := by decide +kernel
theorem dX10_countryLine_599 : decode cX10_countryLine 599 = .ok (.imul, 1) := by decide +kernel
theorem dX10_countryLine_600 : decode cX10_countryLine 600 = .ok (.iadd, 1) := by decide +kernel
theorem dX10_countryLine_601 : decode cX10_countryLine 601 = .ok (.aload_n 0, 1) := by decide +kernel
theorem dX10_countryLine_602 : decode cX10_countryLine 602 = .ok (.getfield 41, 3) := by decide +kernel
theorem dX10_countryLine_605 : decode cX10_countryLine 605 = .ok (.iconst 1, 1) := by decide +kernel
theorem dX10_countryLine_606 : decode cX10_countryLine 606 = .ok (.iaload, 1) := by decide +kernel
theorem dX10_countryLine_607 : decode cX10_countryLine 607 = .ok (.iconst 3, 1) := by decide +kernel
theorem dX10_countryLine_608 : decode cX10_countryLine 608 = .ok (.iand, 1) := by decide +kernel
theorem dX10_countryLine_609 : decode cX10_countryLine 609 = .ok (.iadd, 1) := by decide +kernel
theorem dX10_countryLine_610 : decode cX10_countryLine 610 = .ok (.aload_n 0, 1) := by decide +kernel
theorem dX10_countryLine_611 : decode cX10_countryLine 611 = .ok (.getfield 41, 3) := by decide +kernel
theorem dX10_countryLine_614 : decode cX10_countryLine 614 = .ok (.iconst 2, 1) := by decide +kernel
theorem dX10_countryLine_615 : decode cX10_countryLine 615 = .ok (.iaload, 1) := by decide +kernel
theorem dX10_countryLine_616 : decode cX10_countryLine 616 = .ok (.invokevirtual 203, 3) := by decide +kernel
theorem dX10_countryLine_619 : decode cX10_countryLine 619 = .ok (.ifCond .eq 7, 3) := by decide +kernel
theorem dX10_countryLine_622 : decode cX10_countryLine 622 = .ok (.iconst 1, 1) := by decide +kernel
theorem dX10_countryLine_623 : decode cX10_countryLine 623 = .ok (.goto 4, 3) := by decide +kernel
theorem dX10_countryLine_626 : decode cX10_countryLine 626 = .ok (.iconst 0, 1) := by decide +kernel
theorem dX10_countryLine_627 : decode cX10_countryLine 627 = .ok (.ireturn, 1) := by decide +kernel
theorem cdX10_takeRight : Cond.code yX10_takeRight cX10_takeRight 2 (some .boolean) ∈ tz := tc6 139 rfl rfl
theorem lVX10_192 : LV RX10 192 yX10_takeRight cX10_takeRight 2 (some .boolean) 1 := ⟨tw 1455 (by decide +kernel) rfl, tw 1457 (by decide +kernel) rfl, tw 51 (by decide +kernel) rfl, tw 128 (by decide +kernel) rfl, cdX10_takeRight, ⟨by decide +kernel, by decide +kernel, by decide +kernel⟩⟩
theorem cdX10_takeLeft : Cond.code yX10_takeLeft cX10_takeLeft 2 (some .boolean) ∈ tz := tc6 135 rfl rfl
theorem lVX10_188 : LV RX10 188 yX10_takeLeft cX10_takeLeft 2 (some .boolean) 1 := ⟨tw 1451 (by decide +kernel) rfl, tw 1453 (by decide +kernel) rfl, tw 50 (by decide +kernel) rfl, tw 128 (by decide +kernel) rfl, cdX10_takeLeft, ⟨by decide +kernel, by decide +kernel, by decide +kernel⟩⟩
theorem cdX10_put : Cond.code yX10_put cX10_put 3 (some .boolean) ∈ tz := tc6 147 rfl rfl
theorem lVX10_203 : LV RX10 203 yX10_put cX10_put 3 (some .boolean) 2 := ⟨tw 1463 (by decide +kernel) rfl, tw 1465 (by decide +kernel) rfl, tw 52 (by decide +kernel) rfl, tw 128 (by decide +kernel) rfl, cdX10_put, ⟨by decide +kernel, by decide +kernel, by decide +kernel⟩⟩
theorem cdX10_takeThing : Cond.code yX10_takeThing cX10_takeThing 3 (some .boolean) ∈ tz := tc6 128 rfl rfl
theorem lVX10_185 : LV RX10 185 yX10_takeThing cX10_takeThing 3 (some .boolean) 2 := ⟨tw 1444 (by decide +kernel) rfl, tw 1446 (by decide +kernel) rfl, tw 49 (by decide +kernel) rfl, tw 128 (by decide +kernel) rfl, cdX10_takeThing, ⟨by decide +kernel, by decide +kernel, by decide +kernel⟩⟩
theorem cdX10_full : Cond.code yX10_full cX10_full 4 none ∈ tz := tc6 104 rfl rfl
theorem lVX10_178 : LV RX10 178 yX10_full cX10_full 4 none 3 := ⟨tw 1420 (by decide +kernel) rfl, tw 1422 (by decide +kernel) rfl, tw 43 (by decide +kernel) rfl, tw 128 (by decide +kernel) rfl, cdX10_full, ⟨by decide +kernel, by decide +kernel, by decide +kernel⟩⟩
theorem cdX10_keep : Cond.code yX10_keep cX10_keep 7 (some .boolean) ∈ tz := tc6 124 rfl rfl
theorem lVX10_182 : LV RX10 182 yX10_keep cX10_keep 7 (some .boolean) 4 := ⟨tw 1440 (by decide +kernel) rfl, tw 1442 (by decide +kernel) rfl, tw 48 (by decide +kernel) rfl, tw 128 (by decide +kernel) rfl, cdX10_keep, ⟨by decide +kernel, by decide +kernel, by decide +kernel⟩⟩
abbrev rmX10_countryLine : Room := { frames := 5, cells := 0, slots := 0, locals := 112 }
def bX10_countryLine_379 (a0 : Nat) (j1 : Int64) (z : AH) : Option (Int32 × AH) :=
  (fX10_token a0 z).bind fun z380 =>
  if j1 = (491328337011 : Int64) then (
    b2 (fX10_takeThing a0 (0 : Int32) (-1 : Int32) z380) fun x394 z394 =>
    if x394 = (0 : Int32) then (
      some ((0 : Int32), z394)
    ) else (
      (gN 9 20 z394 a0).bind fun b403 =>
      (ixI 0 z394 b403 (0 : Int32)).bind fun x407 =>
      b2 (fX10_takeThing a0 (1 : Int32) x407 z394) fun x408 z408 =>
      if x408 = (0 : Int32) then (
        some ((0 : Int32), z408)
      ) else (
        (gN 9 20 z408 a0).bind fun b418 =>
        (ixI 0 z408 b418 (0 : Int32)).bind fun x422 =>
        (gN 9 20 z408 a0).bind fun b428 =>
        (ixI 0 z408 b428 (1 : Int32)).bind fun x432 =>
        b2 (fX10_put a0 ((30 : Int32) + (x422 &&& (7 : Int32))) x432 z408) fun x433 z433 =>
        if x433 = (0 : Int32) then (
          some ((0 : Int32), z433)
        ) else (
          some ((1 : Int32), z433)
        )
      )
    )
  ) else (
    if j1 = (1751215716 : Int64) then (
      b2 (fX10_take a0 (0 : Int32) (0 : Int32) (9 : Int32) z380) fun x458 z458 =>
      if x458 = (0 : Int32) then (
        some ((0 : Int32), z458)
      ) else (
        (gN 9 20 z458 a0).bind fun b467 =>
        (ixI 0 z458 b467 (0 : Int32)).bind fun x471 =>
        b2 (fX10_put a0 (5 : Int32) x471 z458) fun x472 z472 =>
        if x472 = (0 : Int32) then (
          some ((0 : Int32), z472)
        ) else (
          some ((1 : Int32), z472)
        )
      )
    ) else (
      if j1 = (465625113971 : Int64) then (
        b2 (fX10_takeLeft a0 (0 : Int32) z380) fun x494 z494 =>
        if x494 = (0 : Int32) then (
          some ((0 : Int32), z494)
        ) else (
          b2 (fX10_takeRight a0 (1 : Int32) z494) fun x502 z502 =>
          if x502 = (0 : Int32) then (
            some ((0 : Int32), z502)
          ) else (
            b2 (fX10_take a0 (2 : Int32) (0 : Int32) (9 : Int32) z502) fun x513 z513 =>
            if x513 = (0 : Int32) then (
              some ((0 : Int32), z513)
            ) else (
              (gN 9 20 z513 a0).bind fun b524 =>
              (ixI 0 z513 b524 (0 : Int32)).bind fun x528 =>
              (gN 9 20 z513 a0).bind fun b534 =>
              (ixI 0 z513 b534 (1 : Int32)).bind fun x538 =>
              (gN 9 20 z513 a0).bind fun b543 =>
              (ixI 0 z513 b543 (2 : Int32)).bind fun x547 =>
              b2 (fX10_put a0 (((78 : Int32) + ((4 : Int32) * (x528 &&& (3 : Int32)))) + (x538 &&& (3 : Int32))) x547 z513) fun x548 z548 =>
              if x548 = (0 : Int32) then (
                some ((0 : Int32), z548)
              ) else (
                some ((1 : Int32), z548)
              )
            )
          )
        )
      ) else (
        b2 (fX10_takeRight a0 (0 : Int32) z380) fun x562 z562 =>
        if x562 = (0 : Int32) then (
          some ((0 : Int32), z562)
        ) else (
          b2 (fX10_takeLeft a0 (1 : Int32) z562) fun x570 z570 =>
          if x570 = (0 : Int32) then (
            some ((0 : Int32), z570)
          ) else (
            b2 (fX10_take a0 (2 : Int32) (0 : Int32) (9 : Int32) z570) fun x581 z581 =>
            if x581 = (0 : Int32) then (
              some ((0 : Int32), z581)
            ) else (
              (gN 9 20 z581 a0).bind fun b592 =>
              (ixI 0 z581 b592 (0 : Int32)).bind fun x596 =>
              (gN 9 20 z581 a0).bind fun b602 =>
              (ixI 0 z581 b602 (1 : Int32)).bind fun x606 =>
              (gN 9 20 z581 a0).bind fun b611 =>
              (ixI 0 z581 b611 (2 : Int32)).bind fun x615 =>
              b2 (fX10_put a0 (((94 : Int32) + ((4 : Int32) * (x596 &&& (3 : Int32)))) + (x606 &&& (3 : Int32))) x615 z581) fun x616 z616 =>
              if x616 = (0 : Int32) then (
                some ((0 : Int32), z616)
              ) else (
                some ((1 : Int32), z616)
              )
            )
          )
        )
      )
    )
  )
set_option maxHeartbeats 4000000 in
set_option maxRecDepth 100000 in
theorem kbX10_countryLine_379 {p : Program} {l : Launch} {e : Env} {s : State} {m : MethodId} {args : Array Value} {below : List Frame} {meth : Method} {c : Code} {G : GW} {r : Int32} {z' : AH} (C : Cx p m c cX10_countryLine 5 s args RX10 G) (hlk : meth.locks = false) (hr : meth.sig.returnType = (some .boolean)) (a0 : Nat) (j1 : Int64) {z : AH} {H : Heap} {locs : List Loc} {ls : Array Slot} (h : bX10_countryLine_379 a0 j1 z = some (r, z')) (hW : Wb G z s H locs) (hl : lv_has ls 5 [(0, .ref (gB G + a0)), (1, .long j1)]) : W p l e rmX10_countryLine s m args below meth c H locs 0 0 (MQ below (Qi G r z') args s 0 0 (AA G)) (F0 m 379 ls []) := by
  have hx := C.1
  have hb := C.2.1
  unfold bX10_countryLine_379 at h
  refine lv_aload_n hx hb dX10_countryLine_379 rfl (lv_at hl 0 rfl) ?_
  obtain ⟨z380, hq, h⟩ := ob h
  refine wz_rV (c' := 0) (s' := 0) hW (wz_runV (rest := []) C hW lVX10_145 (ck hq).1 rfl (ctX10_token l G a0 z hq) ⟨⟨rfl, rfl⟩, Nat.le_of_ble_eq_true rfl, Nat.le_of_ble_eq_true rfl⟩ rfl hl.1 rfl (Nat.le_of_ble_eq_true rfl) dX10_countryLine_380 ⟨Nat.le_of_ble_eq_true rfl, Nat.le_of_ble_eq_true rfl⟩) rfl rfl (fun H locs hW => ?_)
  refine lv_lload_n hx hb dX10_countryLine_383 rfl (lv_at hl 1 rfl) ?_
  refine lv_ldc2 (v := 491328337011) hx hb C.2.2.2.1 (C.2.2.2.2.1 _ (tw 1459 (by decide +kernel) rfl)) dX10_countryLine_384 ?_
  refine wz_lcne (tgt := 445) hx hb dX10_countryLine_387 dX10_countryLine_388 (by decide) (fun c387 => ?_) (fun c387 => ?_)
  · have h := ite_f c387 h
    refine lv_lload_n hx hb dX10_countryLine_445 rfl (lv_at hl 1 rfl) ?_
    refine lv_ldc2 (v := 1751215716) hx hb C.2.2.2.1 (C.2.2.2.2.1 _ (tw 1460 (by decide +kernel) rfl)) dX10_countryLine_446 ?_
    refine wz_lcne (tgt := 484) hx hb dX10_countryLine_449 dX10_countryLine_450 (by decide) (fun c449 => ?_) (fun c449 => ?_)
    · have h := ite_f c449 h
      refine lv_lload_n hx hb dX10_countryLine_484 rfl (lv_at hl 1 rfl) ?_
      refine lv_ldc2 (v := 465625113971) hx hb C.2.2.2.1 (C.2.2.2.2.1 _ (tw 1461 (by decide +kernel) rfl)) dX10_countryLine_485 ?_
      refine wz_lcne (tgt := 560) hx hb dX10_countryLine_488 dX10_countryLine_489 (by decide) (fun c488 => ?_) (fun c488 => ?_)
      · have h := ite_f c488 h
        refine lv_aload_n hx hb dX10_countryLine_560 rfl (lv_at hl 0 rfl) ?_
        refine lv_iconst (v := 0) hx hb dX10_countryLine_561 (by decide) ?_
        obtain ⟨x562, z562, hq, h⟩ := ob2 h
        refine wz_rI (c' := 0) (s' := 0) hW (wz_runV (rest := []) C hW lVX10_192 (ck hq).1 rfl (ctX10_takeRight l G a0 (0 : Int32) z380 hq) ⟨⟨rfl, rfl⟩, Nat.le_of_ble_eq_true rfl, Nat.le_of_ble_eq_true rfl⟩ rfl hl.1 rfl (Nat.le_of_ble_eq_true rfl) dX10_countryLine_562 ⟨Nat.le_of_ble_eq_true rfl, Nat.le_of_ble_eq_true rfl⟩) rfl rfl (fun H locs hW => ?_)
        refine lv_if_eq (tgt := 626) hx hb dX10_countryLine_565 (by decide) (fun c565 => ?_) (fun c565 => ?_)
        · have h := ite_t c565 h
          refine lv_iconst (v := 0) hx hb dX10_countryLine_626 (by decide) ?_
          exact wz_zretE C hlk hr (Or.inl rfl) (so2 h).1 (so2 h).2 hW dX10_countryLine_627
        · have h := ite_f c565 h
          refine lv_aload_n hx hb dX10_countryLine_568 rfl (lv_at hl 0 rfl) ?_
          refine lv_iconst (v := 1) hx hb dX10_countryLine_569 (by decide) ?_
          obtain ⟨x570, z570, hq, h⟩ := ob2 h
          refine wz_rI (c' := 0) (s' := 0) hW (wz_runV (rest := []) C hW lVX10_188 (ck hq).1 rfl (ctX10_takeLeft l G a0 (1 : Int32) z562 hq) ⟨⟨rfl, rfl⟩, Nat.le_of_ble_eq_true rfl, Nat.le_of_ble_eq_true rfl⟩ rfl hl.1 rfl (Nat.le_of_ble_eq_true rfl) dX10_countryLine_570 ⟨Nat.le_of_ble_eq_true rfl, Nat.le_of_ble_eq_true rfl⟩) rfl rfl (fun H locs hW => ?_)
          refine lv_if_eq (tgt := 626) hx hb dX10_countryLine_573 (by decide) (fun c573 => ?_) (fun c573 => ?_)
          · have h := ite_t c573 h
            refine lv_iconst (v := 0) hx hb dX10_countryLine_626 (by decide) ?_
            exact wz_zretE C hlk hr (Or.inl rfl) (so2 h).1 (so2 h).2 hW dX10_countryLine_627
          · have h := ite_f c573 h
            refine lv_aload_n hx hb dX10_countryLine_576 rfl (lv_at hl 0 rfl) ?_
            refine lv_iconst (v := 2) hx hb dX10_countryLine_577 (by decide) ?_
            refine lv_iconst (v := 0) hx hb dX10_countryLine_578 (by decide) ?_
            refine lv_bipush (v := 9) hx hb dX10_countryLine_579 (by decide) ?_
            obtain ⟨x581, z581, hq, h⟩ := ob2 h
            refine wz_rI (c' := 0) (s' := 0) hW (wz_runV (rest := []) C hW lVX10_159 (ck hq).1 rfl (ctX10_take l G a0 (2 : Int32) (0 : Int32) (9 : Int32) z570 hq) ⟨⟨rfl, rfl⟩, Nat.le_of_ble_eq_true rfl, Nat.le_of_ble_eq_true rfl⟩ rfl hl.1 rfl (Nat.le_of_ble_eq_true rfl) dX10_countryLine_581 ⟨Nat.le_of_ble_eq_true rfl, Nat.le_of_ble_eq_true rfl⟩) rfl rfl (fun H locs hW => ?_)
            refine lv_if_eq (tgt := 626) hx hb dX10_countryLine_584 (by decide) (fun c584 => ?_) (fun c584 => ?_)
            · have h := ite_t c584 h
              refine lv_iconst (v := 0) hx hb dX10_countryLine_626 (by decide) ?_
              exact wz_zretE C hlk hr (Or.inl rfl) (so2 h).1 (so2 h).2 hW dX10_countryLine_627
            · have h := ite_f c584 h
              refine lv_aload_n hx hb dX10_countryLine_587 rfl (lv_at hl 0 rfl) ?_
              refine lv_bipush (v := 94) hx hb dX10_countryLine_588 (by decide) ?_
              refine lv_iconst (v := 4) hx hb dX10_countryLine_590 (by decide) ?_
              refine lv_aload_n hx hb dX10_countryLine_591 rfl (lv_at hl 0 rfl) ?_
              obtain ⟨b592, hg, h⟩ := ob h
              refine wz_gN C hW flX10_41 hg dX10_countryLine_592 ?_
              refine lv_iconst (v := 0) hx hb dX10_countryLine_595 (by decide) ?_
              obtain ⟨x596, hg, h⟩ := ob h
              refine wz_ald C hW hg dX10_countryLine_596 ?_
              refine lv_iconst (v := 3) hx hb dX10_countryLine_597 (by decide) ?_
              refine lv_iand hx hb dX10_countryLine_598 ?_
              refine lv_imul hx hb dX10_countryLine_599 ?_
              refine lv_iadd hx hb dX10_countryLine_600 ?_
              refine lv_aload_n hx hb dX10_countryLine_601 rfl (lv_at hl 0 rfl) ?_
              obtain ⟨b602, hg, h⟩ := ob h
              refine wz_gN C hW flX10_41 hg dX10_countryLine_602 ?_
              refine lv_iconst (v := 1) hx hb dX10_countryLine_605 (by decide) ?_
              obtain ⟨x606, hg, h⟩ := ob h
              refine wz_ald C hW hg dX10_countryLine_606 ?_
              refine lv_iconst (v := 3) hx hb dX10_countryLine_607 (by decide) ?_
              refine lv_iand hx hb dX10_countryLine_608 ?_
              refine lv_iadd hx hb dX10_countryLine_609 ?_
              refine lv_aload_n hx hb dX10_countryLine_610 rfl (lv_at hl 0 rfl) ?_
              obtain ⟨b611, hg, h⟩ := ob h
              refine wz_gN C hW flX10_41 hg dX10_countryLine_611 ?_
              refine lv_iconst (v := 2) hx hb dX10_countryLine_614 (by decide) ?_
              obtain ⟨x615, hg, h⟩ := ob h
              refine wz_ald C hW hg dX10_countryLine_615 ?_
              obtain ⟨x616, z616, hq, h⟩ := ob2 h
              refine wz_rI (c' := 0) (s' := 0) hW (wz_runV (rest := []) C hW lVX10_203 (ck hq).1 rfl (ctX10_put l G a0 (((94 : Int32) + ((4 : Int32) * (x596 &&& (3 : Int32)))) + (x606 &&& (3 : Int32))) x615 z581 hq) ⟨⟨rfl, rfl⟩, Nat.le_of_ble_eq_true rfl, Nat.le_of_ble_eq_true rfl⟩ rfl hl.1 rfl (Nat.le_of_ble_eq_true rfl) dX10_countryLine_616 ⟨Nat.le_of_ble_eq_true rfl, Nat.le_of_ble_eq_true rfl⟩) rfl rfl (fun H locs hW => ?_)
              refine lv_if_eq (tgt := 626) hx hb dX10_countryLine_619 (by decide) (fun c619 => ?_) (fun c619 => ?_)
              · have h := ite_t c619 h
                refine lv_iconst (v := 0) hx hb dX10_countryLine_626 (by decide) ?_
                exact wz_zretE C hlk hr (Or.inl rfl) (so2 h).1 (so2 h).2 hW dX10_countryLine_627
              · have h := ite_f c619 h
                refine lv_iconst (v := 1) hx hb dX10_countryLine_622 (by decide) ?_
                refine lv_goto (tgt := 627) hx hb dX10_countryLine_623 (by decide) ?_
                exact wz_zretE C hlk hr (Or.inr rfl) (so2 h).1 (so2 h).2 hW dX10_countryLine_627
      · have h := ite_t c488 h
        refine lv_aload_n hx hb dX10_countryLine_492 rfl (lv_at hl 0 rfl) ?_
        refine lv_iconst (v := 0) hx hb dX10_countryLine_493 (by decide) ?_
        obtain ⟨x494, z494, hq, h⟩ := ob2 h
        refine wz_rI (c' := 0) (s' := 0) hW (wz_runV (rest := []) C hW lVX10_188 (ck hq).1 rfl (ctX10_takeLeft l G a0 (0 : Int32) z380 hq) ⟨⟨rfl, rfl⟩, Nat.le_of_ble_eq_true rfl, Nat.le_of_ble_eq_true rfl⟩ rfl hl.1 rfl (Nat.le_of_ble_eq_true rfl) dX10_countryLine_494 ⟨Nat.le_of_ble_eq_true rfl, Nat.le_of_ble_eq_true rfl⟩) rfl rfl (fun H locs hW => ?_)
        refine lv_if_eq (tgt := 558) hx hb dX10_countryLine_497 (by decide) (fun c497 => ?_) (fun c497 => ?_)
        · have h := ite_t c497 h
          refine lv_iconst (v := 0) hx hb dX10_countryLine_558 (by decide) ?_
          exact wz_zretE C hlk hr (Or.inl rfl) (so2 h).1 (so2 h).2 hW dX10_countryLine_559
        · have h := ite_f c497 h
          refine lv_aload_n hx hb dX10_countryLine_500 rfl (lv_at hl 0 rfl) ?_
          refine lv_iconst (v := 1) hx hb dX10_countryLine_501 (by decide) ?_
          obtain ⟨x502, z502, hq, h⟩ := ob2 h
          refine wz_rI (c' := 0) (s' := 0) hW (wz_runV (rest := []) C hW lVX10_192 (ck hq).1 rfl (ctX10_takeRight l G a0 (1 : Int32) z494 hq) ⟨⟨rfl, rfl⟩, Nat.le_of_ble_eq_true rfl, Nat.le_of_ble_eq_true rfl⟩ rfl hl.1 rfl (Nat.le_of_ble_eq_true rfl) dX10_countryLine_502 ⟨Nat.le_of_ble_eq_true rfl, Nat.le_of_ble_eq_true rfl⟩) rfl rfl (fun H locs hW => ?_)
          refine lv_if_eq (tgt := 558) hx hb dX10_countryLine_505 (by decide) (fun c505 => ?_) (fun c505 => ?_)
          · have h := ite_t c505 h
            refine lv_iconst (v := 0) hx hb dX10_countryLine_558 (by decide) ?_
            exact wz_zretE C hlk hr (Or.inl rfl) (so2 h).1 (so2 h).2 hW dX10_countryLine_559
          · have h := ite_f c505 h
            refine lv_aload_n hx hb dX10_countryLine_508 rfl (lv_at hl 0 rfl) ?_
            refine lv_iconst (v := 2) hx hb dX10_countryLine_509 (by decide) ?_
            refine lv_iconst (v := 0) hx hb dX10_countryLine_510 (by decide) ?_
            refine lv_bipush (v := 9) hx hb dX10_countryLine_511 (by decide) ?_
            obtain ⟨x513, z513, hq, h⟩ := ob2 h
            refine wz_rI (c' := 0) (s' := 0) hW (wz_runV (rest := []) C hW lVX10_159 (ck hq).1 rfl (ctX10_take l G a0 (2 : Int32) (0 : Int32) (9 : Int32) z502 hq) ⟨⟨rfl, rfl⟩, Nat.le_of_ble_eq_true rfl, Nat.le_of_ble_eq_true rfl⟩ rfl hl.1 rfl (Nat.le_of_ble_eq_true rfl) dX10_countryLine_513 ⟨Nat.le_of_ble_eq_true rfl, Nat.le_of_ble_eq_true rfl⟩) rfl rfl (fun H locs hW => ?_)
            refine lv_if_eq (tgt := 558) hx hb dX10_countryLine_516 (by decide) (fun c516 => ?_) (fun c516 => ?_)
            · have h := ite_t c516 h
              refine lv_iconst (v := 0) hx hb dX10_countryLine_558 (by decide) ?_
              exact wz_zretE C hlk hr (Or.inl rfl) (so2 h).1 (so2 h).2 hW dX10_countryLine_559
            · have h := ite_f c516 h
              refine lv_aload_n hx hb dX10_countryLine_519 rfl (lv_at hl 0 rfl) ?_
              refine lv_bipush (v := 78) hx hb dX10_countryLine_520 (by decide) ?_
              refine lv_iconst (v := 4) hx hb dX10_countryLine_522 (by decide) ?_
              refine lv_aload_n hx hb dX10_countryLine_523 rfl (lv_at hl 0 rfl) ?_
              obtain ⟨b524, hg, h⟩ := ob h
              refine wz_gN C hW flX10_41 hg dX10_countryLine_524 ?_
              refine lv_iconst (v := 0) hx hb dX10_countryLine_527 (by decide) ?_
              obtain ⟨x528, hg, h⟩ := ob h
              refine wz_ald C hW hg dX10_countryLine_528 ?_
              refine lv_iconst (v := 3) hx hb dX10_countryLine_529 (by decide) ?_
              refine lv_iand hx hb dX10_countryLine_530 ?_
              refine lv_imul hx hb dX10_countryLine_531 ?_
              refine lv_iadd hx hb dX10_countryLine_532 ?_
              refine lv_aload_n hx hb dX10_countryLine_533 rfl (lv_at hl 0 rfl) ?_
              obtain ⟨b534, hg, h⟩ := ob h
              refine wz_gN C hW flX10_41 hg dX10_countryLine_534 ?_
              refine lv_iconst (v := 1) hx hb dX10_countryLine_537 (by decide) ?_
              obtain ⟨x538, hg, h⟩ := ob h
              refine wz_ald C hW hg dX10_countryLine_538 ?_
              refine lv_iconst (v := 3) hx hb dX10_countryLine_539 (by decide) ?_
              refine lv_iand hx hb dX10_countryLine_540 ?_
              refine lv_iadd hx hb dX10_countryLine_541 ?_
              refine lv_aload_n hx hb dX10_countryLine_542 rfl (lv_at hl 0 rfl) ?_
              obtain ⟨b543, hg, h⟩ := ob h
              refine wz_gN C hW flX10_41 hg dX10_countryLine_543 ?_
              refine lv_iconst (v := 2) hx hb dX10_countryLine_546 (by decide) ?_
              obtain ⟨x547, hg, h⟩ := ob h
              refine wz_ald C hW hg dX10_countryLine_547 ?_
              obtain ⟨x548, z548, hq, h⟩ := ob2 h
              refine wz_rI (c' := 0) (s' := 0) hW (wz_runV (rest := []) C hW lVX10_203 (ck hq).1 rfl (ctX10_put l G a0 (((78 : Int32) + ((4 : Int32) * (x528 &&& (3 : Int32)))) + (x538 &&& (3 : Int32))) x547 z513 hq) ⟨⟨rfl, rfl⟩, Nat.le_of_ble_eq_true rfl, Nat.le_of_ble_eq_true rfl⟩ rfl hl.1 rfl (Nat.le_of_ble_eq_true rfl) dX10_countryLine_548 ⟨Nat.le_of_ble_eq_true rfl, Nat.le_of_ble_eq_true rfl⟩) rfl rfl (fun H locs hW => ?_)
              refine lv_if_eq (tgt := 558) hx hb dX10_countryLine_551 (by decide) (fun c551 => ?_) (fun c551 => ?_)
              · have h := ite_t c551 h
                refine lv_iconst (v := 0) hx hb dX10_countryLine_558 (by decide) ?_
                exact wz_zretE C hlk hr (Or.inl rfl) (so2 h).1 (so2 h).2 hW dX10_countryLine_559
              · have h := ite_f c551 h
                refine lv_iconst (v := 1) hx hb dX10_countryLine_554 (by decide) ?_
                refine lv_goto (tgt := 559) hx hb dX10_countryLine_555 (by decide) ?_
                exact wz_zretE C hlk hr (Or.inr rfl) (so2 h).1 (so2 h).2 hW dX10_countryLine_559
    · have h := ite_t c449 h
      refine lv_aload_n hx hb dX10_countryLine_453 rfl (lv_at hl 0 rfl) ?_
      refine lv_iconst (v := 0) hx hb dX10_countryLine_454 (by decide) ?_
      refine lv_iconst (v := 0) hx hb dX10_countryLine_455 (by decide) ?_
      refine lv_bipush (v := 9) hx hb dX10_countryLine_456 (by decide) ?_
      obtain ⟨x458, z458, hq, h⟩ := ob2 h
      refine wz_rI (c' := 0) (s' := 0) hW (wz_runV (rest := []) C hW lVX10_159 (ck hq).1 rfl (ctX10_take l G a0 (0 : Int32) (0 : Int32) (9 : Int32) z380 hq) ⟨⟨rfl, rfl⟩, Nat.le_of_ble_eq_true rfl, Nat.le_of_ble_eq_true rfl⟩ rfl hl.1 rfl (Nat.le_of_ble_eq_true rfl) dX10_countryLine_458 ⟨Nat.le_of_ble_eq_true rfl, Nat.le_of_ble_eq_true rfl⟩) rfl rfl (fun H locs hW => ?_)
      refine lv_if_eq (tgt := 482) hx hb dX10_countryLine_461 (by decide) (fun c461 => ?_) (fun c461 => ?_)
      · have h := ite_t c461 h
        refine lv_iconst (v := 0) hx hb dX10_countryLine_482 (by decide) ?_
        exact wz_zretE C hlk hr (Or.inl rfl) (so2 h).1 (so2 h).2 hW dX10_countryLine_483
      · have h := ite_f c461 h
        refine lv_aload_n hx hb dX10_countryLine_464 rfl (lv_at hl 0 rfl) ?_
        refine lv_iconst (v := 5) hx hb dX10_countryLine_465 (by decide) ?_
        refine lv_aload_n hx hb dX10_countryLine_466 rfl (lv_at hl 0 rfl) ?_
        obtain ⟨b467, hg, h⟩ := ob h
        refine wz_gN C hW flX10_41 hg dX10_countryLine_467 ?_
        refine lv_iconst (v := 0) hx hb dX10_countryLine_470 (by decide) ?_
        obtain ⟨x471, hg, h⟩ := ob h
        refine wz_ald C hW hg dX10_countryLine_471 ?_
        obtain ⟨x472, z472, hq, h⟩ := ob2 h
        refine wz_rI (c' := 0) (s' := 0) hW (wz_runV (rest := []) C hW lVX10_203 (ck hq).1 rfl (ctX10_put l G a0 (5 : Int32) x471 z458 hq) ⟨⟨rfl, rfl⟩, Nat.le_of_ble_eq_true rfl, Nat.le_of_ble_eq_true rfl⟩ rfl hl.1 rfl (Nat.le_of_ble_eq_true rfl) dX10_countryLine_472 ⟨Nat.le_of_ble_eq_true rfl, Nat.le_of_ble_eq_true rfl⟩) rfl rfl (fun H locs hW => ?_)
        refine lv_if_eq (tgt := 482) hx hb dX10_countryLine_475 (by decide) (fun c475 => ?_) (fun c475 => ?_)
        · have h := ite_t c475 h
          refine lv_iconst (v := 0) hx hb dX10_countryLine_482 (by decide) ?_
          exact wz_zretE C hlk hr (Or.inl rfl) (so2 h).1 (so2 h).2 hW dX10_countryLine_483
        · have h := ite_f c475 h
          refine lv_iconst (v := 1) hx hb dX10_countryLine_478 (by decide) ?_
          refine lv_goto (tgt := 483) hx hb dX10_countryLine_479 (by decide) ?_
          exact wz_zretE C hlk hr (Or.inr rfl) (so2 h).1 (so2 h).2 hW dX10_countryLine_483
  · have h := ite_t c387 h
    refine lv_aload_n hx hb dX10_countryLine_391 rfl (lv_at hl 0 rfl) ?_
    refine lv_iconst (v := 0) hx hb dX10_countryLine_392 (by decide) ?_
    refine lv_iconst (v := -1) hx hb dX10_countryLine_393 (by decide) ?_
    obtain ⟨x394, z394, hq, h⟩ := ob2 h
    refine wz_rI (c' := 0) (s' := 0) hW (wz_runV (rest := []) C hW lVX10_185 (ck hq).1 rfl (ctX10_takeThing l G a0 (0 : Int32) (-1 : Int32) z380 hq) ⟨⟨rfl, rfl⟩, Nat.le_of_ble_eq_true rfl, Nat.le_of_ble_eq_true rfl⟩ rfl hl.1 rfl (Nat.le_of_ble_eq_true rfl) dX10_countryLine_394 ⟨Nat.le_of_ble_eq_true rfl, Nat.le_of_ble_eq_true rfl⟩) rfl rfl (fun H locs hW => ?_)
    refine lv_if_eq (tgt := 443) hx hb dX10_countryLine_397 (by decide) (fun c397 => ?_) (fun c397 => ?_)
    · have h := ite_t c397 h
      refine lv_iconst (v := 0) hx hb dX10_countryLine_443 (by decide) ?_
      exact wz_zretE C hlk hr (Or.inl rfl) (so2 h).1 (so2 h).2 hW dX10_countryLine_444
    · have h := ite_f c397 h
      refine lv_aload_n hx hb dX10_countryLine_400 rfl (lv_at hl 0 rfl) ?_
      refine lv_iconst (v := 1) hx hb dX10_countryLine_401 (by decide) ?_
      refine lv_aload_n hx hb dX10_countryLine_402 rfl (lv_at hl 0 rfl) ?_
      obtain ⟨b403, hg, h⟩ := ob h
      refine wz_gN C hW flX10_41 hg dX10_countryLine_403 ?_
      refine lv_iconst (v := 0) hx hb dX10_countryLine_406 (by decide) ?_
      obtain ⟨x407, hg, h⟩ := ob h
      refine wz_ald C hW hg dX10_countryLine_407 ?_
      obtain ⟨x408, z408, hq, h⟩ := ob2 h
      refine wz_rI (c' := 0) (s' := 0) hW (wz_runV (rest := []) C hW lVX10_185 (ck hq).1 rfl (ctX10_takeThing l G a0 (1 : Int32) x407 z394 hq) ⟨⟨rfl, rfl⟩, Nat.le_of_ble_eq_true rfl, Nat.le_of_ble_eq_true rfl⟩ rfl hl.1 rfl (Nat.le_of_ble_eq_true rfl) dX10_countryLine_408 ⟨Nat.le_of_ble_eq_true rfl, Nat.le_of_ble_eq_true rfl⟩) rfl rfl (fun H locs hW => ?_)
      refine lv_if_eq (tgt := 443) hx hb dX10_countryLine_411 (by decide) (fun c411 => ?_) (fun c411 => ?_)
      · have h := ite_t c411 h
        refine lv_iconst (v := 0) hx hb dX10_countryLine_443 (by decide) ?_
        exact wz_zretE C hlk hr (Or.inl rfl) (so2 h).1 (so2 h).2 hW dX10_countryLine_444
      · have h := ite_f c411 h
        refine lv_aload_n hx hb dX10_countryLine_414 rfl (lv_at hl 0 rfl) ?_
        refine lv_bipush (v := 30) hx hb dX10_countryLine_415 (by decide) ?_
        refine lv_aload_n hx hb dX10_countryLine_417 rfl (lv_at hl 0 rfl) ?_
        obtain ⟨b418, hg, h⟩ := ob h
        refine wz_gN C hW flX10_41 hg dX10_countryLine_418 ?_
        refine lv_iconst (v := 0) hx hb dX10_countryLine_421 (by decide) ?_
        obtain ⟨x422, hg, h⟩ := ob h
        refine wz_ald C hW hg dX10_countryLine_422 ?_
        refine lv_bipush (v := 7) hx hb dX10_countryLine_423 (by decide) ?_
        refine lv_iand hx hb dX10_countryLine_425 ?_
        refine lv_iadd hx hb dX10_countryLine_426 ?_
        refine lv_aload_n hx hb dX10_countryLine_427 rfl (lv_at hl 0 rfl) ?_
        obtain ⟨b428, hg, h⟩ := ob h
        refine wz_gN C hW flX10_41 hg dX10_countryLine_428 ?_
        refine lv_iconst (v := 1) hx hb dX10_countryLine_431 (by decide) ?_
        obtain ⟨x432, hg, h⟩ := ob h
        refine wz_ald C hW hg dX10_countryLine_432 ?_
        obtain ⟨x433, z433, hq, h⟩ := ob2 h
        refine wz_rI (c' := 0) (s' := 0) hW (wz_runV (rest := []) C hW lVX10_203 (ck hq).1 rfl (ctX10_put l G a0 ((30 : Int32) + (x422 &&& (7 : Int32))) x432 z408 hq) ⟨⟨rfl, rfl⟩, Nat.le_of_ble_eq_true rfl, Nat.le_of_ble_eq_true rfl⟩ rfl hl.1 rfl (Nat.le_of_ble_eq_true rfl) dX10_countryLine_433 ⟨Nat.le_of_ble_eq_true rfl, Nat.le_of_ble_eq_true rfl⟩) rfl rfl (fun H locs hW => ?_)
        refine lv_if_eq (tgt := 443) hx hb dX10_countryLine_436 (by decide) (fun c436 => ?_) (fun c436 => ?_)
        · have h := ite_t c436 h
          refine lv_iconst (v := 0) hx hb dX10_countryLine_443 (by decide) ?_
          exact wz_zretE C hlk hr (Or.inl rfl) (so2 h).1 (so2 h).2 hW dX10_countryLine_444
        · have h := ite_f c436 h
          refine lv_iconst (v := 1) hx hb dX10_countryLine_439 (by decide) ?_
          refine lv_goto (tgt := 444) hx hb dX10_countryLine_440 (by decide) ?_
          exact wz_zretE C hlk hr (Or.inr rfl) (so2 h).1 (so2 h).2 hW dX10_countryLine_444
def bX10_countryLine_116 (a0 : Nat) (l3 : Int32) (l4 : Int32) (s0 : Nat) (s1 : Int32) (s2 : Int32) (z : AH) : Option (Int32 × AH) :=
  (fX10_full s0 s1 s2 l3 z).bind fun z117 =>
  (fX10_token a0 z117).bind fun z121 =>
  if l4 = (0 : Int32) then (
    b2 (fX10_take a0 (0 : Int32) (0 : Int32) (99 : Int32) z121) fun x161 z161 =>
    if x161 = (0 : Int32) then (
      some ((0 : Int32), z161)
    ) else (
      b2 (fX10_take a0 (1 : Int32) (0 : Int32) (9 : Int32) z161) fun x172 z172 =>
      if x172 = (0 : Int32) then (
        some ((0 : Int32), z172)
      ) else (
        b2 (fX10_take a0 (2 : Int32) (0 : Int32) (9 : Int32) z172) fun x183 z183 =>
        if x183 = (0 : Int32) then (
          some ((0 : Int32), z183)
        ) else (
          b2 (fX10_keep a0 (0 : Int32) (6 : Int32) (3 : Int32) (8 : Int32) z183) fun x196 z196 =>
          if x196 = (0 : Int32) then (
            some ((0 : Int32), z196)
          ) else (
            some ((1 : Int32), z196)
          )
        )
      )
    )
  ) else
  if l4 = (1 : Int32) then (
    b2 (fX10_takeThing a0 (0 : Int32) (-1 : Int32) z121) fun x211 z211 =>
    if x211 = (0 : Int32) then (
      some ((0 : Int32), z211)
    ) else (
      (gN 9 20 z211 a0).bind fun b220 =>
      (ixI 0 z211 b220 (0 : Int32)).bind fun x224 =>
      b2 (fX10_takeThing a0 (1 : Int32) x224 z211) fun x225 z225 =>
      if x225 = (0 : Int32) then (
        some ((0 : Int32), z225)
      ) else (
        b2 (fX10_keep a0 (1 : Int32) (54 : Int32) (2 : Int32) (12 : Int32) z225) fun x238 z238 =>
        if x238 = (0 : Int32) then (
          some ((0 : Int32), z238)
        ) else (
          some ((1 : Int32), z238)
        )
      )
    )
  ) else
  if l4 = (2 : Int32) then (
    b2 (fX10_take a0 (0 : Int32) (1 : Int32) (9 : Int32) z121) fun x255 z255 =>
    if x255 = (0 : Int32) then (
      some ((0 : Int32), z255)
    ) else (
      b2 (fX10_keep a0 (2 : Int32) (38 : Int32) (1 : Int32) (4 : Int32) z255) fun x267 z267 =>
      if x267 = (0 : Int32) then (
        some ((0 : Int32), z267)
      ) else (
        some ((1 : Int32), z267)
      )
    )
  ) else
  if l4 = (3 : Int32) then (
    b2 (fX10_take a0 (0 : Int32) (1 : Int32) (9 : Int32) z121) fun x284 z284 =>
    if x284 = (0 : Int32) then (
      some ((0 : Int32), z284)
    ) else (
      b2 (fX10_keep a0 (3 : Int32) (42 : Int32) (1 : Int32) (4 : Int32) z284) fun x296 z296 =>
      if x296 = (0 : Int32) then (
        some ((0 : Int32), z296)
      ) else (
        some ((1 : Int32), z296)
      )
    )
  ) else
  b2 (fX10_takeLeft a0 (0 : Int32) z121) fun x310 z310 =>
  if x310 = (0 : Int32) then (
    some ((0 : Int32), z310)
  ) else (
    b2 (fX10_takeRight a0 (1 : Int32) z310) fun x318 z318 =>
    if x318 = (0 : Int32) then (
      some ((0 : Int32), z318)
    ) else (
      b2 (fX10_keep a0 (4 : Int32) (46 : Int32) (2 : Int32) (4 : Int32) z318) fun x330 z330 =>
      if x330 = (0 : Int32) then (
        some ((0 : Int32), z330)
      ) else (
        some ((1 : Int32), z330)
      )
    )
  )
set_option maxHeartbeats 4000000 in
set_option maxRecDepth 100000 in
theorem kbX10_countryLine_116 {p : Program} {l : Launch} {e : Env} {s : State} {m : MethodId} {args : Array Value} {below : List Frame} {meth : Method} {c : Code} {G : GW} {r : Int32} {z' : AH} (C : Cx p m c cX10_countryLine 5 s args RX10 G) (hlk : meth.locks = false) (hr : meth.sig.returnType = (some .boolean)) (a0 : Nat) (l3 : Int32) (l4 : Int32) (s0 : Nat) (s1 : Int32) (s2 : Int32) {z : AH} {H : Heap} {locs : List Loc} {ls : Array Slot} (h : bX10_countryLine_116 a0 l3 l4 s0 s1 s2 z = some (r, z')) (hW : Wb G z s H locs) (hl : lv_has ls 5 [(0, .ref (gB G + a0)), (3, .int l3), (4, .int l4)]) : W p l e rmX10_countryLine s m args below meth c H locs 0 0 (MQ below (Qi G r z') args s 0 0 (AA G)) (F0 m 116 ls [.int s2, .int s1, .ref (gB G + s0)]) := by
  have hx := C.1
  have hb := C.2.1
  unfold bX10_countryLine_116 at h
  refine lv_iload_n hx hb dX10_countryLine_116 rfl (lv_at hl 1 rfl) ?_
  obtain ⟨z117, hq, h⟩ := ob h
  refine wz_rV (c' := 0) (s' := 0) hW (wz_runV (rest := []) C hW lVX10_178 (ck hq).1 rfl (ctX10_full l G s0 s1 s2 l3 z hq) ⟨⟨rfl, rfl⟩, Nat.le_of_ble_eq_true rfl, Nat.le_of_ble_eq_true rfl⟩ rfl hl.1 rfl (Nat.le_of_ble_eq_true rfl) dX10_countryLine_117 ⟨Nat.le_of_ble_eq_true rfl, Nat.le_of_ble_eq_true rfl⟩) rfl rfl (fun H locs hW => ?_)
  refine lv_aload_n hx hb dX10_countryLine_120 rfl (lv_at hl 0 rfl) ?_
  obtain ⟨z121, hq, h⟩ := ob h
  refine wz_rV (c' := 0) (s' := 0) hW (wz_runV (rest := []) C hW lVX10_145 (ck hq).1 rfl (ctX10_token l G a0 z117 hq) ⟨⟨rfl, rfl⟩, Nat.le_of_ble_eq_true rfl, Nat.le_of_ble_eq_true rfl⟩ rfl hl.1 rfl (Nat.le_of_ble_eq_true rfl) dX10_countryLine_121 ⟨Nat.le_of_ble_eq_true rfl, Nat.le_of_ble_eq_true rfl⟩) rfl rfl (fun H locs hW => ?_)
  refine lv_iload hx hb dX10_countryLine_124 (lv_at hl 2 rfl) ?_
  by_cases c126_0 : l4 = (0 : Int32)
  · have h := ite_t c126_0 h
    refine wz_sw (0 : Int32) (tgt := 156) hx hb dX10_countryLine_126 c126_0 (by decide) rfl (by decide) ?_
    refine lv_aload_n hx hb dX10_countryLine_156 rfl (lv_at hl 0 rfl) ?_
    refine lv_iconst (v := 0) hx hb dX10_countryLine_157 (by decide) ?_
    refine lv_iconst (v := 0) hx hb dX10_countryLine_158 (by decide) ?_
    refine lv_bipush (v := 99) hx hb dX10_countryLine_159 (by decide) ?_
    obtain ⟨x161, z161, hq, h⟩ := ob2 h
    refine wz_rI (c' := 0) (s' := 0) hW (wz_runV (rest := []) C hW lVX10_159 (ck hq).1 rfl (ctX10_take l G a0 (0 : Int32) (0 : Int32) (99 : Int32) z121 hq) ⟨⟨rfl, rfl⟩, Nat.le_of_ble_eq_true rfl, Nat.le_of_ble_eq_true rfl⟩ rfl hl.1 rfl (Nat.le_of_ble_eq_true rfl) dX10_countryLine_161 ⟨Nat.le_of_ble_eq_true rfl, Nat.le_of_ble_eq_true rfl⟩) rfl rfl (fun H locs hW => ?_)
    refine lv_if_eq (tgt := 206) hx hb dX10_countryLine_164 (by decide) (fun c164 => ?_) (fun c164 => ?_)
    · have h := ite_t c164 h
      refine lv_iconst (v := 0) hx hb dX10_countryLine_206 (by decide) ?_
      exact wz_zretE C hlk hr (Or.inl rfl) (so2 h).1 (so2 h).2 hW dX10_countryLine_207
    · have h := ite_f c164 h
      refine lv_aload_n hx hb dX10_countryLine_167 rfl (lv_at hl 0 rfl) ?_
      refine lv_iconst (v := 1) hx hb dX10_countryLine_168 (by decide) ?_
      refine lv_iconst (v := 0) hx hb dX10_countryLine_169 (by decide) ?_
      refine lv_bipush (v := 9) hx hb dX10_countryLine_170 (by decide) ?_
      obtain ⟨x172, z172, hq, h⟩ := ob2 h
      refine wz_rI (c' := 0) (s' := 0) hW (wz_runV (rest := []) C hW lVX10_159 (ck hq).1 rfl (ctX10_take l G a0 (1 : Int32) (0 : Int32) (9 : Int32) z161 hq) ⟨⟨rfl, rfl⟩, Nat.le_of_ble_eq_true rfl, Nat.le_of_ble_eq_true rfl⟩ rfl hl.1 rfl (Nat.le_of_ble_eq_true rfl) dX10_countryLine_172 ⟨Nat.le_of_ble_eq_true rfl, Nat.le_of_ble_eq_true rfl⟩) rfl rfl (fun H locs hW => ?_)
      refine lv_if_eq (tgt := 206) hx hb dX10_countryLine_175 (by decide) (fun c175 => ?_) (fun c175 => ?_)
      · have h := ite_t c175 h
        refine lv_iconst (v := 0) hx hb dX10_countryLine_206 (by decide) ?_
        exact wz_zretE C hlk hr (Or.inl rfl) (so2 h).1 (so2 h).2 hW dX10_countryLine_207
      · have h := ite_f c175 h
        refine lv_aload_n hx hb dX10_countryLine_178 rfl (lv_at hl 0 rfl) ?_
        refine lv_iconst (v := 2) hx hb dX10_countryLine_179 (by decide) ?_
        refine lv_iconst (v := 0) hx hb dX10_countryLine_180 (by decide) ?_
        refine lv_bipush (v := 9) hx hb dX10_countryLine_181 (by decide) ?_
        obtain ⟨x183, z183, hq, h⟩ := ob2 h
        refine wz_rI (c' := 0) (s' := 0) hW (wz_runV (rest := []) C hW lVX10_159 (ck hq).1 rfl (ctX10_take l G a0 (2 : Int32) (0 : Int32) (9 : Int32) z172 hq) ⟨⟨rfl, rfl⟩, Nat.le_of_ble_eq_true rfl, Nat.le_of_ble_eq_true rfl⟩ rfl hl.1 rfl (Nat.le_of_ble_eq_true rfl) dX10_countryLine_183 ⟨Nat.le_of_ble_eq_true rfl, Nat.le_of_ble_eq_true rfl⟩) rfl rfl (fun H locs hW => ?_)
        refine lv_if_eq (tgt := 206) hx hb dX10_countryLine_186 (by decide) (fun c186 => ?_) (fun c186 => ?_)
        · have h := ite_t c186 h
          refine lv_iconst (v := 0) hx hb dX10_countryLine_206 (by decide) ?_
          exact wz_zretE C hlk hr (Or.inl rfl) (so2 h).1 (so2 h).2 hW dX10_countryLine_207
        · have h := ite_f c186 h
          refine lv_aload_n hx hb dX10_countryLine_189 rfl (lv_at hl 0 rfl) ?_
          refine lv_iconst (v := 0) hx hb dX10_countryLine_190 (by decide) ?_
          refine lv_bipush (v := 6) hx hb dX10_countryLine_191 (by decide) ?_
          refine lv_iconst (v := 3) hx hb dX10_countryLine_193 (by decide) ?_
          refine lv_bipush (v := 8) hx hb dX10_countryLine_194 (by decide) ?_
          obtain ⟨x196, z196, hq, h⟩ := ob2 h
          refine wz_rI (c' := 0) (s' := 0) hW (wz_runV (rest := []) C hW lVX10_182 (ck hq).1 rfl (ctX10_keep l G a0 (0 : Int32) (6 : Int32) (3 : Int32) (8 : Int32) z183 hq) ⟨⟨rfl, rfl⟩, Nat.le_of_ble_eq_true rfl, Nat.le_of_ble_eq_true rfl⟩ rfl hl.1 rfl (Nat.le_of_ble_eq_true rfl) dX10_countryLine_196 ⟨Nat.le_of_ble_eq_true rfl, Nat.le_of_ble_eq_true rfl⟩) rfl rfl (fun H locs hW => ?_)
          refine lv_if_eq (tgt := 206) hx hb dX10_countryLine_199 (by decide) (fun c199 => ?_) (fun c199 => ?_)
          · have h := ite_t c199 h
            refine lv_iconst (v := 0) hx hb dX10_countryLine_206 (by decide) ?_
            exact wz_zretE C hlk hr (Or.inl rfl) (so2 h).1 (so2 h).2 hW dX10_countryLine_207
          · have h := ite_f c199 h
            refine lv_iconst (v := 1) hx hb dX10_countryLine_202 (by decide) ?_
            refine lv_goto (tgt := 207) hx hb dX10_countryLine_203 (by decide) ?_
            exact wz_zretE C hlk hr (Or.inr rfl) (so2 h).1 (so2 h).2 hW dX10_countryLine_207
  have h := ite_f c126_0 h
  by_cases c126_1 : l4 = (1 : Int32)
  · have h := ite_t c126_1 h
    refine wz_sw (1 : Int32) (tgt := 208) hx hb dX10_countryLine_126 c126_1 (by decide) rfl (by decide) ?_
    refine lv_aload_n hx hb dX10_countryLine_208 rfl (lv_at hl 0 rfl) ?_
    refine lv_iconst (v := 0) hx hb dX10_countryLine_209 (by decide) ?_
    refine lv_iconst (v := -1) hx hb dX10_countryLine_210 (by decide) ?_
    obtain ⟨x211, z211, hq, h⟩ := ob2 h
    refine wz_rI (c' := 0) (s' := 0) hW (wz_runV (rest := []) C hW lVX10_185 (ck hq).1 rfl (ctX10_takeThing l G a0 (0 : Int32) (-1 : Int32) z121 hq) ⟨⟨rfl, rfl⟩, Nat.le_of_ble_eq_true rfl, Nat.le_of_ble_eq_true rfl⟩ rfl hl.1 rfl (Nat.le_of_ble_eq_true rfl) dX10_countryLine_211 ⟨Nat.le_of_ble_eq_true rfl, Nat.le_of_ble_eq_true rfl⟩) rfl rfl (fun H locs hW => ?_)
    refine lv_if_eq (tgt := 248) hx hb dX10_countryLine_214 (by decide) (fun c214 => ?_) (fun c214 => ?_)
    · have h := ite_t c214 h
      refine lv_iconst (v := 0) hx hb dX10_countryLine_248 (by decide) ?_
      exact wz_zretE C hlk hr (Or.inl rfl) (so2 h).1 (so2 h).2 hW dX10_countryLine_249
    · have h := ite_f c214 h
      refine lv_aload_n hx hb dX10_countryLine_217 rfl (lv_at hl 0 rfl) ?_
      refine lv_iconst (v := 1) hx hb dX10_countryLine_218 (by decide) ?_
      refine lv_aload_n hx hb dX10_countryLine_219 rfl (lv_at hl 0 rfl) ?_
      obtain ⟨b220, hg, h⟩ := ob h
      refine wz_gN C hW flX10_41 hg dX10_countryLine_220 ?_
      refine lv_iconst (v := 0) hx hb dX10_countryLine_223 (by decide) ?_
      obtain ⟨x224, hg, h⟩ := ob h
      refine wz_ald C hW hg dX10_countryLine_224 ?_
      obtain ⟨x225, z225, hq, h⟩ := ob2 h
      refine wz_rI (c' := 0) (s' := 0) hW (wz_runV (rest := []) C hW lVX10_185 (ck hq).1 rfl (ctX10_takeThing l G a0 (1 : Int32) x224 z211 hq) ⟨⟨rfl, rfl⟩, Nat.le_of_ble_eq_true rfl, Nat.le_of_ble_eq_true rfl⟩ rfl hl.1 rfl (Nat.le_of_ble_eq_true rfl) dX10_countryLine_225 ⟨Nat.le_of_ble_eq_true rfl, Nat.le_of_ble_eq_true rfl⟩) rfl rfl (fun H locs hW => ?_)
      refine lv_if_eq (tgt := 248) hx hb dX10_countryLine_228 (by decide) (fun c228 => ?_) (fun c228 => ?_)
      · have h := ite_t c228 h
        refine lv_iconst (v := 0) hx hb dX10_countryLine_248 (by decide) ?_
        exact wz_zretE C hlk hr (Or.inl rfl) (so2 h).1 (so2 h).2 hW dX10_countryLine_249
      · have h := ite_f c228 h
        refine lv_aload_n hx hb dX10_countryLine_231 rfl (lv_at hl 0 rfl) ?_
        refine lv_iconst (v := 1) hx hb dX10_countryLine_232 (by decide) ?_
        refine lv_bipush (v := 54) hx hb dX10_countryLine_233 (by decide) ?_
        refine lv_iconst (v := 2) hx hb dX10_countryLine_235 (by decide) ?_
        refine lv_bipush (v := 12) hx hb dX10_countryLine_236 (by decide) ?_
        obtain ⟨x238, z238, hq, h⟩ := ob2 h
        refine wz_rI (c' := 0) (s' := 0) hW (wz_runV (rest := []) C hW lVX10_182 (ck hq).1 rfl (ctX10_keep l G a0 (1 : Int32) (54 : Int32) (2 : Int32) (12 : Int32) z225 hq) ⟨⟨rfl, rfl⟩, Nat.le_of_ble_eq_true rfl, Nat.le_of_ble_eq_true rfl⟩ rfl hl.1 rfl (Nat.le_of_ble_eq_true rfl) dX10_countryLine_238 ⟨Nat.le_of_ble_eq_true rfl, Nat.le_of_ble_eq_true rfl⟩) rfl rfl (fun H locs hW => ?_)
        refine lv_if_eq (tgt := 248) hx hb dX10_countryLine_241 (by decide) (fun c241 => ?_) (fun c241 => ?_)
        · have h := ite_t c241 h
          refine lv_iconst (v := 0) hx hb dX10_countryLine_248 (by decide) ?_
          exact wz_zretE C hlk hr (Or.inl rfl) (so2 h).1 (so2 h).2 hW dX10_countryLine_249
        · have h := ite_f c241 h
          refine lv_iconst (v := 1) hx hb dX10_countryLine_244 (by decide) ?_
          refine lv_goto (tgt := 249) hx hb dX10_countryLine_245 (by decide) ?_
          exact wz_zretE C hlk hr (Or.inr rfl) (so2 h).1 (so2 h).2 hW dX10_countryLine_249
  have h := ite_f c126_1 h
  by_cases c126_2 : l4 = (2 : Int32)
  · have h := ite_t c126_2 h
    refine wz_sw (2 : Int32) (tgt := 250) hx hb dX10_countryLine_126 c126_2 (by decide) rfl (by decide) ?_
    refine lv_aload_n hx hb dX10_countryLine_250 rfl (lv_at hl 0 rfl) ?_
    refine lv_iconst (v := 0) hx hb dX10_countryLine_251 (by decide) ?_
    refine lv_iconst (v := 1) hx hb dX10_countryLine_252 (by decide) ?_
    refine lv_bipush (v := 9) hx hb dX10_countryLine_253 (by decide) ?_
    obtain ⟨x255, z255, hq, h⟩ := ob2 h
    refine wz_rI (c' := 0) (s' := 0) hW (wz_runV (rest := []) C hW lVX10_159 (ck hq).1 rfl (ctX10_take l G a0 (0 : Int32) (1 : Int32) (9 : Int32) z121 hq) ⟨⟨rfl, rfl⟩, Nat.le_of_ble_eq_true rfl, Nat.le_of_ble_eq_true rfl⟩ rfl hl.1 rfl (Nat.le_of_ble_eq_true rfl) dX10_countryLine_255 ⟨Nat.le_of_ble_eq_true rfl, Nat.le_of_ble_eq_true rfl⟩) rfl rfl (fun H locs hW => ?_)
    refine lv_if_eq (tgt := 277) hx hb dX10_countryLine_258 (by decide) (fun c258 => ?_) (fun c258 => ?_)
    · have h := ite_t c258 h
      refine lv_iconst (v := 0) hx hb dX10_countryLine_277 (by decide) ?_
      exact wz_zretE C hlk hr (Or.inl rfl) (so2 h).1 (so2 h).2 hW dX10_countryLine_278
    · have h := ite_f c258 h
      refine lv_aload_n hx hb dX10_countryLine_261 rfl (lv_at hl 0 rfl) ?_
      refine lv_iconst (v := 2) hx hb dX10_countryLine_262 (by decide) ?_
      refine lv_bipush (v := 38) hx hb dX10_countryLine_263 (by decide) ?_
      refine lv_iconst (v := 1) hx hb dX10_countryLine_265 (by decide) ?_
      refine lv_iconst (v := 4) hx hb dX10_countryLine_266 (by decide) ?_
      obtain ⟨x267, z267, hq, h⟩ := ob2 h
      refine wz_rI (c' := 0) (s' := 0) hW (wz_runV (rest := []) C hW lVX10_182 (ck hq).1 rfl (ctX10_keep l G a0 (2 : Int32) (38 : Int32) (1 : Int32) (4 : Int32) z255 hq) ⟨⟨rfl, rfl⟩, Nat.le_of_ble_eq_true rfl, Nat.le_of_ble_eq_true rfl⟩ rfl hl.1 rfl (Nat.le_of_ble_eq_true rfl) dX10_countryLine_267 ⟨Nat.le_of_ble_eq_true rfl, Nat.le_of_ble_eq_true rfl⟩) rfl rfl (fun H locs hW => ?_)
      refine lv_if_eq (tgt := 277) hx hb dX10_countryLine_270 (by decide) (fun c270 => ?_) (fun c270 => ?_)
      · have h := ite_t c270 h
        refine lv_iconst (v := 0) hx hb dX10_countryLine_277 (by decide) ?_
        exact wz_zretE C hlk hr (Or.inl rfl) (so2 h).1 (so2 h).2 hW dX10_countryLine_278
      · have h := ite_f c270 h
        refine lv_iconst (v := 1) hx hb dX10_countryLine_273 (by decide) ?_
        refine lv_goto (tgt := 278) hx hb dX10_countryLine_274 (by decide) ?_
        exact wz_zretE C hlk hr (Or.inr rfl) (so2 h).1 (so2 h).2 hW dX10_countryLine_278
  have h := ite_f c126_2 h
  by_cases c126_3 : l4 = (3 : Int32)
  · have h := ite_t c126_3 h
    refine wz_sw (3 : Int32) (tgt := 279) hx hb dX10_countryLine_126 c126_3 (by decide) rfl (by decide) ?_
    refine lv_aload_n hx hb dX10_countryLine_279 rfl (lv_at hl 0 rfl) ?_
    refine lv_iconst (v := 0) hx hb dX10_countryLine_280 (by decide) ?_
    refine lv_iconst (v := 1) hx hb dX10_countryLine_281 (by decide) ?_
    refine lv_bipush (v := 9) hx hb dX10_countryLine_282 (by decide) ?_
    obtain ⟨x284, z284, hq, h⟩ := ob2 h
    refine wz_rI (c' := 0) (s' := 0) hW (wz_runV (rest := []) C hW lVX10_159 (ck hq).1 rfl (ctX10_take l G a0 (0 : Int32) (1 : Int32) (9 : Int32) z121 hq) ⟨⟨rfl, rfl⟩, Nat.le_of_ble_eq_true rfl, Nat.le_of_ble_eq_true rfl⟩ rfl hl.1 rfl (Nat.le_of_ble_eq_true rfl) dX10_countryLine_284 ⟨Nat.le_of_ble_eq_true rfl, Nat.le_of_ble_eq_true rfl⟩) rfl rfl (fun H locs hW => ?_)
    refine lv_if_eq (tgt := 306) hx hb dX10_countryLine_287 (by decide) (fun c287 => ?_) (fun c287 => ?_)
    · have h := ite_t c287 h
      refine lv_iconst (v := 0) hx hb dX10_countryLine_306 (by decide) ?_
      exact wz_zretE C hlk hr (Or.inl rfl) (so2 h).1 (so2 h).2 hW dX10_countryLine_307
    · have h := ite_f c287 h
      refine lv_aload_n hx hb dX10_countryLine_290 rfl (lv_at hl 0 rfl) ?_
      refine lv_iconst (v := 3) hx hb dX10_countryLine_291 (by decide) ?_
      refine lv_bipush (v := 42) hx hb dX10_countryLine_292 (by decide) ?_
      refine lv_iconst (v := 1) hx hb dX10_countryLine_294 (by decide) ?_
      refine lv_iconst (v := 4) hx hb dX10_countryLine_295 (by decide) ?_
      obtain ⟨x296, z296, hq, h⟩ := ob2 h
      refine wz_rI (c' := 0) (s' := 0) hW (wz_runV (rest := []) C hW lVX10_182 (ck hq).1 rfl (ctX10_keep l G a0 (3 : Int32) (42 : Int32) (1 : Int32) (4 : Int32) z284 hq) ⟨⟨rfl, rfl⟩, Nat.le_of_ble_eq_true rfl, Nat.le_of_ble_eq_true rfl⟩ rfl hl.1 rfl (Nat.le_of_ble_eq_true rfl) dX10_countryLine_296 ⟨Nat.le_of_ble_eq_true rfl, Nat.le_of_ble_eq_true rfl⟩) rfl rfl (fun H locs hW => ?_)
      refine lv_if_eq (tgt := 306) hx hb dX10_countryLine_299 (by decide) (fun c299 => ?_) (fun c299 => ?_)
      · have h := ite_t c299 h
        refine lv_iconst (v := 0) hx hb dX10_countryLine_306 (by decide) ?_
        exact wz_zretE C hlk hr (Or.inl rfl) (so2 h).1 (so2 h).2 hW dX10_countryLine_307
      · have h := ite_f c299 h
        refine lv_iconst (v := 1) hx hb dX10_countryLine_302 (by decide) ?_
        refine lv_goto (tgt := 307) hx hb dX10_countryLine_303 (by decide) ?_
        exact wz_zretE C hlk hr (Or.inr rfl) (so2 h).1 (so2 h).2 hW dX10_countryLine_307
  have h := ite_f c126_3 h
  refine lv_tableOut (tgt := 308) hx hb dX10_countryLine_126 (by have g0 := i32_ne c126_0 (z := 0) (by decide); have g1 := i32_ne c126_1 (z := 1) (by decide); have g2 := i32_ne c126_2 (z := 2) (by decide); have g3 := i32_ne c126_3 (z := 3) (by decide); omega) (by decide) ?_
  refine lv_aload_n hx hb dX10_countryLine_308 rfl (lv_at hl 0 rfl) ?_
  refine lv_iconst (v := 0) hx hb dX10_countryLine_309 (by decide) ?_
  obtain ⟨x310, z310, hq, h⟩ := ob2 h
  refine wz_rI (c' := 0) (s' := 0) hW (wz_runV (rest := []) C hW lVX10_188 (ck hq).1 rfl (ctX10_takeLeft l G a0 (0 : Int32) z121 hq) ⟨⟨rfl, rfl⟩, Nat.le_of_ble_eq_true rfl, Nat.le_of_ble_eq_true rfl⟩ rfl hl.1 rfl (Nat.le_of_ble_eq_true rfl) dX10_countryLine_310 ⟨Nat.le_of_ble_eq_true rfl, Nat.le_of_ble_eq_true rfl⟩) rfl rfl (fun H locs hW => ?_)
  refine lv_if_eq (tgt := 340) hx hb dX10_countryLine_313 (by decide) (fun c313 => ?_) (fun c313 => ?_)
  · have h := ite_t c313 h
    refine lv_iconst (v := 0) hx hb dX10_countryLine_340 (by decide) ?_
    exact wz_zretE C hlk hr (Or.inl rfl) (so2 h).1 (so2 h).2 hW dX10_countryLine_341
  · have h := ite_f c313 h
    refine lv_aload_n hx hb dX10_countryLine_316 rfl (lv_at hl 0 rfl) ?_
    refine lv_iconst (v := 1) hx hb dX10_countryLine_317 (by decide) ?_
    obtain ⟨x318, z318, hq, h⟩ := ob2 h
    refine wz_rI (c' := 0) (s' := 0) hW (wz_runV (rest := []) C hW lVX10_192 (ck hq).1 rfl (ctX10_takeRight l G a0 (1 : Int32) z310 hq) ⟨⟨rfl, rfl⟩, Nat.le_of_ble_eq_true rfl, Nat.le_of_ble_eq_true rfl⟩ rfl hl.1 rfl (Nat.le_of_ble_eq_true rfl) dX10_countryLine_318 ⟨Nat.le_of_ble_eq_true rfl, Nat.le_of_ble_eq_true rfl⟩) rfl rfl (fun H locs hW => ?_)
    refine lv_if_eq (tgt := 340) hx hb dX10_countryLine_321 (by decide) (fun c321 => ?_) (fun c321 => ?_)
    · have h := ite_t c321 h
      refine lv_iconst (v := 0) hx hb dX10_countryLine_340 (by decide) ?_
      exact wz_zretE C hlk hr (Or.inl rfl) (so2 h).1 (so2 h).2 hW dX10_countryLine_341
    · have h := ite_f c321 h
      refine lv_aload_n hx hb dX10_countryLine_324 rfl (lv_at hl 0 rfl) ?_
      refine lv_iconst (v := 4) hx hb dX10_countryLine_325 (by decide) ?_
      refine lv_bipush (v := 46) hx hb dX10_countryLine_326 (by decide) ?_
      refine lv_iconst (v := 2) hx hb dX10_countryLine_328 (by decide) ?_
      refine lv_iconst (v := 4) hx hb dX10_countryLine_329 (by decide) ?_
      obtain ⟨x330, z330, hq, h⟩ := ob2 h
      refine wz_rI (c' := 0) (s' := 0) hW (wz_runV (rest := []) C hW lVX10_182 (ck hq).1 rfl (ctX10_keep l G a0 (4 : Int32) (46 : Int32) (2 : Int32) (4 : Int32) z318 hq) ⟨⟨rfl, rfl⟩, Nat.le_of_ble_eq_true rfl, Nat.le_of_ble_eq_true rfl⟩ rfl hl.1 rfl (Nat.le_of_ble_eq_true rfl) dX10_countryLine_330 ⟨Nat.le_of_ble_eq_true rfl, Nat.le_of_ble_eq_true rfl⟩) rfl rfl (fun H locs hW => ?_)
      refine lv_if_eq (tgt := 340) hx hb dX10_countryLine_333 (by decide) (fun c333 => ?_) (fun c333 => ?_)
      · have h := ite_t c333 h
        refine lv_iconst (v := 0) hx hb dX10_countryLine_340 (by decide) ?_
        exact wz_zretE C hlk hr (Or.inl rfl) (so2 h).1 (so2 h).2 hW dX10_countryLine_341
      · have h := ite_f c333 h
        refine lv_iconst (v := 1) hx hb dX10_countryLine_336 (by decide) ?_
        refine lv_goto (tgt := 341) hx hb dX10_countryLine_337 (by decide) ?_
        exact wz_zretE C hlk hr (Or.inr rfl) (so2 h).1 (so2 h).2 hW dX10_countryLine_341
def bX10_countryLine_89 (a0 : Nat) (l3 : Int32) (s0 : Int32) (z : AH) : Option (Int32 × AH) :=
  if s0 = (0 : Int32) then (
    bX10_countryLine_116 a0 l3 s0 a0 s0 (8 : Int32) z
  ) else (
    if s0 = (1 : Int32) then (
      bX10_countryLine_116 a0 l3 s0 a0 s0 (12 : Int32) z
    ) else (
      bX10_countryLine_116 a0 l3 s0 a0 s0 (4 : Int32) z
    )
  )
set_option maxHeartbeats 4000000 in
set_option maxRecDepth 100000 in
theorem kbX10_countryLine_89 {p : Program} {l : Launch} {e : Env} {s : State} {m : MethodId} {args : Array Value} {below : List Frame} {meth : Method} {c : Code} {G : GW} {r : Int32} {z' : AH} (C : Cx p m c cX10_countryLine 5 s args RX10 G) (hlk : meth.locks = false) (hr : meth.sig.returnType = (some .boolean)) (a0 : Nat) (l3 : Int32) (s0 : Int32) {z : AH} {H : Heap} {locs : List Loc} {ls : Array Slot} (h : bX10_countryLine_89 a0 l3 s0 z = some (r, z')) (hW : Wb G z s H locs) (hl : lv_has ls 5 [(0, .ref (gB G + a0)), (3, .int l3)]) : W p l e rmX10_countryLine s m args below meth c H locs 0 0 (MQ below (Qi G r z') args s 0 0 (AA G)) (F0 m 89 ls [.int s0]) := by
  have hx := C.1
  have hb := C.2.1
  unfold bX10_countryLine_89 at h
  refine lv_istore (lv' := [(4, .int s0), (0, .ref (gB G + a0)), (3, .int l3)]) hx hb dX10_countryLine_89 hl (by decide) rfl (fun ls hl => ?_)
  refine lv_aload_n hx hb dX10_countryLine_91 rfl (lv_at hl 1 rfl) ?_
  refine lv_iload hx hb dX10_countryLine_92 (lv_at hl 0 rfl) ?_
  refine lv_iload hx hb dX10_countryLine_94 (lv_at hl 0 rfl) ?_
  refine lv_if_ne (tgt := 104) hx hb dX10_countryLine_96 (by decide) (fun c96 => ?_) (fun c96 => ?_)
  · have h := ite_f c96 h
    refine lv_iload hx hb dX10_countryLine_104 (lv_at hl 0 rfl) ?_
    refine lv_iconst (v := 1) hx hb dX10_countryLine_106 (by decide) ?_
    refine lv_icmp_ne (tgt := 115) hx hb dX10_countryLine_107 (by decide) (fun c107 => ?_) (fun c107 => ?_)
    · have h := ite_f c107 h
      refine lv_iconst (v := 4) hx hb dX10_countryLine_115 (by decide) ?_
      exact kbX10_countryLine_116 C hlk hr a0 l3 s0 a0 s0 (4 : Int32) h hW (lv_sub hl [1, 2, 0] rfl)
    · have h := ite_t c107 h
      refine lv_bipush (v := 12) hx hb dX10_countryLine_110 (by decide) ?_
      refine lv_goto (tgt := 116) hx hb dX10_countryLine_112 (by decide) ?_
      exact kbX10_countryLine_116 C hlk hr a0 l3 s0 a0 s0 (12 : Int32) h hW (lv_sub hl [1, 2, 0] rfl)
  · have h := ite_t c96 h
    refine lv_bipush (v := 8) hx hb dX10_countryLine_99 (by decide) ?_
    refine lv_goto (tgt := 116) hx hb dX10_countryLine_101 (by decide) ?_
    exact kbX10_countryLine_116 C hlk hr a0 l3 s0 a0 s0 (8 : Int32) h hW (lv_sub hl [1, 2, 0] rfl)
def bX10_countryLine_40 (a0 : Nat) (j1 : Int64) (l3 : Int32) (z : AH) : Option (Int32 × AH) :=
  if j1 = (499967946343 : Int64) then (
    bX10_countryLine_89 a0 l3 (0 : Int32) z
  ) else (
    if j1 = (1885434984 : Int64) then (
      bX10_countryLine_89 a0 l3 (1 : Int32) z
    ) else (
      if j1 = (1818584692 : Int64) then (
        bX10_countryLine_89 a0 l3 (2 : Int32) z
      ) else (
        if j1 = (491394656372 : Int64) then (
          bX10_countryLine_89 a0 l3 (3 : Int32) z
        ) else (
          bX10_countryLine_89 a0 l3 (4 : Int32) z
        )
      )
    )
  )
set_option maxHeartbeats 4000000 in
set_option maxRecDepth 100000 in
theorem kbX10_countryLine_40 {p : Program} {l : Launch} {e : Env} {s : State} {m : MethodId} {args : Array Value} {below : List Frame} {meth : Method} {c : Code} {G : GW} {r : Int32} {z' : AH} (C : Cx p m c cX10_countryLine 5 s args RX10 G) (hlk : meth.locks = false) (hr : meth.sig.returnType = (some .boolean)) (a0 : Nat) (j1 : Int64) (l3 : Int32) {z : AH} {H : Heap} {locs : List Loc} {ls : Array Slot} (h : bX10_countryLine_40 a0 j1 l3 z = some (r, z')) (hW : Wb G z s H locs) (hl : lv_has ls 5 [(0, .ref (gB G + a0)), (1, .long j1), (3, .int l3)]) : W p l e rmX10_countryLine s m args below meth c H locs 0 0 (MQ below (Qi G r z') args s 0 0 (AA G)) (F0 m 40 ls []) := by
  have hx := C.1
  have hb := C.2.1
  unfold bX10_countryLine_40 at h
  refine lv_lload_n hx hb dX10_countryLine_40 rfl (lv_at hl 1 rfl) ?_
  refine lv_ldc2 (v := 499967946343) hx hb C.2.2.2.1 (C.2.2.2.2.1 _ (tw 1415 (by decide +kernel) rfl)) dX10_countryLine_41 ?_
  refine wz_lcne (tgt := 52) hx hb dX10_countryLine_44 dX10_countryLine_45 (by decide) (fun c44 => ?_) (fun c44 => ?_)
  · have h := ite_f c44 h
    refine lv_lload_n hx hb dX10_countryLine_52 rfl (lv_at hl 1 rfl) ?_
    refine lv_ldc2 (v := 1885434984) hx hb C.2.2.2.1 (C.2.2.2.2.1 _ (tw 1416 (by decide +kernel) rfl)) dX10_countryLine_53 ?_
    refine wz_lcne (tgt := 64) hx hb dX10_countryLine_56 dX10_countryLine_57 (by decide) (fun c56 => ?_) (fun c56 => ?_)
    · have h := ite_f c56 h
      refine lv_lload_n hx hb dX10_countryLine_64 rfl (lv_at hl 1 rfl) ?_
      refine lv_ldc2 (v := 1818584692) hx hb C.2.2.2.1 (C.2.2.2.2.1 _ (tw 1417 (by decide +kernel) rfl)) dX10_countryLine_65 ?_
      refine wz_lcne (tgt := 76) hx hb dX10_countryLine_68 dX10_countryLine_69 (by decide) (fun c68 => ?_) (fun c68 => ?_)
      · have h := ite_f c68 h
        refine lv_lload_n hx hb dX10_countryLine_76 rfl (lv_at hl 1 rfl) ?_
        refine lv_ldc2 (v := 491394656372) hx hb C.2.2.2.1 (C.2.2.2.2.1 _ (tw 1418 (by decide +kernel) rfl)) dX10_countryLine_77 ?_
        refine wz_lcne (tgt := 88) hx hb dX10_countryLine_80 dX10_countryLine_81 (by decide) (fun c80 => ?_) (fun c80 => ?_)
        · have h := ite_f c80 h
          refine lv_iconst (v := 4) hx hb dX10_countryLine_88 (by decide) ?_
          exact kbX10_countryLine_89 C hlk hr a0 l3 (4 : Int32) h hW (lv_sub hl [0, 2] rfl)
        · have h := ite_t c80 h
          refine lv_iconst (v := 3) hx hb dX10_countryLine_84 (by decide) ?_
          refine lv_goto (tgt := 89) hx hb dX10_countryLine_85 (by decide) ?_
          exact kbX10_countryLine_89 C hlk hr a0 l3 (3 : Int32) h hW (lv_sub hl [0, 2] rfl)
      · have h := ite_t c68 h
        refine lv_iconst (v := 2) hx hb dX10_countryLine_72 (by decide) ?_
        refine lv_goto (tgt := 89) hx hb dX10_countryLine_73 (by decide) ?_
        exact kbX10_countryLine_89 C hlk hr a0 l3 (2 : Int32) h hW (lv_sub hl [0, 2] rfl)
    · have h := ite_t c56 h
      refine lv_iconst (v := 1) hx hb dX10_countryLine_60 (by decide) ?_
      refine lv_goto (tgt := 89) hx hb dX10_countryLine_61 (by decide) ?_
      exact kbX10_countryLine_89 C hlk hr a0 l3 (1 : Int32) h hW (lv_sub hl [0, 2] rfl)
  · have h := ite_t c44 h
    refine lv_iconst (v := 0) hx hb dX10_countryLine_48 (by decide) ?_
    refine lv_goto (tgt := 89) hx hb dX10_countryLine_49 (by decide) ?_
    exact kbX10_countryLine_89 C hlk hr a0 l3 (0 : Int32) h hW (lv_sub hl [0, 2] rfl)
def fX10_countryLine (a0 : Nat) (j1 : Int64) (l3 : Int32) (z : AH) : Option (Int32 × AH) :=
  if isO 9 z a0 = true then
    if j1 = (499967946343 : Int64) then (
      bX10_countryLine_40 a0 j1 l3 z
    ) else (
      if j1 = (1885434984 : Int64) then (
        bX10_countryLine_40 a0 j1 l3 z
      ) else (
        if j1 = (1818584692 : Int64) then (
          bX10_countryLine_40 a0 j1 l3 z
        ) else (
          if j1 = (491394656372 : Int64) then (
            bX10_countryLine_40 a0 j1 l3 z
          ) else (
            if j1 = (109330362821733 : Int64) then (
              bX10_countryLine_40 a0 j1 l3 z
            ) else (
              if j1 = (491328337011 : Int64) then (
                bX10_countryLine_379 a0 j1 z
              ) else (
                if j1 = (1751215716 : Int64) then (
                  bX10_countryLine_379 a0 j1 z
                ) else (
                  if j1 = (465625113971 : Int64) then (
                    bX10_countryLine_379 a0 j1 z
                  ) else (
                    if j1 = (465625113956 : Int64) then (
                      bX10_countryLine_379 a0 j1 z
                    ) else (
                      b2 (fX10_fails a0 z) fun x375 z375 =>
                      if x375 = 0 ∨ x375 = 1 then some (x375, z375) else none
                    )
                  )
                )
              )
            )
          )
        )
      )
    )
  else none
set_option maxHeartbeats 4000000 in
set_option maxRecDepth 100000 in
theorem ctX10_countryLine (l : Launch) (G : GW) (a0 : Nat) (j1 : Int64) (l3 : Int32) (z : AH) {r : Int32} {z' : AH} (h : fX10_countryLine a0 j1 l3 z = some (r, z')) : Met l yX10_countryLine (wy yX10_countryLine cX10_countryLine 5 (some .boolean)) rmX10_countryLine (Pz G [.ref (gB G + a0), .long j1, .int l3] z) (Qi G r z') 0 0 (AA G) := by
  refine wz_ent (own := RX10) (by decide +kernel) rfl (fun p e s m below meth c ls C hlk hr hin hW hl => ?_) (Nat.le_of_ble_eq_true rfl)
  have hl : lv_has ls 5 [(0, .ref (gB G + a0)), (1, .long j1), (3, .int l3)] := hl
  have hx := C.1
  have hb := C.2.1
  unfold fX10_countryLine at h
  obtain ⟨-, h⟩ := ck h
  refine lv_lload_n hx hb dX10_countryLine_0 rfl (lv_at hl 1 rfl) ?_
  refine lv_ldc2 (v := 499967946343) hx hb C.2.2.2.1 (C.2.2.2.2.1 _ (tw 1415 (by decide +kernel) rfl)) dX10_countryLine_1 ?_
  refine wz_lceq (tgt := 40) hx hb dX10_countryLine_4 dX10_countryLine_5 (by decide) (fun c4 => ?_) (fun c4 => ?_)
  · have h := ite_t c4 h
    exact kbX10_countryLine_40 C hlk hr a0 j1 l3 h hW (lv_sub hl [0, 1, 2] rfl)
  · have h := ite_f c4 h
    refine lv_lload_n hx hb dX10_countryLine_8 rfl (lv_at hl 1 rfl) ?_
    refine lv_ldc2 (v := 1885434984) hx hb C.2.2.2.1 (C.2.2.2.2.1 _ (tw 1416 (by decide +kernel) rfl)) dX10_countryLine_9 ?_
    refine wz_lceq (tgt := 40) hx hb dX10_countryLine_12 dX10_countryLine_13 (by decide) (fun c12 => ?_) (fun c12 => ?_)
    · have h := ite_t c12 h
      exact kbX10_countryLine_40 C hlk hr a0 j1 l3 h hW (lv_sub hl [0, 1, 2] rfl)
    · have h := ite_f c12 h
      refine lv_lload_n hx hb dX10_countryLine_16 rfl (lv_at hl 1 rfl) ?_
      refine lv_ldc2 (v := 1818584692) hx hb C.2.2.2.1 (C.2.2.2.2.1 _ (tw 1417 (by decide +kernel) rfl)) dX10_countryLine_17 ?_
      refine wz_lceq (tgt := 40) hx hb dX10_countryLine_20 dX10_countryLine_21 (by decide) (fun c20 => ?_) (fun c20 => ?_)
      · have h := ite_t c20 h
        exact kbX10_countryLine_40 C hlk hr a0 j1 l3 h hW (lv_sub hl [0, 1, 2] rfl)
      · have h := ite_f c20 h
        refine lv_lload_n hx hb dX10_countryLine_24 rfl (lv_at hl 1 rfl) ?_
        refine lv_ldc2 (v := 491394656372) hx hb C.2.2.2.1 (C.2.2.2.2.1 _ (tw 1418 (by decide +kernel) rfl)) dX10_countryLine_25 ?_
        refine wz_lceq (tgt := 40) hx hb dX10_countryLine_28 dX10_countryLine_29 (by decide) (fun c28 => ?_) (fun c28 => ?_)
        · have h := ite_t c28 h
          exact kbX10_countryLine_40 C hlk hr a0 j1 l3 h hW (lv_sub hl [0, 1, 2] rfl)
        · have h := ite_f c28 h
          refine lv_lload_n hx hb dX10_countryLine_32 rfl (lv_at hl 1 rfl) ?_
          refine lv_ldc2 (v := 109330362821733) hx hb C.2.2.2.1 (C.2.2.2.2.1 _ (tw 1419 (by decide +kernel) rfl)) dX10_countryLine_33 ?_
          refine wz_lcne (tgt := 342) hx hb dX10_countryLine_36 dX10_countryLine_37 (by decide) (fun c36 => ?_) (fun c36 => ?_)
          · have h := ite_f c36 h
            refine lv_lload_n hx hb dX10_countryLine_342 rfl (lv_at hl 1 rfl) ?_
            refine lv_ldc2 (v := 491328337011) hx hb C.2.2.2.1 (C.2.2.2.2.1 _ (tw 1459 (by decide +kernel) rfl)) dX10_countryLine_343 ?_
            refine wz_lceq (tgt := 379) hx hb dX10_countryLine_346 dX10_countryLine_347 (by decide) (fun c346 => ?_) (fun c346 => ?_)
            · have h := ite_t c346 h
              exact kbX10_countryLine_379 C hlk hr a0 j1 h hW (lv_sub hl [0, 1] rfl)
            · have h := ite_f c346 h
              refine lv_lload_n hx hb dX10_countryLine_350 rfl (lv_at hl 1 rfl) ?_
              refine lv_ldc2 (v := 1751215716) hx hb C.2.2.2.1 (C.2.2.2.2.1 _ (tw 1460 (by decide +kernel) rfl)) dX10_countryLine_351 ?_
              refine wz_lceq (tgt := 379) hx hb dX10_countryLine_354 dX10_countryLine_355 (by decide) (fun c354 => ?_) (fun c354 => ?_)
              · have h := ite_t c354 h
                exact kbX10_countryLine_379 C hlk hr a0 j1 h hW (lv_sub hl [0, 1] rfl)
              · have h := ite_f c354 h
                refine lv_lload_n hx hb dX10_countryLine_358 rfl (lv_at hl 1 rfl) ?_
                refine lv_ldc2 (v := 465625113971) hx hb C.2.2.2.1 (C.2.2.2.2.1 _ (tw 1461 (by decide +kernel) rfl)) dX10_countryLine_359 ?_
                refine wz_lceq (tgt := 379) hx hb dX10_countryLine_362 dX10_countryLine_363 (by decide) (fun c362 => ?_) (fun c362 => ?_)
                · have h := ite_t c362 h
                  exact kbX10_countryLine_379 C hlk hr a0 j1 h hW (lv_sub hl [0, 1] rfl)
                · have h := ite_f c362 h
                  refine lv_lload_n hx hb dX10_countryLine_366 rfl (lv_at hl 1 rfl) ?_
                  refine lv_ldc2 (v := 465625113956) hx hb C.2.2.2.1 (C.2.2.2.2.1 _ (tw 1462 (by decide +kernel) rfl)) dX10_countryLine_367 ?_
                  refine wz_lceq (tgt := 379) hx hb dX10_countryLine_370 dX10_countryLine_371 (by decide) (fun c370 => ?_) (fun c370 => ?_)
                  · have h := ite_t c370 h
                    exact kbX10_countryLine_379 C hlk hr a0 j1 h hW (lv_sub hl [0, 1] rfl)
                  · have h := ite_f c370 h
                    refine lv_aload_n hx hb dX10_countryLine_374 rfl (lv_at hl 0 rfl) ?_
                    obtain ⟨x375, z375, hq, h⟩ := ob2 h
                    refine wz_rI (c' := 0) (s' := 0) hW (wz_runV (rest := []) C hW lVX10_133 (ck hq).1 rfl (ctX10_fails l G a0 z hq) ⟨⟨rfl, rfl⟩, Nat.le_of_ble_eq_true rfl, Nat.le_of_ble_eq_true rfl⟩ rfl hl.1 rfl (Nat.le_of_ble_eq_true rfl) dX10_countryLine_375 ⟨Nat.le_of_ble_eq_true rfl, Nat.le_of_ble_eq_true rfl⟩) rfl rfl (fun H locs hW => ?_)
                    obtain ⟨h01, h⟩ := ck h
                    exact wz_zretE C hlk hr h01 (so2 h).1 (so2 h).2 hW dX10_countryLine_378
          · have h := ite_t c36 h
            exact kbX10_countryLine_40 C hlk hr a0 j1 l3 h hW (lv_sub hl [0, 1, 2] rfl)
theorem dX10_keepRow_0 : decode cX10_keepRow 0 = .ok (.aload_n 0, 1) := by decide +kernel
theorem dX10_keepRow_1 : decode cX10_keepRow 1 = .ok (.getfield 38, 3) := by decide +kernel
theorem dX10_keepRow_4 : decode cX10_keepRow 4 = .ok (.iconst 0, 1) := by decide +kernel
theorem dX10_keepRow_5 : decode cX10_keepRow 5 = .ok (.iaload, 1) := by decide +kernel
theorem dX10_keepRow_6 : decode cX10_keepRow 6 = .ok (.istore_n 3, 1) := by decide +kernel
theorem dX10_keepRow_7 : decode cX10_keepRow 7 = .ok (.iload_n 3, 1) := by decide +kernel
theorem dX10_keepRow_8 : decode cX10_keepRow 8 = .ok (.iload_n 2, 1) := by decide +kernel
theorem dX10_keepRow_9 : decode cX10_keepRow 9 = .ok (.if_icmp .ne 4, 3) := by decide +kernel
theorem dX10_keepRow_12 : decode cX10_keepRow 12 = .ok (.return_, 1) := by decide +kernel
theorem dX10_keepRow_13 : decode cX10_keepRow 13 = .ok (.iconst 0, 1) := by decide +kernel
theorem dX10_keepRow_14 : decode cX10_keepRow 14 = .ok (.istore 4, 2) := by decide +kernel
theorem dX10_keepRow_16 : decode cX10_keepRow 16 = .ok (.iload 4, 2) := by decide +kernel
theorem dX10_keepRow_18 : decode cX10_keepRow 18 = .ok (.iload_n 1, 1) := by decide +kernel
theorem dX10_keepRow_19 : decode cX10_keepRow 19 = .ok (.if_icmp .ge 29, 3) := by decide +kernel
theorem dX10_keepRow_22 : decode cX10_keepRow 22 = .ok (.aload_n 0, 1) := by decide +kernel
theorem dX10_keepRow_23 : decode cX10_keepRow 23 = .ok (.getfield 38, 3) := by decide +kernel
theorem dX10_keepRow_26 : decode cX10_keepRow 26 = .ok (.iconst 1, 1) := by decide +kernel
theorem dX10_keepRow_27 : decode cX10_keepRow 27 = .ok (.iload_n 1, 1) := by decide +kernel
theorem dX10_keepRow_28 : decode cX10_keepRow 28 = .ok (.iload_n 3, 1) := by decide +kernel
theorem dX10_keepRow_29 : decode cX10_keepRow 29 = .ok (.imul, 1) := by decide +kernel
theorem dX10_keepRow_30 : decode cX10_keepRow 30 = .ok (.iadd, 1) := by decide +kernel
theorem dX10_keepRow_31 : decode cX10_keepRow 31 = .ok (.iload 4, 2) := by decide +kernel
theorem dX10_keepRow_33 : decode cX10_keepRow 33 = .ok (.iadd, 1) := by decide +kernel
theorem dX10_keepRow_34 : decode cX10_keepRow 34 = .ok (.aload_n 0, 1) := by decide +kernel
theorem dX10_keepRow_35 : decode cX10_keepRow 35 = .ok (.getfield 41, 3) := by decide +kernel
theorem dX10_keepRow_38 : decode cX10_keepRow 38 = .ok (.iload 4, 2) := by decide +kernel
theorem dX10_keepRow_40 : decode cX10_keepRow 40 = .ok (.iaload, 1) := by decide +kernel
theorem dX10_keepRow_41 : decode cX10_keepRow 41 = .ok (.iastore, 1) := by decide +kernel
theorem dX10_keepRow_42 : decode cX10_keepRow 42 = .ok (.iinc 4 1, 3) := by decide +kernel
theorem dX10_keepRow_45 : decode cX10_keepRow 45 = .ok (.goto (-29), 3) := by decide +kernel
theorem dX10_keepRow_48 : decode cX10_keepRow 48 = .ok (.aload_n 0, 1) := by decide +kernel
theorem dX10_keepRow_49 : decode cX10_keepRow 49 = .ok (.getfield 38, 3) := by decide +kernel
theorem dX10_keepRow_52 : decode cX10_keepRow 52 = .ok (.iconst 0, 1) := by decide +kernel
theorem dX10_keepRow_53 : decode cX10_keepRow 53 = .ok (.dup2, 1) := by decide +kernel
theorem dX10_keepRow_54 : decode cX10_keepRow 54 = .ok (.iaload, 1) := by decide +kernel
theorem dX10_keepRow_55 : decode cX10_keepRow 55 = .ok (.iconst 1, 1) := by decide +kernel
theorem dX10_keepRow_56 : decode cX10_keepRow 56 = .ok (.iadd, 1) := by decide +kernel
theorem dX10_keepRow_57 : decode cX10_keepRow 57 = .ok (.iastore, 1) := by decide +kernel
theorem dX10_keepRow_58 : decode cX10_keepRow 58 = .ok (.return_, 1) := by decide +kernel
abbrev rmX10_keepRow : Room := { frames := 0, cells := 0, slots := 0, locals := 0 }
def bX10_keepRow_16 (k16 : Nat → Int32 → Int32 → Int32 → AH → Option AH) (a0 : Nat) (l1 : Int32) (l3 : Int32) (l4 : Int32) (z : AH) : Option AH :=
  if l1 ≤ l4 then (
    (gN 9 19 z a0).bind fun b49 =>
    (ixI 0 z b49 (0 : Int32)).bind fun x54 =>
    (stI 0 z b49 (0 : Int32) (x54 + (1 : Int32))).bind fun z57 =>
    some z57
  ) else (
    (gN 9 19 z a0).bind fun b23 =>
    (gN 9 20 z a0).bind fun b35 =>
    (ixI 0 z b35 l4).bind fun x40 =>
    (stI 0 z b23 (((1 : Int32) + (l1 * l3)) + l4) x40).bind fun z41 =>
    nm (l4 + (1 : Int32)) fun v42 =>
    k16 a0 l1 l3 v42 z41
  )
set_option maxHeartbeats 4000000 in
set_option maxRecDepth 100000 in
theorem kbX10_keepRow_16 {p : Program} {l : Launch} {e : Env} {s : State} {m : MethodId} {args : Array Value} {below : List Frame} {meth : Method} {c : Code} {G : GW} {z' : AH} (C : Cx p m c cX10_keepRow 5 s args RX10 G) (hlk : meth.locks = false) (hr : meth.sig.returnType = none) (k16 : Nat → Int32 → Int32 → Int32 → AH → Option AH) (hk16 : ∀ (a0 : Nat) (l1 : Int32) (l3 : Int32) (l4 : Int32) (z : AH) (H : Heap) (locs : List Loc) (ls : Array Slot), k16 a0 l1 l3 l4 z = some z' → Wb G z s H locs → lv_has ls 5 [(0, .ref (gB G + a0)), (1, .int l1), (3, .int l3), (4, .int l4)] → W p l e rmX10_keepRow s m args below meth c H locs 0 0 (MQ below (Qv G z') args s 0 0 (AA G)) (F0 m 16 ls [])) (a0 : Nat) (l1 : Int32) (l3 : Int32) (l4 : Int32) {z : AH} {H : Heap} {locs : List Loc} {ls : Array Slot} (h : bX10_keepRow_16 k16 a0 l1 l3 l4 z = some z') (hW : Wb G z s H locs) (hl : lv_has ls 5 [(0, .ref (gB G + a0)), (1, .int l1), (3, .int l3), (4, .int l4)]) : W p l e rmX10_keepRow s m args below meth c H locs 0 0 (MQ below (Qv G z') args s 0 0 (AA G)) (F0 m 16 ls []) := by
  have hx := C.1
  have hb := C.2.1
  unfold bX10_keepRow_16 at h
  refine lv_iload hx hb dX10_keepRow_16 (lv_at hl 3 rfl) ?_
  refine lv_iload_n hx hb dX10_keepRow_18 rfl (lv_at hl 1 rfl) ?_
  refine lv_icmp_ge (tgt := 48) hx hb dX10_keepRow_19 (by decide) (fun c19 => ?_) (fun c19 => ?_)
  · have h := ite_t c19 h
    refine lv_aload_n hx hb dX10_keepRow_48 rfl (lv_at hl 0 rfl) ?_
    obtain ⟨b49, hg, h⟩ := ob h
    refine wz_gN C hW flX10_38 hg dX10_keepRow_49 ?_
    refine lv_iconst (v := 0) hx hb dX10_keepRow_52 (by decide) ?_
    refine lv_dup2_11 hx hb dX10_keepRow_53 rfl rfl ?_
    obtain ⟨x54, hg, h⟩ := ob h
    refine wz_ald C hW hg dX10_keepRow_54 ?_
    refine lv_iconst (v := 1) hx hb dX10_keepRow_55 (by decide) ?_
    refine lv_iadd hx hb dX10_keepRow_56 ?_
    obtain ⟨z57, hg, h⟩ := ob h
    refine wz_ast C hW hg dX10_keepRow_57 (fun H locs hW => ?_)
    exact wz_vretE C hlk hr (Option.some.inj h) hW dX10_keepRow_58
  · have h := ite_f c19 h
    refine lv_aload_n hx hb dX10_keepRow_22 rfl (lv_at hl 0 rfl) ?_
    obtain ⟨b23, hg, h⟩ := ob h
    refine wz_gN C hW flX10_38 hg dX10_keepRow_23 ?_
    refine lv_iconst (v := 1) hx hb dX10_keepRow_26 (by decide) ?_
    refine lv_iload_n hx hb dX10_keepRow_27 rfl (lv_at hl 1 rfl) ?_
    refine lv_iload_n hx hb dX10_keepRow_28 rfl (lv_at hl 2 rfl) ?_
    refine lv_imul hx hb dX10_keepRow_29 ?_
    refine lv_iadd hx hb dX10_keepRow_30 ?_
    refine lv_iload hx hb dX10_keepRow_31 (lv_at hl 3 rfl) ?_
    refine lv_iadd hx hb dX10_keepRow_33 ?_
    refine lv_aload_n hx hb dX10_keepRow_34 rfl (lv_at hl 0 rfl) ?_
    obtain ⟨b35, hg, h⟩ := ob h
    refine wz_gN C hW flX10_41 hg dX10_keepRow_35 ?_
    refine lv_iload hx hb dX10_keepRow_38 (lv_at hl 3 rfl) ?_
    obtain ⟨x40, hg, h⟩ := ob h
    refine wz_ald C hW hg dX10_keepRow_40 ?_
    obtain ⟨z41, hg, h⟩ := ob h
    refine wz_ast C hW hg dX10_keepRow_41 (fun H locs hW => ?_)
    obtain ⟨v42, ev42⟩ : ∃ y : Int32, y = (l4 + (1 : Int32)) := ⟨_, rfl⟩
    have h := nm_to h ev42
    refine lv_iinc (v := v42) (lv' := [(4, .int v42), (0, .ref (gB G + a0)), (1, .int l1), (3, .int l3)]) hx hb dX10_keepRow_42 hl (k := 3) rfl (by rw [ev42]; rfl) (by decide) rfl (fun ls hl => ?_)
    refine lv_goto (tgt := 16) hx hb dX10_keepRow_45 (by decide) ?_
    exact hk16 a0 l1 l3 v42 z41 _ _ _ h hW (lv_sub hl [1, 2, 3, 0] rfl)
def fX10_keepRow_16 : Nat → Nat → Int32 → Int32 → Int32 → AH → Option AH
  | 0, _, _, _, _, _ => none
  | n + 1, a0, l1, l3, l4, z => bX10_keepRow_16 (fX10_keepRow_16 n) a0 l1 l3 l4 z
theorem klX10_keepRow_16 {p : Program} {l : Launch} {e : Env} {s : State} {m : MethodId} {args : Array Value} {below : List Frame} {meth : Method} {c : Code} {G : GW} {z' : AH} (C : Cx p m c cX10_keepRow 5 s args RX10 G) (hlk : meth.locks = false) (hr : meth.sig.returnType = none) : ∀ (n : Nat) (a0 : Nat) (l1 : Int32) (l3 : Int32) (l4 : Int32) (z : AH) (H : Heap) (locs : List Loc) (ls : Array Slot), fX10_keepRow_16 n a0 l1 l3 l4 z = some z' → Wb G z s H locs → lv_has ls 5 [(0, .ref (gB G + a0)), (1, .int l1), (3, .int l3), (4, .int l4)] → W p l e rmX10_keepRow s m args below meth c H locs 0 0 (MQ below (Qv G z') args s 0 0 (AA G)) (F0 m 16 ls []) := by
  intro n
  induction n with
  | zero => intro a0 l1 l3 l4 z H locs ls h; have h : (none : Option AH) = some z' := h; cases h
  | succ n ih => intro a0 l1 l3 l4 z H locs ls h hW hl; exact kbX10_keepRow_16 C hlk hr (fX10_keepRow_16 n) (fun a0 l1 l3 l4 z H locs ls h hW hl => ih a0 l1 l3 l4 z H locs ls h hW hl) a0 l1 l3 l4 h hW hl
def fX10_keepRow (a0 : Nat) (l1 : Int32) (l2 : Int32) (z : AH) : Option AH :=
  if isO 9 z a0 = true then
    (gN 9 19 z a0).bind fun b1 =>
    (ixI 0 z b1 (0 : Int32)).bind fun x5 =>
    if x5 = l2 then (
      some z
    ) else (
      fX10_keepRow_16 FU a0 l1 x5 (0 : Int32) z
    )
  else none
set_option maxHeartbeats 4000000 in
set_option maxRecDepth 100000 in
theorem ctX10_keepRow (l : Launch) (G : GW) (a0 : Nat) (l1 : Int32) (l2 : Int32) (z : AH) {z' : AH} (h : fX10_keepRow a0 l1 l2 z = some z') : Met l yX10_keepRow (wy yX10_keepRow cX10_keepRow 5 none) rmX10_keepRow (Pz G [.ref (gB G + a0), .int l1, .int l2] z) (Qv G z') 0 0 (AA G) := by
  refine wz_ent (own := RX10) (by decide +kernel) rfl (fun p e s m below meth c ls C hlk hr hin hW hl => ?_) (Nat.le_of_ble_eq_true rfl)
  have hl : lv_has ls 5 [(0, .ref (gB G + a0)), (1, .int l1), (2, .int l2)] := hl
  have hx := C.1
  have hb := C.2.1
  unfold fX10_keepRow at h
  obtain ⟨-, h⟩ := ck h
  refine lv_aload_n hx hb dX10_keepRow_0 rfl (lv_at hl 0 rfl) ?_
  obtain ⟨b1, hg, h⟩ := ob h
  refine wz_gN C hW flX10_38 hg dX10_keepRow_1 ?_
  refine lv_iconst (v := 0) hx hb dX10_keepRow_4 (by decide) ?_
  obtain ⟨x5, hg, h⟩ := ob h
  refine wz_ald C hW hg dX10_keepRow_5 ?_
  refine lv_istore_n (lv' := [(3, .int x5), (0, .ref (gB G + a0)), (1, .int l1), (2, .int l2)]) hx hb dX10_keepRow_6 rfl hl (by decide) rfl (fun ls hl => ?_)
  refine lv_iload_n hx hb dX10_keepRow_7 rfl (lv_at hl 0 rfl) ?_
  refine lv_iload_n hx hb dX10_keepRow_8 rfl (lv_at hl 3 rfl) ?_
  refine lv_icmp_ne (tgt := 13) hx hb dX10_keepRow_9 (by decide) (fun c9 => ?_) (fun c9 => ?_)
  · have h := ite_f c9 h
    refine lv_iconst (v := 0) hx hb dX10_keepRow_13 (by decide) ?_
    refine lv_istore (lv' := [(4, .int (0 : Int32)), (3, .int x5), (0, .ref (gB G + a0)), (1, .int l1), (2, .int l2)]) hx hb dX10_keepRow_14 hl (by decide) rfl (fun ls hl => ?_)
    exact klX10_keepRow_16 C hlk hr FU a0 l1 x5 (0 : Int32) z _ _ _ h hW (lv_sub hl [2, 3, 1, 0] rfl)
  · have h := ite_t c9 h
    exact wz_vretE C hlk hr (Option.some.inj h) hW dX10_keepRow_12
theorem dX10_yearLine_0 : decode cX10_yearLine 0 = .ok (.lload_n 1, 1) := by decide +kernel
theorem dX10_yearLine_1 : decode cX10_yearLine 1 = .ok (.ldc2_w 206, 3) := by decide +kernel
theorem dX10_yearLine_4 : decode cX10_yearLine 4 = .ok (.lcmp, 1) := by decide +kernel
theorem dX10_yearLine_5 : decode cX10_yearLine 5 = .ok (.ifCond .ne 7, 3) := by decide +kernel
theorem dX10_yearLine_8 : decode cX10_yearLine 8 = .ok (.iconst 0, 1) := by decide +kernel
theorem dX10_yearLine_9 : decode cX10_yearLine 9 = .ok (.goto 52, 3) := by decide +kernel
theorem dX10_yearLine_12 : decode cX10_yearLine 12 = .ok (.lload_n 1, 1) := by decide +kernel
theorem dX10_yearLine_13 : decode cX10_yearLine 13 = .ok (.ldc2_w 208, 3) := by decide +kernel
theorem dX10_yearLine_16 : decode cX10_yearLine 16 = .ok (.lcmp, 1) := by decide +kernel
theorem dX10_yearLine_17 : decode cX10_yearLine 17 = .ok (.ifCond .ne 7, 3) := by decide +kernel
theorem dX10_yearLine_20 : decode cX10_yearLine 20 = .ok (.iconst 1, 1) := by decide +kernel
theorem dX10_yearLine_21 : decode cX10_yearLine 21 = .ok (.goto 40, 3) := by decide +kernel
theorem dX10_yearLine_24 : decode cX10_yearLine 24 = .ok (.lload_n 1, 1) := by decide +kernel
theorem dX10_yearLine_25 : decode cX10_yearLine 25 = .ok (.ldc2_w 210, 3) := by decide +kernel
theorem dX10_yearLine_28 : decode cX10_yearLine 28 = .ok (.lcmp, 1) := by decide +kernel
theorem dX10_yearLine_29 : decode cX10_yearLine 29 = .ok (.ifCond .ne 7, 3) := by decide +kernel
theorem dX10_yearLine_32 : decode cX10_yearLine 32 = .ok (.iconst 2, 1) := by decide +kernel
theorem dX10_yearLine_33 : decode cX10_yearLine 33 = .ok (.goto 28, 3) := by decide +kernel
theorem dX10_yearLine_36 : decode cX10_yearLine 36 = .ok (.lload_n 1, 1) := by decide +kernel
theorem dX10_yearLine_37 : decode cX10_yearLine 37 = .ok (.ldc2_w 212, 3) := by decide +kernel
theorem dX10_yearLine_40 : decode cX10_yearLine 40 = .ok (.lcmp, 1) := by decide +kernel
theorem dX10_yearLine_41 : decode cX10_yearLine 41 = .ok (.ifCond .ne 7, 3) := by decide +kernel
theorem dX10_yearLine_44 : decode cX10_yearLine 44 = .ok (.iconst 3, 1) := by decide +kernel
theorem dX10_yearLine_45 : decode cX10_yearLine 45 = .ok (.goto 16, 3) := by decide +kernel
theorem dX10_yearLine_48 : decode cX10_yearLine 48 = .ok (.lload_n 1, 1) := by decide +kernel
theorem dX10_yearLine_49 : decode cX10_yearLine 49 = .ok (.ldc2_w 214, 3) := by decide +kernel
theorem dX10_yearLine_52 : decode cX10_yearLine 52 = .ok (.lcmp, 1) := by decide +kernel
theorem dX10_yearLine_53 : decode cX10_yearLine 53 = .ok (.ifCond .ne 7, 3) := by decide +kernel
theorem dX10_yearLine_56 : decode cX10_yearLine 56 = .ok (.iconst 4, 1) := by decide +kernel
theorem dX10_yearLine_57 : decode cX10_yearLine 57 = .ok (.goto 4, 3) := by decide +kernel
theorem dX10_yearLine_60 : decode cX10_yearLine 60 = .ok (.iconst (-1), 1) := by decide +kernel
theorem dX10_yearLine_61 : decode cX10_yearLine 61 = .ok (.istore 4, 2) := by decide +kernel
theorem dX10_yearLine_63 : decode cX10_yearLine 63 = .ok (.iload 4, 2) := by decide +kernel
theorem dX10_yearLine_65 : decode cX10_yearLine 65 = .ok (.iconst (-1), 1) := by decide +kernel
theorem dX10_yearLine_66 : decode cX10_yearLine 66 = .ok (.if_icmp .ne 8, 3) := by decide +kernel
theorem dX10_yearLine_69 : decode cX10_yearLine 69 = .ok (.aload_n 0, 1) := by decide +kernel
theorem dX10_yearLine_70 : decode cX10_yearLine 70 = .ok (.invokevirtual 133, 3) := by decide +kernel
theorem dX10_yearLine_73 : decode cX10_yearLine 73 = .ok (.ireturn, 1) := by decide +kernel
theorem dX10_yearLine_74 : decode cX10_yearLine 74 = .ok (.aload_n 0, 1) := by decide +kernel
theorem dX10_yearLine_75 : decode cX10_yearLine 75 = .ok (.iconst 0, 1) := by decide +kernel
theorem dX10_yearLine_76 : decode cX10_yearLine 76 = .ok (.bipush 40, 2) := by decide +kernel
theorem dX10_yearLine_78 : decode cX10_yearLine 78 = .ok (.iload_n 3, 1) := by decide +kernel
theorem dX10_yearLine_79 : decode cX10_yearLine 79 = .ok (.invokevirtual 178, 3) := by decide +kernel
theorem dX10_yearLine_82 : decode cX10_yearLine 82 = .ok (.aload_n 0, 1) := by decide +kernel
theorem dX10_yearLine_83 : decode cX10_yearLine 83 = .ok (.invokevirtual 145, 3) := by decide +kernel
theorem dX10_yearLine_86 : decode cX10_yearLine 86 = .ok (.aload_n 0, 1) := by decide +kernel
theorem dX10_yearLine_87 : decode cX10_yearLine 87 = .ok (.getfield 41, 3) := by decide +kernel
theorem dX10_yearLine_90 : decode cX10_yearLine 90 = .ok (.iconst 1, 1) := by decide +kernel
theorem dX10_yearLine_91 : decode cX10_yearLine 91 = .ok (.iconst (-1), 1) := by decide +kernel
theorem dX10_yearLine_92 : decode cX10_yearLine 92 = .ok (.iastore, 1) := by decide +kernel
theorem dX10_yearLine_93 : decode cX10_yearLine 93 = .ok (.aload_n 0, 1) := by decide +kernel
theorem dX10_yearLine_94 : decode cX10_yearLine 94 = .ok (.getfield 41, 3) := by decide +kernel
theorem dX10_yearLine_97 : decode cX10_yearLine 97 = .ok (.iconst 2, 1) := by decide +kernel
theorem dX10_yearLine_98 : decode cX10_yearLine 98 = .ok (.iconst (-1), 1) := by decide +kernel
theorem dX10_yearLine_99 : decode cX10_yearLine 99 = .ok (.iastore, 1) := by decide +kernel
theorem dX10_yearLine_100 : decode cX10_yearLine 100 = .ok (.iload 4, 2) := by decide +kernel
theorem dX10_yearLine_102 : decode cX10_yearLine 102 = .ok (.iconst 4, 1) := by decide +kernel
theorem dX10_yearLine_103 : decode cX10_yearLine 103 = .ok (.if_icmp .eq 45, 3) := by decide +kernel
theorem dX10_yearLine_106 : decode cX10_yearLine 106 = .ok (.iload 4, 2) := by decide +kernel
theorem dX10_yearLine_108 : decode cX10_yearLine 108 = .ok (.iconst 3, 1) := by decide +kernel
theorem dX10_yearLine_109 : decode cX10_yearLine 109 = .ok (.if_icmp .ne 15, 3) := by decide +kernel
theorem dX10_yearLine_112 : decode cX10_yearLine 112 = .ok (.aload_n 0, 1) := by decide +kernel
theorem dX10_yearLine_113 : decode cX10_yearLine 113 = .ok (.iconst 1, 1) := by decide +kernel
theorem dX10_yearLine_114 : decode cX10_yearLine 114 = .ok (.iconst (-1), 1) := by decide +kernel
theorem dX10_yearLine_115 : decode cX10_yearLine 115 = .ok (.invokevirtual 185, 3) := by decide +kernel
theorem dX10_yearLine_118 : decode cX10_yearLine 118 = .ok (.ifCond .eq 34, 3) := by decide +kernel
theorem dX10_yearLine_121 : decode cX10_yearLine 121 = .ok (.goto 27, 3) := by decide +kernel
theorem dX10_yearLine_124 : decode cX10_yearLine 124 = .ok (.aload_n 0, 1) := by decide +kernel
theorem dX10_yearLine_125 : decode cX10_yearLine 125 = .ok (.iconst 1, 1) := by decide +kernel
theorem dX10_yearLine_126 : decode cX10_yearLine 126 = .ok (.iconst 0, 1) := by decide +kernel
theorem dX10_yearLine_127 : decode cX10_yearLine 127 = .ok (.iconst 3, 1) := by decide +kernel
theorem dX10_yearLine_128 : decode cX10_yearLine 128 = .ok (.invokevirtual 159, 3) := by decide +kernel
theorem dX10_yearLine_131 : decode cX10_yearLine 131 = .ok (.ifCond .eq 21, 3) := by decide +kernel
theorem dX10_yearLine_134 : decode cX10_yearLine 134 = .ok (.iload 4, 2) := by decide +kernel
theorem dX10_yearLine_136 : decode cX10_yearLine 136 = .ok (.ifCond .ne 12, 3) := by decide +kernel
theorem dX10_yearLine_139 : decode cX10_yearLine 139 = .ok (.aload_n 0, 1) := by decide +kernel
theorem dX10_yearLine_140 : decode cX10_yearLine 140 = .ok (.iconst 2, 1) := by decide +kernel
theorem dX10_yearLine_141 : decode cX10_yearLine 141 = .ok (.iconst (-1), 1) := by decide +kernel
theorem dX10_yearLine_142 : decode cX10_yearLine 142 = .ok (.invokevirtual 185, 3) := by decide +kernel
theorem dX10_yearLine_145 : decode cX10_yearLine 145 = .ok (.ifCond .eq 7, 3) := by decide +kernel
theorem dX10_yearLine_148 : decode cX10_yearLine 148 = .ok (.iconst 1, 1) := by decide +kernel
theorem dX10_yearLine_149 : decode cX10_yearLine 149 = .ok (.goto 4, 3) := by decide +kernel
theorem dX10_yearLine_152 : decode cX10_yearLine 152 = .ok (.iconst 0, 1) := by decide +kernel
theorem dX10_yearLine_153 : decode cX10_yearLine 153 = .ok (.istore 5, 2) := by decide +kernel
theorem dX10_yearLine_155 : decode cX10_yearLine 155 = .ok (.iload 5, 2) := by decide +kernel
theorem dX10_yearLine_157 : decode cX10_yearLine 157 = .ok (.ifCond .eq 18, 3) := by decide +kernel
theorem dX10_yearLine_160 : decode cX10_yearLine 160 = .ok (.aload_n 0, 1) := by decide +kernel
theorem dX10_yearLine_161 : decode cX10_yearLine 161 = .ok (.getfield 41, 3) := by decide +kernel
theorem dX10_yearLine_164 : decode cX10_yearLine 164 = .ok (.iconst 0, 1) := by decide +kernel
theorem dX10_yearLine_165 : decode cX10_yearLine 165 = .ok (.iload 4, 2) := by decide +kernel
theorem dX10_yearLine_167 : decode cX10_yearLine 167 = .ok (.iastore, 1) := by decide +kernel
theorem dX10_yearLine_168 : decode cX10_yearLine 168 = .ok (.aload_n 0, 1) := by decide +kernel
theorem dX10_yearLine_169 : decode cX10_yearLine 169 = .ok (.iconst 3, 1) := by decide +kernel
theorem dX10_yearLine_170 : decode cX10_yearLine 170 = .ok (.bipush 40, 2) := by decide +kernel
theorem dX10_yearLine_172 : decode cX10_yearLine 172 = .ok (.invokevirtual 216, 3) := by decide +kernel
theorem dX10_yearLine_175 : decode cX10_yearLine 175 = .ok (.iload 5, 2) := by decide +kernel
theorem dX10_yearLine_177 : decode cX10_yearLine 177 = .ok (.ireturn, 1) := by decide +kernel
theorem cdX10_keepRow : Cond.code yX10_keepRow cX10_keepRow 5 none ∈ tz := tc6 160 rfl rfl
theorem lVX10_216 : LV RX10 216 yX10_keepRow cX10_keepRow 5 none 2 := ⟨tw 1476 (by decide +kernel) rfl, tw 1478 (by decide +kernel) rfl, tw 54 (by decide +kernel) rfl, tw 128 (by decide +kernel) rfl, cdX10_keepRow, ⟨by decide +kernel, by decide +kernel, by decide +kernel⟩⟩
abbrev rmX10_yearLine : Room := { frames := 4, cells := 0, slots := 0, locals := 91 }
def bX10_yearLine_153 (a0 : Nat) (l4 : Int32) (s0 : Int32) (z : AH) : Option (Int32 × AH) :=
  if s0 = (0 : Int32) then (
    if s0 = 0 ∨ s0 = 1 then some (s0, z) else none
  ) else (
    (gN 9 20 z a0).bind fun b161 =>
    (stI 0 z b161 (0 : Int32) l4).bind fun z167 =>
    (fX10_keepRow a0 (3 : Int32) (40 : Int32) z167).bind fun z172 =>
    if s0 = 0 ∨ s0 = 1 then some (s0, z172) else none
  )
set_option maxHeartbeats 4000000 in
set_option maxRecDepth 100000 in
theorem kbX10_yearLine_153 {p : Program} {l : Launch} {e : Env} {s : State} {m : MethodId} {args : Array Value} {below : List Frame} {meth : Method} {c : Code} {G : GW} {r : Int32} {z' : AH} (C : Cx p m c cX10_yearLine 6 s args RX10 G) (hlk : meth.locks = false) (hr : meth.sig.returnType = (some .boolean)) (a0 : Nat) (l4 : Int32) (s0 : Int32) {z : AH} {H : Heap} {locs : List Loc} {ls : Array Slot} (h : bX10_yearLine_153 a0 l4 s0 z = some (r, z')) (hW : Wb G z s H locs) (hl : lv_has ls 6 [(0, .ref (gB G + a0)), (4, .int l4)]) : W p l e rmX10_yearLine s m args below meth c H locs 0 0 (MQ below (Qi G r z') args s 0 0 (AA G)) (F0 m 153 ls [.int s0]) := by
  have hx := C.1
  have hb := C.2.1
  unfold bX10_yearLine_153 at h
  refine lv_istore (lv' := [(5, .int s0), (0, .ref (gB G + a0)), (4, .int l4)]) hx hb dX10_yearLine_153 hl (by decide) rfl (fun ls hl => ?_)
  refine lv_iload hx hb dX10_yearLine_155 (lv_at hl 0 rfl) ?_
  refine lv_if_eq (tgt := 175) hx hb dX10_yearLine_157 (by decide) (fun c157 => ?_) (fun c157 => ?_)
  · have h := ite_t c157 h
    refine lv_iload hx hb dX10_yearLine_175 (lv_at hl 0 rfl) ?_
    obtain ⟨h01, h⟩ := ck h
    exact wz_zretE C hlk hr h01 (so2 h).1 (so2 h).2 hW dX10_yearLine_177
  · have h := ite_f c157 h
    refine lv_aload_n hx hb dX10_yearLine_160 rfl (lv_at hl 1 rfl) ?_
    obtain ⟨b161, hg, h⟩ := ob h
    refine wz_gN C hW flX10_41 hg dX10_yearLine_161 ?_
    refine lv_iconst (v := 0) hx hb dX10_yearLine_164 (by decide) ?_
    refine lv_iload hx hb dX10_yearLine_165 (lv_at hl 2 rfl) ?_
    obtain ⟨z167, hg, h⟩ := ob h
    refine wz_ast C hW hg dX10_yearLine_167 (fun H locs hW => ?_)
    refine lv_aload_n hx hb dX10_yearLine_168 rfl (lv_at hl 1 rfl) ?_
    refine lv_iconst (v := 3) hx hb dX10_yearLine_169 (by decide) ?_
    refine lv_bipush (v := 40) hx hb dX10_yearLine_170 (by decide) ?_
    obtain ⟨z172, hq, h⟩ := ob h
    refine wz_rV (c' := 0) (s' := 0) hW (wz_runV (rest := []) C hW lVX10_216 (ck hq).1 rfl (ctX10_keepRow l G a0 (3 : Int32) (40 : Int32) z167 hq) ⟨⟨rfl, rfl⟩, Nat.le_of_ble_eq_true rfl, Nat.le_of_ble_eq_true rfl⟩ rfl hl.1 rfl (Nat.le_of_ble_eq_true rfl) dX10_yearLine_172 ⟨Nat.le_of_ble_eq_true rfl, Nat.le_of_ble_eq_true rfl⟩) rfl rfl (fun H locs hW => ?_)
    refine lv_iload hx hb dX10_yearLine_175 (lv_at hl 0 rfl) ?_
    obtain ⟨h01, h⟩ := ck h
    exact wz_zretE C hlk hr h01 (so2 h).1 (so2 h).2 hW dX10_yearLine_177
def bX10_yearLine_152 (a0 : Nat) (l4 : Int32) (z : AH) : Option (Int32 × AH) :=
  bX10_yearLine_153 a0 l4 (0 : Int32) z
set_option maxHeartbeats 4000000 in
set_option maxRecDepth 100000 in
theorem kbX10_yearLine_152 {p : Program} {l : Launch} {e : Env} {s : State} {m : MethodId} {args : Array Value} {below : List Frame} {meth : Method} {c : Code} {G : GW} {r : Int32} {z' : AH} (C : Cx p m c cX10_yearLine 6 s args RX10 G) (hlk : meth.locks = false) (hr : meth.sig.returnType = (some .boolean)) (a0 : Nat) (l4 : Int32) {z : AH} {H : Heap} {locs : List Loc} {ls : Array Slot} (h : bX10_yearLine_152 a0 l4 z = some (r, z')) (hW : Wb G z s H locs) (hl : lv_has ls 6 [(0, .ref (gB G + a0)), (4, .int l4)]) : W p l e rmX10_yearLine s m args below meth c H locs 0 0 (MQ below (Qi G r z') args s 0 0 (AA G)) (F0 m 152 ls []) := by
  have hx := C.1
  have hb := C.2.1
  unfold bX10_yearLine_152 at h
  refine lv_iconst (v := 0) hx hb dX10_yearLine_152 (by decide) ?_
  exact kbX10_yearLine_153 C hlk hr a0 l4 (0 : Int32) h hW (lv_sub hl [0, 1] rfl)
def bX10_yearLine_148 (a0 : Nat) (l4 : Int32) (z : AH) : Option (Int32 × AH) :=
  bX10_yearLine_153 a0 l4 (1 : Int32) z
set_option maxHeartbeats 4000000 in
set_option maxRecDepth 100000 in
theorem kbX10_yearLine_148 {p : Program} {l : Launch} {e : Env} {s : State} {m : MethodId} {args : Array Value} {below : List Frame} {meth : Method} {c : Code} {G : GW} {r : Int32} {z' : AH} (C : Cx p m c cX10_yearLine 6 s args RX10 G) (hlk : meth.locks = false) (hr : meth.sig.returnType = (some .boolean)) (a0 : Nat) (l4 : Int32) {z : AH} {H : Heap} {locs : List Loc} {ls : Array Slot} (h : bX10_yearLine_148 a0 l4 z = some (r, z')) (hW : Wb G z s H locs) (hl : lv_has ls 6 [(0, .ref (gB G + a0)), (4, .int l4)]) : W p l e rmX10_yearLine s m args below meth c H locs 0 0 (MQ below (Qi G r z') args s 0 0 (AA G)) (F0 m 148 ls []) := by
  have hx := C.1
  have hb := C.2.1
  unfold bX10_yearLine_148 at h
  refine lv_iconst (v := 1) hx hb dX10_yearLine_148 (by decide) ?_
  refine lv_goto (tgt := 153) hx hb dX10_yearLine_149 (by decide) ?_
  exact kbX10_yearLine_153 C hlk hr a0 l4 (1 : Int32) h hW (lv_sub hl [0, 1] rfl)
def bX10_yearLine_61 (a0 : Nat) (l3 : Int32) (s0 : Int32) (z : AH) : Option (Int32 × AH) :=
  if s0 = (-1 : Int32) then (
    b2 (fX10_fails a0 z) fun x70 z70 =>
    if x70 = 0 ∨ x70 = 1 then some (x70, z70) else none
  ) else (
    (fX10_full a0 (0 : Int32) (40 : Int32) l3 z).bind fun z79 =>
    (fX10_token a0 z79).bind fun z83 =>
    (gN 9 20 z83 a0).bind fun b87 =>
    (stI 0 z83 b87 (1 : Int32) (-1 : Int32)).bind fun z92 =>
    (gN 9 20 z92 a0).bind fun b94 =>
    (stI 0 z92 b94 (2 : Int32) (-1 : Int32)).bind fun z99 =>
    if s0 = (4 : Int32) then (
      bX10_yearLine_148 a0 s0 z99
    ) else (
      if s0 = (3 : Int32) then (
        b2 (fX10_takeThing a0 (1 : Int32) (-1 : Int32) z99) fun x115 z115 =>
        if x115 = (0 : Int32) then (
          bX10_yearLine_152 a0 s0 z115
        ) else (
          bX10_yearLine_148 a0 s0 z115
        )
      ) else (
        b2 (fX10_take a0 (1 : Int32) (0 : Int32) (3 : Int32) z99) fun x128 z128 =>
        if x128 = (0 : Int32) then (
          bX10_yearLine_152 a0 s0 z128
        ) else (
          if s0 = (0 : Int32) then (
            b2 (fX10_takeThing a0 (2 : Int32) (-1 : Int32) z128) fun x142 z142 =>
            if x142 = (0 : Int32) then (
              bX10_yearLine_152 a0 s0 z142
            ) else (
              bX10_yearLine_148 a0 s0 z142
            )
          ) else (
            bX10_yearLine_148 a0 s0 z128
          )
        )
      )
    )
  )
set_option maxHeartbeats 4000000 in
set_option maxRecDepth 100000 in
theorem kbX10_yearLine_61 {p : Program} {l : Launch} {e : Env} {s : State} {m : MethodId} {args : Array Value} {below : List Frame} {meth : Method} {c : Code} {G : GW} {r : Int32} {z' : AH} (C : Cx p m c cX10_yearLine 6 s args RX10 G) (hlk : meth.locks = false) (hr : meth.sig.returnType = (some .boolean)) (a0 : Nat) (l3 : Int32) (s0 : Int32) {z : AH} {H : Heap} {locs : List Loc} {ls : Array Slot} (h : bX10_yearLine_61 a0 l3 s0 z = some (r, z')) (hW : Wb G z s H locs) (hl : lv_has ls 6 [(0, .ref (gB G + a0)), (3, .int l3)]) : W p l e rmX10_yearLine s m args below meth c H locs 0 0 (MQ below (Qi G r z') args s 0 0 (AA G)) (F0 m 61 ls [.int s0]) := by
  have hx := C.1
  have hb := C.2.1
  unfold bX10_yearLine_61 at h
  refine lv_istore (lv' := [(4, .int s0), (0, .ref (gB G + a0)), (3, .int l3)]) hx hb dX10_yearLine_61 hl (by decide) rfl (fun ls hl => ?_)
  refine lv_iload hx hb dX10_yearLine_63 (lv_at hl 0 rfl) ?_
  refine lv_iconst (v := -1) hx hb dX10_yearLine_65 (by decide) ?_
  refine lv_icmp_ne (tgt := 74) hx hb dX10_yearLine_66 (by decide) (fun c66 => ?_) (fun c66 => ?_)
  · have h := ite_f c66 h
    refine lv_aload_n hx hb dX10_yearLine_74 rfl (lv_at hl 1 rfl) ?_
    refine lv_iconst (v := 0) hx hb dX10_yearLine_75 (by decide) ?_
    refine lv_bipush (v := 40) hx hb dX10_yearLine_76 (by decide) ?_
    refine lv_iload_n hx hb dX10_yearLine_78 rfl (lv_at hl 2 rfl) ?_
    obtain ⟨z79, hq, h⟩ := ob h
    refine wz_rV (c' := 0) (s' := 0) hW (wz_runV (rest := []) C hW lVX10_178 (ck hq).1 rfl (ctX10_full l G a0 (0 : Int32) (40 : Int32) l3 z hq) ⟨⟨rfl, rfl⟩, Nat.le_of_ble_eq_true rfl, Nat.le_of_ble_eq_true rfl⟩ rfl hl.1 rfl (Nat.le_of_ble_eq_true rfl) dX10_yearLine_79 ⟨Nat.le_of_ble_eq_true rfl, Nat.le_of_ble_eq_true rfl⟩) rfl rfl (fun H locs hW => ?_)
    refine lv_aload_n hx hb dX10_yearLine_82 rfl (lv_at hl 1 rfl) ?_
    obtain ⟨z83, hq, h⟩ := ob h
    refine wz_rV (c' := 0) (s' := 0) hW (wz_runV (rest := []) C hW lVX10_145 (ck hq).1 rfl (ctX10_token l G a0 z79 hq) ⟨⟨rfl, rfl⟩, Nat.le_of_ble_eq_true rfl, Nat.le_of_ble_eq_true rfl⟩ rfl hl.1 rfl (Nat.le_of_ble_eq_true rfl) dX10_yearLine_83 ⟨Nat.le_of_ble_eq_true rfl, Nat.le_of_ble_eq_true rfl⟩) rfl rfl (fun H locs hW => ?_)
    refine lv_aload_n hx hb dX10_yearLine_86 rfl (lv_at hl 1 rfl) ?_
    obtain ⟨b87, hg, h⟩ := ob h
    refine wz_gN C hW flX10_41 hg dX10_yearLine_87 ?_
    refine lv_iconst (v := 1) hx hb dX10_yearLine_90 (by decide) ?_
    refine lv_iconst (v := -1) hx hb dX10_yearLine_91 (by decide) ?_
    obtain ⟨z92, hg, h⟩ := ob h
    refine wz_ast C hW hg dX10_yearLine_92 (fun H locs hW => ?_)
    refine lv_aload_n hx hb dX10_yearLine_93 rfl (lv_at hl 1 rfl) ?_
    obtain ⟨b94, hg, h⟩ := ob h
    refine wz_gN C hW flX10_41 hg dX10_yearLine_94 ?_
    refine lv_iconst (v := 2) hx hb dX10_yearLine_97 (by decide) ?_
    refine lv_iconst (v := -1) hx hb dX10_yearLine_98 (by decide) ?_
    obtain ⟨z99, hg, h⟩ := ob h
    refine wz_ast C hW hg dX10_yearLine_99 (fun H locs hW => ?_)
    refine lv_iload hx hb dX10_yearLine_100 (lv_at hl 0 rfl) ?_
    refine lv_iconst (v := 4) hx hb dX10_yearLine_102 (by decide) ?_
    refine lv_icmp_eq (tgt := 148) hx hb dX10_yearLine_103 (by decide) (fun c103 => ?_) (fun c103 => ?_)
    · have h := ite_t c103 h
      exact kbX10_yearLine_148 C hlk hr a0 s0 h hW (lv_sub hl [1, 0] rfl)
    · have h := ite_f c103 h
      refine lv_iload hx hb dX10_yearLine_106 (lv_at hl 0 rfl) ?_
      refine lv_iconst (v := 3) hx hb dX10_yearLine_108 (by decide) ?_
      refine lv_icmp_ne (tgt := 124) hx hb dX10_yearLine_109 (by decide) (fun c109 => ?_) (fun c109 => ?_)
      · have h := ite_f c109 h
        refine lv_aload_n hx hb dX10_yearLine_124 rfl (lv_at hl 1 rfl) ?_
        refine lv_iconst (v := 1) hx hb dX10_yearLine_125 (by decide) ?_
        refine lv_iconst (v := 0) hx hb dX10_yearLine_126 (by decide) ?_
        refine lv_iconst (v := 3) hx hb dX10_yearLine_127 (by decide) ?_
        obtain ⟨x128, z128, hq, h⟩ := ob2 h
        refine wz_rI (c' := 0) (s' := 0) hW (wz_runV (rest := []) C hW lVX10_159 (ck hq).1 rfl (ctX10_take l G a0 (1 : Int32) (0 : Int32) (3 : Int32) z99 hq) ⟨⟨rfl, rfl⟩, Nat.le_of_ble_eq_true rfl, Nat.le_of_ble_eq_true rfl⟩ rfl hl.1 rfl (Nat.le_of_ble_eq_true rfl) dX10_yearLine_128 ⟨Nat.le_of_ble_eq_true rfl, Nat.le_of_ble_eq_true rfl⟩) rfl rfl (fun H locs hW => ?_)
        refine lv_if_eq (tgt := 152) hx hb dX10_yearLine_131 (by decide) (fun c131 => ?_) (fun c131 => ?_)
        · have h := ite_t c131 h
          exact kbX10_yearLine_152 C hlk hr a0 s0 h hW (lv_sub hl [1, 0] rfl)
        · have h := ite_f c131 h
          refine lv_iload hx hb dX10_yearLine_134 (lv_at hl 0 rfl) ?_
          refine lv_if_ne (tgt := 148) hx hb dX10_yearLine_136 (by decide) (fun c136 => ?_) (fun c136 => ?_)
          · have h := ite_f c136 h
            exact kbX10_yearLine_148 C hlk hr a0 s0 h hW (lv_sub hl [1, 0] rfl)
          · have h := ite_t c136 h
            refine lv_aload_n hx hb dX10_yearLine_139 rfl (lv_at hl 1 rfl) ?_
            refine lv_iconst (v := 2) hx hb dX10_yearLine_140 (by decide) ?_
            refine lv_iconst (v := -1) hx hb dX10_yearLine_141 (by decide) ?_
            obtain ⟨x142, z142, hq, h⟩ := ob2 h
            refine wz_rI (c' := 0) (s' := 0) hW (wz_runV (rest := []) C hW lVX10_185 (ck hq).1 rfl (ctX10_takeThing l G a0 (2 : Int32) (-1 : Int32) z128 hq) ⟨⟨rfl, rfl⟩, Nat.le_of_ble_eq_true rfl, Nat.le_of_ble_eq_true rfl⟩ rfl hl.1 rfl (Nat.le_of_ble_eq_true rfl) dX10_yearLine_142 ⟨Nat.le_of_ble_eq_true rfl, Nat.le_of_ble_eq_true rfl⟩) rfl rfl (fun H locs hW => ?_)
            refine lv_if_eq (tgt := 152) hx hb dX10_yearLine_145 (by decide) (fun c145 => ?_) (fun c145 => ?_)
            · have h := ite_t c145 h
              exact kbX10_yearLine_152 C hlk hr a0 s0 h hW (lv_sub hl [1, 0] rfl)
            · have h := ite_f c145 h
              exact kbX10_yearLine_148 C hlk hr a0 s0 h hW (lv_sub hl [1, 0] rfl)
      · have h := ite_t c109 h
        refine lv_aload_n hx hb dX10_yearLine_112 rfl (lv_at hl 1 rfl) ?_
        refine lv_iconst (v := 1) hx hb dX10_yearLine_113 (by decide) ?_
        refine lv_iconst (v := -1) hx hb dX10_yearLine_114 (by decide) ?_
        obtain ⟨x115, z115, hq, h⟩ := ob2 h
        refine wz_rI (c' := 0) (s' := 0) hW (wz_runV (rest := []) C hW lVX10_185 (ck hq).1 rfl (ctX10_takeThing l G a0 (1 : Int32) (-1 : Int32) z99 hq) ⟨⟨rfl, rfl⟩, Nat.le_of_ble_eq_true rfl, Nat.le_of_ble_eq_true rfl⟩ rfl hl.1 rfl (Nat.le_of_ble_eq_true rfl) dX10_yearLine_115 ⟨Nat.le_of_ble_eq_true rfl, Nat.le_of_ble_eq_true rfl⟩) rfl rfl (fun H locs hW => ?_)
        refine lv_if_eq (tgt := 152) hx hb dX10_yearLine_118 (by decide) (fun c118 => ?_) (fun c118 => ?_)
        · have h := ite_t c118 h
          exact kbX10_yearLine_152 C hlk hr a0 s0 h hW (lv_sub hl [1, 0] rfl)
        · have h := ite_f c118 h
          refine lv_goto (tgt := 148) hx hb dX10_yearLine_121 (by decide) ?_
          exact kbX10_yearLine_148 C hlk hr a0 s0 h hW (lv_sub hl [1, 0] rfl)
  · have h := ite_t c66 h
    refine lv_aload_n hx hb dX10_yearLine_69 rfl (lv_at hl 1 rfl) ?_
    obtain ⟨x70, z70, hq, h⟩ := ob2 h
    refine wz_rI (c' := 0) (s' := 0) hW (wz_runV (rest := []) C hW lVX10_133 (ck hq).1 rfl (ctX10_fails l G a0 z hq) ⟨⟨rfl, rfl⟩, Nat.le_of_ble_eq_true rfl, Nat.le_of_ble_eq_true rfl⟩ rfl hl.1 rfl (Nat.le_of_ble_eq_true rfl) dX10_yearLine_70 ⟨Nat.le_of_ble_eq_true rfl, Nat.le_of_ble_eq_true rfl⟩) rfl rfl (fun H locs hW => ?_)
    obtain ⟨h01, h⟩ := ck h
    exact wz_zretE C hlk hr h01 (so2 h).1 (so2 h).2 hW dX10_yearLine_73
def fX10_yearLine (a0 : Nat) (j1 : Int64) (l3 : Int32) (z : AH) : Option (Int32 × AH) :=
  if isO 9 z a0 = true then
    if j1 = (1819242347 : Int64) then (
      bX10_yearLine_61 a0 l3 (0 : Int32) z
    ) else (
      if j1 = (512970876019 : Int64) then (
        bX10_yearLine_61 a0 l3 (1 : Int32) z
      ) else (
        if j1 = (482737218405 : Int64) then (
          bX10_yearLine_61 a0 l3 (2 : Int32) z
        ) else (
          if j1 = (120299659095922 : Int64) then (
            bX10_yearLine_61 a0 l3 (3 : Int32) z
          ) else (
            if j1 = (1752135026 : Int64) then (
              bX10_yearLine_61 a0 l3 (4 : Int32) z
            ) else (
              bX10_yearLine_61 a0 l3 (-1 : Int32) z
            )
          )
        )
      )
    )
  else none
set_option maxHeartbeats 4000000 in
set_option maxRecDepth 100000 in
theorem ctX10_yearLine (l : Launch) (G : GW) (a0 : Nat) (j1 : Int64) (l3 : Int32) (z : AH) {r : Int32} {z' : AH} (h : fX10_yearLine a0 j1 l3 z = some (r, z')) : Met l yX10_yearLine (wy yX10_yearLine cX10_yearLine 6 (some .boolean)) rmX10_yearLine (Pz G [.ref (gB G + a0), .long j1, .int l3] z) (Qi G r z') 0 0 (AA G) := by
  refine wz_ent (own := RX10) (by decide +kernel) rfl (fun p e s m below meth c ls C hlk hr hin hW hl => ?_) (Nat.le_of_ble_eq_true rfl)
  have hl : lv_has ls 6 [(0, .ref (gB G + a0)), (1, .long j1), (3, .int l3)] := hl
  have hx := C.1
  have hb := C.2.1
  unfold fX10_yearLine at h
  obtain ⟨-, h⟩ := ck h
  refine lv_lload_n hx hb dX10_yearLine_0 rfl (lv_at hl 1 rfl) ?_
  refine lv_ldc2 (v := 1819242347) hx hb C.2.2.2.1 (C.2.2.2.2.1 _ (tw 1471 (by decide +kernel) rfl)) dX10_yearLine_1 ?_
  refine wz_lcne (tgt := 12) hx hb dX10_yearLine_4 dX10_yearLine_5 (by decide) (fun c4 => ?_) (fun c4 => ?_)
  · have h := ite_f c4 h
    refine lv_lload_n hx hb dX10_yearLine_12 rfl (lv_at hl 1 rfl) ?_
    refine lv_ldc2 (v := 512970876019) hx hb C.2.2.2.1 (C.2.2.2.2.1 _ (tw 1472 (by decide +kernel) rfl)) dX10_yearLine_13 ?_
    refine wz_lcne (tgt := 24) hx hb dX10_yearLine_16 dX10_yearLine_17 (by decide) (fun c16 => ?_) (fun c16 => ?_)
    · have h := ite_f c16 h
      refine lv_lload_n hx hb dX10_yearLine_24 rfl (lv_at hl 1 rfl) ?_
      refine lv_ldc2 (v := 482737218405) hx hb C.2.2.2.1 (C.2.2.2.2.1 _ (tw 1473 (by decide +kernel) rfl)) dX10_yearLine_25 ?_
      refine wz_lcne (tgt := 36) hx hb dX10_yearLine_28 dX10_yearLine_29 (by decide) (fun c28 => ?_) (fun c28 => ?_)
      · have h := ite_f c28 h
        refine lv_lload_n hx hb dX10_yearLine_36 rfl (lv_at hl 1 rfl) ?_
        refine lv_ldc2 (v := 120299659095922) hx hb C.2.2.2.1 (C.2.2.2.2.1 _ (tw 1474 (by decide +kernel) rfl)) dX10_yearLine_37 ?_
        refine wz_lcne (tgt := 48) hx hb dX10_yearLine_40 dX10_yearLine_41 (by decide) (fun c40 => ?_) (fun c40 => ?_)
        · have h := ite_f c40 h
          refine lv_lload_n hx hb dX10_yearLine_48 rfl (lv_at hl 1 rfl) ?_
          refine lv_ldc2 (v := 1752135026) hx hb C.2.2.2.1 (C.2.2.2.2.1 _ (tw 1475 (by decide +kernel) rfl)) dX10_yearLine_49 ?_
          refine wz_lcne (tgt := 60) hx hb dX10_yearLine_52 dX10_yearLine_53 (by decide) (fun c52 => ?_) (fun c52 => ?_)
          · have h := ite_f c52 h
            refine lv_iconst (v := -1) hx hb dX10_yearLine_60 (by decide) ?_
            exact kbX10_yearLine_61 C hlk hr a0 l3 (-1 : Int32) h hW (lv_sub hl [0, 2] rfl)
          · have h := ite_t c52 h
            refine lv_iconst (v := 4) hx hb dX10_yearLine_56 (by decide) ?_
            refine lv_goto (tgt := 61) hx hb dX10_yearLine_57 (by decide) ?_
            exact kbX10_yearLine_61 C hlk hr a0 l3 (4 : Int32) h hW (lv_sub hl [0, 2] rfl)
        · have h := ite_t c40 h
          refine lv_iconst (v := 3) hx hb dX10_yearLine_44 (by decide) ?_
          refine lv_goto (tgt := 61) hx hb dX10_yearLine_45 (by decide) ?_
          exact kbX10_yearLine_61 C hlk hr a0 l3 (3 : Int32) h hW (lv_sub hl [0, 2] rfl)
      · have h := ite_t c28 h
        refine lv_iconst (v := 2) hx hb dX10_yearLine_32 (by decide) ?_
        refine lv_goto (tgt := 61) hx hb dX10_yearLine_33 (by decide) ?_
        exact kbX10_yearLine_61 C hlk hr a0 l3 (2 : Int32) h hW (lv_sub hl [0, 2] rfl)
    · have h := ite_t c16 h
      refine lv_iconst (v := 1) hx hb dX10_yearLine_20 (by decide) ?_
      refine lv_goto (tgt := 61) hx hb dX10_yearLine_21 (by decide) ?_
      exact kbX10_yearLine_61 C hlk hr a0 l3 (1 : Int32) h hW (lv_sub hl [0, 2] rfl)
  · have h := ite_t c4 h
    refine lv_iconst (v := 0) hx hb dX10_yearLine_8 (by decide) ?_
    refine lv_goto (tgt := 61) hx hb dX10_yearLine_9 (by decide) ?_
    exact kbX10_yearLine_61 C hlk hr a0 l3 (0 : Int32) h hW (lv_sub hl [0, 2] rfl)
theorem dX10_sightLine_0 : decode cX10_sightLine 0 = .ok (.lload_n 1, 1) := by decide +kernel
theorem dX10_sightLine_1 : decode cX10_sightLine 1 = .ok (.ldc2_w 219, 3) := by decide +kernel
theorem dX10_sightLine_4 : decode cX10_sightLine 4 = .ok (.lcmp, 1) := by decide +kernel
theorem dX10_sightLine_5 : decode cX10_sightLine 5 = .ok (.ifCond .ne 7, 3) := by decide +kernel
theorem dX10_sightLine_8 : decode cX10_sightLine 8 = .ok (.iconst 0, 1) := by decide +kernel
theorem dX10_sightLine_9 : decode cX10_sightLine 9 = .ok (.goto 28, 3) := by decide +kernel
theorem dX10_sightLine_12 : decode cX10_sightLine 12 = .ok (.lload_n 1, 1) := by decide +kernel
theorem dX10_sightLine_13 : decode cX10_sightLine 13 = .ok (.ldc2_w 174, 3) := by decide +kernel
theorem dX10_sightLine_16 : decode cX10_sightLine 16 = .ok (.lcmp, 1) := by decide +kernel
theorem dX10_sightLine_17 : decode cX10_sightLine 17 = .ok (.ifCond .ne 7, 3) := by decide +kernel
theorem dX10_sightLine_20 : decode cX10_sightLine 20 = .ok (.iconst 1, 1) := by decide +kernel
theorem dX10_sightLine_21 : decode cX10_sightLine 21 = .ok (.goto 16, 3) := by decide +kernel
theorem dX10_sightLine_24 : decode cX10_sightLine 24 = .ok (.lload_n 1, 1) := by decide +kernel
theorem dX10_sightLine_25 : decode cX10_sightLine 25 = .ok (.ldc2_w 172, 3) := by decide +kernel
theorem dX10_sightLine_28 : decode cX10_sightLine 28 = .ok (.lcmp, 1) := by decide +kernel
theorem dX10_sightLine_29 : decode cX10_sightLine 29 = .ok (.ifCond .ne 7, 3) := by decide +kernel
theorem dX10_sightLine_32 : decode cX10_sightLine 32 = .ok (.iconst 2, 1) := by decide +kernel
theorem dX10_sightLine_33 : decode cX10_sightLine 33 = .ok (.goto 4, 3) := by decide +kernel
theorem dX10_sightLine_36 : decode cX10_sightLine 36 = .ok (.iconst (-1), 1) := by decide +kernel
theorem dX10_sightLine_37 : decode cX10_sightLine 37 = .ok (.istore 4, 2) := by decide +kernel
theorem dX10_sightLine_39 : decode cX10_sightLine 39 = .ok (.iload 4, 2) := by decide +kernel
theorem dX10_sightLine_41 : decode cX10_sightLine 41 = .ok (.iconst (-1), 1) := by decide +kernel
theorem dX10_sightLine_42 : decode cX10_sightLine 42 = .ok (.if_icmp .ne 8, 3) := by decide +kernel
theorem dX10_sightLine_45 : decode cX10_sightLine 45 = .ok (.aload_n 0, 1) := by decide +kernel
theorem dX10_sightLine_46 : decode cX10_sightLine 46 = .ok (.invokevirtual 133, 3) := by decide +kernel
theorem dX10_sightLine_49 : decode cX10_sightLine 49 = .ok (.ireturn, 1) := by decide +kernel
theorem dX10_sightLine_50 : decode cX10_sightLine 50 = .ok (.aload_n 0, 1) := by decide +kernel
theorem dX10_sightLine_51 : decode cX10_sightLine 51 = .ok (.iconst 0, 1) := by decide +kernel
theorem dX10_sightLine_52 : decode cX10_sightLine 52 = .ok (.bipush 8, 2) := by decide +kernel
theorem dX10_sightLine_54 : decode cX10_sightLine 54 = .ok (.iload_n 3, 1) := by decide +kernel
theorem dX10_sightLine_55 : decode cX10_sightLine 55 = .ok (.invokevirtual 178, 3) := by decide +kernel
theorem dX10_sightLine_58 : decode cX10_sightLine 58 = .ok (.aload_n 0, 1) := by decide +kernel
theorem dX10_sightLine_59 : decode cX10_sightLine 59 = .ok (.invokevirtual 145, 3) := by decide +kernel
theorem dX10_sightLine_62 : decode cX10_sightLine 62 = .ok (.aload_n 0, 1) := by decide +kernel
theorem dX10_sightLine_63 : decode cX10_sightLine 63 = .ok (.iconst 1, 1) := by decide +kernel
theorem dX10_sightLine_64 : decode cX10_sightLine 64 = .ok (.iconst 0, 1) := by decide +kernel
theorem dX10_sightLine_65 : decode cX10_sightLine 65 = .ok (.bipush 9, 2) := by decide +kernel
theorem dX10_sightLine_67 : decode cX10_sightLine 67 = .ok (.invokevirtual 159, 3) := by decide +kernel
theorem dX10_sightLine_70 : decode cX10_sightLine 70 = .ok (.ifCond .ne 5, 3) := by decide +kernel
theorem dX10_sightLine_73 : decode cX10_sightLine 73 = .ok (.iconst 0, 1) := by decide +kernel
theorem dX10_sightLine_74 : decode cX10_sightLine 74 = .ok (.ireturn, 1) := by decide +kernel
theorem dX10_sightLine_75 : decode cX10_sightLine 75 = .ok (.aload_n 0, 1) := by decide +kernel
theorem dX10_sightLine_76 : decode cX10_sightLine 76 = .ok (.getfield 41, 3) := by decide +kernel
theorem dX10_sightLine_79 : decode cX10_sightLine 79 = .ok (.iconst 0, 1) := by decide +kernel
theorem dX10_sightLine_80 : decode cX10_sightLine 80 = .ok (.iload 4, 2) := by decide +kernel
theorem dX10_sightLine_82 : decode cX10_sightLine 82 = .ok (.iastore, 1) := by decide +kernel
theorem dX10_sightLine_83 : decode cX10_sightLine 83 = .ok (.aload_n 0, 1) := by decide +kernel
theorem dX10_sightLine_84 : decode cX10_sightLine 84 = .ok (.iconst 2, 1) := by decide +kernel
theorem dX10_sightLine_85 : decode cX10_sightLine 85 = .ok (.bipush 8, 2) := by decide +kernel
theorem dX10_sightLine_87 : decode cX10_sightLine 87 = .ok (.invokevirtual 216, 3) := by decide +kernel
theorem dX10_sightLine_90 : decode cX10_sightLine 90 = .ok (.iconst 1, 1) := by decide +kernel
theorem dX10_sightLine_91 : decode cX10_sightLine 91 = .ok (.ireturn, 1) := by decide +kernel
abbrev rmX10_sightLine : Room := { frames := 4, cells := 0, slots := 0, locals := 91 }
def bX10_sightLine_37 (a0 : Nat) (l3 : Int32) (s0 : Int32) (z : AH) : Option (Int32 × AH) :=
  if s0 = (-1 : Int32) then (
    b2 (fX10_fails a0 z) fun x46 z46 =>
    if x46 = 0 ∨ x46 = 1 then some (x46, z46) else none
  ) else (
    (fX10_full a0 (0 : Int32) (8 : Int32) l3 z).bind fun z55 =>
    (fX10_token a0 z55).bind fun z59 =>
    b2 (fX10_take a0 (1 : Int32) (0 : Int32) (9 : Int32) z59) fun x67 z67 =>
    if x67 = (0 : Int32) then (
      some ((0 : Int32), z67)
    ) else (
      (gN 9 20 z67 a0).bind fun b76 =>
      (stI 0 z67 b76 (0 : Int32) s0).bind fun z82 =>
      (fX10_keepRow a0 (2 : Int32) (8 : Int32) z82).bind fun z87 =>
      some ((1 : Int32), z87)
    )
  )
set_option maxHeartbeats 4000000 in
set_option maxRecDepth 100000 in
theorem kbX10_sightLine_37 {p : Program} {l : Launch} {e : Env} {s : State} {m : MethodId} {args : Array Value} {below : List Frame} {meth : Method} {c : Code} {G : GW} {r : Int32} {z' : AH} (C : Cx p m c cX10_sightLine 5 s args RX10 G) (hlk : meth.locks = false) (hr : meth.sig.returnType = (some .boolean)) (a0 : Nat) (l3 : Int32) (s0 : Int32) {z : AH} {H : Heap} {locs : List Loc} {ls : Array Slot} (h : bX10_sightLine_37 a0 l3 s0 z = some (r, z')) (hW : Wb G z s H locs) (hl : lv_has ls 5 [(0, .ref (gB G + a0)), (3, .int l3)]) : W p l e rmX10_sightLine s m args below meth c H locs 0 0 (MQ below (Qi G r z') args s 0 0 (AA G)) (F0 m 37 ls [.int s0]) := by
  have hx := C.1
  have hb := C.2.1
  unfold bX10_sightLine_37 at h
  refine lv_istore (lv' := [(4, .int s0), (0, .ref (gB G + a0)), (3, .int l3)]) hx hb dX10_sightLine_37 hl (by decide) rfl (fun ls hl => ?_)
  refine lv_iload hx hb dX10_sightLine_39 (lv_at hl 0 rfl) ?_
  refine lv_iconst (v := -1) hx hb dX10_sightLine_41 (by decide) ?_
  refine lv_icmp_ne (tgt := 50) hx hb dX10_sightLine_42 (by decide) (fun c42 => ?_) (fun c42 => ?_)
  · have h := ite_f c42 h
    refine lv_aload_n hx hb dX10_sightLine_50 rfl (lv_at hl 1 rfl) ?_
    refine lv_iconst (v := 0) hx hb dX10_sightLine_51 (by decide) ?_
    refine lv_bipush (v := 8) hx hb dX10_sightLine_52 (by decide) ?_
    refine lv_iload_n hx hb dX10_sightLine_54 rfl (lv_at hl 2 rfl) ?_
    obtain ⟨z55, hq, h⟩ := ob h
    refine wz_rV (c' := 0) (s' := 0) hW (wz_runV (rest := []) C hW lVX10_178 (ck hq).1 rfl (ctX10_full l G a0 (0 : Int32) (8 : Int32) l3 z hq) ⟨⟨rfl, rfl⟩, Nat.le_of_ble_eq_true rfl, Nat.le_of_ble_eq_true rfl⟩ rfl hl.1 rfl (Nat.le_of_ble_eq_true rfl) dX10_sightLine_55 ⟨Nat.le_of_ble_eq_true rfl, Nat.le_of_ble_eq_true rfl⟩) rfl rfl (fun H locs hW => ?_)
    refine lv_aload_n hx hb dX10_sightLine_58 rfl (lv_at hl 1 rfl) ?_
    obtain ⟨z59, hq, h⟩ := ob h
    refine wz_rV (c' := 0) (s' := 0) hW (wz_runV (rest := []) C hW lVX10_145 (ck hq).1 rfl (ctX10_token l G a0 z55 hq) ⟨⟨rfl, rfl⟩, Nat.le_of_ble_eq_true rfl, Nat.le_of_ble_eq_true rfl⟩ rfl hl.1 rfl (Nat.le_of_ble_eq_true rfl) dX10_sightLine_59 ⟨Nat.le_of_ble_eq_true rfl, Nat.le_of_ble_eq_true rfl⟩) rfl rfl (fun H locs hW => ?_)
    refine lv_aload_n hx hb dX10_sightLine_62 rfl (lv_at hl 1 rfl) ?_
    refine lv_iconst (v := 1) hx hb dX10_sightLine_63 (by decide) ?_
    refine lv_iconst (v := 0) hx hb dX10_sightLine_64 (by decide) ?_
    refine lv_bipush (v := 9) hx hb dX10_sightLine_65 (by decide) ?_
    obtain ⟨x67, z67, hq, h⟩ := ob2 h
    refine wz_rI (c' := 0) (s' := 0) hW (wz_runV (rest := []) C hW lVX10_159 (ck hq).1 rfl (ctX10_take l G a0 (1 : Int32) (0 : Int32) (9 : Int32) z59 hq) ⟨⟨rfl, rfl⟩, Nat.le_of_ble_eq_true rfl, Nat.le_of_ble_eq_true rfl⟩ rfl hl.1 rfl (Nat.le_of_ble_eq_true rfl) dX10_sightLine_67 ⟨Nat.le_of_ble_eq_true rfl, Nat.le_of_ble_eq_true rfl⟩) rfl rfl (fun H locs hW => ?_)
    refine lv_if_ne (tgt := 75) hx hb dX10_sightLine_70 (by decide) (fun c70 => ?_) (fun c70 => ?_)
    · have h := ite_f c70 h
      refine lv_aload_n hx hb dX10_sightLine_75 rfl (lv_at hl 1 rfl) ?_
      obtain ⟨b76, hg, h⟩ := ob h
      refine wz_gN C hW flX10_41 hg dX10_sightLine_76 ?_
      refine lv_iconst (v := 0) hx hb dX10_sightLine_79 (by decide) ?_
      refine lv_iload hx hb dX10_sightLine_80 (lv_at hl 0 rfl) ?_
      obtain ⟨z82, hg, h⟩ := ob h
      refine wz_ast C hW hg dX10_sightLine_82 (fun H locs hW => ?_)
      refine lv_aload_n hx hb dX10_sightLine_83 rfl (lv_at hl 1 rfl) ?_
      refine lv_iconst (v := 2) hx hb dX10_sightLine_84 (by decide) ?_
      refine lv_bipush (v := 8) hx hb dX10_sightLine_85 (by decide) ?_
      obtain ⟨z87, hq, h⟩ := ob h
      refine wz_rV (c' := 0) (s' := 0) hW (wz_runV (rest := []) C hW lVX10_216 (ck hq).1 rfl (ctX10_keepRow l G a0 (2 : Int32) (8 : Int32) z82 hq) ⟨⟨rfl, rfl⟩, Nat.le_of_ble_eq_true rfl, Nat.le_of_ble_eq_true rfl⟩ rfl hl.1 rfl (Nat.le_of_ble_eq_true rfl) dX10_sightLine_87 ⟨Nat.le_of_ble_eq_true rfl, Nat.le_of_ble_eq_true rfl⟩) rfl rfl (fun H locs hW => ?_)
      refine lv_iconst (v := 1) hx hb dX10_sightLine_90 (by decide) ?_
      exact wz_zretE C hlk hr (Or.inr rfl) (so2 h).1 (so2 h).2 hW dX10_sightLine_91
    · have h := ite_t c70 h
      refine lv_iconst (v := 0) hx hb dX10_sightLine_73 (by decide) ?_
      exact wz_zretE C hlk hr (Or.inl rfl) (so2 h).1 (so2 h).2 hW dX10_sightLine_74
  · have h := ite_t c42 h
    refine lv_aload_n hx hb dX10_sightLine_45 rfl (lv_at hl 1 rfl) ?_
    obtain ⟨x46, z46, hq, h⟩ := ob2 h
    refine wz_rI (c' := 0) (s' := 0) hW (wz_runV (rest := []) C hW lVX10_133 (ck hq).1 rfl (ctX10_fails l G a0 z hq) ⟨⟨rfl, rfl⟩, Nat.le_of_ble_eq_true rfl, Nat.le_of_ble_eq_true rfl⟩ rfl hl.1 rfl (Nat.le_of_ble_eq_true rfl) dX10_sightLine_46 ⟨Nat.le_of_ble_eq_true rfl, Nat.le_of_ble_eq_true rfl⟩) rfl rfl (fun H locs hW => ?_)
    obtain ⟨h01, h⟩ := ck h
    exact wz_zretE C hlk hr h01 (so2 h).1 (so2 h).2 hW dX10_sightLine_49
def fX10_sightLine (a0 : Nat) (j1 : Int64) (l3 : Int32) (z : AH) : Option (Int32 × AH) :=
  if isO 9 z a0 = true then
    if j1 = (8319400174365927540 : Int64) then (
      bX10_sightLine_37 a0 l3 (0 : Int32) z
    ) else (
      if j1 = (491394656372 : Int64) then (
        bX10_sightLine_37 a0 l3 (1 : Int32) z
      ) else (
        if j1 = (1818584692 : Int64) then (
          bX10_sightLine_37 a0 l3 (2 : Int32) z
        ) else (
          bX10_sightLine_37 a0 l3 (-1 : Int32) z
        )
      )
    )
  else none
set_option maxHeartbeats 4000000 in
set_option maxRecDepth 100000 in
theorem ctX10_sightLine (l : Launch) (G : GW) (a0 : Nat) (j1 : Int64) (l3 : Int32) (z : AH) {r : Int32} {z' : AH} (h : fX10_sightLine a0 j1 l3 z = some (r, z')) : Met l yX10_sightLine (wy yX10_sightLine cX10_sightLine 5 (some .boolean)) rmX10_sightLine (Pz G [.ref (gB G + a0), .long j1, .int l3] z) (Qi G r z') 0 0 (AA G) := by
  refine wz_ent (own := RX10) (by decide +kernel) rfl (fun p e s m below meth c ls C hlk hr hin hW hl => ?_) (Nat.le_of_ble_eq_true rfl)
  have hl : lv_has ls 5 [(0, .ref (gB G + a0)), (1, .long j1), (3, .int l3)] := hl
  have hx := C.1
  have hb := C.2.1
  unfold fX10_sightLine at h
  obtain ⟨-, h⟩ := ck h
  refine lv_lload_n hx hb dX10_sightLine_0 rfl (lv_at hl 1 rfl) ?_
  refine lv_ldc2 (v := 8319400174365927540) hx hb C.2.2.2.1 (C.2.2.2.2.1 _ (tw 1484 (by decide +kernel) rfl)) dX10_sightLine_1 ?_
  refine wz_lcne (tgt := 12) hx hb dX10_sightLine_4 dX10_sightLine_5 (by decide) (fun c4 => ?_) (fun c4 => ?_)
  · have h := ite_f c4 h
    refine lv_lload_n hx hb dX10_sightLine_12 rfl (lv_at hl 1 rfl) ?_
    refine lv_ldc2 (v := 491394656372) hx hb C.2.2.2.1 (C.2.2.2.2.1 _ (tw 1418 (by decide +kernel) rfl)) dX10_sightLine_13 ?_
    refine wz_lcne (tgt := 24) hx hb dX10_sightLine_16 dX10_sightLine_17 (by decide) (fun c16 => ?_) (fun c16 => ?_)
    · have h := ite_f c16 h
      refine lv_lload_n hx hb dX10_sightLine_24 rfl (lv_at hl 1 rfl) ?_
      refine lv_ldc2 (v := 1818584692) hx hb C.2.2.2.1 (C.2.2.2.2.1 _ (tw 1417 (by decide +kernel) rfl)) dX10_sightLine_25 ?_
      refine wz_lcne (tgt := 36) hx hb dX10_sightLine_28 dX10_sightLine_29 (by decide) (fun c28 => ?_) (fun c28 => ?_)
      · have h := ite_f c28 h
        refine lv_iconst (v := -1) hx hb dX10_sightLine_36 (by decide) ?_
        exact kbX10_sightLine_37 C hlk hr a0 l3 (-1 : Int32) h hW (lv_sub hl [0, 2] rfl)
      · have h := ite_t c28 h
        refine lv_iconst (v := 2) hx hb dX10_sightLine_32 (by decide) ?_
        refine lv_goto (tgt := 37) hx hb dX10_sightLine_33 (by decide) ?_
        exact kbX10_sightLine_37 C hlk hr a0 l3 (2 : Int32) h hW (lv_sub hl [0, 2] rfl)
    · have h := ite_t c16 h
      refine lv_iconst (v := 1) hx hb dX10_sightLine_20 (by decide) ?_
      refine lv_goto (tgt := 37) hx hb dX10_sightLine_21 (by decide) ?_
      exact kbX10_sightLine_37 C hlk hr a0 l3 (1 : Int32) h hW (lv_sub hl [0, 2] rfl)
  · have h := ite_t c4 h
    refine lv_iconst (v := 0) hx hb dX10_sightLine_8 (by decide) ?_
    refine lv_goto (tgt := 37) hx hb dX10_sightLine_9 (by decide) ?_
    exact kbX10_sightLine_37 C hlk hr a0 l3 (0 : Int32) h hW (lv_sub hl [0, 2] rfl)
theorem dX10_factLine_0 : decode cX10_factLine 0 = .ok (.lload_n 1, 1) := by decide +kernel
theorem dX10_factLine_1 : decode cX10_factLine 1 = .ok (.ldc2_w 221, 3) := by decide +kernel
theorem dX10_factLine_4 : decode cX10_factLine 4 = .ok (.lcmp, 1) := by decide +kernel
theorem dX10_factLine_5 : decode cX10_factLine 5 = .ok (.ifCond .ne 7, 3) := by decide +kernel
theorem dX10_factLine_8 : decode cX10_factLine 8 = .ok (.iconst 0, 1) := by decide +kernel
theorem dX10_factLine_9 : decode cX10_factLine 9 = .ok (.goto 28, 3) := by decide +kernel
theorem dX10_factLine_12 : decode cX10_factLine 12 = .ok (.lload_n 1, 1) := by decide +kernel
theorem dX10_factLine_13 : decode cX10_factLine 13 = .ok (.ldc2_w 223, 3) := by decide +kernel
theorem dX10_factLine_16 : decode cX10_factLine 16 = .ok (.lcmp, 1) := by decide +kernel
theorem dX10_factLine_17 : decode cX10_factLine 17 = .ok (.ifCond .ne 7, 3) := by decide +kernel
theorem dX10_factLine_20 : decode cX10_factLine 20 = .ok (.iconst 1, 1) := by decide +kernel
theorem dX10_factLine_21 : decode cX10_factLine 21 = .ok (.goto 16, 3) := by decide +kernel
theorem dX10_factLine_24 : decode cX10_factLine 24 = .ok (.lload_n 1, 1) := by decide +kernel
theorem dX10_factLine_25 : decode cX10_factLine 25 = .ok (.ldc2_w 225, 3) := by decide +kernel
theorem dX10_factLine_28 : decode cX10_factLine 28 = .ok (.lcmp, 1) := by decide +kernel
theorem dX10_factLine_29 : decode cX10_factLine 29 = .ok (.ifCond .ne 7, 3) := by decide +kernel
theorem dX10_factLine_32 : decode cX10_factLine 32 = .ok (.iconst 2, 1) := by decide +kernel
theorem dX10_factLine_33 : decode cX10_factLine 33 = .ok (.goto 4, 3) := by decide +kernel
theorem dX10_factLine_36 : decode cX10_factLine 36 = .ok (.iconst (-1), 1) := by decide +kernel
theorem dX10_factLine_37 : decode cX10_factLine 37 = .ok (.istore 4, 2) := by decide +kernel
theorem dX10_factLine_39 : decode cX10_factLine 39 = .ok (.iload 4, 2) := by decide +kernel
theorem dX10_factLine_41 : decode cX10_factLine 41 = .ok (.iconst (-1), 1) := by decide +kernel
theorem dX10_factLine_42 : decode cX10_factLine 42 = .ok (.if_icmp .ne 8, 3) := by decide +kernel
theorem dX10_factLine_45 : decode cX10_factLine 45 = .ok (.aload_n 0, 1) := by decide +kernel
theorem dX10_factLine_46 : decode cX10_factLine 46 = .ok (.invokevirtual 133, 3) := by decide +kernel
theorem dX10_factLine_49 : decode cX10_factLine 49 = .ok (.ireturn, 1) := by decide +kernel
