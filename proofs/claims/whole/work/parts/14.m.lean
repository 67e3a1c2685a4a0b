theorem lVX9_239 : LV RX9 239 yX6_drawDeed cX6_drawDeed 6 none 0 := ⟨tw 1091 (by decide +kernel) rfl, tw 1092 (by decide +kernel) rfl, tw 1093 (by decide +kernel) rfl, tw 124 (by decide +kernel) rfl, tw 1094 (by decide +kernel) rfl, ⟨by decide +kernel, by decide +kernel, by decide +kernel⟩⟩
theorem flX9_236 : FL RX9 236 5 14 := ⟨_, rfl, Nat.le_of_ble_eq_true rfl, tw 372 (by decide +kernel) rfl, rfl⟩
theorem dX9_drawn_0 : decode cX9_drawn 0 = .ok (.aload_n 0, 1) := by decide +kernel
theorem dX9_drawn_1 : decode cX9_drawn 1 = .ok (.getfield 13, 3) := by decide +kernel
theorem dX9_drawn_4 : decode cX9_drawn 4 = .ok (.iload_n 1, 1) := by decide +kernel
theorem dX9_drawn_5 : decode cX9_drawn 5 = .ok (.invokevirtual 108, 3) := by decide +kernel
theorem dX9_drawn_8 : decode cX9_drawn 8 = .ok (.astore 5, 2) := by decide +kernel
theorem dX9_drawn_10 : decode cX9_drawn 10 = .ok (.aload 5, 2) := by decide +kernel
theorem dX9_drawn_12 : decode cX9_drawn 12 = .ok (.ifnull 13, 3) := by decide +kernel
theorem dX9_drawn_15 : decode cX9_drawn 15 = .ok (.iload_n 3, 1) := by decide +kernel
theorem dX9_drawn_16 : decode cX9_drawn 16 = .ok (.ifCond .lt 9, 3) := by decide +kernel
theorem dX9_drawn_19 : decode cX9_drawn 19 = .ok (.iload_n 3, 1) := by decide +kernel
theorem dX9_drawn_20 : decode cX9_drawn 20 = .ok (.bipush 60, 2) := by decide +kernel
theorem dX9_drawn_22 : decode cX9_drawn 22 = .ok (.if_icmp .le 6, 3) := by decide +kernel
theorem dX9_drawn_25 : decode cX9_drawn 25 = .ok (.bipush (-2), 2) := by decide +kernel
theorem dX9_drawn_27 : decode cX9_drawn 27 = .ok (.ireturn, 1) := by decide +kernel
theorem dX9_drawn_28 : decode cX9_drawn 28 = .ok (.aload_n 0, 1) := by decide +kernel
theorem dX9_drawn_29 : decode cX9_drawn 29 = .ok (.getfield 39, 3) := by decide +kernel
theorem dX9_drawn_32 : decode cX9_drawn 32 = .ok (.aload 5, 2) := by decide +kernel
theorem dX9_drawn_34 : decode cX9_drawn 34 = .ok (.invokevirtual 127, 3) := by decide +kernel
theorem dX9_drawn_37 : decode cX9_drawn 37 = .ok (.aload_n 0, 1) := by decide +kernel
theorem dX9_drawn_38 : decode cX9_drawn 38 = .ok (.getfield 39, 3) := by decide +kernel
theorem dX9_drawn_41 : decode cX9_drawn 41 = .ok (.iload_n 2, 1) := by decide +kernel
theorem dX9_drawn_42 : decode cX9_drawn 42 = .ok (.putfield 236, 3) := by decide +kernel
theorem dX9_drawn_45 : decode cX9_drawn 45 = .ok (.iconst 0, 1) := by decide +kernel
theorem dX9_drawn_46 : decode cX9_drawn 46 = .ok (.istore 6, 2) := by decide +kernel
theorem dX9_drawn_48 : decode cX9_drawn 48 = .ok (.iload 6, 2) := by decide +kernel
theorem dX9_drawn_50 : decode cX9_drawn 50 = .ok (.iload_n 3, 1) := by decide +kernel
theorem dX9_drawn_51 : decode cX9_drawn 51 = .ok (.if_icmp .ge 16, 3) := by decide +kernel
theorem dX9_drawn_54 : decode cX9_drawn 54 = .ok (.aload_n 0, 1) := by decide +kernel
theorem dX9_drawn_55 : decode cX9_drawn 55 = .ok (.getfield 39, 3) := by decide +kernel
theorem dX9_drawn_58 : decode cX9_drawn 58 = .ok (.invokevirtual 239, 3) := by decide +kernel
theorem dX9_drawn_61 : decode cX9_drawn 61 = .ok (.iinc 6 1, 3) := by decide +kernel
theorem dX9_drawn_64 : decode cX9_drawn 64 = .ok (.goto (-16), 3) := by decide +kernel
theorem dX9_drawn_67 : decode cX9_drawn 67 = .ok (.aload_n 0, 1) := by decide +kernel
theorem dX9_drawn_68 : decode cX9_drawn 68 = .ok (.getfield 39, 3) := by decide +kernel
theorem dX9_drawn_71 : decode cX9_drawn 71 = .ok (.iload 4, 2) := by decide +kernel
theorem dX9_drawn_73 : decode cX9_drawn 73 = .ok (.invokevirtual 134, 3) := by decide +kernel
theorem dX9_drawn_76 : decode cX9_drawn 76 = .ok (.ireturn, 1) := by decide +kernel
abbrev rmX9_drawn : Room := { frames := 5, cells := 0, slots := 0, locals := 123 }
def bX9_drawn_48 (k48 : Nat → Int32 → Int32 → Int32 → AH → Option (Int32 × AH)) (a0 : Nat) (l3 : Int32) (l4 : Int32) (l6 : Int32) (z : AH) : Option (Int32 × AH) :=
  if l3 ≤ l6 then (
    (gN 8 4 z a0).bind fun b68 =>
    (fX6_answer b68 l4 z).bind fun x73 =>
    some (x73, z)
  ) else (
    (gN 8 4 z a0).bind fun b55 =>
    (fX6_drawDeed b55 z).bind fun z58 =>
    nm (l6 + (1 : Int32)) fun v61 =>
    k48 a0 l3 l4 v61 z58
  )
set_option maxHeartbeats 4000000 in
set_option maxRecDepth 100000 in
theorem kbX9_drawn_48 {p : Program} {l : Launch} {e : Env} {s : State} {m : MethodId} {args : Array Value} {below : List Frame} {meth : Method} {c : Code} {G : GW} {r : Int32} {z' : AH} (C : Cx p m c cX9_drawn 7 s args RX9 G) (hlk : meth.locks = false) (hr : meth.sig.returnType = (some .int)) (k48 : Nat → Int32 → Int32 → Int32 → AH → Option (Int32 × AH)) (hk48 : ∀ (a0 : Nat) (l3 : Int32) (l4 : Int32) (l6 : Int32) (z : AH) (H : Heap) (locs : List Loc) (ls : Array Slot), k48 a0 l3 l4 l6 z = some (r, z') → Wb G z s H locs → lv_has ls 7 [(0, .ref (gB G + a0)), (3, .int l3), (4, .int l4), (6, .int l6)] → W p l e rmX9_drawn s m args below meth c H locs 0 0 (MQ below (Qi G r z') args s 0 0 (AA G)) (F0 m 48 ls [])) (a0 : Nat) (l3 : Int32) (l4 : Int32) (l6 : Int32) {z : AH} {H : Heap} {locs : List Loc} {ls : Array Slot} (h : bX9_drawn_48 k48 a0 l3 l4 l6 z = some (r, z')) (hW : Wb G z s H locs) (hl : lv_has ls 7 [(0, .ref (gB G + a0)), (3, .int l3), (4, .int l4), (6, .int l6)]) : W p l e rmX9_drawn s m args below meth c H locs 0 0 (MQ below (Qi G r z') args s 0 0 (AA G)) (F0 m 48 ls []) := by
  have hx := C.1
  have hb := C.2.1
  unfold bX9_drawn_48 at h
  refine lv_iload hx hb dX9_drawn_48 (lv_at hl 3 rfl) ?_
  refine lv_iload_n hx hb dX9_drawn_50 rfl (lv_at hl 1 rfl) ?_
  refine lv_icmp_ge (tgt := 67) hx hb dX9_drawn_51 (by decide) (fun c51 => ?_) (fun c51 => ?_)
  · have h := ite_t c51 h
    refine lv_aload_n hx hb dX9_drawn_67 rfl (lv_at hl 0 rfl) ?_
    obtain ⟨b68, hg, h⟩ := ob h
    refine wz_gN C hW flX9_39 hg dX9_drawn_68 ?_
    refine lv_iload hx hb dX9_drawn_71 (lv_at hl 2 rfl) ?_
    obtain ⟨x73, hq, h⟩ := ob h
    refine wz_rI (c' := 0) (s' := 0) hW (wz_runV (rest := []) C hW lVX9_134 (ck hq).1 rfl (ctX6_answer l G b68 l4 z hq) ⟨⟨rfl, rfl⟩, Nat.le_of_ble_eq_true rfl, Nat.le_of_ble_eq_true rfl⟩ rfl hl.1 rfl (Nat.le_of_ble_eq_true rfl) dX9_drawn_73 ⟨Nat.le_of_ble_eq_true rfl, Nat.le_of_ble_eq_true rfl⟩) rfl rfl (fun H locs hW => ?_)
    exact wz_iretE C hlk hr (so2 h).1 (so2 h).2 hW dX9_drawn_76
  · have h := ite_f c51 h
    refine lv_aload_n hx hb dX9_drawn_54 rfl (lv_at hl 0 rfl) ?_
    obtain ⟨b55, hg, h⟩ := ob h
    refine wz_gN C hW flX9_39 hg dX9_drawn_55 ?_
    obtain ⟨z58, hq, h⟩ := ob h
    refine wz_rV (c' := 0) (s' := 0) hW (wz_runV (rest := []) C hW lVX9_239 (ck hq).1 rfl (ctX6_drawDeed l G b55 z hq) ⟨⟨rfl, rfl⟩, Nat.le_of_ble_eq_true rfl, Nat.le_of_ble_eq_true rfl⟩ rfl hl.1 rfl (Nat.le_of_ble_eq_true rfl) dX9_drawn_58 ⟨Nat.le_of_ble_eq_true rfl, Nat.le_of_ble_eq_true rfl⟩) rfl rfl (fun H locs hW => ?_)
    obtain ⟨v61, ev61⟩ : ∃ y : Int32, y = (l6 + (1 : Int32)) := ⟨_, rfl⟩
    have h := nm_to h ev61
    refine lv_iinc (v := v61) (lv' := [(6, .int v61), (0, .ref (gB G + a0)), (3, .int l3), (4, .int l4)]) hx hb dX9_drawn_61 hl (k := 3) rfl (by rw [ev61]; rfl) (by decide) rfl (fun ls hl => ?_)
    refine lv_goto (tgt := 48) hx hb dX9_drawn_64 (by decide) ?_
    exact hk48 a0 l3 l4 v61 z58 _ _ _ h hW (lv_sub hl [1, 2, 3, 0] rfl)
def fX9_drawn_48 : Nat → Nat → Int32 → Int32 → Int32 → AH → Option (Int32 × AH)
  | 0, _, _, _, _, _ => none
  | n + 1, a0, l3, l4, l6, z => bX9_drawn_48 (fX9_drawn_48 n) a0 l3 l4 l6 z
theorem klX9_drawn_48 {p : Program} {l : Launch} {e : Env} {s : State} {m : MethodId} {args : Array Value} {below : List Frame} {meth : Method} {c : Code} {G : GW} {r : Int32} {z' : AH} (C : Cx p m c cX9_drawn 7 s args RX9 G) (hlk : meth.locks = false) (hr : meth.sig.returnType = (some .int)) : ∀ (n : Nat) (a0 : Nat) (l3 : Int32) (l4 : Int32) (l6 : Int32) (z : AH) (H : Heap) (locs : List Loc) (ls : Array Slot), fX9_drawn_48 n a0 l3 l4 l6 z = some (r, z') → Wb G z s H locs → lv_has ls 7 [(0, .ref (gB G + a0)), (3, .int l3), (4, .int l4), (6, .int l6)] → W p l e rmX9_drawn s m args below meth c H locs 0 0 (MQ below (Qi G r z') args s 0 0 (AA G)) (F0 m 48 ls []) := by
  intro n
  induction n with
  | zero => intro a0 l3 l4 l6 z H locs ls h; have h : (none : Option (Int32 × AH)) = some (r, z') := h; cases h
  | succ n ih => intro a0 l3 l4 l6 z H locs ls h hW hl; exact kbX9_drawn_48 C hlk hr (fX9_drawn_48 n) (fun a0 l3 l4 l6 z H locs ls h hW hl => ih a0 l3 l4 l6 z H locs ls h hW hl) a0 l3 l4 l6 h hW hl
def fX9_drawn (a0 : Nat) (l1 : Int32) (l2 : Int32) (l3 : Int32) (l4 : Int32) (z : AH) : Option (Int32 × AH) :=
  if isO 8 z a0 = true then
    (gN 8 0 z a0).bind fun b1 =>
    (fX7_countryAt b1 l1 z).bind fun q5_ =>
    nq q5_ (
      some ((-2 : Int32), z)
    ) fun b8 =>
    if l3 < (0 : Int32) then (
      some ((-2 : Int32), z)
    ) else (
      if l3 ≤ (60 : Int32) then (
        (gN 8 4 z a0).bind fun b29 =>
        (fX6_begin b29 b8 z).bind fun z34 =>
        (gN 8 4 z34 a0).bind fun b38 =>
        (pF 5 14 z34 b38 (.int l2)).bind fun z42 =>
        fX9_drawn_48 FU a0 l3 l4 (0 : Int32) z42
      ) else (
        some ((-2 : Int32), z)
      )
    )
  else none
set_option maxHeartbeats 4000000 in
set_option maxRecDepth 100000 in
theorem ctX9_drawn (l : Launch) (G : GW) (a0 : Nat) (l1 : Int32) (l2 : Int32) (l3 : Int32) (l4 : Int32) (z : AH) {r : Int32} {z' : AH} (h : fX9_drawn a0 l1 l2 l3 l4 z = some (r, z')) : Met l yX9_drawn (wy yX9_drawn cX9_drawn 7 (some .int)) rmX9_drawn (Pz G [.ref (gB G + a0), .int l1, .int l2, .int l3, .int l4] z) (Qi G r z') 0 0 (AA G) := by
  refine wz_ent (own := RX9) (by decide +kernel) rfl (fun p e s m below meth c ls C hlk hr hin hW hl => ?_) (Nat.le_of_ble_eq_true rfl)
  have hl : lv_has ls 7 [(0, .ref (gB G + a0)), (1, .int l1), (2, .int l2), (3, .int l3), (4, .int l4)] := hl
  have hx := C.1
  have hb := C.2.1
  unfold fX9_drawn at h
  obtain ⟨-, h⟩ := ck h
  refine lv_aload_n hx hb dX9_drawn_0 rfl (lv_at hl 0 rfl) ?_
  obtain ⟨b1, hg, h⟩ := ob h
  refine wz_gN C hW flX9_13 hg dX9_drawn_1 ?_
  refine lv_iload_n hx hb dX9_drawn_4 rfl (lv_at hl 1 rfl) ?_
  obtain ⟨q5_, hq, h⟩ := ob h
  refine wz_rQ (c' := 0) (s' := 0) hW (wz_runV (rest := []) C hW lVX9_108 (ck hq).1 rfl (ctX7_countryAt l G b1 l1 z hq) ⟨⟨rfl, rfl⟩, Nat.le_of_ble_eq_true rfl, Nat.le_of_ble_eq_true rfl⟩ rfl hl.1 rfl (Nat.le_of_ble_eq_true rfl) dX9_drawn_5 ⟨Nat.le_of_ble_eq_true rfl, Nat.le_of_ble_eq_true rfl⟩) rfl rfl (fun H locs hW => ?_)
  cases q5_ with
  | none =>
    have h := nq_n h
    refine lv_astoreN (lv' := [(5, .null), (0, .ref (gB G + a0)), (1, .int l1), (2, .int l2), (3, .int l3), (4, .int l4)]) hx hb dX9_drawn_8 hl (by decide) rfl (fun ls hl => ?_)
    refine lv_aloadN hx hb dX9_drawn_10 (lv_at hl 0 rfl) ?_
    refine lv_ifnullN (tgt := 25) hx hb dX9_drawn_12 (by decide) ?_
    refine lv_bipush (v := -2) hx hb dX9_drawn_25 (by decide) ?_
    exact wz_iretE C hlk hr (so2 h).1 (so2 h).2 hW dX9_drawn_27
  | some b8 =>
    have h := nq_s h
    refine lv_astore (lv' := [(5, .ref (gB G + b8)), (0, .ref (gB G + a0)), (1, .int l1), (2, .int l2), (3, .int l3), (4, .int l4)]) hx hb dX9_drawn_8 hl (by decide) rfl (fun ls hl => ?_)
    refine lv_aload hx hb dX9_drawn_10 (lv_at hl 0 rfl) ?_
    refine lv_ifnull hx hb dX9_drawn_12 ?_
    refine lv_iload_n hx hb dX9_drawn_15 rfl (lv_at hl 4 rfl) ?_
    refine lv_if_lt (tgt := 25) hx hb dX9_drawn_16 (by decide) (fun c16 => ?_) (fun c16 => ?_)
    · have h := ite_t c16 h
      refine lv_bipush (v := -2) hx hb dX9_drawn_25 (by decide) ?_
      exact wz_iretE C hlk hr (so2 h).1 (so2 h).2 hW dX9_drawn_27
    · have h := ite_f c16 h
      refine lv_iload_n hx hb dX9_drawn_19 rfl (lv_at hl 4 rfl) ?_
      refine lv_bipush (v := 60) hx hb dX9_drawn_20 (by decide) ?_
      refine lv_icmp_le (tgt := 28) hx hb dX9_drawn_22 (by decide) (fun c22 => ?_) (fun c22 => ?_)
      · have h := ite_t c22 h
        refine lv_aload_n hx hb dX9_drawn_28 rfl (lv_at hl 1 rfl) ?_
        obtain ⟨b29, hg, h⟩ := ob h
        refine wz_gN C hW flX9_39 hg dX9_drawn_29 ?_
        refine lv_aload hx hb dX9_drawn_32 (lv_at hl 0 rfl) ?_
        obtain ⟨z34, hq, h⟩ := ob h
        refine wz_rV (c' := 0) (s' := 0) hW (wz_runV (rest := []) C hW lVX9_127 (ck hq).1 rfl (ctX6_begin l G b29 b8 z hq) ⟨⟨rfl, rfl⟩, Nat.le_of_ble_eq_true rfl, Nat.le_of_ble_eq_true rfl⟩ rfl hl.1 rfl (Nat.le_of_ble_eq_true rfl) dX9_drawn_34 ⟨Nat.le_of_ble_eq_true rfl, Nat.le_of_ble_eq_true rfl⟩) rfl rfl (fun H locs hW => ?_)
        refine lv_aload_n hx hb dX9_drawn_37 rfl (lv_at hl 1 rfl) ?_
        obtain ⟨b38, hg, h⟩ := ob h
        refine wz_gN C hW flX9_39 hg dX9_drawn_38 ?_
        refine lv_iload_n hx hb dX9_drawn_41 rfl (lv_at hl 3 rfl) ?_
        obtain ⟨z42, hg, h⟩ := ob h
        refine wz_put (v := (.int l2)) C hW flX9_236 rfl rfl hg dX9_drawn_42 (fun H locs hW => ?_)
        refine lv_iconst (v := 0) hx hb dX9_drawn_45 (by decide) ?_
        refine lv_istore (lv' := [(6, .int (0 : Int32)), (5, .ref (gB G + b8)), (0, .ref (gB G + a0)), (1, .int l1), (2, .int l2), (3, .int l3), (4, .int l4)]) hx hb dX9_drawn_46 hl (by decide) rfl (fun ls hl => ?_)
        exact klX9_drawn_48 C hlk hr FU a0 l3 l4 (0 : Int32) z42 _ _ _ h hW (lv_sub hl [2, 5, 6, 0] rfl)
      · have h := ite_f c22 h
        refine lv_bipush (v := -2) hx hb dX9_drawn_25 (by decide) ?_
        exact wz_iretE C hlk hr (so2 h).1 (so2 h).2 hW dX9_drawn_27
theorem lVX9_242 : LV RX9 242 yX6_staysWith cX6_staysWith 6 (some .boolean) 4 := ⟨tw 1104 (by decide +kernel) rfl, tw 1105 (by decide +kernel) rfl, tw 1106 (by decide +kernel) rfl, tw 124 (by decide +kernel) rfl, tw 1107 (by decide +kernel) rfl, ⟨by decide +kernel, by decide +kernel, by decide +kernel⟩⟩
theorem dX9_need_0 : decode cX9_need 0 = .ok (.aload_n 0, 1) := by decide +kernel
theorem dX9_need_1 : decode cX9_need 1 = .ok (.getfield 13, 3) := by decide +kernel
theorem dX9_need_4 : decode cX9_need 4 = .ok (.iload_n 1, 1) := by decide +kernel
theorem dX9_need_5 : decode cX9_need 5 = .ok (.invokevirtual 108, 3) := by decide +kernel
theorem dX9_need_8 : decode cX9_need 8 = .ok (.astore 4, 2) := by decide +kernel
theorem dX9_need_10 : decode cX9_need 10 = .ok (.aload 4, 2) := by decide +kernel
theorem dX9_need_12 : decode cX9_need 12 = .ok (.ifnull 22, 3) := by decide +kernel
theorem dX9_need_15 : decode cX9_need 15 = .ok (.aload 4, 2) := by decide +kernel
theorem dX9_need_17 : decode cX9_need 17 = .ok (.iload_n 2, 1) := by decide +kernel
theorem dX9_need_18 : decode cX9_need 18 = .ok (.invokevirtual 135, 3) := by decide +kernel
theorem dX9_need_21 : decode cX9_need 21 = .ok (.ifCond .eq 13, 3) := by decide +kernel
theorem dX9_need_24 : decode cX9_need 24 = .ok (.iload_n 3, 1) := by decide +kernel
theorem dX9_need_25 : decode cX9_need 25 = .ok (.ifCond .lt 9, 3) := by decide +kernel
theorem dX9_need_28 : decode cX9_need 28 = .ok (.iload_n 3, 1) := by decide +kernel
theorem dX9_need_29 : decode cX9_need 29 = .ok (.bipush 99, 2) := by decide +kernel
theorem dX9_need_31 : decode cX9_need 31 = .ok (.if_icmp .le 5, 3) := by decide +kernel
theorem dX9_need_34 : decode cX9_need 34 = .ok (.iconst (-1), 1) := by decide +kernel
theorem dX9_need_35 : decode cX9_need 35 = .ok (.ireturn, 1) := by decide +kernel
theorem dX9_need_36 : decode cX9_need 36 = .ok (.iconst 1, 1) := by decide +kernel
theorem dX9_need_37 : decode cX9_need 37 = .ok (.istore 5, 2) := by decide +kernel
theorem dX9_need_39 : decode cX9_need 39 = .ok (.bipush 100, 2) := by decide +kernel
theorem dX9_need_41 : decode cX9_need 41 = .ok (.istore 6, 2) := by decide +kernel
theorem dX9_need_43 : decode cX9_need 43 = .ok (.iconst 0, 1) := by decide +kernel
theorem dX9_need_44 : decode cX9_need 44 = .ok (.istore 7, 2) := by decide +kernel
theorem dX9_need_46 : decode cX9_need 46 = .ok (.iload 7, 2) := by decide +kernel
theorem dX9_need_48 : decode cX9_need 48 = .ok (.bipush 8, 2) := by decide +kernel
theorem dX9_need_50 : decode cX9_need 50 = .ok (.if_icmp .ge 54, 3) := by decide +kernel
theorem dX9_need_53 : decode cX9_need 53 = .ok (.iload 5, 2) := by decide +kernel
theorem dX9_need_55 : decode cX9_need 55 = .ok (.iload 6, 2) := by decide +kernel
theorem dX9_need_57 : decode cX9_need 57 = .ok (.if_icmp .ge 47, 3) := by decide +kernel
theorem dX9_need_60 : decode cX9_need 60 = .ok (.iload 5, 2) := by decide +kernel
theorem dX9_need_62 : decode cX9_need 62 = .ok (.iload 6, 2) := by decide +kernel
theorem dX9_need_64 : decode cX9_need 64 = .ok (.iadd, 1) := by decide +kernel
theorem dX9_need_65 : decode cX9_need 65 = .ok (.iconst 2, 1) := by decide +kernel
theorem dX9_need_66 : decode cX9_need 66 = .ok (.idiv, 1) := by decide +kernel
theorem dX9_need_67 : decode cX9_need 67 = .ok (.istore 8, 2) := by decide +kernel
theorem dX9_need_69 : decode cX9_need 69 = .ok (.aload_n 0, 1) := by decide +kernel
theorem dX9_need_70 : decode cX9_need 70 = .ok (.getfield 39, 3) := by decide +kernel
theorem dX9_need_73 : decode cX9_need 73 = .ok (.aload 4, 2) := by decide +kernel
theorem dX9_need_75 : decode cX9_need 75 = .ok (.iload_n 2, 1) := by decide +kernel
theorem dX9_need_76 : decode cX9_need 76 = .ok (.iload 8, 2) := by decide +kernel
theorem dX9_need_78 : decode cX9_need 78 = .ok (.iload_n 3, 1) := by decide +kernel
theorem dX9_need_79 : decode cX9_need 79 = .ok (.invokevirtual 242, 3) := by decide +kernel
theorem dX9_need_82 : decode cX9_need 82 = .ok (.ifCond .eq 10, 3) := by decide +kernel
theorem dX9_need_85 : decode cX9_need 85 = .ok (.iload 8, 2) := by decide +kernel
theorem dX9_need_87 : decode cX9_need 87 = .ok (.istore 6, 2) := by decide +kernel
theorem dX9_need_89 : decode cX9_need 89 = .ok (.goto 9, 3) := by decide +kernel
theorem dX9_need_92 : decode cX9_need 92 = .ok (.iload 8, 2) := by decide +kernel
theorem dX9_need_94 : decode cX9_need 94 = .ok (.iconst 1, 1) := by decide +kernel
theorem dX9_need_95 : decode cX9_need 95 = .ok (.iadd, 1) := by decide +kernel
theorem dX9_need_96 : decode cX9_need 96 = .ok (.istore 5, 2) := by decide +kernel
theorem dX9_need_98 : decode cX9_need 98 = .ok (.iinc 7 1, 3) := by decide +kernel
theorem dX9_need_101 : decode cX9_need 101 = .ok (.goto (-55), 3) := by decide +kernel
theorem dX9_need_104 : decode cX9_need 104 = .ok (.iload 5, 2) := by decide +kernel
theorem dX9_need_106 : decode cX9_need 106 = .ok (.bipush 99, 2) := by decide +kernel
theorem dX9_need_108 : decode cX9_need 108 = .ok (.if_icmp .le 7, 3) := by decide +kernel
theorem dX9_need_111 : decode cX9_need 111 = .ok (.iconst (-1), 1) := by decide +kernel
theorem dX9_need_112 : decode cX9_need 112 = .ok (.goto 5, 3) := by decide +kernel
theorem dX9_need_115 : decode cX9_need 115 = .ok (.iload 5, 2) := by decide +kernel
theorem dX9_need_117 : decode cX9_need 117 = .ok (.ireturn, 1) := by decide +kernel
abbrev rmX9_need : Room := { frames := 4, cells := 0, slots := 0, locals := 127 }
def bX9_need_104 (l5 : Int32) (z : AH) : Option (Int32 × AH) :=
  if l5 ≤ (99 : Int32) then (
    some (l5, z)
  ) else (
    some ((-1 : Int32), z)
  )
set_option maxHeartbeats 4000000 in
set_option maxRecDepth 100000 in
theorem kbX9_need_104 {p : Program} {l : Launch} {e : Env} {s : State} {m : MethodId} {args : Array Value} {below : List Frame} {meth : Method} {c : Code} {G : GW} {r : Int32} {z' : AH} (C : Cx p m c cX9_need 9 s args RX9 G) (hlk : meth.locks = false) (hr : meth.sig.returnType = (some .int)) (l5 : Int32) {z : AH} {H : Heap} {locs : List Loc} {ls : Array Slot} (h : bX9_need_104 l5 z = some (r, z')) (hW : Wb G z s H locs) (hl : lv_has ls 9 [(5, .int l5)]) : W p l e rmX9_need s m args below meth c H locs 0 0 (MQ below (Qi G r z') args s 0 0 (AA G)) (F0 m 104 ls []) := by
  have hx := C.1
  have hb := C.2.1
  unfold bX9_need_104 at h
  refine lv_iload hx hb dX9_need_104 (lv_at hl 0 rfl) ?_
  refine lv_bipush (v := 99) hx hb dX9_need_106 (by decide) ?_
  refine lv_icmp_le (tgt := 115) hx hb dX9_need_108 (by decide) (fun c108 => ?_) (fun c108 => ?_)
  · have h := ite_t c108 h
    refine lv_iload hx hb dX9_need_115 (lv_at hl 0 rfl) ?_
    exact wz_iretE C hlk hr (so2 h).1 (so2 h).2 hW dX9_need_117
  · have h := ite_f c108 h
    refine lv_iconst (v := -1) hx hb dX9_need_111 (by decide) ?_
    refine lv_goto (tgt := 117) hx hb dX9_need_112 (by decide) ?_
    exact wz_iretE C hlk hr (so2 h).1 (so2 h).2 hW dX9_need_117
def bX9_need_46 (k46 : Nat → Int32 → Int32 → Nat → Int32 → Int32 → Int32 → AH → Option (Int32 × AH)) (a0 : Nat) (l2 : Int32) (l3 : Int32) (a4 : Nat) (l5 : Int32) (l6 : Int32) (l7 : Int32) (z : AH) : Option (Int32 × AH) :=
  if (8 : Int32) ≤ l7 then (
    bX9_need_104 l5 z
  ) else (
    if l6 ≤ l5 then (
      bX9_need_104 l5 z
    ) else (
      nm ((l5 + l6) / (2 : Int32)) fun v67 =>
      (gN 8 4 z a0).bind fun b70 =>
      b2 (fX6_staysWith b70 a4 l2 v67 l3 z) fun x79 z79 =>
      if x79 = (0 : Int32) then (
        nm (v67 + (1 : Int32)) fun v96 =>
        nm (l7 + (1 : Int32)) fun v98 =>
        k46 a0 l2 l3 a4 v96 l6 v98 z79
      ) else (
        nm (l7 + (1 : Int32)) fun v98 =>
        k46 a0 l2 l3 a4 l5 v67 v98 z79
      )
    )
  )
set_option maxHeartbeats 4000000 in
set_option maxRecDepth 100000 in
theorem kbX9_need_46 {p : Program} {l : Launch} {e : Env} {s : State} {m : MethodId} {args : Array Value} {below : List Frame} {meth : Method} {c : Code} {G : GW} {r : Int32} {z' : AH} (C : Cx p m c cX9_need 9 s args RX9 G) (hlk : meth.locks = false) (hr : meth.sig.returnType = (some .int)) (k46 : Nat → Int32 → Int32 → Nat → Int32 → Int32 → Int32 → AH → Option (Int32 × AH)) (hk46 : ∀ (a0 : Nat) (l2 : Int32) (l3 : Int32) (a4 : Nat) (l5 : Int32) (l6 : Int32) (l7 : Int32) (z : AH) (H : Heap) (locs : List Loc) (ls : Array Slot), k46 a0 l2 l3 a4 l5 l6 l7 z = some (r, z') → Wb G z s H locs → lv_has ls 9 [(0, .ref (gB G + a0)), (2, .int l2), (3, .int l3), (4, .ref (gB G + a4)), (5, .int l5), (6, .int l6), (7, .int l7)] → W p l e rmX9_need s m args below meth c H locs 0 0 (MQ below (Qi G r z') args s 0 0 (AA G)) (F0 m 46 ls [])) (a0 : Nat) (l2 : Int32) (l3 : Int32) (a4 : Nat) (l5 : Int32) (l6 : Int32) (l7 : Int32) {z : AH} {H : Heap} {locs : List Loc} {ls : Array Slot} (h : bX9_need_46 k46 a0 l2 l3 a4 l5 l6 l7 z = some (r, z')) (hW : Wb G z s H locs) (hl : lv_has ls 9 [(0, .ref (gB G + a0)), (2, .int l2), (3, .int l3), (4, .ref (gB G + a4)), (5, .int l5), (6, .int l6), (7, .int l7)]) : W p l e rmX9_need s m args below meth c H locs 0 0 (MQ below (Qi G r z') args s 0 0 (AA G)) (F0 m 46 ls []) := by
  have hx := C.1
  have hb := C.2.1
  unfold bX9_need_46 at h
  refine lv_iload hx hb dX9_need_46 (lv_at hl 6 rfl) ?_
  refine lv_bipush (v := 8) hx hb dX9_need_48 (by decide) ?_
  refine lv_icmp_ge (tgt := 104) hx hb dX9_need_50 (by decide) (fun c50 => ?_) (fun c50 => ?_)
  · have h := ite_t c50 h
    exact kbX9_need_104 C hlk hr l5 h hW (lv_sub hl [4] rfl)
  · have h := ite_f c50 h
    refine lv_iload hx hb dX9_need_53 (lv_at hl 4 rfl) ?_
    refine lv_iload hx hb dX9_need_55 (lv_at hl 5 rfl) ?_
    refine lv_icmp_ge (tgt := 104) hx hb dX9_need_57 (by decide) (fun c57 => ?_) (fun c57 => ?_)
    · have h := ite_t c57 h
      exact kbX9_need_104 C hlk hr l5 h hW (lv_sub hl [4] rfl)
    · have h := ite_f c57 h
      refine lv_iload hx hb dX9_need_60 (lv_at hl 4 rfl) ?_
      refine lv_iload hx hb dX9_need_62 (lv_at hl 5 rfl) ?_
      refine lv_iadd hx hb dX9_need_64 ?_
      refine lv_iconst (v := 2) hx hb dX9_need_65 (by decide) ?_
      refine lv_idiv hx hb dX9_need_66 (by decide) ?_
      refine lv_topi (fun v67 ev67 => ?_)
      have h := nm_to h ev67
      refine lv_istore (lv' := [(8, .int v67), (0, .ref (gB G + a0)), (2, .int l2), (3, .int l3), (4, .ref (gB G + a4)), (5, .int l5), (6, .int l6), (7, .int l7)]) hx hb dX9_need_67 hl (by decide) rfl (fun ls hl => ?_)
      refine lv_aload_n hx hb dX9_need_69 rfl (lv_at hl 1 rfl) ?_
      obtain ⟨b70, hg, h⟩ := ob h
      refine wz_gN C hW flX9_39 hg dX9_need_70 ?_
      refine lv_aload hx hb dX9_need_73 (lv_at hl 4 rfl) ?_
      refine lv_iload_n hx hb dX9_need_75 rfl (lv_at hl 2 rfl) ?_
      refine lv_iload hx hb dX9_need_76 (lv_at hl 0 rfl) ?_
      refine lv_iload_n hx hb dX9_need_78 rfl (lv_at hl 3 rfl) ?_
      obtain ⟨x79, z79, hq, h⟩ := ob2 h
      refine wz_rI (c' := 0) (s' := 0) hW (wz_runV (rest := []) C hW lVX9_242 (ck hq).1 rfl (ctX6_staysWith l G b70 a4 l2 v67 l3 z hq) ⟨⟨rfl, rfl⟩, Nat.le_of_ble_eq_true rfl, Nat.le_of_ble_eq_true rfl⟩ rfl hl.1 rfl (Nat.le_of_ble_eq_true rfl) dX9_need_79 ⟨Nat.le_of_ble_eq_true rfl, Nat.le_of_ble_eq_true rfl⟩) rfl rfl (fun H locs hW => ?_)
      refine lv_if_eq (tgt := 92) hx hb dX9_need_82 (by decide) (fun c82 => ?_) (fun c82 => ?_)
      · have h := ite_t c82 h
        refine lv_iload hx hb dX9_need_92 (lv_at hl 0 rfl) ?_
        refine lv_iconst (v := 1) hx hb dX9_need_94 (by decide) ?_
        refine lv_iadd hx hb dX9_need_95 ?_
        refine lv_topi (fun v96 ev96 => ?_)
        have h := nm_to h ev96
        refine lv_istore (lv' := [(5, .int v96), (8, .int v67), (0, .ref (gB G + a0)), (2, .int l2), (3, .int l3), (4, .ref (gB G + a4)), (6, .int l6), (7, .int l7)]) hx hb dX9_need_96 hl (by decide) rfl (fun ls hl => ?_)
        obtain ⟨v98, ev98⟩ : ∃ y : Int32, y = (l7 + (1 : Int32)) := ⟨_, rfl⟩
        have h := nm_to h ev98
        refine lv_iinc (v := v98) (lv' := [(7, .int v98), (5, .int v96), (8, .int v67), (0, .ref (gB G + a0)), (2, .int l2), (3, .int l3), (4, .ref (gB G + a4)), (6, .int l6)]) hx hb dX9_need_98 hl (k := 7) rfl (by rw [ev98]; rfl) (by decide) rfl (fun ls hl => ?_)
        refine lv_goto (tgt := 46) hx hb dX9_need_101 (by decide) ?_
        exact hk46 a0 l2 l3 a4 v96 l6 v98 z79 _ _ _ h hW (lv_sub hl [3, 4, 5, 6, 1, 7, 0] rfl)
      · have h := ite_f c82 h
        refine lv_iload hx hb dX9_need_85 (lv_at hl 0 rfl) ?_
        refine lv_istore (lv' := [(6, .int v67), (8, .int v67), (0, .ref (gB G + a0)), (2, .int l2), (3, .int l3), (4, .ref (gB G + a4)), (5, .int l5), (7, .int l7)]) hx hb dX9_need_87 hl (by decide) rfl (fun ls hl => ?_)
        refine lv_goto (tgt := 98) hx hb dX9_need_89 (by decide) ?_
        obtain ⟨v98, ev98⟩ : ∃ y : Int32, y = (l7 + (1 : Int32)) := ⟨_, rfl⟩
        have h := nm_to h ev98
        refine lv_iinc (v := v98) (lv' := [(7, .int v98), (6, .int v67), (8, .int v67), (0, .ref (gB G + a0)), (2, .int l2), (3, .int l3), (4, .ref (gB G + a4)), (5, .int l5)]) hx hb dX9_need_98 hl (k := 7) rfl (by rw [ev98]; rfl) (by decide) rfl (fun ls hl => ?_)
        refine lv_goto (tgt := 46) hx hb dX9_need_101 (by decide) ?_
        exact hk46 a0 l2 l3 a4 l5 v67 v98 z79 _ _ _ h hW (lv_sub hl [3, 4, 5, 6, 7, 1, 0] rfl)
def fX9_need_46 : Nat → Nat → Int32 → Int32 → Nat → Int32 → Int32 → Int32 → AH → Option (Int32 × AH)
  | 0, _, _, _, _, _, _, _, _ => none
  | n + 1, a0, l2, l3, a4, l5, l6, l7, z => bX9_need_46 (fX9_need_46 n) a0 l2 l3 a4 l5 l6 l7 z
theorem klX9_need_46 {p : Program} {l : Launch} {e : Env} {s : State} {m : MethodId} {args : Array Value} {below : List Frame} {meth : Method} {c : Code} {G : GW} {r : Int32} {z' : AH} (C : Cx p m c cX9_need 9 s args RX9 G) (hlk : meth.locks = false) (hr : meth.sig.returnType = (some .int)) : ∀ (n : Nat) (a0 : Nat) (l2 : Int32) (l3 : Int32) (a4 : Nat) (l5 : Int32) (l6 : Int32) (l7 : Int32) (z : AH) (H : Heap) (locs : List Loc) (ls : Array Slot), fX9_need_46 n a0 l2 l3 a4 l5 l6 l7 z = some (r, z') → Wb G z s H locs → lv_has ls 9 [(0, .ref (gB G + a0)), (2, .int l2), (3, .int l3), (4, .ref (gB G + a4)), (5, .int l5), (6, .int l6), (7, .int l7)] → W p l e rmX9_need s m args below meth c H locs 0 0 (MQ below (Qi G r z') args s 0 0 (AA G)) (F0 m 46 ls []) := by
  intro n
  induction n with
  | zero => intro a0 l2 l3 a4 l5 l6 l7 z H locs ls h; have h : (none : Option (Int32 × AH)) = some (r, z') := h; cases h
  | succ n ih => intro a0 l2 l3 a4 l5 l6 l7 z H locs ls h hW hl; exact kbX9_need_46 C hlk hr (fX9_need_46 n) (fun a0 l2 l3 a4 l5 l6 l7 z H locs ls h hW hl => ih a0 l2 l3 a4 l5 l6 l7 z H locs ls h hW hl) a0 l2 l3 a4 l5 l6 l7 h hW hl
def fX9_need (a0 : Nat) (l1 : Int32) (l2 : Int32) (l3 : Int32) (z : AH) : Option (Int32 × AH) :=
  if isO 8 z a0 = true then
    (gN 8 0 z a0).bind fun b1 =>
    (fX7_countryAt b1 l1 z).bind fun q5_ =>
    nq q5_ (
      some ((-1 : Int32), z)
    ) fun b8 =>
    (fX0_hasThing b8 l2 z).bind fun x18 =>
    if x18 = (0 : Int32) then (
      some ((-1 : Int32), z)
    ) else (
      if l3 < (0 : Int32) then (
        some ((-1 : Int32), z)
      ) else (
        if l3 ≤ (99 : Int32) then (
          fX9_need_46 FU a0 l2 l3 b8 (1 : Int32) (100 : Int32) (0 : Int32) z
        ) else (
          some ((-1 : Int32), z)
        )
      )
    )
  else none
set_option maxHeartbeats 4000000 in
set_option maxRecDepth 100000 in
theorem ctX9_need (l : Launch) (G : GW) (a0 : Nat) (l1 : Int32) (l2 : Int32) (l3 : Int32) (z : AH) {r : Int32} {z' : AH} (h : fX9_need a0 l1 l2 l3 z = some (r, z')) : Met l yX9_need (wy yX9_need cX9_need 9 (some .int)) rmX9_need (Pz G [.ref (gB G + a0), .int l1, .int l2, .int l3] z) (Qi G r z') 0 0 (AA G) := by
  refine wz_ent (own := RX9) (by decide +kernel) rfl (fun p e s m below meth c ls C hlk hr hin hW hl => ?_) (Nat.le_of_ble_eq_true rfl)
  have hl : lv_has ls 9 [(0, .ref (gB G + a0)), (1, .int l1), (2, .int l2), (3, .int l3)] := hl
  have hx := C.1
  have hb := C.2.1
  unfold fX9_need at h
  obtain ⟨-, h⟩ := ck h
  refine lv_aload_n hx hb dX9_need_0 rfl (lv_at hl 0 rfl) ?_
  obtain ⟨b1, hg, h⟩ := ob h
  refine wz_gN C hW flX9_13 hg dX9_need_1 ?_
  refine lv_iload_n hx hb dX9_need_4 rfl (lv_at hl 1 rfl) ?_
  obtain ⟨q5_, hq, h⟩ := ob h
  refine wz_rQ (c' := 0) (s' := 0) hW (wz_runV (rest := []) C hW lVX9_108 (ck hq).1 rfl (ctX7_countryAt l G b1 l1 z hq) ⟨⟨rfl, rfl⟩, Nat.le_of_ble_eq_true rfl, Nat.le_of_ble_eq_true rfl⟩ rfl hl.1 rfl (Nat.le_of_ble_eq_true rfl) dX9_need_5 ⟨Nat.le_of_ble_eq_true rfl, Nat.le_of_ble_eq_true rfl⟩) rfl rfl (fun H locs hW => ?_)
  cases q5_ with
  | none =>
    have h := nq_n h
    refine lv_astoreN (lv' := [(4, .null), (0, .ref (gB G + a0)), (1, .int l1), (2, .int l2), (3, .int l3)]) hx hb dX9_need_8 hl (by decide) rfl (fun ls hl => ?_)
    refine lv_aloadN hx hb dX9_need_10 (lv_at hl 0 rfl) ?_
    refine lv_ifnullN (tgt := 34) hx hb dX9_need_12 (by decide) ?_
    refine lv_iconst (v := -1) hx hb dX9_need_34 (by decide) ?_
    exact wz_iretE C hlk hr (so2 h).1 (so2 h).2 hW dX9_need_35
  | some b8 =>
    have h := nq_s h
    refine lv_astore (lv' := [(4, .ref (gB G + b8)), (0, .ref (gB G + a0)), (1, .int l1), (2, .int l2), (3, .int l3)]) hx hb dX9_need_8 hl (by decide) rfl (fun ls hl => ?_)
    refine lv_aload hx hb dX9_need_10 (lv_at hl 0 rfl) ?_
    refine lv_ifnull hx hb dX9_need_12 ?_
    refine lv_aload hx hb dX9_need_15 (lv_at hl 0 rfl) ?_
    refine lv_iload_n hx hb dX9_need_17 rfl (lv_at hl 3 rfl) ?_
    obtain ⟨x18, hq, h⟩ := ob h
    refine wz_rI (c' := 0) (s' := 0) hW (wz_runV (rest := []) C hW lVX9_135 (ck hq).1 rfl (ctX0_hasThing l G b8 l2 z hq) ⟨⟨rfl, rfl⟩, Nat.le_of_ble_eq_true rfl, Nat.le_of_ble_eq_true rfl⟩ rfl hl.1 rfl (Nat.le_of_ble_eq_true rfl) dX9_need_18 ⟨Nat.le_of_ble_eq_true rfl, Nat.le_of_ble_eq_true rfl⟩) rfl rfl (fun H locs hW => ?_)
    refine lv_if_eq (tgt := 34) hx hb dX9_need_21 (by decide) (fun c21 => ?_) (fun c21 => ?_)
    · have h := ite_t c21 h
      refine lv_iconst (v := -1) hx hb dX9_need_34 (by decide) ?_
      exact wz_iretE C hlk hr (so2 h).1 (so2 h).2 hW dX9_need_35
    · have h := ite_f c21 h
      refine lv_iload_n hx hb dX9_need_24 rfl (lv_at hl 4 rfl) ?_
      refine lv_if_lt (tgt := 34) hx hb dX9_need_25 (by decide) (fun c25 => ?_) (fun c25 => ?_)
      · have h := ite_t c25 h
        refine lv_iconst (v := -1) hx hb dX9_need_34 (by decide) ?_
        exact wz_iretE C hlk hr (so2 h).1 (so2 h).2 hW dX9_need_35
      · have h := ite_f c25 h
        refine lv_iload_n hx hb dX9_need_28 rfl (lv_at hl 4 rfl) ?_
        refine lv_bipush (v := 99) hx hb dX9_need_29 (by decide) ?_
        refine lv_icmp_le (tgt := 36) hx hb dX9_need_31 (by decide) (fun c31 => ?_) (fun c31 => ?_)
        · have h := ite_t c31 h
          refine lv_iconst (v := 1) hx hb dX9_need_36 (by decide) ?_
          refine lv_istore (lv' := [(5, .int (1 : Int32)), (4, .ref (gB G + b8)), (0, .ref (gB G + a0)), (1, .int l1), (2, .int l2), (3, .int l3)]) hx hb dX9_need_37 hl (by decide) rfl (fun ls hl => ?_)
          refine lv_bipush (v := 100) hx hb dX9_need_39 (by decide) ?_
          refine lv_istore (lv' := [(6, .int (100 : Int32)), (5, .int (1 : Int32)), (4, .ref (gB G + b8)), (0, .ref (gB G + a0)), (1, .int l1), (2, .int l2), (3, .int l3)]) hx hb dX9_need_41 hl (by decide) rfl (fun ls hl => ?_)
          refine lv_iconst (v := 0) hx hb dX9_need_43 (by decide) ?_
          refine lv_istore (lv' := [(7, .int (0 : Int32)), (6, .int (100 : Int32)), (5, .int (1 : Int32)), (4, .ref (gB G + b8)), (0, .ref (gB G + a0)), (1, .int l1), (2, .int l2), (3, .int l3)]) hx hb dX9_need_44 hl (by decide) rfl (fun ls hl => ?_)
          exact klX9_need_46 C hlk hr FU a0 l2 l3 b8 (1 : Int32) (100 : Int32) (0 : Int32) z _ _ _ h hW (lv_sub hl [4, 6, 7, 3, 2, 1, 0] rfl)
        · have h := ite_f c31 h
          refine lv_iconst (v := -1) hx hb dX9_need_34 (by decide) ?_
          exact wz_iretE C hlk hr (so2 h).1 (so2 h).2 hW dX9_need_35
theorem flX9_246 : FL RX9 246 0 0 := ⟨_, rfl, Nat.le_of_ble_eq_true rfl, tw 156 (by decide +kernel) rfl, rfl⟩
theorem lVX9_249 : LV RX9 249 yX6_restingOn cX6_restingOn 2 (some .int) 1 := ⟨tw 1112 (by decide +kernel) rfl, tw 1113 (by decide +kernel) rfl, tw 1114 (by decide +kernel) rfl, tw 124 (by decide +kernel) rfl, tw 1115 (by decide +kernel) rfl, ⟨by decide +kernel, by decide +kernel, by decide +kernel⟩⟩
theorem dX9_keystone_0 : decode cX9_keystone 0 = .ok (.aload_n 0, 1) := by decide +kernel
theorem dX9_keystone_1 : decode cX9_keystone 1 = .ok (.getfield 13, 3) := by decide +kernel
theorem dX9_keystone_4 : decode cX9_keystone 4 = .ok (.iload_n 1, 1) := by decide +kernel
theorem dX9_keystone_5 : decode cX9_keystone 5 = .ok (.invokevirtual 108, 3) := by decide +kernel
theorem dX9_keystone_8 : decode cX9_keystone 8 = .ok (.astore_n 3, 1) := by decide +kernel
theorem dX9_keystone_9 : decode cX9_keystone 9 = .ok (.aload_n 3, 1) := by decide +kernel
theorem dX9_keystone_10 : decode cX9_keystone 10 = .ok (.ifnonnull 6, 3) := by decide +kernel
theorem dX9_keystone_13 : decode cX9_keystone 13 = .ok (.bipush (-2), 2) := by decide +kernel
theorem dX9_keystone_15 : decode cX9_keystone 15 = .ok (.ireturn, 1) := by decide +kernel
theorem dX9_keystone_16 : decode cX9_keystone 16 = .ok (.aload_n 0, 1) := by decide +kernel
theorem dX9_keystone_17 : decode cX9_keystone 17 = .ok (.getfield 39, 3) := by decide +kernel
theorem dX9_keystone_20 : decode cX9_keystone 20 = .ok (.aload_n 3, 1) := by decide +kernel
theorem dX9_keystone_21 : decode cX9_keystone 21 = .ok (.invokevirtual 127, 3) := by decide +kernel
theorem dX9_keystone_24 : decode cX9_keystone 24 = .ok (.iconst (-1), 1) := by decide +kernel
theorem dX9_keystone_25 : decode cX9_keystone 25 = .ok (.istore 4, 2) := by decide +kernel
theorem dX9_keystone_27 : decode cX9_keystone 27 = .ok (.iconst (-1), 1) := by decide +kernel
theorem dX9_keystone_28 : decode cX9_keystone 28 = .ok (.istore 5, 2) := by decide +kernel
theorem dX9_keystone_30 : decode cX9_keystone 30 = .ok (.iconst 0, 1) := by decide +kernel
theorem dX9_keystone_31 : decode cX9_keystone 31 = .ok (.istore 6, 2) := by decide +kernel
theorem dX9_keystone_33 : decode cX9_keystone 33 = .ok (.iload 6, 2) := by decide +kernel
theorem dX9_keystone_35 : decode cX9_keystone 35 = .ok (.aload_n 3, 1) := by decide +kernel
theorem dX9_keystone_36 : decode cX9_keystone 36 = .ok (.getfield 246, 3) := by decide +kernel
theorem dX9_keystone_39 : decode cX9_keystone 39 = .ok (.if_icmp .ge 54, 3) := by decide +kernel
theorem dX9_keystone_42 : decode cX9_keystone 42 = .ok (.aload_n 0, 1) := by decide +kernel
theorem dX9_keystone_43 : decode cX9_keystone 43 = .ok (.getfield 39, 3) := by decide +kernel
theorem dX9_keystone_46 : decode cX9_keystone 46 = .ok (.iload 6, 2) := by decide +kernel
theorem dX9_keystone_48 : decode cX9_keystone 48 = .ok (.invokevirtual 139, 3) := by decide +kernel
theorem dX9_keystone_51 : decode cX9_keystone 51 = .ok (.ifCond .eq 18, 3) := by decide +kernel
theorem dX9_keystone_54 : decode cX9_keystone 54 = .ok (.aload_n 0, 1) := by decide +kernel
theorem dX9_keystone_55 : decode cX9_keystone 55 = .ok (.getfield 39, 3) := by decide +kernel
theorem dX9_keystone_58 : decode cX9_keystone 58 = .ok (.iload 6, 2) := by decide +kernel
theorem dX9_keystone_60 : decode cX9_keystone 60 = .ok (.invokevirtual 249, 3) := by decide +kernel
theorem dX9_keystone_63 : decode cX9_keystone 63 = .ok (.invokestatic 222, 3) := by decide +kernel
theorem dX9_keystone_66 : decode cX9_keystone 66 = .ok (.goto 4, 3) := by decide +kernel
theorem dX9_keystone_69 : decode cX9_keystone 69 = .ok (.iconst (-1), 1) := by decide +kernel
theorem dX9_keystone_70 : decode cX9_keystone 70 = .ok (.istore 7, 2) := by decide +kernel
theorem dX9_keystone_72 : decode cX9_keystone 72 = .ok (.iload 7, 2) := by decide +kernel
theorem dX9_keystone_74 : decode cX9_keystone 74 = .ok (.iload 5, 2) := by decide +kernel
theorem dX9_keystone_76 : decode cX9_keystone 76 = .ok (.if_icmp .le 11, 3) := by decide +kernel
theorem dX9_keystone_79 : decode cX9_keystone 79 = .ok (.iload 6, 2) := by decide +kernel
theorem dX9_keystone_81 : decode cX9_keystone 81 = .ok (.istore 4, 2) := by decide +kernel
theorem dX9_keystone_83 : decode cX9_keystone 83 = .ok (.iload 7, 2) := by decide +kernel
theorem dX9_keystone_85 : decode cX9_keystone 85 = .ok (.istore 5, 2) := by decide +kernel
theorem dX9_keystone_87 : decode cX9_keystone 87 = .ok (.iinc 6 1, 3) := by decide +kernel
theorem dX9_keystone_90 : decode cX9_keystone 90 = .ok (.goto (-57), 3) := by decide +kernel
theorem dX9_keystone_93 : decode cX9_keystone 93 = .ok (.iload_n 2, 1) := by decide +kernel
theorem dX9_keystone_94 : decode cX9_keystone 94 = .ok (.ifCond .eq 8, 3) := by decide +kernel
theorem dX9_keystone_97 : decode cX9_keystone 97 = .ok (.iload 5, 2) := by decide +kernel
theorem dX9_keystone_99 : decode cX9_keystone 99 = .ok (.goto 5, 3) := by decide +kernel
theorem dX9_keystone_102 : decode cX9_keystone 102 = .ok (.iload 4, 2) := by decide +kernel
theorem dX9_keystone_104 : decode cX9_keystone 104 = .ok (.ireturn, 1) := by decide +kernel
abbrev rmX9_keystone : Room := { frames := 3, cells := 0, slots := 0, locals := 123 }
def bX9_keystone_70 (k33 : Nat → Int32 → Nat → Int32 → Int32 → Int32 → AH → Option (Int32 × AH)) (a0 : Nat) (l2 : Int32) (a3 : Nat) (l4 : Int32) (l5 : Int32) (l6 : Int32) (s0 : Int32) (z : AH) : Option (Int32 × AH) :=
  if s0 ≤ l5 then (
    nm (l6 + (1 : Int32)) fun v87 =>
    k33 a0 l2 a3 l4 l5 v87 z
  ) else (
    nm (l6 + (1 : Int32)) fun v87 =>
    k33 a0 l2 a3 l6 s0 v87 z
  )
set_option maxHeartbeats 4000000 in
set_option maxRecDepth 100000 in
theorem kbX9_keystone_70 {p : Program} {l : Launch} {e : Env} {s : State} {m : MethodId} {args : Array Value} {below : List Frame} {meth : Method} {c : Code} {G : GW} {r : Int32} {z' : AH} (C : Cx p m c cX9_keystone 8 s args RX9 G) (hlk : meth.locks = false) (hr : meth.sig.returnType = (some .int)) (k33 : Nat → Int32 → Nat → Int32 → Int32 → Int32 → AH → Option (Int32 × AH)) (hk33 : ∀ (a0 : Nat) (l2 : Int32) (a3 : Nat) (l4 : Int32) (l5 : Int32) (l6 : Int32) (z : AH) (H : Heap) (locs : List Loc) (ls : Array Slot), k33 a0 l2 a3 l4 l5 l6 z = some (r, z') → Wb G z s H locs → lv_has ls 8 [(0, .ref (gB G + a0)), (2, .int l2), (3, .ref (gB G + a3)), (4, .int l4), (5, .int l5), (6, .int l6)] → W p l e rmX9_keystone s m args below meth c H locs 0 0 (MQ below (Qi G r z') args s 0 0 (AA G)) (F0 m 33 ls [])) (a0 : Nat) (l2 : Int32) (a3 : Nat) (l4 : Int32) (l5 : Int32) (l6 : Int32) (s0 : Int32) {z : AH} {H : Heap} {locs : List Loc} {ls : Array Slot} (h : bX9_keystone_70 k33 a0 l2 a3 l4 l5 l6 s0 z = some (r, z')) (hW : Wb G z s H locs) (hl : lv_has ls 8 [(0, .ref (gB G + a0)), (2, .int l2), (3, .ref (gB G + a3)), (4, .int l4), (5, .int l5), (6, .int l6)]) : W p l e rmX9_keystone s m args below meth c H locs 0 0 (MQ below (Qi G r z') args s 0 0 (AA G)) (F0 m 70 ls [.int s0]) := by
  have hx := C.1
  have hb := C.2.1
  unfold bX9_keystone_70 at h
  refine lv_istore (lv' := [(7, .int s0), (0, .ref (gB G + a0)), (2, .int l2), (3, .ref (gB G + a3)), (4, .int l4), (5, .int l5), (6, .int l6)]) hx hb dX9_keystone_70 hl (by decide) rfl (fun ls hl => ?_)
  refine lv_iload hx hb dX9_keystone_72 (lv_at hl 0 rfl) ?_
  refine lv_iload hx hb dX9_keystone_74 (lv_at hl 5 rfl) ?_
  refine lv_icmp_le (tgt := 87) hx hb dX9_keystone_76 (by decide) (fun c76 => ?_) (fun c76 => ?_)
  · have h := ite_t c76 h
    obtain ⟨v87, ev87⟩ : ∃ y : Int32, y = (l6 + (1 : Int32)) := ⟨_, rfl⟩
    have h := nm_to h ev87
    refine lv_iinc (v := v87) (lv' := [(6, .int v87), (7, .int s0), (0, .ref (gB G + a0)), (2, .int l2), (3, .ref (gB G + a3)), (4, .int l4), (5, .int l5)]) hx hb dX9_keystone_87 hl (k := 6) rfl (by rw [ev87]; rfl) (by decide) rfl (fun ls hl => ?_)
    refine lv_goto (tgt := 33) hx hb dX9_keystone_90 (by decide) ?_
    exact hk33 a0 l2 a3 l4 l5 v87 z _ _ _ h hW (lv_sub hl [2, 3, 4, 5, 6, 0] rfl)
  · have h := ite_f c76 h
    refine lv_iload hx hb dX9_keystone_79 (lv_at hl 6 rfl) ?_
    refine lv_istore (lv' := [(4, .int l6), (7, .int s0), (0, .ref (gB G + a0)), (2, .int l2), (3, .ref (gB G + a3)), (5, .int l5), (6, .int l6)]) hx hb dX9_keystone_81 hl (by decide) rfl (fun ls hl => ?_)
    refine lv_iload hx hb dX9_keystone_83 (lv_at hl 1 rfl) ?_
    refine lv_istore (lv' := [(5, .int s0), (4, .int l6), (7, .int s0), (0, .ref (gB G + a0)), (2, .int l2), (3, .ref (gB G + a3)), (6, .int l6)]) hx hb dX9_keystone_85 hl (by decide) rfl (fun ls hl => ?_)
    obtain ⟨v87, ev87⟩ : ∃ y : Int32, y = (l6 + (1 : Int32)) := ⟨_, rfl⟩
    have h := nm_to h ev87
    refine lv_iinc (v := v87) (lv' := [(6, .int v87), (5, .int s0), (4, .int l6), (7, .int s0), (0, .ref (gB G + a0)), (2, .int l2), (3, .ref (gB G + a3))]) hx hb dX9_keystone_87 hl (k := 6) rfl (by rw [ev87]; rfl) (by decide) rfl (fun ls hl => ?_)
    refine lv_goto (tgt := 33) hx hb dX9_keystone_90 (by decide) ?_
    exact hk33 a0 l2 a3 l6 s0 v87 z _ _ _ h hW (lv_sub hl [4, 5, 6, 2, 1, 0] rfl)
def bX9_keystone_33 (k33 : Nat → Int32 → Nat → Int32 → Int32 → Int32 → AH → Option (Int32 × AH)) (a0 : Nat) (l2 : Int32) (a3 : Nat) (l4 : Int32) (l5 : Int32) (l6 : Int32) (z : AH) : Option (Int32 × AH) :=
  (gI 0 0 z a3).bind fun x36 =>
  if x36 ≤ l6 then (
    if l2 = (0 : Int32) then (
      some (l4, z)
    ) else (
      some (l5, z)
    )
  ) else (
    (gN 8 4 z a0).bind fun b43 =>
    (fX6_isThere b43 l6 z).bind fun x48 =>
    if x48 = (0 : Int32) then (
      bX9_keystone_70 k33 a0 l2 a3 l4 l5 l6 (-1 : Int32) z
    ) else (
      (gN 8 4 z a0).bind fun b55 =>
      (fX6_restingOn b55 l6 z).bind fun x60 =>
      bX9_keystone_70 k33 a0 l2 a3 l4 l5 l6 (fJ6_bitCount_0f7a4 x60) z
    )
  )
set_option maxHeartbeats 4000000 in
set_option maxRecDepth 100000 in
theorem kbX9_keystone_33 {p : Program} {l : Launch} {e : Env} {s : State} {m : MethodId} {args : Array Value} {below : List Frame} {meth : Method} {c : Code} {G : GW} {r : Int32} {z' : AH} (C : Cx p m c cX9_keystone 8 s args RX9 G) (hlk : meth.locks = false) (hr : meth.sig.returnType = (some .int)) (k33 : Nat → Int32 → Nat → Int32 → Int32 → Int32 → AH → Option (Int32 × AH)) (hk33 : ∀ (a0 : Nat) (l2 : Int32) (a3 : Nat) (l4 : Int32) (l5 : Int32) (l6 : Int32) (z : AH) (H : Heap) (locs : List Loc) (ls : Array Slot), k33 a0 l2 a3 l4 l5 l6 z = some (r, z') → Wb G z s H locs → lv_has ls 8 [(0, .ref (gB G + a0)), (2, .int l2), (3, .ref (gB G + a3)), (4, .int l4), (5, .int l5), (6, .int l6)] → W p l e rmX9_keystone s m args below meth c H locs 0 0 (MQ below (Qi G r z') args s 0 0 (AA G)) (F0 m 33 ls [])) (a0 : Nat) (l2 : Int32) (a3 : Nat) (l4 : Int32) (l5 : Int32) (l6 : Int32) {z : AH} {H : Heap} {locs : List Loc} {ls : Array Slot} (h : bX9_keystone_33 k33 a0 l2 a3 l4 l5 l6 z = some (r, z')) (hW : Wb G z s H locs) (hl : lv_has ls 8 [(0, .ref (gB G + a0)), (2, .int l2), (3, .ref (gB G + a3)), (4, .int l4), (5, .int l5), (6, .int l6)]) : W p l e rmX9_keystone s m args below meth c H locs 0 0 (MQ below (Qi G r z') args s 0 0 (AA G)) (F0 m 33 ls []) := by
  have hx := C.1
  have hb := C.2.1
  unfold bX9_keystone_33 at h
  refine lv_iload hx hb dX9_keystone_33 (lv_at hl 5 rfl) ?_
  refine lv_aload_n hx hb dX9_keystone_35 rfl (lv_at hl 2 rfl) ?_
  obtain ⟨x36, hg, h⟩ := ob h
  refine wz_gI C hW flX9_246 hg dX9_keystone_36 ?_
  refine lv_icmp_ge (tgt := 93) hx hb dX9_keystone_39 (by decide) (fun c39 => ?_) (fun c39 => ?_)
  · have h := ite_t c39 h
    refine lv_iload_n hx hb dX9_keystone_93 rfl (lv_at hl 1 rfl) ?_
    refine lv_if_eq (tgt := 102) hx hb dX9_keystone_94 (by decide) (fun c94 => ?_) (fun c94 => ?_)
    · have h := ite_t c94 h
      refine lv_iload hx hb dX9_keystone_102 (lv_at hl 3 rfl) ?_
      exact wz_iretE C hlk hr (so2 h).1 (so2 h).2 hW dX9_keystone_104
    · have h := ite_f c94 h
      refine lv_iload hx hb dX9_keystone_97 (lv_at hl 4 rfl) ?_
      refine lv_goto (tgt := 104) hx hb dX9_keystone_99 (by decide) ?_
      exact wz_iretE C hlk hr (so2 h).1 (so2 h).2 hW dX9_keystone_104
  · have h := ite_f c39 h
    refine lv_aload_n hx hb dX9_keystone_42 rfl (lv_at hl 0 rfl) ?_
    obtain ⟨b43, hg, h⟩ := ob h
    refine wz_gN C hW flX9_39 hg dX9_keystone_43 ?_
    refine lv_iload hx hb dX9_keystone_46 (lv_at hl 5 rfl) ?_
    obtain ⟨x48, hq, h⟩ := ob h
    refine wz_rI (c' := 0) (s' := 0) hW (wz_runV (rest := []) C hW lVX9_139 (ck hq).1 rfl (ctX6_isThere l G b43 l6 z hq) ⟨⟨rfl, rfl⟩, Nat.le_of_ble_eq_true rfl, Nat.le_of_ble_eq_true rfl⟩ rfl hl.1 rfl (Nat.le_of_ble_eq_true rfl) dX9_keystone_48 ⟨Nat.le_of_ble_eq_true rfl, Nat.le_of_ble_eq_true rfl⟩) rfl rfl (fun H locs hW => ?_)
    refine lv_if_eq (tgt := 69) hx hb dX9_keystone_51 (by decide) (fun c51 => ?_) (fun c51 => ?_)
    · have h := ite_t c51 h
      refine lv_iconst (v := -1) hx hb dX9_keystone_69 (by decide) ?_
      exact kbX9_keystone_70 C hlk hr k33 hk33 a0 l2 a3 l4 l5 l6 (-1 : Int32) h hW (lv_sub hl [0, 1, 2, 3, 4, 5] rfl)
    · have h := ite_f c51 h
      refine lv_aload_n hx hb dX9_keystone_54 rfl (lv_at hl 0 rfl) ?_
      obtain ⟨b55, hg, h⟩ := ob h
      refine wz_gN C hW flX9_39 hg dX9_keystone_55 ?_
      refine lv_iload hx hb dX9_keystone_58 (lv_at hl 5 rfl) ?_
      obtain ⟨x60, hq, h⟩ := ob h
      refine wz_rI (c' := 0) (s' := 0) hW (wz_runV (rest := []) C hW lVX9_249 (ck hq).1 rfl (ctX6_restingOn l G b55 l6 z hq) ⟨⟨rfl, rfl⟩, Nat.le_of_ble_eq_true rfl, Nat.le_of_ble_eq_true rfl⟩ rfl hl.1 rfl (Nat.le_of_ble_eq_true rfl) dX9_keystone_60 ⟨Nat.le_of_ble_eq_true rfl, Nat.le_of_ble_eq_true rfl⟩) rfl rfl (fun H locs hW => ?_)
      refine wz_rI (c' := 0) (s' := 0) hW (wz_runS (rest := []) C hW lTX9_222 (ctJ6_bitCount_0f7a4 l G x60 z rfl) ⟨⟨rfl, rfl⟩, Nat.le_of_ble_eq_true rfl, Nat.le_of_ble_eq_true rfl⟩ rfl hl.1 rfl (Nat.le_of_ble_eq_true rfl) dX9_keystone_63 ⟨Nat.le_of_ble_eq_true rfl, Nat.le_of_ble_eq_true rfl⟩) rfl rfl (fun H locs hW => ?_)
      refine lv_goto (tgt := 70) hx hb dX9_keystone_66 (by decide) ?_
      exact kbX9_keystone_70 C hlk hr k33 hk33 a0 l2 a3 l4 l5 l6 (fJ6_bitCount_0f7a4 x60) h hW (lv_sub hl [0, 1, 2, 3, 4, 5] rfl)
def fX9_keystone_33 : Nat → Nat → Int32 → Nat → Int32 → Int32 → Int32 → AH → Option (Int32 × AH)
  | 0, _, _, _, _, _, _, _ => none
  | n + 1, a0, l2, a3, l4, l5, l6, z => bX9_keystone_33 (fX9_keystone_33 n) a0 l2 a3 l4 l5 l6 z
theorem klX9_keystone_33 {p : Program} {l : Launch} {e : Env} {s : State} {m : MethodId} {args : Array Value} {below : List Frame} {meth : Method} {c : Code} {G : GW} {r : Int32} {z' : AH} (C : Cx p m c cX9_keystone 8 s args RX9 G) (hlk : meth.locks = false) (hr : meth.sig.returnType = (some .int)) : ∀ (n : Nat) (a0 : Nat) (l2 : Int32) (a3 : Nat) (l4 : Int32) (l5 : Int32) (l6 : Int32) (z : AH) (H : Heap) (locs : List Loc) (ls : Array Slot), fX9_keystone_33 n a0 l2 a3 l4 l5 l6 z = some (r, z') → Wb G z s H locs → lv_has ls 8 [(0, .ref (gB G + a0)), (2, .int l2), (3, .ref (gB G + a3)), (4, .int l4), (5, .int l5), (6, .int l6)] → W p l e rmX9_keystone s m args below meth c H locs 0 0 (MQ below (Qi G r z') args s 0 0 (AA G)) (F0 m 33 ls []) := by
  intro n
  induction n with
  | zero => intro a0 l2 a3 l4 l5 l6 z H locs ls h; have h : (none : Option (Int32 × AH)) = some (r, z') := h; cases h
  | succ n ih => intro a0 l2 a3 l4 l5 l6 z H locs ls h hW hl; exact kbX9_keystone_33 C hlk hr (fX9_keystone_33 n) (fun a0 l2 a3 l4 l5 l6 z H locs ls h hW hl => ih a0 l2 a3 l4 l5 l6 z H locs ls h hW hl) a0 l2 a3 l4 l5 l6 h hW hl
def fX9_keystone (a0 : Nat) (l1 : Int32) (l2 : Int32) (z : AH) : Option (Int32 × AH) :=
  if isO 8 z a0 = true then
    (gN 8 0 z a0).bind fun b1 =>
    (fX7_countryAt b1 l1 z).bind fun q5_ =>
    nq q5_ (
      some ((-2 : Int32), z)
    ) fun b8 =>
    (gN 8 4 z a0).bind fun b17 =>
    (fX6_begin b17 b8 z).bind fun z21 =>
    fX9_keystone_33 FU a0 l2 b8 (-1 : Int32) (-1 : Int32) (0 : Int32) z21
  else none
set_option maxHeartbeats 4000000 in
set_option maxRecDepth 100000 in
theorem ctX9_keystone (l : Launch) (G : GW) (a0 : Nat) (l1 : Int32) (l2 : Int32) (z : AH) {r : Int32} {z' : AH} (h : fX9_keystone a0 l1 l2 z = some (r, z')) : Met l yX9_keystone (wy yX9_keystone cX9_keystone 8 (some .int)) rmX9_keystone (Pz G [.ref (gB G + a0), .int l1, .int l2] z) (Qi G r z') 0 0 (AA G) := by
  refine wz_ent (own := RX9) (by decide +kernel) rfl (fun p e s m below meth c ls C hlk hr hin hW hl => ?_) (Nat.le_of_ble_eq_true rfl)
  have hl : lv_has ls 8 [(0, .ref (gB G + a0)), (1, .int l1), (2, .int l2)] := hl
  have hx := C.1
  have hb := C.2.1
  unfold fX9_keystone at h
  obtain ⟨-, h⟩ := ck h
  refine lv_aload_n hx hb dX9_keystone_0 rfl (lv_at hl 0 rfl) ?_
  obtain ⟨b1, hg, h⟩ := ob h
  refine wz_gN C hW flX9_13 hg dX9_keystone_1 ?_
  refine lv_iload_n hx hb dX9_keystone_4 rfl (lv_at hl 1 rfl) ?_
  obtain ⟨q5_, hq, h⟩ := ob h
  refine wz_rQ (c' := 0) (s' := 0) hW (wz_runV (rest := []) C hW lVX9_108 (ck hq).1 rfl (ctX7_countryAt l G b1 l1 z hq) ⟨⟨rfl, rfl⟩, Nat.le_of_ble_eq_true rfl, Nat.le_of_ble_eq_true rfl⟩ rfl hl.1 rfl (Nat.le_of_ble_eq_true rfl) dX9_keystone_5 ⟨Nat.le_of_ble_eq_true rfl, Nat.le_of_ble_eq_true rfl⟩) rfl rfl (fun H locs hW => ?_)
  cases q5_ with
  | none =>
    have h := nq_n h
    refine lv_astore_nN (lv' := [(3, .null), (0, .ref (gB G + a0)), (1, .int l1), (2, .int l2)]) hx hb dX9_keystone_8 rfl hl (by decide) rfl (fun ls hl => ?_)
    refine lv_aload_nN hx hb dX9_keystone_9 rfl (lv_at hl 0 rfl) ?_
    refine lv_ifnonnullN hx hb dX9_keystone_10 ?_
    refine lv_bipush (v := -2) hx hb dX9_keystone_13 (by decide) ?_
    exact wz_iretE C hlk hr (so2 h).1 (so2 h).2 hW dX9_keystone_15
  | some b8 =>
    have h := nq_s h
    refine lv_astore_n (lv' := [(3, .ref (gB G + b8)), (0, .ref (gB G + a0)), (1, .int l1), (2, .int l2)]) hx hb dX9_keystone_8 rfl hl (by decide) rfl (fun ls hl => ?_)
    refine lv_aload_n hx hb dX9_keystone_9 rfl (lv_at hl 0 rfl) ?_
    refine lv_ifnonnull (tgt := 16) hx hb dX9_keystone_10 (by decide) ?_
    refine lv_aload_n hx hb dX9_keystone_16 rfl (lv_at hl 1 rfl) ?_
    obtain ⟨b17, hg, h⟩ := ob h
    refine wz_gN C hW flX9_39 hg dX9_keystone_17 ?_
    refine lv_aload_n hx hb dX9_keystone_20 rfl (lv_at hl 0 rfl) ?_
    obtain ⟨z21, hq, h⟩ := ob h
    refine wz_rV (c' := 0) (s' := 0) hW (wz_runV (rest := []) C hW lVX9_127 (ck hq).1 rfl (ctX6_begin l G b17 b8 z hq) ⟨⟨rfl, rfl⟩, Nat.le_of_ble_eq_true rfl, Nat.le_of_ble_eq_true rfl⟩ rfl hl.1 rfl (Nat.le_of_ble_eq_true rfl) dX9_keystone_21 ⟨Nat.le_of_ble_eq_true rfl, Nat.le_of_ble_eq_true rfl⟩) rfl rfl (fun H locs hW => ?_)
    refine lv_iconst (v := -1) hx hb dX9_keystone_24 (by decide) ?_
    refine lv_istore (lv' := [(4, .int (-1 : Int32)), (3, .ref (gB G + b8)), (0, .ref (gB G + a0)), (1, .int l1), (2, .int l2)]) hx hb dX9_keystone_25 hl (by decide) rfl (fun ls hl => ?_)
    refine lv_iconst (v := -1) hx hb dX9_keystone_27 (by decide) ?_
    refine lv_istore (lv' := [(5, .int (-1 : Int32)), (4, .int (-1 : Int32)), (3, .ref (gB G + b8)), (0, .ref (gB G + a0)), (1, .int l1), (2, .int l2)]) hx hb dX9_keystone_28 hl (by decide) rfl (fun ls hl => ?_)
    refine lv_iconst (v := 0) hx hb dX9_keystone_30 (by decide) ?_
    refine lv_istore (lv' := [(6, .int (0 : Int32)), (5, .int (-1 : Int32)), (4, .int (-1 : Int32)), (3, .ref (gB G + b8)), (0, .ref (gB G + a0)), (1, .int l1), (2, .int l2)]) hx hb dX9_keystone_31 hl (by decide) rfl (fun ls hl => ?_)
    exact klX9_keystone_33 C hlk hr FU a0 l2 b8 (-1 : Int32) (-1 : Int32) (0 : Int32) z21 _ _ _ h hW (lv_sub hl [4, 6, 3, 2, 1, 0] rfl)
theorem lVX9_268 : LV RX9 268 yX6_fewestHoursToMeet cX6_fewestHoursToMeet 6 (some .int) 2 := ⟨tw 1150 (by decide +kernel) rfl, tw 1151 (by decide +kernel) rfl, tw 1152 (by decide +kernel) rfl, tw 124 (by decide +kernel) rfl, tw 1153 (by decide +kernel) rfl, ⟨by decide +kernel, by decide +kernel, by decide +kernel⟩⟩
theorem dX9_meet_0 : decode cX9_meet 0 = .ok (.aload_n 0, 1) := by decide +kernel
theorem dX9_meet_1 : decode cX9_meet 1 = .ok (.getfield 13, 3) := by decide +kernel
theorem dX9_meet_4 : decode cX9_meet 4 = .ok (.iload_n 1, 1) := by decide +kernel
theorem dX9_meet_5 : decode cX9_meet 5 = .ok (.invokevirtual 108, 3) := by decide +kernel
theorem dX9_meet_8 : decode cX9_meet 8 = .ok (.astore 4, 2) := by decide +kernel
theorem dX9_meet_10 : decode cX9_meet 10 = .ok (.aload 4, 2) := by decide +kernel
theorem dX9_meet_12 : decode cX9_meet 12 = .ok (.ifnull 21, 3) := by decide +kernel
theorem dX9_meet_15 : decode cX9_meet 15 = .ok (.aload 4, 2) := by decide +kernel
theorem dX9_meet_17 : decode cX9_meet 17 = .ok (.iload_n 2, 1) := by decide +kernel
theorem dX9_meet_18 : decode cX9_meet 18 = .ok (.invokevirtual 135, 3) := by decide +kernel
theorem dX9_meet_21 : decode cX9_meet 21 = .ok (.ifCond .eq 12, 3) := by decide +kernel
theorem dX9_meet_24 : decode cX9_meet 24 = .ok (.aload 4, 2) := by decide +kernel
theorem dX9_meet_26 : decode cX9_meet 26 = .ok (.iload_n 3, 1) := by decide +kernel
theorem dX9_meet_27 : decode cX9_meet 27 = .ok (.invokevirtual 135, 3) := by decide +kernel
theorem dX9_meet_30 : decode cX9_meet 30 = .ok (.ifCond .ne 5, 3) := by decide +kernel
theorem dX9_meet_33 : decode cX9_meet 33 = .ok (.iconst (-1), 1) := by decide +kernel
theorem dX9_meet_34 : decode cX9_meet 34 = .ok (.ireturn, 1) := by decide +kernel
theorem dX9_meet_35 : decode cX9_meet 35 = .ok (.aload_n 0, 1) := by decide +kernel
theorem dX9_meet_36 : decode cX9_meet 36 = .ok (.getfield 39, 3) := by decide +kernel
theorem dX9_meet_39 : decode cX9_meet 39 = .ok (.aload 4, 2) := by decide +kernel
theorem dX9_meet_41 : decode cX9_meet 41 = .ok (.invokevirtual 127, 3) := by decide +kernel
theorem dX9_meet_44 : decode cX9_meet 44 = .ok (.aload_n 0, 1) := by decide +kernel
theorem dX9_meet_45 : decode cX9_meet 45 = .ok (.getfield 39, 3) := by decide +kernel
theorem dX9_meet_48 : decode cX9_meet 48 = .ok (.iload_n 2, 1) := by decide +kernel
theorem dX9_meet_49 : decode cX9_meet 49 = .ok (.iload_n 3, 1) := by decide +kernel
theorem dX9_meet_50 : decode cX9_meet 50 = .ok (.invokevirtual 268, 3) := by decide +kernel
theorem dX9_meet_53 : decode cX9_meet 53 = .ok (.ireturn, 1) := by decide +kernel
abbrev rmX9_meet : Room := { frames := 4, cells := 0, slots := 0, locals := 123 }
def fX9_meet (a0 : Nat) (l1 : Int32) (l2 : Int32) (l3 : Int32) (z : AH) : Option (Int32 × AH) :=
  if isO 8 z a0 = true then
    (gN 8 0 z a0).bind fun b1 =>
    (fX7_countryAt b1 l1 z).bind fun q5_ =>
    nq q5_ (
      some ((-1 : Int32), z)
    ) fun b8 =>
    (fX0_hasThing b8 l2 z).bind fun x18 =>
    if x18 = (0 : Int32) then (
      some ((-1 : Int32), z)
    ) else (
      (fX0_hasThing b8 l3 z).bind fun x27 =>
      if x27 = (0 : Int32) then (
        some ((-1 : Int32), z)
      ) else (
        (gN 8 4 z a0).bind fun b36 =>
        (fX6_begin b36 b8 z).bind fun z41 =>
        (gN 8 4 z41 a0).bind fun b45 =>
        b2 (fX6_fewestHoursToMeet b45 l2 l3 z41) fun x50 z50 =>
        some (x50, z50)
      )
    )
  else none
set_option maxHeartbeats 4000000 in
set_option maxRecDepth 100000 in
theorem ctX9_meet (l : Launch) (G : GW) (a0 : Nat) (l1 : Int32) (l2 : Int32) (l3 : Int32) (z : AH) {r : Int32} {z' : AH} (h : fX9_meet a0 l1 l2 l3 z = some (r, z')) : Met l yX9_meet (wy yX9_meet cX9_meet 5 (some .int)) rmX9_meet (Pz G [.ref (gB G + a0), .int l1, .int l2, .int l3] z) (Qi G r z') 0 0 (AA G) := by
  refine wz_ent (own := RX9) (by decide +kernel) rfl (fun p e s m below meth c ls C hlk hr hin hW hl => ?_) (Nat.le_of_ble_eq_true rfl)
  have hl : lv_has ls 5 [(0, .ref (gB G + a0)), (1, .int l1), (2, .int l2), (3, .int l3)] := hl
  have hx := C.1
  have hb := C.2.1
  unfold fX9_meet at h
  obtain ⟨-, h⟩ := ck h
  refine lv_aload_n hx hb dX9_meet_0 rfl (lv_at hl 0 rfl) ?_
  obtain ⟨b1, hg, h⟩ := ob h
  refine wz_gN C hW flX9_13 hg dX9_meet_1 ?_
  refine lv_iload_n hx hb dX9_meet_4 rfl (lv_at hl 1 rfl) ?_
  obtain ⟨q5_, hq, h⟩ := ob h
  refine wz_rQ (c' := 0) (s' := 0) hW (wz_runV (rest := []) C hW lVX9_108 (ck hq).1 rfl (ctX7_countryAt l G b1 l1 z hq) ⟨⟨rfl, rfl⟩, Nat.le_of_ble_eq_true rfl, Nat.le_of_ble_eq_true rfl⟩ rfl hl.1 rfl (Nat.le_of_ble_eq_true rfl) dX9_meet_5 ⟨Nat.le_of_ble_eq_true rfl, Nat.le_of_ble_eq_true rfl⟩) rfl rfl (fun H locs hW => ?_)
  cases q5_ with
  | none =>
    have h := nq_n h
    refine lv_astoreN (lv' := [(4, .null), (0, .ref (gB G + a0)), (1, .int l1), (2, .int l2), (3, .int l3)]) hx hb dX9_meet_8 hl (by decide) rfl (fun ls hl => ?_)
    refine lv_aloadN hx hb dX9_meet_10 (lv_at hl 0 rfl) ?_
    refine lv_ifnullN (tgt := 33) hx hb dX9_meet_12 (by decide) ?_
    refine lv_iconst (v := -1) hx hb dX9_meet_33 (by decide) ?_
    exact wz_iretE C hlk hr (so2 h).1 (so2 h).2 hW dX9_meet_34
  | some b8 =>
    have h := nq_s h
    refine lv_astore (lv' := [(4, .ref (gB G + b8)), (0, .ref (gB G + a0)), (1, .int l1), (2, .int l2), (3, .int l3)]) hx hb dX9_meet_8 hl (by decide) rfl (fun ls hl => ?_)
    refine lv_aload hx hb dX9_meet_10 (lv_at hl 0 rfl) ?_
    refine lv_ifnull hx hb dX9_meet_12 ?_
    refine lv_aload hx hb dX9_meet_15 (lv_at hl 0 rfl) ?_
    refine lv_iload_n hx hb dX9_meet_17 rfl (lv_at hl 3 rfl) ?_
    obtain ⟨x18, hq, h⟩ := ob h
    refine wz_rI (c' := 0) (s' := 0) hW (wz_runV (rest := []) C hW lVX9_135 (ck hq).1 rfl (ctX0_hasThing l G b8 l2 z hq) ⟨⟨rfl, rfl⟩, Nat.le_of_ble_eq_true rfl, Nat.le_of_ble_eq_true rfl⟩ rfl hl.1 rfl (Nat.le_of_ble_eq_true rfl) dX9_meet_18 ⟨Nat.le_of_ble_eq_true rfl, Nat.le_of_ble_eq_true rfl⟩) rfl rfl (fun H locs hW => ?_)
    refine lv_if_eq (tgt := 33) hx hb dX9_meet_21 (by decide) (fun c21 => ?_) (fun c21 => ?_)
    · have h := ite_t c21 h
      refine lv_iconst (v := -1) hx hb dX9_meet_33 (by decide) ?_
      exact wz_iretE C hlk hr (so2 h).1 (so2 h).2 hW dX9_meet_34
    · have h := ite_f c21 h
      refine lv_aload hx hb dX9_meet_24 (lv_at hl 0 rfl) ?_
      refine lv_iload_n hx hb dX9_meet_26 rfl (lv_at hl 4 rfl) ?_
      obtain ⟨x27, hq, h⟩ := ob h
      refine wz_rI (c' := 0) (s' := 0) hW (wz_runV (rest := []) C hW lVX9_135 (ck hq).1 rfl (ctX0_hasThing l G b8 l3 z hq) ⟨⟨rfl, rfl⟩, Nat.le_of_ble_eq_true rfl, Nat.le_of_ble_eq_true rfl⟩ rfl hl.1 rfl (Nat.le_of_ble_eq_true rfl) dX9_meet_27 ⟨Nat.le_of_ble_eq_true rfl, Nat.le_of_ble_eq_true rfl⟩) rfl rfl (fun H locs hW => ?_)
      refine lv_if_ne (tgt := 35) hx hb dX9_meet_30 (by decide) (fun c30 => ?_) (fun c30 => ?_)
      · have h := ite_f c30 h
        refine lv_aload_n hx hb dX9_meet_35 rfl (lv_at hl 1 rfl) ?_
        obtain ⟨b36, hg, h⟩ := ob h
        refine wz_gN C hW flX9_39 hg dX9_meet_36 ?_
        refine lv_aload hx hb dX9_meet_39 (lv_at hl 0 rfl) ?_
        obtain ⟨z41, hq, h⟩ := ob h
        refine wz_rV (c' := 0) (s' := 0) hW (wz_runV (rest := []) C hW lVX9_127 (ck hq).1 rfl (ctX6_begin l G b36 b8 z hq) ⟨⟨rfl, rfl⟩, Nat.le_of_ble_eq_true rfl, Nat.le_of_ble_eq_true rfl⟩ rfl hl.1 rfl (Nat.le_of_ble_eq_true rfl) dX9_meet_41 ⟨Nat.le_of_ble_eq_true rfl, Nat.le_of_ble_eq_true rfl⟩) rfl rfl (fun H locs hW => ?_)
        refine lv_aload_n hx hb dX9_meet_44 rfl (lv_at hl 1 rfl) ?_
        obtain ⟨b45, hg, h⟩ := ob h
        refine wz_gN C hW flX9_39 hg dX9_meet_45 ?_
        refine lv_iload_n hx hb dX9_meet_48 rfl (lv_at hl 3 rfl) ?_
        refine lv_iload_n hx hb dX9_meet_49 rfl (lv_at hl 4 rfl) ?_
        obtain ⟨x50, z50, hq, h⟩ := ob2 h
        refine wz_rI (c' := 0) (s' := 0) hW (wz_runV (rest := []) C hW lVX9_268 (ck hq).1 rfl (ctX6_fewestHoursToMeet l G b45 l2 l3 z41 hq) ⟨⟨rfl, rfl⟩, Nat.le_of_ble_eq_true rfl, Nat.le_of_ble_eq_true rfl⟩ rfl hl.1 rfl (Nat.le_of_ble_eq_true rfl) dX9_meet_50 ⟨Nat.le_of_ble_eq_true rfl, Nat.le_of_ble_eq_true rfl⟩) rfl rfl (fun H locs hW => ?_)
        exact wz_iretE C hlk hr (so2 h).1 (so2 h).2 hW dX9_meet_53
      · have h := ite_t c30 h
        refine lv_iconst (v := -1) hx hb dX9_meet_33 (by decide) ?_
        exact wz_iretE C hlk hr (so2 h).1 (so2 h).2 hW dX9_meet_34
theorem flX9_271 : FL RX9 271 5 6 := ⟨_, rfl, Nat.le_of_ble_eq_true rfl, tw 359 (by decide +kernel) rfl, rfl⟩
theorem flX9_274 : FL RX9 274 5 7 := ⟨_, rfl, Nat.le_of_ble_eq_true rfl, tw 361 (by decide +kernel) rfl, rfl⟩
theorem flX9_277 : FL RX9 277 5 13 := ⟨_, rfl, Nat.le_of_ble_eq_true rfl, tw 370 (by decide +kernel) rfl, rfl⟩
theorem lVX9_280 : LV RX9 280 yX6_busiest cX6_busiest 4 (some .int) 0 := ⟨tw 1158 (by decide +kernel) rfl, tw 1159 (by decide +kernel) rfl, tw 1160 (by decide +kernel) rfl, tw 124 (by decide +kernel) rfl, tw 1161 (by decide +kernel) rfl, ⟨by decide +kernel, by decide +kernel, by decide +kernel⟩⟩
theorem flX9_283 : FL RX9 283 5 12 := ⟨_, rfl, Nat.le_of_ble_eq_true rfl, tw 368 (by decide +kernel) rfl, rfl⟩
theorem dX9_after_0 : decode cX9_after 0 = .ok (.aload_n 0, 1) := by decide +kernel
theorem dX9_after_1 : decode cX9_after 1 = .ok (.getfield 13, 3) := by decide +kernel
theorem dX9_after_4 : decode cX9_after 4 = .ok (.iload_n 1, 1) := by decide +kernel
theorem dX9_after_5 : decode cX9_after 5 = .ok (.invokevirtual 108, 3) := by decide +kernel
theorem dX9_after_8 : decode cX9_after 8 = .ok (.astore 4, 2) := by decide +kernel
theorem dX9_after_10 : decode cX9_after 10 = .ok (.aload_n 0, 1) := by decide +kernel
theorem dX9_after_11 : decode cX9_after 11 = .ok (.getfield 13, 3) := by decide +kernel
theorem dX9_after_14 : decode cX9_after 14 = .ok (.iconst 1, 1) := by decide +kernel
theorem dX9_after_15 : decode cX9_after 15 = .ok (.iload_n 2, 1) := by decide +kernel
theorem dX9_after_16 : decode cX9_after 16 = .ok (.invokevirtual 116, 3) := by decide +kernel
theorem dX9_after_19 : decode cX9_after 19 = .ok (.astore 5, 2) := by decide +kernel
theorem dX9_after_21 : decode cX9_after 21 = .ok (.aload 4, 2) := by decide +kernel
theorem dX9_after_23 : decode cX9_after 23 = .ok (.ifnull 8, 3) := by decide +kernel
theorem dX9_after_26 : decode cX9_after 26 = .ok (.aload 5, 2) := by decide +kernel
theorem dX9_after_28 : decode cX9_after 28 = .ok (.ifnonnull 6, 3) := by decide +kernel
theorem dX9_after_31 : decode cX9_after 31 = .ok (.bipush (-2), 2) := by decide +kernel
theorem dX9_after_33 : decode cX9_after 33 = .ok (.ireturn, 1) := by decide +kernel
theorem dX9_after_34 : decode cX9_after 34 = .ok (.aload_n 0, 1) := by decide +kernel
theorem dX9_after_35 : decode cX9_after 35 = .ok (.getfield 39, 3) := by decide +kernel
theorem dX9_after_38 : decode cX9_after 38 = .ok (.aload 4, 2) := by decide +kernel
theorem dX9_after_40 : decode cX9_after 40 = .ok (.invokevirtual 127, 3) := by decide +kernel
theorem dX9_after_43 : decode cX9_after 43 = .ok (.aload_n 0, 1) := by decide +kernel
theorem dX9_after_44 : decode cX9_after 44 = .ok (.getfield 39, 3) := by decide +kernel
theorem dX9_after_47 : decode cX9_after 47 = .ok (.aload 5, 2) := by decide +kernel
theorem dX9_after_49 : decode cX9_after 49 = .ok (.aload 5, 2) := by decide +kernel
theorem dX9_after_51 : decode cX9_after 51 = .ok (.getfield 120, 3) := by decide +kernel
theorem dX9_after_54 : decode cX9_after 54 = .ok (.invokevirtual 130, 3) := by decide +kernel
theorem dX9_after_57 : decode cX9_after 57 = .ok (.pop, 1) := by decide +kernel
theorem dX9_after_58 : decode cX9_after 58 = .ok (.iload_n 3, 1) := by decide +kernel
theorem dX9_after_59 : decode cX9_after 59 = .ok (.tableswitch 74 0 3 #[29, 50, 58, 66], 29) := by decide +kernel
theorem dX9_after_88 : decode cX9_after 88 = .ok (.aload_n 0, 1) := by decide +kernel
theorem dX9_after_89 : decode cX9_after 89 = .ok (.getfield 39, 3) := by decide +kernel
theorem dX9_after_92 : decode cX9_after 92 = .ok (.getfield 271, 3) := by decide +kernel
theorem dX9_after_95 : decode cX9_after 95 = .ok (.aload_n 0, 1) := by decide +kernel
theorem dX9_after_96 : decode cX9_after 96 = .ok (.getfield 39, 3) := by decide +kernel
theorem dX9_after_99 : decode cX9_after 99 = .ok (.getfield 274, 3) := by decide +kernel
theorem dX9_after_102 : decode cX9_after 102 = .ok (.iconst (-1), 1) := by decide +kernel
theorem dX9_after_103 : decode cX9_after 103 = .ok (.ixor, 1) := by decide +kernel
theorem dX9_after_104 : decode cX9_after 104 = .ok (.iand, 1) := by decide +kernel
theorem dX9_after_105 : decode cX9_after 105 = .ok (.invokestatic 222, 3) := by decide +kernel
theorem dX9_after_108 : decode cX9_after 108 = .ok (.ireturn, 1) := by decide +kernel
theorem dX9_after_109 : decode cX9_after 109 = .ok (.aload_n 0, 1) := by decide +kernel
theorem dX9_after_110 : decode cX9_after 110 = .ok (.getfield 39, 3) := by decide +kernel
theorem dX9_after_113 : decode cX9_after 113 = .ok (.getfield 277, 3) := by decide +kernel
theorem dX9_after_116 : decode cX9_after 116 = .ok (.ireturn, 1) := by decide +kernel
theorem dX9_after_117 : decode cX9_after 117 = .ok (.aload_n 0, 1) := by decide +kernel
theorem dX9_after_118 : decode cX9_after 118 = .ok (.getfield 39, 3) := by decide +kernel
theorem dX9_after_121 : decode cX9_after 121 = .ok (.invokevirtual 280, 3) := by decide +kernel
theorem dX9_after_124 : decode cX9_after 124 = .ok (.ireturn, 1) := by decide +kernel
theorem dX9_after_125 : decode cX9_after 125 = .ok (.aload_n 0, 1) := by decide +kernel
theorem dX9_after_126 : decode cX9_after 126 = .ok (.getfield 39, 3) := by decide +kernel
theorem dX9_after_129 : decode cX9_after 129 = .ok (.getfield 283, 3) := by decide +kernel
theorem dX9_after_132 : decode cX9_after 132 = .ok (.ireturn, 1) := by decide +kernel
theorem dX9_after_133 : decode cX9_after 133 = .ok (.bipush (-2), 2) := by decide +kernel
theorem dX9_after_135 : decode cX9_after 135 = .ok (.ireturn, 1) := by decide +kernel
abbrev rmX9_after : Room := { frames := 5, cells := 0, slots := 0, locals := 123 }
def fX9_after (a0 : Nat) (l1 : Int32) (l2 : Int32) (l3 : Int32) (z : AH) : Option (Int32 × AH) :=
  if isO 8 z a0 = true then
    (gN 8 0 z a0).bind fun b1 =>
    (fX7_countryAt b1 l1 z).bind fun q5_ =>
    nq q5_ (
      (gN 8 0 z a0).bind fun b11 =>
      (fX7_rowsAt b11 (1 : Int32) l2 z).bind fun q16_ =>
      nq q16_ (
        some ((-2 : Int32), z)
      ) fun b19 =>
      some ((-2 : Int32), z)
    ) fun b8 =>
    (gN 8 0 z a0).bind fun b11 =>
    (fX7_rowsAt b11 (1 : Int32) l2 z).bind fun q16_ =>
    nq q16_ (
      some ((-2 : Int32), z)
    ) fun b19 =>
    (gN 8 4 z a0).bind fun b35 =>
    (fX6_begin b35 b8 z).bind fun z40 =>
    (gN 8 4 z40 a0).bind fun b44 =>
    (gI 4 3 z40 b19).bind fun x51 =>
    b2 (fX6_live b44 b19 x51 z40) fun x54 z54 =>
    if l3 = (0 : Int32) then (
      (gN 8 4 z54 a0).bind fun b89 =>
      (gI 5 6 z54 b89).bind fun x92 =>
      (gN 8 4 z54 a0).bind fun b96 =>
      (gI 5 7 z54 b96).bind fun x99 =>
      some ((fJ6_bitCount_0f7a4 (x92 &&& (x99 ^^^ (-1 : Int32)))), z54)
    ) else
    if l3 = (1 : Int32) then (
      (gN 8 4 z54 a0).bind fun b110 =>
      (gI 5 13 z54 b110).bind fun x113 =>
      some (x113, z54)
    ) else
    if l3 = (2 : Int32) then (
      (gN 8 4 z54 a0).bind fun b118 =>
      (fX6_busiest b118 z54).bind fun x121 =>
      some (x121, z54)
    ) else
    if l3 = (3 : Int32) then (
      (gN 8 4 z54 a0).bind fun b126 =>
      (gI 5 12 z54 b126).bind fun x129 =>
      some (x129, z54)
    ) else
    some ((-2 : Int32), z54)
  else none
set_option maxHeartbeats 4000000 in
set_option maxRecDepth 100000 in
theorem ctX9_after (l : Launch) (G : GW) (a0 : Nat) (l1 : Int32) (l2 : Int32) (l3 : Int32) (z : AH) {r : Int32} {z' : AH} (h : fX9_after a0 l1 l2 l3 z = some (r, z')) : Met l yX9_after (wy yX9_after cX9_after 6 (some .int)) rmX9_after (Pz G [.ref (gB G + a0), .int l1, .int l2, .int l3] z) (Qi G r z') 0 0 (AA G) := by
  refine wz_ent (own := RX9) (by decide +kernel) rfl (fun p e s m below meth c ls C hlk hr hin hW hl => ?_) (Nat.le_of_ble_eq_true rfl)
  have hl : lv_has ls 6 [(0, .ref (gB G + a0)), (1, .int l1), (2, .int l2), (3, .int l3)] := hl
  have hx := C.1
  have hb := C.2.1
  unfold fX9_after at h
  obtain ⟨-, h⟩ := ck h
  refine lv_aload_n hx hb dX9_after_0 rfl (lv_at hl 0 rfl) ?_
  obtain ⟨b1, hg, h⟩ := ob h
  refine wz_gN C hW flX9_13 hg dX9_after_1 ?_
  refine lv_iload_n hx hb dX9_after_4 rfl (lv_at hl 1 rfl) ?_
  obtain ⟨q5_, hq, h⟩ := ob h
  refine wz_rQ (c' := 0) (s' := 0) hW (wz_runV (rest := []) C hW lVX9_108 (ck hq).1 rfl (ctX7_countryAt l G b1 l1 z hq) ⟨⟨rfl, rfl⟩, Nat.le_of_ble_eq_true rfl, Nat.le_of_ble_eq_true rfl⟩ rfl hl.1 rfl (Nat.le_of_ble_eq_true rfl) dX9_after_5 ⟨Nat.le_of_ble_eq_true rfl, Nat.le_of_ble_eq_true rfl⟩) rfl rfl (fun H locs hW => ?_)
  cases q5_ with
  | none =>
    have h := nq_n h
    refine lv_astoreN (lv' := [(4, .null), (0, .ref (gB G + a0)), (1, .int l1), (2, .int l2), (3, .int l3)]) hx hb dX9_after_8 hl (by decide) rfl (fun ls hl => ?_)
    refine lv_aload_n hx hb dX9_after_10 rfl (lv_at hl 1 rfl) ?_
    obtain ⟨b11, hg, h⟩ := ob h
    refine wz_gN C hW flX9_13 hg dX9_after_11 ?_
    refine lv_iconst (v := 1) hx hb dX9_after_14 (by decide) ?_
    refine lv_iload_n hx hb dX9_after_15 rfl (lv_at hl 3 rfl) ?_
    obtain ⟨q16_, hq, h⟩ := ob h
    refine wz_rQ (c' := 0) (s' := 0) hW (wz_runV (rest := []) C hW lVX9_116 (ck hq).1 rfl (ctX7_rowsAt l G b11 (1 : Int32) l2 z hq) ⟨⟨rfl, rfl⟩, Nat.le_of_ble_eq_true rfl, Nat.le_of_ble_eq_true rfl⟩ rfl hl.1 rfl (Nat.le_of_ble_eq_true rfl) dX9_after_16 ⟨Nat.le_of_ble_eq_true rfl, Nat.le_of_ble_eq_true rfl⟩) rfl rfl (fun H locs hW => ?_)
    cases q16_ with
    | none =>
      have h := nq_n h
      refine lv_astoreN (lv' := [(5, .null), (4, .null), (0, .ref (gB G + a0)), (1, .int l1), (2, .int l2), (3, .int l3)]) hx hb dX9_after_19 hl (by decide) rfl (fun ls hl => ?_)
      refine lv_aloadN hx hb dX9_after_21 (lv_at hl 1 rfl) ?_
      refine lv_ifnullN (tgt := 31) hx hb dX9_after_23 (by decide) ?_
      refine lv_bipush (v := -2) hx hb dX9_after_31 (by decide) ?_
      exact wz_iretE C hlk hr (so2 h).1 (so2 h).2 hW dX9_after_33
    | some b19 =>
      have h := nq_s h
      refine lv_astore (lv' := [(5, .ref (gB G + b19)), (4, .null), (0, .ref (gB G + a0)), (1, .int l1), (2, .int l2), (3, .int l3)]) hx hb dX9_after_19 hl (by decide) rfl (fun ls hl => ?_)
      refine lv_aloadN hx hb dX9_after_21 (lv_at hl 1 rfl) ?_
      refine lv_ifnullN (tgt := 31) hx hb dX9_after_23 (by decide) ?_
      refine lv_bipush (v := -2) hx hb dX9_after_31 (by decide) ?_
      exact wz_iretE C hlk hr (so2 h).1 (so2 h).2 hW dX9_after_33
  | some b8 =>
    have h := nq_s h
    refine lv_astore (lv' := [(4, .ref (gB G + b8)), (0, .ref (gB G + a0)), (1, .int l1), (2, .int l2), (3, .int l3)]) hx hb dX9_after_8 hl (by decide) rfl (fun ls hl => ?_)
    refine lv_aload_n hx hb dX9_after_10 rfl (lv_at hl 1 rfl) ?_
    obtain ⟨b11, hg, h⟩ := ob h
    refine wz_gN C hW flX9_13 hg dX9_after_11 ?_
    refine lv_iconst (v := 1) hx hb dX9_after_14 (by decide) ?_
    refine lv_iload_n hx hb dX9_after_15 rfl (lv_at hl 3 rfl) ?_
    obtain ⟨q16_, hq, h⟩ := ob h
    refine wz_rQ (c' := 0) (s' := 0) hW (wz_runV (rest := []) C hW lVX9_116 (ck hq).1 rfl (ctX7_rowsAt l G b11 (1 : Int32) l2 z hq) ⟨⟨rfl, rfl⟩, Nat.le_of_ble_eq_true rfl, Nat.le_of_ble_eq_true rfl⟩ rfl hl.1 rfl (Nat.le_of_ble_eq_true rfl) dX9_after_16 ⟨Nat.le_of_ble_eq_true rfl, Nat.le_of_ble_eq_true rfl⟩) rfl rfl (fun H locs hW => ?_)
    cases q16_ with
    | none =>
      have h := nq_n h
      refine lv_astoreN (lv' := [(5, .null), (4, .ref (gB G + b8)), (0, .ref (gB G + a0)), (1, .int l1), (2, .int l2), (3, .int l3)]) hx hb dX9_after_19 hl (by decide) rfl (fun ls hl => ?_)
      refine lv_aload hx hb dX9_after_21 (lv_at hl 1 rfl) ?_
      refine lv_ifnull hx hb dX9_after_23 ?_
      refine lv_aloadN hx hb dX9_after_26 (lv_at hl 0 rfl) ?_
      refine lv_ifnonnullN hx hb dX9_after_28 ?_
      refine lv_bipush (v := -2) hx hb dX9_after_31 (by decide) ?_
      exact wz_iretE C hlk hr (so2 h).1 (so2 h).2 hW dX9_after_33
    | some b19 =>
      have h := nq_s h
      refine lv_astore (lv' := [(5, .ref (gB G + b19)), (4, .ref (gB G + b8)), (0, .ref (gB G + a0)), (1, .int l1), (2, .int l2), (3, .int l3)]) hx hb dX9_after_19 hl (by decide) rfl (fun ls hl => ?_)
      refine lv_aload hx hb dX9_after_21 (lv_at hl 1 rfl) ?_
      refine lv_ifnull hx hb dX9_after_23 ?_
      refine lv_aload hx hb dX9_after_26 (lv_at hl 0 rfl) ?_
      refine lv_ifnonnull (tgt := 34) hx hb dX9_after_28 (by decide) ?_
      refine lv_aload_n hx hb dX9_after_34 rfl (lv_at hl 2 rfl) ?_
      obtain ⟨b35, hg, h⟩ := ob h
      refine wz_gN C hW flX9_39 hg dX9_after_35 ?_
      refine lv_aload hx hb dX9_after_38 (lv_at hl 1 rfl) ?_
      obtain ⟨z40, hq, h⟩ := ob h
      refine wz_rV (c' := 0) (s' := 0) hW (wz_runV (rest := []) C hW lVX9_127 (ck hq).1 rfl (ctX6_begin l G b35 b8 z hq) ⟨⟨rfl, rfl⟩, Nat.le_of_ble_eq_true rfl, Nat.le_of_ble_eq_true rfl⟩ rfl hl.1 rfl (Nat.le_of_ble_eq_true rfl) dX9_after_40 ⟨Nat.le_of_ble_eq_true rfl, Nat.le_of_ble_eq_true rfl⟩) rfl rfl (fun H locs hW => ?_)
      refine lv_aload_n hx hb dX9_after_43 rfl (lv_at hl 2 rfl) ?_
      obtain ⟨b44, hg, h⟩ := ob h
      refine wz_gN C hW flX9_39 hg dX9_after_44 ?_
      refine lv_aload hx hb dX9_after_47 (lv_at hl 0 rfl) ?_
      refine lv_aload hx hb dX9_after_49 (lv_at hl 0 rfl) ?_
      obtain ⟨x51, hg, h⟩ := ob h
      refine wz_gI C hW flX9_120 hg dX9_after_51 ?_
      obtain ⟨x54, z54, hq, h⟩ := ob2 h
      refine wz_rI (c' := 0) (s' := 0) hW (wz_runV (rest := []) C hW lVX9_130 (ck hq).1 rfl (ctX6_live l G b44 b19 x51 z40 hq) ⟨⟨rfl, rfl⟩, Nat.le_of_ble_eq_true rfl, Nat.le_of_ble_eq_true rfl⟩ rfl hl.1 rfl (Nat.le_of_ble_eq_true rfl) dX9_after_54 ⟨Nat.le_of_ble_eq_true rfl, Nat.le_of_ble_eq_true rfl⟩) rfl rfl (fun H locs hW => ?_)
      refine lv_pop hx hb dX9_after_57 rfl ?_
      refine lv_iload_n hx hb dX9_after_58 rfl (lv_at hl 5 rfl) ?_
      by_cases c59_0 : l3 = (0 : Int32)
      · have h := ite_t c59_0 h
        refine wz_sw (0 : Int32) (tgt := 88) hx hb dX9_after_59 c59_0 (by decide) rfl (by decide) ?_
        refine lv_aload_n hx hb dX9_after_88 rfl (lv_at hl 2 rfl) ?_
        obtain ⟨b89, hg, h⟩ := ob h
        refine wz_gN C hW flX9_39 hg dX9_after_89 ?_
        obtain ⟨x92, hg, h⟩ := ob h
        refine wz_gI C hW flX9_271 hg dX9_after_92 ?_
        refine lv_aload_n hx hb dX9_after_95 rfl (lv_at hl 2 rfl) ?_
        obtain ⟨b96, hg, h⟩ := ob h
        refine wz_gN C hW flX9_39 hg dX9_after_96 ?_
        obtain ⟨x99, hg, h⟩ := ob h
        refine wz_gI C hW flX9_274 hg dX9_after_99 ?_
        refine lv_iconst (v := -1) hx hb dX9_after_102 (by decide) ?_
        refine lv_ixor hx hb dX9_after_103 ?_
        refine lv_iand hx hb dX9_after_104 ?_
        refine wz_rI (c' := 0) (s' := 0) hW (wz_runS (rest := []) C hW lTX9_222 (ctJ6_bitCount_0f7a4 l G (x92 &&& (x99 ^^^ (-1 : Int32))) z54 rfl) ⟨⟨rfl, rfl⟩, Nat.le_of_ble_eq_true rfl, Nat.le_of_ble_eq_true rfl⟩ rfl hl.1 rfl (Nat.le_of_ble_eq_true rfl) dX9_after_105 ⟨Nat.le_of_ble_eq_true rfl, Nat.le_of_ble_eq_true rfl⟩) rfl rfl (fun H locs hW => ?_)
        exact wz_iretE C hlk hr (so2 h).1 (so2 h).2 hW dX9_after_108
      have h := ite_f c59_0 h
      by_cases c59_1 : l3 = (1 : Int32)
      · have h := ite_t c59_1 h
        refine wz_sw (1 : Int32) (tgt := 109) hx hb dX9_after_59 c59_1 (by decide) rfl (by decide) ?_
        refine lv_aload_n hx hb dX9_after_109 rfl (lv_at hl 2 rfl) ?_
        obtain ⟨b110, hg, h⟩ := ob h
        refine wz_gN C hW flX9_39 hg dX9_after_110 ?_
        obtain ⟨x113, hg, h⟩ := ob h
        refine wz_gI C hW flX9_277 hg dX9_after_113 ?_
        exact wz_iretE C hlk hr (so2 h).1 (so2 h).2 hW dX9_after_116
      have h := ite_f c59_1 h
      by_cases c59_2 : l3 = (2 : Int32)
      · have h := ite_t c59_2 h
        refine wz_sw (2 : Int32) (tgt := 117) hx hb dX9_after_59 c59_2 (by decide) rfl (by decide) ?_
        refine lv_aload_n hx hb dX9_after_117 rfl (lv_at hl 2 rfl) ?_
        obtain ⟨b118, hg, h⟩ := ob h
        refine wz_gN C hW flX9_39 hg dX9_after_118 ?_
        obtain ⟨x121, hq, h⟩ := ob h
        refine wz_rI (c' := 0) (s' := 0) hW (wz_runV (rest := []) C hW lVX9_280 (ck hq).1 rfl (ctX6_busiest l G b118 z54 hq) ⟨⟨rfl, rfl⟩, Nat.le_of_ble_eq_true rfl, Nat.le_of_ble_eq_true rfl⟩ rfl hl.1 rfl (Nat.le_of_ble_eq_true rfl) dX9_after_121 ⟨Nat.le_of_ble_eq_true rfl, Nat.le_of_ble_eq_true rfl⟩) rfl rfl (fun H locs hW => ?_)
        exact wz_iretE C hlk hr (so2 h).1 (so2 h).2 hW dX9_after_124
      have h := ite_f c59_2 h
      by_cases c59_3 : l3 = (3 : Int32)
      · have h := ite_t c59_3 h
        refine wz_sw (3 : Int32) (tgt := 125) hx hb dX9_after_59 c59_3 (by decide) rfl (by decide) ?_
        refine lv_aload_n hx hb dX9_after_125 rfl (lv_at hl 2 rfl) ?_
        obtain ⟨b126, hg, h⟩ := ob h
        refine wz_gN C hW flX9_39 hg dX9_after_126 ?_
        obtain ⟨x129, hg, h⟩ := ob h
        refine wz_gI C hW flX9_283 hg dX9_after_129 ?_
        exact wz_iretE C hlk hr (so2 h).1 (so2 h).2 hW dX9_after_132
      have h := ite_f c59_3 h
      refine lv_tableOut (tgt := 133) hx hb dX9_after_59 (by have g0 := i32_ne c59_0 (z := 0) (by decide); have g1 := i32_ne c59_1 (z := 1) (by decide); have g2 := i32_ne c59_2 (z := 2) (by decide); have g3 := i32_ne c59_3 (z := 3) (by decide); omega) (by decide) ?_
      refine lv_bipush (v := -2) hx hb dX9_after_133 (by decide) ?_
      exact wz_iretE C hlk hr (so2 h).1 (so2 h).2 hW dX9_after_135
theorem dX9_wrong_0 : decode cX9_wrong 0 = .ok (.aload_n 0, 1) := by decide +kernel
theorem dX9_wrong_1 : decode cX9_wrong 1 = .ok (.getfield 13, 3) := by decide +kernel
theorem dX9_wrong_4 : decode cX9_wrong 4 = .ok (.iconst 2, 1) := by decide +kernel
theorem dX9_wrong_5 : decode cX9_wrong 5 = .ok (.iload_n 1, 1) := by decide +kernel
theorem dX9_wrong_6 : decode cX9_wrong 6 = .ok (.invokevirtual 116, 3) := by decide +kernel
theorem dX9_wrong_9 : decode cX9_wrong 9 = .ok (.astore 4, 2) := by decide +kernel
theorem dX9_wrong_11 : decode cX9_wrong 11 = .ok (.aload 4, 2) := by decide +kernel
theorem dX9_wrong_13 : decode cX9_wrong 13 = .ok (.ifnull 10, 3) := by decide +kernel
theorem dX9_wrong_16 : decode cX9_wrong 16 = .ok (.iload_n 2, 1) := by decide +kernel
theorem dX9_wrong_17 : decode cX9_wrong 17 = .ok (.invokestatic 202, 3) := by decide +kernel
theorem dX9_wrong_20 : decode cX9_wrong 20 = .ok (.ifCond .ne 5, 3) := by decide +kernel
theorem dX9_wrong_23 : decode cX9_wrong 23 = .ok (.iconst (-1), 1) := by decide +kernel
theorem dX9_wrong_24 : decode cX9_wrong 24 = .ok (.ireturn, 1) := by decide +kernel
theorem dX9_wrong_25 : decode cX9_wrong 25 = .ok (.iconst (-1), 1) := by decide +kernel
theorem dX9_wrong_26 : decode cX9_wrong 26 = .ok (.istore 5, 2) := by decide +kernel
theorem dX9_wrong_28 : decode cX9_wrong 28 = .ok (.iconst (-1), 1) := by decide +kernel
theorem dX9_wrong_29 : decode cX9_wrong 29 = .ok (.istore 6, 2) := by decide +kernel
theorem dX9_wrong_31 : decode cX9_wrong 31 = .ok (.iconst 0, 1) := by decide +kernel
theorem dX9_wrong_32 : decode cX9_wrong 32 = .ok (.istore 7, 2) := by decide +kernel
theorem dX9_wrong_34 : decode cX9_wrong 34 = .ok (.iload 7, 2) := by decide +kernel
theorem dX9_wrong_36 : decode cX9_wrong 36 = .ok (.aload 4, 2) := by decide +kernel
theorem dX9_wrong_38 : decode cX9_wrong 38 = .ok (.getfield 120, 3) := by decide +kernel
theorem dX9_wrong_41 : decode cX9_wrong 41 = .ok (.if_icmp .ge 46, 3) := by decide +kernel
theorem dX9_wrong_44 : decode cX9_wrong 44 = .ok (.aload_n 0, 1) := by decide +kernel
theorem dX9_wrong_45 : decode cX9_wrong 45 = .ok (.getfield 60, 3) := by decide +kernel
theorem dX9_wrong_48 : decode cX9_wrong 48 = .ok (.aload 4, 2) := by decide +kernel
theorem dX9_wrong_50 : decode cX9_wrong 50 = .ok (.iload_n 2, 1) := by decide +kernel
theorem dX9_wrong_51 : decode cX9_wrong 51 = .ok (.iload 7, 2) := by decide +kernel
theorem dX9_wrong_53 : decode cX9_wrong 53 = .ok (.invokevirtual 205, 3) := by decide +kernel
theorem dX9_wrong_56 : decode cX9_wrong 56 = .ok (.aload_n 0, 1) := by decide +kernel
theorem dX9_wrong_57 : decode cX9_wrong 57 = .ok (.getfield 60, 3) := by decide +kernel
theorem dX9_wrong_60 : decode cX9_wrong 60 = .ok (.getfield 209, 3) := by decide +kernel
theorem dX9_wrong_63 : decode cX9_wrong 63 = .ok (.iload 6, 2) := by decide +kernel
theorem dX9_wrong_65 : decode cX9_wrong 65 = .ok (.if_icmp .le 16, 3) := by decide +kernel
theorem dX9_wrong_68 : decode cX9_wrong 68 = .ok (.iload 7, 2) := by decide +kernel
theorem dX9_wrong_70 : decode cX9_wrong 70 = .ok (.istore 5, 2) := by decide +kernel
theorem dX9_wrong_72 : decode cX9_wrong 72 = .ok (.aload_n 0, 1) := by decide +kernel
theorem dX9_wrong_73 : decode cX9_wrong 73 = .ok (.getfield 60, 3) := by decide +kernel
theorem dX9_wrong_76 : decode cX9_wrong 76 = .ok (.getfield 209, 3) := by decide +kernel
theorem dX9_wrong_79 : decode cX9_wrong 79 = .ok (.istore 6, 2) := by decide +kernel
theorem dX9_wrong_81 : decode cX9_wrong 81 = .ok (.iinc 7 1, 3) := by decide +kernel
theorem dX9_wrong_84 : decode cX9_wrong 84 = .ok (.goto (-50), 3) := by decide +kernel
theorem dX9_wrong_87 : decode cX9_wrong 87 = .ok (.iload_n 3, 1) := by decide +kernel
theorem dX9_wrong_88 : decode cX9_wrong 88 = .ok (.ifCond .eq 8, 3) := by decide +kernel
theorem dX9_wrong_91 : decode cX9_wrong 91 = .ok (.iload 6, 2) := by decide +kernel
theorem dX9_wrong_93 : decode cX9_wrong 93 = .ok (.goto 5, 3) := by decide +kernel
theorem dX9_wrong_96 : decode cX9_wrong 96 = .ok (.iload 5, 2) := by decide +kernel
theorem dX9_wrong_98 : decode cX9_wrong 98 = .ok (.ireturn, 1) := by decide +kernel
abbrev rmX9_wrong : Room := { frames := 4, cells := 0, slots := 0, locals := 97 }
def bX9_wrong_34 (k34 : Nat → Int32 → Int32 → Nat → Int32 → Int32 → Int32 → AH → Option (Int32 × AH)) (a0 : Nat) (l2 : Int32) (l3 : Int32) (a4 : Nat) (l5 : Int32) (l6 : Int32) (l7 : Int32) (z : AH) : Option (Int32 × AH) :=
  (gI 4 3 z a4).bind fun x38 =>
  if x38 ≤ l7 then (
    if l3 = (0 : Int32) then (
      some (l5, z)
    ) else (
      some (l6, z)
    )
  ) else (
    (gN 8 7 z a0).bind fun b45 =>
    (fX2_gather b45 a4 l2 l7 z).bind fun z53 =>
    (gN 8 7 z53 a0).bind fun b57 =>
    (gI 2 1 z53 b57).bind fun x60 =>
    if x60 ≤ l6 then (
      nm (l7 + (1 : Int32)) fun v81 =>
      k34 a0 l2 l3 a4 l5 l6 v81 z53
    ) else (
      (gN 8 7 z53 a0).bind fun b73 =>
      (gI 2 1 z53 b73).bind fun x76 =>
      nm (l7 + (1 : Int32)) fun v81 =>
      k34 a0 l2 l3 a4 l7 x76 v81 z53
    )
  )
set_option maxHeartbeats 4000000 in
set_option maxRecDepth 100000 in
theorem kbX9_wrong_34 {p : Program} {l : Launch} {e : Env} {s : State} {m : MethodId} {args : Array Value} {below : List Frame} {meth : Method} {c : Code} {G : GW} {r : Int32} {z' : AH} (C : Cx p m c cX9_wrong 8 s args RX9 G) (hlk : meth.locks = false) (hr : meth.sig.returnType = (some .int)) (k34 : Nat → Int32 → Int32 → Nat → Int32 → Int32 → Int32 → AH → Option (Int32 × AH)) (hk34 : ∀ (a0 : Nat) (l2 : Int32) (l3 : Int32) (a4 : Nat) (l5 : Int32) (l6 : Int32) (l7 : Int32) (z : AH) (H : Heap) (locs : List Loc) (ls : Array Slot), k34 a0 l2 l3 a4 l5 l6 l7 z = some (r, z') → Wb G z s H locs → lv_has ls 8 [(0, .ref (gB G + a0)), (2, .int l2), (3, .int l3), (4, .ref (gB G + a4)), (5, .int l5), (6, .int l6), (7, .int l7)] → W p l e rmX9_wrong s m args below meth c H locs 0 0 (MQ below (Qi G r z') args s 0 0 (AA G)) (F0 m 34 ls [])) (a0 : Nat) (l2 : Int32) (l3 : Int32) (a4 : Nat) (l5 : Int32) (l6 : Int32) (l7 : Int32) {z : AH} {H : Heap} {locs : List Loc} {ls : Array Slot} (h : bX9_wrong_34 k34 a0 l2 l3 a4 l5 l6 l7 z = some (r, z')) (hW : Wb G z s H locs) (hl : lv_has ls 8 [(0, .ref (gB G + a0)), (2, .int l2), (3, .int l3), (4, .ref (gB G + a4)), (5, .int l5), (6, .int l6), (7, .int l7)]) : W p l e rmX9_wrong s m args below meth c H locs 0 0 (MQ below (Qi G r z') args s 0 0 (AA G)) (F0 m 34 ls []) := by
  have hx := C.1
  have hb := C.2.1
  unfold bX9_wrong_34 at h
  refine lv_iload hx hb dX9_wrong_34 (lv_at hl 6 rfl) ?_
  refine lv_aload hx hb dX9_wrong_36 (lv_at hl 3 rfl) ?_
  obtain ⟨x38, hg, h⟩ := ob h
  refine wz_gI C hW flX9_120 hg dX9_wrong_38 ?_
  refine lv_icmp_ge (tgt := 87) hx hb dX9_wrong_41 (by decide) (fun c41 => ?_) (fun c41 => ?_)
  · have h := ite_t c41 h
    refine lv_iload_n hx hb dX9_wrong_87 rfl (lv_at hl 2 rfl) ?_
    refine lv_if_eq (tgt := 96) hx hb dX9_wrong_88 (by decide) (fun c88 => ?_) (fun c88 => ?_)
    · have h := ite_t c88 h
      refine lv_iload hx hb dX9_wrong_96 (lv_at hl 4 rfl) ?_
      exact wz_iretE C hlk hr (so2 h).1 (so2 h).2 hW dX9_wrong_98
    · have h := ite_f c88 h
      refine lv_iload hx hb dX9_wrong_91 (lv_at hl 5 rfl) ?_
      refine lv_goto (tgt := 98) hx hb dX9_wrong_93 (by decide) ?_
      exact wz_iretE C hlk hr (so2 h).1 (so2 h).2 hW dX9_wrong_98
  · have h := ite_f c41 h
    refine lv_aload_n hx hb dX9_wrong_44 rfl (lv_at hl 0 rfl) ?_
    obtain ⟨b45, hg, h⟩ := ob h
    refine wz_gN C hW flX9_60 hg dX9_wrong_45 ?_
    refine lv_aload hx hb dX9_wrong_48 (lv_at hl 3 rfl) ?_
    refine lv_iload_n hx hb dX9_wrong_50 rfl (lv_at hl 1 rfl) ?_
    refine lv_iload hx hb dX9_wrong_51 (lv_at hl 6 rfl) ?_
    obtain ⟨z53, hq, h⟩ := ob h
    refine wz_rV (c' := 0) (s' := 0) hW (wz_runV (rest := []) C hW lVX9_205 (ck hq).1 rfl (ctX2_gather l G b45 a4 l2 l7 z hq) ⟨⟨rfl, rfl⟩, Nat.le_of_ble_eq_true rfl, Nat.le_of_ble_eq_true rfl⟩ rfl hl.1 rfl (Nat.le_of_ble_eq_true rfl) dX9_wrong_53 ⟨Nat.le_of_ble_eq_true rfl, Nat.le_of_ble_eq_true rfl⟩) rfl rfl (fun H locs hW => ?_)
    refine lv_aload_n hx hb dX9_wrong_56 rfl (lv_at hl 0 rfl) ?_
    obtain ⟨b57, hg, h⟩ := ob h
    refine wz_gN C hW flX9_60 hg dX9_wrong_57 ?_
    obtain ⟨x60, hg, h⟩ := ob h
    refine wz_gI C hW flX9_209 hg dX9_wrong_60 ?_
    refine lv_iload hx hb dX9_wrong_63 (lv_at hl 5 rfl) ?_
    refine lv_icmp_le (tgt := 81) hx hb dX9_wrong_65 (by decide) (fun c65 => ?_) (fun c65 => ?_)
    · have h := ite_t c65 h
      obtain ⟨v81, ev81⟩ : ∃ y : Int32, y = (l7 + (1 : Int32)) := ⟨_, rfl⟩
      have h := nm_to h ev81
      refine lv_iinc (v := v81) (lv' := [(7, .int v81), (0, .ref (gB G + a0)), (2, .int l2), (3, .int l3), (4, .ref (gB G + a4)), (5, .int l5), (6, .int l6)]) hx hb dX9_wrong_81 hl (k := 6) rfl (by rw [ev81]; rfl) (by decide) rfl (fun ls hl => ?_)
      refine lv_goto (tgt := 34) hx hb dX9_wrong_84 (by decide) ?_
      exact hk34 a0 l2 l3 a4 l5 l6 v81 z53 _ _ _ h hW (lv_sub hl [1, 2, 3, 4, 5, 6, 0] rfl)
    · have h := ite_f c65 h
      refine lv_iload hx hb dX9_wrong_68 (lv_at hl 6 rfl) ?_
      refine lv_istore (lv' := [(5, .int l7), (0, .ref (gB G + a0)), (2, .int l2), (3, .int l3), (4, .ref (gB G + a4)), (6, .int l6), (7, .int l7)]) hx hb dX9_wrong_70 hl (by decide) rfl (fun ls hl => ?_)
      refine lv_aload_n hx hb dX9_wrong_72 rfl (lv_at hl 1 rfl) ?_
      obtain ⟨b73, hg, h⟩ := ob h
      refine wz_gN C hW flX9_60 hg dX9_wrong_73 ?_
      obtain ⟨x76, hg, h⟩ := ob h
      refine wz_gI C hW flX9_209 hg dX9_wrong_76 ?_
      refine lv_istore (lv' := [(6, .int x76), (5, .int l7), (0, .ref (gB G + a0)), (2, .int l2), (3, .int l3), (4, .ref (gB G + a4)), (7, .int l7)]) hx hb dX9_wrong_79 hl (by decide) rfl (fun ls hl => ?_)
      obtain ⟨v81, ev81⟩ : ∃ y : Int32, y = (l7 + (1 : Int32)) := ⟨_, rfl⟩
      have h := nm_to h ev81
      refine lv_iinc (v := v81) (lv' := [(7, .int v81), (6, .int x76), (5, .int l7), (0, .ref (gB G + a0)), (2, .int l2), (3, .int l3), (4, .ref (gB G + a4))]) hx hb dX9_wrong_81 hl (k := 6) rfl (by rw [ev81]; rfl) (by decide) rfl (fun ls hl => ?_)
      refine lv_goto (tgt := 34) hx hb dX9_wrong_84 (by decide) ?_
      exact hk34 a0 l2 l3 a4 l7 x76 v81 z53 _ _ _ h hW (lv_sub hl [3, 4, 5, 6, 2, 1, 0] rfl)
def fX9_wrong_34 : Nat → Nat → Int32 → Int32 → Nat → Int32 → Int32 → Int32 → AH → Option (Int32 × AH)
  | 0, _, _, _, _, _, _, _, _ => none
  | n + 1, a0, l2, l3, a4, l5, l6, l7, z => bX9_wrong_34 (fX9_wrong_34 n) a0 l2 l3 a4 l5 l6 l7 z
theorem klX9_wrong_34 {p : Program} {l : Launch} {e : Env} {s : State} {m : MethodId} {args : Array Value} {below : List Frame} {meth : Method} {c : Code} {G : GW} {r : Int32} {z' : AH} (C : Cx p m c cX9_wrong 8 s args RX9 G) (hlk : meth.locks = false) (hr : meth.sig.returnType = (some .int)) : ∀ (n : Nat) (a0 : Nat) (l2 : Int32) (l3 : Int32) (a4 : Nat) (l5 : Int32) (l6 : Int32) (l7 : Int32) (z : AH) (H : Heap) (locs : List Loc) (ls : Array Slot), fX9_wrong_34 n a0 l2 l3 a4 l5 l6 l7 z = some (r, z') → Wb G z s H locs → lv_has ls 8 [(0, .ref (gB G + a0)), (2, .int l2), (3, .int l3), (4, .ref (gB G + a4)), (5, .int l5), (6, .int l6), (7, .int l7)] → W p l e rmX9_wrong s m args below meth c H locs 0 0 (MQ below (Qi G r z') args s 0 0 (AA G)) (F0 m 34 ls []) := by
  intro n
  induction n with
  | zero => intro a0 l2 l3 a4 l5 l6 l7 z H locs ls h; have h : (none : Option (Int32 × AH)) = some (r, z') := h; cases h
  | succ n ih => intro a0 l2 l3 a4 l5 l6 l7 z H locs ls h hW hl; exact kbX9_wrong_34 C hlk hr (fX9_wrong_34 n) (fun a0 l2 l3 a4 l5 l6 l7 z H locs ls h hW hl => ih a0 l2 l3 a4 l5 l6 l7 z H locs ls h hW hl) a0 l2 l3 a4 l5 l6 l7 h hW hl
def fX9_wrong (a0 : Nat) (l1 : Int32) (l2 : Int32) (l3 : Int32) (z : AH) : Option (Int32 × AH) :=
  if isO 8 z a0 = true then
    (gN 8 0 z a0).bind fun b1 =>
    (fX7_rowsAt b1 (2 : Int32) l1 z).bind fun q6_ =>
    nq q6_ (
      some ((-1 : Int32), z)
    ) fun b9 =>
    if (fX2_isError l2) = (0 : Int32) then (
      some ((-1 : Int32), z)
    ) else (
      fX9_wrong_34 FU a0 l2 l3 b9 (-1 : Int32) (-1 : Int32) (0 : Int32) z
    )
  else none
set_option maxHeartbeats 4000000 in
set_option maxRecDepth 100000 in
theorem ctX9_wrong (l : Launch) (G : GW) (a0 : Nat) (l1 : Int32) (l2 : Int32) (l3 : Int32) (z : AH) {r : Int32} {z' : AH} (h : fX9_wrong a0 l1 l2 l3 z = some (r, z')) : Met l yX9_wrong (wy yX9_wrong cX9_wrong 8 (some .int)) rmX9_wrong (Pz G [.ref (gB G + a0), .int l1, .int l2, .int l3] z) (Qi G r z') 0 0 (AA G) := by
  refine wz_ent (own := RX9) (by decide +kernel) rfl (fun p e s m below meth c ls C hlk hr hin hW hl => ?_) (Nat.le_of_ble_eq_true rfl)
  have hl : lv_has ls 8 [(0, .ref (gB G + a0)), (1, .int l1), (2, .int l2), (3, .int l3)] := hl
  have hx := C.1
  have hb := C.2.1
  unfold fX9_wrong at h
  obtain ⟨-, h⟩ := ck h
  refine lv_aload_n hx hb dX9_wrong_0 rfl (lv_at hl 0 rfl) ?_
  obtain ⟨b1, hg, h⟩ := ob h
  refine wz_gN C hW flX9_13 hg dX9_wrong_1 ?_
  refine lv_iconst (v := 2) hx hb dX9_wrong_4 (by decide) ?_
  refine lv_iload_n hx hb dX9_wrong_5 rfl (lv_at hl 1 rfl) ?_
  obtain ⟨q6_, hq, h⟩ := ob h
  refine wz_rQ (c' := 0) (s' := 0) hW (wz_runV (rest := []) C hW lVX9_116 (ck hq).1 rfl (ctX7_rowsAt l G b1 (2 : Int32) l1 z hq) ⟨⟨rfl, rfl⟩, Nat.le_of_ble_eq_true rfl, Nat.le_of_ble_eq_true rfl⟩ rfl hl.1 rfl (Nat.le_of_ble_eq_true rfl) dX9_wrong_6 ⟨Nat.le_of_ble_eq_true rfl, Nat.le_of_ble_eq_true rfl⟩) rfl rfl (fun H locs hW => ?_)
  cases q6_ with
  | none =>
    have h := nq_n h
    refine lv_astoreN (lv' := [(4, .null), (0, .ref (gB G + a0)), (1, .int l1), (2, .int l2), (3, .int l3)]) hx hb dX9_wrong_9 hl (by decide) rfl (fun ls hl => ?_)
    refine lv_aloadN hx hb dX9_wrong_11 (lv_at hl 0 rfl) ?_
    refine lv_ifnullN (tgt := 23) hx hb dX9_wrong_13 (by decide) ?_
    refine lv_iconst (v := -1) hx hb dX9_wrong_23 (by decide) ?_
    exact wz_iretE C hlk hr (so2 h).1 (so2 h).2 hW dX9_wrong_24
  | some b9 =>
    have h := nq_s h
    refine lv_astore (lv' := [(4, .ref (gB G + b9)), (0, .ref (gB G + a0)), (1, .int l1), (2, .int l2), (3, .int l3)]) hx hb dX9_wrong_9 hl (by decide) rfl (fun ls hl => ?_)
    refine lv_aload hx hb dX9_wrong_11 (lv_at hl 0 rfl) ?_
    refine lv_ifnull hx hb dX9_wrong_13 ?_
    refine lv_iload_n hx hb dX9_wrong_16 rfl (lv_at hl 3 rfl) ?_
    refine wz_rI (c' := 0) (s' := 0) hW (wz_runS (rest := []) C hW lTX9_202 (ctX2_isError l G l2 z rfl) ⟨⟨rfl, rfl⟩, Nat.le_of_ble_eq_true rfl, Nat.le_of_ble_eq_true rfl⟩ rfl hl.1 rfl (Nat.le_of_ble_eq_true rfl) dX9_wrong_17 ⟨Nat.le_of_ble_eq_true rfl, Nat.le_of_ble_eq_true rfl⟩) rfl rfl (fun H locs hW => ?_)
    refine lv_if_ne (tgt := 25) hx hb dX9_wrong_20 (by decide) (fun c20 => ?_) (fun c20 => ?_)
    · have h := ite_f c20 h
      refine lv_iconst (v := -1) hx hb dX9_wrong_25 (by decide) ?_
      refine lv_istore (lv' := [(5, .int (-1 : Int32)), (4, .ref (gB G + b9)), (0, .ref (gB G + a0)), (1, .int l1), (2, .int l2), (3, .int l3)]) hx hb dX9_wrong_26 hl (by decide) rfl (fun ls hl => ?_)
      refine lv_iconst (v := -1) hx hb dX9_wrong_28 (by decide) ?_
      refine lv_istore (lv' := [(6, .int (-1 : Int32)), (5, .int (-1 : Int32)), (4, .ref (gB G + b9)), (0, .ref (gB G + a0)), (1, .int l1), (2, .int l2), (3, .int l3)]) hx hb dX9_wrong_29 hl (by decide) rfl (fun ls hl => ?_)
      refine lv_iconst (v := 0) hx hb dX9_wrong_31 (by decide) ?_
      refine lv_istore (lv' := [(7, .int (0 : Int32)), (6, .int (-1 : Int32)), (5, .int (-1 : Int32)), (4, .ref (gB G + b9)), (0, .ref (gB G + a0)), (1, .int l1), (2, .int l2), (3, .int l3)]) hx hb dX9_wrong_32 hl (by decide) rfl (fun ls hl => ?_)
      exact klX9_wrong_34 C hlk hr FU a0 l2 l3 b9 (-1 : Int32) (-1 : Int32) (0 : Int32) z _ _ _ h hW (lv_sub hl [4, 6, 7, 3, 2, 1, 0] rfl)
    · have h := ite_t c20 h
      refine lv_iconst (v := -1) hx hb dX9_wrong_23 (by decide) ?_
      exact wz_iretE C hlk hr (so2 h).1 (so2 h).2 hW dX9_wrong_24
theorem lTX9_286 : LT RX9 286 yX3_telling cX3_telling 8 (some .int) 1 := ⟨tw 1170 (by decide +kernel) rfl, tw 1171 (by decide +kernel) rfl, tw 137 (by decide +kernel) rfl, tw 1172 (by decide +kernel) rfl, ⟨by decide +kernel, by decide +kernel, by decide +kernel⟩⟩
theorem dX9_tell_0 : decode cX9_tell 0 = .ok (.aload_n 0, 1) := by decide +kernel
theorem dX9_tell_1 : decode cX9_tell 1 = .ok (.getfield 13, 3) := by decide +kernel
theorem dX9_tell_4 : decode cX9_tell 4 = .ok (.iconst 3, 1) := by decide +kernel
theorem dX9_tell_5 : decode cX9_tell 5 = .ok (.iload_n 1, 1) := by decide +kernel
theorem dX9_tell_6 : decode cX9_tell 6 = .ok (.invokevirtual 116, 3) := by decide +kernel
theorem dX9_tell_9 : decode cX9_tell 9 = .ok (.astore_n 2, 1) := by decide +kernel
theorem dX9_tell_10 : decode cX9_tell 10 = .ok (.aload_n 2, 1) := by decide +kernel
theorem dX9_tell_11 : decode cX9_tell 11 = .ok (.ifnonnull 7, 3) := by decide +kernel
theorem dX9_tell_14 : decode cX9_tell 14 = .ok (.iconst (-1), 1) := by decide +kernel
theorem dX9_tell_15 : decode cX9_tell 15 = .ok (.goto 7, 3) := by decide +kernel
theorem dX9_tell_18 : decode cX9_tell 18 = .ok (.aload_n 2, 1) := by decide +kernel
theorem dX9_tell_19 : decode cX9_tell 19 = .ok (.invokestatic 286, 3) := by decide +kernel
theorem dX9_tell_22 : decode cX9_tell 22 = .ok (.ireturn, 1) := by decide +kernel
abbrev rmX9_tell : Room := { frames := 3, cells := 0, slots := 0, locals := 73 }
def fX9_tell (a0 : Nat) (l1 : Int32) (z : AH) : Option (Int32) :=
  if isO 8 z a0 = true then
    (gN 8 0 z a0).bind fun b1 =>
    (fX7_rowsAt b1 (3 : Int32) l1 z).bind fun q6_ =>
    nq q6_ (
      some (-1 : Int32)
    ) fun b9 =>
    (fX3_telling b9 z).bind fun x19 =>
    some x19
  else none
set_option maxHeartbeats 4000000 in
set_option maxRecDepth 100000 in
theorem ctX9_tell (l : Launch) (G : GW) (a0 : Nat) (l1 : Int32) (z : AH) {r : Int32} (h : fX9_tell a0 l1 z = some r) : Met l yX9_tell (wy yX9_tell cX9_tell 3 (some .int)) rmX9_tell (Pz G [.ref (gB G + a0), .int l1] z) (Qi G r z) 0 0 (AA G) := by
  refine wz_ent (own := RX9) (by decide +kernel) rfl (fun p e s m below meth c ls C hlk hr hin hW hl => ?_) (Nat.le_of_ble_eq_true rfl)
  have hl : lv_has ls 3 [(0, .ref (gB G + a0)), (1, .int l1)] := hl
  have hx := C.1
  have hb := C.2.1
  unfold fX9_tell at h
  obtain ⟨-, h⟩ := ck h
  refine lv_aload_n hx hb dX9_tell_0 rfl (lv_at hl 0 rfl) ?_
  obtain ⟨b1, hg, h⟩ := ob h
  refine wz_gN C hW flX9_13 hg dX9_tell_1 ?_
  refine lv_iconst (v := 3) hx hb dX9_tell_4 (by decide) ?_
  refine lv_iload_n hx hb dX9_tell_5 rfl (lv_at hl 1 rfl) ?_
  obtain ⟨q6_, hq, h⟩ := ob h
  refine wz_rQ (c' := 0) (s' := 0) hW (wz_runV (rest := []) C hW lVX9_116 (ck hq).1 rfl (ctX7_rowsAt l G b1 (3 : Int32) l1 z hq) ⟨⟨rfl, rfl⟩, Nat.le_of_ble_eq_true rfl, Nat.le_of_ble_eq_true rfl⟩ rfl hl.1 rfl (Nat.le_of_ble_eq_true rfl) dX9_tell_6 ⟨Nat.le_of_ble_eq_true rfl, Nat.le_of_ble_eq_true rfl⟩) rfl rfl (fun H locs hW => ?_)
  cases q6_ with
  | none =>
    have h := nq_n h
    refine lv_astore_nN (lv' := [(2, .null), (0, .ref (gB G + a0)), (1, .int l1)]) hx hb dX9_tell_9 rfl hl (by decide) rfl (fun ls hl => ?_)
    refine lv_aload_nN hx hb dX9_tell_10 rfl (lv_at hl 0 rfl) ?_
    refine lv_ifnonnullN hx hb dX9_tell_11 ?_
    refine lv_iconst (v := -1) hx hb dX9_tell_14 (by decide) ?_
    refine lv_goto (tgt := 22) hx hb dX9_tell_15 (by decide) ?_
    exact wz_iretE C hlk hr (Option.some.inj h) rfl hW dX9_tell_22
  | some b9 =>
    have h := nq_s h
    refine lv_astore_n (lv' := [(2, .ref (gB G + b9)), (0, .ref (gB G + a0)), (1, .int l1)]) hx hb dX9_tell_9 rfl hl (by decide) rfl (fun ls hl => ?_)
    refine lv_aload_n hx hb dX9_tell_10 rfl (lv_at hl 0 rfl) ?_
    refine lv_ifnonnull (tgt := 18) hx hb dX9_tell_11 (by decide) ?_
    refine lv_aload_n hx hb dX9_tell_18 rfl (lv_at hl 0 rfl) ?_
    obtain ⟨x19, hq, h⟩ := ob h
    refine wz_rI (c' := 0) (s' := 0) hW (wz_runS (rest := []) C hW lTX9_286 (ctX3_telling l G b9 z hq) ⟨⟨rfl, rfl⟩, Nat.le_of_ble_eq_true rfl, Nat.le_of_ble_eq_true rfl⟩ rfl hl.1 rfl (Nat.le_of_ble_eq_true rfl) dX9_tell_19 ⟨Nat.le_of_ble_eq_true rfl, Nat.le_of_ble_eq_true rfl⟩) rfl rfl (fun H locs hW => ?_)
    exact wz_iretE C hlk hr (Option.some.inj h) rfl hW dX9_tell_22
theorem lVX9_289 : LV RX9 289 yX7_sizeOf cX7_sizeOf 2 (some .int) 1 := ⟨tw 1179 (by decide +kernel) rfl, tw 519 (by decide +kernel) rfl, tw 520 (by decide +kernel) rfl, tw 122 (by decide +kernel) rfl, tw 521 (by decide +kernel) rfl, ⟨by decide +kernel, by decide +kernel, by decide +kernel⟩⟩
theorem dX9_count_0 : decode cX9_count 0 = .ok (.aload_n 0, 1) := by decide +kernel
theorem dX9_count_1 : decode cX9_count 1 = .ok (.getfield 13, 3) := by decide +kernel
theorem dX9_count_4 : decode cX9_count 4 = .ok (.iload_n 1, 1) := by decide +kernel
theorem dX9_count_5 : decode cX9_count 5 = .ok (.invokevirtual 289, 3) := by decide +kernel
theorem dX9_count_8 : decode cX9_count 8 = .ok (.ireturn, 1) := by decide +kernel
abbrev rmX9_count : Room := { frames := 2, cells := 0, slots := 0, locals := 43 }
def fX9_count (a0 : Nat) (l1 : Int32) (z : AH) : Option (Int32) :=
  if isO 8 z a0 = true then
    (gN 8 0 z a0).bind fun b1 =>
    (fX7_sizeOf b1 l1 z).bind fun x5 =>
    some x5
  else none
set_option maxHeartbeats 4000000 in
set_option maxRecDepth 100000 in
theorem ctX9_count (l : Launch) (G : GW) (a0 : Nat) (l1 : Int32) (z : AH) {r : Int32} (h : fX9_count a0 l1 z = some r) : Met l yX9_count (wy yX9_count cX9_count 2 (some .int)) rmX9_count (Pz G [.ref (gB G + a0), .int l1] z) (Qi G r z) 0 0 (AA G) := by
  refine wz_ent (own := RX9) (by decide +kernel) rfl (fun p e s m below meth c ls C hlk hr hin hW hl => ?_) (Nat.le_of_ble_eq_true rfl)
  have hl : lv_has ls 2 [(0, .ref (gB G + a0)), (1, .int l1)] := hl
  have hx := C.1
  have hb := C.2.1
  unfold fX9_count at h
  obtain ⟨-, h⟩ := ck h
  refine lv_aload_n hx hb dX9_count_0 rfl (lv_at hl 0 rfl) ?_
  obtain ⟨b1, hg, h⟩ := ob h
  refine wz_gN C hW flX9_13 hg dX9_count_1 ?_
  refine lv_iload_n hx hb dX9_count_4 rfl (lv_at hl 1 rfl) ?_
  obtain ⟨x5, hq, h⟩ := ob h
  refine wz_rI (c' := 0) (s' := 0) hW (wz_runV (rest := []) C hW lVX9_289 (ck hq).1 rfl (ctX7_sizeOf l G b1 l1 z hq) ⟨⟨rfl, rfl⟩, Nat.le_of_ble_eq_true rfl, Nat.le_of_ble_eq_true rfl⟩ rfl hl.1 rfl (Nat.le_of_ble_eq_true rfl) dX9_count_5 ⟨Nat.le_of_ble_eq_true rfl, Nat.le_of_ble_eq_true rfl⟩) rfl rfl (fun H locs hW => ?_)
  exact wz_iretE C hlk hr (Option.some.inj h) rfl hW dX9_count_8
theorem flX9_19 : FL RX9 19 8 1 := ⟨_, rfl, Nat.le_of_ble_eq_true rfl, tw 474 (by decide +kernel) rfl, rfl⟩
theorem lVX9_292 : LV RX9 292 yX7_copy cX7_copy 3 none 1 := ⟨tw 1184 (by decide +kernel) rfl, tw 1185 (by decide +kernel) rfl, tw 1186 (by decide +kernel) rfl, tw 122 (by decide +kernel) rfl, tw 1187 (by decide +kernel) rfl, ⟨by decide +kernel, by decide +kernel, by decide +kernel⟩⟩
theorem flX9_23 : FL RX9 23 8 2 := ⟨_, rfl, Nat.le_of_ble_eq_true rfl, tw 475 (by decide +kernel) rfl, rfl⟩
theorem dX9_image_0 : decode cX9_image 0 = .ok (.iload_n 1, 1) := by decide +kernel
theorem dX9_image_1 : decode cX9_image 1 = .ok (.ifCond .lt 8, 3) := by decide +kernel
theorem dX9_image_4 : decode cX9_image 4 = .ok (.iload_n 1, 1) := by decide +kernel
theorem dX9_image_5 : decode cX9_image 5 = .ok (.iconst 3, 1) := by decide +kernel
theorem dX9_image_6 : decode cX9_image 6 = .ok (.if_icmp .lt 5, 3) := by decide +kernel
theorem dX9_image_9 : decode cX9_image 9 = .ok (.iconst 0, 1) := by decide +kernel
theorem dX9_image_10 : decode cX9_image 10 = .ok (.ireturn, 1) := by decide +kernel
theorem dX9_image_11 : decode cX9_image 11 = .ok (.aload_n 0, 1) := by decide +kernel
theorem dX9_image_12 : decode cX9_image 12 = .ok (.getfield 19, 3) := by decide +kernel
theorem dX9_image_15 : decode cX9_image 15 = .ok (.iload_n 1, 1) := by decide +kernel
theorem dX9_image_16 : decode cX9_image 16 = .ok (.aaload, 1) := by decide +kernel
theorem dX9_image_17 : decode cX9_image 17 = .ok (.aload_n 0, 1) := by decide +kernel
theorem dX9_image_18 : decode cX9_image 18 = .ok (.getfield 13, 3) := by decide +kernel
theorem dX9_image_21 : decode cX9_image 21 = .ok (.invokevirtual 292, 3) := by decide +kernel
theorem dX9_image_24 : decode cX9_image 24 = .ok (.aload_n 0, 1) := by decide +kernel
theorem dX9_image_25 : decode cX9_image 25 = .ok (.getfield 23, 3) := by decide +kernel
theorem dX9_image_28 : decode cX9_image 28 = .ok (.iload_n 1, 1) := by decide +kernel
theorem dX9_image_29 : decode cX9_image 29 = .ok (.iconst 1, 1) := by decide +kernel
theorem dX9_image_30 : decode cX9_image 30 = .ok (.bastore, 1) := by decide +kernel
theorem dX9_image_31 : decode cX9_image 31 = .ok (.iconst 1, 1) := by decide +kernel
theorem dX9_image_32 : decode cX9_image 32 = .ok (.ireturn, 1) := by decide +kernel
abbrev rmX9_image : Room := { frames := 2, cells := 0, slots := 0, locals := 102 }
def fX9_image (a0 : Nat) (l1 : Int32) (z : AH) : Option (Int32 × AH) :=
  if isO 8 z a0 = true then
    if l1 < (0 : Int32) then (
      some ((0 : Int32), z)
    ) else (
      if l1 < (3 : Int32) then (
        (gN 8 1 z a0).bind fun b12 =>
        (ixN 6 z b12 l1).bind fun b16 =>
        (gN 8 0 z a0).bind fun b18 =>
        (fX7_copy b16 b18 z).bind fun z21 =>
        (gN 8 2 z21 a0).bind fun b25 =>
        (stI 2 z21 b25 l1 (vp_nar .boolean (1 : Int32))).bind fun z30 =>
        some ((1 : Int32), z30)
      ) else (
        some ((0 : Int32), z)
      )
    )
  else none
set_option maxHeartbeats 4000000 in
set_option maxRecDepth 100000 in
theorem ctX9_image (l : Launch) (G : GW) (a0 : Nat) (l1 : Int32) (z : AH) {r : Int32} {z' : AH} (h : fX9_image a0 l1 z = some (r, z')) : Met l yX9_image (wy yX9_image cX9_image 2 (some .boolean)) rmX9_image (Pz G [.ref (gB G + a0), .int l1] z) (Qi G r z') 0 0 (AA G) := by
  refine wz_ent (own := RX9) (by decide +kernel) rfl (fun p e s m below meth c ls C hlk hr hin hW hl => ?_) (Nat.le_of_ble_eq_true rfl)
  have hl : lv_has ls 2 [(0, .ref (gB G + a0)), (1, .int l1)] := hl
  have hx := C.1
  have hb := C.2.1
  unfold fX9_image at h
  obtain ⟨-, h⟩ := ck h
  refine lv_iload_n hx hb dX9_image_0 rfl (lv_at hl 1 rfl) ?_
  refine lv_if_lt (tgt := 9) hx hb dX9_image_1 (by decide) (fun c1 => ?_) (fun c1 => ?_)
  · have h := ite_t c1 h
    refine lv_iconst (v := 0) hx hb dX9_image_9 (by decide) ?_
    exact wz_zretE C hlk hr (Or.inl rfl) (so2 h).1 (so2 h).2 hW dX9_image_10
  · have h := ite_f c1 h
    refine lv_iload_n hx hb dX9_image_4 rfl (lv_at hl 1 rfl) ?_
    refine lv_iconst (v := 3) hx hb dX9_image_5 (by decide) ?_
    refine lv_icmp_lt (tgt := 11) hx hb dX9_image_6 (by decide) (fun c6 => ?_) (fun c6 => ?_)
    · have h := ite_t c6 h
      refine lv_aload_n hx hb dX9_image_11 rfl (lv_at hl 0 rfl) ?_
      obtain ⟨b12, hg, h⟩ := ob h
      refine wz_gN C hW flX9_19 hg dX9_image_12 ?_
      refine lv_iload_n hx hb dX9_image_15 rfl (lv_at hl 1 rfl) ?_
      obtain ⟨b16, hg, h⟩ := ob h
      refine wz_nld (Or.inr (Or.inr (Or.inr rfl))) C hW hg dX9_image_16 ?_
      refine lv_aload_n hx hb dX9_image_17 rfl (lv_at hl 0 rfl) ?_
      obtain ⟨b18, hg, h⟩ := ob h
      refine wz_gN C hW flX9_13 hg dX9_image_18 ?_
      obtain ⟨z21, hq, h⟩ := ob h
      refine wz_rV (c' := 0) (s' := 0) hW (wz_runV (rest := []) C hW lVX9_292 (ck hq).1 rfl (ctX7_copy l G b16 b18 z hq) ⟨⟨rfl, rfl⟩, Nat.le_of_ble_eq_true rfl, Nat.le_of_ble_eq_true rfl⟩ rfl hl.1 rfl (Nat.le_of_ble_eq_true rfl) dX9_image_21 ⟨Nat.le_of_ble_eq_true rfl, Nat.le_of_ble_eq_true rfl⟩) rfl rfl (fun H locs hW => ?_)
      refine lv_aload_n hx hb dX9_image_24 rfl (lv_at hl 0 rfl) ?_
      obtain ⟨b25, hg, h⟩ := ob h
      refine wz_gN C hW flX9_23 hg dX9_image_25 ?_
      refine lv_iload_n hx hb dX9_image_28 rfl (lv_at hl 1 rfl) ?_
      refine lv_iconst (v := 1) hx hb dX9_image_29 (by decide) ?_
      obtain ⟨z30, hg, h⟩ := ob h
      refine wz_zst C hW hg dX9_image_30 (fun H locs hW => ?_)
      refine lv_iconst (v := 1) hx hb dX9_image_31 (by decide) ?_
      exact wz_zretE C hlk hr (Or.inr rfl) (so2 h).1 (so2 h).2 hW dX9_image_32
    · have h := ite_f c6 h
      refine lv_iconst (v := 0) hx hb dX9_image_9 (by decide) ?_
      exact wz_zretE C hlk hr (Or.inl rfl) (so2 h).1 (so2 h).2 hW dX9_image_10
theorem dX9_again_0 : decode cX9_again 0 = .ok (.iload_n 1, 1) := by decide +kernel
theorem dX9_again_1 : decode cX9_again 1 = .ok (.ifCond .lt 17, 3) := by decide +kernel
theorem dX9_again_4 : decode cX9_again 4 = .ok (.iload_n 1, 1) := by decide +kernel
theorem dX9_again_5 : decode cX9_again 5 = .ok (.iconst 3, 1) := by decide +kernel
theorem dX9_again_6 : decode cX9_again 6 = .ok (.if_icmp .ge 12, 3) := by decide +kernel
theorem dX9_again_9 : decode cX9_again 9 = .ok (.aload_n 0, 1) := by decide +kernel
theorem dX9_again_10 : decode cX9_again 10 = .ok (.getfield 23, 3) := by decide +kernel
theorem dX9_again_13 : decode cX9_again 13 = .ok (.iload_n 1, 1) := by decide +kernel
theorem dX9_again_14 : decode cX9_again 14 = .ok (.baload, 1) := by decide +kernel
theorem dX9_again_15 : decode cX9_again 15 = .ok (.ifCond .ne 5, 3) := by decide +kernel
theorem dX9_again_18 : decode cX9_again 18 = .ok (.iconst 0, 1) := by decide +kernel
theorem dX9_again_19 : decode cX9_again 19 = .ok (.ireturn, 1) := by decide +kernel
theorem dX9_again_20 : decode cX9_again 20 = .ok (.aload_n 0, 1) := by decide +kernel
theorem dX9_again_21 : decode cX9_again 21 = .ok (.getfield 13, 3) := by decide +kernel
theorem dX9_again_24 : decode cX9_again 24 = .ok (.aload_n 0, 1) := by decide +kernel
theorem dX9_again_25 : decode cX9_again 25 = .ok (.getfield 19, 3) := by decide +kernel
theorem dX9_again_28 : decode cX9_again 28 = .ok (.iload_n 1, 1) := by decide +kernel
theorem dX9_again_29 : decode cX9_again 29 = .ok (.aaload, 1) := by decide +kernel
theorem dX9_again_30 : decode cX9_again 30 = .ok (.invokevirtual 292, 3) := by decide +kernel
theorem dX9_again_33 : decode cX9_again 33 = .ok (.iconst 1, 1) := by decide +kernel
theorem dX9_again_34 : decode cX9_again 34 = .ok (.ireturn, 1) := by decide +kernel
abbrev rmX9_again : Room := { frames := 2, cells := 0, slots := 0, locals := 102 }
def fX9_again (a0 : Nat) (l1 : Int32) (z : AH) : Option (Int32 × AH) :=
  if isO 8 z a0 = true then
    if l1 < (0 : Int32) then (
      some ((0 : Int32), z)
    ) else (
      if (3 : Int32) ≤ l1 then (
        some ((0 : Int32), z)
      ) else (
        (gN 8 2 z a0).bind fun b10 =>
        (ixI 2 z b10 l1).bind fun x14 =>
        if x14 = (0 : Int32) then (
          some ((0 : Int32), z)
        ) else (
          (gN 8 0 z a0).bind fun b21 =>
          (gN 8 1 z a0).bind fun b25 =>
          (ixN 6 z b25 l1).bind fun b29 =>
          (fX7_copy b21 b29 z).bind fun z30 =>
          some ((1 : Int32), z30)
        )
      )
    )
  else none
set_option maxHeartbeats 4000000 in
set_option maxRecDepth 100000 in
theorem ctX9_again (l : Launch) (G : GW) (a0 : Nat) (l1 : Int32) (z : AH) {r : Int32} {z' : AH} (h : fX9_again a0 l1 z = some (r, z')) : Met l yX9_again (wy yX9_again cX9_again 2 (some .boolean)) rmX9_again (Pz G [.ref (gB G + a0), .int l1] z) (Qi G r z') 0 0 (AA G) := by
  refine wz_ent (own := RX9) (by decide +kernel) rfl (fun p e s m below meth c ls C hlk hr hin hW hl => ?_) (Nat.le_of_ble_eq_true rfl)
  have hl : lv_has ls 2 [(0, .ref (gB G + a0)), (1, .int l1)] := hl
  have hx := C.1
  have hb := C.2.1
  unfold fX9_again at h
  obtain ⟨-, h⟩ := ck h
  refine lv_iload_n hx hb dX9_again_0 rfl (lv_at hl 1 rfl) ?_
  refine lv_if_lt (tgt := 18) hx hb dX9_again_1 (by decide) (fun c1 => ?_) (fun c1 => ?_)
  · have h := ite_t c1 h
    refine lv_iconst (v := 0) hx hb dX9_again_18 (by decide) ?_
    exact wz_zretE C hlk hr (Or.inl rfl) (so2 h).1 (so2 h).2 hW dX9_again_19
  · have h := ite_f c1 h
    refine lv_iload_n hx hb dX9_again_4 rfl (lv_at hl 1 rfl) ?_
    refine lv_iconst (v := 3) hx hb dX9_again_5 (by decide) ?_
    refine lv_icmp_ge (tgt := 18) hx hb dX9_again_6 (by decide) (fun c6 => ?_) (fun c6 => ?_)
    · have h := ite_t c6 h
      refine lv_iconst (v := 0) hx hb dX9_again_18 (by decide) ?_
      exact wz_zretE C hlk hr (Or.inl rfl) (so2 h).1 (so2 h).2 hW dX9_again_19
    · have h := ite_f c6 h
      refine lv_aload_n hx hb dX9_again_9 rfl (lv_at hl 0 rfl) ?_
      obtain ⟨b10, hg, h⟩ := ob h
      refine wz_gN C hW flX9_23 hg dX9_again_10 ?_
      refine lv_iload_n hx hb dX9_again_13 rfl (lv_at hl 1 rfl) ?_
      obtain ⟨x14, hg, h⟩ := ob h
      refine wz_zld C hW hg dX9_again_14 ?_
      refine lv_if_ne (tgt := 20) hx hb dX9_again_15 (by decide) (fun c15 => ?_) (fun c15 => ?_)
      · have h := ite_f c15 h
        refine lv_aload_n hx hb dX9_again_20 rfl (lv_at hl 0 rfl) ?_
        obtain ⟨b21, hg, h⟩ := ob h
        refine wz_gN C hW flX9_13 hg dX9_again_21 ?_
        refine lv_aload_n hx hb dX9_again_24 rfl (lv_at hl 0 rfl) ?_
        obtain ⟨b25, hg, h⟩ := ob h
        refine wz_gN C hW flX9_19 hg dX9_again_25 ?_
        refine lv_iload_n hx hb dX9_again_28 rfl (lv_at hl 1 rfl) ?_
        obtain ⟨b29, hg, h⟩ := ob h
        refine wz_nld (Or.inr (Or.inr (Or.inr rfl))) C hW hg dX9_again_29 ?_
        obtain ⟨z30, hq, h⟩ := ob h
        refine wz_rV (c' := 0) (s' := 0) hW (wz_runV (rest := []) C hW lVX9_292 (ck hq).1 rfl (ctX7_copy l G b21 b29 z hq) ⟨⟨rfl, rfl⟩, Nat.le_of_ble_eq_true rfl, Nat.le_of_ble_eq_true rfl⟩ rfl hl.1 rfl (Nat.le_of_ble_eq_true rfl) dX9_again_30 ⟨Nat.le_of_ble_eq_true rfl, Nat.le_of_ble_eq_true rfl⟩) rfl rfl (fun H locs hW => ?_)
        refine lv_iconst (v := 1) hx hb dX9_again_33 (by decide) ?_
        exact wz_zretE C hlk hr (Or.inr rfl) (so2 h).1 (so2 h).2 hW dX9_again_34
      · have h := ite_t c15 h
        refine lv_iconst (v := 0) hx hb dX9_again_18 (by decide) ?_
        exact wz_zretE C hlk hr (Or.inl rfl) (so2 h).1 (so2 h).2 hW dX9_again_19
theorem flX10_7 : FL RX10 7 9 1 := ⟨_, rfl, Nat.le_of_ble_eq_true rfl, tw 1200 (by decide +kernel) rfl, rfl⟩
theorem flX10_13 : FL RX10 13 9 2 := ⟨_, rfl, Nat.le_of_ble_eq_true rfl, tw 1201 (by decide +kernel) rfl, rfl⟩
theorem flX10_17 : FL RX10 17 9 3 := ⟨_, rfl, Nat.le_of_ble_eq_true rfl, tw 1202 (by decide +kernel) rfl, rfl⟩
theorem flX10_20 : FL RX10 20 9 4 := ⟨_, rfl, Nat.le_of_ble_eq_true rfl, tw 1203 (by decide +kernel) rfl, rfl⟩
theorem flX10_23 : FL RX10 23 9 5 := ⟨_, rfl, Nat.le_of_ble_eq_true rfl, tw 1204 (by decide +kernel) rfl, rfl⟩
theorem flX10_26 : FL RX10 26 9 6 := ⟨_, rfl, Nat.le_of_ble_eq_true rfl, tw 1205 (by decide +kernel) rfl, rfl⟩
theorem flX10_29 : FL RX10 29 9 7 := ⟨_, rfl, Nat.le_of_ble_eq_true rfl, tw 1206 (by decide +kernel) rfl, rfl⟩
theorem flX10_32 : FL RX10 32 9 8 := ⟨_, rfl, Nat.le_of_ble_eq_true rfl, tw 1207 (by decide +kernel) rfl, rfl⟩
theorem flX10_35 : FL RX10 35 9 9 := ⟨_, rfl, Nat.le_of_ble_eq_true rfl, tw 1208 (by decide +kernel) rfl, rfl⟩
theorem flX10_38 : FL RX10 38 9 19 := ⟨_, rfl, Nat.le_of_ble_eq_true rfl, tw 1218 (by decide +kernel) rfl, rfl⟩
theorem flX10_41 : FL RX10 41 9 20 := ⟨_, rfl, Nat.le_of_ble_eq_true rfl, tw 1219 (by decide +kernel) rfl, rfl⟩
theorem flX10_44 : FL RX10 44 9 28 := ⟨_, rfl, Nat.le_of_ble_eq_true rfl, tw 1227 (by decide +kernel) rfl, rfl⟩
theorem flX10_47 : FL RX10 47 9 29 := ⟨_, rfl, Nat.le_of_ble_eq_true rfl, tw 1228 (by decide +kernel) rfl, rfl⟩
theorem flX10_50 : FL RX10 50 9 30 := ⟨_, rfl, Nat.le_of_ble_eq_true rfl, tw 1229 (by decide +kernel) rfl, rfl⟩
theorem flX10_53 : FL RX10 53 9 39 := ⟨_, rfl, Nat.le_of_ble_eq_true rfl, tw 1238 (by decide +kernel) rfl, rfl⟩
theorem flX10_56 : FL RX10 56 9 40 := ⟨_, rfl, Nat.le_of_ble_eq_true rfl, tw 1239 (by decide +kernel) rfl, rfl⟩
theorem flX10_59 : FL RX10 59 9 44 := ⟨_, rfl, Nat.le_of_ble_eq_true rfl, tw 1243 (by decide +kernel) rfl, rfl⟩
theorem flX10_62 : FL RX10 62 9 45 := ⟨_, rfl, Nat.le_of_ble_eq_true rfl, tw 1244 (by decide +kernel) rfl, rfl⟩
theorem flX10_65 : FL RX10 65 9 46 := ⟨_, rfl, Nat.le_of_ble_eq_true rfl, tw 1245 (by decide +kernel) rfl, rfl⟩
theorem flX10_68 : FL RX10 68 9 48 := ⟨_, rfl, Nat.le_of_ble_eq_true rfl, tw 1247 (by decide +kernel) rfl, rfl⟩
theorem flX10_71 : FL RX10 71 9 53 := ⟨_, rfl, Nat.le_of_ble_eq_true rfl, tw 1252 (by decide +kernel) rfl, rfl⟩
theorem flX10_74 : FL RX10 74 9 54 := ⟨_, rfl, Nat.le_of_ble_eq_true rfl, tw 1253 (by decide +kernel) rfl, rfl⟩
theorem flX10_77 : FL RX10 77 9 55 := ⟨_, rfl, Nat.le_of_ble_eq_true rfl, tw 1254 (by decide +kernel) rfl, rfl⟩
theorem dX10_init_0 : decode cX10_init 0 = .ok (.aload_n 0, 1) := by decide +kernel
theorem dX10_init_1 : decode cX10_init 1 = .ok (.invokespecial 1, 3) := by decide +kernel
theorem dX10_init_4 : decode cX10_init 4 = .ok (.aload_n 0, 1) := by decide +kernel
theorem dX10_init_5 : decode cX10_init 5 = .ok (.sipush 2400, 3) := by decide +kernel
theorem dX10_init_8 : decode cX10_init 8 = .ok (.newarray .byte, 2) := by decide +kernel
theorem dX10_init_10 : decode cX10_init 10 = .ok (.putfield 7, 3) := by decide +kernel
theorem dX10_init_13 : decode cX10_init 13 = .ok (.aload_n 0, 1) := by decide +kernel
theorem dX10_init_14 : decode cX10_init 14 = .ok (.iconst 4, 1) := by decide +kernel
theorem dX10_init_15 : decode cX10_init 15 = .ok (.newarray .int, 2) := by decide +kernel
theorem dX10_init_17 : decode cX10_init 17 = .ok (.putfield 13, 3) := by decide +kernel
theorem dX10_init_20 : decode cX10_init 20 = .ok (.aload_n 0, 1) := by decide +kernel
theorem dX10_init_21 : decode cX10_init 21 = .ok (.iconst 4, 1) := by decide +kernel
theorem dX10_init_22 : decode cX10_init 22 = .ok (.newarray .int, 2) := by decide +kernel
theorem dX10_init_24 : decode cX10_init 24 = .ok (.putfield 17, 3) := by decide +kernel
theorem dX10_init_27 : decode cX10_init 27 = .ok (.aload_n 0, 1) := by decide +kernel
theorem dX10_init_28 : decode cX10_init 28 = .ok (.iconst 4, 1) := by decide +kernel
theorem dX10_init_29 : decode cX10_init 29 = .ok (.newarray .int, 2) := by decide +kernel
theorem dX10_init_31 : decode cX10_init 31 = .ok (.putfield 20, 3) := by decide +kernel
theorem dX10_init_34 : decode cX10_init 34 = .ok (.aload_n 0, 1) := by decide +kernel
theorem dX10_init_35 : decode cX10_init 35 = .ok (.bipush 16, 2) := by decide +kernel
theorem dX10_init_37 : decode cX10_init 37 = .ok (.newarray .int, 2) := by decide +kernel
theorem dX10_init_39 : decode cX10_init 39 = .ok (.putfield 23, 3) := by decide +kernel
theorem dX10_init_42 : decode cX10_init 42 = .ok (.aload_n 0, 1) := by decide +kernel
theorem dX10_init_43 : decode cX10_init 43 = .ok (.sipush 880, 3) := by decide +kernel
theorem dX10_init_46 : decode cX10_init 46 = .ok (.newarray .int, 2) := by decide +kernel
theorem dX10_init_48 : decode cX10_init 48 = .ok (.putfield 26, 3) := by decide +kernel
theorem dX10_init_51 : decode cX10_init 51 = .ok (.aload_n 0, 1) := by decide +kernel
theorem dX10_init_52 : decode cX10_init 52 = .ok (.sipush 968, 3) := by decide +kernel
theorem dX10_init_55 : decode cX10_init 55 = .ok (.newarray .int, 2) := by decide +kernel
theorem dX10_init_57 : decode cX10_init 57 = .ok (.putfield 29, 3) := by decide +kernel
theorem dX10_init_60 : decode cX10_init 60 = .ok (.aload_n 0, 1) := by decide +kernel
theorem dX10_init_61 : decode cX10_init 61 = .ok (.sipush 136, 3) := by decide +kernel
theorem dX10_init_64 : decode cX10_init 64 = .ok (.newarray .int, 2) := by decide +kernel
theorem dX10_init_66 : decode cX10_init 66 = .ok (.putfield 32, 3) := by decide +kernel
theorem dX10_init_69 : decode cX10_init 69 = .ok (.aload_n 0, 1) := by decide +kernel
theorem dX10_init_70 : decode cX10_init 70 = .ok (.sipush 392, 3) := by decide +kernel
theorem dX10_init_73 : decode cX10_init 73 = .ok (.newarray .int, 2) := by decide +kernel
theorem dX10_init_75 : decode cX10_init 75 = .ok (.putfield 35, 3) := by decide +kernel
theorem dX10_init_78 : decode cX10_init 78 = .ok (.aload_n 0, 1) := by decide +kernel
theorem dX10_init_79 : decode cX10_init 79 = .ok (.bipush 121, 2) := by decide +kernel
theorem dX10_init_81 : decode cX10_init 81 = .ok (.newarray .int, 2) := by decide +kernel
theorem dX10_init_83 : decode cX10_init 83 = .ok (.putfield 38, 3) := by decide +kernel
theorem dX10_init_86 : decode cX10_init 86 = .ok (.aload_n 0, 1) := by decide +kernel
theorem dX10_init_87 : decode cX10_init 87 = .ok (.iconst 4, 1) := by decide +kernel
theorem dX10_init_88 : decode cX10_init 88 = .ok (.newarray .int, 2) := by decide +kernel
theorem dX10_init_90 : decode cX10_init 90 = .ok (.putfield 41, 3) := by decide +kernel
theorem dX10_init_93 : decode cX10_init 93 = .ok (.aload_n 0, 1) := by decide +kernel
theorem dX10_init_94 : decode cX10_init 94 = .ok (.bipush 8, 2) := by decide +kernel
theorem dX10_init_96 : decode cX10_init 96 = .ok (.newarray .int, 2) := by decide +kernel
theorem dX10_init_98 : decode cX10_init 98 = .ok (.putfield 44, 3) := by decide +kernel
theorem dX10_init_101 : decode cX10_init 101 = .ok (.aload_n 0, 1) := by decide +kernel
theorem dX10_init_102 : decode cX10_init 102 = .ok (.bipush 8, 2) := by decide +kernel
theorem dX10_init_104 : decode cX10_init 104 = .ok (.newarray .int, 2) := by decide +kernel
theorem dX10_init_106 : decode cX10_init 106 = .ok (.putfield 47, 3) := by decide +kernel
theorem dX10_init_109 : decode cX10_init 109 = .ok (.aload_n 0, 1) := by decide +kernel
theorem dX10_init_110 : decode cX10_init 110 = .ok (.bipush 8, 2) := by decide +kernel
theorem dX10_init_112 : decode cX10_init 112 = .ok (.newarray .int, 2) := by decide +kernel
theorem dX10_init_114 : decode cX10_init 114 = .ok (.putfield 50, 3) := by decide +kernel
theorem dX10_init_117 : decode cX10_init 117 = .ok (.aload_n 0, 1) := by decide +kernel
theorem dX10_init_118 : decode cX10_init 118 = .ok (.iconst 4, 1) := by decide +kernel
theorem dX10_init_119 : decode cX10_init 119 = .ok (.newarray .int, 2) := by decide +kernel
theorem dX10_init_121 : decode cX10_init 121 = .ok (.putfield 53, 3) := by decide +kernel
theorem dX10_init_124 : decode cX10_init 124 = .ok (.aload_n 0, 1) := by decide +kernel
theorem dX10_init_125 : decode cX10_init 125 = .ok (.iconst 4, 1) := by decide +kernel
theorem dX10_init_126 : decode cX10_init 126 = .ok (.newarray .int, 2) := by decide +kernel
theorem dX10_init_128 : decode cX10_init 128 = .ok (.putfield 56, 3) := by decide +kernel
theorem dX10_init_131 : decode cX10_init 131 = .ok (.aload_n 0, 1) := by decide +kernel
theorem dX10_init_132 : decode cX10_init 132 = .ok (.iconst 4, 1) := by decide +kernel
theorem dX10_init_133 : decode cX10_init 133 = .ok (.newarray .int, 2) := by decide +kernel
theorem dX10_init_135 : decode cX10_init 135 = .ok (.putfield 59, 3) := by decide +kernel
theorem dX10_init_138 : decode cX10_init 138 = .ok (.aload_n 0, 1) := by decide +kernel
theorem dX10_init_139 : decode cX10_init 139 = .ok (.iconst 4, 1) := by decide +kernel
theorem dX10_init_140 : decode cX10_init 140 = .ok (.newarray .int, 2) := by decide +kernel
theorem dX10_init_142 : decode cX10_init 142 = .ok (.putfield 62, 3) := by decide +kernel
theorem dX10_init_145 : decode cX10_init 145 = .ok (.aload_n 0, 1) := by decide +kernel
theorem dX10_init_146 : decode cX10_init 146 = .ok (.iconst 4, 1) := by decide +kernel
theorem dX10_init_147 : decode cX10_init 147 = .ok (.newarray .int, 2) := by decide +kernel
theorem dX10_init_149 : decode cX10_init 149 = .ok (.putfield 65, 3) := by decide +kernel
theorem dX10_init_152 : decode cX10_init 152 = .ok (.aload_n 0, 1) := by decide +kernel
theorem dX10_init_153 : decode cX10_init 153 = .ok (.bipush 100, 2) := by decide +kernel
theorem dX10_init_155 : decode cX10_init 155 = .ok (.newarray .int, 2) := by decide +kernel
theorem dX10_init_157 : decode cX10_init 157 = .ok (.putfield 68, 3) := by decide +kernel
theorem dX10_init_160 : decode cX10_init 160 = .ok (.aload_n 0, 1) := by decide +kernel
theorem dX10_init_161 : decode cX10_init 161 = .ok (.bipush 16, 2) := by decide +kernel
theorem dX10_init_163 : decode cX10_init 163 = .ok (.newarray .int, 2) := by decide +kernel
theorem dX10_init_165 : decode cX10_init 165 = .ok (.putfield 71, 3) := by decide +kernel
theorem dX10_init_168 : decode cX10_init 168 = .ok (.aload_n 0, 1) := by decide +kernel
theorem dX10_init_169 : decode cX10_init 169 = .ok (.iconst 4, 1) := by decide +kernel
theorem dX10_init_170 : decode cX10_init 170 = .ok (.newarray .int, 2) := by decide +kernel
theorem dX10_init_172 : decode cX10_init 172 = .ok (.putfield 74, 3) := by decide +kernel
theorem dX10_init_175 : decode cX10_init 175 = .ok (.aload_n 0, 1) := by decide +kernel
theorem dX10_init_176 : decode cX10_init 176 = .ok (.iconst 3, 1) := by decide +kernel
theorem dX10_init_177 : decode cX10_init 177 = .ok (.newarray .boolean, 2) := by decide +kernel
theorem dX10_init_179 : decode cX10_init 179 = .ok (.putfield 77, 3) := by decide +kernel
theorem dX10_init_182 : decode cX10_init 182 = .ok (.aload_n 0, 1) := by decide +kernel
theorem dX10_init_183 : decode cX10_init 183 = .ok (.getfield 20, 3) := by decide +kernel
theorem dX10_init_186 : decode cX10_init 186 = .ok (.iconst 0, 1) := by decide +kernel
theorem dX10_init_187 : decode cX10_init 187 = .ok (.iconst (-1), 1) := by decide +kernel
theorem dX10_init_188 : decode cX10_init 188 = .ok (.iastore, 1) := by decide +kernel
theorem dX10_init_189 : decode cX10_init 189 = .ok (.return_, 1) := by decide +kernel
abbrev rmX10_init : Room := { frames := 1, cells := 23, slots := 5096, locals := 20 }
def fX10_init (a0 : Nat) (z : AH) : Option AH :=
  if isO 9 z a0 = true then
    mk (.inl (1, 2400, fun _ => 0)) z fun b8 z8 =>
    (pF 9 1 z8 a0 (.ref b8)).bind fun z10 =>
    mk (.inl (0, 4, fun _ => 0)) z10 fun b15 z15 =>
    (pF 9 2 z15 a0 (.ref b15)).bind fun z17 =>
    mk (.inl (0, 4, fun _ => 0)) z17 fun b22 z22 =>
    (pF 9 3 z22 a0 (.ref b22)).bind fun z24 =>
    mk (.inl (0, 4, fun _ => 0)) z24 fun b29 z29 =>
    (pF 9 4 z29 a0 (.ref b29)).bind fun z31 =>
    mk (.inl (0, 16, fun _ => 0)) z31 fun b37 z37 =>
    (pF 9 5 z37 a0 (.ref b37)).bind fun z39 =>
    mk (.inl (0, 880, fun _ => 0)) z39 fun b46 z46 =>
    (pF 9 6 z46 a0 (.ref b46)).bind fun z48 =>
    mk (.inl (0, 968, fun _ => 0)) z48 fun b55 z55 =>
    (pF 9 7 z55 a0 (.ref b55)).bind fun z57 =>
    mk (.inl (0, 136, fun _ => 0)) z57 fun b64 z64 =>
    (pF 9 8 z64 a0 (.ref b64)).bind fun z66 =>
    mk (.inl (0, 392, fun _ => 0)) z66 fun b73 z73 =>
    (pF 9 9 z73 a0 (.ref b73)).bind fun z75 =>
    mk (.inl (0, 121, fun _ => 0)) z75 fun b81 z81 =>
    (pF 9 19 z81 a0 (.ref b81)).bind fun z83 =>
    mk (.inl (0, 4, fun _ => 0)) z83 fun b88 z88 =>
    (pF 9 20 z88 a0 (.ref b88)).bind fun z90 =>
    mk (.inl (0, 8, fun _ => 0)) z90 fun b96 z96 =>
    (pF 9 28 z96 a0 (.ref b96)).bind fun z98 =>
    mk (.inl (0, 8, fun _ => 0)) z98 fun b104 z104 =>
    (pF 9 29 z104 a0 (.ref b104)).bind fun z106 =>
    mk (.inl (0, 8, fun _ => 0)) z106 fun b112 z112 =>
    (pF 9 30 z112 a0 (.ref b112)).bind fun z114 =>
    mk (.inl (0, 4, fun _ => 0)) z114 fun b119 z119 =>
    (pF 9 39 z119 a0 (.ref b119)).bind fun z121 =>
    mk (.inl (0, 4, fun _ => 0)) z121 fun b126 z126 =>
    (pF 9 40 z126 a0 (.ref b126)).bind fun z128 =>
    mk (.inl (0, 4, fun _ => 0)) z128 fun b133 z133 =>
    (pF 9 44 z133 a0 (.ref b133)).bind fun z135 =>
    mk (.inl (0, 4, fun _ => 0)) z135 fun b140 z140 =>
    (pF 9 45 z140 a0 (.ref b140)).bind fun z142 =>
    mk (.inl (0, 4, fun _ => 0)) z142 fun b147 z147 =>
    (pF 9 46 z147 a0 (.ref b147)).bind fun z149 =>
    mk (.inl (0, 100, fun _ => 0)) z149 fun b155 z155 =>
    (pF 9 48 z155 a0 (.ref b155)).bind fun z157 =>
    mk (.inl (0, 16, fun _ => 0)) z157 fun b163 z163 =>
    (pF 9 53 z163 a0 (.ref b163)).bind fun z165 =>
    mk (.inl (0, 4, fun _ => 0)) z165 fun b170 z170 =>
    (pF 9 54 z170 a0 (.ref b170)).bind fun z172 =>
    mk (.inl (2, 3, fun _ => 0)) z172 fun b177 z177 =>
    (pF 9 55 z177 a0 (.ref b177)).bind fun z179 =>
    (gN 9 4 z179 a0).bind fun b183 =>
    (stI 0 z179 b183 (0 : Int32) (-1 : Int32)).bind fun z188 =>
    some z188
  else none
set_option maxHeartbeats 4000000 in
set_option maxRecDepth 100000 in
theorem ctX10_init (l : Launch) (G : GW) (a0 : Nat) (z : AH) {z' : AH} (h : fX10_init a0 z = some z') : Met l yX10_init (wy yX10_init cX10_init 1 none) rmX10_init (Pz G [.ref (gB G + a0)] z) (Qv G z') 23 5096 (AA G) := by
  refine wz_ent (own := RX10) (by decide +kernel) rfl (fun p e s m below meth c ls C hlk hr hin hW hl => ?_) (Nat.le_of_ble_eq_true rfl)
  have hl : lv_has ls 1 [(0, .ref (gB G + a0))] := hl
  have hx := C.1
  have hb := C.2.1
  unfold fX10_init at h
  obtain ⟨-, h⟩ := ck h
  refine lv_aload_n hx hb dX10_init_0 rfl (lv_at hl 0 rfl) ?_
  refine wz_obj ⟨tw 1198 (by decide +kernel) rfl, tw 144 (by decide +kernel) rfl, tw 145 (by decide +kernel) rfl⟩ C hl.1 dX10_init_1 ⟨Nat.le_of_ble_eq_true rfl, Nat.le_of_ble_eq_true rfl⟩ ?_
  refine lv_aload_n hx hb dX10_init_4 rfl (lv_at hl 0 rfl) ?_
  refine lv_sipush (v := 2400) hx hb dX10_init_5 (by decide) ?_
  obtain ⟨b8, z8, ea, ez, h⟩ := mk_ob h
  refine wz_newBK (N := 2400) (c' := 1) (s' := 2400) ea ez (tw 284 (by decide +kernel) rfl) C hW (by decide) (by decide +kernel) (Nat.le_of_ble_eq_true rfl) ⟨Nat.le_of_ble_eq_true rfl, Nat.le_of_ble_eq_true rfl⟩ rfl rfl dX10_init_8 (fun H hW => ?_)
  obtain ⟨z10, hg, h⟩ := ob h
  refine wz_putF (v := (.ref b8)) C hin hW flX10_7 rfl rfl hg dX10_init_10 (fun H locs hW => ?_)
  refine lv_aload_n hx hb dX10_init_13 rfl (lv_at hl 0 rfl) ?_
  refine lv_iconst (v := 4) hx hb dX10_init_14 (by decide) ?_
  obtain ⟨b15, z15, ea, ez, h⟩ := mk_ob h
  refine wz_newIK (N := 4) (c' := 2) (s' := 2404) ea ez (tw 247 (by decide +kernel) rfl) C hW (by decide) (by decide +kernel) (Nat.le_of_ble_eq_true rfl) ⟨Nat.le_of_ble_eq_true rfl, Nat.le_of_ble_eq_true rfl⟩ rfl rfl dX10_init_15 (fun H hW => ?_)
  obtain ⟨z17, hg, h⟩ := ob h
  refine wz_putF (v := (.ref b15)) C hin hW flX10_13 rfl rfl hg dX10_init_17 (fun H locs hW => ?_)
  refine lv_aload_n hx hb dX10_init_20 rfl (lv_at hl 0 rfl) ?_
  refine lv_iconst (v := 4) hx hb dX10_init_21 (by decide) ?_
  obtain ⟨b22, z22, ea, ez, h⟩ := mk_ob h
  refine wz_newIK (N := 4) (c' := 3) (s' := 2408) ea ez (tw 247 (by decide +kernel) rfl) C hW (by decide) (by decide +kernel) (Nat.le_of_ble_eq_true rfl) ⟨Nat.le_of_ble_eq_true rfl, Nat.le_of_ble_eq_true rfl⟩ rfl rfl dX10_init_22 (fun H hW => ?_)
  obtain ⟨z24, hg, h⟩ := ob h
  refine wz_putF (v := (.ref b22)) C hin hW flX10_17 rfl rfl hg dX10_init_24 (fun H locs hW => ?_)
  refine lv_aload_n hx hb dX10_init_27 rfl (lv_at hl 0 rfl) ?_
  refine lv_iconst (v := 4) hx hb dX10_init_28 (by decide) ?_
  obtain ⟨b29, z29, ea, ez, h⟩ := mk_ob h
  refine wz_newIK (N := 4) (c' := 4) (s' := 2412) ea ez (tw 247 (by decide +kernel) rfl) C hW (by decide) (by decide +kernel) (Nat.le_of_ble_eq_true rfl) ⟨Nat.le_of_ble_eq_true rfl, Nat.le_of_ble_eq_true rfl⟩ rfl rfl dX10_init_29 (fun H hW => ?_)
  obtain ⟨z31, hg, h⟩ := ob h
  refine wz_putF (v := (.ref b29)) C hin hW flX10_20 rfl rfl hg dX10_init_31 (fun H locs hW => ?_)
  refine lv_aload_n hx hb dX10_init_34 rfl (lv_at hl 0 rfl) ?_
  refine lv_bipush (v := 16) hx hb dX10_init_35 (by decide) ?_
  obtain ⟨b37, z37, ea, ez, h⟩ := mk_ob h
  refine wz_newIK (N := 16) (c' := 5) (s' := 2428) ea ez (tw 247 (by decide +kernel) rfl) C hW (by decide) (by decide +kernel) (Nat.le_of_ble_eq_true rfl) ⟨Nat.le_of_ble_eq_true rfl, Nat.le_of_ble_eq_true rfl⟩ rfl rfl dX10_init_37 (fun H hW => ?_)
  obtain ⟨z39, hg, h⟩ := ob h
  refine wz_putF (v := (.ref b37)) C hin hW flX10_23 rfl rfl hg dX10_init_39 (fun H locs hW => ?_)
  refine lv_aload_n hx hb dX10_init_42 rfl (lv_at hl 0 rfl) ?_
  refine lv_sipush (v := 880) hx hb dX10_init_43 (by decide) ?_
  obtain ⟨b46, z46, ea, ez, h⟩ := mk_ob h
  refine wz_newIK (N := 880) (c' := 6) (s' := 3308) ea ez (tw 247 (by decide +kernel) rfl) C hW (by decide) (by decide +kernel) (Nat.le_of_ble_eq_true rfl) ⟨Nat.le_of_ble_eq_true rfl, Nat.le_of_ble_eq_true rfl⟩ rfl rfl dX10_init_46 (fun H hW => ?_)
  obtain ⟨z48, hg, h⟩ := ob h
  refine wz_putF (v := (.ref b46)) C hin hW flX10_26 rfl rfl hg dX10_init_48 (fun H locs hW => ?_)
  refine lv_aload_n hx hb dX10_init_51 rfl (lv_at hl 0 rfl) ?_
  refine lv_sipush (v := 968) hx hb dX10_init_52 (by decide) ?_
  obtain ⟨b55, z55, ea, ez, h⟩ := mk_ob h
  refine wz_newIK (N := 968) (c' := 7) (s' := 4276) ea ez (tw 247 (by decide +kernel) rfl) C hW (by decide) (by decide +kernel) (Nat.le_of_ble_eq_true rfl) ⟨Nat.le_of_ble_eq_true rfl, Nat.le_of_ble_eq_true rfl⟩ rfl rfl dX10_init_55 (fun H hW => ?_)
  obtain ⟨z57, hg, h⟩ := ob h
  refine wz_putF (v := (.ref b55)) C hin hW flX10_29 rfl rfl hg dX10_init_57 (fun H locs hW => ?_)
  refine lv_aload_n hx hb dX10_init_60 rfl (lv_at hl 0 rfl) ?_
  refine lv_sipush (v := 136) hx hb dX10_init_61 (by decide) ?_
  obtain ⟨b64, z64, ea, ez, h⟩ := mk_ob h
  refine wz_newIK (N := 136) (c' := 8) (s' := 4412) ea ez (tw 247 (by decide +kernel) rfl) C hW (by decide) (by decide +kernel) (Nat.le_of_ble_eq_true rfl) ⟨Nat.le_of_ble_eq_true rfl, Nat.le_of_ble_eq_true rfl⟩ rfl rfl dX10_init_64 (fun H hW => ?_)
  obtain ⟨z66, hg, h⟩ := ob h
  refine wz_putF (v := (.ref b64)) C hin hW flX10_32 rfl rfl hg dX10_init_66 (fun H locs hW => ?_)
  refine lv_aload_n hx hb dX10_init_69 rfl (lv_at hl 0 rfl) ?_
  refine lv_sipush (v := 392) hx hb dX10_init_70 (by decide) ?_
  obtain ⟨b73, z73, ea, ez, h⟩ := mk_ob h
  refine wz_newIK (N := 392) (c' := 9) (s' := 4804) ea ez (tw 247 (by decide +kernel) rfl) C hW (by decide) (by decide +kernel) (Nat.le_of_ble_eq_true rfl) ⟨Nat.le_of_ble_eq_true rfl, Nat.le_of_ble_eq_true rfl⟩ rfl rfl dX10_init_73 (fun H hW => ?_)
  obtain ⟨z75, hg, h⟩ := ob h
  refine wz_putF (v := (.ref b73)) C hin hW flX10_35 rfl rfl hg dX10_init_75 (fun H locs hW => ?_)
  refine lv_aload_n hx hb dX10_init_78 rfl (lv_at hl 0 rfl) ?_
  refine lv_bipush (v := 121) hx hb dX10_init_79 (by decide) ?_
  obtain ⟨b81, z81, ea, ez, h⟩ := mk_ob h
  refine wz_newIK (N := 121) (c' := 10) (s' := 4925) ea ez (tw 247 (by decide +kernel) rfl) C hW (by decide) (by decide +kernel) (Nat.le_of_ble_eq_true rfl) ⟨Nat.le_of_ble_eq_true rfl, Nat.le_of_ble_eq_true rfl⟩ rfl rfl dX10_init_81 (fun H hW => ?_)
  obtain ⟨z83, hg, h⟩ := ob h
  refine wz_putF (v := (.ref b81)) C hin hW flX10_38 rfl rfl hg dX10_init_83 (fun H locs hW => ?_)
  refine lv_aload_n hx hb dX10_init_86 rfl (lv_at hl 0 rfl) ?_
  refine lv_iconst (v := 4) hx hb dX10_init_87 (by decide) ?_
  obtain ⟨b88, z88, ea, ez, h⟩ := mk_ob h
  refine wz_newIK (N := 4) (c' := 11) (s' := 4929) ea ez (tw 247 (by decide +kernel) rfl) C hW (by decide) (by decide +kernel) (Nat.le_of_ble_eq_true rfl) ⟨Nat.le_of_ble_eq_true rfl, Nat.le_of_ble_eq_true rfl⟩ rfl rfl dX10_init_88 (fun H hW => ?_)
  obtain ⟨z90, hg, h⟩ := ob h
  refine wz_putF (v := (.ref b88)) C hin hW flX10_41 rfl rfl hg dX10_init_90 (fun H locs hW => ?_)
  refine lv_aload_n hx hb dX10_init_93 rfl (lv_at hl 0 rfl) ?_
  refine lv_bipush (v := 8) hx hb dX10_init_94 (by decide) ?_
  obtain ⟨b96, z96, ea, ez, h⟩ := mk_ob h
  refine wz_newIK (N := 8) (c' := 12) (s' := 4937) ea ez (tw 247 (by decide +kernel) rfl) C hW (by decide) (by decide +kernel) (Nat.le_of_ble_eq_true rfl) ⟨Nat.le_of_ble_eq_true rfl, Nat.le_of_ble_eq_true rfl⟩ rfl rfl dX10_init_96 (fun H hW => ?_)
  obtain ⟨z98, hg, h⟩ := ob h
  refine wz_putF (v := (.ref b96)) C hin hW flX10_44 rfl rfl hg dX10_init_98 (fun H locs hW => ?_)
  refine lv_aload_n hx hb dX10_init_101 rfl (lv_at hl 0 rfl) ?_
  refine lv_bipush (v := 8) hx hb dX10_init_102 (by decide) ?_
  obtain ⟨b104, z104, ea, ez, h⟩ := mk_ob h
  refine wz_newIK (N := 8) (c' := 13) (s' := 4945) ea ez (tw 247 (by decide +kernel) rfl) C hW (by decide) (by decide +kernel) (Nat.le_of_ble_eq_true rfl) ⟨Nat.le_of_ble_eq_true rfl, Nat.le_of_ble_eq_true rfl⟩ rfl rfl dX10_init_104 (fun H hW => ?_)
  obtain ⟨z106, hg, h⟩ := ob h
  refine wz_putF (v := (.ref b104)) C hin hW flX10_47 rfl rfl hg dX10_init_106 (fun H locs hW => ?_)
  refine lv_aload_n hx hb dX10_init_109 rfl (lv_at hl 0 rfl) ?_
  refine lv_bipush (v := 8) hx hb dX10_init_110 (by decide) ?_
  obtain ⟨b112, z112, ea, ez, h⟩ := mk_ob h
  refine wz_newIK (N := 8) (c' := 14) (s' := 4953) ea ez (tw 247 (by decide +kernel) rfl) C hW (by decide) (by decide +kernel) (Nat.le_of_ble_eq_true rfl) ⟨Nat.le_of_ble_eq_true rfl, Nat.le_of_ble_eq_true rfl⟩ rfl rfl dX10_init_112 (fun H hW => ?_)
  obtain ⟨z114, hg, h⟩ := ob h
  refine wz_putF (v := (.ref b112)) C hin hW flX10_50 rfl rfl hg dX10_init_114 (fun H locs hW => ?_)
  refine lv_aload_n hx hb dX10_init_117 rfl (lv_at hl 0 rfl) ?_
  refine lv_iconst (v := 4) hx hb dX10_init_118 (by decide) ?_
  obtain ⟨b119, z119, ea, ez, h⟩ := mk_ob h
  refine wz_newIK (N := 4) (c' := 15) (s' := 4957) ea ez (tw 247 (by decide +kernel) rfl) C hW (by decide) (by decide +kernel) (Nat.le_of_ble_eq_true rfl) ⟨Nat.le_of_ble_eq_true rfl, Nat.le_of_ble_eq_true rfl⟩ rfl rfl dX10_init_119 (fun H hW => ?_)
  obtain ⟨z121, hg, h⟩ := ob h
  refine wz_putF (v := (.ref b119)) C hin hW flX10_53 rfl rfl hg dX10_init_121 (fun H locs hW => ?_)
  refine lv_aload_n hx hb dX10_init_124 rfl (lv_at hl 0 rfl) ?_
  refine lv_iconst (v := 4) hx hb dX10_init_125 (by decide) ?_
  obtain ⟨b126, z126, ea, ez, h⟩ := mk_ob h
  refine wz_newIK (N := 4) (c' := 16) (s' := 4961) ea ez (tw 247 (by decide +kernel) rfl) C hW (by decide) (by decide +kernel) (Nat.le_of_ble_eq_true rfl) ⟨Nat.le_of_ble_eq_true rfl, Nat.le_of_ble_eq_true rfl⟩ rfl rfl dX10_init_126 (fun H hW => ?_)
  obtain ⟨z128, hg, h⟩ := ob h
  refine wz_putF (v := (.ref b126)) C hin hW flX10_56 rfl rfl hg dX10_init_128 (fun H locs hW => ?_)
  refine lv_aload_n hx hb dX10_init_131 rfl (lv_at hl 0 rfl) ?_
  refine lv_iconst (v := 4) hx hb dX10_init_132 (by decide) ?_
  obtain ⟨b133, z133, ea, ez, h⟩ := mk_ob h
  refine wz_newIK (N := 4) (c' := 17) (s' := 4965) ea ez (tw 247 (by decide +kernel) rfl) C hW (by decide) (by decide +kernel) (Nat.le_of_ble_eq_true rfl) ⟨Nat.le_of_ble_eq_true rfl, Nat.le_of_ble_eq_true rfl⟩ rfl rfl dX10_init_133 (fun H hW => ?_)
  obtain ⟨z135, hg, h⟩ := ob h
  refine wz_putF (v := (.ref b133)) C hin hW flX10_59 rfl rfl hg dX10_init_135 (fun H locs hW => ?_)
  refine lv_aload_n hx hb dX10_init_138 rfl (lv_at hl 0 rfl) ?_
  refine lv_iconst (v := 4) hx hb dX10_init_139 (by decide) ?_
  obtain ⟨b140, z140, ea, ez, h⟩ := mk_ob h
  refine wz_newIK (N := 4) (c' := 18) (s' := 4969) ea ez (tw 247 (by decide +kernel) rfl) C hW (by decide) (by decide +kernel) (Nat.le_of_ble_eq_true rfl) ⟨Nat.le_of_ble_eq_true rfl, Nat.le_of_ble_eq_true rfl⟩ rfl rfl dX10_init_140 (fun H hW => ?_)
  obtain ⟨z142, hg, h⟩ := ob h
  refine wz_putF (v := (.ref b140)) C hin hW flX10_62 rfl rfl hg dX10_init_142 (fun H locs hW => ?_)
  refine lv_aload_n hx hb dX10_init_145 rfl (lv_at hl 0 rfl) ?_
  refine lv_iconst (v := 4) hx hb dX10_init_146 (by decide) ?_
  obtain ⟨b147, z147, ea, ez, h⟩ := mk_ob h
  refine wz_newIK (N := 4) (c' := 19) (s' := 4973) ea ez (tw 247 (by decide +kernel) rfl) C hW (by decide) (by decide +kernel) (Nat.le_of_ble_eq_true rfl) ⟨Nat.le_of_ble_eq_true rfl, Nat.le_of_ble_eq_true rfl⟩ rfl rfl dX10_init_147 (fun H hW => ?_)
  obtain ⟨z149, hg, h⟩ := ob h
  refine wz_putF (v := (.ref b147)) C hin hW flX10_65 rfl rfl hg dX10_init_149 (fun H locs hW => ?_)
  refine lv_aload_n hx hb dX10_init_152 rfl (lv_at hl 0 rfl) ?_
  refine lv_bipush (v := 100) hx hb dX10_init_153 (by decide) ?_
  obtain ⟨b155, z155, ea, ez, h⟩ := mk_ob h
  refine wz_newIK (N := 100) (c' := 20) (s' := 5073) ea ez (tw 247 (by decide +kernel) rfl) C hW (by decide) (by decide +kernel) (Nat.le_of_ble_eq_true rfl) ⟨Nat.le_of_ble_eq_true rfl, Nat.le_of_ble_eq_true rfl⟩ rfl rfl dX10_init_155 (fun H hW => ?_)
  obtain ⟨z157, hg, h⟩ := ob h
  refine wz_putF (v := (.ref b155)) C hin hW flX10_68 rfl rfl hg dX10_init_157 (fun H locs hW => ?_)
  refine lv_aload_n hx hb dX10_init_160 rfl (lv_at hl 0 rfl) ?_
  refine lv_bipush (v := 16) hx hb dX10_init_161 (by decide) ?_
  obtain ⟨b163, z163, ea, ez, h⟩ := mk_ob h
  refine wz_newIK (N := 16) (c' := 21) (s' := 5089) ea ez (tw 247 (by decide +kernel) rfl) C hW (by decide) (by decide +kernel) (Nat.le_of_ble_eq_true rfl) ⟨Nat.le_of_ble_eq_true rfl, Nat.le_of_ble_eq_true rfl⟩ rfl rfl dX10_init_163 (fun H hW => ?_)
  obtain ⟨z165, hg, h⟩ := ob h
  refine wz_putF (v := (.ref b163)) C hin hW flX10_71 rfl rfl hg dX10_init_165 (fun H locs hW => ?_)
  refine lv_aload_n hx hb dX10_init_168 rfl (lv_at hl 0 rfl) ?_
  refine lv_iconst (v := 4) hx hb dX10_init_169 (by decide) ?_
  obtain ⟨b170, z170, ea, ez, h⟩ := mk_ob h
  refine wz_newIK (N := 4) (c' := 22) (s' := 5093) ea ez (tw 247 (by decide +kernel) rfl) C hW (by decide) (by decide +kernel) (Nat.le_of_ble_eq_true rfl) ⟨Nat.le_of_ble_eq_true rfl, Nat.le_of_ble_eq_true rfl⟩ rfl rfl dX10_init_170 (fun H hW => ?_)
  obtain ⟨z172, hg, h⟩ := ob h
  refine wz_putF (v := (.ref b170)) C hin hW flX10_74 rfl rfl hg dX10_init_172 (fun H locs hW => ?_)
  refine lv_aload_n hx hb dX10_init_175 rfl (lv_at hl 0 rfl) ?_
  refine lv_iconst (v := 3) hx hb dX10_init_176 (by decide) ?_
  obtain ⟨b177, z177, ea, ez, h⟩ := mk_ob h
  refine wz_newZK (N := 3) (c' := 23) (s' := 5096) ea ez (tw 342 (by decide +kernel) rfl) C hW (by decide) (by decide +kernel) (Nat.le_of_ble_eq_true rfl) ⟨Nat.le_of_ble_eq_true rfl, Nat.le_of_ble_eq_true rfl⟩ rfl rfl dX10_init_177 (fun H hW => ?_)
  obtain ⟨z179, hg, h⟩ := ob h
  refine wz_putF (v := (.ref b177)) C hin hW flX10_77 rfl rfl hg dX10_init_179 (fun H locs hW => ?_)
  refine lv_aload_n hx hb dX10_init_182 rfl (lv_at hl 0 rfl) ?_
  obtain ⟨b183, hg, h⟩ := ob h
  refine wz_gN C hW flX10_20 hg dX10_init_183 ?_
  refine lv_iconst (v := 0) hx hb dX10_init_186 (by decide) ?_
  refine lv_iconst (v := -1) hx hb dX10_init_187 (by decide) ?_
  obtain ⟨z188, hg, h⟩ := ob h
  refine wz_ast C hW hg dX10_init_188 (fun H locs hW => ?_)
  exact wz_vretE C hlk hr (Option.some.inj h) hW dX10_init_189
theorem dX10_in_0 : decode cX10_in 0 = .ok (.iload_n 0, 1) := by decide +kernel
theorem dX10_in_1 : decode cX10_in 1 = .ok (.iload_n 1, 1) := by decide +kernel
theorem dX10_in_2 : decode cX10_in 2 = .ok (.if_icmp .lt 12, 3) := by decide +kernel
theorem dX10_in_5 : decode cX10_in 5 = .ok (.iload_n 0, 1) := by decide +kernel
theorem dX10_in_6 : decode cX10_in 6 = .ok (.iload_n 2, 1) := by decide +kernel
theorem dX10_in_7 : decode cX10_in 7 = .ok (.if_icmp .gt 7, 3) := by decide +kernel
theorem dX10_in_10 : decode cX10_in 10 = .ok (.iconst 1, 1) := by decide +kernel
theorem dX10_in_11 : decode cX10_in 11 = .ok (.goto 4, 3) := by decide +kernel
theorem dX10_in_14 : decode cX10_in 14 = .ok (.iconst 0, 1) := by decide +kernel
theorem dX10_in_15 : decode cX10_in 15 = .ok (.ireturn, 1) := by decide +kernel
abbrev rmX10_in : Room := { frames := 0, cells := 0, slots := 0, locals := 0 }
def fX10_in (l0 : Int32) (l1 : Int32) (l2 : Int32) : Int32 :=
  if l0 < l1 then (
    (0 : Int32)
  ) else (
    if l2 < l0 then (
      (0 : Int32)
    ) else (
      (1 : Int32)
    )
  )
set_option maxHeartbeats 4000000 in
set_option maxRecDepth 100000 in
theorem ctX10_in (l : Launch) (G : GW) (l0 : Int32) (l1 : Int32) (l2 : Int32) (z : AH) {r : Int32} (h : fX10_in l0 l1 l2 = r) : Met l yX10_in (wy yX10_in cX10_in 3 (some .boolean)) rmX10_in (Pz G [.int l0, .int l1, .int l2] z) (Qi G r z) 0 0 (AA G) := by
  refine wz_ent (own := RX10) (by decide +kernel) rfl (fun p e s m below meth c ls C hlk hr hin hW hl => ?_) (Nat.le_of_ble_eq_true rfl)
  have hl : lv_has ls 3 [(0, .int l0), (1, .int l1), (2, .int l2)] := hl
  have hx := C.1
  have hb := C.2.1
  unfold fX10_in at h
  refine lv_iload_n hx hb dX10_in_0 rfl (lv_at hl 0 rfl) ?_
  refine lv_iload_n hx hb dX10_in_1 rfl (lv_at hl 1 rfl) ?_
  refine lv_icmp_lt (tgt := 14) hx hb dX10_in_2 (by decide) (fun c2 => ?_) (fun c2 => ?_)
  · have h := ite_t c2 h
    refine lv_iconst (v := 0) hx hb dX10_in_14 (by decide) ?_
    exact wz_zretE C hlk hr (Or.inl rfl) h rfl hW dX10_in_15
  · have h := ite_f c2 h
    refine lv_iload_n hx hb dX10_in_5 rfl (lv_at hl 0 rfl) ?_
    refine lv_iload_n hx hb dX10_in_6 rfl (lv_at hl 2 rfl) ?_
    refine lv_icmp_gt (tgt := 14) hx hb dX10_in_7 (by decide) (fun c7 => ?_) (fun c7 => ?_)
    · have h := ite_t c7 h
      refine lv_iconst (v := 0) hx hb dX10_in_14 (by decide) ?_
      exact wz_zretE C hlk hr (Or.inl rfl) h rfl hW dX10_in_15
    · have h := ite_f c7 h
      refine lv_iconst (v := 1) hx hb dX10_in_10 (by decide) ?_
      refine lv_goto (tgt := 15) hx hb dX10_in_11 (by decide) ?_
      exact wz_zretE C hlk hr (Or.inr rfl) h rfl hW dX10_in_15
theorem dX10_has_0 : decode cX10_has 0 = .ok (.iload_n 0, 1) := by decide +kernel
theorem dX10_has_1 : decode cX10_has 1 = .ok (.iload_n 1, 1) := by decide +kernel
theorem dX10_has_2 : decode cX10_has 2 = .ok (.ishr, 1) := by decide +kernel
theorem dX10_has_3 : decode cX10_has 3 = .ok (.iconst 1, 1) := by decide +kernel
theorem dX10_has_4 : decode cX10_has 4 = .ok (.iand, 1) := by decide +kernel
theorem dX10_has_5 : decode cX10_has 5 = .ok (.iconst 1, 1) := by decide +kernel
theorem dX10_has_6 : decode cX10_has 6 = .ok (.if_icmp .ne 7, 3) := by decide +kernel
theorem dX10_has_9 : decode cX10_has 9 = .ok (.iconst 1, 1) := by decide +kernel
theorem dX10_has_10 : decode cX10_has 10 = .ok (.goto 4, 3) := by decide +kernel
theorem dX10_has_13 : decode cX10_has 13 = .ok (.iconst 0, 1) := by decide +kernel
theorem dX10_has_14 : decode cX10_has 14 = .ok (.ireturn, 1) := by decide +kernel
abbrev rmX10_has : Room := { frames := 0, cells := 0, slots := 0, locals := 0 }
def fX10_has (l0 : Int32) (l1 : Int32) : Int32 :=
  if ((shr l0 l1) &&& (1 : Int32)) = (1 : Int32) then (
    (1 : Int32)
  ) else (
    (0 : Int32)
  )
set_option maxHeartbeats 4000000 in
set_option maxRecDepth 100000 in
theorem ctX10_has (l : Launch) (G : GW) (l0 : Int32) (l1 : Int32) (z : AH) {r : Int32} (h : fX10_has l0 l1 = r) : Met l yX10_has (wy yX10_has cX10_has 2 (some .boolean)) rmX10_has (Pz G [.int l0, .int l1] z) (Qi G r z) 0 0 (AA G) := by
  refine wz_ent (own := RX10) (by decide +kernel) rfl (fun p e s m below meth c ls C hlk hr hin hW hl => ?_) (Nat.le_of_ble_eq_true rfl)
  have hl : lv_has ls 2 [(0, .int l0), (1, .int l1)] := hl
  have hx := C.1
  have hb := C.2.1
  unfold fX10_has at h
  refine lv_iload_n hx hb dX10_has_0 rfl (lv_at hl 0 rfl) ?_
  refine lv_iload_n hx hb dX10_has_1 rfl (lv_at hl 1 rfl) ?_
  refine wz_shr hx hb dX10_has_2 ?_
  refine lv_iconst (v := 1) hx hb dX10_has_3 (by decide) ?_
  refine lv_iand hx hb dX10_has_4 ?_
  refine lv_iconst (v := 1) hx hb dX10_has_5 (by decide) ?_
  refine lv_icmp_ne (tgt := 13) hx hb dX10_has_6 (by decide) (fun c6 => ?_) (fun c6 => ?_)
  · have h := ite_f c6 h
    refine lv_iconst (v := 0) hx hb dX10_has_13 (by decide) ?_
    exact wz_zretE C hlk hr (Or.inl rfl) h rfl hW dX10_has_14
  · have h := ite_t c6 h
    refine lv_iconst (v := 1) hx hb dX10_has_9 (by decide) ?_
    refine lv_goto (tgt := 14) hx hb dX10_has_10 (by decide) ?_
    exact wz_zretE C hlk hr (Or.inr rfl) h rfl hW dX10_has_14
theorem dX10_greater_0 : decode cX10_greater 0 = .ok (.iload_n 0, 1) := by decide +kernel
theorem dX10_greater_1 : decode cX10_greater 1 = .ok (.iload_n 1, 1) := by decide +kernel
theorem dX10_greater_2 : decode cX10_greater 2 = .ok (.if_icmp .le 7, 3) := by decide +kernel
theorem dX10_greater_5 : decode cX10_greater 5 = .ok (.iload_n 0, 1) := by decide +kernel
theorem dX10_greater_6 : decode cX10_greater 6 = .ok (.goto 4, 3) := by decide +kernel
theorem dX10_greater_9 : decode cX10_greater 9 = .ok (.iload_n 1, 1) := by decide +kernel
theorem dX10_greater_10 : decode cX10_greater 10 = .ok (.ireturn, 1) := by decide +kernel
abbrev rmX10_greater : Room := { frames := 0, cells := 0, slots := 0, locals := 0 }
def fX10_greater (l0 : Int32) (l1 : Int32) : Int32 :=
  if l0 ≤ l1 then (
    l1
  ) else (
    l0
  )
set_option maxHeartbeats 4000000 in
set_option maxRecDepth 100000 in
theorem ctX10_greater (l : Launch) (G : GW) (l0 : Int32) (l1 : Int32) (z : AH) {r : Int32} (h : fX10_greater l0 l1 = r) : Met l yX10_greater (wy yX10_greater cX10_greater 2 (some .int)) rmX10_greater (Pz G [.int l0, .int l1] z) (Qi G r z) 0 0 (AA G) := by
  refine wz_ent (own := RX10) (by decide +kernel) rfl (fun p e s m below meth c ls C hlk hr hin hW hl => ?_) (Nat.le_of_ble_eq_true rfl)
  have hl : lv_has ls 2 [(0, .int l0), (1, .int l1)] := hl
  have hx := C.1
  have hb := C.2.1
  unfold fX10_greater at h
  refine lv_iload_n hx hb dX10_greater_0 rfl (lv_at hl 0 rfl) ?_
  refine lv_iload_n hx hb dX10_greater_1 rfl (lv_at hl 1 rfl) ?_
  refine lv_icmp_le (tgt := 9) hx hb dX10_greater_2 (by decide) (fun c2 => ?_) (fun c2 => ?_)
  · have h := ite_t c2 h
    refine lv_iload_n hx hb dX10_greater_9 rfl (lv_at hl 1 rfl) ?_
    exact wz_iretE C hlk hr h rfl hW dX10_greater_10
  · have h := ite_f c2 h
    refine lv_iload_n hx hb dX10_greater_5 rfl (lv_at hl 0 rfl) ?_
    refine lv_goto (tgt := 10) hx hb dX10_greater_6 (by decide) ?_
    exact wz_iretE C hlk hr h rfl hW dX10_greater_10
theorem dX10_lesser_0 : decode cX10_lesser 0 = .ok (.iload_n 0, 1) := by decide +kernel
theorem dX10_lesser_1 : decode cX10_lesser 1 = .ok (.iload_n 1, 1) := by decide +kernel
theorem dX10_lesser_2 : decode cX10_lesser 2 = .ok (.if_icmp .ge 7, 3) := by decide +kernel
theorem dX10_lesser_5 : decode cX10_lesser 5 = .ok (.iload_n 0, 1) := by decide +kernel
theorem dX10_lesser_6 : decode cX10_lesser 6 = .ok (.goto 4, 3) := by decide +kernel
theorem dX10_lesser_9 : decode cX10_lesser 9 = .ok (.iload_n 1, 1) := by decide +kernel
theorem dX10_lesser_10 : decode cX10_lesser 10 = .ok (.ireturn, 1) := by decide +kernel
abbrev rmX10_lesser : Room := { frames := 0, cells := 0, slots := 0, locals := 0 }
def fX10_lesser (l0 : Int32) (l1 : Int32) : Int32 :=
  if l1 ≤ l0 then (
    l1
  ) else (
    l0
  )
set_option maxHeartbeats 4000000 in
set_option maxRecDepth 100000 in
theorem ctX10_lesser (l : Launch) (G : GW) (l0 : Int32) (l1 : Int32) (z : AH) {r : Int32} (h : fX10_lesser l0 l1 = r) : Met l yX10_lesser (wy yX10_lesser cX10_lesser 2 (some .int)) rmX10_lesser (Pz G [.int l0, .int l1] z) (Qi G r z) 0 0 (AA G) := by
  refine wz_ent (own := RX10) (by decide +kernel) rfl (fun p e s m below meth c ls C hlk hr hin hW hl => ?_) (Nat.le_of_ble_eq_true rfl)
  have hl : lv_has ls 2 [(0, .int l0), (1, .int l1)] := hl
  have hx := C.1
  have hb := C.2.1
  unfold fX10_lesser at h
  refine lv_iload_n hx hb dX10_lesser_0 rfl (lv_at hl 0 rfl) ?_
  refine lv_iload_n hx hb dX10_lesser_1 rfl (lv_at hl 1 rfl) ?_
  refine lv_icmp_ge (tgt := 9) hx hb dX10_lesser_2 (by decide) (fun c2 => ?_) (fun c2 => ?_)
  · have h := ite_t c2 h
    refine lv_iload_n hx hb dX10_lesser_9 rfl (lv_at hl 1 rfl) ?_
    exact wz_iretE C hlk hr h rfl hW dX10_lesser_10
  · have h := ite_f c2 h
    refine lv_iload_n hx hb dX10_lesser_5 rfl (lv_at hl 0 rfl) ?_
    refine lv_goto (tgt := 10) hx hb dX10_lesser_6 (by decide) ?_
    exact wz_iretE C hlk hr h rfl hW dX10_lesser_10
theorem lTX10_85 : LT RX10 85 yX10_has cX10_has 2 (some .boolean) 2 := ⟨tw 1536 (by decide +kernel) rfl, tw 1537 (by decide +kernel) rfl, tw 128 (by decide +kernel) rfl, tw 1538 (by decide +kernel) rfl, ⟨by decide +kernel, by decide +kernel, by decide +kernel⟩⟩
theorem dX10_ones_0 : decode cX10_ones 0 = .ok (.iconst 0, 1) := by decide +kernel
theorem dX10_ones_1 : decode cX10_ones 1 = .ok (.istore_n 1, 1) := by decide +kernel
theorem dX10_ones_2 : decode cX10_ones 2 = .ok (.iconst 0, 1) := by decide +kernel
theorem dX10_ones_3 : decode cX10_ones 3 = .ok (.istore_n 2, 1) := by decide +kernel
theorem dX10_ones_4 : decode cX10_ones 4 = .ok (.iload_n 2, 1) := by decide +kernel
theorem dX10_ones_5 : decode cX10_ones 5 = .ok (.bipush 8, 2) := by decide +kernel
theorem dX10_ones_7 : decode cX10_ones 7 = .ok (.if_icmp .ge 25, 3) := by decide +kernel
theorem dX10_ones_10 : decode cX10_ones 10 = .ok (.iload_n 1, 1) := by decide +kernel
theorem dX10_ones_11 : decode cX10_ones 11 = .ok (.iload_n 0, 1) := by decide +kernel
theorem dX10_ones_12 : decode cX10_ones 12 = .ok (.iload_n 2, 1) := by decide +kernel
theorem dX10_ones_13 : decode cX10_ones 13 = .ok (.invokestatic 85, 3) := by decide +kernel
theorem dX10_ones_16 : decode cX10_ones 16 = .ok (.ifCond .eq 7, 3) := by decide +kernel
theorem dX10_ones_19 : decode cX10_ones 19 = .ok (.iconst 1, 1) := by decide +kernel
theorem dX10_ones_20 : decode cX10_ones 20 = .ok (.goto 4, 3) := by decide +kernel
theorem dX10_ones_23 : decode cX10_ones 23 = .ok (.iconst 0, 1) := by decide +kernel
theorem dX10_ones_24 : decode cX10_ones 24 = .ok (.iadd, 1) := by decide +kernel
theorem dX10_ones_25 : decode cX10_ones 25 = .ok (.istore_n 1, 1) := by decide +kernel
theorem dX10_ones_26 : decode cX10_ones 26 = .ok (.iinc 2 1, 3) := by decide +kernel
theorem dX10_ones_29 : decode cX10_ones 29 = .ok (.goto (-25), 3) := by decide +kernel
theorem dX10_ones_32 : decode cX10_ones 32 = .ok (.iload_n 1, 1) := by decide +kernel
theorem dX10_ones_33 : decode cX10_ones 33 = .ok (.ireturn, 1) := by decide +kernel
abbrev rmX10_ones : Room := { frames := 1, cells := 0, slots := 0, locals := 21 }
def bX10_ones_4 (k4 : Int32 → Int32 → Int32 → Option (Int32)) (l0 : Int32) (l1 : Int32) (l2 : Int32) : Option (Int32) :=
  if (8 : Int32) ≤ l2 then (
    some l1
  ) else (
    if (fX10_has l0 l2) = (0 : Int32) then (
      nm (l1 + (0 : Int32)) fun v25 =>
      nm (l2 + (1 : Int32)) fun v26 =>
      k4 l0 v25 v26
    ) else (
      nm (l1 + (1 : Int32)) fun v25 =>
      nm (l2 + (1 : Int32)) fun v26 =>
      k4 l0 v25 v26
    )
  )
set_option maxHeartbeats 4000000 in
set_option maxRecDepth 100000 in
theorem kbX10_ones_4 {p : Program} {l : Launch} {e : Env} {s : State} {m : MethodId} {args : Array Value} {below : List Frame} {meth : Method} {c : Code} {G : GW} {r : Int32} (C : Cx p m c cX10_ones 3 s args RX10 G) (hlk : meth.locks = false) (hr : meth.sig.returnType = (some .int)) {z : AH} (k4 : Int32 → Int32 → Int32 → Option (Int32)) (hk4 : ∀ (l0 : Int32) (l1 : Int32) (l2 : Int32) (H : Heap) (locs : List Loc) (ls : Array Slot), k4 l0 l1 l2 = some r → Wb G z s H locs → lv_has ls 3 [(0, .int l0), (1, .int l1), (2, .int l2)] → W p l e rmX10_ones s m args below meth c H locs 0 0 (MQ below (Qi G r z) args s 0 0 (AA G)) (F0 m 4 ls [])) (l0 : Int32) (l1 : Int32) (l2 : Int32) {H : Heap} {locs : List Loc} {ls : Array Slot} (h : bX10_ones_4 k4 l0 l1 l2 = some r) (hW : Wb G z s H locs) (hl : lv_has ls 3 [(0, .int l0), (1, .int l1), (2, .int l2)]) : W p l e rmX10_ones s m args below meth c H locs 0 0 (MQ below (Qi G r z) args s 0 0 (AA G)) (F0 m 4 ls []) := by
  have hx := C.1
  have hb := C.2.1
  unfold bX10_ones_4 at h
  refine lv_iload_n hx hb dX10_ones_4 rfl (lv_at hl 2 rfl) ?_
  refine lv_bipush (v := 8) hx hb dX10_ones_5 (by decide) ?_
  refine lv_icmp_ge (tgt := 32) hx hb dX10_ones_7 (by decide) (fun c7 => ?_) (fun c7 => ?_)
  · have h := ite_t c7 h
    refine lv_iload_n hx hb dX10_ones_32 rfl (lv_at hl 1 rfl) ?_
    exact wz_iretE C hlk hr (Option.some.inj h) rfl hW dX10_ones_33
  · have h := ite_f c7 h
    refine lv_iload_n hx hb dX10_ones_10 rfl (lv_at hl 1 rfl) ?_
    refine lv_iload_n hx hb dX10_ones_11 rfl (lv_at hl 0 rfl) ?_
    refine lv_iload_n hx hb dX10_ones_12 rfl (lv_at hl 2 rfl) ?_
    refine wz_rI (c' := 0) (s' := 0) hW (wz_runS (rest := [.int l1]) C hW lTX10_85 (ctX10_has l G l0 l2 z rfl) ⟨⟨rfl, rfl⟩, Nat.le_of_ble_eq_true rfl, Nat.le_of_ble_eq_true rfl⟩ rfl hl.1 rfl (Nat.le_of_ble_eq_true rfl) dX10_ones_13 ⟨Nat.le_of_ble_eq_true rfl, Nat.le_of_ble_eq_true rfl⟩) rfl rfl (fun H locs hW => ?_)
    refine lv_if_eq (tgt := 23) hx hb dX10_ones_16 (by decide) (fun c16 => ?_) (fun c16 => ?_)
    · have h := ite_t c16 h
      refine lv_iconst (v := 0) hx hb dX10_ones_23 (by decide) ?_
      refine lv_iadd hx hb dX10_ones_24 ?_
      refine lv_topi (fun v25 ev25 => ?_)
      have h := nm_to h ev25
      refine lv_istore_n (lv' := [(1, .int v25), (0, .int l0), (2, .int l2)]) hx hb dX10_ones_25 rfl hl (by decide) rfl (fun ls hl => ?_)
      obtain ⟨v26, ev26⟩ : ∃ y : Int32, y = (l2 + (1 : Int32)) := ⟨_, rfl⟩
      have h := nm_to h ev26
      refine lv_iinc (v := v26) (lv' := [(2, .int v26), (1, .int v25), (0, .int l0)]) hx hb dX10_ones_26 hl (k := 2) rfl (by rw [ev26]; rfl) (by decide) rfl (fun ls hl => ?_)
      refine lv_goto (tgt := 4) hx hb dX10_ones_29 (by decide) ?_
      exact hk4 l0 v25 v26 _ _ _ h hW (lv_sub hl [2, 1, 0] rfl)
    · have h := ite_f c16 h
      refine lv_iconst (v := 1) hx hb dX10_ones_19 (by decide) ?_
      refine lv_goto (tgt := 24) hx hb dX10_ones_20 (by decide) ?_
      refine lv_iadd hx hb dX10_ones_24 ?_
      refine lv_topi (fun v25 ev25 => ?_)
      have h := nm_to h ev25
      refine lv_istore_n (lv' := [(1, .int v25), (0, .int l0), (2, .int l2)]) hx hb dX10_ones_25 rfl hl (by decide) rfl (fun ls hl => ?_)
      obtain ⟨v26, ev26⟩ : ∃ y : Int32, y = (l2 + (1 : Int32)) := ⟨_, rfl⟩
      have h := nm_to h ev26
      refine lv_iinc (v := v26) (lv' := [(2, .int v26), (1, .int v25), (0, .int l0)]) hx hb dX10_ones_26 hl (k := 2) rfl (by rw [ev26]; rfl) (by decide) rfl (fun ls hl => ?_)
      refine lv_goto (tgt := 4) hx hb dX10_ones_29 (by decide) ?_
      exact hk4 l0 v25 v26 _ _ _ h hW (lv_sub hl [2, 1, 0] rfl)
def fX10_ones_4 : Nat → Int32 → Int32 → Int32 → Option (Int32)
  | 0, _, _, _ => none
  | n + 1, l0, l1, l2 => bX10_ones_4 (fX10_ones_4 n) l0 l1 l2
theorem klX10_ones_4 {p : Program} {l : Launch} {e : Env} {s : State} {m : MethodId} {args : Array Value} {below : List Frame} {meth : Method} {c : Code} {G : GW} {r : Int32} (C : Cx p m c cX10_ones 3 s args RX10 G) (hlk : meth.locks = false) (hr : meth.sig.returnType = (some .int)) {z : AH} : ∀ (n : Nat) (l0 : Int32) (l1 : Int32) (l2 : Int32) (H : Heap) (locs : List Loc) (ls : Array Slot), fX10_ones_4 n l0 l1 l2 = some r → Wb G z s H locs → lv_has ls 3 [(0, .int l0), (1, .int l1), (2, .int l2)] → W p l e rmX10_ones s m args below meth c H locs 0 0 (MQ below (Qi G r z) args s 0 0 (AA G)) (F0 m 4 ls []) := by
  intro n
  induction n with
  | zero => intro l0 l1 l2 H locs ls h; have h : (none : Option (Int32)) = some r := h; cases h
  | succ n ih => intro l0 l1 l2 H locs ls h hW hl; exact kbX10_ones_4 C hlk hr (fX10_ones_4 n) (fun l0 l1 l2 H locs ls h hW hl => ih l0 l1 l2 H locs ls h hW hl) l0 l1 l2 h hW hl
def fX10_ones (l0 : Int32) : Option (Int32) :=
  fX10_ones_4 FU l0 (0 : Int32) (0 : Int32)
set_option maxHeartbeats 4000000 in
set_option maxRecDepth 100000 in
theorem ctX10_ones (l : Launch) (G : GW) (l0 : Int32) (z : AH) {r : Int32} (h : fX10_ones l0 = some r) : Met l yX10_ones (wy yX10_ones cX10_ones 3 (some .int)) rmX10_ones (Pz G [.int l0] z) (Qi G r z) 0 0 (AA G) := by
  refine wz_ent (own := RX10) (by decide +kernel) rfl (fun p e s m below meth c ls C hlk hr hin hW hl => ?_) (Nat.le_of_ble_eq_true rfl)
  have hl : lv_has ls 3 [(0, .int l0)] := hl
  have hx := C.1
  have hb := C.2.1
  unfold fX10_ones at h
  refine lv_iconst (v := 0) hx hb dX10_ones_0 (by decide) ?_
  refine lv_istore_n (lv' := [(1, .int (0 : Int32)), (0, .int l0)]) hx hb dX10_ones_1 rfl hl (by decide) rfl (fun ls hl => ?_)
  refine lv_iconst (v := 0) hx hb dX10_ones_2 (by decide) ?_
  refine lv_istore_n (lv' := [(2, .int (0 : Int32)), (1, .int (0 : Int32)), (0, .int l0)]) hx hb dX10_ones_3 rfl hl (by decide) rfl (fun ls hl => ?_)
  exact klX10_ones_4 C hlk hr FU l0 (0 : Int32) (0 : Int32) _ _ _ h hW (lv_sub hl [2, 1, 0] rfl)
theorem dX10_copyRow_0 : decode cX10_copyRow 0 = .ok (.iconst 0, 1) := by decide +kernel
theorem dX10_copyRow_1 : decode cX10_copyRow 1 = .ok (.istore 4, 2) := by decide +kernel
theorem dX10_copyRow_3 : decode cX10_copyRow 3 = .ok (.iload 4, 2) := by decide +kernel
theorem dX10_copyRow_5 : decode cX10_copyRow 5 = .ok (.iload_n 1, 1) := by decide +kernel
theorem dX10_copyRow_6 : decode cX10_copyRow 6 = .ok (.if_icmp .ge 25, 3) := by decide +kernel
theorem dX10_copyRow_9 : decode cX10_copyRow 9 = .ok (.aload_n 0, 1) := by decide +kernel
theorem dX10_copyRow_10 : decode cX10_copyRow 10 = .ok (.iload_n 1, 1) := by decide +kernel
theorem dX10_copyRow_11 : decode cX10_copyRow 11 = .ok (.iload_n 3, 1) := by decide +kernel
theorem dX10_copyRow_12 : decode cX10_copyRow 12 = .ok (.imul, 1) := by decide +kernel
theorem dX10_copyRow_13 : decode cX10_copyRow 13 = .ok (.iload 4, 2) := by decide +kernel
theorem dX10_copyRow_15 : decode cX10_copyRow 15 = .ok (.iadd, 1) := by decide +kernel
theorem dX10_copyRow_16 : decode cX10_copyRow 16 = .ok (.aload_n 0, 1) := by decide +kernel
theorem dX10_copyRow_17 : decode cX10_copyRow 17 = .ok (.iload_n 1, 1) := by decide +kernel
theorem dX10_copyRow_18 : decode cX10_copyRow 18 = .ok (.iload_n 2, 1) := by decide +kernel
theorem dX10_copyRow_19 : decode cX10_copyRow 19 = .ok (.imul, 1) := by decide +kernel
theorem dX10_copyRow_20 : decode cX10_copyRow 20 = .ok (.iload 4, 2) := by decide +kernel
theorem dX10_copyRow_22 : decode cX10_copyRow 22 = .ok (.iadd, 1) := by decide +kernel
theorem dX10_copyRow_23 : decode cX10_copyRow 23 = .ok (.iaload, 1) := by decide +kernel
theorem dX10_copyRow_24 : decode cX10_copyRow 24 = .ok (.iastore, 1) := by decide +kernel
theorem dX10_copyRow_25 : decode cX10_copyRow 25 = .ok (.iinc 4 1, 3) := by decide +kernel
theorem dX10_copyRow_28 : decode cX10_copyRow 28 = .ok (.goto (-25), 3) := by decide +kernel
theorem dX10_copyRow_31 : decode cX10_copyRow 31 = .ok (.return_, 1) := by decide +kernel
abbrev rmX10_copyRow : Room := { frames := 0, cells := 0, slots := 0, locals := 0 }
def bX10_copyRow_3 (k3 : Nat → Int32 → Int32 → Int32 → Int32 → AH → Option AH) (a0 : Nat) (l1 : Int32) (l2 : Int32) (l3 : Int32) (l4 : Int32) (z : AH) : Option AH :=
  if l1 ≤ l4 then (
    some z
  ) else (
    (ixI 0 z a0 ((l1 * l2) + l4)).bind fun x23 =>
    (stI 0 z a0 ((l1 * l3) + l4) x23).bind fun z24 =>
    nm (l4 + (1 : Int32)) fun v25 =>
    k3 a0 l1 l2 l3 v25 z24
  )
set_option maxHeartbeats 4000000 in
set_option maxRecDepth 100000 in
theorem kbX10_copyRow_3 {p : Program} {l : Launch} {e : Env} {s : State} {m : MethodId} {args : Array Value} {below : List Frame} {meth : Method} {c : Code} {G : GW} {z' : AH} (C : Cx p m c cX10_copyRow 5 s args RX10 G) (hlk : meth.locks = false) (hr : meth.sig.returnType = none) (k3 : Nat → Int32 → Int32 → Int32 → Int32 → AH → Option AH) (hk3 : ∀ (a0 : Nat) (l1 : Int32) (l2 : Int32) (l3 : Int32) (l4 : Int32) (z : AH) (H : Heap) (locs : List Loc) (ls : Array Slot), k3 a0 l1 l2 l3 l4 z = some z' → Wb G z s H locs → lv_has ls 5 [(0, .ref (gB G + a0)), (1, .int l1), (2, .int l2), (3, .int l3), (4, .int l4)] → W p l e rmX10_copyRow s m args below meth c H locs 0 0 (MQ below (Qv G z') args s 0 0 (AA G)) (F0 m 3 ls [])) (a0 : Nat) (l1 : Int32) (l2 : Int32) (l3 : Int32) (l4 : Int32) {z : AH} {H : Heap} {locs : List Loc} {ls : Array Slot} (h : bX10_copyRow_3 k3 a0 l1 l2 l3 l4 z = some z') (hW : Wb G z s H locs) (hl : lv_has ls 5 [(0, .ref (gB G + a0)), (1, .int l1), (2, .int l2), (3, .int l3), (4, .int l4)]) : W p l e rmX10_copyRow s m args below meth c H locs 0 0 (MQ below (Qv G z') args s 0 0 (AA G)) (F0 m 3 ls []) := by
  have hx := C.1
  have hb := C.2.1
  unfold bX10_copyRow_3 at h
  refine lv_iload hx hb dX10_copyRow_3 (lv_at hl 4 rfl) ?_
  refine lv_iload_n hx hb dX10_copyRow_5 rfl (lv_at hl 1 rfl) ?_
  refine lv_icmp_ge (tgt := 31) hx hb dX10_copyRow_6 (by decide) (fun c6 => ?_) (fun c6 => ?_)
  · have h := ite_t c6 h
    exact wz_vretE C hlk hr (Option.some.inj h) hW dX10_copyRow_31
  · have h := ite_f c6 h
    refine lv_aload_n hx hb dX10_copyRow_9 rfl (lv_at hl 0 rfl) ?_
    refine lv_iload_n hx hb dX10_copyRow_10 rfl (lv_at hl 1 rfl) ?_
    refine lv_iload_n hx hb dX10_copyRow_11 rfl (lv_at hl 3 rfl) ?_
    refine lv_imul hx hb dX10_copyRow_12 ?_
    refine lv_iload hx hb dX10_copyRow_13 (lv_at hl 4 rfl) ?_
    refine lv_iadd hx hb dX10_copyRow_15 ?_
    refine lv_aload_n hx hb dX10_copyRow_16 rfl (lv_at hl 0 rfl) ?_
    refine lv_iload_n hx hb dX10_copyRow_17 rfl (lv_at hl 1 rfl) ?_
    refine lv_iload_n hx hb dX10_copyRow_18 rfl (lv_at hl 2 rfl) ?_
    refine lv_imul hx hb dX10_copyRow_19 ?_
    refine lv_iload hx hb dX10_copyRow_20 (lv_at hl 4 rfl) ?_
    refine lv_iadd hx hb dX10_copyRow_22 ?_
    obtain ⟨x23, hg, h⟩ := ob h
    refine wz_ald C hW hg dX10_copyRow_23 ?_
    obtain ⟨z24, hg, h⟩ := ob h
    refine wz_ast C hW hg dX10_copyRow_24 (fun H locs hW => ?_)
    obtain ⟨v25, ev25⟩ : ∃ y : Int32, y = (l4 + (1 : Int32)) := ⟨_, rfl⟩
    have h := nm_to h ev25
    refine lv_iinc (v := v25) (lv' := [(4, .int v25), (0, .ref (gB G + a0)), (1, .int l1), (2, .int l2), (3, .int l3)]) hx hb dX10_copyRow_25 hl (k := 4) rfl (by rw [ev25]; rfl) (by decide) rfl (fun ls hl => ?_)
    refine lv_goto (tgt := 3) hx hb dX10_copyRow_28 (by decide) ?_
    exact hk3 a0 l1 l2 l3 v25 z24 _ _ _ h hW (lv_sub hl [1, 2, 3, 4, 0] rfl)
def fX10_copyRow_3 : Nat → Nat → Int32 → Int32 → Int32 → Int32 → AH → Option AH
  | 0, _, _, _, _, _, _ => none
  | n + 1, a0, l1, l2, l3, l4, z => bX10_copyRow_3 (fX10_copyRow_3 n) a0 l1 l2 l3 l4 z
theorem klX10_copyRow_3 {p : Program} {l : Launch} {e : Env} {s : State} {m : MethodId} {args : Array Value} {below : List Frame} {meth : Method} {c : Code} {G : GW} {z' : AH} (C : Cx p m c cX10_copyRow 5 s args RX10 G) (hlk : meth.locks = false) (hr : meth.sig.returnType = none) : ∀ (n : Nat) (a0 : Nat) (l1 : Int32) (l2 : Int32) (l3 : Int32) (l4 : Int32) (z : AH) (H : Heap) (locs : List Loc) (ls : Array Slot), fX10_copyRow_3 n a0 l1 l2 l3 l4 z = some z' → Wb G z s H locs → lv_has ls 5 [(0, .ref (gB G + a0)), (1, .int l1), (2, .int l2), (3, .int l3), (4, .int l4)] → W p l e rmX10_copyRow s m args below meth c H locs 0 0 (MQ below (Qv G z') args s 0 0 (AA G)) (F0 m 3 ls []) := by
  intro n
  induction n with
  | zero => intro a0 l1 l2 l3 l4 z H locs ls h; have h : (none : Option AH) = some z' := h; cases h
  | succ n ih => intro a0 l1 l2 l3 l4 z H locs ls h hW hl; exact kbX10_copyRow_3 C hlk hr (fX10_copyRow_3 n) (fun a0 l1 l2 l3 l4 z H locs ls h hW hl => ih a0 l1 l2 l3 l4 z H locs ls h hW hl) a0 l1 l2 l3 l4 h hW hl
def fX10_copyRow (a0 : Nat) (l1 : Int32) (l2 : Int32) (l3 : Int32) (z : AH) : Option AH :=
  fX10_copyRow_3 FU a0 l1 l2 l3 (0 : Int32) z
set_option maxHeartbeats 4000000 in
set_option maxRecDepth 100000 in
theorem ctX10_copyRow (l : Launch) (G : GW) (a0 : Nat) (l1 : Int32) (l2 : Int32) (l3 : Int32) (z : AH) {z' : AH} (h : fX10_copyRow a0 l1 l2 l3 z = some z') : Met l yX10_copyRow (wy yX10_copyRow cX10_copyRow 5 none) rmX10_copyRow (Pz G [.ref (gB G + a0), .int l1, .int l2, .int l3] z) (Qv G z') 0 0 (AA G) := by
  refine wz_ent (own := RX10) (by decide +kernel) rfl (fun p e s m below meth c ls C hlk hr hin hW hl => ?_) (Nat.le_of_ble_eq_true rfl)
  have hl : lv_has ls 5 [(0, .ref (gB G + a0)), (1, .int l1), (2, .int l2), (3, .int l3)] := hl
  have hx := C.1
  have hb := C.2.1
  unfold fX10_copyRow at h
  refine lv_iconst (v := 0) hx hb dX10_copyRow_0 (by decide) ?_
  refine lv_istore (lv' := [(4, .int (0 : Int32)), (0, .ref (gB G + a0)), (1, .int l1), (2, .int l2), (3, .int l3)]) hx hb dX10_copyRow_1 hl (by decide) rfl (fun ls hl => ?_)
  exact klX10_copyRow_3 C hlk hr FU a0 l1 l2 l3 (0 : Int32) z _ _ _ h hW (lv_sub hl [1, 2, 3, 4, 0] rfl)
theorem lTX10_89 : LT RX10 89 yX10_copyRow cX10_copyRow 5 none 4 := ⟨tw 1858 (by decide +kernel) rfl, tw 1859 (by decide +kernel) rfl, tw 128 (by decide +kernel) rfl, tw 1860 (by decide +kernel) rfl, ⟨by decide +kernel, by decide +kernel, by decide +kernel⟩⟩
theorem dX10_copyAll_0 : decode cX10_copyAll 0 = .ok (.iconst 0, 1) := by decide +kernel
theorem dX10_copyAll_1 : decode cX10_copyAll 1 = .ok (.istore_n 3, 1) := by decide +kernel
theorem dX10_copyAll_2 : decode cX10_copyAll 2 = .ok (.iload_n 3, 1) := by decide +kernel
theorem dX10_copyAll_3 : decode cX10_copyAll 3 = .ok (.sipush 600, 3) := by decide +kernel
theorem dX10_copyAll_6 : decode cX10_copyAll 6 = .ok (.if_icmp .ge 33, 3) := by decide +kernel
theorem dX10_copyAll_9 : decode cX10_copyAll 9 = .ok (.aload_n 0, 1) := by decide +kernel
theorem dX10_copyAll_10 : decode cX10_copyAll 10 = .ok (.getfield 7, 3) := by decide +kernel
theorem dX10_copyAll_13 : decode cX10_copyAll 13 = .ok (.sipush 600, 3) := by decide +kernel
theorem dX10_copyAll_16 : decode cX10_copyAll 16 = .ok (.iload_n 2, 1) := by decide +kernel
theorem dX10_copyAll_17 : decode cX10_copyAll 17 = .ok (.imul, 1) := by decide +kernel
theorem dX10_copyAll_18 : decode cX10_copyAll 18 = .ok (.iload_n 3, 1) := by decide +kernel
theorem dX10_copyAll_19 : decode cX10_copyAll 19 = .ok (.iadd, 1) := by decide +kernel
theorem dX10_copyAll_20 : decode cX10_copyAll 20 = .ok (.aload_n 0, 1) := by decide +kernel
theorem dX10_copyAll_21 : decode cX10_copyAll 21 = .ok (.getfield 7, 3) := by decide +kernel
theorem dX10_copyAll_24 : decode cX10_copyAll 24 = .ok (.sipush 600, 3) := by decide +kernel
theorem dX10_copyAll_27 : decode cX10_copyAll 27 = .ok (.iload_n 1, 1) := by decide +kernel
theorem dX10_copyAll_28 : decode cX10_copyAll 28 = .ok (.imul, 1) := by decide +kernel
theorem dX10_copyAll_29 : decode cX10_copyAll 29 = .ok (.iload_n 3, 1) := by decide +kernel
theorem dX10_copyAll_30 : decode cX10_copyAll 30 = .ok (.iadd, 1) := by decide +kernel
theorem dX10_copyAll_31 : decode cX10_copyAll 31 = .ok (.baload, 1) := by decide +kernel
theorem dX10_copyAll_32 : decode cX10_copyAll 32 = .ok (.bastore, 1) := by decide +kernel
theorem dX10_copyAll_33 : decode cX10_copyAll 33 = .ok (.iinc 3 1, 3) := by decide +kernel
theorem dX10_copyAll_36 : decode cX10_copyAll 36 = .ok (.goto (-34), 3) := by decide +kernel
theorem dX10_copyAll_39 : decode cX10_copyAll 39 = .ok (.aload_n 0, 1) := by decide +kernel
theorem dX10_copyAll_40 : decode cX10_copyAll 40 = .ok (.getfield 13, 3) := by decide +kernel
theorem dX10_copyAll_43 : decode cX10_copyAll 43 = .ok (.iconst 1, 1) := by decide +kernel
theorem dX10_copyAll_44 : decode cX10_copyAll 44 = .ok (.iload_n 1, 1) := by decide +kernel
theorem dX10_copyAll_45 : decode cX10_copyAll 45 = .ok (.iload_n 2, 1) := by decide +kernel
theorem dX10_copyAll_46 : decode cX10_copyAll 46 = .ok (.invokestatic 89, 3) := by decide +kernel
theorem dX10_copyAll_49 : decode cX10_copyAll 49 = .ok (.aload_n 0, 1) := by decide +kernel
theorem dX10_copyAll_50 : decode cX10_copyAll 50 = .ok (.getfield 17, 3) := by decide +kernel
theorem dX10_copyAll_53 : decode cX10_copyAll 53 = .ok (.iconst 1, 1) := by decide +kernel
theorem dX10_copyAll_54 : decode cX10_copyAll 54 = .ok (.iload_n 1, 1) := by decide +kernel
theorem dX10_copyAll_55 : decode cX10_copyAll 55 = .ok (.iload_n 2, 1) := by decide +kernel
theorem dX10_copyAll_56 : decode cX10_copyAll 56 = .ok (.invokestatic 89, 3) := by decide +kernel
theorem dX10_copyAll_59 : decode cX10_copyAll 59 = .ok (.aload_n 0, 1) := by decide +kernel
theorem dX10_copyAll_60 : decode cX10_copyAll 60 = .ok (.getfield 20, 3) := by decide +kernel
theorem dX10_copyAll_63 : decode cX10_copyAll 63 = .ok (.iconst 1, 1) := by decide +kernel
theorem dX10_copyAll_64 : decode cX10_copyAll 64 = .ok (.iload_n 1, 1) := by decide +kernel
theorem dX10_copyAll_65 : decode cX10_copyAll 65 = .ok (.iload_n 2, 1) := by decide +kernel
theorem dX10_copyAll_66 : decode cX10_copyAll 66 = .ok (.invokestatic 89, 3) := by decide +kernel
theorem dX10_copyAll_69 : decode cX10_copyAll 69 = .ok (.aload_n 0, 1) := by decide +kernel
theorem dX10_copyAll_70 : decode cX10_copyAll 70 = .ok (.getfield 23, 3) := by decide +kernel
theorem dX10_copyAll_73 : decode cX10_copyAll 73 = .ok (.iconst 4, 1) := by decide +kernel
theorem dX10_copyAll_74 : decode cX10_copyAll 74 = .ok (.iload_n 1, 1) := by decide +kernel
theorem dX10_copyAll_75 : decode cX10_copyAll 75 = .ok (.iload_n 2, 1) := by decide +kernel
theorem dX10_copyAll_76 : decode cX10_copyAll 76 = .ok (.invokestatic 89, 3) := by decide +kernel
theorem dX10_copyAll_79 : decode cX10_copyAll 79 = .ok (.aload_n 0, 1) := by decide +kernel
theorem dX10_copyAll_80 : decode cX10_copyAll 80 = .ok (.getfield 26, 3) := by decide +kernel
theorem dX10_copyAll_83 : decode cX10_copyAll 83 = .ok (.sipush 220, 3) := by decide +kernel
theorem dX10_copyAll_86 : decode cX10_copyAll 86 = .ok (.iload_n 1, 1) := by decide +kernel
theorem dX10_copyAll_87 : decode cX10_copyAll 87 = .ok (.iload_n 2, 1) := by decide +kernel
theorem dX10_copyAll_88 : decode cX10_copyAll 88 = .ok (.invokestatic 89, 3) := by decide +kernel
theorem dX10_copyAll_91 : decode cX10_copyAll 91 = .ok (.aload_n 0, 1) := by decide +kernel
theorem dX10_copyAll_92 : decode cX10_copyAll 92 = .ok (.getfield 29, 3) := by decide +kernel
theorem dX10_copyAll_95 : decode cX10_copyAll 95 = .ok (.sipush 242, 3) := by decide +kernel
theorem dX10_copyAll_98 : decode cX10_copyAll 98 = .ok (.iload_n 1, 1) := by decide +kernel
theorem dX10_copyAll_99 : decode cX10_copyAll 99 = .ok (.iload_n 2, 1) := by decide +kernel
theorem dX10_copyAll_100 : decode cX10_copyAll 100 = .ok (.invokestatic 89, 3) := by decide +kernel
theorem dX10_copyAll_103 : decode cX10_copyAll 103 = .ok (.aload_n 0, 1) := by decide +kernel
theorem dX10_copyAll_104 : decode cX10_copyAll 104 = .ok (.getfield 32, 3) := by decide +kernel
theorem dX10_copyAll_107 : decode cX10_copyAll 107 = .ok (.bipush 34, 2) := by decide +kernel
theorem dX10_copyAll_109 : decode cX10_copyAll 109 = .ok (.iload_n 1, 1) := by decide +kernel
theorem dX10_copyAll_110 : decode cX10_copyAll 110 = .ok (.iload_n 2, 1) := by decide +kernel
theorem dX10_copyAll_111 : decode cX10_copyAll 111 = .ok (.invokestatic 89, 3) := by decide +kernel
theorem dX10_copyAll_114 : decode cX10_copyAll 114 = .ok (.aload_n 0, 1) := by decide +kernel
theorem dX10_copyAll_115 : decode cX10_copyAll 115 = .ok (.getfield 35, 3) := by decide +kernel
theorem dX10_copyAll_118 : decode cX10_copyAll 118 = .ok (.bipush 98, 2) := by decide +kernel
theorem dX10_copyAll_120 : decode cX10_copyAll 120 = .ok (.iload_n 1, 1) := by decide +kernel
theorem dX10_copyAll_121 : decode cX10_copyAll 121 = .ok (.iload_n 2, 1) := by decide +kernel
theorem dX10_copyAll_122 : decode cX10_copyAll 122 = .ok (.invokestatic 89, 3) := by decide +kernel
theorem dX10_copyAll_125 : decode cX10_copyAll 125 = .ok (.return_, 1) := by decide +kernel
abbrev rmX10_copyAll : Room := { frames := 1, cells := 0, slots := 0, locals := 24 }
def bX10_copyAll_2 (k2 : Nat → Int32 → Int32 → Int32 → AH → Option AH) (a0 : Nat) (l1 : Int32) (l2 : Int32) (l3 : Int32) (z : AH) : Option AH :=
  if (600 : Int32) ≤ l3 then (
    (gN 9 2 z a0).bind fun b40 =>
    (fX10_copyRow b40 (1 : Int32) l1 l2 z).bind fun z46 =>
    (gN 9 3 z46 a0).bind fun b50 =>
    (fX10_copyRow b50 (1 : Int32) l1 l2 z46).bind fun z56 =>
    (gN 9 4 z56 a0).bind fun b60 =>
    (fX10_copyRow b60 (1 : Int32) l1 l2 z56).bind fun z66 =>
    (gN 9 5 z66 a0).bind fun b70 =>
    (fX10_copyRow b70 (4 : Int32) l1 l2 z66).bind fun z76 =>
    (gN 9 6 z76 a0).bind fun b80 =>
    (fX10_copyRow b80 (220 : Int32) l1 l2 z76).bind fun z88 =>
    (gN 9 7 z88 a0).bind fun b92 =>
    (fX10_copyRow b92 (242 : Int32) l1 l2 z88).bind fun z100 =>
    (gN 9 8 z100 a0).bind fun b104 =>
    (fX10_copyRow b104 (34 : Int32) l1 l2 z100).bind fun z111 =>
    (gN 9 9 z111 a0).bind fun b115 =>
    (fX10_copyRow b115 (98 : Int32) l1 l2 z111).bind fun z122 =>
    some z122
  ) else (
    (gN 9 1 z a0).bind fun b10 =>
    (gN 9 1 z a0).bind fun b21 =>
    (ixI 1 z b21 (((600 : Int32) * l1) + l3)).bind fun x31 =>
    (stI 1 z b10 (((600 : Int32) * l2) + l3) (vp_nar .byte x31)).bind fun z32 =>
    nm (l3 + (1 : Int32)) fun v33 =>
    k2 a0 l1 l2 v33 z32
  )
set_option maxHeartbeats 4000000 in
set_option maxRecDepth 100000 in
theorem kbX10_copyAll_2 {p : Program} {l : Launch} {e : Env} {s : State} {m : MethodId} {args : Array Value} {below : List Frame} {meth : Method} {c : Code} {G : GW} {z' : AH} (C : Cx p m c cX10_copyAll 4 s args RX10 G) (hlk : meth.locks = false) (hr : meth.sig.returnType = none) (k2 : Nat → Int32 → Int32 → Int32 → AH → Option AH) (hk2 : ∀ (a0 : Nat) (l1 : Int32) (l2 : Int32) (l3 : Int32) (z : AH) (H : Heap) (locs : List Loc) (ls : Array Slot), k2 a0 l1 l2 l3 z = some z' → Wb G z s H locs → lv_has ls 4 [(0, .ref (gB G + a0)), (1, .int l1), (2, .int l2), (3, .int l3)] → W p l e rmX10_copyAll s m args below meth c H locs 0 0 (MQ below (Qv G z') args s 0 0 (AA G)) (F0 m 2 ls [])) (a0 : Nat) (l1 : Int32) (l2 : Int32) (l3 : Int32) {z : AH} {H : Heap} {locs : List Loc} {ls : Array Slot} (h : bX10_copyAll_2 k2 a0 l1 l2 l3 z = some z') (hW : Wb G z s H locs) (hl : lv_has ls 4 [(0, .ref (gB G + a0)), (1, .int l1), (2, .int l2), (3, .int l3)]) : W p l e rmX10_copyAll s m args below meth c H locs 0 0 (MQ below (Qv G z') args s 0 0 (AA G)) (F0 m 2 ls []) := by
  have hx := C.1
  have hb := C.2.1
  unfold bX10_copyAll_2 at h
  refine lv_iload_n hx hb dX10_copyAll_2 rfl (lv_at hl 3 rfl) ?_
  refine lv_sipush (v := 600) hx hb dX10_copyAll_3 (by decide) ?_
  refine lv_icmp_ge (tgt := 39) hx hb dX10_copyAll_6 (by decide) (fun c6 => ?_) (fun c6 => ?_)
  · have h := ite_t c6 h
    refine lv_aload_n hx hb dX10_copyAll_39 rfl (lv_at hl 0 rfl) ?_
    obtain ⟨b40, hg, h⟩ := ob h
    refine wz_gN C hW flX10_13 hg dX10_copyAll_40 ?_
    refine lv_iconst (v := 1) hx hb dX10_copyAll_43 (by decide) ?_
    refine lv_iload_n hx hb dX10_copyAll_44 rfl (lv_at hl 1 rfl) ?_
    refine lv_iload_n hx hb dX10_copyAll_45 rfl (lv_at hl 2 rfl) ?_
    obtain ⟨z46, hq, h⟩ := ob h
    refine wz_rV (c' := 0) (s' := 0) hW (wz_runS (rest := []) C hW lTX10_89 (ctX10_copyRow l G b40 (1 : Int32) l1 l2 z hq) ⟨⟨rfl, rfl⟩, Nat.le_of_ble_eq_true rfl, Nat.le_of_ble_eq_true rfl⟩ rfl hl.1 rfl (Nat.le_of_ble_eq_true rfl) dX10_copyAll_46 ⟨Nat.le_of_ble_eq_true rfl, Nat.le_of_ble_eq_true rfl⟩) rfl rfl (fun H locs hW => ?_)
    refine lv_aload_n hx hb dX10_copyAll_49 rfl (lv_at hl 0 rfl) ?_
    obtain ⟨b50, hg, h⟩ := ob h
    refine wz_gN C hW flX10_17 hg dX10_copyAll_50 ?_
    refine lv_iconst (v := 1) hx hb dX10_copyAll_53 (by decide) ?_
    refine lv_iload_n hx hb dX10_copyAll_54 rfl (lv_at hl 1 rfl) ?_
    refine lv_iload_n hx hb dX10_copyAll_55 rfl (lv_at hl 2 rfl) ?_
    obtain ⟨z56, hq, h⟩ := ob h
    refine wz_rV (c' := 0) (s' := 0) hW (wz_runS (rest := []) C hW lTX10_89 (ctX10_copyRow l G b50 (1 : Int32) l1 l2 z46 hq) ⟨⟨rfl, rfl⟩, Nat.le_of_ble_eq_true rfl, Nat.le_of_ble_eq_true rfl⟩ rfl hl.1 rfl (Nat.le_of_ble_eq_true rfl) dX10_copyAll_56 ⟨Nat.le_of_ble_eq_true rfl, Nat.le_of_ble_eq_true rfl⟩) rfl rfl (fun H locs hW => ?_)
    refine lv_aload_n hx hb dX10_copyAll_59 rfl (lv_at hl 0 rfl) ?_
    obtain ⟨b60, hg, h⟩ := ob h
    refine wz_gN C hW flX10_20 hg dX10_copyAll_60 ?_
    refine lv_iconst (v := 1) hx hb dX10_copyAll_63 (by decide) ?_
    refine lv_iload_n hx hb dX10_copyAll_64 rfl (lv_at hl 1 rfl) ?_
    refine lv_iload_n hx hb dX10_copyAll_65 rfl (lv_at hl 2 rfl) ?_
    obtain ⟨z66, hq, h⟩ := ob h
    refine wz_rV (c' := 0) (s' := 0) hW (wz_runS (rest := []) C hW lTX10_89 (ctX10_copyRow l G b60 (1 : Int32) l1 l2 z56 hq) ⟨⟨rfl, rfl⟩, Nat.le_of_ble_eq_true rfl, Nat.le_of_ble_eq_true rfl⟩ rfl hl.1 rfl (Nat.le_of_ble_eq_true rfl) dX10_copyAll_66 ⟨Nat.le_of_ble_eq_true rfl, Nat.le_of_ble_eq_true rfl⟩) rfl rfl (fun H locs hW => ?_)
    refine lv_aload_n hx hb dX10_copyAll_69 rfl (lv_at hl 0 rfl) ?_
    obtain ⟨b70, hg, h⟩ := ob h
    refine wz_gN C hW flX10_23 hg dX10_copyAll_70 ?_
    refine lv_iconst (v := 4) hx hb dX10_copyAll_73 (by decide) ?_
    refine lv_iload_n hx hb dX10_copyAll_74 rfl (lv_at hl 1 rfl) ?_
    refine lv_iload_n hx hb dX10_copyAll_75 rfl (lv_at hl 2 rfl) ?_
    obtain ⟨z76, hq, h⟩ := ob h
    refine wz_rV (c' := 0) (s' := 0) hW (wz_runS (rest := []) C hW lTX10_89 (ctX10_copyRow l G b70 (4 : Int32) l1 l2 z66 hq) ⟨⟨rfl, rfl⟩, Nat.le_of_ble_eq_true rfl, Nat.le_of_ble_eq_true rfl⟩ rfl hl.1 rfl (Nat.le_of_ble_eq_true rfl) dX10_copyAll_76 ⟨Nat.le_of_ble_eq_true rfl, Nat.le_of_ble_eq_true rfl⟩) rfl rfl (fun H locs hW => ?_)
    refine lv_aload_n hx hb dX10_copyAll_79 rfl (lv_at hl 0 rfl) ?_
    obtain ⟨b80, hg, h⟩ := ob h
    refine wz_gN C hW flX10_26 hg dX10_copyAll_80 ?_
    refine lv_sipush (v := 220) hx hb dX10_copyAll_83 (by decide) ?_
    refine lv_iload_n hx hb dX10_copyAll_86 rfl (lv_at hl 1 rfl) ?_
    refine lv_iload_n hx hb dX10_copyAll_87 rfl (lv_at hl 2 rfl) ?_
    obtain ⟨z88, hq, h⟩ := ob h
    refine wz_rV (c' := 0) (s' := 0) hW (wz_runS (rest := []) C hW lTX10_89 (ctX10_copyRow l G b80 (220 : Int32) l1 l2 z76 hq) ⟨⟨rfl, rfl⟩, Nat.le_of_ble_eq_true rfl, Nat.le_of_ble_eq_true rfl⟩ rfl hl.1 rfl (Nat.le_of_ble_eq_true rfl) dX10_copyAll_88 ⟨Nat.le_of_ble_eq_true rfl, Nat.le_of_ble_eq_true rfl⟩) rfl rfl (fun H locs hW => ?_)
    refine lv_aload_n hx hb dX10_copyAll_91 rfl (lv_at hl 0 rfl) ?_
    obtain ⟨b92, hg, h⟩ := ob h
    refine wz_gN C hW flX10_29 hg dX10_copyAll_92 ?_
    refine lv_sipush (v := 242) hx hb dX10_copyAll_95 (by decide) ?_
    refine lv_iload_n hx hb dX10_copyAll_98 rfl (lv_at hl 1 rfl) ?_
    refine lv_iload_n hx hb dX10_copyAll_99 rfl (lv_at hl 2 rfl) ?_
    obtain ⟨z100, hq, h⟩ := ob h
    refine wz_rV (c' := 0) (s' := 0) hW (wz_runS (rest := []) C hW lTX10_89 (ctX10_copyRow l G b92 (242 : Int32) l1 l2 z88 hq) ⟨⟨rfl, rfl⟩, Nat.le_of_ble_eq_true rfl, Nat.le_of_ble_eq_true rfl⟩ rfl hl.1 rfl (Nat.le_of_ble_eq_true rfl) dX10_copyAll_100 ⟨Nat.le_of_ble_eq_true rfl, Nat.le_of_ble_eq_true rfl⟩) rfl rfl (fun H locs hW => ?_)
    refine lv_aload_n hx hb dX10_copyAll_103 rfl (lv_at hl 0 rfl) ?_
    obtain ⟨b104, hg, h⟩ := ob h
    refine wz_gN C hW flX10_32 hg dX10_copyAll_104 ?_
    refine lv_bipush (v := 34) hx hb dX10_copyAll_107 (by decide) ?_
    refine lv_iload_n hx hb dX10_copyAll_109 rfl (lv_at hl 1 rfl) ?_
    refine lv_iload_n hx hb dX10_copyAll_110 rfl (lv_at hl 2 rfl) ?_
    obtain ⟨z111, hq, h⟩ := ob h
    refine wz_rV (c' := 0) (s' := 0) hW (wz_runS (rest := []) C hW lTX10_89 (ctX10_copyRow l G b104 (34 : Int32) l1 l2 z100 hq) ⟨⟨rfl, rfl⟩, Nat.le_of_ble_eq_true rfl, Nat.le_of_ble_eq_true rfl⟩ rfl hl.1 rfl (Nat.le_of_ble_eq_true rfl) dX10_copyAll_111 ⟨Nat.le_of_ble_eq_true rfl, Nat.le_of_ble_eq_true rfl⟩) rfl rfl (fun H locs hW => ?_)
    refine lv_aload_n hx hb dX10_copyAll_114 rfl (lv_at hl 0 rfl) ?_
    obtain ⟨b115, hg, h⟩ := ob h
    refine wz_gN C hW flX10_35 hg dX10_copyAll_115 ?_
    refine lv_bipush (v := 98) hx hb dX10_copyAll_118 (by decide) ?_
    refine lv_iload_n hx hb dX10_copyAll_120 rfl (lv_at hl 1 rfl) ?_
    refine lv_iload_n hx hb dX10_copyAll_121 rfl (lv_at hl 2 rfl) ?_
    obtain ⟨z122, hq, h⟩ := ob h
    refine wz_rV (c' := 0) (s' := 0) hW (wz_runS (rest := []) C hW lTX10_89 (ctX10_copyRow l G b115 (98 : Int32) l1 l2 z111 hq) ⟨⟨rfl, rfl⟩, Nat.le_of_ble_eq_true rfl, Nat.le_of_ble_eq_true rfl⟩ rfl hl.1 rfl (Nat.le_of_ble_eq_true rfl) dX10_copyAll_122 ⟨Nat.le_of_ble_eq_true rfl, Nat.le_of_ble_eq_true rfl⟩) rfl rfl (fun H locs hW => ?_)
    exact wz_vretE C hlk hr (Option.some.inj h) hW dX10_copyAll_125
  · have h := ite_f c6 h
    refine lv_aload_n hx hb dX10_copyAll_9 rfl (lv_at hl 0 rfl) ?_
    obtain ⟨b10, hg, h⟩ := ob h
    refine wz_gN C hW flX10_7 hg dX10_copyAll_10 ?_
    refine lv_sipush (v := 600) hx hb dX10_copyAll_13 (by decide) ?_
    refine lv_iload_n hx hb dX10_copyAll_16 rfl (lv_at hl 2 rfl) ?_
    refine lv_imul hx hb dX10_copyAll_17 ?_
    refine lv_iload_n hx hb dX10_copyAll_18 rfl (lv_at hl 3 rfl) ?_
    refine lv_iadd hx hb dX10_copyAll_19 ?_
    refine lv_aload_n hx hb dX10_copyAll_20 rfl (lv_at hl 0 rfl) ?_
    obtain ⟨b21, hg, h⟩ := ob h
    refine wz_gN C hW flX10_7 hg dX10_copyAll_21 ?_
    refine lv_sipush (v := 600) hx hb dX10_copyAll_24 (by decide) ?_
    refine lv_iload_n hx hb dX10_copyAll_27 rfl (lv_at hl 1 rfl) ?_
    refine lv_imul hx hb dX10_copyAll_28 ?_
    refine lv_iload_n hx hb dX10_copyAll_29 rfl (lv_at hl 3 rfl) ?_
    refine lv_iadd hx hb dX10_copyAll_30 ?_
    obtain ⟨x31, hg, h⟩ := ob h
    refine wz_bld C hW hg dX10_copyAll_31 ?_
    obtain ⟨z32, hg, h⟩ := ob h
    refine wz_bst C hW hg dX10_copyAll_32 (fun H locs hW => ?_)
    obtain ⟨v33, ev33⟩ : ∃ y : Int32, y = (l3 + (1 : Int32)) := ⟨_, rfl⟩
    have h := nm_to h ev33
    refine lv_iinc (v := v33) (lv' := [(3, .int v33), (0, .ref (gB G + a0)), (1, .int l1), (2, .int l2)]) hx hb dX10_copyAll_33 hl (k := 3) rfl (by rw [ev33]; rfl) (by decide) rfl (fun ls hl => ?_)
    refine lv_goto (tgt := 2) hx hb dX10_copyAll_36 (by decide) ?_
    exact hk2 a0 l1 l2 v33 z32 _ _ _ h hW (lv_sub hl [1, 2, 3, 0] rfl)
def fX10_copyAll_2 : Nat → Nat → Int32 → Int32 → Int32 → AH → Option AH
  | 0, _, _, _, _, _ => none
  | n + 1, a0, l1, l2, l3, z => bX10_copyAll_2 (fX10_copyAll_2 n) a0 l1 l2 l3 z
theorem klX10_copyAll_2 {p : Program} {l : Launch} {e : Env} {s : State} {m : MethodId} {args : Array Value} {below : List Frame} {meth : Method} {c : Code} {G : GW} {z' : AH} (C : Cx p m c cX10_copyAll 4 s args RX10 G) (hlk : meth.locks = false) (hr : meth.sig.returnType = none) : ∀ (n : Nat) (a0 : Nat) (l1 : Int32) (l2 : Int32) (l3 : Int32) (z : AH) (H : Heap) (locs : List Loc) (ls : Array Slot), fX10_copyAll_2 n a0 l1 l2 l3 z = some z' → Wb G z s H locs → lv_has ls 4 [(0, .ref (gB G + a0)), (1, .int l1), (2, .int l2), (3, .int l3)] → W p l e rmX10_copyAll s m args below meth c H locs 0 0 (MQ below (Qv G z') args s 0 0 (AA G)) (F0 m 2 ls []) := by
  intro n
  induction n with
  | zero => intro a0 l1 l2 l3 z H locs ls h; have h : (none : Option AH) = some z' := h; cases h
  | succ n ih => intro a0 l1 l2 l3 z H locs ls h hW hl; exact kbX10_copyAll_2 C hlk hr (fX10_copyAll_2 n) (fun a0 l1 l2 l3 z H locs ls h hW hl => ih a0 l1 l2 l3 z H locs ls h hW hl) a0 l1 l2 l3 h hW hl
def fX10_copyAll (a0 : Nat) (l1 : Int32) (l2 : Int32) (z : AH) : Option AH :=
  if isO 9 z a0 = true then
    fX10_copyAll_2 FU a0 l1 l2 (0 : Int32) z
  else none
set_option maxHeartbeats 4000000 in
set_option maxRecDepth 100000 in
theorem ctX10_copyAll (l : Launch) (G : GW) (a0 : Nat) (l1 : Int32) (l2 : Int32) (z : AH) {z' : AH} (h : fX10_copyAll a0 l1 l2 z = some z') : Met l yX10_copyAll (wy yX10_copyAll cX10_copyAll 4 none) rmX10_copyAll (Pz G [.ref (gB G + a0), .int l1, .int l2] z) (Qv G z') 0 0 (AA G) := by
  refine wz_ent (own := RX10) (by decide +kernel) rfl (fun p e s m below meth c ls C hlk hr hin hW hl => ?_) (Nat.le_of_ble_eq_true rfl)
  have hl : lv_has ls 4 [(0, .ref (gB G + a0)), (1, .int l1), (2, .int l2)] := hl
  have hx := C.1
  have hb := C.2.1
  unfold fX10_copyAll at h
  obtain ⟨-, h⟩ := ck h
  refine lv_iconst (v := 0) hx hb dX10_copyAll_0 (by decide) ?_
  refine lv_istore_n (lv' := [(3, .int (0 : Int32)), (0, .ref (gB G + a0)), (1, .int l1), (2, .int l2)]) hx hb dX10_copyAll_1 rfl hl (by decide) rfl (fun ls hl => ?_)
  exact klX10_copyAll_2 C hlk hr FU a0 l1 l2 (0 : Int32) z _ _ _ h hW (lv_sub hl [1, 2, 3, 0] rfl)
theorem lTX10_93 : LT RX10 93 yX10_in cX10_in 3 (some .boolean) 3 := ⟨tw 1380 (by decide +kernel) rfl, tw 1381 (by decide +kernel) rfl, tw 128 (by decide +kernel) rfl, tw 1382 (by decide +kernel) rfl, ⟨by decide +kernel, by decide +kernel, by decide +kernel⟩⟩
theorem dX10_is_0 : decode cX10_is 0 = .ok (.iload_n 2, 1) := by decide +kernel
theorem dX10_is_1 : decode cX10_is 1 = .ok (.iconst 0, 1) := by decide +kernel
theorem dX10_is_2 : decode cX10_is 2 = .ok (.aload_n 0, 1) := by decide +kernel
theorem dX10_is_3 : decode cX10_is 3 = .ok (.getfield 23, 3) := by decide +kernel
theorem dX10_is_6 : decode cX10_is 6 = .ok (.iload_n 1, 1) := by decide +kernel
theorem dX10_is_7 : decode cX10_is 7 = .ok (.iaload, 1) := by decide +kernel
theorem dX10_is_8 : decode cX10_is 8 = .ok (.iconst 1, 1) := by decide +kernel
theorem dX10_is_9 : decode cX10_is 9 = .ok (.isub, 1) := by decide +kernel
theorem dX10_is_10 : decode cX10_is 10 = .ok (.invokestatic 93, 3) := by decide +kernel
theorem dX10_is_13 : decode cX10_is 13 = .ok (.ireturn, 1) := by decide +kernel
abbrev rmX10_is : Room := { frames := 1, cells := 0, slots := 0, locals := 22 }
def fX10_is (a0 : Nat) (l1 : Int32) (l2 : Int32) (z : AH) : Option (Int32) :=
  if isO 9 z a0 = true then
    (gN 9 5 z a0).bind fun b3 =>
    (ixI 0 z b3 l1).bind fun x7 =>
    if (fX10_in l2 (0 : Int32) (x7 - (1 : Int32))) = 0 ∨ (fX10_in l2 (0 : Int32) (x7 - (1 : Int32))) = 1 then some (fX10_in l2 (0 : Int32) (x7 - (1 : Int32))) else none
  else none
set_option maxHeartbeats 4000000 in
set_option maxRecDepth 100000 in
theorem ctX10_is (l : Launch) (G : GW) (a0 : Nat) (l1 : Int32) (l2 : Int32) (z : AH) {r : Int32} (h : fX10_is a0 l1 l2 z = some r) : Met l yX10_is (wy yX10_is cX10_is 3 (some .boolean)) rmX10_is (Pz G [.ref (gB G + a0), .int l1, .int l2] z) (Qi G r z) 0 0 (AA G) := by
  refine wz_ent (own := RX10) (by decide +kernel) rfl (fun p e s m below meth c ls C hlk hr hin hW hl => ?_) (Nat.le_of_ble_eq_true rfl)
  have hl : lv_has ls 3 [(0, .ref (gB G + a0)), (1, .int l1), (2, .int l2)] := hl
  have hx := C.1
  have hb := C.2.1
  unfold fX10_is at h
  obtain ⟨-, h⟩ := ck h
  refine lv_iload_n hx hb dX10_is_0 rfl (lv_at hl 2 rfl) ?_
  refine lv_iconst (v := 0) hx hb dX10_is_1 (by decide) ?_
  refine lv_aload_n hx hb dX10_is_2 rfl (lv_at hl 0 rfl) ?_
  obtain ⟨b3, hg, h⟩ := ob h
  refine wz_gN C hW flX10_23 hg dX10_is_3 ?_
  refine lv_iload_n hx hb dX10_is_6 rfl (lv_at hl 1 rfl) ?_
  obtain ⟨x7, hg, h⟩ := ob h
  refine wz_ald C hW hg dX10_is_7 ?_
  refine lv_iconst (v := 1) hx hb dX10_is_8 (by decide) ?_
  refine lv_isub hx hb dX10_is_9 ?_
  refine wz_rI (c' := 0) (s' := 0) hW (wz_runS (rest := []) C hW lTX10_93 (ctX10_in l G l2 (0 : Int32) (x7 - (1 : Int32)) z rfl) ⟨⟨rfl, rfl⟩, Nat.le_of_ble_eq_true rfl, Nat.le_of_ble_eq_true rfl⟩ rfl hl.1 rfl (Nat.le_of_ble_eq_true rfl) dX10_is_10 ⟨Nat.le_of_ble_eq_true rfl, Nat.le_of_ble_eq_true rfl⟩) rfl rfl (fun H locs hW => ?_)
  obtain ⟨h01, h⟩ := ck h
  exact wz_zretE C hlk hr h01 (Option.some.inj h) rfl hW dX10_is_13
theorem dX10_four_0 : decode cX10_four 0 = .ok (.bipush 24, 2) := by decide +kernel
theorem dX10_four_2 : decode cX10_four 2 = .ok (.istore_n 2, 1) := by decide +kernel
theorem dX10_four_3 : decode cX10_four 3 = .ok (.iload_n 2, 1) := by decide +kernel
theorem dX10_four_4 : decode cX10_four 4 = .ok (.ifCond .lt 34, 3) := by decide +kernel
theorem dX10_four_7 : decode cX10_four 7 = .ok (.aload_n 0, 1) := by decide +kernel
theorem dX10_four_8 : decode cX10_four 8 = .ok (.getfield 7, 3) := by decide +kernel
theorem dX10_four_11 : decode cX10_four 11 = .ok (.aload_n 0, 1) := by decide +kernel
theorem dX10_four_12 : decode cX10_four 12 = .ok (.getfield 13, 3) := by decide +kernel
theorem dX10_four_15 : decode cX10_four 15 = .ok (.iconst 0, 1) := by decide +kernel
theorem dX10_four_16 : decode cX10_four 16 = .ok (.iaload, 1) := by decide +kernel
theorem dX10_four_17 : decode cX10_four 17 = .ok (.iload_n 1, 1) := by decide +kernel
theorem dX10_four_18 : decode cX10_four 18 = .ok (.iload_n 2, 1) := by decide +kernel
theorem dX10_four_19 : decode cX10_four 19 = .ok (.ishr, 1) := by decide +kernel
theorem dX10_four_20 : decode cX10_four 20 = .ok (.i2b, 1) := by decide +kernel
theorem dX10_four_21 : decode cX10_four 21 = .ok (.bastore, 1) := by decide +kernel
theorem dX10_four_22 : decode cX10_four 22 = .ok (.aload_n 0, 1) := by decide +kernel
theorem dX10_four_23 : decode cX10_four 23 = .ok (.getfield 13, 3) := by decide +kernel
theorem dX10_four_26 : decode cX10_four 26 = .ok (.iconst 0, 1) := by decide +kernel
theorem dX10_four_27 : decode cX10_four 27 = .ok (.dup2, 1) := by decide +kernel
theorem dX10_four_28 : decode cX10_four 28 = .ok (.iaload, 1) := by decide +kernel
theorem dX10_four_29 : decode cX10_four 29 = .ok (.iconst 1, 1) := by decide +kernel
theorem dX10_four_30 : decode cX10_four 30 = .ok (.iadd, 1) := by decide +kernel
theorem dX10_four_31 : decode cX10_four 31 = .ok (.iastore, 1) := by decide +kernel
theorem dX10_four_32 : decode cX10_four 32 = .ok (.iinc 2 (-8), 3) := by decide +kernel
theorem dX10_four_35 : decode cX10_four 35 = .ok (.goto (-32), 3) := by decide +kernel
theorem dX10_four_38 : decode cX10_four 38 = .ok (.return_, 1) := by decide +kernel
abbrev rmX10_four : Room := { frames := 0, cells := 0, slots := 0, locals := 0 }
def bX10_four_3 (k3 : Nat → Int32 → Int32 → AH → Option AH) (a0 : Nat) (l1 : Int32) (l2 : Int32) (z : AH) : Option AH :=
  if l2 < (0 : Int32) then (
    some z
  ) else (
    (gN 9 1 z a0).bind fun b8 =>
    (gN 9 2 z a0).bind fun b12 =>
    (ixI 0 z b12 (0 : Int32)).bind fun x16 =>
    (stI 1 z b8 x16 (vp_nar .byte (Int8.toInt32 (Int32.toInt8 (shr l1 l2))))).bind fun z21 =>
    (gN 9 2 z21 a0).bind fun b23 =>
    (ixI 0 z21 b23 (0 : Int32)).bind fun x28 =>
    (stI 0 z21 b23 (0 : Int32) (x28 + (1 : Int32))).bind fun z31 =>
    nm (l2 + (-8 : Int32)) fun v32 =>
    k3 a0 l1 v32 z31
  )
set_option maxHeartbeats 4000000 in
set_option maxRecDepth 100000 in
theorem kbX10_four_3 {p : Program} {l : Launch} {e : Env} {s : State} {m : MethodId} {args : Array Value} {below : List Frame} {meth : Method} {c : Code} {G : GW} {z' : AH} (C : Cx p m c cX10_four 3 s args RX10 G) (hlk : meth.locks = false) (hr : meth.sig.returnType = none) (k3 : Nat → Int32 → Int32 → AH → Option AH) (hk3 : ∀ (a0 : Nat) (l1 : Int32) (l2 : Int32) (z : AH) (H : Heap) (locs : List Loc) (ls : Array Slot), k3 a0 l1 l2 z = some z' → Wb G z s H locs → lv_has ls 3 [(0, .ref (gB G + a0)), (1, .int l1), (2, .int l2)] → W p l e rmX10_four s m args below meth c H locs 0 0 (MQ below (Qv G z') args s 0 0 (AA G)) (F0 m 3 ls [])) (a0 : Nat) (l1 : Int32) (l2 : Int32) {z : AH} {H : Heap} {locs : List Loc} {ls : Array Slot} (h : bX10_four_3 k3 a0 l1 l2 z = some z') (hW : Wb G z s H locs) (hl : lv_has ls 3 [(0, .ref (gB G + a0)), (1, .int l1), (2, .int l2)]) : W p l e rmX10_four s m args below meth c H locs 0 0 (MQ below (Qv G z') args s 0 0 (AA G)) (F0 m 3 ls []) := by
  have hx := C.1
  have hb := C.2.1
  unfold bX10_four_3 at h
  refine lv_iload_n hx hb dX10_four_3 rfl (lv_at hl 2 rfl) ?_
  refine lv_if_lt (tgt := 38) hx hb dX10_four_4 (by decide) (fun c4 => ?_) (fun c4 => ?_)
  · have h := ite_t c4 h
    exact wz_vretE C hlk hr (Option.some.inj h) hW dX10_four_38
  · have h := ite_f c4 h
    refine lv_aload_n hx hb dX10_four_7 rfl (lv_at hl 0 rfl) ?_
    obtain ⟨b8, hg, h⟩ := ob h
    refine wz_gN C hW flX10_7 hg dX10_four_8 ?_
    refine lv_aload_n hx hb dX10_four_11 rfl (lv_at hl 0 rfl) ?_
    obtain ⟨b12, hg, h⟩ := ob h
    refine wz_gN C hW flX10_13 hg dX10_four_12 ?_
    refine lv_iconst (v := 0) hx hb dX10_four_15 (by decide) ?_
    obtain ⟨x16, hg, h⟩ := ob h
    refine wz_ald C hW hg dX10_four_16 ?_
    refine lv_iload_n hx hb dX10_four_17 rfl (lv_at hl 1 rfl) ?_
    refine lv_iload_n hx hb dX10_four_18 rfl (lv_at hl 2 rfl) ?_
    refine wz_shr hx hb dX10_four_19 ?_
    refine lv_i2b hx hb dX10_four_20 rfl ?_
    obtain ⟨z21, hg, h⟩ := ob h
    refine wz_bst C hW hg dX10_four_21 (fun H locs hW => ?_)
    refine lv_aload_n hx hb dX10_four_22 rfl (lv_at hl 0 rfl) ?_
    obtain ⟨b23, hg, h⟩ := ob h
    refine wz_gN C hW flX10_13 hg dX10_four_23 ?_
    refine lv_iconst (v := 0) hx hb dX10_four_26 (by decide) ?_
    refine lv_dup2_11 hx hb dX10_four_27 rfl rfl ?_
    obtain ⟨x28, hg, h⟩ := ob h
    refine wz_ald C hW hg dX10_four_28 ?_
    refine lv_iconst (v := 1) hx hb dX10_four_29 (by decide) ?_
    refine lv_iadd hx hb dX10_four_30 ?_
    obtain ⟨z31, hg, h⟩ := ob h
    refine wz_ast C hW hg dX10_four_31 (fun H locs hW => ?_)
    obtain ⟨v32, ev32⟩ : ∃ y : Int32, y = (l2 + (-8 : Int32)) := ⟨_, rfl⟩
    have h := nm_to h ev32
    refine lv_iinc (v := v32) (lv' := [(2, .int v32), (0, .ref (gB G + a0)), (1, .int l1)]) hx hb dX10_four_32 hl (k := 2) rfl (by rw [ev32]; rfl) (by decide) rfl (fun ls hl => ?_)
    refine lv_goto (tgt := 3) hx hb dX10_four_35 (by decide) ?_
    exact hk3 a0 l1 v32 z31 _ _ _ h hW (lv_sub hl [1, 2, 0] rfl)
def fX10_four_3 : Nat → Nat → Int32 → Int32 → AH → Option AH
  | 0, _, _, _, _ => none
  | n + 1, a0, l1, l2, z => bX10_four_3 (fX10_four_3 n) a0 l1 l2 z
theorem klX10_four_3 {p : Program} {l : Launch} {e : Env} {s : State} {m : MethodId} {args : Array Value} {below : List Frame} {meth : Method} {c : Code} {G : GW} {z' : AH} (C : Cx p m c cX10_four 3 s args RX10 G) (hlk : meth.locks = false) (hr : meth.sig.returnType = none) : ∀ (n : Nat) (a0 : Nat) (l1 : Int32) (l2 : Int32) (z : AH) (H : Heap) (locs : List Loc) (ls : Array Slot), fX10_four_3 n a0 l1 l2 z = some z' → Wb G z s H locs → lv_has ls 3 [(0, .ref (gB G + a0)), (1, .int l1), (2, .int l2)] → W p l e rmX10_four s m args below meth c H locs 0 0 (MQ below (Qv G z') args s 0 0 (AA G)) (F0 m 3 ls []) := by
  intro n
  induction n with
  | zero => intro a0 l1 l2 z H locs ls h; have h : (none : Option AH) = some z' := h; cases h
  | succ n ih => intro a0 l1 l2 z H locs ls h hW hl; exact kbX10_four_3 C hlk hr (fX10_four_3 n) (fun a0 l1 l2 z H locs ls h hW hl => ih a0 l1 l2 z H locs ls h hW hl) a0 l1 l2 h hW hl
def fX10_four (a0 : Nat) (l1 : Int32) (z : AH) : Option AH :=
  if isO 9 z a0 = true then
    fX10_four_3 FU a0 l1 (24 : Int32) z
  else none
set_option maxHeartbeats 4000000 in
set_option maxRecDepth 100000 in
theorem ctX10_four (l : Launch) (G : GW) (a0 : Nat) (l1 : Int32) (z : AH) {z' : AH} (h : fX10_four a0 l1 z = some z') : Met l yX10_four (wy yX10_four cX10_four 3 none) rmX10_four (Pz G [.ref (gB G + a0), .int l1] z) (Qv G z') 0 0 (AA G) := by
  refine wz_ent (own := RX10) (by decide +kernel) rfl (fun p e s m below meth c ls C hlk hr hin hW hl => ?_) (Nat.le_of_ble_eq_true rfl)
  have hl : lv_has ls 3 [(0, .ref (gB G + a0)), (1, .int l1)] := hl
  have hx := C.1
  have hb := C.2.1
  unfold fX10_four at h
  obtain ⟨-, h⟩ := ck h
  refine lv_bipush (v := 24) hx hb dX10_four_0 (by decide) ?_
  refine lv_istore_n (lv' := [(2, .int (24 : Int32)), (0, .ref (gB G + a0)), (1, .int l1)]) hx hb dX10_four_2 rfl hl (by decide) rfl (fun ls hl => ?_)
  exact klX10_four_3 C hlk hr FU a0 l1 (24 : Int32) z _ _ _ h hW (lv_sub hl [1, 2, 0] rfl)
theorem flX10_81 : FL RX10 81 9 0 := ⟨_, rfl, Nat.le_of_ble_eq_true rfl, tw 1199 (by decide +kernel) rfl, rfl⟩
theorem lVX10_97 : LV RX10 97 yX10_four cX10_four 3 none 1 := ⟨tw 1372 (by decide +kernel) rfl, tw 1374 (by decide +kernel) rfl, tw 35 (by decide +kernel) rfl, tw 128 (by decide +kernel) rfl, tw 1375 (by decide +kernel) rfl, ⟨by decide +kernel, by decide +kernel, by decide +kernel⟩⟩
theorem dX10_feed_0 : decode cX10_feed 0 = .ok (.aload_n 0, 1) := by decide +kernel
theorem dX10_feed_1 : decode cX10_feed 1 = .ok (.iconst 0, 1) := by decide +kernel
theorem dX10_feed_2 : decode cX10_feed 2 = .ok (.putfield 81, 3) := by decide +kernel
theorem dX10_feed_5 : decode cX10_feed 5 = .ok (.aload_n 0, 1) := by decide +kernel
theorem dX10_feed_6 : decode cX10_feed 6 = .ok (.getfield 13, 3) := by decide +kernel
theorem dX10_feed_9 : decode cX10_feed 9 = .ok (.iconst 0, 1) := by decide +kernel
theorem dX10_feed_10 : decode cX10_feed 10 = .ok (.iaload, 1) := by decide +kernel
theorem dX10_feed_11 : decode cX10_feed 11 = .ok (.bipush 20, 2) := by decide +kernel
theorem dX10_feed_13 : decode cX10_feed 13 = .ok (.iadd, 1) := by decide +kernel
theorem dX10_feed_14 : decode cX10_feed 14 = .ok (.sipush 600, 3) := by decide +kernel
theorem dX10_feed_17 : decode cX10_feed 17 = .ok (.if_icmp .le 5, 3) := by decide +kernel
theorem dX10_feed_20 : decode cX10_feed 20 = .ok (.iconst (-1), 1) := by decide +kernel
theorem dX10_feed_21 : decode cX10_feed 21 = .ok (.ireturn, 1) := by decide +kernel
theorem dX10_feed_22 : decode cX10_feed 22 = .ok (.aload_n 0, 1) := by decide +kernel
theorem dX10_feed_23 : decode cX10_feed 23 = .ok (.iload_n 1, 1) := by decide +kernel
theorem dX10_feed_24 : decode cX10_feed 24 = .ok (.invokevirtual 97, 3) := by decide +kernel
theorem dX10_feed_27 : decode cX10_feed 27 = .ok (.aload_n 0, 1) := by decide +kernel
theorem dX10_feed_28 : decode cX10_feed 28 = .ok (.iload_n 2, 1) := by decide +kernel
theorem dX10_feed_29 : decode cX10_feed 29 = .ok (.invokevirtual 97, 3) := by decide +kernel
theorem dX10_feed_32 : decode cX10_feed 32 = .ok (.aload_n 0, 1) := by decide +kernel
theorem dX10_feed_33 : decode cX10_feed 33 = .ok (.iload_n 3, 1) := by decide +kernel
theorem dX10_feed_34 : decode cX10_feed 34 = .ok (.invokevirtual 97, 3) := by decide +kernel
theorem dX10_feed_37 : decode cX10_feed 37 = .ok (.aload_n 0, 1) := by decide +kernel
theorem dX10_feed_38 : decode cX10_feed 38 = .ok (.iload 4, 2) := by decide +kernel
theorem dX10_feed_40 : decode cX10_feed 40 = .ok (.invokevirtual 97, 3) := by decide +kernel
theorem dX10_feed_43 : decode cX10_feed 43 = .ok (.aload_n 0, 1) := by decide +kernel
theorem dX10_feed_44 : decode cX10_feed 44 = .ok (.iload 5, 2) := by decide +kernel
theorem dX10_feed_46 : decode cX10_feed 46 = .ok (.invokevirtual 97, 3) := by decide +kernel
theorem dX10_feed_49 : decode cX10_feed 49 = .ok (.aload_n 0, 1) := by decide +kernel
theorem dX10_feed_50 : decode cX10_feed 50 = .ok (.getfield 13, 3) := by decide +kernel
theorem dX10_feed_53 : decode cX10_feed 53 = .ok (.iconst 0, 1) := by decide +kernel
theorem dX10_feed_54 : decode cX10_feed 54 = .ok (.iaload, 1) := by decide +kernel
theorem dX10_feed_55 : decode cX10_feed 55 = .ok (.ireturn, 1) := by decide +kernel
abbrev rmX10_feed : Room := { frames := 1, cells := 0, slots := 0, locals := 22 }
def fX10_feed (a0 : Nat) (l1 : Int32) (l2 : Int32) (l3 : Int32) (l4 : Int32) (l5 : Int32) (z : AH) : Option (Int32 × AH) :=
  if isO 9 z a0 = true then
    (pF 9 0 z a0 (.int (0 : Int32))).bind fun z2 =>
    (gN 9 2 z2 a0).bind fun b6 =>
    (ixI 0 z2 b6 (0 : Int32)).bind fun x10 =>
    if (x10 + (20 : Int32)) ≤ (600 : Int32) then (
      (fX10_four a0 l1 z2).bind fun z24 =>
      (fX10_four a0 l2 z24).bind fun z29 =>
      (fX10_four a0 l3 z29).bind fun z34 =>
      (fX10_four a0 l4 z34).bind fun z40 =>
      (fX10_four a0 l5 z40).bind fun z46 =>
      (gN 9 2 z46 a0).bind fun b50 =>
      (ixI 0 z46 b50 (0 : Int32)).bind fun x54 =>
      some (x54, z46)
    ) else (
      some ((-1 : Int32), z2)
    )
  else none
set_option maxHeartbeats 4000000 in
set_option maxRecDepth 100000 in
theorem ctX10_feed (l : Launch) (G : GW) (a0 : Nat) (l1 : Int32) (l2 : Int32) (l3 : Int32) (l4 : Int32) (l5 : Int32) (z : AH) {r : Int32} {z' : AH} (h : fX10_feed a0 l1 l2 l3 l4 l5 z = some (r, z')) : Met l yX10_feed (wy yX10_feed cX10_feed 6 (some .int)) rmX10_feed (Pz G [.ref (gB G + a0), .int l1, .int l2, .int l3, .int l4, .int l5] z) (Qi G r z') 0 0 (AA G) := by
  refine wz_ent (own := RX10) (by decide +kernel) rfl (fun p e s m below meth c ls C hlk hr hin hW hl => ?_) (Nat.le_of_ble_eq_true rfl)
  have hl : lv_has ls 6 [(0, .ref (gB G + a0)), (1, .int l1), (2, .int l2), (3, .int l3), (4, .int l4), (5, .int l5)] := hl
  have hx := C.1
  have hb := C.2.1
  unfold fX10_feed at h
  obtain ⟨-, h⟩ := ck h
  refine lv_aload_n hx hb dX10_feed_0 rfl (lv_at hl 0 rfl) ?_
  refine lv_iconst (v := 0) hx hb dX10_feed_1 (by decide) ?_
  obtain ⟨z2, hg, h⟩ := ob h
  refine wz_put (v := (.int (0 : Int32))) C hW flX10_81 rfl rfl hg dX10_feed_2 (fun H locs hW => ?_)
  refine lv_aload_n hx hb dX10_feed_5 rfl (lv_at hl 0 rfl) ?_
  obtain ⟨b6, hg, h⟩ := ob h
  refine wz_gN C hW flX10_13 hg dX10_feed_6 ?_
  refine lv_iconst (v := 0) hx hb dX10_feed_9 (by decide) ?_
  obtain ⟨x10, hg, h⟩ := ob h
  refine wz_ald C hW hg dX10_feed_10 ?_
  refine lv_bipush (v := 20) hx hb dX10_feed_11 (by decide) ?_
  refine lv_iadd hx hb dX10_feed_13 ?_
  refine lv_sipush (v := 600) hx hb dX10_feed_14 (by decide) ?_
  refine lv_icmp_le (tgt := 22) hx hb dX10_feed_17 (by decide) (fun c17 => ?_) (fun c17 => ?_)
  · have h := ite_t c17 h
    refine lv_aload_n hx hb dX10_feed_22 rfl (lv_at hl 0 rfl) ?_
    refine lv_iload_n hx hb dX10_feed_23 rfl (lv_at hl 1 rfl) ?_
    obtain ⟨z24, hq, h⟩ := ob h
    refine wz_rV (c' := 0) (s' := 0) hW (wz_runV (rest := []) C hW lVX10_97 (ck hq).1 rfl (ctX10_four l G a0 l1 z2 hq) ⟨⟨rfl, rfl⟩, Nat.le_of_ble_eq_true rfl, Nat.le_of_ble_eq_true rfl⟩ rfl hl.1 rfl (Nat.le_of_ble_eq_true rfl) dX10_feed_24 ⟨Nat.le_of_ble_eq_true rfl, Nat.le_of_ble_eq_true rfl⟩) rfl rfl (fun H locs hW => ?_)
    refine lv_aload_n hx hb dX10_feed_27 rfl (lv_at hl 0 rfl) ?_
    refine lv_iload_n hx hb dX10_feed_28 rfl (lv_at hl 2 rfl) ?_
    obtain ⟨z29, hq, h⟩ := ob h
    refine wz_rV (c' := 0) (s' := 0) hW (wz_runV (rest := []) C hW lVX10_97 (ck hq).1 rfl (ctX10_four l G a0 l2 z24 hq) ⟨⟨rfl, rfl⟩, Nat.le_of_ble_eq_true rfl, Nat.le_of_ble_eq_true rfl⟩ rfl hl.1 rfl (Nat.le_of_ble_eq_true rfl) dX10_feed_29 ⟨Nat.le_of_ble_eq_true rfl, Nat.le_of_ble_eq_true rfl⟩) rfl rfl (fun H locs hW => ?_)
    refine lv_aload_n hx hb dX10_feed_32 rfl (lv_at hl 0 rfl) ?_
    refine lv_iload_n hx hb dX10_feed_33 rfl (lv_at hl 3 rfl) ?_
    obtain ⟨z34, hq, h⟩ := ob h
    refine wz_rV (c' := 0) (s' := 0) hW (wz_runV (rest := []) C hW lVX10_97 (ck hq).1 rfl (ctX10_four l G a0 l3 z29 hq) ⟨⟨rfl, rfl⟩, Nat.le_of_ble_eq_true rfl, Nat.le_of_ble_eq_true rfl⟩ rfl hl.1 rfl (Nat.le_of_ble_eq_true rfl) dX10_feed_34 ⟨Nat.le_of_ble_eq_true rfl, Nat.le_of_ble_eq_true rfl⟩) rfl rfl (fun H locs hW => ?_)
    refine lv_aload_n hx hb dX10_feed_37 rfl (lv_at hl 0 rfl) ?_
    refine lv_iload hx hb dX10_feed_38 (lv_at hl 4 rfl) ?_
    obtain ⟨z40, hq, h⟩ := ob h
    refine wz_rV (c' := 0) (s' := 0) hW (wz_runV (rest := []) C hW lVX10_97 (ck hq).1 rfl (ctX10_four l G a0 l4 z34 hq) ⟨⟨rfl, rfl⟩, Nat.le_of_ble_eq_true rfl, Nat.le_of_ble_eq_true rfl⟩ rfl hl.1 rfl (Nat.le_of_ble_eq_true rfl) dX10_feed_40 ⟨Nat.le_of_ble_eq_true rfl, Nat.le_of_ble_eq_true rfl⟩) rfl rfl (fun H locs hW => ?_)
    refine lv_aload_n hx hb dX10_feed_43 rfl (lv_at hl 0 rfl) ?_
    refine lv_iload hx hb dX10_feed_44 (lv_at hl 5 rfl) ?_
    obtain ⟨z46, hq, h⟩ := ob h
    refine wz_rV (c' := 0) (s' := 0) hW (wz_runV (rest := []) C hW lVX10_97 (ck hq).1 rfl (ctX10_four l G a0 l5 z40 hq) ⟨⟨rfl, rfl⟩, Nat.le_of_ble_eq_true rfl, Nat.le_of_ble_eq_true rfl⟩ rfl hl.1 rfl (Nat.le_of_ble_eq_true rfl) dX10_feed_46 ⟨Nat.le_of_ble_eq_true rfl, Nat.le_of_ble_eq_true rfl⟩) rfl rfl (fun H locs hW => ?_)
    refine lv_aload_n hx hb dX10_feed_49 rfl (lv_at hl 0 rfl) ?_
    obtain ⟨b50, hg, h⟩ := ob h
    refine wz_gN C hW flX10_13 hg dX10_feed_50 ?_
    refine lv_iconst (v := 0) hx hb dX10_feed_53 (by decide) ?_
    obtain ⟨x54, hg, h⟩ := ob h
    refine wz_ald C hW hg dX10_feed_54 ?_
    exact wz_iretE C hlk hr (so2 h).1 (so2 h).2 hW dX10_feed_55
  · have h := ite_f c17 h
    refine lv_iconst (v := -1) hx hb dX10_feed_20 (by decide) ?_
    exact wz_iretE C hlk hr (so2 h).1 (so2 h).2 hW dX10_feed_21
theorem dX10_end_0 : decode cX10_end 0 = .ok (.aload_n 0, 1) := by decide +kernel
theorem dX10_end_1 : decode cX10_end 1 = .ok (.iconst 0, 1) := by decide +kernel
theorem dX10_end_2 : decode cX10_end 2 = .ok (.putfield 81, 3) := by decide +kernel
theorem dX10_end_5 : decode cX10_end 5 = .ok (.iload_n 1, 1) := by decide +kernel
theorem dX10_end_6 : decode cX10_end 6 = .ok (.iconst 0, 1) := by decide +kernel
theorem dX10_end_7 : decode cX10_end 7 = .ok (.aload_n 0, 1) := by decide +kernel
theorem dX10_end_8 : decode cX10_end 8 = .ok (.getfield 13, 3) := by decide +kernel
theorem dX10_end_11 : decode cX10_end 11 = .ok (.iconst 0, 1) := by decide +kernel
theorem dX10_end_12 : decode cX10_end 12 = .ok (.iaload, 1) := by decide +kernel
theorem dX10_end_13 : decode cX10_end 13 = .ok (.invokestatic 93, 3) := by decide +kernel
theorem dX10_end_16 : decode cX10_end 16 = .ok (.ifCond .ne 5, 3) := by decide +kernel
theorem dX10_end_19 : decode cX10_end 19 = .ok (.iconst (-1), 1) := by decide +kernel
theorem dX10_end_20 : decode cX10_end 20 = .ok (.ireturn, 1) := by decide +kernel
theorem dX10_end_21 : decode cX10_end 21 = .ok (.aload_n 0, 1) := by decide +kernel
theorem dX10_end_22 : decode cX10_end 22 = .ok (.getfield 13, 3) := by decide +kernel
theorem dX10_end_25 : decode cX10_end 25 = .ok (.iconst 0, 1) := by decide +kernel
theorem dX10_end_26 : decode cX10_end 26 = .ok (.iload_n 1, 1) := by decide +kernel
theorem dX10_end_27 : decode cX10_end 27 = .ok (.iastore, 1) := by decide +kernel
theorem dX10_end_28 : decode cX10_end 28 = .ok (.iload_n 1, 1) := by decide +kernel
theorem dX10_end_29 : decode cX10_end 29 = .ok (.ireturn, 1) := by decide +kernel
abbrev rmX10_end : Room := { frames := 1, cells := 0, slots := 0, locals := 22 }
def fX10_end (a0 : Nat) (l1 : Int32) (z : AH) : Option (Int32 × AH) :=
  if isO 9 z a0 = true then
    (pF 9 0 z a0 (.int (0 : Int32))).bind fun z2 =>
    (gN 9 2 z2 a0).bind fun b8 =>
    (ixI 0 z2 b8 (0 : Int32)).bind fun x12 =>
    if (fX10_in l1 (0 : Int32) x12) = (0 : Int32) then (
      some ((-1 : Int32), z2)
    ) else (
      (gN 9 2 z2 a0).bind fun b22 =>
      (stI 0 z2 b22 (0 : Int32) l1).bind fun z27 =>
      some (l1, z27)
    )
  else none
set_option maxHeartbeats 4000000 in
set_option maxRecDepth 100000 in
theorem ctX10_end (l : Launch) (G : GW) (a0 : Nat) (l1 : Int32) (z : AH) {r : Int32} {z' : AH} (h : fX10_end a0 l1 z = some (r, z')) : Met l yX10_end (wy yX10_end cX10_end 2 (some .int)) rmX10_end (Pz G [.ref (gB G + a0), .int l1] z) (Qi G r z') 0 0 (AA G) := by
  refine wz_ent (own := RX10) (by decide +kernel) rfl (fun p e s m below meth c ls C hlk hr hin hW hl => ?_) (Nat.le_of_ble_eq_true rfl)
  have hl : lv_has ls 2 [(0, .ref (gB G + a0)), (1, .int l1)] := hl
  have hx := C.1
  have hb := C.2.1
  unfold fX10_end at h
  obtain ⟨-, h⟩ := ck h
  refine lv_aload_n hx hb dX10_end_0 rfl (lv_at hl 0 rfl) ?_
  refine lv_iconst (v := 0) hx hb dX10_end_1 (by decide) ?_
  obtain ⟨z2, hg, h⟩ := ob h
  refine wz_put (v := (.int (0 : Int32))) C hW flX10_81 rfl rfl hg dX10_end_2 (fun H locs hW => ?_)
  refine lv_iload_n hx hb dX10_end_5 rfl (lv_at hl 1 rfl) ?_
  refine lv_iconst (v := 0) hx hb dX10_end_6 (by decide) ?_
  refine lv_aload_n hx hb dX10_end_7 rfl (lv_at hl 0 rfl) ?_
  obtain ⟨b8, hg, h⟩ := ob h
  refine wz_gN C hW flX10_13 hg dX10_end_8 ?_
  refine lv_iconst (v := 0) hx hb dX10_end_11 (by decide) ?_
  obtain ⟨x12, hg, h⟩ := ob h
  refine wz_ald C hW hg dX10_end_12 ?_
  refine wz_rI (c' := 0) (s' := 0) hW (wz_runS (rest := []) C hW lTX10_93 (ctX10_in l G l1 (0 : Int32) x12 z2 rfl) ⟨⟨rfl, rfl⟩, Nat.le_of_ble_eq_true rfl, Nat.le_of_ble_eq_true rfl⟩ rfl hl.1 rfl (Nat.le_of_ble_eq_true rfl) dX10_end_13 ⟨Nat.le_of_ble_eq_true rfl, Nat.le_of_ble_eq_true rfl⟩) rfl rfl (fun H locs hW => ?_)
  refine lv_if_ne (tgt := 21) hx hb dX10_end_16 (by decide) (fun c16 => ?_) (fun c16 => ?_)
  · have h := ite_f c16 h
    refine lv_aload_n hx hb dX10_end_21 rfl (lv_at hl 0 rfl) ?_
    obtain ⟨b22, hg, h⟩ := ob h
    refine wz_gN C hW flX10_13 hg dX10_end_22 ?_
    refine lv_iconst (v := 0) hx hb dX10_end_25 (by decide) ?_
    refine lv_iload_n hx hb dX10_end_26 rfl (lv_at hl 1 rfl) ?_
    obtain ⟨z27, hg, h⟩ := ob h
    refine wz_ast C hW hg dX10_end_27 (fun H locs hW => ?_)
    refine lv_iload_n hx hb dX10_end_28 rfl (lv_at hl 1 rfl) ?_
    exact wz_iretE C hlk hr (so2 h).1 (so2 h).2 hW dX10_end_29
  · have h := ite_t c16 h
    refine lv_iconst (v := -1) hx hb dX10_end_19 (by decide) ?_
    exact wz_iretE C hlk hr (so2 h).1 (so2 h).2 hW dX10_end_20
theorem flX10_101 : FL RX10 101 9 10 := ⟨_, rfl, Nat.le_of_ble_eq_true rfl, tw 1209 (by decide +kernel) rfl, rfl⟩
theorem flX10_104 : FL RX10 104 9 11 := ⟨_, rfl, Nat.le_of_ble_eq_true rfl, tw 1210 (by decide +kernel) rfl, rfl⟩
theorem dX10_see_0 : decode cX10_see 0 = .ok (.aload_n 0, 1) := by decide +kernel
theorem dX10_see_1 : decode cX10_see 1 = .ok (.getfield 101, 3) := by decide +kernel
theorem dX10_see_4 : decode cX10_see 4 = .ok (.aload_n 0, 1) := by decide +kernel
theorem dX10_see_5 : decode cX10_see 5 = .ok (.getfield 104, 3) := by decide +kernel
theorem dX10_see_8 : decode cX10_see 8 = .ok (.if_icmp .ge 19, 3) := by decide +kernel
theorem dX10_see_11 : decode cX10_see 11 = .ok (.aload_n 0, 1) := by decide +kernel
theorem dX10_see_12 : decode cX10_see 12 = .ok (.getfield 7, 3) := by decide +kernel
theorem dX10_see_15 : decode cX10_see 15 = .ok (.aload_n 0, 1) := by decide +kernel
theorem dX10_see_16 : decode cX10_see 16 = .ok (.getfield 101, 3) := by decide +kernel
theorem dX10_see_19 : decode cX10_see 19 = .ok (.baload, 1) := by decide +kernel
theorem dX10_see_20 : decode cX10_see 20 = .ok (.sipush 255, 3) := by decide +kernel
theorem dX10_see_23 : decode cX10_see 23 = .ok (.iand, 1) := by decide +kernel
theorem dX10_see_24 : decode cX10_see 24 = .ok (.goto 4, 3) := by decide +kernel
theorem dX10_see_27 : decode cX10_see 27 = .ok (.iconst (-1), 1) := by decide +kernel
theorem dX10_see_28 : decode cX10_see 28 = .ok (.ireturn, 1) := by decide +kernel
abbrev rmX10_see : Room := { frames := 0, cells := 0, slots := 0, locals := 0 }
def fX10_see (a0 : Nat) (z : AH) : Option (Int32) :=
  if isO 9 z a0 = true then
    (gI 9 10 z a0).bind fun x1 =>
    (gI 9 11 z a0).bind fun x5 =>
    if x5 ≤ x1 then (
      some (-1 : Int32)
    ) else (
      (gN 9 1 z a0).bind fun b12 =>
      (gI 9 10 z a0).bind fun x16 =>
      (ixI 1 z b12 x16).bind fun x19 =>
      some (x19 &&& (255 : Int32))
    )
  else none
set_option maxHeartbeats 4000000 in
set_option maxRecDepth 100000 in
theorem ctX10_see (l : Launch) (G : GW) (a0 : Nat) (z : AH) {r : Int32} (h : fX10_see a0 z = some r) : Met l yX10_see (wy yX10_see cX10_see 1 (some .int)) rmX10_see (Pz G [.ref (gB G + a0)] z) (Qi G r z) 0 0 (AA G) := by
  refine wz_ent (own := RX10) (by decide +kernel) rfl (fun p e s m below meth c ls C hlk hr hin hW hl => ?_) (Nat.le_of_ble_eq_true rfl)
  have hl : lv_has ls 1 [(0, .ref (gB G + a0))] := hl
  have hx := C.1
  have hb := C.2.1
  unfold fX10_see at h
  obtain ⟨-, h⟩ := ck h
  refine lv_aload_n hx hb dX10_see_0 rfl (lv_at hl 0 rfl) ?_
  obtain ⟨x1, hg, h⟩ := ob h
  refine wz_gI C hW flX10_101 hg dX10_see_1 ?_
  refine lv_aload_n hx hb dX10_see_4 rfl (lv_at hl 0 rfl) ?_
  obtain ⟨x5, hg, h⟩ := ob h
  refine wz_gI C hW flX10_104 hg dX10_see_5 ?_
  refine lv_icmp_ge (tgt := 27) hx hb dX10_see_8 (by decide) (fun c8 => ?_) (fun c8 => ?_)
  · have h := ite_t c8 h
    refine lv_iconst (v := -1) hx hb dX10_see_27 (by decide) ?_
    exact wz_iretE C hlk hr (Option.some.inj h) rfl hW dX10_see_28
  · have h := ite_f c8 h
    refine lv_aload_n hx hb dX10_see_11 rfl (lv_at hl 0 rfl) ?_
    obtain ⟨b12, hg, h⟩ := ob h
    refine wz_gN C hW flX10_7 hg dX10_see_12 ?_
    refine lv_aload_n hx hb dX10_see_15 rfl (lv_at hl 0 rfl) ?_
    obtain ⟨x16, hg, h⟩ := ob h
    refine wz_gI C hW flX10_101 hg dX10_see_16 ?_
    obtain ⟨x19, hg, h⟩ := ob h
    refine wz_bld C hW hg dX10_see_19 ?_
    refine lv_sipush (v := 255) hx hb dX10_see_20 (by decide) ?_
    refine lv_iand hx hb dX10_see_23 ?_
    refine lv_goto (tgt := 28) hx hb dX10_see_24 (by decide) ?_
    exact wz_iretE C hlk hr (Option.some.inj h) rfl hW dX10_see_28
theorem flX10_121 : FL RX10 121 9 14 := ⟨_, rfl, Nat.le_of_ble_eq_true rfl, tw 1213 (by decide +kernel) rfl, rfl⟩
theorem lVX10_107 : LV RX10 107 yX10_see cX10_see 1 (some .int) 0 := ⟨tw 1399 (by decide +kernel) rfl, tw 1401 (by decide +kernel) rfl, tw 39 (by decide +kernel) rfl, tw 128 (by decide +kernel) rfl, tw 1402 (by decide +kernel) rfl, ⟨by decide +kernel, by decide +kernel, by decide +kernel⟩⟩
theorem flX10_118 : FL RX10 118 9 13 := ⟨_, rfl, Nat.le_of_ble_eq_true rfl, tw 1212 (by decide +kernel) rfl, rfl⟩
theorem flX10_114 : FL RX10 114 9 15 := ⟨_, rfl, Nat.le_of_ble_eq_true rfl, tw 1214 (by decide +kernel) rfl, rfl⟩
theorem flX10_111 : FL RX10 111 9 12 := ⟨_, rfl, Nat.le_of_ble_eq_true rfl, tw 1211 (by decide +kernel) rfl, rfl⟩
theorem dX10_token_0 : decode cX10_token 0 = .ok (.aload_n 0, 1) := by decide +kernel
theorem dX10_token_1 : decode cX10_token 1 = .ok (.invokevirtual 107, 3) := by decide +kernel
theorem dX10_token_4 : decode cX10_token 4 = .ok (.bipush 10, 2) := by decide +kernel
theorem dX10_token_6 : decode cX10_token 6 = .ok (.if_icmp .eq 12, 3) := by decide +kernel
theorem dX10_token_9 : decode cX10_token 9 = .ok (.aload_n 0, 1) := by decide +kernel
theorem dX10_token_10 : decode cX10_token 10 = .ok (.invokevirtual 107, 3) := by decide +kernel
theorem dX10_token_13 : decode cX10_token 13 = .ok (.bipush 32, 2) := by decide +kernel
theorem dX10_token_15 : decode cX10_token 15 = .ok (.if_icmp .ne 16, 3) := by decide +kernel
theorem dX10_token_18 : decode cX10_token 18 = .ok (.aload_n 0, 1) := by decide +kernel
theorem dX10_token_19 : decode cX10_token 19 = .ok (.dup, 1) := by decide +kernel
theorem dX10_token_20 : decode cX10_token 20 = .ok (.getfield 101, 3) := by decide +kernel
theorem dX10_token_23 : decode cX10_token 23 = .ok (.iconst 1, 1) := by decide +kernel
theorem dX10_token_24 : decode cX10_token 24 = .ok (.iadd, 1) := by decide +kernel
theorem dX10_token_25 : decode cX10_token 25 = .ok (.putfield 101, 3) := by decide +kernel
theorem dX10_token_28 : decode cX10_token 28 = .ok (.goto (-28), 3) := by decide +kernel
theorem dX10_token_31 : decode cX10_token 31 = .ok (.aload_n 0, 1) := by decide +kernel
theorem dX10_token_32 : decode cX10_token 32 = .ok (.aload_n 0, 1) := by decide +kernel
theorem dX10_token_33 : decode cX10_token 33 = .ok (.getfield 101, 3) := by decide +kernel
theorem dX10_token_36 : decode cX10_token 36 = .ok (.putfield 111, 3) := by decide +kernel
theorem dX10_token_39 : decode cX10_token 39 = .ok (.aload_n 0, 1) := by decide +kernel
theorem dX10_token_40 : decode cX10_token 40 = .ok (.invokevirtual 107, 3) := by decide +kernel
theorem dX10_token_43 : decode cX10_token 43 = .ok (.istore_n 1, 1) := by decide +kernel
theorem dX10_token_44 : decode cX10_token 44 = .ok (.aload_n 0, 1) := by decide +kernel
theorem dX10_token_45 : decode cX10_token 45 = .ok (.lconst 0, 1) := by decide +kernel
theorem dX10_token_46 : decode cX10_token 46 = .ok (.putfield 114, 3) := by decide +kernel
theorem dX10_token_49 : decode cX10_token 49 = .ok (.iconst 0, 1) := by decide +kernel
theorem dX10_token_50 : decode cX10_token 50 = .ok (.istore_n 2, 1) := by decide +kernel
theorem dX10_token_51 : decode cX10_token 51 = .ok (.iload_n 1, 1) := by decide +kernel
theorem dX10_token_52 : decode cX10_token 52 = .ok (.ifCond .ge 11, 3) := by decide +kernel
theorem dX10_token_55 : decode cX10_token 55 = .ok (.aload_n 0, 1) := by decide +kernel
theorem dX10_token_56 : decode cX10_token 56 = .ok (.iconst 0, 1) := by decide +kernel
theorem dX10_token_57 : decode cX10_token 57 = .ok (.putfield 118, 3) := by decide +kernel
theorem dX10_token_60 : decode cX10_token 60 = .ok (.goto 206, 3) := by decide +kernel
theorem dX10_token_63 : decode cX10_token 63 = .ok (.iload_n 1, 1) := by decide +kernel
theorem dX10_token_64 : decode cX10_token 64 = .ok (.bipush 97, 2) := by decide +kernel
theorem dX10_token_66 : decode cX10_token 66 = .ok (.bipush 122, 2) := by decide +kernel
theorem dX10_token_68 : decode cX10_token 68 = .ok (.invokestatic 93, 3) := by decide +kernel
theorem dX10_token_71 : decode cX10_token 71 = .ok (.ifCond .eq 76, 3) := by decide +kernel
theorem dX10_token_74 : decode cX10_token 74 = .ok (.aload_n 0, 1) := by decide +kernel
theorem dX10_token_75 : decode cX10_token 75 = .ok (.invokevirtual 107, 3) := by decide +kernel
theorem dX10_token_78 : decode cX10_token 78 = .ok (.bipush 97, 2) := by decide +kernel
theorem dX10_token_80 : decode cX10_token 80 = .ok (.bipush 122, 2) := by decide +kernel
theorem dX10_token_82 : decode cX10_token 82 = .ok (.invokestatic 93, 3) := by decide +kernel
theorem dX10_token_85 : decode cX10_token 85 = .ok (.ifCond .eq 36, 3) := by decide +kernel
theorem dX10_token_88 : decode cX10_token 88 = .ok (.aload_n 0, 1) := by decide +kernel
theorem dX10_token_89 : decode cX10_token 89 = .ok (.aload_n 0, 1) := by decide +kernel
theorem dX10_token_90 : decode cX10_token 90 = .ok (.getfield 114, 3) := by decide +kernel
theorem dX10_token_93 : decode cX10_token 93 = .ok (.bipush 8, 2) := by decide +kernel
theorem dX10_token_95 : decode cX10_token 95 = .ok (.lshl, 1) := by decide +kernel
theorem dX10_token_96 : decode cX10_token 96 = .ok (.aload_n 0, 1) := by decide +kernel
theorem dX10_token_97 : decode cX10_token 97 = .ok (.invokevirtual 107, 3) := by decide +kernel
theorem dX10_token_100 : decode cX10_token 100 = .ok (.i2l, 1) := by decide +kernel
theorem dX10_token_101 : decode cX10_token 101 = .ok (.lor, 1) := by decide +kernel
theorem dX10_token_102 : decode cX10_token 102 = .ok (.putfield 114, 3) := by decide +kernel
theorem dX10_token_105 : decode cX10_token 105 = .ok (.aload_n 0, 1) := by decide +kernel
theorem dX10_token_106 : decode cX10_token 106 = .ok (.dup, 1) := by decide +kernel
theorem dX10_token_107 : decode cX10_token 107 = .ok (.getfield 101, 3) := by decide +kernel
theorem dX10_token_110 : decode cX10_token 110 = .ok (.iconst 1, 1) := by decide +kernel
theorem dX10_token_111 : decode cX10_token 111 = .ok (.iadd, 1) := by decide +kernel
theorem dX10_token_112 : decode cX10_token 112 = .ok (.putfield 101, 3) := by decide +kernel
theorem dX10_token_115 : decode cX10_token 115 = .ok (.iinc 2 1, 3) := by decide +kernel
theorem dX10_token_118 : decode cX10_token 118 = .ok (.goto (-44), 3) := by decide +kernel
theorem dX10_token_121 : decode cX10_token 121 = .ok (.aload_n 0, 1) := by decide +kernel
theorem dX10_token_122 : decode cX10_token 122 = .ok (.iload_n 2, 1) := by decide +kernel
theorem dX10_token_123 : decode cX10_token 123 = .ok (.bipush 8, 2) := by decide +kernel
theorem dX10_token_125 : decode cX10_token 125 = .ok (.if_icmp .le 7, 3) := by decide +kernel
theorem dX10_token_128 : decode cX10_token 128 = .ok (.lconst 0, 1) := by decide +kernel
theorem dX10_token_129 : decode cX10_token 129 = .ok (.goto 7, 3) := by decide +kernel
theorem dX10_token_132 : decode cX10_token 132 = .ok (.aload_n 0, 1) := by decide +kernel
theorem dX10_token_133 : decode cX10_token 133 = .ok (.getfield 114, 3) := by decide +kernel
theorem dX10_token_136 : decode cX10_token 136 = .ok (.putfield 114, 3) := by decide +kernel
theorem dX10_token_139 : decode cX10_token 139 = .ok (.aload_n 0, 1) := by decide +kernel
theorem dX10_token_140 : decode cX10_token 140 = .ok (.iconst 2, 1) := by decide +kernel
theorem dX10_token_141 : decode cX10_token 141 = .ok (.putfield 118, 3) := by decide +kernel
theorem dX10_token_144 : decode cX10_token 144 = .ok (.goto 122, 3) := by decide +kernel
theorem dX10_token_147 : decode cX10_token 147 = .ok (.iload_n 1, 1) := by decide +kernel
theorem dX10_token_148 : decode cX10_token 148 = .ok (.bipush 48, 2) := by decide +kernel
theorem dX10_token_150 : decode cX10_token 150 = .ok (.bipush 57, 2) := by decide +kernel
theorem dX10_token_152 : decode cX10_token 152 = .ok (.invokestatic 93, 3) := by decide +kernel
theorem dX10_token_155 : decode cX10_token 155 = .ok (.ifCond .eq 86, 3) := by decide +kernel
theorem dX10_token_158 : decode cX10_token 158 = .ok (.aload_n 0, 1) := by decide +kernel
theorem dX10_token_159 : decode cX10_token 159 = .ok (.iconst 0, 1) := by decide +kernel
theorem dX10_token_160 : decode cX10_token 160 = .ok (.putfield 121, 3) := by decide +kernel
theorem dX10_token_163 : decode cX10_token 163 = .ok (.aload_n 0, 1) := by decide +kernel
theorem dX10_token_164 : decode cX10_token 164 = .ok (.invokevirtual 107, 3) := by decide +kernel
theorem dX10_token_167 : decode cX10_token 167 = .ok (.bipush 48, 2) := by decide +kernel
theorem dX10_token_169 : decode cX10_token 169 = .ok (.bipush 57, 2) := by decide +kernel
theorem dX10_token_171 : decode cX10_token 171 = .ok (.invokestatic 93, 3) := by decide +kernel
theorem dX10_token_174 : decode cX10_token 174 = .ok (.ifCond .eq 50, 3) := by decide +kernel
theorem dX10_token_177 : decode cX10_token 177 = .ok (.aload_n 0, 1) := by decide +kernel
theorem dX10_token_178 : decode cX10_token 178 = .ok (.iload_n 2, 1) := by decide +kernel
theorem dX10_token_179 : decode cX10_token 179 = .ok (.iconst 2, 1) := by decide +kernel
theorem dX10_token_180 : decode cX10_token 180 = .ok (.if_icmp .ge 21, 3) := by decide +kernel
theorem dX10_token_183 : decode cX10_token 183 = .ok (.bipush 10, 2) := by decide +kernel
theorem dX10_token_185 : decode cX10_token 185 = .ok (.aload_n 0, 1) := by decide +kernel
theorem dX10_token_186 : decode cX10_token 186 = .ok (.getfield 121, 3) := by decide +kernel
theorem dX10_token_189 : decode cX10_token 189 = .ok (.imul, 1) := by decide +kernel
theorem dX10_token_190 : decode cX10_token 190 = .ok (.aload_n 0, 1) := by decide +kernel
theorem dX10_token_191 : decode cX10_token 191 = .ok (.invokevirtual 107, 3) := by decide +kernel
theorem dX10_token_194 : decode cX10_token 194 = .ok (.iadd, 1) := by decide +kernel
theorem dX10_token_195 : decode cX10_token 195 = .ok (.bipush 48, 2) := by decide +kernel
theorem dX10_token_197 : decode cX10_token 197 = .ok (.isub, 1) := by decide +kernel
theorem dX10_token_198 : decode cX10_token 198 = .ok (.goto 7, 3) := by decide +kernel
theorem dX10_token_201 : decode cX10_token 201 = .ok (.aload_n 0, 1) := by decide +kernel
theorem dX10_token_202 : decode cX10_token 202 = .ok (.getfield 121, 3) := by decide +kernel
theorem dX10_token_205 : decode cX10_token 205 = .ok (.putfield 121, 3) := by decide +kernel
theorem dX10_token_208 : decode cX10_token 208 = .ok (.aload_n 0, 1) := by decide +kernel
theorem dX10_token_209 : decode cX10_token 209 = .ok (.dup, 1) := by decide +kernel
theorem dX10_token_210 : decode cX10_token 210 = .ok (.getfield 101, 3) := by decide +kernel
theorem dX10_token_213 : decode cX10_token 213 = .ok (.iconst 1, 1) := by decide +kernel
theorem dX10_token_214 : decode cX10_token 214 = .ok (.iadd, 1) := by decide +kernel
theorem dX10_token_215 : decode cX10_token 215 = .ok (.putfield 101, 3) := by decide +kernel
theorem dX10_token_218 : decode cX10_token 218 = .ok (.iinc 2 1, 3) := by decide +kernel
theorem dX10_token_221 : decode cX10_token 221 = .ok (.goto (-58), 3) := by decide +kernel
theorem dX10_token_224 : decode cX10_token 224 = .ok (.aload_n 0, 1) := by decide +kernel
theorem dX10_token_225 : decode cX10_token 225 = .ok (.iload_n 2, 1) := by decide +kernel
theorem dX10_token_226 : decode cX10_token 226 = .ok (.iconst 2, 1) := by decide +kernel
theorem dX10_token_227 : decode cX10_token 227 = .ok (.if_icmp .le 7, 3) := by decide +kernel
theorem dX10_token_230 : decode cX10_token 230 = .ok (.iconst 1, 1) := by decide +kernel
theorem dX10_token_231 : decode cX10_token 231 = .ok (.goto 4, 3) := by decide +kernel
theorem dX10_token_234 : decode cX10_token 234 = .ok (.iconst 3, 1) := by decide +kernel
theorem dX10_token_235 : decode cX10_token 235 = .ok (.putfield 118, 3) := by decide +kernel
theorem dX10_token_238 : decode cX10_token 238 = .ok (.goto 28, 3) := by decide +kernel
theorem dX10_token_241 : decode cX10_token 241 = .ok (.aload_n 0, 1) := by decide +kernel
theorem dX10_token_242 : decode cX10_token 242 = .ok (.dup, 1) := by decide +kernel
theorem dX10_token_243 : decode cX10_token 243 = .ok (.getfield 101, 3) := by decide +kernel
theorem dX10_token_246 : decode cX10_token 246 = .ok (.iconst 1, 1) := by decide +kernel
theorem dX10_token_247 : decode cX10_token 247 = .ok (.iadd, 1) := by decide +kernel
theorem dX10_token_248 : decode cX10_token 248 = .ok (.putfield 101, 3) := by decide +kernel
theorem dX10_token_251 : decode cX10_token 251 = .ok (.aload_n 0, 1) := by decide +kernel
theorem dX10_token_252 : decode cX10_token 252 = .ok (.iload_n 1, 1) := by decide +kernel
theorem dX10_token_253 : decode cX10_token 253 = .ok (.bipush 59, 2) := by decide +kernel
theorem dX10_token_255 : decode cX10_token 255 = .ok (.if_icmp .ne 7, 3) := by decide +kernel
theorem dX10_token_258 : decode cX10_token 258 = .ok (.iconst 4, 1) := by decide +kernel
theorem dX10_token_259 : decode cX10_token 259 = .ok (.goto 4, 3) := by decide +kernel
theorem dX10_token_262 : decode cX10_token 262 = .ok (.iconst 1, 1) := by decide +kernel
theorem dX10_token_263 : decode cX10_token 263 = .ok (.putfield 118, 3) := by decide +kernel
theorem dX10_token_266 : decode cX10_token 266 = .ok (.return_, 1) := by decide +kernel
abbrev rmX10_token : Room := { frames := 1, cells := 0, slots := 0, locals := 22 }
def bX10_token_205 (k163 : Nat → Int32 → AH → Option AH) (a0 : Nat) (l2 : Int32) (s0 : Nat) (s1 : Int32) (z : AH) : Option AH :=
  (pF 9 14 z s0 (.int s1)).bind fun z205 =>
  (gI 9 10 z205 a0).bind fun x210 =>
  (pF 9 10 z205 a0 (.int (x210 + (1 : Int32)))).bind fun z215 =>
  nm (l2 + (1 : Int32)) fun v218 =>
  k163 a0 v218 z215
set_option maxHeartbeats 4000000 in
set_option maxRecDepth 100000 in
theorem kbX10_token_205 {p : Program} {l : Launch} {e : Env} {s : State} {m : MethodId} {args : Array Value} {below : List Frame} {meth : Method} {c : Code} {G : GW} {z' : AH} (C : Cx p m c cX10_token 3 s args RX10 G) (hlk : meth.locks = false) (hr : meth.sig.returnType = none) (k163 : Nat → Int32 → AH → Option AH) (hk163 : ∀ (a0 : Nat) (l2 : Int32) (z : AH) (H : Heap) (locs : List Loc) (ls : Array Slot), k163 a0 l2 z = some z' → Wb G z s H locs → lv_has ls 3 [(0, .ref (gB G + a0)), (2, .int l2)] → W p l e rmX10_token s m args below meth c H locs 0 0 (MQ below (Qv G z') args s 0 0 (AA G)) (F0 m 163 ls [])) (a0 : Nat) (l2 : Int32) (s0 : Nat) (s1 : Int32) {z : AH} {H : Heap} {locs : List Loc} {ls : Array Slot} (h : bX10_token_205 k163 a0 l2 s0 s1 z = some z') (hW : Wb G z s H locs) (hl : lv_has ls 3 [(0, .ref (gB G + a0)), (2, .int l2)]) : W p l e rmX10_token s m args below meth c H locs 0 0 (MQ below (Qv G z') args s 0 0 (AA G)) (F0 m 205 ls [.int s1, .ref (gB G + s0)]) := by
  have hx := C.1
  have hb := C.2.1
  unfold bX10_token_205 at h
  obtain ⟨z205, hg, h⟩ := ob h
  refine wz_put (v := (.int s1)) C hW flX10_121 rfl rfl hg dX10_token_205 (fun H locs hW => ?_)
  refine lv_aload_n hx hb dX10_token_208 rfl (lv_at hl 0 rfl) ?_
  refine lv_dup hx hb dX10_token_209 rfl ?_
  obtain ⟨x210, hg, h⟩ := ob h
  refine wz_gI C hW flX10_101 hg dX10_token_210 ?_
  refine lv_iconst (v := 1) hx hb dX10_token_213 (by decide) ?_
  refine lv_iadd hx hb dX10_token_214 ?_
  obtain ⟨z215, hg, h⟩ := ob h
  refine wz_put (v := (.int (x210 + (1 : Int32)))) C hW flX10_101 rfl rfl hg dX10_token_215 (fun H locs hW => ?_)
  obtain ⟨v218, ev218⟩ : ∃ y : Int32, y = (l2 + (1 : Int32)) := ⟨_, rfl⟩
  have h := nm_to h ev218
  refine lv_iinc (v := v218) (lv' := [(2, .int v218), (0, .ref (gB G + a0))]) hx hb dX10_token_218 hl (k := 1) rfl (by rw [ev218]; rfl) (by decide) rfl (fun ls hl => ?_)
  refine lv_goto (tgt := 163) hx hb dX10_token_221 (by decide) ?_
  exact hk163 a0 v218 z215 _ _ _ h hW (lv_sub hl [1, 0] rfl)
def bX10_token_163 (k163 : Nat → Int32 → AH → Option AH) (a0 : Nat) (l2 : Int32) (z : AH) : Option AH :=
  (fX10_see a0 z).bind fun x164 =>
  if (fX10_in x164 (48 : Int32) (57 : Int32)) = (0 : Int32) then (
    if l2 ≤ (2 : Int32) then (
      (pF 9 13 z a0 (.int (3 : Int32))).bind fun z235 =>
      some z235
    ) else (
      (pF 9 13 z a0 (.int (1 : Int32))).bind fun z235 =>
      some z235
    )
  ) else (
    if (2 : Int32) ≤ l2 then (
      (gI 9 14 z a0).bind fun x202 =>
      bX10_token_205 k163 a0 l2 a0 x202 z
    ) else (
      (gI 9 14 z a0).bind fun x186 =>
      (fX10_see a0 z).bind fun x191 =>
      bX10_token_205 k163 a0 l2 a0 ((((10 : Int32) * x186) + x191) - (48 : Int32)) z
    )
  )
set_option maxHeartbeats 4000000 in
set_option maxRecDepth 100000 in
theorem kbX10_token_163 {p : Program} {l : Launch} {e : Env} {s : State} {m : MethodId} {args : Array Value} {below : List Frame} {meth : Method} {c : Code} {G : GW} {z' : AH} (C : Cx p m c cX10_token 3 s args RX10 G) (hlk : meth.locks = false) (hr : meth.sig.returnType = none) (k163 : Nat → Int32 → AH → Option AH) (hk163 : ∀ (a0 : Nat) (l2 : Int32) (z : AH) (H : Heap) (locs : List Loc) (ls : Array Slot), k163 a0 l2 z = some z' → Wb G z s H locs → lv_has ls 3 [(0, .ref (gB G + a0)), (2, .int l2)] → W p l e rmX10_token s m args below meth c H locs 0 0 (MQ below (Qv G z') args s 0 0 (AA G)) (F0 m 163 ls [])) (a0 : Nat) (l2 : Int32) {z : AH} {H : Heap} {locs : List Loc} {ls : Array Slot} (h : bX10_token_163 k163 a0 l2 z = some z') (hW : Wb G z s H locs) (hl : lv_has ls 3 [(0, .ref (gB G + a0)), (2, .int l2)]) : W p l e rmX10_token s m args below meth c H locs 0 0 (MQ below (Qv G z') args s 0 0 (AA G)) (F0 m 163 ls []) := by
  have hx := C.1
  have hb := C.2.1
  unfold bX10_token_163 at h
  refine lv_aload_n hx hb dX10_token_163 rfl (lv_at hl 0 rfl) ?_
  obtain ⟨x164, hq, h⟩ := ob h
  refine wz_rI (c' := 0) (s' := 0) hW (wz_runV (rest := []) C hW lVX10_107 (ck hq).1 rfl (ctX10_see l G a0 z hq) ⟨⟨rfl, rfl⟩, Nat.le_of_ble_eq_true rfl, Nat.le_of_ble_eq_true rfl⟩ rfl hl.1 rfl (Nat.le_of_ble_eq_true rfl) dX10_token_164 ⟨Nat.le_of_ble_eq_true rfl, Nat.le_of_ble_eq_true rfl⟩) rfl rfl (fun H locs hW => ?_)
  refine lv_bipush (v := 48) hx hb dX10_token_167 (by decide) ?_
  refine lv_bipush (v := 57) hx hb dX10_token_169 (by decide) ?_
  refine wz_rI (c' := 0) (s' := 0) hW (wz_runS (rest := []) C hW lTX10_93 (ctX10_in l G x164 (48 : Int32) (57 : Int32) z rfl) ⟨⟨rfl, rfl⟩, Nat.le_of_ble_eq_true rfl, Nat.le_of_ble_eq_true rfl⟩ rfl hl.1 rfl (Nat.le_of_ble_eq_true rfl) dX10_token_171 ⟨Nat.le_of_ble_eq_true rfl, Nat.le_of_ble_eq_true rfl⟩) rfl rfl (fun H locs hW => ?_)
  refine lv_if_eq (tgt := 224) hx hb dX10_token_174 (by decide) (fun c174 => ?_) (fun c174 => ?_)
  · have h := ite_t c174 h
    refine lv_aload_n hx hb dX10_token_224 rfl (lv_at hl 0 rfl) ?_
    refine lv_iload_n hx hb dX10_token_225 rfl (lv_at hl 1 rfl) ?_
    refine lv_iconst (v := 2) hx hb dX10_token_226 (by decide) ?_
    refine lv_icmp_le (tgt := 234) hx hb dX10_token_227 (by decide) (fun c227 => ?_) (fun c227 => ?_)
    · have h := ite_t c227 h
      refine lv_iconst (v := 3) hx hb dX10_token_234 (by decide) ?_
      obtain ⟨z235, hg, h⟩ := ob h
      refine wz_put (v := (.int (3 : Int32))) C hW flX10_118 rfl rfl hg dX10_token_235 (fun H locs hW => ?_)
      refine lv_goto (tgt := 266) hx hb dX10_token_238 (by decide) ?_
      exact wz_vretE C hlk hr (Option.some.inj h) hW dX10_token_266
    · have h := ite_f c227 h
      refine lv_iconst (v := 1) hx hb dX10_token_230 (by decide) ?_
      refine lv_goto (tgt := 235) hx hb dX10_token_231 (by decide) ?_
      obtain ⟨z235, hg, h⟩ := ob h
      refine wz_put (v := (.int (1 : Int32))) C hW flX10_118 rfl rfl hg dX10_token_235 (fun H locs hW => ?_)
      refine lv_goto (tgt := 266) hx hb dX10_token_238 (by decide) ?_
      exact wz_vretE C hlk hr (Option.some.inj h) hW dX10_token_266
  · have h := ite_f c174 h
    refine lv_aload_n hx hb dX10_token_177 rfl (lv_at hl 0 rfl) ?_
    refine lv_iload_n hx hb dX10_token_178 rfl (lv_at hl 1 rfl) ?_
    refine lv_iconst (v := 2) hx hb dX10_token_179 (by decide) ?_
    refine lv_icmp_ge (tgt := 201) hx hb dX10_token_180 (by decide) (fun c180 => ?_) (fun c180 => ?_)
    · have h := ite_t c180 h
      refine lv_aload_n hx hb dX10_token_201 rfl (lv_at hl 0 rfl) ?_
      obtain ⟨x202, hg, h⟩ := ob h
      refine wz_gI C hW flX10_121 hg dX10_token_202 ?_
      exact kbX10_token_205 C hlk hr k163 hk163 a0 l2 a0 x202 h hW (lv_sub hl [0, 1] rfl)
    · have h := ite_f c180 h
      refine lv_bipush (v := 10) hx hb dX10_token_183 (by decide) ?_
      refine lv_aload_n hx hb dX10_token_185 rfl (lv_at hl 0 rfl) ?_
      obtain ⟨x186, hg, h⟩ := ob h
      refine wz_gI C hW flX10_121 hg dX10_token_186 ?_
      refine lv_imul hx hb dX10_token_189 ?_
      refine lv_aload_n hx hb dX10_token_190 rfl (lv_at hl 0 rfl) ?_
      obtain ⟨x191, hq, h⟩ := ob h
      refine wz_rI (c' := 0) (s' := 0) hW (wz_runV (rest := [.int ((10 : Int32) * x186), .ref (gB G + a0)]) C hW lVX10_107 (ck hq).1 rfl (ctX10_see l G a0 z hq) ⟨⟨rfl, rfl⟩, Nat.le_of_ble_eq_true rfl, Nat.le_of_ble_eq_true rfl⟩ rfl hl.1 rfl (Nat.le_of_ble_eq_true rfl) dX10_token_191 ⟨Nat.le_of_ble_eq_true rfl, Nat.le_of_ble_eq_true rfl⟩) rfl rfl (fun H locs hW => ?_)
      refine lv_iadd hx hb dX10_token_194 ?_
      refine lv_bipush (v := 48) hx hb dX10_token_195 (by decide) ?_
      refine lv_isub hx hb dX10_token_197 ?_
      refine lv_goto (tgt := 205) hx hb dX10_token_198 (by decide) ?_
      exact kbX10_token_205 C hlk hr k163 hk163 a0 l2 a0 ((((10 : Int32) * x186) + x191) - (48 : Int32)) h hW (lv_sub hl [0, 1] rfl)
def fX10_token_163 : Nat → Nat → Int32 → AH → Option AH
  | 0, _, _, _ => none
  | n + 1, a0, l2, z => bX10_token_163 (fX10_token_163 n) a0 l2 z
theorem klX10_token_163 {p : Program} {l : Launch} {e : Env} {s : State} {m : MethodId} {args : Array Value} {below : List Frame} {meth : Method} {c : Code} {G : GW} {z' : AH} (C : Cx p m c cX10_token 3 s args RX10 G) (hlk : meth.locks = false) (hr : meth.sig.returnType = none) : ∀ (n : Nat) (a0 : Nat) (l2 : Int32) (z : AH) (H : Heap) (locs : List Loc) (ls : Array Slot), fX10_token_163 n a0 l2 z = some z' → Wb G z s H locs → lv_has ls 3 [(0, .ref (gB G + a0)), (2, .int l2)] → W p l e rmX10_token s m args below meth c H locs 0 0 (MQ below (Qv G z') args s 0 0 (AA G)) (F0 m 163 ls []) := by
  intro n
  induction n with
  | zero => intro a0 l2 z H locs ls h; have h : (none : Option AH) = some z' := h; cases h
  | succ n ih => intro a0 l2 z H locs ls h hW hl; exact kbX10_token_163 C hlk hr (fX10_token_163 n) (fun a0 l2 z H locs ls h hW hl => ih a0 l2 z H locs ls h hW hl) a0 l2 h hW hl
def bX10_token_74 (k74 : Nat → Int32 → AH → Option AH) (a0 : Nat) (l2 : Int32) (z : AH) : Option AH :=
  (fX10_see a0 z).bind fun x75 =>
  if (fX10_in x75 (97 : Int32) (122 : Int32)) = (0 : Int32) then (
    if l2 ≤ (8 : Int32) then (
      (gJ 9 15 z a0).bind fun x133 =>
      (pF 9 15 z a0 (.long x133)).bind fun z136 =>
      (pF 9 13 z136 a0 (.int (2 : Int32))).bind fun z141 =>
      some z141
    ) else (
      (pF 9 15 z a0 (.long (0 : Int64))).bind fun z136 =>
      (pF 9 13 z136 a0 (.int (2 : Int32))).bind fun z141 =>
      some z141
    )
  ) else (
    (gJ 9 15 z a0).bind fun x90 =>
    (fX10_see a0 z).bind fun x97 =>
    (pF 9 15 z a0 (.long ((lshl x90 (8 : Int32)) ||| (Int32.toInt64 x97)))).bind fun z102 =>
    (gI 9 10 z102 a0).bind fun x107 =>
    (pF 9 10 z102 a0 (.int (x107 + (1 : Int32)))).bind fun z112 =>
    nm (l2 + (1 : Int32)) fun v115 =>
    k74 a0 v115 z112
  )
set_option maxHeartbeats 4000000 in
set_option maxRecDepth 100000 in
theorem kbX10_token_74 {p : Program} {l : Launch} {e : Env} {s : State} {m : MethodId} {args : Array Value} {below : List Frame} {meth : Method} {c : Code} {G : GW} {z' : AH} (C : Cx p m c cX10_token 3 s args RX10 G) (hlk : meth.locks = false) (hr : meth.sig.returnType = none) (k74 : Nat → Int32 → AH → Option AH) (hk74 : ∀ (a0 : Nat) (l2 : Int32) (z : AH) (H : Heap) (locs : List Loc) (ls : Array Slot), k74 a0 l2 z = some z' → Wb G z s H locs → lv_has ls 3 [(0, .ref (gB G + a0)), (2, .int l2)] → W p l e rmX10_token s m args below meth c H locs 0 0 (MQ below (Qv G z') args s 0 0 (AA G)) (F0 m 74 ls [])) (a0 : Nat) (l2 : Int32) {z : AH} {H : Heap} {locs : List Loc} {ls : Array Slot} (h : bX10_token_74 k74 a0 l2 z = some z') (hW : Wb G z s H locs) (hl : lv_has ls 3 [(0, .ref (gB G + a0)), (2, .int l2)]) : W p l e rmX10_token s m args below meth c H locs 0 0 (MQ below (Qv G z') args s 0 0 (AA G)) (F0 m 74 ls []) := by
  have hx := C.1
  have hb := C.2.1
  unfold bX10_token_74 at h
  refine lv_aload_n hx hb dX10_token_74 rfl (lv_at hl 0 rfl) ?_
  obtain ⟨x75, hq, h⟩ := ob h
  refine wz_rI (c' := 0) (s' := 0) hW (wz_runV (rest := []) C hW lVX10_107 (ck hq).1 rfl (ctX10_see l G a0 z hq) ⟨⟨rfl, rfl⟩, Nat.le_of_ble_eq_true rfl, Nat.le_of_ble_eq_true rfl⟩ rfl hl.1 rfl (Nat.le_of_ble_eq_true rfl) dX10_token_75 ⟨Nat.le_of_ble_eq_true rfl, Nat.le_of_ble_eq_true rfl⟩) rfl rfl (fun H locs hW => ?_)
  refine lv_bipush (v := 97) hx hb dX10_token_78 (by decide) ?_
  refine lv_bipush (v := 122) hx hb dX10_token_80 (by decide) ?_
  refine wz_rI (c' := 0) (s' := 0) hW (wz_runS (rest := []) C hW lTX10_93 (ctX10_in l G x75 (97 : Int32) (122 : Int32) z rfl) ⟨⟨rfl, rfl⟩, Nat.le_of_ble_eq_true rfl, Nat.le_of_ble_eq_true rfl⟩ rfl hl.1 rfl (Nat.le_of_ble_eq_true rfl) dX10_token_82 ⟨Nat.le_of_ble_eq_true rfl, Nat.le_of_ble_eq_true rfl⟩) rfl rfl (fun H locs hW => ?_)
  refine lv_if_eq (tgt := 121) hx hb dX10_token_85 (by decide) (fun c85 => ?_) (fun c85 => ?_)
  · have h := ite_t c85 h
    refine lv_aload_n hx hb dX10_token_121 rfl (lv_at hl 0 rfl) ?_
    refine lv_iload_n hx hb dX10_token_122 rfl (lv_at hl 1 rfl) ?_
    refine lv_bipush (v := 8) hx hb dX10_token_123 (by decide) ?_
    refine lv_icmp_le (tgt := 132) hx hb dX10_token_125 (by decide) (fun c125 => ?_) (fun c125 => ?_)
    · have h := ite_t c125 h
      refine lv_aload_n hx hb dX10_token_132 rfl (lv_at hl 0 rfl) ?_
      obtain ⟨x133, hg, h⟩ := ob h
      refine wz_gJ C hW flX10_114 hg dX10_token_133 ?_
      obtain ⟨z136, hg, h⟩ := ob h
      refine wz_put (v := (.long x133)) C hW flX10_114 rfl rfl hg dX10_token_136 (fun H locs hW => ?_)
      refine lv_aload_n hx hb dX10_token_139 rfl (lv_at hl 0 rfl) ?_
      refine lv_iconst (v := 2) hx hb dX10_token_140 (by decide) ?_
      obtain ⟨z141, hg, h⟩ := ob h
      refine wz_put (v := (.int (2 : Int32))) C hW flX10_118 rfl rfl hg dX10_token_141 (fun H locs hW => ?_)
      refine lv_goto (tgt := 266) hx hb dX10_token_144 (by decide) ?_
      exact wz_vretE C hlk hr (Option.some.inj h) hW dX10_token_266
    · have h := ite_f c125 h
      refine lv_lconst (v := 0) hx hb dX10_token_128 (by decide) ?_
      refine lv_goto (tgt := 136) hx hb dX10_token_129 (by decide) ?_
      obtain ⟨z136, hg, h⟩ := ob h
      refine wz_put (v := (.long (0 : Int64))) C hW flX10_114 rfl rfl hg dX10_token_136 (fun H locs hW => ?_)
      refine lv_aload_n hx hb dX10_token_139 rfl (lv_at hl 0 rfl) ?_
      refine lv_iconst (v := 2) hx hb dX10_token_140 (by decide) ?_
      obtain ⟨z141, hg, h⟩ := ob h
      refine wz_put (v := (.int (2 : Int32))) C hW flX10_118 rfl rfl hg dX10_token_141 (fun H locs hW => ?_)
      refine lv_goto (tgt := 266) hx hb dX10_token_144 (by decide) ?_
      exact wz_vretE C hlk hr (Option.some.inj h) hW dX10_token_266
  · have h := ite_f c85 h
    refine lv_aload_n hx hb dX10_token_88 rfl (lv_at hl 0 rfl) ?_
    refine lv_aload_n hx hb dX10_token_89 rfl (lv_at hl 0 rfl) ?_
    obtain ⟨x90, hg, h⟩ := ob h
    refine wz_gJ C hW flX10_114 hg dX10_token_90 ?_
    refine lv_bipush (v := 8) hx hb dX10_token_93 (by decide) ?_
    refine wz_lshl hx hb dX10_token_95 ?_
    refine lv_aload_n hx hb dX10_token_96 rfl (lv_at hl 0 rfl) ?_
    obtain ⟨x97, hq, h⟩ := ob h
    refine wz_rI (c' := 0) (s' := 0) hW (wz_runV (rest := [.long (lshl x90 (8 : Int32)), .ref (gB G + a0)]) C hW lVX10_107 (ck hq).1 rfl (ctX10_see l G a0 z hq) ⟨⟨rfl, rfl⟩, Nat.le_of_ble_eq_true rfl, Nat.le_of_ble_eq_true rfl⟩ rfl hl.1 rfl (Nat.le_of_ble_eq_true rfl) dX10_token_97 ⟨Nat.le_of_ble_eq_true rfl, Nat.le_of_ble_eq_true rfl⟩) rfl rfl (fun H locs hW => ?_)
    refine lv_i2l hx hb dX10_token_100 rfl ?_
    refine lv_lor hx hb dX10_token_101 ?_
    obtain ⟨z102, hg, h⟩ := ob h
    refine wz_put (v := (.long ((lshl x90 (8 : Int32)) ||| (Int32.toInt64 x97)))) C hW flX10_114 rfl rfl hg dX10_token_102 (fun H locs hW => ?_)
    refine lv_aload_n hx hb dX10_token_105 rfl (lv_at hl 0 rfl) ?_
    refine lv_dup hx hb dX10_token_106 rfl ?_
    obtain ⟨x107, hg, h⟩ := ob h
    refine wz_gI C hW flX10_101 hg dX10_token_107 ?_
    refine lv_iconst (v := 1) hx hb dX10_token_110 (by decide) ?_
    refine lv_iadd hx hb dX10_token_111 ?_
    obtain ⟨z112, hg, h⟩ := ob h
    refine wz_put (v := (.int (x107 + (1 : Int32)))) C hW flX10_101 rfl rfl hg dX10_token_112 (fun H locs hW => ?_)
    obtain ⟨v115, ev115⟩ : ∃ y : Int32, y = (l2 + (1 : Int32)) := ⟨_, rfl⟩
    have h := nm_to h ev115
    refine lv_iinc (v := v115) (lv' := [(2, .int v115), (0, .ref (gB G + a0))]) hx hb dX10_token_115 hl (k := 1) rfl (by rw [ev115]; rfl) (by decide) rfl (fun ls hl => ?_)
    refine lv_goto (tgt := 74) hx hb dX10_token_118 (by decide) ?_
    exact hk74 a0 v115 z112 _ _ _ h hW (lv_sub hl [1, 0] rfl)
def fX10_token_74 : Nat → Nat → Int32 → AH → Option AH
  | 0, _, _, _ => none
  | n + 1, a0, l2, z => bX10_token_74 (fX10_token_74 n) a0 l2 z
theorem klX10_token_74 {p : Program} {l : Launch} {e : Env} {s : State} {m : MethodId} {args : Array Value} {below : List Frame} {meth : Method} {c : Code} {G : GW} {z' : AH} (C : Cx p m c cX10_token 3 s args RX10 G) (hlk : meth.locks = false) (hr : meth.sig.returnType = none) : ∀ (n : Nat) (a0 : Nat) (l2 : Int32) (z : AH) (H : Heap) (locs : List Loc) (ls : Array Slot), fX10_token_74 n a0 l2 z = some z' → Wb G z s H locs → lv_has ls 3 [(0, .ref (gB G + a0)), (2, .int l2)] → W p l e rmX10_token s m args below meth c H locs 0 0 (MQ below (Qv G z') args s 0 0 (AA G)) (F0 m 74 ls []) := by
  intro n
  induction n with
  | zero => intro a0 l2 z H locs ls h; have h : (none : Option AH) = some z' := h; cases h
  | succ n ih => intro a0 l2 z H locs ls h hW hl; exact kbX10_token_74 C hlk hr (fX10_token_74 n) (fun a0 l2 z H locs ls h hW hl => ih a0 l2 z H locs ls h hW hl) a0 l2 h hW hl
def bX10_token_0 (k0 : Nat → AH → Option AH) (a0 : Nat) (z : AH) : Option AH :=
  (fX10_see a0 z).bind fun x1 =>
  if x1 = (10 : Int32) then (
    (gI 9 10 z a0).bind fun x20 =>
    (pF 9 10 z a0 (.int (x20 + (1 : Int32)))).bind fun z25 =>
    k0 a0 z25
  ) else (
    (fX10_see a0 z).bind fun x10 =>
    if x10 = (32 : Int32) then (
      (gI 9 10 z a0).bind fun x20 =>
      (pF 9 10 z a0 (.int (x20 + (1 : Int32)))).bind fun z25 =>
      k0 a0 z25
    ) else (
      (gI 9 10 z a0).bind fun x33 =>
      (pF 9 12 z a0 (.int x33)).bind fun z36 =>
      (fX10_see a0 z36).bind fun x40 =>
      (pF 9 15 z36 a0 (.long (0 : Int64))).bind fun z46 =>
      if (0 : Int32) ≤ x40 then (
        if (fX10_in x40 (97 : Int32) (122 : Int32)) = (0 : Int32) then (
          if (fX10_in x40 (48 : Int32) (57 : Int32)) = (0 : Int32) then (
            (gI 9 10 z46 a0).bind fun x243 =>
            (pF 9 10 z46 a0 (.int (x243 + (1 : Int32)))).bind fun z248 =>
            if x40 = (59 : Int32) then (
              (pF 9 13 z248 a0 (.int (4 : Int32))).bind fun z263 =>
              some z263
            ) else (
              (pF 9 13 z248 a0 (.int (1 : Int32))).bind fun z263 =>
              some z263
            )
          ) else (
            (pF 9 14 z46 a0 (.int (0 : Int32))).bind fun z160 =>
            fX10_token_163 FU a0 (0 : Int32) z160
          )
        ) else (
          fX10_token_74 FU a0 (0 : Int32) z46
        )
      ) else (
        (pF 9 13 z46 a0 (.int (0 : Int32))).bind fun z57 =>
        some z57
      )
    )
  )
set_option maxHeartbeats 4000000 in
set_option maxRecDepth 100000 in
theorem kbX10_token_0 {p : Program} {l : Launch} {e : Env} {s : State} {m : MethodId} {args : Array Value} {below : List Frame} {meth : Method} {c : Code} {G : GW} {z' : AH} (C : Cx p m c cX10_token 3 s args RX10 G) (hlk : meth.locks = false) (hr : meth.sig.returnType = none) (k0 : Nat → AH → Option AH) (hk0 : ∀ (a0 : Nat) (z : AH) (H : Heap) (locs : List Loc) (ls : Array Slot), k0 a0 z = some z' → Wb G z s H locs → lv_has ls 3 [(0, .ref (gB G + a0))] → W p l e rmX10_token s m args below meth c H locs 0 0 (MQ below (Qv G z') args s 0 0 (AA G)) (F0 m 0 ls [])) (a0 : Nat) {z : AH} {H : Heap} {locs : List Loc} {ls : Array Slot} (h : bX10_token_0 k0 a0 z = some z') (hW : Wb G z s H locs) (hl : lv_has ls 3 [(0, .ref (gB G + a0))]) : W p l e rmX10_token s m args below meth c H locs 0 0 (MQ below (Qv G z') args s 0 0 (AA G)) (F0 m 0 ls []) := by
  have hx := C.1
  have hb := C.2.1
  unfold bX10_token_0 at h
  refine lv_aload_n hx hb dX10_token_0 rfl (lv_at hl 0 rfl) ?_
  obtain ⟨x1, hq, h⟩ := ob h
  refine wz_rI (c' := 0) (s' := 0) hW (wz_runV (rest := []) C hW lVX10_107 (ck hq).1 rfl (ctX10_see l G a0 z hq) ⟨⟨rfl, rfl⟩, Nat.le_of_ble_eq_true rfl, Nat.le_of_ble_eq_true rfl⟩ rfl hl.1 rfl (Nat.le_of_ble_eq_true rfl) dX10_token_1 ⟨Nat.le_of_ble_eq_true rfl, Nat.le_of_ble_eq_true rfl⟩) rfl rfl (fun H locs hW => ?_)
  refine lv_bipush (v := 10) hx hb dX10_token_4 (by decide) ?_
  refine lv_icmp_eq (tgt := 18) hx hb dX10_token_6 (by decide) (fun c6 => ?_) (fun c6 => ?_)
  · have h := ite_t c6 h
    refine lv_aload_n hx hb dX10_token_18 rfl (lv_at hl 0 rfl) ?_
    refine lv_dup hx hb dX10_token_19 rfl ?_
    obtain ⟨x20, hg, h⟩ := ob h
    refine wz_gI C hW flX10_101 hg dX10_token_20 ?_
    refine lv_iconst (v := 1) hx hb dX10_token_23 (by decide) ?_
    refine lv_iadd hx hb dX10_token_24 ?_
    obtain ⟨z25, hg, h⟩ := ob h
    refine wz_put (v := (.int (x20 + (1 : Int32)))) C hW flX10_101 rfl rfl hg dX10_token_25 (fun H locs hW => ?_)
    refine lv_goto (tgt := 0) hx hb dX10_token_28 (by decide) ?_
    exact hk0 a0 z25 _ _ _ h hW (lv_sub hl [0] rfl)
  · have h := ite_f c6 h
    refine lv_aload_n hx hb dX10_token_9 rfl (lv_at hl 0 rfl) ?_
    obtain ⟨x10, hq, h⟩ := ob h
    refine wz_rI (c' := 0) (s' := 0) hW (wz_runV (rest := []) C hW lVX10_107 (ck hq).1 rfl (ctX10_see l G a0 z hq) ⟨⟨rfl, rfl⟩, Nat.le_of_ble_eq_true rfl, Nat.le_of_ble_eq_true rfl⟩ rfl hl.1 rfl (Nat.le_of_ble_eq_true rfl) dX10_token_10 ⟨Nat.le_of_ble_eq_true rfl, Nat.le_of_ble_eq_true rfl⟩) rfl rfl (fun H locs hW => ?_)
    refine lv_bipush (v := 32) hx hb dX10_token_13 (by decide) ?_
    refine lv_icmp_ne (tgt := 31) hx hb dX10_token_15 (by decide) (fun c15 => ?_) (fun c15 => ?_)
    · have h := ite_f c15 h
      refine lv_aload_n hx hb dX10_token_31 rfl (lv_at hl 0 rfl) ?_
      refine lv_aload_n hx hb dX10_token_32 rfl (lv_at hl 0 rfl) ?_
      obtain ⟨x33, hg, h⟩ := ob h
      refine wz_gI C hW flX10_101 hg dX10_token_33 ?_
      obtain ⟨z36, hg, h⟩ := ob h
      refine wz_put (v := (.int x33)) C hW flX10_111 rfl rfl hg dX10_token_36 (fun H locs hW => ?_)
      refine lv_aload_n hx hb dX10_token_39 rfl (lv_at hl 0 rfl) ?_
      obtain ⟨x40, hq, h⟩ := ob h
      refine wz_rI (c' := 0) (s' := 0) hW (wz_runV (rest := []) C hW lVX10_107 (ck hq).1 rfl (ctX10_see l G a0 z36 hq) ⟨⟨rfl, rfl⟩, Nat.le_of_ble_eq_true rfl, Nat.le_of_ble_eq_true rfl⟩ rfl hl.1 rfl (Nat.le_of_ble_eq_true rfl) dX10_token_40 ⟨Nat.le_of_ble_eq_true rfl, Nat.le_of_ble_eq_true rfl⟩) rfl rfl (fun H locs hW => ?_)
      refine lv_istore_n (lv' := [(1, .int x40), (0, .ref (gB G + a0))]) hx hb dX10_token_43 rfl hl (by decide) rfl (fun ls hl => ?_)
      refine lv_aload_n hx hb dX10_token_44 rfl (lv_at hl 1 rfl) ?_
      refine lv_lconst (v := 0) hx hb dX10_token_45 (by decide) ?_
      obtain ⟨z46, hg, h⟩ := ob h
      refine wz_put (v := (.long (0 : Int64))) C hW flX10_114 rfl rfl hg dX10_token_46 (fun H locs hW => ?_)
      refine lv_iconst (v := 0) hx hb dX10_token_49 (by decide) ?_
      refine lv_istore_n (lv' := [(2, .int (0 : Int32)), (1, .int x40), (0, .ref (gB G + a0))]) hx hb dX10_token_50 rfl hl (by decide) rfl (fun ls hl => ?_)
      refine lv_iload_n hx hb dX10_token_51 rfl (lv_at hl 1 rfl) ?_
      refine lv_if_ge (tgt := 63) hx hb dX10_token_52 (by decide) (fun c52 => ?_) (fun c52 => ?_)
      · have h := ite_t c52 h
        refine lv_iload_n hx hb dX10_token_63 rfl (lv_at hl 1 rfl) ?_
        refine lv_bipush (v := 97) hx hb dX10_token_64 (by decide) ?_
        refine lv_bipush (v := 122) hx hb dX10_token_66 (by decide) ?_
        refine wz_rI (c' := 0) (s' := 0) hW (wz_runS (rest := []) C hW lTX10_93 (ctX10_in l G x40 (97 : Int32) (122 : Int32) z46 rfl) ⟨⟨rfl, rfl⟩, Nat.le_of_ble_eq_true rfl, Nat.le_of_ble_eq_true rfl⟩ rfl hl.1 rfl (Nat.le_of_ble_eq_true rfl) dX10_token_68 ⟨Nat.le_of_ble_eq_true rfl, Nat.le_of_ble_eq_true rfl⟩) rfl rfl (fun H locs hW => ?_)
        refine lv_if_eq (tgt := 147) hx hb dX10_token_71 (by decide) (fun c71 => ?_) (fun c71 => ?_)
        · have h := ite_t c71 h
          refine lv_iload_n hx hb dX10_token_147 rfl (lv_at hl 1 rfl) ?_
          refine lv_bipush (v := 48) hx hb dX10_token_148 (by decide) ?_
          refine lv_bipush (v := 57) hx hb dX10_token_150 (by decide) ?_
          refine wz_rI (c' := 0) (s' := 0) hW (wz_runS (rest := []) C hW lTX10_93 (ctX10_in l G x40 (48 : Int32) (57 : Int32) z46 rfl) ⟨⟨rfl, rfl⟩, Nat.le_of_ble_eq_true rfl, Nat.le_of_ble_eq_true rfl⟩ rfl hl.1 rfl (Nat.le_of_ble_eq_true rfl) dX10_token_152 ⟨Nat.le_of_ble_eq_true rfl, Nat.le_of_ble_eq_true rfl⟩) rfl rfl (fun H locs hW => ?_)
          refine lv_if_eq (tgt := 241) hx hb dX10_token_155 (by decide) (fun c155 => ?_) (fun c155 => ?_)
          · have h := ite_t c155 h
            refine lv_aload_n hx hb dX10_token_241 rfl (lv_at hl 2 rfl) ?_
            refine lv_dup hx hb dX10_token_242 rfl ?_
            obtain ⟨x243, hg, h⟩ := ob h
            refine wz_gI C hW flX10_101 hg dX10_token_243 ?_
            refine lv_iconst (v := 1) hx hb dX10_token_246 (by decide) ?_
            refine lv_iadd hx hb dX10_token_247 ?_
            obtain ⟨z248, hg, h⟩ := ob h
            refine wz_put (v := (.int (x243 + (1 : Int32)))) C hW flX10_101 rfl rfl hg dX10_token_248 (fun H locs hW => ?_)
            refine lv_aload_n hx hb dX10_token_251 rfl (lv_at hl 2 rfl) ?_
            refine lv_iload_n hx hb dX10_token_252 rfl (lv_at hl 1 rfl) ?_
            refine lv_bipush (v := 59) hx hb dX10_token_253 (by decide) ?_
            refine lv_icmp_ne (tgt := 262) hx hb dX10_token_255 (by decide) (fun c255 => ?_) (fun c255 => ?_)
            · have h := ite_f c255 h
              refine lv_iconst (v := 1) hx hb dX10_token_262 (by decide) ?_
              obtain ⟨z263, hg, h⟩ := ob h
              refine wz_put (v := (.int (1 : Int32))) C hW flX10_118 rfl rfl hg dX10_token_263 (fun H locs hW => ?_)
              exact wz_vretE C hlk hr (Option.some.inj h) hW dX10_token_266
            · have h := ite_t c255 h
              refine lv_iconst (v := 4) hx hb dX10_token_258 (by decide) ?_
              refine lv_goto (tgt := 263) hx hb dX10_token_259 (by decide) ?_
              obtain ⟨z263, hg, h⟩ := ob h
              refine wz_put (v := (.int (4 : Int32))) C hW flX10_118 rfl rfl hg dX10_token_263 (fun H locs hW => ?_)
              exact wz_vretE C hlk hr (Option.some.inj h) hW dX10_token_266
          · have h := ite_f c155 h
            refine lv_aload_n hx hb dX10_token_158 rfl (lv_at hl 2 rfl) ?_
            refine lv_iconst (v := 0) hx hb dX10_token_159 (by decide) ?_
            obtain ⟨z160, hg, h⟩ := ob h
            refine wz_put (v := (.int (0 : Int32))) C hW flX10_121 rfl rfl hg dX10_token_160 (fun H locs hW => ?_)
            exact klX10_token_163 C hlk hr FU a0 (0 : Int32) z160 _ _ _ h hW (lv_sub hl [2, 0] rfl)
        · have h := ite_f c71 h
          exact klX10_token_74 C hlk hr FU a0 (0 : Int32) z46 _ _ _ h hW (lv_sub hl [2, 0] rfl)
      · have h := ite_f c52 h
        refine lv_aload_n hx hb dX10_token_55 rfl (lv_at hl 2 rfl) ?_
        refine lv_iconst (v := 0) hx hb dX10_token_56 (by decide) ?_
        obtain ⟨z57, hg, h⟩ := ob h
        refine wz_put (v := (.int (0 : Int32))) C hW flX10_118 rfl rfl hg dX10_token_57 (fun H locs hW => ?_)
        refine lv_goto (tgt := 266) hx hb dX10_token_60 (by decide) ?_
        exact wz_vretE C hlk hr (Option.some.inj h) hW dX10_token_266
    · have h := ite_t c15 h
      refine lv_aload_n hx hb dX10_token_18 rfl (lv_at hl 0 rfl) ?_
      refine lv_dup hx hb dX10_token_19 rfl ?_
      obtain ⟨x20, hg, h⟩ := ob h
      refine wz_gI C hW flX10_101 hg dX10_token_20 ?_
      refine lv_iconst (v := 1) hx hb dX10_token_23 (by decide) ?_
      refine lv_iadd hx hb dX10_token_24 ?_
      obtain ⟨z25, hg, h⟩ := ob h
      refine wz_put (v := (.int (x20 + (1 : Int32)))) C hW flX10_101 rfl rfl hg dX10_token_25 (fun H locs hW => ?_)
      refine lv_goto (tgt := 0) hx hb dX10_token_28 (by decide) ?_
      exact hk0 a0 z25 _ _ _ h hW (lv_sub hl [0] rfl)
def fX10_token_0 : Nat → Nat → AH → Option AH
  | 0, _, _ => none
  | n + 1, a0, z => bX10_token_0 (fX10_token_0 n) a0 z
theorem klX10_token_0 {p : Program} {l : Launch} {e : Env} {s : State} {m : MethodId} {args : Array Value} {below : List Frame} {meth : Method} {c : Code} {G : GW} {z' : AH} (C : Cx p m c cX10_token 3 s args RX10 G) (hlk : meth.locks = false) (hr : meth.sig.returnType = none) : ∀ (n : Nat) (a0 : Nat) (z : AH) (H : Heap) (locs : List Loc) (ls : Array Slot), fX10_token_0 n a0 z = some z' → Wb G z s H locs → lv_has ls 3 [(0, .ref (gB G + a0))] → W p l e rmX10_token s m args below meth c H locs 0 0 (MQ below (Qv G z') args s 0 0 (AA G)) (F0 m 0 ls []) := by
  intro n
  induction n with
  | zero => intro a0 z H locs ls h; have h : (none : Option AH) = some z' := h; cases h
  | succ n ih => intro a0 z H locs ls h hW hl; exact kbX10_token_0 C hlk hr (fX10_token_0 n) (fun a0 z H locs ls h hW hl => ih a0 z H locs ls h hW hl) a0 h hW hl
def fX10_token (a0 : Nat) (z : AH) : Option AH :=
  if isO 9 z a0 = true then
    fX10_token_0 FU a0 z
  else none
set_option maxHeartbeats 4000000 in
set_option maxRecDepth 100000 in
theorem ctX10_token (l : Launch) (G : GW) (a0 : Nat) (z : AH) {z' : AH} (h : fX10_token a0 z = some z') : Met l yX10_token (wy yX10_token cX10_token 3 none) rmX10_token (Pz G [.ref (gB G + a0)] z) (Qv G z') 0 0 (AA G) := by
  refine wz_ent (own := RX10) (by decide +kernel) rfl (fun p e s m below meth c ls C hlk hr hin hW hl => ?_) (Nat.le_of_ble_eq_true rfl)
  have hl : lv_has ls 3 [(0, .ref (gB G + a0))] := hl
  have hx := C.1
  have hb := C.2.1
  unfold fX10_token at h
  obtain ⟨-, h⟩ := ck h
  exact klX10_token_0 C hlk hr FU a0 z _ _ _ h hW (lv_sub hl [0] rfl)
theorem flX10_124 : FL RX10 124 9 16 := ⟨_, rfl, Nat.le_of_ble_eq_true rfl, tw 1215 (by decide +kernel) rfl, rfl⟩
theorem dX10_fails_0 : decode cX10_fails 0 = .ok (.aload_n 0, 1) := by decide +kernel
theorem dX10_fails_1 : decode cX10_fails 1 = .ok (.aload_n 0, 1) := by decide +kernel
theorem dX10_fails_2 : decode cX10_fails 2 = .ok (.getfield 111, 3) := by decide +kernel
theorem dX10_fails_5 : decode cX10_fails 5 = .ok (.putfield 124, 3) := by decide +kernel
theorem dX10_fails_8 : decode cX10_fails 8 = .ok (.iconst 0, 1) := by decide +kernel
theorem dX10_fails_9 : decode cX10_fails 9 = .ok (.ireturn, 1) := by decide +kernel
abbrev rmX10_fails : Room := { frames := 0, cells := 0, slots := 0, locals := 0 }
def fX10_fails (a0 : Nat) (z : AH) : Option (Int32 × AH) :=
  if isO 9 z a0 = true then
    (gI 9 12 z a0).bind fun x2 =>
    (pF 9 16 z a0 (.int x2)).bind fun z5 =>
    some ((0 : Int32), z5)
  else none
set_option maxHeartbeats 4000000 in
set_option maxRecDepth 100000 in
theorem ctX10_fails (l : Launch) (G : GW) (a0 : Nat) (z : AH) {r : Int32} {z' : AH} (h : fX10_fails a0 z = some (r, z')) : Met l yX10_fails (wy yX10_fails cX10_fails 1 (some .boolean)) rmX10_fails (Pz G [.ref (gB G + a0)] z) (Qi G r z') 0 0 (AA G) := by
  refine wz_ent (own := RX10) (by decide +kernel) rfl (fun p e s m below meth c ls C hlk hr hin hW hl => ?_) (Nat.le_of_ble_eq_true rfl)
  have hl : lv_has ls 1 [(0, .ref (gB G + a0))] := hl
  have hx := C.1
  have hb := C.2.1
  unfold fX10_fails at h
  obtain ⟨-, h⟩ := ck h
  refine lv_aload_n hx hb dX10_fails_0 rfl (lv_at hl 0 rfl) ?_
  refine lv_aload_n hx hb dX10_fails_1 rfl (lv_at hl 0 rfl) ?_
  obtain ⟨x2, hg, h⟩ := ob h
  refine wz_gI C hW flX10_111 hg dX10_fails_2 ?_
  obtain ⟨z5, hg, h⟩ := ob h
  refine wz_put (v := (.int x2)) C hW flX10_124 rfl rfl hg dX10_fails_5 (fun H locs hW => ?_)
  refine lv_iconst (v := 0) hx hb dX10_fails_8 (by decide) ?_
  exact wz_zretE C hlk hr (Or.inl rfl) (so2 h).1 (so2 h).2 hW dX10_fails_9
theorem flX10_127 : FL RX10 127 9 17 := ⟨_, rfl, Nat.le_of_ble_eq_true rfl, tw 1216 (by decide +kernel) rfl, rfl⟩
theorem flX10_130 : FL RX10 130 9 18 := ⟨_, rfl, Nat.le_of_ble_eq_true rfl, tw 1217 (by decide +kernel) rfl, rfl⟩
theorem dX10_later_0 : decode cX10_later 0 = .ok (.aload_n 0, 1) := by decide +kernel
theorem dX10_later_1 : decode cX10_later 1 = .ok (.getfield 127, 3) := by decide +kernel
theorem dX10_later_4 : decode cX10_later 4 = .ok (.ifCond .eq 27, 3) := by decide +kernel
theorem dX10_later_7 : decode cX10_later 7 = .ok (.iload_n 2, 1) := by decide +kernel
theorem dX10_later_8 : decode cX10_later 8 = .ok (.aload_n 0, 1) := by decide +kernel
theorem dX10_later_9 : decode cX10_later 9 = .ok (.getfield 130, 3) := by decide +kernel
theorem dX10_later_12 : decode cX10_later 12 = .ok (.if_icmp .lt 19, 3) := by decide +kernel
theorem dX10_later_15 : decode cX10_later 15 = .ok (.iload_n 2, 1) := by decide +kernel
theorem dX10_later_16 : decode cX10_later 16 = .ok (.aload_n 0, 1) := by decide +kernel
theorem dX10_later_17 : decode cX10_later 17 = .ok (.getfield 130, 3) := by decide +kernel
theorem dX10_later_20 : decode cX10_later 20 = .ok (.if_icmp .ne 21, 3) := by decide +kernel
theorem dX10_later_23 : decode cX10_later 23 = .ok (.iload_n 1, 1) := by decide +kernel
theorem dX10_later_24 : decode cX10_later 24 = .ok (.aload_n 0, 1) := by decide +kernel
theorem dX10_later_25 : decode cX10_later 25 = .ok (.getfield 127, 3) := by decide +kernel
theorem dX10_later_28 : decode cX10_later 28 = .ok (.if_icmp .ge 13, 3) := by decide +kernel
theorem dX10_later_31 : decode cX10_later 31 = .ok (.aload_n 0, 1) := by decide +kernel
theorem dX10_later_32 : decode cX10_later 32 = .ok (.iload_n 1, 1) := by decide +kernel
theorem dX10_later_33 : decode cX10_later 33 = .ok (.putfield 127, 3) := by decide +kernel
theorem dX10_later_36 : decode cX10_later 36 = .ok (.aload_n 0, 1) := by decide +kernel
theorem dX10_later_37 : decode cX10_later 37 = .ok (.iload_n 2, 1) := by decide +kernel
theorem dX10_later_38 : decode cX10_later 38 = .ok (.putfield 130, 3) := by decide +kernel
theorem dX10_later_41 : decode cX10_later 41 = .ok (.return_, 1) := by decide +kernel
abbrev rmX10_later : Room := { frames := 0, cells := 0, slots := 0, locals := 0 }
def bX10_later_31 (a0 : Nat) (l1 : Int32) (l2 : Int32) (z : AH) : Option AH :=
  (pF 9 17 z a0 (.int l1)).bind fun z33 =>
  (pF 9 18 z33 a0 (.int l2)).bind fun z38 =>
  some z38
set_option maxHeartbeats 4000000 in
set_option maxRecDepth 100000 in
theorem kbX10_later_31 {p : Program} {l : Launch} {e : Env} {s : State} {m : MethodId} {args : Array Value} {below : List Frame} {meth : Method} {c : Code} {G : GW} {z' : AH} (C : Cx p m c cX10_later 3 s args RX10 G) (hlk : meth.locks = false) (hr : meth.sig.returnType = none) (a0 : Nat) (l1 : Int32) (l2 : Int32) {z : AH} {H : Heap} {locs : List Loc} {ls : Array Slot} (h : bX10_later_31 a0 l1 l2 z = some z') (hW : Wb G z s H locs) (hl : lv_has ls 3 [(0, .ref (gB G + a0)), (1, .int l1), (2, .int l2)]) : W p l e rmX10_later s m args below meth c H locs 0 0 (MQ below (Qv G z') args s 0 0 (AA G)) (F0 m 31 ls []) := by
  have hx := C.1
  have hb := C.2.1
  unfold bX10_later_31 at h
  refine lv_aload_n hx hb dX10_later_31 rfl (lv_at hl 0 rfl) ?_
  refine lv_iload_n hx hb dX10_later_32 rfl (lv_at hl 1 rfl) ?_
  obtain ⟨z33, hg, h⟩ := ob h
  refine wz_put (v := (.int l1)) C hW flX10_127 rfl rfl hg dX10_later_33 (fun H locs hW => ?_)
  refine lv_aload_n hx hb dX10_later_36 rfl (lv_at hl 0 rfl) ?_
  refine lv_iload_n hx hb dX10_later_37 rfl (lv_at hl 2 rfl) ?_
  obtain ⟨z38, hg, h⟩ := ob h
  refine wz_put (v := (.int l2)) C hW flX10_130 rfl rfl hg dX10_later_38 (fun H locs hW => ?_)
  exact wz_vretE C hlk hr (Option.some.inj h) hW dX10_later_41
def fX10_later (a0 : Nat) (l1 : Int32) (l2 : Int32) (z : AH) : Option AH :=
  if isO 9 z a0 = true then
    (gI 9 17 z a0).bind fun x1 =>
    if x1 = (0 : Int32) then (
      bX10_later_31 a0 l1 l2 z
    ) else (
      (gI 9 18 z a0).bind fun x9 =>
      if l2 < x9 then (
        bX10_later_31 a0 l1 l2 z
      ) else (
        (gI 9 18 z a0).bind fun x17 =>
        if l2 = x17 then (
          (gI 9 17 z a0).bind fun x25 =>
          if x25 ≤ l1 then (
            some z
          ) else (
            bX10_later_31 a0 l1 l2 z
          )
        ) else (
          some z
        )
      )
    )
  else none
set_option maxHeartbeats 4000000 in
set_option maxRecDepth 100000 in
theorem ctX10_later (l : Launch) (G : GW) (a0 : Nat) (l1 : Int32) (l2 : Int32) (z : AH) {z' : AH} (h : fX10_later a0 l1 l2 z = some z') : Met l yX10_later (wy yX10_later cX10_later 3 none) rmX10_later (Pz G [.ref (gB G + a0), .int l1, .int l2] z) (Qv G z') 0 0 (AA G) := by
  refine wz_ent (own := RX10) (by decide +kernel) rfl (fun p e s m below meth c ls C hlk hr hin hW hl => ?_) (Nat.le_of_ble_eq_true rfl)
  have hl : lv_has ls 3 [(0, .ref (gB G + a0)), (1, .int l1), (2, .int l2)] := hl
  have hx := C.1
  have hb := C.2.1
  unfold fX10_later at h
  obtain ⟨-, h⟩ := ck h
  refine lv_aload_n hx hb dX10_later_0 rfl (lv_at hl 0 rfl) ?_
  obtain ⟨x1, hg, h⟩ := ob h
  refine wz_gI C hW flX10_127 hg dX10_later_1 ?_
  refine lv_if_eq (tgt := 31) hx hb dX10_later_4 (by decide) (fun c4 => ?_) (fun c4 => ?_)
  · have h := ite_t c4 h
    exact kbX10_later_31 C hlk hr a0 l1 l2 h hW (lv_sub hl [0, 1, 2] rfl)
  · have h := ite_f c4 h
    refine lv_iload_n hx hb dX10_later_7 rfl (lv_at hl 2 rfl) ?_
    refine lv_aload_n hx hb dX10_later_8 rfl (lv_at hl 0 rfl) ?_
    obtain ⟨x9, hg, h⟩ := ob h
    refine wz_gI C hW flX10_130 hg dX10_later_9 ?_
    refine lv_icmp_lt (tgt := 31) hx hb dX10_later_12 (by decide) (fun c12 => ?_) (fun c12 => ?_)
    · have h := ite_t c12 h
      exact kbX10_later_31 C hlk hr a0 l1 l2 h hW (lv_sub hl [0, 1, 2] rfl)
    · have h := ite_f c12 h
      refine lv_iload_n hx hb dX10_later_15 rfl (lv_at hl 2 rfl) ?_
      refine lv_aload_n hx hb dX10_later_16 rfl (lv_at hl 0 rfl) ?_
      obtain ⟨x17, hg, h⟩ := ob h
      refine wz_gI C hW flX10_130 hg dX10_later_17 ?_
      refine lv_icmp_ne (tgt := 41) hx hb dX10_later_20 (by decide) (fun c20 => ?_) (fun c20 => ?_)
      · have h := ite_f c20 h
        exact wz_vretE C hlk hr (Option.some.inj h) hW dX10_later_41
      · have h := ite_t c20 h
        refine lv_iload_n hx hb dX10_later_23 rfl (lv_at hl 1 rfl) ?_
        refine lv_aload_n hx hb dX10_later_24 rfl (lv_at hl 0 rfl) ?_
        obtain ⟨x25, hg, h⟩ := ob h
        refine wz_gI C hW flX10_127 hg dX10_later_25 ?_
        refine lv_icmp_ge (tgt := 41) hx hb dX10_later_28 (by decide) (fun c28 => ?_) (fun c28 => ?_)
        · have h := ite_t c28 h
          exact wz_vretE C hlk hr (Option.some.inj h) hW dX10_later_41
        · have h := ite_f c28 h
          exact kbX10_later_31 C hlk hr a0 l1 l2 h hW (lv_sub hl [0, 1, 2] rfl)
theorem lVX10_145 : LV RX10 145 yX10_token cX10_token 3 none 0 := ⟨tw 1395 (by decide +kernel) rfl, tw 1397 (by decide +kernel) rfl, tw 38 (by decide +kernel) rfl, tw 128 (by decide +kernel) rfl, tw 1398 (by decide +kernel) rfl, ⟨by decide +kernel, by decide +kernel, by decide +kernel⟩⟩
theorem lVX10_137 : LV RX10 137 yX10_later cX10_later 3 none 2 := ⟨tw 1424 (by decide +kernel) rfl, tw 1426 (by decide +kernel) rfl, tw 44 (by decide +kernel) rfl, tw 128 (by decide +kernel) rfl, tw 1427 (by decide +kernel) rfl, ⟨by decide +kernel, by decide +kernel, by decide +kernel⟩⟩
theorem flX10_141 : FL RX10 141 9 24 := ⟨_, rfl, Nat.le_of_ble_eq_true rfl, tw 1223 (by decide +kernel) rfl, rfl⟩
theorem lVX10_133 : LV RX10 133 yX10_fails cX10_fails 1 (some .boolean) 0 := ⟨tw 1436 (by decide +kernel) rfl, tw 1438 (by decide +kernel) rfl, tw 47 (by decide +kernel) rfl, tw 128 (by decide +kernel) rfl, tw 1439 (by decide +kernel) rfl, ⟨by decide +kernel, by decide +kernel, by decide +kernel⟩⟩
theorem dX10_takeBut_0 : decode cX10_takeBut 0 = .ok (.aload_n 0, 1) := by decide +kernel
theorem dX10_takeBut_1 : decode cX10_takeBut 1 = .ok (.getfield 118, 3) := by decide +kernel
theorem dX10_takeBut_4 : decode cX10_takeBut 4 = .ok (.iconst 3, 1) := by decide +kernel
theorem dX10_takeBut_5 : decode cX10_takeBut 5 = .ok (.if_icmp .eq 8, 3) := by decide +kernel
theorem dX10_takeBut_8 : decode cX10_takeBut 8 = .ok (.aload_n 0, 1) := by decide +kernel
theorem dX10_takeBut_9 : decode cX10_takeBut 9 = .ok (.invokevirtual 133, 3) := by decide +kernel
theorem dX10_takeBut_12 : decode cX10_takeBut 12 = .ok (.ireturn, 1) := by decide +kernel
theorem dX10_takeBut_13 : decode cX10_takeBut 13 = .ok (.aload_n 0, 1) := by decide +kernel
theorem dX10_takeBut_14 : decode cX10_takeBut 14 = .ok (.getfield 41, 3) := by decide +kernel
theorem dX10_takeBut_17 : decode cX10_takeBut 17 = .ok (.iload_n 1, 1) := by decide +kernel
theorem dX10_takeBut_18 : decode cX10_takeBut 18 = .ok (.aload_n 0, 1) := by decide +kernel
theorem dX10_takeBut_19 : decode cX10_takeBut 19 = .ok (.getfield 121, 3) := by decide +kernel
theorem dX10_takeBut_22 : decode cX10_takeBut 22 = .ok (.iastore, 1) := by decide +kernel
theorem dX10_takeBut_23 : decode cX10_takeBut 23 = .ok (.aload_n 0, 1) := by decide +kernel
theorem dX10_takeBut_24 : decode cX10_takeBut 24 = .ok (.getfield 121, 3) := by decide +kernel
theorem dX10_takeBut_27 : decode cX10_takeBut 27 = .ok (.iload_n 2, 1) := by decide +kernel
theorem dX10_takeBut_28 : decode cX10_takeBut 28 = .ok (.iload_n 3, 1) := by decide +kernel
theorem dX10_takeBut_29 : decode cX10_takeBut 29 = .ok (.invokestatic 93, 3) := by decide +kernel
theorem dX10_takeBut_32 : decode cX10_takeBut 32 = .ok (.ifCond .eq 12, 3) := by decide +kernel
theorem dX10_takeBut_35 : decode cX10_takeBut 35 = .ok (.aload_n 0, 1) := by decide +kernel
theorem dX10_takeBut_36 : decode cX10_takeBut 36 = .ok (.getfield 121, 3) := by decide +kernel
theorem dX10_takeBut_39 : decode cX10_takeBut 39 = .ok (.iload 4, 2) := by decide +kernel
theorem dX10_takeBut_41 : decode cX10_takeBut 41 = .ok (.if_icmp .ne 17, 3) := by decide +kernel
theorem dX10_takeBut_44 : decode cX10_takeBut 44 = .ok (.aload_n 0, 1) := by decide +kernel
theorem dX10_takeBut_45 : decode cX10_takeBut 45 = .ok (.iconst 2, 1) := by decide +kernel
theorem dX10_takeBut_46 : decode cX10_takeBut 46 = .ok (.aload_n 0, 1) := by decide +kernel
theorem dX10_takeBut_47 : decode cX10_takeBut 47 = .ok (.getfield 111, 3) := by decide +kernel
theorem dX10_takeBut_50 : decode cX10_takeBut 50 = .ok (.invokevirtual 137, 3) := by decide +kernel
theorem dX10_takeBut_53 : decode cX10_takeBut 53 = .ok (.aload_n 0, 1) := by decide +kernel
theorem dX10_takeBut_54 : decode cX10_takeBut 54 = .ok (.iconst 0, 1) := by decide +kernel
theorem dX10_takeBut_55 : decode cX10_takeBut 55 = .ok (.putfield 141, 3) := by decide +kernel
theorem dX10_takeBut_58 : decode cX10_takeBut 58 = .ok (.aload_n 0, 1) := by decide +kernel
theorem dX10_takeBut_59 : decode cX10_takeBut 59 = .ok (.invokevirtual 145, 3) := by decide +kernel
theorem dX10_takeBut_62 : decode cX10_takeBut 62 = .ok (.iconst 1, 1) := by decide +kernel
theorem dX10_takeBut_63 : decode cX10_takeBut 63 = .ok (.ireturn, 1) := by decide +kernel
abbrev rmX10_takeBut : Room := { frames := 2, cells := 0, slots := 0, locals := 44 }
def bX10_takeBut_58 (a0 : Nat) (z : AH) : Option (Int32 × AH) :=
  (fX10_token a0 z).bind fun z59 =>
  some ((1 : Int32), z59)
set_option maxHeartbeats 4000000 in
set_option maxRecDepth 100000 in
theorem kbX10_takeBut_58 {p : Program} {l : Launch} {e : Env} {s : State} {m : MethodId} {args : Array Value} {below : List Frame} {meth : Method} {c : Code} {G : GW} {r : Int32} {z' : AH} (C : Cx p m c cX10_takeBut 5 s args RX10 G) (hlk : meth.locks = false) (hr : meth.sig.returnType = (some .boolean)) (a0 : Nat) {z : AH} {H : Heap} {locs : List Loc} {ls : Array Slot} (h : bX10_takeBut_58 a0 z = some (r, z')) (hW : Wb G z s H locs) (hl : lv_has ls 5 [(0, .ref (gB G + a0))]) : W p l e rmX10_takeBut s m args below meth c H locs 0 0 (MQ below (Qi G r z') args s 0 0 (AA G)) (F0 m 58 ls []) := by
  have hx := C.1
  have hb := C.2.1
  unfold bX10_takeBut_58 at h
  refine lv_aload_n hx hb dX10_takeBut_58 rfl (lv_at hl 0 rfl) ?_
  obtain ⟨z59, hq, h⟩ := ob h
  refine wz_rV (c' := 0) (s' := 0) hW (wz_runV (rest := []) C hW lVX10_145 (ck hq).1 rfl (ctX10_token l G a0 z hq) ⟨⟨rfl, rfl⟩, Nat.le_of_ble_eq_true rfl, Nat.le_of_ble_eq_true rfl⟩ rfl hl.1 rfl (Nat.le_of_ble_eq_true rfl) dX10_takeBut_59 ⟨Nat.le_of_ble_eq_true rfl, Nat.le_of_ble_eq_true rfl⟩) rfl rfl (fun H locs hW => ?_)
  refine lv_iconst (v := 1) hx hb dX10_takeBut_62 (by decide) ?_
  exact wz_zretE C hlk hr (Or.inr rfl) (so2 h).1 (so2 h).2 hW dX10_takeBut_63
def bX10_takeBut_44 (a0 : Nat) (z : AH) : Option (Int32 × AH) :=
  (gI 9 12 z a0).bind fun x47 =>
  (fX10_later a0 (2 : Int32) x47 z).bind fun z50 =>
  (pF 9 24 z50 a0 (.int (0 : Int32))).bind fun z55 =>
  bX10_takeBut_58 a0 z55
set_option maxHeartbeats 4000000 in
set_option maxRecDepth 100000 in
theorem kbX10_takeBut_44 {p : Program} {l : Launch} {e : Env} {s : State} {m : MethodId} {args : Array Value} {below : List Frame} {meth : Method} {c : Code} {G : GW} {r : Int32} {z' : AH} (C : Cx p m c cX10_takeBut 5 s args RX10 G) (hlk : meth.locks = false) (hr : meth.sig.returnType = (some .boolean)) (a0 : Nat) {z : AH} {H : Heap} {locs : List Loc} {ls : Array Slot} (h : bX10_takeBut_44 a0 z = some (r, z')) (hW : Wb G z s H locs) (hl : lv_has ls 5 [(0, .ref (gB G + a0))]) : W p l e rmX10_takeBut s m args below meth c H locs 0 0 (MQ below (Qi G r z') args s 0 0 (AA G)) (F0 m 44 ls []) := by
  have hx := C.1
  have hb := C.2.1
  unfold bX10_takeBut_44 at h
  refine lv_aload_n hx hb dX10_takeBut_44 rfl (lv_at hl 0 rfl) ?_
  refine lv_iconst (v := 2) hx hb dX10_takeBut_45 (by decide) ?_
  refine lv_aload_n hx hb dX10_takeBut_46 rfl (lv_at hl 0 rfl) ?_
  obtain ⟨x47, hg, h⟩ := ob h
  refine wz_gI C hW flX10_111 hg dX10_takeBut_47 ?_
  obtain ⟨z50, hq, h⟩ := ob h
  refine wz_rV (c' := 0) (s' := 0) hW (wz_runV (rest := []) C hW lVX10_137 (ck hq).1 rfl (ctX10_later l G a0 (2 : Int32) x47 z hq) ⟨⟨rfl, rfl⟩, Nat.le_of_ble_eq_true rfl, Nat.le_of_ble_eq_true rfl⟩ rfl hl.1 rfl (Nat.le_of_ble_eq_true rfl) dX10_takeBut_50 ⟨Nat.le_of_ble_eq_true rfl, Nat.le_of_ble_eq_true rfl⟩) rfl rfl (fun H locs hW => ?_)
  refine lv_aload_n hx hb dX10_takeBut_53 rfl (lv_at hl 0 rfl) ?_
  refine lv_iconst (v := 0) hx hb dX10_takeBut_54 (by decide) ?_
  obtain ⟨z55, hg, h⟩ := ob h
  refine wz_put (v := (.int (0 : Int32))) C hW flX10_141 rfl rfl hg dX10_takeBut_55 (fun H locs hW => ?_)
  exact kbX10_takeBut_58 C hlk hr a0 h hW (lv_sub hl [0] rfl)
def fX10_takeBut (a0 : Nat) (l1 : Int32) (l2 : Int32) (l3 : Int32) (l4 : Int32) (z : AH) : Option (Int32 × AH) :=
  if isO 9 z a0 = true then
    (gI 9 13 z a0).bind fun x1 =>
    if x1 = (3 : Int32) then (
      (gN 9 20 z a0).bind fun b14 =>
      (gI 9 14 z a0).bind fun x19 =>
      (stI 0 z b14 l1 x19).bind fun z22 =>
      (gI 9 14 z22 a0).bind fun x24 =>
      if (fX10_in x24 l2 l3) = (0 : Int32) then (
        bX10_takeBut_44 a0 z22
      ) else (
        (gI 9 14 z22 a0).bind fun x36 =>
        if x36 = l4 then (
          bX10_takeBut_44 a0 z22
        ) else (
          bX10_takeBut_58 a0 z22
        )
      )
    ) else (
      b2 (fX10_fails a0 z) fun x9 z9 =>
      if x9 = 0 ∨ x9 = 1 then some (x9, z9) else none
    )
  else none
set_option maxHeartbeats 4000000 in
set_option maxRecDepth 100000 in
theorem ctX10_takeBut (l : Launch) (G : GW) (a0 : Nat) (l1 : Int32) (l2 : Int32) (l3 : Int32) (l4 : Int32) (z : AH) {r : Int32} {z' : AH} (h : fX10_takeBut a0 l1 l2 l3 l4 z = some (r, z')) : Met l yX10_takeBut (wy yX10_takeBut cX10_takeBut 5 (some .boolean)) rmX10_takeBut (Pz G [.ref (gB G + a0), .int l1, .int l2, .int l3, .int l4] z) (Qi G r z') 0 0 (AA G) := by
  refine wz_ent (own := RX10) (by decide +kernel) rfl (fun p e s m below meth c ls C hlk hr hin hW hl => ?_) (Nat.le_of_ble_eq_true rfl)
  have hl : lv_has ls 5 [(0, .ref (gB G + a0)), (1, .int l1), (2, .int l2), (3, .int l3), (4, .int l4)] := hl
  have hx := C.1
  have hb := C.2.1
  unfold fX10_takeBut at h
  obtain ⟨-, h⟩ := ck h
  refine lv_aload_n hx hb dX10_takeBut_0 rfl (lv_at hl 0 rfl) ?_
  obtain ⟨x1, hg, h⟩ := ob h
  refine wz_gI C hW flX10_118 hg dX10_takeBut_1 ?_
  refine lv_iconst (v := 3) hx hb dX10_takeBut_4 (by decide) ?_
  refine lv_icmp_eq (tgt := 13) hx hb dX10_takeBut_5 (by decide) (fun c5 => ?_) (fun c5 => ?_)
  · have h := ite_t c5 h
    refine lv_aload_n hx hb dX10_takeBut_13 rfl (lv_at hl 0 rfl) ?_
    obtain ⟨b14, hg, h⟩ := ob h
    refine wz_gN C hW flX10_41 hg dX10_takeBut_14 ?_
    refine lv_iload_n hx hb dX10_takeBut_17 rfl (lv_at hl 1 rfl) ?_
    refine lv_aload_n hx hb dX10_takeBut_18 rfl (lv_at hl 0 rfl) ?_
    obtain ⟨x19, hg, h⟩ := ob h
    refine wz_gI C hW flX10_121 hg dX10_takeBut_19 ?_
    obtain ⟨z22, hg, h⟩ := ob h
    refine wz_ast C hW hg dX10_takeBut_22 (fun H locs hW => ?_)
    refine lv_aload_n hx hb dX10_takeBut_23 rfl (lv_at hl 0 rfl) ?_
    obtain ⟨x24, hg, h⟩ := ob h
    refine wz_gI C hW flX10_121 hg dX10_takeBut_24 ?_
    refine lv_iload_n hx hb dX10_takeBut_27 rfl (lv_at hl 2 rfl) ?_
    refine lv_iload_n hx hb dX10_takeBut_28 rfl (lv_at hl 3 rfl) ?_
    refine wz_rI (c' := 0) (s' := 0) hW (wz_runS (rest := []) C hW lTX10_93 (ctX10_in l G x24 l2 l3 z22 rfl) ⟨⟨rfl, rfl⟩, Nat.le_of_ble_eq_true rfl, Nat.le_of_ble_eq_true rfl⟩ rfl hl.1 rfl (Nat.le_of_ble_eq_true rfl) dX10_takeBut_29 ⟨Nat.le_of_ble_eq_true rfl, Nat.le_of_ble_eq_true rfl⟩) rfl rfl (fun H locs hW => ?_)
    refine lv_if_eq (tgt := 44) hx hb dX10_takeBut_32 (by decide) (fun c32 => ?_) (fun c32 => ?_)
    · have h := ite_t c32 h
      exact kbX10_takeBut_44 C hlk hr a0 h hW (lv_sub hl [0] rfl)
    · have h := ite_f c32 h
      refine lv_aload_n hx hb dX10_takeBut_35 rfl (lv_at hl 0 rfl) ?_
      obtain ⟨x36, hg, h⟩ := ob h
      refine wz_gI C hW flX10_121 hg dX10_takeBut_36 ?_
      refine lv_iload hx hb dX10_takeBut_39 (lv_at hl 4 rfl) ?_
      refine lv_icmp_ne (tgt := 58) hx hb dX10_takeBut_41 (by decide) (fun c41 => ?_) (fun c41 => ?_)
      · have h := ite_f c41 h
        exact kbX10_takeBut_58 C hlk hr a0 h hW (lv_sub hl [0] rfl)
      · have h := ite_t c41 h
        exact kbX10_takeBut_44 C hlk hr a0 h hW (lv_sub hl [0] rfl)
  · have h := ite_f c5 h
    refine lv_aload_n hx hb dX10_takeBut_8 rfl (lv_at hl 0 rfl) ?_
    obtain ⟨x9, z9, hq, h⟩ := ob2 h
    refine wz_rI (c' := 0) (s' := 0) hW (wz_runV (rest := []) C hW lVX10_133 (ck hq).1 rfl (ctX10_fails l G a0 z hq) ⟨⟨rfl, rfl⟩, Nat.le_of_ble_eq_true rfl, Nat.le_of_ble_eq_true rfl⟩ rfl hl.1 rfl (Nat.le_of_ble_eq_true rfl) dX10_takeBut_9 ⟨Nat.le_of_ble_eq_true rfl, Nat.le_of_ble_eq_true rfl⟩) rfl rfl (fun H locs hW => ?_)
    obtain ⟨h01, h⟩ := ck h
    exact wz_zretE C hlk hr h01 (so2 h).1 (so2 h).2 hW dX10_takeBut_12
theorem lVX10_148 : LV RX10 148 yX10_takeBut cX10_takeBut 5 (some .boolean) 4 := ⟨tw 1432 (by decide +kernel) rfl, tw 1434 (by decide +kernel) rfl, tw 46 (by decide +kernel) rfl, tw 128 (by decide +kernel) rfl, tw 1435 (by decide +kernel) rfl, ⟨by decide +kernel, by decide +kernel, by decide +kernel⟩⟩
theorem dX10_take_0 : decode cX10_take 0 = .ok (.aload_n 0, 1) := by decide +kernel
theorem dX10_take_1 : decode cX10_take 1 = .ok (.iload_n 1, 1) := by decide +kernel
theorem dX10_take_2 : decode cX10_take 2 = .ok (.iload_n 2, 1) := by decide +kernel
theorem dX10_take_3 : decode cX10_take 3 = .ok (.iload_n 3, 1) := by decide +kernel
theorem dX10_take_4 : decode cX10_take 4 = .ok (.iconst (-1), 1) := by decide +kernel
theorem dX10_take_5 : decode cX10_take 5 = .ok (.invokevirtual 148, 3) := by decide +kernel
theorem dX10_take_8 : decode cX10_take 8 = .ok (.ireturn, 1) := by decide +kernel
abbrev rmX10_take : Room := { frames := 3, cells := 0, slots := 0, locals := 68 }
def fX10_take (a0 : Nat) (l1 : Int32) (l2 : Int32) (l3 : Int32) (z : AH) : Option (Int32 × AH) :=
  if isO 9 z a0 = true then
    b2 (fX10_takeBut a0 l1 l2 l3 (-1 : Int32) z) fun x5 z5 =>
    if x5 = 0 ∨ x5 = 1 then some (x5, z5) else none
  else none
set_option maxHeartbeats 4000000 in
set_option maxRecDepth 100000 in
theorem ctX10_take (l : Launch) (G : GW) (a0 : Nat) (l1 : Int32) (l2 : Int32) (l3 : Int32) (z : AH) {r : Int32} {z' : AH} (h : fX10_take a0 l1 l2 l3 z = some (r, z')) : Met l yX10_take (wy yX10_take cX10_take 4 (some .boolean)) rmX10_take (Pz G [.ref (gB G + a0), .int l1, .int l2, .int l3] z) (Qi G r z') 0 0 (AA G) := by
  refine wz_ent (own := RX10) (by decide +kernel) rfl (fun p e s m below meth c ls C hlk hr hin hW hl => ?_) (Nat.le_of_ble_eq_true rfl)
  have hl : lv_has ls 4 [(0, .ref (gB G + a0)), (1, .int l1), (2, .int l2), (3, .int l3)] := hl
  have hx := C.1
  have hb := C.2.1
  unfold fX10_take at h
  obtain ⟨-, h⟩ := ck h
  refine lv_aload_n hx hb dX10_take_0 rfl (lv_at hl 0 rfl) ?_
  refine lv_iload_n hx hb dX10_take_1 rfl (lv_at hl 1 rfl) ?_
  refine lv_iload_n hx hb dX10_take_2 rfl (lv_at hl 2 rfl) ?_
  refine lv_iload_n hx hb dX10_take_3 rfl (lv_at hl 3 rfl) ?_
  refine lv_iconst (v := -1) hx hb dX10_take_4 (by decide) ?_
  obtain ⟨x5, z5, hq, h⟩ := ob2 h
  refine wz_rI (c' := 0) (s' := 0) hW (wz_runV (rest := []) C hW lVX10_148 (ck hq).1 rfl (ctX10_takeBut l G a0 l1 l2 l3 (-1 : Int32) z hq) ⟨⟨rfl, rfl⟩, Nat.le_of_ble_eq_true rfl, Nat.le_of_ble_eq_true rfl⟩ rfl hl.1 rfl (Nat.le_of_ble_eq_true rfl) dX10_take_5 ⟨Nat.le_of_ble_eq_true rfl, Nat.le_of_ble_eq_true rfl⟩) rfl rfl (fun H locs hW => ?_)
  obtain ⟨h01, h⟩ := ck h
  exact wz_zretE C hlk hr h01 (so2 h).1 (so2 h).2 hW dX10_take_8
theorem flX10_152 : FL RX10 152 9 21 := ⟨_, rfl, Nat.le_of_ble_eq_true rfl, tw 1220 (by decide +kernel) rfl, rfl⟩
theorem lTX10_155 : LT RX10 155 yX10_greater cX10_greater 2 (some .int) 2 := ⟨tw 1448 (by decide +kernel) rfl, tw 1449 (by decide +kernel) rfl, tw 128 (by decide +kernel) rfl, tw 1450 (by decide +kernel) rfl, ⟨by decide +kernel, by decide +kernel, by decide +kernel⟩⟩
theorem dX10_takeThing_0 : decode cX10_takeThing 0 = .ok (.aload_n 0, 1) := by decide +kernel
theorem dX10_takeThing_1 : decode cX10_takeThing 1 = .ok (.iload_n 1, 1) := by decide +kernel
theorem dX10_takeThing_2 : decode cX10_takeThing 2 = .ok (.iconst 0, 1) := by decide +kernel
theorem dX10_takeThing_3 : decode cX10_takeThing 3 = .ok (.bipush 7, 2) := by decide +kernel
theorem dX10_takeThing_5 : decode cX10_takeThing 5 = .ok (.iload_n 2, 1) := by decide +kernel
theorem dX10_takeThing_6 : decode cX10_takeThing 6 = .ok (.invokevirtual 148, 3) := by decide +kernel
theorem dX10_takeThing_9 : decode cX10_takeThing 9 = .ok (.ifCond .ne 5, 3) := by decide +kernel
theorem dX10_takeThing_12 : decode cX10_takeThing 12 = .ok (.iconst 0, 1) := by decide +kernel
theorem dX10_takeThing_13 : decode cX10_takeThing 13 = .ok (.ireturn, 1) := by decide +kernel
theorem dX10_takeThing_14 : decode cX10_takeThing 14 = .ok (.aload_n 0, 1) := by decide +kernel
theorem dX10_takeThing_15 : decode cX10_takeThing 15 = .ok (.aload_n 0, 1) := by decide +kernel
theorem dX10_takeThing_16 : decode cX10_takeThing 16 = .ok (.getfield 152, 3) := by decide +kernel
theorem dX10_takeThing_19 : decode cX10_takeThing 19 = .ok (.aload_n 0, 1) := by decide +kernel
theorem dX10_takeThing_20 : decode cX10_takeThing 20 = .ok (.getfield 41, 3) := by decide +kernel
theorem dX10_takeThing_23 : decode cX10_takeThing 23 = .ok (.iload_n 1, 1) := by decide +kernel
theorem dX10_takeThing_24 : decode cX10_takeThing 24 = .ok (.iaload, 1) := by decide +kernel
theorem dX10_takeThing_25 : decode cX10_takeThing 25 = .ok (.invokestatic 155, 3) := by decide +kernel
theorem dX10_takeThing_28 : decode cX10_takeThing 28 = .ok (.putfield 152, 3) := by decide +kernel
theorem dX10_takeThing_31 : decode cX10_takeThing 31 = .ok (.iconst 1, 1) := by decide +kernel
theorem dX10_takeThing_32 : decode cX10_takeThing 32 = .ok (.ireturn, 1) := by decide +kernel
abbrev rmX10_takeThing : Room := { frames := 3, cells := 0, slots := 0, locals := 68 }
def fX10_takeThing (a0 : Nat) (l1 : Int32) (l2 : Int32) (z : AH) : Option (Int32 × AH) :=
  if isO 9 z a0 = true then
    b2 (fX10_takeBut a0 l1 (0 : Int32) (7 : Int32) l2 z) fun x6 z6 =>
    if x6 = (0 : Int32) then (
      some ((0 : Int32), z6)
    ) else (
      (gI 9 21 z6 a0).bind fun x16 =>
      (gN 9 20 z6 a0).bind fun b20 =>
      (ixI 0 z6 b20 l1).bind fun x24 =>
      (pF 9 21 z6 a0 (.int (fX10_greater x16 x24))).bind fun z28 =>
      some ((1 : Int32), z28)
    )
  else none
set_option maxHeartbeats 4000000 in
set_option maxRecDepth 100000 in
theorem ctX10_takeThing (l : Launch) (G : GW) (a0 : Nat) (l1 : Int32) (l2 : Int32) (z : AH) {r : Int32} {z' : AH} (h : fX10_takeThing a0 l1 l2 z = some (r, z')) : Met l yX10_takeThing (wy yX10_takeThing cX10_takeThing 3 (some .boolean)) rmX10_takeThing (Pz G [.ref (gB G + a0), .int l1, .int l2] z) (Qi G r z') 0 0 (AA G) := by
  refine wz_ent (own := RX10) (by decide +kernel) rfl (fun p e s m below meth c ls C hlk hr hin hW hl => ?_) (Nat.le_of_ble_eq_true rfl)
  have hl : lv_has ls 3 [(0, .ref (gB G + a0)), (1, .int l1), (2, .int l2)] := hl
  have hx := C.1
  have hb := C.2.1
  unfold fX10_takeThing at h
  obtain ⟨-, h⟩ := ck h
  refine lv_aload_n hx hb dX10_takeThing_0 rfl (lv_at hl 0 rfl) ?_
  refine lv_iload_n hx hb dX10_takeThing_1 rfl (lv_at hl 1 rfl) ?_
  refine lv_iconst (v := 0) hx hb dX10_takeThing_2 (by decide) ?_
  refine lv_bipush (v := 7) hx hb dX10_takeThing_3 (by decide) ?_
  refine lv_iload_n hx hb dX10_takeThing_5 rfl (lv_at hl 2 rfl) ?_
  obtain ⟨x6, z6, hq, h⟩ := ob2 h
  refine wz_rI (c' := 0) (s' := 0) hW (wz_runV (rest := []) C hW lVX10_148 (ck hq).1 rfl (ctX10_takeBut l G a0 l1 (0 : Int32) (7 : Int32) l2 z hq) ⟨⟨rfl, rfl⟩, Nat.le_of_ble_eq_true rfl, Nat.le_of_ble_eq_true rfl⟩ rfl hl.1 rfl (Nat.le_of_ble_eq_true rfl) dX10_takeThing_6 ⟨Nat.le_of_ble_eq_true rfl, Nat.le_of_ble_eq_true rfl⟩) rfl rfl (fun H locs hW => ?_)
  refine lv_if_ne (tgt := 14) hx hb dX10_takeThing_9 (by decide) (fun c9 => ?_) (fun c9 => ?_)
  · have h := ite_f c9 h
    refine lv_aload_n hx hb dX10_takeThing_14 rfl (lv_at hl 0 rfl) ?_
    refine lv_aload_n hx hb dX10_takeThing_15 rfl (lv_at hl 0 rfl) ?_
    obtain ⟨x16, hg, h⟩ := ob h
    refine wz_gI C hW flX10_152 hg dX10_takeThing_16 ?_
    refine lv_aload_n hx hb dX10_takeThing_19 rfl (lv_at hl 0 rfl) ?_
    obtain ⟨b20, hg, h⟩ := ob h
    refine wz_gN C hW flX10_41 hg dX10_takeThing_20 ?_
    refine lv_iload_n hx hb dX10_takeThing_23 rfl (lv_at hl 1 rfl) ?_
    obtain ⟨x24, hg, h⟩ := ob h
    refine wz_ald C hW hg dX10_takeThing_24 ?_
    refine wz_rI (c' := 0) (s' := 0) hW (wz_runS (rest := [.ref (gB G + a0)]) C hW lTX10_155 (ctX10_greater l G x16 x24 z6 rfl) ⟨⟨rfl, rfl⟩, Nat.le_of_ble_eq_true rfl, Nat.le_of_ble_eq_true rfl⟩ rfl hl.1 rfl (Nat.le_of_ble_eq_true rfl) dX10_takeThing_25 ⟨Nat.le_of_ble_eq_true rfl, Nat.le_of_ble_eq_true rfl⟩) rfl rfl (fun H locs hW => ?_)
    obtain ⟨z28, hg, h⟩ := ob h
    refine wz_put (v := (.int (fX10_greater x16 x24))) C hW flX10_152 rfl rfl hg dX10_takeThing_28 (fun H locs hW => ?_)
    refine lv_iconst (v := 1) hx hb dX10_takeThing_31 (by decide) ?_
    exact wz_zretE C hlk hr (Or.inr rfl) (so2 h).1 (so2 h).2 hW dX10_takeThing_32
  · have h := ite_t c9 h
    refine lv_iconst (v := 0) hx hb dX10_takeThing_12 (by decide) ?_
    exact wz_zretE C hlk hr (Or.inl rfl) (so2 h).1 (so2 h).2 hW dX10_takeThing_13
theorem lVX10_159 : LV RX10 159 yX10_take cX10_take 4 (some .boolean) 3 := ⟨tw 1428 (by decide +kernel) rfl, tw 1430 (by decide +kernel) rfl, tw 45 (by decide +kernel) rfl, tw 128 (by decide +kernel) rfl, tw 1431 (by decide +kernel) rfl, ⟨by decide +kernel, by decide +kernel, by decide +kernel⟩⟩
theorem flX10_162 : FL RX10 162 9 22 := ⟨_, rfl, Nat.le_of_ble_eq_true rfl, tw 1221 (by decide +kernel) rfl, rfl⟩
theorem dX10_takeLeft_0 : decode cX10_takeLeft 0 = .ok (.aload_n 0, 1) := by decide +kernel
theorem dX10_takeLeft_1 : decode cX10_takeLeft 1 = .ok (.iload_n 1, 1) := by decide +kernel
theorem dX10_takeLeft_2 : decode cX10_takeLeft 2 = .ok (.iconst 0, 1) := by decide +kernel
theorem dX10_takeLeft_3 : decode cX10_takeLeft 3 = .ok (.iconst 3, 1) := by decide +kernel
theorem dX10_takeLeft_4 : decode cX10_takeLeft 4 = .ok (.invokevirtual 159, 3) := by decide +kernel
theorem dX10_takeLeft_7 : decode cX10_takeLeft 7 = .ok (.ifCond .ne 5, 3) := by decide +kernel
theorem dX10_takeLeft_10 : decode cX10_takeLeft 10 = .ok (.iconst 0, 1) := by decide +kernel
theorem dX10_takeLeft_11 : decode cX10_takeLeft 11 = .ok (.ireturn, 1) := by decide +kernel
theorem dX10_takeLeft_12 : decode cX10_takeLeft 12 = .ok (.aload_n 0, 1) := by decide +kernel
theorem dX10_takeLeft_13 : decode cX10_takeLeft 13 = .ok (.aload_n 0, 1) := by decide +kernel
theorem dX10_takeLeft_14 : decode cX10_takeLeft 14 = .ok (.getfield 162, 3) := by decide +kernel
theorem dX10_takeLeft_17 : decode cX10_takeLeft 17 = .ok (.aload_n 0, 1) := by decide +kernel
theorem dX10_takeLeft_18 : decode cX10_takeLeft 18 = .ok (.getfield 41, 3) := by decide +kernel
theorem dX10_takeLeft_21 : decode cX10_takeLeft 21 = .ok (.iload_n 1, 1) := by decide +kernel
theorem dX10_takeLeft_22 : decode cX10_takeLeft 22 = .ok (.iaload, 1) := by decide +kernel
theorem dX10_takeLeft_23 : decode cX10_takeLeft 23 = .ok (.invokestatic 155, 3) := by decide +kernel
theorem dX10_takeLeft_26 : decode cX10_takeLeft 26 = .ok (.putfield 162, 3) := by decide +kernel
theorem dX10_takeLeft_29 : decode cX10_takeLeft 29 = .ok (.iconst 1, 1) := by decide +kernel
theorem dX10_takeLeft_30 : decode cX10_takeLeft 30 = .ok (.ireturn, 1) := by decide +kernel
abbrev rmX10_takeLeft : Room := { frames := 4, cells := 0, slots := 0, locals := 91 }
def fX10_takeLeft (a0 : Nat) (l1 : Int32) (z : AH) : Option (Int32 × AH) :=
  if isO 9 z a0 = true then
    b2 (fX10_take a0 l1 (0 : Int32) (3 : Int32) z) fun x4 z4 =>
    if x4 = (0 : Int32) then (
      some ((0 : Int32), z4)
    ) else (
      (gI 9 22 z4 a0).bind fun x14 =>
      (gN 9 20 z4 a0).bind fun b18 =>
      (ixI 0 z4 b18 l1).bind fun x22 =>
      (pF 9 22 z4 a0 (.int (fX10_greater x14 x22))).bind fun z26 =>
      some ((1 : Int32), z26)
    )
  else none
set_option maxHeartbeats 4000000 in
set_option maxRecDepth 100000 in
theorem ctX10_takeLeft (l : Launch) (G : GW) (a0 : Nat) (l1 : Int32) (z : AH) {r : Int32} {z' : AH} (h : fX10_takeLeft a0 l1 z = some (r, z')) : Met l yX10_takeLeft (wy yX10_takeLeft cX10_takeLeft 2 (some .boolean)) rmX10_takeLeft (Pz G [.ref (gB G + a0), .int l1] z) (Qi G r z') 0 0 (AA G) := by
  refine wz_ent (own := RX10) (by decide +kernel) rfl (fun p e s m below meth c ls C hlk hr hin hW hl => ?_) (Nat.le_of_ble_eq_true rfl)
  have hl : lv_has ls 2 [(0, .ref (gB G + a0)), (1, .int l1)] := hl
  have hx := C.1
  have hb := C.2.1
  unfold fX10_takeLeft at h
  obtain ⟨-, h⟩ := ck h
  refine lv_aload_n hx hb dX10_takeLeft_0 rfl (lv_at hl 0 rfl) ?_
  refine lv_iload_n hx hb dX10_takeLeft_1 rfl (lv_at hl 1 rfl) ?_
  refine lv_iconst (v := 0) hx hb dX10_takeLeft_2 (by decide) ?_
  refine lv_iconst (v := 3) hx hb dX10_takeLeft_3 (by decide) ?_
  obtain ⟨x4, z4, hq, h⟩ := ob2 h
  refine wz_rI (c' := 0) (s' := 0) hW (wz_runV (rest := []) C hW lVX10_159 (ck hq).1 rfl (ctX10_take l G a0 l1 (0 : Int32) (3 : Int32) z hq) ⟨⟨rfl, rfl⟩, Nat.le_of_ble_eq_true rfl, Nat.le_of_ble_eq_true rfl⟩ rfl hl.1 rfl (Nat.le_of_ble_eq_true rfl) dX10_takeLeft_4 ⟨Nat.le_of_ble_eq_true rfl, Nat.le_of_ble_eq_true rfl⟩) rfl rfl (fun H locs hW => ?_)
  refine lv_if_ne (tgt := 12) hx hb dX10_takeLeft_7 (by decide) (fun c7 => ?_) (fun c7 => ?_)
  · have h := ite_f c7 h
    refine lv_aload_n hx hb dX10_takeLeft_12 rfl (lv_at hl 0 rfl) ?_
    refine lv_aload_n hx hb dX10_takeLeft_13 rfl (lv_at hl 0 rfl) ?_
    obtain ⟨x14, hg, h⟩ := ob h
    refine wz_gI C hW flX10_162 hg dX10_takeLeft_14 ?_
    refine lv_aload_n hx hb dX10_takeLeft_17 rfl (lv_at hl 0 rfl) ?_
    obtain ⟨b18, hg, h⟩ := ob h
    refine wz_gN C hW flX10_41 hg dX10_takeLeft_18 ?_
    refine lv_iload_n hx hb dX10_takeLeft_21 rfl (lv_at hl 1 rfl) ?_
    obtain ⟨x22, hg, h⟩ := ob h
    refine wz_ald C hW hg dX10_takeLeft_22 ?_
    refine wz_rI (c' := 0) (s' := 0) hW (wz_runS (rest := [.ref (gB G + a0)]) C hW lTX10_155 (ctX10_greater l G x14 x22 z4 rfl) ⟨⟨rfl, rfl⟩, Nat.le_of_ble_eq_true rfl, Nat.le_of_ble_eq_true rfl⟩ rfl hl.1 rfl (Nat.le_of_ble_eq_true rfl) dX10_takeLeft_23 ⟨Nat.le_of_ble_eq_true rfl, Nat.le_of_ble_eq_true rfl⟩) rfl rfl (fun H locs hW => ?_)
    obtain ⟨z26, hg, h⟩ := ob h
    refine wz_put (v := (.int (fX10_greater x14 x22))) C hW flX10_162 rfl rfl hg dX10_takeLeft_26 (fun H locs hW => ?_)
    refine lv_iconst (v := 1) hx hb dX10_takeLeft_29 (by decide) ?_
    exact wz_zretE C hlk hr (Or.inr rfl) (so2 h).1 (so2 h).2 hW dX10_takeLeft_30
  · have h := ite_t c7 h
    refine lv_iconst (v := 0) hx hb dX10_takeLeft_10 (by decide) ?_
    exact wz_zretE C hlk hr (Or.inl rfl) (so2 h).1 (so2 h).2 hW dX10_takeLeft_11
theorem flX10_165 : FL RX10 165 9 23 := ⟨_, rfl, Nat.le_of_ble_eq_true rfl, tw 1222 (by decide +kernel) rfl, rfl⟩
theorem dX10_takeRight_0 : decode cX10_takeRight 0 = .ok (.aload_n 0, 1) := by decide +kernel
theorem dX10_takeRight_1 : decode cX10_takeRight 1 = .ok (.iload_n 1, 1) := by decide +kernel
theorem dX10_takeRight_2 : decode cX10_takeRight 2 = .ok (.iconst 0, 1) := by decide +kernel
theorem dX10_takeRight_3 : decode cX10_takeRight 3 = .ok (.iconst 3, 1) := by decide +kernel
theorem dX10_takeRight_4 : decode cX10_takeRight 4 = .ok (.invokevirtual 159, 3) := by decide +kernel
theorem dX10_takeRight_7 : decode cX10_takeRight 7 = .ok (.ifCond .ne 5, 3) := by decide +kernel
theorem dX10_takeRight_10 : decode cX10_takeRight 10 = .ok (.iconst 0, 1) := by decide +kernel
theorem dX10_takeRight_11 : decode cX10_takeRight 11 = .ok (.ireturn, 1) := by decide +kernel
theorem dX10_takeRight_12 : decode cX10_takeRight 12 = .ok (.aload_n 0, 1) := by decide +kernel
theorem dX10_takeRight_13 : decode cX10_takeRight 13 = .ok (.aload_n 0, 1) := by decide +kernel
theorem dX10_takeRight_14 : decode cX10_takeRight 14 = .ok (.getfield 165, 3) := by decide +kernel
theorem dX10_takeRight_17 : decode cX10_takeRight 17 = .ok (.aload_n 0, 1) := by decide +kernel
theorem dX10_takeRight_18 : decode cX10_takeRight 18 = .ok (.getfield 41, 3) := by decide +kernel
theorem dX10_takeRight_21 : decode cX10_takeRight 21 = .ok (.iload_n 1, 1) := by decide +kernel
theorem dX10_takeRight_22 : decode cX10_takeRight 22 = .ok (.iaload, 1) := by decide +kernel
theorem dX10_takeRight_23 : decode cX10_takeRight 23 = .ok (.invokestatic 155, 3) := by decide +kernel
theorem dX10_takeRight_26 : decode cX10_takeRight 26 = .ok (.putfield 165, 3) := by decide +kernel
theorem dX10_takeRight_29 : decode cX10_takeRight 29 = .ok (.iconst 1, 1) := by decide +kernel
theorem dX10_takeRight_30 : decode cX10_takeRight 30 = .ok (.ireturn, 1) := by decide +kernel
abbrev rmX10_takeRight : Room := { frames := 4, cells := 0, slots := 0, locals := 91 }
def fX10_takeRight (a0 : Nat) (l1 : Int32) (z : AH) : Option (Int32 × AH) :=
  if isO 9 z a0 = true then
    b2 (fX10_take a0 l1 (0 : Int32) (3 : Int32) z) fun x4 z4 =>
    if x4 = (0 : Int32) then (
      some ((0 : Int32), z4)
    ) else (
      (gI 9 23 z4 a0).bind fun x14 =>
      (gN 9 20 z4 a0).bind fun b18 =>
      (ixI 0 z4 b18 l1).bind fun x22 =>
      (pF 9 23 z4 a0 (.int (fX10_greater x14 x22))).bind fun z26 =>
      some ((1 : Int32), z26)
    )
  else none
set_option maxHeartbeats 4000000 in
set_option maxRecDepth 100000 in
theorem ctX10_takeRight (l : Launch) (G : GW) (a0 : Nat) (l1 : Int32) (z : AH) {r : Int32} {z' : AH} (h : fX10_takeRight a0 l1 z = some (r, z')) : Met l yX10_takeRight (wy yX10_takeRight cX10_takeRight 2 (some .boolean)) rmX10_takeRight (Pz G [.ref (gB G + a0), .int l1] z) (Qi G r z') 0 0 (AA G) := by
  refine wz_ent (own := RX10) (by decide +kernel) rfl (fun p e s m below meth c ls C hlk hr hin hW hl => ?_) (Nat.le_of_ble_eq_true rfl)
  have hl : lv_has ls 2 [(0, .ref (gB G + a0)), (1, .int l1)] := hl
  have hx := C.1
  have hb := C.2.1
  unfold fX10_takeRight at h
  obtain ⟨-, h⟩ := ck h
  refine lv_aload_n hx hb dX10_takeRight_0 rfl (lv_at hl 0 rfl) ?_
  refine lv_iload_n hx hb dX10_takeRight_1 rfl (lv_at hl 1 rfl) ?_
  refine lv_iconst (v := 0) hx hb dX10_takeRight_2 (by decide) ?_
  refine lv_iconst (v := 3) hx hb dX10_takeRight_3 (by decide) ?_
  obtain ⟨x4, z4, hq, h⟩ := ob2 h
  refine wz_rI (c' := 0) (s' := 0) hW (wz_runV (rest := []) C hW lVX10_159 (ck hq).1 rfl (ctX10_take l G a0 l1 (0 : Int32) (3 : Int32) z hq) ⟨⟨rfl, rfl⟩, Nat.le_of_ble_eq_true rfl, Nat.le_of_ble_eq_true rfl⟩ rfl hl.1 rfl (Nat.le_of_ble_eq_true rfl) dX10_takeRight_4 ⟨Nat.le_of_ble_eq_true rfl, Nat.le_of_ble_eq_true rfl⟩) rfl rfl (fun H locs hW => ?_)
  refine lv_if_ne (tgt := 12) hx hb dX10_takeRight_7 (by decide) (fun c7 => ?_) (fun c7 => ?_)
  · have h := ite_f c7 h
    refine lv_aload_n hx hb dX10_takeRight_12 rfl (lv_at hl 0 rfl) ?_
    refine lv_aload_n hx hb dX10_takeRight_13 rfl (lv_at hl 0 rfl) ?_
    obtain ⟨x14, hg, h⟩ := ob h
    refine wz_gI C hW flX10_165 hg dX10_takeRight_14 ?_
    refine lv_aload_n hx hb dX10_takeRight_17 rfl (lv_at hl 0 rfl) ?_
    obtain ⟨b18, hg, h⟩ := ob h
    refine wz_gN C hW flX10_41 hg dX10_takeRight_18 ?_
    refine lv_iload_n hx hb dX10_takeRight_21 rfl (lv_at hl 1 rfl) ?_
    obtain ⟨x22, hg, h⟩ := ob h
    refine wz_ald C hW hg dX10_takeRight_22 ?_
    refine wz_rI (c' := 0) (s' := 0) hW (wz_runS (rest := [.ref (gB G + a0)]) C hW lTX10_155 (ctX10_greater l G x14 x22 z4 rfl) ⟨⟨rfl, rfl⟩, Nat.le_of_ble_eq_true rfl, Nat.le_of_ble_eq_true rfl⟩ rfl hl.1 rfl (Nat.le_of_ble_eq_true rfl) dX10_takeRight_23 ⟨Nat.le_of_ble_eq_true rfl, Nat.le_of_ble_eq_true rfl⟩) rfl rfl (fun H locs hW => ?_)
    obtain ⟨z26, hg, h⟩ := ob h
    refine wz_put (v := (.int (fX10_greater x14 x22))) C hW flX10_165 rfl rfl hg dX10_takeRight_26 (fun H locs hW => ?_)
    refine lv_iconst (v := 1) hx hb dX10_takeRight_29 (by decide) ?_
    exact wz_zretE C hlk hr (Or.inr rfl) (so2 h).1 (so2 h).2 hW dX10_takeRight_30
  · have h := ite_t c7 h
    refine lv_iconst (v := 0) hx hb dX10_takeRight_10 (by decide) ?_
    exact wz_zretE C hlk hr (Or.inl rfl) (so2 h).1 (so2 h).2 hW dX10_takeRight_11
theorem dX10_full_0 : decode cX10_full 0 = .ok (.aload_n 0, 1) := by decide +kernel
theorem dX10_full_1 : decode cX10_full 1 = .ok (.getfield 38, 3) := by decide +kernel
theorem dX10_full_4 : decode cX10_full 4 = .ok (.iload_n 1, 1) := by decide +kernel
theorem dX10_full_5 : decode cX10_full 5 = .ok (.iaload, 1) := by decide +kernel
theorem dX10_full_6 : decode cX10_full 6 = .ok (.iload_n 2, 1) := by decide +kernel
theorem dX10_full_7 : decode cX10_full 7 = .ok (.if_icmp .ne 9, 3) := by decide +kernel
theorem dX10_full_10 : decode cX10_full 10 = .ok (.aload_n 0, 1) := by decide +kernel
theorem dX10_full_11 : decode cX10_full 11 = .ok (.iconst 3, 1) := by decide +kernel
theorem dX10_full_12 : decode cX10_full 12 = .ok (.iload_n 3, 1) := by decide +kernel
theorem dX10_full_13 : decode cX10_full 13 = .ok (.invokevirtual 137, 3) := by decide +kernel
theorem dX10_full_16 : decode cX10_full 16 = .ok (.return_, 1) := by decide +kernel
abbrev rmX10_full : Room := { frames := 1, cells := 0, slots := 0, locals := 22 }
def fX10_full (a0 : Nat) (l1 : Int32) (l2 : Int32) (l3 : Int32) (z : AH) : Option AH :=
  if isO 9 z a0 = true then
    (gN 9 19 z a0).bind fun b1 =>
    (ixI 0 z b1 l1).bind fun x5 =>
    if x5 = l2 then (
      (fX10_later a0 (3 : Int32) l3 z).bind fun z13 =>
      some z13
    ) else (
      some z
    )
  else none
set_option maxHeartbeats 4000000 in
set_option maxRecDepth 100000 in
theorem ctX10_full (l : Launch) (G : GW) (a0 : Nat) (l1 : Int32) (l2 : Int32) (l3 : Int32) (z : AH) {z' : AH} (h : fX10_full a0 l1 l2 l3 z = some z') : Met l yX10_full (wy yX10_full cX10_full 4 none) rmX10_full (Pz G [.ref (gB G + a0), .int l1, .int l2, .int l3] z) (Qv G z') 0 0 (AA G) := by
  refine wz_ent (own := RX10) (by decide +kernel) rfl (fun p e s m below meth c ls C hlk hr hin hW hl => ?_) (Nat.le_of_ble_eq_true rfl)
  have hl : lv_has ls 4 [(0, .ref (gB G + a0)), (1, .int l1), (2, .int l2), (3, .int l3)] := hl
  have hx := C.1
  have hb := C.2.1
  unfold fX10_full at h
  obtain ⟨-, h⟩ := ck h
  refine lv_aload_n hx hb dX10_full_0 rfl (lv_at hl 0 rfl) ?_
  obtain ⟨b1, hg, h⟩ := ob h
  refine wz_gN C hW flX10_38 hg dX10_full_1 ?_
  refine lv_iload_n hx hb dX10_full_4 rfl (lv_at hl 1 rfl) ?_
  obtain ⟨x5, hg, h⟩ := ob h
  refine wz_ald C hW hg dX10_full_5 ?_
  refine lv_iload_n hx hb dX10_full_6 rfl (lv_at hl 2 rfl) ?_
  refine lv_icmp_ne (tgt := 16) hx hb dX10_full_7 (by decide) (fun c7 => ?_) (fun c7 => ?_)
  · have h := ite_f c7 h
    exact wz_vretE C hlk hr (Option.some.inj h) hW dX10_full_16
  · have h := ite_t c7 h
    refine lv_aload_n hx hb dX10_full_10 rfl (lv_at hl 0 rfl) ?_
    refine lv_iconst (v := 3) hx hb dX10_full_11 (by decide) ?_
    refine lv_iload_n hx hb dX10_full_12 rfl (lv_at hl 3 rfl) ?_
    obtain ⟨z13, hq, h⟩ := ob h
    refine wz_rV (c' := 0) (s' := 0) hW (wz_runV (rest := []) C hW lVX10_137 (ck hq).1 rfl (ctX10_later l G a0 (3 : Int32) l3 z hq) ⟨⟨rfl, rfl⟩, Nat.le_of_ble_eq_true rfl, Nat.le_of_ble_eq_true rfl⟩ rfl hl.1 rfl (Nat.le_of_ble_eq_true rfl) dX10_full_13 ⟨Nat.le_of_ble_eq_true rfl, Nat.le_of_ble_eq_true rfl⟩) rfl rfl (fun H locs hW => ?_)
    exact wz_vretE C hlk hr (Option.some.inj h) hW dX10_full_16
theorem dX10_keep_0 : decode cX10_keep 0 = .ok (.aload_n 0, 1) := by decide +kernel
theorem dX10_keep_1 : decode cX10_keep 1 = .ok (.getfield 38, 3) := by decide +kernel
theorem dX10_keep_4 : decode cX10_keep 4 = .ok (.iload_n 1, 1) := by decide +kernel
theorem dX10_keep_5 : decode cX10_keep 5 = .ok (.iaload, 1) := by decide +kernel
theorem dX10_keep_6 : decode cX10_keep 6 = .ok (.istore 5, 2) := by decide +kernel
theorem dX10_keep_8 : decode cX10_keep 8 = .ok (.iconst 0, 1) := by decide +kernel
theorem dX10_keep_9 : decode cX10_keep 9 = .ok (.istore 6, 2) := by decide +kernel
theorem dX10_keep_11 : decode cX10_keep 11 = .ok (.iload 6, 2) := by decide +kernel
theorem dX10_keep_13 : decode cX10_keep 13 = .ok (.iload_n 3, 1) := by decide +kernel
theorem dX10_keep_14 : decode cX10_keep 14 = .ok (.if_icmp .ge 38, 3) := by decide +kernel
theorem dX10_keep_17 : decode cX10_keep 17 = .ok (.iload 5, 2) := by decide +kernel
theorem dX10_keep_19 : decode cX10_keep 19 = .ok (.iload 4, 2) := by decide +kernel
theorem dX10_keep_21 : decode cX10_keep 21 = .ok (.if_icmp .ge 31, 3) := by decide +kernel
theorem dX10_keep_24 : decode cX10_keep 24 = .ok (.aload_n 0, 1) := by decide +kernel
theorem dX10_keep_25 : decode cX10_keep 25 = .ok (.getfield 38, 3) := by decide +kernel
theorem dX10_keep_28 : decode cX10_keep 28 = .ok (.iload_n 2, 1) := by decide +kernel
theorem dX10_keep_29 : decode cX10_keep 29 = .ok (.iload 4, 2) := by decide +kernel
theorem dX10_keep_31 : decode cX10_keep 31 = .ok (.iload 6, 2) := by decide +kernel
theorem dX10_keep_33 : decode cX10_keep 33 = .ok (.imul, 1) := by decide +kernel
theorem dX10_keep_34 : decode cX10_keep 34 = .ok (.iadd, 1) := by decide +kernel
theorem dX10_keep_35 : decode cX10_keep 35 = .ok (.iload 5, 2) := by decide +kernel
theorem dX10_keep_37 : decode cX10_keep 37 = .ok (.iadd, 1) := by decide +kernel
theorem dX10_keep_38 : decode cX10_keep 38 = .ok (.aload_n 0, 1) := by decide +kernel
theorem dX10_keep_39 : decode cX10_keep 39 = .ok (.getfield 41, 3) := by decide +kernel
theorem dX10_keep_42 : decode cX10_keep 42 = .ok (.iload 6, 2) := by decide +kernel
theorem dX10_keep_44 : decode cX10_keep 44 = .ok (.iaload, 1) := by decide +kernel
theorem dX10_keep_45 : decode cX10_keep 45 = .ok (.iastore, 1) := by decide +kernel
theorem dX10_keep_46 : decode cX10_keep 46 = .ok (.iinc 6 1, 3) := by decide +kernel
theorem dX10_keep_49 : decode cX10_keep 49 = .ok (.goto (-38), 3) := by decide +kernel
theorem dX10_keep_52 : decode cX10_keep 52 = .ok (.aload_n 0, 1) := by decide +kernel
theorem dX10_keep_53 : decode cX10_keep 53 = .ok (.getfield 38, 3) := by decide +kernel
theorem dX10_keep_56 : decode cX10_keep 56 = .ok (.iload_n 1, 1) := by decide +kernel
theorem dX10_keep_57 : decode cX10_keep 57 = .ok (.dup2, 1) := by decide +kernel
theorem dX10_keep_58 : decode cX10_keep 58 = .ok (.iaload, 1) := by decide +kernel
theorem dX10_keep_59 : decode cX10_keep 59 = .ok (.iload 5, 2) := by decide +kernel
theorem dX10_keep_61 : decode cX10_keep 61 = .ok (.iload 4, 2) := by decide +kernel
theorem dX10_keep_63 : decode cX10_keep 63 = .ok (.if_icmp .ge 7, 3) := by decide +kernel
theorem dX10_keep_66 : decode cX10_keep 66 = .ok (.iconst 1, 1) := by decide +kernel
theorem dX10_keep_67 : decode cX10_keep 67 = .ok (.goto 4, 3) := by decide +kernel
theorem dX10_keep_70 : decode cX10_keep 70 = .ok (.iconst 0, 1) := by decide +kernel
theorem dX10_keep_71 : decode cX10_keep 71 = .ok (.iadd, 1) := by decide +kernel
theorem dX10_keep_72 : decode cX10_keep 72 = .ok (.iastore, 1) := by decide +kernel
theorem dX10_keep_73 : decode cX10_keep 73 = .ok (.iconst 1, 1) := by decide +kernel
theorem dX10_keep_74 : decode cX10_keep 74 = .ok (.ireturn, 1) := by decide +kernel
abbrev rmX10_keep : Room := { frames := 0, cells := 0, slots := 0, locals := 0 }
def bX10_keep_52 (a0 : Nat) (l1 : Int32) (l4 : Int32) (l5 : Int32) (z : AH) : Option (Int32 × AH) :=
  (gN 9 19 z a0).bind fun b53 =>
  (ixI 0 z b53 l1).bind fun x58 =>
  if l4 ≤ l5 then (
    (stI 0 z b53 l1 (x58 + (0 : Int32))).bind fun z72 =>
    some ((1 : Int32), z72)
  ) else (
    (stI 0 z b53 l1 (x58 + (1 : Int32))).bind fun z72 =>
    some ((1 : Int32), z72)
  )
set_option maxHeartbeats 4000000 in
set_option maxRecDepth 100000 in
theorem kbX10_keep_52 {p : Program} {l : Launch} {e : Env} {s : State} {m : MethodId} {args : Array Value} {below : List Frame} {meth : Method} {c : Code} {G : GW} {r : Int32} {z' : AH} (C : Cx p m c cX10_keep 7 s args RX10 G) (hlk : meth.locks = false) (hr : meth.sig.returnType = (some .boolean)) (a0 : Nat) (l1 : Int32) (l4 : Int32) (l5 : Int32) {z : AH} {H : Heap} {locs : List Loc} {ls : Array Slot} (h : bX10_keep_52 a0 l1 l4 l5 z = some (r, z')) (hW : Wb G z s H locs) (hl : lv_has ls 7 [(0, .ref (gB G + a0)), (1, .int l1), (4, .int l4), (5, .int l5)]) : W p l e rmX10_keep s m args below meth c H locs 0 0 (MQ below (Qi G r z') args s 0 0 (AA G)) (F0 m 52 ls []) := by
  have hx := C.1
  have hb := C.2.1
  unfold bX10_keep_52 at h
  refine lv_aload_n hx hb dX10_keep_52 rfl (lv_at hl 0 rfl) ?_
  obtain ⟨b53, hg, h⟩ := ob h
  refine wz_gN C hW flX10_38 hg dX10_keep_53 ?_
  refine lv_iload_n hx hb dX10_keep_56 rfl (lv_at hl 1 rfl) ?_
  refine lv_dup2_11 hx hb dX10_keep_57 rfl rfl ?_
  obtain ⟨x58, hg, h⟩ := ob h
  refine wz_ald C hW hg dX10_keep_58 ?_
  refine lv_iload hx hb dX10_keep_59 (lv_at hl 3 rfl) ?_
  refine lv_iload hx hb dX10_keep_61 (lv_at hl 2 rfl) ?_
  refine lv_icmp_ge (tgt := 70) hx hb dX10_keep_63 (by decide) (fun c63 => ?_) (fun c63 => ?_)
  · have h := ite_t c63 h
    refine lv_iconst (v := 0) hx hb dX10_keep_70 (by decide) ?_
    refine lv_iadd hx hb dX10_keep_71 ?_
    obtain ⟨z72, hg, h⟩ := ob h
    refine wz_ast C hW hg dX10_keep_72 (fun H locs hW => ?_)
    refine lv_iconst (v := 1) hx hb dX10_keep_73 (by decide) ?_
    exact wz_zretE C hlk hr (Or.inr rfl) (so2 h).1 (so2 h).2 hW dX10_keep_74
  · have h := ite_f c63 h
    refine lv_iconst (v := 1) hx hb dX10_keep_66 (by decide) ?_
    refine lv_goto (tgt := 71) hx hb dX10_keep_67 (by decide) ?_
    refine lv_iadd hx hb dX10_keep_71 ?_
    obtain ⟨z72, hg, h⟩ := ob h
    refine wz_ast C hW hg dX10_keep_72 (fun H locs hW => ?_)
    refine lv_iconst (v := 1) hx hb dX10_keep_73 (by decide) ?_
    exact wz_zretE C hlk hr (Or.inr rfl) (so2 h).1 (so2 h).2 hW dX10_keep_74
def bX10_keep_11 (k11 : Nat → Int32 → Int32 → Int32 → Int32 → Int32 → Int32 → AH → Option (Int32 × AH)) (a0 : Nat) (l1 : Int32) (l2 : Int32) (l3 : Int32) (l4 : Int32) (l5 : Int32) (l6 : Int32) (z : AH) : Option (Int32 × AH) :=
  if l3 ≤ l6 then (
    bX10_keep_52 a0 l1 l4 l5 z
  ) else (
    if l4 ≤ l5 then (
      bX10_keep_52 a0 l1 l4 l5 z
    ) else (
      (gN 9 19 z a0).bind fun b25 =>
      (gN 9 20 z a0).bind fun b39 =>
      (ixI 0 z b39 l6).bind fun x44 =>
      (stI 0 z b25 ((l2 + (l4 * l6)) + l5) x44).bind fun z45 =>
      nm (l6 + (1 : Int32)) fun v46 =>
      k11 a0 l1 l2 l3 l4 l5 v46 z45
    )
  )
set_option maxHeartbeats 4000000 in
set_option maxRecDepth 100000 in
theorem kbX10_keep_11 {p : Program} {l : Launch} {e : Env} {s : State} {m : MethodId} {args : Array Value} {below : List Frame} {meth : Method} {c : Code} {G : GW} {r : Int32} {z' : AH} (C : Cx p m c cX10_keep 7 s args RX10 G) (hlk : meth.locks = false) (hr : meth.sig.returnType = (some .boolean)) (k11 : Nat → Int32 → Int32 → Int32 → Int32 → Int32 → Int32 → AH → Option (Int32 × AH)) (hk11 : ∀ (a0 : Nat) (l1 : Int32) (l2 : Int32) (l3 : Int32) (l4 : Int32) (l5 : Int32) (l6 : Int32) (z : AH) (H : Heap) (locs : List Loc) (ls : Array Slot), k11 a0 l1 l2 l3 l4 l5 l6 z = some (r, z') → Wb G z s H locs → lv_has ls 7 [(0, .ref (gB G + a0)), (1, .int l1), (2, .int l2), (3, .int l3), (4, .int l4), (5, .int l5), (6, .int l6)] → W p l e rmX10_keep s m args below meth c H locs 0 0 (MQ below (Qi G r z') args s 0 0 (AA G)) (F0 m 11 ls [])) (a0 : Nat) (l1 : Int32) (l2 : Int32) (l3 : Int32) (l4 : Int32) (l5 : Int32) (l6 : Int32) {z : AH} {H : Heap} {locs : List Loc} {ls : Array Slot} (h : bX10_keep_11 k11 a0 l1 l2 l3 l4 l5 l6 z = some (r, z')) (hW : Wb G z s H locs) (hl : lv_has ls 7 [(0, .ref (gB G + a0)), (1, .int l1), (2, .int l2), (3, .int l3), (4, .int l4), (5, .int l5), (6, .int l6)]) : W p l e rmX10_keep s m args below meth c H locs 0 0 (MQ below (Qi G r z') args s 0 0 (AA G)) (F0 m 11 ls []) := by
  have hx := C.1
  have hb := C.2.1
  unfold bX10_keep_11 at h
  refine lv_iload hx hb dX10_keep_11 (lv_at hl 6 rfl) ?_
  refine lv_iload_n hx hb dX10_keep_13 rfl (lv_at hl 3 rfl) ?_
  refine lv_icmp_ge (tgt := 52) hx hb dX10_keep_14 (by decide) (fun c14 => ?_) (fun c14 => ?_)
  · have h := ite_t c14 h
    exact kbX10_keep_52 C hlk hr a0 l1 l4 l5 h hW (lv_sub hl [0, 1, 4, 5] rfl)
  · have h := ite_f c14 h
    refine lv_iload hx hb dX10_keep_17 (lv_at hl 5 rfl) ?_
    refine lv_iload hx hb dX10_keep_19 (lv_at hl 4 rfl) ?_
    refine lv_icmp_ge (tgt := 52) hx hb dX10_keep_21 (by decide) (fun c21 => ?_) (fun c21 => ?_)
    · have h := ite_t c21 h
      exact kbX10_keep_52 C hlk hr a0 l1 l4 l5 h hW (lv_sub hl [0, 1, 4, 5] rfl)
    · have h := ite_f c21 h
      refine lv_aload_n hx hb dX10_keep_24 rfl (lv_at hl 0 rfl) ?_
      obtain ⟨b25, hg, h⟩ := ob h
      refine wz_gN C hW flX10_38 hg dX10_keep_25 ?_
      refine lv_iload_n hx hb dX10_keep_28 rfl (lv_at hl 2 rfl) ?_
      refine lv_iload hx hb dX10_keep_29 (lv_at hl 4 rfl) ?_
      refine lv_iload hx hb dX10_keep_31 (lv_at hl 6 rfl) ?_
      refine lv_imul hx hb dX10_keep_33 ?_
      refine lv_iadd hx hb dX10_keep_34 ?_
      refine lv_iload hx hb dX10_keep_35 (lv_at hl 5 rfl) ?_
      refine lv_iadd hx hb dX10_keep_37 ?_
      refine lv_aload_n hx hb dX10_keep_38 rfl (lv_at hl 0 rfl) ?_
      obtain ⟨b39, hg, h⟩ := ob h
      refine wz_gN C hW flX10_41 hg dX10_keep_39 ?_
      refine lv_iload hx hb dX10_keep_42 (lv_at hl 6 rfl) ?_
      obtain ⟨x44, hg, h⟩ := ob h
      refine wz_ald C hW hg dX10_keep_44 ?_
      obtain ⟨z45, hg, h⟩ := ob h
      refine wz_ast C hW hg dX10_keep_45 (fun H locs hW => ?_)
      obtain ⟨v46, ev46⟩ : ∃ y : Int32, y = (l6 + (1 : Int32)) := ⟨_, rfl⟩
      have h := nm_to h ev46
      refine lv_iinc (v := v46) (lv' := [(6, .int v46), (0, .ref (gB G + a0)), (1, .int l1), (2, .int l2), (3, .int l3), (4, .int l4), (5, .int l5)]) hx hb dX10_keep_46 hl (k := 6) rfl (by rw [ev46]; rfl) (by decide) rfl (fun ls hl => ?_)
      refine lv_goto (tgt := 11) hx hb dX10_keep_49 (by decide) ?_
      exact hk11 a0 l1 l2 l3 l4 l5 v46 z45 _ _ _ h hW (lv_sub hl [1, 2, 3, 4, 5, 6, 0] rfl)
def fX10_keep_11 : Nat → Nat → Int32 → Int32 → Int32 → Int32 → Int32 → Int32 → AH → Option (Int32 × AH)
  | 0, _, _, _, _, _, _, _, _ => none
  | n + 1, a0, l1, l2, l3, l4, l5, l6, z => bX10_keep_11 (fX10_keep_11 n) a0 l1 l2 l3 l4 l5 l6 z
theorem klX10_keep_11 {p : Program} {l : Launch} {e : Env} {s : State} {m : MethodId} {args : Array Value} {below : List Frame} {meth : Method} {c : Code} {G : GW} {r : Int32} {z' : AH} (C : Cx p m c cX10_keep 7 s args RX10 G) (hlk : meth.locks = false) (hr : meth.sig.returnType = (some .boolean)) : ∀ (n : Nat) (a0 : Nat) (l1 : Int32) (l2 : Int32) (l3 : Int32) (l4 : Int32) (l5 : Int32) (l6 : Int32) (z : AH) (H : Heap) (locs : List Loc) (ls : Array Slot), fX10_keep_11 n a0 l1 l2 l3 l4 l5 l6 z = some (r, z') → Wb G z s H locs → lv_has ls 7 [(0, .ref (gB G + a0)), (1, .int l1), (2, .int l2), (3, .int l3), (4, .int l4), (5, .int l5), (6, .int l6)] → W p l e rmX10_keep s m args below meth c H locs 0 0 (MQ below (Qi G r z') args s 0 0 (AA G)) (F0 m 11 ls []) := by
  intro n
  induction n with
  | zero => intro a0 l1 l2 l3 l4 l5 l6 z H locs ls h; have h : (none : Option (Int32 × AH)) = some (r, z') := h; cases h
  | succ n ih => intro a0 l1 l2 l3 l4 l5 l6 z H locs ls h hW hl; exact kbX10_keep_11 C hlk hr (fX10_keep_11 n) (fun a0 l1 l2 l3 l4 l5 l6 z H locs ls h hW hl => ih a0 l1 l2 l3 l4 l5 l6 z H locs ls h hW hl) a0 l1 l2 l3 l4 l5 l6 h hW hl
def fX10_keep (a0 : Nat) (l1 : Int32) (l2 : Int32) (l3 : Int32) (l4 : Int32) (z : AH) : Option (Int32 × AH) :=
  if isO 9 z a0 = true then
    (gN 9 19 z a0).bind fun b1 =>
    (ixI 0 z b1 l1).bind fun x5 =>
    fX10_keep_11 FU a0 l1 l2 l3 l4 x5 (0 : Int32) z
  else none
set_option maxHeartbeats 4000000 in
set_option maxRecDepth 100000 in
theorem ctX10_keep (l : Launch) (G : GW) (a0 : Nat) (l1 : Int32) (l2 : Int32) (l3 : Int32) (l4 : Int32) (z : AH) {r : Int32} {z' : AH} (h : fX10_keep a0 l1 l2 l3 l4 z = some (r, z')) : Met l yX10_keep (wy yX10_keep cX10_keep 7 (some .boolean)) rmX10_keep (Pz G [.ref (gB G + a0), .int l1, .int l2, .int l3, .int l4] z) (Qi G r z') 0 0 (AA G) := by
  refine wz_ent (own := RX10) (by decide +kernel) rfl (fun p e s m below meth c ls C hlk hr hin hW hl => ?_) (Nat.le_of_ble_eq_true rfl)
  have hl : lv_has ls 7 [(0, .ref (gB G + a0)), (1, .int l1), (2, .int l2), (3, .int l3), (4, .int l4)] := hl
  have hx := C.1
  have hb := C.2.1
  unfold fX10_keep at h
  obtain ⟨-, h⟩ := ck h
  refine lv_aload_n hx hb dX10_keep_0 rfl (lv_at hl 0 rfl) ?_
  obtain ⟨b1, hg, h⟩ := ob h
  refine wz_gN C hW flX10_38 hg dX10_keep_1 ?_
  refine lv_iload_n hx hb dX10_keep_4 rfl (lv_at hl 1 rfl) ?_
  obtain ⟨x5, hg, h⟩ := ob h
  refine wz_ald C hW hg dX10_keep_5 ?_
  refine lv_istore (lv' := [(5, .int x5), (0, .ref (gB G + a0)), (1, .int l1), (2, .int l2), (3, .int l3), (4, .int l4)]) hx hb dX10_keep_6 hl (by decide) rfl (fun ls hl => ?_)
  refine lv_iconst (v := 0) hx hb dX10_keep_8 (by decide) ?_
  refine lv_istore (lv' := [(6, .int (0 : Int32)), (5, .int x5), (0, .ref (gB G + a0)), (1, .int l1), (2, .int l2), (3, .int l3), (4, .int l4)]) hx hb dX10_keep_9 hl (by decide) rfl (fun ls hl => ?_)
  exact klX10_keep_11 C hlk hr FU a0 l1 l2 l3 l4 x5 (0 : Int32) z _ _ _ h hW (lv_sub hl [2, 3, 4, 5, 6, 1, 0] rfl)
