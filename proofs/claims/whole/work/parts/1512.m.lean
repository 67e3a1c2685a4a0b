theorem dX10_wrong_28 : decode cX10_wrong 28 = .ok (.istore 5, 2) := by decide +kernel
theorem dX10_wrong_30 : decode cX10_wrong 30 = .ok (.iconst 0, 1) := by decide +kernel
theorem dX10_wrong_31 : decode cX10_wrong 31 = .ok (.istore 6, 2) := by decide +kernel
theorem dX10_wrong_33 : decode cX10_wrong 33 = .ok (.iload 6, 2) := by decide +kernel
theorem dX10_wrong_35 : decode cX10_wrong 35 = .ok (.aload_n 0, 1) := by decide +kernel
theorem dX10_wrong_36 : decode cX10_wrong 36 = .ok (.invokevirtual 438, 3) := by decide +kernel
theorem dX10_wrong_39 : decode cX10_wrong 39 = .ok (.if_icmp .ge 43, 3) := by decide +kernel
theorem dX10_wrong_42 : decode cX10_wrong 42 = .ok (.aload_n 0, 1) := by decide +kernel
theorem dX10_wrong_43 : decode cX10_wrong 43 = .ok (.iload_n 2, 1) := by decide +kernel
theorem dX10_wrong_44 : decode cX10_wrong 44 = .ok (.iload 6, 2) := by decide +kernel
theorem dX10_wrong_46 : decode cX10_wrong 46 = .ok (.invokevirtual 450, 3) := by decide +kernel
theorem dX10_wrong_49 : decode cX10_wrong 49 = .ok (.istore 7, 2) := by decide +kernel
theorem dX10_wrong_51 : decode cX10_wrong 51 = .ok (.iload 7, 2) := by decide +kernel
theorem dX10_wrong_53 : decode cX10_wrong 53 = .ok (.iload 5, 2) := by decide +kernel
theorem dX10_wrong_55 : decode cX10_wrong 55 = .ok (.if_icmp .le 8, 3) := by decide +kernel
theorem dX10_wrong_58 : decode cX10_wrong 58 = .ok (.iload 6, 2) := by decide +kernel
theorem dX10_wrong_60 : decode cX10_wrong 60 = .ok (.goto 5, 3) := by decide +kernel
theorem dX10_wrong_63 : decode cX10_wrong 63 = .ok (.iload 4, 2) := by decide +kernel
theorem dX10_wrong_65 : decode cX10_wrong 65 = .ok (.istore 4, 2) := by decide +kernel
theorem dX10_wrong_67 : decode cX10_wrong 67 = .ok (.iload 5, 2) := by decide +kernel
theorem dX10_wrong_69 : decode cX10_wrong 69 = .ok (.iload 7, 2) := by decide +kernel
theorem dX10_wrong_71 : decode cX10_wrong 71 = .ok (.invokestatic 155, 3) := by decide +kernel
theorem dX10_wrong_74 : decode cX10_wrong 74 = .ok (.istore 5, 2) := by decide +kernel
theorem dX10_wrong_76 : decode cX10_wrong 76 = .ok (.iinc 6 1, 3) := by decide +kernel
theorem dX10_wrong_79 : decode cX10_wrong 79 = .ok (.goto (-46), 3) := by decide +kernel
theorem dX10_wrong_82 : decode cX10_wrong 82 = .ok (.iload_n 3, 1) := by decide +kernel
theorem dX10_wrong_83 : decode cX10_wrong 83 = .ok (.ifCond .eq 8, 3) := by decide +kernel
theorem dX10_wrong_86 : decode cX10_wrong 86 = .ok (.iload 5, 2) := by decide +kernel
theorem dX10_wrong_88 : decode cX10_wrong 88 = .ok (.goto 5, 3) := by decide +kernel
theorem dX10_wrong_91 : decode cX10_wrong 91 = .ok (.iload 4, 2) := by decide +kernel
theorem dX10_wrong_93 : decode cX10_wrong 93 = .ok (.ireturn, 1) := by decide +kernel
abbrev rmX10_wrong : Room := { frames := 3, cells := 0, slots := 0, locals := 72 }
def bX10_wrong_65 (k33 : Nat → Int32 → Int32 → Int32 → Int32 → Int32 → AH → Option (Int32 × AH)) (a0 : Nat) (l2 : Int32) (l3 : Int32) (l5 : Int32) (l6 : Int32) (l7 : Int32) (s0 : Int32) (z : AH) : Option (Int32 × AH) :=
  nm (fX10_greater l5 l7) fun v74 =>
  nm (l6 + (1 : Int32)) fun v76 =>
  k33 a0 l2 l3 s0 v74 v76 z
set_option maxHeartbeats 4000000 in
set_option maxRecDepth 100000 in
theorem kbX10_wrong_65 {p : Program} {l : Launch} {e : Env} {s : State} {m : MethodId} {args : Array Value} {below : List Frame} {meth : Method} {c : Code} {G : GW} {r : Int32} {z' : AH} (C : Cx p m c cX10_wrong 8 s args RX10 G) (hlk : meth.locks = false) (hr : meth.sig.returnType = (some .int)) (k33 : Nat → Int32 → Int32 → Int32 → Int32 → Int32 → AH → Option (Int32 × AH)) (hk33 : ∀ (a0 : Nat) (l2 : Int32) (l3 : Int32) (l4 : Int32) (l5 : Int32) (l6 : Int32) (z : AH) (H : Heap) (locs : List Loc) (ls : Array Slot), k33 a0 l2 l3 l4 l5 l6 z = some (r, z') → Wb G z s H locs → lv_has ls 8 [(0, .ref (gB G + a0)), (2, .int l2), (3, .int l3), (4, .int l4), (5, .int l5), (6, .int l6)] → W p l e rmX10_wrong s m args below meth c H locs 0 0 (MQ below (Qi G r z') args s 0 0 (AA G)) (F0 m 33 ls [])) (a0 : Nat) (l2 : Int32) (l3 : Int32) (l5 : Int32) (l6 : Int32) (l7 : Int32) (s0 : Int32) {z : AH} {H : Heap} {locs : List Loc} {ls : Array Slot} (h : bX10_wrong_65 k33 a0 l2 l3 l5 l6 l7 s0 z = some (r, z')) (hW : Wb G z s H locs) (hl : lv_has ls 8 [(0, .ref (gB G + a0)), (2, .int l2), (3, .int l3), (5, .int l5), (6, .int l6), (7, .int l7)]) : W p l e rmX10_wrong s m args below meth c H locs 0 0 (MQ below (Qi G r z') args s 0 0 (AA G)) (F0 m 65 ls [.int s0]) := by
  have hx := C.1
  have hb := C.2.1
  unfold bX10_wrong_65 at h
  refine lv_istore (lv' := [(4, .int s0), (0, .ref (gB G + a0)), (2, .int l2), (3, .int l3), (5, .int l5), (6, .int l6), (7, .int l7)]) hx hb dX10_wrong_65 hl (by decide) rfl (fun ls hl => ?_)
  refine lv_iload hx hb dX10_wrong_67 (lv_at hl 4 rfl) ?_
  refine lv_iload hx hb dX10_wrong_69 (lv_at hl 6 rfl) ?_
  refine wz_rI (c' := 0) (s' := 0) hW (wz_runS (rest := []) C hW lTX10_155 (ctX10_greater l G l5 l7 z rfl) ⟨⟨rfl, rfl⟩, Nat.le_of_ble_eq_true rfl, Nat.le_of_ble_eq_true rfl⟩ rfl hl.1 rfl (Nat.le_of_ble_eq_true rfl) dX10_wrong_71 ⟨Nat.le_of_ble_eq_true rfl, Nat.le_of_ble_eq_true rfl⟩) rfl rfl (fun H locs hW => ?_)
  refine lv_topi (fun v74 ev74 => ?_)
  have h := nm_to h ev74
  refine lv_istore (lv' := [(5, .int v74), (4, .int s0), (0, .ref (gB G + a0)), (2, .int l2), (3, .int l3), (6, .int l6), (7, .int l7)]) hx hb dX10_wrong_74 hl (by decide) rfl (fun ls hl => ?_)
  obtain ⟨v76, ev76⟩ : ∃ y : Int32, y = (l6 + (1 : Int32)) := ⟨_, rfl⟩
  have h := nm_to h ev76
  refine lv_iinc (v := v76) (lv' := [(6, .int v76), (5, .int v74), (4, .int s0), (0, .ref (gB G + a0)), (2, .int l2), (3, .int l3), (7, .int l7)]) hx hb dX10_wrong_76 hl (k := 5) rfl (by rw [ev76]; rfl) (by decide) rfl (fun ls hl => ?_)
  refine lv_goto (tgt := 33) hx hb dX10_wrong_79 (by decide) ?_
  exact hk33 a0 l2 l3 s0 v74 v76 z _ _ _ h hW (lv_sub hl [3, 4, 5, 2, 1, 0] rfl)
def bX10_wrong_33 (k33 : Nat → Int32 → Int32 → Int32 → Int32 → Int32 → AH → Option (Int32 × AH)) (a0 : Nat) (l2 : Int32) (l3 : Int32) (l4 : Int32) (l5 : Int32) (l6 : Int32) (z : AH) : Option (Int32 × AH) :=
  (fX10_views a0 z).bind fun x36 =>
  if x36 ≤ l6 then (
    if l3 = (0 : Int32) then (
      some (l4, z)
    ) else (
      some (l5, z)
    )
  ) else (
    b2 (fX10_findCells a0 l2 l6 z) fun x46 z46 =>
    if x46 ≤ l5 then (
      bX10_wrong_65 k33 a0 l2 l3 l5 l6 x46 l4 z46
    ) else (
      bX10_wrong_65 k33 a0 l2 l3 l5 l6 x46 l6 z46
    )
  )
set_option maxHeartbeats 4000000 in
set_option maxRecDepth 100000 in
theorem kbX10_wrong_33 {p : Program} {l : Launch} {e : Env} {s : State} {m : MethodId} {args : Array Value} {below : List Frame} {meth : Method} {c : Code} {G : GW} {r : Int32} {z' : AH} (C : Cx p m c cX10_wrong 8 s args RX10 G) (hlk : meth.locks = false) (hr : meth.sig.returnType = (some .int)) (k33 : Nat → Int32 → Int32 → Int32 → Int32 → Int32 → AH → Option (Int32 × AH)) (hk33 : ∀ (a0 : Nat) (l2 : Int32) (l3 : Int32) (l4 : Int32) (l5 : Int32) (l6 : Int32) (z : AH) (H : Heap) (locs : List Loc) (ls : Array Slot), k33 a0 l2 l3 l4 l5 l6 z = some (r, z') → Wb G z s H locs → lv_has ls 8 [(0, .ref (gB G + a0)), (2, .int l2), (3, .int l3), (4, .int l4), (5, .int l5), (6, .int l6)] → W p l e rmX10_wrong s m args below meth c H locs 0 0 (MQ below (Qi G r z') args s 0 0 (AA G)) (F0 m 33 ls [])) (a0 : Nat) (l2 : Int32) (l3 : Int32) (l4 : Int32) (l5 : Int32) (l6 : Int32) {z : AH} {H : Heap} {locs : List Loc} {ls : Array Slot} (h : bX10_wrong_33 k33 a0 l2 l3 l4 l5 l6 z = some (r, z')) (hW : Wb G z s H locs) (hl : lv_has ls 8 [(0, .ref (gB G + a0)), (2, .int l2), (3, .int l3), (4, .int l4), (5, .int l5), (6, .int l6)]) : W p l e rmX10_wrong s m args below meth c H locs 0 0 (MQ below (Qi G r z') args s 0 0 (AA G)) (F0 m 33 ls []) := by
  have hx := C.1
  have hb := C.2.1
  unfold bX10_wrong_33 at h
  refine lv_iload hx hb dX10_wrong_33 (lv_at hl 5 rfl) ?_
  refine lv_aload_n hx hb dX10_wrong_35 rfl (lv_at hl 0 rfl) ?_
  obtain ⟨x36, hq, h⟩ := ob h
  refine wz_rI (c' := 0) (s' := 0) hW (wz_runV (rest := [.int l6]) C hW lVX10_438 (ck hq).1 rfl (ctX10_views l G a0 z hq) ⟨⟨rfl, rfl⟩, Nat.le_of_ble_eq_true rfl, Nat.le_of_ble_eq_true rfl⟩ rfl hl.1 rfl (Nat.le_of_ble_eq_true rfl) dX10_wrong_36 ⟨Nat.le_of_ble_eq_true rfl, Nat.le_of_ble_eq_true rfl⟩) rfl rfl (fun H locs hW => ?_)
  refine lv_icmp_ge (tgt := 82) hx hb dX10_wrong_39 (by decide) (fun c39 => ?_) (fun c39 => ?_)
  · have h := ite_t c39 h
    refine lv_iload_n hx hb dX10_wrong_82 rfl (lv_at hl 2 rfl) ?_
    refine lv_if_eq (tgt := 91) hx hb dX10_wrong_83 (by decide) (fun c83 => ?_) (fun c83 => ?_)
    · have h := ite_t c83 h
      refine lv_iload hx hb dX10_wrong_91 (lv_at hl 3 rfl) ?_
      exact wz_iretE C hlk hr (so2 h).1 (so2 h).2 hW dX10_wrong_93
    · have h := ite_f c83 h
      refine lv_iload hx hb dX10_wrong_86 (lv_at hl 4 rfl) ?_
      refine lv_goto (tgt := 93) hx hb dX10_wrong_88 (by decide) ?_
      exact wz_iretE C hlk hr (so2 h).1 (so2 h).2 hW dX10_wrong_93
  · have h := ite_f c39 h
    refine lv_aload_n hx hb dX10_wrong_42 rfl (lv_at hl 0 rfl) ?_
    refine lv_iload_n hx hb dX10_wrong_43 rfl (lv_at hl 1 rfl) ?_
    refine lv_iload hx hb dX10_wrong_44 (lv_at hl 5 rfl) ?_
    obtain ⟨x46, z46, hq, h⟩ := ob2 h
    refine wz_rI (c' := 0) (s' := 0) hW (wz_runV (rest := []) C hW lVX10_450 (ck hq).1 rfl (ctX10_findCells l G a0 l2 l6 z hq) ⟨⟨rfl, rfl⟩, Nat.le_of_ble_eq_true rfl, Nat.le_of_ble_eq_true rfl⟩ rfl hl.1 rfl (Nat.le_of_ble_eq_true rfl) dX10_wrong_46 ⟨Nat.le_of_ble_eq_true rfl, Nat.le_of_ble_eq_true rfl⟩) rfl rfl (fun H locs hW => ?_)
    refine lv_istore (lv' := [(7, .int x46), (0, .ref (gB G + a0)), (2, .int l2), (3, .int l3), (4, .int l4), (5, .int l5), (6, .int l6)]) hx hb dX10_wrong_49 hl (by decide) rfl (fun ls hl => ?_)
    refine lv_iload hx hb dX10_wrong_51 (lv_at hl 0 rfl) ?_
    refine lv_iload hx hb dX10_wrong_53 (lv_at hl 5 rfl) ?_
    refine lv_icmp_le (tgt := 63) hx hb dX10_wrong_55 (by decide) (fun c55 => ?_) (fun c55 => ?_)
    · have h := ite_t c55 h
      refine lv_iload hx hb dX10_wrong_63 (lv_at hl 4 rfl) ?_
      exact kbX10_wrong_65 C hlk hr k33 hk33 a0 l2 l3 l5 l6 x46 l4 h hW (lv_sub hl [1, 2, 3, 5, 6, 0] rfl)
    · have h := ite_f c55 h
      refine lv_iload hx hb dX10_wrong_58 (lv_at hl 6 rfl) ?_
      refine lv_goto (tgt := 65) hx hb dX10_wrong_60 (by decide) ?_
      exact kbX10_wrong_65 C hlk hr k33 hk33 a0 l2 l3 l5 l6 x46 l6 h hW (lv_sub hl [1, 2, 3, 5, 6, 0] rfl)
def fX10_wrong_33 : Nat → Nat → Int32 → Int32 → Int32 → Int32 → Int32 → AH → Option (Int32 × AH)
  | 0, _, _, _, _, _, _, _ => none
  | n + 1, a0, l2, l3, l4, l5, l6, z => bX10_wrong_33 (fX10_wrong_33 n) a0 l2 l3 l4 l5 l6 z
theorem klX10_wrong_33 {p : Program} {l : Launch} {e : Env} {s : State} {m : MethodId} {args : Array Value} {below : List Frame} {meth : Method} {c : Code} {G : GW} {r : Int32} {z' : AH} (C : Cx p m c cX10_wrong 8 s args RX10 G) (hlk : meth.locks = false) (hr : meth.sig.returnType = (some .int)) : ∀ (n : Nat) (a0 : Nat) (l2 : Int32) (l3 : Int32) (l4 : Int32) (l5 : Int32) (l6 : Int32) (z : AH) (H : Heap) (locs : List Loc) (ls : Array Slot), fX10_wrong_33 n a0 l2 l3 l4 l5 l6 z = some (r, z') → Wb G z s H locs → lv_has ls 8 [(0, .ref (gB G + a0)), (2, .int l2), (3, .int l3), (4, .int l4), (5, .int l5), (6, .int l6)] → W p l e rmX10_wrong s m args below meth c H locs 0 0 (MQ below (Qi G r z') args s 0 0 (AA G)) (F0 m 33 ls []) := by
  intro n
  induction n with
  | zero => intro a0 l2 l3 l4 l5 l6 z H locs ls h; have h : (none : Option (Int32 × AH)) = some (r, z') := h; cases h
  | succ n ih => intro a0 l2 l3 l4 l5 l6 z H locs ls h hW hl; exact kbX10_wrong_33 C hlk hr (fX10_wrong_33 n) (fun a0 l2 l3 l4 l5 l6 z H locs ls h hW hl => ih a0 l2 l3 l4 l5 l6 z H locs ls h hW hl) a0 l2 l3 l4 l5 l6 h hW hl
def fX10_wrong (a0 : Nat) (l1 : Int32) (l2 : Int32) (l3 : Int32) (z : AH) : Option (Int32 × AH) :=
  if isO 9 z a0 = true then
    (pF 9 0 z a0 (.int (0 : Int32))).bind fun z2 =>
    if (fX10_in l2 (0 : Int32) (3 : Int32)) = (0 : Int32) then (
      some ((-1 : Int32), z2)
    ) else (
      b2 (fX10_hasSight a0 l1 z2) fun x16 z16 =>
      if x16 = (0 : Int32) then (
        some ((-1 : Int32), z16)
      ) else (
        fX10_wrong_33 FU a0 l2 l3 (-1 : Int32) (-1 : Int32) (0 : Int32) z16
      )
    )
  else none
set_option maxHeartbeats 4000000 in
set_option maxRecDepth 100000 in
theorem ctX10_wrong (l : Launch) (G : GW) (a0 : Nat) (l1 : Int32) (l2 : Int32) (l3 : Int32) (z : AH) {r : Int32} {z' : AH} (h : fX10_wrong a0 l1 l2 l3 z = some (r, z')) : Met l yX10_wrong (wy yX10_wrong cX10_wrong 8 (some .int)) rmX10_wrong (Pz G [.ref (gB G + a0), .int l1, .int l2, .int l3] z) (Qi G r z') 0 0 (AA G) := by
  refine wz_ent (own := RX10) (by decide +kernel) rfl (fun p e s m below meth c ls C hlk hr hin hW hl => ?_) (Nat.le_of_ble_eq_true rfl)
  have hl : lv_has ls 8 [(0, .ref (gB G + a0)), (1, .int l1), (2, .int l2), (3, .int l3)] := hl
  have hx := C.1
  have hb := C.2.1
  unfold fX10_wrong at h
  obtain ⟨-, h⟩ := ck h
  refine lv_aload_n hx hb dX10_wrong_0 rfl (lv_at hl 0 rfl) ?_
  refine lv_iconst (v := 0) hx hb dX10_wrong_1 (by decide) ?_
  obtain ⟨z2, hg, h⟩ := ob h
  refine wz_put (v := (.int (0 : Int32))) C hW flX10_81 rfl rfl hg dX10_wrong_2 (fun H locs hW => ?_)
  refine lv_iload_n hx hb dX10_wrong_5 rfl (lv_at hl 2 rfl) ?_
  refine lv_iconst (v := 0) hx hb dX10_wrong_6 (by decide) ?_
  refine lv_iconst (v := 3) hx hb dX10_wrong_7 (by decide) ?_
  refine wz_rI (c' := 0) (s' := 0) hW (wz_runS (rest := []) C hW lTX10_93 (ctX10_in l G l2 (0 : Int32) (3 : Int32) z2 rfl) ⟨⟨rfl, rfl⟩, Nat.le_of_ble_eq_true rfl, Nat.le_of_ble_eq_true rfl⟩ rfl hl.1 rfl (Nat.le_of_ble_eq_true rfl) dX10_wrong_8 ⟨Nat.le_of_ble_eq_true rfl, Nat.le_of_ble_eq_true rfl⟩) rfl rfl (fun H locs hW => ?_)
  refine lv_if_eq (tgt := 22) hx hb dX10_wrong_11 (by decide) (fun c11 => ?_) (fun c11 => ?_)
  · have h := ite_t c11 h
    refine lv_iconst (v := -1) hx hb dX10_wrong_22 (by decide) ?_
    exact wz_iretE C hlk hr (so2 h).1 (so2 h).2 hW dX10_wrong_23
  · have h := ite_f c11 h
    refine lv_aload_n hx hb dX10_wrong_14 rfl (lv_at hl 0 rfl) ?_
    refine lv_iload_n hx hb dX10_wrong_15 rfl (lv_at hl 1 rfl) ?_
    obtain ⟨x16, z16, hq, h⟩ := ob2 h
    refine wz_rI (c' := 0) (s' := 0) hW (wz_runV (rest := []) C hW lVX10_435 (ck hq).1 rfl (ctX10_hasSight l G a0 l1 z2 hq) ⟨⟨rfl, rfl⟩, Nat.le_of_ble_eq_true rfl, Nat.le_of_ble_eq_true rfl⟩ rfl hl.1 rfl (Nat.le_of_ble_eq_true rfl) dX10_wrong_16 ⟨Nat.le_of_ble_eq_true rfl, Nat.le_of_ble_eq_true rfl⟩) rfl rfl (fun H locs hW => ?_)
    refine lv_if_ne (tgt := 24) hx hb dX10_wrong_19 (by decide) (fun c19 => ?_) (fun c19 => ?_)
    · have h := ite_f c19 h
      refine lv_iconst (v := -1) hx hb dX10_wrong_24 (by decide) ?_
      refine lv_istore (lv' := [(4, .int (-1 : Int32)), (0, .ref (gB G + a0)), (1, .int l1), (2, .int l2), (3, .int l3)]) hx hb dX10_wrong_25 hl (by decide) rfl (fun ls hl => ?_)
      refine lv_iconst (v := -1) hx hb dX10_wrong_27 (by decide) ?_
      refine lv_istore (lv' := [(5, .int (-1 : Int32)), (4, .int (-1 : Int32)), (0, .ref (gB G + a0)), (1, .int l1), (2, .int l2), (3, .int l3)]) hx hb dX10_wrong_28 hl (by decide) rfl (fun ls hl => ?_)
      refine lv_iconst (v := 0) hx hb dX10_wrong_30 (by decide) ?_
      refine lv_istore (lv' := [(6, .int (0 : Int32)), (5, .int (-1 : Int32)), (4, .int (-1 : Int32)), (0, .ref (gB G + a0)), (1, .int l1), (2, .int l2), (3, .int l3)]) hx hb dX10_wrong_31 hl (by decide) rfl (fun ls hl => ?_)
      exact klX10_wrong_33 C hlk hr FU a0 l2 l3 (-1 : Int32) (-1 : Int32) (0 : Int32) z16 _ _ _ h hW (lv_sub hl [3, 5, 6, 2, 1, 0] rfl)
    · have h := ite_t c19 h
      refine lv_iconst (v := -1) hx hb dX10_wrong_22 (by decide) ?_
      exact wz_iretE C hlk hr (so2 h).1 (so2 h).2 hW dX10_wrong_23
theorem dX10_tell_0 : decode cX10_tell 0 = .ok (.aload_n 0, 1) := by decide +kernel
theorem dX10_tell_1 : decode cX10_tell 1 = .ok (.iconst 0, 1) := by decide +kernel
theorem dX10_tell_2 : decode cX10_tell 2 = .ok (.putfield 81, 3) := by decide +kernel
theorem dX10_tell_5 : decode cX10_tell 5 = .ok (.aload_n 0, 1) := by decide +kernel
theorem dX10_tell_6 : decode cX10_tell 6 = .ok (.iload_n 1, 1) := by decide +kernel
theorem dX10_tell_7 : decode cX10_tell 7 = .ok (.invokevirtual 459, 3) := by decide +kernel
theorem dX10_tell_10 : decode cX10_tell 10 = .ok (.ifCond .ne 5, 3) := by decide +kernel
theorem dX10_tell_13 : decode cX10_tell 13 = .ok (.iconst (-1), 1) := by decide +kernel
theorem dX10_tell_14 : decode cX10_tell 14 = .ok (.ireturn, 1) := by decide +kernel
theorem dX10_tell_15 : decode cX10_tell 15 = .ok (.aload_n 0, 1) := by decide +kernel
theorem dX10_tell_16 : decode cX10_tell 16 = .ok (.invokevirtual 474, 3) := by decide +kernel
theorem dX10_tell_19 : decode cX10_tell 19 = .ok (.iconst (-1), 1) := by decide +kernel
theorem dX10_tell_20 : decode cX10_tell 20 = .ok (.istore_n 2, 1) := by decide +kernel
theorem dX10_tell_21 : decode cX10_tell 21 = .ok (.ldc_w 397, 3) := by decide +kernel
theorem dX10_tell_24 : decode cX10_tell 24 = .ok (.istore_n 3, 1) := by decide +kernel
theorem dX10_tell_25 : decode cX10_tell 25 = .ok (.iconst 0, 1) := by decide +kernel
theorem dX10_tell_26 : decode cX10_tell 26 = .ok (.istore 4, 2) := by decide +kernel
theorem dX10_tell_28 : decode cX10_tell 28 = .ok (.iload 4, 2) := by decide +kernel
theorem dX10_tell_30 : decode cX10_tell 30 = .ok (.bipush 8, 2) := by decide +kernel
theorem dX10_tell_32 : decode cX10_tell 32 = .ok (.if_icmp .ge 121, 3) := by decide +kernel
theorem dX10_tell_35 : decode cX10_tell 35 = .ok (.aload_n 0, 1) := by decide +kernel
theorem dX10_tell_36 : decode cX10_tell 36 = .ok (.getfield 468, 3) := by decide +kernel
theorem dX10_tell_39 : decode cX10_tell 39 = .ok (.ifCond .eq 114, 3) := by decide +kernel
theorem dX10_tell_42 : decode cX10_tell 42 = .ok (.iconst 0, 1) := by decide +kernel
theorem dX10_tell_43 : decode cX10_tell 43 = .ok (.istore 5, 2) := by decide +kernel
theorem dX10_tell_45 : decode cX10_tell 45 = .ok (.iconst 0, 1) := by decide +kernel
theorem dX10_tell_46 : decode cX10_tell 46 = .ok (.istore 6, 2) := by decide +kernel
theorem dX10_tell_48 : decode cX10_tell 48 = .ok (.iload 6, 2) := by decide +kernel
theorem dX10_tell_50 : decode cX10_tell 50 = .ok (.bipush 16, 2) := by decide +kernel
theorem dX10_tell_52 : decode cX10_tell 52 = .ok (.if_icmp .ge 43, 3) := by decide +kernel
theorem dX10_tell_55 : decode cX10_tell 55 = .ok (.iload 5, 2) := by decide +kernel
theorem dX10_tell_57 : decode cX10_tell 57 = .ok (.aload_n 0, 1) := by decide +kernel
theorem dX10_tell_58 : decode cX10_tell 58 = .ok (.getfield 468, 3) := by decide +kernel
theorem dX10_tell_61 : decode cX10_tell 61 = .ok (.iload 6, 2) := by decide +kernel
theorem dX10_tell_63 : decode cX10_tell 63 = .ok (.invokestatic 85, 3) := by decide +kernel
theorem dX10_tell_66 : decode cX10_tell 66 = .ok (.ifCond .eq 19, 3) := by decide +kernel
theorem dX10_tell_69 : decode cX10_tell 69 = .ok (.iload 6, 2) := by decide +kernel
theorem dX10_tell_71 : decode cX10_tell 71 = .ok (.aload_n 0, 1) := by decide +kernel
theorem dX10_tell_72 : decode cX10_tell 72 = .ok (.iload 4, 2) := by decide +kernel
theorem dX10_tell_74 : decode cX10_tell 74 = .ok (.invokevirtual 471, 3) := by decide +kernel
theorem dX10_tell_77 : decode cX10_tell 77 = .ok (.iand, 1) := by decide +kernel
theorem dX10_tell_78 : decode cX10_tell 78 = .ok (.ifCond .eq 7, 3) := by decide +kernel
theorem dX10_tell_81 : decode cX10_tell 81 = .ok (.iconst 1, 1) := by decide +kernel
theorem dX10_tell_82 : decode cX10_tell 82 = .ok (.goto 4, 3) := by decide +kernel
theorem dX10_tell_85 : decode cX10_tell 85 = .ok (.iconst 0, 1) := by decide +kernel
theorem dX10_tell_86 : decode cX10_tell 86 = .ok (.iadd, 1) := by decide +kernel
theorem dX10_tell_87 : decode cX10_tell 87 = .ok (.istore 5, 2) := by decide +kernel
theorem dX10_tell_89 : decode cX10_tell 89 = .ok (.iinc 6 1, 3) := by decide +kernel
theorem dX10_tell_92 : decode cX10_tell 92 = .ok (.goto (-44), 3) := by decide +kernel
theorem dX10_tell_95 : decode cX10_tell 95 = .ok (.aload_n 0, 1) := by decide +kernel
theorem dX10_tell_96 : decode cX10_tell 96 = .ok (.iload 4, 2) := by decide +kernel
theorem dX10_tell_98 : decode cX10_tell 98 = .ok (.invokevirtual 471, 3) := by decide +kernel
theorem dX10_tell_101 : decode cX10_tell 101 = .ok (.ifCond .ne 9, 3) := by decide +kernel
theorem dX10_tell_104 : decode cX10_tell 104 = .ok (.ldc_w 397, 3) := by decide +kernel
theorem dX10_tell_107 : decode cX10_tell 107 = .ok (.goto 18, 3) := by decide +kernel
theorem dX10_tell_110 : decode cX10_tell 110 = .ok (.iload 5, 2) := by decide +kernel
theorem dX10_tell_112 : decode cX10_tell 112 = .ok (.aload_n 0, 1) := by decide +kernel
theorem dX10_tell_113 : decode cX10_tell 113 = .ok (.getfield 468, 3) := by decide +kernel
theorem dX10_tell_116 : decode cX10_tell 116 = .ok (.invokestatic 480, 3) := by decide +kernel
theorem dX10_tell_119 : decode cX10_tell 119 = .ok (.iload 5, 2) := by decide +kernel
theorem dX10_tell_121 : decode cX10_tell 121 = .ok (.isub, 1) := by decide +kernel
theorem dX10_tell_122 : decode cX10_tell 122 = .ok (.invokestatic 155, 3) := by decide +kernel
theorem dX10_tell_125 : decode cX10_tell 125 = .ok (.istore 6, 2) := by decide +kernel
theorem dX10_tell_127 : decode cX10_tell 127 = .ok (.iload 6, 2) := by decide +kernel
theorem dX10_tell_129 : decode cX10_tell 129 = .ok (.iload_n 3, 1) := by decide +kernel
theorem dX10_tell_130 : decode cX10_tell 130 = .ok (.if_icmp .ge 8, 3) := by decide +kernel
theorem dX10_tell_133 : decode cX10_tell 133 = .ok (.iload 4, 2) := by decide +kernel
theorem dX10_tell_135 : decode cX10_tell 135 = .ok (.goto 4, 3) := by decide +kernel
theorem dX10_tell_138 : decode cX10_tell 138 = .ok (.iload_n 2, 1) := by decide +kernel
theorem dX10_tell_139 : decode cX10_tell 139 = .ok (.istore_n 2, 1) := by decide +kernel
theorem dX10_tell_140 : decode cX10_tell 140 = .ok (.iload_n 3, 1) := by decide +kernel
theorem dX10_tell_141 : decode cX10_tell 141 = .ok (.iload 6, 2) := by decide +kernel
theorem dX10_tell_143 : decode cX10_tell 143 = .ok (.invokestatic 324, 3) := by decide +kernel
theorem dX10_tell_146 : decode cX10_tell 146 = .ok (.istore_n 3, 1) := by decide +kernel
theorem dX10_tell_147 : decode cX10_tell 147 = .ok (.iinc 4 1, 3) := by decide +kernel
theorem dX10_tell_150 : decode cX10_tell 150 = .ok (.goto (-122), 3) := by decide +kernel
theorem dX10_tell_153 : decode cX10_tell 153 = .ok (.iload_n 2, 1) := by decide +kernel
theorem dX10_tell_154 : decode cX10_tell 154 = .ok (.ireturn, 1) := by decide +kernel
abbrev rmX10_tell : Room := { frames := 3, cells := 0, slots := 0, locals := 69 }
def bX10_tell_139 (k28 : Nat → Int32 → Int32 → Int32 → AH → Option (Int32 × AH)) (a0 : Nat) (l3 : Int32) (l4 : Int32) (l6 : Int32) (s0 : Int32) (z : AH) : Option (Int32 × AH) :=
  nm (fX10_lesser l3 l6) fun v146 =>
  nm (l4 + (1 : Int32)) fun v147 =>
  k28 a0 s0 v146 v147 z
set_option maxHeartbeats 4000000 in
set_option maxRecDepth 100000 in
theorem kbX10_tell_139 {p : Program} {l : Launch} {e : Env} {s : State} {m : MethodId} {args : Array Value} {below : List Frame} {meth : Method} {c : Code} {G : GW} {r : Int32} {z' : AH} (C : Cx p m c cX10_tell 7 s args RX10 G) (hlk : meth.locks = false) (hr : meth.sig.returnType = (some .int)) (k28 : Nat → Int32 → Int32 → Int32 → AH → Option (Int32 × AH)) (hk28 : ∀ (a0 : Nat) (l2 : Int32) (l3 : Int32) (l4 : Int32) (z : AH) (H : Heap) (locs : List Loc) (ls : Array Slot), k28 a0 l2 l3 l4 z = some (r, z') → Wb G z s H locs → lv_has ls 7 [(0, .ref (gB G + a0)), (2, .int l2), (3, .int l3), (4, .int l4)] → W p l e rmX10_tell s m args below meth c H locs 0 0 (MQ below (Qi G r z') args s 0 0 (AA G)) (F0 m 28 ls [])) (a0 : Nat) (l3 : Int32) (l4 : Int32) (l6 : Int32) (s0 : Int32) {z : AH} {H : Heap} {locs : List Loc} {ls : Array Slot} (h : bX10_tell_139 k28 a0 l3 l4 l6 s0 z = some (r, z')) (hW : Wb G z s H locs) (hl : lv_has ls 7 [(0, .ref (gB G + a0)), (3, .int l3), (4, .int l4), (6, .int l6)]) : W p l e rmX10_tell s m args below meth c H locs 0 0 (MQ below (Qi G r z') args s 0 0 (AA G)) (F0 m 139 ls [.int s0]) := by
  have hx := C.1
  have hb := C.2.1
  unfold bX10_tell_139 at h
  refine lv_istore_n (lv' := [(2, .int s0), (0, .ref (gB G + a0)), (3, .int l3), (4, .int l4), (6, .int l6)]) hx hb dX10_tell_139 rfl hl (by decide) rfl (fun ls hl => ?_)
  refine lv_iload_n hx hb dX10_tell_140 rfl (lv_at hl 2 rfl) ?_
  refine lv_iload hx hb dX10_tell_141 (lv_at hl 4 rfl) ?_
  refine wz_rI (c' := 0) (s' := 0) hW (wz_runS (rest := []) C hW lTX10_324 (ctX10_lesser l G l3 l6 z rfl) ⟨⟨rfl, rfl⟩, Nat.le_of_ble_eq_true rfl, Nat.le_of_ble_eq_true rfl⟩ rfl hl.1 rfl (Nat.le_of_ble_eq_true rfl) dX10_tell_143 ⟨Nat.le_of_ble_eq_true rfl, Nat.le_of_ble_eq_true rfl⟩) rfl rfl (fun H locs hW => ?_)
  refine lv_topi (fun v146 ev146 => ?_)
  have h := nm_to h ev146
  refine lv_istore_n (lv' := [(3, .int v146), (2, .int s0), (0, .ref (gB G + a0)), (4, .int l4), (6, .int l6)]) hx hb dX10_tell_146 rfl hl (by decide) rfl (fun ls hl => ?_)
  obtain ⟨v147, ev147⟩ : ∃ y : Int32, y = (l4 + (1 : Int32)) := ⟨_, rfl⟩
  have h := nm_to h ev147
  refine lv_iinc (v := v147) (lv' := [(4, .int v147), (3, .int v146), (2, .int s0), (0, .ref (gB G + a0)), (6, .int l6)]) hx hb dX10_tell_147 hl (k := 3) rfl (by rw [ev147]; rfl) (by decide) rfl (fun ls hl => ?_)
  refine lv_goto (tgt := 28) hx hb dX10_tell_150 (by decide) ?_
  exact hk28 a0 s0 v146 v147 z _ _ _ h hW (lv_sub hl [3, 2, 1, 0] rfl)
def bX10_tell_125 (k28 : Nat → Int32 → Int32 → Int32 → AH → Option (Int32 × AH)) (a0 : Nat) (l2 : Int32) (l3 : Int32) (l4 : Int32) (s0 : Int32) (z : AH) : Option (Int32 × AH) :=
  if l3 ≤ s0 then (
    bX10_tell_139 k28 a0 l3 l4 s0 l2 z
  ) else (
    bX10_tell_139 k28 a0 l3 l4 s0 l4 z
  )
set_option maxHeartbeats 4000000 in
set_option maxRecDepth 100000 in
theorem kbX10_tell_125 {p : Program} {l : Launch} {e : Env} {s : State} {m : MethodId} {args : Array Value} {below : List Frame} {meth : Method} {c : Code} {G : GW} {r : Int32} {z' : AH} (C : Cx p m c cX10_tell 7 s args RX10 G) (hlk : meth.locks = false) (hr : meth.sig.returnType = (some .int)) (k28 : Nat → Int32 → Int32 → Int32 → AH → Option (Int32 × AH)) (hk28 : ∀ (a0 : Nat) (l2 : Int32) (l3 : Int32) (l4 : Int32) (z : AH) (H : Heap) (locs : List Loc) (ls : Array Slot), k28 a0 l2 l3 l4 z = some (r, z') → Wb G z s H locs → lv_has ls 7 [(0, .ref (gB G + a0)), (2, .int l2), (3, .int l3), (4, .int l4)] → W p l e rmX10_tell s m args below meth c H locs 0 0 (MQ below (Qi G r z') args s 0 0 (AA G)) (F0 m 28 ls [])) (a0 : Nat) (l2 : Int32) (l3 : Int32) (l4 : Int32) (s0 : Int32) {z : AH} {H : Heap} {locs : List Loc} {ls : Array Slot} (h : bX10_tell_125 k28 a0 l2 l3 l4 s0 z = some (r, z')) (hW : Wb G z s H locs) (hl : lv_has ls 7 [(0, .ref (gB G + a0)), (2, .int l2), (3, .int l3), (4, .int l4)]) : W p l e rmX10_tell s m args below meth c H locs 0 0 (MQ below (Qi G r z') args s 0 0 (AA G)) (F0 m 125 ls [.int s0]) := by
  have hx := C.1
  have hb := C.2.1
  unfold bX10_tell_125 at h
  refine lv_istore (lv' := [(6, .int s0), (0, .ref (gB G + a0)), (2, .int l2), (3, .int l3), (4, .int l4)]) hx hb dX10_tell_125 hl (by decide) rfl (fun ls hl => ?_)
  refine lv_iload hx hb dX10_tell_127 (lv_at hl 0 rfl) ?_
  refine lv_iload_n hx hb dX10_tell_129 rfl (lv_at hl 3 rfl) ?_
  refine lv_icmp_ge (tgt := 138) hx hb dX10_tell_130 (by decide) (fun c130 => ?_) (fun c130 => ?_)
  · have h := ite_t c130 h
    refine lv_iload_n hx hb dX10_tell_138 rfl (lv_at hl 2 rfl) ?_
    exact kbX10_tell_139 C hlk hr k28 hk28 a0 l3 l4 s0 l2 h hW (lv_sub hl [1, 3, 4, 0] rfl)
  · have h := ite_f c130 h
    refine lv_iload hx hb dX10_tell_133 (lv_at hl 4 rfl) ?_
    refine lv_goto (tgt := 139) hx hb dX10_tell_135 (by decide) ?_
    exact kbX10_tell_139 C hlk hr k28 hk28 a0 l3 l4 s0 l4 h hW (lv_sub hl [1, 3, 4, 0] rfl)
def bX10_tell_48 (k28 : Nat → Int32 → Int32 → Int32 → AH → Option (Int32 × AH)) (k48 : Nat → Int32 → Int32 → Int32 → Int32 → Int32 → AH → Option (Int32 × AH)) (a0 : Nat) (l2 : Int32) (l3 : Int32) (l4 : Int32) (l5 : Int32) (l6 : Int32) (z : AH) : Option (Int32 × AH) :=
  if (16 : Int32) ≤ l6 then (
    (fX10_lookersOf a0 l4 z).bind fun x98 =>
    if x98 = (0 : Int32) then (
      bX10_tell_125 k28 a0 l2 l3 l4 (1000000 : Int32) z
    ) else (
      (gI 9 51 z a0).bind fun x113 =>
      (fX10_manyOf x113).bind fun x116 =>
      bX10_tell_125 k28 a0 l2 l3 l4 (fX10_greater l5 (x116 - l5)) z
    )
  ) else (
    (gI 9 51 z a0).bind fun x58 =>
    if (fX10_has x58 l6) = (0 : Int32) then (
      nm (l5 + (0 : Int32)) fun v87 =>
      nm (l6 + (1 : Int32)) fun v89 =>
      k48 a0 l2 l3 l4 v87 v89 z
    ) else (
      (fX10_lookersOf a0 l4 z).bind fun x74 =>
      if (l6 &&& x74) = (0 : Int32) then (
        nm (l5 + (0 : Int32)) fun v87 =>
        nm (l6 + (1 : Int32)) fun v89 =>
        k48 a0 l2 l3 l4 v87 v89 z
      ) else (
        nm (l5 + (1 : Int32)) fun v87 =>
        nm (l6 + (1 : Int32)) fun v89 =>
        k48 a0 l2 l3 l4 v87 v89 z
      )
    )
  )
set_option maxHeartbeats 4000000 in
set_option maxRecDepth 100000 in
theorem kbX10_tell_48 {p : Program} {l : Launch} {e : Env} {s : State} {m : MethodId} {args : Array Value} {below : List Frame} {meth : Method} {c : Code} {G : GW} {r : Int32} {z' : AH} (C : Cx p m c cX10_tell 7 s args RX10 G) (hlk : meth.locks = false) (hr : meth.sig.returnType = (some .int)) (k28 : Nat → Int32 → Int32 → Int32 → AH → Option (Int32 × AH)) (k48 : Nat → Int32 → Int32 → Int32 → Int32 → Int32 → AH → Option (Int32 × AH)) (hk28 : ∀ (a0 : Nat) (l2 : Int32) (l3 : Int32) (l4 : Int32) (z : AH) (H : Heap) (locs : List Loc) (ls : Array Slot), k28 a0 l2 l3 l4 z = some (r, z') → Wb G z s H locs → lv_has ls 7 [(0, .ref (gB G + a0)), (2, .int l2), (3, .int l3), (4, .int l4)] → W p l e rmX10_tell s m args below meth c H locs 0 0 (MQ below (Qi G r z') args s 0 0 (AA G)) (F0 m 28 ls [])) (hk48 : ∀ (a0 : Nat) (l2 : Int32) (l3 : Int32) (l4 : Int32) (l5 : Int32) (l6 : Int32) (z : AH) (H : Heap) (locs : List Loc) (ls : Array Slot), k48 a0 l2 l3 l4 l5 l6 z = some (r, z') → Wb G z s H locs → lv_has ls 7 [(0, .ref (gB G + a0)), (2, .int l2), (3, .int l3), (4, .int l4), (5, .int l5), (6, .int l6)] → W p l e rmX10_tell s m args below meth c H locs 0 0 (MQ below (Qi G r z') args s 0 0 (AA G)) (F0 m 48 ls [])) (a0 : Nat) (l2 : Int32) (l3 : Int32) (l4 : Int32) (l5 : Int32) (l6 : Int32) {z : AH} {H : Heap} {locs : List Loc} {ls : Array Slot} (h : bX10_tell_48 k28 k48 a0 l2 l3 l4 l5 l6 z = some (r, z')) (hW : Wb G z s H locs) (hl : lv_has ls 7 [(0, .ref (gB G + a0)), (2, .int l2), (3, .int l3), (4, .int l4), (5, .int l5), (6, .int l6)]) : W p l e rmX10_tell s m args below meth c H locs 0 0 (MQ below (Qi G r z') args s 0 0 (AA G)) (F0 m 48 ls []) := by
  have hx := C.1
  have hb := C.2.1
  unfold bX10_tell_48 at h
  refine lv_iload hx hb dX10_tell_48 (lv_at hl 5 rfl) ?_
  refine lv_bipush (v := 16) hx hb dX10_tell_50 (by decide) ?_
  refine lv_icmp_ge (tgt := 95) hx hb dX10_tell_52 (by decide) (fun c52 => ?_) (fun c52 => ?_)
  · have h := ite_t c52 h
    refine lv_aload_n hx hb dX10_tell_95 rfl (lv_at hl 0 rfl) ?_
    refine lv_iload hx hb dX10_tell_96 (lv_at hl 3 rfl) ?_
    obtain ⟨x98, hq, h⟩ := ob h
    refine wz_rI (c' := 0) (s' := 0) hW (wz_runV (rest := []) C hW lVX10_471 (ck hq).1 rfl (ctX10_lookersOf l G a0 l4 z hq) ⟨⟨rfl, rfl⟩, Nat.le_of_ble_eq_true rfl, Nat.le_of_ble_eq_true rfl⟩ rfl hl.1 rfl (Nat.le_of_ble_eq_true rfl) dX10_tell_98 ⟨Nat.le_of_ble_eq_true rfl, Nat.le_of_ble_eq_true rfl⟩) rfl rfl (fun H locs hW => ?_)
    refine lv_if_ne (tgt := 110) hx hb dX10_tell_101 (by decide) (fun c101 => ?_) (fun c101 => ?_)
    · have h := ite_f c101 h
      refine lv_iload hx hb dX10_tell_110 (lv_at hl 4 rfl) ?_
      refine lv_aload_n hx hb dX10_tell_112 rfl (lv_at hl 0 rfl) ?_
      obtain ⟨x113, hg, h⟩ := ob h
      refine wz_gI C hW flX10_468 hg dX10_tell_113 ?_
      obtain ⟨x116, hq, h⟩ := ob h
      refine wz_rI (c' := 0) (s' := 0) hW (wz_runS (rest := [.int l5]) C hW lTX10_480 (ctX10_manyOf l G x113 z hq) ⟨⟨rfl, rfl⟩, Nat.le_of_ble_eq_true rfl, Nat.le_of_ble_eq_true rfl⟩ rfl hl.1 rfl (Nat.le_of_ble_eq_true rfl) dX10_tell_116 ⟨Nat.le_of_ble_eq_true rfl, Nat.le_of_ble_eq_true rfl⟩) rfl rfl (fun H locs hW => ?_)
      refine lv_iload hx hb dX10_tell_119 (lv_at hl 4 rfl) ?_
      refine lv_isub hx hb dX10_tell_121 ?_
      refine wz_rI (c' := 0) (s' := 0) hW (wz_runS (rest := []) C hW lTX10_155 (ctX10_greater l G l5 (x116 - l5) z rfl) ⟨⟨rfl, rfl⟩, Nat.le_of_ble_eq_true rfl, Nat.le_of_ble_eq_true rfl⟩ rfl hl.1 rfl (Nat.le_of_ble_eq_true rfl) dX10_tell_122 ⟨Nat.le_of_ble_eq_true rfl, Nat.le_of_ble_eq_true rfl⟩) rfl rfl (fun H locs hW => ?_)
      exact kbX10_tell_125 C hlk hr k28 hk28 a0 l2 l3 l4 (fX10_greater l5 (x116 - l5)) h hW (lv_sub hl [0, 1, 2, 3] rfl)
    · have h := ite_t c101 h
      refine lv_ldcw (v := 1000000) hx hb C.2.2.2.1 (C.2.2.2.2.1 _ (tw 1653 (by decide +kernel) rfl)) dX10_tell_104 ?_
      refine lv_goto (tgt := 125) hx hb dX10_tell_107 (by decide) ?_
      exact kbX10_tell_125 C hlk hr k28 hk28 a0 l2 l3 l4 (1000000 : Int32) h hW (lv_sub hl [0, 1, 2, 3] rfl)
  · have h := ite_f c52 h
    refine lv_iload hx hb dX10_tell_55 (lv_at hl 4 rfl) ?_
    refine lv_aload_n hx hb dX10_tell_57 rfl (lv_at hl 0 rfl) ?_
    obtain ⟨x58, hg, h⟩ := ob h
    refine wz_gI C hW flX10_468 hg dX10_tell_58 ?_
    refine lv_iload hx hb dX10_tell_61 (lv_at hl 5 rfl) ?_
    refine wz_rI (c' := 0) (s' := 0) hW (wz_runS (rest := [.int l5]) C hW lTX10_85 (ctX10_has l G x58 l6 z rfl) ⟨⟨rfl, rfl⟩, Nat.le_of_ble_eq_true rfl, Nat.le_of_ble_eq_true rfl⟩ rfl hl.1 rfl (Nat.le_of_ble_eq_true rfl) dX10_tell_63 ⟨Nat.le_of_ble_eq_true rfl, Nat.le_of_ble_eq_true rfl⟩) rfl rfl (fun H locs hW => ?_)
    refine lv_if_eq (tgt := 85) hx hb dX10_tell_66 (by decide) (fun c66 => ?_) (fun c66 => ?_)
    · have h := ite_t c66 h
      refine lv_iconst (v := 0) hx hb dX10_tell_85 (by decide) ?_
      refine lv_iadd hx hb dX10_tell_86 ?_
      refine lv_topi (fun v87 ev87 => ?_)
      have h := nm_to h ev87
      refine lv_istore (lv' := [(5, .int v87), (0, .ref (gB G + a0)), (2, .int l2), (3, .int l3), (4, .int l4), (6, .int l6)]) hx hb dX10_tell_87 hl (by decide) rfl (fun ls hl => ?_)
      obtain ⟨v89, ev89⟩ : ∃ y : Int32, y = (l6 + (1 : Int32)) := ⟨_, rfl⟩
      have h := nm_to h ev89
      refine lv_iinc (v := v89) (lv' := [(6, .int v89), (5, .int v87), (0, .ref (gB G + a0)), (2, .int l2), (3, .int l3), (4, .int l4)]) hx hb dX10_tell_89 hl (k := 5) rfl (by rw [ev89]; rfl) (by decide) rfl (fun ls hl => ?_)
      refine lv_goto (tgt := 48) hx hb dX10_tell_92 (by decide) ?_
      exact hk48 a0 l2 l3 l4 v87 v89 z _ _ _ h hW (lv_sub hl [2, 3, 4, 5, 1, 0] rfl)
    · have h := ite_f c66 h
      refine lv_iload hx hb dX10_tell_69 (lv_at hl 5 rfl) ?_
      refine lv_aload_n hx hb dX10_tell_71 rfl (lv_at hl 0 rfl) ?_
      refine lv_iload hx hb dX10_tell_72 (lv_at hl 3 rfl) ?_
      obtain ⟨x74, hq, h⟩ := ob h
      refine wz_rI (c' := 0) (s' := 0) hW (wz_runV (rest := [.int l6, .int l5]) C hW lVX10_471 (ck hq).1 rfl (ctX10_lookersOf l G a0 l4 z hq) ⟨⟨rfl, rfl⟩, Nat.le_of_ble_eq_true rfl, Nat.le_of_ble_eq_true rfl⟩ rfl hl.1 rfl (Nat.le_of_ble_eq_true rfl) dX10_tell_74 ⟨Nat.le_of_ble_eq_true rfl, Nat.le_of_ble_eq_true rfl⟩) rfl rfl (fun H locs hW => ?_)
      refine lv_iand hx hb dX10_tell_77 ?_
      refine lv_if_eq (tgt := 85) hx hb dX10_tell_78 (by decide) (fun c78 => ?_) (fun c78 => ?_)
      · have h := ite_t c78 h
        refine lv_iconst (v := 0) hx hb dX10_tell_85 (by decide) ?_
        refine lv_iadd hx hb dX10_tell_86 ?_
        refine lv_topi (fun v87 ev87 => ?_)
        have h := nm_to h ev87
        refine lv_istore (lv' := [(5, .int v87), (0, .ref (gB G + a0)), (2, .int l2), (3, .int l3), (4, .int l4), (6, .int l6)]) hx hb dX10_tell_87 hl (by decide) rfl (fun ls hl => ?_)
        obtain ⟨v89, ev89⟩ : ∃ y : Int32, y = (l6 + (1 : Int32)) := ⟨_, rfl⟩
        have h := nm_to h ev89
        refine lv_iinc (v := v89) (lv' := [(6, .int v89), (5, .int v87), (0, .ref (gB G + a0)), (2, .int l2), (3, .int l3), (4, .int l4)]) hx hb dX10_tell_89 hl (k := 5) rfl (by rw [ev89]; rfl) (by decide) rfl (fun ls hl => ?_)
        refine lv_goto (tgt := 48) hx hb dX10_tell_92 (by decide) ?_
        exact hk48 a0 l2 l3 l4 v87 v89 z _ _ _ h hW (lv_sub hl [2, 3, 4, 5, 1, 0] rfl)
      · have h := ite_f c78 h
        refine lv_iconst (v := 1) hx hb dX10_tell_81 (by decide) ?_
        refine lv_goto (tgt := 86) hx hb dX10_tell_82 (by decide) ?_
        refine lv_iadd hx hb dX10_tell_86 ?_
        refine lv_topi (fun v87 ev87 => ?_)
        have h := nm_to h ev87
        refine lv_istore (lv' := [(5, .int v87), (0, .ref (gB G + a0)), (2, .int l2), (3, .int l3), (4, .int l4), (6, .int l6)]) hx hb dX10_tell_87 hl (by decide) rfl (fun ls hl => ?_)
        obtain ⟨v89, ev89⟩ : ∃ y : Int32, y = (l6 + (1 : Int32)) := ⟨_, rfl⟩
        have h := nm_to h ev89
        refine lv_iinc (v := v89) (lv' := [(6, .int v89), (5, .int v87), (0, .ref (gB G + a0)), (2, .int l2), (3, .int l3), (4, .int l4)]) hx hb dX10_tell_89 hl (k := 5) rfl (by rw [ev89]; rfl) (by decide) rfl (fun ls hl => ?_)
        refine lv_goto (tgt := 48) hx hb dX10_tell_92 (by decide) ?_
        exact hk48 a0 l2 l3 l4 v87 v89 z _ _ _ h hW (lv_sub hl [2, 3, 4, 5, 1, 0] rfl)
def fX10_tell_48 (k28 : Nat → Int32 → Int32 → Int32 → AH → Option (Int32 × AH)) : Nat → Nat → Int32 → Int32 → Int32 → Int32 → Int32 → AH → Option (Int32 × AH)
  | 0, _, _, _, _, _, _, _ => none
  | n + 1, a0, l2, l3, l4, l5, l6, z => bX10_tell_48 k28 (fX10_tell_48 k28 n) a0 l2 l3 l4 l5 l6 z
theorem klX10_tell_48 {p : Program} {l : Launch} {e : Env} {s : State} {m : MethodId} {args : Array Value} {below : List Frame} {meth : Method} {c : Code} {G : GW} {r : Int32} {z' : AH} (C : Cx p m c cX10_tell 7 s args RX10 G) (hlk : meth.locks = false) (hr : meth.sig.returnType = (some .int)) (k28 : Nat → Int32 → Int32 → Int32 → AH → Option (Int32 × AH)) (hk28 : ∀ (a0 : Nat) (l2 : Int32) (l3 : Int32) (l4 : Int32) (z : AH) (H : Heap) (locs : List Loc) (ls : Array Slot), k28 a0 l2 l3 l4 z = some (r, z') → Wb G z s H locs → lv_has ls 7 [(0, .ref (gB G + a0)), (2, .int l2), (3, .int l3), (4, .int l4)] → W p l e rmX10_tell s m args below meth c H locs 0 0 (MQ below (Qi G r z') args s 0 0 (AA G)) (F0 m 28 ls [])) : ∀ (n : Nat) (a0 : Nat) (l2 : Int32) (l3 : Int32) (l4 : Int32) (l5 : Int32) (l6 : Int32) (z : AH) (H : Heap) (locs : List Loc) (ls : Array Slot), fX10_tell_48 k28 n a0 l2 l3 l4 l5 l6 z = some (r, z') → Wb G z s H locs → lv_has ls 7 [(0, .ref (gB G + a0)), (2, .int l2), (3, .int l3), (4, .int l4), (5, .int l5), (6, .int l6)] → W p l e rmX10_tell s m args below meth c H locs 0 0 (MQ below (Qi G r z') args s 0 0 (AA G)) (F0 m 48 ls []) := by
  intro n
  induction n with
  | zero => intro a0 l2 l3 l4 l5 l6 z H locs ls h; have h : (none : Option (Int32 × AH)) = some (r, z') := h; cases h
  | succ n ih => intro a0 l2 l3 l4 l5 l6 z H locs ls h hW hl; exact kbX10_tell_48 C hlk hr k28 (fX10_tell_48 k28 n) hk28 (fun a0 l2 l3 l4 l5 l6 z H locs ls h hW hl => ih a0 l2 l3 l4 l5 l6 z H locs ls h hW hl) a0 l2 l3 l4 l5 l6 h hW hl
def bX10_tell_28 (k28 : Nat → Int32 → Int32 → Int32 → AH → Option (Int32 × AH)) (a0 : Nat) (l2 : Int32) (l3 : Int32) (l4 : Int32) (z : AH) : Option (Int32 × AH) :=
  if (8 : Int32) ≤ l4 then (
    some (l2, z)
  ) else (
    (gI 9 51 z a0).bind fun x36 =>
    if x36 = (0 : Int32) then (
      some (l2, z)
    ) else (
      fX10_tell_48 k28 FU a0 l2 l3 l4 (0 : Int32) (0 : Int32) z
    )
  )
set_option maxHeartbeats 4000000 in
set_option maxRecDepth 100000 in
theorem kbX10_tell_28 {p : Program} {l : Launch} {e : Env} {s : State} {m : MethodId} {args : Array Value} {below : List Frame} {meth : Method} {c : Code} {G : GW} {r : Int32} {z' : AH} (C : Cx p m c cX10_tell 7 s args RX10 G) (hlk : meth.locks = false) (hr : meth.sig.returnType = (some .int)) (k28 : Nat → Int32 → Int32 → Int32 → AH → Option (Int32 × AH)) (hk28 : ∀ (a0 : Nat) (l2 : Int32) (l3 : Int32) (l4 : Int32) (z : AH) (H : Heap) (locs : List Loc) (ls : Array Slot), k28 a0 l2 l3 l4 z = some (r, z') → Wb G z s H locs → lv_has ls 7 [(0, .ref (gB G + a0)), (2, .int l2), (3, .int l3), (4, .int l4)] → W p l e rmX10_tell s m args below meth c H locs 0 0 (MQ below (Qi G r z') args s 0 0 (AA G)) (F0 m 28 ls [])) (a0 : Nat) (l2 : Int32) (l3 : Int32) (l4 : Int32) {z : AH} {H : Heap} {locs : List Loc} {ls : Array Slot} (h : bX10_tell_28 k28 a0 l2 l3 l4 z = some (r, z')) (hW : Wb G z s H locs) (hl : lv_has ls 7 [(0, .ref (gB G + a0)), (2, .int l2), (3, .int l3), (4, .int l4)]) : W p l e rmX10_tell s m args below meth c H locs 0 0 (MQ below (Qi G r z') args s 0 0 (AA G)) (F0 m 28 ls []) := by
  have hx := C.1
  have hb := C.2.1
  unfold bX10_tell_28 at h
  refine lv_iload hx hb dX10_tell_28 (lv_at hl 3 rfl) ?_
  refine lv_bipush (v := 8) hx hb dX10_tell_30 (by decide) ?_
  refine lv_icmp_ge (tgt := 153) hx hb dX10_tell_32 (by decide) (fun c32 => ?_) (fun c32 => ?_)
  · have h := ite_t c32 h
    refine lv_iload_n hx hb dX10_tell_153 rfl (lv_at hl 1 rfl) ?_
    exact wz_iretE C hlk hr (so2 h).1 (so2 h).2 hW dX10_tell_154
  · have h := ite_f c32 h
    refine lv_aload_n hx hb dX10_tell_35 rfl (lv_at hl 0 rfl) ?_
    obtain ⟨x36, hg, h⟩ := ob h
    refine wz_gI C hW flX10_468 hg dX10_tell_36 ?_
    refine lv_if_eq (tgt := 153) hx hb dX10_tell_39 (by decide) (fun c39 => ?_) (fun c39 => ?_)
    · have h := ite_t c39 h
      refine lv_iload_n hx hb dX10_tell_153 rfl (lv_at hl 1 rfl) ?_
      exact wz_iretE C hlk hr (so2 h).1 (so2 h).2 hW dX10_tell_154
    · have h := ite_f c39 h
      refine lv_iconst (v := 0) hx hb dX10_tell_42 (by decide) ?_
      refine lv_istore (lv' := [(5, .int (0 : Int32)), (0, .ref (gB G + a0)), (2, .int l2), (3, .int l3), (4, .int l4)]) hx hb dX10_tell_43 hl (by decide) rfl (fun ls hl => ?_)
      refine lv_iconst (v := 0) hx hb dX10_tell_45 (by decide) ?_
      refine lv_istore (lv' := [(6, .int (0 : Int32)), (5, .int (0 : Int32)), (0, .ref (gB G + a0)), (2, .int l2), (3, .int l3), (4, .int l4)]) hx hb dX10_tell_46 hl (by decide) rfl (fun ls hl => ?_)
      exact klX10_tell_48 C hlk hr k28 hk28 FU a0 l2 l3 l4 (0 : Int32) (0 : Int32) z _ _ _ h hW (lv_sub hl [2, 3, 4, 5, 1, 0] rfl)
def fX10_tell_28 : Nat → Nat → Int32 → Int32 → Int32 → AH → Option (Int32 × AH)
  | 0, _, _, _, _, _ => none
  | n + 1, a0, l2, l3, l4, z => bX10_tell_28 (fX10_tell_28 n) a0 l2 l3 l4 z
theorem klX10_tell_28 {p : Program} {l : Launch} {e : Env} {s : State} {m : MethodId} {args : Array Value} {below : List Frame} {meth : Method} {c : Code} {G : GW} {r : Int32} {z' : AH} (C : Cx p m c cX10_tell 7 s args RX10 G) (hlk : meth.locks = false) (hr : meth.sig.returnType = (some .int)) : ∀ (n : Nat) (a0 : Nat) (l2 : Int32) (l3 : Int32) (l4 : Int32) (z : AH) (H : Heap) (locs : List Loc) (ls : Array Slot), fX10_tell_28 n a0 l2 l3 l4 z = some (r, z') → Wb G z s H locs → lv_has ls 7 [(0, .ref (gB G + a0)), (2, .int l2), (3, .int l3), (4, .int l4)] → W p l e rmX10_tell s m args below meth c H locs 0 0 (MQ below (Qi G r z') args s 0 0 (AA G)) (F0 m 28 ls []) := by
  intro n
  induction n with
  | zero => intro a0 l2 l3 l4 z H locs ls h; have h : (none : Option (Int32 × AH)) = some (r, z') := h; cases h
  | succ n ih => intro a0 l2 l3 l4 z H locs ls h hW hl; exact kbX10_tell_28 C hlk hr (fX10_tell_28 n) (fun a0 l2 l3 l4 z H locs ls h hW hl => ih a0 l2 l3 l4 z H locs ls h hW hl) a0 l2 l3 l4 h hW hl
def fX10_tell (a0 : Nat) (l1 : Int32) (z : AH) : Option (Int32 × AH) :=
  if isO 9 z a0 = true then
    (pF 9 0 z a0 (.int (0 : Int32))).bind fun z2 =>
    b2 (fX10_hasFight a0 l1 z2) fun x7 z7 =>
    if x7 = (0 : Int32) then (
      some ((-1 : Int32), z7)
    ) else (
      (fX10_findSets a0 z7).bind fun z16 =>
      fX10_tell_28 FU a0 (-1 : Int32) (1000000 : Int32) (0 : Int32) z16
    )
  else none
set_option maxHeartbeats 4000000 in
set_option maxRecDepth 100000 in
theorem ctX10_tell (l : Launch) (G : GW) (a0 : Nat) (l1 : Int32) (z : AH) {r : Int32} {z' : AH} (h : fX10_tell a0 l1 z = some (r, z')) : Met l yX10_tell (wy yX10_tell cX10_tell 7 (some .int)) rmX10_tell (Pz G [.ref (gB G + a0), .int l1] z) (Qi G r z') 0 0 (AA G) := by
  refine wz_ent (own := RX10) (by decide +kernel) rfl (fun p e s m below meth c ls C hlk hr hin hW hl => ?_) (Nat.le_of_ble_eq_true rfl)
  have hl : lv_has ls 7 [(0, .ref (gB G + a0)), (1, .int l1)] := hl
  have hx := C.1
  have hb := C.2.1
  unfold fX10_tell at h
  obtain ⟨-, h⟩ := ck h
  refine lv_aload_n hx hb dX10_tell_0 rfl (lv_at hl 0 rfl) ?_
  refine lv_iconst (v := 0) hx hb dX10_tell_1 (by decide) ?_
  obtain ⟨z2, hg, h⟩ := ob h
  refine wz_put (v := (.int (0 : Int32))) C hW flX10_81 rfl rfl hg dX10_tell_2 (fun H locs hW => ?_)
  refine lv_aload_n hx hb dX10_tell_5 rfl (lv_at hl 0 rfl) ?_
  refine lv_iload_n hx hb dX10_tell_6 rfl (lv_at hl 1 rfl) ?_
  obtain ⟨x7, z7, hq, h⟩ := ob2 h
  refine wz_rI (c' := 0) (s' := 0) hW (wz_runV (rest := []) C hW lVX10_459 (ck hq).1 rfl (ctX10_hasFight l G a0 l1 z2 hq) ⟨⟨rfl, rfl⟩, Nat.le_of_ble_eq_true rfl, Nat.le_of_ble_eq_true rfl⟩ rfl hl.1 rfl (Nat.le_of_ble_eq_true rfl) dX10_tell_7 ⟨Nat.le_of_ble_eq_true rfl, Nat.le_of_ble_eq_true rfl⟩) rfl rfl (fun H locs hW => ?_)
  refine lv_if_ne (tgt := 15) hx hb dX10_tell_10 (by decide) (fun c10 => ?_) (fun c10 => ?_)
  · have h := ite_f c10 h
    refine lv_aload_n hx hb dX10_tell_15 rfl (lv_at hl 0 rfl) ?_
    obtain ⟨z16, hq, h⟩ := ob h
    refine wz_rV (c' := 0) (s' := 0) hW (wz_runV (rest := []) C hW lVX10_474 (ck hq).1 rfl (ctX10_findSets l G a0 z7 hq) ⟨⟨rfl, rfl⟩, Nat.le_of_ble_eq_true rfl, Nat.le_of_ble_eq_true rfl⟩ rfl hl.1 rfl (Nat.le_of_ble_eq_true rfl) dX10_tell_16 ⟨Nat.le_of_ble_eq_true rfl, Nat.le_of_ble_eq_true rfl⟩) rfl rfl (fun H locs hW => ?_)
    refine lv_iconst (v := -1) hx hb dX10_tell_19 (by decide) ?_
    refine lv_istore_n (lv' := [(2, .int (-1 : Int32)), (0, .ref (gB G + a0)), (1, .int l1)]) hx hb dX10_tell_20 rfl hl (by decide) rfl (fun ls hl => ?_)
    refine lv_ldcw (v := 1000000) hx hb C.2.2.2.1 (C.2.2.2.2.1 _ (tw 1653 (by decide +kernel) rfl)) dX10_tell_21 ?_
    refine lv_istore_n (lv' := [(3, .int (1000000 : Int32)), (2, .int (-1 : Int32)), (0, .ref (gB G + a0)), (1, .int l1)]) hx hb dX10_tell_24 rfl hl (by decide) rfl (fun ls hl => ?_)
    refine lv_iconst (v := 0) hx hb dX10_tell_25 (by decide) ?_
    refine lv_istore (lv' := [(4, .int (0 : Int32)), (3, .int (1000000 : Int32)), (2, .int (-1 : Int32)), (0, .ref (gB G + a0)), (1, .int l1)]) hx hb dX10_tell_26 hl (by decide) rfl (fun ls hl => ?_)
    exact klX10_tell_28 C hlk hr FU a0 (-1 : Int32) (1000000 : Int32) (0 : Int32) z16 _ _ _ h hW (lv_sub hl [3, 2, 1, 0] rfl)
  · have h := ite_t c10 h
    refine lv_iconst (v := -1) hx hb dX10_tell_13 (by decide) ?_
    exact wz_iretE C hlk hr (so2 h).1 (so2 h).2 hW dX10_tell_14
theorem dX10_count_0 : decode cX10_count 0 = .ok (.aload_n 0, 1) := by decide +kernel
theorem dX10_count_1 : decode cX10_count 1 = .ok (.iconst 0, 1) := by decide +kernel
theorem dX10_count_2 : decode cX10_count 2 = .ok (.putfield 81, 3) := by decide +kernel
theorem dX10_count_5 : decode cX10_count 5 = .ok (.iload_n 1, 1) := by decide +kernel
theorem dX10_count_6 : decode cX10_count 6 = .ok (.iconst 0, 1) := by decide +kernel
theorem dX10_count_7 : decode cX10_count 7 = .ok (.iconst 3, 1) := by decide +kernel
theorem dX10_count_8 : decode cX10_count 8 = .ok (.invokestatic 93, 3) := by decide +kernel
theorem dX10_count_11 : decode cX10_count 11 = .ok (.ifCond .eq 12, 3) := by decide +kernel
theorem dX10_count_14 : decode cX10_count 14 = .ok (.aload_n 0, 1) := by decide +kernel
theorem dX10_count_15 : decode cX10_count 15 = .ok (.getfield 23, 3) := by decide +kernel
theorem dX10_count_18 : decode cX10_count 18 = .ok (.iload_n 1, 1) := by decide +kernel
theorem dX10_count_19 : decode cX10_count 19 = .ok (.iaload, 1) := by decide +kernel
theorem dX10_count_20 : decode cX10_count 20 = .ok (.goto 5, 3) := by decide +kernel
theorem dX10_count_23 : decode cX10_count 23 = .ok (.bipush (-2), 2) := by decide +kernel
theorem dX10_count_25 : decode cX10_count 25 = .ok (.ireturn, 1) := by decide +kernel
abbrev rmX10_count : Room := { frames := 1, cells := 0, slots := 0, locals := 22 }
def fX10_count (a0 : Nat) (l1 : Int32) (z : AH) : Option (Int32 × AH) :=
  if isO 9 z a0 = true then
    (pF 9 0 z a0 (.int (0 : Int32))).bind fun z2 =>
    if (fX10_in l1 (0 : Int32) (3 : Int32)) = (0 : Int32) then (
      some ((-2 : Int32), z2)
    ) else (
      (gN 9 5 z2 a0).bind fun b15 =>
      (ixI 0 z2 b15 l1).bind fun x19 =>
      some (x19, z2)
    )
  else none
set_option maxHeartbeats 4000000 in
set_option maxRecDepth 100000 in
theorem ctX10_count (l : Launch) (G : GW) (a0 : Nat) (l1 : Int32) (z : AH) {r : Int32} {z' : AH} (h : fX10_count a0 l1 z = some (r, z')) : Met l yX10_count (wy yX10_count cX10_count 2 (some .int)) rmX10_count (Pz G [.ref (gB G + a0), .int l1] z) (Qi G r z') 0 0 (AA G) := by
  refine wz_ent (own := RX10) (by decide +kernel) rfl (fun p e s m below meth c ls C hlk hr hin hW hl => ?_) (Nat.le_of_ble_eq_true rfl)
  have hl : lv_has ls 2 [(0, .ref (gB G + a0)), (1, .int l1)] := hl
  have hx := C.1
  have hb := C.2.1
  unfold fX10_count at h
  obtain ⟨-, h⟩ := ck h
  refine lv_aload_n hx hb dX10_count_0 rfl (lv_at hl 0 rfl) ?_
  refine lv_iconst (v := 0) hx hb dX10_count_1 (by decide) ?_
  obtain ⟨z2, hg, h⟩ := ob h
  refine wz_put (v := (.int (0 : Int32))) C hW flX10_81 rfl rfl hg dX10_count_2 (fun H locs hW => ?_)
  refine lv_iload_n hx hb dX10_count_5 rfl (lv_at hl 1 rfl) ?_
  refine lv_iconst (v := 0) hx hb dX10_count_6 (by decide) ?_
  refine lv_iconst (v := 3) hx hb dX10_count_7 (by decide) ?_
  refine wz_rI (c' := 0) (s' := 0) hW (wz_runS (rest := []) C hW lTX10_93 (ctX10_in l G l1 (0 : Int32) (3 : Int32) z2 rfl) ⟨⟨rfl, rfl⟩, Nat.le_of_ble_eq_true rfl, Nat.le_of_ble_eq_true rfl⟩ rfl hl.1 rfl (Nat.le_of_ble_eq_true rfl) dX10_count_8 ⟨Nat.le_of_ble_eq_true rfl, Nat.le_of_ble_eq_true rfl⟩) rfl rfl (fun H locs hW => ?_)
  refine lv_if_eq (tgt := 23) hx hb dX10_count_11 (by decide) (fun c11 => ?_) (fun c11 => ?_)
  · have h := ite_t c11 h
    refine lv_bipush (v := -2) hx hb dX10_count_23 (by decide) ?_
    exact wz_iretE C hlk hr (so2 h).1 (so2 h).2 hW dX10_count_25
  · have h := ite_f c11 h
    refine lv_aload_n hx hb dX10_count_14 rfl (lv_at hl 0 rfl) ?_
    obtain ⟨b15, hg, h⟩ := ob h
    refine wz_gN C hW flX10_23 hg dX10_count_15 ?_
    refine lv_iload_n hx hb dX10_count_18 rfl (lv_at hl 1 rfl) ?_
    obtain ⟨x19, hg, h⟩ := ob h
    refine wz_ald C hW hg dX10_count_19 ?_
    refine lv_goto (tgt := 25) hx hb dX10_count_20 (by decide) ?_
    exact wz_iretE C hlk hr (so2 h).1 (so2 h).2 hW dX10_count_25
theorem dX10_image_0 : decode cX10_image 0 = .ok (.aload_n 0, 1) := by decide +kernel
theorem dX10_image_1 : decode cX10_image 1 = .ok (.iconst 0, 1) := by decide +kernel
theorem dX10_image_2 : decode cX10_image 2 = .ok (.putfield 81, 3) := by decide +kernel
theorem dX10_image_5 : decode cX10_image 5 = .ok (.iload_n 1, 1) := by decide +kernel
theorem dX10_image_6 : decode cX10_image 6 = .ok (.iconst 0, 1) := by decide +kernel
theorem dX10_image_7 : decode cX10_image 7 = .ok (.iconst 2, 1) := by decide +kernel
theorem dX10_image_8 : decode cX10_image 8 = .ok (.invokestatic 93, 3) := by decide +kernel
theorem dX10_image_11 : decode cX10_image 11 = .ok (.ifCond .ne 5, 3) := by decide +kernel
theorem dX10_image_14 : decode cX10_image 14 = .ok (.iconst 0, 1) := by decide +kernel
theorem dX10_image_15 : decode cX10_image 15 = .ok (.ireturn, 1) := by decide +kernel
theorem dX10_image_16 : decode cX10_image 16 = .ok (.aload_n 0, 1) := by decide +kernel
theorem dX10_image_17 : decode cX10_image 17 = .ok (.iconst 0, 1) := by decide +kernel
theorem dX10_image_18 : decode cX10_image 18 = .ok (.iload_n 1, 1) := by decide +kernel
theorem dX10_image_19 : decode cX10_image 19 = .ok (.iconst 1, 1) := by decide +kernel
theorem dX10_image_20 : decode cX10_image 20 = .ok (.iadd, 1) := by decide +kernel
theorem dX10_image_21 : decode cX10_image 21 = .ok (.invokevirtual 513, 3) := by decide +kernel
theorem dX10_image_24 : decode cX10_image 24 = .ok (.aload_n 0, 1) := by decide +kernel
theorem dX10_image_25 : decode cX10_image 25 = .ok (.getfield 77, 3) := by decide +kernel
theorem dX10_image_28 : decode cX10_image 28 = .ok (.iload_n 1, 1) := by decide +kernel
theorem dX10_image_29 : decode cX10_image 29 = .ok (.iconst 1, 1) := by decide +kernel
theorem dX10_image_30 : decode cX10_image 30 = .ok (.bastore, 1) := by decide +kernel
theorem dX10_image_31 : decode cX10_image 31 = .ok (.iconst 1, 1) := by decide +kernel
theorem dX10_image_32 : decode cX10_image 32 = .ok (.ireturn, 1) := by decide +kernel
theorem cdX10_copyAll : Cond.code yX10_copyAll cX10_copyAll 4 none ∈ tz := tc8 58 rfl rfl
theorem lVX10_513 : LV RX10 513 yX10_copyAll cX10_copyAll 4 none 2 := ⟨tw 1854 (by decide +kernel) rfl, tw 1856 (by decide +kernel) rfl, tw 118 (by decide +kernel) rfl, tw 128 (by decide +kernel) rfl, cdX10_copyAll, ⟨by decide +kernel, by decide +kernel, by decide +kernel⟩⟩
abbrev rmX10_image : Room := { frames := 2, cells := 0, slots := 0, locals := 47 }
def fX10_image (a0 : Nat) (l1 : Int32) (z : AH) : Option (Int32 × AH) :=
  if isO 9 z a0 = true then
    (pF 9 0 z a0 (.int (0 : Int32))).bind fun z2 =>
    if (fX10_in l1 (0 : Int32) (2 : Int32)) = (0 : Int32) then (
      some ((0 : Int32), z2)
    ) else (
      (fX10_copyAll a0 (0 : Int32) (l1 + (1 : Int32)) z2).bind fun z21 =>
      (gN 9 55 z21 a0).bind fun b25 =>
      (stI 2 z21 b25 l1 (vp_nar .boolean (1 : Int32))).bind fun z30 =>
      some ((1 : Int32), z30)
    )
  else none
set_option maxHeartbeats 4000000 in
set_option maxRecDepth 100000 in
theorem ctX10_image (l : Launch) (G : GW) (a0 : Nat) (l1 : Int32) (z : AH) {r : Int32} {z' : AH} (h : fX10_image a0 l1 z = some (r, z')) : Met l yX10_image (wy yX10_image cX10_image 2 (some .boolean)) rmX10_image (Pz G [.ref (gB G + a0), .int l1] z) (Qi G r z') 0 0 (AA G) := by
  refine wz_ent (own := RX10) (by decide +kernel) rfl (fun p e s m below meth c ls C hlk hr hin hW hl => ?_) (Nat.le_of_ble_eq_true rfl)
  have hl : lv_has ls 2 [(0, .ref (gB G + a0)), (1, .int l1)] := hl
  have hx := C.1
  have hb := C.2.1
  unfold fX10_image at h
  obtain ⟨-, h⟩ := ck h
  refine lv_aload_n hx hb dX10_image_0 rfl (lv_at hl 0 rfl) ?_
  refine lv_iconst (v := 0) hx hb dX10_image_1 (by decide) ?_
  obtain ⟨z2, hg, h⟩ := ob h
  refine wz_put (v := (.int (0 : Int32))) C hW flX10_81 rfl rfl hg dX10_image_2 (fun H locs hW => ?_)
  refine lv_iload_n hx hb dX10_image_5 rfl (lv_at hl 1 rfl) ?_
  refine lv_iconst (v := 0) hx hb dX10_image_6 (by decide) ?_
  refine lv_iconst (v := 2) hx hb dX10_image_7 (by decide) ?_
  refine wz_rI (c' := 0) (s' := 0) hW (wz_runS (rest := []) C hW lTX10_93 (ctX10_in l G l1 (0 : Int32) (2 : Int32) z2 rfl) ⟨⟨rfl, rfl⟩, Nat.le_of_ble_eq_true rfl, Nat.le_of_ble_eq_true rfl⟩ rfl hl.1 rfl (Nat.le_of_ble_eq_true rfl) dX10_image_8 ⟨Nat.le_of_ble_eq_true rfl, Nat.le_of_ble_eq_true rfl⟩) rfl rfl (fun H locs hW => ?_)
  refine lv_if_ne (tgt := 16) hx hb dX10_image_11 (by decide) (fun c11 => ?_) (fun c11 => ?_)
  · have h := ite_f c11 h
    refine lv_aload_n hx hb dX10_image_16 rfl (lv_at hl 0 rfl) ?_
    refine lv_iconst (v := 0) hx hb dX10_image_17 (by decide) ?_
    refine lv_iload_n hx hb dX10_image_18 rfl (lv_at hl 1 rfl) ?_
    refine lv_iconst (v := 1) hx hb dX10_image_19 (by decide) ?_
    refine lv_iadd hx hb dX10_image_20 ?_
    obtain ⟨z21, hq, h⟩ := ob h
    refine wz_rV (c' := 0) (s' := 0) hW (wz_runV (rest := []) C hW lVX10_513 (ck hq).1 rfl (ctX10_copyAll l G a0 (0 : Int32) (l1 + (1 : Int32)) z2 hq) ⟨⟨rfl, rfl⟩, Nat.le_of_ble_eq_true rfl, Nat.le_of_ble_eq_true rfl⟩ rfl hl.1 rfl (Nat.le_of_ble_eq_true rfl) dX10_image_21 ⟨Nat.le_of_ble_eq_true rfl, Nat.le_of_ble_eq_true rfl⟩) rfl rfl (fun H locs hW => ?_)
    refine lv_aload_n hx hb dX10_image_24 rfl (lv_at hl 0 rfl) ?_
    obtain ⟨b25, hg, h⟩ := ob h
    refine wz_gN C hW flX10_77 hg dX10_image_25 ?_
    refine lv_iload_n hx hb dX10_image_28 rfl (lv_at hl 1 rfl) ?_
    refine lv_iconst (v := 1) hx hb dX10_image_29 (by decide) ?_
    obtain ⟨z30, hg, h⟩ := ob h
    refine wz_zst C hW hg dX10_image_30 (fun H locs hW => ?_)
    refine lv_iconst (v := 1) hx hb dX10_image_31 (by decide) ?_
    exact wz_zretE C hlk hr (Or.inr rfl) (so2 h).1 (so2 h).2 hW dX10_image_32
  · have h := ite_t c11 h
    refine lv_iconst (v := 0) hx hb dX10_image_14 (by decide) ?_
    exact wz_zretE C hlk hr (Or.inl rfl) (so2 h).1 (so2 h).2 hW dX10_image_15
theorem dX10_again_0 : decode cX10_again 0 = .ok (.aload_n 0, 1) := by decide +kernel
theorem dX10_again_1 : decode cX10_again 1 = .ok (.iconst 0, 1) := by decide +kernel
theorem dX10_again_2 : decode cX10_again 2 = .ok (.putfield 81, 3) := by decide +kernel
theorem dX10_again_5 : decode cX10_again 5 = .ok (.iload_n 1, 1) := by decide +kernel
theorem dX10_again_6 : decode cX10_again 6 = .ok (.iconst 0, 1) := by decide +kernel
theorem dX10_again_7 : decode cX10_again 7 = .ok (.iconst 2, 1) := by decide +kernel
theorem dX10_again_8 : decode cX10_again 8 = .ok (.invokestatic 93, 3) := by decide +kernel
theorem dX10_again_11 : decode cX10_again 11 = .ok (.ifCond .eq 12, 3) := by decide +kernel
theorem dX10_again_14 : decode cX10_again 14 = .ok (.aload_n 0, 1) := by decide +kernel
theorem dX10_again_15 : decode cX10_again 15 = .ok (.getfield 77, 3) := by decide +kernel
theorem dX10_again_18 : decode cX10_again 18 = .ok (.iload_n 1, 1) := by decide +kernel
theorem dX10_again_19 : decode cX10_again 19 = .ok (.baload, 1) := by decide +kernel
theorem dX10_again_20 : decode cX10_again 20 = .ok (.ifCond .ne 5, 3) := by decide +kernel
theorem dX10_again_23 : decode cX10_again 23 = .ok (.iconst 0, 1) := by decide +kernel
theorem dX10_again_24 : decode cX10_again 24 = .ok (.ireturn, 1) := by decide +kernel
theorem dX10_again_25 : decode cX10_again 25 = .ok (.aload_n 0, 1) := by decide +kernel
theorem dX10_again_26 : decode cX10_again 26 = .ok (.iload_n 1, 1) := by decide +kernel
theorem dX10_again_27 : decode cX10_again 27 = .ok (.iconst 1, 1) := by decide +kernel
theorem dX10_again_28 : decode cX10_again 28 = .ok (.iadd, 1) := by decide +kernel
theorem dX10_again_29 : decode cX10_again 29 = .ok (.iconst 0, 1) := by decide +kernel
theorem dX10_again_30 : decode cX10_again 30 = .ok (.invokevirtual 513, 3) := by decide +kernel
theorem dX10_again_33 : decode cX10_again 33 = .ok (.iconst 1, 1) := by decide +kernel
theorem dX10_again_34 : decode cX10_again 34 = .ok (.ireturn, 1) := by decide +kernel
abbrev rmX10_again : Room := { frames := 2, cells := 0, slots := 0, locals := 47 }
def fX10_again (a0 : Nat) (l1 : Int32) (z : AH) : Option (Int32 × AH) :=
  if isO 9 z a0 = true then
    (pF 9 0 z a0 (.int (0 : Int32))).bind fun z2 =>
    if (fX10_in l1 (0 : Int32) (2 : Int32)) = (0 : Int32) then (
      some ((0 : Int32), z2)
    ) else (
      (gN 9 55 z2 a0).bind fun b15 =>
      (ixI 2 z2 b15 l1).bind fun x19 =>
      if x19 = (0 : Int32) then (
        some ((0 : Int32), z2)
      ) else (
        (fX10_copyAll a0 (l1 + (1 : Int32)) (0 : Int32) z2).bind fun z30 =>
        some ((1 : Int32), z30)
      )
    )
  else none
set_option maxHeartbeats 4000000 in
set_option maxRecDepth 100000 in
theorem ctX10_again (l : Launch) (G : GW) (a0 : Nat) (l1 : Int32) (z : AH) {r : Int32} {z' : AH} (h : fX10_again a0 l1 z = some (r, z')) : Met l yX10_again (wy yX10_again cX10_again 2 (some .boolean)) rmX10_again (Pz G [.ref (gB G + a0), .int l1] z) (Qi G r z') 0 0 (AA G) := by
  refine wz_ent (own := RX10) (by decide +kernel) rfl (fun p e s m below meth c ls C hlk hr hin hW hl => ?_) (Nat.le_of_ble_eq_true rfl)
  have hl : lv_has ls 2 [(0, .ref (gB G + a0)), (1, .int l1)] := hl
  have hx := C.1
  have hb := C.2.1
  unfold fX10_again at h
  obtain ⟨-, h⟩ := ck h
  refine lv_aload_n hx hb dX10_again_0 rfl (lv_at hl 0 rfl) ?_
  refine lv_iconst (v := 0) hx hb dX10_again_1 (by decide) ?_
  obtain ⟨z2, hg, h⟩ := ob h
  refine wz_put (v := (.int (0 : Int32))) C hW flX10_81 rfl rfl hg dX10_again_2 (fun H locs hW => ?_)
  refine lv_iload_n hx hb dX10_again_5 rfl (lv_at hl 1 rfl) ?_
  refine lv_iconst (v := 0) hx hb dX10_again_6 (by decide) ?_
  refine lv_iconst (v := 2) hx hb dX10_again_7 (by decide) ?_
  refine wz_rI (c' := 0) (s' := 0) hW (wz_runS (rest := []) C hW lTX10_93 (ctX10_in l G l1 (0 : Int32) (2 : Int32) z2 rfl) ⟨⟨rfl, rfl⟩, Nat.le_of_ble_eq_true rfl, Nat.le_of_ble_eq_true rfl⟩ rfl hl.1 rfl (Nat.le_of_ble_eq_true rfl) dX10_again_8 ⟨Nat.le_of_ble_eq_true rfl, Nat.le_of_ble_eq_true rfl⟩) rfl rfl (fun H locs hW => ?_)
  refine lv_if_eq (tgt := 23) hx hb dX10_again_11 (by decide) (fun c11 => ?_) (fun c11 => ?_)
  · have h := ite_t c11 h
    refine lv_iconst (v := 0) hx hb dX10_again_23 (by decide) ?_
    exact wz_zretE C hlk hr (Or.inl rfl) (so2 h).1 (so2 h).2 hW dX10_again_24
  · have h := ite_f c11 h
    refine lv_aload_n hx hb dX10_again_14 rfl (lv_at hl 0 rfl) ?_
    obtain ⟨b15, hg, h⟩ := ob h
    refine wz_gN C hW flX10_77 hg dX10_again_15 ?_
    refine lv_iload_n hx hb dX10_again_18 rfl (lv_at hl 1 rfl) ?_
    obtain ⟨x19, hg, h⟩ := ob h
    refine wz_zld C hW hg dX10_again_19 ?_
    refine lv_if_ne (tgt := 25) hx hb dX10_again_20 (by decide) (fun c20 => ?_) (fun c20 => ?_)
    · have h := ite_f c20 h
      refine lv_aload_n hx hb dX10_again_25 rfl (lv_at hl 0 rfl) ?_
      refine lv_iload_n hx hb dX10_again_26 rfl (lv_at hl 1 rfl) ?_
      refine lv_iconst (v := 1) hx hb dX10_again_27 (by decide) ?_
      refine lv_iadd hx hb dX10_again_28 ?_
      refine lv_iconst (v := 0) hx hb dX10_again_29 (by decide) ?_
      obtain ⟨z30, hq, h⟩ := ob h
      refine wz_rV (c' := 0) (s' := 0) hW (wz_runV (rest := []) C hW lVX10_513 (ck hq).1 rfl (ctX10_copyAll l G a0 (l1 + (1 : Int32)) (0 : Int32) z2 hq) ⟨⟨rfl, rfl⟩, Nat.le_of_ble_eq_true rfl, Nat.le_of_ble_eq_true rfl⟩ rfl hl.1 rfl (Nat.le_of_ble_eq_true rfl) dX10_again_30 ⟨Nat.le_of_ble_eq_true rfl, Nat.le_of_ble_eq_true rfl⟩) rfl rfl (fun H locs hW => ?_)
      refine lv_iconst (v := 1) hx hb dX10_again_33 (by decide) ?_
      exact wz_zretE C hlk hr (Or.inr rfl) (so2 h).1 (so2 h).2 hW dX10_again_34
    · have h := ite_t c20 h
      refine lv_iconst (v := 0) hx hb dX10_again_23 (by decide) ?_
      exact wz_zretE C hlk hr (Or.inl rfl) (so2 h).1 (so2 h).2 hW dX10_again_24
