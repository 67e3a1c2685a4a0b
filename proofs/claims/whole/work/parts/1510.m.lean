theorem dX10_findCells_72 : decode cX10_findCells 72 = .ok (.goto (-53), 3) := by decide +kernel
theorem dX10_findCells_75 : decode cX10_findCells 75 = .ok (.aload_n 0, 1) := by decide +kernel
theorem dX10_findCells_76 : decode cX10_findCells 76 = .ok (.getfield 68, 3) := by decide +kernel
theorem dX10_findCells_79 : decode cX10_findCells 79 = .ok (.aload_n 0, 1) := by decide +kernel
theorem dX10_findCells_80 : decode cX10_findCells 80 = .ok (.getfield 444, 3) := by decide +kernel
theorem dX10_findCells_83 : decode cX10_findCells 83 = .ok (.iload 4, 2) := by decide +kernel
theorem dX10_findCells_85 : decode cX10_findCells 85 = .ok (.ifCond .eq 7, 3) := by decide +kernel
theorem dX10_findCells_88 : decode cX10_findCells 88 = .ok (.iload_n 3, 1) := by decide +kernel
theorem dX10_findCells_89 : decode cX10_findCells 89 = .ok (.goto 12, 3) := by decide +kernel
theorem dX10_findCells_92 : decode cX10_findCells 92 = .ok (.aload_n 0, 1) := by decide +kernel
theorem dX10_findCells_93 : decode cX10_findCells 93 = .ok (.getfield 68, 3) := by decide +kernel
theorem dX10_findCells_96 : decode cX10_findCells 96 = .ok (.aload_n 0, 1) := by decide +kernel
theorem dX10_findCells_97 : decode cX10_findCells 97 = .ok (.getfield 444, 3) := by decide +kernel
theorem dX10_findCells_100 : decode cX10_findCells 100 = .ok (.iaload, 1) := by decide +kernel
theorem dX10_findCells_101 : decode cX10_findCells 101 = .ok (.iastore, 1) := by decide +kernel
theorem dX10_findCells_102 : decode cX10_findCells 102 = .ok (.aload_n 0, 1) := by decide +kernel
theorem dX10_findCells_103 : decode cX10_findCells 103 = .ok (.dup, 1) := by decide +kernel
theorem dX10_findCells_104 : decode cX10_findCells 104 = .ok (.getfield 444, 3) := by decide +kernel
theorem dX10_findCells_107 : decode cX10_findCells 107 = .ok (.iload 4, 2) := by decide +kernel
theorem dX10_findCells_109 : decode cX10_findCells 109 = .ok (.ifCond .eq 7, 3) := by decide +kernel
theorem dX10_findCells_112 : decode cX10_findCells 112 = .ok (.iconst 1, 1) := by decide +kernel
theorem dX10_findCells_113 : decode cX10_findCells 113 = .ok (.goto 4, 3) := by decide +kernel
theorem dX10_findCells_116 : decode cX10_findCells 116 = .ok (.iconst 0, 1) := by decide +kernel
theorem dX10_findCells_117 : decode cX10_findCells 117 = .ok (.iadd, 1) := by decide +kernel
theorem dX10_findCells_118 : decode cX10_findCells 118 = .ok (.putfield 444, 3) := by decide +kernel
theorem dX10_findCells_121 : decode cX10_findCells 121 = .ok (.iinc 3 1, 3) := by decide +kernel
theorem dX10_findCells_124 : decode cX10_findCells 124 = .ok (.goto (-117), 3) := by decide +kernel
theorem dX10_findCells_127 : decode cX10_findCells 127 = .ok (.aload_n 0, 1) := by decide +kernel
theorem dX10_findCells_128 : decode cX10_findCells 128 = .ok (.getfield 444, 3) := by decide +kernel
theorem dX10_findCells_131 : decode cX10_findCells 131 = .ok (.ireturn, 1) := by decide +kernel
theorem flX10_444 : FL RX10 444 9 49 := ⟨_, rfl, Nat.le_of_ble_eq_true rfl, tw 1248 (by decide +kernel) rfl, rfl⟩
theorem cdX10_crosses : Cond.code yX10_crosses cX10_crosses 7 (some .boolean) ∈ tz := tc7 181 rfl rfl
theorem lVX10_447 : LV RX10 447 yX10_crosses cX10_crosses 7 (some .boolean) 4 := ⟨tw 1737 (by decide +kernel) rfl, tw 1739 (by decide +kernel) rfl, tw 102 (by decide +kernel) rfl, tw 128 (by decide +kernel) rfl, cdX10_crosses, ⟨by decide +kernel, by decide +kernel, by decide +kernel⟩⟩
abbrev rmX10_findCells : Room := { frames := 2, cells := 0, slots := 0, locals := 47 }
def bX10_findCells_101 (k7 : Nat → Int32 → Int32 → Int32 → AH → Option (Int32 × AH)) (a0 : Nat) (l1 : Int32) (l2 : Int32) (l3 : Int32) (l4 : Int32) (s0 : Nat) (s1 : Int32) (s2 : Int32) (z : AH) : Option (Int32 × AH) :=
  (stI 0 z s0 s1 s2).bind fun z101 =>
  (gI 9 49 z101 a0).bind fun x104 =>
  if l4 = (0 : Int32) then (
    (pF 9 49 z101 a0 (.int (x104 + (0 : Int32)))).bind fun z118 =>
    nm (l3 + (1 : Int32)) fun v121 =>
    k7 a0 l1 l2 v121 z118
  ) else (
    (pF 9 49 z101 a0 (.int (x104 + (1 : Int32)))).bind fun z118 =>
    nm (l3 + (1 : Int32)) fun v121 =>
    k7 a0 l1 l2 v121 z118
  )
set_option maxHeartbeats 4000000 in
set_option maxRecDepth 100000 in
theorem kbX10_findCells_101 {p : Program} {l : Launch} {e : Env} {s : State} {m : MethodId} {args : Array Value} {below : List Frame} {meth : Method} {c : Code} {G : GW} {r : Int32} {z' : AH} (C : Cx p m c cX10_findCells 6 s args RX10 G) (hlk : meth.locks = false) (hr : meth.sig.returnType = (some .int)) (k7 : Nat → Int32 → Int32 → Int32 → AH → Option (Int32 × AH)) (hk7 : ∀ (a0 : Nat) (l1 : Int32) (l2 : Int32) (l3 : Int32) (z : AH) (H : Heap) (locs : List Loc) (ls : Array Slot), k7 a0 l1 l2 l3 z = some (r, z') → Wb G z s H locs → lv_has ls 6 [(0, .ref (gB G + a0)), (1, .int l1), (2, .int l2), (3, .int l3)] → W p l e rmX10_findCells s m args below meth c H locs 0 0 (MQ below (Qi G r z') args s 0 0 (AA G)) (F0 m 7 ls [])) (a0 : Nat) (l1 : Int32) (l2 : Int32) (l3 : Int32) (l4 : Int32) (s0 : Nat) (s1 : Int32) (s2 : Int32) {z : AH} {H : Heap} {locs : List Loc} {ls : Array Slot} (h : bX10_findCells_101 k7 a0 l1 l2 l3 l4 s0 s1 s2 z = some (r, z')) (hW : Wb G z s H locs) (hl : lv_has ls 6 [(0, .ref (gB G + a0)), (1, .int l1), (2, .int l2), (3, .int l3), (4, .int l4)]) : W p l e rmX10_findCells s m args below meth c H locs 0 0 (MQ below (Qi G r z') args s 0 0 (AA G)) (F0 m 101 ls [.int s2, .int s1, .ref (gB G + s0)]) := by
  have hx := C.1
  have hb := C.2.1
  unfold bX10_findCells_101 at h
  obtain ⟨z101, hg, h⟩ := ob h
  refine wz_ast C hW hg dX10_findCells_101 (fun H locs hW => ?_)
  refine lv_aload_n hx hb dX10_findCells_102 rfl (lv_at hl 0 rfl) ?_
  refine lv_dup hx hb dX10_findCells_103 rfl ?_
  obtain ⟨x104, hg, h⟩ := ob h
  refine wz_gI C hW flX10_444 hg dX10_findCells_104 ?_
  refine lv_iload hx hb dX10_findCells_107 (lv_at hl 4 rfl) ?_
  refine lv_if_eq (tgt := 116) hx hb dX10_findCells_109 (by decide) (fun c109 => ?_) (fun c109 => ?_)
  · have h := ite_t c109 h
    refine lv_iconst (v := 0) hx hb dX10_findCells_116 (by decide) ?_
    refine lv_iadd hx hb dX10_findCells_117 ?_
    obtain ⟨z118, hg, h⟩ := ob h
    refine wz_put (v := (.int (x104 + (0 : Int32)))) C hW flX10_444 rfl rfl hg dX10_findCells_118 (fun H locs hW => ?_)
    obtain ⟨v121, ev121⟩ : ∃ y : Int32, y = (l3 + (1 : Int32)) := ⟨_, rfl⟩
    have h := nm_to h ev121
    refine lv_iinc (v := v121) (lv' := [(3, .int v121), (0, .ref (gB G + a0)), (1, .int l1), (2, .int l2), (4, .int l4)]) hx hb dX10_findCells_121 hl (k := 3) rfl (by rw [ev121]; rfl) (by decide) rfl (fun ls hl => ?_)
    refine lv_goto (tgt := 7) hx hb dX10_findCells_124 (by decide) ?_
    exact hk7 a0 l1 l2 v121 z118 _ _ _ h hW (lv_sub hl [1, 2, 3, 0] rfl)
  · have h := ite_f c109 h
    refine lv_iconst (v := 1) hx hb dX10_findCells_112 (by decide) ?_
    refine lv_goto (tgt := 117) hx hb dX10_findCells_113 (by decide) ?_
    refine lv_iadd hx hb dX10_findCells_117 ?_
    obtain ⟨z118, hg, h⟩ := ob h
    refine wz_put (v := (.int (x104 + (1 : Int32)))) C hW flX10_444 rfl rfl hg dX10_findCells_118 (fun H locs hW => ?_)
    obtain ⟨v121, ev121⟩ : ∃ y : Int32, y = (l3 + (1 : Int32)) := ⟨_, rfl⟩
    have h := nm_to h ev121
    refine lv_iinc (v := v121) (lv' := [(3, .int v121), (0, .ref (gB G + a0)), (1, .int l1), (2, .int l2), (4, .int l4)]) hx hb dX10_findCells_121 hl (k := 3) rfl (by rw [ev121]; rfl) (by decide) rfl (fun ls hl => ?_)
    refine lv_goto (tgt := 7) hx hb dX10_findCells_124 (by decide) ?_
    exact hk7 a0 l1 l2 v121 z118 _ _ _ h hW (lv_sub hl [1, 2, 3, 0] rfl)
def bX10_findCells_75 (k7 : Nat → Int32 → Int32 → Int32 → AH → Option (Int32 × AH)) (a0 : Nat) (l1 : Int32) (l2 : Int32) (l3 : Int32) (l4 : Int32) (z : AH) : Option (Int32 × AH) :=
  (gN 9 48 z a0).bind fun b76 =>
  (gI 9 49 z a0).bind fun x80 =>
  if l4 = (0 : Int32) then (
    (gN 9 48 z a0).bind fun b93 =>
    (gI 9 49 z a0).bind fun x97 =>
    (ixI 0 z b93 x97).bind fun x100 =>
    bX10_findCells_101 k7 a0 l1 l2 l3 l4 b76 x80 x100 z
  ) else (
    bX10_findCells_101 k7 a0 l1 l2 l3 l4 b76 x80 l3 z
  )
set_option maxHeartbeats 4000000 in
set_option maxRecDepth 100000 in
theorem kbX10_findCells_75 {p : Program} {l : Launch} {e : Env} {s : State} {m : MethodId} {args : Array Value} {below : List Frame} {meth : Method} {c : Code} {G : GW} {r : Int32} {z' : AH} (C : Cx p m c cX10_findCells 6 s args RX10 G) (hlk : meth.locks = false) (hr : meth.sig.returnType = (some .int)) (k7 : Nat → Int32 → Int32 → Int32 → AH → Option (Int32 × AH)) (hk7 : ∀ (a0 : Nat) (l1 : Int32) (l2 : Int32) (l3 : Int32) (z : AH) (H : Heap) (locs : List Loc) (ls : Array Slot), k7 a0 l1 l2 l3 z = some (r, z') → Wb G z s H locs → lv_has ls 6 [(0, .ref (gB G + a0)), (1, .int l1), (2, .int l2), (3, .int l3)] → W p l e rmX10_findCells s m args below meth c H locs 0 0 (MQ below (Qi G r z') args s 0 0 (AA G)) (F0 m 7 ls [])) (a0 : Nat) (l1 : Int32) (l2 : Int32) (l3 : Int32) (l4 : Int32) {z : AH} {H : Heap} {locs : List Loc} {ls : Array Slot} (h : bX10_findCells_75 k7 a0 l1 l2 l3 l4 z = some (r, z')) (hW : Wb G z s H locs) (hl : lv_has ls 6 [(0, .ref (gB G + a0)), (1, .int l1), (2, .int l2), (3, .int l3), (4, .int l4)]) : W p l e rmX10_findCells s m args below meth c H locs 0 0 (MQ below (Qi G r z') args s 0 0 (AA G)) (F0 m 75 ls []) := by
  have hx := C.1
  have hb := C.2.1
  unfold bX10_findCells_75 at h
  refine lv_aload_n hx hb dX10_findCells_75 rfl (lv_at hl 0 rfl) ?_
  obtain ⟨b76, hg, h⟩ := ob h
  refine wz_gN C hW flX10_68 hg dX10_findCells_76 ?_
  refine lv_aload_n hx hb dX10_findCells_79 rfl (lv_at hl 0 rfl) ?_
  obtain ⟨x80, hg, h⟩ := ob h
  refine wz_gI C hW flX10_444 hg dX10_findCells_80 ?_
  refine lv_iload hx hb dX10_findCells_83 (lv_at hl 4 rfl) ?_
  refine lv_if_eq (tgt := 92) hx hb dX10_findCells_85 (by decide) (fun c85 => ?_) (fun c85 => ?_)
  · have h := ite_t c85 h
    refine lv_aload_n hx hb dX10_findCells_92 rfl (lv_at hl 0 rfl) ?_
    obtain ⟨b93, hg, h⟩ := ob h
    refine wz_gN C hW flX10_68 hg dX10_findCells_93 ?_
    refine lv_aload_n hx hb dX10_findCells_96 rfl (lv_at hl 0 rfl) ?_
    obtain ⟨x97, hg, h⟩ := ob h
    refine wz_gI C hW flX10_444 hg dX10_findCells_97 ?_
    obtain ⟨x100, hg, h⟩ := ob h
    refine wz_ald C hW hg dX10_findCells_100 ?_
    exact kbX10_findCells_101 C hlk hr k7 hk7 a0 l1 l2 l3 l4 b76 x80 x100 h hW (lv_sub hl [0, 1, 2, 3, 4] rfl)
  · have h := ite_f c85 h
    refine lv_iload_n hx hb dX10_findCells_88 rfl (lv_at hl 3 rfl) ?_
    refine lv_goto (tgt := 101) hx hb dX10_findCells_89 (by decide) ?_
    exact kbX10_findCells_101 C hlk hr k7 hk7 a0 l1 l2 l3 l4 b76 x80 l3 h hW (lv_sub hl [0, 1, 2, 3, 4] rfl)
def bX10_findCells_19 (k7 : Nat → Int32 → Int32 → Int32 → AH → Option (Int32 × AH)) (k19 : Nat → Int32 → Int32 → Int32 → Int32 → Int32 → AH → Option (Int32 × AH)) (a0 : Nat) (l1 : Int32) (l2 : Int32) (l3 : Int32) (l4 : Int32) (l5 : Int32) (z : AH) : Option (Int32 × AH) :=
  (fX10_views a0 z).bind fun x22 =>
  if x22 ≤ l5 then (
    bX10_findCells_75 k7 a0 l1 l2 l3 l4 z
  ) else (
    if l4 = (0 : Int32) then (
      bX10_findCells_75 k7 a0 l1 l2 l3 l4 z
    ) else (
      if l5 = l2 then (
        nm (l5 + (1 : Int32)) fun v69 =>
        k19 a0 l1 l2 l3 (1 : Int32) v69 z
      ) else (
        (fX10_viewOf a0 l5 (0 : Int32) z).bind fun x44 =>
        (fX10_viewOf a0 l5 (1 : Int32) z).bind fun x51 =>
        (fX10_crosses a0 x44 x51 l3 l1 z).bind fun x56 =>
        if x56 = (0 : Int32) then (
          nm (l5 + (1 : Int32)) fun v69 =>
          k19 a0 l1 l2 l3 (0 : Int32) v69 z
        ) else (
          nm (l5 + (1 : Int32)) fun v69 =>
          k19 a0 l1 l2 l3 (1 : Int32) v69 z
        )
      )
    )
  )
set_option maxHeartbeats 4000000 in
set_option maxRecDepth 100000 in
theorem kbX10_findCells_19 {p : Program} {l : Launch} {e : Env} {s : State} {m : MethodId} {args : Array Value} {below : List Frame} {meth : Method} {c : Code} {G : GW} {r : Int32} {z' : AH} (C : Cx p m c cX10_findCells 6 s args RX10 G) (hlk : meth.locks = false) (hr : meth.sig.returnType = (some .int)) (k7 : Nat → Int32 → Int32 → Int32 → AH → Option (Int32 × AH)) (k19 : Nat → Int32 → Int32 → Int32 → Int32 → Int32 → AH → Option (Int32 × AH)) (hk7 : ∀ (a0 : Nat) (l1 : Int32) (l2 : Int32) (l3 : Int32) (z : AH) (H : Heap) (locs : List Loc) (ls : Array Slot), k7 a0 l1 l2 l3 z = some (r, z') → Wb G z s H locs → lv_has ls 6 [(0, .ref (gB G + a0)), (1, .int l1), (2, .int l2), (3, .int l3)] → W p l e rmX10_findCells s m args below meth c H locs 0 0 (MQ below (Qi G r z') args s 0 0 (AA G)) (F0 m 7 ls [])) (hk19 : ∀ (a0 : Nat) (l1 : Int32) (l2 : Int32) (l3 : Int32) (l4 : Int32) (l5 : Int32) (z : AH) (H : Heap) (locs : List Loc) (ls : Array Slot), k19 a0 l1 l2 l3 l4 l5 z = some (r, z') → Wb G z s H locs → lv_has ls 6 [(0, .ref (gB G + a0)), (1, .int l1), (2, .int l2), (3, .int l3), (4, .int l4), (5, .int l5)] → W p l e rmX10_findCells s m args below meth c H locs 0 0 (MQ below (Qi G r z') args s 0 0 (AA G)) (F0 m 19 ls [])) (a0 : Nat) (l1 : Int32) (l2 : Int32) (l3 : Int32) (l4 : Int32) (l5 : Int32) {z : AH} {H : Heap} {locs : List Loc} {ls : Array Slot} (h : bX10_findCells_19 k7 k19 a0 l1 l2 l3 l4 l5 z = some (r, z')) (hW : Wb G z s H locs) (hl : lv_has ls 6 [(0, .ref (gB G + a0)), (1, .int l1), (2, .int l2), (3, .int l3), (4, .int l4), (5, .int l5)]) : W p l e rmX10_findCells s m args below meth c H locs 0 0 (MQ below (Qi G r z') args s 0 0 (AA G)) (F0 m 19 ls []) := by
  have hx := C.1
  have hb := C.2.1
  unfold bX10_findCells_19 at h
  refine lv_iload hx hb dX10_findCells_19 (lv_at hl 5 rfl) ?_
  refine lv_aload_n hx hb dX10_findCells_21 rfl (lv_at hl 0 rfl) ?_
  obtain ⟨x22, hq, h⟩ := ob h
  refine wz_rI (c' := 0) (s' := 0) hW (wz_runV (rest := [.int l5]) C hW lVX10_438 (ck hq).1 rfl (ctX10_views l G a0 z hq) ⟨⟨rfl, rfl⟩, Nat.le_of_ble_eq_true rfl, Nat.le_of_ble_eq_true rfl⟩ rfl hl.1 rfl (Nat.le_of_ble_eq_true rfl) dX10_findCells_22 ⟨Nat.le_of_ble_eq_true rfl, Nat.le_of_ble_eq_true rfl⟩) rfl rfl (fun H locs hW => ?_)
  refine lv_icmp_ge (tgt := 75) hx hb dX10_findCells_25 (by decide) (fun c25 => ?_) (fun c25 => ?_)
  · have h := ite_t c25 h
    exact kbX10_findCells_75 C hlk hr k7 hk7 a0 l1 l2 l3 l4 h hW (lv_sub hl [0, 1, 2, 3, 4] rfl)
  · have h := ite_f c25 h
    refine lv_iload hx hb dX10_findCells_28 (lv_at hl 4 rfl) ?_
    refine lv_if_eq (tgt := 75) hx hb dX10_findCells_30 (by decide) (fun c30 => ?_) (fun c30 => ?_)
    · have h := ite_t c30 h
      exact kbX10_findCells_75 C hlk hr k7 hk7 a0 l1 l2 l3 l4 h hW (lv_sub hl [0, 1, 2, 3, 4] rfl)
    · have h := ite_f c30 h
      refine lv_iload hx hb dX10_findCells_33 (lv_at hl 5 rfl) ?_
      refine lv_iload_n hx hb dX10_findCells_35 rfl (lv_at hl 2 rfl) ?_
      refine lv_icmp_eq (tgt := 62) hx hb dX10_findCells_36 (by decide) (fun c36 => ?_) (fun c36 => ?_)
      · have h := ite_t c36 h
        refine lv_iconst (v := 1) hx hb dX10_findCells_62 (by decide) ?_
        refine lv_goto (tgt := 67) hx hb dX10_findCells_63 (by decide) ?_
        refine lv_istore (lv' := [(4, .int (1 : Int32)), (0, .ref (gB G + a0)), (1, .int l1), (2, .int l2), (3, .int l3), (5, .int l5)]) hx hb dX10_findCells_67 hl (by decide) rfl (fun ls hl => ?_)
        obtain ⟨v69, ev69⟩ : ∃ y : Int32, y = (l5 + (1 : Int32)) := ⟨_, rfl⟩
        have h := nm_to h ev69
        refine lv_iinc (v := v69) (lv' := [(5, .int v69), (4, .int (1 : Int32)), (0, .ref (gB G + a0)), (1, .int l1), (2, .int l2), (3, .int l3)]) hx hb dX10_findCells_69 hl (k := 5) rfl (by rw [ev69]; rfl) (by decide) rfl (fun ls hl => ?_)
        refine lv_goto (tgt := 19) hx hb dX10_findCells_72 (by decide) ?_
        exact hk19 a0 l1 l2 l3 (1 : Int32) v69 z _ _ _ h hW (lv_sub hl [2, 3, 4, 5, 1, 0] rfl)
      · have h := ite_f c36 h
        refine lv_aload_n hx hb dX10_findCells_39 rfl (lv_at hl 0 rfl) ?_
        refine lv_aload_n hx hb dX10_findCells_40 rfl (lv_at hl 0 rfl) ?_
        refine lv_iload hx hb dX10_findCells_41 (lv_at hl 5 rfl) ?_
        refine lv_iconst (v := 0) hx hb dX10_findCells_43 (by decide) ?_
        obtain ⟨x44, hq, h⟩ := ob h
        refine wz_rI (c' := 0) (s' := 0) hW (wz_runV (rest := [.ref (gB G + a0)]) C hW lVX10_441 (ck hq).1 rfl (ctX10_viewOf l G a0 l5 (0 : Int32) z hq) ⟨⟨rfl, rfl⟩, Nat.le_of_ble_eq_true rfl, Nat.le_of_ble_eq_true rfl⟩ rfl hl.1 rfl (Nat.le_of_ble_eq_true rfl) dX10_findCells_44 ⟨Nat.le_of_ble_eq_true rfl, Nat.le_of_ble_eq_true rfl⟩) rfl rfl (fun H locs hW => ?_)
        refine lv_aload_n hx hb dX10_findCells_47 rfl (lv_at hl 0 rfl) ?_
        refine lv_iload hx hb dX10_findCells_48 (lv_at hl 5 rfl) ?_
        refine lv_iconst (v := 1) hx hb dX10_findCells_50 (by decide) ?_
        obtain ⟨x51, hq, h⟩ := ob h
        refine wz_rI (c' := 0) (s' := 0) hW (wz_runV (rest := [.int x44, .ref (gB G + a0)]) C hW lVX10_441 (ck hq).1 rfl (ctX10_viewOf l G a0 l5 (1 : Int32) z hq) ⟨⟨rfl, rfl⟩, Nat.le_of_ble_eq_true rfl, Nat.le_of_ble_eq_true rfl⟩ rfl hl.1 rfl (Nat.le_of_ble_eq_true rfl) dX10_findCells_51 ⟨Nat.le_of_ble_eq_true rfl, Nat.le_of_ble_eq_true rfl⟩) rfl rfl (fun H locs hW => ?_)
        refine lv_iload_n hx hb dX10_findCells_54 rfl (lv_at hl 3 rfl) ?_
        refine lv_iload_n hx hb dX10_findCells_55 rfl (lv_at hl 1 rfl) ?_
        obtain ⟨x56, hq, h⟩ := ob h
        refine wz_rI (c' := 0) (s' := 0) hW (wz_runV (rest := []) C hW lVX10_447 (ck hq).1 rfl (ctX10_crosses l G a0 x44 x51 l3 l1 z hq) ⟨⟨rfl, rfl⟩, Nat.le_of_ble_eq_true rfl, Nat.le_of_ble_eq_true rfl⟩ rfl hl.1 rfl (Nat.le_of_ble_eq_true rfl) dX10_findCells_56 ⟨Nat.le_of_ble_eq_true rfl, Nat.le_of_ble_eq_true rfl⟩) rfl rfl (fun H locs hW => ?_)
        refine lv_if_eq (tgt := 66) hx hb dX10_findCells_59 (by decide) (fun c59 => ?_) (fun c59 => ?_)
        · have h := ite_t c59 h
          refine lv_iconst (v := 0) hx hb dX10_findCells_66 (by decide) ?_
          refine lv_istore (lv' := [(4, .int (0 : Int32)), (0, .ref (gB G + a0)), (1, .int l1), (2, .int l2), (3, .int l3), (5, .int l5)]) hx hb dX10_findCells_67 hl (by decide) rfl (fun ls hl => ?_)
          obtain ⟨v69, ev69⟩ : ∃ y : Int32, y = (l5 + (1 : Int32)) := ⟨_, rfl⟩
          have h := nm_to h ev69
          refine lv_iinc (v := v69) (lv' := [(5, .int v69), (4, .int (0 : Int32)), (0, .ref (gB G + a0)), (1, .int l1), (2, .int l2), (3, .int l3)]) hx hb dX10_findCells_69 hl (k := 5) rfl (by rw [ev69]; rfl) (by decide) rfl (fun ls hl => ?_)
          refine lv_goto (tgt := 19) hx hb dX10_findCells_72 (by decide) ?_
          exact hk19 a0 l1 l2 l3 (0 : Int32) v69 z _ _ _ h hW (lv_sub hl [2, 3, 4, 5, 1, 0] rfl)
        · have h := ite_f c59 h
          refine lv_iconst (v := 1) hx hb dX10_findCells_62 (by decide) ?_
          refine lv_goto (tgt := 67) hx hb dX10_findCells_63 (by decide) ?_
          refine lv_istore (lv' := [(4, .int (1 : Int32)), (0, .ref (gB G + a0)), (1, .int l1), (2, .int l2), (3, .int l3), (5, .int l5)]) hx hb dX10_findCells_67 hl (by decide) rfl (fun ls hl => ?_)
          obtain ⟨v69, ev69⟩ : ∃ y : Int32, y = (l5 + (1 : Int32)) := ⟨_, rfl⟩
          have h := nm_to h ev69
          refine lv_iinc (v := v69) (lv' := [(5, .int v69), (4, .int (1 : Int32)), (0, .ref (gB G + a0)), (1, .int l1), (2, .int l2), (3, .int l3)]) hx hb dX10_findCells_69 hl (k := 5) rfl (by rw [ev69]; rfl) (by decide) rfl (fun ls hl => ?_)
          refine lv_goto (tgt := 19) hx hb dX10_findCells_72 (by decide) ?_
          exact hk19 a0 l1 l2 l3 (1 : Int32) v69 z _ _ _ h hW (lv_sub hl [2, 3, 4, 5, 1, 0] rfl)
def fX10_findCells_19 (k7 : Nat → Int32 → Int32 → Int32 → AH → Option (Int32 × AH)) : Nat → Nat → Int32 → Int32 → Int32 → Int32 → Int32 → AH → Option (Int32 × AH)
  | 0, _, _, _, _, _, _, _ => none
  | n + 1, a0, l1, l2, l3, l4, l5, z => bX10_findCells_19 k7 (fX10_findCells_19 k7 n) a0 l1 l2 l3 l4 l5 z
theorem klX10_findCells_19 {p : Program} {l : Launch} {e : Env} {s : State} {m : MethodId} {args : Array Value} {below : List Frame} {meth : Method} {c : Code} {G : GW} {r : Int32} {z' : AH} (C : Cx p m c cX10_findCells 6 s args RX10 G) (hlk : meth.locks = false) (hr : meth.sig.returnType = (some .int)) (k7 : Nat → Int32 → Int32 → Int32 → AH → Option (Int32 × AH)) (hk7 : ∀ (a0 : Nat) (l1 : Int32) (l2 : Int32) (l3 : Int32) (z : AH) (H : Heap) (locs : List Loc) (ls : Array Slot), k7 a0 l1 l2 l3 z = some (r, z') → Wb G z s H locs → lv_has ls 6 [(0, .ref (gB G + a0)), (1, .int l1), (2, .int l2), (3, .int l3)] → W p l e rmX10_findCells s m args below meth c H locs 0 0 (MQ below (Qi G r z') args s 0 0 (AA G)) (F0 m 7 ls [])) : ∀ (n : Nat) (a0 : Nat) (l1 : Int32) (l2 : Int32) (l3 : Int32) (l4 : Int32) (l5 : Int32) (z : AH) (H : Heap) (locs : List Loc) (ls : Array Slot), fX10_findCells_19 k7 n a0 l1 l2 l3 l4 l5 z = some (r, z') → Wb G z s H locs → lv_has ls 6 [(0, .ref (gB G + a0)), (1, .int l1), (2, .int l2), (3, .int l3), (4, .int l4), (5, .int l5)] → W p l e rmX10_findCells s m args below meth c H locs 0 0 (MQ below (Qi G r z') args s 0 0 (AA G)) (F0 m 19 ls []) := by
  intro n
  induction n with
  | zero => intro a0 l1 l2 l3 l4 l5 z H locs ls h; have h : (none : Option (Int32 × AH)) = some (r, z') := h; cases h
  | succ n ih => intro a0 l1 l2 l3 l4 l5 z H locs ls h hW hl; exact kbX10_findCells_19 C hlk hr k7 (fX10_findCells_19 k7 n) hk7 (fun a0 l1 l2 l3 l4 l5 z H locs ls h hW hl => ih a0 l1 l2 l3 l4 l5 z H locs ls h hW hl) a0 l1 l2 l3 l4 l5 h hW hl
def bX10_findCells_7 (k7 : Nat → Int32 → Int32 → Int32 → AH → Option (Int32 × AH)) (a0 : Nat) (l1 : Int32) (l2 : Int32) (l3 : Int32) (z : AH) : Option (Int32 × AH) :=
  if (100 : Int32) ≤ l3 then (
    (gI 9 49 z a0).bind fun x128 =>
    some (x128, z)
  ) else (
    fX10_findCells_19 k7 FU a0 l1 l2 l3 (1 : Int32) (0 : Int32) z
  )
set_option maxHeartbeats 4000000 in
set_option maxRecDepth 100000 in
theorem kbX10_findCells_7 {p : Program} {l : Launch} {e : Env} {s : State} {m : MethodId} {args : Array Value} {below : List Frame} {meth : Method} {c : Code} {G : GW} {r : Int32} {z' : AH} (C : Cx p m c cX10_findCells 6 s args RX10 G) (hlk : meth.locks = false) (hr : meth.sig.returnType = (some .int)) (k7 : Nat → Int32 → Int32 → Int32 → AH → Option (Int32 × AH)) (hk7 : ∀ (a0 : Nat) (l1 : Int32) (l2 : Int32) (l3 : Int32) (z : AH) (H : Heap) (locs : List Loc) (ls : Array Slot), k7 a0 l1 l2 l3 z = some (r, z') → Wb G z s H locs → lv_has ls 6 [(0, .ref (gB G + a0)), (1, .int l1), (2, .int l2), (3, .int l3)] → W p l e rmX10_findCells s m args below meth c H locs 0 0 (MQ below (Qi G r z') args s 0 0 (AA G)) (F0 m 7 ls [])) (a0 : Nat) (l1 : Int32) (l2 : Int32) (l3 : Int32) {z : AH} {H : Heap} {locs : List Loc} {ls : Array Slot} (h : bX10_findCells_7 k7 a0 l1 l2 l3 z = some (r, z')) (hW : Wb G z s H locs) (hl : lv_has ls 6 [(0, .ref (gB G + a0)), (1, .int l1), (2, .int l2), (3, .int l3)]) : W p l e rmX10_findCells s m args below meth c H locs 0 0 (MQ below (Qi G r z') args s 0 0 (AA G)) (F0 m 7 ls []) := by
  have hx := C.1
  have hb := C.2.1
  unfold bX10_findCells_7 at h
  refine lv_iload_n hx hb dX10_findCells_7 rfl (lv_at hl 3 rfl) ?_
  refine lv_bipush (v := 100) hx hb dX10_findCells_8 (by decide) ?_
  refine lv_icmp_ge (tgt := 127) hx hb dX10_findCells_10 (by decide) (fun c10 => ?_) (fun c10 => ?_)
  · have h := ite_t c10 h
    refine lv_aload_n hx hb dX10_findCells_127 rfl (lv_at hl 0 rfl) ?_
    obtain ⟨x128, hg, h⟩ := ob h
    refine wz_gI C hW flX10_444 hg dX10_findCells_128 ?_
    exact wz_iretE C hlk hr (so2 h).1 (so2 h).2 hW dX10_findCells_131
  · have h := ite_f c10 h
    refine lv_iconst (v := 1) hx hb dX10_findCells_13 (by decide) ?_
    refine lv_istore (lv' := [(4, .int (1 : Int32)), (0, .ref (gB G + a0)), (1, .int l1), (2, .int l2), (3, .int l3)]) hx hb dX10_findCells_14 hl (by decide) rfl (fun ls hl => ?_)
    refine lv_iconst (v := 0) hx hb dX10_findCells_16 (by decide) ?_
    refine lv_istore (lv' := [(5, .int (0 : Int32)), (4, .int (1 : Int32)), (0, .ref (gB G + a0)), (1, .int l1), (2, .int l2), (3, .int l3)]) hx hb dX10_findCells_17 hl (by decide) rfl (fun ls hl => ?_)
    exact klX10_findCells_19 C hlk hr k7 hk7 FU a0 l1 l2 l3 (1 : Int32) (0 : Int32) z _ _ _ h hW (lv_sub hl [2, 3, 4, 5, 1, 0] rfl)
def fX10_findCells_7 : Nat → Nat → Int32 → Int32 → Int32 → AH → Option (Int32 × AH)
  | 0, _, _, _, _, _ => none
  | n + 1, a0, l1, l2, l3, z => bX10_findCells_7 (fX10_findCells_7 n) a0 l1 l2 l3 z
theorem klX10_findCells_7 {p : Program} {l : Launch} {e : Env} {s : State} {m : MethodId} {args : Array Value} {below : List Frame} {meth : Method} {c : Code} {G : GW} {r : Int32} {z' : AH} (C : Cx p m c cX10_findCells 6 s args RX10 G) (hlk : meth.locks = false) (hr : meth.sig.returnType = (some .int)) : ∀ (n : Nat) (a0 : Nat) (l1 : Int32) (l2 : Int32) (l3 : Int32) (z : AH) (H : Heap) (locs : List Loc) (ls : Array Slot), fX10_findCells_7 n a0 l1 l2 l3 z = some (r, z') → Wb G z s H locs → lv_has ls 6 [(0, .ref (gB G + a0)), (1, .int l1), (2, .int l2), (3, .int l3)] → W p l e rmX10_findCells s m args below meth c H locs 0 0 (MQ below (Qi G r z') args s 0 0 (AA G)) (F0 m 7 ls []) := by
  intro n
  induction n with
  | zero => intro a0 l1 l2 l3 z H locs ls h; have h : (none : Option (Int32 × AH)) = some (r, z') := h; cases h
  | succ n ih => intro a0 l1 l2 l3 z H locs ls h hW hl; exact kbX10_findCells_7 C hlk hr (fX10_findCells_7 n) (fun a0 l1 l2 l3 z H locs ls h hW hl => ih a0 l1 l2 l3 z H locs ls h hW hl) a0 l1 l2 l3 h hW hl
def fX10_findCells (a0 : Nat) (l1 : Int32) (l2 : Int32) (z : AH) : Option (Int32 × AH) :=
  if isO 9 z a0 = true then
    (pF 9 49 z a0 (.int (0 : Int32))).bind fun z2 =>
    fX10_findCells_7 FU a0 l1 l2 (0 : Int32) z2
  else none
set_option maxHeartbeats 4000000 in
set_option maxRecDepth 100000 in
theorem ctX10_findCells (l : Launch) (G : GW) (a0 : Nat) (l1 : Int32) (l2 : Int32) (z : AH) {r : Int32} {z' : AH} (h : fX10_findCells a0 l1 l2 z = some (r, z')) : Met l yX10_findCells (wy yX10_findCells cX10_findCells 6 (some .int)) rmX10_findCells (Pz G [.ref (gB G + a0), .int l1, .int l2] z) (Qi G r z') 0 0 (AA G) := by
  refine wz_ent (own := RX10) (by decide +kernel) rfl (fun p e s m below meth c ls C hlk hr hin hW hl => ?_) (Nat.le_of_ble_eq_true rfl)
  have hl : lv_has ls 6 [(0, .ref (gB G + a0)), (1, .int l1), (2, .int l2)] := hl
  have hx := C.1
  have hb := C.2.1
  unfold fX10_findCells at h
  obtain ⟨-, h⟩ := ck h
  refine lv_aload_n hx hb dX10_findCells_0 rfl (lv_at hl 0 rfl) ?_
  refine lv_iconst (v := 0) hx hb dX10_findCells_1 (by decide) ?_
  obtain ⟨z2, hg, h⟩ := ob h
  refine wz_put (v := (.int (0 : Int32))) C hW flX10_444 rfl rfl hg dX10_findCells_2 (fun H locs hW => ?_)
  refine lv_iconst (v := 0) hx hb dX10_findCells_5 (by decide) ?_
  refine lv_istore_n (lv' := [(3, .int (0 : Int32)), (0, .ref (gB G + a0)), (1, .int l1), (2, .int l2)]) hx hb dX10_findCells_6 rfl hl (by decide) rfl (fun ls hl => ?_)
  exact klX10_findCells_7 C hlk hr FU a0 l1 l2 (0 : Int32) z2 _ _ _ h hW (lv_sub hl [1, 2, 3, 0] rfl)
theorem dX10_nextView_0 : decode cX10_nextView 0 = .ok (.iconst (-1), 1) := by decide +kernel
theorem dX10_nextView_1 : decode cX10_nextView 1 = .ok (.istore_n 2, 1) := by decide +kernel
theorem dX10_nextView_2 : decode cX10_nextView 2 = .ok (.ldc_w 397, 3) := by decide +kernel
theorem dX10_nextView_5 : decode cX10_nextView 5 = .ok (.istore_n 3, 1) := by decide +kernel
theorem dX10_nextView_6 : decode cX10_nextView 6 = .ok (.iconst 0, 1) := by decide +kernel
theorem dX10_nextView_7 : decode cX10_nextView 7 = .ok (.istore 4, 2) := by decide +kernel
theorem dX10_nextView_9 : decode cX10_nextView 9 = .ok (.iload 4, 2) := by decide +kernel
theorem dX10_nextView_11 : decode cX10_nextView 11 = .ok (.bipush 30, 2) := by decide +kernel
theorem dX10_nextView_13 : decode cX10_nextView 13 = .ok (.if_icmp .ge 106, 3) := by decide +kernel
theorem dX10_nextView_16 : decode cX10_nextView 16 = .ok (.aload_n 0, 1) := by decide +kernel
theorem dX10_nextView_17 : decode cX10_nextView 17 = .ok (.getfield 444, 3) := by decide +kernel
theorem dX10_nextView_20 : decode cX10_nextView 20 = .ok (.ifCond .le 99, 3) := by decide +kernel
theorem dX10_nextView_23 : decode cX10_nextView 23 = .ok (.iconst 0, 1) := by decide +kernel
theorem dX10_nextView_24 : decode cX10_nextView 24 = .ok (.istore 5, 2) := by decide +kernel
theorem dX10_nextView_26 : decode cX10_nextView 26 = .ok (.iconst 0, 1) := by decide +kernel
theorem dX10_nextView_27 : decode cX10_nextView 27 = .ok (.istore 6, 2) := by decide +kernel
theorem dX10_nextView_29 : decode cX10_nextView 29 = .ok (.iload 6, 2) := by decide +kernel
theorem dX10_nextView_31 : decode cX10_nextView 31 = .ok (.aload_n 0, 1) := by decide +kernel
theorem dX10_nextView_32 : decode cX10_nextView 32 = .ok (.getfield 444, 3) := by decide +kernel
theorem dX10_nextView_35 : decode cX10_nextView 35 = .ok (.if_icmp .ge 44, 3) := by decide +kernel
theorem dX10_nextView_38 : decode cX10_nextView 38 = .ok (.iload 5, 2) := by decide +kernel
theorem dX10_nextView_40 : decode cX10_nextView 40 = .ok (.aload_n 0, 1) := by decide +kernel
theorem dX10_nextView_41 : decode cX10_nextView 41 = .ok (.iload 4, 2) := by decide +kernel
theorem dX10_nextView_43 : decode cX10_nextView 43 = .ok (.bipush 10, 2) := by decide +kernel
theorem dX10_nextView_45 : decode cX10_nextView 45 = .ok (.idiv, 1) := by decide +kernel
theorem dX10_nextView_46 : decode cX10_nextView 46 = .ok (.iload 4, 2) := by decide +kernel
theorem dX10_nextView_48 : decode cX10_nextView 48 = .ok (.bipush 10, 2) := by decide +kernel
theorem dX10_nextView_50 : decode cX10_nextView 50 = .ok (.irem, 1) := by decide +kernel
theorem dX10_nextView_51 : decode cX10_nextView 51 = .ok (.aload_n 0, 1) := by decide +kernel
theorem dX10_nextView_52 : decode cX10_nextView 52 = .ok (.getfield 68, 3) := by decide +kernel
theorem dX10_nextView_55 : decode cX10_nextView 55 = .ok (.iload 6, 2) := by decide +kernel
theorem dX10_nextView_57 : decode cX10_nextView 57 = .ok (.iaload, 1) := by decide +kernel
theorem dX10_nextView_58 : decode cX10_nextView 58 = .ok (.iload_n 1, 1) := by decide +kernel
theorem dX10_nextView_59 : decode cX10_nextView 59 = .ok (.invokevirtual 447, 3) := by decide +kernel
theorem dX10_nextView_62 : decode cX10_nextView 62 = .ok (.ifCond .eq 7, 3) := by decide +kernel
theorem dX10_nextView_65 : decode cX10_nextView 65 = .ok (.iconst 1, 1) := by decide +kernel
theorem dX10_nextView_66 : decode cX10_nextView 66 = .ok (.goto 4, 3) := by decide +kernel
theorem dX10_nextView_69 : decode cX10_nextView 69 = .ok (.iconst 0, 1) := by decide +kernel
theorem dX10_nextView_70 : decode cX10_nextView 70 = .ok (.iadd, 1) := by decide +kernel
theorem dX10_nextView_71 : decode cX10_nextView 71 = .ok (.istore 5, 2) := by decide +kernel
theorem dX10_nextView_73 : decode cX10_nextView 73 = .ok (.iinc 6 1, 3) := by decide +kernel
theorem dX10_nextView_76 : decode cX10_nextView 76 = .ok (.goto (-47), 3) := by decide +kernel
theorem dX10_nextView_79 : decode cX10_nextView 79 = .ok (.iload 5, 2) := by decide +kernel
theorem dX10_nextView_81 : decode cX10_nextView 81 = .ok (.aload_n 0, 1) := by decide +kernel
theorem dX10_nextView_82 : decode cX10_nextView 82 = .ok (.getfield 444, 3) := by decide +kernel
theorem dX10_nextView_85 : decode cX10_nextView 85 = .ok (.iload 5, 2) := by decide +kernel
theorem dX10_nextView_87 : decode cX10_nextView 87 = .ok (.isub, 1) := by decide +kernel
theorem dX10_nextView_88 : decode cX10_nextView 88 = .ok (.invokestatic 155, 3) := by decide +kernel
theorem dX10_nextView_91 : decode cX10_nextView 91 = .ok (.istore 6, 2) := by decide +kernel
theorem dX10_nextView_93 : decode cX10_nextView 93 = .ok (.iload 6, 2) := by decide +kernel
theorem dX10_nextView_95 : decode cX10_nextView 95 = .ok (.iload_n 3, 1) := by decide +kernel
theorem dX10_nextView_96 : decode cX10_nextView 96 = .ok (.if_icmp .ge 8, 3) := by decide +kernel
theorem dX10_nextView_99 : decode cX10_nextView 99 = .ok (.iload 4, 2) := by decide +kernel
theorem dX10_nextView_101 : decode cX10_nextView 101 = .ok (.goto 4, 3) := by decide +kernel
theorem dX10_nextView_104 : decode cX10_nextView 104 = .ok (.iload_n 2, 1) := by decide +kernel
theorem dX10_nextView_105 : decode cX10_nextView 105 = .ok (.istore_n 2, 1) := by decide +kernel
theorem dX10_nextView_106 : decode cX10_nextView 106 = .ok (.iload_n 3, 1) := by decide +kernel
theorem dX10_nextView_107 : decode cX10_nextView 107 = .ok (.iload 6, 2) := by decide +kernel
theorem dX10_nextView_109 : decode cX10_nextView 109 = .ok (.invokestatic 324, 3) := by decide +kernel
theorem dX10_nextView_112 : decode cX10_nextView 112 = .ok (.istore_n 3, 1) := by decide +kernel
theorem dX10_nextView_113 : decode cX10_nextView 113 = .ok (.iinc 4 1, 3) := by decide +kernel
theorem dX10_nextView_116 : decode cX10_nextView 116 = .ok (.goto (-107), 3) := by decide +kernel
theorem dX10_nextView_119 : decode cX10_nextView 119 = .ok (.iload_n 2, 1) := by decide +kernel
theorem dX10_nextView_120 : decode cX10_nextView 120 = .ok (.ireturn, 1) := by decide +kernel
abbrev rmX10_nextView : Room := { frames := 2, cells := 0, slots := 0, locals := 47 }
def bX10_nextView_105 (k9 : Nat → Int32 → Int32 → Int32 → Int32 → Option (Int32)) (a0 : Nat) (l1 : Int32) (l3 : Int32) (l4 : Int32) (l6 : Int32) (s0 : Int32) (z : AH) : Option (Int32) :=
  nm (fX10_lesser l3 l6) fun v112 =>
  nm (l4 + (1 : Int32)) fun v113 =>
  k9 a0 l1 s0 v112 v113
set_option maxHeartbeats 4000000 in
set_option maxRecDepth 100000 in
theorem kbX10_nextView_105 {p : Program} {l : Launch} {e : Env} {s : State} {m : MethodId} {args : Array Value} {below : List Frame} {meth : Method} {c : Code} {G : GW} {r : Int32} (C : Cx p m c cX10_nextView 7 s args RX10 G) (hlk : meth.locks = false) (hr : meth.sig.returnType = (some .int)) {z : AH} (k9 : Nat → Int32 → Int32 → Int32 → Int32 → Option (Int32)) (hk9 : ∀ (a0 : Nat) (l1 : Int32) (l2 : Int32) (l3 : Int32) (l4 : Int32) (H : Heap) (locs : List Loc) (ls : Array Slot), k9 a0 l1 l2 l3 l4 = some r → Wb G z s H locs → lv_has ls 7 [(0, .ref (gB G + a0)), (1, .int l1), (2, .int l2), (3, .int l3), (4, .int l4)] → W p l e rmX10_nextView s m args below meth c H locs 0 0 (MQ below (Qi G r z) args s 0 0 (AA G)) (F0 m 9 ls [])) (a0 : Nat) (l1 : Int32) (l3 : Int32) (l4 : Int32) (l6 : Int32) (s0 : Int32) {H : Heap} {locs : List Loc} {ls : Array Slot} (h : bX10_nextView_105 k9 a0 l1 l3 l4 l6 s0 z = some r) (hW : Wb G z s H locs) (hl : lv_has ls 7 [(0, .ref (gB G + a0)), (1, .int l1), (3, .int l3), (4, .int l4), (6, .int l6)]) : W p l e rmX10_nextView s m args below meth c H locs 0 0 (MQ below (Qi G r z) args s 0 0 (AA G)) (F0 m 105 ls [.int s0]) := by
  have hx := C.1
  have hb := C.2.1
  unfold bX10_nextView_105 at h
  refine lv_istore_n (lv' := [(2, .int s0), (0, .ref (gB G + a0)), (1, .int l1), (3, .int l3), (4, .int l4), (6, .int l6)]) hx hb dX10_nextView_105 rfl hl (by decide) rfl (fun ls hl => ?_)
  refine lv_iload_n hx hb dX10_nextView_106 rfl (lv_at hl 3 rfl) ?_
  refine lv_iload hx hb dX10_nextView_107 (lv_at hl 5 rfl) ?_
  refine wz_rI (c' := 0) (s' := 0) hW (wz_runS (rest := []) C hW lTX10_324 (ctX10_lesser l G l3 l6 z rfl) ⟨⟨rfl, rfl⟩, Nat.le_of_ble_eq_true rfl, Nat.le_of_ble_eq_true rfl⟩ rfl hl.1 rfl (Nat.le_of_ble_eq_true rfl) dX10_nextView_109 ⟨Nat.le_of_ble_eq_true rfl, Nat.le_of_ble_eq_true rfl⟩) rfl rfl (fun H locs hW => ?_)
  refine lv_topi (fun v112 ev112 => ?_)
  have h := nm_to h ev112
  refine lv_istore_n (lv' := [(3, .int v112), (2, .int s0), (0, .ref (gB G + a0)), (1, .int l1), (4, .int l4), (6, .int l6)]) hx hb dX10_nextView_112 rfl hl (by decide) rfl (fun ls hl => ?_)
  obtain ⟨v113, ev113⟩ : ∃ y : Int32, y = (l4 + (1 : Int32)) := ⟨_, rfl⟩
  have h := nm_to h ev113
  refine lv_iinc (v := v113) (lv' := [(4, .int v113), (3, .int v112), (2, .int s0), (0, .ref (gB G + a0)), (1, .int l1), (6, .int l6)]) hx hb dX10_nextView_113 hl (k := 4) rfl (by rw [ev113]; rfl) (by decide) rfl (fun ls hl => ?_)
  refine lv_goto (tgt := 9) hx hb dX10_nextView_116 (by decide) ?_
  exact hk9 a0 l1 s0 v112 v113 _ _ _ h hW (lv_sub hl [3, 4, 2, 1, 0] rfl)
def bX10_nextView_29 (k9 : Nat → Int32 → Int32 → Int32 → Int32 → Option (Int32)) (k29 : Nat → Int32 → Int32 → Int32 → Int32 → Int32 → Int32 → Option (Int32)) (a0 : Nat) (l1 : Int32) (l2 : Int32) (l3 : Int32) (l4 : Int32) (l5 : Int32) (l6 : Int32) (z : AH) : Option (Int32) :=
  (gI 9 49 z a0).bind fun x32 =>
  if x32 ≤ l6 then (
    (gI 9 49 z a0).bind fun x82 =>
    nm (fX10_greater l5 (x82 - l5)) fun v91 =>
    if l3 ≤ v91 then (
      bX10_nextView_105 k9 a0 l1 l3 l4 v91 l2 z
    ) else (
      bX10_nextView_105 k9 a0 l1 l3 l4 v91 l4 z
    )
  ) else (
    (gN 9 48 z a0).bind fun b52 =>
    (ixI 0 z b52 l6).bind fun x57 =>
    (fX10_crosses a0 (l4 / (10 : Int32)) (irem l4 (10 : Int32)) x57 l1 z).bind fun x59 =>
    if x59 = (0 : Int32) then (
      nm (l5 + (0 : Int32)) fun v71 =>
      nm (l6 + (1 : Int32)) fun v73 =>
      k29 a0 l1 l2 l3 l4 v71 v73
    ) else (
      nm (l5 + (1 : Int32)) fun v71 =>
      nm (l6 + (1 : Int32)) fun v73 =>
      k29 a0 l1 l2 l3 l4 v71 v73
    )
  )
set_option maxHeartbeats 4000000 in
set_option maxRecDepth 100000 in
theorem kbX10_nextView_29 {p : Program} {l : Launch} {e : Env} {s : State} {m : MethodId} {args : Array Value} {below : List Frame} {meth : Method} {c : Code} {G : GW} {r : Int32} (C : Cx p m c cX10_nextView 7 s args RX10 G) (hlk : meth.locks = false) (hr : meth.sig.returnType = (some .int)) {z : AH} (k9 : Nat → Int32 → Int32 → Int32 → Int32 → Option (Int32)) (k29 : Nat → Int32 → Int32 → Int32 → Int32 → Int32 → Int32 → Option (Int32)) (hk9 : ∀ (a0 : Nat) (l1 : Int32) (l2 : Int32) (l3 : Int32) (l4 : Int32) (H : Heap) (locs : List Loc) (ls : Array Slot), k9 a0 l1 l2 l3 l4 = some r → Wb G z s H locs → lv_has ls 7 [(0, .ref (gB G + a0)), (1, .int l1), (2, .int l2), (3, .int l3), (4, .int l4)] → W p l e rmX10_nextView s m args below meth c H locs 0 0 (MQ below (Qi G r z) args s 0 0 (AA G)) (F0 m 9 ls [])) (hk29 : ∀ (a0 : Nat) (l1 : Int32) (l2 : Int32) (l3 : Int32) (l4 : Int32) (l5 : Int32) (l6 : Int32) (H : Heap) (locs : List Loc) (ls : Array Slot), k29 a0 l1 l2 l3 l4 l5 l6 = some r → Wb G z s H locs → lv_has ls 7 [(0, .ref (gB G + a0)), (1, .int l1), (2, .int l2), (3, .int l3), (4, .int l4), (5, .int l5), (6, .int l6)] → W p l e rmX10_nextView s m args below meth c H locs 0 0 (MQ below (Qi G r z) args s 0 0 (AA G)) (F0 m 29 ls [])) (a0 : Nat) (l1 : Int32) (l2 : Int32) (l3 : Int32) (l4 : Int32) (l5 : Int32) (l6 : Int32) {H : Heap} {locs : List Loc} {ls : Array Slot} (h : bX10_nextView_29 k9 k29 a0 l1 l2 l3 l4 l5 l6 z = some r) (hW : Wb G z s H locs) (hl : lv_has ls 7 [(0, .ref (gB G + a0)), (1, .int l1), (2, .int l2), (3, .int l3), (4, .int l4), (5, .int l5), (6, .int l6)]) : W p l e rmX10_nextView s m args below meth c H locs 0 0 (MQ below (Qi G r z) args s 0 0 (AA G)) (F0 m 29 ls []) := by
  have hx := C.1
  have hb := C.2.1
  unfold bX10_nextView_29 at h
  refine lv_iload hx hb dX10_nextView_29 (lv_at hl 6 rfl) ?_
  refine lv_aload_n hx hb dX10_nextView_31 rfl (lv_at hl 0 rfl) ?_
  obtain ⟨x32, hg, h⟩ := ob h
  refine wz_gI C hW flX10_444 hg dX10_nextView_32 ?_
  refine lv_icmp_ge (tgt := 79) hx hb dX10_nextView_35 (by decide) (fun c35 => ?_) (fun c35 => ?_)
  · have h := ite_t c35 h
    refine lv_iload hx hb dX10_nextView_79 (lv_at hl 5 rfl) ?_
    refine lv_aload_n hx hb dX10_nextView_81 rfl (lv_at hl 0 rfl) ?_
    obtain ⟨x82, hg, h⟩ := ob h
    refine wz_gI C hW flX10_444 hg dX10_nextView_82 ?_
    refine lv_iload hx hb dX10_nextView_85 (lv_at hl 5 rfl) ?_
    refine lv_isub hx hb dX10_nextView_87 ?_
    refine wz_rI (c' := 0) (s' := 0) hW (wz_runS (rest := []) C hW lTX10_155 (ctX10_greater l G l5 (x82 - l5) z rfl) ⟨⟨rfl, rfl⟩, Nat.le_of_ble_eq_true rfl, Nat.le_of_ble_eq_true rfl⟩ rfl hl.1 rfl (Nat.le_of_ble_eq_true rfl) dX10_nextView_88 ⟨Nat.le_of_ble_eq_true rfl, Nat.le_of_ble_eq_true rfl⟩) rfl rfl (fun H locs hW => ?_)
    refine lv_topi (fun v91 ev91 => ?_)
    have h := nm_to h ev91
    refine lv_istore (lv' := [(6, .int v91), (0, .ref (gB G + a0)), (1, .int l1), (2, .int l2), (3, .int l3), (4, .int l4), (5, .int l5)]) hx hb dX10_nextView_91 hl (by decide) rfl (fun ls hl => ?_)
    refine lv_iload hx hb dX10_nextView_93 (lv_at hl 0 rfl) ?_
    refine lv_iload_n hx hb dX10_nextView_95 rfl (lv_at hl 4 rfl) ?_
    refine lv_icmp_ge (tgt := 104) hx hb dX10_nextView_96 (by decide) (fun c96 => ?_) (fun c96 => ?_)
    · have h := ite_t c96 h
      refine lv_iload_n hx hb dX10_nextView_104 rfl (lv_at hl 3 rfl) ?_
      exact kbX10_nextView_105 C hlk hr k9 hk9 a0 l1 l3 l4 v91 l2 h hW (lv_sub hl [1, 2, 4, 5, 0] rfl)
    · have h := ite_f c96 h
      refine lv_iload hx hb dX10_nextView_99 (lv_at hl 5 rfl) ?_
      refine lv_goto (tgt := 105) hx hb dX10_nextView_101 (by decide) ?_
      exact kbX10_nextView_105 C hlk hr k9 hk9 a0 l1 l3 l4 v91 l4 h hW (lv_sub hl [1, 2, 4, 5, 0] rfl)
  · have h := ite_f c35 h
    refine lv_iload hx hb dX10_nextView_38 (lv_at hl 5 rfl) ?_
    refine lv_aload_n hx hb dX10_nextView_40 rfl (lv_at hl 0 rfl) ?_
    refine lv_iload hx hb dX10_nextView_41 (lv_at hl 4 rfl) ?_
    refine lv_bipush (v := 10) hx hb dX10_nextView_43 (by decide) ?_
    refine lv_idiv hx hb dX10_nextView_45 (by decide) ?_
    refine lv_iload hx hb dX10_nextView_46 (lv_at hl 4 rfl) ?_
    refine lv_bipush (v := 10) hx hb dX10_nextView_48 (by decide) ?_
    refine wz_irem hx hb dX10_nextView_50 (by decide) ?_
    refine lv_aload_n hx hb dX10_nextView_51 rfl (lv_at hl 0 rfl) ?_
    obtain ⟨b52, hg, h⟩ := ob h
    refine wz_gN C hW flX10_68 hg dX10_nextView_52 ?_
    refine lv_iload hx hb dX10_nextView_55 (lv_at hl 6 rfl) ?_
    obtain ⟨x57, hg, h⟩ := ob h
    refine wz_ald C hW hg dX10_nextView_57 ?_
    refine lv_iload_n hx hb dX10_nextView_58 rfl (lv_at hl 1 rfl) ?_
    obtain ⟨x59, hq, h⟩ := ob h
    refine wz_rI (c' := 0) (s' := 0) hW (wz_runV (rest := [.int l5]) C hW lVX10_447 (ck hq).1 rfl (ctX10_crosses l G a0 (l4 / (10 : Int32)) (irem l4 (10 : Int32)) x57 l1 z hq) ⟨⟨rfl, rfl⟩, Nat.le_of_ble_eq_true rfl, Nat.le_of_ble_eq_true rfl⟩ rfl hl.1 rfl (Nat.le_of_ble_eq_true rfl) dX10_nextView_59 ⟨Nat.le_of_ble_eq_true rfl, Nat.le_of_ble_eq_true rfl⟩) rfl rfl (fun H locs hW => ?_)
    refine lv_if_eq (tgt := 69) hx hb dX10_nextView_62 (by decide) (fun c62 => ?_) (fun c62 => ?_)
    · have h := ite_t c62 h
      refine lv_iconst (v := 0) hx hb dX10_nextView_69 (by decide) ?_
      refine lv_iadd hx hb dX10_nextView_70 ?_
      refine lv_topi (fun v71 ev71 => ?_)
      have h := nm_to h ev71
      refine lv_istore (lv' := [(5, .int v71), (0, .ref (gB G + a0)), (1, .int l1), (2, .int l2), (3, .int l3), (4, .int l4), (6, .int l6)]) hx hb dX10_nextView_71 hl (by decide) rfl (fun ls hl => ?_)
      obtain ⟨v73, ev73⟩ : ∃ y : Int32, y = (l6 + (1 : Int32)) := ⟨_, rfl⟩
      have h := nm_to h ev73
      refine lv_iinc (v := v73) (lv' := [(6, .int v73), (5, .int v71), (0, .ref (gB G + a0)), (1, .int l1), (2, .int l2), (3, .int l3), (4, .int l4)]) hx hb dX10_nextView_73 hl (k := 6) rfl (by rw [ev73]; rfl) (by decide) rfl (fun ls hl => ?_)
      refine lv_goto (tgt := 29) hx hb dX10_nextView_76 (by decide) ?_
      exact hk29 a0 l1 l2 l3 l4 v71 v73 _ _ _ h hW (lv_sub hl [2, 3, 4, 5, 6, 1, 0] rfl)
    · have h := ite_f c62 h
      refine lv_iconst (v := 1) hx hb dX10_nextView_65 (by decide) ?_
      refine lv_goto (tgt := 70) hx hb dX10_nextView_66 (by decide) ?_
      refine lv_iadd hx hb dX10_nextView_70 ?_
      refine lv_topi (fun v71 ev71 => ?_)
      have h := nm_to h ev71
      refine lv_istore (lv' := [(5, .int v71), (0, .ref (gB G + a0)), (1, .int l1), (2, .int l2), (3, .int l3), (4, .int l4), (6, .int l6)]) hx hb dX10_nextView_71 hl (by decide) rfl (fun ls hl => ?_)
      obtain ⟨v73, ev73⟩ : ∃ y : Int32, y = (l6 + (1 : Int32)) := ⟨_, rfl⟩
      have h := nm_to h ev73
      refine lv_iinc (v := v73) (lv' := [(6, .int v73), (5, .int v71), (0, .ref (gB G + a0)), (1, .int l1), (2, .int l2), (3, .int l3), (4, .int l4)]) hx hb dX10_nextView_73 hl (k := 6) rfl (by rw [ev73]; rfl) (by decide) rfl (fun ls hl => ?_)
      refine lv_goto (tgt := 29) hx hb dX10_nextView_76 (by decide) ?_
      exact hk29 a0 l1 l2 l3 l4 v71 v73 _ _ _ h hW (lv_sub hl [2, 3, 4, 5, 6, 1, 0] rfl)
def fX10_nextView_29 (k9 : Nat → Int32 → Int32 → Int32 → Int32 → Option (Int32)) (z : AH) : Nat → Nat → Int32 → Int32 → Int32 → Int32 → Int32 → Int32 → Option (Int32)
  | 0, _, _, _, _, _, _, _ => none
  | n + 1, a0, l1, l2, l3, l4, l5, l6 => bX10_nextView_29 k9 (fX10_nextView_29 k9 z n) a0 l1 l2 l3 l4 l5 l6 z
theorem klX10_nextView_29 {p : Program} {l : Launch} {e : Env} {s : State} {m : MethodId} {args : Array Value} {below : List Frame} {meth : Method} {c : Code} {G : GW} {r : Int32} (C : Cx p m c cX10_nextView 7 s args RX10 G) (hlk : meth.locks = false) (hr : meth.sig.returnType = (some .int)) {z : AH} (k9 : Nat → Int32 → Int32 → Int32 → Int32 → Option (Int32)) (hk9 : ∀ (a0 : Nat) (l1 : Int32) (l2 : Int32) (l3 : Int32) (l4 : Int32) (H : Heap) (locs : List Loc) (ls : Array Slot), k9 a0 l1 l2 l3 l4 = some r → Wb G z s H locs → lv_has ls 7 [(0, .ref (gB G + a0)), (1, .int l1), (2, .int l2), (3, .int l3), (4, .int l4)] → W p l e rmX10_nextView s m args below meth c H locs 0 0 (MQ below (Qi G r z) args s 0 0 (AA G)) (F0 m 9 ls [])) : ∀ (n : Nat) (a0 : Nat) (l1 : Int32) (l2 : Int32) (l3 : Int32) (l4 : Int32) (l5 : Int32) (l6 : Int32) (H : Heap) (locs : List Loc) (ls : Array Slot), fX10_nextView_29 k9 z n a0 l1 l2 l3 l4 l5 l6 = some r → Wb G z s H locs → lv_has ls 7 [(0, .ref (gB G + a0)), (1, .int l1), (2, .int l2), (3, .int l3), (4, .int l4), (5, .int l5), (6, .int l6)] → W p l e rmX10_nextView s m args below meth c H locs 0 0 (MQ below (Qi G r z) args s 0 0 (AA G)) (F0 m 29 ls []) := by
  intro n
  induction n with
  | zero => intro a0 l1 l2 l3 l4 l5 l6 H locs ls h; have h : (none : Option (Int32)) = some r := h; cases h
  | succ n ih => intro a0 l1 l2 l3 l4 l5 l6 H locs ls h hW hl; exact kbX10_nextView_29 C hlk hr k9 (fX10_nextView_29 k9 z n) hk9 (fun a0 l1 l2 l3 l4 l5 l6 H locs ls h hW hl => ih a0 l1 l2 l3 l4 l5 l6 H locs ls h hW hl) a0 l1 l2 l3 l4 l5 l6 h hW hl
def bX10_nextView_9 (k9 : Nat → Int32 → Int32 → Int32 → Int32 → Option (Int32)) (a0 : Nat) (l1 : Int32) (l2 : Int32) (l3 : Int32) (l4 : Int32) (z : AH) : Option (Int32) :=
  if (30 : Int32) ≤ l4 then (
    some l2
  ) else (
    (gI 9 49 z a0).bind fun x17 =>
    if x17 ≤ (0 : Int32) then (
      some l2
    ) else (
      fX10_nextView_29 k9 z FU a0 l1 l2 l3 l4 (0 : Int32) (0 : Int32)
    )
  )
set_option maxHeartbeats 4000000 in
set_option maxRecDepth 100000 in
theorem kbX10_nextView_9 {p : Program} {l : Launch} {e : Env} {s : State} {m : MethodId} {args : Array Value} {below : List Frame} {meth : Method} {c : Code} {G : GW} {r : Int32} (C : Cx p m c cX10_nextView 7 s args RX10 G) (hlk : meth.locks = false) (hr : meth.sig.returnType = (some .int)) {z : AH} (k9 : Nat → Int32 → Int32 → Int32 → Int32 → Option (Int32)) (hk9 : ∀ (a0 : Nat) (l1 : Int32) (l2 : Int32) (l3 : Int32) (l4 : Int32) (H : Heap) (locs : List Loc) (ls : Array Slot), k9 a0 l1 l2 l3 l4 = some r → Wb G z s H locs → lv_has ls 7 [(0, .ref (gB G + a0)), (1, .int l1), (2, .int l2), (3, .int l3), (4, .int l4)] → W p l e rmX10_nextView s m args below meth c H locs 0 0 (MQ below (Qi G r z) args s 0 0 (AA G)) (F0 m 9 ls [])) (a0 : Nat) (l1 : Int32) (l2 : Int32) (l3 : Int32) (l4 : Int32) {H : Heap} {locs : List Loc} {ls : Array Slot} (h : bX10_nextView_9 k9 a0 l1 l2 l3 l4 z = some r) (hW : Wb G z s H locs) (hl : lv_has ls 7 [(0, .ref (gB G + a0)), (1, .int l1), (2, .int l2), (3, .int l3), (4, .int l4)]) : W p l e rmX10_nextView s m args below meth c H locs 0 0 (MQ below (Qi G r z) args s 0 0 (AA G)) (F0 m 9 ls []) := by
  have hx := C.1
  have hb := C.2.1
  unfold bX10_nextView_9 at h
  refine lv_iload hx hb dX10_nextView_9 (lv_at hl 4 rfl) ?_
  refine lv_bipush (v := 30) hx hb dX10_nextView_11 (by decide) ?_
  refine lv_icmp_ge (tgt := 119) hx hb dX10_nextView_13 (by decide) (fun c13 => ?_) (fun c13 => ?_)
  · have h := ite_t c13 h
    refine lv_iload_n hx hb dX10_nextView_119 rfl (lv_at hl 2 rfl) ?_
    exact wz_iretE C hlk hr (Option.some.inj h) rfl hW dX10_nextView_120
  · have h := ite_f c13 h
    refine lv_aload_n hx hb dX10_nextView_16 rfl (lv_at hl 0 rfl) ?_
    obtain ⟨x17, hg, h⟩ := ob h
    refine wz_gI C hW flX10_444 hg dX10_nextView_17 ?_
    refine lv_if_le (tgt := 119) hx hb dX10_nextView_20 (by decide) (fun c20 => ?_) (fun c20 => ?_)
    · have h := ite_t c20 h
      refine lv_iload_n hx hb dX10_nextView_119 rfl (lv_at hl 2 rfl) ?_
      exact wz_iretE C hlk hr (Option.some.inj h) rfl hW dX10_nextView_120
    · have h := ite_f c20 h
      refine lv_iconst (v := 0) hx hb dX10_nextView_23 (by decide) ?_
      refine lv_istore (lv' := [(5, .int (0 : Int32)), (0, .ref (gB G + a0)), (1, .int l1), (2, .int l2), (3, .int l3), (4, .int l4)]) hx hb dX10_nextView_24 hl (by decide) rfl (fun ls hl => ?_)
      refine lv_iconst (v := 0) hx hb dX10_nextView_26 (by decide) ?_
      refine lv_istore (lv' := [(6, .int (0 : Int32)), (5, .int (0 : Int32)), (0, .ref (gB G + a0)), (1, .int l1), (2, .int l2), (3, .int l3), (4, .int l4)]) hx hb dX10_nextView_27 hl (by decide) rfl (fun ls hl => ?_)
      exact klX10_nextView_29 C hlk hr k9 hk9 FU a0 l1 l2 l3 l4 (0 : Int32) (0 : Int32) _ _ _ h hW (lv_sub hl [2, 3, 4, 5, 6, 1, 0] rfl)
def fX10_nextView_9 (z : AH) : Nat → Nat → Int32 → Int32 → Int32 → Int32 → Option (Int32)
  | 0, _, _, _, _, _ => none
  | n + 1, a0, l1, l2, l3, l4 => bX10_nextView_9 (fX10_nextView_9 z n) a0 l1 l2 l3 l4 z
theorem klX10_nextView_9 {p : Program} {l : Launch} {e : Env} {s : State} {m : MethodId} {args : Array Value} {below : List Frame} {meth : Method} {c : Code} {G : GW} {r : Int32} (C : Cx p m c cX10_nextView 7 s args RX10 G) (hlk : meth.locks = false) (hr : meth.sig.returnType = (some .int)) {z : AH} : ∀ (n : Nat) (a0 : Nat) (l1 : Int32) (l2 : Int32) (l3 : Int32) (l4 : Int32) (H : Heap) (locs : List Loc) (ls : Array Slot), fX10_nextView_9 z n a0 l1 l2 l3 l4 = some r → Wb G z s H locs → lv_has ls 7 [(0, .ref (gB G + a0)), (1, .int l1), (2, .int l2), (3, .int l3), (4, .int l4)] → W p l e rmX10_nextView s m args below meth c H locs 0 0 (MQ below (Qi G r z) args s 0 0 (AA G)) (F0 m 9 ls []) := by
  intro n
  induction n with
  | zero => intro a0 l1 l2 l3 l4 H locs ls h; have h : (none : Option (Int32)) = some r := h; cases h
  | succ n ih => intro a0 l1 l2 l3 l4 H locs ls h hW hl; exact kbX10_nextView_9 C hlk hr (fX10_nextView_9 z n) (fun a0 l1 l2 l3 l4 H locs ls h hW hl => ih a0 l1 l2 l3 l4 H locs ls h hW hl) a0 l1 l2 l3 l4 h hW hl
def fX10_nextView (a0 : Nat) (l1 : Int32) (z : AH) : Option (Int32) :=
  if isO 9 z a0 = true then
    fX10_nextView_9 z FU a0 l1 (-1 : Int32) (1000000 : Int32) (0 : Int32)
  else none
set_option maxHeartbeats 4000000 in
set_option maxRecDepth 100000 in
theorem ctX10_nextView (l : Launch) (G : GW) (a0 : Nat) (l1 : Int32) (z : AH) {r : Int32} (h : fX10_nextView a0 l1 z = some r) : Met l yX10_nextView (wy yX10_nextView cX10_nextView 7 (some .int)) rmX10_nextView (Pz G [.ref (gB G + a0), .int l1] z) (Qi G r z) 0 0 (AA G) := by
  refine wz_ent (own := RX10) (by decide +kernel) rfl (fun p e s m below meth c ls C hlk hr hin hW hl => ?_) (Nat.le_of_ble_eq_true rfl)
  have hl : lv_has ls 7 [(0, .ref (gB G + a0)), (1, .int l1)] := hl
  have hx := C.1
  have hb := C.2.1
  unfold fX10_nextView at h
  obtain ⟨-, h⟩ := ck h
  refine lv_iconst (v := -1) hx hb dX10_nextView_0 (by decide) ?_
  refine lv_istore_n (lv' := [(2, .int (-1 : Int32)), (0, .ref (gB G + a0)), (1, .int l1)]) hx hb dX10_nextView_1 rfl hl (by decide) rfl (fun ls hl => ?_)
  refine lv_ldcw (v := 1000000) hx hb C.2.2.2.1 (C.2.2.2.2.1 _ (tw 1653 (by decide +kernel) rfl)) dX10_nextView_2 ?_
  refine lv_istore_n (lv' := [(3, .int (1000000 : Int32)), (2, .int (-1 : Int32)), (0, .ref (gB G + a0)), (1, .int l1)]) hx hb dX10_nextView_5 rfl hl (by decide) rfl (fun ls hl => ?_)
  refine lv_iconst (v := 0) hx hb dX10_nextView_6 (by decide) ?_
  refine lv_istore (lv' := [(4, .int (0 : Int32)), (3, .int (1000000 : Int32)), (2, .int (-1 : Int32)), (0, .ref (gB G + a0)), (1, .int l1)]) hx hb dX10_nextView_7 hl (by decide) rfl (fun ls hl => ?_)
  exact klX10_nextView_9 C hlk hr FU a0 l1 (-1 : Int32) (1000000 : Int32) (0 : Int32) _ _ _ h hW (lv_sub hl [3, 4, 2, 1, 0] rfl)
theorem dX10_fits_0 : decode cX10_fits 0 = .ok (.aload_n 0, 1) := by decide +kernel
theorem dX10_fits_1 : decode cX10_fits 1 = .ok (.iconst 0, 1) := by decide +kernel
theorem dX10_fits_2 : decode cX10_fits 2 = .ok (.putfield 81, 3) := by decide +kernel
theorem dX10_fits_5 : decode cX10_fits 5 = .ok (.iload_n 2, 1) := by decide +kernel
theorem dX10_fits_6 : decode cX10_fits 6 = .ok (.iconst 0, 1) := by decide +kernel
theorem dX10_fits_7 : decode cX10_fits 7 = .ok (.iconst 3, 1) := by decide +kernel
theorem dX10_fits_8 : decode cX10_fits 8 = .ok (.invokestatic 93, 3) := by decide +kernel
theorem dX10_fits_11 : decode cX10_fits 11 = .ok (.ifCond .eq 11, 3) := by decide +kernel
theorem dX10_fits_14 : decode cX10_fits 14 = .ok (.aload_n 0, 1) := by decide +kernel
theorem dX10_fits_15 : decode cX10_fits 15 = .ok (.iload_n 1, 1) := by decide +kernel
theorem dX10_fits_16 : decode cX10_fits 16 = .ok (.invokevirtual 435, 3) := by decide +kernel
theorem dX10_fits_19 : decode cX10_fits 19 = .ok (.ifCond .ne 6, 3) := by decide +kernel
theorem dX10_fits_22 : decode cX10_fits 22 = .ok (.bipush (-2), 2) := by decide +kernel
theorem dX10_fits_24 : decode cX10_fits 24 = .ok (.ireturn, 1) := by decide +kernel
theorem dX10_fits_25 : decode cX10_fits 25 = .ok (.aload_n 0, 1) := by decide +kernel
theorem dX10_fits_26 : decode cX10_fits 26 = .ok (.iload_n 2, 1) := by decide +kernel
theorem dX10_fits_27 : decode cX10_fits 27 = .ok (.iconst (-1), 1) := by decide +kernel
theorem dX10_fits_28 : decode cX10_fits 28 = .ok (.invokevirtual 450, 3) := by decide +kernel
theorem dX10_fits_31 : decode cX10_fits 31 = .ok (.pop, 1) := by decide +kernel
theorem dX10_fits_32 : decode cX10_fits 32 = .ok (.iload_n 3, 1) := by decide +kernel
theorem dX10_fits_33 : decode cX10_fits 33 = .ok (.bipush 10, 2) := by decide +kernel
theorem dX10_fits_35 : decode cX10_fits 35 = .ok (.if_icmp .lt 29, 3) := by decide +kernel
theorem dX10_fits_38 : decode cX10_fits 38 = .ok (.iload_n 3, 1) := by decide +kernel
theorem dX10_fits_39 : decode cX10_fits 39 = .ok (.bipush 10, 2) := by decide +kernel
theorem dX10_fits_41 : decode cX10_fits 41 = .ok (.isub, 1) := by decide +kernel
theorem dX10_fits_42 : decode cX10_fits 42 = .ok (.aload_n 0, 1) := by decide +kernel
theorem dX10_fits_43 : decode cX10_fits 43 = .ok (.getfield 444, 3) := by decide +kernel
theorem dX10_fits_46 : decode cX10_fits 46 = .ok (.if_icmp .ge 15, 3) := by decide +kernel
theorem dX10_fits_49 : decode cX10_fits 49 = .ok (.aload_n 0, 1) := by decide +kernel
theorem dX10_fits_50 : decode cX10_fits 50 = .ok (.getfield 68, 3) := by decide +kernel
theorem dX10_fits_53 : decode cX10_fits 53 = .ok (.iload_n 3, 1) := by decide +kernel
theorem dX10_fits_54 : decode cX10_fits 54 = .ok (.bipush 10, 2) := by decide +kernel
theorem dX10_fits_56 : decode cX10_fits 56 = .ok (.isub, 1) := by decide +kernel
theorem dX10_fits_57 : decode cX10_fits 57 = .ok (.iaload, 1) := by decide +kernel
theorem dX10_fits_58 : decode cX10_fits 58 = .ok (.goto 5, 3) := by decide +kernel
theorem dX10_fits_61 : decode cX10_fits 61 = .ok (.bipush (-2), 2) := by decide +kernel
theorem dX10_fits_63 : decode cX10_fits 63 = .ok (.ireturn, 1) := by decide +kernel
theorem dX10_fits_64 : decode cX10_fits 64 = .ok (.iload_n 3, 1) := by decide +kernel
theorem dX10_fits_65 : decode cX10_fits 65 = .ok (.tableswitch 57 0 2 #[27, 32, 51], 27) := by decide +kernel
theorem dX10_fits_92 : decode cX10_fits 92 = .ok (.aload_n 0, 1) := by decide +kernel
theorem dX10_fits_93 : decode cX10_fits 93 = .ok (.getfield 444, 3) := by decide +kernel
theorem dX10_fits_96 : decode cX10_fits 96 = .ok (.ireturn, 1) := by decide +kernel
theorem dX10_fits_97 : decode cX10_fits 97 = .ok (.aload_n 0, 1) := by decide +kernel
theorem dX10_fits_98 : decode cX10_fits 98 = .ok (.getfield 444, 3) := by decide +kernel
theorem dX10_fits_101 : decode cX10_fits 101 = .ok (.iconst 1, 1) := by decide +kernel
theorem dX10_fits_102 : decode cX10_fits 102 = .ok (.if_icmp .ne 12, 3) := by decide +kernel
theorem dX10_fits_105 : decode cX10_fits 105 = .ok (.aload_n 0, 1) := by decide +kernel
theorem dX10_fits_106 : decode cX10_fits 106 = .ok (.getfield 68, 3) := by decide +kernel
theorem dX10_fits_109 : decode cX10_fits 109 = .ok (.iconst 0, 1) := by decide +kernel
theorem dX10_fits_110 : decode cX10_fits 110 = .ok (.iaload, 1) := by decide +kernel
theorem dX10_fits_111 : decode cX10_fits 111 = .ok (.goto 4, 3) := by decide +kernel
theorem dX10_fits_114 : decode cX10_fits 114 = .ok (.iconst (-1), 1) := by decide +kernel
theorem dX10_fits_115 : decode cX10_fits 115 = .ok (.ireturn, 1) := by decide +kernel
theorem dX10_fits_116 : decode cX10_fits 116 = .ok (.aload_n 0, 1) := by decide +kernel
theorem dX10_fits_117 : decode cX10_fits 117 = .ok (.iload_n 2, 1) := by decide +kernel
theorem dX10_fits_118 : decode cX10_fits 118 = .ok (.invokevirtual 453, 3) := by decide +kernel
theorem dX10_fits_121 : decode cX10_fits 121 = .ok (.ireturn, 1) := by decide +kernel
theorem dX10_fits_122 : decode cX10_fits 122 = .ok (.bipush (-2), 2) := by decide +kernel
theorem dX10_fits_124 : decode cX10_fits 124 = .ok (.ireturn, 1) := by decide +kernel
theorem cdX10_findCells : Cond.code yX10_findCells cX10_findCells 6 (some .int) ∈ tz := tc7 177 rfl rfl
theorem lVX10_450 : LV RX10 450 yX10_findCells cX10_findCells 6 (some .int) 2 := ⟨tw 1733 (by decide +kernel) rfl, tw 1735 (by decide +kernel) rfl, tw 101 (by decide +kernel) rfl, tw 128 (by decide +kernel) rfl, cdX10_findCells, ⟨by decide +kernel, by decide +kernel, by decide +kernel⟩⟩
theorem cdX10_nextView : Cond.code yX10_nextView cX10_nextView 7 (some .int) ∈ tz := tc7 185 rfl rfl
theorem lVX10_453 : LV RX10 453 yX10_nextView cX10_nextView 7 (some .int) 1 := ⟨tw 1741 (by decide +kernel) rfl, tw 1743 (by decide +kernel) rfl, tw 103 (by decide +kernel) rfl, tw 128 (by decide +kernel) rfl, cdX10_nextView, ⟨by decide +kernel, by decide +kernel, by decide +kernel⟩⟩
abbrev rmX10_fits : Room := { frames := 3, cells := 0, slots := 0, locals := 73 }
def fX10_fits (a0 : Nat) (l1 : Int32) (l2 : Int32) (l3 : Int32) (z : AH) : Option (Int32 × AH) :=
  if isO 9 z a0 = true then
    (pF 9 0 z a0 (.int (0 : Int32))).bind fun z2 =>
    if (fX10_in l2 (0 : Int32) (3 : Int32)) = (0 : Int32) then (
      some ((-2 : Int32), z2)
    ) else (
      b2 (fX10_hasSight a0 l1 z2) fun x16 z16 =>
      if x16 = (0 : Int32) then (
        some ((-2 : Int32), z16)
      ) else (
        b2 (fX10_findCells a0 l2 (-1 : Int32) z16) fun x28 z28 =>
        if l3 < (10 : Int32) then (
          if l3 = (0 : Int32) then (
            (gI 9 49 z28 a0).bind fun x93 =>
            some (x93, z28)
          ) else
          if l3 = (1 : Int32) then (
            (gI 9 49 z28 a0).bind fun x98 =>
            if x98 = (1 : Int32) then (
              (gN 9 48 z28 a0).bind fun b106 =>
              (ixI 0 z28 b106 (0 : Int32)).bind fun x110 =>
              some (x110, z28)
            ) else (
              some ((-1 : Int32), z28)
            )
          ) else
          if l3 = (2 : Int32) then (
            (fX10_nextView a0 l2 z28).bind fun x118 =>
            some (x118, z28)
          ) else
          some ((-2 : Int32), z28)
        ) else (
          (gI 9 49 z28 a0).bind fun x43 =>
          if x43 ≤ (l3 - (10 : Int32)) then (
            some ((-2 : Int32), z28)
          ) else (
            (gN 9 48 z28 a0).bind fun b50 =>
            (ixI 0 z28 b50 (l3 - (10 : Int32))).bind fun x57 =>
            some (x57, z28)
          )
        )
      )
    )
  else none
set_option maxHeartbeats 4000000 in
set_option maxRecDepth 100000 in
theorem ctX10_fits (l : Launch) (G : GW) (a0 : Nat) (l1 : Int32) (l2 : Int32) (l3 : Int32) (z : AH) {r : Int32} {z' : AH} (h : fX10_fits a0 l1 l2 l3 z = some (r, z')) : Met l yX10_fits (wy yX10_fits cX10_fits 4 (some .int)) rmX10_fits (Pz G [.ref (gB G + a0), .int l1, .int l2, .int l3] z) (Qi G r z') 0 0 (AA G) := by
  refine wz_ent (own := RX10) (by decide +kernel) rfl (fun p e s m below meth c ls C hlk hr hin hW hl => ?_) (Nat.le_of_ble_eq_true rfl)
  have hl : lv_has ls 4 [(0, .ref (gB G + a0)), (1, .int l1), (2, .int l2), (3, .int l3)] := hl
  have hx := C.1
  have hb := C.2.1
  unfold fX10_fits at h
  obtain ⟨-, h⟩ := ck h
  refine lv_aload_n hx hb dX10_fits_0 rfl (lv_at hl 0 rfl) ?_
  refine lv_iconst (v := 0) hx hb dX10_fits_1 (by decide) ?_
  obtain ⟨z2, hg, h⟩ := ob h
  refine wz_put (v := (.int (0 : Int32))) C hW flX10_81 rfl rfl hg dX10_fits_2 (fun H locs hW => ?_)
  refine lv_iload_n hx hb dX10_fits_5 rfl (lv_at hl 2 rfl) ?_
  refine lv_iconst (v := 0) hx hb dX10_fits_6 (by decide) ?_
  refine lv_iconst (v := 3) hx hb dX10_fits_7 (by decide) ?_
  refine wz_rI (c' := 0) (s' := 0) hW (wz_runS (rest := []) C hW lTX10_93 (ctX10_in l G l2 (0 : Int32) (3 : Int32) z2 rfl) ⟨⟨rfl, rfl⟩, Nat.le_of_ble_eq_true rfl, Nat.le_of_ble_eq_true rfl⟩ rfl hl.1 rfl (Nat.le_of_ble_eq_true rfl) dX10_fits_8 ⟨Nat.le_of_ble_eq_true rfl, Nat.le_of_ble_eq_true rfl⟩) rfl rfl (fun H locs hW => ?_)
  refine lv_if_eq (tgt := 22) hx hb dX10_fits_11 (by decide) (fun c11 => ?_) (fun c11 => ?_)
  · have h := ite_t c11 h
    refine lv_bipush (v := -2) hx hb dX10_fits_22 (by decide) ?_
    exact wz_iretE C hlk hr (so2 h).1 (so2 h).2 hW dX10_fits_24
  · have h := ite_f c11 h
    refine lv_aload_n hx hb dX10_fits_14 rfl (lv_at hl 0 rfl) ?_
    refine lv_iload_n hx hb dX10_fits_15 rfl (lv_at hl 1 rfl) ?_
    obtain ⟨x16, z16, hq, h⟩ := ob2 h
    refine wz_rI (c' := 0) (s' := 0) hW (wz_runV (rest := []) C hW lVX10_435 (ck hq).1 rfl (ctX10_hasSight l G a0 l1 z2 hq) ⟨⟨rfl, rfl⟩, Nat.le_of_ble_eq_true rfl, Nat.le_of_ble_eq_true rfl⟩ rfl hl.1 rfl (Nat.le_of_ble_eq_true rfl) dX10_fits_16 ⟨Nat.le_of_ble_eq_true rfl, Nat.le_of_ble_eq_true rfl⟩) rfl rfl (fun H locs hW => ?_)
    refine lv_if_ne (tgt := 25) hx hb dX10_fits_19 (by decide) (fun c19 => ?_) (fun c19 => ?_)
    · have h := ite_f c19 h
      refine lv_aload_n hx hb dX10_fits_25 rfl (lv_at hl 0 rfl) ?_
      refine lv_iload_n hx hb dX10_fits_26 rfl (lv_at hl 2 rfl) ?_
      refine lv_iconst (v := -1) hx hb dX10_fits_27 (by decide) ?_
      obtain ⟨x28, z28, hq, h⟩ := ob2 h
      refine wz_rI (c' := 0) (s' := 0) hW (wz_runV (rest := []) C hW lVX10_450 (ck hq).1 rfl (ctX10_findCells l G a0 l2 (-1 : Int32) z16 hq) ⟨⟨rfl, rfl⟩, Nat.le_of_ble_eq_true rfl, Nat.le_of_ble_eq_true rfl⟩ rfl hl.1 rfl (Nat.le_of_ble_eq_true rfl) dX10_fits_28 ⟨Nat.le_of_ble_eq_true rfl, Nat.le_of_ble_eq_true rfl⟩) rfl rfl (fun H locs hW => ?_)
      refine lv_pop hx hb dX10_fits_31 rfl ?_
      refine lv_iload_n hx hb dX10_fits_32 rfl (lv_at hl 3 rfl) ?_
      refine lv_bipush (v := 10) hx hb dX10_fits_33 (by decide) ?_
      refine lv_icmp_lt (tgt := 64) hx hb dX10_fits_35 (by decide) (fun c35 => ?_) (fun c35 => ?_)
      · have h := ite_t c35 h
        refine lv_iload_n hx hb dX10_fits_64 rfl (lv_at hl 3 rfl) ?_
        by_cases c65_0 : l3 = (0 : Int32)
        · have h := ite_t c65_0 h
          refine wz_sw (0 : Int32) (tgt := 92) hx hb dX10_fits_65 c65_0 (by decide) rfl (by decide) ?_
          refine lv_aload_n hx hb dX10_fits_92 rfl (lv_at hl 0 rfl) ?_
          obtain ⟨x93, hg, h⟩ := ob h
          refine wz_gI C hW flX10_444 hg dX10_fits_93 ?_
          exact wz_iretE C hlk hr (so2 h).1 (so2 h).2 hW dX10_fits_96
        have h := ite_f c65_0 h
        by_cases c65_1 : l3 = (1 : Int32)
        · have h := ite_t c65_1 h
          refine wz_sw (1 : Int32) (tgt := 97) hx hb dX10_fits_65 c65_1 (by decide) rfl (by decide) ?_
          refine lv_aload_n hx hb dX10_fits_97 rfl (lv_at hl 0 rfl) ?_
          obtain ⟨x98, hg, h⟩ := ob h
          refine wz_gI C hW flX10_444 hg dX10_fits_98 ?_
          refine lv_iconst (v := 1) hx hb dX10_fits_101 (by decide) ?_
          refine lv_icmp_ne (tgt := 114) hx hb dX10_fits_102 (by decide) (fun c102 => ?_) (fun c102 => ?_)
          · have h := ite_f c102 h
            refine lv_iconst (v := -1) hx hb dX10_fits_114 (by decide) ?_
            exact wz_iretE C hlk hr (so2 h).1 (so2 h).2 hW dX10_fits_115
          · have h := ite_t c102 h
            refine lv_aload_n hx hb dX10_fits_105 rfl (lv_at hl 0 rfl) ?_
            obtain ⟨b106, hg, h⟩ := ob h
            refine wz_gN C hW flX10_68 hg dX10_fits_106 ?_
            refine lv_iconst (v := 0) hx hb dX10_fits_109 (by decide) ?_
            obtain ⟨x110, hg, h⟩ := ob h
            refine wz_ald C hW hg dX10_fits_110 ?_
            refine lv_goto (tgt := 115) hx hb dX10_fits_111 (by decide) ?_
            exact wz_iretE C hlk hr (so2 h).1 (so2 h).2 hW dX10_fits_115
        have h := ite_f c65_1 h
        by_cases c65_2 : l3 = (2 : Int32)
        · have h := ite_t c65_2 h
          refine wz_sw (2 : Int32) (tgt := 116) hx hb dX10_fits_65 c65_2 (by decide) rfl (by decide) ?_
          refine lv_aload_n hx hb dX10_fits_116 rfl (lv_at hl 0 rfl) ?_
          refine lv_iload_n hx hb dX10_fits_117 rfl (lv_at hl 2 rfl) ?_
          obtain ⟨x118, hq, h⟩ := ob h
          refine wz_rI (c' := 0) (s' := 0) hW (wz_runV (rest := []) C hW lVX10_453 (ck hq).1 rfl (ctX10_nextView l G a0 l2 z28 hq) ⟨⟨rfl, rfl⟩, Nat.le_of_ble_eq_true rfl, Nat.le_of_ble_eq_true rfl⟩ rfl hl.1 rfl (Nat.le_of_ble_eq_true rfl) dX10_fits_118 ⟨Nat.le_of_ble_eq_true rfl, Nat.le_of_ble_eq_true rfl⟩) rfl rfl (fun H locs hW => ?_)
          exact wz_iretE C hlk hr (so2 h).1 (so2 h).2 hW dX10_fits_121
        have h := ite_f c65_2 h
        refine lv_tableOut (tgt := 122) hx hb dX10_fits_65 (by have g0 := i32_ne c65_0 (z := 0) (by decide); have g1 := i32_ne c65_1 (z := 1) (by decide); have g2 := i32_ne c65_2 (z := 2) (by decide); omega) (by decide) ?_
        refine lv_bipush (v := -2) hx hb dX10_fits_122 (by decide) ?_
        exact wz_iretE C hlk hr (so2 h).1 (so2 h).2 hW dX10_fits_124
      · have h := ite_f c35 h
        refine lv_iload_n hx hb dX10_fits_38 rfl (lv_at hl 3 rfl) ?_
        refine lv_bipush (v := 10) hx hb dX10_fits_39 (by decide) ?_
        refine lv_isub hx hb dX10_fits_41 ?_
        refine lv_aload_n hx hb dX10_fits_42 rfl (lv_at hl 0 rfl) ?_
        obtain ⟨x43, hg, h⟩ := ob h
        refine wz_gI C hW flX10_444 hg dX10_fits_43 ?_
        refine lv_icmp_ge (tgt := 61) hx hb dX10_fits_46 (by decide) (fun c46 => ?_) (fun c46 => ?_)
        · have h := ite_t c46 h
          refine lv_bipush (v := -2) hx hb dX10_fits_61 (by decide) ?_
          exact wz_iretE C hlk hr (so2 h).1 (so2 h).2 hW dX10_fits_63
        · have h := ite_f c46 h
          refine lv_aload_n hx hb dX10_fits_49 rfl (lv_at hl 0 rfl) ?_
          obtain ⟨b50, hg, h⟩ := ob h
          refine wz_gN C hW flX10_68 hg dX10_fits_50 ?_
          refine lv_iload_n hx hb dX10_fits_53 rfl (lv_at hl 3 rfl) ?_
          refine lv_bipush (v := 10) hx hb dX10_fits_54 (by decide) ?_
          refine lv_isub hx hb dX10_fits_56 ?_
          obtain ⟨x57, hg, h⟩ := ob h
          refine wz_ald C hW hg dX10_fits_57 ?_
          refine lv_goto (tgt := 63) hx hb dX10_fits_58 (by decide) ?_
          exact wz_iretE C hlk hr (so2 h).1 (so2 h).2 hW dX10_fits_63
    · have h := ite_t c19 h
      refine lv_bipush (v := -2) hx hb dX10_fits_22 (by decide) ?_
      exact wz_iretE C hlk hr (so2 h).1 (so2 h).2 hW dX10_fits_24
theorem dX10_factOf_0 : decode cX10_factOf 0 = .ok (.aload_n 0, 1) := by decide +kernel
theorem dX10_factOf_1 : decode cX10_factOf 1 = .ok (.getfield 35, 3) := by decide +kernel
theorem dX10_factOf_4 : decode cX10_factOf 4 = .ok (.bipush 49, 2) := by decide +kernel
theorem dX10_factOf_6 : decode cX10_factOf 6 = .ok (.aload_n 0, 1) := by decide +kernel
theorem dX10_factOf_7 : decode cX10_factOf 7 = .ok (.getfield 456, 3) := by decide +kernel
theorem dX10_factOf_10 : decode cX10_factOf 10 = .ok (.imul, 1) := by decide +kernel
theorem dX10_factOf_11 : decode cX10_factOf 11 = .ok (.iconst 1, 1) := by decide +kernel
theorem dX10_factOf_12 : decode cX10_factOf 12 = .ok (.iadd, 1) := by decide +kernel
theorem dX10_factOf_13 : decode cX10_factOf 13 = .ok (.iconst 3, 1) := by decide +kernel
theorem dX10_factOf_14 : decode cX10_factOf 14 = .ok (.iload_n 1, 1) := by decide +kernel
theorem dX10_factOf_15 : decode cX10_factOf 15 = .ok (.imul, 1) := by decide +kernel
theorem dX10_factOf_16 : decode cX10_factOf 16 = .ok (.iadd, 1) := by decide +kernel
theorem dX10_factOf_17 : decode cX10_factOf 17 = .ok (.iload_n 2, 1) := by decide +kernel
theorem dX10_factOf_18 : decode cX10_factOf 18 = .ok (.iadd, 1) := by decide +kernel
theorem dX10_factOf_19 : decode cX10_factOf 19 = .ok (.iaload, 1) := by decide +kernel
theorem dX10_factOf_20 : decode cX10_factOf 20 = .ok (.ireturn, 1) := by decide +kernel
theorem flX10_456 : FL RX10 456 9 50 := ⟨_, rfl, Nat.le_of_ble_eq_true rfl, tw 1249 (by decide +kernel) rfl, rfl⟩
abbrev rmX10_factOf : Room := { frames := 0, cells := 0, slots := 0, locals := 0 }
def fX10_factOf (a0 : Nat) (l1 : Int32) (l2 : Int32) (z : AH) : Option (Int32) :=
  if isO 9 z a0 = true then
    (gN 9 9 z a0).bind fun b1 =>
    (gI 9 50 z a0).bind fun x7 =>
    (ixI 0 z b1 (((((49 : Int32) * x7) + (1 : Int32)) + ((3 : Int32) * l1)) + l2)).bind fun x19 =>
    some x19
  else none
set_option maxHeartbeats 4000000 in
set_option maxRecDepth 100000 in
theorem ctX10_factOf (l : Launch) (G : GW) (a0 : Nat) (l1 : Int32) (l2 : Int32) (z : AH) {r : Int32} (h : fX10_factOf a0 l1 l2 z = some r) : Met l yX10_factOf (wy yX10_factOf cX10_factOf 3 (some .int)) rmX10_factOf (Pz G [.ref (gB G + a0), .int l1, .int l2] z) (Qi G r z) 0 0 (AA G) := by
  refine wz_ent (own := RX10) (by decide +kernel) rfl (fun p e s m below meth c ls C hlk hr hin hW hl => ?_) (Nat.le_of_ble_eq_true rfl)
  have hl : lv_has ls 3 [(0, .ref (gB G + a0)), (1, .int l1), (2, .int l2)] := hl
  have hx := C.1
  have hb := C.2.1
  unfold fX10_factOf at h
  obtain ⟨-, h⟩ := ck h
  refine lv_aload_n hx hb dX10_factOf_0 rfl (lv_at hl 0 rfl) ?_
  obtain ⟨b1, hg, h⟩ := ob h
  refine wz_gN C hW flX10_35 hg dX10_factOf_1 ?_
  refine lv_bipush (v := 49) hx hb dX10_factOf_4 (by decide) ?_
  refine lv_aload_n hx hb dX10_factOf_6 rfl (lv_at hl 0 rfl) ?_
  obtain ⟨x7, hg, h⟩ := ob h
  refine wz_gI C hW flX10_456 hg dX10_factOf_7 ?_
  refine lv_imul hx hb dX10_factOf_10 ?_
  refine lv_iconst (v := 1) hx hb dX10_factOf_11 (by decide) ?_
  refine lv_iadd hx hb dX10_factOf_12 ?_
  refine lv_iconst (v := 3) hx hb dX10_factOf_13 (by decide) ?_
  refine lv_iload_n hx hb dX10_factOf_14 rfl (lv_at hl 1 rfl) ?_
  refine lv_imul hx hb dX10_factOf_15 ?_
  refine lv_iadd hx hb dX10_factOf_16 ?_
  refine lv_iload_n hx hb dX10_factOf_17 rfl (lv_at hl 2 rfl) ?_
  refine lv_iadd hx hb dX10_factOf_18 ?_
  obtain ⟨x19, hg, h⟩ := ob h
  refine wz_ald C hW hg dX10_factOf_19 ?_
  exact wz_iretE C hlk hr (Option.some.inj h) rfl hW dX10_factOf_20
theorem dX10_facts_0 : decode cX10_facts 0 = .ok (.aload_n 0, 1) := by decide +kernel
theorem dX10_facts_1 : decode cX10_facts 1 = .ok (.getfield 35, 3) := by decide +kernel
theorem dX10_facts_4 : decode cX10_facts 4 = .ok (.bipush 49, 2) := by decide +kernel
theorem dX10_facts_6 : decode cX10_facts 6 = .ok (.aload_n 0, 1) := by decide +kernel
theorem dX10_facts_7 : decode cX10_facts 7 = .ok (.getfield 456, 3) := by decide +kernel
theorem dX10_facts_10 : decode cX10_facts 10 = .ok (.imul, 1) := by decide +kernel
theorem dX10_facts_11 : decode cX10_facts 11 = .ok (.iaload, 1) := by decide +kernel
theorem dX10_facts_12 : decode cX10_facts 12 = .ok (.ireturn, 1) := by decide +kernel
abbrev rmX10_facts : Room := { frames := 0, cells := 0, slots := 0, locals := 0 }
def fX10_facts (a0 : Nat) (z : AH) : Option (Int32) :=
  if isO 9 z a0 = true then
    (gN 9 9 z a0).bind fun b1 =>
    (gI 9 50 z a0).bind fun x7 =>
    (ixI 0 z b1 ((49 : Int32) * x7)).bind fun x11 =>
    some x11
  else none
set_option maxHeartbeats 4000000 in
set_option maxRecDepth 100000 in
theorem ctX10_facts (l : Launch) (G : GW) (a0 : Nat) (z : AH) {r : Int32} (h : fX10_facts a0 z = some r) : Met l yX10_facts (wy yX10_facts cX10_facts 1 (some .int)) rmX10_facts (Pz G [.ref (gB G + a0)] z) (Qi G r z) 0 0 (AA G) := by
  refine wz_ent (own := RX10) (by decide +kernel) rfl (fun p e s m below meth c ls C hlk hr hin hW hl => ?_) (Nat.le_of_ble_eq_true rfl)
  have hl : lv_has ls 1 [(0, .ref (gB G + a0))] := hl
  have hx := C.1
  have hb := C.2.1
  unfold fX10_facts at h
  obtain ⟨-, h⟩ := ck h
  refine lv_aload_n hx hb dX10_facts_0 rfl (lv_at hl 0 rfl) ?_
  obtain ⟨b1, hg, h⟩ := ob h
  refine wz_gN C hW flX10_35 hg dX10_facts_1 ?_
  refine lv_bipush (v := 49) hx hb dX10_facts_4 (by decide) ?_
  refine lv_aload_n hx hb dX10_facts_6 rfl (lv_at hl 0 rfl) ?_
  obtain ⟨x7, hg, h⟩ := ob h
  refine wz_gI C hW flX10_456 hg dX10_facts_7 ?_
  refine lv_imul hx hb dX10_facts_10 ?_
  obtain ⟨x11, hg, h⟩ := ob h
  refine wz_ald C hW hg dX10_facts_11 ?_
  exact wz_iretE C hlk hr (Option.some.inj h) rfl hW dX10_facts_12
theorem dX10_hasFight_0 : decode cX10_hasFight 0 = .ok (.aload_n 0, 1) := by decide +kernel
theorem dX10_hasFight_1 : decode cX10_hasFight 1 = .ok (.iload_n 1, 1) := by decide +kernel
theorem dX10_hasFight_2 : decode cX10_hasFight 2 = .ok (.putfield 456, 3) := by decide +kernel
theorem dX10_hasFight_5 : decode cX10_hasFight 5 = .ok (.aload_n 0, 1) := by decide +kernel
theorem dX10_hasFight_6 : decode cX10_hasFight 6 = .ok (.iconst 3, 1) := by decide +kernel
theorem dX10_hasFight_7 : decode cX10_hasFight 7 = .ok (.iload_n 1, 1) := by decide +kernel
theorem dX10_hasFight_8 : decode cX10_hasFight 8 = .ok (.invokevirtual 260, 3) := by decide +kernel
theorem dX10_hasFight_11 : decode cX10_hasFight 11 = .ok (.ireturn, 1) := by decide +kernel
abbrev rmX10_hasFight : Room := { frames := 2, cells := 0, slots := 0, locals := 44 }
def fX10_hasFight (a0 : Nat) (l1 : Int32) (z : AH) : Option (Int32 × AH) :=
  if isO 9 z a0 = true then
    (pF 9 50 z a0 (.int l1)).bind fun z2 =>
    (fX10_is a0 (3 : Int32) l1 z2).bind fun x8 =>
    if x8 = 0 ∨ x8 = 1 then some (x8, z2) else none
  else none
set_option maxHeartbeats 4000000 in
set_option maxRecDepth 100000 in
theorem ctX10_hasFight (l : Launch) (G : GW) (a0 : Nat) (l1 : Int32) (z : AH) {r : Int32} {z' : AH} (h : fX10_hasFight a0 l1 z = some (r, z')) : Met l yX10_hasFight (wy yX10_hasFight cX10_hasFight 2 (some .boolean)) rmX10_hasFight (Pz G [.ref (gB G + a0), .int l1] z) (Qi G r z') 0 0 (AA G) := by
  refine wz_ent (own := RX10) (by decide +kernel) rfl (fun p e s m below meth c ls C hlk hr hin hW hl => ?_) (Nat.le_of_ble_eq_true rfl)
  have hl : lv_has ls 2 [(0, .ref (gB G + a0)), (1, .int l1)] := hl
  have hx := C.1
  have hb := C.2.1
  unfold fX10_hasFight at h
  obtain ⟨-, h⟩ := ck h
  refine lv_aload_n hx hb dX10_hasFight_0 rfl (lv_at hl 0 rfl) ?_
  refine lv_iload_n hx hb dX10_hasFight_1 rfl (lv_at hl 1 rfl) ?_
  obtain ⟨z2, hg, h⟩ := ob h
  refine wz_put (v := (.int l1)) C hW flX10_456 rfl rfl hg dX10_hasFight_2 (fun H locs hW => ?_)
  refine lv_aload_n hx hb dX10_hasFight_5 rfl (lv_at hl 0 rfl) ?_
  refine lv_iconst (v := 3) hx hb dX10_hasFight_6 (by decide) ?_
  refine lv_iload_n hx hb dX10_hasFight_7 rfl (lv_at hl 1 rfl) ?_
  obtain ⟨x8, hq, h⟩ := ob h
  refine wz_rI (c' := 0) (s' := 0) hW (wz_runV (rest := []) C hW lVX10_260 (ck hq).1 rfl (ctX10_is l G a0 (3 : Int32) l1 z2 hq) ⟨⟨rfl, rfl⟩, Nat.le_of_ble_eq_true rfl, Nat.le_of_ble_eq_true rfl⟩ rfl hl.1 rfl (Nat.le_of_ble_eq_true rfl) dX10_hasFight_8 ⟨Nat.le_of_ble_eq_true rfl, Nat.le_of_ble_eq_true rfl⟩) rfl rfl (fun H locs hW => ?_)
  obtain ⟨h01, h⟩ := ck h
  exact wz_zretE C hlk hr h01 (so2 h).1 (so2 h).2 hW dX10_hasFight_11
theorem dX10_fact_0 : decode cX10_fact 0 = .ok (.aload_n 0, 1) := by decide +kernel
theorem dX10_fact_1 : decode cX10_fact 1 = .ok (.iconst 0, 1) := by decide +kernel
theorem dX10_fact_2 : decode cX10_fact 2 = .ok (.putfield 81, 3) := by decide +kernel
theorem dX10_fact_5 : decode cX10_fact 5 = .ok (.aload_n 0, 1) := by decide +kernel
theorem dX10_fact_6 : decode cX10_fact 6 = .ok (.iload_n 1, 1) := by decide +kernel
theorem dX10_fact_7 : decode cX10_fact 7 = .ok (.invokevirtual 459, 3) := by decide +kernel
theorem dX10_fact_10 : decode cX10_fact 10 = .ok (.ifCond .ne 6, 3) := by decide +kernel
theorem dX10_fact_13 : decode cX10_fact 13 = .ok (.bipush (-2), 2) := by decide +kernel
theorem dX10_fact_15 : decode cX10_fact 15 = .ok (.ireturn, 1) := by decide +kernel
theorem dX10_fact_16 : decode cX10_fact 16 = .ok (.iload_n 2, 1) := by decide +kernel
theorem dX10_fact_17 : decode cX10_fact 17 = .ok (.iconst (-1), 1) := by decide +kernel
theorem dX10_fact_18 : decode cX10_fact 18 = .ok (.if_icmp .ne 17, 3) := by decide +kernel
theorem dX10_fact_21 : decode cX10_fact 21 = .ok (.iload_n 3, 1) := by decide +kernel
theorem dX10_fact_22 : decode cX10_fact 22 = .ok (.ifCond .ne 10, 3) := by decide +kernel
theorem dX10_fact_25 : decode cX10_fact 25 = .ok (.aload_n 0, 1) := by decide +kernel
theorem dX10_fact_26 : decode cX10_fact 26 = .ok (.invokevirtual 462, 3) := by decide +kernel
theorem dX10_fact_29 : decode cX10_fact 29 = .ok (.goto 5, 3) := by decide +kernel
theorem dX10_fact_32 : decode cX10_fact 32 = .ok (.bipush (-2), 2) := by decide +kernel
theorem dX10_fact_34 : decode cX10_fact 34 = .ok (.ireturn, 1) := by decide +kernel
theorem dX10_fact_35 : decode cX10_fact 35 = .ok (.iload_n 2, 1) := by decide +kernel
theorem dX10_fact_36 : decode cX10_fact 36 = .ok (.iconst 0, 1) := by decide +kernel
theorem dX10_fact_37 : decode cX10_fact 37 = .ok (.aload_n 0, 1) := by decide +kernel
theorem dX10_fact_38 : decode cX10_fact 38 = .ok (.invokevirtual 462, 3) := by decide +kernel
theorem dX10_fact_41 : decode cX10_fact 41 = .ok (.iconst 1, 1) := by decide +kernel
theorem dX10_fact_42 : decode cX10_fact 42 = .ok (.isub, 1) := by decide +kernel
theorem dX10_fact_43 : decode cX10_fact 43 = .ok (.invokestatic 93, 3) := by decide +kernel
theorem dX10_fact_46 : decode cX10_fact 46 = .ok (.ifCond .eq 21, 3) := by decide +kernel
theorem dX10_fact_49 : decode cX10_fact 49 = .ok (.iload_n 3, 1) := by decide +kernel
theorem dX10_fact_50 : decode cX10_fact 50 = .ok (.iconst 0, 1) := by decide +kernel
theorem dX10_fact_51 : decode cX10_fact 51 = .ok (.iconst 2, 1) := by decide +kernel
theorem dX10_fact_52 : decode cX10_fact 52 = .ok (.invokestatic 93, 3) := by decide +kernel
theorem dX10_fact_55 : decode cX10_fact 55 = .ok (.ifCond .eq 12, 3) := by decide +kernel
theorem dX10_fact_58 : decode cX10_fact 58 = .ok (.aload_n 0, 1) := by decide +kernel
theorem dX10_fact_59 : decode cX10_fact 59 = .ok (.iload_n 2, 1) := by decide +kernel
theorem dX10_fact_60 : decode cX10_fact 60 = .ok (.iload_n 3, 1) := by decide +kernel
theorem dX10_fact_61 : decode cX10_fact 61 = .ok (.invokevirtual 465, 3) := by decide +kernel
theorem dX10_fact_64 : decode cX10_fact 64 = .ok (.goto 5, 3) := by decide +kernel
theorem dX10_fact_67 : decode cX10_fact 67 = .ok (.bipush (-2), 2) := by decide +kernel
theorem dX10_fact_69 : decode cX10_fact 69 = .ok (.ireturn, 1) := by decide +kernel
theorem cdX10_hasFight : Cond.code yX10_hasFight cX10_hasFight 2 (some .boolean) ∈ tz := tc7 193 rfl rfl
theorem lVX10_459 : LV RX10 459 yX10_hasFight cX10_hasFight 2 (some .boolean) 1 := ⟨tw 1749 (by decide +kernel) rfl, tw 1751 (by decide +kernel) rfl, tw 104 (by decide +kernel) rfl, tw 128 (by decide +kernel) rfl, cdX10_hasFight, ⟨by decide +kernel, by decide +kernel, by decide +kernel⟩⟩
theorem cdX10_facts : Cond.code yX10_facts cX10_facts 1 (some .int) ∈ tz := tc7 197 rfl rfl
theorem lVX10_462 : LV RX10 462 yX10_facts cX10_facts 1 (some .int) 0 := ⟨tw 1753 (by decide +kernel) rfl, tw 1755 (by decide +kernel) rfl, tw 105 (by decide +kernel) rfl, tw 128 (by decide +kernel) rfl, cdX10_facts, ⟨by decide +kernel, by decide +kernel, by decide +kernel⟩⟩
theorem cdX10_factOf : Cond.code yX10_factOf cX10_factOf 3 (some .int) ∈ tz := tc7 201 rfl rfl
theorem lVX10_465 : LV RX10 465 yX10_factOf cX10_factOf 3 (some .int) 2 := ⟨tw 1757 (by decide +kernel) rfl, tw 1759 (by decide +kernel) rfl, tw 106 (by decide +kernel) rfl, tw 128 (by decide +kernel) rfl, cdX10_factOf, ⟨by decide +kernel, by decide +kernel, by decide +kernel⟩⟩
abbrev rmX10_fact : Room := { frames := 3, cells := 0, slots := 0, locals := 65 }
def fX10_fact (a0 : Nat) (l1 : Int32) (l2 : Int32) (l3 : Int32) (z : AH) : Option (Int32 × AH) :=
  if isO 9 z a0 = true then
    (pF 9 0 z a0 (.int (0 : Int32))).bind fun z2 =>
    b2 (fX10_hasFight a0 l1 z2) fun x7 z7 =>
    if x7 = (0 : Int32) then (
      some ((-2 : Int32), z7)
    ) else (
      if l2 = (-1 : Int32) then (
        if l3 = (0 : Int32) then (
          (fX10_facts a0 z7).bind fun x26 =>
          some (x26, z7)
        ) else (
          some ((-2 : Int32), z7)
        )
      ) else (
        (fX10_facts a0 z7).bind fun x38 =>
        if (fX10_in l2 (0 : Int32) (x38 - (1 : Int32))) = (0 : Int32) then (
          some ((-2 : Int32), z7)
        ) else (
          if (fX10_in l3 (0 : Int32) (2 : Int32)) = (0 : Int32) then (
            some ((-2 : Int32), z7)
          ) else (
            (fX10_factOf a0 l2 l3 z7).bind fun x61 =>
            some (x61, z7)
          )
        )
      )
    )
  else none
set_option maxHeartbeats 4000000 in
set_option maxRecDepth 100000 in
theorem ctX10_fact (l : Launch) (G : GW) (a0 : Nat) (l1 : Int32) (l2 : Int32) (l3 : Int32) (z : AH) {r : Int32} {z' : AH} (h : fX10_fact a0 l1 l2 l3 z = some (r, z')) : Met l yX10_fact (wy yX10_fact cX10_fact 4 (some .int)) rmX10_fact (Pz G [.ref (gB G + a0), .int l1, .int l2, .int l3] z) (Qi G r z') 0 0 (AA G) := by
  refine wz_ent (own := RX10) (by decide +kernel) rfl (fun p e s m below meth c ls C hlk hr hin hW hl => ?_) (Nat.le_of_ble_eq_true rfl)
  have hl : lv_has ls 4 [(0, .ref (gB G + a0)), (1, .int l1), (2, .int l2), (3, .int l3)] := hl
  have hx := C.1
  have hb := C.2.1
  unfold fX10_fact at h
  obtain ⟨-, h⟩ := ck h
  refine lv_aload_n hx hb dX10_fact_0 rfl (lv_at hl 0 rfl) ?_
  refine lv_iconst (v := 0) hx hb dX10_fact_1 (by decide) ?_
  obtain ⟨z2, hg, h⟩ := ob h
  refine wz_put (v := (.int (0 : Int32))) C hW flX10_81 rfl rfl hg dX10_fact_2 (fun H locs hW => ?_)
  refine lv_aload_n hx hb dX10_fact_5 rfl (lv_at hl 0 rfl) ?_
  refine lv_iload_n hx hb dX10_fact_6 rfl (lv_at hl 1 rfl) ?_
  obtain ⟨x7, z7, hq, h⟩ := ob2 h
  refine wz_rI (c' := 0) (s' := 0) hW (wz_runV (rest := []) C hW lVX10_459 (ck hq).1 rfl (ctX10_hasFight l G a0 l1 z2 hq) ⟨⟨rfl, rfl⟩, Nat.le_of_ble_eq_true rfl, Nat.le_of_ble_eq_true rfl⟩ rfl hl.1 rfl (Nat.le_of_ble_eq_true rfl) dX10_fact_7 ⟨Nat.le_of_ble_eq_true rfl, Nat.le_of_ble_eq_true rfl⟩) rfl rfl (fun H locs hW => ?_)
  refine lv_if_ne (tgt := 16) hx hb dX10_fact_10 (by decide) (fun c10 => ?_) (fun c10 => ?_)
  · have h := ite_f c10 h
    refine lv_iload_n hx hb dX10_fact_16 rfl (lv_at hl 2 rfl) ?_
    refine lv_iconst (v := -1) hx hb dX10_fact_17 (by decide) ?_
    refine lv_icmp_ne (tgt := 35) hx hb dX10_fact_18 (by decide) (fun c18 => ?_) (fun c18 => ?_)
    · have h := ite_f c18 h
      refine lv_iload_n hx hb dX10_fact_35 rfl (lv_at hl 2 rfl) ?_
      refine lv_iconst (v := 0) hx hb dX10_fact_36 (by decide) ?_
      refine lv_aload_n hx hb dX10_fact_37 rfl (lv_at hl 0 rfl) ?_
      obtain ⟨x38, hq, h⟩ := ob h
      refine wz_rI (c' := 0) (s' := 0) hW (wz_runV (rest := [.int (0 : Int32), .int l2]) C hW lVX10_462 (ck hq).1 rfl (ctX10_facts l G a0 z7 hq) ⟨⟨rfl, rfl⟩, Nat.le_of_ble_eq_true rfl, Nat.le_of_ble_eq_true rfl⟩ rfl hl.1 rfl (Nat.le_of_ble_eq_true rfl) dX10_fact_38 ⟨Nat.le_of_ble_eq_true rfl, Nat.le_of_ble_eq_true rfl⟩) rfl rfl (fun H locs hW => ?_)
      refine lv_iconst (v := 1) hx hb dX10_fact_41 (by decide) ?_
      refine lv_isub hx hb dX10_fact_42 ?_
      refine wz_rI (c' := 0) (s' := 0) hW (wz_runS (rest := []) C hW lTX10_93 (ctX10_in l G l2 (0 : Int32) (x38 - (1 : Int32)) z7 rfl) ⟨⟨rfl, rfl⟩, Nat.le_of_ble_eq_true rfl, Nat.le_of_ble_eq_true rfl⟩ rfl hl.1 rfl (Nat.le_of_ble_eq_true rfl) dX10_fact_43 ⟨Nat.le_of_ble_eq_true rfl, Nat.le_of_ble_eq_true rfl⟩) rfl rfl (fun H locs hW => ?_)
      refine lv_if_eq (tgt := 67) hx hb dX10_fact_46 (by decide) (fun c46 => ?_) (fun c46 => ?_)
      · have h := ite_t c46 h
        refine lv_bipush (v := -2) hx hb dX10_fact_67 (by decide) ?_
        exact wz_iretE C hlk hr (so2 h).1 (so2 h).2 hW dX10_fact_69
      · have h := ite_f c46 h
        refine lv_iload_n hx hb dX10_fact_49 rfl (lv_at hl 3 rfl) ?_
        refine lv_iconst (v := 0) hx hb dX10_fact_50 (by decide) ?_
        refine lv_iconst (v := 2) hx hb dX10_fact_51 (by decide) ?_
        refine wz_rI (c' := 0) (s' := 0) hW (wz_runS (rest := []) C hW lTX10_93 (ctX10_in l G l3 (0 : Int32) (2 : Int32) z7 rfl) ⟨⟨rfl, rfl⟩, Nat.le_of_ble_eq_true rfl, Nat.le_of_ble_eq_true rfl⟩ rfl hl.1 rfl (Nat.le_of_ble_eq_true rfl) dX10_fact_52 ⟨Nat.le_of_ble_eq_true rfl, Nat.le_of_ble_eq_true rfl⟩) rfl rfl (fun H locs hW => ?_)
        refine lv_if_eq (tgt := 67) hx hb dX10_fact_55 (by decide) (fun c55 => ?_) (fun c55 => ?_)
        · have h := ite_t c55 h
          refine lv_bipush (v := -2) hx hb dX10_fact_67 (by decide) ?_
          exact wz_iretE C hlk hr (so2 h).1 (so2 h).2 hW dX10_fact_69
        · have h := ite_f c55 h
          refine lv_aload_n hx hb dX10_fact_58 rfl (lv_at hl 0 rfl) ?_
          refine lv_iload_n hx hb dX10_fact_59 rfl (lv_at hl 2 rfl) ?_
          refine lv_iload_n hx hb dX10_fact_60 rfl (lv_at hl 3 rfl) ?_
          obtain ⟨x61, hq, h⟩ := ob h
          refine wz_rI (c' := 0) (s' := 0) hW (wz_runV (rest := []) C hW lVX10_465 (ck hq).1 rfl (ctX10_factOf l G a0 l2 l3 z7 hq) ⟨⟨rfl, rfl⟩, Nat.le_of_ble_eq_true rfl, Nat.le_of_ble_eq_true rfl⟩ rfl hl.1 rfl (Nat.le_of_ble_eq_true rfl) dX10_fact_61 ⟨Nat.le_of_ble_eq_true rfl, Nat.le_of_ble_eq_true rfl⟩) rfl rfl (fun H locs hW => ?_)
          refine lv_goto (tgt := 69) hx hb dX10_fact_64 (by decide) ?_
          exact wz_iretE C hlk hr (so2 h).1 (so2 h).2 hW dX10_fact_69
    · have h := ite_t c18 h
      refine lv_iload_n hx hb dX10_fact_21 rfl (lv_at hl 3 rfl) ?_
      refine lv_if_ne (tgt := 32) hx hb dX10_fact_22 (by decide) (fun c22 => ?_) (fun c22 => ?_)
      · have h := ite_f c22 h
        refine lv_bipush (v := -2) hx hb dX10_fact_32 (by decide) ?_
        exact wz_iretE C hlk hr (so2 h).1 (so2 h).2 hW dX10_fact_34
      · have h := ite_t c22 h
        refine lv_aload_n hx hb dX10_fact_25 rfl (lv_at hl 0 rfl) ?_
        obtain ⟨x26, hq, h⟩ := ob h
        refine wz_rI (c' := 0) (s' := 0) hW (wz_runV (rest := []) C hW lVX10_462 (ck hq).1 rfl (ctX10_facts l G a0 z7 hq) ⟨⟨rfl, rfl⟩, Nat.le_of_ble_eq_true rfl, Nat.le_of_ble_eq_true rfl⟩ rfl hl.1 rfl (Nat.le_of_ble_eq_true rfl) dX10_fact_26 ⟨Nat.le_of_ble_eq_true rfl, Nat.le_of_ble_eq_true rfl⟩) rfl rfl (fun H locs hW => ?_)
        refine lv_goto (tgt := 34) hx hb dX10_fact_29 (by decide) ?_
        exact wz_iretE C hlk hr (so2 h).1 (so2 h).2 hW dX10_fact_34
  · have h := ite_t c10 h
    refine lv_bipush (v := -2) hx hb dX10_fact_13 (by decide) ?_
    exact wz_iretE C hlk hr (so2 h).1 (so2 h).2 hW dX10_fact_15
theorem dX10_lookersOf_0 : decode cX10_lookersOf 0 = .ok (.iconst 0, 1) := by decide +kernel
theorem dX10_lookersOf_1 : decode cX10_lookersOf 1 = .ok (.istore_n 2, 1) := by decide +kernel
theorem dX10_lookersOf_2 : decode cX10_lookersOf 2 = .ok (.iconst 0, 1) := by decide +kernel
theorem dX10_lookersOf_3 : decode cX10_lookersOf 3 = .ok (.istore_n 3, 1) := by decide +kernel
theorem dX10_lookersOf_4 : decode cX10_lookersOf 4 = .ok (.iload_n 3, 1) := by decide +kernel
theorem dX10_lookersOf_5 : decode cX10_lookersOf 5 = .ok (.aload_n 0, 1) := by decide +kernel
theorem dX10_lookersOf_6 : decode cX10_lookersOf 6 = .ok (.invokevirtual 462, 3) := by decide +kernel
theorem dX10_lookersOf_9 : decode cX10_lookersOf 9 = .ok (.if_icmp .ge 43, 3) := by decide +kernel
theorem dX10_lookersOf_12 : decode cX10_lookersOf 12 = .ok (.iload_n 2, 1) := by decide +kernel
theorem dX10_lookersOf_13 : decode cX10_lookersOf 13 = .ok (.aload_n 0, 1) := by decide +kernel
theorem dX10_lookersOf_14 : decode cX10_lookersOf 14 = .ok (.iload_n 3, 1) := by decide +kernel
theorem dX10_lookersOf_15 : decode cX10_lookersOf 15 = .ok (.iconst 0, 1) := by decide +kernel
theorem dX10_lookersOf_16 : decode cX10_lookersOf 16 = .ok (.invokevirtual 465, 3) := by decide +kernel
theorem dX10_lookersOf_19 : decode cX10_lookersOf 19 = .ok (.ifCond .ne 24, 3) := by decide +kernel
theorem dX10_lookersOf_22 : decode cX10_lookersOf 22 = .ok (.aload_n 0, 1) := by decide +kernel
theorem dX10_lookersOf_23 : decode cX10_lookersOf 23 = .ok (.iload_n 3, 1) := by decide +kernel
theorem dX10_lookersOf_24 : decode cX10_lookersOf 24 = .ok (.iconst 1, 1) := by decide +kernel
theorem dX10_lookersOf_25 : decode cX10_lookersOf 25 = .ok (.invokevirtual 465, 3) := by decide +kernel
theorem dX10_lookersOf_28 : decode cX10_lookersOf 28 = .ok (.iload_n 1, 1) := by decide +kernel
theorem dX10_lookersOf_29 : decode cX10_lookersOf 29 = .ok (.if_icmp .ne 14, 3) := by decide +kernel
theorem dX10_lookersOf_32 : decode cX10_lookersOf 32 = .ok (.iconst 1, 1) := by decide +kernel
theorem dX10_lookersOf_33 : decode cX10_lookersOf 33 = .ok (.aload_n 0, 1) := by decide +kernel
theorem dX10_lookersOf_34 : decode cX10_lookersOf 34 = .ok (.iload_n 3, 1) := by decide +kernel
theorem dX10_lookersOf_35 : decode cX10_lookersOf 35 = .ok (.iconst 2, 1) := by decide +kernel
theorem dX10_lookersOf_36 : decode cX10_lookersOf 36 = .ok (.invokevirtual 465, 3) := by decide +kernel
theorem dX10_lookersOf_39 : decode cX10_lookersOf 39 = .ok (.ishl, 1) := by decide +kernel
theorem dX10_lookersOf_40 : decode cX10_lookersOf 40 = .ok (.goto 4, 3) := by decide +kernel
theorem dX10_lookersOf_43 : decode cX10_lookersOf 43 = .ok (.iconst 0, 1) := by decide +kernel
theorem dX10_lookersOf_44 : decode cX10_lookersOf 44 = .ok (.ior, 1) := by decide +kernel
theorem dX10_lookersOf_45 : decode cX10_lookersOf 45 = .ok (.istore_n 2, 1) := by decide +kernel
theorem dX10_lookersOf_46 : decode cX10_lookersOf 46 = .ok (.iinc 3 1, 3) := by decide +kernel
theorem dX10_lookersOf_49 : decode cX10_lookersOf 49 = .ok (.goto (-45), 3) := by decide +kernel
theorem dX10_lookersOf_52 : decode cX10_lookersOf 52 = .ok (.iload_n 2, 1) := by decide +kernel
theorem dX10_lookersOf_53 : decode cX10_lookersOf 53 = .ok (.ireturn, 1) := by decide +kernel
abbrev rmX10_lookersOf : Room := { frames := 1, cells := 0, slots := 0, locals := 22 }
def bX10_lookersOf_4 (k4 : Nat → Int32 → Int32 → Int32 → Option (Int32)) (a0 : Nat) (l1 : Int32) (l2 : Int32) (l3 : Int32) (z : AH) : Option (Int32) :=
  (fX10_facts a0 z).bind fun x6 =>
  if x6 ≤ l3 then (
    some l2
  ) else (
    (fX10_factOf a0 l3 (0 : Int32) z).bind fun x16 =>
    if x16 = (0 : Int32) then (
      (fX10_factOf a0 l3 (1 : Int32) z).bind fun x25 =>
      if x25 = l1 then (
        (fX10_factOf a0 l3 (2 : Int32) z).bind fun x36 =>
        nm (l2 ||| (shl (1 : Int32) x36)) fun v45 =>
        nm (l3 + (1 : Int32)) fun v46 =>
        k4 a0 l1 v45 v46
      ) else (
        nm (l2 ||| (0 : Int32)) fun v45 =>
        nm (l3 + (1 : Int32)) fun v46 =>
        k4 a0 l1 v45 v46
      )
    ) else (
      nm (l2 ||| (0 : Int32)) fun v45 =>
      nm (l3 + (1 : Int32)) fun v46 =>
      k4 a0 l1 v45 v46
    )
  )
set_option maxHeartbeats 4000000 in
set_option maxRecDepth 100000 in
theorem kbX10_lookersOf_4 {p : Program} {l : Launch} {e : Env} {s : State} {m : MethodId} {args : Array Value} {below : List Frame} {meth : Method} {c : Code} {G : GW} {r : Int32} (C : Cx p m c cX10_lookersOf 4 s args RX10 G) (hlk : meth.locks = false) (hr : meth.sig.returnType = (some .int)) {z : AH} (k4 : Nat → Int32 → Int32 → Int32 → Option (Int32)) (hk4 : ∀ (a0 : Nat) (l1 : Int32) (l2 : Int32) (l3 : Int32) (H : Heap) (locs : List Loc) (ls : Array Slot), k4 a0 l1 l2 l3 = some r → Wb G z s H locs → lv_has ls 4 [(0, .ref (gB G + a0)), (1, .int l1), (2, .int l2), (3, .int l3)] → W p l e rmX10_lookersOf s m args below meth c H locs 0 0 (MQ below (Qi G r z) args s 0 0 (AA G)) (F0 m 4 ls [])) (a0 : Nat) (l1 : Int32) (l2 : Int32) (l3 : Int32) {H : Heap} {locs : List Loc} {ls : Array Slot} (h : bX10_lookersOf_4 k4 a0 l1 l2 l3 z = some r) (hW : Wb G z s H locs) (hl : lv_has ls 4 [(0, .ref (gB G + a0)), (1, .int l1), (2, .int l2), (3, .int l3)]) : W p l e rmX10_lookersOf s m args below meth c H locs 0 0 (MQ below (Qi G r z) args s 0 0 (AA G)) (F0 m 4 ls []) := by
  have hx := C.1
  have hb := C.2.1
  unfold bX10_lookersOf_4 at h
  refine lv_iload_n hx hb dX10_lookersOf_4 rfl (lv_at hl 3 rfl) ?_
  refine lv_aload_n hx hb dX10_lookersOf_5 rfl (lv_at hl 0 rfl) ?_
  obtain ⟨x6, hq, h⟩ := ob h
  refine wz_rI (c' := 0) (s' := 0) hW (wz_runV (rest := [.int l3]) C hW lVX10_462 (ck hq).1 rfl (ctX10_facts l G a0 z hq) ⟨⟨rfl, rfl⟩, Nat.le_of_ble_eq_true rfl, Nat.le_of_ble_eq_true rfl⟩ rfl hl.1 rfl (Nat.le_of_ble_eq_true rfl) dX10_lookersOf_6 ⟨Nat.le_of_ble_eq_true rfl, Nat.le_of_ble_eq_true rfl⟩) rfl rfl (fun H locs hW => ?_)
  refine lv_icmp_ge (tgt := 52) hx hb dX10_lookersOf_9 (by decide) (fun c9 => ?_) (fun c9 => ?_)
  · have h := ite_t c9 h
    refine lv_iload_n hx hb dX10_lookersOf_52 rfl (lv_at hl 2 rfl) ?_
    exact wz_iretE C hlk hr (Option.some.inj h) rfl hW dX10_lookersOf_53
  · have h := ite_f c9 h
    refine lv_iload_n hx hb dX10_lookersOf_12 rfl (lv_at hl 2 rfl) ?_
    refine lv_aload_n hx hb dX10_lookersOf_13 rfl (lv_at hl 0 rfl) ?_
    refine lv_iload_n hx hb dX10_lookersOf_14 rfl (lv_at hl 3 rfl) ?_
    refine lv_iconst (v := 0) hx hb dX10_lookersOf_15 (by decide) ?_
    obtain ⟨x16, hq, h⟩ := ob h
    refine wz_rI (c' := 0) (s' := 0) hW (wz_runV (rest := [.int l2]) C hW lVX10_465 (ck hq).1 rfl (ctX10_factOf l G a0 l3 (0 : Int32) z hq) ⟨⟨rfl, rfl⟩, Nat.le_of_ble_eq_true rfl, Nat.le_of_ble_eq_true rfl⟩ rfl hl.1 rfl (Nat.le_of_ble_eq_true rfl) dX10_lookersOf_16 ⟨Nat.le_of_ble_eq_true rfl, Nat.le_of_ble_eq_true rfl⟩) rfl rfl (fun H locs hW => ?_)
    refine lv_if_ne (tgt := 43) hx hb dX10_lookersOf_19 (by decide) (fun c19 => ?_) (fun c19 => ?_)
    · have h := ite_f c19 h
      refine lv_iconst (v := 0) hx hb dX10_lookersOf_43 (by decide) ?_
      refine lv_ior hx hb dX10_lookersOf_44 ?_
      refine lv_topi (fun v45 ev45 => ?_)
      have h := nm_to h ev45
      refine lv_istore_n (lv' := [(2, .int v45), (0, .ref (gB G + a0)), (1, .int l1), (3, .int l3)]) hx hb dX10_lookersOf_45 rfl hl (by decide) rfl (fun ls hl => ?_)
      obtain ⟨v46, ev46⟩ : ∃ y : Int32, y = (l3 + (1 : Int32)) := ⟨_, rfl⟩
      have h := nm_to h ev46
      refine lv_iinc (v := v46) (lv' := [(3, .int v46), (2, .int v45), (0, .ref (gB G + a0)), (1, .int l1)]) hx hb dX10_lookersOf_46 hl (k := 3) rfl (by rw [ev46]; rfl) (by decide) rfl (fun ls hl => ?_)
      refine lv_goto (tgt := 4) hx hb dX10_lookersOf_49 (by decide) ?_
      exact hk4 a0 l1 v45 v46 _ _ _ h hW (lv_sub hl [2, 3, 1, 0] rfl)
    · have h := ite_t c19 h
      refine lv_aload_n hx hb dX10_lookersOf_22 rfl (lv_at hl 0 rfl) ?_
      refine lv_iload_n hx hb dX10_lookersOf_23 rfl (lv_at hl 3 rfl) ?_
      refine lv_iconst (v := 1) hx hb dX10_lookersOf_24 (by decide) ?_
      obtain ⟨x25, hq, h⟩ := ob h
      refine wz_rI (c' := 0) (s' := 0) hW (wz_runV (rest := [.int l2]) C hW lVX10_465 (ck hq).1 rfl (ctX10_factOf l G a0 l3 (1 : Int32) z hq) ⟨⟨rfl, rfl⟩, Nat.le_of_ble_eq_true rfl, Nat.le_of_ble_eq_true rfl⟩ rfl hl.1 rfl (Nat.le_of_ble_eq_true rfl) dX10_lookersOf_25 ⟨Nat.le_of_ble_eq_true rfl, Nat.le_of_ble_eq_true rfl⟩) rfl rfl (fun H locs hW => ?_)
      refine lv_iload_n hx hb dX10_lookersOf_28 rfl (lv_at hl 1 rfl) ?_
      refine lv_icmp_ne (tgt := 43) hx hb dX10_lookersOf_29 (by decide) (fun c29 => ?_) (fun c29 => ?_)
      · have h := ite_f c29 h
        refine lv_iconst (v := 0) hx hb dX10_lookersOf_43 (by decide) ?_
        refine lv_ior hx hb dX10_lookersOf_44 ?_
        refine lv_topi (fun v45 ev45 => ?_)
        have h := nm_to h ev45
        refine lv_istore_n (lv' := [(2, .int v45), (0, .ref (gB G + a0)), (1, .int l1), (3, .int l3)]) hx hb dX10_lookersOf_45 rfl hl (by decide) rfl (fun ls hl => ?_)
        obtain ⟨v46, ev46⟩ : ∃ y : Int32, y = (l3 + (1 : Int32)) := ⟨_, rfl⟩
        have h := nm_to h ev46
        refine lv_iinc (v := v46) (lv' := [(3, .int v46), (2, .int v45), (0, .ref (gB G + a0)), (1, .int l1)]) hx hb dX10_lookersOf_46 hl (k := 3) rfl (by rw [ev46]; rfl) (by decide) rfl (fun ls hl => ?_)
        refine lv_goto (tgt := 4) hx hb dX10_lookersOf_49 (by decide) ?_
        exact hk4 a0 l1 v45 v46 _ _ _ h hW (lv_sub hl [2, 3, 1, 0] rfl)
      · have h := ite_t c29 h
        refine lv_iconst (v := 1) hx hb dX10_lookersOf_32 (by decide) ?_
        refine lv_aload_n hx hb dX10_lookersOf_33 rfl (lv_at hl 0 rfl) ?_
        refine lv_iload_n hx hb dX10_lookersOf_34 rfl (lv_at hl 3 rfl) ?_
        refine lv_iconst (v := 2) hx hb dX10_lookersOf_35 (by decide) ?_
        obtain ⟨x36, hq, h⟩ := ob h
        refine wz_rI (c' := 0) (s' := 0) hW (wz_runV (rest := [.int (1 : Int32), .int l2]) C hW lVX10_465 (ck hq).1 rfl (ctX10_factOf l G a0 l3 (2 : Int32) z hq) ⟨⟨rfl, rfl⟩, Nat.le_of_ble_eq_true rfl, Nat.le_of_ble_eq_true rfl⟩ rfl hl.1 rfl (Nat.le_of_ble_eq_true rfl) dX10_lookersOf_36 ⟨Nat.le_of_ble_eq_true rfl, Nat.le_of_ble_eq_true rfl⟩) rfl rfl (fun H locs hW => ?_)
        refine wz_shl hx hb dX10_lookersOf_39 ?_
        refine lv_goto (tgt := 44) hx hb dX10_lookersOf_40 (by decide) ?_
        refine lv_ior hx hb dX10_lookersOf_44 ?_
        refine lv_topi (fun v45 ev45 => ?_)
        have h := nm_to h ev45
        refine lv_istore_n (lv' := [(2, .int v45), (0, .ref (gB G + a0)), (1, .int l1), (3, .int l3)]) hx hb dX10_lookersOf_45 rfl hl (by decide) rfl (fun ls hl => ?_)
        obtain ⟨v46, ev46⟩ : ∃ y : Int32, y = (l3 + (1 : Int32)) := ⟨_, rfl⟩
        have h := nm_to h ev46
        refine lv_iinc (v := v46) (lv' := [(3, .int v46), (2, .int v45), (0, .ref (gB G + a0)), (1, .int l1)]) hx hb dX10_lookersOf_46 hl (k := 3) rfl (by rw [ev46]; rfl) (by decide) rfl (fun ls hl => ?_)
        refine lv_goto (tgt := 4) hx hb dX10_lookersOf_49 (by decide) ?_
        exact hk4 a0 l1 v45 v46 _ _ _ h hW (lv_sub hl [2, 3, 1, 0] rfl)
def fX10_lookersOf_4 (z : AH) : Nat → Nat → Int32 → Int32 → Int32 → Option (Int32)
  | 0, _, _, _, _ => none
  | n + 1, a0, l1, l2, l3 => bX10_lookersOf_4 (fX10_lookersOf_4 z n) a0 l1 l2 l3 z
theorem klX10_lookersOf_4 {p : Program} {l : Launch} {e : Env} {s : State} {m : MethodId} {args : Array Value} {below : List Frame} {meth : Method} {c : Code} {G : GW} {r : Int32} (C : Cx p m c cX10_lookersOf 4 s args RX10 G) (hlk : meth.locks = false) (hr : meth.sig.returnType = (some .int)) {z : AH} : ∀ (n : Nat) (a0 : Nat) (l1 : Int32) (l2 : Int32) (l3 : Int32) (H : Heap) (locs : List Loc) (ls : Array Slot), fX10_lookersOf_4 z n a0 l1 l2 l3 = some r → Wb G z s H locs → lv_has ls 4 [(0, .ref (gB G + a0)), (1, .int l1), (2, .int l2), (3, .int l3)] → W p l e rmX10_lookersOf s m args below meth c H locs 0 0 (MQ below (Qi G r z) args s 0 0 (AA G)) (F0 m 4 ls []) := by
  intro n
  induction n with
  | zero => intro a0 l1 l2 l3 H locs ls h; have h : (none : Option (Int32)) = some r := h; cases h
  | succ n ih => intro a0 l1 l2 l3 H locs ls h hW hl; exact kbX10_lookersOf_4 C hlk hr (fX10_lookersOf_4 z n) (fun a0 l1 l2 l3 H locs ls h hW hl => ih a0 l1 l2 l3 H locs ls h hW hl) a0 l1 l2 l3 h hW hl
def fX10_lookersOf (a0 : Nat) (l1 : Int32) (z : AH) : Option (Int32) :=
  if isO 9 z a0 = true then
    fX10_lookersOf_4 z FU a0 l1 (0 : Int32) (0 : Int32)
  else none
set_option maxHeartbeats 4000000 in
set_option maxRecDepth 100000 in
theorem ctX10_lookersOf (l : Launch) (G : GW) (a0 : Nat) (l1 : Int32) (z : AH) {r : Int32} (h : fX10_lookersOf a0 l1 z = some r) : Met l yX10_lookersOf (wy yX10_lookersOf cX10_lookersOf 4 (some .int)) rmX10_lookersOf (Pz G [.ref (gB G + a0), .int l1] z) (Qi G r z) 0 0 (AA G) := by
  refine wz_ent (own := RX10) (by decide +kernel) rfl (fun p e s m below meth c ls C hlk hr hin hW hl => ?_) (Nat.le_of_ble_eq_true rfl)
  have hl : lv_has ls 4 [(0, .ref (gB G + a0)), (1, .int l1)] := hl
  have hx := C.1
  have hb := C.2.1
  unfold fX10_lookersOf at h
  obtain ⟨-, h⟩ := ck h
  refine lv_iconst (v := 0) hx hb dX10_lookersOf_0 (by decide) ?_
  refine lv_istore_n (lv' := [(2, .int (0 : Int32)), (0, .ref (gB G + a0)), (1, .int l1)]) hx hb dX10_lookersOf_1 rfl hl (by decide) rfl (fun ls hl => ?_)
  refine lv_iconst (v := 0) hx hb dX10_lookersOf_2 (by decide) ?_
  refine lv_istore_n (lv' := [(3, .int (0 : Int32)), (2, .int (0 : Int32)), (0, .ref (gB G + a0)), (1, .int l1)]) hx hb dX10_lookersOf_3 rfl hl (by decide) rfl (fun ls hl => ?_)
  exact klX10_lookersOf_4 C hlk hr FU a0 l1 (0 : Int32) (0 : Int32) _ _ _ h hW (lv_sub hl [2, 3, 1, 0] rfl)
theorem dX10_findSets_0 : decode cX10_findSets 0 = .ok (.aload_n 0, 1) := by decide +kernel
theorem dX10_findSets_1 : decode cX10_findSets 1 = .ok (.iconst 0, 1) := by decide +kernel
theorem dX10_findSets_2 : decode cX10_findSets 2 = .ok (.putfield 468, 3) := by decide +kernel
theorem dX10_findSets_5 : decode cX10_findSets 5 = .ok (.iconst 0, 1) := by decide +kernel
theorem dX10_findSets_6 : decode cX10_findSets 6 = .ok (.istore_n 1, 1) := by decide +kernel
theorem dX10_findSets_7 : decode cX10_findSets 7 = .ok (.iload_n 1, 1) := by decide +kernel
theorem dX10_findSets_8 : decode cX10_findSets 8 = .ok (.bipush 16, 2) := by decide +kernel
theorem dX10_findSets_10 : decode cX10_findSets 10 = .ok (.if_icmp .ge 108, 3) := by decide +kernel
theorem dX10_findSets_13 : decode cX10_findSets 13 = .ok (.iconst 1, 1) := by decide +kernel
theorem dX10_findSets_14 : decode cX10_findSets 14 = .ok (.istore_n 2, 1) := by decide +kernel
theorem dX10_findSets_15 : decode cX10_findSets 15 = .ok (.iconst 0, 1) := by decide +kernel
theorem dX10_findSets_16 : decode cX10_findSets 16 = .ok (.istore_n 3, 1) := by decide +kernel
theorem dX10_findSets_17 : decode cX10_findSets 17 = .ok (.iload_n 3, 1) := by decide +kernel
theorem dX10_findSets_18 : decode cX10_findSets 18 = .ok (.aload_n 0, 1) := by decide +kernel
theorem dX10_findSets_19 : decode cX10_findSets 19 = .ok (.invokevirtual 462, 3) := by decide +kernel
theorem dX10_findSets_22 : decode cX10_findSets 22 = .ok (.if_icmp .ge 70, 3) := by decide +kernel
theorem dX10_findSets_25 : decode cX10_findSets 25 = .ok (.aload_n 0, 1) := by decide +kernel
theorem dX10_findSets_26 : decode cX10_findSets 26 = .ok (.aload_n 0, 1) := by decide +kernel
theorem dX10_findSets_27 : decode cX10_findSets 27 = .ok (.iload_n 3, 1) := by decide +kernel
theorem dX10_findSets_28 : decode cX10_findSets 28 = .ok (.iconst 1, 1) := by decide +kernel
theorem dX10_findSets_29 : decode cX10_findSets 29 = .ok (.invokevirtual 465, 3) := by decide +kernel
theorem dX10_findSets_32 : decode cX10_findSets 32 = .ok (.invokevirtual 471, 3) := by decide +kernel
theorem dX10_findSets_35 : decode cX10_findSets 35 = .ok (.iload_n 1, 1) := by decide +kernel
theorem dX10_findSets_36 : decode cX10_findSets 36 = .ok (.iand, 1) := by decide +kernel
theorem dX10_findSets_37 : decode cX10_findSets 37 = .ok (.istore 4, 2) := by decide +kernel
theorem dX10_findSets_39 : decode cX10_findSets 39 = .ok (.iload_n 2, 1) := by decide +kernel
theorem dX10_findSets_40 : decode cX10_findSets 40 = .ok (.ifCond .eq 44, 3) := by decide +kernel
theorem dX10_findSets_43 : decode cX10_findSets 43 = .ok (.aload_n 0, 1) := by decide +kernel
theorem dX10_findSets_44 : decode cX10_findSets 44 = .ok (.iload_n 3, 1) := by decide +kernel
theorem dX10_findSets_45 : decode cX10_findSets 45 = .ok (.iconst 0, 1) := by decide +kernel
theorem dX10_findSets_46 : decode cX10_findSets 46 = .ok (.invokevirtual 465, 3) := by decide +kernel
theorem dX10_findSets_49 : decode cX10_findSets 49 = .ok (.ifCond .eq 31, 3) := by decide +kernel
theorem dX10_findSets_52 : decode cX10_findSets 52 = .ok (.iload 4, 2) := by decide +kernel
theorem dX10_findSets_54 : decode cX10_findSets 54 = .ok (.ifCond .eq 7, 3) := by decide +kernel
theorem dX10_findSets_57 : decode cX10_findSets 57 = .ok (.iconst 1, 1) := by decide +kernel
theorem dX10_findSets_58 : decode cX10_findSets 58 = .ok (.goto 4, 3) := by decide +kernel
theorem dX10_findSets_61 : decode cX10_findSets 61 = .ok (.iconst 0, 1) := by decide +kernel
theorem dX10_findSets_62 : decode cX10_findSets 62 = .ok (.aload_n 0, 1) := by decide +kernel
theorem dX10_findSets_63 : decode cX10_findSets 63 = .ok (.iload_n 3, 1) := by decide +kernel
theorem dX10_findSets_64 : decode cX10_findSets 64 = .ok (.iconst 0, 1) := by decide +kernel
theorem dX10_findSets_65 : decode cX10_findSets 65 = .ok (.invokevirtual 465, 3) := by decide +kernel
theorem dX10_findSets_68 : decode cX10_findSets 68 = .ok (.iconst 1, 1) := by decide +kernel
theorem dX10_findSets_69 : decode cX10_findSets 69 = .ok (.if_icmp .ne 7, 3) := by decide +kernel
theorem dX10_findSets_72 : decode cX10_findSets 72 = .ok (.iconst 1, 1) := by decide +kernel
theorem dX10_findSets_73 : decode cX10_findSets 73 = .ok (.goto 4, 3) := by decide +kernel
theorem dX10_findSets_76 : decode cX10_findSets 76 = .ok (.iconst 0, 1) := by decide +kernel
theorem dX10_findSets_77 : decode cX10_findSets 77 = .ok (.if_icmp .ne 7, 3) := by decide +kernel
theorem dX10_findSets_80 : decode cX10_findSets 80 = .ok (.iconst 1, 1) := by decide +kernel
theorem dX10_findSets_81 : decode cX10_findSets 81 = .ok (.goto 4, 3) := by decide +kernel
theorem dX10_findSets_84 : decode cX10_findSets 84 = .ok (.iconst 0, 1) := by decide +kernel
theorem dX10_findSets_85 : decode cX10_findSets 85 = .ok (.istore_n 2, 1) := by decide +kernel
theorem dX10_findSets_86 : decode cX10_findSets 86 = .ok (.iinc 3 1, 3) := by decide +kernel
theorem dX10_findSets_89 : decode cX10_findSets 89 = .ok (.goto (-72), 3) := by decide +kernel
theorem dX10_findSets_92 : decode cX10_findSets 92 = .ok (.aload_n 0, 1) := by decide +kernel
theorem dX10_findSets_93 : decode cX10_findSets 93 = .ok (.dup, 1) := by decide +kernel
theorem dX10_findSets_94 : decode cX10_findSets 94 = .ok (.getfield 468, 3) := by decide +kernel
theorem dX10_findSets_97 : decode cX10_findSets 97 = .ok (.iload_n 2, 1) := by decide +kernel
theorem dX10_findSets_98 : decode cX10_findSets 98 = .ok (.ifCond .eq 9, 3) := by decide +kernel
theorem dX10_findSets_101 : decode cX10_findSets 101 = .ok (.iconst 1, 1) := by decide +kernel
theorem dX10_findSets_102 : decode cX10_findSets 102 = .ok (.iload_n 1, 1) := by decide +kernel
theorem dX10_findSets_103 : decode cX10_findSets 103 = .ok (.ishl, 1) := by decide +kernel
theorem dX10_findSets_104 : decode cX10_findSets 104 = .ok (.goto 4, 3) := by decide +kernel
theorem dX10_findSets_107 : decode cX10_findSets 107 = .ok (.iconst 0, 1) := by decide +kernel
theorem dX10_findSets_108 : decode cX10_findSets 108 = .ok (.ior, 1) := by decide +kernel
theorem dX10_findSets_109 : decode cX10_findSets 109 = .ok (.putfield 468, 3) := by decide +kernel
theorem dX10_findSets_112 : decode cX10_findSets 112 = .ok (.iinc 1 1, 3) := by decide +kernel
theorem dX10_findSets_115 : decode cX10_findSets 115 = .ok (.goto (-108), 3) := by decide +kernel
theorem dX10_findSets_118 : decode cX10_findSets 118 = .ok (.return_, 1) := by decide +kernel
theorem flX10_468 : FL RX10 468 9 51 := ⟨_, rfl, Nat.le_of_ble_eq_true rfl, tw 1250 (by decide +kernel) rfl, rfl⟩
theorem cdX10_lookersOf : Cond.code yX10_lookersOf cX10_lookersOf 4 (some .int) ∈ tz := tc7 213 rfl rfl
theorem lVX10_471 : LV RX10 471 yX10_lookersOf cX10_lookersOf 4 (some .int) 1 := ⟨tw 1769 (by decide +kernel) rfl, tw 1771 (by decide +kernel) rfl, tw 108 (by decide +kernel) rfl, tw 128 (by decide +kernel) rfl, cdX10_lookersOf, ⟨by decide +kernel, by decide +kernel, by decide +kernel⟩⟩
abbrev rmX10_findSets : Room := { frames := 2, cells := 0, slots := 0, locals := 45 }
def bX10_findSets_77 (k7 : Nat → Int32 → AH → Option AH) (k17 : Nat → Int32 → Int32 → Int32 → AH → Option AH) (a0 : Nat) (l1 : Int32) (l3 : Int32) (s0 : Int32) (s1 : Int32) (z : AH) : Option AH :=
  if s0 = s1 then (
    nm (l3 + (1 : Int32)) fun v86 =>
    k17 a0 l1 (1 : Int32) v86 z
  ) else (
    nm (l3 + (1 : Int32)) fun v86 =>
    k17 a0 l1 (0 : Int32) v86 z
  )
set_option maxHeartbeats 4000000 in
set_option maxRecDepth 100000 in
theorem kbX10_findSets_77 {p : Program} {l : Launch} {e : Env} {s : State} {m : MethodId} {args : Array Value} {below : List Frame} {meth : Method} {c : Code} {G : GW} {z' : AH} (C : Cx p m c cX10_findSets 5 s args RX10 G) (hlk : meth.locks = false) (hr : meth.sig.returnType = none) (k7 : Nat → Int32 → AH → Option AH) (k17 : Nat → Int32 → Int32 → Int32 → AH → Option AH) (hk7 : ∀ (a0 : Nat) (l1 : Int32) (z : AH) (H : Heap) (locs : List Loc) (ls : Array Slot), k7 a0 l1 z = some z' → Wb G z s H locs → lv_has ls 5 [(0, .ref (gB G + a0)), (1, .int l1)] → W p l e rmX10_findSets s m args below meth c H locs 0 0 (MQ below (Qv G z') args s 0 0 (AA G)) (F0 m 7 ls [])) (hk17 : ∀ (a0 : Nat) (l1 : Int32) (l2 : Int32) (l3 : Int32) (z : AH) (H : Heap) (locs : List Loc) (ls : Array Slot), k17 a0 l1 l2 l3 z = some z' → Wb G z s H locs → lv_has ls 5 [(0, .ref (gB G + a0)), (1, .int l1), (2, .int l2), (3, .int l3)] → W p l e rmX10_findSets s m args below meth c H locs 0 0 (MQ below (Qv G z') args s 0 0 (AA G)) (F0 m 17 ls [])) (a0 : Nat) (l1 : Int32) (l3 : Int32) (s0 : Int32) (s1 : Int32) {z : AH} {H : Heap} {locs : List Loc} {ls : Array Slot} (h : bX10_findSets_77 k7 k17 a0 l1 l3 s0 s1 z = some z') (hW : Wb G z s H locs) (hl : lv_has ls 5 [(0, .ref (gB G + a0)), (1, .int l1), (3, .int l3)]) : W p l e rmX10_findSets s m args below meth c H locs 0 0 (MQ below (Qv G z') args s 0 0 (AA G)) (F0 m 77 ls [.int s1, .int s0]) := by
  have hx := C.1
  have hb := C.2.1
  unfold bX10_findSets_77 at h
  refine lv_icmp_ne (tgt := 84) hx hb dX10_findSets_77 (by decide) (fun c77 => ?_) (fun c77 => ?_)
  · have h := ite_f c77 h
    refine lv_iconst (v := 0) hx hb dX10_findSets_84 (by decide) ?_
    refine lv_istore_n (lv' := [(2, .int (0 : Int32)), (0, .ref (gB G + a0)), (1, .int l1), (3, .int l3)]) hx hb dX10_findSets_85 rfl hl (by decide) rfl (fun ls hl => ?_)
    obtain ⟨v86, ev86⟩ : ∃ y : Int32, y = (l3 + (1 : Int32)) := ⟨_, rfl⟩
    have h := nm_to h ev86
    refine lv_iinc (v := v86) (lv' := [(3, .int v86), (2, .int (0 : Int32)), (0, .ref (gB G + a0)), (1, .int l1)]) hx hb dX10_findSets_86 hl (k := 3) rfl (by rw [ev86]; rfl) (by decide) rfl (fun ls hl => ?_)
    refine lv_goto (tgt := 17) hx hb dX10_findSets_89 (by decide) ?_
    exact hk17 a0 l1 (0 : Int32) v86 z _ _ _ h hW (lv_sub hl [2, 3, 1, 0] rfl)
  · have h := ite_t c77 h
    refine lv_iconst (v := 1) hx hb dX10_findSets_80 (by decide) ?_
    refine lv_goto (tgt := 85) hx hb dX10_findSets_81 (by decide) ?_
    refine lv_istore_n (lv' := [(2, .int (1 : Int32)), (0, .ref (gB G + a0)), (1, .int l1), (3, .int l3)]) hx hb dX10_findSets_85 rfl hl (by decide) rfl (fun ls hl => ?_)
    obtain ⟨v86, ev86⟩ : ∃ y : Int32, y = (l3 + (1 : Int32)) := ⟨_, rfl⟩
    have h := nm_to h ev86
    refine lv_iinc (v := v86) (lv' := [(3, .int v86), (2, .int (1 : Int32)), (0, .ref (gB G + a0)), (1, .int l1)]) hx hb dX10_findSets_86 hl (k := 3) rfl (by rw [ev86]; rfl) (by decide) rfl (fun ls hl => ?_)
    refine lv_goto (tgt := 17) hx hb dX10_findSets_89 (by decide) ?_
    exact hk17 a0 l1 (1 : Int32) v86 z _ _ _ h hW (lv_sub hl [2, 3, 1, 0] rfl)
def bX10_findSets_62 (k7 : Nat → Int32 → AH → Option AH) (k17 : Nat → Int32 → Int32 → Int32 → AH → Option AH) (a0 : Nat) (l1 : Int32) (l3 : Int32) (s0 : Int32) (z : AH) : Option AH :=
  (fX10_factOf a0 l3 (0 : Int32) z).bind fun x65 =>
  if x65 = (1 : Int32) then (
    bX10_findSets_77 k7 k17 a0 l1 l3 s0 (1 : Int32) z
  ) else (
    bX10_findSets_77 k7 k17 a0 l1 l3 s0 (0 : Int32) z
  )
set_option maxHeartbeats 4000000 in
set_option maxRecDepth 100000 in
theorem kbX10_findSets_62 {p : Program} {l : Launch} {e : Env} {s : State} {m : MethodId} {args : Array Value} {below : List Frame} {meth : Method} {c : Code} {G : GW} {z' : AH} (C : Cx p m c cX10_findSets 5 s args RX10 G) (hlk : meth.locks = false) (hr : meth.sig.returnType = none) (k7 : Nat → Int32 → AH → Option AH) (k17 : Nat → Int32 → Int32 → Int32 → AH → Option AH) (hk7 : ∀ (a0 : Nat) (l1 : Int32) (z : AH) (H : Heap) (locs : List Loc) (ls : Array Slot), k7 a0 l1 z = some z' → Wb G z s H locs → lv_has ls 5 [(0, .ref (gB G + a0)), (1, .int l1)] → W p l e rmX10_findSets s m args below meth c H locs 0 0 (MQ below (Qv G z') args s 0 0 (AA G)) (F0 m 7 ls [])) (hk17 : ∀ (a0 : Nat) (l1 : Int32) (l2 : Int32) (l3 : Int32) (z : AH) (H : Heap) (locs : List Loc) (ls : Array Slot), k17 a0 l1 l2 l3 z = some z' → Wb G z s H locs → lv_has ls 5 [(0, .ref (gB G + a0)), (1, .int l1), (2, .int l2), (3, .int l3)] → W p l e rmX10_findSets s m args below meth c H locs 0 0 (MQ below (Qv G z') args s 0 0 (AA G)) (F0 m 17 ls [])) (a0 : Nat) (l1 : Int32) (l3 : Int32) (s0 : Int32) {z : AH} {H : Heap} {locs : List Loc} {ls : Array Slot} (h : bX10_findSets_62 k7 k17 a0 l1 l3 s0 z = some z') (hW : Wb G z s H locs) (hl : lv_has ls 5 [(0, .ref (gB G + a0)), (1, .int l1), (3, .int l3)]) : W p l e rmX10_findSets s m args below meth c H locs 0 0 (MQ below (Qv G z') args s 0 0 (AA G)) (F0 m 62 ls [.int s0]) := by
  have hx := C.1
  have hb := C.2.1
  unfold bX10_findSets_62 at h
  refine lv_aload_n hx hb dX10_findSets_62 rfl (lv_at hl 0 rfl) ?_
  refine lv_iload_n hx hb dX10_findSets_63 rfl (lv_at hl 2 rfl) ?_
  refine lv_iconst (v := 0) hx hb dX10_findSets_64 (by decide) ?_
  obtain ⟨x65, hq, h⟩ := ob h
  refine wz_rI (c' := 0) (s' := 0) hW (wz_runV (rest := [.int s0]) C hW lVX10_465 (ck hq).1 rfl (ctX10_factOf l G a0 l3 (0 : Int32) z hq) ⟨⟨rfl, rfl⟩, Nat.le_of_ble_eq_true rfl, Nat.le_of_ble_eq_true rfl⟩ rfl hl.1 rfl (Nat.le_of_ble_eq_true rfl) dX10_findSets_65 ⟨Nat.le_of_ble_eq_true rfl, Nat.le_of_ble_eq_true rfl⟩) rfl rfl (fun H locs hW => ?_)
  refine lv_iconst (v := 1) hx hb dX10_findSets_68 (by decide) ?_
  refine lv_icmp_ne (tgt := 76) hx hb dX10_findSets_69 (by decide) (fun c69 => ?_) (fun c69 => ?_)
  · have h := ite_f c69 h
    refine lv_iconst (v := 0) hx hb dX10_findSets_76 (by decide) ?_
    exact kbX10_findSets_77 C hlk hr k7 k17 hk7 hk17 a0 l1 l3 s0 (0 : Int32) h hW (lv_sub hl [0, 1, 2] rfl)
  · have h := ite_t c69 h
    refine lv_iconst (v := 1) hx hb dX10_findSets_72 (by decide) ?_
    refine lv_goto (tgt := 77) hx hb dX10_findSets_73 (by decide) ?_
    exact kbX10_findSets_77 C hlk hr k7 k17 hk7 hk17 a0 l1 l3 s0 (1 : Int32) h hW (lv_sub hl [0, 1, 2] rfl)
def bX10_findSets_17 (k7 : Nat → Int32 → AH → Option AH) (k17 : Nat → Int32 → Int32 → Int32 → AH → Option AH) (a0 : Nat) (l1 : Int32) (l2 : Int32) (l3 : Int32) (z : AH) : Option AH :=
  (fX10_facts a0 z).bind fun x19 =>
  if x19 ≤ l3 then (
    (gI 9 51 z a0).bind fun x94 =>
    if l2 = (0 : Int32) then (
      (pF 9 51 z a0 (.int (x94 ||| (0 : Int32)))).bind fun z109 =>
      nm (l1 + (1 : Int32)) fun v112 =>
      k7 a0 v112 z109
    ) else (
      (pF 9 51 z a0 (.int (x94 ||| (shl (1 : Int32) l1)))).bind fun z109 =>
      nm (l1 + (1 : Int32)) fun v112 =>
      k7 a0 v112 z109
    )
  ) else (
    (fX10_factOf a0 l3 (1 : Int32) z).bind fun x29 =>
    (fX10_lookersOf a0 x29 z).bind fun x32 =>
    nm (x32 &&& l1) fun v37 =>
    if l2 = (0 : Int32) then (
      nm (l3 + (1 : Int32)) fun v86 =>
      k17 a0 l1 (0 : Int32) v86 z
    ) else (
      (fX10_factOf a0 l3 (0 : Int32) z).bind fun x46 =>
      if x46 = (0 : Int32) then (
        nm (l3 + (1 : Int32)) fun v86 =>
        k17 a0 l1 (1 : Int32) v86 z
      ) else (
        if v37 = (0 : Int32) then (
          bX10_findSets_62 k7 k17 a0 l1 l3 (0 : Int32) z
        ) else (
          bX10_findSets_62 k7 k17 a0 l1 l3 (1 : Int32) z
        )
      )
    )
  )
set_option maxHeartbeats 4000000 in
set_option maxRecDepth 100000 in
theorem kbX10_findSets_17 {p : Program} {l : Launch} {e : Env} {s : State} {m : MethodId} {args : Array Value} {below : List Frame} {meth : Method} {c : Code} {G : GW} {z' : AH} (C : Cx p m c cX10_findSets 5 s args RX10 G) (hlk : meth.locks = false) (hr : meth.sig.returnType = none) (k7 : Nat → Int32 → AH → Option AH) (k17 : Nat → Int32 → Int32 → Int32 → AH → Option AH) (hk7 : ∀ (a0 : Nat) (l1 : Int32) (z : AH) (H : Heap) (locs : List Loc) (ls : Array Slot), k7 a0 l1 z = some z' → Wb G z s H locs → lv_has ls 5 [(0, .ref (gB G + a0)), (1, .int l1)] → W p l e rmX10_findSets s m args below meth c H locs 0 0 (MQ below (Qv G z') args s 0 0 (AA G)) (F0 m 7 ls [])) (hk17 : ∀ (a0 : Nat) (l1 : Int32) (l2 : Int32) (l3 : Int32) (z : AH) (H : Heap) (locs : List Loc) (ls : Array Slot), k17 a0 l1 l2 l3 z = some z' → Wb G z s H locs → lv_has ls 5 [(0, .ref (gB G + a0)), (1, .int l1), (2, .int l2), (3, .int l3)] → W p l e rmX10_findSets s m args below meth c H locs 0 0 (MQ below (Qv G z') args s 0 0 (AA G)) (F0 m 17 ls [])) (a0 : Nat) (l1 : Int32) (l2 : Int32) (l3 : Int32) {z : AH} {H : Heap} {locs : List Loc} {ls : Array Slot} (h : bX10_findSets_17 k7 k17 a0 l1 l2 l3 z = some z') (hW : Wb G z s H locs) (hl : lv_has ls 5 [(0, .ref (gB G + a0)), (1, .int l1), (2, .int l2), (3, .int l3)]) : W p l e rmX10_findSets s m args below meth c H locs 0 0 (MQ below (Qv G z') args s 0 0 (AA G)) (F0 m 17 ls []) := by
  have hx := C.1
  have hb := C.2.1
  unfold bX10_findSets_17 at h
  refine lv_iload_n hx hb dX10_findSets_17 rfl (lv_at hl 3 rfl) ?_
  refine lv_aload_n hx hb dX10_findSets_18 rfl (lv_at hl 0 rfl) ?_
  obtain ⟨x19, hq, h⟩ := ob h
  refine wz_rI (c' := 0) (s' := 0) hW (wz_runV (rest := [.int l3]) C hW lVX10_462 (ck hq).1 rfl (ctX10_facts l G a0 z hq) ⟨⟨rfl, rfl⟩, Nat.le_of_ble_eq_true rfl, Nat.le_of_ble_eq_true rfl⟩ rfl hl.1 rfl (Nat.le_of_ble_eq_true rfl) dX10_findSets_19 ⟨Nat.le_of_ble_eq_true rfl, Nat.le_of_ble_eq_true rfl⟩) rfl rfl (fun H locs hW => ?_)
  refine lv_icmp_ge (tgt := 92) hx hb dX10_findSets_22 (by decide) (fun c22 => ?_) (fun c22 => ?_)
  · have h := ite_t c22 h
    refine lv_aload_n hx hb dX10_findSets_92 rfl (lv_at hl 0 rfl) ?_
    refine lv_dup hx hb dX10_findSets_93 rfl ?_
    obtain ⟨x94, hg, h⟩ := ob h
    refine wz_gI C hW flX10_468 hg dX10_findSets_94 ?_
    refine lv_iload_n hx hb dX10_findSets_97 rfl (lv_at hl 2 rfl) ?_
    refine lv_if_eq (tgt := 107) hx hb dX10_findSets_98 (by decide) (fun c98 => ?_) (fun c98 => ?_)
    · have h := ite_t c98 h
      refine lv_iconst (v := 0) hx hb dX10_findSets_107 (by decide) ?_
      refine lv_ior hx hb dX10_findSets_108 ?_
      obtain ⟨z109, hg, h⟩ := ob h
      refine wz_put (v := (.int (x94 ||| (0 : Int32)))) C hW flX10_468 rfl rfl hg dX10_findSets_109 (fun H locs hW => ?_)
      obtain ⟨v112, ev112⟩ : ∃ y : Int32, y = (l1 + (1 : Int32)) := ⟨_, rfl⟩
      have h := nm_to h ev112
      refine lv_iinc (v := v112) (lv' := [(1, .int v112), (0, .ref (gB G + a0)), (2, .int l2), (3, .int l3)]) hx hb dX10_findSets_112 hl (k := 1) rfl (by rw [ev112]; rfl) (by decide) rfl (fun ls hl => ?_)
      refine lv_goto (tgt := 7) hx hb dX10_findSets_115 (by decide) ?_
      exact hk7 a0 v112 z109 _ _ _ h hW (lv_sub hl [1, 0] rfl)
    · have h := ite_f c98 h
      refine lv_iconst (v := 1) hx hb dX10_findSets_101 (by decide) ?_
      refine lv_iload_n hx hb dX10_findSets_102 rfl (lv_at hl 1 rfl) ?_
      refine wz_shl hx hb dX10_findSets_103 ?_
      refine lv_goto (tgt := 108) hx hb dX10_findSets_104 (by decide) ?_
      refine lv_ior hx hb dX10_findSets_108 ?_
      obtain ⟨z109, hg, h⟩ := ob h
      refine wz_put (v := (.int (x94 ||| (shl (1 : Int32) l1)))) C hW flX10_468 rfl rfl hg dX10_findSets_109 (fun H locs hW => ?_)
      obtain ⟨v112, ev112⟩ : ∃ y : Int32, y = (l1 + (1 : Int32)) := ⟨_, rfl⟩
      have h := nm_to h ev112
      refine lv_iinc (v := v112) (lv' := [(1, .int v112), (0, .ref (gB G + a0)), (2, .int l2), (3, .int l3)]) hx hb dX10_findSets_112 hl (k := 1) rfl (by rw [ev112]; rfl) (by decide) rfl (fun ls hl => ?_)
      refine lv_goto (tgt := 7) hx hb dX10_findSets_115 (by decide) ?_
      exact hk7 a0 v112 z109 _ _ _ h hW (lv_sub hl [1, 0] rfl)
  · have h := ite_f c22 h
    refine lv_aload_n hx hb dX10_findSets_25 rfl (lv_at hl 0 rfl) ?_
    refine lv_aload_n hx hb dX10_findSets_26 rfl (lv_at hl 0 rfl) ?_
    refine lv_iload_n hx hb dX10_findSets_27 rfl (lv_at hl 3 rfl) ?_
    refine lv_iconst (v := 1) hx hb dX10_findSets_28 (by decide) ?_
    obtain ⟨x29, hq, h⟩ := ob h
    refine wz_rI (c' := 0) (s' := 0) hW (wz_runV (rest := [.ref (gB G + a0)]) C hW lVX10_465 (ck hq).1 rfl (ctX10_factOf l G a0 l3 (1 : Int32) z hq) ⟨⟨rfl, rfl⟩, Nat.le_of_ble_eq_true rfl, Nat.le_of_ble_eq_true rfl⟩ rfl hl.1 rfl (Nat.le_of_ble_eq_true rfl) dX10_findSets_29 ⟨Nat.le_of_ble_eq_true rfl, Nat.le_of_ble_eq_true rfl⟩) rfl rfl (fun H locs hW => ?_)
    obtain ⟨x32, hq, h⟩ := ob h
    refine wz_rI (c' := 0) (s' := 0) hW (wz_runV (rest := []) C hW lVX10_471 (ck hq).1 rfl (ctX10_lookersOf l G a0 x29 z hq) ⟨⟨rfl, rfl⟩, Nat.le_of_ble_eq_true rfl, Nat.le_of_ble_eq_true rfl⟩ rfl hl.1 rfl (Nat.le_of_ble_eq_true rfl) dX10_findSets_32 ⟨Nat.le_of_ble_eq_true rfl, Nat.le_of_ble_eq_true rfl⟩) rfl rfl (fun H locs hW => ?_)
    refine lv_iload_n hx hb dX10_findSets_35 rfl (lv_at hl 1 rfl) ?_
    refine lv_iand hx hb dX10_findSets_36 ?_
    refine lv_topi (fun v37 ev37 => ?_)
    have h := nm_to h ev37
    refine lv_istore (lv' := [(4, .int v37), (0, .ref (gB G + a0)), (1, .int l1), (2, .int l2), (3, .int l3)]) hx hb dX10_findSets_37 hl (by decide) rfl (fun ls hl => ?_)
    refine lv_iload_n hx hb dX10_findSets_39 rfl (lv_at hl 3 rfl) ?_
    refine lv_if_eq (tgt := 84) hx hb dX10_findSets_40 (by decide) (fun c40 => ?_) (fun c40 => ?_)
    · have h := ite_t c40 h
      refine lv_iconst (v := 0) hx hb dX10_findSets_84 (by decide) ?_
      refine lv_istore_n (lv' := [(2, .int (0 : Int32)), (4, .int v37), (0, .ref (gB G + a0)), (1, .int l1), (3, .int l3)]) hx hb dX10_findSets_85 rfl hl (by decide) rfl (fun ls hl => ?_)
      obtain ⟨v86, ev86⟩ : ∃ y : Int32, y = (l3 + (1 : Int32)) := ⟨_, rfl⟩
      have h := nm_to h ev86
      refine lv_iinc (v := v86) (lv' := [(3, .int v86), (2, .int (0 : Int32)), (4, .int v37), (0, .ref (gB G + a0)), (1, .int l1)]) hx hb dX10_findSets_86 hl (k := 4) rfl (by rw [ev86]; rfl) (by decide) rfl (fun ls hl => ?_)
      refine lv_goto (tgt := 17) hx hb dX10_findSets_89 (by decide) ?_
      exact hk17 a0 l1 (0 : Int32) v86 z _ _ _ h hW (lv_sub hl [3, 4, 1, 0] rfl)
    · have h := ite_f c40 h
      refine lv_aload_n hx hb dX10_findSets_43 rfl (lv_at hl 1 rfl) ?_
      refine lv_iload_n hx hb dX10_findSets_44 rfl (lv_at hl 4 rfl) ?_
      refine lv_iconst (v := 0) hx hb dX10_findSets_45 (by decide) ?_
      obtain ⟨x46, hq, h⟩ := ob h
      refine wz_rI (c' := 0) (s' := 0) hW (wz_runV (rest := []) C hW lVX10_465 (ck hq).1 rfl (ctX10_factOf l G a0 l3 (0 : Int32) z hq) ⟨⟨rfl, rfl⟩, Nat.le_of_ble_eq_true rfl, Nat.le_of_ble_eq_true rfl⟩ rfl hl.1 rfl (Nat.le_of_ble_eq_true rfl) dX10_findSets_46 ⟨Nat.le_of_ble_eq_true rfl, Nat.le_of_ble_eq_true rfl⟩) rfl rfl (fun H locs hW => ?_)
      refine lv_if_eq (tgt := 80) hx hb dX10_findSets_49 (by decide) (fun c49 => ?_) (fun c49 => ?_)
      · have h := ite_t c49 h
        refine lv_iconst (v := 1) hx hb dX10_findSets_80 (by decide) ?_
        refine lv_goto (tgt := 85) hx hb dX10_findSets_81 (by decide) ?_
        refine lv_istore_n (lv' := [(2, .int (1 : Int32)), (4, .int v37), (0, .ref (gB G + a0)), (1, .int l1), (3, .int l3)]) hx hb dX10_findSets_85 rfl hl (by decide) rfl (fun ls hl => ?_)
        obtain ⟨v86, ev86⟩ : ∃ y : Int32, y = (l3 + (1 : Int32)) := ⟨_, rfl⟩
        have h := nm_to h ev86
        refine lv_iinc (v := v86) (lv' := [(3, .int v86), (2, .int (1 : Int32)), (4, .int v37), (0, .ref (gB G + a0)), (1, .int l1)]) hx hb dX10_findSets_86 hl (k := 4) rfl (by rw [ev86]; rfl) (by decide) rfl (fun ls hl => ?_)
        refine lv_goto (tgt := 17) hx hb dX10_findSets_89 (by decide) ?_
        exact hk17 a0 l1 (1 : Int32) v86 z _ _ _ h hW (lv_sub hl [3, 4, 1, 0] rfl)
      · have h := ite_f c49 h
        refine lv_iload hx hb dX10_findSets_52 (lv_at hl 0 rfl) ?_
        refine lv_if_eq (tgt := 61) hx hb dX10_findSets_54 (by decide) (fun c54 => ?_) (fun c54 => ?_)
        · have h := ite_t c54 h
          refine lv_iconst (v := 0) hx hb dX10_findSets_61 (by decide) ?_
          exact kbX10_findSets_62 C hlk hr k7 k17 hk7 hk17 a0 l1 l3 (0 : Int32) h hW (lv_sub hl [1, 2, 4] rfl)
        · have h := ite_f c54 h
          refine lv_iconst (v := 1) hx hb dX10_findSets_57 (by decide) ?_
          refine lv_goto (tgt := 62) hx hb dX10_findSets_58 (by decide) ?_
          exact kbX10_findSets_62 C hlk hr k7 k17 hk7 hk17 a0 l1 l3 (1 : Int32) h hW (lv_sub hl [1, 2, 4] rfl)
def fX10_findSets_17 (k7 : Nat → Int32 → AH → Option AH) : Nat → Nat → Int32 → Int32 → Int32 → AH → Option AH
  | 0, _, _, _, _, _ => none
  | n + 1, a0, l1, l2, l3, z => bX10_findSets_17 k7 (fX10_findSets_17 k7 n) a0 l1 l2 l3 z
theorem klX10_findSets_17 {p : Program} {l : Launch} {e : Env} {s : State} {m : MethodId} {args : Array Value} {below : List Frame} {meth : Method} {c : Code} {G : GW} {z' : AH} (C : Cx p m c cX10_findSets 5 s args RX10 G) (hlk : meth.locks = false) (hr : meth.sig.returnType = none) (k7 : Nat → Int32 → AH → Option AH) (hk7 : ∀ (a0 : Nat) (l1 : Int32) (z : AH) (H : Heap) (locs : List Loc) (ls : Array Slot), k7 a0 l1 z = some z' → Wb G z s H locs → lv_has ls 5 [(0, .ref (gB G + a0)), (1, .int l1)] → W p l e rmX10_findSets s m args below meth c H locs 0 0 (MQ below (Qv G z') args s 0 0 (AA G)) (F0 m 7 ls [])) : ∀ (n : Nat) (a0 : Nat) (l1 : Int32) (l2 : Int32) (l3 : Int32) (z : AH) (H : Heap) (locs : List Loc) (ls : Array Slot), fX10_findSets_17 k7 n a0 l1 l2 l3 z = some z' → Wb G z s H locs → lv_has ls 5 [(0, .ref (gB G + a0)), (1, .int l1), (2, .int l2), (3, .int l3)] → W p l e rmX10_findSets s m args below meth c H locs 0 0 (MQ below (Qv G z') args s 0 0 (AA G)) (F0 m 17 ls []) := by
  intro n
  induction n with
  | zero => intro a0 l1 l2 l3 z H locs ls h; have h : (none : Option AH) = some z' := h; cases h
  | succ n ih => intro a0 l1 l2 l3 z H locs ls h hW hl; exact kbX10_findSets_17 C hlk hr k7 (fX10_findSets_17 k7 n) hk7 (fun a0 l1 l2 l3 z H locs ls h hW hl => ih a0 l1 l2 l3 z H locs ls h hW hl) a0 l1 l2 l3 h hW hl
def bX10_findSets_7 (k7 : Nat → Int32 → AH → Option AH) (a0 : Nat) (l1 : Int32) (z : AH) : Option AH :=
  if (16 : Int32) ≤ l1 then (
    some z
  ) else (
    fX10_findSets_17 k7 FU a0 l1 (1 : Int32) (0 : Int32) z
  )
set_option maxHeartbeats 4000000 in
set_option maxRecDepth 100000 in
theorem kbX10_findSets_7 {p : Program} {l : Launch} {e : Env} {s : State} {m : MethodId} {args : Array Value} {below : List Frame} {meth : Method} {c : Code} {G : GW} {z' : AH} (C : Cx p m c cX10_findSets 5 s args RX10 G) (hlk : meth.locks = false) (hr : meth.sig.returnType = none) (k7 : Nat → Int32 → AH → Option AH) (hk7 : ∀ (a0 : Nat) (l1 : Int32) (z : AH) (H : Heap) (locs : List Loc) (ls : Array Slot), k7 a0 l1 z = some z' → Wb G z s H locs → lv_has ls 5 [(0, .ref (gB G + a0)), (1, .int l1)] → W p l e rmX10_findSets s m args below meth c H locs 0 0 (MQ below (Qv G z') args s 0 0 (AA G)) (F0 m 7 ls [])) (a0 : Nat) (l1 : Int32) {z : AH} {H : Heap} {locs : List Loc} {ls : Array Slot} (h : bX10_findSets_7 k7 a0 l1 z = some z') (hW : Wb G z s H locs) (hl : lv_has ls 5 [(0, .ref (gB G + a0)), (1, .int l1)]) : W p l e rmX10_findSets s m args below meth c H locs 0 0 (MQ below (Qv G z') args s 0 0 (AA G)) (F0 m 7 ls []) := by
  have hx := C.1
  have hb := C.2.1
  unfold bX10_findSets_7 at h
  refine lv_iload_n hx hb dX10_findSets_7 rfl (lv_at hl 1 rfl) ?_
  refine lv_bipush (v := 16) hx hb dX10_findSets_8 (by decide) ?_
  refine lv_icmp_ge (tgt := 118) hx hb dX10_findSets_10 (by decide) (fun c10 => ?_) (fun c10 => ?_)
  · have h := ite_t c10 h
    exact wz_vretE C hlk hr (Option.some.inj h) hW dX10_findSets_118
  · have h := ite_f c10 h
    refine lv_iconst (v := 1) hx hb dX10_findSets_13 (by decide) ?_
    refine lv_istore_n (lv' := [(2, .int (1 : Int32)), (0, .ref (gB G + a0)), (1, .int l1)]) hx hb dX10_findSets_14 rfl hl (by decide) rfl (fun ls hl => ?_)
    refine lv_iconst (v := 0) hx hb dX10_findSets_15 (by decide) ?_
    refine lv_istore_n (lv' := [(3, .int (0 : Int32)), (2, .int (1 : Int32)), (0, .ref (gB G + a0)), (1, .int l1)]) hx hb dX10_findSets_16 rfl hl (by decide) rfl (fun ls hl => ?_)
    exact klX10_findSets_17 C hlk hr k7 hk7 FU a0 l1 (1 : Int32) (0 : Int32) z _ _ _ h hW (lv_sub hl [2, 3, 1, 0] rfl)
def fX10_findSets_7 : Nat → Nat → Int32 → AH → Option AH
  | 0, _, _, _ => none
  | n + 1, a0, l1, z => bX10_findSets_7 (fX10_findSets_7 n) a0 l1 z
theorem klX10_findSets_7 {p : Program} {l : Launch} {e : Env} {s : State} {m : MethodId} {args : Array Value} {below : List Frame} {meth : Method} {c : Code} {G : GW} {z' : AH} (C : Cx p m c cX10_findSets 5 s args RX10 G) (hlk : meth.locks = false) (hr : meth.sig.returnType = none) : ∀ (n : Nat) (a0 : Nat) (l1 : Int32) (z : AH) (H : Heap) (locs : List Loc) (ls : Array Slot), fX10_findSets_7 n a0 l1 z = some z' → Wb G z s H locs → lv_has ls 5 [(0, .ref (gB G + a0)), (1, .int l1)] → W p l e rmX10_findSets s m args below meth c H locs 0 0 (MQ below (Qv G z') args s 0 0 (AA G)) (F0 m 7 ls []) := by
  intro n
  induction n with
  | zero => intro a0 l1 z H locs ls h; have h : (none : Option AH) = some z' := h; cases h
  | succ n ih => intro a0 l1 z H locs ls h hW hl; exact kbX10_findSets_7 C hlk hr (fX10_findSets_7 n) (fun a0 l1 z H locs ls h hW hl => ih a0 l1 z H locs ls h hW hl) a0 l1 h hW hl
def fX10_findSets (a0 : Nat) (z : AH) : Option AH :=
  if isO 9 z a0 = true then
    (pF 9 51 z a0 (.int (0 : Int32))).bind fun z2 =>
    fX10_findSets_7 FU a0 (0 : Int32) z2
  else none
set_option maxHeartbeats 4000000 in
set_option maxRecDepth 100000 in
theorem ctX10_findSets (l : Launch) (G : GW) (a0 : Nat) (z : AH) {z' : AH} (h : fX10_findSets a0 z = some z') : Met l yX10_findSets (wy yX10_findSets cX10_findSets 5 none) rmX10_findSets (Pz G [.ref (gB G + a0)] z) (Qv G z') 0 0 (AA G) := by
  refine wz_ent (own := RX10) (by decide +kernel) rfl (fun p e s m below meth c ls C hlk hr hin hW hl => ?_) (Nat.le_of_ble_eq_true rfl)
  have hl : lv_has ls 5 [(0, .ref (gB G + a0))] := hl
  have hx := C.1
  have hb := C.2.1
  unfold fX10_findSets at h
  obtain ⟨-, h⟩ := ck h
  refine lv_aload_n hx hb dX10_findSets_0 rfl (lv_at hl 0 rfl) ?_
  refine lv_iconst (v := 0) hx hb dX10_findSets_1 (by decide) ?_
  obtain ⟨z2, hg, h⟩ := ob h
  refine wz_put (v := (.int (0 : Int32))) C hW flX10_468 rfl rfl hg dX10_findSets_2 (fun H locs hW => ?_)
  refine lv_iconst (v := 0) hx hb dX10_findSets_5 (by decide) ?_
  refine lv_istore_n (lv' := [(1, .int (0 : Int32)), (0, .ref (gB G + a0))]) hx hb dX10_findSets_6 rfl hl (by decide) rfl (fun ls hl => ?_)
  exact klX10_findSets_7 C hlk hr FU a0 (0 : Int32) z2 _ _ _ h hW (lv_sub hl [1, 0] rfl)
theorem dX10_manyOf_0 : decode cX10_manyOf 0 = .ok (.iconst 0, 1) := by decide +kernel
theorem dX10_manyOf_1 : decode cX10_manyOf 1 = .ok (.istore_n 1, 1) := by decide +kernel
theorem dX10_manyOf_2 : decode cX10_manyOf 2 = .ok (.iconst 0, 1) := by decide +kernel
theorem dX10_manyOf_3 : decode cX10_manyOf 3 = .ok (.istore_n 2, 1) := by decide +kernel
theorem dX10_manyOf_4 : decode cX10_manyOf 4 = .ok (.iload_n 2, 1) := by decide +kernel
theorem dX10_manyOf_5 : decode cX10_manyOf 5 = .ok (.bipush 16, 2) := by decide +kernel
theorem dX10_manyOf_7 : decode cX10_manyOf 7 = .ok (.if_icmp .ge 25, 3) := by decide +kernel
theorem dX10_manyOf_10 : decode cX10_manyOf 10 = .ok (.iload_n 1, 1) := by decide +kernel
theorem dX10_manyOf_11 : decode cX10_manyOf 11 = .ok (.iload_n 0, 1) := by decide +kernel
theorem dX10_manyOf_12 : decode cX10_manyOf 12 = .ok (.iload_n 2, 1) := by decide +kernel
theorem dX10_manyOf_13 : decode cX10_manyOf 13 = .ok (.invokestatic 85, 3) := by decide +kernel
theorem dX10_manyOf_16 : decode cX10_manyOf 16 = .ok (.ifCond .eq 7, 3) := by decide +kernel
theorem dX10_manyOf_19 : decode cX10_manyOf 19 = .ok (.iconst 1, 1) := by decide +kernel
theorem dX10_manyOf_20 : decode cX10_manyOf 20 = .ok (.goto 4, 3) := by decide +kernel
theorem dX10_manyOf_23 : decode cX10_manyOf 23 = .ok (.iconst 0, 1) := by decide +kernel
theorem dX10_manyOf_24 : decode cX10_manyOf 24 = .ok (.iadd, 1) := by decide +kernel
theorem dX10_manyOf_25 : decode cX10_manyOf 25 = .ok (.istore_n 1, 1) := by decide +kernel
theorem dX10_manyOf_26 : decode cX10_manyOf 26 = .ok (.iinc 2 1, 3) := by decide +kernel
theorem dX10_manyOf_29 : decode cX10_manyOf 29 = .ok (.goto (-25), 3) := by decide +kernel
theorem dX10_manyOf_32 : decode cX10_manyOf 32 = .ok (.iload_n 1, 1) := by decide +kernel
theorem dX10_manyOf_33 : decode cX10_manyOf 33 = .ok (.ireturn, 1) := by decide +kernel
abbrev rmX10_manyOf : Room := { frames := 1, cells := 0, slots := 0, locals := 21 }
def bX10_manyOf_4 (k4 : Int32 → Int32 → Int32 → Option (Int32)) (l0 : Int32) (l1 : Int32) (l2 : Int32) : Option (Int32) :=
  if (16 : Int32) ≤ l2 then (
    some l1
  ) else (
    if (fX10_has l0 l2) = (0 : Int32) then (
      nm (l1 + (0 : Int32)) fun v25 =>
      nm (l2 + (1 : Int32)) fun v26 =>
      k4 l0 v25 v26
    ) else (
      nm (l1 + (1 : Int32)) fun v25 =>
      nm (l2 + (1 : Int32)) fun v26 =>
      k4 l0 v25 v26
    )
  )
set_option maxHeartbeats 4000000 in
set_option maxRecDepth 100000 in
theorem kbX10_manyOf_4 {p : Program} {l : Launch} {e : Env} {s : State} {m : MethodId} {args : Array Value} {below : List Frame} {meth : Method} {c : Code} {G : GW} {r : Int32} (C : Cx p m c cX10_manyOf 3 s args RX10 G) (hlk : meth.locks = false) (hr : meth.sig.returnType = (some .int)) {z : AH} (k4 : Int32 → Int32 → Int32 → Option (Int32)) (hk4 : ∀ (l0 : Int32) (l1 : Int32) (l2 : Int32) (H : Heap) (locs : List Loc) (ls : Array Slot), k4 l0 l1 l2 = some r → Wb G z s H locs → lv_has ls 3 [(0, .int l0), (1, .int l1), (2, .int l2)] → W p l e rmX10_manyOf s m args below meth c H locs 0 0 (MQ below (Qi G r z) args s 0 0 (AA G)) (F0 m 4 ls [])) (l0 : Int32) (l1 : Int32) (l2 : Int32) {H : Heap} {locs : List Loc} {ls : Array Slot} (h : bX10_manyOf_4 k4 l0 l1 l2 = some r) (hW : Wb G z s H locs) (hl : lv_has ls 3 [(0, .int l0), (1, .int l1), (2, .int l2)]) : W p l e rmX10_manyOf s m args below meth c H locs 0 0 (MQ below (Qi G r z) args s 0 0 (AA G)) (F0 m 4 ls []) := by
  have hx := C.1
  have hb := C.2.1
  unfold bX10_manyOf_4 at h
  refine lv_iload_n hx hb dX10_manyOf_4 rfl (lv_at hl 2 rfl) ?_
  refine lv_bipush (v := 16) hx hb dX10_manyOf_5 (by decide) ?_
  refine lv_icmp_ge (tgt := 32) hx hb dX10_manyOf_7 (by decide) (fun c7 => ?_) (fun c7 => ?_)
  · have h := ite_t c7 h
    refine lv_iload_n hx hb dX10_manyOf_32 rfl (lv_at hl 1 rfl) ?_
    exact wz_iretE C hlk hr (Option.some.inj h) rfl hW dX10_manyOf_33
  · have h := ite_f c7 h
    refine lv_iload_n hx hb dX10_manyOf_10 rfl (lv_at hl 1 rfl) ?_
    refine lv_iload_n hx hb dX10_manyOf_11 rfl (lv_at hl 0 rfl) ?_
    refine lv_iload_n hx hb dX10_manyOf_12 rfl (lv_at hl 2 rfl) ?_
    refine wz_rI (c' := 0) (s' := 0) hW (wz_runS (rest := [.int l1]) C hW lTX10_85 (ctX10_has l G l0 l2 z rfl) ⟨⟨rfl, rfl⟩, Nat.le_of_ble_eq_true rfl, Nat.le_of_ble_eq_true rfl⟩ rfl hl.1 rfl (Nat.le_of_ble_eq_true rfl) dX10_manyOf_13 ⟨Nat.le_of_ble_eq_true rfl, Nat.le_of_ble_eq_true rfl⟩) rfl rfl (fun H locs hW => ?_)
    refine lv_if_eq (tgt := 23) hx hb dX10_manyOf_16 (by decide) (fun c16 => ?_) (fun c16 => ?_)
    · have h := ite_t c16 h
      refine lv_iconst (v := 0) hx hb dX10_manyOf_23 (by decide) ?_
      refine lv_iadd hx hb dX10_manyOf_24 ?_
      refine lv_topi (fun v25 ev25 => ?_)
      have h := nm_to h ev25
      refine lv_istore_n (lv' := [(1, .int v25), (0, .int l0), (2, .int l2)]) hx hb dX10_manyOf_25 rfl hl (by decide) rfl (fun ls hl => ?_)
      obtain ⟨v26, ev26⟩ : ∃ y : Int32, y = (l2 + (1 : Int32)) := ⟨_, rfl⟩
      have h := nm_to h ev26
      refine lv_iinc (v := v26) (lv' := [(2, .int v26), (1, .int v25), (0, .int l0)]) hx hb dX10_manyOf_26 hl (k := 2) rfl (by rw [ev26]; rfl) (by decide) rfl (fun ls hl => ?_)
      refine lv_goto (tgt := 4) hx hb dX10_manyOf_29 (by decide) ?_
      exact hk4 l0 v25 v26 _ _ _ h hW (lv_sub hl [2, 1, 0] rfl)
    · have h := ite_f c16 h
      refine lv_iconst (v := 1) hx hb dX10_manyOf_19 (by decide) ?_
      refine lv_goto (tgt := 24) hx hb dX10_manyOf_20 (by decide) ?_
      refine lv_iadd hx hb dX10_manyOf_24 ?_
      refine lv_topi (fun v25 ev25 => ?_)
      have h := nm_to h ev25
      refine lv_istore_n (lv' := [(1, .int v25), (0, .int l0), (2, .int l2)]) hx hb dX10_manyOf_25 rfl hl (by decide) rfl (fun ls hl => ?_)
      obtain ⟨v26, ev26⟩ : ∃ y : Int32, y = (l2 + (1 : Int32)) := ⟨_, rfl⟩
      have h := nm_to h ev26
      refine lv_iinc (v := v26) (lv' := [(2, .int v26), (1, .int v25), (0, .int l0)]) hx hb dX10_manyOf_26 hl (k := 2) rfl (by rw [ev26]; rfl) (by decide) rfl (fun ls hl => ?_)
      refine lv_goto (tgt := 4) hx hb dX10_manyOf_29 (by decide) ?_
      exact hk4 l0 v25 v26 _ _ _ h hW (lv_sub hl [2, 1, 0] rfl)
def fX10_manyOf_4 : Nat → Int32 → Int32 → Int32 → Option (Int32)
  | 0, _, _, _ => none
  | n + 1, l0, l1, l2 => bX10_manyOf_4 (fX10_manyOf_4 n) l0 l1 l2
theorem klX10_manyOf_4 {p : Program} {l : Launch} {e : Env} {s : State} {m : MethodId} {args : Array Value} {below : List Frame} {meth : Method} {c : Code} {G : GW} {r : Int32} (C : Cx p m c cX10_manyOf 3 s args RX10 G) (hlk : meth.locks = false) (hr : meth.sig.returnType = (some .int)) {z : AH} : ∀ (n : Nat) (l0 : Int32) (l1 : Int32) (l2 : Int32) (H : Heap) (locs : List Loc) (ls : Array Slot), fX10_manyOf_4 n l0 l1 l2 = some r → Wb G z s H locs → lv_has ls 3 [(0, .int l0), (1, .int l1), (2, .int l2)] → W p l e rmX10_manyOf s m args below meth c H locs 0 0 (MQ below (Qi G r z) args s 0 0 (AA G)) (F0 m 4 ls []) := by
  intro n
  induction n with
  | zero => intro l0 l1 l2 H locs ls h; have h : (none : Option (Int32)) = some r := h; cases h
  | succ n ih => intro l0 l1 l2 H locs ls h hW hl; exact kbX10_manyOf_4 C hlk hr (fX10_manyOf_4 n) (fun l0 l1 l2 H locs ls h hW hl => ih l0 l1 l2 H locs ls h hW hl) l0 l1 l2 h hW hl
def fX10_manyOf (l0 : Int32) : Option (Int32) :=
  fX10_manyOf_4 FU l0 (0 : Int32) (0 : Int32)
set_option maxHeartbeats 4000000 in
set_option maxRecDepth 100000 in
theorem ctX10_manyOf (l : Launch) (G : GW) (l0 : Int32) (z : AH) {r : Int32} (h : fX10_manyOf l0 = some r) : Met l yX10_manyOf (wy yX10_manyOf cX10_manyOf 3 (some .int)) rmX10_manyOf (Pz G [.int l0] z) (Qi G r z) 0 0 (AA G) := by
  refine wz_ent (own := RX10) (by decide +kernel) rfl (fun p e s m below meth c ls C hlk hr hin hW hl => ?_) (Nat.le_of_ble_eq_true rfl)
  have hl : lv_has ls 3 [(0, .int l0)] := hl
  have hx := C.1
  have hb := C.2.1
  unfold fX10_manyOf at h
  refine lv_iconst (v := 0) hx hb dX10_manyOf_0 (by decide) ?_
  refine lv_istore_n (lv' := [(1, .int (0 : Int32)), (0, .int l0)]) hx hb dX10_manyOf_1 rfl hl (by decide) rfl (fun ls hl => ?_)
  refine lv_iconst (v := 0) hx hb dX10_manyOf_2 (by decide) ?_
  refine lv_istore_n (lv' := [(2, .int (0 : Int32)), (1, .int (0 : Int32)), (0, .int l0)]) hx hb dX10_manyOf_3 rfl hl (by decide) rfl (fun ls hl => ?_)
  exact klX10_manyOf_4 C hlk hr FU l0 (0 : Int32) (0 : Int32) _ _ _ h hW (lv_sub hl [2, 1, 0] rfl)
theorem dX10_setAt_0 : decode cX10_setAt 0 = .ok (.iconst 0, 1) := by decide +kernel
theorem dX10_setAt_1 : decode cX10_setAt 1 = .ok (.istore_n 2, 1) := by decide +kernel
theorem dX10_setAt_2 : decode cX10_setAt 2 = .ok (.iconst 0, 1) := by decide +kernel
theorem dX10_setAt_3 : decode cX10_setAt 3 = .ok (.istore_n 3, 1) := by decide +kernel
theorem dX10_setAt_4 : decode cX10_setAt 4 = .ok (.iload_n 3, 1) := by decide +kernel
theorem dX10_setAt_5 : decode cX10_setAt 5 = .ok (.bipush 16, 2) := by decide +kernel
theorem dX10_setAt_7 : decode cX10_setAt 7 = .ok (.if_icmp .ge 30, 3) := by decide +kernel
theorem dX10_setAt_10 : decode cX10_setAt 10 = .ok (.aload_n 0, 1) := by decide +kernel
theorem dX10_setAt_11 : decode cX10_setAt 11 = .ok (.getfield 468, 3) := by decide +kernel
theorem dX10_setAt_14 : decode cX10_setAt 14 = .ok (.iload_n 3, 1) := by decide +kernel
theorem dX10_setAt_15 : decode cX10_setAt 15 = .ok (.invokestatic 85, 3) := by decide +kernel
theorem dX10_setAt_18 : decode cX10_setAt 18 = .ok (.ifCond .eq 13, 3) := by decide +kernel
theorem dX10_setAt_21 : decode cX10_setAt 21 = .ok (.iload_n 2, 1) := by decide +kernel
theorem dX10_setAt_22 : decode cX10_setAt 22 = .ok (.iload_n 1, 1) := by decide +kernel
theorem dX10_setAt_23 : decode cX10_setAt 23 = .ok (.if_icmp .ne 5, 3) := by decide +kernel
theorem dX10_setAt_26 : decode cX10_setAt 26 = .ok (.iload_n 3, 1) := by decide +kernel
theorem dX10_setAt_27 : decode cX10_setAt 27 = .ok (.ireturn, 1) := by decide +kernel
theorem dX10_setAt_28 : decode cX10_setAt 28 = .ok (.iinc 2 1, 3) := by decide +kernel
theorem dX10_setAt_31 : decode cX10_setAt 31 = .ok (.iinc 3 1, 3) := by decide +kernel
theorem dX10_setAt_34 : decode cX10_setAt 34 = .ok (.goto (-30), 3) := by decide +kernel
theorem dX10_setAt_37 : decode cX10_setAt 37 = .ok (.bipush (-2), 2) := by decide +kernel
theorem dX10_setAt_39 : decode cX10_setAt 39 = .ok (.ireturn, 1) := by decide +kernel
abbrev rmX10_setAt : Room := { frames := 1, cells := 0, slots := 0, locals := 21 }
def bX10_setAt_4 (k4 : Nat → Int32 → Int32 → Int32 → Option (Int32)) (a0 : Nat) (l1 : Int32) (l2 : Int32) (l3 : Int32) (z : AH) : Option (Int32) :=
  if (16 : Int32) ≤ l3 then (
    some (-2 : Int32)
  ) else (
    (gI 9 51 z a0).bind fun x11 =>
    if (fX10_has x11 l3) = (0 : Int32) then (
      nm (l3 + (1 : Int32)) fun v31 =>
      k4 a0 l1 l2 v31
    ) else (
      if l2 = l1 then (
        some l3
      ) else (
        nm (l2 + (1 : Int32)) fun v28 =>
        nm (l3 + (1 : Int32)) fun v31 =>
        k4 a0 l1 v28 v31
      )
    )
  )
set_option maxHeartbeats 4000000 in
set_option maxRecDepth 100000 in
theorem kbX10_setAt_4 {p : Program} {l : Launch} {e : Env} {s : State} {m : MethodId} {args : Array Value} {below : List Frame} {meth : Method} {c : Code} {G : GW} {r : Int32} (C : Cx p m c cX10_setAt 4 s args RX10 G) (hlk : meth.locks = false) (hr : meth.sig.returnType = (some .int)) {z : AH} (k4 : Nat → Int32 → Int32 → Int32 → Option (Int32)) (hk4 : ∀ (a0 : Nat) (l1 : Int32) (l2 : Int32) (l3 : Int32) (H : Heap) (locs : List Loc) (ls : Array Slot), k4 a0 l1 l2 l3 = some r → Wb G z s H locs → lv_has ls 4 [(0, .ref (gB G + a0)), (1, .int l1), (2, .int l2), (3, .int l3)] → W p l e rmX10_setAt s m args below meth c H locs 0 0 (MQ below (Qi G r z) args s 0 0 (AA G)) (F0 m 4 ls [])) (a0 : Nat) (l1 : Int32) (l2 : Int32) (l3 : Int32) {H : Heap} {locs : List Loc} {ls : Array Slot} (h : bX10_setAt_4 k4 a0 l1 l2 l3 z = some r) (hW : Wb G z s H locs) (hl : lv_has ls 4 [(0, .ref (gB G + a0)), (1, .int l1), (2, .int l2), (3, .int l3)]) : W p l e rmX10_setAt s m args below meth c H locs 0 0 (MQ below (Qi G r z) args s 0 0 (AA G)) (F0 m 4 ls []) := by
  have hx := C.1
  have hb := C.2.1
  unfold bX10_setAt_4 at h
  refine lv_iload_n hx hb dX10_setAt_4 rfl (lv_at hl 3 rfl) ?_
  refine lv_bipush (v := 16) hx hb dX10_setAt_5 (by decide) ?_
  refine lv_icmp_ge (tgt := 37) hx hb dX10_setAt_7 (by decide) (fun c7 => ?_) (fun c7 => ?_)
  · have h := ite_t c7 h
    refine lv_bipush (v := -2) hx hb dX10_setAt_37 (by decide) ?_
    exact wz_iretE C hlk hr (Option.some.inj h) rfl hW dX10_setAt_39
  · have h := ite_f c7 h
    refine lv_aload_n hx hb dX10_setAt_10 rfl (lv_at hl 0 rfl) ?_
    obtain ⟨x11, hg, h⟩ := ob h
    refine wz_gI C hW flX10_468 hg dX10_setAt_11 ?_
    refine lv_iload_n hx hb dX10_setAt_14 rfl (lv_at hl 3 rfl) ?_
    refine wz_rI (c' := 0) (s' := 0) hW (wz_runS (rest := []) C hW lTX10_85 (ctX10_has l G x11 l3 z rfl) ⟨⟨rfl, rfl⟩, Nat.le_of_ble_eq_true rfl, Nat.le_of_ble_eq_true rfl⟩ rfl hl.1 rfl (Nat.le_of_ble_eq_true rfl) dX10_setAt_15 ⟨Nat.le_of_ble_eq_true rfl, Nat.le_of_ble_eq_true rfl⟩) rfl rfl (fun H locs hW => ?_)
    refine lv_if_eq (tgt := 31) hx hb dX10_setAt_18 (by decide) (fun c18 => ?_) (fun c18 => ?_)
    · have h := ite_t c18 h
      obtain ⟨v31, ev31⟩ : ∃ y : Int32, y = (l3 + (1 : Int32)) := ⟨_, rfl⟩
      have h := nm_to h ev31
      refine lv_iinc (v := v31) (lv' := [(3, .int v31), (0, .ref (gB G + a0)), (1, .int l1), (2, .int l2)]) hx hb dX10_setAt_31 hl (k := 3) rfl (by rw [ev31]; rfl) (by decide) rfl (fun ls hl => ?_)
      refine lv_goto (tgt := 4) hx hb dX10_setAt_34 (by decide) ?_
      exact hk4 a0 l1 l2 v31 _ _ _ h hW (lv_sub hl [1, 2, 3, 0] rfl)
    · have h := ite_f c18 h
      refine lv_iload_n hx hb dX10_setAt_21 rfl (lv_at hl 2 rfl) ?_
      refine lv_iload_n hx hb dX10_setAt_22 rfl (lv_at hl 1 rfl) ?_
      refine lv_icmp_ne (tgt := 28) hx hb dX10_setAt_23 (by decide) (fun c23 => ?_) (fun c23 => ?_)
      · have h := ite_f c23 h
        obtain ⟨v28, ev28⟩ : ∃ y : Int32, y = (l2 + (1 : Int32)) := ⟨_, rfl⟩
        have h := nm_to h ev28
        refine lv_iinc (v := v28) (lv' := [(2, .int v28), (0, .ref (gB G + a0)), (1, .int l1), (3, .int l3)]) hx hb dX10_setAt_28 hl (k := 2) rfl (by rw [ev28]; rfl) (by decide) rfl (fun ls hl => ?_)
        obtain ⟨v31, ev31⟩ : ∃ y : Int32, y = (l3 + (1 : Int32)) := ⟨_, rfl⟩
        have h := nm_to h ev31
        refine lv_iinc (v := v31) (lv' := [(3, .int v31), (2, .int v28), (0, .ref (gB G + a0)), (1, .int l1)]) hx hb dX10_setAt_31 hl (k := 3) rfl (by rw [ev31]; rfl) (by decide) rfl (fun ls hl => ?_)
        refine lv_goto (tgt := 4) hx hb dX10_setAt_34 (by decide) ?_
        exact hk4 a0 l1 v28 v31 _ _ _ h hW (lv_sub hl [2, 3, 1, 0] rfl)
      · have h := ite_t c23 h
        refine lv_iload_n hx hb dX10_setAt_26 rfl (lv_at hl 3 rfl) ?_
        exact wz_iretE C hlk hr (Option.some.inj h) rfl hW dX10_setAt_27
def fX10_setAt_4 (z : AH) : Nat → Nat → Int32 → Int32 → Int32 → Option (Int32)
  | 0, _, _, _, _ => none
  | n + 1, a0, l1, l2, l3 => bX10_setAt_4 (fX10_setAt_4 z n) a0 l1 l2 l3 z
theorem klX10_setAt_4 {p : Program} {l : Launch} {e : Env} {s : State} {m : MethodId} {args : Array Value} {below : List Frame} {meth : Method} {c : Code} {G : GW} {r : Int32} (C : Cx p m c cX10_setAt 4 s args RX10 G) (hlk : meth.locks = false) (hr : meth.sig.returnType = (some .int)) {z : AH} : ∀ (n : Nat) (a0 : Nat) (l1 : Int32) (l2 : Int32) (l3 : Int32) (H : Heap) (locs : List Loc) (ls : Array Slot), fX10_setAt_4 z n a0 l1 l2 l3 = some r → Wb G z s H locs → lv_has ls 4 [(0, .ref (gB G + a0)), (1, .int l1), (2, .int l2), (3, .int l3)] → W p l e rmX10_setAt s m args below meth c H locs 0 0 (MQ below (Qi G r z) args s 0 0 (AA G)) (F0 m 4 ls []) := by
  intro n
  induction n with
  | zero => intro a0 l1 l2 l3 H locs ls h; have h : (none : Option (Int32)) = some r := h; cases h
  | succ n ih => intro a0 l1 l2 l3 H locs ls h hW hl; exact kbX10_setAt_4 C hlk hr (fX10_setAt_4 z n) (fun a0 l1 l2 l3 H locs ls h hW hl => ih a0 l1 l2 l3 H locs ls h hW hl) a0 l1 l2 l3 h hW hl
def fX10_setAt (a0 : Nat) (l1 : Int32) (z : AH) : Option (Int32) :=
  if isO 9 z a0 = true then
    fX10_setAt_4 z FU a0 l1 (0 : Int32) (0 : Int32)
  else none
set_option maxHeartbeats 4000000 in
set_option maxRecDepth 100000 in
theorem ctX10_setAt (l : Launch) (G : GW) (a0 : Nat) (l1 : Int32) (z : AH) {r : Int32} (h : fX10_setAt a0 l1 z = some r) : Met l yX10_setAt (wy yX10_setAt cX10_setAt 4 (some .int)) rmX10_setAt (Pz G [.ref (gB G + a0), .int l1] z) (Qi G r z) 0 0 (AA G) := by
  refine wz_ent (own := RX10) (by decide +kernel) rfl (fun p e s m below meth c ls C hlk hr hin hW hl => ?_) (Nat.le_of_ble_eq_true rfl)
  have hl : lv_has ls 4 [(0, .ref (gB G + a0)), (1, .int l1)] := hl
  have hx := C.1
  have hb := C.2.1
  unfold fX10_setAt at h
  obtain ⟨-, h⟩ := ck h
  refine lv_iconst (v := 0) hx hb dX10_setAt_0 (by decide) ?_
  refine lv_istore_n (lv' := [(2, .int (0 : Int32)), (0, .ref (gB G + a0)), (1, .int l1)]) hx hb dX10_setAt_1 rfl hl (by decide) rfl (fun ls hl => ?_)
  refine lv_iconst (v := 0) hx hb dX10_setAt_2 (by decide) ?_
  refine lv_istore_n (lv' := [(3, .int (0 : Int32)), (2, .int (0 : Int32)), (0, .ref (gB G + a0)), (1, .int l1)]) hx hb dX10_setAt_3 rfl hl (by decide) rfl (fun ls hl => ?_)
  exact klX10_setAt_4 C hlk hr FU a0 l1 (0 : Int32) (0 : Int32) _ _ _ h hW (lv_sub hl [2, 3, 1, 0] rfl)
theorem dX10_ofSets_0 : decode cX10_ofSets 0 = .ok (.bipush 15, 2) := by decide +kernel
theorem dX10_ofSets_2 : decode cX10_ofSets 2 = .ok (.istore_n 2, 1) := by decide +kernel
theorem dX10_ofSets_3 : decode cX10_ofSets 3 = .ok (.ldc_w 397, 3) := by decide +kernel
theorem dX10_ofSets_6 : decode cX10_ofSets 6 = .ok (.istore_n 3, 1) := by decide +kernel
theorem dX10_ofSets_7 : decode cX10_ofSets 7 = .ok (.iconst 0, 1) := by decide +kernel
theorem dX10_ofSets_8 : decode cX10_ofSets 8 = .ok (.istore 4, 2) := by decide +kernel
theorem dX10_ofSets_10 : decode cX10_ofSets 10 = .ok (.iload 4, 2) := by decide +kernel
theorem dX10_ofSets_12 : decode cX10_ofSets 12 = .ok (.bipush 16, 2) := by decide +kernel
theorem dX10_ofSets_14 : decode cX10_ofSets 14 = .ok (.if_icmp .ge 57, 3) := by decide +kernel
theorem dX10_ofSets_17 : decode cX10_ofSets 17 = .ok (.iload_n 2, 1) := by decide +kernel
theorem dX10_ofSets_18 : decode cX10_ofSets 18 = .ok (.aload_n 0, 1) := by decide +kernel
theorem dX10_ofSets_19 : decode cX10_ofSets 19 = .ok (.getfield 468, 3) := by decide +kernel
theorem dX10_ofSets_22 : decode cX10_ofSets 22 = .ok (.iload 4, 2) := by decide +kernel
theorem dX10_ofSets_24 : decode cX10_ofSets 24 = .ok (.invokestatic 85, 3) := by decide +kernel
theorem dX10_ofSets_27 : decode cX10_ofSets 27 = .ok (.ifCond .eq 8, 3) := by decide +kernel
theorem dX10_ofSets_30 : decode cX10_ofSets 30 = .ok (.iload 4, 2) := by decide +kernel
theorem dX10_ofSets_32 : decode cX10_ofSets 32 = .ok (.goto 5, 3) := by decide +kernel
theorem dX10_ofSets_35 : decode cX10_ofSets 35 = .ok (.bipush 15, 2) := by decide +kernel
theorem dX10_ofSets_37 : decode cX10_ofSets 37 = .ok (.iand, 1) := by decide +kernel
theorem dX10_ofSets_38 : decode cX10_ofSets 38 = .ok (.istore_n 2, 1) := by decide +kernel
theorem dX10_ofSets_39 : decode cX10_ofSets 39 = .ok (.aload_n 0, 1) := by decide +kernel
theorem dX10_ofSets_40 : decode cX10_ofSets 40 = .ok (.getfield 468, 3) := by decide +kernel
theorem dX10_ofSets_43 : decode cX10_ofSets 43 = .ok (.iload 4, 2) := by decide +kernel
theorem dX10_ofSets_45 : decode cX10_ofSets 45 = .ok (.invokestatic 85, 3) := by decide +kernel
theorem dX10_ofSets_48 : decode cX10_ofSets 48 = .ok (.ifCond .eq 15, 3) := by decide +kernel
theorem dX10_ofSets_51 : decode cX10_ofSets 51 = .ok (.iload_n 3, 1) := by decide +kernel
theorem dX10_ofSets_52 : decode cX10_ofSets 52 = .ok (.iload 4, 2) := by decide +kernel
theorem dX10_ofSets_54 : decode cX10_ofSets 54 = .ok (.invokestatic 385, 3) := by decide +kernel
theorem dX10_ofSets_57 : decode cX10_ofSets 57 = .ok (.invokestatic 324, 3) := by decide +kernel
theorem dX10_ofSets_60 : decode cX10_ofSets 60 = .ok (.goto 4, 3) := by decide +kernel
theorem dX10_ofSets_63 : decode cX10_ofSets 63 = .ok (.iload_n 3, 1) := by decide +kernel
theorem dX10_ofSets_64 : decode cX10_ofSets 64 = .ok (.istore_n 3, 1) := by decide +kernel
theorem dX10_ofSets_65 : decode cX10_ofSets 65 = .ok (.iinc 4 1, 3) := by decide +kernel
theorem dX10_ofSets_68 : decode cX10_ofSets 68 = .ok (.goto (-58), 3) := by decide +kernel
theorem dX10_ofSets_71 : decode cX10_ofSets 71 = .ok (.aload_n 0, 1) := by decide +kernel
theorem dX10_ofSets_72 : decode cX10_ofSets 72 = .ok (.getfield 468, 3) := by decide +kernel
theorem dX10_ofSets_75 : decode cX10_ofSets 75 = .ok (.ifCond .ne 7, 3) := by decide +kernel
theorem dX10_ofSets_78 : decode cX10_ofSets 78 = .ok (.iconst (-1), 1) := by decide +kernel
theorem dX10_ofSets_79 : decode cX10_ofSets 79 = .ok (.goto 12, 3) := by decide +kernel
theorem dX10_ofSets_82 : decode cX10_ofSets 82 = .ok (.iload_n 1, 1) := by decide +kernel
theorem dX10_ofSets_83 : decode cX10_ofSets 83 = .ok (.ifCond .eq 7, 3) := by decide +kernel
theorem dX10_ofSets_86 : decode cX10_ofSets 86 = .ok (.iload_n 2, 1) := by decide +kernel
theorem dX10_ofSets_87 : decode cX10_ofSets 87 = .ok (.goto 4, 3) := by decide +kernel
theorem dX10_ofSets_90 : decode cX10_ofSets 90 = .ok (.iload_n 3, 1) := by decide +kernel
theorem dX10_ofSets_91 : decode cX10_ofSets 91 = .ok (.ireturn, 1) := by decide +kernel
abbrev rmX10_ofSets : Room := { frames := 2, cells := 0, slots := 0, locals := 43 }
def bX10_ofSets_37 (k10 : Nat → Int32 → Int32 → Int32 → Int32 → Option (Int32)) (a0 : Nat) (l1 : Int32) (l3 : Int32) (l4 : Int32) (s0 : Int32) (s1 : Int32) (z : AH) : Option (Int32) :=
  nm (s0 &&& s1) fun v38 =>
  (gI 9 51 z a0).bind fun x40 =>
  if (fX10_has x40 l4) = (0 : Int32) then (
    nm (l4 + (1 : Int32)) fun v65 =>
    k10 a0 l1 v38 l3 v65
  ) else (
    (fX10_ones l4).bind fun x54 =>
    nm (fX10_lesser l3 x54) fun v64 =>
    nm (l4 + (1 : Int32)) fun v65 =>
    k10 a0 l1 v38 v64 v65
  )
set_option maxHeartbeats 4000000 in
set_option maxRecDepth 100000 in
theorem kbX10_ofSets_37 {p : Program} {l : Launch} {e : Env} {s : State} {m : MethodId} {args : Array Value} {below : List Frame} {meth : Method} {c : Code} {G : GW} {r : Int32} (C : Cx p m c cX10_ofSets 5 s args RX10 G) (hlk : meth.locks = false) (hr : meth.sig.returnType = (some .int)) {z : AH} (k10 : Nat → Int32 → Int32 → Int32 → Int32 → Option (Int32)) (hk10 : ∀ (a0 : Nat) (l1 : Int32) (l2 : Int32) (l3 : Int32) (l4 : Int32) (H : Heap) (locs : List Loc) (ls : Array Slot), k10 a0 l1 l2 l3 l4 = some r → Wb G z s H locs → lv_has ls 5 [(0, .ref (gB G + a0)), (1, .int l1), (2, .int l2), (3, .int l3), (4, .int l4)] → W p l e rmX10_ofSets s m args below meth c H locs 0 0 (MQ below (Qi G r z) args s 0 0 (AA G)) (F0 m 10 ls [])) (a0 : Nat) (l1 : Int32) (l3 : Int32) (l4 : Int32) (s0 : Int32) (s1 : Int32) {H : Heap} {locs : List Loc} {ls : Array Slot} (h : bX10_ofSets_37 k10 a0 l1 l3 l4 s0 s1 z = some r) (hW : Wb G z s H locs) (hl : lv_has ls 5 [(0, .ref (gB G + a0)), (1, .int l1), (3, .int l3), (4, .int l4)]) : W p l e rmX10_ofSets s m args below meth c H locs 0 0 (MQ below (Qi G r z) args s 0 0 (AA G)) (F0 m 37 ls [.int s1, .int s0]) := by
  have hx := C.1
  have hb := C.2.1
  unfold bX10_ofSets_37 at h
  refine lv_iand hx hb dX10_ofSets_37 ?_
  refine lv_topi (fun v38 ev38 => ?_)
  have h := nm_to h ev38
  refine lv_istore_n (lv' := [(2, .int v38), (0, .ref (gB G + a0)), (1, .int l1), (3, .int l3), (4, .int l4)]) hx hb dX10_ofSets_38 rfl hl (by decide) rfl (fun ls hl => ?_)
  refine lv_aload_n hx hb dX10_ofSets_39 rfl (lv_at hl 1 rfl) ?_
  obtain ⟨x40, hg, h⟩ := ob h
  refine wz_gI C hW flX10_468 hg dX10_ofSets_40 ?_
  refine lv_iload hx hb dX10_ofSets_43 (lv_at hl 4 rfl) ?_
  refine wz_rI (c' := 0) (s' := 0) hW (wz_runS (rest := []) C hW lTX10_85 (ctX10_has l G x40 l4 z rfl) ⟨⟨rfl, rfl⟩, Nat.le_of_ble_eq_true rfl, Nat.le_of_ble_eq_true rfl⟩ rfl hl.1 rfl (Nat.le_of_ble_eq_true rfl) dX10_ofSets_45 ⟨Nat.le_of_ble_eq_true rfl, Nat.le_of_ble_eq_true rfl⟩) rfl rfl (fun H locs hW => ?_)
  refine lv_if_eq (tgt := 63) hx hb dX10_ofSets_48 (by decide) (fun c48 => ?_) (fun c48 => ?_)
  · have h := ite_t c48 h
    refine lv_iload_n hx hb dX10_ofSets_63 rfl (lv_at hl 3 rfl) ?_
    refine lv_istore_n (lv' := [(3, .int l3), (2, .int v38), (0, .ref (gB G + a0)), (1, .int l1), (4, .int l4)]) hx hb dX10_ofSets_64 rfl hl (by decide) rfl (fun ls hl => ?_)
    obtain ⟨v65, ev65⟩ : ∃ y : Int32, y = (l4 + (1 : Int32)) := ⟨_, rfl⟩
    have h := nm_to h ev65
    refine lv_iinc (v := v65) (lv' := [(4, .int v65), (3, .int l3), (2, .int v38), (0, .ref (gB G + a0)), (1, .int l1)]) hx hb dX10_ofSets_65 hl (k := 4) rfl (by rw [ev65]; rfl) (by decide) rfl (fun ls hl => ?_)
    refine lv_goto (tgt := 10) hx hb dX10_ofSets_68 (by decide) ?_
    exact hk10 a0 l1 v38 l3 v65 _ _ _ h hW (lv_sub hl [3, 4, 2, 1, 0] rfl)
  · have h := ite_f c48 h
    refine lv_iload_n hx hb dX10_ofSets_51 rfl (lv_at hl 3 rfl) ?_
    refine lv_iload hx hb dX10_ofSets_52 (lv_at hl 4 rfl) ?_
    obtain ⟨x54, hq, h⟩ := ob h
    refine wz_rI (c' := 0) (s' := 0) hW (wz_runS (rest := [.int l3]) C hW lTX10_385 (ctX10_ones l G l4 z hq) ⟨⟨rfl, rfl⟩, Nat.le_of_ble_eq_true rfl, Nat.le_of_ble_eq_true rfl⟩ rfl hl.1 rfl (Nat.le_of_ble_eq_true rfl) dX10_ofSets_54 ⟨Nat.le_of_ble_eq_true rfl, Nat.le_of_ble_eq_true rfl⟩) rfl rfl (fun H locs hW => ?_)
    refine wz_rI (c' := 0) (s' := 0) hW (wz_runS (rest := []) C hW lTX10_324 (ctX10_lesser l G l3 x54 z rfl) ⟨⟨rfl, rfl⟩, Nat.le_of_ble_eq_true rfl, Nat.le_of_ble_eq_true rfl⟩ rfl hl.1 rfl (Nat.le_of_ble_eq_true rfl) dX10_ofSets_57 ⟨Nat.le_of_ble_eq_true rfl, Nat.le_of_ble_eq_true rfl⟩) rfl rfl (fun H locs hW => ?_)
    refine lv_goto (tgt := 64) hx hb dX10_ofSets_60 (by decide) ?_
    refine lv_topi (fun v64 ev64 => ?_)
    have h := nm_to h ev64
    refine lv_istore_n (lv' := [(3, .int v64), (2, .int v38), (0, .ref (gB G + a0)), (1, .int l1), (4, .int l4)]) hx hb dX10_ofSets_64 rfl hl (by decide) rfl (fun ls hl => ?_)
    obtain ⟨v65, ev65⟩ : ∃ y : Int32, y = (l4 + (1 : Int32)) := ⟨_, rfl⟩
    have h := nm_to h ev65
    refine lv_iinc (v := v65) (lv' := [(4, .int v65), (3, .int v64), (2, .int v38), (0, .ref (gB G + a0)), (1, .int l1)]) hx hb dX10_ofSets_65 hl (k := 4) rfl (by rw [ev65]; rfl) (by decide) rfl (fun ls hl => ?_)
    refine lv_goto (tgt := 10) hx hb dX10_ofSets_68 (by decide) ?_
    exact hk10 a0 l1 v38 v64 v65 _ _ _ h hW (lv_sub hl [3, 4, 2, 1, 0] rfl)
def bX10_ofSets_10 (k10 : Nat → Int32 → Int32 → Int32 → Int32 → Option (Int32)) (a0 : Nat) (l1 : Int32) (l2 : Int32) (l3 : Int32) (l4 : Int32) (z : AH) : Option (Int32) :=
  if (16 : Int32) ≤ l4 then (
    (gI 9 51 z a0).bind fun x72 =>
    if x72 = (0 : Int32) then (
      some (-1 : Int32)
    ) else (
      if l1 = (0 : Int32) then (
        some l3
      ) else (
        some l2
      )
    )
  ) else (
    (gI 9 51 z a0).bind fun x19 =>
    if (fX10_has x19 l4) = (0 : Int32) then (
      bX10_ofSets_37 k10 a0 l1 l3 l4 l2 (15 : Int32) z
    ) else (
      bX10_ofSets_37 k10 a0 l1 l3 l4 l2 l4 z
    )
  )
set_option maxHeartbeats 4000000 in
set_option maxRecDepth 100000 in
theorem kbX10_ofSets_10 {p : Program} {l : Launch} {e : Env} {s : State} {m : MethodId} {args : Array Value} {below : List Frame} {meth : Method} {c : Code} {G : GW} {r : Int32} (C : Cx p m c cX10_ofSets 5 s args RX10 G) (hlk : meth.locks = false) (hr : meth.sig.returnType = (some .int)) {z : AH} (k10 : Nat → Int32 → Int32 → Int32 → Int32 → Option (Int32)) (hk10 : ∀ (a0 : Nat) (l1 : Int32) (l2 : Int32) (l3 : Int32) (l4 : Int32) (H : Heap) (locs : List Loc) (ls : Array Slot), k10 a0 l1 l2 l3 l4 = some r → Wb G z s H locs → lv_has ls 5 [(0, .ref (gB G + a0)), (1, .int l1), (2, .int l2), (3, .int l3), (4, .int l4)] → W p l e rmX10_ofSets s m args below meth c H locs 0 0 (MQ below (Qi G r z) args s 0 0 (AA G)) (F0 m 10 ls [])) (a0 : Nat) (l1 : Int32) (l2 : Int32) (l3 : Int32) (l4 : Int32) {H : Heap} {locs : List Loc} {ls : Array Slot} (h : bX10_ofSets_10 k10 a0 l1 l2 l3 l4 z = some r) (hW : Wb G z s H locs) (hl : lv_has ls 5 [(0, .ref (gB G + a0)), (1, .int l1), (2, .int l2), (3, .int l3), (4, .int l4)]) : W p l e rmX10_ofSets s m args below meth c H locs 0 0 (MQ below (Qi G r z) args s 0 0 (AA G)) (F0 m 10 ls []) := by
  have hx := C.1
  have hb := C.2.1
  unfold bX10_ofSets_10 at h
  refine lv_iload hx hb dX10_ofSets_10 (lv_at hl 4 rfl) ?_
  refine lv_bipush (v := 16) hx hb dX10_ofSets_12 (by decide) ?_
  refine lv_icmp_ge (tgt := 71) hx hb dX10_ofSets_14 (by decide) (fun c14 => ?_) (fun c14 => ?_)
  · have h := ite_t c14 h
    refine lv_aload_n hx hb dX10_ofSets_71 rfl (lv_at hl 0 rfl) ?_
    obtain ⟨x72, hg, h⟩ := ob h
    refine wz_gI C hW flX10_468 hg dX10_ofSets_72 ?_
    refine lv_if_ne (tgt := 82) hx hb dX10_ofSets_75 (by decide) (fun c75 => ?_) (fun c75 => ?_)
    · have h := ite_f c75 h
      refine lv_iload_n hx hb dX10_ofSets_82 rfl (lv_at hl 1 rfl) ?_
      refine lv_if_eq (tgt := 90) hx hb dX10_ofSets_83 (by decide) (fun c83 => ?_) (fun c83 => ?_)
      · have h := ite_t c83 h
        refine lv_iload_n hx hb dX10_ofSets_90 rfl (lv_at hl 3 rfl) ?_
        exact wz_iretE C hlk hr (Option.some.inj h) rfl hW dX10_ofSets_91
      · have h := ite_f c83 h
        refine lv_iload_n hx hb dX10_ofSets_86 rfl (lv_at hl 2 rfl) ?_
        refine lv_goto (tgt := 91) hx hb dX10_ofSets_87 (by decide) ?_
        exact wz_iretE C hlk hr (Option.some.inj h) rfl hW dX10_ofSets_91
    · have h := ite_t c75 h
      refine lv_iconst (v := -1) hx hb dX10_ofSets_78 (by decide) ?_
      refine lv_goto (tgt := 91) hx hb dX10_ofSets_79 (by decide) ?_
      exact wz_iretE C hlk hr (Option.some.inj h) rfl hW dX10_ofSets_91
  · have h := ite_f c14 h
    refine lv_iload_n hx hb dX10_ofSets_17 rfl (lv_at hl 2 rfl) ?_
    refine lv_aload_n hx hb dX10_ofSets_18 rfl (lv_at hl 0 rfl) ?_
    obtain ⟨x19, hg, h⟩ := ob h
    refine wz_gI C hW flX10_468 hg dX10_ofSets_19 ?_
    refine lv_iload hx hb dX10_ofSets_22 (lv_at hl 4 rfl) ?_
    refine wz_rI (c' := 0) (s' := 0) hW (wz_runS (rest := [.int l2]) C hW lTX10_85 (ctX10_has l G x19 l4 z rfl) ⟨⟨rfl, rfl⟩, Nat.le_of_ble_eq_true rfl, Nat.le_of_ble_eq_true rfl⟩ rfl hl.1 rfl (Nat.le_of_ble_eq_true rfl) dX10_ofSets_24 ⟨Nat.le_of_ble_eq_true rfl, Nat.le_of_ble_eq_true rfl⟩) rfl rfl (fun H locs hW => ?_)
    refine lv_if_eq (tgt := 35) hx hb dX10_ofSets_27 (by decide) (fun c27 => ?_) (fun c27 => ?_)
    · have h := ite_t c27 h
      refine lv_bipush (v := 15) hx hb dX10_ofSets_35 (by decide) ?_
      exact kbX10_ofSets_37 C hlk hr k10 hk10 a0 l1 l3 l4 l2 (15 : Int32) h hW (lv_sub hl [0, 1, 3, 4] rfl)
    · have h := ite_f c27 h
      refine lv_iload hx hb dX10_ofSets_30 (lv_at hl 4 rfl) ?_
      refine lv_goto (tgt := 37) hx hb dX10_ofSets_32 (by decide) ?_
      exact kbX10_ofSets_37 C hlk hr k10 hk10 a0 l1 l3 l4 l2 l4 h hW (lv_sub hl [0, 1, 3, 4] rfl)
def fX10_ofSets_10 (z : AH) : Nat → Nat → Int32 → Int32 → Int32 → Int32 → Option (Int32)
  | 0, _, _, _, _, _ => none
  | n + 1, a0, l1, l2, l3, l4 => bX10_ofSets_10 (fX10_ofSets_10 z n) a0 l1 l2 l3 l4 z
theorem klX10_ofSets_10 {p : Program} {l : Launch} {e : Env} {s : State} {m : MethodId} {args : Array Value} {below : List Frame} {meth : Method} {c : Code} {G : GW} {r : Int32} (C : Cx p m c cX10_ofSets 5 s args RX10 G) (hlk : meth.locks = false) (hr : meth.sig.returnType = (some .int)) {z : AH} : ∀ (n : Nat) (a0 : Nat) (l1 : Int32) (l2 : Int32) (l3 : Int32) (l4 : Int32) (H : Heap) (locs : List Loc) (ls : Array Slot), fX10_ofSets_10 z n a0 l1 l2 l3 l4 = some r → Wb G z s H locs → lv_has ls 5 [(0, .ref (gB G + a0)), (1, .int l1), (2, .int l2), (3, .int l3), (4, .int l4)] → W p l e rmX10_ofSets s m args below meth c H locs 0 0 (MQ below (Qi G r z) args s 0 0 (AA G)) (F0 m 10 ls []) := by
  intro n
  induction n with
  | zero => intro a0 l1 l2 l3 l4 H locs ls h; have h : (none : Option (Int32)) = some r := h; cases h
  | succ n ih => intro a0 l1 l2 l3 l4 H locs ls h hW hl; exact kbX10_ofSets_10 C hlk hr (fX10_ofSets_10 z n) (fun a0 l1 l2 l3 l4 H locs ls h hW hl => ih a0 l1 l2 l3 l4 H locs ls h hW hl) a0 l1 l2 l3 l4 h hW hl
def fX10_ofSets (a0 : Nat) (l1 : Int32) (z : AH) : Option (Int32) :=
  if isO 9 z a0 = true then
    fX10_ofSets_10 z FU a0 l1 (15 : Int32) (1000000 : Int32) (0 : Int32)
  else none
set_option maxHeartbeats 4000000 in
set_option maxRecDepth 100000 in
theorem ctX10_ofSets (l : Launch) (G : GW) (a0 : Nat) (l1 : Int32) (z : AH) {r : Int32} (h : fX10_ofSets a0 l1 z = some r) : Met l yX10_ofSets (wy yX10_ofSets cX10_ofSets 5 (some .int)) rmX10_ofSets (Pz G [.ref (gB G + a0), .int l1] z) (Qi G r z) 0 0 (AA G) := by
  refine wz_ent (own := RX10) (by decide +kernel) rfl (fun p e s m below meth c ls C hlk hr hin hW hl => ?_) (Nat.le_of_ble_eq_true rfl)
  have hl : lv_has ls 5 [(0, .ref (gB G + a0)), (1, .int l1)] := hl
  have hx := C.1
  have hb := C.2.1
  unfold fX10_ofSets at h
  obtain ⟨-, h⟩ := ck h
  refine lv_bipush (v := 15) hx hb dX10_ofSets_0 (by decide) ?_
  refine lv_istore_n (lv' := [(2, .int (15 : Int32)), (0, .ref (gB G + a0)), (1, .int l1)]) hx hb dX10_ofSets_2 rfl hl (by decide) rfl (fun ls hl => ?_)
  refine lv_ldcw (v := 1000000) hx hb C.2.2.2.1 (C.2.2.2.2.1 _ (tw 1653 (by decide +kernel) rfl)) dX10_ofSets_3 ?_
  refine lv_istore_n (lv' := [(3, .int (1000000 : Int32)), (2, .int (15 : Int32)), (0, .ref (gB G + a0)), (1, .int l1)]) hx hb dX10_ofSets_6 rfl hl (by decide) rfl (fun ls hl => ?_)
  refine lv_iconst (v := 0) hx hb dX10_ofSets_7 (by decide) ?_
  refine lv_istore (lv' := [(4, .int (0 : Int32)), (3, .int (1000000 : Int32)), (2, .int (15 : Int32)), (0, .ref (gB G + a0)), (1, .int l1)]) hx hb dX10_ofSets_8 hl (by decide) rfl (fun ls hl => ?_)
  exact klX10_ofSets_10 C hlk hr FU a0 l1 (15 : Int32) (1000000 : Int32) (0 : Int32) _ _ _ h hW (lv_sub hl [3, 4, 2, 1, 0] rfl)
theorem dX10_words_0 : decode cX10_words 0 = .ok (.aload_n 0, 1) := by decide +kernel
theorem dX10_words_1 : decode cX10_words 1 = .ok (.iconst 0, 1) := by decide +kernel
theorem dX10_words_2 : decode cX10_words 2 = .ok (.putfield 81, 3) := by decide +kernel
theorem dX10_words_5 : decode cX10_words 5 = .ok (.aload_n 0, 1) := by decide +kernel
theorem dX10_words_6 : decode cX10_words 6 = .ok (.iload_n 1, 1) := by decide +kernel
theorem dX10_words_7 : decode cX10_words 7 = .ok (.invokevirtual 459, 3) := by decide +kernel
theorem dX10_words_10 : decode cX10_words 10 = .ok (.ifCond .ne 6, 3) := by decide +kernel
theorem dX10_words_13 : decode cX10_words 13 = .ok (.bipush (-2), 2) := by decide +kernel
theorem dX10_words_15 : decode cX10_words 15 = .ok (.ireturn, 1) := by decide +kernel
theorem dX10_words_16 : decode cX10_words 16 = .ok (.aload_n 0, 1) := by decide +kernel
theorem dX10_words_17 : decode cX10_words 17 = .ok (.invokevirtual 474, 3) := by decide +kernel
theorem dX10_words_20 : decode cX10_words 20 = .ok (.iload_n 2, 1) := by decide +kernel
theorem dX10_words_21 : decode cX10_words 21 = .ok (.bipush 10, 2) := by decide +kernel
theorem dX10_words_23 : decode cX10_words 23 = .ok (.if_icmp .lt 12, 3) := by decide +kernel
theorem dX10_words_26 : decode cX10_words 26 = .ok (.aload_n 0, 1) := by decide +kernel
theorem dX10_words_27 : decode cX10_words 27 = .ok (.iload_n 2, 1) := by decide +kernel
theorem dX10_words_28 : decode cX10_words 28 = .ok (.bipush 10, 2) := by decide +kernel
theorem dX10_words_30 : decode cX10_words 30 = .ok (.isub, 1) := by decide +kernel
theorem dX10_words_31 : decode cX10_words 31 = .ok (.invokevirtual 477, 3) := by decide +kernel
theorem dX10_words_34 : decode cX10_words 34 = .ok (.ireturn, 1) := by decide +kernel
theorem dX10_words_35 : decode cX10_words 35 = .ok (.iload_n 2, 1) := by decide +kernel
theorem dX10_words_36 : decode cX10_words 36 = .ok (.tableswitch 51 0 2 #[28, 36, 36], 28) := by decide +kernel
theorem dX10_words_64 : decode cX10_words 64 = .ok (.aload_n 0, 1) := by decide +kernel
theorem dX10_words_65 : decode cX10_words 65 = .ok (.getfield 468, 3) := by decide +kernel
theorem dX10_words_68 : decode cX10_words 68 = .ok (.invokestatic 480, 3) := by decide +kernel
theorem dX10_words_71 : decode cX10_words 71 = .ok (.ireturn, 1) := by decide +kernel
theorem dX10_words_72 : decode cX10_words 72 = .ok (.aload_n 0, 1) := by decide +kernel
theorem dX10_words_73 : decode cX10_words 73 = .ok (.iload_n 2, 1) := by decide +kernel
theorem dX10_words_74 : decode cX10_words 74 = .ok (.iconst 1, 1) := by decide +kernel
theorem dX10_words_75 : decode cX10_words 75 = .ok (.if_icmp .ne 7, 3) := by decide +kernel
theorem dX10_words_78 : decode cX10_words 78 = .ok (.iconst 1, 1) := by decide +kernel
theorem dX10_words_79 : decode cX10_words 79 = .ok (.goto 4, 3) := by decide +kernel
theorem dX10_words_82 : decode cX10_words 82 = .ok (.iconst 0, 1) := by decide +kernel
theorem dX10_words_83 : decode cX10_words 83 = .ok (.invokevirtual 483, 3) := by decide +kernel
theorem dX10_words_86 : decode cX10_words 86 = .ok (.ireturn, 1) := by decide +kernel
theorem dX10_words_87 : decode cX10_words 87 = .ok (.bipush (-2), 2) := by decide +kernel
theorem dX10_words_89 : decode cX10_words 89 = .ok (.ireturn, 1) := by decide +kernel
theorem cdX10_ofSets : Cond.code yX10_ofSets cX10_ofSets 5 (some .int) ∈ tz := tc7 224 rfl rfl
theorem lVX10_483 : LV RX10 483 yX10_ofSets cX10_ofSets 5 (some .int) 1 := ⟨tw 1780 (by decide +kernel) rfl, tw 1782 (by decide +kernel) rfl, tw 110 (by decide +kernel) rfl, tw 128 (by decide +kernel) rfl, cdX10_ofSets, ⟨by decide +kernel, by decide +kernel, by decide +kernel⟩⟩
theorem cdX10_findSets : Cond.code yX10_findSets cX10_findSets 5 none ∈ tz := tc7 209 rfl rfl
theorem lVX10_474 : LV RX10 474 yX10_findSets cX10_findSets 5 none 0 := ⟨tw 1765 (by decide +kernel) rfl, tw 1767 (by decide +kernel) rfl, tw 107 (by decide +kernel) rfl, tw 128 (by decide +kernel) rfl, cdX10_findSets, ⟨by decide +kernel, by decide +kernel, by decide +kernel⟩⟩
theorem cdX10_manyOf : Cond.code yX10_manyOf cX10_manyOf 3 (some .int) ∈ tz := tc7 220 rfl rfl
theorem lTX10_480 : LT RX10 480 yX10_manyOf cX10_manyOf 3 (some .int) 1 := ⟨tw 1777 (by decide +kernel) rfl, tw 1778 (by decide +kernel) rfl, tw 128 (by decide +kernel) rfl, cdX10_manyOf, ⟨by decide +kernel, by decide +kernel, by decide +kernel⟩⟩
theorem cdX10_setAt : Cond.code yX10_setAt cX10_setAt 4 (some .int) ∈ tz := tc7 217 rfl rfl
theorem lVX10_477 : LV RX10 477 yX10_setAt cX10_setAt 4 (some .int) 1 := ⟨tw 1773 (by decide +kernel) rfl, tw 1775 (by decide +kernel) rfl, tw 109 (by decide +kernel) rfl, tw 128 (by decide +kernel) rfl, cdX10_setAt, ⟨by decide +kernel, by decide +kernel, by decide +kernel⟩⟩
abbrev rmX10_words : Room := { frames := 3, cells := 0, slots := 0, locals := 69 }
def bX10_words_83 (s0 : Nat) (s1 : Int32) (z : AH) : Option (Int32 × AH) :=
  (fX10_ofSets s0 s1 z).bind fun x83 =>
  some (x83, z)
set_option maxHeartbeats 4000000 in
set_option maxRecDepth 100000 in
theorem kbX10_words_83 {p : Program} {l : Launch} {e : Env} {s : State} {m : MethodId} {args : Array Value} {below : List Frame} {meth : Method} {c : Code} {G : GW} {r : Int32} {z' : AH} (C : Cx p m c cX10_words 3 s args RX10 G) (hlk : meth.locks = false) (hr : meth.sig.returnType = (some .int)) (s0 : Nat) (s1 : Int32) {z : AH} {H : Heap} {locs : List Loc} {ls : Array Slot} (h : bX10_words_83 s0 s1 z = some (r, z')) (hW : Wb G z s H locs) (hl : lv_has ls 3 []) : W p l e rmX10_words s m args below meth c H locs 0 0 (MQ below (Qi G r z') args s 0 0 (AA G)) (F0 m 83 ls [.int s1, .ref (gB G + s0)]) := by
  have hx := C.1
  have hb := C.2.1
  unfold bX10_words_83 at h
  obtain ⟨x83, hq, h⟩ := ob h
  refine wz_rI (c' := 0) (s' := 0) hW (wz_runV (rest := []) C hW lVX10_483 (ck hq).1 rfl (ctX10_ofSets l G s0 s1 z hq) ⟨⟨rfl, rfl⟩, Nat.le_of_ble_eq_true rfl, Nat.le_of_ble_eq_true rfl⟩ rfl hl.1 rfl (Nat.le_of_ble_eq_true rfl) dX10_words_83 ⟨Nat.le_of_ble_eq_true rfl, Nat.le_of_ble_eq_true rfl⟩) rfl rfl (fun H locs hW => ?_)
  exact wz_iretE C hlk hr (so2 h).1 (so2 h).2 hW dX10_words_86
def fX10_words (a0 : Nat) (l1 : Int32) (l2 : Int32) (z : AH) : Option (Int32 × AH) :=
  if isO 9 z a0 = true then
    (pF 9 0 z a0 (.int (0 : Int32))).bind fun z2 =>
    b2 (fX10_hasFight a0 l1 z2) fun x7 z7 =>
    if x7 = (0 : Int32) then (
      some ((-2 : Int32), z7)
    ) else (
      (fX10_findSets a0 z7).bind fun z17 =>
      if l2 < (10 : Int32) then (
        if l2 = (0 : Int32) then (
          (gI 9 51 z17 a0).bind fun x65 =>
          (fX10_manyOf x65).bind fun x68 =>
          some (x68, z17)
        ) else
        if l2 = (1 : Int32) then (
          if l2 = (1 : Int32) then (
            bX10_words_83 a0 (1 : Int32) z17
          ) else (
            bX10_words_83 a0 (0 : Int32) z17
          )
        ) else
        if l2 = (2 : Int32) then (
          if l2 = (1 : Int32) then (
            bX10_words_83 a0 (1 : Int32) z17
          ) else (
            bX10_words_83 a0 (0 : Int32) z17
          )
        ) else
        some ((-2 : Int32), z17)
      ) else (
        (fX10_setAt a0 (l2 - (10 : Int32)) z17).bind fun x31 =>
        some (x31, z17)
      )
    )
  else none
set_option maxHeartbeats 4000000 in
set_option maxRecDepth 100000 in
theorem ctX10_words (l : Launch) (G : GW) (a0 : Nat) (l1 : Int32) (l2 : Int32) (z : AH) {r : Int32} {z' : AH} (h : fX10_words a0 l1 l2 z = some (r, z')) : Met l yX10_words (wy yX10_words cX10_words 3 (some .int)) rmX10_words (Pz G [.ref (gB G + a0), .int l1, .int l2] z) (Qi G r z') 0 0 (AA G) := by
  refine wz_ent (own := RX10) (by decide +kernel) rfl (fun p e s m below meth c ls C hlk hr hin hW hl => ?_) (Nat.le_of_ble_eq_true rfl)
  have hl : lv_has ls 3 [(0, .ref (gB G + a0)), (1, .int l1), (2, .int l2)] := hl
  have hx := C.1
  have hb := C.2.1
  unfold fX10_words at h
  obtain ⟨-, h⟩ := ck h
  refine lv_aload_n hx hb dX10_words_0 rfl (lv_at hl 0 rfl) ?_
  refine lv_iconst (v := 0) hx hb dX10_words_1 (by decide) ?_
  obtain ⟨z2, hg, h⟩ := ob h
  refine wz_put (v := (.int (0 : Int32))) C hW flX10_81 rfl rfl hg dX10_words_2 (fun H locs hW => ?_)
  refine lv_aload_n hx hb dX10_words_5 rfl (lv_at hl 0 rfl) ?_
  refine lv_iload_n hx hb dX10_words_6 rfl (lv_at hl 1 rfl) ?_
  obtain ⟨x7, z7, hq, h⟩ := ob2 h
  refine wz_rI (c' := 0) (s' := 0) hW (wz_runV (rest := []) C hW lVX10_459 (ck hq).1 rfl (ctX10_hasFight l G a0 l1 z2 hq) ⟨⟨rfl, rfl⟩, Nat.le_of_ble_eq_true rfl, Nat.le_of_ble_eq_true rfl⟩ rfl hl.1 rfl (Nat.le_of_ble_eq_true rfl) dX10_words_7 ⟨Nat.le_of_ble_eq_true rfl, Nat.le_of_ble_eq_true rfl⟩) rfl rfl (fun H locs hW => ?_)
  refine lv_if_ne (tgt := 16) hx hb dX10_words_10 (by decide) (fun c10 => ?_) (fun c10 => ?_)
  · have h := ite_f c10 h
    refine lv_aload_n hx hb dX10_words_16 rfl (lv_at hl 0 rfl) ?_
    obtain ⟨z17, hq, h⟩ := ob h
    refine wz_rV (c' := 0) (s' := 0) hW (wz_runV (rest := []) C hW lVX10_474 (ck hq).1 rfl (ctX10_findSets l G a0 z7 hq) ⟨⟨rfl, rfl⟩, Nat.le_of_ble_eq_true rfl, Nat.le_of_ble_eq_true rfl⟩ rfl hl.1 rfl (Nat.le_of_ble_eq_true rfl) dX10_words_17 ⟨Nat.le_of_ble_eq_true rfl, Nat.le_of_ble_eq_true rfl⟩) rfl rfl (fun H locs hW => ?_)
    refine lv_iload_n hx hb dX10_words_20 rfl (lv_at hl 2 rfl) ?_
    refine lv_bipush (v := 10) hx hb dX10_words_21 (by decide) ?_
    refine lv_icmp_lt (tgt := 35) hx hb dX10_words_23 (by decide) (fun c23 => ?_) (fun c23 => ?_)
    · have h := ite_t c23 h
      refine lv_iload_n hx hb dX10_words_35 rfl (lv_at hl 2 rfl) ?_
      by_cases c36_0 : l2 = (0 : Int32)
      · have h := ite_t c36_0 h
        refine wz_sw (0 : Int32) (tgt := 64) hx hb dX10_words_36 c36_0 (by decide) rfl (by decide) ?_
        refine lv_aload_n hx hb dX10_words_64 rfl (lv_at hl 0 rfl) ?_
        obtain ⟨x65, hg, h⟩ := ob h
        refine wz_gI C hW flX10_468 hg dX10_words_65 ?_
        obtain ⟨x68, hq, h⟩ := ob h
        refine wz_rI (c' := 0) (s' := 0) hW (wz_runS (rest := []) C hW lTX10_480 (ctX10_manyOf l G x65 z17 hq) ⟨⟨rfl, rfl⟩, Nat.le_of_ble_eq_true rfl, Nat.le_of_ble_eq_true rfl⟩ rfl hl.1 rfl (Nat.le_of_ble_eq_true rfl) dX10_words_68 ⟨Nat.le_of_ble_eq_true rfl, Nat.le_of_ble_eq_true rfl⟩) rfl rfl (fun H locs hW => ?_)
        exact wz_iretE C hlk hr (so2 h).1 (so2 h).2 hW dX10_words_71
      have h := ite_f c36_0 h
      by_cases c36_1 : l2 = (1 : Int32)
      · have h := ite_t c36_1 h
        refine wz_sw (1 : Int32) (tgt := 72) hx hb dX10_words_36 c36_1 (by decide) rfl (by decide) ?_
        refine lv_aload_n hx hb dX10_words_72 rfl (lv_at hl 0 rfl) ?_
        refine lv_iload_n hx hb dX10_words_73 rfl (lv_at hl 2 rfl) ?_
        refine lv_iconst (v := 1) hx hb dX10_words_74 (by decide) ?_
        refine lv_icmp_ne (tgt := 82) hx hb dX10_words_75 (by decide) (fun c75 => ?_) (fun c75 => ?_)
        · have h := ite_f c75 h
          refine lv_iconst (v := 0) hx hb dX10_words_82 (by decide) ?_
          exact kbX10_words_83 C hlk hr a0 (0 : Int32) h hW (lv_sub hl [] rfl)
        · have h := ite_t c75 h
          refine lv_iconst (v := 1) hx hb dX10_words_78 (by decide) ?_
          refine lv_goto (tgt := 83) hx hb dX10_words_79 (by decide) ?_
          exact kbX10_words_83 C hlk hr a0 (1 : Int32) h hW (lv_sub hl [] rfl)
      have h := ite_f c36_1 h
      by_cases c36_2 : l2 = (2 : Int32)
      · have h := ite_t c36_2 h
        refine wz_sw (2 : Int32) (tgt := 72) hx hb dX10_words_36 c36_2 (by decide) rfl (by decide) ?_
        refine lv_aload_n hx hb dX10_words_72 rfl (lv_at hl 0 rfl) ?_
        refine lv_iload_n hx hb dX10_words_73 rfl (lv_at hl 2 rfl) ?_
        refine lv_iconst (v := 1) hx hb dX10_words_74 (by decide) ?_
        refine lv_icmp_ne (tgt := 82) hx hb dX10_words_75 (by decide) (fun c75 => ?_) (fun c75 => ?_)
        · have h := ite_f c75 h
          refine lv_iconst (v := 0) hx hb dX10_words_82 (by decide) ?_
          exact kbX10_words_83 C hlk hr a0 (0 : Int32) h hW (lv_sub hl [] rfl)
        · have h := ite_t c75 h
          refine lv_iconst (v := 1) hx hb dX10_words_78 (by decide) ?_
          refine lv_goto (tgt := 83) hx hb dX10_words_79 (by decide) ?_
          exact kbX10_words_83 C hlk hr a0 (1 : Int32) h hW (lv_sub hl [] rfl)
      have h := ite_f c36_2 h
      refine lv_tableOut (tgt := 87) hx hb dX10_words_36 (by have g0 := i32_ne c36_0 (z := 0) (by decide); have g1 := i32_ne c36_1 (z := 1) (by decide); have g2 := i32_ne c36_2 (z := 2) (by decide); omega) (by decide) ?_
      refine lv_bipush (v := -2) hx hb dX10_words_87 (by decide) ?_
      exact wz_iretE C hlk hr (so2 h).1 (so2 h).2 hW dX10_words_89
    · have h := ite_f c23 h
      refine lv_aload_n hx hb dX10_words_26 rfl (lv_at hl 0 rfl) ?_
      refine lv_iload_n hx hb dX10_words_27 rfl (lv_at hl 2 rfl) ?_
      refine lv_bipush (v := 10) hx hb dX10_words_28 (by decide) ?_
      refine lv_isub hx hb dX10_words_30 ?_
      obtain ⟨x31, hq, h⟩ := ob h
      refine wz_rI (c' := 0) (s' := 0) hW (wz_runV (rest := []) C hW lVX10_477 (ck hq).1 rfl (ctX10_setAt l G a0 (l2 - (10 : Int32)) z17 hq) ⟨⟨rfl, rfl⟩, Nat.le_of_ble_eq_true rfl, Nat.le_of_ble_eq_true rfl⟩ rfl hl.1 rfl (Nat.le_of_ble_eq_true rfl) dX10_words_31 ⟨Nat.le_of_ble_eq_true rfl, Nat.le_of_ble_eq_true rfl⟩) rfl rfl (fun H locs hW => ?_)
      exact wz_iretE C hlk hr (so2 h).1 (so2 h).2 hW dX10_words_34
  · have h := ite_t c10 h
    refine lv_bipush (v := -2) hx hb dX10_words_13 (by decide) ?_
    exact wz_iretE C hlk hr (so2 h).1 (so2 h).2 hW dX10_words_15
theorem dX10_draw_0 : decode cX10_draw 0 = .ok (.aload_n 0, 1) := by decide +kernel
theorem dX10_draw_1 : decode cX10_draw 1 = .ok (.aload_n 0, 1) := by decide +kernel
theorem dX10_draw_2 : decode cX10_draw 2 = .ok (.getfield 487, 3) := by decide +kernel
theorem dX10_draw_5 : decode cX10_draw 5 = .ok (.ldc_w 490, 3) := by decide +kernel
theorem dX10_draw_8 : decode cX10_draw 8 = .ok (.imul, 1) := by decide +kernel
theorem dX10_draw_9 : decode cX10_draw 9 = .ok (.sipush 12345, 3) := by decide +kernel
theorem dX10_draw_12 : decode cX10_draw 12 = .ok (.iadd, 1) := by decide +kernel
theorem dX10_draw_13 : decode cX10_draw 13 = .ok (.putfield 487, 3) := by decide +kernel
theorem dX10_draw_16 : decode cX10_draw 16 = .ok (.aload_n 0, 1) := by decide +kernel
theorem dX10_draw_17 : decode cX10_draw 17 = .ok (.getfield 487, 3) := by decide +kernel
theorem dX10_draw_20 : decode cX10_draw 20 = .ok (.bipush 16, 2) := by decide +kernel
theorem dX10_draw_22 : decode cX10_draw 22 = .ok (.iushr, 1) := by decide +kernel
theorem dX10_draw_23 : decode cX10_draw 23 = .ok (.iload_n 1, 1) := by decide +kernel
theorem dX10_draw_24 : decode cX10_draw 24 = .ok (.irem, 1) := by decide +kernel
theorem dX10_draw_25 : decode cX10_draw 25 = .ok (.ireturn, 1) := by decide +kernel
theorem flX10_487 : FL RX10 487 9 52 := ⟨_, rfl, Nat.le_of_ble_eq_true rfl, tw 1251 (by decide +kernel) rfl, rfl⟩
abbrev rmX10_draw : Room := { frames := 0, cells := 0, slots := 0, locals := 0 }
def fX10_draw (a0 : Nat) (l1 : Int32) (z : AH) : Option (Int32 × AH) :=
  if isO 9 z a0 = true then
    (gI 9 52 z a0).bind fun x2 =>
    (pF 9 52 z a0 (.int ((x2 * (1103515245 : Int32)) + (12345 : Int32)))).bind fun z13 =>
    (gI 9 52 z13 a0).bind fun x17 =>
    if ¬ l1 = 0 then (
    some ((irem (ush x17 (16 : Int32)) l1), z13)
    ) else none
  else none
set_option maxHeartbeats 4000000 in
set_option maxRecDepth 100000 in
theorem ctX10_draw (l : Launch) (G : GW) (a0 : Nat) (l1 : Int32) (z : AH) {r : Int32} {z' : AH} (h : fX10_draw a0 l1 z = some (r, z')) : Met l yX10_draw (wy yX10_draw cX10_draw 2 (some .int)) rmX10_draw (Pz G [.ref (gB G + a0), .int l1] z) (Qi G r z') 0 0 (AA G) := by
  refine wz_ent (own := RX10) (by decide +kernel) rfl (fun p e s m below meth c ls C hlk hr hin hW hl => ?_) (Nat.le_of_ble_eq_true rfl)
  have hl : lv_has ls 2 [(0, .ref (gB G + a0)), (1, .int l1)] := hl
  have hx := C.1
  have hb := C.2.1
  unfold fX10_draw at h
  obtain ⟨-, h⟩ := ck h
  refine lv_aload_n hx hb dX10_draw_0 rfl (lv_at hl 0 rfl) ?_
  refine lv_aload_n hx hb dX10_draw_1 rfl (lv_at hl 0 rfl) ?_
  obtain ⟨x2, hg, h⟩ := ob h
  refine wz_gI C hW flX10_487 hg dX10_draw_2 ?_
  refine lv_ldcw (v := 1103515245) hx hb C.2.2.2.1 (C.2.2.2.2.1 _ (tw 1796 (by decide +kernel) rfl)) dX10_draw_5 ?_
  refine lv_imul hx hb dX10_draw_8 ?_
  refine lv_sipush (v := 12345) hx hb dX10_draw_9 (by decide) ?_
  refine lv_iadd hx hb dX10_draw_12 ?_
  obtain ⟨z13, hg, h⟩ := ob h
  refine wz_put (v := (.int ((x2 * (1103515245 : Int32)) + (12345 : Int32)))) C hW flX10_487 rfl rfl hg dX10_draw_13 (fun H locs hW => ?_)
  refine lv_aload_n hx hb dX10_draw_16 rfl (lv_at hl 0 rfl) ?_
  obtain ⟨x17, hg, h⟩ := ob h
  refine wz_gI C hW flX10_487 hg dX10_draw_17 ?_
  refine lv_bipush (v := 16) hx hb dX10_draw_20 (by decide) ?_
  refine wz_ush hx hb dX10_draw_22 ?_
  refine lv_iload_n hx hb dX10_draw_23 rfl (lv_at hl 1 rfl) ?_
  obtain ⟨hne24, h⟩ := ck h
  refine wz_irem hx hb dX10_draw_24 hne24 ?_
  exact wz_iretE C hlk hr (so2 h).1 (so2 h).2 hW dX10_draw_25
theorem dX10_drawDeed_0 : decode cX10_drawDeed 0 = .ok (.aload_n 0, 1) := by decide +kernel
theorem dX10_drawDeed_1 : decode cX10_drawDeed 1 = .ok (.bipush 8, 2) := by decide +kernel
theorem dX10_drawDeed_3 : decode cX10_drawDeed 3 = .ok (.invokevirtual 491, 3) := by decide +kernel
theorem dX10_drawDeed_6 : decode cX10_drawDeed 6 = .ok (.istore_n 1, 1) := by decide +kernel
theorem dX10_drawDeed_7 : decode cX10_drawDeed 7 = .ok (.iload_n 1, 1) := by decide +kernel
theorem dX10_drawDeed_8 : decode cX10_drawDeed 8 = .ok (.iconst 3, 1) := by decide +kernel
theorem dX10_drawDeed_9 : decode cX10_drawDeed 9 = .ok (.if_icmp .ge 43, 3) := by decide +kernel
theorem dX10_drawDeed_12 : decode cX10_drawDeed 12 = .ok (.aload_n 0, 1) := by decide +kernel
theorem dX10_drawDeed_13 : decode cX10_drawDeed 13 = .ok (.getfield 279, 3) := by decide +kernel
theorem dX10_drawDeed_16 : decode cX10_drawDeed 16 = .ok (.ifCond .le 110, 3) := by decide +kernel
theorem dX10_drawDeed_19 : decode cX10_drawDeed 19 = .ok (.aload_n 0, 1) := by decide +kernel
theorem dX10_drawDeed_20 : decode cX10_drawDeed 20 = .ok (.getfield 276, 3) := by decide +kernel
theorem dX10_drawDeed_23 : decode cX10_drawDeed 23 = .ok (.ifCond .le 103, 3) := by decide +kernel
theorem dX10_drawDeed_26 : decode cX10_drawDeed 26 = .ok (.aload_n 0, 1) := by decide +kernel
theorem dX10_drawDeed_27 : decode cX10_drawDeed 27 = .ok (.aload_n 0, 1) := by decide +kernel
theorem dX10_drawDeed_28 : decode cX10_drawDeed 28 = .ok (.getfield 279, 3) := by decide +kernel
theorem dX10_drawDeed_31 : decode cX10_drawDeed 31 = .ok (.invokevirtual 491, 3) := by decide +kernel
theorem dX10_drawDeed_34 : decode cX10_drawDeed 34 = .ok (.istore_n 2, 1) := by decide +kernel
theorem dX10_drawDeed_35 : decode cX10_drawDeed 35 = .ok (.aload_n 0, 1) := by decide +kernel
theorem dX10_drawDeed_36 : decode cX10_drawDeed 36 = .ok (.iload_n 2, 1) := by decide +kernel
theorem dX10_drawDeed_37 : decode cX10_drawDeed 37 = .ok (.aload_n 0, 1) := by decide +kernel
theorem dX10_drawDeed_38 : decode cX10_drawDeed 38 = .ok (.aload_n 0, 1) := by decide +kernel
theorem dX10_drawDeed_39 : decode cX10_drawDeed 39 = .ok (.getfield 276, 3) := by decide +kernel
theorem dX10_drawDeed_42 : decode cX10_drawDeed 42 = .ok (.invokevirtual 491, 3) := by decide +kernel
theorem dX10_drawDeed_45 : decode cX10_drawDeed 45 = .ok (.invokevirtual 354, 3) := by decide +kernel
theorem dX10_drawDeed_48 : decode cX10_drawDeed 48 = .ok (.pop, 1) := by decide +kernel
theorem dX10_drawDeed_49 : decode cX10_drawDeed 49 = .ok (.goto 77, 3) := by decide +kernel
theorem dX10_drawDeed_52 : decode cX10_drawDeed 52 = .ok (.iload_n 1, 1) := by decide +kernel
theorem dX10_drawDeed_53 : decode cX10_drawDeed 53 = .ok (.iconst 5, 1) := by decide +kernel
theorem dX10_drawDeed_54 : decode cX10_drawDeed 54 = .ok (.if_icmp .ge 36, 3) := by decide +kernel
theorem dX10_drawDeed_57 : decode cX10_drawDeed 57 = .ok (.aload_n 0, 1) := by decide +kernel
theorem dX10_drawDeed_58 : decode cX10_drawDeed 58 = .ok (.getfield 279, 3) := by decide +kernel
theorem dX10_drawDeed_61 : decode cX10_drawDeed 61 = .ok (.ifCond .le 65, 3) := by decide +kernel
theorem dX10_drawDeed_64 : decode cX10_drawDeed 64 = .ok (.aload_n 0, 1) := by decide +kernel
theorem dX10_drawDeed_65 : decode cX10_drawDeed 65 = .ok (.aload_n 0, 1) := by decide +kernel
theorem dX10_drawDeed_66 : decode cX10_drawDeed 66 = .ok (.aload_n 0, 1) := by decide +kernel
theorem dX10_drawDeed_67 : decode cX10_drawDeed 67 = .ok (.getfield 279, 3) := by decide +kernel
theorem dX10_drawDeed_70 : decode cX10_drawDeed 70 = .ok (.invokevirtual 491, 3) := by decide +kernel
theorem dX10_drawDeed_73 : decode cX10_drawDeed 73 = .ok (.iload_n 1, 1) := by decide +kernel
theorem dX10_drawDeed_74 : decode cX10_drawDeed 74 = .ok (.iconst 4, 1) := by decide +kernel
theorem dX10_drawDeed_75 : decode cX10_drawDeed 75 = .ok (.if_icmp .ne 7, 3) := by decide +kernel
theorem dX10_drawDeed_78 : decode cX10_drawDeed 78 = .ok (.iconst 1, 1) := by decide +kernel
theorem dX10_drawDeed_79 : decode cX10_drawDeed 79 = .ok (.goto 4, 3) := by decide +kernel
theorem dX10_drawDeed_82 : decode cX10_drawDeed 82 = .ok (.iconst 0, 1) := by decide +kernel
theorem dX10_drawDeed_83 : decode cX10_drawDeed 83 = .ok (.invokevirtual 357, 3) := by decide +kernel
theorem dX10_drawDeed_86 : decode cX10_drawDeed 86 = .ok (.pop, 1) := by decide +kernel
theorem dX10_drawDeed_87 : decode cX10_drawDeed 87 = .ok (.goto 39, 3) := by decide +kernel
theorem dX10_drawDeed_90 : decode cX10_drawDeed 90 = .ok (.iload_n 1, 1) := by decide +kernel
theorem dX10_drawDeed_91 : decode cX10_drawDeed 91 = .ok (.iconst 5, 1) := by decide +kernel
theorem dX10_drawDeed_92 : decode cX10_drawDeed 92 = .ok (.if_icmp .ne 26, 3) := by decide +kernel
theorem dX10_drawDeed_95 : decode cX10_drawDeed 95 = .ok (.aload_n 0, 1) := by decide +kernel
theorem dX10_drawDeed_96 : decode cX10_drawDeed 96 = .ok (.getfield 276, 3) := by decide +kernel
theorem dX10_drawDeed_99 : decode cX10_drawDeed 99 = .ok (.ifCond .le 27, 3) := by decide +kernel
theorem dX10_drawDeed_102 : decode cX10_drawDeed 102 = .ok (.aload_n 0, 1) := by decide +kernel
theorem dX10_drawDeed_103 : decode cX10_drawDeed 103 = .ok (.aload_n 0, 1) := by decide +kernel
theorem dX10_drawDeed_104 : decode cX10_drawDeed 104 = .ok (.aload_n 0, 1) := by decide +kernel
theorem dX10_drawDeed_105 : decode cX10_drawDeed 105 = .ok (.getfield 276, 3) := by decide +kernel
theorem dX10_drawDeed_108 : decode cX10_drawDeed 108 = .ok (.invokevirtual 491, 3) := by decide +kernel
theorem dX10_drawDeed_111 : decode cX10_drawDeed 111 = .ok (.invokevirtual 361, 3) := by decide +kernel
theorem dX10_drawDeed_114 : decode cX10_drawDeed 114 = .ok (.pop, 1) := by decide +kernel
theorem dX10_drawDeed_115 : decode cX10_drawDeed 115 = .ok (.goto 11, 3) := by decide +kernel
theorem dX10_drawDeed_118 : decode cX10_drawDeed 118 = .ok (.aload_n 0, 1) := by decide +kernel
theorem dX10_drawDeed_119 : decode cX10_drawDeed 119 = .ok (.iconst 4, 1) := by decide +kernel
theorem dX10_drawDeed_120 : decode cX10_drawDeed 120 = .ok (.iconst (-1), 1) := by decide +kernel
theorem dX10_drawDeed_121 : decode cX10_drawDeed 121 = .ok (.iconst (-1), 1) := by decide +kernel
theorem dX10_drawDeed_122 : decode cX10_drawDeed 122 = .ok (.invokevirtual 367, 3) := by decide +kernel
theorem dX10_drawDeed_125 : decode cX10_drawDeed 125 = .ok (.pop, 1) := by decide +kernel
theorem dX10_drawDeed_126 : decode cX10_drawDeed 126 = .ok (.return_, 1) := by decide +kernel
theorem cdX10_draw : Cond.code yX10_draw cX10_draw 2 (some .int) ∈ tz := tc7 236 rfl rfl
theorem lVX10_491 : LV RX10 491 yX10_draw cX10_draw 2 (some .int) 1 := ⟨tw 1792 (by decide +kernel) rfl, tw 1794 (by decide +kernel) rfl, tw 112 (by decide +kernel) rfl, tw 128 (by decide +kernel) rfl, cdX10_draw, ⟨by decide +kernel, by decide +kernel, by decide +kernel⟩⟩
abbrev rmX10_drawDeed : Room := { frames := 5, cells := 0, slots := 0, locals := 110 }
def bX10_drawDeed_83 (s0 : Nat) (s1 : Int32) (s2 : Int32) (z : AH) : Option AH :=
  b2 (fX10_turns s0 s1 s2 z) fun x83 z83 =>
  some z83
set_option maxHeartbeats 4000000 in
set_option maxRecDepth 100000 in
theorem kbX10_drawDeed_83 {p : Program} {l : Launch} {e : Env} {s : State} {m : MethodId} {args : Array Value} {below : List Frame} {meth : Method} {c : Code} {G : GW} {z' : AH} (C : Cx p m c cX10_drawDeed 3 s args RX10 G) (hlk : meth.locks = false) (hr : meth.sig.returnType = none) (s0 : Nat) (s1 : Int32) (s2 : Int32) {z : AH} {H : Heap} {locs : List Loc} {ls : Array Slot} (h : bX10_drawDeed_83 s0 s1 s2 z = some z') (hW : Wb G z s H locs) (hl : lv_has ls 3 []) : W p l e rmX10_drawDeed s m args below meth c H locs 0 0 (MQ below (Qv G z') args s 0 0 (AA G)) (F0 m 83 ls [.int s2, .int s1, .ref (gB G + s0)]) := by
  have hx := C.1
  have hb := C.2.1
  unfold bX10_drawDeed_83 at h
  obtain ⟨x83, z83, hq, h⟩ := ob2 h
  refine wz_rI (c' := 0) (s' := 0) hW (wz_runV (rest := []) C hW lVX10_357 (ck hq).1 rfl (ctX10_turns l G s0 s1 s2 z hq) ⟨⟨rfl, rfl⟩, Nat.le_of_ble_eq_true rfl, Nat.le_of_ble_eq_true rfl⟩ rfl hl.1 rfl (Nat.le_of_ble_eq_true rfl) dX10_drawDeed_83 ⟨Nat.le_of_ble_eq_true rfl, Nat.le_of_ble_eq_true rfl⟩) rfl rfl (fun H locs hW => ?_)
  refine lv_pop hx hb dX10_drawDeed_86 rfl ?_
  refine lv_goto (tgt := 126) hx hb dX10_drawDeed_87 (by decide) ?_
  exact wz_vretE C hlk hr (Option.some.inj h) hW dX10_drawDeed_126
def fX10_drawDeed (a0 : Nat) (z : AH) : Option AH :=
  if isO 9 z a0 = true then
    b2 (fX10_draw a0 (8 : Int32) z) fun x3 z3 =>
    if (3 : Int32) ≤ x3 then (
      if (5 : Int32) ≤ x3 then (
        if x3 = (5 : Int32) then (
          (gI 9 26 z3 a0).bind fun x96 =>
          if x96 ≤ (0 : Int32) then (
            some z3
          ) else (
            (gI 9 26 z3 a0).bind fun x105 =>
            b2 (fX10_draw a0 x105 z3) fun x108 z108 =>
            b2 (fX10_forges a0 x108 z108) fun x111 z111 =>
            some z111
          )
        ) else (
          b2 (fX10_does a0 (4 : Int32) (-1 : Int32) (-1 : Int32) z3) fun x122 z122 =>
          some z122
        )
      ) else (
        (gI 9 27 z3 a0).bind fun x58 =>
        if x58 ≤ (0 : Int32) then (
          some z3
        ) else (
          (gI 9 27 z3 a0).bind fun x67 =>
          b2 (fX10_draw a0 x67 z3) fun x70 z70 =>
          if x3 = (4 : Int32) then (
            bX10_drawDeed_83 a0 x70 (1 : Int32) z70
          ) else (
            bX10_drawDeed_83 a0 x70 (0 : Int32) z70
          )
        )
      )
    ) else (
      (gI 9 27 z3 a0).bind fun x13 =>
      if x13 ≤ (0 : Int32) then (
        some z3
      ) else (
        (gI 9 26 z3 a0).bind fun x20 =>
        if x20 ≤ (0 : Int32) then (
          some z3
        ) else (
          (gI 9 27 z3 a0).bind fun x28 =>
          b2 (fX10_draw a0 x28 z3) fun x31 z31 =>
          (gI 9 26 z31 a0).bind fun x39 =>
          b2 (fX10_draw a0 x39 z31) fun x42 z42 =>
          b2 (fX10_looks a0 x31 x42 z42) fun x45 z45 =>
          some z45
        )
      )
    )
  else none
set_option maxHeartbeats 4000000 in
set_option maxRecDepth 100000 in
theorem ctX10_drawDeed (l : Launch) (G : GW) (a0 : Nat) (z : AH) {z' : AH} (h : fX10_drawDeed a0 z = some z') : Met l yX10_drawDeed (wy yX10_drawDeed cX10_drawDeed 3 none) rmX10_drawDeed (Pz G [.ref (gB G + a0)] z) (Qv G z') 0 0 (AA G) := by
  refine wz_ent (own := RX10) (by decide +kernel) rfl (fun p e s m below meth c ls C hlk hr hin hW hl => ?_) (Nat.le_of_ble_eq_true rfl)
  have hl : lv_has ls 3 [(0, .ref (gB G + a0))] := hl
  have hx := C.1
  have hb := C.2.1
  unfold fX10_drawDeed at h
  obtain ⟨-, h⟩ := ck h
  refine lv_aload_n hx hb dX10_drawDeed_0 rfl (lv_at hl 0 rfl) ?_
  refine lv_bipush (v := 8) hx hb dX10_drawDeed_1 (by decide) ?_
  obtain ⟨x3, z3, hq, h⟩ := ob2 h
  refine wz_rI (c' := 0) (s' := 0) hW (wz_runV (rest := []) C hW lVX10_491 (ck hq).1 rfl (ctX10_draw l G a0 (8 : Int32) z hq) ⟨⟨rfl, rfl⟩, Nat.le_of_ble_eq_true rfl, Nat.le_of_ble_eq_true rfl⟩ rfl hl.1 rfl (Nat.le_of_ble_eq_true rfl) dX10_drawDeed_3 ⟨Nat.le_of_ble_eq_true rfl, Nat.le_of_ble_eq_true rfl⟩) rfl rfl (fun H locs hW => ?_)
  refine lv_istore_n (lv' := [(1, .int x3), (0, .ref (gB G + a0))]) hx hb dX10_drawDeed_6 rfl hl (by decide) rfl (fun ls hl => ?_)
  refine lv_iload_n hx hb dX10_drawDeed_7 rfl (lv_at hl 0 rfl) ?_
  refine lv_iconst (v := 3) hx hb dX10_drawDeed_8 (by decide) ?_
  refine lv_icmp_ge (tgt := 52) hx hb dX10_drawDeed_9 (by decide) (fun c9 => ?_) (fun c9 => ?_)
  · have h := ite_t c9 h
    refine lv_iload_n hx hb dX10_drawDeed_52 rfl (lv_at hl 0 rfl) ?_
    refine lv_iconst (v := 5) hx hb dX10_drawDeed_53 (by decide) ?_
    refine lv_icmp_ge (tgt := 90) hx hb dX10_drawDeed_54 (by decide) (fun c54 => ?_) (fun c54 => ?_)
    · have h := ite_t c54 h
      refine lv_iload_n hx hb dX10_drawDeed_90 rfl (lv_at hl 0 rfl) ?_
      refine lv_iconst (v := 5) hx hb dX10_drawDeed_91 (by decide) ?_
      refine lv_icmp_ne (tgt := 118) hx hb dX10_drawDeed_92 (by decide) (fun c92 => ?_) (fun c92 => ?_)
      · have h := ite_f c92 h
        refine lv_aload_n hx hb dX10_drawDeed_118 rfl (lv_at hl 1 rfl) ?_
        refine lv_iconst (v := 4) hx hb dX10_drawDeed_119 (by decide) ?_
        refine lv_iconst (v := -1) hx hb dX10_drawDeed_120 (by decide) ?_
        refine lv_iconst (v := -1) hx hb dX10_drawDeed_121 (by decide) ?_
        obtain ⟨x122, z122, hq, h⟩ := ob2 h
        refine wz_rI (c' := 0) (s' := 0) hW (wz_runV (rest := []) C hW lVX10_367 (ck hq).1 rfl (ctX10_does l G a0 (4 : Int32) (-1 : Int32) (-1 : Int32) z3 hq) ⟨⟨rfl, rfl⟩, Nat.le_of_ble_eq_true rfl, Nat.le_of_ble_eq_true rfl⟩ rfl hl.1 rfl (Nat.le_of_ble_eq_true rfl) dX10_drawDeed_122 ⟨Nat.le_of_ble_eq_true rfl, Nat.le_of_ble_eq_true rfl⟩) rfl rfl (fun H locs hW => ?_)
        refine lv_pop hx hb dX10_drawDeed_125 rfl ?_
        exact wz_vretE C hlk hr (Option.some.inj h) hW dX10_drawDeed_126
      · have h := ite_t c92 h
        refine lv_aload_n hx hb dX10_drawDeed_95 rfl (lv_at hl 1 rfl) ?_
        obtain ⟨x96, hg, h⟩ := ob h
        refine wz_gI C hW flX10_276 hg dX10_drawDeed_96 ?_
        refine lv_if_le (tgt := 126) hx hb dX10_drawDeed_99 (by decide) (fun c99 => ?_) (fun c99 => ?_)
        · have h := ite_t c99 h
          exact wz_vretE C hlk hr (Option.some.inj h) hW dX10_drawDeed_126
        · have h := ite_f c99 h
          refine lv_aload_n hx hb dX10_drawDeed_102 rfl (lv_at hl 1 rfl) ?_
          refine lv_aload_n hx hb dX10_drawDeed_103 rfl (lv_at hl 1 rfl) ?_
          refine lv_aload_n hx hb dX10_drawDeed_104 rfl (lv_at hl 1 rfl) ?_
          obtain ⟨x105, hg, h⟩ := ob h
          refine wz_gI C hW flX10_276 hg dX10_drawDeed_105 ?_
          obtain ⟨x108, z108, hq, h⟩ := ob2 h
          refine wz_rI (c' := 0) (s' := 0) hW (wz_runV (rest := [.ref (gB G + a0)]) C hW lVX10_491 (ck hq).1 rfl (ctX10_draw l G a0 x105 z3 hq) ⟨⟨rfl, rfl⟩, Nat.le_of_ble_eq_true rfl, Nat.le_of_ble_eq_true rfl⟩ rfl hl.1 rfl (Nat.le_of_ble_eq_true rfl) dX10_drawDeed_108 ⟨Nat.le_of_ble_eq_true rfl, Nat.le_of_ble_eq_true rfl⟩) rfl rfl (fun H locs hW => ?_)
          obtain ⟨x111, z111, hq, h⟩ := ob2 h
          refine wz_rI (c' := 0) (s' := 0) hW (wz_runV (rest := []) C hW lVX10_361 (ck hq).1 rfl (ctX10_forges l G a0 x108 z108 hq) ⟨⟨rfl, rfl⟩, Nat.le_of_ble_eq_true rfl, Nat.le_of_ble_eq_true rfl⟩ rfl hl.1 rfl (Nat.le_of_ble_eq_true rfl) dX10_drawDeed_111 ⟨Nat.le_of_ble_eq_true rfl, Nat.le_of_ble_eq_true rfl⟩) rfl rfl (fun H locs hW => ?_)
          refine lv_pop hx hb dX10_drawDeed_114 rfl ?_
          refine lv_goto (tgt := 126) hx hb dX10_drawDeed_115 (by decide) ?_
          exact wz_vretE C hlk hr (Option.some.inj h) hW dX10_drawDeed_126
    · have h := ite_f c54 h
      refine lv_aload_n hx hb dX10_drawDeed_57 rfl (lv_at hl 1 rfl) ?_
      obtain ⟨x58, hg, h⟩ := ob h
      refine wz_gI C hW flX10_279 hg dX10_drawDeed_58 ?_
      refine lv_if_le (tgt := 126) hx hb dX10_drawDeed_61 (by decide) (fun c61 => ?_) (fun c61 => ?_)
      · have h := ite_t c61 h
        exact wz_vretE C hlk hr (Option.some.inj h) hW dX10_drawDeed_126
      · have h := ite_f c61 h
        refine lv_aload_n hx hb dX10_drawDeed_64 rfl (lv_at hl 1 rfl) ?_
        refine lv_aload_n hx hb dX10_drawDeed_65 rfl (lv_at hl 1 rfl) ?_
        refine lv_aload_n hx hb dX10_drawDeed_66 rfl (lv_at hl 1 rfl) ?_
        obtain ⟨x67, hg, h⟩ := ob h
        refine wz_gI C hW flX10_279 hg dX10_drawDeed_67 ?_
        obtain ⟨x70, z70, hq, h⟩ := ob2 h
        refine wz_rI (c' := 0) (s' := 0) hW (wz_runV (rest := [.ref (gB G + a0)]) C hW lVX10_491 (ck hq).1 rfl (ctX10_draw l G a0 x67 z3 hq) ⟨⟨rfl, rfl⟩, Nat.le_of_ble_eq_true rfl, Nat.le_of_ble_eq_true rfl⟩ rfl hl.1 rfl (Nat.le_of_ble_eq_true rfl) dX10_drawDeed_70 ⟨Nat.le_of_ble_eq_true rfl, Nat.le_of_ble_eq_true rfl⟩) rfl rfl (fun H locs hW => ?_)
        refine lv_iload_n hx hb dX10_drawDeed_73 rfl (lv_at hl 0 rfl) ?_
        refine lv_iconst (v := 4) hx hb dX10_drawDeed_74 (by decide) ?_
        refine lv_icmp_ne (tgt := 82) hx hb dX10_drawDeed_75 (by decide) (fun c75 => ?_) (fun c75 => ?_)
        · have h := ite_f c75 h
          refine lv_iconst (v := 0) hx hb dX10_drawDeed_82 (by decide) ?_
          exact kbX10_drawDeed_83 C hlk hr a0 x70 (0 : Int32) h hW (lv_sub hl [] rfl)
        · have h := ite_t c75 h
          refine lv_iconst (v := 1) hx hb dX10_drawDeed_78 (by decide) ?_
          refine lv_goto (tgt := 83) hx hb dX10_drawDeed_79 (by decide) ?_
          exact kbX10_drawDeed_83 C hlk hr a0 x70 (1 : Int32) h hW (lv_sub hl [] rfl)
  · have h := ite_f c9 h
    refine lv_aload_n hx hb dX10_drawDeed_12 rfl (lv_at hl 1 rfl) ?_
    obtain ⟨x13, hg, h⟩ := ob h
    refine wz_gI C hW flX10_279 hg dX10_drawDeed_13 ?_
    refine lv_if_le (tgt := 126) hx hb dX10_drawDeed_16 (by decide) (fun c16 => ?_) (fun c16 => ?_)
    · have h := ite_t c16 h
      exact wz_vretE C hlk hr (Option.some.inj h) hW dX10_drawDeed_126
    · have h := ite_f c16 h
      refine lv_aload_n hx hb dX10_drawDeed_19 rfl (lv_at hl 1 rfl) ?_
      obtain ⟨x20, hg, h⟩ := ob h
      refine wz_gI C hW flX10_276 hg dX10_drawDeed_20 ?_
      refine lv_if_le (tgt := 126) hx hb dX10_drawDeed_23 (by decide) (fun c23 => ?_) (fun c23 => ?_)
      · have h := ite_t c23 h
        exact wz_vretE C hlk hr (Option.some.inj h) hW dX10_drawDeed_126
      · have h := ite_f c23 h
        refine lv_aload_n hx hb dX10_drawDeed_26 rfl (lv_at hl 1 rfl) ?_
        refine lv_aload_n hx hb dX10_drawDeed_27 rfl (lv_at hl 1 rfl) ?_
        obtain ⟨x28, hg, h⟩ := ob h
        refine wz_gI C hW flX10_279 hg dX10_drawDeed_28 ?_
        obtain ⟨x31, z31, hq, h⟩ := ob2 h
        refine wz_rI (c' := 0) (s' := 0) hW (wz_runV (rest := []) C hW lVX10_491 (ck hq).1 rfl (ctX10_draw l G a0 x28 z3 hq) ⟨⟨rfl, rfl⟩, Nat.le_of_ble_eq_true rfl, Nat.le_of_ble_eq_true rfl⟩ rfl hl.1 rfl (Nat.le_of_ble_eq_true rfl) dX10_drawDeed_31 ⟨Nat.le_of_ble_eq_true rfl, Nat.le_of_ble_eq_true rfl⟩) rfl rfl (fun H locs hW => ?_)
        refine lv_istore_n (lv' := [(2, .int x31), (1, .int x3), (0, .ref (gB G + a0))]) hx hb dX10_drawDeed_34 rfl hl (by decide) rfl (fun ls hl => ?_)
        refine lv_aload_n hx hb dX10_drawDeed_35 rfl (lv_at hl 2 rfl) ?_
        refine lv_iload_n hx hb dX10_drawDeed_36 rfl (lv_at hl 0 rfl) ?_
        refine lv_aload_n hx hb dX10_drawDeed_37 rfl (lv_at hl 2 rfl) ?_
        refine lv_aload_n hx hb dX10_drawDeed_38 rfl (lv_at hl 2 rfl) ?_
        obtain ⟨x39, hg, h⟩ := ob h
        refine wz_gI C hW flX10_276 hg dX10_drawDeed_39 ?_
        obtain ⟨x42, z42, hq, h⟩ := ob2 h
        refine wz_rI (c' := 0) (s' := 0) hW (wz_runV (rest := [.int x31, .ref (gB G + a0)]) C hW lVX10_491 (ck hq).1 rfl (ctX10_draw l G a0 x39 z31 hq) ⟨⟨rfl, rfl⟩, Nat.le_of_ble_eq_true rfl, Nat.le_of_ble_eq_true rfl⟩ rfl hl.1 rfl (Nat.le_of_ble_eq_true rfl) dX10_drawDeed_42 ⟨Nat.le_of_ble_eq_true rfl, Nat.le_of_ble_eq_true rfl⟩) rfl rfl (fun H locs hW => ?_)
        obtain ⟨x45, z45, hq, h⟩ := ob2 h
        refine wz_rI (c' := 0) (s' := 0) hW (wz_runV (rest := []) C hW lVX10_354 (ck hq).1 rfl (ctX10_looks l G a0 x31 x42 z42 hq) ⟨⟨rfl, rfl⟩, Nat.le_of_ble_eq_true rfl, Nat.le_of_ble_eq_true rfl⟩ rfl hl.1 rfl (Nat.le_of_ble_eq_true rfl) dX10_drawDeed_45 ⟨Nat.le_of_ble_eq_true rfl, Nat.le_of_ble_eq_true rfl⟩) rfl rfl (fun H locs hW => ?_)
        refine lv_pop hx hb dX10_drawDeed_48 rfl ?_
        refine lv_goto (tgt := 126) hx hb dX10_drawDeed_49 (by decide) ?_
        exact wz_vretE C hlk hr (Option.some.inj h) hW dX10_drawDeed_126
theorem dX10_drawn_0 : decode cX10_drawn 0 = .ok (.aload_n 0, 1) := by decide +kernel
theorem dX10_drawn_1 : decode cX10_drawn 1 = .ok (.iconst 0, 1) := by decide +kernel
theorem dX10_drawn_2 : decode cX10_drawn 2 = .ok (.putfield 81, 3) := by decide +kernel
theorem dX10_drawn_5 : decode cX10_drawn 5 = .ok (.iload_n 3, 1) := by decide +kernel
theorem dX10_drawn_6 : decode cX10_drawn 6 = .ok (.iconst 0, 1) := by decide +kernel
theorem dX10_drawn_7 : decode cX10_drawn 7 = .ok (.bipush 60, 2) := by decide +kernel
theorem dX10_drawn_9 : decode cX10_drawn 9 = .ok (.invokestatic 93, 3) := by decide +kernel
theorem dX10_drawn_12 : decode cX10_drawn 12 = .ok (.ifCond .eq 11, 3) := by decide +kernel
theorem dX10_drawn_15 : decode cX10_drawn 15 = .ok (.aload_n 0, 1) := by decide +kernel
theorem dX10_drawn_16 : decode cX10_drawn 16 = .ok (.iload_n 1, 1) := by decide +kernel
theorem dX10_drawn_17 : decode cX10_drawn 17 = .ok (.invokevirtual 330, 3) := by decide +kernel
theorem dX10_drawn_20 : decode cX10_drawn 20 = .ok (.ifCond .ne 6, 3) := by decide +kernel
theorem dX10_drawn_23 : decode cX10_drawn 23 = .ok (.bipush (-2), 2) := by decide +kernel
theorem dX10_drawn_25 : decode cX10_drawn 25 = .ok (.ireturn, 1) := by decide +kernel
theorem dX10_drawn_26 : decode cX10_drawn 26 = .ok (.aload_n 0, 1) := by decide +kernel
theorem dX10_drawn_27 : decode cX10_drawn 27 = .ok (.iload_n 2, 1) := by decide +kernel
theorem dX10_drawn_28 : decode cX10_drawn 28 = .ok (.putfield 487, 3) := by decide +kernel
theorem dX10_drawn_31 : decode cX10_drawn 31 = .ok (.iconst 0, 1) := by decide +kernel
theorem dX10_drawn_32 : decode cX10_drawn 32 = .ok (.istore 5, 2) := by decide +kernel
theorem dX10_drawn_34 : decode cX10_drawn 34 = .ok (.iload 5, 2) := by decide +kernel
theorem dX10_drawn_36 : decode cX10_drawn 36 = .ok (.iload_n 3, 1) := by decide +kernel
theorem dX10_drawn_37 : decode cX10_drawn 37 = .ok (.if_icmp .ge 13, 3) := by decide +kernel
theorem dX10_drawn_40 : decode cX10_drawn 40 = .ok (.aload_n 0, 1) := by decide +kernel
theorem dX10_drawn_41 : decode cX10_drawn 41 = .ok (.invokevirtual 494, 3) := by decide +kernel
theorem dX10_drawn_44 : decode cX10_drawn 44 = .ok (.iinc 5 1, 3) := by decide +kernel
theorem dX10_drawn_47 : decode cX10_drawn 47 = .ok (.goto (-13), 3) := by decide +kernel
theorem dX10_drawn_50 : decode cX10_drawn 50 = .ok (.aload_n 0, 1) := by decide +kernel
theorem dX10_drawn_51 : decode cX10_drawn 51 = .ok (.iload 4, 2) := by decide +kernel
theorem dX10_drawn_53 : decode cX10_drawn 53 = .ok (.invokevirtual 379, 3) := by decide +kernel
theorem dX10_drawn_56 : decode cX10_drawn 56 = .ok (.ireturn, 1) := by decide +kernel
theorem cdX10_drawDeed : Cond.code yX10_drawDeed cX10_drawDeed 3 none ∈ tz := tc7 232 rfl rfl
theorem lVX10_494 : LV RX10 494 yX10_drawDeed cX10_drawDeed 3 none 0 := ⟨tw 1788 (by decide +kernel) rfl, tw 1790 (by decide +kernel) rfl, tw 111 (by decide +kernel) rfl, tw 128 (by decide +kernel) rfl, cdX10_drawDeed, ⟨by decide +kernel, by decide +kernel, by decide +kernel⟩⟩
abbrev rmX10_drawn : Room := { frames := 6, cells := 0, slots := 0, locals := 132 }
def bX10_drawn_34 (k34 : Nat → Int32 → Int32 → Int32 → AH → Option (Int32 × AH)) (a0 : Nat) (l3 : Int32) (l4 : Int32) (l5 : Int32) (z : AH) : Option (Int32 × AH) :=
  if l3 ≤ l5 then (
    (fX10_ofState a0 l4 z).bind fun x53 =>
    some (x53, z)
  ) else (
    (fX10_drawDeed a0 z).bind fun z41 =>
    nm (l5 + (1 : Int32)) fun v44 =>
    k34 a0 l3 l4 v44 z41
  )
set_option maxHeartbeats 4000000 in
set_option maxRecDepth 100000 in
theorem kbX10_drawn_34 {p : Program} {l : Launch} {e : Env} {s : State} {m : MethodId} {args : Array Value} {below : List Frame} {meth : Method} {c : Code} {G : GW} {r : Int32} {z' : AH} (C : Cx p m c cX10_drawn 6 s args RX10 G) (hlk : meth.locks = false) (hr : meth.sig.returnType = (some .int)) (k34 : Nat → Int32 → Int32 → Int32 → AH → Option (Int32 × AH)) (hk34 : ∀ (a0 : Nat) (l3 : Int32) (l4 : Int32) (l5 : Int32) (z : AH) (H : Heap) (locs : List Loc) (ls : Array Slot), k34 a0 l3 l4 l5 z = some (r, z') → Wb G z s H locs → lv_has ls 6 [(0, .ref (gB G + a0)), (3, .int l3), (4, .int l4), (5, .int l5)] → W p l e rmX10_drawn s m args below meth c H locs 0 0 (MQ below (Qi G r z') args s 0 0 (AA G)) (F0 m 34 ls [])) (a0 : Nat) (l3 : Int32) (l4 : Int32) (l5 : Int32) {z : AH} {H : Heap} {locs : List Loc} {ls : Array Slot} (h : bX10_drawn_34 k34 a0 l3 l4 l5 z = some (r, z')) (hW : Wb G z s H locs) (hl : lv_has ls 6 [(0, .ref (gB G + a0)), (3, .int l3), (4, .int l4), (5, .int l5)]) : W p l e rmX10_drawn s m args below meth c H locs 0 0 (MQ below (Qi G r z') args s 0 0 (AA G)) (F0 m 34 ls []) := by
  have hx := C.1
  have hb := C.2.1
  unfold bX10_drawn_34 at h
  refine lv_iload hx hb dX10_drawn_34 (lv_at hl 3 rfl) ?_
  refine lv_iload_n hx hb dX10_drawn_36 rfl (lv_at hl 1 rfl) ?_
  refine lv_icmp_ge (tgt := 50) hx hb dX10_drawn_37 (by decide) (fun c37 => ?_) (fun c37 => ?_)
  · have h := ite_t c37 h
    refine lv_aload_n hx hb dX10_drawn_50 rfl (lv_at hl 0 rfl) ?_
    refine lv_iload hx hb dX10_drawn_51 (lv_at hl 2 rfl) ?_
    obtain ⟨x53, hq, h⟩ := ob h
    refine wz_rI (c' := 0) (s' := 0) hW (wz_runV (rest := []) C hW lVX10_379 (ck hq).1 rfl (ctX10_ofState l G a0 l4 z hq) ⟨⟨rfl, rfl⟩, Nat.le_of_ble_eq_true rfl, Nat.le_of_ble_eq_true rfl⟩ rfl hl.1 rfl (Nat.le_of_ble_eq_true rfl) dX10_drawn_53 ⟨Nat.le_of_ble_eq_true rfl, Nat.le_of_ble_eq_true rfl⟩) rfl rfl (fun H locs hW => ?_)
    exact wz_iretE C hlk hr (so2 h).1 (so2 h).2 hW dX10_drawn_56
  · have h := ite_f c37 h
    refine lv_aload_n hx hb dX10_drawn_40 rfl (lv_at hl 0 rfl) ?_
    obtain ⟨z41, hq, h⟩ := ob h
    refine wz_rV (c' := 0) (s' := 0) hW (wz_runV (rest := []) C hW lVX10_494 (ck hq).1 rfl (ctX10_drawDeed l G a0 z hq) ⟨⟨rfl, rfl⟩, Nat.le_of_ble_eq_true rfl, Nat.le_of_ble_eq_true rfl⟩ rfl hl.1 rfl (Nat.le_of_ble_eq_true rfl) dX10_drawn_41 ⟨Nat.le_of_ble_eq_true rfl, Nat.le_of_ble_eq_true rfl⟩) rfl rfl (fun H locs hW => ?_)
    obtain ⟨v44, ev44⟩ : ∃ y : Int32, y = (l5 + (1 : Int32)) := ⟨_, rfl⟩
    have h := nm_to h ev44
    refine lv_iinc (v := v44) (lv' := [(5, .int v44), (0, .ref (gB G + a0)), (3, .int l3), (4, .int l4)]) hx hb dX10_drawn_44 hl (k := 3) rfl (by rw [ev44]; rfl) (by decide) rfl (fun ls hl => ?_)
    refine lv_goto (tgt := 34) hx hb dX10_drawn_47 (by decide) ?_
    exact hk34 a0 l3 l4 v44 z41 _ _ _ h hW (lv_sub hl [1, 2, 3, 0] rfl)
def fX10_drawn_34 : Nat → Nat → Int32 → Int32 → Int32 → AH → Option (Int32 × AH)
  | 0, _, _, _, _, _ => none
  | n + 1, a0, l3, l4, l5, z => bX10_drawn_34 (fX10_drawn_34 n) a0 l3 l4 l5 z
theorem klX10_drawn_34 {p : Program} {l : Launch} {e : Env} {s : State} {m : MethodId} {args : Array Value} {below : List Frame} {meth : Method} {c : Code} {G : GW} {r : Int32} {z' : AH} (C : Cx p m c cX10_drawn 6 s args RX10 G) (hlk : meth.locks = false) (hr : meth.sig.returnType = (some .int)) : ∀ (n : Nat) (a0 : Nat) (l3 : Int32) (l4 : Int32) (l5 : Int32) (z : AH) (H : Heap) (locs : List Loc) (ls : Array Slot), fX10_drawn_34 n a0 l3 l4 l5 z = some (r, z') → Wb G z s H locs → lv_has ls 6 [(0, .ref (gB G + a0)), (3, .int l3), (4, .int l4), (5, .int l5)] → W p l e rmX10_drawn s m args below meth c H locs 0 0 (MQ below (Qi G r z') args s 0 0 (AA G)) (F0 m 34 ls []) := by
  intro n
  induction n with
  | zero => intro a0 l3 l4 l5 z H locs ls h; have h : (none : Option (Int32 × AH)) = some (r, z') := h; cases h
  | succ n ih => intro a0 l3 l4 l5 z H locs ls h hW hl; exact kbX10_drawn_34 C hlk hr (fX10_drawn_34 n) (fun a0 l3 l4 l5 z H locs ls h hW hl => ih a0 l3 l4 l5 z H locs ls h hW hl) a0 l3 l4 l5 h hW hl
def fX10_drawn (a0 : Nat) (l1 : Int32) (l2 : Int32) (l3 : Int32) (l4 : Int32) (z : AH) : Option (Int32 × AH) :=
  if isO 9 z a0 = true then
    (pF 9 0 z a0 (.int (0 : Int32))).bind fun z2 =>
    if (fX10_in l3 (0 : Int32) (60 : Int32)) = (0 : Int32) then (
      some ((-2 : Int32), z2)
    ) else (
      b2 (fX10_hand a0 l1 z2) fun x17 z17 =>
      if x17 = (0 : Int32) then (
        some ((-2 : Int32), z17)
      ) else (
        (pF 9 52 z17 a0 (.int l2)).bind fun z28 =>
        fX10_drawn_34 FU a0 l3 l4 (0 : Int32) z28
      )
    )
  else none
set_option maxHeartbeats 4000000 in
set_option maxRecDepth 100000 in
theorem ctX10_drawn (l : Launch) (G : GW) (a0 : Nat) (l1 : Int32) (l2 : Int32) (l3 : Int32) (l4 : Int32) (z : AH) {r : Int32} {z' : AH} (h : fX10_drawn a0 l1 l2 l3 l4 z = some (r, z')) : Met l yX10_drawn (wy yX10_drawn cX10_drawn 6 (some .int)) rmX10_drawn (Pz G [.ref (gB G + a0), .int l1, .int l2, .int l3, .int l4] z) (Qi G r z') 0 0 (AA G) := by
  refine wz_ent (own := RX10) (by decide +kernel) rfl (fun p e s m below meth c ls C hlk hr hin hW hl => ?_) (Nat.le_of_ble_eq_true rfl)
  have hl : lv_has ls 6 [(0, .ref (gB G + a0)), (1, .int l1), (2, .int l2), (3, .int l3), (4, .int l4)] := hl
  have hx := C.1
  have hb := C.2.1
  unfold fX10_drawn at h
  obtain ⟨-, h⟩ := ck h
  refine lv_aload_n hx hb dX10_drawn_0 rfl (lv_at hl 0 rfl) ?_
  refine lv_iconst (v := 0) hx hb dX10_drawn_1 (by decide) ?_
  obtain ⟨z2, hg, h⟩ := ob h
  refine wz_put (v := (.int (0 : Int32))) C hW flX10_81 rfl rfl hg dX10_drawn_2 (fun H locs hW => ?_)
  refine lv_iload_n hx hb dX10_drawn_5 rfl (lv_at hl 3 rfl) ?_
  refine lv_iconst (v := 0) hx hb dX10_drawn_6 (by decide) ?_
  refine lv_bipush (v := 60) hx hb dX10_drawn_7 (by decide) ?_
  refine wz_rI (c' := 0) (s' := 0) hW (wz_runS (rest := []) C hW lTX10_93 (ctX10_in l G l3 (0 : Int32) (60 : Int32) z2 rfl) ⟨⟨rfl, rfl⟩, Nat.le_of_ble_eq_true rfl, Nat.le_of_ble_eq_true rfl⟩ rfl hl.1 rfl (Nat.le_of_ble_eq_true rfl) dX10_drawn_9 ⟨Nat.le_of_ble_eq_true rfl, Nat.le_of_ble_eq_true rfl⟩) rfl rfl (fun H locs hW => ?_)
  refine lv_if_eq (tgt := 23) hx hb dX10_drawn_12 (by decide) (fun c12 => ?_) (fun c12 => ?_)
  · have h := ite_t c12 h
    refine lv_bipush (v := -2) hx hb dX10_drawn_23 (by decide) ?_
    exact wz_iretE C hlk hr (so2 h).1 (so2 h).2 hW dX10_drawn_25
  · have h := ite_f c12 h
    refine lv_aload_n hx hb dX10_drawn_15 rfl (lv_at hl 0 rfl) ?_
    refine lv_iload_n hx hb dX10_drawn_16 rfl (lv_at hl 1 rfl) ?_
    obtain ⟨x17, z17, hq, h⟩ := ob2 h
    refine wz_rI (c' := 0) (s' := 0) hW (wz_runV (rest := []) C hW lVX10_330 (ck hq).1 rfl (ctX10_hand l G a0 l1 z2 hq) ⟨⟨rfl, rfl⟩, Nat.le_of_ble_eq_true rfl, Nat.le_of_ble_eq_true rfl⟩ rfl hl.1 rfl (Nat.le_of_ble_eq_true rfl) dX10_drawn_17 ⟨Nat.le_of_ble_eq_true rfl, Nat.le_of_ble_eq_true rfl⟩) rfl rfl (fun H locs hW => ?_)
    refine lv_if_ne (tgt := 26) hx hb dX10_drawn_20 (by decide) (fun c20 => ?_) (fun c20 => ?_)
    · have h := ite_f c20 h
      refine lv_aload_n hx hb dX10_drawn_26 rfl (lv_at hl 0 rfl) ?_
      refine lv_iload_n hx hb dX10_drawn_27 rfl (lv_at hl 2 rfl) ?_
      obtain ⟨z28, hg, h⟩ := ob h
      refine wz_put (v := (.int l2)) C hW flX10_487 rfl rfl hg dX10_drawn_28 (fun H locs hW => ?_)
      refine lv_iconst (v := 0) hx hb dX10_drawn_31 (by decide) ?_
      refine lv_istore (lv' := [(5, .int (0 : Int32)), (0, .ref (gB G + a0)), (1, .int l1), (2, .int l2), (3, .int l3), (4, .int l4)]) hx hb dX10_drawn_32 hl (by decide) rfl (fun ls hl => ?_)
      exact klX10_drawn_34 C hlk hr FU a0 l3 l4 (0 : Int32) z28 _ _ _ h hW (lv_sub hl [1, 4, 5, 0] rfl)
    · have h := ite_t c20 h
      refine lv_bipush (v := -2) hx hb dX10_drawn_23 (by decide) ?_
      exact wz_iretE C hlk hr (so2 h).1 (so2 h).2 hW dX10_drawn_25
theorem dX10_need_0 : decode cX10_need 0 = .ok (.aload_n 0, 1) := by decide +kernel
theorem dX10_need_1 : decode cX10_need 1 = .ok (.iconst 0, 1) := by decide +kernel
theorem dX10_need_2 : decode cX10_need 2 = .ok (.putfield 81, 3) := by decide +kernel
theorem dX10_need_5 : decode cX10_need 5 = .ok (.iload_n 3, 1) := by decide +kernel
theorem dX10_need_6 : decode cX10_need 6 = .ok (.iconst 0, 1) := by decide +kernel
theorem dX10_need_7 : decode cX10_need 7 = .ok (.bipush 99, 2) := by decide +kernel
theorem dX10_need_9 : decode cX10_need 9 = .ok (.invokestatic 93, 3) := by decide +kernel
theorem dX10_need_12 : decode cX10_need 12 = .ok (.ifCond .eq 19, 3) := by decide +kernel
theorem dX10_need_15 : decode cX10_need 15 = .ok (.aload_n 0, 1) := by decide +kernel
theorem dX10_need_16 : decode cX10_need 16 = .ok (.iload_n 1, 1) := by decide +kernel
theorem dX10_need_17 : decode cX10_need 17 = .ok (.invokevirtual 330, 3) := by decide +kernel
theorem dX10_need_20 : decode cX10_need 20 = .ok (.ifCond .eq 11, 3) := by decide +kernel
theorem dX10_need_23 : decode cX10_need 23 = .ok (.aload_n 0, 1) := by decide +kernel
theorem dX10_need_24 : decode cX10_need 24 = .ok (.iload_n 2, 1) := by decide +kernel
theorem dX10_need_25 : decode cX10_need 25 = .ok (.invokevirtual 309, 3) := by decide +kernel
theorem dX10_need_28 : decode cX10_need 28 = .ok (.ifCond .ne 5, 3) := by decide +kernel
theorem dX10_need_31 : decode cX10_need 31 = .ok (.iconst (-1), 1) := by decide +kernel
theorem dX10_need_32 : decode cX10_need 32 = .ok (.ireturn, 1) := by decide +kernel
theorem dX10_need_33 : decode cX10_need 33 = .ok (.iconst 0, 1) := by decide +kernel
theorem dX10_need_34 : decode cX10_need 34 = .ok (.istore 4, 2) := by decide +kernel
theorem dX10_need_36 : decode cX10_need 36 = .ok (.iload 4, 2) := by decide +kernel
theorem dX10_need_38 : decode cX10_need 38 = .ok (.bipush 99, 2) := by decide +kernel
theorem dX10_need_40 : decode cX10_need 40 = .ok (.if_icmp .gt 54, 3) := by decide +kernel
theorem dX10_need_43 : decode cX10_need 43 = .ok (.aload_n 0, 1) := by decide +kernel
theorem dX10_need_44 : decode cX10_need 44 = .ok (.invokevirtual 282, 3) := by decide +kernel
theorem dX10_need_47 : decode cX10_need 47 = .ok (.aload_n 0, 1) := by decide +kernel
theorem dX10_need_48 : decode cX10_need 48 = .ok (.getfield 44, 3) := by decide +kernel
theorem dX10_need_51 : decode cX10_need 51 = .ok (.iload_n 2, 1) := by decide +kernel
theorem dX10_need_52 : decode cX10_need 52 = .ok (.iload 4, 2) := by decide +kernel
theorem dX10_need_54 : decode cX10_need 54 = .ok (.iastore, 1) := by decide +kernel
theorem dX10_need_55 : decode cX10_need 55 = .ok (.aload_n 0, 1) := by decide +kernel
theorem dX10_need_56 : decode cX10_need 56 = .ok (.invokevirtual 285, 3) := by decide +kernel
theorem dX10_need_59 : decode cX10_need 59 = .ok (.aload_n 0, 1) := by decide +kernel
theorem dX10_need_60 : decode cX10_need 60 = .ok (.getfield 306, 3) := by decide +kernel
theorem dX10_need_63 : decode cX10_need 63 = .ok (.iload_n 3, 1) := by decide +kernel
theorem dX10_need_64 : decode cX10_need 64 = .ok (.if_icmp .ge 10, 3) := by decide +kernel
theorem dX10_need_67 : decode cX10_need 67 = .ok (.aload_n 0, 1) := by decide +kernel
theorem dX10_need_68 : decode cX10_need 68 = .ok (.invokevirtual 364, 3) := by decide +kernel
theorem dX10_need_71 : decode cX10_need 71 = .ok (.goto (-12), 3) := by decide +kernel
theorem dX10_need_74 : decode cX10_need 74 = .ok (.aload_n 0, 1) := by decide +kernel
theorem dX10_need_75 : decode cX10_need 75 = .ok (.getfield 288, 3) := by decide +kernel
theorem dX10_need_78 : decode cX10_need 78 = .ok (.iload_n 2, 1) := by decide +kernel
theorem dX10_need_79 : decode cX10_need 79 = .ok (.invokestatic 85, 3) := by decide +kernel
theorem dX10_need_82 : decode cX10_need 82 = .ok (.ifCond .ne 6, 3) := by decide +kernel
theorem dX10_need_85 : decode cX10_need 85 = .ok (.iload 4, 2) := by decide +kernel
theorem dX10_need_87 : decode cX10_need 87 = .ok (.ireturn, 1) := by decide +kernel
theorem dX10_need_88 : decode cX10_need 88 = .ok (.iinc 4 1, 3) := by decide +kernel
theorem dX10_need_91 : decode cX10_need 91 = .ok (.goto (-55), 3) := by decide +kernel
theorem dX10_need_94 : decode cX10_need 94 = .ok (.iconst (-1), 1) := by decide +kernel
theorem dX10_need_95 : decode cX10_need 95 = .ok (.ireturn, 1) := by decide +kernel
abbrev rmX10_need : Room := { frames := 4, cells := 0, slots := 0, locals := 89 }
def bX10_need_59 (k36 : Nat → Int32 → Int32 → Int32 → AH → Option (Int32 × AH)) (k59 : Nat → Int32 → Int32 → Int32 → AH → Option (Int32 × AH)) (a0 : Nat) (l2 : Int32) (l3 : Int32) (l4 : Int32) (z : AH) : Option (Int32 × AH) :=
  (gI 9 37 z a0).bind fun x60 =>
  if l3 ≤ x60 then (
    (gI 9 31 z a0).bind fun x75 =>
    if (fX10_has x75 l2) = (0 : Int32) then (
      some (l4, z)
    ) else (
      nm (l4 + (1 : Int32)) fun v88 =>
      k36 a0 l2 l3 v88 z
    )
  ) else (
    (fX10_goesOn a0 z).bind fun z68 =>
    k59 a0 l2 l3 l4 z68
  )
set_option maxHeartbeats 4000000 in
set_option maxRecDepth 100000 in
theorem kbX10_need_59 {p : Program} {l : Launch} {e : Env} {s : State} {m : MethodId} {args : Array Value} {below : List Frame} {meth : Method} {c : Code} {G : GW} {r : Int32} {z' : AH} (C : Cx p m c cX10_need 5 s args RX10 G) (hlk : meth.locks = false) (hr : meth.sig.returnType = (some .int)) (k36 : Nat → Int32 → Int32 → Int32 → AH → Option (Int32 × AH)) (k59 : Nat → Int32 → Int32 → Int32 → AH → Option (Int32 × AH)) (hk36 : ∀ (a0 : Nat) (l2 : Int32) (l3 : Int32) (l4 : Int32) (z : AH) (H : Heap) (locs : List Loc) (ls : Array Slot), k36 a0 l2 l3 l4 z = some (r, z') → Wb G z s H locs → lv_has ls 5 [(0, .ref (gB G + a0)), (2, .int l2), (3, .int l3), (4, .int l4)] → W p l e rmX10_need s m args below meth c H locs 0 0 (MQ below (Qi G r z') args s 0 0 (AA G)) (F0 m 36 ls [])) (hk59 : ∀ (a0 : Nat) (l2 : Int32) (l3 : Int32) (l4 : Int32) (z : AH) (H : Heap) (locs : List Loc) (ls : Array Slot), k59 a0 l2 l3 l4 z = some (r, z') → Wb G z s H locs → lv_has ls 5 [(0, .ref (gB G + a0)), (2, .int l2), (3, .int l3), (4, .int l4)] → W p l e rmX10_need s m args below meth c H locs 0 0 (MQ below (Qi G r z') args s 0 0 (AA G)) (F0 m 59 ls [])) (a0 : Nat) (l2 : Int32) (l3 : Int32) (l4 : Int32) {z : AH} {H : Heap} {locs : List Loc} {ls : Array Slot} (h : bX10_need_59 k36 k59 a0 l2 l3 l4 z = some (r, z')) (hW : Wb G z s H locs) (hl : lv_has ls 5 [(0, .ref (gB G + a0)), (2, .int l2), (3, .int l3), (4, .int l4)]) : W p l e rmX10_need s m args below meth c H locs 0 0 (MQ below (Qi G r z') args s 0 0 (AA G)) (F0 m 59 ls []) := by
  have hx := C.1
  have hb := C.2.1
  unfold bX10_need_59 at h
  refine lv_aload_n hx hb dX10_need_59 rfl (lv_at hl 0 rfl) ?_
  obtain ⟨x60, hg, h⟩ := ob h
  refine wz_gI C hW flX10_306 hg dX10_need_60 ?_
  refine lv_iload_n hx hb dX10_need_63 rfl (lv_at hl 2 rfl) ?_
  refine lv_icmp_ge (tgt := 74) hx hb dX10_need_64 (by decide) (fun c64 => ?_) (fun c64 => ?_)
  · have h := ite_t c64 h
    refine lv_aload_n hx hb dX10_need_74 rfl (lv_at hl 0 rfl) ?_
    obtain ⟨x75, hg, h⟩ := ob h
    refine wz_gI C hW flX10_288 hg dX10_need_75 ?_
    refine lv_iload_n hx hb dX10_need_78 rfl (lv_at hl 1 rfl) ?_
    refine wz_rI (c' := 0) (s' := 0) hW (wz_runS (rest := []) C hW lTX10_85 (ctX10_has l G x75 l2 z rfl) ⟨⟨rfl, rfl⟩, Nat.le_of_ble_eq_true rfl, Nat.le_of_ble_eq_true rfl⟩ rfl hl.1 rfl (Nat.le_of_ble_eq_true rfl) dX10_need_79 ⟨Nat.le_of_ble_eq_true rfl, Nat.le_of_ble_eq_true rfl⟩) rfl rfl (fun H locs hW => ?_)
    refine lv_if_ne (tgt := 88) hx hb dX10_need_82 (by decide) (fun c82 => ?_) (fun c82 => ?_)
    · have h := ite_f c82 h
      obtain ⟨v88, ev88⟩ : ∃ y : Int32, y = (l4 + (1 : Int32)) := ⟨_, rfl⟩
      have h := nm_to h ev88
      refine lv_iinc (v := v88) (lv' := [(4, .int v88), (0, .ref (gB G + a0)), (2, .int l2), (3, .int l3)]) hx hb dX10_need_88 hl (k := 3) rfl (by rw [ev88]; rfl) (by decide) rfl (fun ls hl => ?_)
      refine lv_goto (tgt := 36) hx hb dX10_need_91 (by decide) ?_
      exact hk36 a0 l2 l3 v88 z _ _ _ h hW (lv_sub hl [1, 2, 3, 0] rfl)
    · have h := ite_t c82 h
      refine lv_iload hx hb dX10_need_85 (lv_at hl 3 rfl) ?_
      exact wz_iretE C hlk hr (so2 h).1 (so2 h).2 hW dX10_need_87
  · have h := ite_f c64 h
    refine lv_aload_n hx hb dX10_need_67 rfl (lv_at hl 0 rfl) ?_
    obtain ⟨z68, hq, h⟩ := ob h
    refine wz_rV (c' := 0) (s' := 0) hW (wz_runV (rest := []) C hW lVX10_364 (ck hq).1 rfl (ctX10_goesOn l G a0 z hq) ⟨⟨rfl, rfl⟩, Nat.le_of_ble_eq_true rfl, Nat.le_of_ble_eq_true rfl⟩ rfl hl.1 rfl (Nat.le_of_ble_eq_true rfl) dX10_need_68 ⟨Nat.le_of_ble_eq_true rfl, Nat.le_of_ble_eq_true rfl⟩) rfl rfl (fun H locs hW => ?_)
    refine lv_goto (tgt := 59) hx hb dX10_need_71 (by decide) ?_
    exact hk59 a0 l2 l3 l4 z68 _ _ _ h hW (lv_sub hl [0, 1, 2, 3] rfl)
def fX10_need_59 (k36 : Nat → Int32 → Int32 → Int32 → AH → Option (Int32 × AH)) : Nat → Nat → Int32 → Int32 → Int32 → AH → Option (Int32 × AH)
  | 0, _, _, _, _, _ => none
  | n + 1, a0, l2, l3, l4, z => bX10_need_59 k36 (fX10_need_59 k36 n) a0 l2 l3 l4 z
theorem klX10_need_59 {p : Program} {l : Launch} {e : Env} {s : State} {m : MethodId} {args : Array Value} {below : List Frame} {meth : Method} {c : Code} {G : GW} {r : Int32} {z' : AH} (C : Cx p m c cX10_need 5 s args RX10 G) (hlk : meth.locks = false) (hr : meth.sig.returnType = (some .int)) (k36 : Nat → Int32 → Int32 → Int32 → AH → Option (Int32 × AH)) (hk36 : ∀ (a0 : Nat) (l2 : Int32) (l3 : Int32) (l4 : Int32) (z : AH) (H : Heap) (locs : List Loc) (ls : Array Slot), k36 a0 l2 l3 l4 z = some (r, z') → Wb G z s H locs → lv_has ls 5 [(0, .ref (gB G + a0)), (2, .int l2), (3, .int l3), (4, .int l4)] → W p l e rmX10_need s m args below meth c H locs 0 0 (MQ below (Qi G r z') args s 0 0 (AA G)) (F0 m 36 ls [])) : ∀ (n : Nat) (a0 : Nat) (l2 : Int32) (l3 : Int32) (l4 : Int32) (z : AH) (H : Heap) (locs : List Loc) (ls : Array Slot), fX10_need_59 k36 n a0 l2 l3 l4 z = some (r, z') → Wb G z s H locs → lv_has ls 5 [(0, .ref (gB G + a0)), (2, .int l2), (3, .int l3), (4, .int l4)] → W p l e rmX10_need s m args below meth c H locs 0 0 (MQ below (Qi G r z') args s 0 0 (AA G)) (F0 m 59 ls []) := by
  intro n
  induction n with
  | zero => intro a0 l2 l3 l4 z H locs ls h; have h : (none : Option (Int32 × AH)) = some (r, z') := h; cases h
  | succ n ih => intro a0 l2 l3 l4 z H locs ls h hW hl; exact kbX10_need_59 C hlk hr k36 (fX10_need_59 k36 n) hk36 (fun a0 l2 l3 l4 z H locs ls h hW hl => ih a0 l2 l3 l4 z H locs ls h hW hl) a0 l2 l3 l4 h hW hl
def bX10_need_36 (k36 : Nat → Int32 → Int32 → Int32 → AH → Option (Int32 × AH)) (a0 : Nat) (l2 : Int32) (l3 : Int32) (l4 : Int32) (z : AH) : Option (Int32 × AH) :=
  if (99 : Int32) < l4 then (
    some ((-1 : Int32), z)
  ) else (
    (fX10_begin a0 z).bind fun z44 =>
    (gN 9 28 z44 a0).bind fun b48 =>
    (stI 0 z44 b48 l2 l4).bind fun z54 =>
    (fX10_falls a0 z54).bind fun z56 =>
    fX10_need_59 k36 FU a0 l2 l3 l4 z56
  )
set_option maxHeartbeats 4000000 in
set_option maxRecDepth 100000 in
theorem kbX10_need_36 {p : Program} {l : Launch} {e : Env} {s : State} {m : MethodId} {args : Array Value} {below : List Frame} {meth : Method} {c : Code} {G : GW} {r : Int32} {z' : AH} (C : Cx p m c cX10_need 5 s args RX10 G) (hlk : meth.locks = false) (hr : meth.sig.returnType = (some .int)) (k36 : Nat → Int32 → Int32 → Int32 → AH → Option (Int32 × AH)) (hk36 : ∀ (a0 : Nat) (l2 : Int32) (l3 : Int32) (l4 : Int32) (z : AH) (H : Heap) (locs : List Loc) (ls : Array Slot), k36 a0 l2 l3 l4 z = some (r, z') → Wb G z s H locs → lv_has ls 5 [(0, .ref (gB G + a0)), (2, .int l2), (3, .int l3), (4, .int l4)] → W p l e rmX10_need s m args below meth c H locs 0 0 (MQ below (Qi G r z') args s 0 0 (AA G)) (F0 m 36 ls [])) (a0 : Nat) (l2 : Int32) (l3 : Int32) (l4 : Int32) {z : AH} {H : Heap} {locs : List Loc} {ls : Array Slot} (h : bX10_need_36 k36 a0 l2 l3 l4 z = some (r, z')) (hW : Wb G z s H locs) (hl : lv_has ls 5 [(0, .ref (gB G + a0)), (2, .int l2), (3, .int l3), (4, .int l4)]) : W p l e rmX10_need s m args below meth c H locs 0 0 (MQ below (Qi G r z') args s 0 0 (AA G)) (F0 m 36 ls []) := by
  have hx := C.1
  have hb := C.2.1
  unfold bX10_need_36 at h
  refine lv_iload hx hb dX10_need_36 (lv_at hl 3 rfl) ?_
  refine lv_bipush (v := 99) hx hb dX10_need_38 (by decide) ?_
  refine lv_icmp_gt (tgt := 94) hx hb dX10_need_40 (by decide) (fun c40 => ?_) (fun c40 => ?_)
  · have h := ite_t c40 h
    refine lv_iconst (v := -1) hx hb dX10_need_94 (by decide) ?_
    exact wz_iretE C hlk hr (so2 h).1 (so2 h).2 hW dX10_need_95
  · have h := ite_f c40 h
    refine lv_aload_n hx hb dX10_need_43 rfl (lv_at hl 0 rfl) ?_
    obtain ⟨z44, hq, h⟩ := ob h
    refine wz_rV (c' := 0) (s' := 0) hW (wz_runV (rest := []) C hW lVX10_282 (ck hq).1 rfl (ctX10_begin l G a0 z hq) ⟨⟨rfl, rfl⟩, Nat.le_of_ble_eq_true rfl, Nat.le_of_ble_eq_true rfl⟩ rfl hl.1 rfl (Nat.le_of_ble_eq_true rfl) dX10_need_44 ⟨Nat.le_of_ble_eq_true rfl, Nat.le_of_ble_eq_true rfl⟩) rfl rfl (fun H locs hW => ?_)
    refine lv_aload_n hx hb dX10_need_47 rfl (lv_at hl 0 rfl) ?_
    obtain ⟨b48, hg, h⟩ := ob h
    refine wz_gN C hW flX10_44 hg dX10_need_48 ?_
    refine lv_iload_n hx hb dX10_need_51 rfl (lv_at hl 1 rfl) ?_
    refine lv_iload hx hb dX10_need_52 (lv_at hl 3 rfl) ?_
    obtain ⟨z54, hg, h⟩ := ob h
    refine wz_ast C hW hg dX10_need_54 (fun H locs hW => ?_)
    refine lv_aload_n hx hb dX10_need_55 rfl (lv_at hl 0 rfl) ?_
    obtain ⟨z56, hq, h⟩ := ob h
    refine wz_rV (c' := 0) (s' := 0) hW (wz_runV (rest := []) C hW lVX10_285 (ck hq).1 rfl (ctX10_falls l G a0 z54 hq) ⟨⟨rfl, rfl⟩, Nat.le_of_ble_eq_true rfl, Nat.le_of_ble_eq_true rfl⟩ rfl hl.1 rfl (Nat.le_of_ble_eq_true rfl) dX10_need_56 ⟨Nat.le_of_ble_eq_true rfl, Nat.le_of_ble_eq_true rfl⟩) rfl rfl (fun H locs hW => ?_)
    exact klX10_need_59 C hlk hr k36 hk36 FU a0 l2 l3 l4 z56 _ _ _ h hW (lv_sub hl [0, 1, 2, 3] rfl)
def fX10_need_36 : Nat → Nat → Int32 → Int32 → Int32 → AH → Option (Int32 × AH)
  | 0, _, _, _, _, _ => none
  | n + 1, a0, l2, l3, l4, z => bX10_need_36 (fX10_need_36 n) a0 l2 l3 l4 z
theorem klX10_need_36 {p : Program} {l : Launch} {e : Env} {s : State} {m : MethodId} {args : Array Value} {below : List Frame} {meth : Method} {c : Code} {G : GW} {r : Int32} {z' : AH} (C : Cx p m c cX10_need 5 s args RX10 G) (hlk : meth.locks = false) (hr : meth.sig.returnType = (some .int)) : ∀ (n : Nat) (a0 : Nat) (l2 : Int32) (l3 : Int32) (l4 : Int32) (z : AH) (H : Heap) (locs : List Loc) (ls : Array Slot), fX10_need_36 n a0 l2 l3 l4 z = some (r, z') → Wb G z s H locs → lv_has ls 5 [(0, .ref (gB G + a0)), (2, .int l2), (3, .int l3), (4, .int l4)] → W p l e rmX10_need s m args below meth c H locs 0 0 (MQ below (Qi G r z') args s 0 0 (AA G)) (F0 m 36 ls []) := by
  intro n
  induction n with
  | zero => intro a0 l2 l3 l4 z H locs ls h; have h : (none : Option (Int32 × AH)) = some (r, z') := h; cases h
  | succ n ih => intro a0 l2 l3 l4 z H locs ls h hW hl; exact kbX10_need_36 C hlk hr (fX10_need_36 n) (fun a0 l2 l3 l4 z H locs ls h hW hl => ih a0 l2 l3 l4 z H locs ls h hW hl) a0 l2 l3 l4 h hW hl
def fX10_need (a0 : Nat) (l1 : Int32) (l2 : Int32) (l3 : Int32) (z : AH) : Option (Int32 × AH) :=
  if isO 9 z a0 = true then
    (pF 9 0 z a0 (.int (0 : Int32))).bind fun z2 =>
    if (fX10_in l3 (0 : Int32) (99 : Int32)) = (0 : Int32) then (
      some ((-1 : Int32), z2)
    ) else (
      b2 (fX10_hand a0 l1 z2) fun x17 z17 =>
      if x17 = (0 : Int32) then (
        some ((-1 : Int32), z17)
      ) else (
        (fX10_isThing a0 l2 z17).bind fun x25 =>
        if x25 = (0 : Int32) then (
          some ((-1 : Int32), z17)
        ) else (
          fX10_need_36 FU a0 l2 l3 (0 : Int32) z17
        )
      )
    )
  else none
set_option maxHeartbeats 4000000 in
set_option maxRecDepth 100000 in
theorem ctX10_need (l : Launch) (G : GW) (a0 : Nat) (l1 : Int32) (l2 : Int32) (l3 : Int32) (z : AH) {r : Int32} {z' : AH} (h : fX10_need a0 l1 l2 l3 z = some (r, z')) : Met l yX10_need (wy yX10_need cX10_need 5 (some .int)) rmX10_need (Pz G [.ref (gB G + a0), .int l1, .int l2, .int l3] z) (Qi G r z') 0 0 (AA G) := by
  refine wz_ent (own := RX10) (by decide +kernel) rfl (fun p e s m below meth c ls C hlk hr hin hW hl => ?_) (Nat.le_of_ble_eq_true rfl)
  have hl : lv_has ls 5 [(0, .ref (gB G + a0)), (1, .int l1), (2, .int l2), (3, .int l3)] := hl
  have hx := C.1
  have hb := C.2.1
  unfold fX10_need at h
  obtain ⟨-, h⟩ := ck h
  refine lv_aload_n hx hb dX10_need_0 rfl (lv_at hl 0 rfl) ?_
  refine lv_iconst (v := 0) hx hb dX10_need_1 (by decide) ?_
  obtain ⟨z2, hg, h⟩ := ob h
  refine wz_put (v := (.int (0 : Int32))) C hW flX10_81 rfl rfl hg dX10_need_2 (fun H locs hW => ?_)
  refine lv_iload_n hx hb dX10_need_5 rfl (lv_at hl 3 rfl) ?_
  refine lv_iconst (v := 0) hx hb dX10_need_6 (by decide) ?_
  refine lv_bipush (v := 99) hx hb dX10_need_7 (by decide) ?_
  refine wz_rI (c' := 0) (s' := 0) hW (wz_runS (rest := []) C hW lTX10_93 (ctX10_in l G l3 (0 : Int32) (99 : Int32) z2 rfl) ⟨⟨rfl, rfl⟩, Nat.le_of_ble_eq_true rfl, Nat.le_of_ble_eq_true rfl⟩ rfl hl.1 rfl (Nat.le_of_ble_eq_true rfl) dX10_need_9 ⟨Nat.le_of_ble_eq_true rfl, Nat.le_of_ble_eq_true rfl⟩) rfl rfl (fun H locs hW => ?_)
  refine lv_if_eq (tgt := 31) hx hb dX10_need_12 (by decide) (fun c12 => ?_) (fun c12 => ?_)
  · have h := ite_t c12 h
    refine lv_iconst (v := -1) hx hb dX10_need_31 (by decide) ?_
    exact wz_iretE C hlk hr (so2 h).1 (so2 h).2 hW dX10_need_32
  · have h := ite_f c12 h
    refine lv_aload_n hx hb dX10_need_15 rfl (lv_at hl 0 rfl) ?_
    refine lv_iload_n hx hb dX10_need_16 rfl (lv_at hl 1 rfl) ?_
    obtain ⟨x17, z17, hq, h⟩ := ob2 h
    refine wz_rI (c' := 0) (s' := 0) hW (wz_runV (rest := []) C hW lVX10_330 (ck hq).1 rfl (ctX10_hand l G a0 l1 z2 hq) ⟨⟨rfl, rfl⟩, Nat.le_of_ble_eq_true rfl, Nat.le_of_ble_eq_true rfl⟩ rfl hl.1 rfl (Nat.le_of_ble_eq_true rfl) dX10_need_17 ⟨Nat.le_of_ble_eq_true rfl, Nat.le_of_ble_eq_true rfl⟩) rfl rfl (fun H locs hW => ?_)
    refine lv_if_eq (tgt := 31) hx hb dX10_need_20 (by decide) (fun c20 => ?_) (fun c20 => ?_)
    · have h := ite_t c20 h
      refine lv_iconst (v := -1) hx hb dX10_need_31 (by decide) ?_
      exact wz_iretE C hlk hr (so2 h).1 (so2 h).2 hW dX10_need_32
    · have h := ite_f c20 h
      refine lv_aload_n hx hb dX10_need_23 rfl (lv_at hl 0 rfl) ?_
      refine lv_iload_n hx hb dX10_need_24 rfl (lv_at hl 2 rfl) ?_
      obtain ⟨x25, hq, h⟩ := ob h
      refine wz_rI (c' := 0) (s' := 0) hW (wz_runV (rest := []) C hW lVX10_309 (ck hq).1 rfl (ctX10_isThing l G a0 l2 z17 hq) ⟨⟨rfl, rfl⟩, Nat.le_of_ble_eq_true rfl, Nat.le_of_ble_eq_true rfl⟩ rfl hl.1 rfl (Nat.le_of_ble_eq_true rfl) dX10_need_25 ⟨Nat.le_of_ble_eq_true rfl, Nat.le_of_ble_eq_true rfl⟩) rfl rfl (fun H locs hW => ?_)
      refine lv_if_ne (tgt := 33) hx hb dX10_need_28 (by decide) (fun c28 => ?_) (fun c28 => ?_)
      · have h := ite_f c28 h
        refine lv_iconst (v := 0) hx hb dX10_need_33 (by decide) ?_
        refine lv_istore (lv' := [(4, .int (0 : Int32)), (0, .ref (gB G + a0)), (1, .int l1), (2, .int l2), (3, .int l3)]) hx hb dX10_need_34 hl (by decide) rfl (fun ls hl => ?_)
        exact klX10_need_36 C hlk hr FU a0 l2 l3 (0 : Int32) z17 _ _ _ h hW (lv_sub hl [1, 3, 4, 0] rfl)
      · have h := ite_t c28 h
        refine lv_iconst (v := -1) hx hb dX10_need_31 (by decide) ?_
        exact wz_iretE C hlk hr (so2 h).1 (so2 h).2 hW dX10_need_32
theorem dX10_keystone_0 : decode cX10_keystone 0 = .ok (.aload_n 0, 1) := by decide +kernel
theorem dX10_keystone_1 : decode cX10_keystone 1 = .ok (.iconst 0, 1) := by decide +kernel
theorem dX10_keystone_2 : decode cX10_keystone 2 = .ok (.putfield 81, 3) := by decide +kernel
theorem dX10_keystone_5 : decode cX10_keystone 5 = .ok (.aload_n 0, 1) := by decide +kernel
theorem dX10_keystone_6 : decode cX10_keystone 6 = .ok (.iload_n 1, 1) := by decide +kernel
theorem dX10_keystone_7 : decode cX10_keystone 7 = .ok (.invokevirtual 330, 3) := by decide +kernel
theorem dX10_keystone_10 : decode cX10_keystone 10 = .ok (.ifCond .ne 6, 3) := by decide +kernel
theorem dX10_keystone_13 : decode cX10_keystone 13 = .ok (.bipush (-2), 2) := by decide +kernel
theorem dX10_keystone_15 : decode cX10_keystone 15 = .ok (.ireturn, 1) := by decide +kernel
theorem dX10_keystone_16 : decode cX10_keystone 16 = .ok (.iconst (-1), 1) := by decide +kernel
theorem dX10_keystone_17 : decode cX10_keystone 17 = .ok (.istore_n 3, 1) := by decide +kernel
theorem dX10_keystone_18 : decode cX10_keystone 18 = .ok (.iconst (-1), 1) := by decide +kernel
theorem dX10_keystone_19 : decode cX10_keystone 19 = .ok (.istore 4, 2) := by decide +kernel
theorem dX10_keystone_21 : decode cX10_keystone 21 = .ok (.iconst 0, 1) := by decide +kernel
theorem dX10_keystone_22 : decode cX10_keystone 22 = .ok (.istore 5, 2) := by decide +kernel
theorem dX10_keystone_24 : decode cX10_keystone 24 = .ok (.iload 5, 2) := by decide +kernel
theorem dX10_keystone_26 : decode cX10_keystone 26 = .ok (.aload_n 0, 1) := by decide +kernel
theorem dX10_keystone_27 : decode cX10_keystone 27 = .ok (.getfield 276, 3) := by decide +kernel
theorem dX10_keystone_30 : decode cX10_keystone 30 = .ok (.if_icmp .ge 67, 3) := by decide +kernel
theorem dX10_keystone_33 : decode cX10_keystone 33 = .ok (.aload_n 0, 1) := by decide +kernel
theorem dX10_keystone_34 : decode cX10_keystone 34 = .ok (.getfield 288, 3) := by decide +kernel
theorem dX10_keystone_37 : decode cX10_keystone 37 = .ok (.iload 5, 2) := by decide +kernel
theorem dX10_keystone_39 : decode cX10_keystone 39 = .ok (.invokestatic 85, 3) := by decide +kernel
theorem dX10_keystone_42 : decode cX10_keystone 42 = .ok (.ifCond .eq 7, 3) := by decide +kernel
theorem dX10_keystone_45 : decode cX10_keystone 45 = .ok (.iconst (-1), 1) := by decide +kernel
theorem dX10_keystone_46 : decode cX10_keystone 46 = .ok (.goto 20, 3) := by decide +kernel
theorem dX10_keystone_49 : decode cX10_keystone 49 = .ok (.aload_n 0, 1) := by decide +kernel
theorem dX10_keystone_50 : decode cX10_keystone 50 = .ok (.getfield 50, 3) := by decide +kernel
