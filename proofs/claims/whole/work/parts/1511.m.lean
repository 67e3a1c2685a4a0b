theorem dX10_keystone_53 : decode cX10_keystone 53 = .ok (.iload 5, 2) := by decide +kernel
theorem dX10_keystone_55 : decode cX10_keystone 55 = .ok (.iaload, 1) := by decide +kernel
theorem dX10_keystone_56 : decode cX10_keystone 56 = .ok (.aload_n 0, 1) := by decide +kernel
theorem dX10_keystone_57 : decode cX10_keystone 57 = .ok (.getfield 288, 3) := by decide +kernel
theorem dX10_keystone_60 : decode cX10_keystone 60 = .ok (.iconst (-1), 1) := by decide +kernel
theorem dX10_keystone_61 : decode cX10_keystone 61 = .ok (.ixor, 1) := by decide +kernel
theorem dX10_keystone_62 : decode cX10_keystone 62 = .ok (.iand, 1) := by decide +kernel
theorem dX10_keystone_63 : decode cX10_keystone 63 = .ok (.invokestatic 385, 3) := by decide +kernel
theorem dX10_keystone_66 : decode cX10_keystone 66 = .ok (.istore 6, 2) := by decide +kernel
theorem dX10_keystone_68 : decode cX10_keystone 68 = .ok (.iload 6, 2) := by decide +kernel
theorem dX10_keystone_70 : decode cX10_keystone 70 = .ok (.iload 4, 2) := by decide +kernel
theorem dX10_keystone_72 : decode cX10_keystone 72 = .ok (.if_icmp .le 8, 3) := by decide +kernel
theorem dX10_keystone_75 : decode cX10_keystone 75 = .ok (.iload 5, 2) := by decide +kernel
theorem dX10_keystone_77 : decode cX10_keystone 77 = .ok (.goto 4, 3) := by decide +kernel
theorem dX10_keystone_80 : decode cX10_keystone 80 = .ok (.iload_n 3, 1) := by decide +kernel
theorem dX10_keystone_81 : decode cX10_keystone 81 = .ok (.istore_n 3, 1) := by decide +kernel
theorem dX10_keystone_82 : decode cX10_keystone 82 = .ok (.iload 4, 2) := by decide +kernel
theorem dX10_keystone_84 : decode cX10_keystone 84 = .ok (.iload 6, 2) := by decide +kernel
theorem dX10_keystone_86 : decode cX10_keystone 86 = .ok (.invokestatic 155, 3) := by decide +kernel
theorem dX10_keystone_89 : decode cX10_keystone 89 = .ok (.istore 4, 2) := by decide +kernel
theorem dX10_keystone_91 : decode cX10_keystone 91 = .ok (.iinc 5 1, 3) := by decide +kernel
theorem dX10_keystone_94 : decode cX10_keystone 94 = .ok (.goto (-70), 3) := by decide +kernel
theorem dX10_keystone_97 : decode cX10_keystone 97 = .ok (.iload_n 2, 1) := by decide +kernel
theorem dX10_keystone_98 : decode cX10_keystone 98 = .ok (.ifCond .eq 8, 3) := by decide +kernel
theorem dX10_keystone_101 : decode cX10_keystone 101 = .ok (.iload 4, 2) := by decide +kernel
theorem dX10_keystone_103 : decode cX10_keystone 103 = .ok (.goto 4, 3) := by decide +kernel
theorem dX10_keystone_106 : decode cX10_keystone 106 = .ok (.iload_n 3, 1) := by decide +kernel
theorem dX10_keystone_107 : decode cX10_keystone 107 = .ok (.ireturn, 1) := by decide +kernel
abbrev rmX10_keystone : Room := { frames := 4, cells := 0, slots := 0, locals := 89 }
def bX10_keystone_81 (k24 : Nat → Int32 → Int32 → Int32 → Int32 → AH → Option (Int32 × AH)) (a0 : Nat) (l2 : Int32) (l4 : Int32) (l5 : Int32) (l6 : Int32) (s0 : Int32) (z : AH) : Option (Int32 × AH) :=
  nm (fX10_greater l4 l6) fun v89 =>
  nm (l5 + (1 : Int32)) fun v91 =>
  k24 a0 l2 s0 v89 v91 z
set_option maxHeartbeats 4000000 in
set_option maxRecDepth 100000 in
theorem kbX10_keystone_81 {p : Program} {l : Launch} {e : Env} {s : State} {m : MethodId} {args : Array Value} {below : List Frame} {meth : Method} {c : Code} {G : GW} {r : Int32} {z' : AH} (C : Cx p m c cX10_keystone 7 s args RX10 G) (hlk : meth.locks = false) (hr : meth.sig.returnType = (some .int)) (k24 : Nat → Int32 → Int32 → Int32 → Int32 → AH → Option (Int32 × AH)) (hk24 : ∀ (a0 : Nat) (l2 : Int32) (l3 : Int32) (l4 : Int32) (l5 : Int32) (z : AH) (H : Heap) (locs : List Loc) (ls : Array Slot), k24 a0 l2 l3 l4 l5 z = some (r, z') → Wb G z s H locs → lv_has ls 7 [(0, .ref (gB G + a0)), (2, .int l2), (3, .int l3), (4, .int l4), (5, .int l5)] → W p l e rmX10_keystone s m args below meth c H locs 0 0 (MQ below (Qi G r z') args s 0 0 (AA G)) (F0 m 24 ls [])) (a0 : Nat) (l2 : Int32) (l4 : Int32) (l5 : Int32) (l6 : Int32) (s0 : Int32) {z : AH} {H : Heap} {locs : List Loc} {ls : Array Slot} (h : bX10_keystone_81 k24 a0 l2 l4 l5 l6 s0 z = some (r, z')) (hW : Wb G z s H locs) (hl : lv_has ls 7 [(0, .ref (gB G + a0)), (2, .int l2), (4, .int l4), (5, .int l5), (6, .int l6)]) : W p l e rmX10_keystone s m args below meth c H locs 0 0 (MQ below (Qi G r z') args s 0 0 (AA G)) (F0 m 81 ls [.int s0]) := by
  have hx := C.1
  have hb := C.2.1
  unfold bX10_keystone_81 at h
  refine lv_istore_n (lv' := [(3, .int s0), (0, .ref (gB G + a0)), (2, .int l2), (4, .int l4), (5, .int l5), (6, .int l6)]) hx hb dX10_keystone_81 rfl hl (by decide) rfl (fun ls hl => ?_)
  refine lv_iload hx hb dX10_keystone_82 (lv_at hl 3 rfl) ?_
  refine lv_iload hx hb dX10_keystone_84 (lv_at hl 5 rfl) ?_
  refine wz_rI (c' := 0) (s' := 0) hW (wz_runS (rest := []) C hW lTX10_155 (ctX10_greater l G l4 l6 z rfl) ⟨⟨rfl, rfl⟩, Nat.le_of_ble_eq_true rfl, Nat.le_of_ble_eq_true rfl⟩ rfl hl.1 rfl (Nat.le_of_ble_eq_true rfl) dX10_keystone_86 ⟨Nat.le_of_ble_eq_true rfl, Nat.le_of_ble_eq_true rfl⟩) rfl rfl (fun H locs hW => ?_)
  refine lv_topi (fun v89 ev89 => ?_)
  have h := nm_to h ev89
  refine lv_istore (lv' := [(4, .int v89), (3, .int s0), (0, .ref (gB G + a0)), (2, .int l2), (5, .int l5), (6, .int l6)]) hx hb dX10_keystone_89 hl (by decide) rfl (fun ls hl => ?_)
  obtain ⟨v91, ev91⟩ : ∃ y : Int32, y = (l5 + (1 : Int32)) := ⟨_, rfl⟩
  have h := nm_to h ev91
  refine lv_iinc (v := v91) (lv' := [(5, .int v91), (4, .int v89), (3, .int s0), (0, .ref (gB G + a0)), (2, .int l2), (6, .int l6)]) hx hb dX10_keystone_91 hl (k := 4) rfl (by rw [ev91]; rfl) (by decide) rfl (fun ls hl => ?_)
  refine lv_goto (tgt := 24) hx hb dX10_keystone_94 (by decide) ?_
  exact hk24 a0 l2 s0 v89 v91 z _ _ _ h hW (lv_sub hl [3, 4, 2, 1, 0] rfl)
def bX10_keystone_66 (k24 : Nat → Int32 → Int32 → Int32 → Int32 → AH → Option (Int32 × AH)) (a0 : Nat) (l2 : Int32) (l3 : Int32) (l4 : Int32) (l5 : Int32) (s0 : Int32) (z : AH) : Option (Int32 × AH) :=
  if s0 ≤ l4 then (
    bX10_keystone_81 k24 a0 l2 l4 l5 s0 l3 z
  ) else (
    bX10_keystone_81 k24 a0 l2 l4 l5 s0 l5 z
  )
set_option maxHeartbeats 4000000 in
set_option maxRecDepth 100000 in
theorem kbX10_keystone_66 {p : Program} {l : Launch} {e : Env} {s : State} {m : MethodId} {args : Array Value} {below : List Frame} {meth : Method} {c : Code} {G : GW} {r : Int32} {z' : AH} (C : Cx p m c cX10_keystone 7 s args RX10 G) (hlk : meth.locks = false) (hr : meth.sig.returnType = (some .int)) (k24 : Nat → Int32 → Int32 → Int32 → Int32 → AH → Option (Int32 × AH)) (hk24 : ∀ (a0 : Nat) (l2 : Int32) (l3 : Int32) (l4 : Int32) (l5 : Int32) (z : AH) (H : Heap) (locs : List Loc) (ls : Array Slot), k24 a0 l2 l3 l4 l5 z = some (r, z') → Wb G z s H locs → lv_has ls 7 [(0, .ref (gB G + a0)), (2, .int l2), (3, .int l3), (4, .int l4), (5, .int l5)] → W p l e rmX10_keystone s m args below meth c H locs 0 0 (MQ below (Qi G r z') args s 0 0 (AA G)) (F0 m 24 ls [])) (a0 : Nat) (l2 : Int32) (l3 : Int32) (l4 : Int32) (l5 : Int32) (s0 : Int32) {z : AH} {H : Heap} {locs : List Loc} {ls : Array Slot} (h : bX10_keystone_66 k24 a0 l2 l3 l4 l5 s0 z = some (r, z')) (hW : Wb G z s H locs) (hl : lv_has ls 7 [(0, .ref (gB G + a0)), (2, .int l2), (3, .int l3), (4, .int l4), (5, .int l5)]) : W p l e rmX10_keystone s m args below meth c H locs 0 0 (MQ below (Qi G r z') args s 0 0 (AA G)) (F0 m 66 ls [.int s0]) := by
  have hx := C.1
  have hb := C.2.1
  unfold bX10_keystone_66 at h
  refine lv_istore (lv' := [(6, .int s0), (0, .ref (gB G + a0)), (2, .int l2), (3, .int l3), (4, .int l4), (5, .int l5)]) hx hb dX10_keystone_66 hl (by decide) rfl (fun ls hl => ?_)
  refine lv_iload hx hb dX10_keystone_68 (lv_at hl 0 rfl) ?_
  refine lv_iload hx hb dX10_keystone_70 (lv_at hl 4 rfl) ?_
  refine lv_icmp_le (tgt := 80) hx hb dX10_keystone_72 (by decide) (fun c72 => ?_) (fun c72 => ?_)
  · have h := ite_t c72 h
    refine lv_iload_n hx hb dX10_keystone_80 rfl (lv_at hl 3 rfl) ?_
    exact kbX10_keystone_81 C hlk hr k24 hk24 a0 l2 l4 l5 s0 l3 h hW (lv_sub hl [1, 2, 4, 5, 0] rfl)
  · have h := ite_f c72 h
    refine lv_iload hx hb dX10_keystone_75 (lv_at hl 5 rfl) ?_
    refine lv_goto (tgt := 81) hx hb dX10_keystone_77 (by decide) ?_
    exact kbX10_keystone_81 C hlk hr k24 hk24 a0 l2 l4 l5 s0 l5 h hW (lv_sub hl [1, 2, 4, 5, 0] rfl)
def bX10_keystone_24 (k24 : Nat → Int32 → Int32 → Int32 → Int32 → AH → Option (Int32 × AH)) (a0 : Nat) (l2 : Int32) (l3 : Int32) (l4 : Int32) (l5 : Int32) (z : AH) : Option (Int32 × AH) :=
  (gI 9 26 z a0).bind fun x27 =>
  if x27 ≤ l5 then (
    if l2 = (0 : Int32) then (
      some (l3, z)
    ) else (
      some (l4, z)
    )
  ) else (
    (gI 9 31 z a0).bind fun x34 =>
    if (fX10_has x34 l5) = (0 : Int32) then (
      (gN 9 30 z a0).bind fun b50 =>
      (ixI 0 z b50 l5).bind fun x55 =>
      (gI 9 31 z a0).bind fun x57 =>
      (fX10_ones (x55 &&& (x57 ^^^ (-1 : Int32)))).bind fun x63 =>
      bX10_keystone_66 k24 a0 l2 l3 l4 l5 x63 z
    ) else (
      bX10_keystone_66 k24 a0 l2 l3 l4 l5 (-1 : Int32) z
    )
  )
set_option maxHeartbeats 4000000 in
set_option maxRecDepth 100000 in
theorem kbX10_keystone_24 {p : Program} {l : Launch} {e : Env} {s : State} {m : MethodId} {args : Array Value} {below : List Frame} {meth : Method} {c : Code} {G : GW} {r : Int32} {z' : AH} (C : Cx p m c cX10_keystone 7 s args RX10 G) (hlk : meth.locks = false) (hr : meth.sig.returnType = (some .int)) (k24 : Nat → Int32 → Int32 → Int32 → Int32 → AH → Option (Int32 × AH)) (hk24 : ∀ (a0 : Nat) (l2 : Int32) (l3 : Int32) (l4 : Int32) (l5 : Int32) (z : AH) (H : Heap) (locs : List Loc) (ls : Array Slot), k24 a0 l2 l3 l4 l5 z = some (r, z') → Wb G z s H locs → lv_has ls 7 [(0, .ref (gB G + a0)), (2, .int l2), (3, .int l3), (4, .int l4), (5, .int l5)] → W p l e rmX10_keystone s m args below meth c H locs 0 0 (MQ below (Qi G r z') args s 0 0 (AA G)) (F0 m 24 ls [])) (a0 : Nat) (l2 : Int32) (l3 : Int32) (l4 : Int32) (l5 : Int32) {z : AH} {H : Heap} {locs : List Loc} {ls : Array Slot} (h : bX10_keystone_24 k24 a0 l2 l3 l4 l5 z = some (r, z')) (hW : Wb G z s H locs) (hl : lv_has ls 7 [(0, .ref (gB G + a0)), (2, .int l2), (3, .int l3), (4, .int l4), (5, .int l5)]) : W p l e rmX10_keystone s m args below meth c H locs 0 0 (MQ below (Qi G r z') args s 0 0 (AA G)) (F0 m 24 ls []) := by
  have hx := C.1
  have hb := C.2.1
  unfold bX10_keystone_24 at h
  refine lv_iload hx hb dX10_keystone_24 (lv_at hl 4 rfl) ?_
  refine lv_aload_n hx hb dX10_keystone_26 rfl (lv_at hl 0 rfl) ?_
  obtain ⟨x27, hg, h⟩ := ob h
  refine wz_gI C hW flX10_276 hg dX10_keystone_27 ?_
  refine lv_icmp_ge (tgt := 97) hx hb dX10_keystone_30 (by decide) (fun c30 => ?_) (fun c30 => ?_)
  · have h := ite_t c30 h
    refine lv_iload_n hx hb dX10_keystone_97 rfl (lv_at hl 1 rfl) ?_
    refine lv_if_eq (tgt := 106) hx hb dX10_keystone_98 (by decide) (fun c98 => ?_) (fun c98 => ?_)
    · have h := ite_t c98 h
      refine lv_iload_n hx hb dX10_keystone_106 rfl (lv_at hl 2 rfl) ?_
      exact wz_iretE C hlk hr (so2 h).1 (so2 h).2 hW dX10_keystone_107
    · have h := ite_f c98 h
      refine lv_iload hx hb dX10_keystone_101 (lv_at hl 3 rfl) ?_
      refine lv_goto (tgt := 107) hx hb dX10_keystone_103 (by decide) ?_
      exact wz_iretE C hlk hr (so2 h).1 (so2 h).2 hW dX10_keystone_107
  · have h := ite_f c30 h
    refine lv_aload_n hx hb dX10_keystone_33 rfl (lv_at hl 0 rfl) ?_
    obtain ⟨x34, hg, h⟩ := ob h
    refine wz_gI C hW flX10_288 hg dX10_keystone_34 ?_
    refine lv_iload hx hb dX10_keystone_37 (lv_at hl 4 rfl) ?_
    refine wz_rI (c' := 0) (s' := 0) hW (wz_runS (rest := []) C hW lTX10_85 (ctX10_has l G x34 l5 z rfl) ⟨⟨rfl, rfl⟩, Nat.le_of_ble_eq_true rfl, Nat.le_of_ble_eq_true rfl⟩ rfl hl.1 rfl (Nat.le_of_ble_eq_true rfl) dX10_keystone_39 ⟨Nat.le_of_ble_eq_true rfl, Nat.le_of_ble_eq_true rfl⟩) rfl rfl (fun H locs hW => ?_)
    refine lv_if_eq (tgt := 49) hx hb dX10_keystone_42 (by decide) (fun c42 => ?_) (fun c42 => ?_)
    · have h := ite_t c42 h
      refine lv_aload_n hx hb dX10_keystone_49 rfl (lv_at hl 0 rfl) ?_
      obtain ⟨b50, hg, h⟩ := ob h
      refine wz_gN C hW flX10_50 hg dX10_keystone_50 ?_
      refine lv_iload hx hb dX10_keystone_53 (lv_at hl 4 rfl) ?_
      obtain ⟨x55, hg, h⟩ := ob h
      refine wz_ald C hW hg dX10_keystone_55 ?_
      refine lv_aload_n hx hb dX10_keystone_56 rfl (lv_at hl 0 rfl) ?_
      obtain ⟨x57, hg, h⟩ := ob h
      refine wz_gI C hW flX10_288 hg dX10_keystone_57 ?_
      refine lv_iconst (v := -1) hx hb dX10_keystone_60 (by decide) ?_
      refine lv_ixor hx hb dX10_keystone_61 ?_
      refine lv_iand hx hb dX10_keystone_62 ?_
      obtain ⟨x63, hq, h⟩ := ob h
      refine wz_rI (c' := 0) (s' := 0) hW (wz_runS (rest := []) C hW lTX10_385 (ctX10_ones l G (x55 &&& (x57 ^^^ (-1 : Int32))) z hq) ⟨⟨rfl, rfl⟩, Nat.le_of_ble_eq_true rfl, Nat.le_of_ble_eq_true rfl⟩ rfl hl.1 rfl (Nat.le_of_ble_eq_true rfl) dX10_keystone_63 ⟨Nat.le_of_ble_eq_true rfl, Nat.le_of_ble_eq_true rfl⟩) rfl rfl (fun H locs hW => ?_)
      exact kbX10_keystone_66 C hlk hr k24 hk24 a0 l2 l3 l4 l5 x63 h hW (lv_sub hl [0, 1, 2, 3, 4] rfl)
    · have h := ite_f c42 h
      refine lv_iconst (v := -1) hx hb dX10_keystone_45 (by decide) ?_
      refine lv_goto (tgt := 66) hx hb dX10_keystone_46 (by decide) ?_
      exact kbX10_keystone_66 C hlk hr k24 hk24 a0 l2 l3 l4 l5 (-1 : Int32) h hW (lv_sub hl [0, 1, 2, 3, 4] rfl)
def fX10_keystone_24 : Nat → Nat → Int32 → Int32 → Int32 → Int32 → AH → Option (Int32 × AH)
  | 0, _, _, _, _, _, _ => none
  | n + 1, a0, l2, l3, l4, l5, z => bX10_keystone_24 (fX10_keystone_24 n) a0 l2 l3 l4 l5 z
theorem klX10_keystone_24 {p : Program} {l : Launch} {e : Env} {s : State} {m : MethodId} {args : Array Value} {below : List Frame} {meth : Method} {c : Code} {G : GW} {r : Int32} {z' : AH} (C : Cx p m c cX10_keystone 7 s args RX10 G) (hlk : meth.locks = false) (hr : meth.sig.returnType = (some .int)) : ∀ (n : Nat) (a0 : Nat) (l2 : Int32) (l3 : Int32) (l4 : Int32) (l5 : Int32) (z : AH) (H : Heap) (locs : List Loc) (ls : Array Slot), fX10_keystone_24 n a0 l2 l3 l4 l5 z = some (r, z') → Wb G z s H locs → lv_has ls 7 [(0, .ref (gB G + a0)), (2, .int l2), (3, .int l3), (4, .int l4), (5, .int l5)] → W p l e rmX10_keystone s m args below meth c H locs 0 0 (MQ below (Qi G r z') args s 0 0 (AA G)) (F0 m 24 ls []) := by
  intro n
  induction n with
  | zero => intro a0 l2 l3 l4 l5 z H locs ls h; have h : (none : Option (Int32 × AH)) = some (r, z') := h; cases h
  | succ n ih => intro a0 l2 l3 l4 l5 z H locs ls h hW hl; exact kbX10_keystone_24 C hlk hr (fX10_keystone_24 n) (fun a0 l2 l3 l4 l5 z H locs ls h hW hl => ih a0 l2 l3 l4 l5 z H locs ls h hW hl) a0 l2 l3 l4 l5 h hW hl
def fX10_keystone (a0 : Nat) (l1 : Int32) (l2 : Int32) (z : AH) : Option (Int32 × AH) :=
  if isO 9 z a0 = true then
    (pF 9 0 z a0 (.int (0 : Int32))).bind fun z2 =>
    b2 (fX10_hand a0 l1 z2) fun x7 z7 =>
    if x7 = (0 : Int32) then (
      some ((-2 : Int32), z7)
    ) else (
      fX10_keystone_24 FU a0 l2 (-1 : Int32) (-1 : Int32) (0 : Int32) z7
    )
  else none
set_option maxHeartbeats 4000000 in
set_option maxRecDepth 100000 in
theorem ctX10_keystone (l : Launch) (G : GW) (a0 : Nat) (l1 : Int32) (l2 : Int32) (z : AH) {r : Int32} {z' : AH} (h : fX10_keystone a0 l1 l2 z = some (r, z')) : Met l yX10_keystone (wy yX10_keystone cX10_keystone 7 (some .int)) rmX10_keystone (Pz G [.ref (gB G + a0), .int l1, .int l2] z) (Qi G r z') 0 0 (AA G) := by
  refine wz_ent (own := RX10) (by decide +kernel) rfl (fun p e s m below meth c ls C hlk hr hin hW hl => ?_) (Nat.le_of_ble_eq_true rfl)
  have hl : lv_has ls 7 [(0, .ref (gB G + a0)), (1, .int l1), (2, .int l2)] := hl
  have hx := C.1
  have hb := C.2.1
  unfold fX10_keystone at h
  obtain ⟨-, h⟩ := ck h
  refine lv_aload_n hx hb dX10_keystone_0 rfl (lv_at hl 0 rfl) ?_
  refine lv_iconst (v := 0) hx hb dX10_keystone_1 (by decide) ?_
  obtain ⟨z2, hg, h⟩ := ob h
  refine wz_put (v := (.int (0 : Int32))) C hW flX10_81 rfl rfl hg dX10_keystone_2 (fun H locs hW => ?_)
  refine lv_aload_n hx hb dX10_keystone_5 rfl (lv_at hl 0 rfl) ?_
  refine lv_iload_n hx hb dX10_keystone_6 rfl (lv_at hl 1 rfl) ?_
  obtain ⟨x7, z7, hq, h⟩ := ob2 h
  refine wz_rI (c' := 0) (s' := 0) hW (wz_runV (rest := []) C hW lVX10_330 (ck hq).1 rfl (ctX10_hand l G a0 l1 z2 hq) ⟨⟨rfl, rfl⟩, Nat.le_of_ble_eq_true rfl, Nat.le_of_ble_eq_true rfl⟩ rfl hl.1 rfl (Nat.le_of_ble_eq_true rfl) dX10_keystone_7 ⟨Nat.le_of_ble_eq_true rfl, Nat.le_of_ble_eq_true rfl⟩) rfl rfl (fun H locs hW => ?_)
  refine lv_if_ne (tgt := 16) hx hb dX10_keystone_10 (by decide) (fun c10 => ?_) (fun c10 => ?_)
  · have h := ite_f c10 h
    refine lv_iconst (v := -1) hx hb dX10_keystone_16 (by decide) ?_
    refine lv_istore_n (lv' := [(3, .int (-1 : Int32)), (0, .ref (gB G + a0)), (1, .int l1), (2, .int l2)]) hx hb dX10_keystone_17 rfl hl (by decide) rfl (fun ls hl => ?_)
    refine lv_iconst (v := -1) hx hb dX10_keystone_18 (by decide) ?_
    refine lv_istore (lv' := [(4, .int (-1 : Int32)), (3, .int (-1 : Int32)), (0, .ref (gB G + a0)), (1, .int l1), (2, .int l2)]) hx hb dX10_keystone_19 hl (by decide) rfl (fun ls hl => ?_)
    refine lv_iconst (v := 0) hx hb dX10_keystone_21 (by decide) ?_
    refine lv_istore (lv' := [(5, .int (0 : Int32)), (4, .int (-1 : Int32)), (3, .int (-1 : Int32)), (0, .ref (gB G + a0)), (1, .int l1), (2, .int l2)]) hx hb dX10_keystone_22 hl (by decide) rfl (fun ls hl => ?_)
    exact klX10_keystone_24 C hlk hr FU a0 l2 (-1 : Int32) (-1 : Int32) (0 : Int32) z7 _ _ _ h hW (lv_sub hl [3, 5, 2, 1, 0] rfl)
  · have h := ite_t c10 h
    refine lv_bipush (v := -2) hx hb dX10_keystone_13 (by decide) ?_
    exact wz_iretE C hlk hr (so2 h).1 (so2 h).2 hW dX10_keystone_15
theorem dX10_highest_0 : decode cX10_highest 0 = .ok (.iconst 0, 1) := by decide +kernel
theorem dX10_highest_1 : decode cX10_highest 1 = .ok (.istore_n 1, 1) := by decide +kernel
theorem dX10_highest_2 : decode cX10_highest 2 = .ok (.iconst 0, 1) := by decide +kernel
theorem dX10_highest_3 : decode cX10_highest 3 = .ok (.istore_n 2, 1) := by decide +kernel
theorem dX10_highest_4 : decode cX10_highest 4 = .ok (.iload_n 2, 1) := by decide +kernel
theorem dX10_highest_5 : decode cX10_highest 5 = .ok (.aload_n 0, 1) := by decide +kernel
theorem dX10_highest_6 : decode cX10_highest 6 = .ok (.getfield 276, 3) := by decide +kernel
theorem dX10_highest_9 : decode cX10_highest 9 = .ok (.if_icmp .ge 58, 3) := by decide +kernel
theorem dX10_highest_12 : decode cX10_highest 12 = .ok (.iconst 0, 1) := by decide +kernel
theorem dX10_highest_13 : decode cX10_highest 13 = .ok (.istore_n 3, 1) := by decide +kernel
theorem dX10_highest_14 : decode cX10_highest 14 = .ok (.aload_n 0, 1) := by decide +kernel
theorem dX10_highest_15 : decode cX10_highest 15 = .ok (.getfield 288, 3) := by decide +kernel
theorem dX10_highest_18 : decode cX10_highest 18 = .ok (.iload_n 2, 1) := by decide +kernel
theorem dX10_highest_19 : decode cX10_highest 19 = .ok (.invokestatic 85, 3) := by decide +kernel
theorem dX10_highest_22 : decode cX10_highest 22 = .ok (.ifCond .eq 7, 3) := by decide +kernel
theorem dX10_highest_25 : decode cX10_highest 25 = .ok (.iconst (-1), 1) := by decide +kernel
theorem dX10_highest_26 : decode cX10_highest 26 = .ok (.goto 4, 3) := by decide +kernel
theorem dX10_highest_29 : decode cX10_highest 29 = .ok (.iload_n 2, 1) := by decide +kernel
theorem dX10_highest_30 : decode cX10_highest 30 = .ok (.istore 4, 2) := by decide +kernel
theorem dX10_highest_32 : decode cX10_highest 32 = .ok (.iload 4, 2) := by decide +kernel
theorem dX10_highest_34 : decode cX10_highest 34 = .ok (.iconst (-1), 1) := by decide +kernel
theorem dX10_highest_35 : decode cX10_highest 35 = .ok (.if_icmp .eq 20, 3) := by decide +kernel
theorem dX10_highest_38 : decode cX10_highest 38 = .ok (.iinc 3 1, 3) := by decide +kernel
theorem dX10_highest_41 : decode cX10_highest 41 = .ok (.aload_n 0, 1) := by decide +kernel
theorem dX10_highest_42 : decode cX10_highest 42 = .ok (.bipush 30, 2) := by decide +kernel
theorem dX10_highest_44 : decode cX10_highest 44 = .ok (.iload 4, 2) := by decide +kernel
theorem dX10_highest_46 : decode cX10_highest 46 = .ok (.iadd, 1) := by decide +kernel
theorem dX10_highest_47 : decode cX10_highest 47 = .ok (.invokevirtual 272, 3) := by decide +kernel
theorem dX10_highest_50 : decode cX10_highest 50 = .ok (.istore 4, 2) := by decide +kernel
theorem dX10_highest_52 : decode cX10_highest 52 = .ok (.goto (-20), 3) := by decide +kernel
theorem dX10_highest_55 : decode cX10_highest 55 = .ok (.iload_n 1, 1) := by decide +kernel
theorem dX10_highest_56 : decode cX10_highest 56 = .ok (.iload_n 3, 1) := by decide +kernel
theorem dX10_highest_57 : decode cX10_highest 57 = .ok (.invokestatic 155, 3) := by decide +kernel
theorem dX10_highest_60 : decode cX10_highest 60 = .ok (.istore_n 1, 1) := by decide +kernel
theorem dX10_highest_61 : decode cX10_highest 61 = .ok (.iinc 2 1, 3) := by decide +kernel
theorem dX10_highest_64 : decode cX10_highest 64 = .ok (.goto (-60), 3) := by decide +kernel
theorem dX10_highest_67 : decode cX10_highest 67 = .ok (.iload_n 1, 1) := by decide +kernel
theorem dX10_highest_68 : decode cX10_highest 68 = .ok (.ireturn, 1) := by decide +kernel
abbrev rmX10_highest : Room := { frames := 1, cells := 0, slots := 0, locals := 21 }
def bX10_highest_32 (k4 : Nat → Int32 → Int32 → Option (Int32)) (k32 : Nat → Int32 → Int32 → Int32 → Int32 → Option (Int32)) (a0 : Nat) (l1 : Int32) (l2 : Int32) (l3 : Int32) (l4 : Int32) (z : AH) : Option (Int32) :=
  if l4 = (-1 : Int32) then (
    nm (fX10_greater l1 l3) fun v60 =>
    nm (l2 + (1 : Int32)) fun v61 =>
    k4 a0 v60 v61
  ) else (
    nm (l3 + (1 : Int32)) fun v38 =>
    (fX10_of a0 ((30 : Int32) + l4) z).bind fun x47 =>
    k32 a0 l1 l2 v38 x47
  )
set_option maxHeartbeats 4000000 in
set_option maxRecDepth 100000 in
theorem kbX10_highest_32 {p : Program} {l : Launch} {e : Env} {s : State} {m : MethodId} {args : Array Value} {below : List Frame} {meth : Method} {c : Code} {G : GW} {r : Int32} (C : Cx p m c cX10_highest 5 s args RX10 G) (hlk : meth.locks = false) (hr : meth.sig.returnType = (some .int)) {z : AH} (k4 : Nat → Int32 → Int32 → Option (Int32)) (k32 : Nat → Int32 → Int32 → Int32 → Int32 → Option (Int32)) (hk4 : ∀ (a0 : Nat) (l1 : Int32) (l2 : Int32) (H : Heap) (locs : List Loc) (ls : Array Slot), k4 a0 l1 l2 = some r → Wb G z s H locs → lv_has ls 5 [(0, .ref (gB G + a0)), (1, .int l1), (2, .int l2)] → W p l e rmX10_highest s m args below meth c H locs 0 0 (MQ below (Qi G r z) args s 0 0 (AA G)) (F0 m 4 ls [])) (hk32 : ∀ (a0 : Nat) (l1 : Int32) (l2 : Int32) (l3 : Int32) (l4 : Int32) (H : Heap) (locs : List Loc) (ls : Array Slot), k32 a0 l1 l2 l3 l4 = some r → Wb G z s H locs → lv_has ls 5 [(0, .ref (gB G + a0)), (1, .int l1), (2, .int l2), (3, .int l3), (4, .int l4)] → W p l e rmX10_highest s m args below meth c H locs 0 0 (MQ below (Qi G r z) args s 0 0 (AA G)) (F0 m 32 ls [])) (a0 : Nat) (l1 : Int32) (l2 : Int32) (l3 : Int32) (l4 : Int32) {H : Heap} {locs : List Loc} {ls : Array Slot} (h : bX10_highest_32 k4 k32 a0 l1 l2 l3 l4 z = some r) (hW : Wb G z s H locs) (hl : lv_has ls 5 [(0, .ref (gB G + a0)), (1, .int l1), (2, .int l2), (3, .int l3), (4, .int l4)]) : W p l e rmX10_highest s m args below meth c H locs 0 0 (MQ below (Qi G r z) args s 0 0 (AA G)) (F0 m 32 ls []) := by
  have hx := C.1
  have hb := C.2.1
  unfold bX10_highest_32 at h
  refine lv_iload hx hb dX10_highest_32 (lv_at hl 4 rfl) ?_
  refine lv_iconst (v := -1) hx hb dX10_highest_34 (by decide) ?_
  refine lv_icmp_eq (tgt := 55) hx hb dX10_highest_35 (by decide) (fun c35 => ?_) (fun c35 => ?_)
  · have h := ite_t c35 h
    refine lv_iload_n hx hb dX10_highest_55 rfl (lv_at hl 1 rfl) ?_
    refine lv_iload_n hx hb dX10_highest_56 rfl (lv_at hl 3 rfl) ?_
    refine wz_rI (c' := 0) (s' := 0) hW (wz_runS (rest := []) C hW lTX10_155 (ctX10_greater l G l1 l3 z rfl) ⟨⟨rfl, rfl⟩, Nat.le_of_ble_eq_true rfl, Nat.le_of_ble_eq_true rfl⟩ rfl hl.1 rfl (Nat.le_of_ble_eq_true rfl) dX10_highest_57 ⟨Nat.le_of_ble_eq_true rfl, Nat.le_of_ble_eq_true rfl⟩) rfl rfl (fun H locs hW => ?_)
    refine lv_topi (fun v60 ev60 => ?_)
    have h := nm_to h ev60
    refine lv_istore_n (lv' := [(1, .int v60), (0, .ref (gB G + a0)), (2, .int l2), (3, .int l3), (4, .int l4)]) hx hb dX10_highest_60 rfl hl (by decide) rfl (fun ls hl => ?_)
    obtain ⟨v61, ev61⟩ : ∃ y : Int32, y = (l2 + (1 : Int32)) := ⟨_, rfl⟩
    have h := nm_to h ev61
    refine lv_iinc (v := v61) (lv' := [(2, .int v61), (1, .int v60), (0, .ref (gB G + a0)), (3, .int l3), (4, .int l4)]) hx hb dX10_highest_61 hl (k := 2) rfl (by rw [ev61]; rfl) (by decide) rfl (fun ls hl => ?_)
    refine lv_goto (tgt := 4) hx hb dX10_highest_64 (by decide) ?_
    exact hk4 a0 v60 v61 _ _ _ h hW (lv_sub hl [2, 1, 0] rfl)
  · have h := ite_f c35 h
    obtain ⟨v38, ev38⟩ : ∃ y : Int32, y = (l3 + (1 : Int32)) := ⟨_, rfl⟩
    have h := nm_to h ev38
    refine lv_iinc (v := v38) (lv' := [(3, .int v38), (0, .ref (gB G + a0)), (1, .int l1), (2, .int l2), (4, .int l4)]) hx hb dX10_highest_38 hl (k := 3) rfl (by rw [ev38]; rfl) (by decide) rfl (fun ls hl => ?_)
    refine lv_aload_n hx hb dX10_highest_41 rfl (lv_at hl 1 rfl) ?_
    refine lv_bipush (v := 30) hx hb dX10_highest_42 (by decide) ?_
    refine lv_iload hx hb dX10_highest_44 (lv_at hl 4 rfl) ?_
    refine lv_iadd hx hb dX10_highest_46 ?_
    obtain ⟨x47, hq, h⟩ := ob h
    refine wz_rI (c' := 0) (s' := 0) hW (wz_runV (rest := []) C hW lVX10_272 (ck hq).1 rfl (ctX10_of l G a0 ((30 : Int32) + l4) z hq) ⟨⟨rfl, rfl⟩, Nat.le_of_ble_eq_true rfl, Nat.le_of_ble_eq_true rfl⟩ rfl hl.1 rfl (Nat.le_of_ble_eq_true rfl) dX10_highest_47 ⟨Nat.le_of_ble_eq_true rfl, Nat.le_of_ble_eq_true rfl⟩) rfl rfl (fun H locs hW => ?_)
    refine lv_istore (lv' := [(4, .int x47), (3, .int v38), (0, .ref (gB G + a0)), (1, .int l1), (2, .int l2)]) hx hb dX10_highest_50 hl (by decide) rfl (fun ls hl => ?_)
    refine lv_goto (tgt := 32) hx hb dX10_highest_52 (by decide) ?_
    exact hk32 a0 l1 l2 v38 x47 _ _ _ h hW (lv_sub hl [2, 3, 4, 1, 0] rfl)
def fX10_highest_32 (k4 : Nat → Int32 → Int32 → Option (Int32)) (z : AH) : Nat → Nat → Int32 → Int32 → Int32 → Int32 → Option (Int32)
  | 0, _, _, _, _, _ => none
  | n + 1, a0, l1, l2, l3, l4 => bX10_highest_32 k4 (fX10_highest_32 k4 z n) a0 l1 l2 l3 l4 z
theorem klX10_highest_32 {p : Program} {l : Launch} {e : Env} {s : State} {m : MethodId} {args : Array Value} {below : List Frame} {meth : Method} {c : Code} {G : GW} {r : Int32} (C : Cx p m c cX10_highest 5 s args RX10 G) (hlk : meth.locks = false) (hr : meth.sig.returnType = (some .int)) {z : AH} (k4 : Nat → Int32 → Int32 → Option (Int32)) (hk4 : ∀ (a0 : Nat) (l1 : Int32) (l2 : Int32) (H : Heap) (locs : List Loc) (ls : Array Slot), k4 a0 l1 l2 = some r → Wb G z s H locs → lv_has ls 5 [(0, .ref (gB G + a0)), (1, .int l1), (2, .int l2)] → W p l e rmX10_highest s m args below meth c H locs 0 0 (MQ below (Qi G r z) args s 0 0 (AA G)) (F0 m 4 ls [])) : ∀ (n : Nat) (a0 : Nat) (l1 : Int32) (l2 : Int32) (l3 : Int32) (l4 : Int32) (H : Heap) (locs : List Loc) (ls : Array Slot), fX10_highest_32 k4 z n a0 l1 l2 l3 l4 = some r → Wb G z s H locs → lv_has ls 5 [(0, .ref (gB G + a0)), (1, .int l1), (2, .int l2), (3, .int l3), (4, .int l4)] → W p l e rmX10_highest s m args below meth c H locs 0 0 (MQ below (Qi G r z) args s 0 0 (AA G)) (F0 m 32 ls []) := by
  intro n
  induction n with
  | zero => intro a0 l1 l2 l3 l4 H locs ls h; have h : (none : Option (Int32)) = some r := h; cases h
  | succ n ih => intro a0 l1 l2 l3 l4 H locs ls h hW hl; exact kbX10_highest_32 C hlk hr k4 (fX10_highest_32 k4 z n) hk4 (fun a0 l1 l2 l3 l4 H locs ls h hW hl => ih a0 l1 l2 l3 l4 H locs ls h hW hl) a0 l1 l2 l3 l4 h hW hl
def bX10_highest_4 (k4 : Nat → Int32 → Int32 → Option (Int32)) (a0 : Nat) (l1 : Int32) (l2 : Int32) (z : AH) : Option (Int32) :=
  (gI 9 26 z a0).bind fun x6 =>
  if x6 ≤ l2 then (
    some l1
  ) else (
    (gI 9 31 z a0).bind fun x15 =>
    if (fX10_has x15 l2) = (0 : Int32) then (
      fX10_highest_32 k4 z FU a0 l1 l2 (0 : Int32) l2
    ) else (
      fX10_highest_32 k4 z FU a0 l1 l2 (0 : Int32) (-1 : Int32)
    )
  )
set_option maxHeartbeats 4000000 in
set_option maxRecDepth 100000 in
theorem kbX10_highest_4 {p : Program} {l : Launch} {e : Env} {s : State} {m : MethodId} {args : Array Value} {below : List Frame} {meth : Method} {c : Code} {G : GW} {r : Int32} (C : Cx p m c cX10_highest 5 s args RX10 G) (hlk : meth.locks = false) (hr : meth.sig.returnType = (some .int)) {z : AH} (k4 : Nat → Int32 → Int32 → Option (Int32)) (hk4 : ∀ (a0 : Nat) (l1 : Int32) (l2 : Int32) (H : Heap) (locs : List Loc) (ls : Array Slot), k4 a0 l1 l2 = some r → Wb G z s H locs → lv_has ls 5 [(0, .ref (gB G + a0)), (1, .int l1), (2, .int l2)] → W p l e rmX10_highest s m args below meth c H locs 0 0 (MQ below (Qi G r z) args s 0 0 (AA G)) (F0 m 4 ls [])) (a0 : Nat) (l1 : Int32) (l2 : Int32) {H : Heap} {locs : List Loc} {ls : Array Slot} (h : bX10_highest_4 k4 a0 l1 l2 z = some r) (hW : Wb G z s H locs) (hl : lv_has ls 5 [(0, .ref (gB G + a0)), (1, .int l1), (2, .int l2)]) : W p l e rmX10_highest s m args below meth c H locs 0 0 (MQ below (Qi G r z) args s 0 0 (AA G)) (F0 m 4 ls []) := by
  have hx := C.1
  have hb := C.2.1
  unfold bX10_highest_4 at h
  refine lv_iload_n hx hb dX10_highest_4 rfl (lv_at hl 2 rfl) ?_
  refine lv_aload_n hx hb dX10_highest_5 rfl (lv_at hl 0 rfl) ?_
  obtain ⟨x6, hg, h⟩ := ob h
  refine wz_gI C hW flX10_276 hg dX10_highest_6 ?_
  refine lv_icmp_ge (tgt := 67) hx hb dX10_highest_9 (by decide) (fun c9 => ?_) (fun c9 => ?_)
  · have h := ite_t c9 h
    refine lv_iload_n hx hb dX10_highest_67 rfl (lv_at hl 1 rfl) ?_
    exact wz_iretE C hlk hr (Option.some.inj h) rfl hW dX10_highest_68
  · have h := ite_f c9 h
    refine lv_iconst (v := 0) hx hb dX10_highest_12 (by decide) ?_
    refine lv_istore_n (lv' := [(3, .int (0 : Int32)), (0, .ref (gB G + a0)), (1, .int l1), (2, .int l2)]) hx hb dX10_highest_13 rfl hl (by decide) rfl (fun ls hl => ?_)
    refine lv_aload_n hx hb dX10_highest_14 rfl (lv_at hl 1 rfl) ?_
    obtain ⟨x15, hg, h⟩ := ob h
    refine wz_gI C hW flX10_288 hg dX10_highest_15 ?_
    refine lv_iload_n hx hb dX10_highest_18 rfl (lv_at hl 3 rfl) ?_
    refine wz_rI (c' := 0) (s' := 0) hW (wz_runS (rest := []) C hW lTX10_85 (ctX10_has l G x15 l2 z rfl) ⟨⟨rfl, rfl⟩, Nat.le_of_ble_eq_true rfl, Nat.le_of_ble_eq_true rfl⟩ rfl hl.1 rfl (Nat.le_of_ble_eq_true rfl) dX10_highest_19 ⟨Nat.le_of_ble_eq_true rfl, Nat.le_of_ble_eq_true rfl⟩) rfl rfl (fun H locs hW => ?_)
    refine lv_if_eq (tgt := 29) hx hb dX10_highest_22 (by decide) (fun c22 => ?_) (fun c22 => ?_)
    · have h := ite_t c22 h
      refine lv_iload_n hx hb dX10_highest_29 rfl (lv_at hl 3 rfl) ?_
      refine lv_istore (lv' := [(4, .int l2), (3, .int (0 : Int32)), (0, .ref (gB G + a0)), (1, .int l1), (2, .int l2)]) hx hb dX10_highest_30 hl (by decide) rfl (fun ls hl => ?_)
      exact klX10_highest_32 C hlk hr k4 hk4 FU a0 l1 l2 (0 : Int32) l2 _ _ _ h hW (lv_sub hl [2, 3, 4, 1, 0] rfl)
    · have h := ite_f c22 h
      refine lv_iconst (v := -1) hx hb dX10_highest_25 (by decide) ?_
      refine lv_goto (tgt := 30) hx hb dX10_highest_26 (by decide) ?_
      refine lv_istore (lv' := [(4, .int (-1 : Int32)), (3, .int (0 : Int32)), (0, .ref (gB G + a0)), (1, .int l1), (2, .int l2)]) hx hb dX10_highest_30 hl (by decide) rfl (fun ls hl => ?_)
      exact klX10_highest_32 C hlk hr k4 hk4 FU a0 l1 l2 (0 : Int32) (-1 : Int32) _ _ _ h hW (lv_sub hl [2, 3, 4, 1, 0] rfl)
def fX10_highest_4 (z : AH) : Nat → Nat → Int32 → Int32 → Option (Int32)
  | 0, _, _, _ => none
  | n + 1, a0, l1, l2 => bX10_highest_4 (fX10_highest_4 z n) a0 l1 l2 z
theorem klX10_highest_4 {p : Program} {l : Launch} {e : Env} {s : State} {m : MethodId} {args : Array Value} {below : List Frame} {meth : Method} {c : Code} {G : GW} {r : Int32} (C : Cx p m c cX10_highest 5 s args RX10 G) (hlk : meth.locks = false) (hr : meth.sig.returnType = (some .int)) {z : AH} : ∀ (n : Nat) (a0 : Nat) (l1 : Int32) (l2 : Int32) (H : Heap) (locs : List Loc) (ls : Array Slot), fX10_highest_4 z n a0 l1 l2 = some r → Wb G z s H locs → lv_has ls 5 [(0, .ref (gB G + a0)), (1, .int l1), (2, .int l2)] → W p l e rmX10_highest s m args below meth c H locs 0 0 (MQ below (Qi G r z) args s 0 0 (AA G)) (F0 m 4 ls []) := by
  intro n
  induction n with
  | zero => intro a0 l1 l2 H locs ls h; have h : (none : Option (Int32)) = some r := h; cases h
  | succ n ih => intro a0 l1 l2 H locs ls h hW hl; exact kbX10_highest_4 C hlk hr (fX10_highest_4 z n) (fun a0 l1 l2 H locs ls h hW hl => ih a0 l1 l2 H locs ls h hW hl) a0 l1 l2 h hW hl
def fX10_highest (a0 : Nat) (z : AH) : Option (Int32) :=
  if isO 9 z a0 = true then
    fX10_highest_4 z FU a0 (0 : Int32) (0 : Int32)
  else none
set_option maxHeartbeats 4000000 in
set_option maxRecDepth 100000 in
theorem ctX10_highest (l : Launch) (G : GW) (a0 : Nat) (z : AH) {r : Int32} (h : fX10_highest a0 z = some r) : Met l yX10_highest (wy yX10_highest cX10_highest 5 (some .int)) rmX10_highest (Pz G [.ref (gB G + a0)] z) (Qi G r z) 0 0 (AA G) := by
  refine wz_ent (own := RX10) (by decide +kernel) rfl (fun p e s m below meth c ls C hlk hr hin hW hl => ?_) (Nat.le_of_ble_eq_true rfl)
  have hl : lv_has ls 5 [(0, .ref (gB G + a0))] := hl
  have hx := C.1
  have hb := C.2.1
  unfold fX10_highest at h
  obtain ⟨-, h⟩ := ck h
  refine lv_iconst (v := 0) hx hb dX10_highest_0 (by decide) ?_
  refine lv_istore_n (lv' := [(1, .int (0 : Int32)), (0, .ref (gB G + a0))]) hx hb dX10_highest_1 rfl hl (by decide) rfl (fun ls hl => ?_)
  refine lv_iconst (v := 0) hx hb dX10_highest_2 (by decide) ?_
  refine lv_istore_n (lv' := [(2, .int (0 : Int32)), (1, .int (0 : Int32)), (0, .ref (gB G + a0))]) hx hb dX10_highest_3 rfl hl (by decide) rfl (fun ls hl => ?_)
  exact klX10_highest_4 C hlk hr FU a0 (0 : Int32) (0 : Int32) _ _ _ h hW (lv_sub hl [2, 1, 0] rfl)
theorem dX10_partOf_0 : decode cX10_partOf 0 = .ok (.iconst 1, 1) := by decide +kernel
theorem dX10_partOf_1 : decode cX10_partOf 1 = .ok (.iload_n 1, 1) := by decide +kernel
theorem dX10_partOf_2 : decode cX10_partOf 2 = .ok (.ishl, 1) := by decide +kernel
theorem dX10_partOf_3 : decode cX10_partOf 3 = .ok (.istore_n 2, 1) := by decide +kernel
theorem dX10_partOf_4 : decode cX10_partOf 4 = .ok (.iconst 0, 1) := by decide +kernel
theorem dX10_partOf_5 : decode cX10_partOf 5 = .ok (.istore_n 3, 1) := by decide +kernel
theorem dX10_partOf_6 : decode cX10_partOf 6 = .ok (.iload_n 3, 1) := by decide +kernel
theorem dX10_partOf_7 : decode cX10_partOf 7 = .ok (.bipush 8, 2) := by decide +kernel
theorem dX10_partOf_9 : decode cX10_partOf 9 = .ok (.if_icmp .ge 22, 3) := by decide +kernel
theorem dX10_partOf_12 : decode cX10_partOf 12 = .ok (.aload_n 0, 1) := by decide +kernel
theorem dX10_partOf_13 : decode cX10_partOf 13 = .ok (.iload_n 2, 1) := by decide +kernel
theorem dX10_partOf_14 : decode cX10_partOf 14 = .ok (.invokevirtual 407, 3) := by decide +kernel
theorem dX10_partOf_17 : decode cX10_partOf 17 = .ok (.aload_n 0, 1) := by decide +kernel
theorem dX10_partOf_18 : decode cX10_partOf 18 = .ok (.getfield 288, 3) := by decide +kernel
theorem dX10_partOf_21 : decode cX10_partOf 21 = .ok (.iconst (-1), 1) := by decide +kernel
theorem dX10_partOf_22 : decode cX10_partOf 22 = .ok (.ixor, 1) := by decide +kernel
theorem dX10_partOf_23 : decode cX10_partOf 23 = .ok (.iand, 1) := by decide +kernel
theorem dX10_partOf_24 : decode cX10_partOf 24 = .ok (.istore_n 2, 1) := by decide +kernel
theorem dX10_partOf_25 : decode cX10_partOf 25 = .ok (.iinc 3 1, 3) := by decide +kernel
theorem dX10_partOf_28 : decode cX10_partOf 28 = .ok (.goto (-22), 3) := by decide +kernel
theorem dX10_partOf_31 : decode cX10_partOf 31 = .ok (.iload_n 2, 1) := by decide +kernel
theorem dX10_partOf_32 : decode cX10_partOf 32 = .ok (.ireturn, 1) := by decide +kernel
abbrev rmX10_partOf : Room := { frames := 2, cells := 0, slots := 0, locals := 46 }
def bX10_partOf_6 (k6 : Nat → Int32 → Int32 → Option (Int32)) (a0 : Nat) (l2 : Int32) (l3 : Int32) (z : AH) : Option (Int32) :=
  if (8 : Int32) ≤ l3 then (
    some l2
  ) else (
    (fX10_nextTo a0 l2 z).bind fun x14 =>
    (gI 9 31 z a0).bind fun x18 =>
    nm (x14 &&& (x18 ^^^ (-1 : Int32))) fun v24 =>
    nm (l3 + (1 : Int32)) fun v25 =>
    k6 a0 v24 v25
  )
set_option maxHeartbeats 4000000 in
set_option maxRecDepth 100000 in
theorem kbX10_partOf_6 {p : Program} {l : Launch} {e : Env} {s : State} {m : MethodId} {args : Array Value} {below : List Frame} {meth : Method} {c : Code} {G : GW} {r : Int32} (C : Cx p m c cX10_partOf 4 s args RX10 G) (hlk : meth.locks = false) (hr : meth.sig.returnType = (some .int)) {z : AH} (k6 : Nat → Int32 → Int32 → Option (Int32)) (hk6 : ∀ (a0 : Nat) (l2 : Int32) (l3 : Int32) (H : Heap) (locs : List Loc) (ls : Array Slot), k6 a0 l2 l3 = some r → Wb G z s H locs → lv_has ls 4 [(0, .ref (gB G + a0)), (2, .int l2), (3, .int l3)] → W p l e rmX10_partOf s m args below meth c H locs 0 0 (MQ below (Qi G r z) args s 0 0 (AA G)) (F0 m 6 ls [])) (a0 : Nat) (l2 : Int32) (l3 : Int32) {H : Heap} {locs : List Loc} {ls : Array Slot} (h : bX10_partOf_6 k6 a0 l2 l3 z = some r) (hW : Wb G z s H locs) (hl : lv_has ls 4 [(0, .ref (gB G + a0)), (2, .int l2), (3, .int l3)]) : W p l e rmX10_partOf s m args below meth c H locs 0 0 (MQ below (Qi G r z) args s 0 0 (AA G)) (F0 m 6 ls []) := by
  have hx := C.1
  have hb := C.2.1
  unfold bX10_partOf_6 at h
  refine lv_iload_n hx hb dX10_partOf_6 rfl (lv_at hl 2 rfl) ?_
  refine lv_bipush (v := 8) hx hb dX10_partOf_7 (by decide) ?_
  refine lv_icmp_ge (tgt := 31) hx hb dX10_partOf_9 (by decide) (fun c9 => ?_) (fun c9 => ?_)
  · have h := ite_t c9 h
    refine lv_iload_n hx hb dX10_partOf_31 rfl (lv_at hl 1 rfl) ?_
    exact wz_iretE C hlk hr (Option.some.inj h) rfl hW dX10_partOf_32
  · have h := ite_f c9 h
    refine lv_aload_n hx hb dX10_partOf_12 rfl (lv_at hl 0 rfl) ?_
    refine lv_iload_n hx hb dX10_partOf_13 rfl (lv_at hl 1 rfl) ?_
    obtain ⟨x14, hq, h⟩ := ob h
    refine wz_rI (c' := 0) (s' := 0) hW (wz_runV (rest := []) C hW lVX10_407 (ck hq).1 rfl (ctX10_nextTo l G a0 l2 z hq) ⟨⟨rfl, rfl⟩, Nat.le_of_ble_eq_true rfl, Nat.le_of_ble_eq_true rfl⟩ rfl hl.1 rfl (Nat.le_of_ble_eq_true rfl) dX10_partOf_14 ⟨Nat.le_of_ble_eq_true rfl, Nat.le_of_ble_eq_true rfl⟩) rfl rfl (fun H locs hW => ?_)
    refine lv_aload_n hx hb dX10_partOf_17 rfl (lv_at hl 0 rfl) ?_
    obtain ⟨x18, hg, h⟩ := ob h
    refine wz_gI C hW flX10_288 hg dX10_partOf_18 ?_
    refine lv_iconst (v := -1) hx hb dX10_partOf_21 (by decide) ?_
    refine lv_ixor hx hb dX10_partOf_22 ?_
    refine lv_iand hx hb dX10_partOf_23 ?_
    refine lv_topi (fun v24 ev24 => ?_)
    have h := nm_to h ev24
    refine lv_istore_n (lv' := [(2, .int v24), (0, .ref (gB G + a0)), (3, .int l3)]) hx hb dX10_partOf_24 rfl hl (by decide) rfl (fun ls hl => ?_)
    obtain ⟨v25, ev25⟩ : ∃ y : Int32, y = (l3 + (1 : Int32)) := ⟨_, rfl⟩
    have h := nm_to h ev25
    refine lv_iinc (v := v25) (lv' := [(3, .int v25), (2, .int v24), (0, .ref (gB G + a0))]) hx hb dX10_partOf_25 hl (k := 2) rfl (by rw [ev25]; rfl) (by decide) rfl (fun ls hl => ?_)
    refine lv_goto (tgt := 6) hx hb dX10_partOf_28 (by decide) ?_
    exact hk6 a0 v24 v25 _ _ _ h hW (lv_sub hl [2, 1, 0] rfl)
def fX10_partOf_6 (z : AH) : Nat → Nat → Int32 → Int32 → Option (Int32)
  | 0, _, _, _ => none
  | n + 1, a0, l2, l3 => bX10_partOf_6 (fX10_partOf_6 z n) a0 l2 l3 z
theorem klX10_partOf_6 {p : Program} {l : Launch} {e : Env} {s : State} {m : MethodId} {args : Array Value} {below : List Frame} {meth : Method} {c : Code} {G : GW} {r : Int32} (C : Cx p m c cX10_partOf 4 s args RX10 G) (hlk : meth.locks = false) (hr : meth.sig.returnType = (some .int)) {z : AH} : ∀ (n : Nat) (a0 : Nat) (l2 : Int32) (l3 : Int32) (H : Heap) (locs : List Loc) (ls : Array Slot), fX10_partOf_6 z n a0 l2 l3 = some r → Wb G z s H locs → lv_has ls 4 [(0, .ref (gB G + a0)), (2, .int l2), (3, .int l3)] → W p l e rmX10_partOf s m args below meth c H locs 0 0 (MQ below (Qi G r z) args s 0 0 (AA G)) (F0 m 6 ls []) := by
  intro n
  induction n with
  | zero => intro a0 l2 l3 H locs ls h; have h : (none : Option (Int32)) = some r := h; cases h
  | succ n ih => intro a0 l2 l3 H locs ls h hW hl; exact kbX10_partOf_6 C hlk hr (fX10_partOf_6 z n) (fun a0 l2 l3 H locs ls h hW hl => ih a0 l2 l3 H locs ls h hW hl) a0 l2 l3 h hW hl
def fX10_partOf (a0 : Nat) (l1 : Int32) (z : AH) : Option (Int32) :=
  if isO 9 z a0 = true then
    nm (shl (1 : Int32) l1) fun v3 =>
    fX10_partOf_6 z FU a0 v3 (0 : Int32)
  else none
set_option maxHeartbeats 4000000 in
set_option maxRecDepth 100000 in
theorem ctX10_partOf (l : Launch) (G : GW) (a0 : Nat) (l1 : Int32) (z : AH) {r : Int32} (h : fX10_partOf a0 l1 z = some r) : Met l yX10_partOf (wy yX10_partOf cX10_partOf 4 (some .int)) rmX10_partOf (Pz G [.ref (gB G + a0), .int l1] z) (Qi G r z) 0 0 (AA G) := by
  refine wz_ent (own := RX10) (by decide +kernel) rfl (fun p e s m below meth c ls C hlk hr hin hW hl => ?_) (Nat.le_of_ble_eq_true rfl)
  have hl : lv_has ls 4 [(0, .ref (gB G + a0)), (1, .int l1)] := hl
  have hx := C.1
  have hb := C.2.1
  unfold fX10_partOf at h
  obtain ⟨-, h⟩ := ck h
  refine lv_iconst (v := 1) hx hb dX10_partOf_0 (by decide) ?_
  refine lv_iload_n hx hb dX10_partOf_1 rfl (lv_at hl 1 rfl) ?_
  refine wz_shl hx hb dX10_partOf_2 ?_
  refine lv_topi (fun v3 ev3 => ?_)
  have h := nm_to h ev3
  refine lv_istore_n (lv' := [(2, .int v3), (0, .ref (gB G + a0)), (1, .int l1)]) hx hb dX10_partOf_3 rfl hl (by decide) rfl (fun ls hl => ?_)
  refine lv_iconst (v := 0) hx hb dX10_partOf_4 (by decide) ?_
  refine lv_istore_n (lv' := [(3, .int (0 : Int32)), (2, .int v3), (0, .ref (gB G + a0)), (1, .int l1)]) hx hb dX10_partOf_5 rfl hl (by decide) rfl (fun ls hl => ?_)
  exact klX10_partOf_6 C hlk hr FU a0 v3 (0 : Int32) _ _ _ h hW (lv_sub hl [2, 1, 0] rfl)
theorem dX10_parts_0 : decode cX10_parts 0 = .ok (.iconst 0, 1) := by decide +kernel
theorem dX10_parts_1 : decode cX10_parts 1 = .ok (.istore_n 2, 1) := by decide +kernel
theorem dX10_parts_2 : decode cX10_parts 2 = .ok (.iconst 0, 1) := by decide +kernel
theorem dX10_parts_3 : decode cX10_parts 3 = .ok (.istore_n 3, 1) := by decide +kernel
theorem dX10_parts_4 : decode cX10_parts 4 = .ok (.iconst 0, 1) := by decide +kernel
theorem dX10_parts_5 : decode cX10_parts 5 = .ok (.istore 4, 2) := by decide +kernel
theorem dX10_parts_7 : decode cX10_parts 7 = .ok (.iconst 0, 1) := by decide +kernel
theorem dX10_parts_8 : decode cX10_parts 8 = .ok (.istore 5, 2) := by decide +kernel
theorem dX10_parts_10 : decode cX10_parts 10 = .ok (.iload 5, 2) := by decide +kernel
theorem dX10_parts_12 : decode cX10_parts 12 = .ok (.aload_n 0, 1) := by decide +kernel
theorem dX10_parts_13 : decode cX10_parts 13 = .ok (.getfield 276, 3) := by decide +kernel
theorem dX10_parts_16 : decode cX10_parts 16 = .ok (.if_icmp .ge 52, 3) := by decide +kernel
theorem dX10_parts_19 : decode cX10_parts 19 = .ok (.aload_n 0, 1) := by decide +kernel
theorem dX10_parts_20 : decode cX10_parts 20 = .ok (.getfield 288, 3) := by decide +kernel
theorem dX10_parts_23 : decode cX10_parts 23 = .ok (.iload 4, 2) := by decide +kernel
theorem dX10_parts_25 : decode cX10_parts 25 = .ok (.ior, 1) := by decide +kernel
theorem dX10_parts_26 : decode cX10_parts 26 = .ok (.iload 5, 2) := by decide +kernel
theorem dX10_parts_28 : decode cX10_parts 28 = .ok (.invokestatic 85, 3) := by decide +kernel
theorem dX10_parts_31 : decode cX10_parts 31 = .ok (.ifCond .ne 31, 3) := by decide +kernel
theorem dX10_parts_34 : decode cX10_parts 34 = .ok (.iload 4, 2) := by decide +kernel
theorem dX10_parts_36 : decode cX10_parts 36 = .ok (.aload_n 0, 1) := by decide +kernel
theorem dX10_parts_37 : decode cX10_parts 37 = .ok (.iload 5, 2) := by decide +kernel
theorem dX10_parts_39 : decode cX10_parts 39 = .ok (.invokevirtual 497, 3) := by decide +kernel
theorem dX10_parts_42 : decode cX10_parts 42 = .ok (.ior, 1) := by decide +kernel
theorem dX10_parts_43 : decode cX10_parts 43 = .ok (.istore 4, 2) := by decide +kernel
theorem dX10_parts_45 : decode cX10_parts 45 = .ok (.iinc 2 1, 3) := by decide +kernel
theorem dX10_parts_48 : decode cX10_parts 48 = .ok (.iload_n 3, 1) := by decide +kernel
theorem dX10_parts_49 : decode cX10_parts 49 = .ok (.aload_n 0, 1) := by decide +kernel
theorem dX10_parts_50 : decode cX10_parts 50 = .ok (.iload 5, 2) := by decide +kernel
theorem dX10_parts_52 : decode cX10_parts 52 = .ok (.invokevirtual 497, 3) := by decide +kernel
theorem dX10_parts_55 : decode cX10_parts 55 = .ok (.invokestatic 385, 3) := by decide +kernel
theorem dX10_parts_58 : decode cX10_parts 58 = .ok (.invokestatic 155, 3) := by decide +kernel
theorem dX10_parts_61 : decode cX10_parts 61 = .ok (.istore_n 3, 1) := by decide +kernel
theorem dX10_parts_62 : decode cX10_parts 62 = .ok (.iinc 5 1, 3) := by decide +kernel
theorem dX10_parts_65 : decode cX10_parts 65 = .ok (.goto (-55), 3) := by decide +kernel
theorem dX10_parts_68 : decode cX10_parts 68 = .ok (.iload_n 1, 1) := by decide +kernel
theorem dX10_parts_69 : decode cX10_parts 69 = .ok (.ifCond .eq 7, 3) := by decide +kernel
theorem dX10_parts_72 : decode cX10_parts 72 = .ok (.iload_n 3, 1) := by decide +kernel
theorem dX10_parts_73 : decode cX10_parts 73 = .ok (.goto 4, 3) := by decide +kernel
theorem dX10_parts_76 : decode cX10_parts 76 = .ok (.iload_n 2, 1) := by decide +kernel
theorem dX10_parts_77 : decode cX10_parts 77 = .ok (.ireturn, 1) := by decide +kernel
theorem cdX10_partOf : Cond.code yX10_partOf cX10_partOf 4 (some .int) ∈ tz := tc8 21 rfl rfl
theorem lVX10_497 : LV RX10 497 yX10_partOf cX10_partOf 4 (some .int) 1 := ⟨tw 1817 (by decide +kernel) rfl, tw 1819 (by decide +kernel) rfl, tw 115 (by decide +kernel) rfl, tw 128 (by decide +kernel) rfl, cdX10_partOf, ⟨by decide +kernel, by decide +kernel, by decide +kernel⟩⟩
abbrev rmX10_parts : Room := { frames := 3, cells := 0, slots := 0, locals := 69 }
def bX10_parts_10 (k10 : Nat → Int32 → Int32 → Int32 → Int32 → Int32 → Option (Int32)) (a0 : Nat) (l1 : Int32) (l2 : Int32) (l3 : Int32) (l4 : Int32) (l5 : Int32) (z : AH) : Option (Int32) :=
  (gI 9 26 z a0).bind fun x13 =>
  if x13 ≤ l5 then (
    if l1 = (0 : Int32) then (
      some l2
    ) else (
      some l3
    )
  ) else (
    (gI 9 31 z a0).bind fun x20 =>
    if (fX10_has (x20 ||| l4) l5) = (0 : Int32) then (
      (fX10_partOf a0 l5 z).bind fun x39 =>
      nm (l4 ||| x39) fun v43 =>
      nm (l2 + (1 : Int32)) fun v45 =>
      (fX10_partOf a0 l5 z).bind fun x52 =>
      (fX10_ones x52).bind fun x55 =>
      nm (fX10_greater l3 x55) fun v61 =>
      nm (l5 + (1 : Int32)) fun v62 =>
      k10 a0 l1 v45 v61 v43 v62
    ) else (
      nm (l5 + (1 : Int32)) fun v62 =>
      k10 a0 l1 l2 l3 l4 v62
    )
  )
set_option maxHeartbeats 4000000 in
set_option maxRecDepth 100000 in
theorem kbX10_parts_10 {p : Program} {l : Launch} {e : Env} {s : State} {m : MethodId} {args : Array Value} {below : List Frame} {meth : Method} {c : Code} {G : GW} {r : Int32} (C : Cx p m c cX10_parts 6 s args RX10 G) (hlk : meth.locks = false) (hr : meth.sig.returnType = (some .int)) {z : AH} (k10 : Nat → Int32 → Int32 → Int32 → Int32 → Int32 → Option (Int32)) (hk10 : ∀ (a0 : Nat) (l1 : Int32) (l2 : Int32) (l3 : Int32) (l4 : Int32) (l5 : Int32) (H : Heap) (locs : List Loc) (ls : Array Slot), k10 a0 l1 l2 l3 l4 l5 = some r → Wb G z s H locs → lv_has ls 6 [(0, .ref (gB G + a0)), (1, .int l1), (2, .int l2), (3, .int l3), (4, .int l4), (5, .int l5)] → W p l e rmX10_parts s m args below meth c H locs 0 0 (MQ below (Qi G r z) args s 0 0 (AA G)) (F0 m 10 ls [])) (a0 : Nat) (l1 : Int32) (l2 : Int32) (l3 : Int32) (l4 : Int32) (l5 : Int32) {H : Heap} {locs : List Loc} {ls : Array Slot} (h : bX10_parts_10 k10 a0 l1 l2 l3 l4 l5 z = some r) (hW : Wb G z s H locs) (hl : lv_has ls 6 [(0, .ref (gB G + a0)), (1, .int l1), (2, .int l2), (3, .int l3), (4, .int l4), (5, .int l5)]) : W p l e rmX10_parts s m args below meth c H locs 0 0 (MQ below (Qi G r z) args s 0 0 (AA G)) (F0 m 10 ls []) := by
  have hx := C.1
  have hb := C.2.1
  unfold bX10_parts_10 at h
  refine lv_iload hx hb dX10_parts_10 (lv_at hl 5 rfl) ?_
  refine lv_aload_n hx hb dX10_parts_12 rfl (lv_at hl 0 rfl) ?_
  obtain ⟨x13, hg, h⟩ := ob h
  refine wz_gI C hW flX10_276 hg dX10_parts_13 ?_
  refine lv_icmp_ge (tgt := 68) hx hb dX10_parts_16 (by decide) (fun c16 => ?_) (fun c16 => ?_)
  · have h := ite_t c16 h
    refine lv_iload_n hx hb dX10_parts_68 rfl (lv_at hl 1 rfl) ?_
    refine lv_if_eq (tgt := 76) hx hb dX10_parts_69 (by decide) (fun c69 => ?_) (fun c69 => ?_)
    · have h := ite_t c69 h
      refine lv_iload_n hx hb dX10_parts_76 rfl (lv_at hl 2 rfl) ?_
      exact wz_iretE C hlk hr (Option.some.inj h) rfl hW dX10_parts_77
    · have h := ite_f c69 h
      refine lv_iload_n hx hb dX10_parts_72 rfl (lv_at hl 3 rfl) ?_
      refine lv_goto (tgt := 77) hx hb dX10_parts_73 (by decide) ?_
      exact wz_iretE C hlk hr (Option.some.inj h) rfl hW dX10_parts_77
  · have h := ite_f c16 h
    refine lv_aload_n hx hb dX10_parts_19 rfl (lv_at hl 0 rfl) ?_
    obtain ⟨x20, hg, h⟩ := ob h
    refine wz_gI C hW flX10_288 hg dX10_parts_20 ?_
    refine lv_iload hx hb dX10_parts_23 (lv_at hl 4 rfl) ?_
    refine lv_ior hx hb dX10_parts_25 ?_
    refine lv_iload hx hb dX10_parts_26 (lv_at hl 5 rfl) ?_
    refine wz_rI (c' := 0) (s' := 0) hW (wz_runS (rest := []) C hW lTX10_85 (ctX10_has l G (x20 ||| l4) l5 z rfl) ⟨⟨rfl, rfl⟩, Nat.le_of_ble_eq_true rfl, Nat.le_of_ble_eq_true rfl⟩ rfl hl.1 rfl (Nat.le_of_ble_eq_true rfl) dX10_parts_28 ⟨Nat.le_of_ble_eq_true rfl, Nat.le_of_ble_eq_true rfl⟩) rfl rfl (fun H locs hW => ?_)
    refine lv_if_ne (tgt := 62) hx hb dX10_parts_31 (by decide) (fun c31 => ?_) (fun c31 => ?_)
    · have h := ite_f c31 h
      obtain ⟨v62, ev62⟩ : ∃ y : Int32, y = (l5 + (1 : Int32)) := ⟨_, rfl⟩
      have h := nm_to h ev62
      refine lv_iinc (v := v62) (lv' := [(5, .int v62), (0, .ref (gB G + a0)), (1, .int l1), (2, .int l2), (3, .int l3), (4, .int l4)]) hx hb dX10_parts_62 hl (k := 5) rfl (by rw [ev62]; rfl) (by decide) rfl (fun ls hl => ?_)
      refine lv_goto (tgt := 10) hx hb dX10_parts_65 (by decide) ?_
      exact hk10 a0 l1 l2 l3 l4 v62 _ _ _ h hW (lv_sub hl [1, 2, 3, 4, 5, 0] rfl)
    · have h := ite_t c31 h
      refine lv_iload hx hb dX10_parts_34 (lv_at hl 4 rfl) ?_
      refine lv_aload_n hx hb dX10_parts_36 rfl (lv_at hl 0 rfl) ?_
      refine lv_iload hx hb dX10_parts_37 (lv_at hl 5 rfl) ?_
      obtain ⟨x39, hq, h⟩ := ob h
      refine wz_rI (c' := 0) (s' := 0) hW (wz_runV (rest := [.int l4]) C hW lVX10_497 (ck hq).1 rfl (ctX10_partOf l G a0 l5 z hq) ⟨⟨rfl, rfl⟩, Nat.le_of_ble_eq_true rfl, Nat.le_of_ble_eq_true rfl⟩ rfl hl.1 rfl (Nat.le_of_ble_eq_true rfl) dX10_parts_39 ⟨Nat.le_of_ble_eq_true rfl, Nat.le_of_ble_eq_true rfl⟩) rfl rfl (fun H locs hW => ?_)
      refine lv_ior hx hb dX10_parts_42 ?_
      refine lv_topi (fun v43 ev43 => ?_)
      have h := nm_to h ev43
      refine lv_istore (lv' := [(4, .int v43), (0, .ref (gB G + a0)), (1, .int l1), (2, .int l2), (3, .int l3), (5, .int l5)]) hx hb dX10_parts_43 hl (by decide) rfl (fun ls hl => ?_)
      obtain ⟨v45, ev45⟩ : ∃ y : Int32, y = (l2 + (1 : Int32)) := ⟨_, rfl⟩
      have h := nm_to h ev45
      refine lv_iinc (v := v45) (lv' := [(2, .int v45), (4, .int v43), (0, .ref (gB G + a0)), (1, .int l1), (3, .int l3), (5, .int l5)]) hx hb dX10_parts_45 hl (k := 3) rfl (by rw [ev45]; rfl) (by decide) rfl (fun ls hl => ?_)
      refine lv_iload_n hx hb dX10_parts_48 rfl (lv_at hl 4 rfl) ?_
      refine lv_aload_n hx hb dX10_parts_49 rfl (lv_at hl 2 rfl) ?_
      refine lv_iload hx hb dX10_parts_50 (lv_at hl 5 rfl) ?_
      obtain ⟨x52, hq, h⟩ := ob h
      refine wz_rI (c' := 0) (s' := 0) hW (wz_runV (rest := [.int l3]) C hW lVX10_497 (ck hq).1 rfl (ctX10_partOf l G a0 l5 z hq) ⟨⟨rfl, rfl⟩, Nat.le_of_ble_eq_true rfl, Nat.le_of_ble_eq_true rfl⟩ rfl hl.1 rfl (Nat.le_of_ble_eq_true rfl) dX10_parts_52 ⟨Nat.le_of_ble_eq_true rfl, Nat.le_of_ble_eq_true rfl⟩) rfl rfl (fun H locs hW => ?_)
      obtain ⟨x55, hq, h⟩ := ob h
      refine wz_rI (c' := 0) (s' := 0) hW (wz_runS (rest := [.int l3]) C hW lTX10_385 (ctX10_ones l G x52 z hq) ⟨⟨rfl, rfl⟩, Nat.le_of_ble_eq_true rfl, Nat.le_of_ble_eq_true rfl⟩ rfl hl.1 rfl (Nat.le_of_ble_eq_true rfl) dX10_parts_55 ⟨Nat.le_of_ble_eq_true rfl, Nat.le_of_ble_eq_true rfl⟩) rfl rfl (fun H locs hW => ?_)
      refine wz_rI (c' := 0) (s' := 0) hW (wz_runS (rest := []) C hW lTX10_155 (ctX10_greater l G l3 x55 z rfl) ⟨⟨rfl, rfl⟩, Nat.le_of_ble_eq_true rfl, Nat.le_of_ble_eq_true rfl⟩ rfl hl.1 rfl (Nat.le_of_ble_eq_true rfl) dX10_parts_58 ⟨Nat.le_of_ble_eq_true rfl, Nat.le_of_ble_eq_true rfl⟩) rfl rfl (fun H locs hW => ?_)
      refine lv_topi (fun v61 ev61 => ?_)
      have h := nm_to h ev61
      refine lv_istore_n (lv' := [(3, .int v61), (2, .int v45), (4, .int v43), (0, .ref (gB G + a0)), (1, .int l1), (5, .int l5)]) hx hb dX10_parts_61 rfl hl (by decide) rfl (fun ls hl => ?_)
      obtain ⟨v62, ev62⟩ : ∃ y : Int32, y = (l5 + (1 : Int32)) := ⟨_, rfl⟩
      have h := nm_to h ev62
      refine lv_iinc (v := v62) (lv' := [(5, .int v62), (3, .int v61), (2, .int v45), (4, .int v43), (0, .ref (gB G + a0)), (1, .int l1)]) hx hb dX10_parts_62 hl (k := 5) rfl (by rw [ev62]; rfl) (by decide) rfl (fun ls hl => ?_)
      refine lv_goto (tgt := 10) hx hb dX10_parts_65 (by decide) ?_
      exact hk10 a0 l1 v45 v61 v43 v62 _ _ _ h hW (lv_sub hl [4, 5, 2, 1, 3, 0] rfl)
def fX10_parts_10 (z : AH) : Nat → Nat → Int32 → Int32 → Int32 → Int32 → Int32 → Option (Int32)
  | 0, _, _, _, _, _, _ => none
  | n + 1, a0, l1, l2, l3, l4, l5 => bX10_parts_10 (fX10_parts_10 z n) a0 l1 l2 l3 l4 l5 z
theorem klX10_parts_10 {p : Program} {l : Launch} {e : Env} {s : State} {m : MethodId} {args : Array Value} {below : List Frame} {meth : Method} {c : Code} {G : GW} {r : Int32} (C : Cx p m c cX10_parts 6 s args RX10 G) (hlk : meth.locks = false) (hr : meth.sig.returnType = (some .int)) {z : AH} : ∀ (n : Nat) (a0 : Nat) (l1 : Int32) (l2 : Int32) (l3 : Int32) (l4 : Int32) (l5 : Int32) (H : Heap) (locs : List Loc) (ls : Array Slot), fX10_parts_10 z n a0 l1 l2 l3 l4 l5 = some r → Wb G z s H locs → lv_has ls 6 [(0, .ref (gB G + a0)), (1, .int l1), (2, .int l2), (3, .int l3), (4, .int l4), (5, .int l5)] → W p l e rmX10_parts s m args below meth c H locs 0 0 (MQ below (Qi G r z) args s 0 0 (AA G)) (F0 m 10 ls []) := by
  intro n
  induction n with
  | zero => intro a0 l1 l2 l3 l4 l5 H locs ls h; have h : (none : Option (Int32)) = some r := h; cases h
  | succ n ih => intro a0 l1 l2 l3 l4 l5 H locs ls h hW hl; exact kbX10_parts_10 C hlk hr (fX10_parts_10 z n) (fun a0 l1 l2 l3 l4 l5 H locs ls h hW hl => ih a0 l1 l2 l3 l4 l5 H locs ls h hW hl) a0 l1 l2 l3 l4 l5 h hW hl
def fX10_parts (a0 : Nat) (l1 : Int32) (z : AH) : Option (Int32) :=
  if isO 9 z a0 = true then
    fX10_parts_10 z FU a0 l1 (0 : Int32) (0 : Int32) (0 : Int32) (0 : Int32)
  else none
set_option maxHeartbeats 4000000 in
set_option maxRecDepth 100000 in
theorem ctX10_parts (l : Launch) (G : GW) (a0 : Nat) (l1 : Int32) (z : AH) {r : Int32} (h : fX10_parts a0 l1 z = some r) : Met l yX10_parts (wy yX10_parts cX10_parts 6 (some .int)) rmX10_parts (Pz G [.ref (gB G + a0), .int l1] z) (Qi G r z) 0 0 (AA G) := by
  refine wz_ent (own := RX10) (by decide +kernel) rfl (fun p e s m below meth c ls C hlk hr hin hW hl => ?_) (Nat.le_of_ble_eq_true rfl)
  have hl : lv_has ls 6 [(0, .ref (gB G + a0)), (1, .int l1)] := hl
  have hx := C.1
  have hb := C.2.1
  unfold fX10_parts at h
  obtain ⟨-, h⟩ := ck h
  refine lv_iconst (v := 0) hx hb dX10_parts_0 (by decide) ?_
  refine lv_istore_n (lv' := [(2, .int (0 : Int32)), (0, .ref (gB G + a0)), (1, .int l1)]) hx hb dX10_parts_1 rfl hl (by decide) rfl (fun ls hl => ?_)
  refine lv_iconst (v := 0) hx hb dX10_parts_2 (by decide) ?_
  refine lv_istore_n (lv' := [(3, .int (0 : Int32)), (2, .int (0 : Int32)), (0, .ref (gB G + a0)), (1, .int l1)]) hx hb dX10_parts_3 rfl hl (by decide) rfl (fun ls hl => ?_)
  refine lv_iconst (v := 0) hx hb dX10_parts_4 (by decide) ?_
  refine lv_istore (lv' := [(4, .int (0 : Int32)), (3, .int (0 : Int32)), (2, .int (0 : Int32)), (0, .ref (gB G + a0)), (1, .int l1)]) hx hb dX10_parts_5 hl (by decide) rfl (fun ls hl => ?_)
  refine lv_iconst (v := 0) hx hb dX10_parts_7 (by decide) ?_
  refine lv_istore (lv' := [(5, .int (0 : Int32)), (4, .int (0 : Int32)), (3, .int (0 : Int32)), (2, .int (0 : Int32)), (0, .ref (gB G + a0)), (1, .int l1)]) hx hb dX10_parts_8 hl (by decide) rfl (fun ls hl => ?_)
  exact klX10_parts_10 C hlk hr FU a0 l1 (0 : Int32) (0 : Int32) (0 : Int32) (0 : Int32) _ _ _ h hW (lv_sub hl [4, 5, 3, 2, 1, 0] rfl)
theorem dX10_paired_0 : decode cX10_paired 0 = .ok (.iconst 0, 1) := by decide +kernel
theorem dX10_paired_1 : decode cX10_paired 1 = .ok (.istore_n 1, 1) := by decide +kernel
theorem dX10_paired_2 : decode cX10_paired 2 = .ok (.iload_n 1, 1) := by decide +kernel
theorem dX10_paired_3 : decode cX10_paired 3 = .ok (.bipush 16, 2) := by decide +kernel
theorem dX10_paired_5 : decode cX10_paired 5 = .ok (.if_icmp .ge 26, 3) := by decide +kernel
theorem dX10_paired_8 : decode cX10_paired 8 = .ok (.aload_n 0, 1) := by decide +kernel
theorem dX10_paired_9 : decode cX10_paired 9 = .ok (.getfield 71, 3) := by decide +kernel
theorem dX10_paired_12 : decode cX10_paired 12 = .ok (.iload_n 1, 1) := by decide +kernel
theorem dX10_paired_13 : decode cX10_paired 13 = .ok (.iload_n 1, 1) := by decide +kernel
theorem dX10_paired_14 : decode cX10_paired 14 = .ok (.ifCond .ne 7, 3) := by decide +kernel
theorem dX10_paired_17 : decode cX10_paired 17 = .ok (.iconst 0, 1) := by decide +kernel
theorem dX10_paired_18 : decode cX10_paired 18 = .ok (.goto 6, 3) := by decide +kernel
theorem dX10_paired_21 : decode cX10_paired 21 = .ok (.ldc_w 500, 3) := by decide +kernel
theorem dX10_paired_24 : decode cX10_paired 24 = .ok (.iastore, 1) := by decide +kernel
theorem dX10_paired_25 : decode cX10_paired 25 = .ok (.iinc 1 1, 3) := by decide +kernel
theorem dX10_paired_28 : decode cX10_paired 28 = .ok (.goto (-26), 3) := by decide +kernel
theorem dX10_paired_31 : decode cX10_paired 31 = .ok (.iconst 0, 1) := by decide +kernel
theorem dX10_paired_32 : decode cX10_paired 32 = .ok (.istore_n 1, 1) := by decide +kernel
theorem dX10_paired_33 : decode cX10_paired 33 = .ok (.iload_n 1, 1) := by decide +kernel
theorem dX10_paired_34 : decode cX10_paired 34 = .ok (.aload_n 0, 1) := by decide +kernel
theorem dX10_paired_35 : decode cX10_paired 35 = .ok (.iconst 2, 1) := by decide +kernel
theorem dX10_paired_36 : decode cX10_paired 36 = .ok (.invokevirtual 272, 3) := by decide +kernel
theorem dX10_paired_39 : decode cX10_paired 39 = .ok (.if_icmp .ge 124, 3) := by decide +kernel
theorem dX10_paired_42 : decode cX10_paired 42 = .ok (.bipush 15, 2) := by decide +kernel
theorem dX10_paired_44 : decode cX10_paired 44 = .ok (.istore_n 2, 1) := by decide +kernel
theorem dX10_paired_45 : decode cX10_paired 45 = .ok (.iload_n 2, 1) := by decide +kernel
theorem dX10_paired_46 : decode cX10_paired 46 = .ok (.ifCond .lt 111, 3) := by decide +kernel
theorem dX10_paired_49 : decode cX10_paired 49 = .ok (.iconst 0, 1) := by decide +kernel
theorem dX10_paired_50 : decode cX10_paired 50 = .ok (.istore_n 3, 1) := by decide +kernel
theorem dX10_paired_51 : decode cX10_paired 51 = .ok (.iload_n 3, 1) := by decide +kernel
theorem dX10_paired_52 : decode cX10_paired 52 = .ok (.aload_n 0, 1) := by decide +kernel
theorem dX10_paired_53 : decode cX10_paired 53 = .ok (.iconst 3, 1) := by decide +kernel
theorem dX10_paired_54 : decode cX10_paired 54 = .ok (.invokevirtual 272, 3) := by decide +kernel
theorem dX10_paired_57 : decode cX10_paired 57 = .ok (.if_icmp .ge 94, 3) := by decide +kernel
theorem dX10_paired_60 : decode cX10_paired 60 = .ok (.iload_n 2, 1) := by decide +kernel
theorem dX10_paired_61 : decode cX10_paired 61 = .ok (.iload_n 3, 1) := by decide +kernel
theorem dX10_paired_62 : decode cX10_paired 62 = .ok (.invokestatic 85, 3) := by decide +kernel
theorem dX10_paired_65 : decode cX10_paired 65 = .ok (.ifCond .eq 34, 3) := by decide +kernel
theorem dX10_paired_68 : decode cX10_paired 68 = .ok (.aload_n 0, 1) := by decide +kernel
theorem dX10_paired_69 : decode cX10_paired 69 = .ok (.bipush 38, 2) := by decide +kernel
theorem dX10_paired_71 : decode cX10_paired 71 = .ok (.iload_n 1, 1) := by decide +kernel
theorem dX10_paired_72 : decode cX10_paired 72 = .ok (.iadd, 1) := by decide +kernel
theorem dX10_paired_73 : decode cX10_paired 73 = .ok (.invokevirtual 272, 3) := by decide +kernel
theorem dX10_paired_76 : decode cX10_paired 76 = .ok (.aload_n 0, 1) := by decide +kernel
theorem dX10_paired_77 : decode cX10_paired 77 = .ok (.bipush 42, 2) := by decide +kernel
theorem dX10_paired_79 : decode cX10_paired 79 = .ok (.iload_n 3, 1) := by decide +kernel
theorem dX10_paired_80 : decode cX10_paired 80 = .ok (.iadd, 1) := by decide +kernel
theorem dX10_paired_81 : decode cX10_paired 81 = .ok (.invokevirtual 272, 3) := by decide +kernel
theorem dX10_paired_84 : decode cX10_paired 84 = .ok (.invokestatic 327, 3) := by decide +kernel
theorem dX10_paired_87 : decode cX10_paired 87 = .ok (.aload_n 0, 1) := by decide +kernel
theorem dX10_paired_88 : decode cX10_paired 88 = .ok (.iconst 5, 1) := by decide +kernel
theorem dX10_paired_89 : decode cX10_paired 89 = .ok (.invokevirtual 272, 3) := by decide +kernel
theorem dX10_paired_92 : decode cX10_paired 92 = .ok (.if_icmp .gt 7, 3) := by decide +kernel
theorem dX10_paired_95 : decode cX10_paired 95 = .ok (.iconst 1, 1) := by decide +kernel
theorem dX10_paired_96 : decode cX10_paired 96 = .ok (.goto 4, 3) := by decide +kernel
theorem dX10_paired_99 : decode cX10_paired 99 = .ok (.iconst 0, 1) := by decide +kernel
theorem dX10_paired_100 : decode cX10_paired 100 = .ok (.istore 4, 2) := by decide +kernel
theorem dX10_paired_102 : decode cX10_paired 102 = .ok (.aload_n 0, 1) := by decide +kernel
theorem dX10_paired_103 : decode cX10_paired 103 = .ok (.getfield 71, 3) := by decide +kernel
theorem dX10_paired_106 : decode cX10_paired 106 = .ok (.iload_n 2, 1) := by decide +kernel
theorem dX10_paired_107 : decode cX10_paired 107 = .ok (.iload 4, 2) := by decide +kernel
theorem dX10_paired_109 : decode cX10_paired 109 = .ok (.ifCond .eq 29, 3) := by decide +kernel
theorem dX10_paired_112 : decode cX10_paired 112 = .ok (.aload_n 0, 1) := by decide +kernel
theorem dX10_paired_113 : decode cX10_paired 113 = .ok (.getfield 71, 3) := by decide +kernel
theorem dX10_paired_116 : decode cX10_paired 116 = .ok (.iload_n 2, 1) := by decide +kernel
theorem dX10_paired_117 : decode cX10_paired 117 = .ok (.iaload, 1) := by decide +kernel
theorem dX10_paired_118 : decode cX10_paired 118 = .ok (.iconst 1, 1) := by decide +kernel
theorem dX10_paired_119 : decode cX10_paired 119 = .ok (.aload_n 0, 1) := by decide +kernel
theorem dX10_paired_120 : decode cX10_paired 120 = .ok (.getfield 71, 3) := by decide +kernel
theorem dX10_paired_123 : decode cX10_paired 123 = .ok (.iload_n 2, 1) := by decide +kernel
theorem dX10_paired_124 : decode cX10_paired 124 = .ok (.iconst 1, 1) := by decide +kernel
theorem dX10_paired_125 : decode cX10_paired 125 = .ok (.iload_n 3, 1) := by decide +kernel
theorem dX10_paired_126 : decode cX10_paired 126 = .ok (.ishl, 1) := by decide +kernel
theorem dX10_paired_127 : decode cX10_paired 127 = .ok (.iconst (-1), 1) := by decide +kernel
theorem dX10_paired_128 : decode cX10_paired 128 = .ok (.ixor, 1) := by decide +kernel
theorem dX10_paired_129 : decode cX10_paired 129 = .ok (.iand, 1) := by decide +kernel
theorem dX10_paired_130 : decode cX10_paired 130 = .ok (.iaload, 1) := by decide +kernel
theorem dX10_paired_131 : decode cX10_paired 131 = .ok (.iadd, 1) := by decide +kernel
theorem dX10_paired_132 : decode cX10_paired 132 = .ok (.invokestatic 155, 3) := by decide +kernel
theorem dX10_paired_135 : decode cX10_paired 135 = .ok (.goto 9, 3) := by decide +kernel
theorem dX10_paired_138 : decode cX10_paired 138 = .ok (.aload_n 0, 1) := by decide +kernel
theorem dX10_paired_139 : decode cX10_paired 139 = .ok (.getfield 71, 3) := by decide +kernel
theorem dX10_paired_142 : decode cX10_paired 142 = .ok (.iload_n 2, 1) := by decide +kernel
theorem dX10_paired_143 : decode cX10_paired 143 = .ok (.iaload, 1) := by decide +kernel
theorem dX10_paired_144 : decode cX10_paired 144 = .ok (.iastore, 1) := by decide +kernel
theorem dX10_paired_145 : decode cX10_paired 145 = .ok (.iinc 3 1, 3) := by decide +kernel
theorem dX10_paired_148 : decode cX10_paired 148 = .ok (.goto (-97), 3) := by decide +kernel
theorem dX10_paired_151 : decode cX10_paired 151 = .ok (.iinc 2 (-1), 3) := by decide +kernel
theorem dX10_paired_154 : decode cX10_paired 154 = .ok (.goto (-109), 3) := by decide +kernel
theorem dX10_paired_157 : decode cX10_paired 157 = .ok (.iinc 1 1, 3) := by decide +kernel
theorem dX10_paired_160 : decode cX10_paired 160 = .ok (.goto (-127), 3) := by decide +kernel
theorem dX10_paired_163 : decode cX10_paired 163 = .ok (.iconst 0, 1) := by decide +kernel
theorem dX10_paired_164 : decode cX10_paired 164 = .ok (.istore_n 1, 1) := by decide +kernel
theorem dX10_paired_165 : decode cX10_paired 165 = .ok (.iconst 0, 1) := by decide +kernel
theorem dX10_paired_166 : decode cX10_paired 166 = .ok (.istore_n 2, 1) := by decide +kernel
theorem dX10_paired_167 : decode cX10_paired 167 = .ok (.iload_n 2, 1) := by decide +kernel
theorem dX10_paired_168 : decode cX10_paired 168 = .ok (.bipush 16, 2) := by decide +kernel
theorem dX10_paired_170 : decode cX10_paired 170 = .ok (.if_icmp .ge 20, 3) := by decide +kernel
theorem dX10_paired_173 : decode cX10_paired 173 = .ok (.iload_n 1, 1) := by decide +kernel
theorem dX10_paired_174 : decode cX10_paired 174 = .ok (.aload_n 0, 1) := by decide +kernel
theorem dX10_paired_175 : decode cX10_paired 175 = .ok (.getfield 71, 3) := by decide +kernel
theorem dX10_paired_178 : decode cX10_paired 178 = .ok (.iload_n 2, 1) := by decide +kernel
theorem dX10_paired_179 : decode cX10_paired 179 = .ok (.iaload, 1) := by decide +kernel
theorem dX10_paired_180 : decode cX10_paired 180 = .ok (.invokestatic 155, 3) := by decide +kernel
theorem dX10_paired_183 : decode cX10_paired 183 = .ok (.istore_n 1, 1) := by decide +kernel
theorem dX10_paired_184 : decode cX10_paired 184 = .ok (.iinc 2 1, 3) := by decide +kernel
theorem dX10_paired_187 : decode cX10_paired 187 = .ok (.goto (-20), 3) := by decide +kernel
theorem dX10_paired_190 : decode cX10_paired 190 = .ok (.iload_n 1, 1) := by decide +kernel
theorem dX10_paired_191 : decode cX10_paired 191 = .ok (.ireturn, 1) := by decide +kernel
abbrev rmX10_paired : Room := { frames := 1, cells := 0, slots := 0, locals := 21 }
def bX10_paired_167 (k167 : Nat → Int32 → Int32 → AH → Option (Int32 × AH)) (a0 : Nat) (l1 : Int32) (l2 : Int32) (z : AH) : Option (Int32 × AH) :=
  if (16 : Int32) ≤ l2 then (
    some (l1, z)
  ) else (
    (gN 9 53 z a0).bind fun b175 =>
    (ixI 0 z b175 l2).bind fun x179 =>
    nm (fX10_greater l1 x179) fun v183 =>
    nm (l2 + (1 : Int32)) fun v184 =>
    k167 a0 v183 v184 z
  )
set_option maxHeartbeats 4000000 in
set_option maxRecDepth 100000 in
theorem kbX10_paired_167 {p : Program} {l : Launch} {e : Env} {s : State} {m : MethodId} {args : Array Value} {below : List Frame} {meth : Method} {c : Code} {G : GW} {r : Int32} {z' : AH} (C : Cx p m c cX10_paired 5 s args RX10 G) (hlk : meth.locks = false) (hr : meth.sig.returnType = (some .int)) (k167 : Nat → Int32 → Int32 → AH → Option (Int32 × AH)) (hk167 : ∀ (a0 : Nat) (l1 : Int32) (l2 : Int32) (z : AH) (H : Heap) (locs : List Loc) (ls : Array Slot), k167 a0 l1 l2 z = some (r, z') → Wb G z s H locs → lv_has ls 5 [(0, .ref (gB G + a0)), (1, .int l1), (2, .int l2)] → W p l e rmX10_paired s m args below meth c H locs 0 0 (MQ below (Qi G r z') args s 0 0 (AA G)) (F0 m 167 ls [])) (a0 : Nat) (l1 : Int32) (l2 : Int32) {z : AH} {H : Heap} {locs : List Loc} {ls : Array Slot} (h : bX10_paired_167 k167 a0 l1 l2 z = some (r, z')) (hW : Wb G z s H locs) (hl : lv_has ls 5 [(0, .ref (gB G + a0)), (1, .int l1), (2, .int l2)]) : W p l e rmX10_paired s m args below meth c H locs 0 0 (MQ below (Qi G r z') args s 0 0 (AA G)) (F0 m 167 ls []) := by
  have hx := C.1
  have hb := C.2.1
  unfold bX10_paired_167 at h
  refine lv_iload_n hx hb dX10_paired_167 rfl (lv_at hl 2 rfl) ?_
  refine lv_bipush (v := 16) hx hb dX10_paired_168 (by decide) ?_
  refine lv_icmp_ge (tgt := 190) hx hb dX10_paired_170 (by decide) (fun c170 => ?_) (fun c170 => ?_)
  · have h := ite_t c170 h
    refine lv_iload_n hx hb dX10_paired_190 rfl (lv_at hl 1 rfl) ?_
    exact wz_iretE C hlk hr (so2 h).1 (so2 h).2 hW dX10_paired_191
  · have h := ite_f c170 h
    refine lv_iload_n hx hb dX10_paired_173 rfl (lv_at hl 1 rfl) ?_
    refine lv_aload_n hx hb dX10_paired_174 rfl (lv_at hl 0 rfl) ?_
    obtain ⟨b175, hg, h⟩ := ob h
    refine wz_gN C hW flX10_71 hg dX10_paired_175 ?_
    refine lv_iload_n hx hb dX10_paired_178 rfl (lv_at hl 2 rfl) ?_
    obtain ⟨x179, hg, h⟩ := ob h
    refine wz_ald C hW hg dX10_paired_179 ?_
    refine wz_rI (c' := 0) (s' := 0) hW (wz_runS (rest := []) C hW lTX10_155 (ctX10_greater l G l1 x179 z rfl) ⟨⟨rfl, rfl⟩, Nat.le_of_ble_eq_true rfl, Nat.le_of_ble_eq_true rfl⟩ rfl hl.1 rfl (Nat.le_of_ble_eq_true rfl) dX10_paired_180 ⟨Nat.le_of_ble_eq_true rfl, Nat.le_of_ble_eq_true rfl⟩) rfl rfl (fun H locs hW => ?_)
    refine lv_topi (fun v183 ev183 => ?_)
    have h := nm_to h ev183
    refine lv_istore_n (lv' := [(1, .int v183), (0, .ref (gB G + a0)), (2, .int l2)]) hx hb dX10_paired_183 rfl hl (by decide) rfl (fun ls hl => ?_)
    obtain ⟨v184, ev184⟩ : ∃ y : Int32, y = (l2 + (1 : Int32)) := ⟨_, rfl⟩
    have h := nm_to h ev184
    refine lv_iinc (v := v184) (lv' := [(2, .int v184), (1, .int v183), (0, .ref (gB G + a0))]) hx hb dX10_paired_184 hl (k := 2) rfl (by rw [ev184]; rfl) (by decide) rfl (fun ls hl => ?_)
    refine lv_goto (tgt := 167) hx hb dX10_paired_187 (by decide) ?_
    exact hk167 a0 v183 v184 z _ _ _ h hW (lv_sub hl [2, 1, 0] rfl)
def fX10_paired_167 : Nat → Nat → Int32 → Int32 → AH → Option (Int32 × AH)
  | 0, _, _, _, _ => none
  | n + 1, a0, l1, l2, z => bX10_paired_167 (fX10_paired_167 n) a0 l1 l2 z
theorem klX10_paired_167 {p : Program} {l : Launch} {e : Env} {s : State} {m : MethodId} {args : Array Value} {below : List Frame} {meth : Method} {c : Code} {G : GW} {r : Int32} {z' : AH} (C : Cx p m c cX10_paired 5 s args RX10 G) (hlk : meth.locks = false) (hr : meth.sig.returnType = (some .int)) : ∀ (n : Nat) (a0 : Nat) (l1 : Int32) (l2 : Int32) (z : AH) (H : Heap) (locs : List Loc) (ls : Array Slot), fX10_paired_167 n a0 l1 l2 z = some (r, z') → Wb G z s H locs → lv_has ls 5 [(0, .ref (gB G + a0)), (1, .int l1), (2, .int l2)] → W p l e rmX10_paired s m args below meth c H locs 0 0 (MQ below (Qi G r z') args s 0 0 (AA G)) (F0 m 167 ls []) := by
  intro n
  induction n with
  | zero => intro a0 l1 l2 z H locs ls h; have h : (none : Option (Int32 × AH)) = some (r, z') := h; cases h
  | succ n ih => intro a0 l1 l2 z H locs ls h hW hl; exact kbX10_paired_167 C hlk hr (fX10_paired_167 n) (fun a0 l1 l2 z H locs ls h hW hl => ih a0 l1 l2 z H locs ls h hW hl) a0 l1 l2 h hW hl
def bX10_paired_100 (k33 : Nat → Int32 → AH → Option (Int32 × AH)) (k45 : Nat → Int32 → Int32 → AH → Option (Int32 × AH)) (k51 : Nat → Int32 → Int32 → Int32 → AH → Option (Int32 × AH)) (a0 : Nat) (l1 : Int32) (l2 : Int32) (l3 : Int32) (s0 : Int32) (z : AH) : Option (Int32 × AH) :=
  (gN 9 53 z a0).bind fun b103 =>
  if s0 = (0 : Int32) then (
    (gN 9 53 z a0).bind fun b139 =>
    (ixI 0 z b139 l2).bind fun x143 =>
    (stI 0 z b103 l2 x143).bind fun z144 =>
    nm (l3 + (1 : Int32)) fun v145 =>
    k51 a0 l1 l2 v145 z144
  ) else (
    (gN 9 53 z a0).bind fun b113 =>
    (ixI 0 z b113 l2).bind fun x117 =>
    (gN 9 53 z a0).bind fun b120 =>
    (ixI 0 z b120 (l2 &&& ((shl (1 : Int32) l3) ^^^ (-1 : Int32)))).bind fun x130 =>
    (stI 0 z b103 l2 (fX10_greater x117 ((1 : Int32) + x130))).bind fun z144 =>
    nm (l3 + (1 : Int32)) fun v145 =>
    k51 a0 l1 l2 v145 z144
  )
set_option maxHeartbeats 4000000 in
set_option maxRecDepth 100000 in
theorem kbX10_paired_100 {p : Program} {l : Launch} {e : Env} {s : State} {m : MethodId} {args : Array Value} {below : List Frame} {meth : Method} {c : Code} {G : GW} {r : Int32} {z' : AH} (C : Cx p m c cX10_paired 5 s args RX10 G) (hlk : meth.locks = false) (hr : meth.sig.returnType = (some .int)) (k33 : Nat → Int32 → AH → Option (Int32 × AH)) (k45 : Nat → Int32 → Int32 → AH → Option (Int32 × AH)) (k51 : Nat → Int32 → Int32 → Int32 → AH → Option (Int32 × AH)) (hk33 : ∀ (a0 : Nat) (l1 : Int32) (z : AH) (H : Heap) (locs : List Loc) (ls : Array Slot), k33 a0 l1 z = some (r, z') → Wb G z s H locs → lv_has ls 5 [(0, .ref (gB G + a0)), (1, .int l1)] → W p l e rmX10_paired s m args below meth c H locs 0 0 (MQ below (Qi G r z') args s 0 0 (AA G)) (F0 m 33 ls [])) (hk45 : ∀ (a0 : Nat) (l1 : Int32) (l2 : Int32) (z : AH) (H : Heap) (locs : List Loc) (ls : Array Slot), k45 a0 l1 l2 z = some (r, z') → Wb G z s H locs → lv_has ls 5 [(0, .ref (gB G + a0)), (1, .int l1), (2, .int l2)] → W p l e rmX10_paired s m args below meth c H locs 0 0 (MQ below (Qi G r z') args s 0 0 (AA G)) (F0 m 45 ls [])) (hk51 : ∀ (a0 : Nat) (l1 : Int32) (l2 : Int32) (l3 : Int32) (z : AH) (H : Heap) (locs : List Loc) (ls : Array Slot), k51 a0 l1 l2 l3 z = some (r, z') → Wb G z s H locs → lv_has ls 5 [(0, .ref (gB G + a0)), (1, .int l1), (2, .int l2), (3, .int l3)] → W p l e rmX10_paired s m args below meth c H locs 0 0 (MQ below (Qi G r z') args s 0 0 (AA G)) (F0 m 51 ls [])) (a0 : Nat) (l1 : Int32) (l2 : Int32) (l3 : Int32) (s0 : Int32) {z : AH} {H : Heap} {locs : List Loc} {ls : Array Slot} (h : bX10_paired_100 k33 k45 k51 a0 l1 l2 l3 s0 z = some (r, z')) (hW : Wb G z s H locs) (hl : lv_has ls 5 [(0, .ref (gB G + a0)), (1, .int l1), (2, .int l2), (3, .int l3)]) : W p l e rmX10_paired s m args below meth c H locs 0 0 (MQ below (Qi G r z') args s 0 0 (AA G)) (F0 m 100 ls [.int s0]) := by
  have hx := C.1
  have hb := C.2.1
  unfold bX10_paired_100 at h
  refine lv_istore (lv' := [(4, .int s0), (0, .ref (gB G + a0)), (1, .int l1), (2, .int l2), (3, .int l3)]) hx hb dX10_paired_100 hl (by decide) rfl (fun ls hl => ?_)
  refine lv_aload_n hx hb dX10_paired_102 rfl (lv_at hl 1 rfl) ?_
  obtain ⟨b103, hg, h⟩ := ob h
  refine wz_gN C hW flX10_71 hg dX10_paired_103 ?_
  refine lv_iload_n hx hb dX10_paired_106 rfl (lv_at hl 3 rfl) ?_
  refine lv_iload hx hb dX10_paired_107 (lv_at hl 0 rfl) ?_
  refine lv_if_eq (tgt := 138) hx hb dX10_paired_109 (by decide) (fun c109 => ?_) (fun c109 => ?_)
  · have h := ite_t c109 h
    refine lv_aload_n hx hb dX10_paired_138 rfl (lv_at hl 1 rfl) ?_
    obtain ⟨b139, hg, h⟩ := ob h
    refine wz_gN C hW flX10_71 hg dX10_paired_139 ?_
    refine lv_iload_n hx hb dX10_paired_142 rfl (lv_at hl 3 rfl) ?_
    obtain ⟨x143, hg, h⟩ := ob h
    refine wz_ald C hW hg dX10_paired_143 ?_
    obtain ⟨z144, hg, h⟩ := ob h
    refine wz_ast C hW hg dX10_paired_144 (fun H locs hW => ?_)
    obtain ⟨v145, ev145⟩ : ∃ y : Int32, y = (l3 + (1 : Int32)) := ⟨_, rfl⟩
    have h := nm_to h ev145
    refine lv_iinc (v := v145) (lv' := [(3, .int v145), (4, .int s0), (0, .ref (gB G + a0)), (1, .int l1), (2, .int l2)]) hx hb dX10_paired_145 hl (k := 4) rfl (by rw [ev145]; rfl) (by decide) rfl (fun ls hl => ?_)
    refine lv_goto (tgt := 51) hx hb dX10_paired_148 (by decide) ?_
    exact hk51 a0 l1 l2 v145 z144 _ _ _ h hW (lv_sub hl [2, 3, 4, 0] rfl)
  · have h := ite_f c109 h
    refine lv_aload_n hx hb dX10_paired_112 rfl (lv_at hl 1 rfl) ?_
    obtain ⟨b113, hg, h⟩ := ob h
    refine wz_gN C hW flX10_71 hg dX10_paired_113 ?_
    refine lv_iload_n hx hb dX10_paired_116 rfl (lv_at hl 3 rfl) ?_
    obtain ⟨x117, hg, h⟩ := ob h
    refine wz_ald C hW hg dX10_paired_117 ?_
    refine lv_iconst (v := 1) hx hb dX10_paired_118 (by decide) ?_
    refine lv_aload_n hx hb dX10_paired_119 rfl (lv_at hl 1 rfl) ?_
    obtain ⟨b120, hg, h⟩ := ob h
    refine wz_gN C hW flX10_71 hg dX10_paired_120 ?_
    refine lv_iload_n hx hb dX10_paired_123 rfl (lv_at hl 3 rfl) ?_
    refine lv_iconst (v := 1) hx hb dX10_paired_124 (by decide) ?_
    refine lv_iload_n hx hb dX10_paired_125 rfl (lv_at hl 4 rfl) ?_
    refine wz_shl hx hb dX10_paired_126 ?_
    refine lv_iconst (v := -1) hx hb dX10_paired_127 (by decide) ?_
    refine lv_ixor hx hb dX10_paired_128 ?_
    refine lv_iand hx hb dX10_paired_129 ?_
    obtain ⟨x130, hg, h⟩ := ob h
    refine wz_ald C hW hg dX10_paired_130 ?_
    refine lv_iadd hx hb dX10_paired_131 ?_
    refine wz_rI (c' := 0) (s' := 0) hW (wz_runS (rest := [.int l2, .ref (gB G + b103)]) C hW lTX10_155 (ctX10_greater l G x117 ((1 : Int32) + x130) z rfl) ⟨⟨rfl, rfl⟩, Nat.le_of_ble_eq_true rfl, Nat.le_of_ble_eq_true rfl⟩ rfl hl.1 rfl (Nat.le_of_ble_eq_true rfl) dX10_paired_132 ⟨Nat.le_of_ble_eq_true rfl, Nat.le_of_ble_eq_true rfl⟩) rfl rfl (fun H locs hW => ?_)
    refine lv_goto (tgt := 144) hx hb dX10_paired_135 (by decide) ?_
    obtain ⟨z144, hg, h⟩ := ob h
    refine wz_ast C hW hg dX10_paired_144 (fun H locs hW => ?_)
    obtain ⟨v145, ev145⟩ : ∃ y : Int32, y = (l3 + (1 : Int32)) := ⟨_, rfl⟩
    have h := nm_to h ev145
    refine lv_iinc (v := v145) (lv' := [(3, .int v145), (4, .int s0), (0, .ref (gB G + a0)), (1, .int l1), (2, .int l2)]) hx hb dX10_paired_145 hl (k := 4) rfl (by rw [ev145]; rfl) (by decide) rfl (fun ls hl => ?_)
    refine lv_goto (tgt := 51) hx hb dX10_paired_148 (by decide) ?_
    exact hk51 a0 l1 l2 v145 z144 _ _ _ h hW (lv_sub hl [2, 3, 4, 0] rfl)
def bX10_paired_99 (k33 : Nat → Int32 → AH → Option (Int32 × AH)) (k45 : Nat → Int32 → Int32 → AH → Option (Int32 × AH)) (k51 : Nat → Int32 → Int32 → Int32 → AH → Option (Int32 × AH)) (a0 : Nat) (l1 : Int32) (l2 : Int32) (l3 : Int32) (z : AH) : Option (Int32 × AH) :=
  bX10_paired_100 k33 k45 k51 a0 l1 l2 l3 (0 : Int32) z
set_option maxHeartbeats 4000000 in
set_option maxRecDepth 100000 in
theorem kbX10_paired_99 {p : Program} {l : Launch} {e : Env} {s : State} {m : MethodId} {args : Array Value} {below : List Frame} {meth : Method} {c : Code} {G : GW} {r : Int32} {z' : AH} (C : Cx p m c cX10_paired 5 s args RX10 G) (hlk : meth.locks = false) (hr : meth.sig.returnType = (some .int)) (k33 : Nat → Int32 → AH → Option (Int32 × AH)) (k45 : Nat → Int32 → Int32 → AH → Option (Int32 × AH)) (k51 : Nat → Int32 → Int32 → Int32 → AH → Option (Int32 × AH)) (hk33 : ∀ (a0 : Nat) (l1 : Int32) (z : AH) (H : Heap) (locs : List Loc) (ls : Array Slot), k33 a0 l1 z = some (r, z') → Wb G z s H locs → lv_has ls 5 [(0, .ref (gB G + a0)), (1, .int l1)] → W p l e rmX10_paired s m args below meth c H locs 0 0 (MQ below (Qi G r z') args s 0 0 (AA G)) (F0 m 33 ls [])) (hk45 : ∀ (a0 : Nat) (l1 : Int32) (l2 : Int32) (z : AH) (H : Heap) (locs : List Loc) (ls : Array Slot), k45 a0 l1 l2 z = some (r, z') → Wb G z s H locs → lv_has ls 5 [(0, .ref (gB G + a0)), (1, .int l1), (2, .int l2)] → W p l e rmX10_paired s m args below meth c H locs 0 0 (MQ below (Qi G r z') args s 0 0 (AA G)) (F0 m 45 ls [])) (hk51 : ∀ (a0 : Nat) (l1 : Int32) (l2 : Int32) (l3 : Int32) (z : AH) (H : Heap) (locs : List Loc) (ls : Array Slot), k51 a0 l1 l2 l3 z = some (r, z') → Wb G z s H locs → lv_has ls 5 [(0, .ref (gB G + a0)), (1, .int l1), (2, .int l2), (3, .int l3)] → W p l e rmX10_paired s m args below meth c H locs 0 0 (MQ below (Qi G r z') args s 0 0 (AA G)) (F0 m 51 ls [])) (a0 : Nat) (l1 : Int32) (l2 : Int32) (l3 : Int32) {z : AH} {H : Heap} {locs : List Loc} {ls : Array Slot} (h : bX10_paired_99 k33 k45 k51 a0 l1 l2 l3 z = some (r, z')) (hW : Wb G z s H locs) (hl : lv_has ls 5 [(0, .ref (gB G + a0)), (1, .int l1), (2, .int l2), (3, .int l3)]) : W p l e rmX10_paired s m args below meth c H locs 0 0 (MQ below (Qi G r z') args s 0 0 (AA G)) (F0 m 99 ls []) := by
  have hx := C.1
  have hb := C.2.1
  unfold bX10_paired_99 at h
  refine lv_iconst (v := 0) hx hb dX10_paired_99 (by decide) ?_
  exact kbX10_paired_100 C hlk hr k33 k45 k51 hk33 hk45 hk51 a0 l1 l2 l3 (0 : Int32) h hW (lv_sub hl [0, 1, 2, 3] rfl)
def bX10_paired_51 (k33 : Nat → Int32 → AH → Option (Int32 × AH)) (k45 : Nat → Int32 → Int32 → AH → Option (Int32 × AH)) (k51 : Nat → Int32 → Int32 → Int32 → AH → Option (Int32 × AH)) (a0 : Nat) (l1 : Int32) (l2 : Int32) (l3 : Int32) (z : AH) : Option (Int32 × AH) :=
  (fX10_of a0 (3 : Int32) z).bind fun x54 =>
  if x54 ≤ l3 then (
    nm (l2 + (-1 : Int32)) fun v151 =>
    k45 a0 l1 v151 z
  ) else (
    if (fX10_has l2 l3) = (0 : Int32) then (
      bX10_paired_99 k33 k45 k51 a0 l1 l2 l3 z
    ) else (
      (fX10_of a0 ((38 : Int32) + l1) z).bind fun x73 =>
      (fX10_of a0 ((42 : Int32) + l3) z).bind fun x81 =>
      (fX10_of a0 (5 : Int32) z).bind fun x89 =>
      if x89 < (fX10_apart x73 x81) then (
        bX10_paired_99 k33 k45 k51 a0 l1 l2 l3 z
      ) else (
        bX10_paired_100 k33 k45 k51 a0 l1 l2 l3 (1 : Int32) z
      )
    )
  )
set_option maxHeartbeats 4000000 in
set_option maxRecDepth 100000 in
theorem kbX10_paired_51 {p : Program} {l : Launch} {e : Env} {s : State} {m : MethodId} {args : Array Value} {below : List Frame} {meth : Method} {c : Code} {G : GW} {r : Int32} {z' : AH} (C : Cx p m c cX10_paired 5 s args RX10 G) (hlk : meth.locks = false) (hr : meth.sig.returnType = (some .int)) (k33 : Nat → Int32 → AH → Option (Int32 × AH)) (k45 : Nat → Int32 → Int32 → AH → Option (Int32 × AH)) (k51 : Nat → Int32 → Int32 → Int32 → AH → Option (Int32 × AH)) (hk33 : ∀ (a0 : Nat) (l1 : Int32) (z : AH) (H : Heap) (locs : List Loc) (ls : Array Slot), k33 a0 l1 z = some (r, z') → Wb G z s H locs → lv_has ls 5 [(0, .ref (gB G + a0)), (1, .int l1)] → W p l e rmX10_paired s m args below meth c H locs 0 0 (MQ below (Qi G r z') args s 0 0 (AA G)) (F0 m 33 ls [])) (hk45 : ∀ (a0 : Nat) (l1 : Int32) (l2 : Int32) (z : AH) (H : Heap) (locs : List Loc) (ls : Array Slot), k45 a0 l1 l2 z = some (r, z') → Wb G z s H locs → lv_has ls 5 [(0, .ref (gB G + a0)), (1, .int l1), (2, .int l2)] → W p l e rmX10_paired s m args below meth c H locs 0 0 (MQ below (Qi G r z') args s 0 0 (AA G)) (F0 m 45 ls [])) (hk51 : ∀ (a0 : Nat) (l1 : Int32) (l2 : Int32) (l3 : Int32) (z : AH) (H : Heap) (locs : List Loc) (ls : Array Slot), k51 a0 l1 l2 l3 z = some (r, z') → Wb G z s H locs → lv_has ls 5 [(0, .ref (gB G + a0)), (1, .int l1), (2, .int l2), (3, .int l3)] → W p l e rmX10_paired s m args below meth c H locs 0 0 (MQ below (Qi G r z') args s 0 0 (AA G)) (F0 m 51 ls [])) (a0 : Nat) (l1 : Int32) (l2 : Int32) (l3 : Int32) {z : AH} {H : Heap} {locs : List Loc} {ls : Array Slot} (h : bX10_paired_51 k33 k45 k51 a0 l1 l2 l3 z = some (r, z')) (hW : Wb G z s H locs) (hl : lv_has ls 5 [(0, .ref (gB G + a0)), (1, .int l1), (2, .int l2), (3, .int l3)]) : W p l e rmX10_paired s m args below meth c H locs 0 0 (MQ below (Qi G r z') args s 0 0 (AA G)) (F0 m 51 ls []) := by
  have hx := C.1
  have hb := C.2.1
  unfold bX10_paired_51 at h
  refine lv_iload_n hx hb dX10_paired_51 rfl (lv_at hl 3 rfl) ?_
  refine lv_aload_n hx hb dX10_paired_52 rfl (lv_at hl 0 rfl) ?_
  refine lv_iconst (v := 3) hx hb dX10_paired_53 (by decide) ?_
  obtain ⟨x54, hq, h⟩ := ob h
  refine wz_rI (c' := 0) (s' := 0) hW (wz_runV (rest := [.int l3]) C hW lVX10_272 (ck hq).1 rfl (ctX10_of l G a0 (3 : Int32) z hq) ⟨⟨rfl, rfl⟩, Nat.le_of_ble_eq_true rfl, Nat.le_of_ble_eq_true rfl⟩ rfl hl.1 rfl (Nat.le_of_ble_eq_true rfl) dX10_paired_54 ⟨Nat.le_of_ble_eq_true rfl, Nat.le_of_ble_eq_true rfl⟩) rfl rfl (fun H locs hW => ?_)
  refine lv_icmp_ge (tgt := 151) hx hb dX10_paired_57 (by decide) (fun c57 => ?_) (fun c57 => ?_)
  · have h := ite_t c57 h
    obtain ⟨v151, ev151⟩ : ∃ y : Int32, y = (l2 + (-1 : Int32)) := ⟨_, rfl⟩
    have h := nm_to h ev151
    refine lv_iinc (v := v151) (lv' := [(2, .int v151), (0, .ref (gB G + a0)), (1, .int l1), (3, .int l3)]) hx hb dX10_paired_151 hl (k := 2) rfl (by rw [ev151]; rfl) (by decide) rfl (fun ls hl => ?_)
    refine lv_goto (tgt := 45) hx hb dX10_paired_154 (by decide) ?_
    exact hk45 a0 l1 v151 z _ _ _ h hW (lv_sub hl [1, 2, 0] rfl)
  · have h := ite_f c57 h
    refine lv_iload_n hx hb dX10_paired_60 rfl (lv_at hl 2 rfl) ?_
    refine lv_iload_n hx hb dX10_paired_61 rfl (lv_at hl 3 rfl) ?_
    refine wz_rI (c' := 0) (s' := 0) hW (wz_runS (rest := []) C hW lTX10_85 (ctX10_has l G l2 l3 z rfl) ⟨⟨rfl, rfl⟩, Nat.le_of_ble_eq_true rfl, Nat.le_of_ble_eq_true rfl⟩ rfl hl.1 rfl (Nat.le_of_ble_eq_true rfl) dX10_paired_62 ⟨Nat.le_of_ble_eq_true rfl, Nat.le_of_ble_eq_true rfl⟩) rfl rfl (fun H locs hW => ?_)
    refine lv_if_eq (tgt := 99) hx hb dX10_paired_65 (by decide) (fun c65 => ?_) (fun c65 => ?_)
    · have h := ite_t c65 h
      exact kbX10_paired_99 C hlk hr k33 k45 k51 hk33 hk45 hk51 a0 l1 l2 l3 h hW (lv_sub hl [0, 1, 2, 3] rfl)
    · have h := ite_f c65 h
      refine lv_aload_n hx hb dX10_paired_68 rfl (lv_at hl 0 rfl) ?_
      refine lv_bipush (v := 38) hx hb dX10_paired_69 (by decide) ?_
      refine lv_iload_n hx hb dX10_paired_71 rfl (lv_at hl 1 rfl) ?_
      refine lv_iadd hx hb dX10_paired_72 ?_
      obtain ⟨x73, hq, h⟩ := ob h
      refine wz_rI (c' := 0) (s' := 0) hW (wz_runV (rest := []) C hW lVX10_272 (ck hq).1 rfl (ctX10_of l G a0 ((38 : Int32) + l1) z hq) ⟨⟨rfl, rfl⟩, Nat.le_of_ble_eq_true rfl, Nat.le_of_ble_eq_true rfl⟩ rfl hl.1 rfl (Nat.le_of_ble_eq_true rfl) dX10_paired_73 ⟨Nat.le_of_ble_eq_true rfl, Nat.le_of_ble_eq_true rfl⟩) rfl rfl (fun H locs hW => ?_)
      refine lv_aload_n hx hb dX10_paired_76 rfl (lv_at hl 0 rfl) ?_
      refine lv_bipush (v := 42) hx hb dX10_paired_77 (by decide) ?_
      refine lv_iload_n hx hb dX10_paired_79 rfl (lv_at hl 3 rfl) ?_
      refine lv_iadd hx hb dX10_paired_80 ?_
      obtain ⟨x81, hq, h⟩ := ob h
      refine wz_rI (c' := 0) (s' := 0) hW (wz_runV (rest := [.int x73]) C hW lVX10_272 (ck hq).1 rfl (ctX10_of l G a0 ((42 : Int32) + l3) z hq) ⟨⟨rfl, rfl⟩, Nat.le_of_ble_eq_true rfl, Nat.le_of_ble_eq_true rfl⟩ rfl hl.1 rfl (Nat.le_of_ble_eq_true rfl) dX10_paired_81 ⟨Nat.le_of_ble_eq_true rfl, Nat.le_of_ble_eq_true rfl⟩) rfl rfl (fun H locs hW => ?_)
      refine wz_rI (c' := 0) (s' := 0) hW (wz_runS (rest := []) C hW lTX10_327 (ctX10_apart l G x73 x81 z rfl) ⟨⟨rfl, rfl⟩, Nat.le_of_ble_eq_true rfl, Nat.le_of_ble_eq_true rfl⟩ rfl hl.1 rfl (Nat.le_of_ble_eq_true rfl) dX10_paired_84 ⟨Nat.le_of_ble_eq_true rfl, Nat.le_of_ble_eq_true rfl⟩) rfl rfl (fun H locs hW => ?_)
      refine lv_aload_n hx hb dX10_paired_87 rfl (lv_at hl 0 rfl) ?_
      refine lv_iconst (v := 5) hx hb dX10_paired_88 (by decide) ?_
      obtain ⟨x89, hq, h⟩ := ob h
      refine wz_rI (c' := 0) (s' := 0) hW (wz_runV (rest := [.int (fX10_apart x73 x81)]) C hW lVX10_272 (ck hq).1 rfl (ctX10_of l G a0 (5 : Int32) z hq) ⟨⟨rfl, rfl⟩, Nat.le_of_ble_eq_true rfl, Nat.le_of_ble_eq_true rfl⟩ rfl hl.1 rfl (Nat.le_of_ble_eq_true rfl) dX10_paired_89 ⟨Nat.le_of_ble_eq_true rfl, Nat.le_of_ble_eq_true rfl⟩) rfl rfl (fun H locs hW => ?_)
      refine lv_icmp_gt (tgt := 99) hx hb dX10_paired_92 (by decide) (fun c92 => ?_) (fun c92 => ?_)
      · have h := ite_t c92 h
        exact kbX10_paired_99 C hlk hr k33 k45 k51 hk33 hk45 hk51 a0 l1 l2 l3 h hW (lv_sub hl [0, 1, 2, 3] rfl)
      · have h := ite_f c92 h
        refine lv_iconst (v := 1) hx hb dX10_paired_95 (by decide) ?_
        refine lv_goto (tgt := 100) hx hb dX10_paired_96 (by decide) ?_
        exact kbX10_paired_100 C hlk hr k33 k45 k51 hk33 hk45 hk51 a0 l1 l2 l3 (1 : Int32) h hW (lv_sub hl [0, 1, 2, 3] rfl)
def fX10_paired_51 (k33 : Nat → Int32 → AH → Option (Int32 × AH)) (k45 : Nat → Int32 → Int32 → AH → Option (Int32 × AH)) : Nat → Nat → Int32 → Int32 → Int32 → AH → Option (Int32 × AH)
  | 0, _, _, _, _, _ => none
  | n + 1, a0, l1, l2, l3, z => bX10_paired_51 k33 k45 (fX10_paired_51 k33 k45 n) a0 l1 l2 l3 z
theorem klX10_paired_51 {p : Program} {l : Launch} {e : Env} {s : State} {m : MethodId} {args : Array Value} {below : List Frame} {meth : Method} {c : Code} {G : GW} {r : Int32} {z' : AH} (C : Cx p m c cX10_paired 5 s args RX10 G) (hlk : meth.locks = false) (hr : meth.sig.returnType = (some .int)) (k33 : Nat → Int32 → AH → Option (Int32 × AH)) (k45 : Nat → Int32 → Int32 → AH → Option (Int32 × AH)) (hk33 : ∀ (a0 : Nat) (l1 : Int32) (z : AH) (H : Heap) (locs : List Loc) (ls : Array Slot), k33 a0 l1 z = some (r, z') → Wb G z s H locs → lv_has ls 5 [(0, .ref (gB G + a0)), (1, .int l1)] → W p l e rmX10_paired s m args below meth c H locs 0 0 (MQ below (Qi G r z') args s 0 0 (AA G)) (F0 m 33 ls [])) (hk45 : ∀ (a0 : Nat) (l1 : Int32) (l2 : Int32) (z : AH) (H : Heap) (locs : List Loc) (ls : Array Slot), k45 a0 l1 l2 z = some (r, z') → Wb G z s H locs → lv_has ls 5 [(0, .ref (gB G + a0)), (1, .int l1), (2, .int l2)] → W p l e rmX10_paired s m args below meth c H locs 0 0 (MQ below (Qi G r z') args s 0 0 (AA G)) (F0 m 45 ls [])) : ∀ (n : Nat) (a0 : Nat) (l1 : Int32) (l2 : Int32) (l3 : Int32) (z : AH) (H : Heap) (locs : List Loc) (ls : Array Slot), fX10_paired_51 k33 k45 n a0 l1 l2 l3 z = some (r, z') → Wb G z s H locs → lv_has ls 5 [(0, .ref (gB G + a0)), (1, .int l1), (2, .int l2), (3, .int l3)] → W p l e rmX10_paired s m args below meth c H locs 0 0 (MQ below (Qi G r z') args s 0 0 (AA G)) (F0 m 51 ls []) := by
  intro n
  induction n with
  | zero => intro a0 l1 l2 l3 z H locs ls h; have h : (none : Option (Int32 × AH)) = some (r, z') := h; cases h
  | succ n ih => intro a0 l1 l2 l3 z H locs ls h hW hl; exact kbX10_paired_51 C hlk hr k33 k45 (fX10_paired_51 k33 k45 n) hk33 hk45 (fun a0 l1 l2 l3 z H locs ls h hW hl => ih a0 l1 l2 l3 z H locs ls h hW hl) a0 l1 l2 l3 h hW hl
def bX10_paired_45 (k33 : Nat → Int32 → AH → Option (Int32 × AH)) (k45 : Nat → Int32 → Int32 → AH → Option (Int32 × AH)) (a0 : Nat) (l1 : Int32) (l2 : Int32) (z : AH) : Option (Int32 × AH) :=
  if l2 < (0 : Int32) then (
    nm (l1 + (1 : Int32)) fun v157 =>
    k33 a0 v157 z
  ) else (
    fX10_paired_51 k33 k45 FU a0 l1 l2 (0 : Int32) z
  )
set_option maxHeartbeats 4000000 in
set_option maxRecDepth 100000 in
theorem kbX10_paired_45 {p : Program} {l : Launch} {e : Env} {s : State} {m : MethodId} {args : Array Value} {below : List Frame} {meth : Method} {c : Code} {G : GW} {r : Int32} {z' : AH} (C : Cx p m c cX10_paired 5 s args RX10 G) (hlk : meth.locks = false) (hr : meth.sig.returnType = (some .int)) (k33 : Nat → Int32 → AH → Option (Int32 × AH)) (k45 : Nat → Int32 → Int32 → AH → Option (Int32 × AH)) (hk33 : ∀ (a0 : Nat) (l1 : Int32) (z : AH) (H : Heap) (locs : List Loc) (ls : Array Slot), k33 a0 l1 z = some (r, z') → Wb G z s H locs → lv_has ls 5 [(0, .ref (gB G + a0)), (1, .int l1)] → W p l e rmX10_paired s m args below meth c H locs 0 0 (MQ below (Qi G r z') args s 0 0 (AA G)) (F0 m 33 ls [])) (hk45 : ∀ (a0 : Nat) (l1 : Int32) (l2 : Int32) (z : AH) (H : Heap) (locs : List Loc) (ls : Array Slot), k45 a0 l1 l2 z = some (r, z') → Wb G z s H locs → lv_has ls 5 [(0, .ref (gB G + a0)), (1, .int l1), (2, .int l2)] → W p l e rmX10_paired s m args below meth c H locs 0 0 (MQ below (Qi G r z') args s 0 0 (AA G)) (F0 m 45 ls [])) (a0 : Nat) (l1 : Int32) (l2 : Int32) {z : AH} {H : Heap} {locs : List Loc} {ls : Array Slot} (h : bX10_paired_45 k33 k45 a0 l1 l2 z = some (r, z')) (hW : Wb G z s H locs) (hl : lv_has ls 5 [(0, .ref (gB G + a0)), (1, .int l1), (2, .int l2)]) : W p l e rmX10_paired s m args below meth c H locs 0 0 (MQ below (Qi G r z') args s 0 0 (AA G)) (F0 m 45 ls []) := by
  have hx := C.1
  have hb := C.2.1
  unfold bX10_paired_45 at h
  refine lv_iload_n hx hb dX10_paired_45 rfl (lv_at hl 2 rfl) ?_
  refine lv_if_lt (tgt := 157) hx hb dX10_paired_46 (by decide) (fun c46 => ?_) (fun c46 => ?_)
  · have h := ite_t c46 h
    obtain ⟨v157, ev157⟩ : ∃ y : Int32, y = (l1 + (1 : Int32)) := ⟨_, rfl⟩
    have h := nm_to h ev157
    refine lv_iinc (v := v157) (lv' := [(1, .int v157), (0, .ref (gB G + a0)), (2, .int l2)]) hx hb dX10_paired_157 hl (k := 1) rfl (by rw [ev157]; rfl) (by decide) rfl (fun ls hl => ?_)
    refine lv_goto (tgt := 33) hx hb dX10_paired_160 (by decide) ?_
    exact hk33 a0 v157 z _ _ _ h hW (lv_sub hl [1, 0] rfl)
  · have h := ite_f c46 h
    refine lv_iconst (v := 0) hx hb dX10_paired_49 (by decide) ?_
    refine lv_istore_n (lv' := [(3, .int (0 : Int32)), (0, .ref (gB G + a0)), (1, .int l1), (2, .int l2)]) hx hb dX10_paired_50 rfl hl (by decide) rfl (fun ls hl => ?_)
    exact klX10_paired_51 C hlk hr k33 k45 hk33 hk45 FU a0 l1 l2 (0 : Int32) z _ _ _ h hW (lv_sub hl [1, 2, 3, 0] rfl)
def fX10_paired_45 (k33 : Nat → Int32 → AH → Option (Int32 × AH)) : Nat → Nat → Int32 → Int32 → AH → Option (Int32 × AH)
  | 0, _, _, _, _ => none
  | n + 1, a0, l1, l2, z => bX10_paired_45 k33 (fX10_paired_45 k33 n) a0 l1 l2 z
theorem klX10_paired_45 {p : Program} {l : Launch} {e : Env} {s : State} {m : MethodId} {args : Array Value} {below : List Frame} {meth : Method} {c : Code} {G : GW} {r : Int32} {z' : AH} (C : Cx p m c cX10_paired 5 s args RX10 G) (hlk : meth.locks = false) (hr : meth.sig.returnType = (some .int)) (k33 : Nat → Int32 → AH → Option (Int32 × AH)) (hk33 : ∀ (a0 : Nat) (l1 : Int32) (z : AH) (H : Heap) (locs : List Loc) (ls : Array Slot), k33 a0 l1 z = some (r, z') → Wb G z s H locs → lv_has ls 5 [(0, .ref (gB G + a0)), (1, .int l1)] → W p l e rmX10_paired s m args below meth c H locs 0 0 (MQ below (Qi G r z') args s 0 0 (AA G)) (F0 m 33 ls [])) : ∀ (n : Nat) (a0 : Nat) (l1 : Int32) (l2 : Int32) (z : AH) (H : Heap) (locs : List Loc) (ls : Array Slot), fX10_paired_45 k33 n a0 l1 l2 z = some (r, z') → Wb G z s H locs → lv_has ls 5 [(0, .ref (gB G + a0)), (1, .int l1), (2, .int l2)] → W p l e rmX10_paired s m args below meth c H locs 0 0 (MQ below (Qi G r z') args s 0 0 (AA G)) (F0 m 45 ls []) := by
  intro n
  induction n with
  | zero => intro a0 l1 l2 z H locs ls h; have h : (none : Option (Int32 × AH)) = some (r, z') := h; cases h
  | succ n ih => intro a0 l1 l2 z H locs ls h hW hl; exact kbX10_paired_45 C hlk hr k33 (fX10_paired_45 k33 n) hk33 (fun a0 l1 l2 z H locs ls h hW hl => ih a0 l1 l2 z H locs ls h hW hl) a0 l1 l2 h hW hl
def bX10_paired_33 (k33 : Nat → Int32 → AH → Option (Int32 × AH)) (a0 : Nat) (l1 : Int32) (z : AH) : Option (Int32 × AH) :=
  (fX10_of a0 (2 : Int32) z).bind fun x36 =>
  if x36 ≤ l1 then (
    fX10_paired_167 FU a0 (0 : Int32) (0 : Int32) z
  ) else (
    fX10_paired_45 k33 FU a0 l1 (15 : Int32) z
  )
set_option maxHeartbeats 4000000 in
set_option maxRecDepth 100000 in
theorem kbX10_paired_33 {p : Program} {l : Launch} {e : Env} {s : State} {m : MethodId} {args : Array Value} {below : List Frame} {meth : Method} {c : Code} {G : GW} {r : Int32} {z' : AH} (C : Cx p m c cX10_paired 5 s args RX10 G) (hlk : meth.locks = false) (hr : meth.sig.returnType = (some .int)) (k33 : Nat → Int32 → AH → Option (Int32 × AH)) (hk33 : ∀ (a0 : Nat) (l1 : Int32) (z : AH) (H : Heap) (locs : List Loc) (ls : Array Slot), k33 a0 l1 z = some (r, z') → Wb G z s H locs → lv_has ls 5 [(0, .ref (gB G + a0)), (1, .int l1)] → W p l e rmX10_paired s m args below meth c H locs 0 0 (MQ below (Qi G r z') args s 0 0 (AA G)) (F0 m 33 ls [])) (a0 : Nat) (l1 : Int32) {z : AH} {H : Heap} {locs : List Loc} {ls : Array Slot} (h : bX10_paired_33 k33 a0 l1 z = some (r, z')) (hW : Wb G z s H locs) (hl : lv_has ls 5 [(0, .ref (gB G + a0)), (1, .int l1)]) : W p l e rmX10_paired s m args below meth c H locs 0 0 (MQ below (Qi G r z') args s 0 0 (AA G)) (F0 m 33 ls []) := by
  have hx := C.1
  have hb := C.2.1
  unfold bX10_paired_33 at h
  refine lv_iload_n hx hb dX10_paired_33 rfl (lv_at hl 1 rfl) ?_
  refine lv_aload_n hx hb dX10_paired_34 rfl (lv_at hl 0 rfl) ?_
  refine lv_iconst (v := 2) hx hb dX10_paired_35 (by decide) ?_
  obtain ⟨x36, hq, h⟩ := ob h
  refine wz_rI (c' := 0) (s' := 0) hW (wz_runV (rest := [.int l1]) C hW lVX10_272 (ck hq).1 rfl (ctX10_of l G a0 (2 : Int32) z hq) ⟨⟨rfl, rfl⟩, Nat.le_of_ble_eq_true rfl, Nat.le_of_ble_eq_true rfl⟩ rfl hl.1 rfl (Nat.le_of_ble_eq_true rfl) dX10_paired_36 ⟨Nat.le_of_ble_eq_true rfl, Nat.le_of_ble_eq_true rfl⟩) rfl rfl (fun H locs hW => ?_)
  refine lv_icmp_ge (tgt := 163) hx hb dX10_paired_39 (by decide) (fun c39 => ?_) (fun c39 => ?_)
  · have h := ite_t c39 h
    refine lv_iconst (v := 0) hx hb dX10_paired_163 (by decide) ?_
    refine lv_istore_n (lv' := [(1, .int (0 : Int32)), (0, .ref (gB G + a0))]) hx hb dX10_paired_164 rfl hl (by decide) rfl (fun ls hl => ?_)
    refine lv_iconst (v := 0) hx hb dX10_paired_165 (by decide) ?_
    refine lv_istore_n (lv' := [(2, .int (0 : Int32)), (1, .int (0 : Int32)), (0, .ref (gB G + a0))]) hx hb dX10_paired_166 rfl hl (by decide) rfl (fun ls hl => ?_)
    exact klX10_paired_167 C hlk hr FU a0 (0 : Int32) (0 : Int32) z _ _ _ h hW (lv_sub hl [2, 1, 0] rfl)
  · have h := ite_f c39 h
    refine lv_bipush (v := 15) hx hb dX10_paired_42 (by decide) ?_
    refine lv_istore_n (lv' := [(2, .int (15 : Int32)), (0, .ref (gB G + a0)), (1, .int l1)]) hx hb dX10_paired_44 rfl hl (by decide) rfl (fun ls hl => ?_)
    exact klX10_paired_45 C hlk hr k33 hk33 FU a0 l1 (15 : Int32) z _ _ _ h hW (lv_sub hl [1, 2, 0] rfl)
def fX10_paired_33 : Nat → Nat → Int32 → AH → Option (Int32 × AH)
  | 0, _, _, _ => none
  | n + 1, a0, l1, z => bX10_paired_33 (fX10_paired_33 n) a0 l1 z
theorem klX10_paired_33 {p : Program} {l : Launch} {e : Env} {s : State} {m : MethodId} {args : Array Value} {below : List Frame} {meth : Method} {c : Code} {G : GW} {r : Int32} {z' : AH} (C : Cx p m c cX10_paired 5 s args RX10 G) (hlk : meth.locks = false) (hr : meth.sig.returnType = (some .int)) : ∀ (n : Nat) (a0 : Nat) (l1 : Int32) (z : AH) (H : Heap) (locs : List Loc) (ls : Array Slot), fX10_paired_33 n a0 l1 z = some (r, z') → Wb G z s H locs → lv_has ls 5 [(0, .ref (gB G + a0)), (1, .int l1)] → W p l e rmX10_paired s m args below meth c H locs 0 0 (MQ below (Qi G r z') args s 0 0 (AA G)) (F0 m 33 ls []) := by
  intro n
  induction n with
  | zero => intro a0 l1 z H locs ls h; have h : (none : Option (Int32 × AH)) = some (r, z') := h; cases h
  | succ n ih => intro a0 l1 z H locs ls h hW hl; exact kbX10_paired_33 C hlk hr (fX10_paired_33 n) (fun a0 l1 z H locs ls h hW hl => ih a0 l1 z H locs ls h hW hl) a0 l1 h hW hl
def bX10_paired_2 (k2 : Nat → Int32 → AH → Option (Int32 × AH)) (a0 : Nat) (l1 : Int32) (z : AH) : Option (Int32 × AH) :=
  if (16 : Int32) ≤ l1 then (
    fX10_paired_33 FU a0 (0 : Int32) z
  ) else (
    (gN 9 53 z a0).bind fun b9 =>
    if l1 = (0 : Int32) then (
      (stI 0 z b9 l1 (0 : Int32)).bind fun z24 =>
      nm (l1 + (1 : Int32)) fun v25 =>
      k2 a0 v25 z24
    ) else (
      (stI 0 z b9 l1 (-1000000 : Int32)).bind fun z24 =>
      nm (l1 + (1 : Int32)) fun v25 =>
      k2 a0 v25 z24
    )
  )
set_option maxHeartbeats 4000000 in
set_option maxRecDepth 100000 in
theorem kbX10_paired_2 {p : Program} {l : Launch} {e : Env} {s : State} {m : MethodId} {args : Array Value} {below : List Frame} {meth : Method} {c : Code} {G : GW} {r : Int32} {z' : AH} (C : Cx p m c cX10_paired 5 s args RX10 G) (hlk : meth.locks = false) (hr : meth.sig.returnType = (some .int)) (k2 : Nat → Int32 → AH → Option (Int32 × AH)) (hk2 : ∀ (a0 : Nat) (l1 : Int32) (z : AH) (H : Heap) (locs : List Loc) (ls : Array Slot), k2 a0 l1 z = some (r, z') → Wb G z s H locs → lv_has ls 5 [(0, .ref (gB G + a0)), (1, .int l1)] → W p l e rmX10_paired s m args below meth c H locs 0 0 (MQ below (Qi G r z') args s 0 0 (AA G)) (F0 m 2 ls [])) (a0 : Nat) (l1 : Int32) {z : AH} {H : Heap} {locs : List Loc} {ls : Array Slot} (h : bX10_paired_2 k2 a0 l1 z = some (r, z')) (hW : Wb G z s H locs) (hl : lv_has ls 5 [(0, .ref (gB G + a0)), (1, .int l1)]) : W p l e rmX10_paired s m args below meth c H locs 0 0 (MQ below (Qi G r z') args s 0 0 (AA G)) (F0 m 2 ls []) := by
  have hx := C.1
  have hb := C.2.1
  unfold bX10_paired_2 at h
  refine lv_iload_n hx hb dX10_paired_2 rfl (lv_at hl 1 rfl) ?_
  refine lv_bipush (v := 16) hx hb dX10_paired_3 (by decide) ?_
  refine lv_icmp_ge (tgt := 31) hx hb dX10_paired_5 (by decide) (fun c5 => ?_) (fun c5 => ?_)
  · have h := ite_t c5 h
    refine lv_iconst (v := 0) hx hb dX10_paired_31 (by decide) ?_
    refine lv_istore_n (lv' := [(1, .int (0 : Int32)), (0, .ref (gB G + a0))]) hx hb dX10_paired_32 rfl hl (by decide) rfl (fun ls hl => ?_)
    exact klX10_paired_33 C hlk hr FU a0 (0 : Int32) z _ _ _ h hW (lv_sub hl [1, 0] rfl)
  · have h := ite_f c5 h
    refine lv_aload_n hx hb dX10_paired_8 rfl (lv_at hl 0 rfl) ?_
    obtain ⟨b9, hg, h⟩ := ob h
    refine wz_gN C hW flX10_71 hg dX10_paired_9 ?_
    refine lv_iload_n hx hb dX10_paired_12 rfl (lv_at hl 1 rfl) ?_
    refine lv_iload_n hx hb dX10_paired_13 rfl (lv_at hl 1 rfl) ?_
    refine lv_if_ne (tgt := 21) hx hb dX10_paired_14 (by decide) (fun c14 => ?_) (fun c14 => ?_)
    · have h := ite_f c14 h
      refine lv_ldcw (v := -1000000) hx hb C.2.2.2.1 (C.2.2.2.2.1 _ (tw 1825 (by decide +kernel) rfl)) dX10_paired_21 ?_
      obtain ⟨z24, hg, h⟩ := ob h
      refine wz_ast C hW hg dX10_paired_24 (fun H locs hW => ?_)
      obtain ⟨v25, ev25⟩ : ∃ y : Int32, y = (l1 + (1 : Int32)) := ⟨_, rfl⟩
      have h := nm_to h ev25
      refine lv_iinc (v := v25) (lv' := [(1, .int v25), (0, .ref (gB G + a0))]) hx hb dX10_paired_25 hl (k := 1) rfl (by rw [ev25]; rfl) (by decide) rfl (fun ls hl => ?_)
      refine lv_goto (tgt := 2) hx hb dX10_paired_28 (by decide) ?_
      exact hk2 a0 v25 z24 _ _ _ h hW (lv_sub hl [1, 0] rfl)
    · have h := ite_t c14 h
      refine lv_iconst (v := 0) hx hb dX10_paired_17 (by decide) ?_
      refine lv_goto (tgt := 24) hx hb dX10_paired_18 (by decide) ?_
      obtain ⟨z24, hg, h⟩ := ob h
      refine wz_ast C hW hg dX10_paired_24 (fun H locs hW => ?_)
      obtain ⟨v25, ev25⟩ : ∃ y : Int32, y = (l1 + (1 : Int32)) := ⟨_, rfl⟩
      have h := nm_to h ev25
      refine lv_iinc (v := v25) (lv' := [(1, .int v25), (0, .ref (gB G + a0))]) hx hb dX10_paired_25 hl (k := 1) rfl (by rw [ev25]; rfl) (by decide) rfl (fun ls hl => ?_)
      refine lv_goto (tgt := 2) hx hb dX10_paired_28 (by decide) ?_
      exact hk2 a0 v25 z24 _ _ _ h hW (lv_sub hl [1, 0] rfl)
def fX10_paired_2 : Nat → Nat → Int32 → AH → Option (Int32 × AH)
  | 0, _, _, _ => none
  | n + 1, a0, l1, z => bX10_paired_2 (fX10_paired_2 n) a0 l1 z
theorem klX10_paired_2 {p : Program} {l : Launch} {e : Env} {s : State} {m : MethodId} {args : Array Value} {below : List Frame} {meth : Method} {c : Code} {G : GW} {r : Int32} {z' : AH} (C : Cx p m c cX10_paired 5 s args RX10 G) (hlk : meth.locks = false) (hr : meth.sig.returnType = (some .int)) : ∀ (n : Nat) (a0 : Nat) (l1 : Int32) (z : AH) (H : Heap) (locs : List Loc) (ls : Array Slot), fX10_paired_2 n a0 l1 z = some (r, z') → Wb G z s H locs → lv_has ls 5 [(0, .ref (gB G + a0)), (1, .int l1)] → W p l e rmX10_paired s m args below meth c H locs 0 0 (MQ below (Qi G r z') args s 0 0 (AA G)) (F0 m 2 ls []) := by
  intro n
  induction n with
  | zero => intro a0 l1 z H locs ls h; have h : (none : Option (Int32 × AH)) = some (r, z') := h; cases h
  | succ n ih => intro a0 l1 z H locs ls h hW hl; exact kbX10_paired_2 C hlk hr (fX10_paired_2 n) (fun a0 l1 z H locs ls h hW hl => ih a0 l1 z H locs ls h hW hl) a0 l1 h hW hl
def fX10_paired (a0 : Nat) (z : AH) : Option (Int32 × AH) :=
  if isO 9 z a0 = true then
    fX10_paired_2 FU a0 (0 : Int32) z
  else none
set_option maxHeartbeats 4000000 in
set_option maxRecDepth 100000 in
theorem ctX10_paired (l : Launch) (G : GW) (a0 : Nat) (z : AH) {r : Int32} {z' : AH} (h : fX10_paired a0 z = some (r, z')) : Met l yX10_paired (wy yX10_paired cX10_paired 5 (some .int)) rmX10_paired (Pz G [.ref (gB G + a0)] z) (Qi G r z') 0 0 (AA G) := by
  refine wz_ent (own := RX10) (by decide +kernel) rfl (fun p e s m below meth c ls C hlk hr hin hW hl => ?_) (Nat.le_of_ble_eq_true rfl)
  have hl : lv_has ls 5 [(0, .ref (gB G + a0))] := hl
  have hx := C.1
  have hb := C.2.1
  unfold fX10_paired at h
  obtain ⟨-, h⟩ := ck h
  refine lv_iconst (v := 0) hx hb dX10_paired_0 (by decide) ?_
  refine lv_istore_n (lv' := [(1, .int (0 : Int32)), (0, .ref (gB G + a0))]) hx hb dX10_paired_1 rfl hl (by decide) rfl (fun ls hl => ?_)
  exact klX10_paired_2 C hlk hr FU a0 (0 : Int32) z _ _ _ h hW (lv_sub hl [1, 0] rfl)
theorem dX10_height_0 : decode cX10_height 0 = .ok (.aload_n 0, 1) := by decide +kernel
theorem dX10_height_1 : decode cX10_height 1 = .ok (.iconst 0, 1) := by decide +kernel
theorem dX10_height_2 : decode cX10_height 2 = .ok (.putfield 81, 3) := by decide +kernel
theorem dX10_height_5 : decode cX10_height 5 = .ok (.aload_n 0, 1) := by decide +kernel
theorem dX10_height_6 : decode cX10_height 6 = .ok (.iload_n 1, 1) := by decide +kernel
theorem dX10_height_7 : decode cX10_height 7 = .ok (.invokevirtual 330, 3) := by decide +kernel
theorem dX10_height_10 : decode cX10_height 10 = .ok (.ifCond .ne 6, 3) := by decide +kernel
theorem dX10_height_13 : decode cX10_height 13 = .ok (.bipush (-2), 2) := by decide +kernel
theorem dX10_height_15 : decode cX10_height 15 = .ok (.ireturn, 1) := by decide +kernel
theorem dX10_height_16 : decode cX10_height 16 = .ok (.iload_n 2, 1) := by decide +kernel
theorem dX10_height_17 : decode cX10_height 17 = .ok (.tableswitch 83 0 4 #[35, 40, 63, 63, 78], 35) := by decide +kernel
theorem dX10_height_52 : decode cX10_height 52 = .ok (.aload_n 0, 1) := by decide +kernel
theorem dX10_height_53 : decode cX10_height 53 = .ok (.invokevirtual 501, 3) := by decide +kernel
theorem dX10_height_56 : decode cX10_height 56 = .ok (.ireturn, 1) := by decide +kernel
theorem dX10_height_57 : decode cX10_height 57 = .ok (.aload_n 0, 1) := by decide +kernel
theorem dX10_height_58 : decode cX10_height 58 = .ok (.invokevirtual 404, 3) := by decide +kernel
theorem dX10_height_61 : decode cX10_height 61 = .ok (.aload_n 0, 1) := by decide +kernel
theorem dX10_height_62 : decode cX10_height 62 = .ok (.getfield 394, 3) := by decide +kernel
theorem dX10_height_65 : decode cX10_height 65 = .ok (.ldc_w 397, 3) := by decide +kernel
theorem dX10_height_68 : decode cX10_height 68 = .ok (.if_icmp .lt 7, 3) := by decide +kernel
theorem dX10_height_71 : decode cX10_height 71 = .ok (.iconst (-1), 1) := by decide +kernel
theorem dX10_height_72 : decode cX10_height 72 = .ok (.goto 7, 3) := by decide +kernel
theorem dX10_height_75 : decode cX10_height 75 = .ok (.aload_n 0, 1) := by decide +kernel
theorem dX10_height_76 : decode cX10_height 76 = .ok (.getfield 394, 3) := by decide +kernel
theorem dX10_height_79 : decode cX10_height 79 = .ok (.ireturn, 1) := by decide +kernel
theorem dX10_height_80 : decode cX10_height 80 = .ok (.aload_n 0, 1) := by decide +kernel
theorem dX10_height_81 : decode cX10_height 81 = .ok (.iload_n 2, 1) := by decide +kernel
theorem dX10_height_82 : decode cX10_height 82 = .ok (.iconst 3, 1) := by decide +kernel
theorem dX10_height_83 : decode cX10_height 83 = .ok (.if_icmp .ne 7, 3) := by decide +kernel
theorem dX10_height_86 : decode cX10_height 86 = .ok (.iconst 1, 1) := by decide +kernel
theorem dX10_height_87 : decode cX10_height 87 = .ok (.goto 4, 3) := by decide +kernel
theorem dX10_height_90 : decode cX10_height 90 = .ok (.iconst 0, 1) := by decide +kernel
theorem dX10_height_91 : decode cX10_height 91 = .ok (.invokevirtual 504, 3) := by decide +kernel
theorem dX10_height_94 : decode cX10_height 94 = .ok (.ireturn, 1) := by decide +kernel
theorem dX10_height_95 : decode cX10_height 95 = .ok (.aload_n 0, 1) := by decide +kernel
theorem dX10_height_96 : decode cX10_height 96 = .ok (.invokevirtual 507, 3) := by decide +kernel
theorem dX10_height_99 : decode cX10_height 99 = .ok (.ireturn, 1) := by decide +kernel
theorem dX10_height_100 : decode cX10_height 100 = .ok (.bipush (-2), 2) := by decide +kernel
theorem dX10_height_102 : decode cX10_height 102 = .ok (.ireturn, 1) := by decide +kernel
theorem cdX10_parts : Cond.code yX10_parts cX10_parts 6 (some .int) ∈ tz := tc8 17 rfl rfl
theorem lVX10_504 : LV RX10 504 yX10_parts cX10_parts 6 (some .int) 1 := ⟨tw 1813 (by decide +kernel) rfl, tw 1815 (by decide +kernel) rfl, tw 114 (by decide +kernel) rfl, tw 128 (by decide +kernel) rfl, cdX10_parts, ⟨by decide +kernel, by decide +kernel, by decide +kernel⟩⟩
theorem cdX10_highest : Cond.code yX10_highest cX10_highest 5 (some .int) ∈ tz := tc8 13 rfl rfl
theorem lVX10_501 : LV RX10 501 yX10_highest cX10_highest 5 (some .int) 0 := ⟨tw 1809 (by decide +kernel) rfl, tw 1811 (by decide +kernel) rfl, tw 113 (by decide +kernel) rfl, tw 128 (by decide +kernel) rfl, cdX10_highest, ⟨by decide +kernel, by decide +kernel, by decide +kernel⟩⟩
theorem cdX10_paired : Cond.code yX10_paired cX10_paired 5 (some .int) ∈ tz := tc8 25 rfl rfl
theorem lVX10_507 : LV RX10 507 yX10_paired cX10_paired 5 (some .int) 0 := ⟨tw 1821 (by decide +kernel) rfl, tw 1823 (by decide +kernel) rfl, tw 116 (by decide +kernel) rfl, tw 128 (by decide +kernel) rfl, cdX10_paired, ⟨by decide +kernel, by decide +kernel, by decide +kernel⟩⟩
abbrev rmX10_height : Room := { frames := 6, cells := 0, slots := 0, locals := 135 }
def bX10_height_91 (s0 : Nat) (s1 : Int32) (z : AH) : Option (Int32 × AH) :=
  (fX10_parts s0 s1 z).bind fun x91 =>
  some (x91, z)
set_option maxHeartbeats 4000000 in
set_option maxRecDepth 100000 in
theorem kbX10_height_91 {p : Program} {l : Launch} {e : Env} {s : State} {m : MethodId} {args : Array Value} {below : List Frame} {meth : Method} {c : Code} {G : GW} {r : Int32} {z' : AH} (C : Cx p m c cX10_height 3 s args RX10 G) (hlk : meth.locks = false) (hr : meth.sig.returnType = (some .int)) (s0 : Nat) (s1 : Int32) {z : AH} {H : Heap} {locs : List Loc} {ls : Array Slot} (h : bX10_height_91 s0 s1 z = some (r, z')) (hW : Wb G z s H locs) (hl : lv_has ls 3 []) : W p l e rmX10_height s m args below meth c H locs 0 0 (MQ below (Qi G r z') args s 0 0 (AA G)) (F0 m 91 ls [.int s1, .ref (gB G + s0)]) := by
  have hx := C.1
  have hb := C.2.1
  unfold bX10_height_91 at h
  obtain ⟨x91, hq, h⟩ := ob h
  refine wz_rI (c' := 0) (s' := 0) hW (wz_runV (rest := []) C hW lVX10_504 (ck hq).1 rfl (ctX10_parts l G s0 s1 z hq) ⟨⟨rfl, rfl⟩, Nat.le_of_ble_eq_true rfl, Nat.le_of_ble_eq_true rfl⟩ rfl hl.1 rfl (Nat.le_of_ble_eq_true rfl) dX10_height_91 ⟨Nat.le_of_ble_eq_true rfl, Nat.le_of_ble_eq_true rfl⟩) rfl rfl (fun H locs hW => ?_)
  exact wz_iretE C hlk hr (so2 h).1 (so2 h).2 hW dX10_height_94
def fX10_height (a0 : Nat) (l1 : Int32) (l2 : Int32) (z : AH) : Option (Int32 × AH) :=
  if isO 9 z a0 = true then
    (pF 9 0 z a0 (.int (0 : Int32))).bind fun z2 =>
    b2 (fX10_hand a0 l1 z2) fun x7 z7 =>
    if x7 = (0 : Int32) then (
      some ((-2 : Int32), z7)
    ) else (
      if l2 = (0 : Int32) then (
        (fX10_highest a0 z7).bind fun x53 =>
        some (x53, z7)
      ) else
      if l2 = (1 : Int32) then (
        (fX10_findWatch a0 z7).bind fun z58 =>
        (gI 9 43 z58 a0).bind fun x62 =>
        if x62 < (1000000 : Int32) then (
          (gI 9 43 z58 a0).bind fun x76 =>
          some (x76, z58)
        ) else (
          some ((-1 : Int32), z58)
        )
      ) else
      if l2 = (2 : Int32) then (
        if l2 = (3 : Int32) then (
          bX10_height_91 a0 (1 : Int32) z7
        ) else (
          bX10_height_91 a0 (0 : Int32) z7
        )
      ) else
      if l2 = (3 : Int32) then (
        if l2 = (3 : Int32) then (
          bX10_height_91 a0 (1 : Int32) z7
        ) else (
          bX10_height_91 a0 (0 : Int32) z7
        )
      ) else
      if l2 = (4 : Int32) then (
        b2 (fX10_paired a0 z7) fun x96 z96 =>
        some (x96, z96)
      ) else
      some ((-2 : Int32), z7)
    )
  else none
set_option maxHeartbeats 4000000 in
set_option maxRecDepth 100000 in
theorem ctX10_height (l : Launch) (G : GW) (a0 : Nat) (l1 : Int32) (l2 : Int32) (z : AH) {r : Int32} {z' : AH} (h : fX10_height a0 l1 l2 z = some (r, z')) : Met l yX10_height (wy yX10_height cX10_height 3 (some .int)) rmX10_height (Pz G [.ref (gB G + a0), .int l1, .int l2] z) (Qi G r z') 0 0 (AA G) := by
  refine wz_ent (own := RX10) (by decide +kernel) rfl (fun p e s m below meth c ls C hlk hr hin hW hl => ?_) (Nat.le_of_ble_eq_true rfl)
  have hl : lv_has ls 3 [(0, .ref (gB G + a0)), (1, .int l1), (2, .int l2)] := hl
  have hx := C.1
  have hb := C.2.1
  unfold fX10_height at h
  obtain ⟨-, h⟩ := ck h
  refine lv_aload_n hx hb dX10_height_0 rfl (lv_at hl 0 rfl) ?_
  refine lv_iconst (v := 0) hx hb dX10_height_1 (by decide) ?_
  obtain ⟨z2, hg, h⟩ := ob h
  refine wz_put (v := (.int (0 : Int32))) C hW flX10_81 rfl rfl hg dX10_height_2 (fun H locs hW => ?_)
  refine lv_aload_n hx hb dX10_height_5 rfl (lv_at hl 0 rfl) ?_
  refine lv_iload_n hx hb dX10_height_6 rfl (lv_at hl 1 rfl) ?_
  obtain ⟨x7, z7, hq, h⟩ := ob2 h
  refine wz_rI (c' := 0) (s' := 0) hW (wz_runV (rest := []) C hW lVX10_330 (ck hq).1 rfl (ctX10_hand l G a0 l1 z2 hq) ⟨⟨rfl, rfl⟩, Nat.le_of_ble_eq_true rfl, Nat.le_of_ble_eq_true rfl⟩ rfl hl.1 rfl (Nat.le_of_ble_eq_true rfl) dX10_height_7 ⟨Nat.le_of_ble_eq_true rfl, Nat.le_of_ble_eq_true rfl⟩) rfl rfl (fun H locs hW => ?_)
  refine lv_if_ne (tgt := 16) hx hb dX10_height_10 (by decide) (fun c10 => ?_) (fun c10 => ?_)
  · have h := ite_f c10 h
    refine lv_iload_n hx hb dX10_height_16 rfl (lv_at hl 2 rfl) ?_
    by_cases c17_0 : l2 = (0 : Int32)
    · have h := ite_t c17_0 h
      refine wz_sw (0 : Int32) (tgt := 52) hx hb dX10_height_17 c17_0 (by decide) rfl (by decide) ?_
      refine lv_aload_n hx hb dX10_height_52 rfl (lv_at hl 0 rfl) ?_
      obtain ⟨x53, hq, h⟩ := ob h
      refine wz_rI (c' := 0) (s' := 0) hW (wz_runV (rest := []) C hW lVX10_501 (ck hq).1 rfl (ctX10_highest l G a0 z7 hq) ⟨⟨rfl, rfl⟩, Nat.le_of_ble_eq_true rfl, Nat.le_of_ble_eq_true rfl⟩ rfl hl.1 rfl (Nat.le_of_ble_eq_true rfl) dX10_height_53 ⟨Nat.le_of_ble_eq_true rfl, Nat.le_of_ble_eq_true rfl⟩) rfl rfl (fun H locs hW => ?_)
      exact wz_iretE C hlk hr (so2 h).1 (so2 h).2 hW dX10_height_56
    have h := ite_f c17_0 h
    by_cases c17_1 : l2 = (1 : Int32)
    · have h := ite_t c17_1 h
      refine wz_sw (1 : Int32) (tgt := 57) hx hb dX10_height_17 c17_1 (by decide) rfl (by decide) ?_
      refine lv_aload_n hx hb dX10_height_57 rfl (lv_at hl 0 rfl) ?_
      obtain ⟨z58, hq, h⟩ := ob h
      refine wz_rV (c' := 0) (s' := 0) hW (wz_runV (rest := []) C hW lVX10_404 (ck hq).1 rfl (ctX10_findWatch l G a0 z7 hq) ⟨⟨rfl, rfl⟩, Nat.le_of_ble_eq_true rfl, Nat.le_of_ble_eq_true rfl⟩ rfl hl.1 rfl (Nat.le_of_ble_eq_true rfl) dX10_height_58 ⟨Nat.le_of_ble_eq_true rfl, Nat.le_of_ble_eq_true rfl⟩) rfl rfl (fun H locs hW => ?_)
      refine lv_aload_n hx hb dX10_height_61 rfl (lv_at hl 0 rfl) ?_
      obtain ⟨x62, hg, h⟩ := ob h
      refine wz_gI C hW flX10_394 hg dX10_height_62 ?_
      refine lv_ldcw (v := 1000000) hx hb C.2.2.2.1 (C.2.2.2.2.1 _ (tw 1653 (by decide +kernel) rfl)) dX10_height_65 ?_
      refine lv_icmp_lt (tgt := 75) hx hb dX10_height_68 (by decide) (fun c68 => ?_) (fun c68 => ?_)
      · have h := ite_t c68 h
        refine lv_aload_n hx hb dX10_height_75 rfl (lv_at hl 0 rfl) ?_
        obtain ⟨x76, hg, h⟩ := ob h
        refine wz_gI C hW flX10_394 hg dX10_height_76 ?_
        exact wz_iretE C hlk hr (so2 h).1 (so2 h).2 hW dX10_height_79
      · have h := ite_f c68 h
        refine lv_iconst (v := -1) hx hb dX10_height_71 (by decide) ?_
        refine lv_goto (tgt := 79) hx hb dX10_height_72 (by decide) ?_
        exact wz_iretE C hlk hr (so2 h).1 (so2 h).2 hW dX10_height_79
    have h := ite_f c17_1 h
    by_cases c17_2 : l2 = (2 : Int32)
    · have h := ite_t c17_2 h
      refine wz_sw (2 : Int32) (tgt := 80) hx hb dX10_height_17 c17_2 (by decide) rfl (by decide) ?_
      refine lv_aload_n hx hb dX10_height_80 rfl (lv_at hl 0 rfl) ?_
      refine lv_iload_n hx hb dX10_height_81 rfl (lv_at hl 2 rfl) ?_
      refine lv_iconst (v := 3) hx hb dX10_height_82 (by decide) ?_
      refine lv_icmp_ne (tgt := 90) hx hb dX10_height_83 (by decide) (fun c83 => ?_) (fun c83 => ?_)
      · have h := ite_f c83 h
        refine lv_iconst (v := 0) hx hb dX10_height_90 (by decide) ?_
        exact kbX10_height_91 C hlk hr a0 (0 : Int32) h hW (lv_sub hl [] rfl)
      · have h := ite_t c83 h
        refine lv_iconst (v := 1) hx hb dX10_height_86 (by decide) ?_
        refine lv_goto (tgt := 91) hx hb dX10_height_87 (by decide) ?_
        exact kbX10_height_91 C hlk hr a0 (1 : Int32) h hW (lv_sub hl [] rfl)
    have h := ite_f c17_2 h
    by_cases c17_3 : l2 = (3 : Int32)
    · have h := ite_t c17_3 h
      refine wz_sw (3 : Int32) (tgt := 80) hx hb dX10_height_17 c17_3 (by decide) rfl (by decide) ?_
      refine lv_aload_n hx hb dX10_height_80 rfl (lv_at hl 0 rfl) ?_
      refine lv_iload_n hx hb dX10_height_81 rfl (lv_at hl 2 rfl) ?_
      refine lv_iconst (v := 3) hx hb dX10_height_82 (by decide) ?_
      refine lv_icmp_ne (tgt := 90) hx hb dX10_height_83 (by decide) (fun c83 => ?_) (fun c83 => ?_)
      · have h := ite_f c83 h
        refine lv_iconst (v := 0) hx hb dX10_height_90 (by decide) ?_
        exact kbX10_height_91 C hlk hr a0 (0 : Int32) h hW (lv_sub hl [] rfl)
      · have h := ite_t c83 h
        refine lv_iconst (v := 1) hx hb dX10_height_86 (by decide) ?_
        refine lv_goto (tgt := 91) hx hb dX10_height_87 (by decide) ?_
        exact kbX10_height_91 C hlk hr a0 (1 : Int32) h hW (lv_sub hl [] rfl)
    have h := ite_f c17_3 h
    by_cases c17_4 : l2 = (4 : Int32)
    · have h := ite_t c17_4 h
      refine wz_sw (4 : Int32) (tgt := 95) hx hb dX10_height_17 c17_4 (by decide) rfl (by decide) ?_
      refine lv_aload_n hx hb dX10_height_95 rfl (lv_at hl 0 rfl) ?_
      obtain ⟨x96, z96, hq, h⟩ := ob2 h
      refine wz_rI (c' := 0) (s' := 0) hW (wz_runV (rest := []) C hW lVX10_507 (ck hq).1 rfl (ctX10_paired l G a0 z7 hq) ⟨⟨rfl, rfl⟩, Nat.le_of_ble_eq_true rfl, Nat.le_of_ble_eq_true rfl⟩ rfl hl.1 rfl (Nat.le_of_ble_eq_true rfl) dX10_height_96 ⟨Nat.le_of_ble_eq_true rfl, Nat.le_of_ble_eq_true rfl⟩) rfl rfl (fun H locs hW => ?_)
      exact wz_iretE C hlk hr (so2 h).1 (so2 h).2 hW dX10_height_99
    have h := ite_f c17_4 h
    refine lv_tableOut (tgt := 100) hx hb dX10_height_17 (by have g0 := i32_ne c17_0 (z := 0) (by decide); have g1 := i32_ne c17_1 (z := 1) (by decide); have g2 := i32_ne c17_2 (z := 2) (by decide); have g3 := i32_ne c17_3 (z := 3) (by decide); have g4 := i32_ne c17_4 (z := 4) (by decide); omega) (by decide) ?_
    refine lv_bipush (v := -2) hx hb dX10_height_100 (by decide) ?_
    exact wz_iretE C hlk hr (so2 h).1 (so2 h).2 hW dX10_height_102
  · have h := ite_t c10 h
    refine lv_bipush (v := -2) hx hb dX10_height_13 (by decide) ?_
    exact wz_iretE C hlk hr (so2 h).1 (so2 h).2 hW dX10_height_15
theorem dX10_meet_0 : decode cX10_meet 0 = .ok (.aload_n 0, 1) := by decide +kernel
theorem dX10_meet_1 : decode cX10_meet 1 = .ok (.iconst 0, 1) := by decide +kernel
theorem dX10_meet_2 : decode cX10_meet 2 = .ok (.putfield 81, 3) := by decide +kernel
theorem dX10_meet_5 : decode cX10_meet 5 = .ok (.aload_n 0, 1) := by decide +kernel
theorem dX10_meet_6 : decode cX10_meet 6 = .ok (.iload_n 1, 1) := by decide +kernel
theorem dX10_meet_7 : decode cX10_meet 7 = .ok (.invokevirtual 330, 3) := by decide +kernel
theorem dX10_meet_10 : decode cX10_meet 10 = .ok (.ifCond .eq 33, 3) := by decide +kernel
theorem dX10_meet_13 : decode cX10_meet 13 = .ok (.aload_n 0, 1) := by decide +kernel
theorem dX10_meet_14 : decode cX10_meet 14 = .ok (.iload_n 2, 1) := by decide +kernel
theorem dX10_meet_15 : decode cX10_meet 15 = .ok (.invokevirtual 309, 3) := by decide +kernel
theorem dX10_meet_18 : decode cX10_meet 18 = .ok (.ifCond .eq 25, 3) := by decide +kernel
theorem dX10_meet_21 : decode cX10_meet 21 = .ok (.aload_n 0, 1) := by decide +kernel
theorem dX10_meet_22 : decode cX10_meet 22 = .ok (.iload_n 3, 1) := by decide +kernel
theorem dX10_meet_23 : decode cX10_meet 23 = .ok (.invokevirtual 309, 3) := by decide +kernel
theorem dX10_meet_26 : decode cX10_meet 26 = .ok (.ifCond .eq 17, 3) := by decide +kernel
theorem dX10_meet_29 : decode cX10_meet 29 = .ok (.aload_n 0, 1) := by decide +kernel
theorem dX10_meet_30 : decode cX10_meet 30 = .ok (.iconst 1, 1) := by decide +kernel
theorem dX10_meet_31 : decode cX10_meet 31 = .ok (.iload_n 2, 1) := by decide +kernel
theorem dX10_meet_32 : decode cX10_meet 32 = .ok (.ishl, 1) := by decide +kernel
theorem dX10_meet_33 : decode cX10_meet 33 = .ok (.iconst 1, 1) := by decide +kernel
theorem dX10_meet_34 : decode cX10_meet 34 = .ok (.iload_n 3, 1) := by decide +kernel
theorem dX10_meet_35 : decode cX10_meet 35 = .ok (.ishl, 1) := by decide +kernel
theorem dX10_meet_36 : decode cX10_meet 36 = .ok (.iconst 1, 1) := by decide +kernel
theorem dX10_meet_37 : decode cX10_meet 37 = .ok (.invokevirtual 413, 3) := by decide +kernel
theorem dX10_meet_40 : decode cX10_meet 40 = .ok (.goto 4, 3) := by decide +kernel
theorem dX10_meet_43 : decode cX10_meet 43 = .ok (.iconst (-1), 1) := by decide +kernel
theorem dX10_meet_44 : decode cX10_meet 44 = .ok (.ireturn, 1) := by decide +kernel
abbrev rmX10_meet : Room := { frames := 5, cells := 0, slots := 0, locals := 112 }
def fX10_meet (a0 : Nat) (l1 : Int32) (l2 : Int32) (l3 : Int32) (z : AH) : Option (Int32 × AH) :=
  if isO 9 z a0 = true then
    (pF 9 0 z a0 (.int (0 : Int32))).bind fun z2 =>
    b2 (fX10_hand a0 l1 z2) fun x7 z7 =>
    if x7 = (0 : Int32) then (
      some ((-1 : Int32), z7)
    ) else (
      (fX10_isThing a0 l2 z7).bind fun x15 =>
      if x15 = (0 : Int32) then (
        some ((-1 : Int32), z7)
      ) else (
        (fX10_isThing a0 l3 z7).bind fun x23 =>
        if x23 = (0 : Int32) then (
          some ((-1 : Int32), z7)
        ) else (
          b2 (fX10_hoursTill a0 (shl (1 : Int32) l2) (shl (1 : Int32) l3) (1 : Int32) z7) fun x37 z37 =>
          some (x37, z37)
        )
      )
    )
  else none
set_option maxHeartbeats 4000000 in
set_option maxRecDepth 100000 in
theorem ctX10_meet (l : Launch) (G : GW) (a0 : Nat) (l1 : Int32) (l2 : Int32) (l3 : Int32) (z : AH) {r : Int32} {z' : AH} (h : fX10_meet a0 l1 l2 l3 z = some (r, z')) : Met l yX10_meet (wy yX10_meet cX10_meet 4 (some .int)) rmX10_meet (Pz G [.ref (gB G + a0), .int l1, .int l2, .int l3] z) (Qi G r z') 0 0 (AA G) := by
  refine wz_ent (own := RX10) (by decide +kernel) rfl (fun p e s m below meth c ls C hlk hr hin hW hl => ?_) (Nat.le_of_ble_eq_true rfl)
  have hl : lv_has ls 4 [(0, .ref (gB G + a0)), (1, .int l1), (2, .int l2), (3, .int l3)] := hl
  have hx := C.1
  have hb := C.2.1
  unfold fX10_meet at h
  obtain ⟨-, h⟩ := ck h
  refine lv_aload_n hx hb dX10_meet_0 rfl (lv_at hl 0 rfl) ?_
  refine lv_iconst (v := 0) hx hb dX10_meet_1 (by decide) ?_
  obtain ⟨z2, hg, h⟩ := ob h
  refine wz_put (v := (.int (0 : Int32))) C hW flX10_81 rfl rfl hg dX10_meet_2 (fun H locs hW => ?_)
  refine lv_aload_n hx hb dX10_meet_5 rfl (lv_at hl 0 rfl) ?_
  refine lv_iload_n hx hb dX10_meet_6 rfl (lv_at hl 1 rfl) ?_
  obtain ⟨x7, z7, hq, h⟩ := ob2 h
  refine wz_rI (c' := 0) (s' := 0) hW (wz_runV (rest := []) C hW lVX10_330 (ck hq).1 rfl (ctX10_hand l G a0 l1 z2 hq) ⟨⟨rfl, rfl⟩, Nat.le_of_ble_eq_true rfl, Nat.le_of_ble_eq_true rfl⟩ rfl hl.1 rfl (Nat.le_of_ble_eq_true rfl) dX10_meet_7 ⟨Nat.le_of_ble_eq_true rfl, Nat.le_of_ble_eq_true rfl⟩) rfl rfl (fun H locs hW => ?_)
  refine lv_if_eq (tgt := 43) hx hb dX10_meet_10 (by decide) (fun c10 => ?_) (fun c10 => ?_)
  · have h := ite_t c10 h
    refine lv_iconst (v := -1) hx hb dX10_meet_43 (by decide) ?_
    exact wz_iretE C hlk hr (so2 h).1 (so2 h).2 hW dX10_meet_44
  · have h := ite_f c10 h
    refine lv_aload_n hx hb dX10_meet_13 rfl (lv_at hl 0 rfl) ?_
    refine lv_iload_n hx hb dX10_meet_14 rfl (lv_at hl 2 rfl) ?_
    obtain ⟨x15, hq, h⟩ := ob h
    refine wz_rI (c' := 0) (s' := 0) hW (wz_runV (rest := []) C hW lVX10_309 (ck hq).1 rfl (ctX10_isThing l G a0 l2 z7 hq) ⟨⟨rfl, rfl⟩, Nat.le_of_ble_eq_true rfl, Nat.le_of_ble_eq_true rfl⟩ rfl hl.1 rfl (Nat.le_of_ble_eq_true rfl) dX10_meet_15 ⟨Nat.le_of_ble_eq_true rfl, Nat.le_of_ble_eq_true rfl⟩) rfl rfl (fun H locs hW => ?_)
    refine lv_if_eq (tgt := 43) hx hb dX10_meet_18 (by decide) (fun c18 => ?_) (fun c18 => ?_)
    · have h := ite_t c18 h
      refine lv_iconst (v := -1) hx hb dX10_meet_43 (by decide) ?_
      exact wz_iretE C hlk hr (so2 h).1 (so2 h).2 hW dX10_meet_44
    · have h := ite_f c18 h
      refine lv_aload_n hx hb dX10_meet_21 rfl (lv_at hl 0 rfl) ?_
      refine lv_iload_n hx hb dX10_meet_22 rfl (lv_at hl 3 rfl) ?_
      obtain ⟨x23, hq, h⟩ := ob h
      refine wz_rI (c' := 0) (s' := 0) hW (wz_runV (rest := []) C hW lVX10_309 (ck hq).1 rfl (ctX10_isThing l G a0 l3 z7 hq) ⟨⟨rfl, rfl⟩, Nat.le_of_ble_eq_true rfl, Nat.le_of_ble_eq_true rfl⟩ rfl hl.1 rfl (Nat.le_of_ble_eq_true rfl) dX10_meet_23 ⟨Nat.le_of_ble_eq_true rfl, Nat.le_of_ble_eq_true rfl⟩) rfl rfl (fun H locs hW => ?_)
      refine lv_if_eq (tgt := 43) hx hb dX10_meet_26 (by decide) (fun c26 => ?_) (fun c26 => ?_)
      · have h := ite_t c26 h
        refine lv_iconst (v := -1) hx hb dX10_meet_43 (by decide) ?_
        exact wz_iretE C hlk hr (so2 h).1 (so2 h).2 hW dX10_meet_44
      · have h := ite_f c26 h
        refine lv_aload_n hx hb dX10_meet_29 rfl (lv_at hl 0 rfl) ?_
        refine lv_iconst (v := 1) hx hb dX10_meet_30 (by decide) ?_
        refine lv_iload_n hx hb dX10_meet_31 rfl (lv_at hl 2 rfl) ?_
        refine wz_shl hx hb dX10_meet_32 ?_
        refine lv_iconst (v := 1) hx hb dX10_meet_33 (by decide) ?_
        refine lv_iload_n hx hb dX10_meet_34 rfl (lv_at hl 3 rfl) ?_
        refine wz_shl hx hb dX10_meet_35 ?_
        refine lv_iconst (v := 1) hx hb dX10_meet_36 (by decide) ?_
        obtain ⟨x37, z37, hq, h⟩ := ob2 h
        refine wz_rI (c' := 0) (s' := 0) hW (wz_runV (rest := []) C hW lVX10_413 (ck hq).1 rfl (ctX10_hoursTill l G a0 (shl (1 : Int32) l2) (shl (1 : Int32) l3) (1 : Int32) z7 hq) ⟨⟨rfl, rfl⟩, Nat.le_of_ble_eq_true rfl, Nat.le_of_ble_eq_true rfl⟩ rfl hl.1 rfl (Nat.le_of_ble_eq_true rfl) dX10_meet_37 ⟨Nat.le_of_ble_eq_true rfl, Nat.le_of_ble_eq_true rfl⟩) rfl rfl (fun H locs hW => ?_)
        refine lv_goto (tgt := 44) hx hb dX10_meet_40 (by decide) ?_
        exact wz_iretE C hlk hr (so2 h).1 (so2 h).2 hW dX10_meet_44
theorem dX10_busiest_0 : decode cX10_busiest 0 = .ok (.iconst (-1), 1) := by decide +kernel
theorem dX10_busiest_1 : decode cX10_busiest 1 = .ok (.istore_n 1, 1) := by decide +kernel
theorem dX10_busiest_2 : decode cX10_busiest 2 = .ok (.iconst 0, 1) := by decide +kernel
theorem dX10_busiest_3 : decode cX10_busiest 3 = .ok (.istore_n 2, 1) := by decide +kernel
theorem dX10_busiest_4 : decode cX10_busiest 4 = .ok (.iload_n 2, 1) := by decide +kernel
theorem dX10_busiest_5 : decode cX10_busiest 5 = .ok (.aload_n 0, 1) := by decide +kernel
theorem dX10_busiest_6 : decode cX10_busiest 6 = .ok (.getfield 279, 3) := by decide +kernel
theorem dX10_busiest_9 : decode cX10_busiest 9 = .ok (.if_icmp .ge 39, 3) := by decide +kernel
theorem dX10_busiest_12 : decode cX10_busiest 12 = .ok (.aload_n 0, 1) := by decide +kernel
theorem dX10_busiest_13 : decode cX10_busiest 13 = .ok (.getfield 74, 3) := by decide +kernel
theorem dX10_busiest_16 : decode cX10_busiest 16 = .ok (.iload_n 2, 1) := by decide +kernel
theorem dX10_busiest_17 : decode cX10_busiest 17 = .ok (.iaload, 1) := by decide +kernel
theorem dX10_busiest_18 : decode cX10_busiest 18 = .ok (.iload_n 1, 1) := by decide +kernel
theorem dX10_busiest_19 : decode cX10_busiest 19 = .ok (.iconst (-1), 1) := by decide +kernel
theorem dX10_busiest_20 : decode cX10_busiest 20 = .ok (.if_icmp .ne 7, 3) := by decide +kernel
theorem dX10_busiest_23 : decode cX10_busiest 23 = .ok (.iconst 0, 1) := by decide +kernel
theorem dX10_busiest_24 : decode cX10_busiest 24 = .ok (.goto 9, 3) := by decide +kernel
theorem dX10_busiest_27 : decode cX10_busiest 27 = .ok (.aload_n 0, 1) := by decide +kernel
theorem dX10_busiest_28 : decode cX10_busiest 28 = .ok (.getfield 74, 3) := by decide +kernel
theorem dX10_busiest_31 : decode cX10_busiest 31 = .ok (.iload_n 1, 1) := by decide +kernel
theorem dX10_busiest_32 : decode cX10_busiest 32 = .ok (.iaload, 1) := by decide +kernel
theorem dX10_busiest_33 : decode cX10_busiest 33 = .ok (.if_icmp .le 7, 3) := by decide +kernel
theorem dX10_busiest_36 : decode cX10_busiest 36 = .ok (.iload_n 2, 1) := by decide +kernel
theorem dX10_busiest_37 : decode cX10_busiest 37 = .ok (.goto 4, 3) := by decide +kernel
theorem dX10_busiest_40 : decode cX10_busiest 40 = .ok (.iload_n 1, 1) := by decide +kernel
theorem dX10_busiest_41 : decode cX10_busiest 41 = .ok (.istore_n 1, 1) := by decide +kernel
theorem dX10_busiest_42 : decode cX10_busiest 42 = .ok (.iinc 2 1, 3) := by decide +kernel
theorem dX10_busiest_45 : decode cX10_busiest 45 = .ok (.goto (-41), 3) := by decide +kernel
theorem dX10_busiest_48 : decode cX10_busiest 48 = .ok (.iload_n 1, 1) := by decide +kernel
theorem dX10_busiest_49 : decode cX10_busiest 49 = .ok (.ireturn, 1) := by decide +kernel
abbrev rmX10_busiest : Room := { frames := 0, cells := 0, slots := 0, locals := 0 }
def bX10_busiest_33 (k4 : Nat → Int32 → Int32 → Option (Int32)) (a0 : Nat) (l1 : Int32) (l2 : Int32) (s0 : Int32) (s1 : Int32) (z : AH) : Option (Int32) :=
  if s0 ≤ s1 then (
    nm (l2 + (1 : Int32)) fun v42 =>
    k4 a0 l1 v42
  ) else (
    nm (l2 + (1 : Int32)) fun v42 =>
    k4 a0 l2 v42
  )
set_option maxHeartbeats 4000000 in
set_option maxRecDepth 100000 in
theorem kbX10_busiest_33 {p : Program} {l : Launch} {e : Env} {s : State} {m : MethodId} {args : Array Value} {below : List Frame} {meth : Method} {c : Code} {G : GW} {r : Int32} (C : Cx p m c cX10_busiest 3 s args RX10 G) (hlk : meth.locks = false) (hr : meth.sig.returnType = (some .int)) {z : AH} (k4 : Nat → Int32 → Int32 → Option (Int32)) (hk4 : ∀ (a0 : Nat) (l1 : Int32) (l2 : Int32) (H : Heap) (locs : List Loc) (ls : Array Slot), k4 a0 l1 l2 = some r → Wb G z s H locs → lv_has ls 3 [(0, .ref (gB G + a0)), (1, .int l1), (2, .int l2)] → W p l e rmX10_busiest s m args below meth c H locs 0 0 (MQ below (Qi G r z) args s 0 0 (AA G)) (F0 m 4 ls [])) (a0 : Nat) (l1 : Int32) (l2 : Int32) (s0 : Int32) (s1 : Int32) {H : Heap} {locs : List Loc} {ls : Array Slot} (h : bX10_busiest_33 k4 a0 l1 l2 s0 s1 z = some r) (hW : Wb G z s H locs) (hl : lv_has ls 3 [(0, .ref (gB G + a0)), (1, .int l1), (2, .int l2)]) : W p l e rmX10_busiest s m args below meth c H locs 0 0 (MQ below (Qi G r z) args s 0 0 (AA G)) (F0 m 33 ls [.int s1, .int s0]) := by
  have hx := C.1
  have hb := C.2.1
  unfold bX10_busiest_33 at h
  refine lv_icmp_le (tgt := 40) hx hb dX10_busiest_33 (by decide) (fun c33 => ?_) (fun c33 => ?_)
  · have h := ite_t c33 h
    refine lv_iload_n hx hb dX10_busiest_40 rfl (lv_at hl 1 rfl) ?_
    refine lv_istore_n (lv' := [(1, .int l1), (0, .ref (gB G + a0)), (2, .int l2)]) hx hb dX10_busiest_41 rfl hl (by decide) rfl (fun ls hl => ?_)
    obtain ⟨v42, ev42⟩ : ∃ y : Int32, y = (l2 + (1 : Int32)) := ⟨_, rfl⟩
    have h := nm_to h ev42
    refine lv_iinc (v := v42) (lv' := [(2, .int v42), (1, .int l1), (0, .ref (gB G + a0))]) hx hb dX10_busiest_42 hl (k := 2) rfl (by rw [ev42]; rfl) (by decide) rfl (fun ls hl => ?_)
    refine lv_goto (tgt := 4) hx hb dX10_busiest_45 (by decide) ?_
    exact hk4 a0 l1 v42 _ _ _ h hW (lv_sub hl [2, 1, 0] rfl)
  · have h := ite_f c33 h
    refine lv_iload_n hx hb dX10_busiest_36 rfl (lv_at hl 2 rfl) ?_
    refine lv_goto (tgt := 41) hx hb dX10_busiest_37 (by decide) ?_
    refine lv_istore_n (lv' := [(1, .int l2), (0, .ref (gB G + a0)), (2, .int l2)]) hx hb dX10_busiest_41 rfl hl (by decide) rfl (fun ls hl => ?_)
    obtain ⟨v42, ev42⟩ : ∃ y : Int32, y = (l2 + (1 : Int32)) := ⟨_, rfl⟩
    have h := nm_to h ev42
    refine lv_iinc (v := v42) (lv' := [(2, .int v42), (1, .int l2), (0, .ref (gB G + a0))]) hx hb dX10_busiest_42 hl (k := 2) rfl (by rw [ev42]; rfl) (by decide) rfl (fun ls hl => ?_)
    refine lv_goto (tgt := 4) hx hb dX10_busiest_45 (by decide) ?_
    exact hk4 a0 l2 v42 _ _ _ h hW (lv_sub hl [2, 1, 0] rfl)
def bX10_busiest_4 (k4 : Nat → Int32 → Int32 → Option (Int32)) (a0 : Nat) (l1 : Int32) (l2 : Int32) (z : AH) : Option (Int32) :=
  (gI 9 27 z a0).bind fun x6 =>
  if x6 ≤ l2 then (
    some l1
  ) else (
    (gN 9 54 z a0).bind fun b13 =>
    (ixI 0 z b13 l2).bind fun x17 =>
    if l1 = (-1 : Int32) then (
      bX10_busiest_33 k4 a0 l1 l2 x17 (0 : Int32) z
    ) else (
      (gN 9 54 z a0).bind fun b28 =>
      (ixI 0 z b28 l1).bind fun x32 =>
      bX10_busiest_33 k4 a0 l1 l2 x17 x32 z
    )
  )
set_option maxHeartbeats 4000000 in
set_option maxRecDepth 100000 in
theorem kbX10_busiest_4 {p : Program} {l : Launch} {e : Env} {s : State} {m : MethodId} {args : Array Value} {below : List Frame} {meth : Method} {c : Code} {G : GW} {r : Int32} (C : Cx p m c cX10_busiest 3 s args RX10 G) (hlk : meth.locks = false) (hr : meth.sig.returnType = (some .int)) {z : AH} (k4 : Nat → Int32 → Int32 → Option (Int32)) (hk4 : ∀ (a0 : Nat) (l1 : Int32) (l2 : Int32) (H : Heap) (locs : List Loc) (ls : Array Slot), k4 a0 l1 l2 = some r → Wb G z s H locs → lv_has ls 3 [(0, .ref (gB G + a0)), (1, .int l1), (2, .int l2)] → W p l e rmX10_busiest s m args below meth c H locs 0 0 (MQ below (Qi G r z) args s 0 0 (AA G)) (F0 m 4 ls [])) (a0 : Nat) (l1 : Int32) (l2 : Int32) {H : Heap} {locs : List Loc} {ls : Array Slot} (h : bX10_busiest_4 k4 a0 l1 l2 z = some r) (hW : Wb G z s H locs) (hl : lv_has ls 3 [(0, .ref (gB G + a0)), (1, .int l1), (2, .int l2)]) : W p l e rmX10_busiest s m args below meth c H locs 0 0 (MQ below (Qi G r z) args s 0 0 (AA G)) (F0 m 4 ls []) := by
  have hx := C.1
  have hb := C.2.1
  unfold bX10_busiest_4 at h
  refine lv_iload_n hx hb dX10_busiest_4 rfl (lv_at hl 2 rfl) ?_
  refine lv_aload_n hx hb dX10_busiest_5 rfl (lv_at hl 0 rfl) ?_
  obtain ⟨x6, hg, h⟩ := ob h
  refine wz_gI C hW flX10_279 hg dX10_busiest_6 ?_
  refine lv_icmp_ge (tgt := 48) hx hb dX10_busiest_9 (by decide) (fun c9 => ?_) (fun c9 => ?_)
  · have h := ite_t c9 h
    refine lv_iload_n hx hb dX10_busiest_48 rfl (lv_at hl 1 rfl) ?_
    exact wz_iretE C hlk hr (Option.some.inj h) rfl hW dX10_busiest_49
  · have h := ite_f c9 h
    refine lv_aload_n hx hb dX10_busiest_12 rfl (lv_at hl 0 rfl) ?_
    obtain ⟨b13, hg, h⟩ := ob h
    refine wz_gN C hW flX10_74 hg dX10_busiest_13 ?_
    refine lv_iload_n hx hb dX10_busiest_16 rfl (lv_at hl 2 rfl) ?_
    obtain ⟨x17, hg, h⟩ := ob h
    refine wz_ald C hW hg dX10_busiest_17 ?_
    refine lv_iload_n hx hb dX10_busiest_18 rfl (lv_at hl 1 rfl) ?_
    refine lv_iconst (v := -1) hx hb dX10_busiest_19 (by decide) ?_
    refine lv_icmp_ne (tgt := 27) hx hb dX10_busiest_20 (by decide) (fun c20 => ?_) (fun c20 => ?_)
    · have h := ite_f c20 h
      refine lv_aload_n hx hb dX10_busiest_27 rfl (lv_at hl 0 rfl) ?_
      obtain ⟨b28, hg, h⟩ := ob h
      refine wz_gN C hW flX10_74 hg dX10_busiest_28 ?_
      refine lv_iload_n hx hb dX10_busiest_31 rfl (lv_at hl 1 rfl) ?_
      obtain ⟨x32, hg, h⟩ := ob h
      refine wz_ald C hW hg dX10_busiest_32 ?_
      exact kbX10_busiest_33 C hlk hr k4 hk4 a0 l1 l2 x17 x32 h hW (lv_sub hl [0, 1, 2] rfl)
    · have h := ite_t c20 h
      refine lv_iconst (v := 0) hx hb dX10_busiest_23 (by decide) ?_
      refine lv_goto (tgt := 33) hx hb dX10_busiest_24 (by decide) ?_
      exact kbX10_busiest_33 C hlk hr k4 hk4 a0 l1 l2 x17 (0 : Int32) h hW (lv_sub hl [0, 1, 2] rfl)
def fX10_busiest_4 (z : AH) : Nat → Nat → Int32 → Int32 → Option (Int32)
  | 0, _, _, _ => none
  | n + 1, a0, l1, l2 => bX10_busiest_4 (fX10_busiest_4 z n) a0 l1 l2 z
theorem klX10_busiest_4 {p : Program} {l : Launch} {e : Env} {s : State} {m : MethodId} {args : Array Value} {below : List Frame} {meth : Method} {c : Code} {G : GW} {r : Int32} (C : Cx p m c cX10_busiest 3 s args RX10 G) (hlk : meth.locks = false) (hr : meth.sig.returnType = (some .int)) {z : AH} : ∀ (n : Nat) (a0 : Nat) (l1 : Int32) (l2 : Int32) (H : Heap) (locs : List Loc) (ls : Array Slot), fX10_busiest_4 z n a0 l1 l2 = some r → Wb G z s H locs → lv_has ls 3 [(0, .ref (gB G + a0)), (1, .int l1), (2, .int l2)] → W p l e rmX10_busiest s m args below meth c H locs 0 0 (MQ below (Qi G r z) args s 0 0 (AA G)) (F0 m 4 ls []) := by
  intro n
  induction n with
  | zero => intro a0 l1 l2 H locs ls h; have h : (none : Option (Int32)) = some r := h; cases h
  | succ n ih => intro a0 l1 l2 H locs ls h hW hl; exact kbX10_busiest_4 C hlk hr (fX10_busiest_4 z n) (fun a0 l1 l2 H locs ls h hW hl => ih a0 l1 l2 H locs ls h hW hl) a0 l1 l2 h hW hl
def fX10_busiest (a0 : Nat) (z : AH) : Option (Int32) :=
  if isO 9 z a0 = true then
    fX10_busiest_4 z FU a0 (-1 : Int32) (0 : Int32)
  else none
set_option maxHeartbeats 4000000 in
set_option maxRecDepth 100000 in
theorem ctX10_busiest (l : Launch) (G : GW) (a0 : Nat) (z : AH) {r : Int32} (h : fX10_busiest a0 z = some r) : Met l yX10_busiest (wy yX10_busiest cX10_busiest 3 (some .int)) rmX10_busiest (Pz G [.ref (gB G + a0)] z) (Qi G r z) 0 0 (AA G) := by
  refine wz_ent (own := RX10) (by decide +kernel) rfl (fun p e s m below meth c ls C hlk hr hin hW hl => ?_) (Nat.le_of_ble_eq_true rfl)
  have hl : lv_has ls 3 [(0, .ref (gB G + a0))] := hl
  have hx := C.1
  have hb := C.2.1
  unfold fX10_busiest at h
  obtain ⟨-, h⟩ := ck h
  refine lv_iconst (v := -1) hx hb dX10_busiest_0 (by decide) ?_
  refine lv_istore_n (lv' := [(1, .int (-1 : Int32)), (0, .ref (gB G + a0))]) hx hb dX10_busiest_1 rfl hl (by decide) rfl (fun ls hl => ?_)
  refine lv_iconst (v := 0) hx hb dX10_busiest_2 (by decide) ?_
  refine lv_istore_n (lv' := [(2, .int (0 : Int32)), (1, .int (-1 : Int32)), (0, .ref (gB G + a0))]) hx hb dX10_busiest_3 rfl hl (by decide) rfl (fun ls hl => ?_)
  exact klX10_busiest_4 C hlk hr FU a0 (-1 : Int32) (0 : Int32) _ _ _ h hW (lv_sub hl [2, 1, 0] rfl)
theorem dX10_after_0 : decode cX10_after 0 = .ok (.aload_n 0, 1) := by decide +kernel
theorem dX10_after_1 : decode cX10_after 1 = .ok (.iconst 0, 1) := by decide +kernel
theorem dX10_after_2 : decode cX10_after 2 = .ok (.putfield 81, 3) := by decide +kernel
theorem dX10_after_5 : decode cX10_after 5 = .ok (.aload_n 0, 1) := by decide +kernel
theorem dX10_after_6 : decode cX10_after 6 = .ok (.iload_n 1, 1) := by decide +kernel
theorem dX10_after_7 : decode cX10_after 7 = .ok (.iload_n 2, 1) := by decide +kernel
theorem dX10_after_8 : decode cX10_after 8 = .ok (.invokevirtual 373, 3) := by decide +kernel
theorem dX10_after_11 : decode cX10_after 11 = .ok (.ifCond .eq 12, 3) := by decide +kernel
theorem dX10_after_14 : decode cX10_after 14 = .ok (.iload_n 3, 1) := by decide +kernel
theorem dX10_after_15 : decode cX10_after 15 = .ok (.iconst 0, 1) := by decide +kernel
theorem dX10_after_16 : decode cX10_after 16 = .ok (.iconst 3, 1) := by decide +kernel
theorem dX10_after_17 : decode cX10_after 17 = .ok (.invokestatic 93, 3) := by decide +kernel
theorem dX10_after_20 : decode cX10_after 20 = .ok (.ifCond .ne 6, 3) := by decide +kernel
theorem dX10_after_23 : decode cX10_after 23 = .ok (.bipush (-2), 2) := by decide +kernel
theorem dX10_after_25 : decode cX10_after 25 = .ok (.ireturn, 1) := by decide +kernel
theorem dX10_after_26 : decode cX10_after 26 = .ok (.iconst 0, 1) := by decide +kernel
theorem dX10_after_27 : decode cX10_after 27 = .ok (.istore 4, 2) := by decide +kernel
theorem dX10_after_29 : decode cX10_after 29 = .ok (.iload 4, 2) := by decide +kernel
theorem dX10_after_31 : decode cX10_after 31 = .ok (.iconst 4, 1) := by decide +kernel
theorem dX10_after_32 : decode cX10_after 32 = .ok (.if_icmp .ge 17, 3) := by decide +kernel
theorem dX10_after_35 : decode cX10_after 35 = .ok (.aload_n 0, 1) := by decide +kernel
theorem dX10_after_36 : decode cX10_after 36 = .ok (.getfield 74, 3) := by decide +kernel
theorem dX10_after_39 : decode cX10_after 39 = .ok (.iload 4, 2) := by decide +kernel
theorem dX10_after_41 : decode cX10_after 41 = .ok (.iconst 0, 1) := by decide +kernel
theorem dX10_after_42 : decode cX10_after 42 = .ok (.iastore, 1) := by decide +kernel
theorem dX10_after_43 : decode cX10_after 43 = .ok (.iinc 4 1, 3) := by decide +kernel
theorem dX10_after_46 : decode cX10_after 46 = .ok (.goto (-17), 3) := by decide +kernel
theorem dX10_after_49 : decode cX10_after 49 = .ok (.aload_n 0, 1) := by decide +kernel
theorem dX10_after_50 : decode cX10_after 50 = .ok (.getfield 288, 3) := by decide +kernel
theorem dX10_after_53 : decode cX10_after 53 = .ok (.istore 4, 2) := by decide +kernel
theorem dX10_after_55 : decode cX10_after 55 = .ok (.iconst (-1), 1) := by decide +kernel
theorem dX10_after_56 : decode cX10_after 56 = .ok (.istore 5, 2) := by decide +kernel
theorem dX10_after_58 : decode cX10_after 58 = .ok (.iconst 1, 1) := by decide +kernel
theorem dX10_after_59 : decode cX10_after 59 = .ok (.istore 6, 2) := by decide +kernel
theorem dX10_after_61 : decode cX10_after 61 = .ok (.iconst 0, 1) := by decide +kernel
theorem dX10_after_62 : decode cX10_after 62 = .ok (.istore 7, 2) := by decide +kernel
theorem dX10_after_64 : decode cX10_after 64 = .ok (.iload 6, 2) := by decide +kernel
theorem dX10_after_66 : decode cX10_after 66 = .ok (.ifCond .eq 89, 3) := by decide +kernel
theorem dX10_after_69 : decode cX10_after 69 = .ok (.iload 7, 2) := by decide +kernel
theorem dX10_after_71 : decode cX10_after 71 = .ok (.aload_n 0, 1) := by decide +kernel
theorem dX10_after_72 : decode cX10_after 72 = .ok (.invokevirtual 339, 3) := by decide +kernel
theorem dX10_after_75 : decode cX10_after 75 = .ok (.if_icmp .ge 16, 3) := by decide +kernel
theorem dX10_after_78 : decode cX10_after 78 = .ok (.aload_n 0, 1) := by decide +kernel
theorem dX10_after_79 : decode cX10_after 79 = .ok (.iload 7, 2) := by decide +kernel
theorem dX10_after_81 : decode cX10_after 81 = .ok (.invokevirtual 370, 3) := by decide +kernel
theorem dX10_after_84 : decode cX10_after 84 = .ok (.ifCond .eq 7, 3) := by decide +kernel
theorem dX10_after_87 : decode cX10_after 87 = .ok (.iconst 1, 1) := by decide +kernel
theorem dX10_after_88 : decode cX10_after 88 = .ok (.goto 4, 3) := by decide +kernel
theorem dX10_after_91 : decode cX10_after 91 = .ok (.iconst 0, 1) := by decide +kernel
theorem dX10_after_92 : decode cX10_after 92 = .ok (.istore 6, 2) := by decide +kernel
theorem dX10_after_94 : decode cX10_after 94 = .ok (.iload 5, 2) := by decide +kernel
theorem dX10_after_96 : decode cX10_after 96 = .ok (.iconst (-1), 1) := by decide +kernel
theorem dX10_after_97 : decode cX10_after 97 = .ok (.if_icmp .ne 17, 3) := by decide +kernel
theorem dX10_after_100 : decode cX10_after 100 = .ok (.aload_n 0, 1) := by decide +kernel
theorem dX10_after_101 : decode cX10_after 101 = .ok (.getfield 288, 3) := by decide +kernel
theorem dX10_after_104 : decode cX10_after 104 = .ok (.iload 4, 2) := by decide +kernel
theorem dX10_after_106 : decode cX10_after 106 = .ok (.if_icmp .eq 8, 3) := by decide +kernel
theorem dX10_after_109 : decode cX10_after 109 = .ok (.iload 7, 2) := by decide +kernel
theorem dX10_after_111 : decode cX10_after 111 = .ok (.goto 5, 3) := by decide +kernel
theorem dX10_after_114 : decode cX10_after 114 = .ok (.iload 5, 2) := by decide +kernel
theorem dX10_after_116 : decode cX10_after 116 = .ok (.istore 5, 2) := by decide +kernel
theorem dX10_after_118 : decode cX10_after 118 = .ok (.iload 6, 2) := by decide +kernel
theorem dX10_after_120 : decode cX10_after 120 = .ok (.ifCond .eq 29, 3) := by decide +kernel
theorem dX10_after_123 : decode cX10_after 123 = .ok (.aload_n 0, 1) := by decide +kernel
theorem dX10_after_124 : decode cX10_after 124 = .ok (.iload 7, 2) := by decide +kernel
theorem dX10_after_126 : decode cX10_after 126 = .ok (.iconst 0, 1) := by decide +kernel
theorem dX10_after_127 : decode cX10_after 127 = .ok (.invokevirtual 342, 3) := by decide +kernel
theorem dX10_after_130 : decode cX10_after 130 = .ok (.ifCond .ne 19, 3) := by decide +kernel
theorem dX10_after_133 : decode cX10_after 133 = .ok (.aload_n 0, 1) := by decide +kernel
theorem dX10_after_134 : decode cX10_after 134 = .ok (.getfield 74, 3) := by decide +kernel
theorem dX10_after_137 : decode cX10_after 137 = .ok (.aload_n 0, 1) := by decide +kernel
theorem dX10_after_138 : decode cX10_after 138 = .ok (.iload 7, 2) := by decide +kernel
theorem dX10_after_140 : decode cX10_after 140 = .ok (.iconst 1, 1) := by decide +kernel
theorem dX10_after_141 : decode cX10_after 141 = .ok (.invokevirtual 342, 3) := by decide +kernel
theorem dX10_after_144 : decode cX10_after 144 = .ok (.dup2, 1) := by decide +kernel
theorem dX10_after_145 : decode cX10_after 145 = .ok (.iaload, 1) := by decide +kernel
theorem dX10_after_146 : decode cX10_after 146 = .ok (.iconst 1, 1) := by decide +kernel
theorem dX10_after_147 : decode cX10_after 147 = .ok (.iadd, 1) := by decide +kernel
theorem dX10_after_148 : decode cX10_after 148 = .ok (.iastore, 1) := by decide +kernel
theorem dX10_after_149 : decode cX10_after 149 = .ok (.iinc 7 1, 3) := by decide +kernel
theorem dX10_after_152 : decode cX10_after 152 = .ok (.goto (-88), 3) := by decide +kernel
theorem dX10_after_155 : decode cX10_after 155 = .ok (.iload_n 3, 1) := by decide +kernel
theorem dX10_after_156 : decode cX10_after 156 = .ok (.ifCond .ne 18, 3) := by decide +kernel
theorem dX10_after_159 : decode cX10_after 159 = .ok (.aload_n 0, 1) := by decide +kernel
theorem dX10_after_160 : decode cX10_after 160 = .ok (.getfield 288, 3) := by decide +kernel
theorem dX10_after_163 : decode cX10_after 163 = .ok (.iload 4, 2) := by decide +kernel
theorem dX10_after_165 : decode cX10_after 165 = .ok (.iconst (-1), 1) := by decide +kernel
theorem dX10_after_166 : decode cX10_after 166 = .ok (.ixor, 1) := by decide +kernel
theorem dX10_after_167 : decode cX10_after 167 = .ok (.iand, 1) := by decide +kernel
theorem dX10_after_168 : decode cX10_after 168 = .ok (.invokestatic 385, 3) := by decide +kernel
theorem dX10_after_171 : decode cX10_after 171 = .ok (.goto 29, 3) := by decide +kernel
theorem dX10_after_174 : decode cX10_after 174 = .ok (.iload_n 3, 1) := by decide +kernel
theorem dX10_after_175 : decode cX10_after 175 = .ok (.iconst 1, 1) := by decide +kernel
theorem dX10_after_176 : decode cX10_after 176 = .ok (.if_icmp .ne 8, 3) := by decide +kernel
theorem dX10_after_179 : decode cX10_after 179 = .ok (.iload 5, 2) := by decide +kernel
theorem dX10_after_181 : decode cX10_after 181 = .ok (.goto 19, 3) := by decide +kernel
theorem dX10_after_184 : decode cX10_after 184 = .ok (.iload_n 3, 1) := by decide +kernel
theorem dX10_after_185 : decode cX10_after 185 = .ok (.iconst 2, 1) := by decide +kernel
theorem dX10_after_186 : decode cX10_after 186 = .ok (.if_icmp .ne 10, 3) := by decide +kernel
theorem dX10_after_189 : decode cX10_after 189 = .ok (.aload_n 0, 1) := by decide +kernel
theorem dX10_after_190 : decode cX10_after 190 = .ok (.invokevirtual 510, 3) := by decide +kernel
theorem dX10_after_193 : decode cX10_after 193 = .ok (.goto 7, 3) := by decide +kernel
theorem dX10_after_196 : decode cX10_after 196 = .ok (.aload_n 0, 1) := by decide +kernel
theorem dX10_after_197 : decode cX10_after 197 = .ok (.getfield 303, 3) := by decide +kernel
theorem dX10_after_200 : decode cX10_after 200 = .ok (.ireturn, 1) := by decide +kernel
theorem cdX10_busiest : Cond.code yX10_busiest cX10_busiest 3 (some .int) ∈ tz := tc8 38 rfl rfl
theorem lVX10_510 : LV RX10 510 yX10_busiest cX10_busiest 3 (some .int) 0 := ⟨tw 1834 (by decide +kernel) rfl, tw 1836 (by decide +kernel) rfl, tw 117 (by decide +kernel) rfl, tw 128 (by decide +kernel) rfl, cdX10_busiest, ⟨by decide +kernel, by decide +kernel, by decide +kernel⟩⟩
abbrev rmX10_after : Room := { frames := 6, cells := 0, slots := 0, locals := 131 }
def bX10_after_116 (k64 : Nat → Int32 → Int32 → Int32 → Int32 → Int32 → AH → Option (Int32 × AH)) (a0 : Nat) (l3 : Int32) (l4 : Int32) (l6 : Int32) (l7 : Int32) (s0 : Int32) (z : AH) : Option (Int32 × AH) :=
  if l6 = (0 : Int32) then (
    nm (l7 + (1 : Int32)) fun v149 =>
    k64 a0 l3 l4 s0 l6 v149 z
  ) else (
    (fX10_deedOf a0 l7 (0 : Int32) z).bind fun x127 =>
    if x127 = (0 : Int32) then (
      (gN 9 54 z a0).bind fun b134 =>
      (fX10_deedOf a0 l7 (1 : Int32) z).bind fun x141 =>
      (ixI 0 z b134 x141).bind fun x145 =>
      (stI 0 z b134 x141 (x145 + (1 : Int32))).bind fun z148 =>
      nm (l7 + (1 : Int32)) fun v149 =>
      k64 a0 l3 l4 s0 l6 v149 z148
    ) else (
      nm (l7 + (1 : Int32)) fun v149 =>
      k64 a0 l3 l4 s0 l6 v149 z
    )
  )
set_option maxHeartbeats 4000000 in
set_option maxRecDepth 100000 in
theorem kbX10_after_116 {p : Program} {l : Launch} {e : Env} {s : State} {m : MethodId} {args : Array Value} {below : List Frame} {meth : Method} {c : Code} {G : GW} {r : Int32} {z' : AH} (C : Cx p m c cX10_after 8 s args RX10 G) (hlk : meth.locks = false) (hr : meth.sig.returnType = (some .int)) (k64 : Nat → Int32 → Int32 → Int32 → Int32 → Int32 → AH → Option (Int32 × AH)) (hk64 : ∀ (a0 : Nat) (l3 : Int32) (l4 : Int32) (l5 : Int32) (l6 : Int32) (l7 : Int32) (z : AH) (H : Heap) (locs : List Loc) (ls : Array Slot), k64 a0 l3 l4 l5 l6 l7 z = some (r, z') → Wb G z s H locs → lv_has ls 8 [(0, .ref (gB G + a0)), (3, .int l3), (4, .int l4), (5, .int l5), (6, .int l6), (7, .int l7)] → W p l e rmX10_after s m args below meth c H locs 0 0 (MQ below (Qi G r z') args s 0 0 (AA G)) (F0 m 64 ls [])) (a0 : Nat) (l3 : Int32) (l4 : Int32) (l6 : Int32) (l7 : Int32) (s0 : Int32) {z : AH} {H : Heap} {locs : List Loc} {ls : Array Slot} (h : bX10_after_116 k64 a0 l3 l4 l6 l7 s0 z = some (r, z')) (hW : Wb G z s H locs) (hl : lv_has ls 8 [(0, .ref (gB G + a0)), (3, .int l3), (4, .int l4), (6, .int l6), (7, .int l7)]) : W p l e rmX10_after s m args below meth c H locs 0 0 (MQ below (Qi G r z') args s 0 0 (AA G)) (F0 m 116 ls [.int s0]) := by
  have hx := C.1
  have hb := C.2.1
  unfold bX10_after_116 at h
  refine lv_istore (lv' := [(5, .int s0), (0, .ref (gB G + a0)), (3, .int l3), (4, .int l4), (6, .int l6), (7, .int l7)]) hx hb dX10_after_116 hl (by decide) rfl (fun ls hl => ?_)
  refine lv_iload hx hb dX10_after_118 (lv_at hl 4 rfl) ?_
  refine lv_if_eq (tgt := 149) hx hb dX10_after_120 (by decide) (fun c120 => ?_) (fun c120 => ?_)
  · have h := ite_t c120 h
    obtain ⟨v149, ev149⟩ : ∃ y : Int32, y = (l7 + (1 : Int32)) := ⟨_, rfl⟩
    have h := nm_to h ev149
    refine lv_iinc (v := v149) (lv' := [(7, .int v149), (5, .int s0), (0, .ref (gB G + a0)), (3, .int l3), (4, .int l4), (6, .int l6)]) hx hb dX10_after_149 hl (k := 5) rfl (by rw [ev149]; rfl) (by decide) rfl (fun ls hl => ?_)
    refine lv_goto (tgt := 64) hx hb dX10_after_152 (by decide) ?_
    exact hk64 a0 l3 l4 s0 l6 v149 z _ _ _ h hW (lv_sub hl [2, 3, 4, 1, 5, 0] rfl)
  · have h := ite_f c120 h
    refine lv_aload_n hx hb dX10_after_123 rfl (lv_at hl 1 rfl) ?_
    refine lv_iload hx hb dX10_after_124 (lv_at hl 5 rfl) ?_
    refine lv_iconst (v := 0) hx hb dX10_after_126 (by decide) ?_
    obtain ⟨x127, hq, h⟩ := ob h
    refine wz_rI (c' := 0) (s' := 0) hW (wz_runV (rest := []) C hW lVX10_342 (ck hq).1 rfl (ctX10_deedOf l G a0 l7 (0 : Int32) z hq) ⟨⟨rfl, rfl⟩, Nat.le_of_ble_eq_true rfl, Nat.le_of_ble_eq_true rfl⟩ rfl hl.1 rfl (Nat.le_of_ble_eq_true rfl) dX10_after_127 ⟨Nat.le_of_ble_eq_true rfl, Nat.le_of_ble_eq_true rfl⟩) rfl rfl (fun H locs hW => ?_)
    refine lv_if_ne (tgt := 149) hx hb dX10_after_130 (by decide) (fun c130 => ?_) (fun c130 => ?_)
    · have h := ite_f c130 h
      obtain ⟨v149, ev149⟩ : ∃ y : Int32, y = (l7 + (1 : Int32)) := ⟨_, rfl⟩
      have h := nm_to h ev149
      refine lv_iinc (v := v149) (lv' := [(7, .int v149), (5, .int s0), (0, .ref (gB G + a0)), (3, .int l3), (4, .int l4), (6, .int l6)]) hx hb dX10_after_149 hl (k := 5) rfl (by rw [ev149]; rfl) (by decide) rfl (fun ls hl => ?_)
      refine lv_goto (tgt := 64) hx hb dX10_after_152 (by decide) ?_
      exact hk64 a0 l3 l4 s0 l6 v149 z _ _ _ h hW (lv_sub hl [2, 3, 4, 1, 5, 0] rfl)
    · have h := ite_t c130 h
      refine lv_aload_n hx hb dX10_after_133 rfl (lv_at hl 1 rfl) ?_
      obtain ⟨b134, hg, h⟩ := ob h
      refine wz_gN C hW flX10_74 hg dX10_after_134 ?_
      refine lv_aload_n hx hb dX10_after_137 rfl (lv_at hl 1 rfl) ?_
      refine lv_iload hx hb dX10_after_138 (lv_at hl 5 rfl) ?_
      refine lv_iconst (v := 1) hx hb dX10_after_140 (by decide) ?_
      obtain ⟨x141, hq, h⟩ := ob h
      refine wz_rI (c' := 0) (s' := 0) hW (wz_runV (rest := [.ref (gB G + b134)]) C hW lVX10_342 (ck hq).1 rfl (ctX10_deedOf l G a0 l7 (1 : Int32) z hq) ⟨⟨rfl, rfl⟩, Nat.le_of_ble_eq_true rfl, Nat.le_of_ble_eq_true rfl⟩ rfl hl.1 rfl (Nat.le_of_ble_eq_true rfl) dX10_after_141 ⟨Nat.le_of_ble_eq_true rfl, Nat.le_of_ble_eq_true rfl⟩) rfl rfl (fun H locs hW => ?_)
      refine lv_dup2_11 hx hb dX10_after_144 rfl rfl ?_
      obtain ⟨x145, hg, h⟩ := ob h
      refine wz_ald C hW hg dX10_after_145 ?_
      refine lv_iconst (v := 1) hx hb dX10_after_146 (by decide) ?_
      refine lv_iadd hx hb dX10_after_147 ?_
      obtain ⟨z148, hg, h⟩ := ob h
      refine wz_ast C hW hg dX10_after_148 (fun H locs hW => ?_)
      obtain ⟨v149, ev149⟩ : ∃ y : Int32, y = (l7 + (1 : Int32)) := ⟨_, rfl⟩
      have h := nm_to h ev149
      refine lv_iinc (v := v149) (lv' := [(7, .int v149), (5, .int s0), (0, .ref (gB G + a0)), (3, .int l3), (4, .int l4), (6, .int l6)]) hx hb dX10_after_149 hl (k := 5) rfl (by rw [ev149]; rfl) (by decide) rfl (fun ls hl => ?_)
      refine lv_goto (tgt := 64) hx hb dX10_after_152 (by decide) ?_
      exact hk64 a0 l3 l4 s0 l6 v149 z148 _ _ _ h hW (lv_sub hl [2, 3, 4, 1, 5, 0] rfl)
def bX10_after_114 (k64 : Nat → Int32 → Int32 → Int32 → Int32 → Int32 → AH → Option (Int32 × AH)) (a0 : Nat) (l3 : Int32) (l4 : Int32) (l5 : Int32) (l6 : Int32) (l7 : Int32) (z : AH) : Option (Int32 × AH) :=
  bX10_after_116 k64 a0 l3 l4 l6 l7 l5 z
set_option maxHeartbeats 4000000 in
set_option maxRecDepth 100000 in
theorem kbX10_after_114 {p : Program} {l : Launch} {e : Env} {s : State} {m : MethodId} {args : Array Value} {below : List Frame} {meth : Method} {c : Code} {G : GW} {r : Int32} {z' : AH} (C : Cx p m c cX10_after 8 s args RX10 G) (hlk : meth.locks = false) (hr : meth.sig.returnType = (some .int)) (k64 : Nat → Int32 → Int32 → Int32 → Int32 → Int32 → AH → Option (Int32 × AH)) (hk64 : ∀ (a0 : Nat) (l3 : Int32) (l4 : Int32) (l5 : Int32) (l6 : Int32) (l7 : Int32) (z : AH) (H : Heap) (locs : List Loc) (ls : Array Slot), k64 a0 l3 l4 l5 l6 l7 z = some (r, z') → Wb G z s H locs → lv_has ls 8 [(0, .ref (gB G + a0)), (3, .int l3), (4, .int l4), (5, .int l5), (6, .int l6), (7, .int l7)] → W p l e rmX10_after s m args below meth c H locs 0 0 (MQ below (Qi G r z') args s 0 0 (AA G)) (F0 m 64 ls [])) (a0 : Nat) (l3 : Int32) (l4 : Int32) (l5 : Int32) (l6 : Int32) (l7 : Int32) {z : AH} {H : Heap} {locs : List Loc} {ls : Array Slot} (h : bX10_after_114 k64 a0 l3 l4 l5 l6 l7 z = some (r, z')) (hW : Wb G z s H locs) (hl : lv_has ls 8 [(0, .ref (gB G + a0)), (3, .int l3), (4, .int l4), (5, .int l5), (6, .int l6), (7, .int l7)]) : W p l e rmX10_after s m args below meth c H locs 0 0 (MQ below (Qi G r z') args s 0 0 (AA G)) (F0 m 114 ls []) := by
  have hx := C.1
  have hb := C.2.1
  unfold bX10_after_114 at h
  refine lv_iload hx hb dX10_after_114 (lv_at hl 3 rfl) ?_
  exact kbX10_after_116 C hlk hr k64 hk64 a0 l3 l4 l6 l7 l5 h hW (lv_sub hl [0, 1, 2, 4, 5] rfl)
def bX10_after_92 (k64 : Nat → Int32 → Int32 → Int32 → Int32 → Int32 → AH → Option (Int32 × AH)) (a0 : Nat) (l3 : Int32) (l4 : Int32) (l5 : Int32) (l7 : Int32) (s0 : Int32) (z : AH) : Option (Int32 × AH) :=
  if l5 = (-1 : Int32) then (
    (gI 9 31 z a0).bind fun x101 =>
    if x101 = l4 then (
      bX10_after_114 k64 a0 l3 l4 l5 s0 l7 z
    ) else (
      bX10_after_116 k64 a0 l3 l4 s0 l7 l7 z
    )
  ) else (
    bX10_after_114 k64 a0 l3 l4 l5 s0 l7 z
  )
set_option maxHeartbeats 4000000 in
set_option maxRecDepth 100000 in
theorem kbX10_after_92 {p : Program} {l : Launch} {e : Env} {s : State} {m : MethodId} {args : Array Value} {below : List Frame} {meth : Method} {c : Code} {G : GW} {r : Int32} {z' : AH} (C : Cx p m c cX10_after 8 s args RX10 G) (hlk : meth.locks = false) (hr : meth.sig.returnType = (some .int)) (k64 : Nat → Int32 → Int32 → Int32 → Int32 → Int32 → AH → Option (Int32 × AH)) (hk64 : ∀ (a0 : Nat) (l3 : Int32) (l4 : Int32) (l5 : Int32) (l6 : Int32) (l7 : Int32) (z : AH) (H : Heap) (locs : List Loc) (ls : Array Slot), k64 a0 l3 l4 l5 l6 l7 z = some (r, z') → Wb G z s H locs → lv_has ls 8 [(0, .ref (gB G + a0)), (3, .int l3), (4, .int l4), (5, .int l5), (6, .int l6), (7, .int l7)] → W p l e rmX10_after s m args below meth c H locs 0 0 (MQ below (Qi G r z') args s 0 0 (AA G)) (F0 m 64 ls [])) (a0 : Nat) (l3 : Int32) (l4 : Int32) (l5 : Int32) (l7 : Int32) (s0 : Int32) {z : AH} {H : Heap} {locs : List Loc} {ls : Array Slot} (h : bX10_after_92 k64 a0 l3 l4 l5 l7 s0 z = some (r, z')) (hW : Wb G z s H locs) (hl : lv_has ls 8 [(0, .ref (gB G + a0)), (3, .int l3), (4, .int l4), (5, .int l5), (7, .int l7)]) : W p l e rmX10_after s m args below meth c H locs 0 0 (MQ below (Qi G r z') args s 0 0 (AA G)) (F0 m 92 ls [.int s0]) := by
  have hx := C.1
  have hb := C.2.1
  unfold bX10_after_92 at h
  refine lv_istore (lv' := [(6, .int s0), (0, .ref (gB G + a0)), (3, .int l3), (4, .int l4), (5, .int l5), (7, .int l7)]) hx hb dX10_after_92 hl (by decide) rfl (fun ls hl => ?_)
  refine lv_iload hx hb dX10_after_94 (lv_at hl 4 rfl) ?_
  refine lv_iconst (v := -1) hx hb dX10_after_96 (by decide) ?_
  refine lv_icmp_ne (tgt := 114) hx hb dX10_after_97 (by decide) (fun c97 => ?_) (fun c97 => ?_)
  · have h := ite_f c97 h
    exact kbX10_after_114 C hlk hr k64 hk64 a0 l3 l4 l5 s0 l7 h hW (lv_sub hl [1, 2, 3, 4, 0, 5] rfl)
  · have h := ite_t c97 h
    refine lv_aload_n hx hb dX10_after_100 rfl (lv_at hl 1 rfl) ?_
    obtain ⟨x101, hg, h⟩ := ob h
    refine wz_gI C hW flX10_288 hg dX10_after_101 ?_
    refine lv_iload hx hb dX10_after_104 (lv_at hl 3 rfl) ?_
    refine lv_icmp_eq (tgt := 114) hx hb dX10_after_106 (by decide) (fun c106 => ?_) (fun c106 => ?_)
    · have h := ite_t c106 h
      exact kbX10_after_114 C hlk hr k64 hk64 a0 l3 l4 l5 s0 l7 h hW (lv_sub hl [1, 2, 3, 4, 0, 5] rfl)
    · have h := ite_f c106 h
      refine lv_iload hx hb dX10_after_109 (lv_at hl 5 rfl) ?_
      refine lv_goto (tgt := 116) hx hb dX10_after_111 (by decide) ?_
      exact kbX10_after_116 C hlk hr k64 hk64 a0 l3 l4 s0 l7 l7 h hW (lv_sub hl [1, 2, 3, 0, 5] rfl)
def bX10_after_91 (k64 : Nat → Int32 → Int32 → Int32 → Int32 → Int32 → AH → Option (Int32 × AH)) (a0 : Nat) (l3 : Int32) (l4 : Int32) (l5 : Int32) (l7 : Int32) (z : AH) : Option (Int32 × AH) :=
  bX10_after_92 k64 a0 l3 l4 l5 l7 (0 : Int32) z
set_option maxHeartbeats 4000000 in
set_option maxRecDepth 100000 in
theorem kbX10_after_91 {p : Program} {l : Launch} {e : Env} {s : State} {m : MethodId} {args : Array Value} {below : List Frame} {meth : Method} {c : Code} {G : GW} {r : Int32} {z' : AH} (C : Cx p m c cX10_after 8 s args RX10 G) (hlk : meth.locks = false) (hr : meth.sig.returnType = (some .int)) (k64 : Nat → Int32 → Int32 → Int32 → Int32 → Int32 → AH → Option (Int32 × AH)) (hk64 : ∀ (a0 : Nat) (l3 : Int32) (l4 : Int32) (l5 : Int32) (l6 : Int32) (l7 : Int32) (z : AH) (H : Heap) (locs : List Loc) (ls : Array Slot), k64 a0 l3 l4 l5 l6 l7 z = some (r, z') → Wb G z s H locs → lv_has ls 8 [(0, .ref (gB G + a0)), (3, .int l3), (4, .int l4), (5, .int l5), (6, .int l6), (7, .int l7)] → W p l e rmX10_after s m args below meth c H locs 0 0 (MQ below (Qi G r z') args s 0 0 (AA G)) (F0 m 64 ls [])) (a0 : Nat) (l3 : Int32) (l4 : Int32) (l5 : Int32) (l7 : Int32) {z : AH} {H : Heap} {locs : List Loc} {ls : Array Slot} (h : bX10_after_91 k64 a0 l3 l4 l5 l7 z = some (r, z')) (hW : Wb G z s H locs) (hl : lv_has ls 8 [(0, .ref (gB G + a0)), (3, .int l3), (4, .int l4), (5, .int l5), (7, .int l7)]) : W p l e rmX10_after s m args below meth c H locs 0 0 (MQ below (Qi G r z') args s 0 0 (AA G)) (F0 m 91 ls []) := by
  have hx := C.1
  have hb := C.2.1
  unfold bX10_after_91 at h
  refine lv_iconst (v := 0) hx hb dX10_after_91 (by decide) ?_
  exact kbX10_after_92 C hlk hr k64 hk64 a0 l3 l4 l5 l7 (0 : Int32) h hW (lv_sub hl [0, 1, 2, 3, 4] rfl)
def bX10_after_64 (k64 : Nat → Int32 → Int32 → Int32 → Int32 → Int32 → AH → Option (Int32 × AH)) (a0 : Nat) (l3 : Int32) (l4 : Int32) (l5 : Int32) (l6 : Int32) (l7 : Int32) (z : AH) : Option (Int32 × AH) :=
  if l6 = (0 : Int32) then (
    if l3 = (0 : Int32) then (
      (gI 9 31 z a0).bind fun x160 =>
      (fX10_ones (x160 &&& (l4 ^^^ (-1 : Int32)))).bind fun x168 =>
      some (x168, z)
    ) else (
      if l3 = (1 : Int32) then (
        some (l5, z)
      ) else (
        if l3 = (2 : Int32) then (
          (fX10_busiest a0 z).bind fun x190 =>
          some (x190, z)
        ) else (
          (gI 9 36 z a0).bind fun x197 =>
          some (x197, z)
        )
      )
    )
  ) else (
    (fX10_deeds a0 z).bind fun x72 =>
    if x72 ≤ l7 then (
      bX10_after_91 k64 a0 l3 l4 l5 l7 z
    ) else (
      b2 (fX10_doesDeed a0 l7 z) fun x81 z81 =>
      if x81 = (0 : Int32) then (
        bX10_after_91 k64 a0 l3 l4 l5 l7 z81
      ) else (
        bX10_after_92 k64 a0 l3 l4 l5 l7 (1 : Int32) z81
      )
    )
  )
set_option maxHeartbeats 4000000 in
set_option maxRecDepth 100000 in
theorem kbX10_after_64 {p : Program} {l : Launch} {e : Env} {s : State} {m : MethodId} {args : Array Value} {below : List Frame} {meth : Method} {c : Code} {G : GW} {r : Int32} {z' : AH} (C : Cx p m c cX10_after 8 s args RX10 G) (hlk : meth.locks = false) (hr : meth.sig.returnType = (some .int)) (k64 : Nat → Int32 → Int32 → Int32 → Int32 → Int32 → AH → Option (Int32 × AH)) (hk64 : ∀ (a0 : Nat) (l3 : Int32) (l4 : Int32) (l5 : Int32) (l6 : Int32) (l7 : Int32) (z : AH) (H : Heap) (locs : List Loc) (ls : Array Slot), k64 a0 l3 l4 l5 l6 l7 z = some (r, z') → Wb G z s H locs → lv_has ls 8 [(0, .ref (gB G + a0)), (3, .int l3), (4, .int l4), (5, .int l5), (6, .int l6), (7, .int l7)] → W p l e rmX10_after s m args below meth c H locs 0 0 (MQ below (Qi G r z') args s 0 0 (AA G)) (F0 m 64 ls [])) (a0 : Nat) (l3 : Int32) (l4 : Int32) (l5 : Int32) (l6 : Int32) (l7 : Int32) {z : AH} {H : Heap} {locs : List Loc} {ls : Array Slot} (h : bX10_after_64 k64 a0 l3 l4 l5 l6 l7 z = some (r, z')) (hW : Wb G z s H locs) (hl : lv_has ls 8 [(0, .ref (gB G + a0)), (3, .int l3), (4, .int l4), (5, .int l5), (6, .int l6), (7, .int l7)]) : W p l e rmX10_after s m args below meth c H locs 0 0 (MQ below (Qi G r z') args s 0 0 (AA G)) (F0 m 64 ls []) := by
  have hx := C.1
  have hb := C.2.1
  unfold bX10_after_64 at h
  refine lv_iload hx hb dX10_after_64 (lv_at hl 4 rfl) ?_
  refine lv_if_eq (tgt := 155) hx hb dX10_after_66 (by decide) (fun c66 => ?_) (fun c66 => ?_)
  · have h := ite_t c66 h
    refine lv_iload_n hx hb dX10_after_155 rfl (lv_at hl 1 rfl) ?_
    refine lv_if_ne (tgt := 174) hx hb dX10_after_156 (by decide) (fun c156 => ?_) (fun c156 => ?_)
    · have h := ite_f c156 h
      refine lv_iload_n hx hb dX10_after_174 rfl (lv_at hl 1 rfl) ?_
      refine lv_iconst (v := 1) hx hb dX10_after_175 (by decide) ?_
      refine lv_icmp_ne (tgt := 184) hx hb dX10_after_176 (by decide) (fun c176 => ?_) (fun c176 => ?_)
      · have h := ite_f c176 h
        refine lv_iload_n hx hb dX10_after_184 rfl (lv_at hl 1 rfl) ?_
        refine lv_iconst (v := 2) hx hb dX10_after_185 (by decide) ?_
        refine lv_icmp_ne (tgt := 196) hx hb dX10_after_186 (by decide) (fun c186 => ?_) (fun c186 => ?_)
        · have h := ite_f c186 h
          refine lv_aload_n hx hb dX10_after_196 rfl (lv_at hl 0 rfl) ?_
          obtain ⟨x197, hg, h⟩ := ob h
          refine wz_gI C hW flX10_303 hg dX10_after_197 ?_
          exact wz_iretE C hlk hr (so2 h).1 (so2 h).2 hW dX10_after_200
        · have h := ite_t c186 h
          refine lv_aload_n hx hb dX10_after_189 rfl (lv_at hl 0 rfl) ?_
          obtain ⟨x190, hq, h⟩ := ob h
          refine wz_rI (c' := 0) (s' := 0) hW (wz_runV (rest := []) C hW lVX10_510 (ck hq).1 rfl (ctX10_busiest l G a0 z hq) ⟨⟨rfl, rfl⟩, Nat.le_of_ble_eq_true rfl, Nat.le_of_ble_eq_true rfl⟩ rfl hl.1 rfl (Nat.le_of_ble_eq_true rfl) dX10_after_190 ⟨Nat.le_of_ble_eq_true rfl, Nat.le_of_ble_eq_true rfl⟩) rfl rfl (fun H locs hW => ?_)
          refine lv_goto (tgt := 200) hx hb dX10_after_193 (by decide) ?_
          exact wz_iretE C hlk hr (so2 h).1 (so2 h).2 hW dX10_after_200
      · have h := ite_t c176 h
        refine lv_iload hx hb dX10_after_179 (lv_at hl 3 rfl) ?_
        refine lv_goto (tgt := 200) hx hb dX10_after_181 (by decide) ?_
        exact wz_iretE C hlk hr (so2 h).1 (so2 h).2 hW dX10_after_200
    · have h := ite_t c156 h
      refine lv_aload_n hx hb dX10_after_159 rfl (lv_at hl 0 rfl) ?_
      obtain ⟨x160, hg, h⟩ := ob h
      refine wz_gI C hW flX10_288 hg dX10_after_160 ?_
      refine lv_iload hx hb dX10_after_163 (lv_at hl 2 rfl) ?_
      refine lv_iconst (v := -1) hx hb dX10_after_165 (by decide) ?_
      refine lv_ixor hx hb dX10_after_166 ?_
      refine lv_iand hx hb dX10_after_167 ?_
      obtain ⟨x168, hq, h⟩ := ob h
      refine wz_rI (c' := 0) (s' := 0) hW (wz_runS (rest := []) C hW lTX10_385 (ctX10_ones l G (x160 &&& (l4 ^^^ (-1 : Int32))) z hq) ⟨⟨rfl, rfl⟩, Nat.le_of_ble_eq_true rfl, Nat.le_of_ble_eq_true rfl⟩ rfl hl.1 rfl (Nat.le_of_ble_eq_true rfl) dX10_after_168 ⟨Nat.le_of_ble_eq_true rfl, Nat.le_of_ble_eq_true rfl⟩) rfl rfl (fun H locs hW => ?_)
      refine lv_goto (tgt := 200) hx hb dX10_after_171 (by decide) ?_
      exact wz_iretE C hlk hr (so2 h).1 (so2 h).2 hW dX10_after_200
  · have h := ite_f c66 h
    refine lv_iload hx hb dX10_after_69 (lv_at hl 5 rfl) ?_
    refine lv_aload_n hx hb dX10_after_71 rfl (lv_at hl 0 rfl) ?_
    obtain ⟨x72, hq, h⟩ := ob h
    refine wz_rI (c' := 0) (s' := 0) hW (wz_runV (rest := [.int l7]) C hW lVX10_339 (ck hq).1 rfl (ctX10_deeds l G a0 z hq) ⟨⟨rfl, rfl⟩, Nat.le_of_ble_eq_true rfl, Nat.le_of_ble_eq_true rfl⟩ rfl hl.1 rfl (Nat.le_of_ble_eq_true rfl) dX10_after_72 ⟨Nat.le_of_ble_eq_true rfl, Nat.le_of_ble_eq_true rfl⟩) rfl rfl (fun H locs hW => ?_)
    refine lv_icmp_ge (tgt := 91) hx hb dX10_after_75 (by decide) (fun c75 => ?_) (fun c75 => ?_)
    · have h := ite_t c75 h
      exact kbX10_after_91 C hlk hr k64 hk64 a0 l3 l4 l5 l7 h hW (lv_sub hl [0, 1, 2, 3, 5] rfl)
    · have h := ite_f c75 h
      refine lv_aload_n hx hb dX10_after_78 rfl (lv_at hl 0 rfl) ?_
      refine lv_iload hx hb dX10_after_79 (lv_at hl 5 rfl) ?_
      obtain ⟨x81, z81, hq, h⟩ := ob2 h
      refine wz_rI (c' := 0) (s' := 0) hW (wz_runV (rest := []) C hW lVX10_370 (ck hq).1 rfl (ctX10_doesDeed l G a0 l7 z hq) ⟨⟨rfl, rfl⟩, Nat.le_of_ble_eq_true rfl, Nat.le_of_ble_eq_true rfl⟩ rfl hl.1 rfl (Nat.le_of_ble_eq_true rfl) dX10_after_81 ⟨Nat.le_of_ble_eq_true rfl, Nat.le_of_ble_eq_true rfl⟩) rfl rfl (fun H locs hW => ?_)
      refine lv_if_eq (tgt := 91) hx hb dX10_after_84 (by decide) (fun c84 => ?_) (fun c84 => ?_)
      · have h := ite_t c84 h
        exact kbX10_after_91 C hlk hr k64 hk64 a0 l3 l4 l5 l7 h hW (lv_sub hl [0, 1, 2, 3, 5] rfl)
      · have h := ite_f c84 h
        refine lv_iconst (v := 1) hx hb dX10_after_87 (by decide) ?_
        refine lv_goto (tgt := 92) hx hb dX10_after_88 (by decide) ?_
        exact kbX10_after_92 C hlk hr k64 hk64 a0 l3 l4 l5 l7 (1 : Int32) h hW (lv_sub hl [0, 1, 2, 3, 5] rfl)
def fX10_after_64 : Nat → Nat → Int32 → Int32 → Int32 → Int32 → Int32 → AH → Option (Int32 × AH)
  | 0, _, _, _, _, _, _, _ => none
  | n + 1, a0, l3, l4, l5, l6, l7, z => bX10_after_64 (fX10_after_64 n) a0 l3 l4 l5 l6 l7 z
theorem klX10_after_64 {p : Program} {l : Launch} {e : Env} {s : State} {m : MethodId} {args : Array Value} {below : List Frame} {meth : Method} {c : Code} {G : GW} {r : Int32} {z' : AH} (C : Cx p m c cX10_after 8 s args RX10 G) (hlk : meth.locks = false) (hr : meth.sig.returnType = (some .int)) : ∀ (n : Nat) (a0 : Nat) (l3 : Int32) (l4 : Int32) (l5 : Int32) (l6 : Int32) (l7 : Int32) (z : AH) (H : Heap) (locs : List Loc) (ls : Array Slot), fX10_after_64 n a0 l3 l4 l5 l6 l7 z = some (r, z') → Wb G z s H locs → lv_has ls 8 [(0, .ref (gB G + a0)), (3, .int l3), (4, .int l4), (5, .int l5), (6, .int l6), (7, .int l7)] → W p l e rmX10_after s m args below meth c H locs 0 0 (MQ below (Qi G r z') args s 0 0 (AA G)) (F0 m 64 ls []) := by
  intro n
  induction n with
  | zero => intro a0 l3 l4 l5 l6 l7 z H locs ls h; have h : (none : Option (Int32 × AH)) = some (r, z') := h; cases h
  | succ n ih => intro a0 l3 l4 l5 l6 l7 z H locs ls h hW hl; exact kbX10_after_64 C hlk hr (fX10_after_64 n) (fun a0 l3 l4 l5 l6 l7 z H locs ls h hW hl => ih a0 l3 l4 l5 l6 l7 z H locs ls h hW hl) a0 l3 l4 l5 l6 l7 h hW hl
def bX10_after_29 (k29 : Nat → Int32 → Int32 → AH → Option (Int32 × AH)) (a0 : Nat) (l3 : Int32) (l4 : Int32) (z : AH) : Option (Int32 × AH) :=
  if (4 : Int32) ≤ l4 then (
    (gI 9 31 z a0).bind fun x50 =>
    fX10_after_64 FU a0 l3 x50 (-1 : Int32) (1 : Int32) (0 : Int32) z
  ) else (
    (gN 9 54 z a0).bind fun b36 =>
    (stI 0 z b36 l4 (0 : Int32)).bind fun z42 =>
    nm (l4 + (1 : Int32)) fun v43 =>
    k29 a0 l3 v43 z42
  )
set_option maxHeartbeats 4000000 in
set_option maxRecDepth 100000 in
theorem kbX10_after_29 {p : Program} {l : Launch} {e : Env} {s : State} {m : MethodId} {args : Array Value} {below : List Frame} {meth : Method} {c : Code} {G : GW} {r : Int32} {z' : AH} (C : Cx p m c cX10_after 8 s args RX10 G) (hlk : meth.locks = false) (hr : meth.sig.returnType = (some .int)) (k29 : Nat → Int32 → Int32 → AH → Option (Int32 × AH)) (hk29 : ∀ (a0 : Nat) (l3 : Int32) (l4 : Int32) (z : AH) (H : Heap) (locs : List Loc) (ls : Array Slot), k29 a0 l3 l4 z = some (r, z') → Wb G z s H locs → lv_has ls 8 [(0, .ref (gB G + a0)), (3, .int l3), (4, .int l4)] → W p l e rmX10_after s m args below meth c H locs 0 0 (MQ below (Qi G r z') args s 0 0 (AA G)) (F0 m 29 ls [])) (a0 : Nat) (l3 : Int32) (l4 : Int32) {z : AH} {H : Heap} {locs : List Loc} {ls : Array Slot} (h : bX10_after_29 k29 a0 l3 l4 z = some (r, z')) (hW : Wb G z s H locs) (hl : lv_has ls 8 [(0, .ref (gB G + a0)), (3, .int l3), (4, .int l4)]) : W p l e rmX10_after s m args below meth c H locs 0 0 (MQ below (Qi G r z') args s 0 0 (AA G)) (F0 m 29 ls []) := by
  have hx := C.1
  have hb := C.2.1
  unfold bX10_after_29 at h
  refine lv_iload hx hb dX10_after_29 (lv_at hl 2 rfl) ?_
  refine lv_iconst (v := 4) hx hb dX10_after_31 (by decide) ?_
  refine lv_icmp_ge (tgt := 49) hx hb dX10_after_32 (by decide) (fun c32 => ?_) (fun c32 => ?_)
  · have h := ite_t c32 h
    refine lv_aload_n hx hb dX10_after_49 rfl (lv_at hl 0 rfl) ?_
    obtain ⟨x50, hg, h⟩ := ob h
    refine wz_gI C hW flX10_288 hg dX10_after_50 ?_
    refine lv_istore (lv' := [(4, .int x50), (0, .ref (gB G + a0)), (3, .int l3)]) hx hb dX10_after_53 hl (by decide) rfl (fun ls hl => ?_)
    refine lv_iconst (v := -1) hx hb dX10_after_55 (by decide) ?_
    refine lv_istore (lv' := [(5, .int (-1 : Int32)), (4, .int x50), (0, .ref (gB G + a0)), (3, .int l3)]) hx hb dX10_after_56 hl (by decide) rfl (fun ls hl => ?_)
    refine lv_iconst (v := 1) hx hb dX10_after_58 (by decide) ?_
    refine lv_istore (lv' := [(6, .int (1 : Int32)), (5, .int (-1 : Int32)), (4, .int x50), (0, .ref (gB G + a0)), (3, .int l3)]) hx hb dX10_after_59 hl (by decide) rfl (fun ls hl => ?_)
    refine lv_iconst (v := 0) hx hb dX10_after_61 (by decide) ?_
    refine lv_istore (lv' := [(7, .int (0 : Int32)), (6, .int (1 : Int32)), (5, .int (-1 : Int32)), (4, .int x50), (0, .ref (gB G + a0)), (3, .int l3)]) hx hb dX10_after_62 hl (by decide) rfl (fun ls hl => ?_)
    exact klX10_after_64 C hlk hr FU a0 l3 x50 (-1 : Int32) (1 : Int32) (0 : Int32) z _ _ _ h hW (lv_sub hl [4, 5, 3, 2, 1, 0] rfl)
  · have h := ite_f c32 h
    refine lv_aload_n hx hb dX10_after_35 rfl (lv_at hl 0 rfl) ?_
    obtain ⟨b36, hg, h⟩ := ob h
    refine wz_gN C hW flX10_74 hg dX10_after_36 ?_
    refine lv_iload hx hb dX10_after_39 (lv_at hl 2 rfl) ?_
    refine lv_iconst (v := 0) hx hb dX10_after_41 (by decide) ?_
    obtain ⟨z42, hg, h⟩ := ob h
    refine wz_ast C hW hg dX10_after_42 (fun H locs hW => ?_)
    obtain ⟨v43, ev43⟩ : ∃ y : Int32, y = (l4 + (1 : Int32)) := ⟨_, rfl⟩
    have h := nm_to h ev43
    refine lv_iinc (v := v43) (lv' := [(4, .int v43), (0, .ref (gB G + a0)), (3, .int l3)]) hx hb dX10_after_43 hl (k := 2) rfl (by rw [ev43]; rfl) (by decide) rfl (fun ls hl => ?_)
    refine lv_goto (tgt := 29) hx hb dX10_after_46 (by decide) ?_
    exact hk29 a0 l3 v43 z42 _ _ _ h hW (lv_sub hl [1, 2, 0] rfl)
def fX10_after_29 : Nat → Nat → Int32 → Int32 → AH → Option (Int32 × AH)
  | 0, _, _, _, _ => none
  | n + 1, a0, l3, l4, z => bX10_after_29 (fX10_after_29 n) a0 l3 l4 z
theorem klX10_after_29 {p : Program} {l : Launch} {e : Env} {s : State} {m : MethodId} {args : Array Value} {below : List Frame} {meth : Method} {c : Code} {G : GW} {r : Int32} {z' : AH} (C : Cx p m c cX10_after 8 s args RX10 G) (hlk : meth.locks = false) (hr : meth.sig.returnType = (some .int)) : ∀ (n : Nat) (a0 : Nat) (l3 : Int32) (l4 : Int32) (z : AH) (H : Heap) (locs : List Loc) (ls : Array Slot), fX10_after_29 n a0 l3 l4 z = some (r, z') → Wb G z s H locs → lv_has ls 8 [(0, .ref (gB G + a0)), (3, .int l3), (4, .int l4)] → W p l e rmX10_after s m args below meth c H locs 0 0 (MQ below (Qi G r z') args s 0 0 (AA G)) (F0 m 29 ls []) := by
  intro n
  induction n with
  | zero => intro a0 l3 l4 z H locs ls h; have h : (none : Option (Int32 × AH)) = some (r, z') := h; cases h
  | succ n ih => intro a0 l3 l4 z H locs ls h hW hl; exact kbX10_after_29 C hlk hr (fX10_after_29 n) (fun a0 l3 l4 z H locs ls h hW hl => ih a0 l3 l4 z H locs ls h hW hl) a0 l3 l4 h hW hl
def fX10_after (a0 : Nat) (l1 : Int32) (l2 : Int32) (l3 : Int32) (z : AH) : Option (Int32 × AH) :=
  if isO 9 z a0 = true then
    (pF 9 0 z a0 (.int (0 : Int32))).bind fun z2 =>
    b2 (fX10_layAll a0 l1 l2 z2) fun x8 z8 =>
    if x8 = (0 : Int32) then (
      some ((-2 : Int32), z8)
    ) else (
      if (fX10_in l3 (0 : Int32) (3 : Int32)) = (0 : Int32) then (
        some ((-2 : Int32), z8)
      ) else (
        fX10_after_29 FU a0 l3 (0 : Int32) z8
      )
    )
  else none
set_option maxHeartbeats 4000000 in
set_option maxRecDepth 100000 in
theorem ctX10_after (l : Launch) (G : GW) (a0 : Nat) (l1 : Int32) (l2 : Int32) (l3 : Int32) (z : AH) {r : Int32} {z' : AH} (h : fX10_after a0 l1 l2 l3 z = some (r, z')) : Met l yX10_after (wy yX10_after cX10_after 8 (some .int)) rmX10_after (Pz G [.ref (gB G + a0), .int l1, .int l2, .int l3] z) (Qi G r z') 0 0 (AA G) := by
  refine wz_ent (own := RX10) (by decide +kernel) rfl (fun p e s m below meth c ls C hlk hr hin hW hl => ?_) (Nat.le_of_ble_eq_true rfl)
  have hl : lv_has ls 8 [(0, .ref (gB G + a0)), (1, .int l1), (2, .int l2), (3, .int l3)] := hl
  have hx := C.1
  have hb := C.2.1
  unfold fX10_after at h
  obtain ⟨-, h⟩ := ck h
  refine lv_aload_n hx hb dX10_after_0 rfl (lv_at hl 0 rfl) ?_
  refine lv_iconst (v := 0) hx hb dX10_after_1 (by decide) ?_
  obtain ⟨z2, hg, h⟩ := ob h
  refine wz_put (v := (.int (0 : Int32))) C hW flX10_81 rfl rfl hg dX10_after_2 (fun H locs hW => ?_)
  refine lv_aload_n hx hb dX10_after_5 rfl (lv_at hl 0 rfl) ?_
  refine lv_iload_n hx hb dX10_after_6 rfl (lv_at hl 1 rfl) ?_
  refine lv_iload_n hx hb dX10_after_7 rfl (lv_at hl 2 rfl) ?_
  obtain ⟨x8, z8, hq, h⟩ := ob2 h
  refine wz_rI (c' := 0) (s' := 0) hW (wz_runV (rest := []) C hW lVX10_373 (ck hq).1 rfl (ctX10_layAll l G a0 l1 l2 z2 hq) ⟨⟨rfl, rfl⟩, Nat.le_of_ble_eq_true rfl, Nat.le_of_ble_eq_true rfl⟩ rfl hl.1 rfl (Nat.le_of_ble_eq_true rfl) dX10_after_8 ⟨Nat.le_of_ble_eq_true rfl, Nat.le_of_ble_eq_true rfl⟩) rfl rfl (fun H locs hW => ?_)
  refine lv_if_eq (tgt := 23) hx hb dX10_after_11 (by decide) (fun c11 => ?_) (fun c11 => ?_)
  · have h := ite_t c11 h
    refine lv_bipush (v := -2) hx hb dX10_after_23 (by decide) ?_
    exact wz_iretE C hlk hr (so2 h).1 (so2 h).2 hW dX10_after_25
  · have h := ite_f c11 h
    refine lv_iload_n hx hb dX10_after_14 rfl (lv_at hl 3 rfl) ?_
    refine lv_iconst (v := 0) hx hb dX10_after_15 (by decide) ?_
    refine lv_iconst (v := 3) hx hb dX10_after_16 (by decide) ?_
    refine wz_rI (c' := 0) (s' := 0) hW (wz_runS (rest := []) C hW lTX10_93 (ctX10_in l G l3 (0 : Int32) (3 : Int32) z8 rfl) ⟨⟨rfl, rfl⟩, Nat.le_of_ble_eq_true rfl, Nat.le_of_ble_eq_true rfl⟩ rfl hl.1 rfl (Nat.le_of_ble_eq_true rfl) dX10_after_17 ⟨Nat.le_of_ble_eq_true rfl, Nat.le_of_ble_eq_true rfl⟩) rfl rfl (fun H locs hW => ?_)
    refine lv_if_ne (tgt := 26) hx hb dX10_after_20 (by decide) (fun c20 => ?_) (fun c20 => ?_)
    · have h := ite_f c20 h
      refine lv_iconst (v := 0) hx hb dX10_after_26 (by decide) ?_
      refine lv_istore (lv' := [(4, .int (0 : Int32)), (0, .ref (gB G + a0)), (1, .int l1), (2, .int l2), (3, .int l3)]) hx hb dX10_after_27 hl (by decide) rfl (fun ls hl => ?_)
      exact klX10_after_29 C hlk hr FU a0 l3 (0 : Int32) z8 _ _ _ h hW (lv_sub hl [1, 4, 0] rfl)
    · have h := ite_t c20 h
      refine lv_bipush (v := -2) hx hb dX10_after_23 (by decide) ?_
      exact wz_iretE C hlk hr (so2 h).1 (so2 h).2 hW dX10_after_25
theorem dX10_wrong_0 : decode cX10_wrong 0 = .ok (.aload_n 0, 1) := by decide +kernel
theorem dX10_wrong_1 : decode cX10_wrong 1 = .ok (.iconst 0, 1) := by decide +kernel
theorem dX10_wrong_2 : decode cX10_wrong 2 = .ok (.putfield 81, 3) := by decide +kernel
theorem dX10_wrong_5 : decode cX10_wrong 5 = .ok (.iload_n 2, 1) := by decide +kernel
theorem dX10_wrong_6 : decode cX10_wrong 6 = .ok (.iconst 0, 1) := by decide +kernel
theorem dX10_wrong_7 : decode cX10_wrong 7 = .ok (.iconst 3, 1) := by decide +kernel
theorem dX10_wrong_8 : decode cX10_wrong 8 = .ok (.invokestatic 93, 3) := by decide +kernel
theorem dX10_wrong_11 : decode cX10_wrong 11 = .ok (.ifCond .eq 11, 3) := by decide +kernel
theorem dX10_wrong_14 : decode cX10_wrong 14 = .ok (.aload_n 0, 1) := by decide +kernel
theorem dX10_wrong_15 : decode cX10_wrong 15 = .ok (.iload_n 1, 1) := by decide +kernel
theorem dX10_wrong_16 : decode cX10_wrong 16 = .ok (.invokevirtual 435, 3) := by decide +kernel
theorem dX10_wrong_19 : decode cX10_wrong 19 = .ok (.ifCond .ne 5, 3) := by decide +kernel
theorem dX10_wrong_22 : decode cX10_wrong 22 = .ok (.iconst (-1), 1) := by decide +kernel
theorem dX10_wrong_23 : decode cX10_wrong 23 = .ok (.ireturn, 1) := by decide +kernel
theorem dX10_wrong_24 : decode cX10_wrong 24 = .ok (.iconst (-1), 1) := by decide +kernel
theorem dX10_wrong_25 : decode cX10_wrong 25 = .ok (.istore 4, 2) := by decide +kernel
theorem dX10_wrong_27 : decode cX10_wrong 27 = .ok (.iconst (-1), 1) := by decide +kernel
