theorem dX10_tryRow_9 : decode cX10_tryRow 9 = .ok (.if_icmp .ge 34, 3) := by decide +kernel
theorem dX10_tryRow_12 : decode cX10_tryRow 12 = .ok (.aload_n 0, 1) := by decide +kernel
theorem dX10_tryRow_13 : decode cX10_tryRow 13 = .ok (.getfield 53, 3) := by decide +kernel
theorem dX10_tryRow_16 : decode cX10_tryRow 16 = .ok (.iload_n 3, 1) := by decide +kernel
theorem dX10_tryRow_17 : decode cX10_tryRow 17 = .ok (.iaload, 1) := by decide +kernel
theorem dX10_tryRow_18 : decode cX10_tryRow 18 = .ok (.bipush 8, 2) := by decide +kernel
theorem dX10_tryRow_20 : decode cX10_tryRow 20 = .ok (.if_icmp .ge 17, 3) := by decide +kernel
theorem dX10_tryRow_23 : decode cX10_tryRow 23 = .ok (.aload_n 0, 1) := by decide +kernel
theorem dX10_tryRow_24 : decode cX10_tryRow 24 = .ok (.iload_n 3, 1) := by decide +kernel
theorem dX10_tryRow_25 : decode cX10_tryRow 25 = .ok (.aload_n 0, 1) := by decide +kernel
theorem dX10_tryRow_26 : decode cX10_tryRow 26 = .ok (.getfield 53, 3) := by decide +kernel
theorem dX10_tryRow_29 : decode cX10_tryRow 29 = .ok (.iload_n 3, 1) := by decide +kernel
theorem dX10_tryRow_30 : decode cX10_tryRow 30 = .ok (.iaload, 1) := by decide +kernel
theorem dX10_tryRow_31 : decode cX10_tryRow 31 = .ok (.invokevirtual 351, 3) := by decide +kernel
theorem dX10_tryRow_34 : decode cX10_tryRow 34 = .ok (.iinc 2 1, 3) := by decide +kernel
theorem dX10_tryRow_37 : decode cX10_tryRow 37 = .ok (.iinc 3 1, 3) := by decide +kernel
theorem dX10_tryRow_40 : decode cX10_tryRow 40 = .ok (.goto (-36), 3) := by decide +kernel
theorem dX10_tryRow_43 : decode cX10_tryRow 43 = .ok (.aload_n 0, 1) := by decide +kernel
theorem dX10_tryRow_44 : decode cX10_tryRow 44 = .ok (.invokevirtual 364, 3) := by decide +kernel
theorem dX10_tryRow_47 : decode cX10_tryRow 47 = .ok (.iconst 0, 1) := by decide +kernel
theorem dX10_tryRow_48 : decode cX10_tryRow 48 = .ok (.istore_n 3, 1) := by decide +kernel
theorem dX10_tryRow_49 : decode cX10_tryRow 49 = .ok (.iconst 0, 1) := by decide +kernel
theorem dX10_tryRow_50 : decode cX10_tryRow 50 = .ok (.istore 4, 2) := by decide +kernel
theorem dX10_tryRow_52 : decode cX10_tryRow 52 = .ok (.iload 4, 2) := by decide +kernel
theorem dX10_tryRow_54 : decode cX10_tryRow 54 = .ok (.aload_n 0, 1) := by decide +kernel
theorem dX10_tryRow_55 : decode cX10_tryRow 55 = .ok (.getfield 276, 3) := by decide +kernel
theorem dX10_tryRow_58 : decode cX10_tryRow 58 = .ok (.if_icmp .ge 19, 3) := by decide +kernel
theorem dX10_tryRow_61 : decode cX10_tryRow 61 = .ok (.iload_n 3, 1) := by decide +kernel
theorem dX10_tryRow_62 : decode cX10_tryRow 62 = .ok (.aload_n 0, 1) := by decide +kernel
theorem dX10_tryRow_63 : decode cX10_tryRow 63 = .ok (.getfield 44, 3) := by decide +kernel
theorem dX10_tryRow_66 : decode cX10_tryRow 66 = .ok (.iload 4, 2) := by decide +kernel
theorem dX10_tryRow_68 : decode cX10_tryRow 68 = .ok (.iaload, 1) := by decide +kernel
theorem dX10_tryRow_69 : decode cX10_tryRow 69 = .ok (.iadd, 1) := by decide +kernel
theorem dX10_tryRow_70 : decode cX10_tryRow 70 = .ok (.istore_n 3, 1) := by decide +kernel
theorem dX10_tryRow_71 : decode cX10_tryRow 71 = .ok (.iinc 4 1, 3) := by decide +kernel
theorem dX10_tryRow_74 : decode cX10_tryRow 74 = .ok (.goto (-22), 3) := by decide +kernel
theorem dX10_tryRow_77 : decode cX10_tryRow 77 = .ok (.aload_n 0, 1) := by decide +kernel
theorem dX10_tryRow_78 : decode cX10_tryRow 78 = .ok (.invokevirtual 382, 3) := by decide +kernel
theorem dX10_tryRow_81 : decode cX10_tryRow 81 = .ok (.invokestatic 385, 3) := by decide +kernel
theorem dX10_tryRow_84 : decode cX10_tryRow 84 = .ok (.istore 4, 2) := by decide +kernel
theorem dX10_tryRow_86 : decode cX10_tryRow 86 = .ok (.iload 4, 2) := by decide +kernel
theorem dX10_tryRow_88 : decode cX10_tryRow 88 = .ok (.aload_n 0, 1) := by decide +kernel
theorem dX10_tryRow_89 : decode cX10_tryRow 89 = .ok (.getfield 388, 3) := by decide +kernel
theorem dX10_tryRow_92 : decode cX10_tryRow 92 = .ok (.if_icmp .gt 20, 3) := by decide +kernel
theorem dX10_tryRow_95 : decode cX10_tryRow 95 = .ok (.iload 4, 2) := by decide +kernel
theorem dX10_tryRow_97 : decode cX10_tryRow 97 = .ok (.aload_n 0, 1) := by decide +kernel
theorem dX10_tryRow_98 : decode cX10_tryRow 98 = .ok (.getfield 388, 3) := by decide +kernel
theorem dX10_tryRow_101 : decode cX10_tryRow 101 = .ok (.if_icmp .ne 54, 3) := by decide +kernel
theorem dX10_tryRow_104 : decode cX10_tryRow 104 = .ok (.iload_n 3, 1) := by decide +kernel
theorem dX10_tryRow_105 : decode cX10_tryRow 105 = .ok (.aload_n 0, 1) := by decide +kernel
theorem dX10_tryRow_106 : decode cX10_tryRow 106 = .ok (.getfield 391, 3) := by decide +kernel
theorem dX10_tryRow_109 : decode cX10_tryRow 109 = .ok (.if_icmp .le 46, 3) := by decide +kernel
theorem dX10_tryRow_112 : decode cX10_tryRow 112 = .ok (.aload_n 0, 1) := by decide +kernel
theorem dX10_tryRow_113 : decode cX10_tryRow 113 = .ok (.iload 4, 2) := by decide +kernel
theorem dX10_tryRow_115 : decode cX10_tryRow 115 = .ok (.putfield 388, 3) := by decide +kernel
theorem dX10_tryRow_118 : decode cX10_tryRow 118 = .ok (.aload_n 0, 1) := by decide +kernel
theorem dX10_tryRow_119 : decode cX10_tryRow 119 = .ok (.iload_n 3, 1) := by decide +kernel
theorem dX10_tryRow_120 : decode cX10_tryRow 120 = .ok (.putfield 391, 3) := by decide +kernel
theorem dX10_tryRow_123 : decode cX10_tryRow 123 = .ok (.iconst 0, 1) := by decide +kernel
theorem dX10_tryRow_124 : decode cX10_tryRow 124 = .ok (.istore 5, 2) := by decide +kernel
theorem dX10_tryRow_126 : decode cX10_tryRow 126 = .ok (.iload 5, 2) := by decide +kernel
theorem dX10_tryRow_128 : decode cX10_tryRow 128 = .ok (.aload_n 0, 1) := by decide +kernel
theorem dX10_tryRow_129 : decode cX10_tryRow 129 = .ok (.getfield 279, 3) := by decide +kernel
theorem dX10_tryRow_132 : decode cX10_tryRow 132 = .ok (.if_icmp .ge 23, 3) := by decide +kernel
theorem dX10_tryRow_135 : decode cX10_tryRow 135 = .ok (.aload_n 0, 1) := by decide +kernel
theorem dX10_tryRow_136 : decode cX10_tryRow 136 = .ok (.getfield 56, 3) := by decide +kernel
theorem dX10_tryRow_139 : decode cX10_tryRow 139 = .ok (.iload 5, 2) := by decide +kernel
theorem dX10_tryRow_141 : decode cX10_tryRow 141 = .ok (.aload_n 0, 1) := by decide +kernel
theorem dX10_tryRow_142 : decode cX10_tryRow 142 = .ok (.getfield 53, 3) := by decide +kernel
theorem dX10_tryRow_145 : decode cX10_tryRow 145 = .ok (.iload 5, 2) := by decide +kernel
theorem dX10_tryRow_147 : decode cX10_tryRow 147 = .ok (.iaload, 1) := by decide +kernel
theorem dX10_tryRow_148 : decode cX10_tryRow 148 = .ok (.iastore, 1) := by decide +kernel
theorem dX10_tryRow_149 : decode cX10_tryRow 149 = .ok (.iinc 5 1, 3) := by decide +kernel
theorem dX10_tryRow_152 : decode cX10_tryRow 152 = .ok (.goto (-26), 3) := by decide +kernel
theorem dX10_tryRow_155 : decode cX10_tryRow 155 = .ok (.aload_n 0, 1) := by decide +kernel
theorem dX10_tryRow_156 : decode cX10_tryRow 156 = .ok (.aload_n 0, 1) := by decide +kernel
theorem dX10_tryRow_157 : decode cX10_tryRow 157 = .ok (.invokevirtual 382, 3) := by decide +kernel
theorem dX10_tryRow_160 : decode cX10_tryRow 160 = .ok (.iload_n 1, 1) := by decide +kernel
theorem dX10_tryRow_161 : decode cX10_tryRow 161 = .ok (.if_icmp .ne 14, 3) := by decide +kernel
theorem dX10_tryRow_164 : decode cX10_tryRow 164 = .ok (.aload_n 0, 1) := by decide +kernel
theorem dX10_tryRow_165 : decode cX10_tryRow 165 = .ok (.getfield 394, 3) := by decide +kernel
theorem dX10_tryRow_168 : decode cX10_tryRow 168 = .ok (.iload_n 2, 1) := by decide +kernel
theorem dX10_tryRow_169 : decode cX10_tryRow 169 = .ok (.invokestatic 324, 3) := by decide +kernel
theorem dX10_tryRow_172 : decode cX10_tryRow 172 = .ok (.goto 7, 3) := by decide +kernel
theorem dX10_tryRow_175 : decode cX10_tryRow 175 = .ok (.aload_n 0, 1) := by decide +kernel
theorem dX10_tryRow_176 : decode cX10_tryRow 176 = .ok (.getfield 394, 3) := by decide +kernel
theorem dX10_tryRow_179 : decode cX10_tryRow 179 = .ok (.putfield 394, 3) := by decide +kernel
theorem dX10_tryRow_182 : decode cX10_tryRow 182 = .ok (.return_, 1) := by decide +kernel
theorem cdX10_thereSet : Cond.code yX10_thereSet cX10_thereSet 1 (some .int) ∈ tz := tc7 93 rfl rfl
theorem lVX10_382 : LV RX10 382 yX10_thereSet cX10_thereSet 1 (some .int) 0 := ⟨tw 1649 (by decide +kernel) rfl, tw 1651 (by decide +kernel) rfl, tw 87 (by decide +kernel) rfl, tw 128 (by decide +kernel) rfl, cdX10_thereSet, ⟨by decide +kernel, by decide +kernel, by decide +kernel⟩⟩
theorem flX10_394 : FL RX10 394 9 43 := ⟨_, rfl, Nat.le_of_ble_eq_true rfl, tw 1242 (by decide +kernel) rfl, rfl⟩
theorem flX10_388 : FL RX10 388 9 41 := ⟨_, rfl, Nat.le_of_ble_eq_true rfl, tw 1240 (by decide +kernel) rfl, rfl⟩
theorem flX10_391 : FL RX10 391 9 42 := ⟨_, rfl, Nat.le_of_ble_eq_true rfl, tw 1241 (by decide +kernel) rfl, rfl⟩
theorem cdX10_ones : Cond.code yX10_ones cX10_ones 3 (some .int) ∈ tz := tc7 105 rfl rfl
theorem lTX10_385 : LT RX10 385 yX10_ones cX10_ones 3 (some .int) 1 := ⟨tw 1662 (by decide +kernel) rfl, tw 1663 (by decide +kernel) rfl, tw 128 (by decide +kernel) rfl, cdX10_ones, ⟨by decide +kernel, by decide +kernel, by decide +kernel⟩⟩
abbrev rmX10_tryRow : Room := { frames := 4, cells := 0, slots := 0, locals := 87 }
def bX10_tryRow_155 (a0 : Nat) (l1 : Int32) (l2 : Int32) (z : AH) : Option AH :=
  (fX10_thereSet a0 z).bind fun x157 =>
  if x157 = l1 then (
    (gI 9 43 z a0).bind fun x165 =>
    (pF 9 43 z a0 (.int (fX10_lesser x165 l2))).bind fun z179 =>
    some z179
  ) else (
    (gI 9 43 z a0).bind fun x176 =>
    (pF 9 43 z a0 (.int x176)).bind fun z179 =>
    some z179
  )
set_option maxHeartbeats 4000000 in
set_option maxRecDepth 100000 in
theorem kbX10_tryRow_155 {p : Program} {l : Launch} {e : Env} {s : State} {m : MethodId} {args : Array Value} {below : List Frame} {meth : Method} {c : Code} {G : GW} {z' : AH} (C : Cx p m c cX10_tryRow 6 s args RX10 G) (hlk : meth.locks = false) (hr : meth.sig.returnType = none) (a0 : Nat) (l1 : Int32) (l2 : Int32) {z : AH} {H : Heap} {locs : List Loc} {ls : Array Slot} (h : bX10_tryRow_155 a0 l1 l2 z = some z') (hW : Wb G z s H locs) (hl : lv_has ls 6 [(0, .ref (gB G + a0)), (1, .int l1), (2, .int l2)]) : W p l e rmX10_tryRow s m args below meth c H locs 0 0 (MQ below (Qv G z') args s 0 0 (AA G)) (F0 m 155 ls []) := by
  have hx := C.1
  have hb := C.2.1
  unfold bX10_tryRow_155 at h
  refine lv_aload_n hx hb dX10_tryRow_155 rfl (lv_at hl 0 rfl) ?_
  refine lv_aload_n hx hb dX10_tryRow_156 rfl (lv_at hl 0 rfl) ?_
  obtain ⟨x157, hq, h⟩ := ob h
  refine wz_rI (c' := 0) (s' := 0) hW (wz_runV (rest := [.ref (gB G + a0)]) C hW lVX10_382 (ck hq).1 rfl (ctX10_thereSet l G a0 z hq) ⟨⟨rfl, rfl⟩, Nat.le_of_ble_eq_true rfl, Nat.le_of_ble_eq_true rfl⟩ rfl hl.1 rfl (Nat.le_of_ble_eq_true rfl) dX10_tryRow_157 ⟨Nat.le_of_ble_eq_true rfl, Nat.le_of_ble_eq_true rfl⟩) rfl rfl (fun H locs hW => ?_)
  refine lv_iload_n hx hb dX10_tryRow_160 rfl (lv_at hl 1 rfl) ?_
  refine lv_icmp_ne (tgt := 175) hx hb dX10_tryRow_161 (by decide) (fun c161 => ?_) (fun c161 => ?_)
  · have h := ite_f c161 h
    refine lv_aload_n hx hb dX10_tryRow_175 rfl (lv_at hl 0 rfl) ?_
    obtain ⟨x176, hg, h⟩ := ob h
    refine wz_gI C hW flX10_394 hg dX10_tryRow_176 ?_
    obtain ⟨z179, hg, h⟩ := ob h
    refine wz_put (v := (.int x176)) C hW flX10_394 rfl rfl hg dX10_tryRow_179 (fun H locs hW => ?_)
    exact wz_vretE C hlk hr (Option.some.inj h) hW dX10_tryRow_182
  · have h := ite_t c161 h
    refine lv_aload_n hx hb dX10_tryRow_164 rfl (lv_at hl 0 rfl) ?_
    obtain ⟨x165, hg, h⟩ := ob h
    refine wz_gI C hW flX10_394 hg dX10_tryRow_165 ?_
    refine lv_iload_n hx hb dX10_tryRow_168 rfl (lv_at hl 2 rfl) ?_
    refine wz_rI (c' := 0) (s' := 0) hW (wz_runS (rest := [.ref (gB G + a0)]) C hW lTX10_324 (ctX10_lesser l G x165 l2 z rfl) ⟨⟨rfl, rfl⟩, Nat.le_of_ble_eq_true rfl, Nat.le_of_ble_eq_true rfl⟩ rfl hl.1 rfl (Nat.le_of_ble_eq_true rfl) dX10_tryRow_169 ⟨Nat.le_of_ble_eq_true rfl, Nat.le_of_ble_eq_true rfl⟩) rfl rfl (fun H locs hW => ?_)
    refine lv_goto (tgt := 179) hx hb dX10_tryRow_172 (by decide) ?_
    obtain ⟨z179, hg, h⟩ := ob h
    refine wz_put (v := (.int (fX10_lesser x165 l2))) C hW flX10_394 rfl rfl hg dX10_tryRow_179 (fun H locs hW => ?_)
    exact wz_vretE C hlk hr (Option.some.inj h) hW dX10_tryRow_182
def bX10_tryRow_126 (k126 : Nat → Int32 → Int32 → Int32 → AH → Option AH) (a0 : Nat) (l1 : Int32) (l2 : Int32) (l5 : Int32) (z : AH) : Option AH :=
  (gI 9 27 z a0).bind fun x129 =>
  if x129 ≤ l5 then (
    bX10_tryRow_155 a0 l1 l2 z
  ) else (
    (gN 9 40 z a0).bind fun b136 =>
    (gN 9 39 z a0).bind fun b142 =>
    (ixI 0 z b142 l5).bind fun x147 =>
    (stI 0 z b136 l5 x147).bind fun z148 =>
    nm (l5 + (1 : Int32)) fun v149 =>
    k126 a0 l1 l2 v149 z148
  )
set_option maxHeartbeats 4000000 in
set_option maxRecDepth 100000 in
theorem kbX10_tryRow_126 {p : Program} {l : Launch} {e : Env} {s : State} {m : MethodId} {args : Array Value} {below : List Frame} {meth : Method} {c : Code} {G : GW} {z' : AH} (C : Cx p m c cX10_tryRow 6 s args RX10 G) (hlk : meth.locks = false) (hr : meth.sig.returnType = none) (k126 : Nat → Int32 → Int32 → Int32 → AH → Option AH) (hk126 : ∀ (a0 : Nat) (l1 : Int32) (l2 : Int32) (l5 : Int32) (z : AH) (H : Heap) (locs : List Loc) (ls : Array Slot), k126 a0 l1 l2 l5 z = some z' → Wb G z s H locs → lv_has ls 6 [(0, .ref (gB G + a0)), (1, .int l1), (2, .int l2), (5, .int l5)] → W p l e rmX10_tryRow s m args below meth c H locs 0 0 (MQ below (Qv G z') args s 0 0 (AA G)) (F0 m 126 ls [])) (a0 : Nat) (l1 : Int32) (l2 : Int32) (l5 : Int32) {z : AH} {H : Heap} {locs : List Loc} {ls : Array Slot} (h : bX10_tryRow_126 k126 a0 l1 l2 l5 z = some z') (hW : Wb G z s H locs) (hl : lv_has ls 6 [(0, .ref (gB G + a0)), (1, .int l1), (2, .int l2), (5, .int l5)]) : W p l e rmX10_tryRow s m args below meth c H locs 0 0 (MQ below (Qv G z') args s 0 0 (AA G)) (F0 m 126 ls []) := by
  have hx := C.1
  have hb := C.2.1
  unfold bX10_tryRow_126 at h
  refine lv_iload hx hb dX10_tryRow_126 (lv_at hl 3 rfl) ?_
  refine lv_aload_n hx hb dX10_tryRow_128 rfl (lv_at hl 0 rfl) ?_
  obtain ⟨x129, hg, h⟩ := ob h
  refine wz_gI C hW flX10_279 hg dX10_tryRow_129 ?_
  refine lv_icmp_ge (tgt := 155) hx hb dX10_tryRow_132 (by decide) (fun c132 => ?_) (fun c132 => ?_)
  · have h := ite_t c132 h
    exact kbX10_tryRow_155 C hlk hr a0 l1 l2 h hW (lv_sub hl [0, 1, 2] rfl)
  · have h := ite_f c132 h
    refine lv_aload_n hx hb dX10_tryRow_135 rfl (lv_at hl 0 rfl) ?_
    obtain ⟨b136, hg, h⟩ := ob h
    refine wz_gN C hW flX10_56 hg dX10_tryRow_136 ?_
    refine lv_iload hx hb dX10_tryRow_139 (lv_at hl 3 rfl) ?_
    refine lv_aload_n hx hb dX10_tryRow_141 rfl (lv_at hl 0 rfl) ?_
    obtain ⟨b142, hg, h⟩ := ob h
    refine wz_gN C hW flX10_53 hg dX10_tryRow_142 ?_
    refine lv_iload hx hb dX10_tryRow_145 (lv_at hl 3 rfl) ?_
    obtain ⟨x147, hg, h⟩ := ob h
    refine wz_ald C hW hg dX10_tryRow_147 ?_
    obtain ⟨z148, hg, h⟩ := ob h
    refine wz_ast C hW hg dX10_tryRow_148 (fun H locs hW => ?_)
    obtain ⟨v149, ev149⟩ : ∃ y : Int32, y = (l5 + (1 : Int32)) := ⟨_, rfl⟩
    have h := nm_to h ev149
    refine lv_iinc (v := v149) (lv' := [(5, .int v149), (0, .ref (gB G + a0)), (1, .int l1), (2, .int l2)]) hx hb dX10_tryRow_149 hl (k := 3) rfl (by rw [ev149]; rfl) (by decide) rfl (fun ls hl => ?_)
    refine lv_goto (tgt := 126) hx hb dX10_tryRow_152 (by decide) ?_
    exact hk126 a0 l1 l2 v149 z148 _ _ _ h hW (lv_sub hl [1, 2, 3, 0] rfl)
def fX10_tryRow_126 : Nat → Nat → Int32 → Int32 → Int32 → AH → Option AH
  | 0, _, _, _, _, _ => none
  | n + 1, a0, l1, l2, l5, z => bX10_tryRow_126 (fX10_tryRow_126 n) a0 l1 l2 l5 z
theorem klX10_tryRow_126 {p : Program} {l : Launch} {e : Env} {s : State} {m : MethodId} {args : Array Value} {below : List Frame} {meth : Method} {c : Code} {G : GW} {z' : AH} (C : Cx p m c cX10_tryRow 6 s args RX10 G) (hlk : meth.locks = false) (hr : meth.sig.returnType = none) : ∀ (n : Nat) (a0 : Nat) (l1 : Int32) (l2 : Int32) (l5 : Int32) (z : AH) (H : Heap) (locs : List Loc) (ls : Array Slot), fX10_tryRow_126 n a0 l1 l2 l5 z = some z' → Wb G z s H locs → lv_has ls 6 [(0, .ref (gB G + a0)), (1, .int l1), (2, .int l2), (5, .int l5)] → W p l e rmX10_tryRow s m args below meth c H locs 0 0 (MQ below (Qv G z') args s 0 0 (AA G)) (F0 m 126 ls []) := by
  intro n
  induction n with
  | zero => intro a0 l1 l2 l5 z H locs ls h; have h : (none : Option AH) = some z' := h; cases h
  | succ n ih => intro a0 l1 l2 l5 z H locs ls h hW hl; exact kbX10_tryRow_126 C hlk hr (fX10_tryRow_126 n) (fun a0 l1 l2 l5 z H locs ls h hW hl => ih a0 l1 l2 l5 z H locs ls h hW hl) a0 l1 l2 l5 h hW hl
def bX10_tryRow_112 (a0 : Nat) (l1 : Int32) (l2 : Int32) (l3 : Int32) (l4 : Int32) (z : AH) : Option AH :=
  (pF 9 41 z a0 (.int l4)).bind fun z115 =>
  (pF 9 42 z115 a0 (.int l3)).bind fun z120 =>
  fX10_tryRow_126 FU a0 l1 l2 (0 : Int32) z120
set_option maxHeartbeats 4000000 in
set_option maxRecDepth 100000 in
theorem kbX10_tryRow_112 {p : Program} {l : Launch} {e : Env} {s : State} {m : MethodId} {args : Array Value} {below : List Frame} {meth : Method} {c : Code} {G : GW} {z' : AH} (C : Cx p m c cX10_tryRow 6 s args RX10 G) (hlk : meth.locks = false) (hr : meth.sig.returnType = none) (a0 : Nat) (l1 : Int32) (l2 : Int32) (l3 : Int32) (l4 : Int32) {z : AH} {H : Heap} {locs : List Loc} {ls : Array Slot} (h : bX10_tryRow_112 a0 l1 l2 l3 l4 z = some z') (hW : Wb G z s H locs) (hl : lv_has ls 6 [(0, .ref (gB G + a0)), (1, .int l1), (2, .int l2), (3, .int l3), (4, .int l4)]) : W p l e rmX10_tryRow s m args below meth c H locs 0 0 (MQ below (Qv G z') args s 0 0 (AA G)) (F0 m 112 ls []) := by
  have hx := C.1
  have hb := C.2.1
  unfold bX10_tryRow_112 at h
  refine lv_aload_n hx hb dX10_tryRow_112 rfl (lv_at hl 0 rfl) ?_
  refine lv_iload hx hb dX10_tryRow_113 (lv_at hl 4 rfl) ?_
  obtain ⟨z115, hg, h⟩ := ob h
  refine wz_put (v := (.int l4)) C hW flX10_388 rfl rfl hg dX10_tryRow_115 (fun H locs hW => ?_)
  refine lv_aload_n hx hb dX10_tryRow_118 rfl (lv_at hl 0 rfl) ?_
  refine lv_iload_n hx hb dX10_tryRow_119 rfl (lv_at hl 3 rfl) ?_
  obtain ⟨z120, hg, h⟩ := ob h
  refine wz_put (v := (.int l3)) C hW flX10_391 rfl rfl hg dX10_tryRow_120 (fun H locs hW => ?_)
  refine lv_iconst (v := 0) hx hb dX10_tryRow_123 (by decide) ?_
  refine lv_istore (lv' := [(5, .int (0 : Int32)), (0, .ref (gB G + a0)), (1, .int l1), (2, .int l2), (3, .int l3), (4, .int l4)]) hx hb dX10_tryRow_124 hl (by decide) rfl (fun ls hl => ?_)
  exact klX10_tryRow_126 C hlk hr FU a0 l1 l2 (0 : Int32) z120 _ _ _ h hW (lv_sub hl [1, 2, 3, 0] rfl)
def bX10_tryRow_52 (k52 : Nat → Int32 → Int32 → Int32 → Int32 → AH → Option AH) (a0 : Nat) (l1 : Int32) (l2 : Int32) (l3 : Int32) (l4 : Int32) (z : AH) : Option AH :=
  (gI 9 26 z a0).bind fun x55 =>
  if x55 ≤ l4 then (
    (fX10_thereSet a0 z).bind fun x78 =>
    (fX10_ones x78).bind fun x81 =>
    (gI 9 41 z a0).bind fun x89 =>
    if x89 < x81 then (
      bX10_tryRow_112 a0 l1 l2 l3 x81 z
    ) else (
      (gI 9 41 z a0).bind fun x98 =>
      if x81 = x98 then (
        (gI 9 42 z a0).bind fun x106 =>
        if l3 ≤ x106 then (
          bX10_tryRow_155 a0 l1 l2 z
        ) else (
          bX10_tryRow_112 a0 l1 l2 l3 x81 z
        )
      ) else (
        bX10_tryRow_155 a0 l1 l2 z
      )
    )
  ) else (
    (gN 9 28 z a0).bind fun b63 =>
    (ixI 0 z b63 l4).bind fun x68 =>
    nm (l3 + x68) fun v70 =>
    nm (l4 + (1 : Int32)) fun v71 =>
    k52 a0 l1 l2 v70 v71 z
  )
set_option maxHeartbeats 4000000 in
set_option maxRecDepth 100000 in
theorem kbX10_tryRow_52 {p : Program} {l : Launch} {e : Env} {s : State} {m : MethodId} {args : Array Value} {below : List Frame} {meth : Method} {c : Code} {G : GW} {z' : AH} (C : Cx p m c cX10_tryRow 6 s args RX10 G) (hlk : meth.locks = false) (hr : meth.sig.returnType = none) (k52 : Nat → Int32 → Int32 → Int32 → Int32 → AH → Option AH) (hk52 : ∀ (a0 : Nat) (l1 : Int32) (l2 : Int32) (l3 : Int32) (l4 : Int32) (z : AH) (H : Heap) (locs : List Loc) (ls : Array Slot), k52 a0 l1 l2 l3 l4 z = some z' → Wb G z s H locs → lv_has ls 6 [(0, .ref (gB G + a0)), (1, .int l1), (2, .int l2), (3, .int l3), (4, .int l4)] → W p l e rmX10_tryRow s m args below meth c H locs 0 0 (MQ below (Qv G z') args s 0 0 (AA G)) (F0 m 52 ls [])) (a0 : Nat) (l1 : Int32) (l2 : Int32) (l3 : Int32) (l4 : Int32) {z : AH} {H : Heap} {locs : List Loc} {ls : Array Slot} (h : bX10_tryRow_52 k52 a0 l1 l2 l3 l4 z = some z') (hW : Wb G z s H locs) (hl : lv_has ls 6 [(0, .ref (gB G + a0)), (1, .int l1), (2, .int l2), (3, .int l3), (4, .int l4)]) : W p l e rmX10_tryRow s m args below meth c H locs 0 0 (MQ below (Qv G z') args s 0 0 (AA G)) (F0 m 52 ls []) := by
  have hx := C.1
  have hb := C.2.1
  unfold bX10_tryRow_52 at h
  refine lv_iload hx hb dX10_tryRow_52 (lv_at hl 4 rfl) ?_
  refine lv_aload_n hx hb dX10_tryRow_54 rfl (lv_at hl 0 rfl) ?_
  obtain ⟨x55, hg, h⟩ := ob h
  refine wz_gI C hW flX10_276 hg dX10_tryRow_55 ?_
  refine lv_icmp_ge (tgt := 77) hx hb dX10_tryRow_58 (by decide) (fun c58 => ?_) (fun c58 => ?_)
  · have h := ite_t c58 h
    refine lv_aload_n hx hb dX10_tryRow_77 rfl (lv_at hl 0 rfl) ?_
    obtain ⟨x78, hq, h⟩ := ob h
    refine wz_rI (c' := 0) (s' := 0) hW (wz_runV (rest := []) C hW lVX10_382 (ck hq).1 rfl (ctX10_thereSet l G a0 z hq) ⟨⟨rfl, rfl⟩, Nat.le_of_ble_eq_true rfl, Nat.le_of_ble_eq_true rfl⟩ rfl hl.1 rfl (Nat.le_of_ble_eq_true rfl) dX10_tryRow_78 ⟨Nat.le_of_ble_eq_true rfl, Nat.le_of_ble_eq_true rfl⟩) rfl rfl (fun H locs hW => ?_)
    obtain ⟨x81, hq, h⟩ := ob h
    refine wz_rI (c' := 0) (s' := 0) hW (wz_runS (rest := []) C hW lTX10_385 (ctX10_ones l G x78 z hq) ⟨⟨rfl, rfl⟩, Nat.le_of_ble_eq_true rfl, Nat.le_of_ble_eq_true rfl⟩ rfl hl.1 rfl (Nat.le_of_ble_eq_true rfl) dX10_tryRow_81 ⟨Nat.le_of_ble_eq_true rfl, Nat.le_of_ble_eq_true rfl⟩) rfl rfl (fun H locs hW => ?_)
    refine lv_istore (lv' := [(4, .int x81), (0, .ref (gB G + a0)), (1, .int l1), (2, .int l2), (3, .int l3)]) hx hb dX10_tryRow_84 hl (by decide) rfl (fun ls hl => ?_)
    refine lv_iload hx hb dX10_tryRow_86 (lv_at hl 0 rfl) ?_
    refine lv_aload_n hx hb dX10_tryRow_88 rfl (lv_at hl 1 rfl) ?_
    obtain ⟨x89, hg, h⟩ := ob h
    refine wz_gI C hW flX10_388 hg dX10_tryRow_89 ?_
    refine lv_icmp_gt (tgt := 112) hx hb dX10_tryRow_92 (by decide) (fun c92 => ?_) (fun c92 => ?_)
    · have h := ite_t c92 h
      exact kbX10_tryRow_112 C hlk hr a0 l1 l2 l3 x81 h hW (lv_sub hl [1, 2, 3, 4, 0] rfl)
    · have h := ite_f c92 h
      refine lv_iload hx hb dX10_tryRow_95 (lv_at hl 0 rfl) ?_
      refine lv_aload_n hx hb dX10_tryRow_97 rfl (lv_at hl 1 rfl) ?_
      obtain ⟨x98, hg, h⟩ := ob h
      refine wz_gI C hW flX10_388 hg dX10_tryRow_98 ?_
      refine lv_icmp_ne (tgt := 155) hx hb dX10_tryRow_101 (by decide) (fun c101 => ?_) (fun c101 => ?_)
      · have h := ite_f c101 h
        exact kbX10_tryRow_155 C hlk hr a0 l1 l2 h hW (lv_sub hl [1, 2, 3] rfl)
      · have h := ite_t c101 h
        refine lv_iload_n hx hb dX10_tryRow_104 rfl (lv_at hl 4 rfl) ?_
        refine lv_aload_n hx hb dX10_tryRow_105 rfl (lv_at hl 1 rfl) ?_
        obtain ⟨x106, hg, h⟩ := ob h
        refine wz_gI C hW flX10_391 hg dX10_tryRow_106 ?_
        refine lv_icmp_le (tgt := 155) hx hb dX10_tryRow_109 (by decide) (fun c109 => ?_) (fun c109 => ?_)
        · have h := ite_t c109 h
          exact kbX10_tryRow_155 C hlk hr a0 l1 l2 h hW (lv_sub hl [1, 2, 3] rfl)
        · have h := ite_f c109 h
          exact kbX10_tryRow_112 C hlk hr a0 l1 l2 l3 x81 h hW (lv_sub hl [1, 2, 3, 4, 0] rfl)
  · have h := ite_f c58 h
    refine lv_iload_n hx hb dX10_tryRow_61 rfl (lv_at hl 3 rfl) ?_
    refine lv_aload_n hx hb dX10_tryRow_62 rfl (lv_at hl 0 rfl) ?_
    obtain ⟨b63, hg, h⟩ := ob h
    refine wz_gN C hW flX10_44 hg dX10_tryRow_63 ?_
    refine lv_iload hx hb dX10_tryRow_66 (lv_at hl 4 rfl) ?_
    obtain ⟨x68, hg, h⟩ := ob h
    refine wz_ald C hW hg dX10_tryRow_68 ?_
    refine lv_iadd hx hb dX10_tryRow_69 ?_
    refine lv_topi (fun v70 ev70 => ?_)
    have h := nm_to h ev70
    refine lv_istore_n (lv' := [(3, .int v70), (0, .ref (gB G + a0)), (1, .int l1), (2, .int l2), (4, .int l4)]) hx hb dX10_tryRow_70 rfl hl (by decide) rfl (fun ls hl => ?_)
    obtain ⟨v71, ev71⟩ : ∃ y : Int32, y = (l4 + (1 : Int32)) := ⟨_, rfl⟩
    have h := nm_to h ev71
    refine lv_iinc (v := v71) (lv' := [(4, .int v71), (3, .int v70), (0, .ref (gB G + a0)), (1, .int l1), (2, .int l2)]) hx hb dX10_tryRow_71 hl (k := 4) rfl (by rw [ev71]; rfl) (by decide) rfl (fun ls hl => ?_)
    refine lv_goto (tgt := 52) hx hb dX10_tryRow_74 (by decide) ?_
    exact hk52 a0 l1 l2 v70 v71 z _ _ _ h hW (lv_sub hl [2, 3, 4, 1, 0] rfl)
def fX10_tryRow_52 : Nat → Nat → Int32 → Int32 → Int32 → Int32 → AH → Option AH
  | 0, _, _, _, _, _, _ => none
  | n + 1, a0, l1, l2, l3, l4, z => bX10_tryRow_52 (fX10_tryRow_52 n) a0 l1 l2 l3 l4 z
theorem klX10_tryRow_52 {p : Program} {l : Launch} {e : Env} {s : State} {m : MethodId} {args : Array Value} {below : List Frame} {meth : Method} {c : Code} {G : GW} {z' : AH} (C : Cx p m c cX10_tryRow 6 s args RX10 G) (hlk : meth.locks = false) (hr : meth.sig.returnType = none) : ∀ (n : Nat) (a0 : Nat) (l1 : Int32) (l2 : Int32) (l3 : Int32) (l4 : Int32) (z : AH) (H : Heap) (locs : List Loc) (ls : Array Slot), fX10_tryRow_52 n a0 l1 l2 l3 l4 z = some z' → Wb G z s H locs → lv_has ls 6 [(0, .ref (gB G + a0)), (1, .int l1), (2, .int l2), (3, .int l3), (4, .int l4)] → W p l e rmX10_tryRow s m args below meth c H locs 0 0 (MQ below (Qv G z') args s 0 0 (AA G)) (F0 m 52 ls []) := by
  intro n
  induction n with
  | zero => intro a0 l1 l2 l3 l4 z H locs ls h; have h : (none : Option AH) = some z' := h; cases h
  | succ n ih => intro a0 l1 l2 l3 l4 z H locs ls h hW hl; exact kbX10_tryRow_52 C hlk hr (fX10_tryRow_52 n) (fun a0 l1 l2 l3 l4 z H locs ls h hW hl => ih a0 l1 l2 l3 l4 z H locs ls h hW hl) a0 l1 l2 l3 l4 h hW hl
def bX10_tryRow_4 (k4 : Nat → Int32 → Int32 → Int32 → AH → Option AH) (a0 : Nat) (l1 : Int32) (l2 : Int32) (l3 : Int32) (z : AH) : Option AH :=
  (gI 9 27 z a0).bind fun x6 =>
  if x6 ≤ l3 then (
    (fX10_goesOn a0 z).bind fun z44 =>
    fX10_tryRow_52 FU a0 l1 l2 (0 : Int32) (0 : Int32) z44
  ) else (
    (gN 9 39 z a0).bind fun b13 =>
    (ixI 0 z b13 l3).bind fun x17 =>
    if (8 : Int32) ≤ x17 then (
      nm (l3 + (1 : Int32)) fun v37 =>
      k4 a0 l1 l2 v37 z
    ) else (
      (gN 9 39 z a0).bind fun b26 =>
      (ixI 0 z b26 l3).bind fun x30 =>
      (fX10_sees a0 l3 x30 z).bind fun z31 =>
      nm (l2 + (1 : Int32)) fun v34 =>
      nm (l3 + (1 : Int32)) fun v37 =>
      k4 a0 l1 v34 v37 z31
    )
  )
set_option maxHeartbeats 4000000 in
set_option maxRecDepth 100000 in
theorem kbX10_tryRow_4 {p : Program} {l : Launch} {e : Env} {s : State} {m : MethodId} {args : Array Value} {below : List Frame} {meth : Method} {c : Code} {G : GW} {z' : AH} (C : Cx p m c cX10_tryRow 6 s args RX10 G) (hlk : meth.locks = false) (hr : meth.sig.returnType = none) (k4 : Nat → Int32 → Int32 → Int32 → AH → Option AH) (hk4 : ∀ (a0 : Nat) (l1 : Int32) (l2 : Int32) (l3 : Int32) (z : AH) (H : Heap) (locs : List Loc) (ls : Array Slot), k4 a0 l1 l2 l3 z = some z' → Wb G z s H locs → lv_has ls 6 [(0, .ref (gB G + a0)), (1, .int l1), (2, .int l2), (3, .int l3)] → W p l e rmX10_tryRow s m args below meth c H locs 0 0 (MQ below (Qv G z') args s 0 0 (AA G)) (F0 m 4 ls [])) (a0 : Nat) (l1 : Int32) (l2 : Int32) (l3 : Int32) {z : AH} {H : Heap} {locs : List Loc} {ls : Array Slot} (h : bX10_tryRow_4 k4 a0 l1 l2 l3 z = some z') (hW : Wb G z s H locs) (hl : lv_has ls 6 [(0, .ref (gB G + a0)), (1, .int l1), (2, .int l2), (3, .int l3)]) : W p l e rmX10_tryRow s m args below meth c H locs 0 0 (MQ below (Qv G z') args s 0 0 (AA G)) (F0 m 4 ls []) := by
  have hx := C.1
  have hb := C.2.1
  unfold bX10_tryRow_4 at h
  refine lv_iload_n hx hb dX10_tryRow_4 rfl (lv_at hl 3 rfl) ?_
  refine lv_aload_n hx hb dX10_tryRow_5 rfl (lv_at hl 0 rfl) ?_
  obtain ⟨x6, hg, h⟩ := ob h
  refine wz_gI C hW flX10_279 hg dX10_tryRow_6 ?_
  refine lv_icmp_ge (tgt := 43) hx hb dX10_tryRow_9 (by decide) (fun c9 => ?_) (fun c9 => ?_)
  · have h := ite_t c9 h
    refine lv_aload_n hx hb dX10_tryRow_43 rfl (lv_at hl 0 rfl) ?_
    obtain ⟨z44, hq, h⟩ := ob h
    refine wz_rV (c' := 0) (s' := 0) hW (wz_runV (rest := []) C hW lVX10_364 (ck hq).1 rfl (ctX10_goesOn l G a0 z hq) ⟨⟨rfl, rfl⟩, Nat.le_of_ble_eq_true rfl, Nat.le_of_ble_eq_true rfl⟩ rfl hl.1 rfl (Nat.le_of_ble_eq_true rfl) dX10_tryRow_44 ⟨Nat.le_of_ble_eq_true rfl, Nat.le_of_ble_eq_true rfl⟩) rfl rfl (fun H locs hW => ?_)
    refine lv_iconst (v := 0) hx hb dX10_tryRow_47 (by decide) ?_
    refine lv_istore_n (lv' := [(3, .int (0 : Int32)), (0, .ref (gB G + a0)), (1, .int l1), (2, .int l2)]) hx hb dX10_tryRow_48 rfl hl (by decide) rfl (fun ls hl => ?_)
    refine lv_iconst (v := 0) hx hb dX10_tryRow_49 (by decide) ?_
    refine lv_istore (lv' := [(4, .int (0 : Int32)), (3, .int (0 : Int32)), (0, .ref (gB G + a0)), (1, .int l1), (2, .int l2)]) hx hb dX10_tryRow_50 hl (by decide) rfl (fun ls hl => ?_)
    exact klX10_tryRow_52 C hlk hr FU a0 l1 l2 (0 : Int32) (0 : Int32) z44 _ _ _ h hW (lv_sub hl [2, 3, 4, 1, 0] rfl)
  · have h := ite_f c9 h
    refine lv_aload_n hx hb dX10_tryRow_12 rfl (lv_at hl 0 rfl) ?_
    obtain ⟨b13, hg, h⟩ := ob h
    refine wz_gN C hW flX10_53 hg dX10_tryRow_13 ?_
    refine lv_iload_n hx hb dX10_tryRow_16 rfl (lv_at hl 3 rfl) ?_
    obtain ⟨x17, hg, h⟩ := ob h
    refine wz_ald C hW hg dX10_tryRow_17 ?_
    refine lv_bipush (v := 8) hx hb dX10_tryRow_18 (by decide) ?_
    refine lv_icmp_ge (tgt := 37) hx hb dX10_tryRow_20 (by decide) (fun c20 => ?_) (fun c20 => ?_)
    · have h := ite_t c20 h
      obtain ⟨v37, ev37⟩ : ∃ y : Int32, y = (l3 + (1 : Int32)) := ⟨_, rfl⟩
      have h := nm_to h ev37
      refine lv_iinc (v := v37) (lv' := [(3, .int v37), (0, .ref (gB G + a0)), (1, .int l1), (2, .int l2)]) hx hb dX10_tryRow_37 hl (k := 3) rfl (by rw [ev37]; rfl) (by decide) rfl (fun ls hl => ?_)
      refine lv_goto (tgt := 4) hx hb dX10_tryRow_40 (by decide) ?_
      exact hk4 a0 l1 l2 v37 z _ _ _ h hW (lv_sub hl [1, 2, 3, 0] rfl)
    · have h := ite_f c20 h
      refine lv_aload_n hx hb dX10_tryRow_23 rfl (lv_at hl 0 rfl) ?_
      refine lv_iload_n hx hb dX10_tryRow_24 rfl (lv_at hl 3 rfl) ?_
      refine lv_aload_n hx hb dX10_tryRow_25 rfl (lv_at hl 0 rfl) ?_
      obtain ⟨b26, hg, h⟩ := ob h
      refine wz_gN C hW flX10_53 hg dX10_tryRow_26 ?_
      refine lv_iload_n hx hb dX10_tryRow_29 rfl (lv_at hl 3 rfl) ?_
      obtain ⟨x30, hg, h⟩ := ob h
      refine wz_ald C hW hg dX10_tryRow_30 ?_
      obtain ⟨z31, hq, h⟩ := ob h
      refine wz_rV (c' := 0) (s' := 0) hW (wz_runV (rest := []) C hW lVX10_351 (ck hq).1 rfl (ctX10_sees l G a0 l3 x30 z hq) ⟨⟨rfl, rfl⟩, Nat.le_of_ble_eq_true rfl, Nat.le_of_ble_eq_true rfl⟩ rfl hl.1 rfl (Nat.le_of_ble_eq_true rfl) dX10_tryRow_31 ⟨Nat.le_of_ble_eq_true rfl, Nat.le_of_ble_eq_true rfl⟩) rfl rfl (fun H locs hW => ?_)
      obtain ⟨v34, ev34⟩ : ∃ y : Int32, y = (l2 + (1 : Int32)) := ⟨_, rfl⟩
      have h := nm_to h ev34
      refine lv_iinc (v := v34) (lv' := [(2, .int v34), (0, .ref (gB G + a0)), (1, .int l1), (3, .int l3)]) hx hb dX10_tryRow_34 hl (k := 2) rfl (by rw [ev34]; rfl) (by decide) rfl (fun ls hl => ?_)
      obtain ⟨v37, ev37⟩ : ∃ y : Int32, y = (l3 + (1 : Int32)) := ⟨_, rfl⟩
      have h := nm_to h ev37
      refine lv_iinc (v := v37) (lv' := [(3, .int v37), (2, .int v34), (0, .ref (gB G + a0)), (1, .int l1)]) hx hb dX10_tryRow_37 hl (k := 3) rfl (by rw [ev37]; rfl) (by decide) rfl (fun ls hl => ?_)
      refine lv_goto (tgt := 4) hx hb dX10_tryRow_40 (by decide) ?_
      exact hk4 a0 l1 v34 v37 z31 _ _ _ h hW (lv_sub hl [2, 3, 1, 0] rfl)
def fX10_tryRow_4 : Nat → Nat → Int32 → Int32 → Int32 → AH → Option AH
  | 0, _, _, _, _, _ => none
  | n + 1, a0, l1, l2, l3, z => bX10_tryRow_4 (fX10_tryRow_4 n) a0 l1 l2 l3 z
theorem klX10_tryRow_4 {p : Program} {l : Launch} {e : Env} {s : State} {m : MethodId} {args : Array Value} {below : List Frame} {meth : Method} {c : Code} {G : GW} {z' : AH} (C : Cx p m c cX10_tryRow 6 s args RX10 G) (hlk : meth.locks = false) (hr : meth.sig.returnType = none) : ∀ (n : Nat) (a0 : Nat) (l1 : Int32) (l2 : Int32) (l3 : Int32) (z : AH) (H : Heap) (locs : List Loc) (ls : Array Slot), fX10_tryRow_4 n a0 l1 l2 l3 z = some z' → Wb G z s H locs → lv_has ls 6 [(0, .ref (gB G + a0)), (1, .int l1), (2, .int l2), (3, .int l3)] → W p l e rmX10_tryRow s m args below meth c H locs 0 0 (MQ below (Qv G z') args s 0 0 (AA G)) (F0 m 4 ls []) := by
  intro n
  induction n with
  | zero => intro a0 l1 l2 l3 z H locs ls h; have h : (none : Option AH) = some z' := h; cases h
  | succ n ih => intro a0 l1 l2 l3 z H locs ls h hW hl; exact kbX10_tryRow_4 C hlk hr (fX10_tryRow_4 n) (fun a0 l1 l2 l3 z H locs ls h hW hl => ih a0 l1 l2 l3 z H locs ls h hW hl) a0 l1 l2 l3 h hW hl
def fX10_tryRow (a0 : Nat) (l1 : Int32) (z : AH) : Option AH :=
  if isO 9 z a0 = true then
    fX10_tryRow_4 FU a0 l1 (0 : Int32) (0 : Int32) z
  else none
set_option maxHeartbeats 4000000 in
set_option maxRecDepth 100000 in
theorem ctX10_tryRow (l : Launch) (G : GW) (a0 : Nat) (l1 : Int32) (z : AH) {z' : AH} (h : fX10_tryRow a0 l1 z = some z') : Met l yX10_tryRow (wy yX10_tryRow cX10_tryRow 6 none) rmX10_tryRow (Pz G [.ref (gB G + a0), .int l1] z) (Qv G z') 0 0 (AA G) := by
  refine wz_ent (own := RX10) (by decide +kernel) rfl (fun p e s m below meth c ls C hlk hr hin hW hl => ?_) (Nat.le_of_ble_eq_true rfl)
  have hl : lv_has ls 6 [(0, .ref (gB G + a0)), (1, .int l1)] := hl
  have hx := C.1
  have hb := C.2.1
  unfold fX10_tryRow at h
  obtain ⟨-, h⟩ := ck h
  refine lv_iconst (v := 0) hx hb dX10_tryRow_0 (by decide) ?_
  refine lv_istore_n (lv' := [(2, .int (0 : Int32)), (0, .ref (gB G + a0)), (1, .int l1)]) hx hb dX10_tryRow_1 rfl hl (by decide) rfl (fun ls hl => ?_)
  refine lv_iconst (v := 0) hx hb dX10_tryRow_2 (by decide) ?_
  refine lv_istore_n (lv' := [(3, .int (0 : Int32)), (2, .int (0 : Int32)), (0, .ref (gB G + a0)), (1, .int l1)]) hx hb dX10_tryRow_3 rfl hl (by decide) rfl (fun ls hl => ?_)
  exact klX10_tryRow_4 C hlk hr FU a0 l1 (0 : Int32) (0 : Int32) z _ _ _ h hW (lv_sub hl [2, 3, 1, 0] rfl)
theorem dX10_findWatch_0 : decode cX10_findWatch 0 = .ok (.aload_n 0, 1) := by decide +kernel
theorem dX10_findWatch_1 : decode cX10_findWatch 1 = .ok (.invokevirtual 382, 3) := by decide +kernel
theorem dX10_findWatch_4 : decode cX10_findWatch 4 = .ok (.istore_n 1, 1) := by decide +kernel
theorem dX10_findWatch_5 : decode cX10_findWatch 5 = .ok (.iconst 1, 1) := by decide +kernel
theorem dX10_findWatch_6 : decode cX10_findWatch 6 = .ok (.istore_n 2, 1) := by decide +kernel
theorem dX10_findWatch_7 : decode cX10_findWatch 7 = .ok (.iconst 0, 1) := by decide +kernel
theorem dX10_findWatch_8 : decode cX10_findWatch 8 = .ok (.istore_n 3, 1) := by decide +kernel
theorem dX10_findWatch_9 : decode cX10_findWatch 9 = .ok (.iload_n 3, 1) := by decide +kernel
theorem dX10_findWatch_10 : decode cX10_findWatch 10 = .ok (.aload_n 0, 1) := by decide +kernel
theorem dX10_findWatch_11 : decode cX10_findWatch 11 = .ok (.getfield 279, 3) := by decide +kernel
theorem dX10_findWatch_14 : decode cX10_findWatch 14 = .ok (.if_icmp .ge 14, 3) := by decide +kernel
theorem dX10_findWatch_17 : decode cX10_findWatch 17 = .ok (.iload_n 2, 1) := by decide +kernel
theorem dX10_findWatch_18 : decode cX10_findWatch 18 = .ok (.bipush 9, 2) := by decide +kernel
theorem dX10_findWatch_20 : decode cX10_findWatch 20 = .ok (.imul, 1) := by decide +kernel
theorem dX10_findWatch_21 : decode cX10_findWatch 21 = .ok (.istore_n 2, 1) := by decide +kernel
theorem dX10_findWatch_22 : decode cX10_findWatch 22 = .ok (.iinc 3 1, 3) := by decide +kernel
theorem dX10_findWatch_25 : decode cX10_findWatch 25 = .ok (.goto (-16), 3) := by decide +kernel
theorem dX10_findWatch_28 : decode cX10_findWatch 28 = .ok (.aload_n 0, 1) := by decide +kernel
theorem dX10_findWatch_29 : decode cX10_findWatch 29 = .ok (.iconst (-1), 1) := by decide +kernel
theorem dX10_findWatch_30 : decode cX10_findWatch 30 = .ok (.putfield 388, 3) := by decide +kernel
theorem dX10_findWatch_33 : decode cX10_findWatch 33 = .ok (.aload_n 0, 1) := by decide +kernel
theorem dX10_findWatch_34 : decode cX10_findWatch 34 = .ok (.iconst (-1), 1) := by decide +kernel
theorem dX10_findWatch_35 : decode cX10_findWatch 35 = .ok (.putfield 391, 3) := by decide +kernel
theorem dX10_findWatch_38 : decode cX10_findWatch 38 = .ok (.aload_n 0, 1) := by decide +kernel
theorem dX10_findWatch_39 : decode cX10_findWatch 39 = .ok (.ldc_w 397, 3) := by decide +kernel
theorem dX10_findWatch_42 : decode cX10_findWatch 42 = .ok (.putfield 394, 3) := by decide +kernel
theorem dX10_findWatch_45 : decode cX10_findWatch 45 = .ok (.iconst 0, 1) := by decide +kernel
theorem dX10_findWatch_46 : decode cX10_findWatch 46 = .ok (.istore_n 3, 1) := by decide +kernel
theorem dX10_findWatch_47 : decode cX10_findWatch 47 = .ok (.iload_n 3, 1) := by decide +kernel
theorem dX10_findWatch_48 : decode cX10_findWatch 48 = .ok (.iload_n 2, 1) := by decide +kernel
theorem dX10_findWatch_49 : decode cX10_findWatch 49 = .ok (.if_icmp .ge 30, 3) := by decide +kernel
theorem dX10_findWatch_52 : decode cX10_findWatch 52 = .ok (.aload_n 0, 1) := by decide +kernel
theorem dX10_findWatch_53 : decode cX10_findWatch 53 = .ok (.invokevirtual 282, 3) := by decide +kernel
theorem dX10_findWatch_56 : decode cX10_findWatch 56 = .ok (.aload_n 0, 1) := by decide +kernel
theorem dX10_findWatch_57 : decode cX10_findWatch 57 = .ok (.invokevirtual 285, 3) := by decide +kernel
theorem dX10_findWatch_60 : decode cX10_findWatch 60 = .ok (.aload_n 0, 1) := by decide +kernel
theorem dX10_findWatch_61 : decode cX10_findWatch 61 = .ok (.iload_n 3, 1) := by decide +kernel
theorem dX10_findWatch_62 : decode cX10_findWatch 62 = .ok (.invokevirtual 398, 3) := by decide +kernel
theorem dX10_findWatch_65 : decode cX10_findWatch 65 = .ok (.ifCond .eq 8, 3) := by decide +kernel
theorem dX10_findWatch_68 : decode cX10_findWatch 68 = .ok (.aload_n 0, 1) := by decide +kernel
theorem dX10_findWatch_69 : decode cX10_findWatch 69 = .ok (.iload_n 1, 1) := by decide +kernel
theorem dX10_findWatch_70 : decode cX10_findWatch 70 = .ok (.invokevirtual 401, 3) := by decide +kernel
theorem dX10_findWatch_73 : decode cX10_findWatch 73 = .ok (.iinc 3 1, 3) := by decide +kernel
theorem dX10_findWatch_76 : decode cX10_findWatch 76 = .ok (.goto (-29), 3) := by decide +kernel
theorem dX10_findWatch_79 : decode cX10_findWatch 79 = .ok (.return_, 1) := by decide +kernel
theorem cdX10_layRow : Cond.code yX10_layRow cX10_layRow 5 (some .boolean) ∈ tz := tc7 98 rfl rfl
theorem lVX10_398 : LV RX10 398 yX10_layRow cX10_layRow 5 (some .boolean) 1 := ⟨tw 1654 (by decide +kernel) rfl, tw 1656 (by decide +kernel) rfl, tw 88 (by decide +kernel) rfl, tw 128 (by decide +kernel) rfl, cdX10_layRow, ⟨by decide +kernel, by decide +kernel, by decide +kernel⟩⟩
theorem cdX10_tryRow : Cond.code yX10_tryRow cX10_tryRow 6 none ∈ tz := tc7 102 rfl rfl
theorem lVX10_401 : LV RX10 401 yX10_tryRow cX10_tryRow 6 none 1 := ⟨tw 1658 (by decide +kernel) rfl, tw 1660 (by decide +kernel) rfl, tw 89 (by decide +kernel) rfl, tw 128 (by decide +kernel) rfl, cdX10_tryRow, ⟨by decide +kernel, by decide +kernel, by decide +kernel⟩⟩
abbrev rmX10_findWatch : Room := { frames := 5, cells := 0, slots := 0, locals := 112 }
def bX10_findWatch_47 (k47 : Nat → Int32 → Int32 → Int32 → AH → Option AH) (a0 : Nat) (l1 : Int32) (l2 : Int32) (l3 : Int32) (z : AH) : Option AH :=
  if l2 ≤ l3 then (
    some z
  ) else (
    (fX10_begin a0 z).bind fun z53 =>
    (fX10_falls a0 z53).bind fun z57 =>
    b2 (fX10_layRow a0 l3 z57) fun x62 z62 =>
    if x62 = (0 : Int32) then (
      nm (l3 + (1 : Int32)) fun v73 =>
      k47 a0 l1 l2 v73 z62
    ) else (
      (fX10_tryRow a0 l1 z62).bind fun z70 =>
      nm (l3 + (1 : Int32)) fun v73 =>
      k47 a0 l1 l2 v73 z70
    )
  )
set_option maxHeartbeats 4000000 in
set_option maxRecDepth 100000 in
theorem kbX10_findWatch_47 {p : Program} {l : Launch} {e : Env} {s : State} {m : MethodId} {args : Array Value} {below : List Frame} {meth : Method} {c : Code} {G : GW} {z' : AH} (C : Cx p m c cX10_findWatch 4 s args RX10 G) (hlk : meth.locks = false) (hr : meth.sig.returnType = none) (k47 : Nat → Int32 → Int32 → Int32 → AH → Option AH) (hk47 : ∀ (a0 : Nat) (l1 : Int32) (l2 : Int32) (l3 : Int32) (z : AH) (H : Heap) (locs : List Loc) (ls : Array Slot), k47 a0 l1 l2 l3 z = some z' → Wb G z s H locs → lv_has ls 4 [(0, .ref (gB G + a0)), (1, .int l1), (2, .int l2), (3, .int l3)] → W p l e rmX10_findWatch s m args below meth c H locs 0 0 (MQ below (Qv G z') args s 0 0 (AA G)) (F0 m 47 ls [])) (a0 : Nat) (l1 : Int32) (l2 : Int32) (l3 : Int32) {z : AH} {H : Heap} {locs : List Loc} {ls : Array Slot} (h : bX10_findWatch_47 k47 a0 l1 l2 l3 z = some z') (hW : Wb G z s H locs) (hl : lv_has ls 4 [(0, .ref (gB G + a0)), (1, .int l1), (2, .int l2), (3, .int l3)]) : W p l e rmX10_findWatch s m args below meth c H locs 0 0 (MQ below (Qv G z') args s 0 0 (AA G)) (F0 m 47 ls []) := by
  have hx := C.1
  have hb := C.2.1
  unfold bX10_findWatch_47 at h
  refine lv_iload_n hx hb dX10_findWatch_47 rfl (lv_at hl 3 rfl) ?_
  refine lv_iload_n hx hb dX10_findWatch_48 rfl (lv_at hl 2 rfl) ?_
  refine lv_icmp_ge (tgt := 79) hx hb dX10_findWatch_49 (by decide) (fun c49 => ?_) (fun c49 => ?_)
  · have h := ite_t c49 h
    exact wz_vretE C hlk hr (Option.some.inj h) hW dX10_findWatch_79
  · have h := ite_f c49 h
    refine lv_aload_n hx hb dX10_findWatch_52 rfl (lv_at hl 0 rfl) ?_
    obtain ⟨z53, hq, h⟩ := ob h
    refine wz_rV (c' := 0) (s' := 0) hW (wz_runV (rest := []) C hW lVX10_282 (ck hq).1 rfl (ctX10_begin l G a0 z hq) ⟨⟨rfl, rfl⟩, Nat.le_of_ble_eq_true rfl, Nat.le_of_ble_eq_true rfl⟩ rfl hl.1 rfl (Nat.le_of_ble_eq_true rfl) dX10_findWatch_53 ⟨Nat.le_of_ble_eq_true rfl, Nat.le_of_ble_eq_true rfl⟩) rfl rfl (fun H locs hW => ?_)
    refine lv_aload_n hx hb dX10_findWatch_56 rfl (lv_at hl 0 rfl) ?_
    obtain ⟨z57, hq, h⟩ := ob h
    refine wz_rV (c' := 0) (s' := 0) hW (wz_runV (rest := []) C hW lVX10_285 (ck hq).1 rfl (ctX10_falls l G a0 z53 hq) ⟨⟨rfl, rfl⟩, Nat.le_of_ble_eq_true rfl, Nat.le_of_ble_eq_true rfl⟩ rfl hl.1 rfl (Nat.le_of_ble_eq_true rfl) dX10_findWatch_57 ⟨Nat.le_of_ble_eq_true rfl, Nat.le_of_ble_eq_true rfl⟩) rfl rfl (fun H locs hW => ?_)
    refine lv_aload_n hx hb dX10_findWatch_60 rfl (lv_at hl 0 rfl) ?_
    refine lv_iload_n hx hb dX10_findWatch_61 rfl (lv_at hl 3 rfl) ?_
    obtain ⟨x62, z62, hq, h⟩ := ob2 h
    refine wz_rI (c' := 0) (s' := 0) hW (wz_runV (rest := []) C hW lVX10_398 (ck hq).1 rfl (ctX10_layRow l G a0 l3 z57 hq) ⟨⟨rfl, rfl⟩, Nat.le_of_ble_eq_true rfl, Nat.le_of_ble_eq_true rfl⟩ rfl hl.1 rfl (Nat.le_of_ble_eq_true rfl) dX10_findWatch_62 ⟨Nat.le_of_ble_eq_true rfl, Nat.le_of_ble_eq_true rfl⟩) rfl rfl (fun H locs hW => ?_)
    refine lv_if_eq (tgt := 73) hx hb dX10_findWatch_65 (by decide) (fun c65 => ?_) (fun c65 => ?_)
    · have h := ite_t c65 h
      obtain ⟨v73, ev73⟩ : ∃ y : Int32, y = (l3 + (1 : Int32)) := ⟨_, rfl⟩
      have h := nm_to h ev73
      refine lv_iinc (v := v73) (lv' := [(3, .int v73), (0, .ref (gB G + a0)), (1, .int l1), (2, .int l2)]) hx hb dX10_findWatch_73 hl (k := 3) rfl (by rw [ev73]; rfl) (by decide) rfl (fun ls hl => ?_)
      refine lv_goto (tgt := 47) hx hb dX10_findWatch_76 (by decide) ?_
      exact hk47 a0 l1 l2 v73 z62 _ _ _ h hW (lv_sub hl [1, 2, 3, 0] rfl)
    · have h := ite_f c65 h
      refine lv_aload_n hx hb dX10_findWatch_68 rfl (lv_at hl 0 rfl) ?_
      refine lv_iload_n hx hb dX10_findWatch_69 rfl (lv_at hl 1 rfl) ?_
      obtain ⟨z70, hq, h⟩ := ob h
      refine wz_rV (c' := 0) (s' := 0) hW (wz_runV (rest := []) C hW lVX10_401 (ck hq).1 rfl (ctX10_tryRow l G a0 l1 z62 hq) ⟨⟨rfl, rfl⟩, Nat.le_of_ble_eq_true rfl, Nat.le_of_ble_eq_true rfl⟩ rfl hl.1 rfl (Nat.le_of_ble_eq_true rfl) dX10_findWatch_70 ⟨Nat.le_of_ble_eq_true rfl, Nat.le_of_ble_eq_true rfl⟩) rfl rfl (fun H locs hW => ?_)
      obtain ⟨v73, ev73⟩ : ∃ y : Int32, y = (l3 + (1 : Int32)) := ⟨_, rfl⟩
      have h := nm_to h ev73
      refine lv_iinc (v := v73) (lv' := [(3, .int v73), (0, .ref (gB G + a0)), (1, .int l1), (2, .int l2)]) hx hb dX10_findWatch_73 hl (k := 3) rfl (by rw [ev73]; rfl) (by decide) rfl (fun ls hl => ?_)
      refine lv_goto (tgt := 47) hx hb dX10_findWatch_76 (by decide) ?_
      exact hk47 a0 l1 l2 v73 z70 _ _ _ h hW (lv_sub hl [1, 2, 3, 0] rfl)
def fX10_findWatch_47 : Nat → Nat → Int32 → Int32 → Int32 → AH → Option AH
  | 0, _, _, _, _, _ => none
  | n + 1, a0, l1, l2, l3, z => bX10_findWatch_47 (fX10_findWatch_47 n) a0 l1 l2 l3 z
theorem klX10_findWatch_47 {p : Program} {l : Launch} {e : Env} {s : State} {m : MethodId} {args : Array Value} {below : List Frame} {meth : Method} {c : Code} {G : GW} {z' : AH} (C : Cx p m c cX10_findWatch 4 s args RX10 G) (hlk : meth.locks = false) (hr : meth.sig.returnType = none) : ∀ (n : Nat) (a0 : Nat) (l1 : Int32) (l2 : Int32) (l3 : Int32) (z : AH) (H : Heap) (locs : List Loc) (ls : Array Slot), fX10_findWatch_47 n a0 l1 l2 l3 z = some z' → Wb G z s H locs → lv_has ls 4 [(0, .ref (gB G + a0)), (1, .int l1), (2, .int l2), (3, .int l3)] → W p l e rmX10_findWatch s m args below meth c H locs 0 0 (MQ below (Qv G z') args s 0 0 (AA G)) (F0 m 47 ls []) := by
  intro n
  induction n with
  | zero => intro a0 l1 l2 l3 z H locs ls h; have h : (none : Option AH) = some z' := h; cases h
  | succ n ih => intro a0 l1 l2 l3 z H locs ls h hW hl; exact kbX10_findWatch_47 C hlk hr (fX10_findWatch_47 n) (fun a0 l1 l2 l3 z H locs ls h hW hl => ih a0 l1 l2 l3 z H locs ls h hW hl) a0 l1 l2 l3 h hW hl
def bX10_findWatch_9 (k9 : Nat → Int32 → Int32 → Int32 → AH → Option AH) (a0 : Nat) (l1 : Int32) (l2 : Int32) (l3 : Int32) (z : AH) : Option AH :=
  (gI 9 27 z a0).bind fun x11 =>
  if x11 ≤ l3 then (
    (pF 9 41 z a0 (.int (-1 : Int32))).bind fun z30 =>
    (pF 9 42 z30 a0 (.int (-1 : Int32))).bind fun z35 =>
    (pF 9 43 z35 a0 (.int (1000000 : Int32))).bind fun z42 =>
    fX10_findWatch_47 FU a0 l1 l2 (0 : Int32) z42
  ) else (
    nm (l2 * (9 : Int32)) fun v21 =>
    nm (l3 + (1 : Int32)) fun v22 =>
    k9 a0 l1 v21 v22 z
  )
set_option maxHeartbeats 4000000 in
set_option maxRecDepth 100000 in
theorem kbX10_findWatch_9 {p : Program} {l : Launch} {e : Env} {s : State} {m : MethodId} {args : Array Value} {below : List Frame} {meth : Method} {c : Code} {G : GW} {z' : AH} (C : Cx p m c cX10_findWatch 4 s args RX10 G) (hlk : meth.locks = false) (hr : meth.sig.returnType = none) (k9 : Nat → Int32 → Int32 → Int32 → AH → Option AH) (hk9 : ∀ (a0 : Nat) (l1 : Int32) (l2 : Int32) (l3 : Int32) (z : AH) (H : Heap) (locs : List Loc) (ls : Array Slot), k9 a0 l1 l2 l3 z = some z' → Wb G z s H locs → lv_has ls 4 [(0, .ref (gB G + a0)), (1, .int l1), (2, .int l2), (3, .int l3)] → W p l e rmX10_findWatch s m args below meth c H locs 0 0 (MQ below (Qv G z') args s 0 0 (AA G)) (F0 m 9 ls [])) (a0 : Nat) (l1 : Int32) (l2 : Int32) (l3 : Int32) {z : AH} {H : Heap} {locs : List Loc} {ls : Array Slot} (h : bX10_findWatch_9 k9 a0 l1 l2 l3 z = some z') (hW : Wb G z s H locs) (hl : lv_has ls 4 [(0, .ref (gB G + a0)), (1, .int l1), (2, .int l2), (3, .int l3)]) : W p l e rmX10_findWatch s m args below meth c H locs 0 0 (MQ below (Qv G z') args s 0 0 (AA G)) (F0 m 9 ls []) := by
  have hx := C.1
  have hb := C.2.1
  unfold bX10_findWatch_9 at h
  refine lv_iload_n hx hb dX10_findWatch_9 rfl (lv_at hl 3 rfl) ?_
  refine lv_aload_n hx hb dX10_findWatch_10 rfl (lv_at hl 0 rfl) ?_
  obtain ⟨x11, hg, h⟩ := ob h
  refine wz_gI C hW flX10_279 hg dX10_findWatch_11 ?_
  refine lv_icmp_ge (tgt := 28) hx hb dX10_findWatch_14 (by decide) (fun c14 => ?_) (fun c14 => ?_)
  · have h := ite_t c14 h
    refine lv_aload_n hx hb dX10_findWatch_28 rfl (lv_at hl 0 rfl) ?_
    refine lv_iconst (v := -1) hx hb dX10_findWatch_29 (by decide) ?_
    obtain ⟨z30, hg, h⟩ := ob h
    refine wz_put (v := (.int (-1 : Int32))) C hW flX10_388 rfl rfl hg dX10_findWatch_30 (fun H locs hW => ?_)
    refine lv_aload_n hx hb dX10_findWatch_33 rfl (lv_at hl 0 rfl) ?_
    refine lv_iconst (v := -1) hx hb dX10_findWatch_34 (by decide) ?_
    obtain ⟨z35, hg, h⟩ := ob h
    refine wz_put (v := (.int (-1 : Int32))) C hW flX10_391 rfl rfl hg dX10_findWatch_35 (fun H locs hW => ?_)
    refine lv_aload_n hx hb dX10_findWatch_38 rfl (lv_at hl 0 rfl) ?_
    refine lv_ldcw (v := 1000000) hx hb C.2.2.2.1 (C.2.2.2.2.1 _ (tw 1653 (by decide +kernel) rfl)) dX10_findWatch_39 ?_
    obtain ⟨z42, hg, h⟩ := ob h
    refine wz_put (v := (.int (1000000 : Int32))) C hW flX10_394 rfl rfl hg dX10_findWatch_42 (fun H locs hW => ?_)
    refine lv_iconst (v := 0) hx hb dX10_findWatch_45 (by decide) ?_
    refine lv_istore_n (lv' := [(3, .int (0 : Int32)), (0, .ref (gB G + a0)), (1, .int l1), (2, .int l2)]) hx hb dX10_findWatch_46 rfl hl (by decide) rfl (fun ls hl => ?_)
    exact klX10_findWatch_47 C hlk hr FU a0 l1 l2 (0 : Int32) z42 _ _ _ h hW (lv_sub hl [1, 2, 3, 0] rfl)
  · have h := ite_f c14 h
    refine lv_iload_n hx hb dX10_findWatch_17 rfl (lv_at hl 2 rfl) ?_
    refine lv_bipush (v := 9) hx hb dX10_findWatch_18 (by decide) ?_
    refine lv_imul hx hb dX10_findWatch_20 ?_
    refine lv_topi (fun v21 ev21 => ?_)
    have h := nm_to h ev21
    refine lv_istore_n (lv' := [(2, .int v21), (0, .ref (gB G + a0)), (1, .int l1), (3, .int l3)]) hx hb dX10_findWatch_21 rfl hl (by decide) rfl (fun ls hl => ?_)
    obtain ⟨v22, ev22⟩ : ∃ y : Int32, y = (l3 + (1 : Int32)) := ⟨_, rfl⟩
    have h := nm_to h ev22
    refine lv_iinc (v := v22) (lv' := [(3, .int v22), (2, .int v21), (0, .ref (gB G + a0)), (1, .int l1)]) hx hb dX10_findWatch_22 hl (k := 3) rfl (by rw [ev22]; rfl) (by decide) rfl (fun ls hl => ?_)
    refine lv_goto (tgt := 9) hx hb dX10_findWatch_25 (by decide) ?_
    exact hk9 a0 l1 v21 v22 z _ _ _ h hW (lv_sub hl [2, 3, 1, 0] rfl)
def fX10_findWatch_9 : Nat → Nat → Int32 → Int32 → Int32 → AH → Option AH
  | 0, _, _, _, _, _ => none
  | n + 1, a0, l1, l2, l3, z => bX10_findWatch_9 (fX10_findWatch_9 n) a0 l1 l2 l3 z
theorem klX10_findWatch_9 {p : Program} {l : Launch} {e : Env} {s : State} {m : MethodId} {args : Array Value} {below : List Frame} {meth : Method} {c : Code} {G : GW} {z' : AH} (C : Cx p m c cX10_findWatch 4 s args RX10 G) (hlk : meth.locks = false) (hr : meth.sig.returnType = none) : ∀ (n : Nat) (a0 : Nat) (l1 : Int32) (l2 : Int32) (l3 : Int32) (z : AH) (H : Heap) (locs : List Loc) (ls : Array Slot), fX10_findWatch_9 n a0 l1 l2 l3 z = some z' → Wb G z s H locs → lv_has ls 4 [(0, .ref (gB G + a0)), (1, .int l1), (2, .int l2), (3, .int l3)] → W p l e rmX10_findWatch s m args below meth c H locs 0 0 (MQ below (Qv G z') args s 0 0 (AA G)) (F0 m 9 ls []) := by
  intro n
  induction n with
  | zero => intro a0 l1 l2 l3 z H locs ls h; have h : (none : Option AH) = some z' := h; cases h
  | succ n ih => intro a0 l1 l2 l3 z H locs ls h hW hl; exact kbX10_findWatch_9 C hlk hr (fX10_findWatch_9 n) (fun a0 l1 l2 l3 z H locs ls h hW hl => ih a0 l1 l2 l3 z H locs ls h hW hl) a0 l1 l2 l3 h hW hl
def fX10_findWatch (a0 : Nat) (z : AH) : Option AH :=
  if isO 9 z a0 = true then
    (fX10_thereSet a0 z).bind fun x1 =>
    fX10_findWatch_9 FU a0 x1 (1 : Int32) (0 : Int32) z
  else none
set_option maxHeartbeats 4000000 in
set_option maxRecDepth 100000 in
theorem ctX10_findWatch (l : Launch) (G : GW) (a0 : Nat) (z : AH) {z' : AH} (h : fX10_findWatch a0 z = some z') : Met l yX10_findWatch (wy yX10_findWatch cX10_findWatch 4 none) rmX10_findWatch (Pz G [.ref (gB G + a0)] z) (Qv G z') 0 0 (AA G) := by
  refine wz_ent (own := RX10) (by decide +kernel) rfl (fun p e s m below meth c ls C hlk hr hin hW hl => ?_) (Nat.le_of_ble_eq_true rfl)
  have hl : lv_has ls 4 [(0, .ref (gB G + a0))] := hl
  have hx := C.1
  have hb := C.2.1
  unfold fX10_findWatch at h
  obtain ⟨-, h⟩ := ck h
  refine lv_aload_n hx hb dX10_findWatch_0 rfl (lv_at hl 0 rfl) ?_
  obtain ⟨x1, hq, h⟩ := ob h
  refine wz_rI (c' := 0) (s' := 0) hW (wz_runV (rest := []) C hW lVX10_382 (ck hq).1 rfl (ctX10_thereSet l G a0 z hq) ⟨⟨rfl, rfl⟩, Nat.le_of_ble_eq_true rfl, Nat.le_of_ble_eq_true rfl⟩ rfl hl.1 rfl (Nat.le_of_ble_eq_true rfl) dX10_findWatch_1 ⟨Nat.le_of_ble_eq_true rfl, Nat.le_of_ble_eq_true rfl⟩) rfl rfl (fun H locs hW => ?_)
  refine lv_istore_n (lv' := [(1, .int x1), (0, .ref (gB G + a0))]) hx hb dX10_findWatch_4 rfl hl (by decide) rfl (fun ls hl => ?_)
  refine lv_iconst (v := 1) hx hb dX10_findWatch_5 (by decide) ?_
  refine lv_istore_n (lv' := [(2, .int (1 : Int32)), (1, .int x1), (0, .ref (gB G + a0))]) hx hb dX10_findWatch_6 rfl hl (by decide) rfl (fun ls hl => ?_)
  refine lv_iconst (v := 0) hx hb dX10_findWatch_7 (by decide) ?_
  refine lv_istore_n (lv' := [(3, .int (0 : Int32)), (2, .int (1 : Int32)), (1, .int x1), (0, .ref (gB G + a0))]) hx hb dX10_findWatch_8 rfl hl (by decide) rfl (fun ls hl => ?_)
  exact klX10_findWatch_9 C hlk hr FU a0 x1 (1 : Int32) (0 : Int32) z _ _ _ h hW (lv_sub hl [3, 2, 1, 0] rfl)
theorem dX10_watch_0 : decode cX10_watch 0 = .ok (.aload_n 0, 1) := by decide +kernel
theorem dX10_watch_1 : decode cX10_watch 1 = .ok (.iconst 0, 1) := by decide +kernel
theorem dX10_watch_2 : decode cX10_watch 2 = .ok (.putfield 81, 3) := by decide +kernel
theorem dX10_watch_5 : decode cX10_watch 5 = .ok (.aload_n 0, 1) := by decide +kernel
theorem dX10_watch_6 : decode cX10_watch 6 = .ok (.iload_n 1, 1) := by decide +kernel
theorem dX10_watch_7 : decode cX10_watch 7 = .ok (.invokevirtual 330, 3) := by decide +kernel
theorem dX10_watch_10 : decode cX10_watch 10 = .ok (.ifCond .eq 18, 3) := by decide +kernel
theorem dX10_watch_13 : decode cX10_watch 13 = .ok (.iload_n 2, 1) := by decide +kernel
theorem dX10_watch_14 : decode cX10_watch 14 = .ok (.bipush (-2), 2) := by decide +kernel
theorem dX10_watch_16 : decode cX10_watch 16 = .ok (.aload_n 0, 1) := by decide +kernel
theorem dX10_watch_17 : decode cX10_watch 17 = .ok (.getfield 279, 3) := by decide +kernel
theorem dX10_watch_20 : decode cX10_watch 20 = .ok (.iconst 1, 1) := by decide +kernel
theorem dX10_watch_21 : decode cX10_watch 21 = .ok (.isub, 1) := by decide +kernel
theorem dX10_watch_22 : decode cX10_watch 22 = .ok (.invokestatic 93, 3) := by decide +kernel
theorem dX10_watch_25 : decode cX10_watch 25 = .ok (.ifCond .ne 5, 3) := by decide +kernel
theorem dX10_watch_28 : decode cX10_watch 28 = .ok (.iconst (-1), 1) := by decide +kernel
theorem dX10_watch_29 : decode cX10_watch 29 = .ok (.ireturn, 1) := by decide +kernel
theorem dX10_watch_30 : decode cX10_watch 30 = .ok (.aload_n 0, 1) := by decide +kernel
theorem dX10_watch_31 : decode cX10_watch 31 = .ok (.invokevirtual 404, 3) := by decide +kernel
theorem dX10_watch_34 : decode cX10_watch 34 = .ok (.iload_n 2, 1) := by decide +kernel
theorem dX10_watch_35 : decode cX10_watch 35 = .ok (.iconst (-1), 1) := by decide +kernel
theorem dX10_watch_36 : decode cX10_watch 36 = .ok (.if_icmp .ne 10, 3) := by decide +kernel
theorem dX10_watch_39 : decode cX10_watch 39 = .ok (.aload_n 0, 1) := by decide +kernel
theorem dX10_watch_40 : decode cX10_watch 40 = .ok (.getfield 388, 3) := by decide +kernel
theorem dX10_watch_43 : decode cX10_watch 43 = .ok (.goto 22, 3) := by decide +kernel
theorem dX10_watch_46 : decode cX10_watch 46 = .ok (.iload_n 2, 1) := by decide +kernel
theorem dX10_watch_47 : decode cX10_watch 47 = .ok (.bipush (-2), 2) := by decide +kernel
theorem dX10_watch_49 : decode cX10_watch 49 = .ok (.if_icmp .ne 10, 3) := by decide +kernel
theorem dX10_watch_52 : decode cX10_watch 52 = .ok (.aload_n 0, 1) := by decide +kernel
theorem dX10_watch_53 : decode cX10_watch 53 = .ok (.getfield 391, 3) := by decide +kernel
theorem dX10_watch_56 : decode cX10_watch 56 = .ok (.goto 9, 3) := by decide +kernel
theorem dX10_watch_59 : decode cX10_watch 59 = .ok (.aload_n 0, 1) := by decide +kernel
theorem dX10_watch_60 : decode cX10_watch 60 = .ok (.getfield 56, 3) := by decide +kernel
theorem dX10_watch_63 : decode cX10_watch 63 = .ok (.iload_n 2, 1) := by decide +kernel
theorem dX10_watch_64 : decode cX10_watch 64 = .ok (.iaload, 1) := by decide +kernel
theorem dX10_watch_65 : decode cX10_watch 65 = .ok (.ireturn, 1) := by decide +kernel
theorem cdX10_findWatch : Cond.code yX10_findWatch cX10_findWatch 4 none ∈ tz := tc7 89 rfl rfl
theorem lVX10_404 : LV RX10 404 yX10_findWatch cX10_findWatch 4 none 0 := ⟨tw 1645 (by decide +kernel) rfl, tw 1647 (by decide +kernel) rfl, tw 86 (by decide +kernel) rfl, tw 128 (by decide +kernel) rfl, cdX10_findWatch, ⟨by decide +kernel, by decide +kernel, by decide +kernel⟩⟩
abbrev rmX10_watch : Room := { frames := 6, cells := 0, slots := 0, locals := 135 }
def fX10_watch (a0 : Nat) (l1 : Int32) (l2 : Int32) (z : AH) : Option (Int32 × AH) :=
  if isO 9 z a0 = true then
    (pF 9 0 z a0 (.int (0 : Int32))).bind fun z2 =>
    b2 (fX10_hand a0 l1 z2) fun x7 z7 =>
    if x7 = (0 : Int32) then (
      some ((-1 : Int32), z7)
    ) else (
      (gI 9 27 z7 a0).bind fun x17 =>
      if (fX10_in l2 (-2 : Int32) (x17 - (1 : Int32))) = (0 : Int32) then (
        some ((-1 : Int32), z7)
      ) else (
        (fX10_findWatch a0 z7).bind fun z31 =>
        if l2 = (-1 : Int32) then (
          (gI 9 41 z31 a0).bind fun x40 =>
          some (x40, z31)
        ) else (
          if l2 = (-2 : Int32) then (
            (gI 9 42 z31 a0).bind fun x53 =>
            some (x53, z31)
          ) else (
            (gN 9 40 z31 a0).bind fun b60 =>
            (ixI 0 z31 b60 l2).bind fun x64 =>
            some (x64, z31)
          )
        )
      )
    )
  else none
set_option maxHeartbeats 4000000 in
set_option maxRecDepth 100000 in
theorem ctX10_watch (l : Launch) (G : GW) (a0 : Nat) (l1 : Int32) (l2 : Int32) (z : AH) {r : Int32} {z' : AH} (h : fX10_watch a0 l1 l2 z = some (r, z')) : Met l yX10_watch (wy yX10_watch cX10_watch 3 (some .int)) rmX10_watch (Pz G [.ref (gB G + a0), .int l1, .int l2] z) (Qi G r z') 0 0 (AA G) := by
  refine wz_ent (own := RX10) (by decide +kernel) rfl (fun p e s m below meth c ls C hlk hr hin hW hl => ?_) (Nat.le_of_ble_eq_true rfl)
  have hl : lv_has ls 3 [(0, .ref (gB G + a0)), (1, .int l1), (2, .int l2)] := hl
  have hx := C.1
  have hb := C.2.1
  unfold fX10_watch at h
  obtain ⟨-, h⟩ := ck h
  refine lv_aload_n hx hb dX10_watch_0 rfl (lv_at hl 0 rfl) ?_
  refine lv_iconst (v := 0) hx hb dX10_watch_1 (by decide) ?_
  obtain ⟨z2, hg, h⟩ := ob h
  refine wz_put (v := (.int (0 : Int32))) C hW flX10_81 rfl rfl hg dX10_watch_2 (fun H locs hW => ?_)
  refine lv_aload_n hx hb dX10_watch_5 rfl (lv_at hl 0 rfl) ?_
  refine lv_iload_n hx hb dX10_watch_6 rfl (lv_at hl 1 rfl) ?_
  obtain ⟨x7, z7, hq, h⟩ := ob2 h
  refine wz_rI (c' := 0) (s' := 0) hW (wz_runV (rest := []) C hW lVX10_330 (ck hq).1 rfl (ctX10_hand l G a0 l1 z2 hq) ⟨⟨rfl, rfl⟩, Nat.le_of_ble_eq_true rfl, Nat.le_of_ble_eq_true rfl⟩ rfl hl.1 rfl (Nat.le_of_ble_eq_true rfl) dX10_watch_7 ⟨Nat.le_of_ble_eq_true rfl, Nat.le_of_ble_eq_true rfl⟩) rfl rfl (fun H locs hW => ?_)
  refine lv_if_eq (tgt := 28) hx hb dX10_watch_10 (by decide) (fun c10 => ?_) (fun c10 => ?_)
  · have h := ite_t c10 h
    refine lv_iconst (v := -1) hx hb dX10_watch_28 (by decide) ?_
    exact wz_iretE C hlk hr (so2 h).1 (so2 h).2 hW dX10_watch_29
  · have h := ite_f c10 h
    refine lv_iload_n hx hb dX10_watch_13 rfl (lv_at hl 2 rfl) ?_
    refine lv_bipush (v := -2) hx hb dX10_watch_14 (by decide) ?_
    refine lv_aload_n hx hb dX10_watch_16 rfl (lv_at hl 0 rfl) ?_
    obtain ⟨x17, hg, h⟩ := ob h
    refine wz_gI C hW flX10_279 hg dX10_watch_17 ?_
    refine lv_iconst (v := 1) hx hb dX10_watch_20 (by decide) ?_
    refine lv_isub hx hb dX10_watch_21 ?_
    refine wz_rI (c' := 0) (s' := 0) hW (wz_runS (rest := []) C hW lTX10_93 (ctX10_in l G l2 (-2 : Int32) (x17 - (1 : Int32)) z7 rfl) ⟨⟨rfl, rfl⟩, Nat.le_of_ble_eq_true rfl, Nat.le_of_ble_eq_true rfl⟩ rfl hl.1 rfl (Nat.le_of_ble_eq_true rfl) dX10_watch_22 ⟨Nat.le_of_ble_eq_true rfl, Nat.le_of_ble_eq_true rfl⟩) rfl rfl (fun H locs hW => ?_)
    refine lv_if_ne (tgt := 30) hx hb dX10_watch_25 (by decide) (fun c25 => ?_) (fun c25 => ?_)
    · have h := ite_f c25 h
      refine lv_aload_n hx hb dX10_watch_30 rfl (lv_at hl 0 rfl) ?_
      obtain ⟨z31, hq, h⟩ := ob h
      refine wz_rV (c' := 0) (s' := 0) hW (wz_runV (rest := []) C hW lVX10_404 (ck hq).1 rfl (ctX10_findWatch l G a0 z7 hq) ⟨⟨rfl, rfl⟩, Nat.le_of_ble_eq_true rfl, Nat.le_of_ble_eq_true rfl⟩ rfl hl.1 rfl (Nat.le_of_ble_eq_true rfl) dX10_watch_31 ⟨Nat.le_of_ble_eq_true rfl, Nat.le_of_ble_eq_true rfl⟩) rfl rfl (fun H locs hW => ?_)
      refine lv_iload_n hx hb dX10_watch_34 rfl (lv_at hl 2 rfl) ?_
      refine lv_iconst (v := -1) hx hb dX10_watch_35 (by decide) ?_
      refine lv_icmp_ne (tgt := 46) hx hb dX10_watch_36 (by decide) (fun c36 => ?_) (fun c36 => ?_)
      · have h := ite_f c36 h
        refine lv_iload_n hx hb dX10_watch_46 rfl (lv_at hl 2 rfl) ?_
        refine lv_bipush (v := -2) hx hb dX10_watch_47 (by decide) ?_
        refine lv_icmp_ne (tgt := 59) hx hb dX10_watch_49 (by decide) (fun c49 => ?_) (fun c49 => ?_)
        · have h := ite_f c49 h
          refine lv_aload_n hx hb dX10_watch_59 rfl (lv_at hl 0 rfl) ?_
          obtain ⟨b60, hg, h⟩ := ob h
          refine wz_gN C hW flX10_56 hg dX10_watch_60 ?_
          refine lv_iload_n hx hb dX10_watch_63 rfl (lv_at hl 2 rfl) ?_
          obtain ⟨x64, hg, h⟩ := ob h
          refine wz_ald C hW hg dX10_watch_64 ?_
          exact wz_iretE C hlk hr (so2 h).1 (so2 h).2 hW dX10_watch_65
        · have h := ite_t c49 h
          refine lv_aload_n hx hb dX10_watch_52 rfl (lv_at hl 0 rfl) ?_
          obtain ⟨x53, hg, h⟩ := ob h
          refine wz_gI C hW flX10_391 hg dX10_watch_53 ?_
          refine lv_goto (tgt := 65) hx hb dX10_watch_56 (by decide) ?_
          exact wz_iretE C hlk hr (so2 h).1 (so2 h).2 hW dX10_watch_65
      · have h := ite_t c36 h
        refine lv_aload_n hx hb dX10_watch_39 rfl (lv_at hl 0 rfl) ?_
        obtain ⟨x40, hg, h⟩ := ob h
        refine wz_gI C hW flX10_388 hg dX10_watch_40 ?_
        refine lv_goto (tgt := 65) hx hb dX10_watch_43 (by decide) ?_
        exact wz_iretE C hlk hr (so2 h).1 (so2 h).2 hW dX10_watch_65
    · have h := ite_t c25 h
      refine lv_iconst (v := -1) hx hb dX10_watch_28 (by decide) ?_
      exact wz_iretE C hlk hr (so2 h).1 (so2 h).2 hW dX10_watch_29
theorem dX10_nextTo_0 : decode cX10_nextTo 0 = .ok (.iload_n 1, 1) := by decide +kernel
theorem dX10_nextTo_1 : decode cX10_nextTo 1 = .ok (.istore_n 2, 1) := by decide +kernel
theorem dX10_nextTo_2 : decode cX10_nextTo 2 = .ok (.iconst 0, 1) := by decide +kernel
theorem dX10_nextTo_3 : decode cX10_nextTo 3 = .ok (.istore_n 3, 1) := by decide +kernel
theorem dX10_nextTo_4 : decode cX10_nextTo 4 = .ok (.iload_n 3, 1) := by decide +kernel
theorem dX10_nextTo_5 : decode cX10_nextTo 5 = .ok (.aload_n 0, 1) := by decide +kernel
theorem dX10_nextTo_6 : decode cX10_nextTo 6 = .ok (.iconst 1, 1) := by decide +kernel
theorem dX10_nextTo_7 : decode cX10_nextTo 7 = .ok (.invokevirtual 272, 3) := by decide +kernel
theorem dX10_nextTo_10 : decode cX10_nextTo 10 = .ok (.if_icmp .ge 69, 3) := by decide +kernel
theorem dX10_nextTo_13 : decode cX10_nextTo 13 = .ok (.aload_n 0, 1) := by decide +kernel
theorem dX10_nextTo_14 : decode cX10_nextTo 14 = .ok (.bipush 54, 2) := by decide +kernel
theorem dX10_nextTo_16 : decode cX10_nextTo 16 = .ok (.iload_n 3, 1) := by decide +kernel
theorem dX10_nextTo_17 : decode cX10_nextTo 17 = .ok (.iadd, 1) := by decide +kernel
theorem dX10_nextTo_18 : decode cX10_nextTo 18 = .ok (.invokevirtual 272, 3) := by decide +kernel
theorem dX10_nextTo_21 : decode cX10_nextTo 21 = .ok (.istore 4, 2) := by decide +kernel
theorem dX10_nextTo_23 : decode cX10_nextTo 23 = .ok (.aload_n 0, 1) := by decide +kernel
theorem dX10_nextTo_24 : decode cX10_nextTo 24 = .ok (.bipush 66, 2) := by decide +kernel
theorem dX10_nextTo_26 : decode cX10_nextTo 26 = .ok (.iload_n 3, 1) := by decide +kernel
theorem dX10_nextTo_27 : decode cX10_nextTo 27 = .ok (.iadd, 1) := by decide +kernel
theorem dX10_nextTo_28 : decode cX10_nextTo 28 = .ok (.invokevirtual 272, 3) := by decide +kernel
theorem dX10_nextTo_31 : decode cX10_nextTo 31 = .ok (.istore 5, 2) := by decide +kernel
theorem dX10_nextTo_33 : decode cX10_nextTo 33 = .ok (.iload_n 2, 1) := by decide +kernel
theorem dX10_nextTo_34 : decode cX10_nextTo 34 = .ok (.iload_n 1, 1) := by decide +kernel
theorem dX10_nextTo_35 : decode cX10_nextTo 35 = .ok (.iload 4, 2) := by decide +kernel
theorem dX10_nextTo_37 : decode cX10_nextTo 37 = .ok (.invokestatic 85, 3) := by decide +kernel
theorem dX10_nextTo_40 : decode cX10_nextTo 40 = .ok (.ifCond .eq 10, 3) := by decide +kernel
theorem dX10_nextTo_43 : decode cX10_nextTo 43 = .ok (.iconst 1, 1) := by decide +kernel
theorem dX10_nextTo_44 : decode cX10_nextTo 44 = .ok (.iload 5, 2) := by decide +kernel
theorem dX10_nextTo_46 : decode cX10_nextTo 46 = .ok (.ishl, 1) := by decide +kernel
theorem dX10_nextTo_47 : decode cX10_nextTo 47 = .ok (.goto 4, 3) := by decide +kernel
theorem dX10_nextTo_50 : decode cX10_nextTo 50 = .ok (.iconst 0, 1) := by decide +kernel
theorem dX10_nextTo_51 : decode cX10_nextTo 51 = .ok (.ior, 1) := by decide +kernel
theorem dX10_nextTo_52 : decode cX10_nextTo 52 = .ok (.istore_n 2, 1) := by decide +kernel
theorem dX10_nextTo_53 : decode cX10_nextTo 53 = .ok (.iload_n 2, 1) := by decide +kernel
theorem dX10_nextTo_54 : decode cX10_nextTo 54 = .ok (.iload_n 1, 1) := by decide +kernel
theorem dX10_nextTo_55 : decode cX10_nextTo 55 = .ok (.iload 5, 2) := by decide +kernel
theorem dX10_nextTo_57 : decode cX10_nextTo 57 = .ok (.invokestatic 85, 3) := by decide +kernel
theorem dX10_nextTo_60 : decode cX10_nextTo 60 = .ok (.ifCond .eq 10, 3) := by decide +kernel
theorem dX10_nextTo_63 : decode cX10_nextTo 63 = .ok (.iconst 1, 1) := by decide +kernel
theorem dX10_nextTo_64 : decode cX10_nextTo 64 = .ok (.iload 4, 2) := by decide +kernel
theorem dX10_nextTo_66 : decode cX10_nextTo 66 = .ok (.ishl, 1) := by decide +kernel
theorem dX10_nextTo_67 : decode cX10_nextTo 67 = .ok (.goto 4, 3) := by decide +kernel
theorem dX10_nextTo_70 : decode cX10_nextTo 70 = .ok (.iconst 0, 1) := by decide +kernel
theorem dX10_nextTo_71 : decode cX10_nextTo 71 = .ok (.ior, 1) := by decide +kernel
theorem dX10_nextTo_72 : decode cX10_nextTo 72 = .ok (.istore_n 2, 1) := by decide +kernel
theorem dX10_nextTo_73 : decode cX10_nextTo 73 = .ok (.iinc 3 1, 3) := by decide +kernel
theorem dX10_nextTo_76 : decode cX10_nextTo 76 = .ok (.goto (-72), 3) := by decide +kernel
theorem dX10_nextTo_79 : decode cX10_nextTo 79 = .ok (.iload_n 2, 1) := by decide +kernel
theorem dX10_nextTo_80 : decode cX10_nextTo 80 = .ok (.ireturn, 1) := by decide +kernel
abbrev rmX10_nextTo : Room := { frames := 1, cells := 0, slots := 0, locals := 21 }
def bX10_nextTo_51 (k4 : Nat → Int32 → Int32 → Int32 → Option (Int32)) (a0 : Nat) (l1 : Int32) (l3 : Int32) (l4 : Int32) (l5 : Int32) (s0 : Int32) (s1 : Int32) (z : AH) : Option (Int32) :=
  nm (s0 ||| s1) fun v52 =>
  if (fX10_has l1 l5) = (0 : Int32) then (
    nm (v52 ||| (0 : Int32)) fun v72 =>
    nm (l3 + (1 : Int32)) fun v73 =>
    k4 a0 l1 v72 v73
  ) else (
    nm (v52 ||| (shl (1 : Int32) l4)) fun v72 =>
    nm (l3 + (1 : Int32)) fun v73 =>
    k4 a0 l1 v72 v73
  )
set_option maxHeartbeats 4000000 in
set_option maxRecDepth 100000 in
theorem kbX10_nextTo_51 {p : Program} {l : Launch} {e : Env} {s : State} {m : MethodId} {args : Array Value} {below : List Frame} {meth : Method} {c : Code} {G : GW} {r : Int32} (C : Cx p m c cX10_nextTo 6 s args RX10 G) (hlk : meth.locks = false) (hr : meth.sig.returnType = (some .int)) {z : AH} (k4 : Nat → Int32 → Int32 → Int32 → Option (Int32)) (hk4 : ∀ (a0 : Nat) (l1 : Int32) (l2 : Int32) (l3 : Int32) (H : Heap) (locs : List Loc) (ls : Array Slot), k4 a0 l1 l2 l3 = some r → Wb G z s H locs → lv_has ls 6 [(0, .ref (gB G + a0)), (1, .int l1), (2, .int l2), (3, .int l3)] → W p l e rmX10_nextTo s m args below meth c H locs 0 0 (MQ below (Qi G r z) args s 0 0 (AA G)) (F0 m 4 ls [])) (a0 : Nat) (l1 : Int32) (l3 : Int32) (l4 : Int32) (l5 : Int32) (s0 : Int32) (s1 : Int32) {H : Heap} {locs : List Loc} {ls : Array Slot} (h : bX10_nextTo_51 k4 a0 l1 l3 l4 l5 s0 s1 z = some r) (hW : Wb G z s H locs) (hl : lv_has ls 6 [(0, .ref (gB G + a0)), (1, .int l1), (3, .int l3), (4, .int l4), (5, .int l5)]) : W p l e rmX10_nextTo s m args below meth c H locs 0 0 (MQ below (Qi G r z) args s 0 0 (AA G)) (F0 m 51 ls [.int s1, .int s0]) := by
  have hx := C.1
  have hb := C.2.1
  unfold bX10_nextTo_51 at h
  refine lv_ior hx hb dX10_nextTo_51 ?_
  refine lv_topi (fun v52 ev52 => ?_)
  have h := nm_to h ev52
  refine lv_istore_n (lv' := [(2, .int v52), (0, .ref (gB G + a0)), (1, .int l1), (3, .int l3), (4, .int l4), (5, .int l5)]) hx hb dX10_nextTo_52 rfl hl (by decide) rfl (fun ls hl => ?_)
  refine lv_iload_n hx hb dX10_nextTo_53 rfl (lv_at hl 0 rfl) ?_
  refine lv_iload_n hx hb dX10_nextTo_54 rfl (lv_at hl 2 rfl) ?_
  refine lv_iload hx hb dX10_nextTo_55 (lv_at hl 5 rfl) ?_
  refine wz_rI (c' := 0) (s' := 0) hW (wz_runS (rest := [.int v52]) C hW lTX10_85 (ctX10_has l G l1 l5 z rfl) ⟨⟨rfl, rfl⟩, Nat.le_of_ble_eq_true rfl, Nat.le_of_ble_eq_true rfl⟩ rfl hl.1 rfl (Nat.le_of_ble_eq_true rfl) dX10_nextTo_57 ⟨Nat.le_of_ble_eq_true rfl, Nat.le_of_ble_eq_true rfl⟩) rfl rfl (fun H locs hW => ?_)
  refine lv_if_eq (tgt := 70) hx hb dX10_nextTo_60 (by decide) (fun c60 => ?_) (fun c60 => ?_)
  · have h := ite_t c60 h
    refine lv_iconst (v := 0) hx hb dX10_nextTo_70 (by decide) ?_
    refine lv_ior hx hb dX10_nextTo_71 ?_
    refine lv_topi (fun v72 ev72 => ?_)
    have h := nm_to h ev72
    refine lv_istore_n (lv' := [(2, .int v72), (0, .ref (gB G + a0)), (1, .int l1), (3, .int l3), (4, .int l4), (5, .int l5)]) hx hb dX10_nextTo_72 rfl hl (by decide) rfl (fun ls hl => ?_)
    obtain ⟨v73, ev73⟩ : ∃ y : Int32, y = (l3 + (1 : Int32)) := ⟨_, rfl⟩
    have h := nm_to h ev73
    refine lv_iinc (v := v73) (lv' := [(3, .int v73), (2, .int v72), (0, .ref (gB G + a0)), (1, .int l1), (4, .int l4), (5, .int l5)]) hx hb dX10_nextTo_73 hl (k := 3) rfl (by rw [ev73]; rfl) (by decide) rfl (fun ls hl => ?_)
    refine lv_goto (tgt := 4) hx hb dX10_nextTo_76 (by decide) ?_
    exact hk4 a0 l1 v72 v73 _ _ _ h hW (lv_sub hl [2, 3, 1, 0] rfl)
  · have h := ite_f c60 h
    refine lv_iconst (v := 1) hx hb dX10_nextTo_63 (by decide) ?_
    refine lv_iload hx hb dX10_nextTo_64 (lv_at hl 4 rfl) ?_
    refine wz_shl hx hb dX10_nextTo_66 ?_
    refine lv_goto (tgt := 71) hx hb dX10_nextTo_67 (by decide) ?_
    refine lv_ior hx hb dX10_nextTo_71 ?_
    refine lv_topi (fun v72 ev72 => ?_)
    have h := nm_to h ev72
    refine lv_istore_n (lv' := [(2, .int v72), (0, .ref (gB G + a0)), (1, .int l1), (3, .int l3), (4, .int l4), (5, .int l5)]) hx hb dX10_nextTo_72 rfl hl (by decide) rfl (fun ls hl => ?_)
    obtain ⟨v73, ev73⟩ : ∃ y : Int32, y = (l3 + (1 : Int32)) := ⟨_, rfl⟩
    have h := nm_to h ev73
    refine lv_iinc (v := v73) (lv' := [(3, .int v73), (2, .int v72), (0, .ref (gB G + a0)), (1, .int l1), (4, .int l4), (5, .int l5)]) hx hb dX10_nextTo_73 hl (k := 3) rfl (by rw [ev73]; rfl) (by decide) rfl (fun ls hl => ?_)
    refine lv_goto (tgt := 4) hx hb dX10_nextTo_76 (by decide) ?_
    exact hk4 a0 l1 v72 v73 _ _ _ h hW (lv_sub hl [2, 3, 1, 0] rfl)
def bX10_nextTo_4 (k4 : Nat → Int32 → Int32 → Int32 → Option (Int32)) (a0 : Nat) (l1 : Int32) (l2 : Int32) (l3 : Int32) (z : AH) : Option (Int32) :=
  (fX10_of a0 (1 : Int32) z).bind fun x7 =>
  if x7 ≤ l3 then (
    some l2
  ) else (
    (fX10_of a0 ((54 : Int32) + l3) z).bind fun x18 =>
    (fX10_of a0 ((66 : Int32) + l3) z).bind fun x28 =>
    if (fX10_has l1 x18) = (0 : Int32) then (
      bX10_nextTo_51 k4 a0 l1 l3 x18 x28 l2 (0 : Int32) z
    ) else (
      bX10_nextTo_51 k4 a0 l1 l3 x18 x28 l2 (shl (1 : Int32) x28) z
    )
  )
set_option maxHeartbeats 4000000 in
set_option maxRecDepth 100000 in
theorem kbX10_nextTo_4 {p : Program} {l : Launch} {e : Env} {s : State} {m : MethodId} {args : Array Value} {below : List Frame} {meth : Method} {c : Code} {G : GW} {r : Int32} (C : Cx p m c cX10_nextTo 6 s args RX10 G) (hlk : meth.locks = false) (hr : meth.sig.returnType = (some .int)) {z : AH} (k4 : Nat → Int32 → Int32 → Int32 → Option (Int32)) (hk4 : ∀ (a0 : Nat) (l1 : Int32) (l2 : Int32) (l3 : Int32) (H : Heap) (locs : List Loc) (ls : Array Slot), k4 a0 l1 l2 l3 = some r → Wb G z s H locs → lv_has ls 6 [(0, .ref (gB G + a0)), (1, .int l1), (2, .int l2), (3, .int l3)] → W p l e rmX10_nextTo s m args below meth c H locs 0 0 (MQ below (Qi G r z) args s 0 0 (AA G)) (F0 m 4 ls [])) (a0 : Nat) (l1 : Int32) (l2 : Int32) (l3 : Int32) {H : Heap} {locs : List Loc} {ls : Array Slot} (h : bX10_nextTo_4 k4 a0 l1 l2 l3 z = some r) (hW : Wb G z s H locs) (hl : lv_has ls 6 [(0, .ref (gB G + a0)), (1, .int l1), (2, .int l2), (3, .int l3)]) : W p l e rmX10_nextTo s m args below meth c H locs 0 0 (MQ below (Qi G r z) args s 0 0 (AA G)) (F0 m 4 ls []) := by
  have hx := C.1
  have hb := C.2.1
  unfold bX10_nextTo_4 at h
  refine lv_iload_n hx hb dX10_nextTo_4 rfl (lv_at hl 3 rfl) ?_
  refine lv_aload_n hx hb dX10_nextTo_5 rfl (lv_at hl 0 rfl) ?_
  refine lv_iconst (v := 1) hx hb dX10_nextTo_6 (by decide) ?_
  obtain ⟨x7, hq, h⟩ := ob h
  refine wz_rI (c' := 0) (s' := 0) hW (wz_runV (rest := [.int l3]) C hW lVX10_272 (ck hq).1 rfl (ctX10_of l G a0 (1 : Int32) z hq) ⟨⟨rfl, rfl⟩, Nat.le_of_ble_eq_true rfl, Nat.le_of_ble_eq_true rfl⟩ rfl hl.1 rfl (Nat.le_of_ble_eq_true rfl) dX10_nextTo_7 ⟨Nat.le_of_ble_eq_true rfl, Nat.le_of_ble_eq_true rfl⟩) rfl rfl (fun H locs hW => ?_)
  refine lv_icmp_ge (tgt := 79) hx hb dX10_nextTo_10 (by decide) (fun c10 => ?_) (fun c10 => ?_)
  · have h := ite_t c10 h
    refine lv_iload_n hx hb dX10_nextTo_79 rfl (lv_at hl 2 rfl) ?_
    exact wz_iretE C hlk hr (Option.some.inj h) rfl hW dX10_nextTo_80
  · have h := ite_f c10 h
    refine lv_aload_n hx hb dX10_nextTo_13 rfl (lv_at hl 0 rfl) ?_
    refine lv_bipush (v := 54) hx hb dX10_nextTo_14 (by decide) ?_
    refine lv_iload_n hx hb dX10_nextTo_16 rfl (lv_at hl 3 rfl) ?_
    refine lv_iadd hx hb dX10_nextTo_17 ?_
    obtain ⟨x18, hq, h⟩ := ob h
    refine wz_rI (c' := 0) (s' := 0) hW (wz_runV (rest := []) C hW lVX10_272 (ck hq).1 rfl (ctX10_of l G a0 ((54 : Int32) + l3) z hq) ⟨⟨rfl, rfl⟩, Nat.le_of_ble_eq_true rfl, Nat.le_of_ble_eq_true rfl⟩ rfl hl.1 rfl (Nat.le_of_ble_eq_true rfl) dX10_nextTo_18 ⟨Nat.le_of_ble_eq_true rfl, Nat.le_of_ble_eq_true rfl⟩) rfl rfl (fun H locs hW => ?_)
    refine lv_istore (lv' := [(4, .int x18), (0, .ref (gB G + a0)), (1, .int l1), (2, .int l2), (3, .int l3)]) hx hb dX10_nextTo_21 hl (by decide) rfl (fun ls hl => ?_)
    refine lv_aload_n hx hb dX10_nextTo_23 rfl (lv_at hl 1 rfl) ?_
    refine lv_bipush (v := 66) hx hb dX10_nextTo_24 (by decide) ?_
    refine lv_iload_n hx hb dX10_nextTo_26 rfl (lv_at hl 4 rfl) ?_
    refine lv_iadd hx hb dX10_nextTo_27 ?_
    obtain ⟨x28, hq, h⟩ := ob h
    refine wz_rI (c' := 0) (s' := 0) hW (wz_runV (rest := []) C hW lVX10_272 (ck hq).1 rfl (ctX10_of l G a0 ((66 : Int32) + l3) z hq) ⟨⟨rfl, rfl⟩, Nat.le_of_ble_eq_true rfl, Nat.le_of_ble_eq_true rfl⟩ rfl hl.1 rfl (Nat.le_of_ble_eq_true rfl) dX10_nextTo_28 ⟨Nat.le_of_ble_eq_true rfl, Nat.le_of_ble_eq_true rfl⟩) rfl rfl (fun H locs hW => ?_)
    refine lv_istore (lv' := [(5, .int x28), (4, .int x18), (0, .ref (gB G + a0)), (1, .int l1), (2, .int l2), (3, .int l3)]) hx hb dX10_nextTo_31 hl (by decide) rfl (fun ls hl => ?_)
    refine lv_iload_n hx hb dX10_nextTo_33 rfl (lv_at hl 4 rfl) ?_
    refine lv_iload_n hx hb dX10_nextTo_34 rfl (lv_at hl 3 rfl) ?_
    refine lv_iload hx hb dX10_nextTo_35 (lv_at hl 1 rfl) ?_
    refine wz_rI (c' := 0) (s' := 0) hW (wz_runS (rest := [.int l2]) C hW lTX10_85 (ctX10_has l G l1 x18 z rfl) ⟨⟨rfl, rfl⟩, Nat.le_of_ble_eq_true rfl, Nat.le_of_ble_eq_true rfl⟩ rfl hl.1 rfl (Nat.le_of_ble_eq_true rfl) dX10_nextTo_37 ⟨Nat.le_of_ble_eq_true rfl, Nat.le_of_ble_eq_true rfl⟩) rfl rfl (fun H locs hW => ?_)
    refine lv_if_eq (tgt := 50) hx hb dX10_nextTo_40 (by decide) (fun c40 => ?_) (fun c40 => ?_)
    · have h := ite_t c40 h
      refine lv_iconst (v := 0) hx hb dX10_nextTo_50 (by decide) ?_
      exact kbX10_nextTo_51 C hlk hr k4 hk4 a0 l1 l3 x18 x28 l2 (0 : Int32) h hW (lv_sub hl [2, 3, 5, 1, 0] rfl)
    · have h := ite_f c40 h
      refine lv_iconst (v := 1) hx hb dX10_nextTo_43 (by decide) ?_
      refine lv_iload hx hb dX10_nextTo_44 (lv_at hl 0 rfl) ?_
      refine wz_shl hx hb dX10_nextTo_46 ?_
      refine lv_goto (tgt := 51) hx hb dX10_nextTo_47 (by decide) ?_
      exact kbX10_nextTo_51 C hlk hr k4 hk4 a0 l1 l3 x18 x28 l2 (shl (1 : Int32) x28) h hW (lv_sub hl [2, 3, 5, 1, 0] rfl)
def fX10_nextTo_4 (z : AH) : Nat → Nat → Int32 → Int32 → Int32 → Option (Int32)
  | 0, _, _, _, _ => none
  | n + 1, a0, l1, l2, l3 => bX10_nextTo_4 (fX10_nextTo_4 z n) a0 l1 l2 l3 z
theorem klX10_nextTo_4 {p : Program} {l : Launch} {e : Env} {s : State} {m : MethodId} {args : Array Value} {below : List Frame} {meth : Method} {c : Code} {G : GW} {r : Int32} (C : Cx p m c cX10_nextTo 6 s args RX10 G) (hlk : meth.locks = false) (hr : meth.sig.returnType = (some .int)) {z : AH} : ∀ (n : Nat) (a0 : Nat) (l1 : Int32) (l2 : Int32) (l3 : Int32) (H : Heap) (locs : List Loc) (ls : Array Slot), fX10_nextTo_4 z n a0 l1 l2 l3 = some r → Wb G z s H locs → lv_has ls 6 [(0, .ref (gB G + a0)), (1, .int l1), (2, .int l2), (3, .int l3)] → W p l e rmX10_nextTo s m args below meth c H locs 0 0 (MQ below (Qi G r z) args s 0 0 (AA G)) (F0 m 4 ls []) := by
  intro n
  induction n with
  | zero => intro a0 l1 l2 l3 H locs ls h; have h : (none : Option (Int32)) = some r := h; cases h
  | succ n ih => intro a0 l1 l2 l3 H locs ls h hW hl; exact kbX10_nextTo_4 C hlk hr (fX10_nextTo_4 z n) (fun a0 l1 l2 l3 H locs ls h hW hl => ih a0 l1 l2 l3 H locs ls h hW hl) a0 l1 l2 l3 h hW hl
def fX10_nextTo (a0 : Nat) (l1 : Int32) (z : AH) : Option (Int32) :=
  if isO 9 z a0 = true then
    fX10_nextTo_4 z FU a0 l1 l1 (0 : Int32)
  else none
set_option maxHeartbeats 4000000 in
set_option maxRecDepth 100000 in
theorem ctX10_nextTo (l : Launch) (G : GW) (a0 : Nat) (l1 : Int32) (z : AH) {r : Int32} (h : fX10_nextTo a0 l1 z = some r) : Met l yX10_nextTo (wy yX10_nextTo cX10_nextTo 6 (some .int)) rmX10_nextTo (Pz G [.ref (gB G + a0), .int l1] z) (Qi G r z) 0 0 (AA G) := by
  refine wz_ent (own := RX10) (by decide +kernel) rfl (fun p e s m below meth c ls C hlk hr hin hW hl => ?_) (Nat.le_of_ble_eq_true rfl)
  have hl : lv_has ls 6 [(0, .ref (gB G + a0)), (1, .int l1)] := hl
  have hx := C.1
  have hb := C.2.1
  unfold fX10_nextTo at h
  obtain ⟨-, h⟩ := ck h
  refine lv_iload_n hx hb dX10_nextTo_0 rfl (lv_at hl 1 rfl) ?_
  refine lv_istore_n (lv' := [(2, .int l1), (0, .ref (gB G + a0)), (1, .int l1)]) hx hb dX10_nextTo_1 rfl hl (by decide) rfl (fun ls hl => ?_)
  refine lv_iconst (v := 0) hx hb dX10_nextTo_2 (by decide) ?_
  refine lv_istore_n (lv' := [(3, .int (0 : Int32)), (2, .int l1), (0, .ref (gB G + a0)), (1, .int l1)]) hx hb dX10_nextTo_3 rfl hl (by decide) rfl (fun ls hl => ?_)
  exact klX10_nextTo_4 C hlk hr FU a0 l1 l1 (0 : Int32) _ _ _ h hW (lv_sub hl [2, 3, 1, 0] rfl)
theorem dX10_hoursTill_0 : decode cX10_hoursTill 0 = .ok (.iload_n 1, 1) := by decide +kernel
theorem dX10_hoursTill_1 : decode cX10_hoursTill 1 = .ok (.aload_n 0, 1) := by decide +kernel
theorem dX10_hoursTill_2 : decode cX10_hoursTill 2 = .ok (.getfield 288, 3) := by decide +kernel
theorem dX10_hoursTill_5 : decode cX10_hoursTill 5 = .ok (.iconst (-1), 1) := by decide +kernel
theorem dX10_hoursTill_6 : decode cX10_hoursTill 6 = .ok (.ixor, 1) := by decide +kernel
theorem dX10_hoursTill_7 : decode cX10_hoursTill 7 = .ok (.iand, 1) := by decide +kernel
theorem dX10_hoursTill_8 : decode cX10_hoursTill 8 = .ok (.istore 4, 2) := by decide +kernel
theorem dX10_hoursTill_10 : decode cX10_hoursTill 10 = .ok (.iload_n 2, 1) := by decide +kernel
theorem dX10_hoursTill_11 : decode cX10_hoursTill 11 = .ok (.aload_n 0, 1) := by decide +kernel
theorem dX10_hoursTill_12 : decode cX10_hoursTill 12 = .ok (.getfield 288, 3) := by decide +kernel
theorem dX10_hoursTill_15 : decode cX10_hoursTill 15 = .ok (.iconst (-1), 1) := by decide +kernel
theorem dX10_hoursTill_16 : decode cX10_hoursTill 16 = .ok (.ixor, 1) := by decide +kernel
theorem dX10_hoursTill_17 : decode cX10_hoursTill 17 = .ok (.iand, 1) := by decide +kernel
theorem dX10_hoursTill_18 : decode cX10_hoursTill 18 = .ok (.istore 5, 2) := by decide +kernel
theorem dX10_hoursTill_20 : decode cX10_hoursTill 20 = .ok (.iload 4, 2) := by decide +kernel
theorem dX10_hoursTill_22 : decode cX10_hoursTill 22 = .ok (.iload 5, 2) := by decide +kernel
theorem dX10_hoursTill_24 : decode cX10_hoursTill 24 = .ok (.iand, 1) := by decide +kernel
theorem dX10_hoursTill_25 : decode cX10_hoursTill 25 = .ok (.ifCond .ne 66, 3) := by decide +kernel
theorem dX10_hoursTill_28 : decode cX10_hoursTill 28 = .ok (.aload_n 0, 1) := by decide +kernel
theorem dX10_hoursTill_29 : decode cX10_hoursTill 29 = .ok (.getfield 306, 3) := by decide +kernel
theorem dX10_hoursTill_32 : decode cX10_hoursTill 32 = .ok (.bipush 99, 2) := by decide +kernel
theorem dX10_hoursTill_34 : decode cX10_hoursTill 34 = .ok (.if_icmp .ge 57, 3) := by decide +kernel
theorem dX10_hoursTill_37 : decode cX10_hoursTill 37 = .ok (.aload_n 0, 1) := by decide +kernel
theorem dX10_hoursTill_38 : decode cX10_hoursTill 38 = .ok (.iload 4, 2) := by decide +kernel
theorem dX10_hoursTill_40 : decode cX10_hoursTill 40 = .ok (.invokevirtual 407, 3) := by decide +kernel
theorem dX10_hoursTill_43 : decode cX10_hoursTill 43 = .ok (.istore 4, 2) := by decide +kernel
theorem dX10_hoursTill_45 : decode cX10_hoursTill 45 = .ok (.iload_n 3, 1) := by decide +kernel
theorem dX10_hoursTill_46 : decode cX10_hoursTill 46 = .ok (.ifCond .eq 12, 3) := by decide +kernel
theorem dX10_hoursTill_49 : decode cX10_hoursTill 49 = .ok (.aload_n 0, 1) := by decide +kernel
theorem dX10_hoursTill_50 : decode cX10_hoursTill 50 = .ok (.iload 5, 2) := by decide +kernel
theorem dX10_hoursTill_52 : decode cX10_hoursTill 52 = .ok (.invokevirtual 407, 3) := by decide +kernel
theorem dX10_hoursTill_55 : decode cX10_hoursTill 55 = .ok (.goto 5, 3) := by decide +kernel
theorem dX10_hoursTill_58 : decode cX10_hoursTill 58 = .ok (.iload 5, 2) := by decide +kernel
theorem dX10_hoursTill_60 : decode cX10_hoursTill 60 = .ok (.istore 5, 2) := by decide +kernel
theorem dX10_hoursTill_62 : decode cX10_hoursTill 62 = .ok (.aload_n 0, 1) := by decide +kernel
theorem dX10_hoursTill_63 : decode cX10_hoursTill 63 = .ok (.invokevirtual 364, 3) := by decide +kernel
theorem dX10_hoursTill_66 : decode cX10_hoursTill 66 = .ok (.iload 4, 2) := by decide +kernel
theorem dX10_hoursTill_68 : decode cX10_hoursTill 68 = .ok (.aload_n 0, 1) := by decide +kernel
theorem dX10_hoursTill_69 : decode cX10_hoursTill 69 = .ok (.getfield 288, 3) := by decide +kernel
theorem dX10_hoursTill_72 : decode cX10_hoursTill 72 = .ok (.iconst (-1), 1) := by decide +kernel
theorem dX10_hoursTill_73 : decode cX10_hoursTill 73 = .ok (.ixor, 1) := by decide +kernel
theorem dX10_hoursTill_74 : decode cX10_hoursTill 74 = .ok (.iand, 1) := by decide +kernel
theorem dX10_hoursTill_75 : decode cX10_hoursTill 75 = .ok (.istore 4, 2) := by decide +kernel
theorem dX10_hoursTill_77 : decode cX10_hoursTill 77 = .ok (.iload 5, 2) := by decide +kernel
theorem dX10_hoursTill_79 : decode cX10_hoursTill 79 = .ok (.aload_n 0, 1) := by decide +kernel
theorem dX10_hoursTill_80 : decode cX10_hoursTill 80 = .ok (.getfield 288, 3) := by decide +kernel
theorem dX10_hoursTill_83 : decode cX10_hoursTill 83 = .ok (.iconst (-1), 1) := by decide +kernel
theorem dX10_hoursTill_84 : decode cX10_hoursTill 84 = .ok (.ixor, 1) := by decide +kernel
theorem dX10_hoursTill_85 : decode cX10_hoursTill 85 = .ok (.iand, 1) := by decide +kernel
theorem dX10_hoursTill_86 : decode cX10_hoursTill 86 = .ok (.istore 5, 2) := by decide +kernel
theorem dX10_hoursTill_88 : decode cX10_hoursTill 88 = .ok (.goto (-68), 3) := by decide +kernel
theorem dX10_hoursTill_91 : decode cX10_hoursTill 91 = .ok (.iload 4, 2) := by decide +kernel
theorem dX10_hoursTill_93 : decode cX10_hoursTill 93 = .ok (.iload 5, 2) := by decide +kernel
theorem dX10_hoursTill_95 : decode cX10_hoursTill 95 = .ok (.iand, 1) := by decide +kernel
theorem dX10_hoursTill_96 : decode cX10_hoursTill 96 = .ok (.ifCond .eq 10, 3) := by decide +kernel
theorem dX10_hoursTill_99 : decode cX10_hoursTill 99 = .ok (.aload_n 0, 1) := by decide +kernel
theorem dX10_hoursTill_100 : decode cX10_hoursTill 100 = .ok (.getfield 306, 3) := by decide +kernel
theorem dX10_hoursTill_103 : decode cX10_hoursTill 103 = .ok (.goto 4, 3) := by decide +kernel
theorem dX10_hoursTill_106 : decode cX10_hoursTill 106 = .ok (.iconst (-1), 1) := by decide +kernel
theorem dX10_hoursTill_107 : decode cX10_hoursTill 107 = .ok (.ireturn, 1) := by decide +kernel
theorem cdX10_nextTo : Cond.code yX10_nextTo cX10_nextTo 6 (some .int) ∈ tz := tc7 117 rfl rfl
theorem lVX10_407 : LV RX10 407 yX10_nextTo cX10_nextTo 6 (some .int) 1 := ⟨tw 1673 (by decide +kernel) rfl, tw 1675 (by decide +kernel) rfl, tw 91 (by decide +kernel) rfl, tw 128 (by decide +kernel) rfl, cdX10_nextTo, ⟨by decide +kernel, by decide +kernel, by decide +kernel⟩⟩
abbrev rmX10_hoursTill : Room := { frames := 4, cells := 0, slots := 0, locals := 87 }
def bX10_hoursTill_91 (a0 : Nat) (l4 : Int32) (l5 : Int32) (z : AH) : Option (Int32 × AH) :=
  if (l4 &&& l5) = (0 : Int32) then (
    some ((-1 : Int32), z)
  ) else (
    (gI 9 37 z a0).bind fun x100 =>
    some (x100, z)
  )
set_option maxHeartbeats 4000000 in
set_option maxRecDepth 100000 in
theorem kbX10_hoursTill_91 {p : Program} {l : Launch} {e : Env} {s : State} {m : MethodId} {args : Array Value} {below : List Frame} {meth : Method} {c : Code} {G : GW} {r : Int32} {z' : AH} (C : Cx p m c cX10_hoursTill 6 s args RX10 G) (hlk : meth.locks = false) (hr : meth.sig.returnType = (some .int)) (a0 : Nat) (l4 : Int32) (l5 : Int32) {z : AH} {H : Heap} {locs : List Loc} {ls : Array Slot} (h : bX10_hoursTill_91 a0 l4 l5 z = some (r, z')) (hW : Wb G z s H locs) (hl : lv_has ls 6 [(0, .ref (gB G + a0)), (4, .int l4), (5, .int l5)]) : W p l e rmX10_hoursTill s m args below meth c H locs 0 0 (MQ below (Qi G r z') args s 0 0 (AA G)) (F0 m 91 ls []) := by
  have hx := C.1
  have hb := C.2.1
  unfold bX10_hoursTill_91 at h
  refine lv_iload hx hb dX10_hoursTill_91 (lv_at hl 1 rfl) ?_
  refine lv_iload hx hb dX10_hoursTill_93 (lv_at hl 2 rfl) ?_
  refine lv_iand hx hb dX10_hoursTill_95 ?_
  refine lv_if_eq (tgt := 106) hx hb dX10_hoursTill_96 (by decide) (fun c96 => ?_) (fun c96 => ?_)
  · have h := ite_t c96 h
    refine lv_iconst (v := -1) hx hb dX10_hoursTill_106 (by decide) ?_
    exact wz_iretE C hlk hr (so2 h).1 (so2 h).2 hW dX10_hoursTill_107
  · have h := ite_f c96 h
    refine lv_aload_n hx hb dX10_hoursTill_99 rfl (lv_at hl 0 rfl) ?_
    obtain ⟨x100, hg, h⟩ := ob h
    refine wz_gI C hW flX10_306 hg dX10_hoursTill_100 ?_
    refine lv_goto (tgt := 107) hx hb dX10_hoursTill_103 (by decide) ?_
    exact wz_iretE C hlk hr (so2 h).1 (so2 h).2 hW dX10_hoursTill_107
def bX10_hoursTill_60 (k20 : Nat → Int32 → Int32 → Int32 → AH → Option (Int32 × AH)) (a0 : Nat) (l3 : Int32) (l4 : Int32) (s0 : Int32) (z : AH) : Option (Int32 × AH) :=
  (fX10_goesOn a0 z).bind fun z63 =>
  (gI 9 31 z63 a0).bind fun x69 =>
  nm (l4 &&& (x69 ^^^ (-1 : Int32))) fun v75 =>
  (gI 9 31 z63 a0).bind fun x80 =>
  nm (s0 &&& (x80 ^^^ (-1 : Int32))) fun v86 =>
  k20 a0 l3 v75 v86 z63
set_option maxHeartbeats 4000000 in
set_option maxRecDepth 100000 in
theorem kbX10_hoursTill_60 {p : Program} {l : Launch} {e : Env} {s : State} {m : MethodId} {args : Array Value} {below : List Frame} {meth : Method} {c : Code} {G : GW} {r : Int32} {z' : AH} (C : Cx p m c cX10_hoursTill 6 s args RX10 G) (hlk : meth.locks = false) (hr : meth.sig.returnType = (some .int)) (k20 : Nat → Int32 → Int32 → Int32 → AH → Option (Int32 × AH)) (hk20 : ∀ (a0 : Nat) (l3 : Int32) (l4 : Int32) (l5 : Int32) (z : AH) (H : Heap) (locs : List Loc) (ls : Array Slot), k20 a0 l3 l4 l5 z = some (r, z') → Wb G z s H locs → lv_has ls 6 [(0, .ref (gB G + a0)), (3, .int l3), (4, .int l4), (5, .int l5)] → W p l e rmX10_hoursTill s m args below meth c H locs 0 0 (MQ below (Qi G r z') args s 0 0 (AA G)) (F0 m 20 ls [])) (a0 : Nat) (l3 : Int32) (l4 : Int32) (s0 : Int32) {z : AH} {H : Heap} {locs : List Loc} {ls : Array Slot} (h : bX10_hoursTill_60 k20 a0 l3 l4 s0 z = some (r, z')) (hW : Wb G z s H locs) (hl : lv_has ls 6 [(0, .ref (gB G + a0)), (3, .int l3), (4, .int l4)]) : W p l e rmX10_hoursTill s m args below meth c H locs 0 0 (MQ below (Qi G r z') args s 0 0 (AA G)) (F0 m 60 ls [.int s0]) := by
  have hx := C.1
  have hb := C.2.1
  unfold bX10_hoursTill_60 at h
  refine lv_istore (lv' := [(5, .int s0), (0, .ref (gB G + a0)), (3, .int l3), (4, .int l4)]) hx hb dX10_hoursTill_60 hl (by decide) rfl (fun ls hl => ?_)
  refine lv_aload_n hx hb dX10_hoursTill_62 rfl (lv_at hl 1 rfl) ?_
  obtain ⟨z63, hq, h⟩ := ob h
  refine wz_rV (c' := 0) (s' := 0) hW (wz_runV (rest := []) C hW lVX10_364 (ck hq).1 rfl (ctX10_goesOn l G a0 z hq) ⟨⟨rfl, rfl⟩, Nat.le_of_ble_eq_true rfl, Nat.le_of_ble_eq_true rfl⟩ rfl hl.1 rfl (Nat.le_of_ble_eq_true rfl) dX10_hoursTill_63 ⟨Nat.le_of_ble_eq_true rfl, Nat.le_of_ble_eq_true rfl⟩) rfl rfl (fun H locs hW => ?_)
  refine lv_iload hx hb dX10_hoursTill_66 (lv_at hl 3 rfl) ?_
  refine lv_aload_n hx hb dX10_hoursTill_68 rfl (lv_at hl 1 rfl) ?_
  obtain ⟨x69, hg, h⟩ := ob h
  refine wz_gI C hW flX10_288 hg dX10_hoursTill_69 ?_
  refine lv_iconst (v := -1) hx hb dX10_hoursTill_72 (by decide) ?_
  refine lv_ixor hx hb dX10_hoursTill_73 ?_
  refine lv_iand hx hb dX10_hoursTill_74 ?_
  refine lv_topi (fun v75 ev75 => ?_)
  have h := nm_to h ev75
  refine lv_istore (lv' := [(4, .int v75), (5, .int s0), (0, .ref (gB G + a0)), (3, .int l3)]) hx hb dX10_hoursTill_75 hl (by decide) rfl (fun ls hl => ?_)
  refine lv_iload hx hb dX10_hoursTill_77 (lv_at hl 1 rfl) ?_
  refine lv_aload_n hx hb dX10_hoursTill_79 rfl (lv_at hl 2 rfl) ?_
  obtain ⟨x80, hg, h⟩ := ob h
  refine wz_gI C hW flX10_288 hg dX10_hoursTill_80 ?_
  refine lv_iconst (v := -1) hx hb dX10_hoursTill_83 (by decide) ?_
  refine lv_ixor hx hb dX10_hoursTill_84 ?_
  refine lv_iand hx hb dX10_hoursTill_85 ?_
  refine lv_topi (fun v86 ev86 => ?_)
  have h := nm_to h ev86
  refine lv_istore (lv' := [(5, .int v86), (4, .int v75), (0, .ref (gB G + a0)), (3, .int l3)]) hx hb dX10_hoursTill_86 hl (by decide) rfl (fun ls hl => ?_)
  refine lv_goto (tgt := 20) hx hb dX10_hoursTill_88 (by decide) ?_
  exact hk20 a0 l3 v75 v86 z63 _ _ _ h hW (lv_sub hl [2, 3, 1, 0] rfl)
def bX10_hoursTill_20 (k20 : Nat → Int32 → Int32 → Int32 → AH → Option (Int32 × AH)) (a0 : Nat) (l3 : Int32) (l4 : Int32) (l5 : Int32) (z : AH) : Option (Int32 × AH) :=
  if (l4 &&& l5) = (0 : Int32) then (
    (gI 9 37 z a0).bind fun x29 =>
    if (99 : Int32) ≤ x29 then (
      bX10_hoursTill_91 a0 l4 l5 z
    ) else (
      (fX10_nextTo a0 l4 z).bind fun x40 =>
      if l3 = (0 : Int32) then (
        bX10_hoursTill_60 k20 a0 l3 x40 l5 z
      ) else (
        (fX10_nextTo a0 l5 z).bind fun x52 =>
        bX10_hoursTill_60 k20 a0 l3 x40 x52 z
      )
    )
  ) else (
    bX10_hoursTill_91 a0 l4 l5 z
  )
set_option maxHeartbeats 4000000 in
set_option maxRecDepth 100000 in
theorem kbX10_hoursTill_20 {p : Program} {l : Launch} {e : Env} {s : State} {m : MethodId} {args : Array Value} {below : List Frame} {meth : Method} {c : Code} {G : GW} {r : Int32} {z' : AH} (C : Cx p m c cX10_hoursTill 6 s args RX10 G) (hlk : meth.locks = false) (hr : meth.sig.returnType = (some .int)) (k20 : Nat → Int32 → Int32 → Int32 → AH → Option (Int32 × AH)) (hk20 : ∀ (a0 : Nat) (l3 : Int32) (l4 : Int32) (l5 : Int32) (z : AH) (H : Heap) (locs : List Loc) (ls : Array Slot), k20 a0 l3 l4 l5 z = some (r, z') → Wb G z s H locs → lv_has ls 6 [(0, .ref (gB G + a0)), (3, .int l3), (4, .int l4), (5, .int l5)] → W p l e rmX10_hoursTill s m args below meth c H locs 0 0 (MQ below (Qi G r z') args s 0 0 (AA G)) (F0 m 20 ls [])) (a0 : Nat) (l3 : Int32) (l4 : Int32) (l5 : Int32) {z : AH} {H : Heap} {locs : List Loc} {ls : Array Slot} (h : bX10_hoursTill_20 k20 a0 l3 l4 l5 z = some (r, z')) (hW : Wb G z s H locs) (hl : lv_has ls 6 [(0, .ref (gB G + a0)), (3, .int l3), (4, .int l4), (5, .int l5)]) : W p l e rmX10_hoursTill s m args below meth c H locs 0 0 (MQ below (Qi G r z') args s 0 0 (AA G)) (F0 m 20 ls []) := by
  have hx := C.1
  have hb := C.2.1
  unfold bX10_hoursTill_20 at h
  refine lv_iload hx hb dX10_hoursTill_20 (lv_at hl 2 rfl) ?_
  refine lv_iload hx hb dX10_hoursTill_22 (lv_at hl 3 rfl) ?_
  refine lv_iand hx hb dX10_hoursTill_24 ?_
  refine lv_if_ne (tgt := 91) hx hb dX10_hoursTill_25 (by decide) (fun c25 => ?_) (fun c25 => ?_)
  · have h := ite_f c25 h
    exact kbX10_hoursTill_91 C hlk hr a0 l4 l5 h hW (lv_sub hl [0, 2, 3] rfl)
  · have h := ite_t c25 h
    refine lv_aload_n hx hb dX10_hoursTill_28 rfl (lv_at hl 0 rfl) ?_
    obtain ⟨x29, hg, h⟩ := ob h
    refine wz_gI C hW flX10_306 hg dX10_hoursTill_29 ?_
    refine lv_bipush (v := 99) hx hb dX10_hoursTill_32 (by decide) ?_
    refine lv_icmp_ge (tgt := 91) hx hb dX10_hoursTill_34 (by decide) (fun c34 => ?_) (fun c34 => ?_)
    · have h := ite_t c34 h
      exact kbX10_hoursTill_91 C hlk hr a0 l4 l5 h hW (lv_sub hl [0, 2, 3] rfl)
    · have h := ite_f c34 h
      refine lv_aload_n hx hb dX10_hoursTill_37 rfl (lv_at hl 0 rfl) ?_
      refine lv_iload hx hb dX10_hoursTill_38 (lv_at hl 2 rfl) ?_
      obtain ⟨x40, hq, h⟩ := ob h
      refine wz_rI (c' := 0) (s' := 0) hW (wz_runV (rest := []) C hW lVX10_407 (ck hq).1 rfl (ctX10_nextTo l G a0 l4 z hq) ⟨⟨rfl, rfl⟩, Nat.le_of_ble_eq_true rfl, Nat.le_of_ble_eq_true rfl⟩ rfl hl.1 rfl (Nat.le_of_ble_eq_true rfl) dX10_hoursTill_40 ⟨Nat.le_of_ble_eq_true rfl, Nat.le_of_ble_eq_true rfl⟩) rfl rfl (fun H locs hW => ?_)
      refine lv_istore (lv' := [(4, .int x40), (0, .ref (gB G + a0)), (3, .int l3), (5, .int l5)]) hx hb dX10_hoursTill_43 hl (by decide) rfl (fun ls hl => ?_)
      refine lv_iload_n hx hb dX10_hoursTill_45 rfl (lv_at hl 2 rfl) ?_
      refine lv_if_eq (tgt := 58) hx hb dX10_hoursTill_46 (by decide) (fun c46 => ?_) (fun c46 => ?_)
      · have h := ite_t c46 h
        refine lv_iload hx hb dX10_hoursTill_58 (lv_at hl 3 rfl) ?_
        exact kbX10_hoursTill_60 C hlk hr k20 hk20 a0 l3 x40 l5 h hW (lv_sub hl [1, 2, 0] rfl)
      · have h := ite_f c46 h
        refine lv_aload_n hx hb dX10_hoursTill_49 rfl (lv_at hl 1 rfl) ?_
        refine lv_iload hx hb dX10_hoursTill_50 (lv_at hl 3 rfl) ?_
        obtain ⟨x52, hq, h⟩ := ob h
        refine wz_rI (c' := 0) (s' := 0) hW (wz_runV (rest := []) C hW lVX10_407 (ck hq).1 rfl (ctX10_nextTo l G a0 l5 z hq) ⟨⟨rfl, rfl⟩, Nat.le_of_ble_eq_true rfl, Nat.le_of_ble_eq_true rfl⟩ rfl hl.1 rfl (Nat.le_of_ble_eq_true rfl) dX10_hoursTill_52 ⟨Nat.le_of_ble_eq_true rfl, Nat.le_of_ble_eq_true rfl⟩) rfl rfl (fun H locs hW => ?_)
        refine lv_goto (tgt := 60) hx hb dX10_hoursTill_55 (by decide) ?_
        exact kbX10_hoursTill_60 C hlk hr k20 hk20 a0 l3 x40 x52 h hW (lv_sub hl [1, 2, 0] rfl)
def fX10_hoursTill_20 : Nat → Nat → Int32 → Int32 → Int32 → AH → Option (Int32 × AH)
  | 0, _, _, _, _, _ => none
  | n + 1, a0, l3, l4, l5, z => bX10_hoursTill_20 (fX10_hoursTill_20 n) a0 l3 l4 l5 z
theorem klX10_hoursTill_20 {p : Program} {l : Launch} {e : Env} {s : State} {m : MethodId} {args : Array Value} {below : List Frame} {meth : Method} {c : Code} {G : GW} {r : Int32} {z' : AH} (C : Cx p m c cX10_hoursTill 6 s args RX10 G) (hlk : meth.locks = false) (hr : meth.sig.returnType = (some .int)) : ∀ (n : Nat) (a0 : Nat) (l3 : Int32) (l4 : Int32) (l5 : Int32) (z : AH) (H : Heap) (locs : List Loc) (ls : Array Slot), fX10_hoursTill_20 n a0 l3 l4 l5 z = some (r, z') → Wb G z s H locs → lv_has ls 6 [(0, .ref (gB G + a0)), (3, .int l3), (4, .int l4), (5, .int l5)] → W p l e rmX10_hoursTill s m args below meth c H locs 0 0 (MQ below (Qi G r z') args s 0 0 (AA G)) (F0 m 20 ls []) := by
  intro n
  induction n with
  | zero => intro a0 l3 l4 l5 z H locs ls h; have h : (none : Option (Int32 × AH)) = some (r, z') := h; cases h
  | succ n ih => intro a0 l3 l4 l5 z H locs ls h hW hl; exact kbX10_hoursTill_20 C hlk hr (fX10_hoursTill_20 n) (fun a0 l3 l4 l5 z H locs ls h hW hl => ih a0 l3 l4 l5 z H locs ls h hW hl) a0 l3 l4 l5 h hW hl
def fX10_hoursTill (a0 : Nat) (l1 : Int32) (l2 : Int32) (l3 : Int32) (z : AH) : Option (Int32 × AH) :=
  if isO 9 z a0 = true then
    (gI 9 31 z a0).bind fun x2 =>
    nm (l1 &&& (x2 ^^^ (-1 : Int32))) fun v8 =>
    (gI 9 31 z a0).bind fun x12 =>
    nm (l2 &&& (x12 ^^^ (-1 : Int32))) fun v18 =>
    fX10_hoursTill_20 FU a0 l3 v8 v18 z
  else none
set_option maxHeartbeats 4000000 in
set_option maxRecDepth 100000 in
theorem ctX10_hoursTill (l : Launch) (G : GW) (a0 : Nat) (l1 : Int32) (l2 : Int32) (l3 : Int32) (z : AH) {r : Int32} {z' : AH} (h : fX10_hoursTill a0 l1 l2 l3 z = some (r, z')) : Met l yX10_hoursTill (wy yX10_hoursTill cX10_hoursTill 6 (some .int)) rmX10_hoursTill (Pz G [.ref (gB G + a0), .int l1, .int l2, .int l3] z) (Qi G r z') 0 0 (AA G) := by
  refine wz_ent (own := RX10) (by decide +kernel) rfl (fun p e s m below meth c ls C hlk hr hin hW hl => ?_) (Nat.le_of_ble_eq_true rfl)
  have hl : lv_has ls 6 [(0, .ref (gB G + a0)), (1, .int l1), (2, .int l2), (3, .int l3)] := hl
  have hx := C.1
  have hb := C.2.1
  unfold fX10_hoursTill at h
  obtain ⟨-, h⟩ := ck h
  refine lv_iload_n hx hb dX10_hoursTill_0 rfl (lv_at hl 1 rfl) ?_
  refine lv_aload_n hx hb dX10_hoursTill_1 rfl (lv_at hl 0 rfl) ?_
  obtain ⟨x2, hg, h⟩ := ob h
  refine wz_gI C hW flX10_288 hg dX10_hoursTill_2 ?_
  refine lv_iconst (v := -1) hx hb dX10_hoursTill_5 (by decide) ?_
  refine lv_ixor hx hb dX10_hoursTill_6 ?_
  refine lv_iand hx hb dX10_hoursTill_7 ?_
  refine lv_topi (fun v8 ev8 => ?_)
  have h := nm_to h ev8
  refine lv_istore (lv' := [(4, .int v8), (0, .ref (gB G + a0)), (1, .int l1), (2, .int l2), (3, .int l3)]) hx hb dX10_hoursTill_8 hl (by decide) rfl (fun ls hl => ?_)
  refine lv_iload_n hx hb dX10_hoursTill_10 rfl (lv_at hl 3 rfl) ?_
  refine lv_aload_n hx hb dX10_hoursTill_11 rfl (lv_at hl 1 rfl) ?_
  obtain ⟨x12, hg, h⟩ := ob h
  refine wz_gI C hW flX10_288 hg dX10_hoursTill_12 ?_
  refine lv_iconst (v := -1) hx hb dX10_hoursTill_15 (by decide) ?_
  refine lv_ixor hx hb dX10_hoursTill_16 ?_
  refine lv_iand hx hb dX10_hoursTill_17 ?_
  refine lv_topi (fun v18 ev18 => ?_)
  have h := nm_to h ev18
  refine lv_istore (lv' := [(5, .int v18), (4, .int v8), (0, .ref (gB G + a0)), (1, .int l1), (2, .int l2), (3, .int l3)]) hx hb dX10_hoursTill_18 hl (by decide) rfl (fun ls hl => ?_)
  exact klX10_hoursTill_20 C hlk hr FU a0 l3 v8 v18 z _ _ _ h hW (lv_sub hl [2, 5, 1, 0] rfl)
theorem dX10_sureBy_0 : decode cX10_sureBy 0 = .ok (.iconst (-1), 1) := by decide +kernel
theorem dX10_sureBy_1 : decode cX10_sureBy 1 = .ok (.istore_n 3, 1) := by decide +kernel
theorem dX10_sureBy_2 : decode cX10_sureBy 2 = .ok (.iconst 1, 1) := by decide +kernel
theorem dX10_sureBy_3 : decode cX10_sureBy 3 = .ok (.istore 4, 2) := by decide +kernel
theorem dX10_sureBy_5 : decode cX10_sureBy 5 = .ok (.iload 4, 2) := by decide +kernel
theorem dX10_sureBy_7 : decode cX10_sureBy 7 = .ok (.bipush 99, 2) := by decide +kernel
theorem dX10_sureBy_9 : decode cX10_sureBy 9 = .ok (.if_icmp .gt 118, 3) := by decide +kernel
theorem dX10_sureBy_12 : decode cX10_sureBy 12 = .ok (.iconst 0, 1) := by decide +kernel
theorem dX10_sureBy_13 : decode cX10_sureBy 13 = .ok (.istore 5, 2) := by decide +kernel
theorem dX10_sureBy_15 : decode cX10_sureBy 15 = .ok (.iconst 0, 1) := by decide +kernel
theorem dX10_sureBy_16 : decode cX10_sureBy 16 = .ok (.istore 6, 2) := by decide +kernel
theorem dX10_sureBy_18 : decode cX10_sureBy 18 = .ok (.iload 6, 2) := by decide +kernel
theorem dX10_sureBy_20 : decode cX10_sureBy 20 = .ok (.aload_n 0, 1) := by decide +kernel
theorem dX10_sureBy_21 : decode cX10_sureBy 21 = .ok (.getfield 276, 3) := by decide +kernel
theorem dX10_sureBy_24 : decode cX10_sureBy 24 = .ok (.if_icmp .ge 46, 3) := by decide +kernel
theorem dX10_sureBy_27 : decode cX10_sureBy 27 = .ok (.iload 5, 2) := by decide +kernel
theorem dX10_sureBy_29 : decode cX10_sureBy 29 = .ok (.aload_n 0, 1) := by decide +kernel
theorem dX10_sureBy_30 : decode cX10_sureBy 30 = .ok (.getfield 288, 3) := by decide +kernel
theorem dX10_sureBy_33 : decode cX10_sureBy 33 = .ok (.iload 6, 2) := by decide +kernel
theorem dX10_sureBy_35 : decode cX10_sureBy 35 = .ok (.invokestatic 85, 3) := by decide +kernel
theorem dX10_sureBy_38 : decode cX10_sureBy 38 = .ok (.ifCond .ne 22, 3) := by decide +kernel
theorem dX10_sureBy_41 : decode cX10_sureBy 41 = .ok (.aload_n 0, 1) := by decide +kernel
theorem dX10_sureBy_42 : decode cX10_sureBy 42 = .ok (.getfield 44, 3) := by decide +kernel
theorem dX10_sureBy_45 : decode cX10_sureBy 45 = .ok (.iload 6, 2) := by decide +kernel
theorem dX10_sureBy_47 : decode cX10_sureBy 47 = .ok (.iaload, 1) := by decide +kernel
theorem dX10_sureBy_48 : decode cX10_sureBy 48 = .ok (.iload 4, 2) := by decide +kernel
theorem dX10_sureBy_50 : decode cX10_sureBy 50 = .ok (.if_icmp .lt 10, 3) := by decide +kernel
theorem dX10_sureBy_53 : decode cX10_sureBy 53 = .ok (.iconst 1, 1) := by decide +kernel
theorem dX10_sureBy_54 : decode cX10_sureBy 54 = .ok (.iload 6, 2) := by decide +kernel
theorem dX10_sureBy_56 : decode cX10_sureBy 56 = .ok (.ishl, 1) := by decide +kernel
theorem dX10_sureBy_57 : decode cX10_sureBy 57 = .ok (.goto 4, 3) := by decide +kernel
theorem dX10_sureBy_60 : decode cX10_sureBy 60 = .ok (.iconst 0, 1) := by decide +kernel
theorem dX10_sureBy_61 : decode cX10_sureBy 61 = .ok (.ior, 1) := by decide +kernel
theorem dX10_sureBy_62 : decode cX10_sureBy 62 = .ok (.istore 5, 2) := by decide +kernel
theorem dX10_sureBy_64 : decode cX10_sureBy 64 = .ok (.iinc 6 1, 3) := by decide +kernel
theorem dX10_sureBy_67 : decode cX10_sureBy 67 = .ok (.goto (-49), 3) := by decide +kernel
theorem dX10_sureBy_70 : decode cX10_sureBy 70 = .ok (.iconst 1, 1) := by decide +kernel
theorem dX10_sureBy_71 : decode cX10_sureBy 71 = .ok (.iload_n 1, 1) := by decide +kernel
theorem dX10_sureBy_72 : decode cX10_sureBy 72 = .ok (.ishl, 1) := by decide +kernel
theorem dX10_sureBy_73 : decode cX10_sureBy 73 = .ok (.iload 5, 2) := by decide +kernel
theorem dX10_sureBy_75 : decode cX10_sureBy 75 = .ok (.iand, 1) := by decide +kernel
theorem dX10_sureBy_76 : decode cX10_sureBy 76 = .ok (.istore 6, 2) := by decide +kernel
theorem dX10_sureBy_78 : decode cX10_sureBy 78 = .ok (.iconst 0, 1) := by decide +kernel
theorem dX10_sureBy_79 : decode cX10_sureBy 79 = .ok (.istore 7, 2) := by decide +kernel
theorem dX10_sureBy_81 : decode cX10_sureBy 81 = .ok (.iload 7, 2) := by decide +kernel
theorem dX10_sureBy_83 : decode cX10_sureBy 83 = .ok (.bipush 8, 2) := by decide +kernel
theorem dX10_sureBy_85 : decode cX10_sureBy 85 = .ok (.if_icmp .ge 20, 3) := by decide +kernel
theorem dX10_sureBy_88 : decode cX10_sureBy 88 = .ok (.aload_n 0, 1) := by decide +kernel
theorem dX10_sureBy_89 : decode cX10_sureBy 89 = .ok (.iload 6, 2) := by decide +kernel
theorem dX10_sureBy_91 : decode cX10_sureBy 91 = .ok (.invokevirtual 407, 3) := by decide +kernel
theorem dX10_sureBy_94 : decode cX10_sureBy 94 = .ok (.iload 5, 2) := by decide +kernel
theorem dX10_sureBy_96 : decode cX10_sureBy 96 = .ok (.iand, 1) := by decide +kernel
theorem dX10_sureBy_97 : decode cX10_sureBy 97 = .ok (.istore 6, 2) := by decide +kernel
theorem dX10_sureBy_99 : decode cX10_sureBy 99 = .ok (.iinc 7 1, 3) := by decide +kernel
theorem dX10_sureBy_102 : decode cX10_sureBy 102 = .ok (.goto (-21), 3) := by decide +kernel
theorem dX10_sureBy_105 : decode cX10_sureBy 105 = .ok (.iload 6, 2) := by decide +kernel
theorem dX10_sureBy_107 : decode cX10_sureBy 107 = .ok (.iload_n 2, 1) := by decide +kernel
theorem dX10_sureBy_108 : decode cX10_sureBy 108 = .ok (.invokestatic 85, 3) := by decide +kernel
theorem dX10_sureBy_111 : decode cX10_sureBy 111 = .ok (.ifCond .eq 8, 3) := by decide +kernel
theorem dX10_sureBy_114 : decode cX10_sureBy 114 = .ok (.iload 4, 2) := by decide +kernel
theorem dX10_sureBy_116 : decode cX10_sureBy 116 = .ok (.goto 4, 3) := by decide +kernel
theorem dX10_sureBy_119 : decode cX10_sureBy 119 = .ok (.iload_n 3, 1) := by decide +kernel
theorem dX10_sureBy_120 : decode cX10_sureBy 120 = .ok (.istore_n 3, 1) := by decide +kernel
theorem dX10_sureBy_121 : decode cX10_sureBy 121 = .ok (.iinc 4 1, 3) := by decide +kernel
theorem dX10_sureBy_124 : decode cX10_sureBy 124 = .ok (.goto (-119), 3) := by decide +kernel
theorem dX10_sureBy_127 : decode cX10_sureBy 127 = .ok (.iload_n 3, 1) := by decide +kernel
theorem dX10_sureBy_128 : decode cX10_sureBy 128 = .ok (.ireturn, 1) := by decide +kernel
abbrev rmX10_sureBy : Room := { frames := 2, cells := 0, slots := 0, locals := 46 }
def bX10_sureBy_81 (k5 : Nat → Int32 → Int32 → Int32 → Int32 → Option (Int32)) (k81 : Nat → Int32 → Int32 → Int32 → Int32 → Int32 → Int32 → Int32 → Option (Int32)) (a0 : Nat) (l1 : Int32) (l2 : Int32) (l3 : Int32) (l4 : Int32) (l5 : Int32) (l6 : Int32) (l7 : Int32) (z : AH) : Option (Int32) :=
  if (8 : Int32) ≤ l7 then (
    if (fX10_has l6 l2) = (0 : Int32) then (
      nm (l4 + (1 : Int32)) fun v121 =>
      k5 a0 l1 l2 l3 v121
    ) else (
      nm (l4 + (1 : Int32)) fun v121 =>
      k5 a0 l1 l2 l4 v121
    )
  ) else (
    (fX10_nextTo a0 l6 z).bind fun x91 =>
    nm (x91 &&& l5) fun v97 =>
    nm (l7 + (1 : Int32)) fun v99 =>
    k81 a0 l1 l2 l3 l4 l5 v97 v99
  )
set_option maxHeartbeats 4000000 in
set_option maxRecDepth 100000 in
theorem kbX10_sureBy_81 {p : Program} {l : Launch} {e : Env} {s : State} {m : MethodId} {args : Array Value} {below : List Frame} {meth : Method} {c : Code} {G : GW} {r : Int32} (C : Cx p m c cX10_sureBy 8 s args RX10 G) (hlk : meth.locks = false) (hr : meth.sig.returnType = (some .int)) {z : AH} (k5 : Nat → Int32 → Int32 → Int32 → Int32 → Option (Int32)) (k81 : Nat → Int32 → Int32 → Int32 → Int32 → Int32 → Int32 → Int32 → Option (Int32)) (hk5 : ∀ (a0 : Nat) (l1 : Int32) (l2 : Int32) (l3 : Int32) (l4 : Int32) (H : Heap) (locs : List Loc) (ls : Array Slot), k5 a0 l1 l2 l3 l4 = some r → Wb G z s H locs → lv_has ls 8 [(0, .ref (gB G + a0)), (1, .int l1), (2, .int l2), (3, .int l3), (4, .int l4)] → W p l e rmX10_sureBy s m args below meth c H locs 0 0 (MQ below (Qi G r z) args s 0 0 (AA G)) (F0 m 5 ls [])) (hk81 : ∀ (a0 : Nat) (l1 : Int32) (l2 : Int32) (l3 : Int32) (l4 : Int32) (l5 : Int32) (l6 : Int32) (l7 : Int32) (H : Heap) (locs : List Loc) (ls : Array Slot), k81 a0 l1 l2 l3 l4 l5 l6 l7 = some r → Wb G z s H locs → lv_has ls 8 [(0, .ref (gB G + a0)), (1, .int l1), (2, .int l2), (3, .int l3), (4, .int l4), (5, .int l5), (6, .int l6), (7, .int l7)] → W p l e rmX10_sureBy s m args below meth c H locs 0 0 (MQ below (Qi G r z) args s 0 0 (AA G)) (F0 m 81 ls [])) (a0 : Nat) (l1 : Int32) (l2 : Int32) (l3 : Int32) (l4 : Int32) (l5 : Int32) (l6 : Int32) (l7 : Int32) {H : Heap} {locs : List Loc} {ls : Array Slot} (h : bX10_sureBy_81 k5 k81 a0 l1 l2 l3 l4 l5 l6 l7 z = some r) (hW : Wb G z s H locs) (hl : lv_has ls 8 [(0, .ref (gB G + a0)), (1, .int l1), (2, .int l2), (3, .int l3), (4, .int l4), (5, .int l5), (6, .int l6), (7, .int l7)]) : W p l e rmX10_sureBy s m args below meth c H locs 0 0 (MQ below (Qi G r z) args s 0 0 (AA G)) (F0 m 81 ls []) := by
  have hx := C.1
  have hb := C.2.1
  unfold bX10_sureBy_81 at h
  refine lv_iload hx hb dX10_sureBy_81 (lv_at hl 7 rfl) ?_
  refine lv_bipush (v := 8) hx hb dX10_sureBy_83 (by decide) ?_
  refine lv_icmp_ge (tgt := 105) hx hb dX10_sureBy_85 (by decide) (fun c85 => ?_) (fun c85 => ?_)
  · have h := ite_t c85 h
    refine lv_iload hx hb dX10_sureBy_105 (lv_at hl 6 rfl) ?_
    refine lv_iload_n hx hb dX10_sureBy_107 rfl (lv_at hl 2 rfl) ?_
    refine wz_rI (c' := 0) (s' := 0) hW (wz_runS (rest := []) C hW lTX10_85 (ctX10_has l G l6 l2 z rfl) ⟨⟨rfl, rfl⟩, Nat.le_of_ble_eq_true rfl, Nat.le_of_ble_eq_true rfl⟩ rfl hl.1 rfl (Nat.le_of_ble_eq_true rfl) dX10_sureBy_108 ⟨Nat.le_of_ble_eq_true rfl, Nat.le_of_ble_eq_true rfl⟩) rfl rfl (fun H locs hW => ?_)
    refine lv_if_eq (tgt := 119) hx hb dX10_sureBy_111 (by decide) (fun c111 => ?_) (fun c111 => ?_)
    · have h := ite_t c111 h
      refine lv_iload_n hx hb dX10_sureBy_119 rfl (lv_at hl 3 rfl) ?_
      refine lv_istore_n (lv' := [(3, .int l3), (0, .ref (gB G + a0)), (1, .int l1), (2, .int l2), (4, .int l4), (5, .int l5), (6, .int l6), (7, .int l7)]) hx hb dX10_sureBy_120 rfl hl (by decide) rfl (fun ls hl => ?_)
      obtain ⟨v121, ev121⟩ : ∃ y : Int32, y = (l4 + (1 : Int32)) := ⟨_, rfl⟩
      have h := nm_to h ev121
      refine lv_iinc (v := v121) (lv' := [(4, .int v121), (3, .int l3), (0, .ref (gB G + a0)), (1, .int l1), (2, .int l2), (5, .int l5), (6, .int l6), (7, .int l7)]) hx hb dX10_sureBy_121 hl (k := 4) rfl (by rw [ev121]; rfl) (by decide) rfl (fun ls hl => ?_)
      refine lv_goto (tgt := 5) hx hb dX10_sureBy_124 (by decide) ?_
      exact hk5 a0 l1 l2 l3 v121 _ _ _ h hW (lv_sub hl [2, 3, 4, 1, 0] rfl)
    · have h := ite_f c111 h
      refine lv_iload hx hb dX10_sureBy_114 (lv_at hl 4 rfl) ?_
      refine lv_goto (tgt := 120) hx hb dX10_sureBy_116 (by decide) ?_
      refine lv_istore_n (lv' := [(3, .int l4), (0, .ref (gB G + a0)), (1, .int l1), (2, .int l2), (4, .int l4), (5, .int l5), (6, .int l6), (7, .int l7)]) hx hb dX10_sureBy_120 rfl hl (by decide) rfl (fun ls hl => ?_)
      obtain ⟨v121, ev121⟩ : ∃ y : Int32, y = (l4 + (1 : Int32)) := ⟨_, rfl⟩
      have h := nm_to h ev121
      refine lv_iinc (v := v121) (lv' := [(4, .int v121), (3, .int l4), (0, .ref (gB G + a0)), (1, .int l1), (2, .int l2), (5, .int l5), (6, .int l6), (7, .int l7)]) hx hb dX10_sureBy_121 hl (k := 4) rfl (by rw [ev121]; rfl) (by decide) rfl (fun ls hl => ?_)
      refine lv_goto (tgt := 5) hx hb dX10_sureBy_124 (by decide) ?_
      exact hk5 a0 l1 l2 l4 v121 _ _ _ h hW (lv_sub hl [2, 3, 4, 1, 0] rfl)
  · have h := ite_f c85 h
    refine lv_aload_n hx hb dX10_sureBy_88 rfl (lv_at hl 0 rfl) ?_
    refine lv_iload hx hb dX10_sureBy_89 (lv_at hl 6 rfl) ?_
    obtain ⟨x91, hq, h⟩ := ob h
    refine wz_rI (c' := 0) (s' := 0) hW (wz_runV (rest := []) C hW lVX10_407 (ck hq).1 rfl (ctX10_nextTo l G a0 l6 z hq) ⟨⟨rfl, rfl⟩, Nat.le_of_ble_eq_true rfl, Nat.le_of_ble_eq_true rfl⟩ rfl hl.1 rfl (Nat.le_of_ble_eq_true rfl) dX10_sureBy_91 ⟨Nat.le_of_ble_eq_true rfl, Nat.le_of_ble_eq_true rfl⟩) rfl rfl (fun H locs hW => ?_)
    refine lv_iload hx hb dX10_sureBy_94 (lv_at hl 5 rfl) ?_
    refine lv_iand hx hb dX10_sureBy_96 ?_
    refine lv_topi (fun v97 ev97 => ?_)
    have h := nm_to h ev97
    refine lv_istore (lv' := [(6, .int v97), (0, .ref (gB G + a0)), (1, .int l1), (2, .int l2), (3, .int l3), (4, .int l4), (5, .int l5), (7, .int l7)]) hx hb dX10_sureBy_97 hl (by decide) rfl (fun ls hl => ?_)
    obtain ⟨v99, ev99⟩ : ∃ y : Int32, y = (l7 + (1 : Int32)) := ⟨_, rfl⟩
    have h := nm_to h ev99
    refine lv_iinc (v := v99) (lv' := [(7, .int v99), (6, .int v97), (0, .ref (gB G + a0)), (1, .int l1), (2, .int l2), (3, .int l3), (4, .int l4), (5, .int l5)]) hx hb dX10_sureBy_99 hl (k := 7) rfl (by rw [ev99]; rfl) (by decide) rfl (fun ls hl => ?_)
    refine lv_goto (tgt := 81) hx hb dX10_sureBy_102 (by decide) ?_
    exact hk81 a0 l1 l2 l3 l4 l5 v97 v99 _ _ _ h hW (lv_sub hl [2, 3, 4, 5, 6, 7, 1, 0] rfl)
def fX10_sureBy_81 (k5 : Nat → Int32 → Int32 → Int32 → Int32 → Option (Int32)) (z : AH) : Nat → Nat → Int32 → Int32 → Int32 → Int32 → Int32 → Int32 → Int32 → Option (Int32)
  | 0, _, _, _, _, _, _, _, _ => none
  | n + 1, a0, l1, l2, l3, l4, l5, l6, l7 => bX10_sureBy_81 k5 (fX10_sureBy_81 k5 z n) a0 l1 l2 l3 l4 l5 l6 l7 z
theorem klX10_sureBy_81 {p : Program} {l : Launch} {e : Env} {s : State} {m : MethodId} {args : Array Value} {below : List Frame} {meth : Method} {c : Code} {G : GW} {r : Int32} (C : Cx p m c cX10_sureBy 8 s args RX10 G) (hlk : meth.locks = false) (hr : meth.sig.returnType = (some .int)) {z : AH} (k5 : Nat → Int32 → Int32 → Int32 → Int32 → Option (Int32)) (hk5 : ∀ (a0 : Nat) (l1 : Int32) (l2 : Int32) (l3 : Int32) (l4 : Int32) (H : Heap) (locs : List Loc) (ls : Array Slot), k5 a0 l1 l2 l3 l4 = some r → Wb G z s H locs → lv_has ls 8 [(0, .ref (gB G + a0)), (1, .int l1), (2, .int l2), (3, .int l3), (4, .int l4)] → W p l e rmX10_sureBy s m args below meth c H locs 0 0 (MQ below (Qi G r z) args s 0 0 (AA G)) (F0 m 5 ls [])) : ∀ (n : Nat) (a0 : Nat) (l1 : Int32) (l2 : Int32) (l3 : Int32) (l4 : Int32) (l5 : Int32) (l6 : Int32) (l7 : Int32) (H : Heap) (locs : List Loc) (ls : Array Slot), fX10_sureBy_81 k5 z n a0 l1 l2 l3 l4 l5 l6 l7 = some r → Wb G z s H locs → lv_has ls 8 [(0, .ref (gB G + a0)), (1, .int l1), (2, .int l2), (3, .int l3), (4, .int l4), (5, .int l5), (6, .int l6), (7, .int l7)] → W p l e rmX10_sureBy s m args below meth c H locs 0 0 (MQ below (Qi G r z) args s 0 0 (AA G)) (F0 m 81 ls []) := by
  intro n
  induction n with
  | zero => intro a0 l1 l2 l3 l4 l5 l6 l7 H locs ls h; have h : (none : Option (Int32)) = some r := h; cases h
  | succ n ih => intro a0 l1 l2 l3 l4 l5 l6 l7 H locs ls h hW hl; exact kbX10_sureBy_81 C hlk hr k5 (fX10_sureBy_81 k5 z n) hk5 (fun a0 l1 l2 l3 l4 l5 l6 l7 H locs ls h hW hl => ih a0 l1 l2 l3 l4 l5 l6 l7 H locs ls h hW hl) a0 l1 l2 l3 l4 l5 l6 l7 h hW hl
def bX10_sureBy_18 (k5 : Nat → Int32 → Int32 → Int32 → Int32 → Option (Int32)) (k18 : Nat → Int32 → Int32 → Int32 → Int32 → Int32 → Int32 → Option (Int32)) (a0 : Nat) (l1 : Int32) (l2 : Int32) (l3 : Int32) (l4 : Int32) (l5 : Int32) (l6 : Int32) (z : AH) : Option (Int32) :=
  (gI 9 26 z a0).bind fun x21 =>
  if x21 ≤ l6 then (
    nm ((shl (1 : Int32) l1) &&& l5) fun v76 =>
    fX10_sureBy_81 k5 z FU a0 l1 l2 l3 l4 l5 v76 (0 : Int32)
  ) else (
    (gI 9 31 z a0).bind fun x30 =>
    if (fX10_has x30 l6) = (0 : Int32) then (
      (gN 9 28 z a0).bind fun b42 =>
      (ixI 0 z b42 l6).bind fun x47 =>
      if x47 < l4 then (
        nm (l5 ||| (0 : Int32)) fun v62 =>
        nm (l6 + (1 : Int32)) fun v64 =>
        k18 a0 l1 l2 l3 l4 v62 v64
      ) else (
        nm (l5 ||| (shl (1 : Int32) l6)) fun v62 =>
        nm (l6 + (1 : Int32)) fun v64 =>
        k18 a0 l1 l2 l3 l4 v62 v64
      )
    ) else (
      nm (l5 ||| (0 : Int32)) fun v62 =>
      nm (l6 + (1 : Int32)) fun v64 =>
      k18 a0 l1 l2 l3 l4 v62 v64
    )
  )
set_option maxHeartbeats 4000000 in
set_option maxRecDepth 100000 in
theorem kbX10_sureBy_18 {p : Program} {l : Launch} {e : Env} {s : State} {m : MethodId} {args : Array Value} {below : List Frame} {meth : Method} {c : Code} {G : GW} {r : Int32} (C : Cx p m c cX10_sureBy 8 s args RX10 G) (hlk : meth.locks = false) (hr : meth.sig.returnType = (some .int)) {z : AH} (k5 : Nat → Int32 → Int32 → Int32 → Int32 → Option (Int32)) (k18 : Nat → Int32 → Int32 → Int32 → Int32 → Int32 → Int32 → Option (Int32)) (hk5 : ∀ (a0 : Nat) (l1 : Int32) (l2 : Int32) (l3 : Int32) (l4 : Int32) (H : Heap) (locs : List Loc) (ls : Array Slot), k5 a0 l1 l2 l3 l4 = some r → Wb G z s H locs → lv_has ls 8 [(0, .ref (gB G + a0)), (1, .int l1), (2, .int l2), (3, .int l3), (4, .int l4)] → W p l e rmX10_sureBy s m args below meth c H locs 0 0 (MQ below (Qi G r z) args s 0 0 (AA G)) (F0 m 5 ls [])) (hk18 : ∀ (a0 : Nat) (l1 : Int32) (l2 : Int32) (l3 : Int32) (l4 : Int32) (l5 : Int32) (l6 : Int32) (H : Heap) (locs : List Loc) (ls : Array Slot), k18 a0 l1 l2 l3 l4 l5 l6 = some r → Wb G z s H locs → lv_has ls 8 [(0, .ref (gB G + a0)), (1, .int l1), (2, .int l2), (3, .int l3), (4, .int l4), (5, .int l5), (6, .int l6)] → W p l e rmX10_sureBy s m args below meth c H locs 0 0 (MQ below (Qi G r z) args s 0 0 (AA G)) (F0 m 18 ls [])) (a0 : Nat) (l1 : Int32) (l2 : Int32) (l3 : Int32) (l4 : Int32) (l5 : Int32) (l6 : Int32) {H : Heap} {locs : List Loc} {ls : Array Slot} (h : bX10_sureBy_18 k5 k18 a0 l1 l2 l3 l4 l5 l6 z = some r) (hW : Wb G z s H locs) (hl : lv_has ls 8 [(0, .ref (gB G + a0)), (1, .int l1), (2, .int l2), (3, .int l3), (4, .int l4), (5, .int l5), (6, .int l6)]) : W p l e rmX10_sureBy s m args below meth c H locs 0 0 (MQ below (Qi G r z) args s 0 0 (AA G)) (F0 m 18 ls []) := by
  have hx := C.1
  have hb := C.2.1
  unfold bX10_sureBy_18 at h
  refine lv_iload hx hb dX10_sureBy_18 (lv_at hl 6 rfl) ?_
  refine lv_aload_n hx hb dX10_sureBy_20 rfl (lv_at hl 0 rfl) ?_
  obtain ⟨x21, hg, h⟩ := ob h
  refine wz_gI C hW flX10_276 hg dX10_sureBy_21 ?_
  refine lv_icmp_ge (tgt := 70) hx hb dX10_sureBy_24 (by decide) (fun c24 => ?_) (fun c24 => ?_)
  · have h := ite_t c24 h
    refine lv_iconst (v := 1) hx hb dX10_sureBy_70 (by decide) ?_
    refine lv_iload_n hx hb dX10_sureBy_71 rfl (lv_at hl 1 rfl) ?_
    refine wz_shl hx hb dX10_sureBy_72 ?_
    refine lv_iload hx hb dX10_sureBy_73 (lv_at hl 5 rfl) ?_
    refine lv_iand hx hb dX10_sureBy_75 ?_
    refine lv_topi (fun v76 ev76 => ?_)
    have h := nm_to h ev76
    refine lv_istore (lv' := [(6, .int v76), (0, .ref (gB G + a0)), (1, .int l1), (2, .int l2), (3, .int l3), (4, .int l4), (5, .int l5)]) hx hb dX10_sureBy_76 hl (by decide) rfl (fun ls hl => ?_)
    refine lv_iconst (v := 0) hx hb dX10_sureBy_78 (by decide) ?_
    refine lv_istore (lv' := [(7, .int (0 : Int32)), (6, .int v76), (0, .ref (gB G + a0)), (1, .int l1), (2, .int l2), (3, .int l3), (4, .int l4), (5, .int l5)]) hx hb dX10_sureBy_79 hl (by decide) rfl (fun ls hl => ?_)
    exact klX10_sureBy_81 C hlk hr k5 hk5 FU a0 l1 l2 l3 l4 l5 v76 (0 : Int32) _ _ _ h hW (lv_sub hl [2, 3, 4, 5, 6, 7, 1, 0] rfl)
  · have h := ite_f c24 h
    refine lv_iload hx hb dX10_sureBy_27 (lv_at hl 5 rfl) ?_
    refine lv_aload_n hx hb dX10_sureBy_29 rfl (lv_at hl 0 rfl) ?_
    obtain ⟨x30, hg, h⟩ := ob h
    refine wz_gI C hW flX10_288 hg dX10_sureBy_30 ?_
    refine lv_iload hx hb dX10_sureBy_33 (lv_at hl 6 rfl) ?_
    refine wz_rI (c' := 0) (s' := 0) hW (wz_runS (rest := [.int l5]) C hW lTX10_85 (ctX10_has l G x30 l6 z rfl) ⟨⟨rfl, rfl⟩, Nat.le_of_ble_eq_true rfl, Nat.le_of_ble_eq_true rfl⟩ rfl hl.1 rfl (Nat.le_of_ble_eq_true rfl) dX10_sureBy_35 ⟨Nat.le_of_ble_eq_true rfl, Nat.le_of_ble_eq_true rfl⟩) rfl rfl (fun H locs hW => ?_)
    refine lv_if_ne (tgt := 60) hx hb dX10_sureBy_38 (by decide) (fun c38 => ?_) (fun c38 => ?_)
    · have h := ite_f c38 h
      refine lv_iconst (v := 0) hx hb dX10_sureBy_60 (by decide) ?_
      refine lv_ior hx hb dX10_sureBy_61 ?_
      refine lv_topi (fun v62 ev62 => ?_)
      have h := nm_to h ev62
      refine lv_istore (lv' := [(5, .int v62), (0, .ref (gB G + a0)), (1, .int l1), (2, .int l2), (3, .int l3), (4, .int l4), (6, .int l6)]) hx hb dX10_sureBy_62 hl (by decide) rfl (fun ls hl => ?_)
      obtain ⟨v64, ev64⟩ : ∃ y : Int32, y = (l6 + (1 : Int32)) := ⟨_, rfl⟩
      have h := nm_to h ev64
      refine lv_iinc (v := v64) (lv' := [(6, .int v64), (5, .int v62), (0, .ref (gB G + a0)), (1, .int l1), (2, .int l2), (3, .int l3), (4, .int l4)]) hx hb dX10_sureBy_64 hl (k := 6) rfl (by rw [ev64]; rfl) (by decide) rfl (fun ls hl => ?_)
      refine lv_goto (tgt := 18) hx hb dX10_sureBy_67 (by decide) ?_
      exact hk18 a0 l1 l2 l3 l4 v62 v64 _ _ _ h hW (lv_sub hl [2, 3, 4, 5, 6, 1, 0] rfl)
    · have h := ite_t c38 h
      refine lv_aload_n hx hb dX10_sureBy_41 rfl (lv_at hl 0 rfl) ?_
      obtain ⟨b42, hg, h⟩ := ob h
      refine wz_gN C hW flX10_44 hg dX10_sureBy_42 ?_
      refine lv_iload hx hb dX10_sureBy_45 (lv_at hl 6 rfl) ?_
      obtain ⟨x47, hg, h⟩ := ob h
      refine wz_ald C hW hg dX10_sureBy_47 ?_
      refine lv_iload hx hb dX10_sureBy_48 (lv_at hl 4 rfl) ?_
      refine lv_icmp_lt (tgt := 60) hx hb dX10_sureBy_50 (by decide) (fun c50 => ?_) (fun c50 => ?_)
      · have h := ite_t c50 h
        refine lv_iconst (v := 0) hx hb dX10_sureBy_60 (by decide) ?_
        refine lv_ior hx hb dX10_sureBy_61 ?_
        refine lv_topi (fun v62 ev62 => ?_)
        have h := nm_to h ev62
        refine lv_istore (lv' := [(5, .int v62), (0, .ref (gB G + a0)), (1, .int l1), (2, .int l2), (3, .int l3), (4, .int l4), (6, .int l6)]) hx hb dX10_sureBy_62 hl (by decide) rfl (fun ls hl => ?_)
        obtain ⟨v64, ev64⟩ : ∃ y : Int32, y = (l6 + (1 : Int32)) := ⟨_, rfl⟩
        have h := nm_to h ev64
        refine lv_iinc (v := v64) (lv' := [(6, .int v64), (5, .int v62), (0, .ref (gB G + a0)), (1, .int l1), (2, .int l2), (3, .int l3), (4, .int l4)]) hx hb dX10_sureBy_64 hl (k := 6) rfl (by rw [ev64]; rfl) (by decide) rfl (fun ls hl => ?_)
        refine lv_goto (tgt := 18) hx hb dX10_sureBy_67 (by decide) ?_
        exact hk18 a0 l1 l2 l3 l4 v62 v64 _ _ _ h hW (lv_sub hl [2, 3, 4, 5, 6, 1, 0] rfl)
      · have h := ite_f c50 h
        refine lv_iconst (v := 1) hx hb dX10_sureBy_53 (by decide) ?_
        refine lv_iload hx hb dX10_sureBy_54 (lv_at hl 6 rfl) ?_
        refine wz_shl hx hb dX10_sureBy_56 ?_
        refine lv_goto (tgt := 61) hx hb dX10_sureBy_57 (by decide) ?_
        refine lv_ior hx hb dX10_sureBy_61 ?_
        refine lv_topi (fun v62 ev62 => ?_)
        have h := nm_to h ev62
        refine lv_istore (lv' := [(5, .int v62), (0, .ref (gB G + a0)), (1, .int l1), (2, .int l2), (3, .int l3), (4, .int l4), (6, .int l6)]) hx hb dX10_sureBy_62 hl (by decide) rfl (fun ls hl => ?_)
        obtain ⟨v64, ev64⟩ : ∃ y : Int32, y = (l6 + (1 : Int32)) := ⟨_, rfl⟩
        have h := nm_to h ev64
        refine lv_iinc (v := v64) (lv' := [(6, .int v64), (5, .int v62), (0, .ref (gB G + a0)), (1, .int l1), (2, .int l2), (3, .int l3), (4, .int l4)]) hx hb dX10_sureBy_64 hl (k := 6) rfl (by rw [ev64]; rfl) (by decide) rfl (fun ls hl => ?_)
        refine lv_goto (tgt := 18) hx hb dX10_sureBy_67 (by decide) ?_
        exact hk18 a0 l1 l2 l3 l4 v62 v64 _ _ _ h hW (lv_sub hl [2, 3, 4, 5, 6, 1, 0] rfl)
def fX10_sureBy_18 (k5 : Nat → Int32 → Int32 → Int32 → Int32 → Option (Int32)) (z : AH) : Nat → Nat → Int32 → Int32 → Int32 → Int32 → Int32 → Int32 → Option (Int32)
  | 0, _, _, _, _, _, _, _ => none
  | n + 1, a0, l1, l2, l3, l4, l5, l6 => bX10_sureBy_18 k5 (fX10_sureBy_18 k5 z n) a0 l1 l2 l3 l4 l5 l6 z
theorem klX10_sureBy_18 {p : Program} {l : Launch} {e : Env} {s : State} {m : MethodId} {args : Array Value} {below : List Frame} {meth : Method} {c : Code} {G : GW} {r : Int32} (C : Cx p m c cX10_sureBy 8 s args RX10 G) (hlk : meth.locks = false) (hr : meth.sig.returnType = (some .int)) {z : AH} (k5 : Nat → Int32 → Int32 → Int32 → Int32 → Option (Int32)) (hk5 : ∀ (a0 : Nat) (l1 : Int32) (l2 : Int32) (l3 : Int32) (l4 : Int32) (H : Heap) (locs : List Loc) (ls : Array Slot), k5 a0 l1 l2 l3 l4 = some r → Wb G z s H locs → lv_has ls 8 [(0, .ref (gB G + a0)), (1, .int l1), (2, .int l2), (3, .int l3), (4, .int l4)] → W p l e rmX10_sureBy s m args below meth c H locs 0 0 (MQ below (Qi G r z) args s 0 0 (AA G)) (F0 m 5 ls [])) : ∀ (n : Nat) (a0 : Nat) (l1 : Int32) (l2 : Int32) (l3 : Int32) (l4 : Int32) (l5 : Int32) (l6 : Int32) (H : Heap) (locs : List Loc) (ls : Array Slot), fX10_sureBy_18 k5 z n a0 l1 l2 l3 l4 l5 l6 = some r → Wb G z s H locs → lv_has ls 8 [(0, .ref (gB G + a0)), (1, .int l1), (2, .int l2), (3, .int l3), (4, .int l4), (5, .int l5), (6, .int l6)] → W p l e rmX10_sureBy s m args below meth c H locs 0 0 (MQ below (Qi G r z) args s 0 0 (AA G)) (F0 m 18 ls []) := by
  intro n
  induction n with
  | zero => intro a0 l1 l2 l3 l4 l5 l6 H locs ls h; have h : (none : Option (Int32)) = some r := h; cases h
  | succ n ih => intro a0 l1 l2 l3 l4 l5 l6 H locs ls h hW hl; exact kbX10_sureBy_18 C hlk hr k5 (fX10_sureBy_18 k5 z n) hk5 (fun a0 l1 l2 l3 l4 l5 l6 H locs ls h hW hl => ih a0 l1 l2 l3 l4 l5 l6 H locs ls h hW hl) a0 l1 l2 l3 l4 l5 l6 h hW hl
def bX10_sureBy_5 (k5 : Nat → Int32 → Int32 → Int32 → Int32 → Option (Int32)) (a0 : Nat) (l1 : Int32) (l2 : Int32) (l3 : Int32) (l4 : Int32) (z : AH) : Option (Int32) :=
  if (99 : Int32) < l4 then (
    some l3
  ) else (
    fX10_sureBy_18 k5 z FU a0 l1 l2 l3 l4 (0 : Int32) (0 : Int32)
  )
set_option maxHeartbeats 4000000 in
set_option maxRecDepth 100000 in
theorem kbX10_sureBy_5 {p : Program} {l : Launch} {e : Env} {s : State} {m : MethodId} {args : Array Value} {below : List Frame} {meth : Method} {c : Code} {G : GW} {r : Int32} (C : Cx p m c cX10_sureBy 8 s args RX10 G) (hlk : meth.locks = false) (hr : meth.sig.returnType = (some .int)) {z : AH} (k5 : Nat → Int32 → Int32 → Int32 → Int32 → Option (Int32)) (hk5 : ∀ (a0 : Nat) (l1 : Int32) (l2 : Int32) (l3 : Int32) (l4 : Int32) (H : Heap) (locs : List Loc) (ls : Array Slot), k5 a0 l1 l2 l3 l4 = some r → Wb G z s H locs → lv_has ls 8 [(0, .ref (gB G + a0)), (1, .int l1), (2, .int l2), (3, .int l3), (4, .int l4)] → W p l e rmX10_sureBy s m args below meth c H locs 0 0 (MQ below (Qi G r z) args s 0 0 (AA G)) (F0 m 5 ls [])) (a0 : Nat) (l1 : Int32) (l2 : Int32) (l3 : Int32) (l4 : Int32) {H : Heap} {locs : List Loc} {ls : Array Slot} (h : bX10_sureBy_5 k5 a0 l1 l2 l3 l4 z = some r) (hW : Wb G z s H locs) (hl : lv_has ls 8 [(0, .ref (gB G + a0)), (1, .int l1), (2, .int l2), (3, .int l3), (4, .int l4)]) : W p l e rmX10_sureBy s m args below meth c H locs 0 0 (MQ below (Qi G r z) args s 0 0 (AA G)) (F0 m 5 ls []) := by
  have hx := C.1
  have hb := C.2.1
  unfold bX10_sureBy_5 at h
  refine lv_iload hx hb dX10_sureBy_5 (lv_at hl 4 rfl) ?_
  refine lv_bipush (v := 99) hx hb dX10_sureBy_7 (by decide) ?_
  refine lv_icmp_gt (tgt := 127) hx hb dX10_sureBy_9 (by decide) (fun c9 => ?_) (fun c9 => ?_)
  · have h := ite_t c9 h
    refine lv_iload_n hx hb dX10_sureBy_127 rfl (lv_at hl 3 rfl) ?_
    exact wz_iretE C hlk hr (Option.some.inj h) rfl hW dX10_sureBy_128
  · have h := ite_f c9 h
    refine lv_iconst (v := 0) hx hb dX10_sureBy_12 (by decide) ?_
    refine lv_istore (lv' := [(5, .int (0 : Int32)), (0, .ref (gB G + a0)), (1, .int l1), (2, .int l2), (3, .int l3), (4, .int l4)]) hx hb dX10_sureBy_13 hl (by decide) rfl (fun ls hl => ?_)
    refine lv_iconst (v := 0) hx hb dX10_sureBy_15 (by decide) ?_
    refine lv_istore (lv' := [(6, .int (0 : Int32)), (5, .int (0 : Int32)), (0, .ref (gB G + a0)), (1, .int l1), (2, .int l2), (3, .int l3), (4, .int l4)]) hx hb dX10_sureBy_16 hl (by decide) rfl (fun ls hl => ?_)
    exact klX10_sureBy_18 C hlk hr k5 hk5 FU a0 l1 l2 l3 l4 (0 : Int32) (0 : Int32) _ _ _ h hW (lv_sub hl [2, 3, 4, 5, 6, 1, 0] rfl)
def fX10_sureBy_5 (z : AH) : Nat → Nat → Int32 → Int32 → Int32 → Int32 → Option (Int32)
  | 0, _, _, _, _, _ => none
  | n + 1, a0, l1, l2, l3, l4 => bX10_sureBy_5 (fX10_sureBy_5 z n) a0 l1 l2 l3 l4 z
theorem klX10_sureBy_5 {p : Program} {l : Launch} {e : Env} {s : State} {m : MethodId} {args : Array Value} {below : List Frame} {meth : Method} {c : Code} {G : GW} {r : Int32} (C : Cx p m c cX10_sureBy 8 s args RX10 G) (hlk : meth.locks = false) (hr : meth.sig.returnType = (some .int)) {z : AH} : ∀ (n : Nat) (a0 : Nat) (l1 : Int32) (l2 : Int32) (l3 : Int32) (l4 : Int32) (H : Heap) (locs : List Loc) (ls : Array Slot), fX10_sureBy_5 z n a0 l1 l2 l3 l4 = some r → Wb G z s H locs → lv_has ls 8 [(0, .ref (gB G + a0)), (1, .int l1), (2, .int l2), (3, .int l3), (4, .int l4)] → W p l e rmX10_sureBy s m args below meth c H locs 0 0 (MQ below (Qi G r z) args s 0 0 (AA G)) (F0 m 5 ls []) := by
  intro n
  induction n with
  | zero => intro a0 l1 l2 l3 l4 H locs ls h; have h : (none : Option (Int32)) = some r := h; cases h
  | succ n ih => intro a0 l1 l2 l3 l4 H locs ls h hW hl; exact kbX10_sureBy_5 C hlk hr (fX10_sureBy_5 z n) (fun a0 l1 l2 l3 l4 H locs ls h hW hl => ih a0 l1 l2 l3 l4 H locs ls h hW hl) a0 l1 l2 l3 l4 h hW hl
def fX10_sureBy (a0 : Nat) (l1 : Int32) (l2 : Int32) (z : AH) : Option (Int32) :=
  if isO 9 z a0 = true then
    fX10_sureBy_5 z FU a0 l1 l2 (-1 : Int32) (1 : Int32)
  else none
set_option maxHeartbeats 4000000 in
set_option maxRecDepth 100000 in
theorem ctX10_sureBy (l : Launch) (G : GW) (a0 : Nat) (l1 : Int32) (l2 : Int32) (z : AH) {r : Int32} (h : fX10_sureBy a0 l1 l2 z = some r) : Met l yX10_sureBy (wy yX10_sureBy cX10_sureBy 8 (some .int)) rmX10_sureBy (Pz G [.ref (gB G + a0), .int l1, .int l2] z) (Qi G r z) 0 0 (AA G) := by
  refine wz_ent (own := RX10) (by decide +kernel) rfl (fun p e s m below meth c ls C hlk hr hin hW hl => ?_) (Nat.le_of_ble_eq_true rfl)
  have hl : lv_has ls 8 [(0, .ref (gB G + a0)), (1, .int l1), (2, .int l2)] := hl
  have hx := C.1
  have hb := C.2.1
  unfold fX10_sureBy at h
  obtain ⟨-, h⟩ := ck h
  refine lv_iconst (v := -1) hx hb dX10_sureBy_0 (by decide) ?_
  refine lv_istore_n (lv' := [(3, .int (-1 : Int32)), (0, .ref (gB G + a0)), (1, .int l1), (2, .int l2)]) hx hb dX10_sureBy_1 rfl hl (by decide) rfl (fun ls hl => ?_)
  refine lv_iconst (v := 1) hx hb dX10_sureBy_2 (by decide) ?_
  refine lv_istore (lv' := [(4, .int (1 : Int32)), (3, .int (-1 : Int32)), (0, .ref (gB G + a0)), (1, .int l1), (2, .int l2)]) hx hb dX10_sureBy_3 hl (by decide) rfl (fun ls hl => ?_)
  exact klX10_sureBy_5 C hlk hr FU a0 l1 l2 (-1 : Int32) (1 : Int32) _ _ _ h hW (lv_sub hl [2, 3, 4, 1, 0] rfl)
theorem dX10_way_0 : decode cX10_way 0 = .ok (.aload_n 0, 1) := by decide +kernel
theorem dX10_way_1 : decode cX10_way 1 = .ok (.iconst 0, 1) := by decide +kernel
theorem dX10_way_2 : decode cX10_way 2 = .ok (.putfield 81, 3) := by decide +kernel
theorem dX10_way_5 : decode cX10_way 5 = .ok (.aload_n 0, 1) := by decide +kernel
theorem dX10_way_6 : decode cX10_way 6 = .ok (.iload_n 1, 1) := by decide +kernel
theorem dX10_way_7 : decode cX10_way 7 = .ok (.invokevirtual 330, 3) := by decide +kernel
theorem dX10_way_10 : decode cX10_way 10 = .ok (.ifCond .eq 19, 3) := by decide +kernel
theorem dX10_way_13 : decode cX10_way 13 = .ok (.aload_n 0, 1) := by decide +kernel
theorem dX10_way_14 : decode cX10_way 14 = .ok (.iload_n 2, 1) := by decide +kernel
theorem dX10_way_15 : decode cX10_way 15 = .ok (.invokevirtual 309, 3) := by decide +kernel
theorem dX10_way_18 : decode cX10_way 18 = .ok (.ifCond .eq 11, 3) := by decide +kernel
theorem dX10_way_21 : decode cX10_way 21 = .ok (.aload_n 0, 1) := by decide +kernel
theorem dX10_way_22 : decode cX10_way 22 = .ok (.iload_n 3, 1) := by decide +kernel
theorem dX10_way_23 : decode cX10_way 23 = .ok (.invokevirtual 309, 3) := by decide +kernel
theorem dX10_way_26 : decode cX10_way 26 = .ok (.ifCond .ne 5, 3) := by decide +kernel
theorem dX10_way_29 : decode cX10_way 29 = .ok (.iconst (-1), 1) := by decide +kernel
theorem dX10_way_30 : decode cX10_way 30 = .ok (.ireturn, 1) := by decide +kernel
theorem dX10_way_31 : decode cX10_way 31 = .ok (.iload 4, 2) := by decide +kernel
theorem dX10_way_33 : decode cX10_way 33 = .ok (.ifCond .eq 12, 3) := by decide +kernel
theorem dX10_way_36 : decode cX10_way 36 = .ok (.aload_n 0, 1) := by decide +kernel
theorem dX10_way_37 : decode cX10_way 37 = .ok (.iload_n 2, 1) := by decide +kernel
theorem dX10_way_38 : decode cX10_way 38 = .ok (.iload_n 3, 1) := by decide +kernel
theorem dX10_way_39 : decode cX10_way 39 = .ok (.invokevirtual 410, 3) := by decide +kernel
theorem dX10_way_42 : decode cX10_way 42 = .ok (.goto 14, 3) := by decide +kernel
theorem dX10_way_45 : decode cX10_way 45 = .ok (.aload_n 0, 1) := by decide +kernel
theorem dX10_way_46 : decode cX10_way 46 = .ok (.iconst 1, 1) := by decide +kernel
theorem dX10_way_47 : decode cX10_way 47 = .ok (.iload_n 2, 1) := by decide +kernel
theorem dX10_way_48 : decode cX10_way 48 = .ok (.ishl, 1) := by decide +kernel
theorem dX10_way_49 : decode cX10_way 49 = .ok (.iconst 1, 1) := by decide +kernel
theorem dX10_way_50 : decode cX10_way 50 = .ok (.iload_n 3, 1) := by decide +kernel
theorem dX10_way_51 : decode cX10_way 51 = .ok (.ishl, 1) := by decide +kernel
theorem dX10_way_52 : decode cX10_way 52 = .ok (.iconst 0, 1) := by decide +kernel
theorem dX10_way_53 : decode cX10_way 53 = .ok (.invokevirtual 413, 3) := by decide +kernel
theorem dX10_way_56 : decode cX10_way 56 = .ok (.ireturn, 1) := by decide +kernel
theorem cdX10_hoursTill : Cond.code yX10_hoursTill cX10_hoursTill 6 (some .int) ∈ tz := tc7 121 rfl rfl
theorem lVX10_413 : LV RX10 413 yX10_hoursTill cX10_hoursTill 6 (some .int) 3 := ⟨tw 1677 (by decide +kernel) rfl, tw 1679 (by decide +kernel) rfl, tw 92 (by decide +kernel) rfl, tw 128 (by decide +kernel) rfl, cdX10_hoursTill, ⟨by decide +kernel, by decide +kernel, by decide +kernel⟩⟩
theorem cdX10_sureBy : Cond.code yX10_sureBy cX10_sureBy 8 (some .int) ∈ tz := tc7 113 rfl rfl
theorem lVX10_410 : LV RX10 410 yX10_sureBy cX10_sureBy 8 (some .int) 2 := ⟨tw 1669 (by decide +kernel) rfl, tw 1671 (by decide +kernel) rfl, tw 90 (by decide +kernel) rfl, tw 128 (by decide +kernel) rfl, cdX10_sureBy, ⟨by decide +kernel, by decide +kernel, by decide +kernel⟩⟩
abbrev rmX10_way : Room := { frames := 5, cells := 0, slots := 0, locals := 112 }
def fX10_way (a0 : Nat) (l1 : Int32) (l2 : Int32) (l3 : Int32) (l4 : Int32) (z : AH) : Option (Int32 × AH) :=
  if isO 9 z a0 = true then
    (pF 9 0 z a0 (.int (0 : Int32))).bind fun z2 =>
    b2 (fX10_hand a0 l1 z2) fun x7 z7 =>
    if x7 = (0 : Int32) then (
      some ((-1 : Int32), z7)
    ) else (
      (fX10_isThing a0 l2 z7).bind fun x15 =>
      if x15 = (0 : Int32) then (
        some ((-1 : Int32), z7)
      ) else (
        (fX10_isThing a0 l3 z7).bind fun x23 =>
        if x23 = (0 : Int32) then (
          some ((-1 : Int32), z7)
        ) else (
          if l4 = (0 : Int32) then (
            b2 (fX10_hoursTill a0 (shl (1 : Int32) l2) (shl (1 : Int32) l3) (0 : Int32) z7) fun x53 z53 =>
            some (x53, z53)
          ) else (
            (fX10_sureBy a0 l2 l3 z7).bind fun x39 =>
            some (x39, z7)
          )
        )
      )
    )
  else none
set_option maxHeartbeats 4000000 in
set_option maxRecDepth 100000 in
theorem ctX10_way (l : Launch) (G : GW) (a0 : Nat) (l1 : Int32) (l2 : Int32) (l3 : Int32) (l4 : Int32) (z : AH) {r : Int32} {z' : AH} (h : fX10_way a0 l1 l2 l3 l4 z = some (r, z')) : Met l yX10_way (wy yX10_way cX10_way 5 (some .int)) rmX10_way (Pz G [.ref (gB G + a0), .int l1, .int l2, .int l3, .int l4] z) (Qi G r z') 0 0 (AA G) := by
  refine wz_ent (own := RX10) (by decide +kernel) rfl (fun p e s m below meth c ls C hlk hr hin hW hl => ?_) (Nat.le_of_ble_eq_true rfl)
  have hl : lv_has ls 5 [(0, .ref (gB G + a0)), (1, .int l1), (2, .int l2), (3, .int l3), (4, .int l4)] := hl
  have hx := C.1
  have hb := C.2.1
  unfold fX10_way at h
  obtain ⟨-, h⟩ := ck h
  refine lv_aload_n hx hb dX10_way_0 rfl (lv_at hl 0 rfl) ?_
  refine lv_iconst (v := 0) hx hb dX10_way_1 (by decide) ?_
  obtain ⟨z2, hg, h⟩ := ob h
  refine wz_put (v := (.int (0 : Int32))) C hW flX10_81 rfl rfl hg dX10_way_2 (fun H locs hW => ?_)
  refine lv_aload_n hx hb dX10_way_5 rfl (lv_at hl 0 rfl) ?_
  refine lv_iload_n hx hb dX10_way_6 rfl (lv_at hl 1 rfl) ?_
  obtain ⟨x7, z7, hq, h⟩ := ob2 h
  refine wz_rI (c' := 0) (s' := 0) hW (wz_runV (rest := []) C hW lVX10_330 (ck hq).1 rfl (ctX10_hand l G a0 l1 z2 hq) ⟨⟨rfl, rfl⟩, Nat.le_of_ble_eq_true rfl, Nat.le_of_ble_eq_true rfl⟩ rfl hl.1 rfl (Nat.le_of_ble_eq_true rfl) dX10_way_7 ⟨Nat.le_of_ble_eq_true rfl, Nat.le_of_ble_eq_true rfl⟩) rfl rfl (fun H locs hW => ?_)
  refine lv_if_eq (tgt := 29) hx hb dX10_way_10 (by decide) (fun c10 => ?_) (fun c10 => ?_)
  · have h := ite_t c10 h
    refine lv_iconst (v := -1) hx hb dX10_way_29 (by decide) ?_
    exact wz_iretE C hlk hr (so2 h).1 (so2 h).2 hW dX10_way_30
  · have h := ite_f c10 h
    refine lv_aload_n hx hb dX10_way_13 rfl (lv_at hl 0 rfl) ?_
    refine lv_iload_n hx hb dX10_way_14 rfl (lv_at hl 2 rfl) ?_
    obtain ⟨x15, hq, h⟩ := ob h
    refine wz_rI (c' := 0) (s' := 0) hW (wz_runV (rest := []) C hW lVX10_309 (ck hq).1 rfl (ctX10_isThing l G a0 l2 z7 hq) ⟨⟨rfl, rfl⟩, Nat.le_of_ble_eq_true rfl, Nat.le_of_ble_eq_true rfl⟩ rfl hl.1 rfl (Nat.le_of_ble_eq_true rfl) dX10_way_15 ⟨Nat.le_of_ble_eq_true rfl, Nat.le_of_ble_eq_true rfl⟩) rfl rfl (fun H locs hW => ?_)
    refine lv_if_eq (tgt := 29) hx hb dX10_way_18 (by decide) (fun c18 => ?_) (fun c18 => ?_)
    · have h := ite_t c18 h
      refine lv_iconst (v := -1) hx hb dX10_way_29 (by decide) ?_
      exact wz_iretE C hlk hr (so2 h).1 (so2 h).2 hW dX10_way_30
    · have h := ite_f c18 h
      refine lv_aload_n hx hb dX10_way_21 rfl (lv_at hl 0 rfl) ?_
      refine lv_iload_n hx hb dX10_way_22 rfl (lv_at hl 3 rfl) ?_
      obtain ⟨x23, hq, h⟩ := ob h
      refine wz_rI (c' := 0) (s' := 0) hW (wz_runV (rest := []) C hW lVX10_309 (ck hq).1 rfl (ctX10_isThing l G a0 l3 z7 hq) ⟨⟨rfl, rfl⟩, Nat.le_of_ble_eq_true rfl, Nat.le_of_ble_eq_true rfl⟩ rfl hl.1 rfl (Nat.le_of_ble_eq_true rfl) dX10_way_23 ⟨Nat.le_of_ble_eq_true rfl, Nat.le_of_ble_eq_true rfl⟩) rfl rfl (fun H locs hW => ?_)
      refine lv_if_ne (tgt := 31) hx hb dX10_way_26 (by decide) (fun c26 => ?_) (fun c26 => ?_)
      · have h := ite_f c26 h
        refine lv_iload hx hb dX10_way_31 (lv_at hl 4 rfl) ?_
        refine lv_if_eq (tgt := 45) hx hb dX10_way_33 (by decide) (fun c33 => ?_) (fun c33 => ?_)
        · have h := ite_t c33 h
          refine lv_aload_n hx hb dX10_way_45 rfl (lv_at hl 0 rfl) ?_
          refine lv_iconst (v := 1) hx hb dX10_way_46 (by decide) ?_
          refine lv_iload_n hx hb dX10_way_47 rfl (lv_at hl 2 rfl) ?_
          refine wz_shl hx hb dX10_way_48 ?_
          refine lv_iconst (v := 1) hx hb dX10_way_49 (by decide) ?_
          refine lv_iload_n hx hb dX10_way_50 rfl (lv_at hl 3 rfl) ?_
          refine wz_shl hx hb dX10_way_51 ?_
          refine lv_iconst (v := 0) hx hb dX10_way_52 (by decide) ?_
          obtain ⟨x53, z53, hq, h⟩ := ob2 h
          refine wz_rI (c' := 0) (s' := 0) hW (wz_runV (rest := []) C hW lVX10_413 (ck hq).1 rfl (ctX10_hoursTill l G a0 (shl (1 : Int32) l2) (shl (1 : Int32) l3) (0 : Int32) z7 hq) ⟨⟨rfl, rfl⟩, Nat.le_of_ble_eq_true rfl, Nat.le_of_ble_eq_true rfl⟩ rfl hl.1 rfl (Nat.le_of_ble_eq_true rfl) dX10_way_53 ⟨Nat.le_of_ble_eq_true rfl, Nat.le_of_ble_eq_true rfl⟩) rfl rfl (fun H locs hW => ?_)
          exact wz_iretE C hlk hr (so2 h).1 (so2 h).2 hW dX10_way_56
        · have h := ite_f c33 h
          refine lv_aload_n hx hb dX10_way_36 rfl (lv_at hl 0 rfl) ?_
          refine lv_iload_n hx hb dX10_way_37 rfl (lv_at hl 2 rfl) ?_
          refine lv_iload_n hx hb dX10_way_38 rfl (lv_at hl 3 rfl) ?_
          obtain ⟨x39, hq, h⟩ := ob h
          refine wz_rI (c' := 0) (s' := 0) hW (wz_runV (rest := []) C hW lVX10_410 (ck hq).1 rfl (ctX10_sureBy l G a0 l2 l3 z7 hq) ⟨⟨rfl, rfl⟩, Nat.le_of_ble_eq_true rfl, Nat.le_of_ble_eq_true rfl⟩ rfl hl.1 rfl (Nat.le_of_ble_eq_true rfl) dX10_way_39 ⟨Nat.le_of_ble_eq_true rfl, Nat.le_of_ble_eq_true rfl⟩) rfl rfl (fun H locs hW => ?_)
          refine lv_goto (tgt := 56) hx hb dX10_way_42 (by decide) ?_
          exact wz_iretE C hlk hr (so2 h).1 (so2 h).2 hW dX10_way_56
      · have h := ite_t c26 h
        refine lv_iconst (v := -1) hx hb dX10_way_29 (by decide) ?_
        exact wz_iretE C hlk hr (so2 h).1 (so2 h).2 hW dX10_way_30
theorem dX10_likes_0 : decode cX10_likes 0 = .ok (.aload_n 0, 1) := by decide +kernel
theorem dX10_likes_1 : decode cX10_likes 1 = .ok (.bipush 78, 2) := by decide +kernel
theorem dX10_likes_3 : decode cX10_likes 3 = .ok (.iconst 4, 1) := by decide +kernel
theorem dX10_likes_4 : decode cX10_likes 4 = .ok (.iload_n 1, 1) := by decide +kernel
theorem dX10_likes_5 : decode cX10_likes 5 = .ok (.imul, 1) := by decide +kernel
theorem dX10_likes_6 : decode cX10_likes 6 = .ok (.iadd, 1) := by decide +kernel
theorem dX10_likes_7 : decode cX10_likes 7 = .ok (.iload_n 2, 1) := by decide +kernel
theorem dX10_likes_8 : decode cX10_likes 8 = .ok (.iadd, 1) := by decide +kernel
theorem dX10_likes_9 : decode cX10_likes 9 = .ok (.invokevirtual 272, 3) := by decide +kernel
theorem dX10_likes_12 : decode cX10_likes 12 = .ok (.ireturn, 1) := by decide +kernel
abbrev rmX10_likes : Room := { frames := 1, cells := 0, slots := 0, locals := 21 }
def fX10_likes (a0 : Nat) (l1 : Int32) (l2 : Int32) (z : AH) : Option (Int32) :=
  if isO 9 z a0 = true then
    (fX10_of a0 (((78 : Int32) + ((4 : Int32) * l1)) + l2) z).bind fun x9 =>
    some x9
  else none
set_option maxHeartbeats 4000000 in
set_option maxRecDepth 100000 in
theorem ctX10_likes (l : Launch) (G : GW) (a0 : Nat) (l1 : Int32) (l2 : Int32) (z : AH) {r : Int32} (h : fX10_likes a0 l1 l2 z = some r) : Met l yX10_likes (wy yX10_likes cX10_likes 3 (some .int)) rmX10_likes (Pz G [.ref (gB G + a0), .int l1, .int l2] z) (Qi G r z) 0 0 (AA G) := by
  refine wz_ent (own := RX10) (by decide +kernel) rfl (fun p e s m below meth c ls C hlk hr hin hW hl => ?_) (Nat.le_of_ble_eq_true rfl)
  have hl : lv_has ls 3 [(0, .ref (gB G + a0)), (1, .int l1), (2, .int l2)] := hl
  have hx := C.1
  have hb := C.2.1
  unfold fX10_likes at h
  obtain ⟨-, h⟩ := ck h
  refine lv_aload_n hx hb dX10_likes_0 rfl (lv_at hl 0 rfl) ?_
  refine lv_bipush (v := 78) hx hb dX10_likes_1 (by decide) ?_
  refine lv_iconst (v := 4) hx hb dX10_likes_3 (by decide) ?_
  refine lv_iload_n hx hb dX10_likes_4 rfl (lv_at hl 1 rfl) ?_
  refine lv_imul hx hb dX10_likes_5 ?_
  refine lv_iadd hx hb dX10_likes_6 ?_
  refine lv_iload_n hx hb dX10_likes_7 rfl (lv_at hl 2 rfl) ?_
  refine lv_iadd hx hb dX10_likes_8 ?_
  obtain ⟨x9, hq, h⟩ := ob h
  refine wz_rI (c' := 0) (s' := 0) hW (wz_runV (rest := []) C hW lVX10_272 (ck hq).1 rfl (ctX10_of l G a0 (((78 : Int32) + ((4 : Int32) * l1)) + l2) z hq) ⟨⟨rfl, rfl⟩, Nat.le_of_ble_eq_true rfl, Nat.le_of_ble_eq_true rfl⟩ rfl hl.1 rfl (Nat.le_of_ble_eq_true rfl) dX10_likes_9 ⟨Nat.le_of_ble_eq_true rfl, Nat.le_of_ble_eq_true rfl⟩) rfl rfl (fun H locs hW => ?_)
  exact wz_iretE C hlk hr (Option.some.inj h) rfl hW dX10_likes_12
theorem dX10_liked_0 : decode cX10_liked 0 = .ok (.aload_n 0, 1) := by decide +kernel
theorem dX10_liked_1 : decode cX10_liked 1 = .ok (.bipush 94, 2) := by decide +kernel
theorem dX10_liked_3 : decode cX10_liked 3 = .ok (.iconst 4, 1) := by decide +kernel
theorem dX10_liked_4 : decode cX10_liked 4 = .ok (.iload_n 1, 1) := by decide +kernel
theorem dX10_liked_5 : decode cX10_liked 5 = .ok (.imul, 1) := by decide +kernel
theorem dX10_liked_6 : decode cX10_liked 6 = .ok (.iadd, 1) := by decide +kernel
theorem dX10_liked_7 : decode cX10_liked 7 = .ok (.iload_n 2, 1) := by decide +kernel
theorem dX10_liked_8 : decode cX10_liked 8 = .ok (.iadd, 1) := by decide +kernel
theorem dX10_liked_9 : decode cX10_liked 9 = .ok (.invokevirtual 272, 3) := by decide +kernel
theorem dX10_liked_12 : decode cX10_liked 12 = .ok (.ireturn, 1) := by decide +kernel
abbrev rmX10_liked : Room := { frames := 1, cells := 0, slots := 0, locals := 21 }
def fX10_liked (a0 : Nat) (l1 : Int32) (l2 : Int32) (z : AH) : Option (Int32) :=
  if isO 9 z a0 = true then
    (fX10_of a0 (((94 : Int32) + ((4 : Int32) * l1)) + l2) z).bind fun x9 =>
    some x9
  else none
set_option maxHeartbeats 4000000 in
set_option maxRecDepth 100000 in
theorem ctX10_liked (l : Launch) (G : GW) (a0 : Nat) (l1 : Int32) (l2 : Int32) (z : AH) {r : Int32} (h : fX10_liked a0 l1 l2 z = some r) : Met l yX10_liked (wy yX10_liked cX10_liked 3 (some .int)) rmX10_liked (Pz G [.ref (gB G + a0), .int l1, .int l2] z) (Qi G r z) 0 0 (AA G) := by
  refine wz_ent (own := RX10) (by decide +kernel) rfl (fun p e s m below meth c ls C hlk hr hin hW hl => ?_) (Nat.le_of_ble_eq_true rfl)
  have hl : lv_has ls 3 [(0, .ref (gB G + a0)), (1, .int l1), (2, .int l2)] := hl
  have hx := C.1
  have hb := C.2.1
  unfold fX10_liked at h
  obtain ⟨-, h⟩ := ck h
  refine lv_aload_n hx hb dX10_liked_0 rfl (lv_at hl 0 rfl) ?_
  refine lv_bipush (v := 94) hx hb dX10_liked_1 (by decide) ?_
  refine lv_iconst (v := 4) hx hb dX10_liked_3 (by decide) ?_
  refine lv_iload_n hx hb dX10_liked_4 rfl (lv_at hl 1 rfl) ?_
  refine lv_imul hx hb dX10_liked_5 ?_
  refine lv_iadd hx hb dX10_liked_6 ?_
  refine lv_iload_n hx hb dX10_liked_7 rfl (lv_at hl 2 rfl) ?_
  refine lv_iadd hx hb dX10_liked_8 ?_
  obtain ⟨x9, hq, h⟩ := ob h
  refine wz_rI (c' := 0) (s' := 0) hW (wz_runV (rest := []) C hW lVX10_272 (ck hq).1 rfl (ctX10_of l G a0 (((94 : Int32) + ((4 : Int32) * l1)) + l2) z hq) ⟨⟨rfl, rfl⟩, Nat.le_of_ble_eq_true rfl, Nat.le_of_ble_eq_true rfl⟩ rfl hl.1 rfl (Nat.le_of_ble_eq_true rfl) dX10_liked_9 ⟨Nat.le_of_ble_eq_true rfl, Nat.le_of_ble_eq_true rfl⟩) rfl rfl (fun H locs hW => ?_)
  exact wz_iretE C hlk hr (Option.some.inj h) rfl hW dX10_liked_12
theorem dX10_nextAsked_0 : decode cX10_nextAsked 0 = .ok (.iconst (-1), 1) := by decide +kernel
theorem dX10_nextAsked_1 : decode cX10_nextAsked 1 = .ok (.istore_n 2, 1) := by decide +kernel
theorem dX10_nextAsked_2 : decode cX10_nextAsked 2 = .ok (.iconst 0, 1) := by decide +kernel
theorem dX10_nextAsked_3 : decode cX10_nextAsked 3 = .ok (.istore_n 3, 1) := by decide +kernel
theorem dX10_nextAsked_4 : decode cX10_nextAsked 4 = .ok (.iload_n 3, 1) := by decide +kernel
theorem dX10_nextAsked_5 : decode cX10_nextAsked 5 = .ok (.aload_n 0, 1) := by decide +kernel
theorem dX10_nextAsked_6 : decode cX10_nextAsked 6 = .ok (.iconst 3, 1) := by decide +kernel
theorem dX10_nextAsked_7 : decode cX10_nextAsked 7 = .ok (.invokevirtual 272, 3) := by decide +kernel
theorem dX10_nextAsked_10 : decode cX10_nextAsked 10 = .ok (.if_icmp .ge 48, 3) := by decide +kernel
theorem dX10_nextAsked_13 : decode cX10_nextAsked 13 = .ok (.aload_n 0, 1) := by decide +kernel
theorem dX10_nextAsked_14 : decode cX10_nextAsked 14 = .ok (.getfield 65, 3) := by decide +kernel
theorem dX10_nextAsked_17 : decode cX10_nextAsked 17 = .ok (.iload_n 1, 1) := by decide +kernel
theorem dX10_nextAsked_18 : decode cX10_nextAsked 18 = .ok (.iaload, 1) := by decide +kernel
theorem dX10_nextAsked_19 : decode cX10_nextAsked 19 = .ok (.iload_n 3, 1) := by decide +kernel
theorem dX10_nextAsked_20 : decode cX10_nextAsked 20 = .ok (.invokestatic 85, 3) := by decide +kernel
theorem dX10_nextAsked_23 : decode cX10_nextAsked 23 = .ok (.ifCond .ne 27, 3) := by decide +kernel
theorem dX10_nextAsked_26 : decode cX10_nextAsked 26 = .ok (.iload_n 2, 1) := by decide +kernel
theorem dX10_nextAsked_27 : decode cX10_nextAsked 27 = .ok (.iconst (-1), 1) := by decide +kernel
theorem dX10_nextAsked_28 : decode cX10_nextAsked 28 = .ok (.if_icmp .eq 18, 3) := by decide +kernel
theorem dX10_nextAsked_31 : decode cX10_nextAsked 31 = .ok (.aload_n 0, 1) := by decide +kernel
theorem dX10_nextAsked_32 : decode cX10_nextAsked 32 = .ok (.iload_n 1, 1) := by decide +kernel
theorem dX10_nextAsked_33 : decode cX10_nextAsked 33 = .ok (.iload_n 3, 1) := by decide +kernel
theorem dX10_nextAsked_34 : decode cX10_nextAsked 34 = .ok (.invokevirtual 417, 3) := by decide +kernel
theorem dX10_nextAsked_37 : decode cX10_nextAsked 37 = .ok (.aload_n 0, 1) := by decide +kernel
theorem dX10_nextAsked_38 : decode cX10_nextAsked 38 = .ok (.iload_n 1, 1) := by decide +kernel
theorem dX10_nextAsked_39 : decode cX10_nextAsked 39 = .ok (.iload_n 2, 1) := by decide +kernel
theorem dX10_nextAsked_40 : decode cX10_nextAsked 40 = .ok (.invokevirtual 417, 3) := by decide +kernel
theorem dX10_nextAsked_43 : decode cX10_nextAsked 43 = .ok (.if_icmp .le 7, 3) := by decide +kernel
theorem dX10_nextAsked_46 : decode cX10_nextAsked 46 = .ok (.iload_n 3, 1) := by decide +kernel
theorem dX10_nextAsked_47 : decode cX10_nextAsked 47 = .ok (.goto 4, 3) := by decide +kernel
theorem dX10_nextAsked_50 : decode cX10_nextAsked 50 = .ok (.iload_n 2, 1) := by decide +kernel
theorem dX10_nextAsked_51 : decode cX10_nextAsked 51 = .ok (.istore_n 2, 1) := by decide +kernel
theorem dX10_nextAsked_52 : decode cX10_nextAsked 52 = .ok (.iinc 3 1, 3) := by decide +kernel
theorem dX10_nextAsked_55 : decode cX10_nextAsked 55 = .ok (.goto (-51), 3) := by decide +kernel
theorem dX10_nextAsked_58 : decode cX10_nextAsked 58 = .ok (.iload_n 2, 1) := by decide +kernel
theorem dX10_nextAsked_59 : decode cX10_nextAsked 59 = .ok (.ireturn, 1) := by decide +kernel
theorem cdX10_likes : Cond.code yX10_likes cX10_likes 3 (some .int) ∈ tz := tc7 137 rfl rfl
theorem lVX10_417 : LV RX10 417 yX10_likes cX10_likes 3 (some .int) 2 := ⟨tw 1693 (by decide +kernel) rfl, tw 1695 (by decide +kernel) rfl, tw 95 (by decide +kernel) rfl, tw 128 (by decide +kernel) rfl, cdX10_likes, ⟨by decide +kernel, by decide +kernel, by decide +kernel⟩⟩
abbrev rmX10_nextAsked : Room := { frames := 2, cells := 0, slots := 0, locals := 43 }
def bX10_nextAsked_4 (k4 : Nat → Int32 → Int32 → Int32 → Option (Int32)) (a0 : Nat) (l1 : Int32) (l2 : Int32) (l3 : Int32) (z : AH) : Option (Int32) :=
  (fX10_of a0 (3 : Int32) z).bind fun x7 =>
  if x7 ≤ l3 then (
    some l2
  ) else (
    (gN 9 46 z a0).bind fun b14 =>
    (ixI 0 z b14 l1).bind fun x18 =>
    if (fX10_has x18 l3) = (0 : Int32) then (
      if l2 = (-1 : Int32) then (
        nm (l3 + (1 : Int32)) fun v52 =>
        k4 a0 l1 l3 v52
      ) else (
        (fX10_likes a0 l1 l3 z).bind fun x34 =>
        (fX10_likes a0 l1 l2 z).bind fun x40 =>
        if x34 ≤ x40 then (
          nm (l3 + (1 : Int32)) fun v52 =>
          k4 a0 l1 l2 v52
        ) else (
          nm (l3 + (1 : Int32)) fun v52 =>
          k4 a0 l1 l3 v52
        )
      )
    ) else (
      nm (l3 + (1 : Int32)) fun v52 =>
      k4 a0 l1 l2 v52
    )
  )
set_option maxHeartbeats 4000000 in
set_option maxRecDepth 100000 in
theorem kbX10_nextAsked_4 {p : Program} {l : Launch} {e : Env} {s : State} {m : MethodId} {args : Array Value} {below : List Frame} {meth : Method} {c : Code} {G : GW} {r : Int32} (C : Cx p m c cX10_nextAsked 4 s args RX10 G) (hlk : meth.locks = false) (hr : meth.sig.returnType = (some .int)) {z : AH} (k4 : Nat → Int32 → Int32 → Int32 → Option (Int32)) (hk4 : ∀ (a0 : Nat) (l1 : Int32) (l2 : Int32) (l3 : Int32) (H : Heap) (locs : List Loc) (ls : Array Slot), k4 a0 l1 l2 l3 = some r → Wb G z s H locs → lv_has ls 4 [(0, .ref (gB G + a0)), (1, .int l1), (2, .int l2), (3, .int l3)] → W p l e rmX10_nextAsked s m args below meth c H locs 0 0 (MQ below (Qi G r z) args s 0 0 (AA G)) (F0 m 4 ls [])) (a0 : Nat) (l1 : Int32) (l2 : Int32) (l3 : Int32) {H : Heap} {locs : List Loc} {ls : Array Slot} (h : bX10_nextAsked_4 k4 a0 l1 l2 l3 z = some r) (hW : Wb G z s H locs) (hl : lv_has ls 4 [(0, .ref (gB G + a0)), (1, .int l1), (2, .int l2), (3, .int l3)]) : W p l e rmX10_nextAsked s m args below meth c H locs 0 0 (MQ below (Qi G r z) args s 0 0 (AA G)) (F0 m 4 ls []) := by
  have hx := C.1
  have hb := C.2.1
  unfold bX10_nextAsked_4 at h
  refine lv_iload_n hx hb dX10_nextAsked_4 rfl (lv_at hl 3 rfl) ?_
  refine lv_aload_n hx hb dX10_nextAsked_5 rfl (lv_at hl 0 rfl) ?_
  refine lv_iconst (v := 3) hx hb dX10_nextAsked_6 (by decide) ?_
  obtain ⟨x7, hq, h⟩ := ob h
  refine wz_rI (c' := 0) (s' := 0) hW (wz_runV (rest := [.int l3]) C hW lVX10_272 (ck hq).1 rfl (ctX10_of l G a0 (3 : Int32) z hq) ⟨⟨rfl, rfl⟩, Nat.le_of_ble_eq_true rfl, Nat.le_of_ble_eq_true rfl⟩ rfl hl.1 rfl (Nat.le_of_ble_eq_true rfl) dX10_nextAsked_7 ⟨Nat.le_of_ble_eq_true rfl, Nat.le_of_ble_eq_true rfl⟩) rfl rfl (fun H locs hW => ?_)
  refine lv_icmp_ge (tgt := 58) hx hb dX10_nextAsked_10 (by decide) (fun c10 => ?_) (fun c10 => ?_)
  · have h := ite_t c10 h
    refine lv_iload_n hx hb dX10_nextAsked_58 rfl (lv_at hl 2 rfl) ?_
    exact wz_iretE C hlk hr (Option.some.inj h) rfl hW dX10_nextAsked_59
  · have h := ite_f c10 h
    refine lv_aload_n hx hb dX10_nextAsked_13 rfl (lv_at hl 0 rfl) ?_
    obtain ⟨b14, hg, h⟩ := ob h
    refine wz_gN C hW flX10_65 hg dX10_nextAsked_14 ?_
    refine lv_iload_n hx hb dX10_nextAsked_17 rfl (lv_at hl 1 rfl) ?_
    obtain ⟨x18, hg, h⟩ := ob h
    refine wz_ald C hW hg dX10_nextAsked_18 ?_
    refine lv_iload_n hx hb dX10_nextAsked_19 rfl (lv_at hl 3 rfl) ?_
    refine wz_rI (c' := 0) (s' := 0) hW (wz_runS (rest := []) C hW lTX10_85 (ctX10_has l G x18 l3 z rfl) ⟨⟨rfl, rfl⟩, Nat.le_of_ble_eq_true rfl, Nat.le_of_ble_eq_true rfl⟩ rfl hl.1 rfl (Nat.le_of_ble_eq_true rfl) dX10_nextAsked_20 ⟨Nat.le_of_ble_eq_true rfl, Nat.le_of_ble_eq_true rfl⟩) rfl rfl (fun H locs hW => ?_)
    refine lv_if_ne (tgt := 50) hx hb dX10_nextAsked_23 (by decide) (fun c23 => ?_) (fun c23 => ?_)
    · have h := ite_f c23 h
      refine lv_iload_n hx hb dX10_nextAsked_50 rfl (lv_at hl 2 rfl) ?_
      refine lv_istore_n (lv' := [(2, .int l2), (0, .ref (gB G + a0)), (1, .int l1), (3, .int l3)]) hx hb dX10_nextAsked_51 rfl hl (by decide) rfl (fun ls hl => ?_)
      obtain ⟨v52, ev52⟩ : ∃ y : Int32, y = (l3 + (1 : Int32)) := ⟨_, rfl⟩
      have h := nm_to h ev52
      refine lv_iinc (v := v52) (lv' := [(3, .int v52), (2, .int l2), (0, .ref (gB G + a0)), (1, .int l1)]) hx hb dX10_nextAsked_52 hl (k := 3) rfl (by rw [ev52]; rfl) (by decide) rfl (fun ls hl => ?_)
      refine lv_goto (tgt := 4) hx hb dX10_nextAsked_55 (by decide) ?_
      exact hk4 a0 l1 l2 v52 _ _ _ h hW (lv_sub hl [2, 3, 1, 0] rfl)
    · have h := ite_t c23 h
      refine lv_iload_n hx hb dX10_nextAsked_26 rfl (lv_at hl 2 rfl) ?_
      refine lv_iconst (v := -1) hx hb dX10_nextAsked_27 (by decide) ?_
      refine lv_icmp_eq (tgt := 46) hx hb dX10_nextAsked_28 (by decide) (fun c28 => ?_) (fun c28 => ?_)
      · have h := ite_t c28 h
        refine lv_iload_n hx hb dX10_nextAsked_46 rfl (lv_at hl 3 rfl) ?_
        refine lv_goto (tgt := 51) hx hb dX10_nextAsked_47 (by decide) ?_
        refine lv_istore_n (lv' := [(2, .int l3), (0, .ref (gB G + a0)), (1, .int l1), (3, .int l3)]) hx hb dX10_nextAsked_51 rfl hl (by decide) rfl (fun ls hl => ?_)
        obtain ⟨v52, ev52⟩ : ∃ y : Int32, y = (l3 + (1 : Int32)) := ⟨_, rfl⟩
        have h := nm_to h ev52
        refine lv_iinc (v := v52) (lv' := [(3, .int v52), (2, .int l3), (0, .ref (gB G + a0)), (1, .int l1)]) hx hb dX10_nextAsked_52 hl (k := 3) rfl (by rw [ev52]; rfl) (by decide) rfl (fun ls hl => ?_)
        refine lv_goto (tgt := 4) hx hb dX10_nextAsked_55 (by decide) ?_
        exact hk4 a0 l1 l3 v52 _ _ _ h hW (lv_sub hl [2, 3, 1, 0] rfl)
      · have h := ite_f c28 h
        refine lv_aload_n hx hb dX10_nextAsked_31 rfl (lv_at hl 0 rfl) ?_
        refine lv_iload_n hx hb dX10_nextAsked_32 rfl (lv_at hl 1 rfl) ?_
        refine lv_iload_n hx hb dX10_nextAsked_33 rfl (lv_at hl 3 rfl) ?_
        obtain ⟨x34, hq, h⟩ := ob h
        refine wz_rI (c' := 0) (s' := 0) hW (wz_runV (rest := []) C hW lVX10_417 (ck hq).1 rfl (ctX10_likes l G a0 l1 l3 z hq) ⟨⟨rfl, rfl⟩, Nat.le_of_ble_eq_true rfl, Nat.le_of_ble_eq_true rfl⟩ rfl hl.1 rfl (Nat.le_of_ble_eq_true rfl) dX10_nextAsked_34 ⟨Nat.le_of_ble_eq_true rfl, Nat.le_of_ble_eq_true rfl⟩) rfl rfl (fun H locs hW => ?_)
        refine lv_aload_n hx hb dX10_nextAsked_37 rfl (lv_at hl 0 rfl) ?_
        refine lv_iload_n hx hb dX10_nextAsked_38 rfl (lv_at hl 1 rfl) ?_
        refine lv_iload_n hx hb dX10_nextAsked_39 rfl (lv_at hl 2 rfl) ?_
        obtain ⟨x40, hq, h⟩ := ob h
        refine wz_rI (c' := 0) (s' := 0) hW (wz_runV (rest := [.int x34]) C hW lVX10_417 (ck hq).1 rfl (ctX10_likes l G a0 l1 l2 z hq) ⟨⟨rfl, rfl⟩, Nat.le_of_ble_eq_true rfl, Nat.le_of_ble_eq_true rfl⟩ rfl hl.1 rfl (Nat.le_of_ble_eq_true rfl) dX10_nextAsked_40 ⟨Nat.le_of_ble_eq_true rfl, Nat.le_of_ble_eq_true rfl⟩) rfl rfl (fun H locs hW => ?_)
        refine lv_icmp_le (tgt := 50) hx hb dX10_nextAsked_43 (by decide) (fun c43 => ?_) (fun c43 => ?_)
        · have h := ite_t c43 h
          refine lv_iload_n hx hb dX10_nextAsked_50 rfl (lv_at hl 2 rfl) ?_
          refine lv_istore_n (lv' := [(2, .int l2), (0, .ref (gB G + a0)), (1, .int l1), (3, .int l3)]) hx hb dX10_nextAsked_51 rfl hl (by decide) rfl (fun ls hl => ?_)
          obtain ⟨v52, ev52⟩ : ∃ y : Int32, y = (l3 + (1 : Int32)) := ⟨_, rfl⟩
          have h := nm_to h ev52
          refine lv_iinc (v := v52) (lv' := [(3, .int v52), (2, .int l2), (0, .ref (gB G + a0)), (1, .int l1)]) hx hb dX10_nextAsked_52 hl (k := 3) rfl (by rw [ev52]; rfl) (by decide) rfl (fun ls hl => ?_)
          refine lv_goto (tgt := 4) hx hb dX10_nextAsked_55 (by decide) ?_
          exact hk4 a0 l1 l2 v52 _ _ _ h hW (lv_sub hl [2, 3, 1, 0] rfl)
        · have h := ite_f c43 h
          refine lv_iload_n hx hb dX10_nextAsked_46 rfl (lv_at hl 3 rfl) ?_
          refine lv_goto (tgt := 51) hx hb dX10_nextAsked_47 (by decide) ?_
          refine lv_istore_n (lv' := [(2, .int l3), (0, .ref (gB G + a0)), (1, .int l1), (3, .int l3)]) hx hb dX10_nextAsked_51 rfl hl (by decide) rfl (fun ls hl => ?_)
          obtain ⟨v52, ev52⟩ : ∃ y : Int32, y = (l3 + (1 : Int32)) := ⟨_, rfl⟩
          have h := nm_to h ev52
          refine lv_iinc (v := v52) (lv' := [(3, .int v52), (2, .int l3), (0, .ref (gB G + a0)), (1, .int l1)]) hx hb dX10_nextAsked_52 hl (k := 3) rfl (by rw [ev52]; rfl) (by decide) rfl (fun ls hl => ?_)
          refine lv_goto (tgt := 4) hx hb dX10_nextAsked_55 (by decide) ?_
          exact hk4 a0 l1 l3 v52 _ _ _ h hW (lv_sub hl [2, 3, 1, 0] rfl)
def fX10_nextAsked_4 (z : AH) : Nat → Nat → Int32 → Int32 → Int32 → Option (Int32)
  | 0, _, _, _, _ => none
  | n + 1, a0, l1, l2, l3 => bX10_nextAsked_4 (fX10_nextAsked_4 z n) a0 l1 l2 l3 z
theorem klX10_nextAsked_4 {p : Program} {l : Launch} {e : Env} {s : State} {m : MethodId} {args : Array Value} {below : List Frame} {meth : Method} {c : Code} {G : GW} {r : Int32} (C : Cx p m c cX10_nextAsked 4 s args RX10 G) (hlk : meth.locks = false) (hr : meth.sig.returnType = (some .int)) {z : AH} : ∀ (n : Nat) (a0 : Nat) (l1 : Int32) (l2 : Int32) (l3 : Int32) (H : Heap) (locs : List Loc) (ls : Array Slot), fX10_nextAsked_4 z n a0 l1 l2 l3 = some r → Wb G z s H locs → lv_has ls 4 [(0, .ref (gB G + a0)), (1, .int l1), (2, .int l2), (3, .int l3)] → W p l e rmX10_nextAsked s m args below meth c H locs 0 0 (MQ below (Qi G r z) args s 0 0 (AA G)) (F0 m 4 ls []) := by
  intro n
  induction n with
  | zero => intro a0 l1 l2 l3 H locs ls h; have h : (none : Option (Int32)) = some r := h; cases h
  | succ n ih => intro a0 l1 l2 l3 H locs ls h hW hl; exact kbX10_nextAsked_4 C hlk hr (fX10_nextAsked_4 z n) (fun a0 l1 l2 l3 H locs ls h hW hl => ih a0 l1 l2 l3 H locs ls h hW hl) a0 l1 l2 l3 h hW hl
def fX10_nextAsked (a0 : Nat) (l1 : Int32) (z : AH) : Option (Int32) :=
  if isO 9 z a0 = true then
    fX10_nextAsked_4 z FU a0 l1 (-1 : Int32) (0 : Int32)
  else none
set_option maxHeartbeats 4000000 in
set_option maxRecDepth 100000 in
theorem ctX10_nextAsked (l : Launch) (G : GW) (a0 : Nat) (l1 : Int32) (z : AH) {r : Int32} (h : fX10_nextAsked a0 l1 z = some r) : Met l yX10_nextAsked (wy yX10_nextAsked cX10_nextAsked 4 (some .int)) rmX10_nextAsked (Pz G [.ref (gB G + a0), .int l1] z) (Qi G r z) 0 0 (AA G) := by
  refine wz_ent (own := RX10) (by decide +kernel) rfl (fun p e s m below meth c ls C hlk hr hin hW hl => ?_) (Nat.le_of_ble_eq_true rfl)
  have hl : lv_has ls 4 [(0, .ref (gB G + a0)), (1, .int l1)] := hl
  have hx := C.1
  have hb := C.2.1
  unfold fX10_nextAsked at h
  obtain ⟨-, h⟩ := ck h
  refine lv_iconst (v := -1) hx hb dX10_nextAsked_0 (by decide) ?_
  refine lv_istore_n (lv' := [(2, .int (-1 : Int32)), (0, .ref (gB G + a0)), (1, .int l1)]) hx hb dX10_nextAsked_1 rfl hl (by decide) rfl (fun ls hl => ?_)
  refine lv_iconst (v := 0) hx hb dX10_nextAsked_2 (by decide) ?_
  refine lv_istore_n (lv' := [(3, .int (0 : Int32)), (2, .int (-1 : Int32)), (0, .ref (gB G + a0)), (1, .int l1)]) hx hb dX10_nextAsked_3 rfl hl (by decide) rfl (fun ls hl => ?_)
  exact klX10_nextAsked_4 C hlk hr FU a0 l1 (-1 : Int32) (0 : Int32) _ _ _ h hW (lv_sub hl [2, 3, 1, 0] rfl)
theorem dX10_asks_0 : decode cX10_asks 0 = .ok (.aload_n 0, 1) := by decide +kernel
theorem dX10_asks_1 : decode cX10_asks 1 = .ok (.getfield 65, 3) := by decide +kernel
theorem dX10_asks_4 : decode cX10_asks 4 = .ok (.iload_n 1, 1) := by decide +kernel
theorem dX10_asks_5 : decode cX10_asks 5 = .ok (.dup2, 1) := by decide +kernel
theorem dX10_asks_6 : decode cX10_asks 6 = .ok (.iaload, 1) := by decide +kernel
theorem dX10_asks_7 : decode cX10_asks 7 = .ok (.iconst 1, 1) := by decide +kernel
theorem dX10_asks_8 : decode cX10_asks 8 = .ok (.iload_n 2, 1) := by decide +kernel
theorem dX10_asks_9 : decode cX10_asks 9 = .ok (.ishl, 1) := by decide +kernel
theorem dX10_asks_10 : decode cX10_asks 10 = .ok (.ior, 1) := by decide +kernel
theorem dX10_asks_11 : decode cX10_asks 11 = .ok (.iastore, 1) := by decide +kernel
theorem dX10_asks_12 : decode cX10_asks 12 = .ok (.aload_n 0, 1) := by decide +kernel
theorem dX10_asks_13 : decode cX10_asks 13 = .ok (.getfield 62, 3) := by decide +kernel
theorem dX10_asks_16 : decode cX10_asks 16 = .ok (.iload_n 2, 1) := by decide +kernel
theorem dX10_asks_17 : decode cX10_asks 17 = .ok (.iaload, 1) := by decide +kernel
theorem dX10_asks_18 : decode cX10_asks 18 = .ok (.istore_n 3, 1) := by decide +kernel
theorem dX10_asks_19 : decode cX10_asks 19 = .ok (.iload_n 3, 1) := by decide +kernel
theorem dX10_asks_20 : decode cX10_asks 20 = .ok (.iconst (-1), 1) := by decide +kernel
theorem dX10_asks_21 : decode cX10_asks 21 = .ok (.if_icmp .eq 38, 3) := by decide +kernel
theorem dX10_asks_24 : decode cX10_asks 24 = .ok (.aload_n 0, 1) := by decide +kernel
theorem dX10_asks_25 : decode cX10_asks 25 = .ok (.iload_n 2, 1) := by decide +kernel
theorem dX10_asks_26 : decode cX10_asks 26 = .ok (.iload_n 1, 1) := by decide +kernel
theorem dX10_asks_27 : decode cX10_asks 27 = .ok (.invokevirtual 420, 3) := by decide +kernel
theorem dX10_asks_30 : decode cX10_asks 30 = .ok (.aload_n 0, 1) := by decide +kernel
theorem dX10_asks_31 : decode cX10_asks 31 = .ok (.iload_n 2, 1) := by decide +kernel
theorem dX10_asks_32 : decode cX10_asks 32 = .ok (.iload_n 3, 1) := by decide +kernel
theorem dX10_asks_33 : decode cX10_asks 33 = .ok (.invokevirtual 420, 3) := by decide +kernel
theorem dX10_asks_36 : decode cX10_asks 36 = .ok (.if_icmp .gt 23, 3) := by decide +kernel
theorem dX10_asks_39 : decode cX10_asks 39 = .ok (.aload_n 0, 1) := by decide +kernel
theorem dX10_asks_40 : decode cX10_asks 40 = .ok (.iload_n 2, 1) := by decide +kernel
theorem dX10_asks_41 : decode cX10_asks 41 = .ok (.iload_n 1, 1) := by decide +kernel
theorem dX10_asks_42 : decode cX10_asks 42 = .ok (.invokevirtual 420, 3) := by decide +kernel
theorem dX10_asks_45 : decode cX10_asks 45 = .ok (.aload_n 0, 1) := by decide +kernel
theorem dX10_asks_46 : decode cX10_asks 46 = .ok (.iload_n 2, 1) := by decide +kernel
theorem dX10_asks_47 : decode cX10_asks 47 = .ok (.iload_n 3, 1) := by decide +kernel
theorem dX10_asks_48 : decode cX10_asks 48 = .ok (.invokevirtual 420, 3) := by decide +kernel
theorem dX10_asks_51 : decode cX10_asks 51 = .ok (.if_icmp .ne 34, 3) := by decide +kernel
theorem dX10_asks_54 : decode cX10_asks 54 = .ok (.iload_n 1, 1) := by decide +kernel
theorem dX10_asks_55 : decode cX10_asks 55 = .ok (.iload_n 3, 1) := by decide +kernel
theorem dX10_asks_56 : decode cX10_asks 56 = .ok (.if_icmp .ge 29, 3) := by decide +kernel
theorem dX10_asks_59 : decode cX10_asks 59 = .ok (.aload_n 0, 1) := by decide +kernel
theorem dX10_asks_60 : decode cX10_asks 60 = .ok (.getfield 62, 3) := by decide +kernel
theorem dX10_asks_63 : decode cX10_asks 63 = .ok (.iload_n 2, 1) := by decide +kernel
theorem dX10_asks_64 : decode cX10_asks 64 = .ok (.iload_n 1, 1) := by decide +kernel
theorem dX10_asks_65 : decode cX10_asks 65 = .ok (.iastore, 1) := by decide +kernel
theorem dX10_asks_66 : decode cX10_asks 66 = .ok (.aload_n 0, 1) := by decide +kernel
theorem dX10_asks_67 : decode cX10_asks 67 = .ok (.getfield 59, 3) := by decide +kernel
theorem dX10_asks_70 : decode cX10_asks 70 = .ok (.iload_n 1, 1) := by decide +kernel
theorem dX10_asks_71 : decode cX10_asks 71 = .ok (.iload_n 2, 1) := by decide +kernel
theorem dX10_asks_72 : decode cX10_asks 72 = .ok (.iastore, 1) := by decide +kernel
theorem dX10_asks_73 : decode cX10_asks 73 = .ok (.iload_n 3, 1) := by decide +kernel
theorem dX10_asks_74 : decode cX10_asks 74 = .ok (.iconst (-1), 1) := by decide +kernel
theorem dX10_asks_75 : decode cX10_asks 75 = .ok (.if_icmp .eq 10, 3) := by decide +kernel
theorem dX10_asks_78 : decode cX10_asks 78 = .ok (.aload_n 0, 1) := by decide +kernel
theorem dX10_asks_79 : decode cX10_asks 79 = .ok (.getfield 59, 3) := by decide +kernel
theorem dX10_asks_82 : decode cX10_asks 82 = .ok (.iload_n 3, 1) := by decide +kernel
theorem dX10_asks_83 : decode cX10_asks 83 = .ok (.iconst (-1), 1) := by decide +kernel
theorem dX10_asks_84 : decode cX10_asks 84 = .ok (.iastore, 1) := by decide +kernel
theorem dX10_asks_85 : decode cX10_asks 85 = .ok (.return_, 1) := by decide +kernel
theorem cdX10_liked : Cond.code yX10_liked cX10_liked 3 (some .int) ∈ tz := tc7 145 rfl rfl
theorem lVX10_420 : LV RX10 420 yX10_liked cX10_liked 3 (some .int) 2 := ⟨tw 1701 (by decide +kernel) rfl, tw 1703 (by decide +kernel) rfl, tw 97 (by decide +kernel) rfl, tw 128 (by decide +kernel) rfl, cdX10_liked, ⟨by decide +kernel, by decide +kernel, by decide +kernel⟩⟩
abbrev rmX10_asks : Room := { frames := 2, cells := 0, slots := 0, locals := 43 }
def bX10_asks_59 (a0 : Nat) (l1 : Int32) (l2 : Int32) (l3 : Int32) (z : AH) : Option AH :=
  (gN 9 45 z a0).bind fun b60 =>
  (stI 0 z b60 l2 l1).bind fun z65 =>
  (gN 9 44 z65 a0).bind fun b67 =>
  (stI 0 z65 b67 l1 l2).bind fun z72 =>
  if l3 = (-1 : Int32) then (
    some z72
  ) else (
    (gN 9 44 z72 a0).bind fun b79 =>
    (stI 0 z72 b79 l3 (-1 : Int32)).bind fun z84 =>
    some z84
  )
set_option maxHeartbeats 4000000 in
set_option maxRecDepth 100000 in
theorem kbX10_asks_59 {p : Program} {l : Launch} {e : Env} {s : State} {m : MethodId} {args : Array Value} {below : List Frame} {meth : Method} {c : Code} {G : GW} {z' : AH} (C : Cx p m c cX10_asks 4 s args RX10 G) (hlk : meth.locks = false) (hr : meth.sig.returnType = none) (a0 : Nat) (l1 : Int32) (l2 : Int32) (l3 : Int32) {z : AH} {H : Heap} {locs : List Loc} {ls : Array Slot} (h : bX10_asks_59 a0 l1 l2 l3 z = some z') (hW : Wb G z s H locs) (hl : lv_has ls 4 [(0, .ref (gB G + a0)), (1, .int l1), (2, .int l2), (3, .int l3)]) : W p l e rmX10_asks s m args below meth c H locs 0 0 (MQ below (Qv G z') args s 0 0 (AA G)) (F0 m 59 ls []) := by
  have hx := C.1
  have hb := C.2.1
  unfold bX10_asks_59 at h
  refine lv_aload_n hx hb dX10_asks_59 rfl (lv_at hl 0 rfl) ?_
  obtain ⟨b60, hg, h⟩ := ob h
  refine wz_gN C hW flX10_62 hg dX10_asks_60 ?_
  refine lv_iload_n hx hb dX10_asks_63 rfl (lv_at hl 2 rfl) ?_
  refine lv_iload_n hx hb dX10_asks_64 rfl (lv_at hl 1 rfl) ?_
  obtain ⟨z65, hg, h⟩ := ob h
  refine wz_ast C hW hg dX10_asks_65 (fun H locs hW => ?_)
  refine lv_aload_n hx hb dX10_asks_66 rfl (lv_at hl 0 rfl) ?_
  obtain ⟨b67, hg, h⟩ := ob h
  refine wz_gN C hW flX10_59 hg dX10_asks_67 ?_
  refine lv_iload_n hx hb dX10_asks_70 rfl (lv_at hl 1 rfl) ?_
  refine lv_iload_n hx hb dX10_asks_71 rfl (lv_at hl 2 rfl) ?_
  obtain ⟨z72, hg, h⟩ := ob h
  refine wz_ast C hW hg dX10_asks_72 (fun H locs hW => ?_)
  refine lv_iload_n hx hb dX10_asks_73 rfl (lv_at hl 3 rfl) ?_
  refine lv_iconst (v := -1) hx hb dX10_asks_74 (by decide) ?_
  refine lv_icmp_eq (tgt := 85) hx hb dX10_asks_75 (by decide) (fun c75 => ?_) (fun c75 => ?_)
  · have h := ite_t c75 h
    exact wz_vretE C hlk hr (Option.some.inj h) hW dX10_asks_85
  · have h := ite_f c75 h
    refine lv_aload_n hx hb dX10_asks_78 rfl (lv_at hl 0 rfl) ?_
    obtain ⟨b79, hg, h⟩ := ob h
    refine wz_gN C hW flX10_59 hg dX10_asks_79 ?_
    refine lv_iload_n hx hb dX10_asks_82 rfl (lv_at hl 3 rfl) ?_
    refine lv_iconst (v := -1) hx hb dX10_asks_83 (by decide) ?_
    obtain ⟨z84, hg, h⟩ := ob h
    refine wz_ast C hW hg dX10_asks_84 (fun H locs hW => ?_)
    exact wz_vretE C hlk hr (Option.some.inj h) hW dX10_asks_85
def fX10_asks (a0 : Nat) (l1 : Int32) (l2 : Int32) (z : AH) : Option AH :=
  if isO 9 z a0 = true then
    (gN 9 46 z a0).bind fun b1 =>
    (ixI 0 z b1 l1).bind fun x6 =>
    (stI 0 z b1 l1 (x6 ||| (shl (1 : Int32) l2))).bind fun z11 =>
    (gN 9 45 z11 a0).bind fun b13 =>
    (ixI 0 z11 b13 l2).bind fun x17 =>
    if x17 = (-1 : Int32) then (
      bX10_asks_59 a0 l1 l2 x17 z11
    ) else (
      (fX10_liked a0 l2 l1 z11).bind fun x27 =>
      (fX10_liked a0 l2 x17 z11).bind fun x33 =>
      if x33 < x27 then (
        bX10_asks_59 a0 l1 l2 x17 z11
      ) else (
        (fX10_liked a0 l2 l1 z11).bind fun x42 =>
        (fX10_liked a0 l2 x17 z11).bind fun x48 =>
        if x42 = x48 then (
          if x17 ≤ l1 then (
            some z11
          ) else (
            bX10_asks_59 a0 l1 l2 x17 z11
          )
        ) else (
          some z11
        )
      )
    )
  else none
set_option maxHeartbeats 4000000 in
set_option maxRecDepth 100000 in
theorem ctX10_asks (l : Launch) (G : GW) (a0 : Nat) (l1 : Int32) (l2 : Int32) (z : AH) {z' : AH} (h : fX10_asks a0 l1 l2 z = some z') : Met l yX10_asks (wy yX10_asks cX10_asks 4 none) rmX10_asks (Pz G [.ref (gB G + a0), .int l1, .int l2] z) (Qv G z') 0 0 (AA G) := by
  refine wz_ent (own := RX10) (by decide +kernel) rfl (fun p e s m below meth c ls C hlk hr hin hW hl => ?_) (Nat.le_of_ble_eq_true rfl)
  have hl : lv_has ls 4 [(0, .ref (gB G + a0)), (1, .int l1), (2, .int l2)] := hl
  have hx := C.1
  have hb := C.2.1
  unfold fX10_asks at h
  obtain ⟨-, h⟩ := ck h
  refine lv_aload_n hx hb dX10_asks_0 rfl (lv_at hl 0 rfl) ?_
  obtain ⟨b1, hg, h⟩ := ob h
  refine wz_gN C hW flX10_65 hg dX10_asks_1 ?_
  refine lv_iload_n hx hb dX10_asks_4 rfl (lv_at hl 1 rfl) ?_
  refine lv_dup2_11 hx hb dX10_asks_5 rfl rfl ?_
  obtain ⟨x6, hg, h⟩ := ob h
  refine wz_ald C hW hg dX10_asks_6 ?_
  refine lv_iconst (v := 1) hx hb dX10_asks_7 (by decide) ?_
  refine lv_iload_n hx hb dX10_asks_8 rfl (lv_at hl 2 rfl) ?_
  refine wz_shl hx hb dX10_asks_9 ?_
  refine lv_ior hx hb dX10_asks_10 ?_
  obtain ⟨z11, hg, h⟩ := ob h
  refine wz_ast C hW hg dX10_asks_11 (fun H locs hW => ?_)
  refine lv_aload_n hx hb dX10_asks_12 rfl (lv_at hl 0 rfl) ?_
  obtain ⟨b13, hg, h⟩ := ob h
  refine wz_gN C hW flX10_62 hg dX10_asks_13 ?_
  refine lv_iload_n hx hb dX10_asks_16 rfl (lv_at hl 2 rfl) ?_
  obtain ⟨x17, hg, h⟩ := ob h
  refine wz_ald C hW hg dX10_asks_17 ?_
  refine lv_istore_n (lv' := [(3, .int x17), (0, .ref (gB G + a0)), (1, .int l1), (2, .int l2)]) hx hb dX10_asks_18 rfl hl (by decide) rfl (fun ls hl => ?_)
  refine lv_iload_n hx hb dX10_asks_19 rfl (lv_at hl 0 rfl) ?_
  refine lv_iconst (v := -1) hx hb dX10_asks_20 (by decide) ?_
  refine lv_icmp_eq (tgt := 59) hx hb dX10_asks_21 (by decide) (fun c21 => ?_) (fun c21 => ?_)
  · have h := ite_t c21 h
    exact kbX10_asks_59 C hlk hr a0 l1 l2 x17 h hW (lv_sub hl [1, 2, 3, 0] rfl)
  · have h := ite_f c21 h
    refine lv_aload_n hx hb dX10_asks_24 rfl (lv_at hl 1 rfl) ?_
    refine lv_iload_n hx hb dX10_asks_25 rfl (lv_at hl 3 rfl) ?_
    refine lv_iload_n hx hb dX10_asks_26 rfl (lv_at hl 2 rfl) ?_
    obtain ⟨x27, hq, h⟩ := ob h
    refine wz_rI (c' := 0) (s' := 0) hW (wz_runV (rest := []) C hW lVX10_420 (ck hq).1 rfl (ctX10_liked l G a0 l2 l1 z11 hq) ⟨⟨rfl, rfl⟩, Nat.le_of_ble_eq_true rfl, Nat.le_of_ble_eq_true rfl⟩ rfl hl.1 rfl (Nat.le_of_ble_eq_true rfl) dX10_asks_27 ⟨Nat.le_of_ble_eq_true rfl, Nat.le_of_ble_eq_true rfl⟩) rfl rfl (fun H locs hW => ?_)
    refine lv_aload_n hx hb dX10_asks_30 rfl (lv_at hl 1 rfl) ?_
    refine lv_iload_n hx hb dX10_asks_31 rfl (lv_at hl 3 rfl) ?_
    refine lv_iload_n hx hb dX10_asks_32 rfl (lv_at hl 0 rfl) ?_
    obtain ⟨x33, hq, h⟩ := ob h
    refine wz_rI (c' := 0) (s' := 0) hW (wz_runV (rest := [.int x27]) C hW lVX10_420 (ck hq).1 rfl (ctX10_liked l G a0 l2 x17 z11 hq) ⟨⟨rfl, rfl⟩, Nat.le_of_ble_eq_true rfl, Nat.le_of_ble_eq_true rfl⟩ rfl hl.1 rfl (Nat.le_of_ble_eq_true rfl) dX10_asks_33 ⟨Nat.le_of_ble_eq_true rfl, Nat.le_of_ble_eq_true rfl⟩) rfl rfl (fun H locs hW => ?_)
    refine lv_icmp_gt (tgt := 59) hx hb dX10_asks_36 (by decide) (fun c36 => ?_) (fun c36 => ?_)
    · have h := ite_t c36 h
      exact kbX10_asks_59 C hlk hr a0 l1 l2 x17 h hW (lv_sub hl [1, 2, 3, 0] rfl)
    · have h := ite_f c36 h
      refine lv_aload_n hx hb dX10_asks_39 rfl (lv_at hl 1 rfl) ?_
      refine lv_iload_n hx hb dX10_asks_40 rfl (lv_at hl 3 rfl) ?_
      refine lv_iload_n hx hb dX10_asks_41 rfl (lv_at hl 2 rfl) ?_
      obtain ⟨x42, hq, h⟩ := ob h
      refine wz_rI (c' := 0) (s' := 0) hW (wz_runV (rest := []) C hW lVX10_420 (ck hq).1 rfl (ctX10_liked l G a0 l2 l1 z11 hq) ⟨⟨rfl, rfl⟩, Nat.le_of_ble_eq_true rfl, Nat.le_of_ble_eq_true rfl⟩ rfl hl.1 rfl (Nat.le_of_ble_eq_true rfl) dX10_asks_42 ⟨Nat.le_of_ble_eq_true rfl, Nat.le_of_ble_eq_true rfl⟩) rfl rfl (fun H locs hW => ?_)
      refine lv_aload_n hx hb dX10_asks_45 rfl (lv_at hl 1 rfl) ?_
      refine lv_iload_n hx hb dX10_asks_46 rfl (lv_at hl 3 rfl) ?_
      refine lv_iload_n hx hb dX10_asks_47 rfl (lv_at hl 0 rfl) ?_
      obtain ⟨x48, hq, h⟩ := ob h
      refine wz_rI (c' := 0) (s' := 0) hW (wz_runV (rest := [.int x42]) C hW lVX10_420 (ck hq).1 rfl (ctX10_liked l G a0 l2 x17 z11 hq) ⟨⟨rfl, rfl⟩, Nat.le_of_ble_eq_true rfl, Nat.le_of_ble_eq_true rfl⟩ rfl hl.1 rfl (Nat.le_of_ble_eq_true rfl) dX10_asks_48 ⟨Nat.le_of_ble_eq_true rfl, Nat.le_of_ble_eq_true rfl⟩) rfl rfl (fun H locs hW => ?_)
      refine lv_icmp_ne (tgt := 85) hx hb dX10_asks_51 (by decide) (fun c51 => ?_) (fun c51 => ?_)
      · have h := ite_f c51 h
        exact wz_vretE C hlk hr (Option.some.inj h) hW dX10_asks_85
      · have h := ite_t c51 h
        refine lv_iload_n hx hb dX10_asks_54 rfl (lv_at hl 2 rfl) ?_
        refine lv_iload_n hx hb dX10_asks_55 rfl (lv_at hl 0 rfl) ?_
        refine lv_icmp_ge (tgt := 85) hx hb dX10_asks_56 (by decide) (fun c56 => ?_) (fun c56 => ?_)
        · have h := ite_t c56 h
          exact wz_vretE C hlk hr (Option.some.inj h) hW dX10_asks_85
        · have h := ite_f c56 h
          exact kbX10_asks_59 C hlk hr a0 l1 l2 x17 h hW (lv_sub hl [1, 2, 3, 0] rfl)
theorem dX10_marry_0 : decode cX10_marry 0 = .ok (.iconst 0, 1) := by decide +kernel
theorem dX10_marry_1 : decode cX10_marry 1 = .ok (.istore_n 1, 1) := by decide +kernel
theorem dX10_marry_2 : decode cX10_marry 2 = .ok (.iload_n 1, 1) := by decide +kernel
theorem dX10_marry_3 : decode cX10_marry 3 = .ok (.iconst 4, 1) := by decide +kernel
theorem dX10_marry_4 : decode cX10_marry 4 = .ok (.if_icmp .ge 30, 3) := by decide +kernel
theorem dX10_marry_7 : decode cX10_marry 7 = .ok (.aload_n 0, 1) := by decide +kernel
theorem dX10_marry_8 : decode cX10_marry 8 = .ok (.getfield 59, 3) := by decide +kernel
theorem dX10_marry_11 : decode cX10_marry 11 = .ok (.iload_n 1, 1) := by decide +kernel
theorem dX10_marry_12 : decode cX10_marry 12 = .ok (.iconst (-1), 1) := by decide +kernel
theorem dX10_marry_13 : decode cX10_marry 13 = .ok (.iastore, 1) := by decide +kernel
theorem dX10_marry_14 : decode cX10_marry 14 = .ok (.aload_n 0, 1) := by decide +kernel
theorem dX10_marry_15 : decode cX10_marry 15 = .ok (.getfield 62, 3) := by decide +kernel
theorem dX10_marry_18 : decode cX10_marry 18 = .ok (.iload_n 1, 1) := by decide +kernel
theorem dX10_marry_19 : decode cX10_marry 19 = .ok (.iconst (-1), 1) := by decide +kernel
theorem dX10_marry_20 : decode cX10_marry 20 = .ok (.iastore, 1) := by decide +kernel
theorem dX10_marry_21 : decode cX10_marry 21 = .ok (.aload_n 0, 1) := by decide +kernel
theorem dX10_marry_22 : decode cX10_marry 22 = .ok (.getfield 65, 3) := by decide +kernel
theorem dX10_marry_25 : decode cX10_marry 25 = .ok (.iload_n 1, 1) := by decide +kernel
theorem dX10_marry_26 : decode cX10_marry 26 = .ok (.iconst 0, 1) := by decide +kernel
theorem dX10_marry_27 : decode cX10_marry 27 = .ok (.iastore, 1) := by decide +kernel
theorem dX10_marry_28 : decode cX10_marry 28 = .ok (.iinc 1 1, 3) := by decide +kernel
theorem dX10_marry_31 : decode cX10_marry 31 = .ok (.goto (-29), 3) := by decide +kernel
theorem dX10_marry_34 : decode cX10_marry 34 = .ok (.iconst 1, 1) := by decide +kernel
theorem dX10_marry_35 : decode cX10_marry 35 = .ok (.istore_n 1, 1) := by decide +kernel
theorem dX10_marry_36 : decode cX10_marry 36 = .ok (.iload_n 1, 1) := by decide +kernel
theorem dX10_marry_37 : decode cX10_marry 37 = .ok (.ifCond .eq 58, 3) := by decide +kernel
theorem dX10_marry_40 : decode cX10_marry 40 = .ok (.iconst 0, 1) := by decide +kernel
theorem dX10_marry_41 : decode cX10_marry 41 = .ok (.istore_n 1, 1) := by decide +kernel
theorem dX10_marry_42 : decode cX10_marry 42 = .ok (.iconst 0, 1) := by decide +kernel
theorem dX10_marry_43 : decode cX10_marry 43 = .ok (.istore_n 2, 1) := by decide +kernel
theorem dX10_marry_44 : decode cX10_marry 44 = .ok (.iload_n 2, 1) := by decide +kernel
theorem dX10_marry_45 : decode cX10_marry 45 = .ok (.aload_n 0, 1) := by decide +kernel
theorem dX10_marry_46 : decode cX10_marry 46 = .ok (.iconst 2, 1) := by decide +kernel
theorem dX10_marry_47 : decode cX10_marry 47 = .ok (.invokevirtual 272, 3) := by decide +kernel
theorem dX10_marry_50 : decode cX10_marry 50 = .ok (.if_icmp .ge 42, 3) := by decide +kernel
theorem dX10_marry_53 : decode cX10_marry 53 = .ok (.aload_n 0, 1) := by decide +kernel
theorem dX10_marry_54 : decode cX10_marry 54 = .ok (.getfield 59, 3) := by decide +kernel
theorem dX10_marry_57 : decode cX10_marry 57 = .ok (.iload_n 2, 1) := by decide +kernel
theorem dX10_marry_58 : decode cX10_marry 58 = .ok (.iaload, 1) := by decide +kernel
theorem dX10_marry_59 : decode cX10_marry 59 = .ok (.iconst (-1), 1) := by decide +kernel
theorem dX10_marry_60 : decode cX10_marry 60 = .ok (.if_icmp .ne 11, 3) := by decide +kernel
theorem dX10_marry_63 : decode cX10_marry 63 = .ok (.aload_n 0, 1) := by decide +kernel
theorem dX10_marry_64 : decode cX10_marry 64 = .ok (.iload_n 2, 1) := by decide +kernel
theorem dX10_marry_65 : decode cX10_marry 65 = .ok (.invokevirtual 423, 3) := by decide +kernel
theorem dX10_marry_68 : decode cX10_marry 68 = .ok (.goto 4, 3) := by decide +kernel
theorem dX10_marry_71 : decode cX10_marry 71 = .ok (.iconst (-1), 1) := by decide +kernel
theorem dX10_marry_72 : decode cX10_marry 72 = .ok (.istore_n 3, 1) := by decide +kernel
theorem dX10_marry_73 : decode cX10_marry 73 = .ok (.iload_n 3, 1) := by decide +kernel
theorem dX10_marry_74 : decode cX10_marry 74 = .ok (.iconst (-1), 1) := by decide +kernel
theorem dX10_marry_75 : decode cX10_marry 75 = .ok (.if_icmp .eq 11, 3) := by decide +kernel
theorem dX10_marry_78 : decode cX10_marry 78 = .ok (.aload_n 0, 1) := by decide +kernel
theorem dX10_marry_79 : decode cX10_marry 79 = .ok (.iload_n 2, 1) := by decide +kernel
theorem dX10_marry_80 : decode cX10_marry 80 = .ok (.iload_n 3, 1) := by decide +kernel
theorem dX10_marry_81 : decode cX10_marry 81 = .ok (.invokevirtual 426, 3) := by decide +kernel
theorem dX10_marry_84 : decode cX10_marry 84 = .ok (.iconst 1, 1) := by decide +kernel
theorem dX10_marry_85 : decode cX10_marry 85 = .ok (.istore_n 1, 1) := by decide +kernel
theorem dX10_marry_86 : decode cX10_marry 86 = .ok (.iinc 2 1, 3) := by decide +kernel
theorem dX10_marry_89 : decode cX10_marry 89 = .ok (.goto (-45), 3) := by decide +kernel
theorem dX10_marry_92 : decode cX10_marry 92 = .ok (.goto (-56), 3) := by decide +kernel
theorem dX10_marry_95 : decode cX10_marry 95 = .ok (.return_, 1) := by decide +kernel
theorem cdX10_asks : Cond.code yX10_asks cX10_asks 4 none ∈ tz := tc7 141 rfl rfl
theorem lVX10_426 : LV RX10 426 yX10_asks cX10_asks 4 none 2 := ⟨tw 1697 (by decide +kernel) rfl, tw 1699 (by decide +kernel) rfl, tw 96 (by decide +kernel) rfl, tw 128 (by decide +kernel) rfl, cdX10_asks, ⟨by decide +kernel, by decide +kernel, by decide +kernel⟩⟩
theorem cdX10_nextAsked : Cond.code yX10_nextAsked cX10_nextAsked 4 (some .int) ∈ tz := tc7 133 rfl rfl
theorem lVX10_423 : LV RX10 423 yX10_nextAsked cX10_nextAsked 4 (some .int) 1 := ⟨tw 1689 (by decide +kernel) rfl, tw 1691 (by decide +kernel) rfl, tw 94 (by decide +kernel) rfl, tw 128 (by decide +kernel) rfl, cdX10_nextAsked, ⟨by decide +kernel, by decide +kernel, by decide +kernel⟩⟩
abbrev rmX10_marry : Room := { frames := 3, cells := 0, slots := 0, locals := 66 }
def bX10_marry_72 (k36 : Nat → Int32 → AH → Option AH) (k44 : Nat → Int32 → Int32 → AH → Option AH) (a0 : Nat) (l1 : Int32) (l2 : Int32) (s0 : Int32) (z : AH) : Option AH :=
  if s0 = (-1 : Int32) then (
    nm (l2 + (1 : Int32)) fun v86 =>
    k44 a0 l1 v86 z
  ) else (
    (fX10_asks a0 l2 s0 z).bind fun z81 =>
    nm (l2 + (1 : Int32)) fun v86 =>
    k44 a0 (1 : Int32) v86 z81
  )
set_option maxHeartbeats 4000000 in
set_option maxRecDepth 100000 in
theorem kbX10_marry_72 {p : Program} {l : Launch} {e : Env} {s : State} {m : MethodId} {args : Array Value} {below : List Frame} {meth : Method} {c : Code} {G : GW} {z' : AH} (C : Cx p m c cX10_marry 4 s args RX10 G) (hlk : meth.locks = false) (hr : meth.sig.returnType = none) (k36 : Nat → Int32 → AH → Option AH) (k44 : Nat → Int32 → Int32 → AH → Option AH) (hk36 : ∀ (a0 : Nat) (l1 : Int32) (z : AH) (H : Heap) (locs : List Loc) (ls : Array Slot), k36 a0 l1 z = some z' → Wb G z s H locs → lv_has ls 4 [(0, .ref (gB G + a0)), (1, .int l1)] → W p l e rmX10_marry s m args below meth c H locs 0 0 (MQ below (Qv G z') args s 0 0 (AA G)) (F0 m 36 ls [])) (hk44 : ∀ (a0 : Nat) (l1 : Int32) (l2 : Int32) (z : AH) (H : Heap) (locs : List Loc) (ls : Array Slot), k44 a0 l1 l2 z = some z' → Wb G z s H locs → lv_has ls 4 [(0, .ref (gB G + a0)), (1, .int l1), (2, .int l2)] → W p l e rmX10_marry s m args below meth c H locs 0 0 (MQ below (Qv G z') args s 0 0 (AA G)) (F0 m 44 ls [])) (a0 : Nat) (l1 : Int32) (l2 : Int32) (s0 : Int32) {z : AH} {H : Heap} {locs : List Loc} {ls : Array Slot} (h : bX10_marry_72 k36 k44 a0 l1 l2 s0 z = some z') (hW : Wb G z s H locs) (hl : lv_has ls 4 [(0, .ref (gB G + a0)), (1, .int l1), (2, .int l2)]) : W p l e rmX10_marry s m args below meth c H locs 0 0 (MQ below (Qv G z') args s 0 0 (AA G)) (F0 m 72 ls [.int s0]) := by
  have hx := C.1
  have hb := C.2.1
  unfold bX10_marry_72 at h
  refine lv_istore_n (lv' := [(3, .int s0), (0, .ref (gB G + a0)), (1, .int l1), (2, .int l2)]) hx hb dX10_marry_72 rfl hl (by decide) rfl (fun ls hl => ?_)
  refine lv_iload_n hx hb dX10_marry_73 rfl (lv_at hl 0 rfl) ?_
  refine lv_iconst (v := -1) hx hb dX10_marry_74 (by decide) ?_
  refine lv_icmp_eq (tgt := 86) hx hb dX10_marry_75 (by decide) (fun c75 => ?_) (fun c75 => ?_)
  · have h := ite_t c75 h
    obtain ⟨v86, ev86⟩ : ∃ y : Int32, y = (l2 + (1 : Int32)) := ⟨_, rfl⟩
    have h := nm_to h ev86
    refine lv_iinc (v := v86) (lv' := [(2, .int v86), (3, .int s0), (0, .ref (gB G + a0)), (1, .int l1)]) hx hb dX10_marry_86 hl (k := 3) rfl (by rw [ev86]; rfl) (by decide) rfl (fun ls hl => ?_)
    refine lv_goto (tgt := 44) hx hb dX10_marry_89 (by decide) ?_
    exact hk44 a0 l1 v86 z _ _ _ h hW (lv_sub hl [2, 3, 0] rfl)
  · have h := ite_f c75 h
    refine lv_aload_n hx hb dX10_marry_78 rfl (lv_at hl 1 rfl) ?_
    refine lv_iload_n hx hb dX10_marry_79 rfl (lv_at hl 3 rfl) ?_
    refine lv_iload_n hx hb dX10_marry_80 rfl (lv_at hl 0 rfl) ?_
    obtain ⟨z81, hq, h⟩ := ob h
    refine wz_rV (c' := 0) (s' := 0) hW (wz_runV (rest := []) C hW lVX10_426 (ck hq).1 rfl (ctX10_asks l G a0 l2 s0 z hq) ⟨⟨rfl, rfl⟩, Nat.le_of_ble_eq_true rfl, Nat.le_of_ble_eq_true rfl⟩ rfl hl.1 rfl (Nat.le_of_ble_eq_true rfl) dX10_marry_81 ⟨Nat.le_of_ble_eq_true rfl, Nat.le_of_ble_eq_true rfl⟩) rfl rfl (fun H locs hW => ?_)
    refine lv_iconst (v := 1) hx hb dX10_marry_84 (by decide) ?_
    refine lv_istore_n (lv' := [(1, .int (1 : Int32)), (3, .int s0), (0, .ref (gB G + a0)), (2, .int l2)]) hx hb dX10_marry_85 rfl hl (by decide) rfl (fun ls hl => ?_)
    obtain ⟨v86, ev86⟩ : ∃ y : Int32, y = (l2 + (1 : Int32)) := ⟨_, rfl⟩
    have h := nm_to h ev86
    refine lv_iinc (v := v86) (lv' := [(2, .int v86), (1, .int (1 : Int32)), (3, .int s0), (0, .ref (gB G + a0))]) hx hb dX10_marry_86 hl (k := 3) rfl (by rw [ev86]; rfl) (by decide) rfl (fun ls hl => ?_)
    refine lv_goto (tgt := 44) hx hb dX10_marry_89 (by decide) ?_
    exact hk44 a0 (1 : Int32) v86 z81 _ _ _ h hW (lv_sub hl [3, 1, 0] rfl)
def bX10_marry_44 (k36 : Nat → Int32 → AH → Option AH) (k44 : Nat → Int32 → Int32 → AH → Option AH) (a0 : Nat) (l1 : Int32) (l2 : Int32) (z : AH) : Option AH :=
  (fX10_of a0 (2 : Int32) z).bind fun x47 =>
  if x47 ≤ l2 then (
    k36 a0 l1 z
  ) else (
    (gN 9 44 z a0).bind fun b54 =>
    (ixI 0 z b54 l2).bind fun x58 =>
    if x58 = (-1 : Int32) then (
      (fX10_nextAsked a0 l2 z).bind fun x65 =>
      bX10_marry_72 k36 k44 a0 l1 l2 x65 z
    ) else (
      bX10_marry_72 k36 k44 a0 l1 l2 (-1 : Int32) z
    )
  )
set_option maxHeartbeats 4000000 in
set_option maxRecDepth 100000 in
theorem kbX10_marry_44 {p : Program} {l : Launch} {e : Env} {s : State} {m : MethodId} {args : Array Value} {below : List Frame} {meth : Method} {c : Code} {G : GW} {z' : AH} (C : Cx p m c cX10_marry 4 s args RX10 G) (hlk : meth.locks = false) (hr : meth.sig.returnType = none) (k36 : Nat → Int32 → AH → Option AH) (k44 : Nat → Int32 → Int32 → AH → Option AH) (hk36 : ∀ (a0 : Nat) (l1 : Int32) (z : AH) (H : Heap) (locs : List Loc) (ls : Array Slot), k36 a0 l1 z = some z' → Wb G z s H locs → lv_has ls 4 [(0, .ref (gB G + a0)), (1, .int l1)] → W p l e rmX10_marry s m args below meth c H locs 0 0 (MQ below (Qv G z') args s 0 0 (AA G)) (F0 m 36 ls [])) (hk44 : ∀ (a0 : Nat) (l1 : Int32) (l2 : Int32) (z : AH) (H : Heap) (locs : List Loc) (ls : Array Slot), k44 a0 l1 l2 z = some z' → Wb G z s H locs → lv_has ls 4 [(0, .ref (gB G + a0)), (1, .int l1), (2, .int l2)] → W p l e rmX10_marry s m args below meth c H locs 0 0 (MQ below (Qv G z') args s 0 0 (AA G)) (F0 m 44 ls [])) (a0 : Nat) (l1 : Int32) (l2 : Int32) {z : AH} {H : Heap} {locs : List Loc} {ls : Array Slot} (h : bX10_marry_44 k36 k44 a0 l1 l2 z = some z') (hW : Wb G z s H locs) (hl : lv_has ls 4 [(0, .ref (gB G + a0)), (1, .int l1), (2, .int l2)]) : W p l e rmX10_marry s m args below meth c H locs 0 0 (MQ below (Qv G z') args s 0 0 (AA G)) (F0 m 44 ls []) := by
  have hx := C.1
  have hb := C.2.1
  unfold bX10_marry_44 at h
  refine lv_iload_n hx hb dX10_marry_44 rfl (lv_at hl 2 rfl) ?_
  refine lv_aload_n hx hb dX10_marry_45 rfl (lv_at hl 0 rfl) ?_
  refine lv_iconst (v := 2) hx hb dX10_marry_46 (by decide) ?_
  obtain ⟨x47, hq, h⟩ := ob h
  refine wz_rI (c' := 0) (s' := 0) hW (wz_runV (rest := [.int l2]) C hW lVX10_272 (ck hq).1 rfl (ctX10_of l G a0 (2 : Int32) z hq) ⟨⟨rfl, rfl⟩, Nat.le_of_ble_eq_true rfl, Nat.le_of_ble_eq_true rfl⟩ rfl hl.1 rfl (Nat.le_of_ble_eq_true rfl) dX10_marry_47 ⟨Nat.le_of_ble_eq_true rfl, Nat.le_of_ble_eq_true rfl⟩) rfl rfl (fun H locs hW => ?_)
  refine lv_icmp_ge (tgt := 92) hx hb dX10_marry_50 (by decide) (fun c50 => ?_) (fun c50 => ?_)
  · have h := ite_t c50 h
    refine lv_goto (tgt := 36) hx hb dX10_marry_92 (by decide) ?_
    exact hk36 a0 l1 z _ _ _ h hW (lv_sub hl [0, 1] rfl)
  · have h := ite_f c50 h
    refine lv_aload_n hx hb dX10_marry_53 rfl (lv_at hl 0 rfl) ?_
    obtain ⟨b54, hg, h⟩ := ob h
    refine wz_gN C hW flX10_59 hg dX10_marry_54 ?_
    refine lv_iload_n hx hb dX10_marry_57 rfl (lv_at hl 2 rfl) ?_
    obtain ⟨x58, hg, h⟩ := ob h
    refine wz_ald C hW hg dX10_marry_58 ?_
    refine lv_iconst (v := -1) hx hb dX10_marry_59 (by decide) ?_
    refine lv_icmp_ne (tgt := 71) hx hb dX10_marry_60 (by decide) (fun c60 => ?_) (fun c60 => ?_)
    · have h := ite_f c60 h
      refine lv_iconst (v := -1) hx hb dX10_marry_71 (by decide) ?_
      exact kbX10_marry_72 C hlk hr k36 k44 hk36 hk44 a0 l1 l2 (-1 : Int32) h hW (lv_sub hl [0, 1, 2] rfl)
    · have h := ite_t c60 h
      refine lv_aload_n hx hb dX10_marry_63 rfl (lv_at hl 0 rfl) ?_
      refine lv_iload_n hx hb dX10_marry_64 rfl (lv_at hl 2 rfl) ?_
      obtain ⟨x65, hq, h⟩ := ob h
      refine wz_rI (c' := 0) (s' := 0) hW (wz_runV (rest := []) C hW lVX10_423 (ck hq).1 rfl (ctX10_nextAsked l G a0 l2 z hq) ⟨⟨rfl, rfl⟩, Nat.le_of_ble_eq_true rfl, Nat.le_of_ble_eq_true rfl⟩ rfl hl.1 rfl (Nat.le_of_ble_eq_true rfl) dX10_marry_65 ⟨Nat.le_of_ble_eq_true rfl, Nat.le_of_ble_eq_true rfl⟩) rfl rfl (fun H locs hW => ?_)
      refine lv_goto (tgt := 72) hx hb dX10_marry_68 (by decide) ?_
      exact kbX10_marry_72 C hlk hr k36 k44 hk36 hk44 a0 l1 l2 x65 h hW (lv_sub hl [0, 1, 2] rfl)
def fX10_marry_44 (k36 : Nat → Int32 → AH → Option AH) : Nat → Nat → Int32 → Int32 → AH → Option AH
  | 0, _, _, _, _ => none
  | n + 1, a0, l1, l2, z => bX10_marry_44 k36 (fX10_marry_44 k36 n) a0 l1 l2 z
theorem klX10_marry_44 {p : Program} {l : Launch} {e : Env} {s : State} {m : MethodId} {args : Array Value} {below : List Frame} {meth : Method} {c : Code} {G : GW} {z' : AH} (C : Cx p m c cX10_marry 4 s args RX10 G) (hlk : meth.locks = false) (hr : meth.sig.returnType = none) (k36 : Nat → Int32 → AH → Option AH) (hk36 : ∀ (a0 : Nat) (l1 : Int32) (z : AH) (H : Heap) (locs : List Loc) (ls : Array Slot), k36 a0 l1 z = some z' → Wb G z s H locs → lv_has ls 4 [(0, .ref (gB G + a0)), (1, .int l1)] → W p l e rmX10_marry s m args below meth c H locs 0 0 (MQ below (Qv G z') args s 0 0 (AA G)) (F0 m 36 ls [])) : ∀ (n : Nat) (a0 : Nat) (l1 : Int32) (l2 : Int32) (z : AH) (H : Heap) (locs : List Loc) (ls : Array Slot), fX10_marry_44 k36 n a0 l1 l2 z = some z' → Wb G z s H locs → lv_has ls 4 [(0, .ref (gB G + a0)), (1, .int l1), (2, .int l2)] → W p l e rmX10_marry s m args below meth c H locs 0 0 (MQ below (Qv G z') args s 0 0 (AA G)) (F0 m 44 ls []) := by
  intro n
  induction n with
  | zero => intro a0 l1 l2 z H locs ls h; have h : (none : Option AH) = some z' := h; cases h
  | succ n ih => intro a0 l1 l2 z H locs ls h hW hl; exact kbX10_marry_44 C hlk hr k36 (fX10_marry_44 k36 n) hk36 (fun a0 l1 l2 z H locs ls h hW hl => ih a0 l1 l2 z H locs ls h hW hl) a0 l1 l2 h hW hl
def bX10_marry_36 (k36 : Nat → Int32 → AH → Option AH) (a0 : Nat) (l1 : Int32) (z : AH) : Option AH :=
  if l1 = (0 : Int32) then (
    some z
  ) else (
    fX10_marry_44 k36 FU a0 (0 : Int32) (0 : Int32) z
  )
set_option maxHeartbeats 4000000 in
set_option maxRecDepth 100000 in
theorem kbX10_marry_36 {p : Program} {l : Launch} {e : Env} {s : State} {m : MethodId} {args : Array Value} {below : List Frame} {meth : Method} {c : Code} {G : GW} {z' : AH} (C : Cx p m c cX10_marry 4 s args RX10 G) (hlk : meth.locks = false) (hr : meth.sig.returnType = none) (k36 : Nat → Int32 → AH → Option AH) (hk36 : ∀ (a0 : Nat) (l1 : Int32) (z : AH) (H : Heap) (locs : List Loc) (ls : Array Slot), k36 a0 l1 z = some z' → Wb G z s H locs → lv_has ls 4 [(0, .ref (gB G + a0)), (1, .int l1)] → W p l e rmX10_marry s m args below meth c H locs 0 0 (MQ below (Qv G z') args s 0 0 (AA G)) (F0 m 36 ls [])) (a0 : Nat) (l1 : Int32) {z : AH} {H : Heap} {locs : List Loc} {ls : Array Slot} (h : bX10_marry_36 k36 a0 l1 z = some z') (hW : Wb G z s H locs) (hl : lv_has ls 4 [(0, .ref (gB G + a0)), (1, .int l1)]) : W p l e rmX10_marry s m args below meth c H locs 0 0 (MQ below (Qv G z') args s 0 0 (AA G)) (F0 m 36 ls []) := by
  have hx := C.1
  have hb := C.2.1
  unfold bX10_marry_36 at h
  refine lv_iload_n hx hb dX10_marry_36 rfl (lv_at hl 1 rfl) ?_
  refine lv_if_eq (tgt := 95) hx hb dX10_marry_37 (by decide) (fun c37 => ?_) (fun c37 => ?_)
  · have h := ite_t c37 h
    exact wz_vretE C hlk hr (Option.some.inj h) hW dX10_marry_95
  · have h := ite_f c37 h
    refine lv_iconst (v := 0) hx hb dX10_marry_40 (by decide) ?_
    refine lv_istore_n (lv' := [(1, .int (0 : Int32)), (0, .ref (gB G + a0))]) hx hb dX10_marry_41 rfl hl (by decide) rfl (fun ls hl => ?_)
    refine lv_iconst (v := 0) hx hb dX10_marry_42 (by decide) ?_
    refine lv_istore_n (lv' := [(2, .int (0 : Int32)), (1, .int (0 : Int32)), (0, .ref (gB G + a0))]) hx hb dX10_marry_43 rfl hl (by decide) rfl (fun ls hl => ?_)
    exact klX10_marry_44 C hlk hr k36 hk36 FU a0 (0 : Int32) (0 : Int32) z _ _ _ h hW (lv_sub hl [2, 1, 0] rfl)
def fX10_marry_36 : Nat → Nat → Int32 → AH → Option AH
  | 0, _, _, _ => none
  | n + 1, a0, l1, z => bX10_marry_36 (fX10_marry_36 n) a0 l1 z
theorem klX10_marry_36 {p : Program} {l : Launch} {e : Env} {s : State} {m : MethodId} {args : Array Value} {below : List Frame} {meth : Method} {c : Code} {G : GW} {z' : AH} (C : Cx p m c cX10_marry 4 s args RX10 G) (hlk : meth.locks = false) (hr : meth.sig.returnType = none) : ∀ (n : Nat) (a0 : Nat) (l1 : Int32) (z : AH) (H : Heap) (locs : List Loc) (ls : Array Slot), fX10_marry_36 n a0 l1 z = some z' → Wb G z s H locs → lv_has ls 4 [(0, .ref (gB G + a0)), (1, .int l1)] → W p l e rmX10_marry s m args below meth c H locs 0 0 (MQ below (Qv G z') args s 0 0 (AA G)) (F0 m 36 ls []) := by
  intro n
  induction n with
  | zero => intro a0 l1 z H locs ls h; have h : (none : Option AH) = some z' := h; cases h
  | succ n ih => intro a0 l1 z H locs ls h hW hl; exact kbX10_marry_36 C hlk hr (fX10_marry_36 n) (fun a0 l1 z H locs ls h hW hl => ih a0 l1 z H locs ls h hW hl) a0 l1 h hW hl
def bX10_marry_2 (k2 : Nat → Int32 → AH → Option AH) (a0 : Nat) (l1 : Int32) (z : AH) : Option AH :=
  if (4 : Int32) ≤ l1 then (
    fX10_marry_36 FU a0 (1 : Int32) z
  ) else (
    (gN 9 44 z a0).bind fun b8 =>
    (stI 0 z b8 l1 (-1 : Int32)).bind fun z13 =>
    (gN 9 45 z13 a0).bind fun b15 =>
    (stI 0 z13 b15 l1 (-1 : Int32)).bind fun z20 =>
    (gN 9 46 z20 a0).bind fun b22 =>
    (stI 0 z20 b22 l1 (0 : Int32)).bind fun z27 =>
    nm (l1 + (1 : Int32)) fun v28 =>
    k2 a0 v28 z27
  )
set_option maxHeartbeats 4000000 in
set_option maxRecDepth 100000 in
theorem kbX10_marry_2 {p : Program} {l : Launch} {e : Env} {s : State} {m : MethodId} {args : Array Value} {below : List Frame} {meth : Method} {c : Code} {G : GW} {z' : AH} (C : Cx p m c cX10_marry 4 s args RX10 G) (hlk : meth.locks = false) (hr : meth.sig.returnType = none) (k2 : Nat → Int32 → AH → Option AH) (hk2 : ∀ (a0 : Nat) (l1 : Int32) (z : AH) (H : Heap) (locs : List Loc) (ls : Array Slot), k2 a0 l1 z = some z' → Wb G z s H locs → lv_has ls 4 [(0, .ref (gB G + a0)), (1, .int l1)] → W p l e rmX10_marry s m args below meth c H locs 0 0 (MQ below (Qv G z') args s 0 0 (AA G)) (F0 m 2 ls [])) (a0 : Nat) (l1 : Int32) {z : AH} {H : Heap} {locs : List Loc} {ls : Array Slot} (h : bX10_marry_2 k2 a0 l1 z = some z') (hW : Wb G z s H locs) (hl : lv_has ls 4 [(0, .ref (gB G + a0)), (1, .int l1)]) : W p l e rmX10_marry s m args below meth c H locs 0 0 (MQ below (Qv G z') args s 0 0 (AA G)) (F0 m 2 ls []) := by
  have hx := C.1
  have hb := C.2.1
  unfold bX10_marry_2 at h
  refine lv_iload_n hx hb dX10_marry_2 rfl (lv_at hl 1 rfl) ?_
  refine lv_iconst (v := 4) hx hb dX10_marry_3 (by decide) ?_
  refine lv_icmp_ge (tgt := 34) hx hb dX10_marry_4 (by decide) (fun c4 => ?_) (fun c4 => ?_)
  · have h := ite_t c4 h
    refine lv_iconst (v := 1) hx hb dX10_marry_34 (by decide) ?_
    refine lv_istore_n (lv' := [(1, .int (1 : Int32)), (0, .ref (gB G + a0))]) hx hb dX10_marry_35 rfl hl (by decide) rfl (fun ls hl => ?_)
    exact klX10_marry_36 C hlk hr FU a0 (1 : Int32) z _ _ _ h hW (lv_sub hl [1, 0] rfl)
  · have h := ite_f c4 h
    refine lv_aload_n hx hb dX10_marry_7 rfl (lv_at hl 0 rfl) ?_
    obtain ⟨b8, hg, h⟩ := ob h
    refine wz_gN C hW flX10_59 hg dX10_marry_8 ?_
    refine lv_iload_n hx hb dX10_marry_11 rfl (lv_at hl 1 rfl) ?_
    refine lv_iconst (v := -1) hx hb dX10_marry_12 (by decide) ?_
    obtain ⟨z13, hg, h⟩ := ob h
    refine wz_ast C hW hg dX10_marry_13 (fun H locs hW => ?_)
    refine lv_aload_n hx hb dX10_marry_14 rfl (lv_at hl 0 rfl) ?_
    obtain ⟨b15, hg, h⟩ := ob h
    refine wz_gN C hW flX10_62 hg dX10_marry_15 ?_
    refine lv_iload_n hx hb dX10_marry_18 rfl (lv_at hl 1 rfl) ?_
    refine lv_iconst (v := -1) hx hb dX10_marry_19 (by decide) ?_
    obtain ⟨z20, hg, h⟩ := ob h
    refine wz_ast C hW hg dX10_marry_20 (fun H locs hW => ?_)
    refine lv_aload_n hx hb dX10_marry_21 rfl (lv_at hl 0 rfl) ?_
    obtain ⟨b22, hg, h⟩ := ob h
    refine wz_gN C hW flX10_65 hg dX10_marry_22 ?_
    refine lv_iload_n hx hb dX10_marry_25 rfl (lv_at hl 1 rfl) ?_
    refine lv_iconst (v := 0) hx hb dX10_marry_26 (by decide) ?_
    obtain ⟨z27, hg, h⟩ := ob h
    refine wz_ast C hW hg dX10_marry_27 (fun H locs hW => ?_)
    obtain ⟨v28, ev28⟩ : ∃ y : Int32, y = (l1 + (1 : Int32)) := ⟨_, rfl⟩
    have h := nm_to h ev28
    refine lv_iinc (v := v28) (lv' := [(1, .int v28), (0, .ref (gB G + a0))]) hx hb dX10_marry_28 hl (k := 1) rfl (by rw [ev28]; rfl) (by decide) rfl (fun ls hl => ?_)
    refine lv_goto (tgt := 2) hx hb dX10_marry_31 (by decide) ?_
    exact hk2 a0 v28 z27 _ _ _ h hW (lv_sub hl [1, 0] rfl)
def fX10_marry_2 : Nat → Nat → Int32 → AH → Option AH
  | 0, _, _, _ => none
  | n + 1, a0, l1, z => bX10_marry_2 (fX10_marry_2 n) a0 l1 z
theorem klX10_marry_2 {p : Program} {l : Launch} {e : Env} {s : State} {m : MethodId} {args : Array Value} {below : List Frame} {meth : Method} {c : Code} {G : GW} {z' : AH} (C : Cx p m c cX10_marry 4 s args RX10 G) (hlk : meth.locks = false) (hr : meth.sig.returnType = none) : ∀ (n : Nat) (a0 : Nat) (l1 : Int32) (z : AH) (H : Heap) (locs : List Loc) (ls : Array Slot), fX10_marry_2 n a0 l1 z = some z' → Wb G z s H locs → lv_has ls 4 [(0, .ref (gB G + a0)), (1, .int l1)] → W p l e rmX10_marry s m args below meth c H locs 0 0 (MQ below (Qv G z') args s 0 0 (AA G)) (F0 m 2 ls []) := by
  intro n
  induction n with
  | zero => intro a0 l1 z H locs ls h; have h : (none : Option AH) = some z' := h; cases h
  | succ n ih => intro a0 l1 z H locs ls h hW hl; exact kbX10_marry_2 C hlk hr (fX10_marry_2 n) (fun a0 l1 z H locs ls h hW hl => ih a0 l1 z H locs ls h hW hl) a0 l1 h hW hl
def fX10_marry (a0 : Nat) (z : AH) : Option AH :=
  if isO 9 z a0 = true then
    fX10_marry_2 FU a0 (0 : Int32) z
  else none
set_option maxHeartbeats 4000000 in
set_option maxRecDepth 100000 in
theorem ctX10_marry (l : Launch) (G : GW) (a0 : Nat) (z : AH) {z' : AH} (h : fX10_marry a0 z = some z') : Met l yX10_marry (wy yX10_marry cX10_marry 4 none) rmX10_marry (Pz G [.ref (gB G + a0)] z) (Qv G z') 0 0 (AA G) := by
  refine wz_ent (own := RX10) (by decide +kernel) rfl (fun p e s m below meth c ls C hlk hr hin hW hl => ?_) (Nat.le_of_ble_eq_true rfl)
  have hl : lv_has ls 4 [(0, .ref (gB G + a0))] := hl
  have hx := C.1
  have hb := C.2.1
  unfold fX10_marry at h
  obtain ⟨-, h⟩ := ck h
  refine lv_iconst (v := 0) hx hb dX10_marry_0 (by decide) ?_
  refine lv_istore_n (lv' := [(1, .int (0 : Int32)), (0, .ref (gB G + a0))]) hx hb dX10_marry_1 rfl hl (by decide) rfl (fun ls hl => ?_)
  exact klX10_marry_2 C hlk hr FU a0 (0 : Int32) z _ _ _ h hW (lv_sub hl [1, 0] rfl)
theorem dX10_married_0 : decode cX10_married 0 = .ok (.aload_n 0, 1) := by decide +kernel
theorem dX10_married_1 : decode cX10_married 1 = .ok (.iconst 0, 1) := by decide +kernel
theorem dX10_married_2 : decode cX10_married 2 = .ok (.putfield 81, 3) := by decide +kernel
theorem dX10_married_5 : decode cX10_married 5 = .ok (.aload_n 0, 1) := by decide +kernel
theorem dX10_married_6 : decode cX10_married 6 = .ok (.iload_n 1, 1) := by decide +kernel
theorem dX10_married_7 : decode cX10_married 7 = .ok (.invokevirtual 330, 3) := by decide +kernel
theorem dX10_married_10 : decode cX10_married 10 = .ok (.ifCond .eq 26, 3) := by decide +kernel
theorem dX10_married_13 : decode cX10_married 13 = .ok (.iload_n 2, 1) := by decide +kernel
theorem dX10_married_14 : decode cX10_married 14 = .ok (.iconst 0, 1) := by decide +kernel
theorem dX10_married_15 : decode cX10_married 15 = .ok (.aload_n 0, 1) := by decide +kernel
theorem dX10_married_16 : decode cX10_married 16 = .ok (.iload_n 3, 1) := by decide +kernel
theorem dX10_married_17 : decode cX10_married 17 = .ok (.ifCond .eq 7, 3) := by decide +kernel
theorem dX10_married_20 : decode cX10_married 20 = .ok (.iconst 3, 1) := by decide +kernel
theorem dX10_married_21 : decode cX10_married 21 = .ok (.goto 4, 3) := by decide +kernel
theorem dX10_married_24 : decode cX10_married 24 = .ok (.iconst 2, 1) := by decide +kernel
theorem dX10_married_25 : decode cX10_married 25 = .ok (.invokevirtual 272, 3) := by decide +kernel
theorem dX10_married_28 : decode cX10_married 28 = .ok (.iconst 1, 1) := by decide +kernel
theorem dX10_married_29 : decode cX10_married 29 = .ok (.isub, 1) := by decide +kernel
theorem dX10_married_30 : decode cX10_married 30 = .ok (.invokestatic 93, 3) := by decide +kernel
theorem dX10_married_33 : decode cX10_married 33 = .ok (.ifCond .ne 6, 3) := by decide +kernel
theorem dX10_married_36 : decode cX10_married 36 = .ok (.bipush (-2), 2) := by decide +kernel
theorem dX10_married_38 : decode cX10_married 38 = .ok (.ireturn, 1) := by decide +kernel
theorem dX10_married_39 : decode cX10_married 39 = .ok (.aload_n 0, 1) := by decide +kernel
theorem dX10_married_40 : decode cX10_married 40 = .ok (.invokevirtual 429, 3) := by decide +kernel
theorem dX10_married_43 : decode cX10_married 43 = .ok (.iload_n 3, 1) := by decide +kernel
theorem dX10_married_44 : decode cX10_married 44 = .ok (.ifCond .eq 12, 3) := by decide +kernel
theorem dX10_married_47 : decode cX10_married 47 = .ok (.aload_n 0, 1) := by decide +kernel
theorem dX10_married_48 : decode cX10_married 48 = .ok (.getfield 62, 3) := by decide +kernel
theorem dX10_married_51 : decode cX10_married 51 = .ok (.iload_n 2, 1) := by decide +kernel
theorem dX10_married_52 : decode cX10_married 52 = .ok (.iaload, 1) := by decide +kernel
theorem dX10_married_53 : decode cX10_married 53 = .ok (.goto 9, 3) := by decide +kernel
theorem dX10_married_56 : decode cX10_married 56 = .ok (.aload_n 0, 1) := by decide +kernel
theorem dX10_married_57 : decode cX10_married 57 = .ok (.getfield 59, 3) := by decide +kernel
theorem dX10_married_60 : decode cX10_married 60 = .ok (.iload_n 2, 1) := by decide +kernel
theorem dX10_married_61 : decode cX10_married 61 = .ok (.iaload, 1) := by decide +kernel
theorem dX10_married_62 : decode cX10_married 62 = .ok (.ireturn, 1) := by decide +kernel
theorem cdX10_marry : Cond.code yX10_marry cX10_marry 4 none ∈ tz := tc7 129 rfl rfl
theorem lVX10_429 : LV RX10 429 yX10_marry cX10_marry 4 none 0 := ⟨tw 1685 (by decide +kernel) rfl, tw 1687 (by decide +kernel) rfl, tw 93 (by decide +kernel) rfl, tw 128 (by decide +kernel) rfl, cdX10_marry, ⟨by decide +kernel, by decide +kernel, by decide +kernel⟩⟩
abbrev rmX10_married : Room := { frames := 4, cells := 0, slots := 0, locals := 89 }
def bX10_married_25 (a0 : Nat) (l2 : Int32) (l3 : Int32) (s0 : Int32) (s1 : Int32) (s2 : Nat) (s3 : Int32) (z : AH) : Option (Int32 × AH) :=
  (fX10_of s2 s3 z).bind fun x25 =>
  if (fX10_in s0 s1 (x25 - (1 : Int32))) = (0 : Int32) then (
    some ((-2 : Int32), z)
  ) else (
    (fX10_marry a0 z).bind fun z40 =>
    if l3 = (0 : Int32) then (
      (gN 9 44 z40 a0).bind fun b57 =>
      (ixI 0 z40 b57 l2).bind fun x61 =>
      some (x61, z40)
    ) else (
      (gN 9 45 z40 a0).bind fun b48 =>
      (ixI 0 z40 b48 l2).bind fun x52 =>
      some (x52, z40)
    )
  )
set_option maxHeartbeats 4000000 in
set_option maxRecDepth 100000 in
theorem kbX10_married_25 {p : Program} {l : Launch} {e : Env} {s : State} {m : MethodId} {args : Array Value} {below : List Frame} {meth : Method} {c : Code} {G : GW} {r : Int32} {z' : AH} (C : Cx p m c cX10_married 4 s args RX10 G) (hlk : meth.locks = false) (hr : meth.sig.returnType = (some .int)) (a0 : Nat) (l2 : Int32) (l3 : Int32) (s0 : Int32) (s1 : Int32) (s2 : Nat) (s3 : Int32) {z : AH} {H : Heap} {locs : List Loc} {ls : Array Slot} (h : bX10_married_25 a0 l2 l3 s0 s1 s2 s3 z = some (r, z')) (hW : Wb G z s H locs) (hl : lv_has ls 4 [(0, .ref (gB G + a0)), (2, .int l2), (3, .int l3)]) : W p l e rmX10_married s m args below meth c H locs 0 0 (MQ below (Qi G r z') args s 0 0 (AA G)) (F0 m 25 ls [.int s3, .ref (gB G + s2), .int s1, .int s0]) := by
  have hx := C.1
  have hb := C.2.1
  unfold bX10_married_25 at h
  obtain ⟨x25, hq, h⟩ := ob h
  refine wz_rI (c' := 0) (s' := 0) hW (wz_runV (rest := [.int s1, .int s0]) C hW lVX10_272 (ck hq).1 rfl (ctX10_of l G s2 s3 z hq) ⟨⟨rfl, rfl⟩, Nat.le_of_ble_eq_true rfl, Nat.le_of_ble_eq_true rfl⟩ rfl hl.1 rfl (Nat.le_of_ble_eq_true rfl) dX10_married_25 ⟨Nat.le_of_ble_eq_true rfl, Nat.le_of_ble_eq_true rfl⟩) rfl rfl (fun H locs hW => ?_)
  refine lv_iconst (v := 1) hx hb dX10_married_28 (by decide) ?_
  refine lv_isub hx hb dX10_married_29 ?_
  refine wz_rI (c' := 0) (s' := 0) hW (wz_runS (rest := []) C hW lTX10_93 (ctX10_in l G s0 s1 (x25 - (1 : Int32)) z rfl) ⟨⟨rfl, rfl⟩, Nat.le_of_ble_eq_true rfl, Nat.le_of_ble_eq_true rfl⟩ rfl hl.1 rfl (Nat.le_of_ble_eq_true rfl) dX10_married_30 ⟨Nat.le_of_ble_eq_true rfl, Nat.le_of_ble_eq_true rfl⟩) rfl rfl (fun H locs hW => ?_)
  refine lv_if_ne (tgt := 39) hx hb dX10_married_33 (by decide) (fun c33 => ?_) (fun c33 => ?_)
  · have h := ite_f c33 h
    refine lv_aload_n hx hb dX10_married_39 rfl (lv_at hl 0 rfl) ?_
    obtain ⟨z40, hq, h⟩ := ob h
    refine wz_rV (c' := 0) (s' := 0) hW (wz_runV (rest := []) C hW lVX10_429 (ck hq).1 rfl (ctX10_marry l G a0 z hq) ⟨⟨rfl, rfl⟩, Nat.le_of_ble_eq_true rfl, Nat.le_of_ble_eq_true rfl⟩ rfl hl.1 rfl (Nat.le_of_ble_eq_true rfl) dX10_married_40 ⟨Nat.le_of_ble_eq_true rfl, Nat.le_of_ble_eq_true rfl⟩) rfl rfl (fun H locs hW => ?_)
    refine lv_iload_n hx hb dX10_married_43 rfl (lv_at hl 2 rfl) ?_
    refine lv_if_eq (tgt := 56) hx hb dX10_married_44 (by decide) (fun c44 => ?_) (fun c44 => ?_)
    · have h := ite_t c44 h
      refine lv_aload_n hx hb dX10_married_56 rfl (lv_at hl 0 rfl) ?_
      obtain ⟨b57, hg, h⟩ := ob h
      refine wz_gN C hW flX10_59 hg dX10_married_57 ?_
      refine lv_iload_n hx hb dX10_married_60 rfl (lv_at hl 1 rfl) ?_
      obtain ⟨x61, hg, h⟩ := ob h
      refine wz_ald C hW hg dX10_married_61 ?_
      exact wz_iretE C hlk hr (so2 h).1 (so2 h).2 hW dX10_married_62
    · have h := ite_f c44 h
      refine lv_aload_n hx hb dX10_married_47 rfl (lv_at hl 0 rfl) ?_
      obtain ⟨b48, hg, h⟩ := ob h
      refine wz_gN C hW flX10_62 hg dX10_married_48 ?_
      refine lv_iload_n hx hb dX10_married_51 rfl (lv_at hl 1 rfl) ?_
      obtain ⟨x52, hg, h⟩ := ob h
      refine wz_ald C hW hg dX10_married_52 ?_
      refine lv_goto (tgt := 62) hx hb dX10_married_53 (by decide) ?_
      exact wz_iretE C hlk hr (so2 h).1 (so2 h).2 hW dX10_married_62
  · have h := ite_t c33 h
    refine lv_bipush (v := -2) hx hb dX10_married_36 (by decide) ?_
    exact wz_iretE C hlk hr (so2 h).1 (so2 h).2 hW dX10_married_38
def fX10_married (a0 : Nat) (l1 : Int32) (l2 : Int32) (l3 : Int32) (z : AH) : Option (Int32 × AH) :=
  if isO 9 z a0 = true then
    (pF 9 0 z a0 (.int (0 : Int32))).bind fun z2 =>
    b2 (fX10_hand a0 l1 z2) fun x7 z7 =>
    if x7 = (0 : Int32) then (
      some ((-2 : Int32), z7)
    ) else (
      if l3 = (0 : Int32) then (
        bX10_married_25 a0 l2 l3 l2 (0 : Int32) a0 (2 : Int32) z7
      ) else (
        bX10_married_25 a0 l2 l3 l2 (0 : Int32) a0 (3 : Int32) z7
      )
    )
  else none
set_option maxHeartbeats 4000000 in
set_option maxRecDepth 100000 in
theorem ctX10_married (l : Launch) (G : GW) (a0 : Nat) (l1 : Int32) (l2 : Int32) (l3 : Int32) (z : AH) {r : Int32} {z' : AH} (h : fX10_married a0 l1 l2 l3 z = some (r, z')) : Met l yX10_married (wy yX10_married cX10_married 4 (some .int)) rmX10_married (Pz G [.ref (gB G + a0), .int l1, .int l2, .int l3] z) (Qi G r z') 0 0 (AA G) := by
  refine wz_ent (own := RX10) (by decide +kernel) rfl (fun p e s m below meth c ls C hlk hr hin hW hl => ?_) (Nat.le_of_ble_eq_true rfl)
  have hl : lv_has ls 4 [(0, .ref (gB G + a0)), (1, .int l1), (2, .int l2), (3, .int l3)] := hl
  have hx := C.1
  have hb := C.2.1
  unfold fX10_married at h
  obtain ⟨-, h⟩ := ck h
  refine lv_aload_n hx hb dX10_married_0 rfl (lv_at hl 0 rfl) ?_
  refine lv_iconst (v := 0) hx hb dX10_married_1 (by decide) ?_
  obtain ⟨z2, hg, h⟩ := ob h
  refine wz_put (v := (.int (0 : Int32))) C hW flX10_81 rfl rfl hg dX10_married_2 (fun H locs hW => ?_)
  refine lv_aload_n hx hb dX10_married_5 rfl (lv_at hl 0 rfl) ?_
  refine lv_iload_n hx hb dX10_married_6 rfl (lv_at hl 1 rfl) ?_
  obtain ⟨x7, z7, hq, h⟩ := ob2 h
  refine wz_rI (c' := 0) (s' := 0) hW (wz_runV (rest := []) C hW lVX10_330 (ck hq).1 rfl (ctX10_hand l G a0 l1 z2 hq) ⟨⟨rfl, rfl⟩, Nat.le_of_ble_eq_true rfl, Nat.le_of_ble_eq_true rfl⟩ rfl hl.1 rfl (Nat.le_of_ble_eq_true rfl) dX10_married_7 ⟨Nat.le_of_ble_eq_true rfl, Nat.le_of_ble_eq_true rfl⟩) rfl rfl (fun H locs hW => ?_)
  refine lv_if_eq (tgt := 36) hx hb dX10_married_10 (by decide) (fun c10 => ?_) (fun c10 => ?_)
  · have h := ite_t c10 h
    refine lv_bipush (v := -2) hx hb dX10_married_36 (by decide) ?_
    exact wz_iretE C hlk hr (so2 h).1 (so2 h).2 hW dX10_married_38
  · have h := ite_f c10 h
    refine lv_iload_n hx hb dX10_married_13 rfl (lv_at hl 2 rfl) ?_
    refine lv_iconst (v := 0) hx hb dX10_married_14 (by decide) ?_
    refine lv_aload_n hx hb dX10_married_15 rfl (lv_at hl 0 rfl) ?_
    refine lv_iload_n hx hb dX10_married_16 rfl (lv_at hl 3 rfl) ?_
    refine lv_if_eq (tgt := 24) hx hb dX10_married_17 (by decide) (fun c17 => ?_) (fun c17 => ?_)
    · have h := ite_t c17 h
      refine lv_iconst (v := 2) hx hb dX10_married_24 (by decide) ?_
      exact kbX10_married_25 C hlk hr a0 l2 l3 l2 (0 : Int32) a0 (2 : Int32) h hW (lv_sub hl [0, 2, 3] rfl)
    · have h := ite_f c17 h
      refine lv_iconst (v := 3) hx hb dX10_married_20 (by decide) ?_
      refine lv_goto (tgt := 25) hx hb dX10_married_21 (by decide) ?_
      exact kbX10_married_25 C hlk hr a0 l2 l3 l2 (0 : Int32) a0 (3 : Int32) h hW (lv_sub hl [0, 2, 3] rfl)
theorem dX10_unhappy_0 : decode cX10_unhappy 0 = .ok (.aload_n 0, 1) := by decide +kernel
theorem dX10_unhappy_1 : decode cX10_unhappy 1 = .ok (.iconst 0, 1) := by decide +kernel
theorem dX10_unhappy_2 : decode cX10_unhappy 2 = .ok (.putfield 81, 3) := by decide +kernel
theorem dX10_unhappy_5 : decode cX10_unhappy 5 = .ok (.aload_n 0, 1) := by decide +kernel
theorem dX10_unhappy_6 : decode cX10_unhappy 6 = .ok (.iload_n 1, 1) := by decide +kernel
